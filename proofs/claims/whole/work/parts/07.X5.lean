def F_X5_takeOver (N : Nat) (v : SV) (w : SV) : Option (SV) := cpk 6 6 (0 : Int32) (0 : Int32) (6 : Int32) (cpk 6 6 (0 : Int32) (0 : Int32) (6 : Int32) (cpk 6 6 (0 : Int32) (0 : Int32) (6 : Int32) (cpk 6 6 (0 : Int32) (0 : Int32) (6 : Int32) (cpk 6 6 (0 : Int32) (0 : Int32) (6 : Int32) (cpk 6 6 (0 : Int32) (0 : Int32) (6 : Int32) (cpk 6 6 (0 : Int32) (0 : Int32) (6 : Int32) (cpk 6 6 (0 : Int32) (0 : Int32) (6 : Int32) (some (upA (upA (upA (upA (upA (upA (upA (upA (up2 (up2 (up2 (up2 (up2 (up2 (up2 v 0 0 (w 0 0)) 0 1 (w 0 1)) 0 2 (w 0 2)) 0 3 (w 0 3)) 0 4 (w 0 4)) 0 5 (w 0 5)) 0 6 (w 0 6)) 1 (va_cpy (w 1) (v 1) ((0 : Int32).toNatClampNeg) ((0 : Int32).toNatClampNeg) ((6 : Int32).toNatClampNeg))) 2 (va_cpy (w 2) (v 2) ((0 : Int32).toNatClampNeg) ((0 : Int32).toNatClampNeg) ((6 : Int32).toNatClampNeg))) 3 (va_cpy (w 3) (v 3) ((0 : Int32).toNatClampNeg) ((0 : Int32).toNatClampNeg) ((6 : Int32).toNatClampNeg))) 4 (va_cpy (w 4) (v 4) ((0 : Int32).toNatClampNeg) ((0 : Int32).toNatClampNeg) ((6 : Int32).toNatClampNeg))) 5 (va_cpy (w 5) (v 5) ((0 : Int32).toNatClampNeg) ((0 : Int32).toNatClampNeg) ((6 : Int32).toNatClampNeg))) 6 (va_cpy (w 6) (v 6) ((0 : Int32).toNatClampNeg) ((0 : Int32).toNatClampNeg) ((6 : Int32).toNatClampNeg))) 7 (va_cpy (w 7) (v 7) ((0 : Int32).toNatClampNeg) ((0 : Int32).toNatClampNeg) ((6 : Int32).toNatClampNeg))) 8 (va_cpy (w 8) (v 8) ((0 : Int32).toNatClampNeg) ((0 : Int32).toNatClampNeg) ((6 : Int32).toNatClampNeg)))))))))))
def F_X5_wipe (N : Nat) (v : SV) : Option (SV) := some (up2 (up2 (up2 (up2 (up2 (up2 (up2 v 0 0 (0 : Int32)) 0 1 (0 : Int32)) 0 2 (0 : Int32)) 0 3 (0 : Int32)) 0 4 (0 : Int32)) 0 5 (0 : Int32)) 0 6 (0 : Int32))
def F_X5_putLast (N : Nat) (v : SV) (x1 : Int32) : Option (SV) := if (v 0 4) < (6 : Int32) then (chk 6 (v 0 4) (some (up2 (up2 v 8 ((v 0 4).toNatClampNeg) x1) 0 4 ((v 0 4) + (1 : Int32))))) else (some v)
def F_X5_addThing (N : Nat) (v : SV) (x1 : Int32) (x2 : Int32) (x3 : Int32) (x4 : Int32) : Option (SV) := if (v 0 2) < (6 : Int32) then (chk 6 (v 0 2) (chk 6 (v 0 2) (chk 6 (v 0 2) (chk 6 (v 0 2) ((F_X5_putLast N (up2 (up2 (up2 (up2 v 1 ((v 0 2).toNatClampNeg) x1) 2 ((v 0 2).toNatClampNeg) x2) 3 ((v 0 2).toNatClampNeg) x3) 4 ((v 0 2).toNatClampNeg) x4) (v 0 2)).bind (fun q56 => some (up2 q56 0 2 ((q56 0 2) + (1 : Int32))))))))) else (some v)
def F_X5_takeAnew (N : Nat) (v : SV) (x1 : Int32) (x2 : Int32) (x3 : Int32) : Option (SV) := chk 6 x1 (chk 6 x1 (chk 6 x1 (some (up2 (up2 (up2 v 5 (x1.toNatClampNeg) x2) 6 (x1.toNatClampNeg) x3) 7 (x1.toNatClampNeg) (0 : Int32)))))
def F_X5_addSeat (N : Nat) (v : SV) (x1 : Int32) (x2 : Int32) : Option (SV) := if (v 0 3) < (6 : Int32) then ((F_X5_takeAnew N v (v 0 3) x1 x2).bind (fun q17 => some (up2 q17 0 3 ((q17 0 3) + (1 : Int32))))) else (some v)
def F_X5_isThing (N : Nat) (v : SV) (x1 : Int32) : Option (Int32) := if x1 < (0 : Int32) then (some (0 : Int32)) else (if x1 < (v 0 2) then (some (1 : Int32)) else (some (0 : Int32)))
def F_X5_isSeat (N : Nat) (v : SV) (x1 : Int32) : Option (Int32) := if x1 < (0 : Int32) then (some (0 : Int32)) else (if x1 < (v 0 3) then (some (1 : Int32)) else (some (0 : Int32)))
def F_X5_placeOf_L2 (N : Nat) (v : SV) (x1 : Int32) : Nat → Int32 → Option (Int32)
  | 0, _ => none
  | n + 1, x2 => if x2 < (v 0 4) then (chk 6 x2 (if ((v 8) (x2.toNatClampNeg)) = x1 then (some x2) else (F_X5_placeOf_L2 N v x1 n (x2 + (1 : Int32))))) else (some (-1 : Int32))
def F_X5_placeOf (N : Nat) (v : SV) (x1 : Int32) : Option (Int32) := F_X5_placeOf_L2 N v x1 N (0 : Int32)
def F_X5_takeOff_L4 (N : Nat) (x1 : Int32) (K43 : Int32 → SV → Option (SV)) : Nat → Int32 → Int32 → SV → Option (SV)
  | 0, _, _, _ => none
  | n + 1, x2, x3, v => if x3 < (v 0 4) then (chk 6 x3 (jn (fun (x2_37 : Int32) (v_37 : SV) => F_X5_takeOff_L4 N x1 K43 n x2_37 (x3 + (1 : Int32)) v_37) (fun J37 => if ((v 8) (x3.toNatClampNeg)) = x1 then (J37 x2 v) else (chk 6 x3 (chk 6 x2 (J37 (x2 + (1 : Int32)) (up2 v 8 (x2.toNatClampNeg) ((v 8) (x3.toNatClampNeg))))))))) else (K43 x2 v)
def F_X5_takeOff (N : Nat) (v : SV) (x1 : Int32) : Option (SV) := F_X5_takeOff_L4 N x1 (fun (x2_43 : Int32) (v_43 : SV) => some (up2 v_43 0 4 x2_43)) N (0 : Int32) (0 : Int32) v
def F_X5_putFirst_L20 (N : Nat) (x1 : Int32) (K44 : SV → Option (SV)) : Nat → Int32 → SV → Option (SV)
  | 0, _, _ => none
  | n + 1, x2, v => if (0 : Int32) < x2 then (chk 6 (x2 - (1 : Int32)) (chk 6 x2 (F_X5_putFirst_L20 N x1 K44 n (x2 + (-1 : Int32)) (up2 v 8 (x2.toNatClampNeg) ((v 8) ((x2 - (1 : Int32)).toNatClampNeg)))))) else (K44 v)
def F_X5_putFirst (N : Nat) (v : SV) (x1 : Int32) : Option (SV) := (F_X5_takeOff N v x1).bind (fun q2 => if (q2 0 4) < (6 : Int32) then (F_X5_putFirst_L20 N x1 (fun (v_44 : SV) => chk 6 (0 : Int32) (some (up2 (up2 v_44 8 ((0 : Int32).toNatClampNeg) x1) 0 4 ((v_44 0 4) + (1 : Int32))))) N (q2 0 4) q2) else (some q2))
def F_X5_wanting_L4 (N : Nat) (v : SV) (x1 : Int32) : Nat → Int32 → Int32 → Option (Int32)
  | 0, _, _ => none
  | n + 1, x2, x3 => if x3 < (v 0 3) then (chk 6 x3 (jn (fun (x2_34 : Int32) => F_X5_wanting_L4 N v x1 n x2_34 (x3 + (1 : Int32))) (fun J34 => if ((v 7) (x3.toNatClampNeg)) = (0 : Int32) then (chk 6 x3 (if ((v 5) (x3.toNatClampNeg)) = x1 then (J34 (x2 + (1 : Int32))) else (J34 x2))) else (J34 x2)))) else (some x2)
def F_X5_wanting (N : Nat) (v : SV) (x1 : Int32) : Option (Int32) := F_X5_wanting_L4 N v x1 N (0 : Int32) (0 : Int32)
def F_X5_seatsThat_L4 (N : Nat) (v : SV) (x1 : Int32) : Nat → Int32 → Int32 → Option (Int32)
  | 0, _, _ => none
  | n + 1, x2, x3 => if x3 < (v 0 3) then (chk 6 x3 (jn (fun (x2_28 : Int32) => F_X5_seatsThat_L4 N v x1 n x2_28 (x3 + (1 : Int32))) (fun J28 => if ((v 7) (x3.toNatClampNeg)) = x1 then (J28 (x2 ||| ((1 : Int32) <<< (x3 &&& 31)))) else (J28 x2)))) else (some x2)
def F_X5_seatsThat (N : Nat) (v : SV) (x1 : Int32) : Option (Int32) := F_X5_seatsThat_L4 N v x1 N (0 : Int32) (0 : Int32)
def F_X5_standing (N : Nat) (v : SV) (x1 : Int32) : Option (Int32) := if x1 = (3 : Int32) then (some (v 0 6)) else ((F_X5_seatsThat N v x1).bind (fun q14 => some q14))
def F_X5_chosen_L7 (N : Nat) (v : SV) : Nat → Int32 → Int32 → Int32 → Option (Int32)
  | 0, _, _, _ => none
  | n + 1, x1, x2, x3 => if x3 < (v 0 4) then (chk 6 x3 (chk 6 ((v 8) (x3.toNatClampNeg)) ((F_X5_wanting N v ((v 2) (((v 8) (x3.toNatClampNeg)).toNatClampNeg))).bind (fun q27 => jn (fun (x1_48 : Int32) (x2_48 : Int32) => F_X5_chosen_L7 N v n x1_48 x2_48 (x3 + (1 : Int32))) (fun J48 => if x2 < q27 then (chk 6 x3 (J48 ((v 8) (x3.toNatClampNeg)) q27)) else (J48 x1 x2)))))) else (some x1)
def F_X5_chosen (N : Nat) (v : SV) : Option (Int32) := F_X5_chosen_L7 N v N (-1000000 : Int32) (-1 : Int32) (0 : Int32)
def F_X5_lendPatience_L2 (N : Nat)  : Nat → Int32 → SV → Option (SV)
  | 0, _, _ => none
  | n + 1, x1, v => if x1 < (v 0 3) then (chk 6 x1 (jn (fun (v_41 : SV) => F_X5_lendPatience_L2 N  n (x1 + (1 : Int32)) v_41) (fun J41 => if ((v 7) (x1.toNatClampNeg)) = (0 : Int32) then (chk 6 x1 (chk 6 x1 (J41 (up2 v 6 (x1.toNatClampNeg) (if (((v 6) (x1.toNatClampNeg)) + (v 0 1)) < (99 : Int32) then (((v 6) (x1.toNatClampNeg)) + (v 0 1)) else (99 : Int32)))))) else (J41 v)))) else (some v)
def F_X5_lendPatience (N : Nat) (v : SV) : Option (SV) := F_X5_lendPatience_L2 N N (0 : Int32) v
def F_X5_gladden_L30 (N : Nat) (x1 : Int32) (x2 : Int32) : Nat → Int32 → SV → Option (SV)
  | 0, _, _ => none
  | n + 1, x3, v => if x3 < (v 0 3) then (chk 6 x3 (jn (fun (v_102 : SV) => F_X5_gladden_L30 N x1 x2 n (x3 + (1 : Int32)) v_102) (fun J102 => if ((v 7) (x3.toNatClampNeg)) = (0 : Int32) then (chk 6 x3 (chk 6 x1 (if ((v 5) (x3.toNatClampNeg)) = ((v 2) (x1.toNatClampNeg)) then (chk 6 x3 (chk 6 x1 (if ((v 1) (x1.toNatClampNeg)) = (3 : Int32) then (J102 (up2 (up2 (up2 v 7 (x3.toNatClampNeg) (1 : Int32)) 0 8 ((v 0 8) ||| ((1 : Int32) <<< (x3 &&& 31)))) 0 9 ((v 0 9) + x2))) else (some (up2 (up2 (up2 v 7 (x3.toNatClampNeg) (1 : Int32)) 0 8 ((v 0 8) ||| ((1 : Int32) <<< (x3 &&& 31)))) 0 9 ((v 0 9) + x2)))))) else (J102 v)))) else (J102 v)))) else (some v)
def F_X5_gladden (N : Nat) (v : SV) (x1 : Int32) : Option (SV) := chk 6 x1 (jn (fun (s27_0 : Int32) => F_X5_gladden_L30 N x1 s27_0 N (0 : Int32) v) (fun J27 => if ((v 1) (x1.toNatClampNeg)) = (2 : Int32) then (chk 6 x1 (J27 ((2 : Int32) * ((v 4) (x1.toNatClampNeg))))) else (chk 6 x1 (J27 ((v 4) (x1.toNatClampNeg))))))
def F_X5_passTime_L2 (N : Nat)  (K55 : SV → Option (SV)) : Nat → Int32 → SV → Option (SV)
  | 0, _, _ => none
  | n + 1, x1, v => if x1 < (v 0 3) then (chk 6 x1 (jn (fun (v_49 : SV) => F_X5_passTime_L2 N K55 n (x1 + (1 : Int32)) v_49) (fun J49 => if ((v 7) (x1.toNatClampNeg)) = (0 : Int32) then (chk 6 x1 (chk 6 x1 (chk 6 x1 (jn (fun (s48_0 : Int32) => chk 6 x1 (J49 (up2 (up2 v 6 (x1.toNatClampNeg) (((v 6) (x1.toNatClampNeg)) - (1 : Int32))) 7 (x1.toNatClampNeg) s48_0))) (fun J48 => if (0 : Int32) < ((upd (v 6) (x1.toNatClampNeg) (((v 6) (x1.toNatClampNeg)) - (1 : Int32))) (x1.toNatClampNeg)) then (J48 (0 : Int32)) else (J48 (2 : Int32))))))) else (J49 v)))) else (K55 v)
def F_X5_passTime (N : Nat) (v : SV) : Option (SV) := F_X5_passTime_L2 N (fun (v_55 : SV) => some (up2 v_55 0 5 ((v_55 0 5) + (1 : Int32)))) N (0 : Int32) v
def F_X5_handUp (N : Nat) (v : SV) (x1 : Int32) : Option (SV) := (F_X5_takeOff N (up2 (up2 (up2 v 0 7 x1) 0 8 (0 : Int32)) 0 9 (0 : Int32)) x1).bind (fun q17 => chk 6 x1 (jn (fun (v_70 : SV) => (F_X5_passTime N (up2 v_70 0 6 ((v_70 0 6) + (v_70 0 9)))).bind (fun q84 => some q84)) (fun J70 => if ((q17 1) (x1.toNatClampNeg)) = (5 : Int32) then ((F_X5_putLast N q17 x1).bind (fun q34 => (F_X5_lendPatience N q34).bind (fun q38 => J70 q38))) else (jn (fun (u_65 : Unit) => (F_X5_gladden N q17 x1).bind (fun q67 => J70 q67)) (fun J65 => if ((q17 1) (x1.toNatClampNeg)) = (4 : Int32) then ((F_X5_seatsThat N q17 (1 : Int32)).bind (fun q51 => if q51 = (0 : Int32) then ((F_X5_putLast N q17 x1).bind (fun q59 => J70 q59)) else (J65 ()))) else (J65 ()))))))
def F_X5_tapOnce (N : Nat) (v : SV) : Option (SV) := (F_X5_chosen N v).bind (fun q1 => (F_X5_isThing N v q1).bind (fun q7 => if q7 = (0 : Int32) then ((F_X5_passTime N (up2 (up2 (up2 v 0 7 (-1000000 : Int32)) 0 8 (0 : Int32)) 0 9 (0 : Int32))).bind (fun q38 => some q38)) else ((F_X5_handUp N v q1).bind (fun q15 => some q15))))
def F_X5_tapWhileOneWaits_L2 (N : Nat) (x1 : Int32) : Nat → Int32 → SV → Option (SV)
  | 0, _, _ => none
  | n + 1, x2, v => if x2 < x1 then ((F_X5_seatsThat N v (0 : Int32)).bind (fun q9 => if q9 = (0 : Int32) then (some v) else ((F_X5_tapOnce N v).bind (fun q16 => F_X5_tapWhileOneWaits_L2 N x1 n (x2 + (1 : Int32)) q16)))) else (some v)
def F_X5_tapWhileOneWaits (N : Nat) (v : SV) (x1 : Int32) : Option (SV) := F_X5_tapWhileOneWaits_L2 N x1 N (0 : Int32) v
def F_X5_sumOver_w_L5 (N : Nat) (v : SV) (x1 : Int32) : Nat → Int32 → Int32 → Option (Int32)
  | 0, _, _ => none
  | n + 1, x3, x4 => if x4 < (v 0 2) then (if x4 < (6 : Int32) then (jn (fun (x3_38 : Int32) => F_X5_sumOver_w_L5 N v x1 n x3_38 (x4 + (1 : Int32))) (fun J38 => if ((x1 >>> (x4 &&& 31)) &&& (1 : Int32)) = (1 : Int32) then (chk 6 x4 (J38 (x3 + ((v 3) (x4.toNatClampNeg))))) else (J38 x3))) else (some x3)) else (some x3)
def F_X5_sumOver_w (N : Nat) (v : SV) (x1 : Int32) : Option (Int32) := F_X5_sumOver_w_L5 N v x1 N (0 : Int32) (0 : Int32)
def F_X5_sumOver_j_L5 (N : Nat) (v : SV) (x1 : Int32) : Nat → Int32 → Int32 → Option (Int32)
  | 0, _, _ => none
  | n + 1, x3, x4 => if x4 < (v 0 2) then (if x4 < (6 : Int32) then (jn (fun (x3_38 : Int32) => F_X5_sumOver_j_L5 N v x1 n x3_38 (x4 + (1 : Int32))) (fun J38 => if ((x1 >>> (x4 &&& 31)) &&& (1 : Int32)) = (1 : Int32) then (chk 6 x4 (J38 (x3 + ((v 4) (x4.toNatClampNeg))))) else (J38 x3))) else (some x3)) else (some x3)
def F_X5_sumOver_j (N : Nat) (v : SV) (x1 : Int32) : Option (Int32) := F_X5_sumOver_j_L5 N v x1 N (0 : Int32) (0 : Int32)
def F_X5_listed_L5 (N : Nat) (v : SV) (x1 : Int32) (x2 : Int32) : Nat → Int32 → Int32 → Option (Int32)
  | 0, _, _ => none
  | n + 1, x3, x4 => if x4 < (v 0 4) then (chk 6 x4 (chk 6 ((v 8) (x4.toNatClampNeg)) (jn (fun (x3_49 : Int32) => F_X5_listed_L5 N v x1 x2 n x3_49 (x4 + (1 : Int32))) (fun J49 => if ((v 2) (((v 8) (x4.toNatClampNeg)).toNatClampNeg)) = x1 then (chk 6 x4 (chk 6 ((v 8) (x4.toNatClampNeg)) (if ((v 1) (((v 8) (x4.toNatClampNeg)).toNatClampNeg)) = x2 then (J49 (x3 + (1 : Int32))) else (J49 x3)))) else (J49 x3))))) else (some x3)
def F_X5_listed (N : Nat) (v : SV) (x1 : Int32) (x2 : Int32) : Option (Int32) := F_X5_listed_L5 N v x1 x2 N (0 : Int32) (0 : Int32)
def F_X5_givenOf_L4 (N : Nat) (v : SV) (x1 : Int32) : Nat → Int32 → Int32 → Option (Int32)
  | 0, _, _ => none
  | n + 1, x2, x3 => if x3 < (5 : Int32) then ((F_X5_listed N v x1 x3).bind (fun q13 => F_X5_givenOf_L4 N v x1 n (x2 + q13) (x3 + (1 : Int32)))) else (some x2)
def F_X5_givenOf (N : Nat) (v : SV) (x1 : Int32) : Option (Int32) := F_X5_givenOf_L4 N v x1 N (0 : Int32) (1 : Int32)
def F_X5_couldBePleased_L4 (N : Nat) (v : SV) : Nat → Int32 → Int32 → Option (Int32)
  | 0, _, _ => none
  | n + 1, x1, x2 => if (9 : Int32) < x2 then (some x1) else ((F_X5_wanting N v x2).bind (fun q12 => (F_X5_listed N v x2 (3 : Int32)).bind (fun q19 => jn (fun (x3_35 : Int32) => F_X5_couldBePleased_L4 N v n (x1 + x3_35) (x2 + (1 : Int32))) (fun J35 => if q19 = (0 : Int32) then ((F_X5_givenOf N v x2).bind (fun q28 => J35 (if q28 < q12 then q28 else q12))) else (J35 q12)))))
def F_X5_couldBePleased (N : Nat) (v : SV) : Option (Int32) := F_X5_couldBePleased_L4 N v N (0 : Int32) (0 : Int32)
def F_X5_lackedLabels_L4 (N : Nat) (v : SV) : Nat → Int32 → Int32 → Option (Int32)
  | 0, _, _ => none
  | n + 1, x1, x2 => if (9 : Int32) < x2 then (some x1) else ((F_X5_wanting N v x2).bind (fun q12 => jn (fun (x1_32 : Int32) => F_X5_lackedLabels_L4 N v n x1_32 (x2 + (1 : Int32))) (fun J32 => if (0 : Int32) < q12 then ((F_X5_givenOf N v x2).bind (fun q20 => if q20 = (0 : Int32) then (J32 (x1 ||| ((1 : Int32) <<< (x2 &&& 31)))) else (J32 x1))) else (J32 x1))))
def F_X5_lackedLabels (N : Nat) (v : SV) : Option (Int32) := F_X5_lackedLabels_L4 N v N (0 : Int32) (0 : Int32)
set_option maxHeartbeats 2000000 in
set_option maxRecDepth 20000 in
theorem c_X5_takeOver {t : Nat → ClassId} {a : Nat → Nat} {b : Nat → Nat} {N : Nat} {v : SV} {w : SV} {r : SV} (h : F_X5_takeOver N v w = some r) : CV t yX5_takeOver cX5_takeOver 2 none (rm 1) [.ref (a 0), .ref (b 0)] [wStage t a v, wStage t b w] [wStage t a r, wStage t b w] := by
  refine CV.of (own := RX5) (by decide) rfl (Nat.le_of_ble_eq_true rfl) (fun X C hR0 => ?_)
  have hR : ∀ q : SV, q = r → RetV X cX5_takeOver [wStage t a q, wStage t b w] := by intro q e; subst e; exact hR0
  show G X [wStage t a v, wStage t b w] 0 [(0, .ref (a 0)), (1, .ref (b 0))] []
  unfold F_X5_takeOver at h
  refine G.aload_n C dX5_takeOver_0 0 rfl ?_
  refine G.aload_n C dX5_takeOver_1 1 rfl ?_
  refine gfX5_36 (i := 1) (j := 0) (v := .int (w 0 0)) C rfl rfl rfl dX5_takeOver_2 ?_
  refine pfX5_36 (i := 0) (j := 0) (cs' := [wStage t a (up2 v 0 0 (w 0 0)), wStage t b w]) C rfl rfl (Nat.le_of_ble_eq_true rfl) dX5_takeOver_5 (suStage_0) rfl ?_
  refine G.aload_n C dX5_takeOver_8 0 rfl ?_
  refine G.aload_n C dX5_takeOver_9 1 rfl ?_
  refine gfX5_40 (i := 1) (j := 0) (v := .int (w 0 1)) C rfl rfl rfl dX5_takeOver_10 ?_
  refine pfX5_40 (i := 0) (j := 0) (cs' := [wStage t a (up2 (up2 v 0 0 (w 0 0)) 0 1 (w 0 1)), wStage t b w]) C rfl rfl (Nat.le_of_ble_eq_true rfl) dX5_takeOver_13 (suStage_1) rfl ?_
  refine G.aload_n C dX5_takeOver_16 0 rfl ?_
  refine G.aload_n C dX5_takeOver_17 1 rfl ?_
  refine gfX5_43 (i := 1) (j := 0) (v := .int (w 0 2)) C rfl rfl rfl dX5_takeOver_18 ?_
  refine pfX5_43 (i := 0) (j := 0) (cs' := [wStage t a (up2 (up2 (up2 v 0 0 (w 0 0)) 0 1 (w 0 1)) 0 2 (w 0 2)), wStage t b w]) C rfl rfl (Nat.le_of_ble_eq_true rfl) dX5_takeOver_21 (suStage_2) rfl ?_
  refine G.aload_n C dX5_takeOver_24 0 rfl ?_
  refine G.aload_n C dX5_takeOver_25 1 rfl ?_
  refine gfX5_46 (i := 1) (j := 0) (v := .int (w 0 3)) C rfl rfl rfl dX5_takeOver_26 ?_
  refine pfX5_46 (i := 0) (j := 0) (cs' := [wStage t a (up2 (up2 (up2 (up2 v 0 0 (w 0 0)) 0 1 (w 0 1)) 0 2 (w 0 2)) 0 3 (w 0 3)), wStage t b w]) C rfl rfl (Nat.le_of_ble_eq_true rfl) dX5_takeOver_29 (suStage_3) rfl ?_
  refine G.aload_n C dX5_takeOver_32 0 rfl ?_
  refine G.aload_n C dX5_takeOver_33 1 rfl ?_
  refine gfX5_49 (i := 1) (j := 0) (v := .int (w 0 4)) C rfl rfl rfl dX5_takeOver_34 ?_
  refine pfX5_49 (i := 0) (j := 0) (cs' := [wStage t a (up2 (up2 (up2 (up2 (up2 v 0 0 (w 0 0)) 0 1 (w 0 1)) 0 2 (w 0 2)) 0 3 (w 0 3)) 0 4 (w 0 4)), wStage t b w]) C rfl rfl (Nat.le_of_ble_eq_true rfl) dX5_takeOver_37 (suStage_4) rfl ?_
  refine G.aload_n C dX5_takeOver_40 0 rfl ?_
  refine G.aload_n C dX5_takeOver_41 1 rfl ?_
  refine gfX5_52 (i := 1) (j := 0) (v := .int (w 0 5)) C rfl rfl rfl dX5_takeOver_42 ?_
  refine pfX5_52 (i := 0) (j := 0) (cs' := [wStage t a (up2 (up2 (up2 (up2 (up2 (up2 v 0 0 (w 0 0)) 0 1 (w 0 1)) 0 2 (w 0 2)) 0 3 (w 0 3)) 0 4 (w 0 4)) 0 5 (w 0 5)), wStage t b w]) C rfl rfl (Nat.le_of_ble_eq_true rfl) dX5_takeOver_45 (suStage_5) rfl ?_
  refine G.aload_n C dX5_takeOver_48 0 rfl ?_
  refine G.aload_n C dX5_takeOver_49 1 rfl ?_
  refine gfX5_55 (i := 1) (j := 0) (v := .int (w 0 6)) C rfl rfl rfl dX5_takeOver_50 ?_
  refine pfX5_55 (i := 0) (j := 0) (cs' := [wStage t a (up2 (up2 (up2 (up2 (up2 (up2 (up2 v 0 0 (w 0 0)) 0 1 (w 0 1)) 0 2 (w 0 2)) 0 3 (w 0 3)) 0 4 (w 0 4)) 0 5 (w 0 5)) 0 6 (w 0 6)), wStage t b w]) C rfl rfl (Nat.le_of_ble_eq_true rfl) dX5_takeOver_53 (suStage_6) rfl ?_
  refine G.aload_n C dX5_takeOver_56 1 rfl ?_
  refine gfX5_11 (i := 1) (j := 0) (v := .ref (b 1)) C rfl rfl rfl dX5_takeOver_57 ?_
  refine G.iconst C dX5_takeOver_60 ni_0 ?_
  refine G.aload_n C dX5_takeOver_61 0 rfl ?_
  refine gfX5_11 (i := 0) (j := 0) (v := .ref (a 1)) C rfl rfl rfl dX5_takeOver_62 ?_
  refine G.iconst C dX5_takeOver_65 ni_0 ?_
  refine G.bipush C dX5_takeOver_66 nb_6 ?_
  refine G.copy (i0 := 1) (j0 := 1) (i1 := 0) (j1 := 1) (f := (w 1)) (g := (v 1)) (cs' := [wStage t a (upA (up2 (up2 (up2 (up2 (up2 (up2 (up2 v 0 0 (w 0 0)) 0 1 (w 0 1)) 0 2 (w 0 2)) 0 3 (w 0 3)) 0 4 (w 0 4)) 0 5 (w 0 5)) 0 6 (w 0 6)) 1 (va_cpy (w 1) (v 1) ((0 : Int32).toNatClampNeg) ((0 : Int32).toNatClampNeg) ((6 : Int32).toNatClampNeg))), wStage t b w]) C k_600 k_417 k_416 k_85 (by decide) (Nat.le_of_ble_eq_true rfl) rfl rfl rfl rfl h dX5_takeOver_68 (suStageC_1) rfl (fun h => ?_)
  refine G.aload_n C dX5_takeOver_71 1 rfl ?_
  refine gfX5_15 (i := 1) (j := 0) (v := .ref (b 2)) C rfl rfl rfl dX5_takeOver_72 ?_
  refine G.iconst C dX5_takeOver_75 ni_0 ?_
  refine G.aload_n C dX5_takeOver_76 0 rfl ?_
  refine gfX5_15 (i := 0) (j := 0) (v := .ref (a 2)) C rfl rfl rfl dX5_takeOver_77 ?_
  refine G.iconst C dX5_takeOver_80 ni_0 ?_
  refine G.bipush C dX5_takeOver_81 nb_6 ?_
  refine G.copy (i0 := 1) (j0 := 2) (i1 := 0) (j1 := 2) (f := (w 2)) (g := (v 2)) (cs' := [wStage t a (upA (upA (up2 (up2 (up2 (up2 (up2 (up2 (up2 v 0 0 (w 0 0)) 0 1 (w 0 1)) 0 2 (w 0 2)) 0 3 (w 0 3)) 0 4 (w 0 4)) 0 5 (w 0 5)) 0 6 (w 0 6)) 1 (va_cpy (w 1) (v 1) ((0 : Int32).toNatClampNeg) ((0 : Int32).toNatClampNeg) ((6 : Int32).toNatClampNeg))) 2 (va_cpy (w 2) (v 2) ((0 : Int32).toNatClampNeg) ((0 : Int32).toNatClampNeg) ((6 : Int32).toNatClampNeg))), wStage t b w]) C k_600 k_417 k_416 k_85 (by decide) (Nat.le_of_ble_eq_true rfl) rfl rfl rfl rfl h dX5_takeOver_83 (suStageC_2) rfl (fun h => ?_)
  refine G.aload_n C dX5_takeOver_86 1 rfl ?_
  refine gfX5_18 (i := 1) (j := 0) (v := .ref (b 3)) C rfl rfl rfl dX5_takeOver_87 ?_
  refine G.iconst C dX5_takeOver_90 ni_0 ?_
  refine G.aload_n C dX5_takeOver_91 0 rfl ?_
  refine gfX5_18 (i := 0) (j := 0) (v := .ref (a 3)) C rfl rfl rfl dX5_takeOver_92 ?_
  refine G.iconst C dX5_takeOver_95 ni_0 ?_
  refine G.bipush C dX5_takeOver_96 nb_6 ?_
  refine G.copy (i0 := 1) (j0 := 3) (i1 := 0) (j1 := 3) (f := (w 3)) (g := (v 3)) (cs' := [wStage t a (upA (upA (upA (up2 (up2 (up2 (up2 (up2 (up2 (up2 v 0 0 (w 0 0)) 0 1 (w 0 1)) 0 2 (w 0 2)) 0 3 (w 0 3)) 0 4 (w 0 4)) 0 5 (w 0 5)) 0 6 (w 0 6)) 1 (va_cpy (w 1) (v 1) ((0 : Int32).toNatClampNeg) ((0 : Int32).toNatClampNeg) ((6 : Int32).toNatClampNeg))) 2 (va_cpy (w 2) (v 2) ((0 : Int32).toNatClampNeg) ((0 : Int32).toNatClampNeg) ((6 : Int32).toNatClampNeg))) 3 (va_cpy (w 3) (v 3) ((0 : Int32).toNatClampNeg) ((0 : Int32).toNatClampNeg) ((6 : Int32).toNatClampNeg))), wStage t b w]) C k_600 k_417 k_416 k_85 (by decide) (Nat.le_of_ble_eq_true rfl) rfl rfl rfl rfl h dX5_takeOver_98 (suStageC_3) rfl (fun h => ?_)
  refine G.aload_n C dX5_takeOver_101 1 rfl ?_
  refine gfX5_21 (i := 1) (j := 0) (v := .ref (b 4)) C rfl rfl rfl dX5_takeOver_102 ?_
  refine G.iconst C dX5_takeOver_105 ni_0 ?_
  refine G.aload_n C dX5_takeOver_106 0 rfl ?_
  refine gfX5_21 (i := 0) (j := 0) (v := .ref (a 4)) C rfl rfl rfl dX5_takeOver_107 ?_
  refine G.iconst C dX5_takeOver_110 ni_0 ?_
  refine G.bipush C dX5_takeOver_111 nb_6 ?_
  refine G.copy (i0 := 1) (j0 := 4) (i1 := 0) (j1 := 4) (f := (w 4)) (g := (v 4)) (cs' := [wStage t a (upA (upA (upA (upA (up2 (up2 (up2 (up2 (up2 (up2 (up2 v 0 0 (w 0 0)) 0 1 (w 0 1)) 0 2 (w 0 2)) 0 3 (w 0 3)) 0 4 (w 0 4)) 0 5 (w 0 5)) 0 6 (w 0 6)) 1 (va_cpy (w 1) (v 1) ((0 : Int32).toNatClampNeg) ((0 : Int32).toNatClampNeg) ((6 : Int32).toNatClampNeg))) 2 (va_cpy (w 2) (v 2) ((0 : Int32).toNatClampNeg) ((0 : Int32).toNatClampNeg) ((6 : Int32).toNatClampNeg))) 3 (va_cpy (w 3) (v 3) ((0 : Int32).toNatClampNeg) ((0 : Int32).toNatClampNeg) ((6 : Int32).toNatClampNeg))) 4 (va_cpy (w 4) (v 4) ((0 : Int32).toNatClampNeg) ((0 : Int32).toNatClampNeg) ((6 : Int32).toNatClampNeg))), wStage t b w]) C k_600 k_417 k_416 k_85 (by decide) (Nat.le_of_ble_eq_true rfl) rfl rfl rfl rfl h dX5_takeOver_113 (suStageC_4) rfl (fun h => ?_)
  refine G.aload_n C dX5_takeOver_116 1 rfl ?_
  refine gfX5_24 (i := 1) (j := 0) (v := .ref (b 5)) C rfl rfl rfl dX5_takeOver_117 ?_
  refine G.iconst C dX5_takeOver_120 ni_0 ?_
  refine G.aload_n C dX5_takeOver_121 0 rfl ?_
  refine gfX5_24 (i := 0) (j := 0) (v := .ref (a 5)) C rfl rfl rfl dX5_takeOver_122 ?_
  refine G.iconst C dX5_takeOver_125 ni_0 ?_
  refine G.bipush C dX5_takeOver_126 nb_6 ?_
  refine G.copy (i0 := 1) (j0 := 5) (i1 := 0) (j1 := 5) (f := (w 5)) (g := (v 5)) (cs' := [wStage t a (upA (upA (upA (upA (upA (up2 (up2 (up2 (up2 (up2 (up2 (up2 v 0 0 (w 0 0)) 0 1 (w 0 1)) 0 2 (w 0 2)) 0 3 (w 0 3)) 0 4 (w 0 4)) 0 5 (w 0 5)) 0 6 (w 0 6)) 1 (va_cpy (w 1) (v 1) ((0 : Int32).toNatClampNeg) ((0 : Int32).toNatClampNeg) ((6 : Int32).toNatClampNeg))) 2 (va_cpy (w 2) (v 2) ((0 : Int32).toNatClampNeg) ((0 : Int32).toNatClampNeg) ((6 : Int32).toNatClampNeg))) 3 (va_cpy (w 3) (v 3) ((0 : Int32).toNatClampNeg) ((0 : Int32).toNatClampNeg) ((6 : Int32).toNatClampNeg))) 4 (va_cpy (w 4) (v 4) ((0 : Int32).toNatClampNeg) ((0 : Int32).toNatClampNeg) ((6 : Int32).toNatClampNeg))) 5 (va_cpy (w 5) (v 5) ((0 : Int32).toNatClampNeg) ((0 : Int32).toNatClampNeg) ((6 : Int32).toNatClampNeg))), wStage t b w]) C k_600 k_417 k_416 k_85 (by decide) (Nat.le_of_ble_eq_true rfl) rfl rfl rfl rfl h dX5_takeOver_128 (suStageC_5) rfl (fun h => ?_)
  refine G.aload_n C dX5_takeOver_131 1 rfl ?_
  refine gfX5_27 (i := 1) (j := 0) (v := .ref (b 6)) C rfl rfl rfl dX5_takeOver_132 ?_
  refine G.iconst C dX5_takeOver_135 ni_0 ?_
  refine G.aload_n C dX5_takeOver_136 0 rfl ?_
  refine gfX5_27 (i := 0) (j := 0) (v := .ref (a 6)) C rfl rfl rfl dX5_takeOver_137 ?_
  refine G.iconst C dX5_takeOver_140 ni_0 ?_
  refine G.bipush C dX5_takeOver_141 nb_6 ?_
  refine G.copy (i0 := 1) (j0 := 6) (i1 := 0) (j1 := 6) (f := (w 6)) (g := (v 6)) (cs' := [wStage t a (upA (upA (upA (upA (upA (upA (up2 (up2 (up2 (up2 (up2 (up2 (up2 v 0 0 (w 0 0)) 0 1 (w 0 1)) 0 2 (w 0 2)) 0 3 (w 0 3)) 0 4 (w 0 4)) 0 5 (w 0 5)) 0 6 (w 0 6)) 1 (va_cpy (w 1) (v 1) ((0 : Int32).toNatClampNeg) ((0 : Int32).toNatClampNeg) ((6 : Int32).toNatClampNeg))) 2 (va_cpy (w 2) (v 2) ((0 : Int32).toNatClampNeg) ((0 : Int32).toNatClampNeg) ((6 : Int32).toNatClampNeg))) 3 (va_cpy (w 3) (v 3) ((0 : Int32).toNatClampNeg) ((0 : Int32).toNatClampNeg) ((6 : Int32).toNatClampNeg))) 4 (va_cpy (w 4) (v 4) ((0 : Int32).toNatClampNeg) ((0 : Int32).toNatClampNeg) ((6 : Int32).toNatClampNeg))) 5 (va_cpy (w 5) (v 5) ((0 : Int32).toNatClampNeg) ((0 : Int32).toNatClampNeg) ((6 : Int32).toNatClampNeg))) 6 (va_cpy (w 6) (v 6) ((0 : Int32).toNatClampNeg) ((0 : Int32).toNatClampNeg) ((6 : Int32).toNatClampNeg))), wStage t b w]) C k_600 k_417 k_416 k_85 (by decide) (Nat.le_of_ble_eq_true rfl) rfl rfl rfl rfl h dX5_takeOver_143 (suStageC_6) rfl (fun h => ?_)
  refine G.aload_n C dX5_takeOver_146 1 rfl ?_
  refine gfX5_30 (i := 1) (j := 0) (v := .ref (b 7)) C rfl rfl rfl dX5_takeOver_147 ?_
  refine G.iconst C dX5_takeOver_150 ni_0 ?_
  refine G.aload_n C dX5_takeOver_151 0 rfl ?_
  refine gfX5_30 (i := 0) (j := 0) (v := .ref (a 7)) C rfl rfl rfl dX5_takeOver_152 ?_
  refine G.iconst C dX5_takeOver_155 ni_0 ?_
  refine G.bipush C dX5_takeOver_156 nb_6 ?_
  refine G.copy (i0 := 1) (j0 := 7) (i1 := 0) (j1 := 7) (f := (w 7)) (g := (v 7)) (cs' := [wStage t a (upA (upA (upA (upA (upA (upA (upA (up2 (up2 (up2 (up2 (up2 (up2 (up2 v 0 0 (w 0 0)) 0 1 (w 0 1)) 0 2 (w 0 2)) 0 3 (w 0 3)) 0 4 (w 0 4)) 0 5 (w 0 5)) 0 6 (w 0 6)) 1 (va_cpy (w 1) (v 1) ((0 : Int32).toNatClampNeg) ((0 : Int32).toNatClampNeg) ((6 : Int32).toNatClampNeg))) 2 (va_cpy (w 2) (v 2) ((0 : Int32).toNatClampNeg) ((0 : Int32).toNatClampNeg) ((6 : Int32).toNatClampNeg))) 3 (va_cpy (w 3) (v 3) ((0 : Int32).toNatClampNeg) ((0 : Int32).toNatClampNeg) ((6 : Int32).toNatClampNeg))) 4 (va_cpy (w 4) (v 4) ((0 : Int32).toNatClampNeg) ((0 : Int32).toNatClampNeg) ((6 : Int32).toNatClampNeg))) 5 (va_cpy (w 5) (v 5) ((0 : Int32).toNatClampNeg) ((0 : Int32).toNatClampNeg) ((6 : Int32).toNatClampNeg))) 6 (va_cpy (w 6) (v 6) ((0 : Int32).toNatClampNeg) ((0 : Int32).toNatClampNeg) ((6 : Int32).toNatClampNeg))) 7 (va_cpy (w 7) (v 7) ((0 : Int32).toNatClampNeg) ((0 : Int32).toNatClampNeg) ((6 : Int32).toNatClampNeg))), wStage t b w]) C k_600 k_417 k_416 k_85 (by decide) (Nat.le_of_ble_eq_true rfl) rfl rfl rfl rfl h dX5_takeOver_158 (suStageC_7) rfl (fun h => ?_)
  refine G.aload_n C dX5_takeOver_161 1 rfl ?_
  refine gfX5_33 (i := 1) (j := 0) (v := .ref (b 8)) C rfl rfl rfl dX5_takeOver_162 ?_
  refine G.iconst C dX5_takeOver_165 ni_0 ?_
  refine G.aload_n C dX5_takeOver_166 0 rfl ?_
  refine gfX5_33 (i := 0) (j := 0) (v := .ref (a 8)) C rfl rfl rfl dX5_takeOver_167 ?_
  refine G.iconst C dX5_takeOver_170 ni_0 ?_
  refine G.bipush C dX5_takeOver_171 nb_6 ?_
  refine G.copy (i0 := 1) (j0 := 8) (i1 := 0) (j1 := 8) (f := (w 8)) (g := (v 8)) (cs' := [wStage t a (upA (upA (upA (upA (upA (upA (upA (upA (up2 (up2 (up2 (up2 (up2 (up2 (up2 v 0 0 (w 0 0)) 0 1 (w 0 1)) 0 2 (w 0 2)) 0 3 (w 0 3)) 0 4 (w 0 4)) 0 5 (w 0 5)) 0 6 (w 0 6)) 1 (va_cpy (w 1) (v 1) ((0 : Int32).toNatClampNeg) ((0 : Int32).toNatClampNeg) ((6 : Int32).toNatClampNeg))) 2 (va_cpy (w 2) (v 2) ((0 : Int32).toNatClampNeg) ((0 : Int32).toNatClampNeg) ((6 : Int32).toNatClampNeg))) 3 (va_cpy (w 3) (v 3) ((0 : Int32).toNatClampNeg) ((0 : Int32).toNatClampNeg) ((6 : Int32).toNatClampNeg))) 4 (va_cpy (w 4) (v 4) ((0 : Int32).toNatClampNeg) ((0 : Int32).toNatClampNeg) ((6 : Int32).toNatClampNeg))) 5 (va_cpy (w 5) (v 5) ((0 : Int32).toNatClampNeg) ((0 : Int32).toNatClampNeg) ((6 : Int32).toNatClampNeg))) 6 (va_cpy (w 6) (v 6) ((0 : Int32).toNatClampNeg) ((0 : Int32).toNatClampNeg) ((6 : Int32).toNatClampNeg))) 7 (va_cpy (w 7) (v 7) ((0 : Int32).toNatClampNeg) ((0 : Int32).toNatClampNeg) ((6 : Int32).toNatClampNeg))) 8 (va_cpy (w 8) (v 8) ((0 : Int32).toNatClampNeg) ((0 : Int32).toNatClampNeg) ((6 : Int32).toNatClampNeg))), wStage t b w]) C k_600 k_417 k_416 k_85 (by decide) (Nat.le_of_ble_eq_true rfl) rfl rfl rfl rfl h dX5_takeOver_173 (suStageC_8) rfl (fun h => ?_)
  exact hR _ (Option.some.inj h) _ _ dX5_takeOver_176
set_option maxHeartbeats 2000000 in
set_option maxRecDepth 20000 in
theorem c_X5_wipe {t : Nat → ClassId} {a : Nat → Nat} {N : Nat} {v : SV} {r : SV} (h : F_X5_wipe N v = some r) : CV t yX5_wipe cX5_wipe 1 none (rm 1) [.ref (a 0)] [wStage t a v] [wStage t a r] := by
  refine CV.of (own := RX5) (by decide) rfl (Nat.le_of_ble_eq_true rfl) (fun X C hR0 => ?_)
  have hR : ∀ q : SV, q = r → RetV X cX5_wipe [wStage t a q] := by intro q e; subst e; exact hR0
  show G X [wStage t a v] 0 [(0, .ref (a 0))] []
  unfold F_X5_wipe at h
  refine G.aload_n C dX5_wipe_0 0 rfl ?_
  refine G.iconst C dX5_wipe_1 ni_0 ?_
  refine pfX5_36 (i := 0) (j := 0) (cs' := [wStage t a (up2 v 0 0 (0 : Int32))]) C rfl rfl (Nat.le_of_ble_eq_true rfl) dX5_wipe_2 (suStage_0) rfl ?_
  refine G.aload_n C dX5_wipe_5 0 rfl ?_
  refine G.iconst C dX5_wipe_6 ni_0 ?_
  refine pfX5_40 (i := 0) (j := 0) (cs' := [wStage t a (up2 (up2 v 0 0 (0 : Int32)) 0 1 (0 : Int32))]) C rfl rfl (Nat.le_of_ble_eq_true rfl) dX5_wipe_7 (suStage_1) rfl ?_
  refine G.aload_n C dX5_wipe_10 0 rfl ?_
  refine G.iconst C dX5_wipe_11 ni_0 ?_
  refine pfX5_43 (i := 0) (j := 0) (cs' := [wStage t a (up2 (up2 (up2 v 0 0 (0 : Int32)) 0 1 (0 : Int32)) 0 2 (0 : Int32))]) C rfl rfl (Nat.le_of_ble_eq_true rfl) dX5_wipe_12 (suStage_2) rfl ?_
  refine G.aload_n C dX5_wipe_15 0 rfl ?_
  refine G.iconst C dX5_wipe_16 ni_0 ?_
  refine pfX5_46 (i := 0) (j := 0) (cs' := [wStage t a (up2 (up2 (up2 (up2 v 0 0 (0 : Int32)) 0 1 (0 : Int32)) 0 2 (0 : Int32)) 0 3 (0 : Int32))]) C rfl rfl (Nat.le_of_ble_eq_true rfl) dX5_wipe_17 (suStage_3) rfl ?_
  refine G.aload_n C dX5_wipe_20 0 rfl ?_
  refine G.iconst C dX5_wipe_21 ni_0 ?_
  refine pfX5_49 (i := 0) (j := 0) (cs' := [wStage t a (up2 (up2 (up2 (up2 (up2 v 0 0 (0 : Int32)) 0 1 (0 : Int32)) 0 2 (0 : Int32)) 0 3 (0 : Int32)) 0 4 (0 : Int32))]) C rfl rfl (Nat.le_of_ble_eq_true rfl) dX5_wipe_22 (suStage_4) rfl ?_
  refine G.aload_n C dX5_wipe_25 0 rfl ?_
  refine G.iconst C dX5_wipe_26 ni_0 ?_
  refine pfX5_52 (i := 0) (j := 0) (cs' := [wStage t a (up2 (up2 (up2 (up2 (up2 (up2 v 0 0 (0 : Int32)) 0 1 (0 : Int32)) 0 2 (0 : Int32)) 0 3 (0 : Int32)) 0 4 (0 : Int32)) 0 5 (0 : Int32))]) C rfl rfl (Nat.le_of_ble_eq_true rfl) dX5_wipe_27 (suStage_5) rfl ?_
  refine G.aload_n C dX5_wipe_30 0 rfl ?_
  refine G.iconst C dX5_wipe_31 ni_0 ?_
  refine pfX5_55 (i := 0) (j := 0) (cs' := [wStage t a (up2 (up2 (up2 (up2 (up2 (up2 (up2 v 0 0 (0 : Int32)) 0 1 (0 : Int32)) 0 2 (0 : Int32)) 0 3 (0 : Int32)) 0 4 (0 : Int32)) 0 5 (0 : Int32)) 0 6 (0 : Int32))]) C rfl rfl (Nat.le_of_ble_eq_true rfl) dX5_wipe_32 (suStage_6) rfl ?_
  exact hR _ (Option.some.inj h) _ _ dX5_wipe_35
set_option maxHeartbeats 2000000 in
set_option maxRecDepth 20000 in
theorem c_X5_putLast {t : Nat → ClassId} {a : Nat → Nat} {N : Nat} {v : SV} {x1 : Int32} {r : SV} (h : F_X5_putLast N v x1 = some r) : CV t yX5_putLast cX5_putLast 2 none (rm 1) [.ref (a 0), .int x1] [wStage t a v] [wStage t a r] := by
  refine CV.of (own := RX5) (by decide) rfl (Nat.le_of_ble_eq_true rfl) (fun X C hR0 => ?_)
  have hR : ∀ q : SV, q = r → RetV X cX5_putLast [wStage t a q] := by intro q e; subst e; exact hR0
  show G X [wStage t a v] 0 [(0, .ref (a 0)), (1, .int x1)] []
  unfold F_X5_putLast at h
  refine G.aload_n C dX5_putLast_0 0 rfl ?_
  refine gfX5_49 (i := 0) (j := 0) (v := .int (v 0 4)) C rfl rfl rfl dX5_putLast_1 ?_
  refine G.bipush C dX5_putLast_4 nb_6 ?_
  refine G.icmp_ge (tgt := 29) C dX5_putLast_6 (by decide) h (fun h => ?_) (fun h => ?_)
  · exact hR _ (Option.some.inj h) _ _ dX5_putLast_29
  · refine G.aload_n C dX5_putLast_9 0 rfl ?_
    refine gfX5_33 (i := 0) (j := 0) (v := .ref (a 8)) C rfl rfl rfl dX5_putLast_10 ?_
    refine G.aload_n C dX5_putLast_13 0 rfl ?_
    refine gfX5_49 (i := 0) (j := 0) (v := .int (v 0 4)) C rfl rfl rfl dX5_putLast_14 ?_
    refine G.iload_n C dX5_putLast_17 1 rfl ?_
    refine G.iast (i := 0) (j := 8) (f := v 8) (cs' := [wStage t a (up2 v 8 ((v 0 4).toNatClampNeg) x1)]) C rfl rfl h dX5_putLast_18 (suStageA_8) rfl (fun h => ?_)
    refine G.aload_n C dX5_putLast_19 0 rfl ?_
    refine G.dup C dX5_putLast_20 rfl ?_
    refine gfX5_49 (i := 0) (j := 0) (v := .int (v 0 4)) C rfl rfl rfl dX5_putLast_21 ?_
    refine G.iconst C dX5_putLast_24 ni_1 ?_
    refine G.iadd C dX5_putLast_25 ?_
    refine pfX5_49 (i := 0) (j := 0) (cs' := [wStage t a (up2 (up2 v 8 ((v 0 4).toNatClampNeg) x1) 0 4 ((v 0 4) + (1 : Int32)))]) C rfl rfl (Nat.le_of_ble_eq_true rfl) dX5_putLast_26 (suStage_4) rfl ?_
    exact hR _ (Option.some.inj h) _ _ dX5_putLast_29
set_option maxHeartbeats 2000000 in
set_option maxRecDepth 20000 in
theorem c_X5_addThing {t : Nat → ClassId} {a : Nat → Nat} {N : Nat} {v : SV} {x1 : Int32} {x2 : Int32} {x3 : Int32} {x4 : Int32} {r : SV} (h : F_X5_addThing N v x1 x2 x3 x4 = some r) : CV t yX5_addThing cX5_addThing 5 none (rm 2) [.ref (a 0), .int x1, .int x2, .int x3, .int x4] [wStage t a v] [wStage t a r] := by
  refine CV.of (own := RX5) (by decide) rfl (Nat.le_of_ble_eq_true rfl) (fun X C hR0 => ?_)
  have hR : ∀ q : SV, q = r → RetV X cX5_addThing [wStage t a q] := by intro q e; subst e; exact hR0
  show G X [wStage t a v] 0 [(0, .ref (a 0)), (1, .int x1), (2, .int x2), (3, .int x3), (4, .int x4)] []
  unfold F_X5_addThing at h
  refine G.aload_n C dX5_addThing_0 0 rfl ?_
  refine gfX5_43 (i := 0) (j := 0) (v := .int (v 0 2)) C rfl rfl rfl dX5_addThing_1 ?_
  refine G.bipush C dX5_addThing_4 nb_6 ?_
  refine G.icmp_lt (tgt := 10) C dX5_addThing_6 (by decide) h (fun h => ?_) (fun h => ?_)
  · refine G.aload_n C dX5_addThing_10 0 rfl ?_
    refine gfX5_11 (i := 0) (j := 0) (v := .ref (a 1)) C rfl rfl rfl dX5_addThing_11 ?_
    refine G.aload_n C dX5_addThing_14 0 rfl ?_
    refine gfX5_43 (i := 0) (j := 0) (v := .int (v 0 2)) C rfl rfl rfl dX5_addThing_15 ?_
    refine G.iload_n C dX5_addThing_18 1 rfl ?_
    refine G.iast (i := 0) (j := 1) (f := v 1) (cs' := [wStage t a (up2 v 1 ((v 0 2).toNatClampNeg) x1)]) C rfl rfl h dX5_addThing_19 (suStageA_1) rfl (fun h => ?_)
    refine G.aload_n C dX5_addThing_20 0 rfl ?_
    refine gfX5_15 (i := 0) (j := 0) (v := .ref (a 2)) C rfl rfl rfl dX5_addThing_21 ?_
    refine G.aload_n C dX5_addThing_24 0 rfl ?_
    refine gfX5_43 (i := 0) (j := 0) (v := .int (v 0 2)) C rfl rfl rfl dX5_addThing_25 ?_
    refine G.iload_n C dX5_addThing_28 2 rfl ?_
    refine G.iast (i := 0) (j := 2) (f := (up2 v 1 ((v 0 2).toNatClampNeg) x1) 2) (cs' := [wStage t a (up2 (up2 v 1 ((v 0 2).toNatClampNeg) x1) 2 ((v 0 2).toNatClampNeg) x2)]) C rfl rfl h dX5_addThing_29 (suStageA_2) rfl (fun h => ?_)
    refine G.aload_n C dX5_addThing_30 0 rfl ?_
    refine gfX5_18 (i := 0) (j := 0) (v := .ref (a 3)) C rfl rfl rfl dX5_addThing_31 ?_
    refine G.aload_n C dX5_addThing_34 0 rfl ?_
    refine gfX5_43 (i := 0) (j := 0) (v := .int (v 0 2)) C rfl rfl rfl dX5_addThing_35 ?_
    refine G.iload_n C dX5_addThing_38 3 rfl ?_
    refine G.iast (i := 0) (j := 3) (f := (up2 (up2 v 1 ((v 0 2).toNatClampNeg) x1) 2 ((v 0 2).toNatClampNeg) x2) 3) (cs' := [wStage t a (up2 (up2 (up2 v 1 ((v 0 2).toNatClampNeg) x1) 2 ((v 0 2).toNatClampNeg) x2) 3 ((v 0 2).toNatClampNeg) x3)]) C rfl rfl h dX5_addThing_39 (suStageA_3) rfl (fun h => ?_)
    refine G.aload_n C dX5_addThing_40 0 rfl ?_
    refine gfX5_21 (i := 0) (j := 0) (v := .ref (a 4)) C rfl rfl rfl dX5_addThing_41 ?_
    refine G.aload_n C dX5_addThing_44 0 rfl ?_
    refine gfX5_43 (i := 0) (j := 0) (v := .int (v 0 2)) C rfl rfl rfl dX5_addThing_45 ?_
    refine G.iload C dX5_addThing_48 4 rfl ?_
    refine G.iast (i := 0) (j := 4) (f := (up2 (up2 (up2 v 1 ((v 0 2).toNatClampNeg) x1) 2 ((v 0 2).toNatClampNeg) x2) 3 ((v 0 2).toNatClampNeg) x3) 4) (cs' := [wStage t a (up2 (up2 (up2 (up2 v 1 ((v 0 2).toNatClampNeg) x1) 2 ((v 0 2).toNatClampNeg) x2) 3 ((v 0 2).toNatClampNeg) x3) 4 ((v 0 2).toNatClampNeg) x4)]) C rfl rfl h dX5_addThing_50 (suStageA_4) rfl (fun h => ?_)
    refine G.aload_n C dX5_addThing_51 0 rfl ?_
    refine G.aload_n C dX5_addThing_52 0 rfl ?_
    refine gfX5_43 (i := 0) (j := 0) (v := .int (v 0 2)) C rfl rfl rfl dX5_addThing_53 ?_
    obtain ⟨q56, hq56, h⟩ := bind_some' h
    refine G.cvV (i0 := 0) (j0 := 0) (cs' := [wStage t a q56]) C (c_X5_putLast (a := a) hq56) [0] rfl rfl rfl rfl rfl rfl rfl k_571 cal_X5_putLast (fit_rm (by decide) (by decide)) rfl (Nat.le_of_ble_eq_true rfl) dX5_addThing_56 ?_
    refine G.aload_n C dX5_addThing_59 0 rfl ?_
    refine G.dup C dX5_addThing_60 rfl ?_
    refine gfX5_43 (i := 0) (j := 0) (v := .int (q56 0 2)) C rfl rfl rfl dX5_addThing_61 ?_
    refine G.iconst C dX5_addThing_64 ni_1 ?_
    refine G.iadd C dX5_addThing_65 ?_
    refine pfX5_43 (i := 0) (j := 0) (cs' := [wStage t a (up2 q56 0 2 ((q56 0 2) + (1 : Int32)))]) C rfl rfl (Nat.le_of_ble_eq_true rfl) dX5_addThing_66 (suStage_2) rfl ?_
    exact hR _ (Option.some.inj h) _ _ dX5_addThing_69
  · exact hR _ (Option.some.inj h) _ _ dX5_addThing_9
set_option maxHeartbeats 2000000 in
set_option maxRecDepth 20000 in
theorem c_X5_takeAnew {t : Nat → ClassId} {a : Nat → Nat} {N : Nat} {v : SV} {x1 : Int32} {x2 : Int32} {x3 : Int32} {r : SV} (h : F_X5_takeAnew N v x1 x2 x3 = some r) : CV t yX5_takeAnew cX5_takeAnew 4 none (rm 1) [.ref (a 0), .int x1, .int x2, .int x3] [wStage t a v] [wStage t a r] := by
  refine CV.of (own := RX5) (by decide) rfl (Nat.le_of_ble_eq_true rfl) (fun X C hR0 => ?_)
  have hR : ∀ q : SV, q = r → RetV X cX5_takeAnew [wStage t a q] := by intro q e; subst e; exact hR0
  show G X [wStage t a v] 0 [(0, .ref (a 0)), (1, .int x1), (2, .int x2), (3, .int x3)] []
  unfold F_X5_takeAnew at h
  refine G.aload_n C dX5_takeAnew_0 0 rfl ?_
  refine gfX5_24 (i := 0) (j := 0) (v := .ref (a 5)) C rfl rfl rfl dX5_takeAnew_1 ?_
  refine G.iload_n C dX5_takeAnew_4 1 rfl ?_
  refine G.iload_n C dX5_takeAnew_5 2 rfl ?_
  refine G.iast (i := 0) (j := 5) (f := v 5) (cs' := [wStage t a (up2 v 5 (x1.toNatClampNeg) x2)]) C rfl rfl h dX5_takeAnew_6 (suStageA_5) rfl (fun h => ?_)
  refine G.aload_n C dX5_takeAnew_7 0 rfl ?_
  refine gfX5_27 (i := 0) (j := 0) (v := .ref (a 6)) C rfl rfl rfl dX5_takeAnew_8 ?_
  refine G.iload_n C dX5_takeAnew_11 1 rfl ?_
  refine G.iload_n C dX5_takeAnew_12 3 rfl ?_
  refine G.iast (i := 0) (j := 6) (f := (up2 v 5 (x1.toNatClampNeg) x2) 6) (cs' := [wStage t a (up2 (up2 v 5 (x1.toNatClampNeg) x2) 6 (x1.toNatClampNeg) x3)]) C rfl rfl h dX5_takeAnew_13 (suStageA_6) rfl (fun h => ?_)
  refine G.aload_n C dX5_takeAnew_14 0 rfl ?_
  refine gfX5_30 (i := 0) (j := 0) (v := .ref (a 7)) C rfl rfl rfl dX5_takeAnew_15 ?_
  refine G.iload_n C dX5_takeAnew_18 1 rfl ?_
  refine G.iconst C dX5_takeAnew_19 ni_0 ?_
  refine G.iast (i := 0) (j := 7) (f := (up2 (up2 v 5 (x1.toNatClampNeg) x2) 6 (x1.toNatClampNeg) x3) 7) (cs' := [wStage t a (up2 (up2 (up2 v 5 (x1.toNatClampNeg) x2) 6 (x1.toNatClampNeg) x3) 7 (x1.toNatClampNeg) (0 : Int32))]) C rfl rfl h dX5_takeAnew_20 (suStageA_7) rfl (fun h => ?_)
  exact hR _ (Option.some.inj h) _ _ dX5_takeAnew_21
set_option maxHeartbeats 2000000 in
set_option maxRecDepth 20000 in
theorem c_X5_addSeat {t : Nat → ClassId} {a : Nat → Nat} {N : Nat} {v : SV} {x1 : Int32} {x2 : Int32} {r : SV} (h : F_X5_addSeat N v x1 x2 = some r) : CV t yX5_addSeat cX5_addSeat 3 none (rm 2) [.ref (a 0), .int x1, .int x2] [wStage t a v] [wStage t a r] := by
  refine CV.of (own := RX5) (by decide) rfl (Nat.le_of_ble_eq_true rfl) (fun X C hR0 => ?_)
  have hR : ∀ q : SV, q = r → RetV X cX5_addSeat [wStage t a q] := by intro q e; subst e; exact hR0
  show G X [wStage t a v] 0 [(0, .ref (a 0)), (1, .int x1), (2, .int x2)] []
  unfold F_X5_addSeat at h
  refine G.aload_n C dX5_addSeat_0 0 rfl ?_
  refine gfX5_46 (i := 0) (j := 0) (v := .int (v 0 3)) C rfl rfl rfl dX5_addSeat_1 ?_
  refine G.bipush C dX5_addSeat_4 nb_6 ?_
  refine G.icmp_lt (tgt := 10) C dX5_addSeat_6 (by decide) h (fun h => ?_) (fun h => ?_)
  · refine G.aload_n C dX5_addSeat_10 0 rfl ?_
    refine G.aload_n C dX5_addSeat_11 0 rfl ?_
    refine gfX5_46 (i := 0) (j := 0) (v := .int (v 0 3)) C rfl rfl rfl dX5_addSeat_12 ?_
    refine G.iload_n C dX5_addSeat_15 1 rfl ?_
    refine G.iload_n C dX5_addSeat_16 2 rfl ?_
    obtain ⟨q17, hq17, h⟩ := bind_some' h
    refine G.cvV (i0 := 0) (j0 := 0) (cs' := [wStage t a q17]) C (c_X5_takeAnew (a := a) hq17) [0] rfl rfl rfl rfl rfl rfl rfl k_583 cal_X5_takeAnew (fit_rm (by decide) (by decide)) rfl (Nat.le_of_ble_eq_true rfl) dX5_addSeat_17 ?_
    refine G.aload_n C dX5_addSeat_20 0 rfl ?_
    refine G.dup C dX5_addSeat_21 rfl ?_
    refine gfX5_46 (i := 0) (j := 0) (v := .int (q17 0 3)) C rfl rfl rfl dX5_addSeat_22 ?_
    refine G.iconst C dX5_addSeat_25 ni_1 ?_
    refine G.iadd C dX5_addSeat_26 ?_
    refine pfX5_46 (i := 0) (j := 0) (cs' := [wStage t a (up2 q17 0 3 ((q17 0 3) + (1 : Int32)))]) C rfl rfl (Nat.le_of_ble_eq_true rfl) dX5_addSeat_27 (suStage_3) rfl ?_
    exact hR _ (Option.some.inj h) _ _ dX5_addSeat_30
  · exact hR _ (Option.some.inj h) _ _ dX5_addSeat_9
set_option maxHeartbeats 2000000 in
set_option maxRecDepth 20000 in
theorem c_X5_isThing {t : Nat → ClassId} {a : Nat → Nat} {N : Nat} {v : SV} {x1 : Int32} {r : Int32} (h : F_X5_isThing N v x1 = some r) : CI t yX5_isThing cX5_isThing 2 (some .boolean) (rm 1) [.ref (a 0), .int x1] [wStage t a v] r [wStage t a v] := by
  refine CZ.of (own := RX5) (by decide) rfl (Nat.le_of_ble_eq_true rfl) (fun X C hR0 => ?_)
  have hR : ∀ q : Int32, q = r → RetZ X cX5_isThing q [wStage t a v] := by intro q e; subst e; exact hR0
  show G X [wStage t a v] 0 [(0, .ref (a 0)), (1, .int x1)] []
  unfold F_X5_isThing at h
  refine G.iload_n C dX5_isThing_0 1 rfl ?_
  refine G.if_lt (tgt := 16) C dX5_isThing_1 (by decide) h (fun h => ?_) (fun h => ?_)
  · refine G.iconst C dX5_isThing_16 ni_0 ?_
    exact hR _ (Option.some.inj h) (Or.inl rfl) _ _ dX5_isThing_17
  · refine G.iload_n C dX5_isThing_4 1 rfl ?_
    refine G.aload_n C dX5_isThing_5 0 rfl ?_
    refine gfX5_43 (i := 0) (j := 0) (v := .int (v 0 2)) C rfl rfl rfl dX5_isThing_6 ?_
    refine G.icmp_ge (tgt := 16) C dX5_isThing_9 (by decide) h (fun h => ?_) (fun h => ?_)
    · refine G.iconst C dX5_isThing_16 ni_0 ?_
      exact hR _ (Option.some.inj h) (Or.inl rfl) _ _ dX5_isThing_17
    · refine G.iconst C dX5_isThing_12 ni_1 ?_
      refine G.goto (tgt := 17) C dX5_isThing_13 (by decide) ?_
      exact hR _ (Option.some.inj h) (Or.inr rfl) _ _ dX5_isThing_17
set_option maxHeartbeats 2000000 in
set_option maxRecDepth 20000 in
theorem c_X5_isSeat {t : Nat → ClassId} {a : Nat → Nat} {N : Nat} {v : SV} {x1 : Int32} {r : Int32} (h : F_X5_isSeat N v x1 = some r) : CI t yX5_isSeat cX5_isSeat 2 (some .boolean) (rm 1) [.ref (a 0), .int x1] [wStage t a v] r [wStage t a v] := by
  refine CZ.of (own := RX5) (by decide) rfl (Nat.le_of_ble_eq_true rfl) (fun X C hR0 => ?_)
  have hR : ∀ q : Int32, q = r → RetZ X cX5_isSeat q [wStage t a v] := by intro q e; subst e; exact hR0
  show G X [wStage t a v] 0 [(0, .ref (a 0)), (1, .int x1)] []
  unfold F_X5_isSeat at h
  refine G.iload_n C dX5_isSeat_0 1 rfl ?_
  refine G.if_lt (tgt := 16) C dX5_isSeat_1 (by decide) h (fun h => ?_) (fun h => ?_)
  · refine G.iconst C dX5_isSeat_16 ni_0 ?_
    exact hR _ (Option.some.inj h) (Or.inl rfl) _ _ dX5_isSeat_17
  · refine G.iload_n C dX5_isSeat_4 1 rfl ?_
    refine G.aload_n C dX5_isSeat_5 0 rfl ?_
    refine gfX5_46 (i := 0) (j := 0) (v := .int (v 0 3)) C rfl rfl rfl dX5_isSeat_6 ?_
    refine G.icmp_ge (tgt := 16) C dX5_isSeat_9 (by decide) h (fun h => ?_) (fun h => ?_)
    · refine G.iconst C dX5_isSeat_16 ni_0 ?_
      exact hR _ (Option.some.inj h) (Or.inl rfl) _ _ dX5_isSeat_17
    · refine G.iconst C dX5_isSeat_12 ni_1 ?_
      refine G.goto (tgt := 17) C dX5_isSeat_13 (by decide) ?_
      exact hR _ (Option.some.inj h) (Or.inr rfl) _ _ dX5_isSeat_17
set_option maxHeartbeats 2000000 in
set_option maxRecDepth 20000 in
theorem w_X5_placeOf_L2 {X : Cx} {t : Nat → ClassId} {a : Nat → Nat} {N : Nat} {v : SV} {x1 : Int32} {r : Int32} (C : gX X t (rm 1) cX5_placeOf 3 RX5) (hR : ∀ q : Int32, q = r → RetI X cX5_placeOf q [wStage t a v]) : ∀ (n : Nat) (x2 : Int32), F_X5_placeOf_L2 N v x1 n x2 = some r → G X [wStage t a v] 2 [(0, .ref (a 0)), (1, .int x1), (2, .int x2)] [] := by
  intro n
  induction n with
  | zero => intro x2 h; exact absurd h (by simp [F_X5_placeOf_L2])
  | succ n ih =>
    intro x2 h
    rw [F_X5_placeOf_L2] at h
    refine G.iload_n C dX5_placeOf_2 2 rfl ?_
    refine G.aload_n C dX5_placeOf_3 0 rfl ?_
    refine gfX5_49 (i := 0) (j := 0) (v := .int (v 0 4)) C rfl rfl rfl dX5_placeOf_4 ?_
    refine G.icmp_ge (tgt := 28) C dX5_placeOf_7 (by decide) h (fun h => ?_) (fun h => ?_)
    · refine G.iconst C dX5_placeOf_28 ni_m1 ?_
      exact hR _ (Option.some.inj h) _ _ dX5_placeOf_29
    · refine G.aload_n C dX5_placeOf_10 0 rfl ?_
      refine gfX5_33 (i := 0) (j := 0) (v := .ref (a 8)) C rfl rfl rfl dX5_placeOf_11 ?_
      refine G.iload_n C dX5_placeOf_14 2 rfl ?_
      refine G.iald (i := 0) (j := 8) (f := (v 8)) C rfl rfl h dX5_placeOf_15 (fun h => ?_)
      refine G.iload_n C dX5_placeOf_16 1 rfl ?_
      refine G.icmp_ne (tgt := 22) C dX5_placeOf_17 (by decide) h (fun h => ?_) (fun h => ?_)
      · refine G.iinc (v := (x2 + (1 : Int32))) (lv' := [(2, .int (x2 + (1 : Int32))), (0, .ref (a 0)), (1, .int x1)]) C dX5_placeOf_22 2 rfl (by rw [ni_1]) (by decide) rfl ?_
        refine G.goto (tgt := 2) C dX5_placeOf_25 (by decide) ?_
        exact G.lvs [1, 2, 0] rfl (ih _ h)
      · refine G.iload_n C dX5_placeOf_20 2 rfl ?_
        exact hR _ (Option.some.inj h) _ _ dX5_placeOf_21
set_option maxHeartbeats 2000000 in
set_option maxRecDepth 20000 in
theorem c_X5_placeOf {t : Nat → ClassId} {a : Nat → Nat} {N : Nat} {v : SV} {x1 : Int32} {r : Int32} (h : F_X5_placeOf N v x1 = some r) : CI t yX5_placeOf cX5_placeOf 3 (some .int) (rm 1) [.ref (a 0), .int x1] [wStage t a v] r [wStage t a v] := by
  refine CI.of (own := RX5) (by decide) rfl (Nat.le_of_ble_eq_true rfl) (fun X C hR0 => ?_)
  have hR : ∀ q : Int32, q = r → RetI X cX5_placeOf q [wStage t a v] := by intro q e; subst e; exact hR0
  show G X [wStage t a v] 0 [(0, .ref (a 0)), (1, .int x1)] []
  unfold F_X5_placeOf at h
  refine G.iconst C dX5_placeOf_0 ni_0 ?_
  refine G.istore_n (lv' := [(2, .int (0 : Int32)), (0, .ref (a 0)), (1, .int x1)]) C dX5_placeOf_1 (by decide) rfl ?_
  exact G.lvs [1, 2, 0] rfl (w_X5_placeOf_L2 C hR N _ h)
set_option maxHeartbeats 2000000 in
set_option maxRecDepth 20000 in
theorem w_X5_takeOff_L4 {X : Cx} {t : Nat → ClassId} {a : Nat → Nat} {N : Nat} {x1 : Int32} {K43 : Int32 → SV → Option (SV)} {r : SV} (C : gX X t (rm 1) cX5_takeOff 4 RX5) (hR : ∀ q : SV, q = r → RetV X cX5_takeOff [wStage t a q]) (hK43 : ∀ (x2_43 : Int32) (v_43 : SV), K43 x2_43 v_43 = some r → G X [wStage t a v_43] 43 [(0, .ref (a 0)), (2, .int x2_43)] []) : ∀ (n : Nat) (x2 : Int32) (x3 : Int32) (v : SV), F_X5_takeOff_L4 N x1 K43 n x2 x3 v = some r → G X [wStage t a v] 4 [(0, .ref (a 0)), (1, .int x1), (2, .int x2), (3, .int x3)] [] := by
  intro n
  induction n with
  | zero => intro x2 x3 v h; exact absurd h (by simp [F_X5_takeOff_L4])
  | succ n ih =>
    intro x2 x3 v h
    rw [F_X5_takeOff_L4] at h
    refine G.iload_n C dX5_takeOff_4 3 rfl ?_
    refine G.aload_n C dX5_takeOff_5 0 rfl ?_
    refine gfX5_49 (i := 0) (j := 0) (v := .int (v 0 4)) C rfl rfl rfl dX5_takeOff_6 ?_
    refine G.icmp_ge (tgt := 43) C dX5_takeOff_9 (by decide) h (fun h => ?_) (fun h => ?_)
    · exact G.lvs [0, 2] rfl (hK43 _ _ h)
    · refine G.aload_n C dX5_takeOff_12 0 rfl ?_
      refine gfX5_33 (i := 0) (j := 0) (v := .ref (a 8)) C rfl rfl rfl dX5_takeOff_13 ?_
      refine G.iload_n C dX5_takeOff_16 3 rfl ?_
      refine G.iald (i := 0) (j := 8) (f := (v 8)) C rfl rfl h dX5_takeOff_17 (fun h => ?_)
      refine G.iload_n C dX5_takeOff_18 1 rfl ?_
      refine jn_use (fun J => ∀ (x2_37 : Int32) (v_37 : SV), J x2_37 v_37 = some r → G X [wStage t a v_37] 37 [(0, .ref (a 0)), (1, .int x1), (2, .int x2_37), (3, .int x3)] []) h ?_ (fun J37 hJ37 h => ?_)
      · intro x2_37 v_37 h
        refine G.iinc (v := (x3 + (1 : Int32))) (lv' := [(3, .int (x3 + (1 : Int32))), (0, .ref (a 0)), (1, .int x1), (2, .int x2_37)]) C dX5_takeOff_37 3 rfl (by rw [ni_1]) (by decide) rfl ?_
        refine G.goto (tgt := 4) C dX5_takeOff_40 (by decide) ?_
        exact G.lvs [1, 2, 3, 0] rfl (ih _ _ _ h)
      refine G.icmp_eq (tgt := 37) C dX5_takeOff_19 (by decide) h (fun h => ?_) (fun h => ?_)
      · exact G.lvs [0, 1, 2, 3] rfl (hJ37 _ _ h)
      · refine G.aload_n C dX5_takeOff_22 0 rfl ?_
        refine gfX5_33 (i := 0) (j := 0) (v := .ref (a 8)) C rfl rfl rfl dX5_takeOff_23 ?_
        refine G.iload_n C dX5_takeOff_26 2 rfl ?_
        refine G.aload_n C dX5_takeOff_27 0 rfl ?_
        refine gfX5_33 (i := 0) (j := 0) (v := .ref (a 8)) C rfl rfl rfl dX5_takeOff_28 ?_
        refine G.iload_n C dX5_takeOff_31 3 rfl ?_
        refine G.iald (i := 0) (j := 8) (f := (v 8)) C rfl rfl h dX5_takeOff_32 (fun h => ?_)
        refine G.iast (i := 0) (j := 8) (f := v 8) (cs' := [wStage t a (up2 v 8 (x2.toNatClampNeg) ((v 8) (x3.toNatClampNeg)))]) C rfl rfl h dX5_takeOff_33 (suStageA_8) rfl (fun h => ?_)
        refine G.iinc (v := (x2 + (1 : Int32))) (lv' := [(2, .int (x2 + (1 : Int32))), (0, .ref (a 0)), (1, .int x1), (3, .int x3)]) C dX5_takeOff_34 2 rfl (by rw [ni_1]) (by decide) rfl ?_
        exact G.lvs [1, 2, 0, 3] rfl (hJ37 _ _ h)
set_option maxHeartbeats 2000000 in
set_option maxRecDepth 20000 in
theorem c_X5_takeOff {t : Nat → ClassId} {a : Nat → Nat} {N : Nat} {v : SV} {x1 : Int32} {r : SV} (h : F_X5_takeOff N v x1 = some r) : CV t yX5_takeOff cX5_takeOff 4 none (rm 1) [.ref (a 0), .int x1] [wStage t a v] [wStage t a r] := by
  refine CV.of (own := RX5) (by decide) rfl (Nat.le_of_ble_eq_true rfl) (fun X C hR0 => ?_)
  have hR : ∀ q : SV, q = r → RetV X cX5_takeOff [wStage t a q] := by intro q e; subst e; exact hR0
  show G X [wStage t a v] 0 [(0, .ref (a 0)), (1, .int x1)] []
  unfold F_X5_takeOff at h
  refine G.iconst C dX5_takeOff_0 ni_0 ?_
  refine G.istore_n (lv' := [(2, .int (0 : Int32)), (0, .ref (a 0)), (1, .int x1)]) C dX5_takeOff_1 (by decide) rfl ?_
  refine G.iconst C dX5_takeOff_2 ni_0 ?_
  refine G.istore_n (lv' := [(3, .int (0 : Int32)), (2, .int (0 : Int32)), (0, .ref (a 0)), (1, .int x1)]) C dX5_takeOff_3 (by decide) rfl ?_
  refine G.lvs [2, 3, 1, 0] rfl (w_X5_takeOff_L4 C hR (fun x2_43 v_43 h => ?_) N _ _ _ h)
  · refine G.aload_n C dX5_takeOff_43 0 rfl ?_
    refine G.iload_n C dX5_takeOff_44 1 rfl ?_
    refine pfX5_49 (i := 0) (j := 0) (cs' := [wStage t a (up2 v_43 0 4 x2_43)]) C rfl rfl (Nat.le_of_ble_eq_true rfl) dX5_takeOff_45 (suStage_4) rfl ?_
    exact hR _ (Option.some.inj h) _ _ dX5_takeOff_48
set_option maxHeartbeats 2000000 in
set_option maxRecDepth 20000 in
theorem w_X5_putFirst_L20 {X : Cx} {t : Nat → ClassId} {a : Nat → Nat} {N : Nat} {x1 : Int32} {K44 : SV → Option (SV)} {r : SV} (C : gX X t (rm 2) cX5_putFirst 3 RX5) (hR : ∀ q : SV, q = r → RetV X cX5_putFirst [wStage t a q]) (hK44 : ∀ (v_44 : SV), K44 v_44 = some r → G X [wStage t a v_44] 44 [(0, .ref (a 0)), (1, .int x1)] []) : ∀ (n : Nat) (x2 : Int32) (v : SV), F_X5_putFirst_L20 N x1 K44 n x2 v = some r → G X [wStage t a v] 20 [(0, .ref (a 0)), (1, .int x1), (2, .int x2)] [] := by
  intro n
  induction n with
  | zero => intro x2 v h; exact absurd h (by simp [F_X5_putFirst_L20])
  | succ n ih =>
    intro x2 v h
    rw [F_X5_putFirst_L20] at h
    refine G.iload_n C dX5_putFirst_20 2 rfl ?_
    refine G.if_le (tgt := 44) C dX5_putFirst_21 (by decide) h (fun h => ?_) (fun h => ?_)
    · exact G.lvs [0, 1] rfl (hK44 _ h)
    · refine G.aload_n C dX5_putFirst_24 0 rfl ?_
      refine gfX5_33 (i := 0) (j := 0) (v := .ref (a 8)) C rfl rfl rfl dX5_putFirst_25 ?_
      refine G.iload_n C dX5_putFirst_28 2 rfl ?_
      refine G.aload_n C dX5_putFirst_29 0 rfl ?_
      refine gfX5_33 (i := 0) (j := 0) (v := .ref (a 8)) C rfl rfl rfl dX5_putFirst_30 ?_
      refine G.iload_n C dX5_putFirst_33 2 rfl ?_
      refine G.iconst C dX5_putFirst_34 ni_1 ?_
      refine G.isub C dX5_putFirst_35 ?_
      refine G.iald (i := 0) (j := 8) (f := (v 8)) C rfl rfl h dX5_putFirst_36 (fun h => ?_)
      refine G.iast (i := 0) (j := 8) (f := v 8) (cs' := [wStage t a (up2 v 8 (x2.toNatClampNeg) ((v 8) ((x2 - (1 : Int32)).toNatClampNeg)))]) C rfl rfl h dX5_putFirst_37 (suStageA_8) rfl (fun h => ?_)
      refine G.iinc (v := (x2 + (-1 : Int32))) (lv' := [(2, .int (x2 + (-1 : Int32))), (0, .ref (a 0)), (1, .int x1)]) C dX5_putFirst_38 2 rfl (by rw [ni_m1]) (by decide) rfl ?_
      refine G.goto (tgt := 20) C dX5_putFirst_41 (by decide) ?_
      exact G.lvs [1, 2, 0] rfl (ih _ _ h)
set_option maxHeartbeats 2000000 in
set_option maxRecDepth 20000 in
theorem c_X5_putFirst {t : Nat → ClassId} {a : Nat → Nat} {N : Nat} {v : SV} {x1 : Int32} {r : SV} (h : F_X5_putFirst N v x1 = some r) : CV t yX5_putFirst cX5_putFirst 3 none (rm 2) [.ref (a 0), .int x1] [wStage t a v] [wStage t a r] := by
  refine CV.of (own := RX5) (by decide) rfl (Nat.le_of_ble_eq_true rfl) (fun X C hR0 => ?_)
  have hR : ∀ q : SV, q = r → RetV X cX5_putFirst [wStage t a q] := by intro q e; subst e; exact hR0
  show G X [wStage t a v] 0 [(0, .ref (a 0)), (1, .int x1)] []
  unfold F_X5_putFirst at h
  refine G.aload_n C dX5_putFirst_0 0 rfl ?_
  refine G.iload_n C dX5_putFirst_1 1 rfl ?_
  obtain ⟨q2, hq2, h⟩ := bind_some' h
  refine G.cvV (i0 := 0) (j0 := 0) (cs' := [wStage t a q2]) C (c_X5_takeOff (a := a) hq2) [0] rfl rfl rfl rfl rfl rfl rfl k_662 cal_X5_takeOff (fit_rm (by decide) (by decide)) rfl (Nat.le_of_ble_eq_true rfl) dX5_putFirst_2 ?_
  refine G.aload_n C dX5_putFirst_5 0 rfl ?_
  refine gfX5_49 (i := 0) (j := 0) (v := .int (q2 0 4)) C rfl rfl rfl dX5_putFirst_6 ?_
  refine G.bipush C dX5_putFirst_9 nb_6 ?_
  refine G.icmp_lt (tgt := 15) C dX5_putFirst_11 (by decide) h (fun h => ?_) (fun h => ?_)
  · refine G.aload_n C dX5_putFirst_15 0 rfl ?_
    refine gfX5_49 (i := 0) (j := 0) (v := .int (q2 0 4)) C rfl rfl rfl dX5_putFirst_16 ?_
    refine G.istore_n (lv' := [(2, .int (q2 0 4)), (0, .ref (a 0)), (1, .int x1)]) C dX5_putFirst_19 (by decide) rfl ?_
    refine G.lvs [1, 2, 0] rfl (w_X5_putFirst_L20 C hR (fun v_44 h => ?_) N _ _ h)
    · refine G.aload_n C dX5_putFirst_44 0 rfl ?_
      refine gfX5_33 (i := 0) (j := 0) (v := .ref (a 8)) C rfl rfl rfl dX5_putFirst_45 ?_
      refine G.iconst C dX5_putFirst_48 ni_0 ?_
      refine G.iload_n C dX5_putFirst_49 1 rfl ?_
      refine G.iast (i := 0) (j := 8) (f := v_44 8) (cs' := [wStage t a (up2 v_44 8 ((0 : Int32).toNatClampNeg) x1)]) C rfl rfl h dX5_putFirst_50 (suStageA_8) rfl (fun h => ?_)
      refine G.aload_n C dX5_putFirst_51 0 rfl ?_
      refine G.dup C dX5_putFirst_52 rfl ?_
      refine gfX5_49 (i := 0) (j := 0) (v := .int (v_44 0 4)) C rfl rfl rfl dX5_putFirst_53 ?_
      refine G.iconst C dX5_putFirst_56 ni_1 ?_
      refine G.iadd C dX5_putFirst_57 ?_
      refine pfX5_49 (i := 0) (j := 0) (cs' := [wStage t a (up2 (up2 v_44 8 ((0 : Int32).toNatClampNeg) x1) 0 4 ((v_44 0 4) + (1 : Int32)))]) C rfl rfl (Nat.le_of_ble_eq_true rfl) dX5_putFirst_58 (suStage_4) rfl ?_
      exact hR _ (Option.some.inj h) _ _ dX5_putFirst_61
  · exact hR _ (Option.some.inj h) _ _ dX5_putFirst_14
set_option maxHeartbeats 2000000 in
set_option maxRecDepth 20000 in
theorem w_X5_wanting_L4 {X : Cx} {t : Nat → ClassId} {a : Nat → Nat} {N : Nat} {v : SV} {x1 : Int32} {r : Int32} (C : gX X t (rm 1) cX5_wanting 4 RX5) (hR : ∀ q : Int32, q = r → RetI X cX5_wanting q [wStage t a v]) : ∀ (n : Nat) (x2 : Int32) (x3 : Int32), F_X5_wanting_L4 N v x1 n x2 x3 = some r → G X [wStage t a v] 4 [(0, .ref (a 0)), (1, .int x1), (2, .int x2), (3, .int x3)] [] := by
  intro n
  induction n with
  | zero => intro x2 x3 h; exact absurd h (by simp [F_X5_wanting_L4])
  | succ n ih =>
    intro x2 x3 h
    rw [F_X5_wanting_L4] at h
    refine G.iload_n C dX5_wanting_4 3 rfl ?_
    refine G.aload_n C dX5_wanting_5 0 rfl ?_
    refine gfX5_46 (i := 0) (j := 0) (v := .int (v 0 3)) C rfl rfl rfl dX5_wanting_6 ?_
    refine G.icmp_ge (tgt := 40) C dX5_wanting_9 (by decide) h (fun h => ?_) (fun h => ?_)
    · refine G.iload_n C dX5_wanting_40 2 rfl ?_
      exact hR _ (Option.some.inj h) _ _ dX5_wanting_41
    · refine G.aload_n C dX5_wanting_12 0 rfl ?_
      refine gfX5_30 (i := 0) (j := 0) (v := .ref (a 7)) C rfl rfl rfl dX5_wanting_13 ?_
      refine G.iload_n C dX5_wanting_16 3 rfl ?_
      refine G.iald (i := 0) (j := 7) (f := (v 7)) C rfl rfl h dX5_wanting_17 (fun h => ?_)
      refine jn_use (fun J => ∀ (x2_34 : Int32), J x2_34 = some r → G X [wStage t a v] 34 [(0, .ref (a 0)), (1, .int x1), (2, .int x2_34), (3, .int x3)] []) h ?_ (fun J34 hJ34 h => ?_)
      · intro x2_34 h
        refine G.iinc (v := (x3 + (1 : Int32))) (lv' := [(3, .int (x3 + (1 : Int32))), (0, .ref (a 0)), (1, .int x1), (2, .int x2_34)]) C dX5_wanting_34 3 rfl (by rw [ni_1]) (by decide) rfl ?_
        refine G.goto (tgt := 4) C dX5_wanting_37 (by decide) ?_
        exact G.lvs [1, 2, 3, 0] rfl (ih _ _ h)
      refine G.if_ne (tgt := 34) C dX5_wanting_18 (by decide) h (fun h => ?_) (fun h => ?_)
      · exact G.lvs [0, 1, 2, 3] rfl (hJ34 _ h)
      · refine G.aload_n C dX5_wanting_21 0 rfl ?_
        refine gfX5_24 (i := 0) (j := 0) (v := .ref (a 5)) C rfl rfl rfl dX5_wanting_22 ?_
        refine G.iload_n C dX5_wanting_25 3 rfl ?_
        refine G.iald (i := 0) (j := 5) (f := (v 5)) C rfl rfl h dX5_wanting_26 (fun h => ?_)
        refine G.iload_n C dX5_wanting_27 1 rfl ?_
        refine G.icmp_ne (tgt := 34) C dX5_wanting_28 (by decide) h (fun h => ?_) (fun h => ?_)
        · exact G.lvs [0, 1, 2, 3] rfl (hJ34 _ h)
        · refine G.iinc (v := (x2 + (1 : Int32))) (lv' := [(2, .int (x2 + (1 : Int32))), (0, .ref (a 0)), (1, .int x1), (3, .int x3)]) C dX5_wanting_31 2 rfl (by rw [ni_1]) (by decide) rfl ?_
          exact G.lvs [1, 2, 0, 3] rfl (hJ34 _ h)
set_option maxHeartbeats 2000000 in
set_option maxRecDepth 20000 in
theorem c_X5_wanting {t : Nat → ClassId} {a : Nat → Nat} {N : Nat} {v : SV} {x1 : Int32} {r : Int32} (h : F_X5_wanting N v x1 = some r) : CI t yX5_wanting cX5_wanting 4 (some .int) (rm 1) [.ref (a 0), .int x1] [wStage t a v] r [wStage t a v] := by
  refine CI.of (own := RX5) (by decide) rfl (Nat.le_of_ble_eq_true rfl) (fun X C hR0 => ?_)
  have hR : ∀ q : Int32, q = r → RetI X cX5_wanting q [wStage t a v] := by intro q e; subst e; exact hR0
  show G X [wStage t a v] 0 [(0, .ref (a 0)), (1, .int x1)] []
  unfold F_X5_wanting at h
  refine G.iconst C dX5_wanting_0 ni_0 ?_
  refine G.istore_n (lv' := [(2, .int (0 : Int32)), (0, .ref (a 0)), (1, .int x1)]) C dX5_wanting_1 (by decide) rfl ?_
  refine G.iconst C dX5_wanting_2 ni_0 ?_
  refine G.istore_n (lv' := [(3, .int (0 : Int32)), (2, .int (0 : Int32)), (0, .ref (a 0)), (1, .int x1)]) C dX5_wanting_3 (by decide) rfl ?_
  exact G.lvs [2, 3, 1, 0] rfl (w_X5_wanting_L4 C hR N _ _ h)
set_option maxHeartbeats 2000000 in
set_option maxRecDepth 20000 in
theorem w_X5_seatsThat_L4 {X : Cx} {t : Nat → ClassId} {a : Nat → Nat} {N : Nat} {v : SV} {x1 : Int32} {r : Int32} (C : gX X t (rm 1) cX5_seatsThat 4 RX5) (hR : ∀ q : Int32, q = r → RetI X cX5_seatsThat q [wStage t a v]) : ∀ (n : Nat) (x2 : Int32) (x3 : Int32), F_X5_seatsThat_L4 N v x1 n x2 x3 = some r → G X [wStage t a v] 4 [(0, .ref (a 0)), (1, .int x1), (2, .int x2), (3, .int x3)] [] := by
  intro n
  induction n with
  | zero => intro x2 x3 h; exact absurd h (by simp [F_X5_seatsThat_L4])
  | succ n ih =>
    intro x2 x3 h
    rw [F_X5_seatsThat_L4] at h
    refine G.iload_n C dX5_seatsThat_4 3 rfl ?_
    refine G.aload_n C dX5_seatsThat_5 0 rfl ?_
    refine gfX5_46 (i := 0) (j := 0) (v := .int (v 0 3)) C rfl rfl rfl dX5_seatsThat_6 ?_
    refine G.icmp_ge (tgt := 34) C dX5_seatsThat_9 (by decide) h (fun h => ?_) (fun h => ?_)
    · refine G.iload_n C dX5_seatsThat_34 2 rfl ?_
      exact hR _ (Option.some.inj h) _ _ dX5_seatsThat_35
    · refine G.aload_n C dX5_seatsThat_12 0 rfl ?_
      refine gfX5_30 (i := 0) (j := 0) (v := .ref (a 7)) C rfl rfl rfl dX5_seatsThat_13 ?_
      refine G.iload_n C dX5_seatsThat_16 3 rfl ?_
      refine G.iald (i := 0) (j := 7) (f := (v 7)) C rfl rfl h dX5_seatsThat_17 (fun h => ?_)
      refine G.iload_n C dX5_seatsThat_18 1 rfl ?_
      refine jn_use (fun J => ∀ (x2_28 : Int32), J x2_28 = some r → G X [wStage t a v] 28 [(0, .ref (a 0)), (1, .int x1), (2, .int x2_28), (3, .int x3)] []) h ?_ (fun J28 hJ28 h => ?_)
      · intro x2_28 h
        refine G.iinc (v := (x3 + (1 : Int32))) (lv' := [(3, .int (x3 + (1 : Int32))), (0, .ref (a 0)), (1, .int x1), (2, .int x2_28)]) C dX5_seatsThat_28 3 rfl (by rw [ni_1]) (by decide) rfl ?_
        refine G.goto (tgt := 4) C dX5_seatsThat_31 (by decide) ?_
        exact G.lvs [1, 2, 3, 0] rfl (ih _ _ h)
      refine G.icmp_ne (tgt := 28) C dX5_seatsThat_19 (by decide) h (fun h => ?_) (fun h => ?_)
      · exact G.lvs [0, 1, 2, 3] rfl (hJ28 _ h)
      · refine G.iload_n C dX5_seatsThat_22 2 rfl ?_
        refine G.iconst C dX5_seatsThat_23 ni_1 ?_
        refine G.iload_n C dX5_seatsThat_24 3 rfl ?_
        refine G.ishl C dX5_seatsThat_25 ?_
        refine G.ior C dX5_seatsThat_26 ?_
        refine G.istore_n (lv' := [(2, .int (x2 ||| ((1 : Int32) <<< (x3 &&& 31)))), (0, .ref (a 0)), (1, .int x1), (3, .int x3)]) C dX5_seatsThat_27 (by decide) rfl ?_
        exact G.lvs [1, 2, 0, 3] rfl (hJ28 _ h)
set_option maxHeartbeats 2000000 in
set_option maxRecDepth 20000 in
theorem c_X5_seatsThat {t : Nat → ClassId} {a : Nat → Nat} {N : Nat} {v : SV} {x1 : Int32} {r : Int32} (h : F_X5_seatsThat N v x1 = some r) : CI t yX5_seatsThat cX5_seatsThat 4 (some .int) (rm 1) [.ref (a 0), .int x1] [wStage t a v] r [wStage t a v] := by
  refine CI.of (own := RX5) (by decide) rfl (Nat.le_of_ble_eq_true rfl) (fun X C hR0 => ?_)
  have hR : ∀ q : Int32, q = r → RetI X cX5_seatsThat q [wStage t a v] := by intro q e; subst e; exact hR0
  show G X [wStage t a v] 0 [(0, .ref (a 0)), (1, .int x1)] []
  unfold F_X5_seatsThat at h
  refine G.iconst C dX5_seatsThat_0 ni_0 ?_
  refine G.istore_n (lv' := [(2, .int (0 : Int32)), (0, .ref (a 0)), (1, .int x1)]) C dX5_seatsThat_1 (by decide) rfl ?_
  refine G.iconst C dX5_seatsThat_2 ni_0 ?_
  refine G.istore_n (lv' := [(3, .int (0 : Int32)), (2, .int (0 : Int32)), (0, .ref (a 0)), (1, .int x1)]) C dX5_seatsThat_3 (by decide) rfl ?_
  exact G.lvs [2, 3, 1, 0] rfl (w_X5_seatsThat_L4 C hR N _ _ h)
set_option maxHeartbeats 2000000 in
set_option maxRecDepth 20000 in
theorem c_X5_standing {t : Nat → ClassId} {a : Nat → Nat} {N : Nat} {v : SV} {x1 : Int32} {r : Int32} (h : F_X5_standing N v x1 = some r) : CI t yX5_standing cX5_standing 2 (some .int) (rm 2) [.ref (a 0), .int x1] [wStage t a v] r [wStage t a v] := by
  refine CI.of (own := RX5) (by decide) rfl (Nat.le_of_ble_eq_true rfl) (fun X C hR0 => ?_)
  have hR : ∀ q : Int32, q = r → RetI X cX5_standing q [wStage t a v] := by intro q e; subst e; exact hR0
  show G X [wStage t a v] 0 [(0, .ref (a 0)), (1, .int x1)] []
  unfold F_X5_standing at h
  refine G.iload_n C dX5_standing_0 1 rfl ?_
  refine G.iconst C dX5_standing_1 ni_3 ?_
  refine G.icmp_ne (tgt := 12) C dX5_standing_2 (by decide) h (fun h => ?_) (fun h => ?_)
  · refine G.aload_n C dX5_standing_12 0 rfl ?_
    refine G.iload_n C dX5_standing_13 1 rfl ?_
    obtain ⟨q14, hq14, h⟩ := bind_some' h
    refine G.cvI (i0 := 0) (j0 := 0) (cs' := [wStage t a v]) C (c_X5_seatsThat (a := a) hq14) [0] rfl rfl rfl rfl rfl rfl rfl k_671 cal_X5_seatsThat (fit_rm (by decide) (by decide)) rfl (Nat.le_of_ble_eq_true rfl) dX5_standing_14 ?_
    exact hR _ (Option.some.inj h) _ _ dX5_standing_17
  · refine G.aload_n C dX5_standing_5 0 rfl ?_
    refine gfX5_55 (i := 0) (j := 0) (v := .int (v 0 6)) C rfl rfl rfl dX5_standing_6 ?_
    refine G.goto (tgt := 17) C dX5_standing_9 (by decide) ?_
    exact hR _ (Option.some.inj h) _ _ dX5_standing_17
set_option maxHeartbeats 2000000 in
set_option maxRecDepth 20000 in
theorem w_X5_chosen_L7 {X : Cx} {t : Nat → ClassId} {a : Nat → Nat} {N : Nat} {v : SV} {r : Int32} (C : gX X t (rm 2) cX5_chosen 5 RX5) (hR : ∀ q : Int32, q = r → RetI X cX5_chosen q [wStage t a v]) : ∀ (n : Nat) (x1 : Int32) (x2 : Int32) (x3 : Int32), F_X5_chosen_L7 N v n x1 x2 x3 = some r → G X [wStage t a v] 7 [(0, .ref (a 0)), (1, .int x1), (2, .int x2), (3, .int x3)] [] := by
  intro n
  induction n with
  | zero => intro x1 x2 x3 h; exact absurd h (by simp [F_X5_chosen_L7])
  | succ n ih =>
    intro x1 x2 x3 h
    rw [F_X5_chosen_L7] at h
    refine G.iload_n C dX5_chosen_7 3 rfl ?_
    refine G.aload_n C dX5_chosen_8 0 rfl ?_
    refine gfX5_49 (i := 0) (j := 0) (v := .int (v 0 4)) C rfl rfl rfl dX5_chosen_9 ?_
    refine G.icmp_ge (tgt := 54) C dX5_chosen_12 (by decide) h (fun h => ?_) (fun h => ?_)
    · refine G.iload_n C dX5_chosen_54 1 rfl ?_
      exact hR _ (Option.some.inj h) _ _ dX5_chosen_55
    · refine G.aload_n C dX5_chosen_15 0 rfl ?_
      refine G.aload_n C dX5_chosen_16 0 rfl ?_
      refine gfX5_15 (i := 0) (j := 0) (v := .ref (a 2)) C rfl rfl rfl dX5_chosen_17 ?_
      refine G.aload_n C dX5_chosen_20 0 rfl ?_
      refine gfX5_33 (i := 0) (j := 0) (v := .ref (a 8)) C rfl rfl rfl dX5_chosen_21 ?_
      refine G.iload_n C dX5_chosen_24 3 rfl ?_
      refine G.iald (i := 0) (j := 8) (f := (v 8)) C rfl rfl h dX5_chosen_25 (fun h => ?_)
      refine G.iald (i := 0) (j := 2) (f := (v 2)) C rfl rfl h dX5_chosen_26 (fun h => ?_)
      obtain ⟨q27, hq27, h⟩ := bind_some' h
      refine G.cvI (i0 := 0) (j0 := 0) (cs' := [wStage t a v]) C (c_X5_wanting (a := a) hq27) [0] rfl rfl rfl rfl rfl rfl rfl k_650 cal_X5_wanting (fit_rm (by decide) (by decide)) rfl (Nat.le_of_ble_eq_true rfl) dX5_chosen_27 ?_
      refine G.istore (lv' := [(4, .int q27), (0, .ref (a 0)), (1, .int x1), (2, .int x2), (3, .int x3)]) C dX5_chosen_30 (by decide) rfl ?_
      refine G.iload C dX5_chosen_32 0 rfl ?_
      refine G.iload_n C dX5_chosen_34 3 rfl ?_
      refine jn_use (fun J => ∀ (x1_48 : Int32) (x2_48 : Int32), J x1_48 x2_48 = some r → G X [wStage t a v] 48 [(0, .ref (a 0)), (1, .int x1_48), (2, .int x2_48), (3, .int x3)] []) h ?_ (fun J48 hJ48 h => ?_)
      · intro x1_48 x2_48 h
        refine G.iinc (v := (x3 + (1 : Int32))) (lv' := [(3, .int (x3 + (1 : Int32))), (0, .ref (a 0)), (1, .int x1_48), (2, .int x2_48)]) C dX5_chosen_48 3 rfl (by rw [ni_1]) (by decide) rfl ?_
        refine G.goto (tgt := 7) C dX5_chosen_51 (by decide) ?_
        exact G.lvs [1, 2, 3, 0] rfl (ih _ _ _ h)
      refine G.icmp_le (tgt := 48) C dX5_chosen_35 (by decide) h (fun h => ?_) (fun h => ?_)
      · exact G.lvs [1, 2, 3, 4] rfl (hJ48 _ _ h)
      · refine G.iload C dX5_chosen_38 0 rfl ?_
        refine G.istore_n (lv' := [(2, .int q27), (4, .int q27), (0, .ref (a 0)), (1, .int x1), (3, .int x3)]) C dX5_chosen_40 (by decide) rfl ?_
        refine G.aload_n C dX5_chosen_41 2 rfl ?_
        refine gfX5_33 (i := 0) (j := 0) (v := .ref (a 8)) C rfl rfl rfl dX5_chosen_42 ?_
        refine G.iload_n C dX5_chosen_45 4 rfl ?_
        refine G.iald (i := 0) (j := 8) (f := (v 8)) C rfl rfl h dX5_chosen_46 (fun h => ?_)
        refine G.istore_n (lv' := [(1, .int ((v 8) (x3.toNatClampNeg))), (2, .int q27), (4, .int q27), (0, .ref (a 0)), (3, .int x3)]) C dX5_chosen_47 (by decide) rfl ?_
        exact G.lvs [3, 0, 1, 4] rfl (hJ48 _ _ h)
set_option maxHeartbeats 2000000 in
set_option maxRecDepth 20000 in
theorem c_X5_chosen {t : Nat → ClassId} {a : Nat → Nat} {N : Nat} {v : SV} {r : Int32} (h : F_X5_chosen N v = some r) : CI t yX5_chosen cX5_chosen 5 (some .int) (rm 2) [.ref (a 0)] [wStage t a v] r [wStage t a v] := by
  refine CI.of (own := RX5) (by decide) rfl (Nat.le_of_ble_eq_true rfl) (fun X C hR0 => ?_)
  have hR : ∀ q : Int32, q = r → RetI X cX5_chosen q [wStage t a v] := by intro q e; subst e; exact hR0
  show G X [wStage t a v] 0 [(0, .ref (a 0))] []
  unfold F_X5_chosen at h
  refine G.ldc C k_649 dX5_chosen_0 ?_
  refine G.istore_n (lv' := [(1, .int (-1000000 : Int32)), (0, .ref (a 0))]) C dX5_chosen_2 (by decide) rfl ?_
  refine G.iconst C dX5_chosen_3 ni_m1 ?_
  refine G.istore_n (lv' := [(2, .int (-1 : Int32)), (1, .int (-1000000 : Int32)), (0, .ref (a 0))]) C dX5_chosen_4 (by decide) rfl ?_
  refine G.iconst C dX5_chosen_5 ni_0 ?_
  refine G.istore_n (lv' := [(3, .int (0 : Int32)), (2, .int (-1 : Int32)), (1, .int (-1000000 : Int32)), (0, .ref (a 0))]) C dX5_chosen_6 (by decide) rfl ?_
  exact G.lvs [3, 2, 1, 0] rfl (w_X5_chosen_L7 C hR N _ _ _ h)
set_option maxHeartbeats 2000000 in
set_option maxRecDepth 20000 in
theorem w_X5_lendPatience_L2 {X : Cx} {t : Nat → ClassId} {a : Nat → Nat} {N : Nat} {r : SV} (C : gX X t (rm 1) cX5_lendPatience 2 RX5) (hR : ∀ q : SV, q = r → RetV X cX5_lendPatience [wStage t a q]) : ∀ (n : Nat) (x1 : Int32) (v : SV), F_X5_lendPatience_L2 N  n x1 v = some r → G X [wStage t a v] 2 [(0, .ref (a 0)), (1, .int x1)] [] := by
  intro n
  induction n with
  | zero => intro x1 v h; exact absurd h (by simp [F_X5_lendPatience_L2])
  | succ n ih =>
    intro x1 v h
    rw [F_X5_lendPatience_L2] at h
    refine G.iload_n C dX5_lendPatience_2 1 rfl ?_
    refine G.aload_n C dX5_lendPatience_3 0 rfl ?_
    refine gfX5_46 (i := 0) (j := 0) (v := .int (v 0 3)) C rfl rfl rfl dX5_lendPatience_4 ?_
    refine G.icmp_ge (tgt := 47) C dX5_lendPatience_7 (by decide) h (fun h => ?_) (fun h => ?_)
    · exact hR _ (Option.some.inj h) _ _ dX5_lendPatience_47
    · refine G.aload_n C dX5_lendPatience_10 0 rfl ?_
      refine gfX5_30 (i := 0) (j := 0) (v := .ref (a 7)) C rfl rfl rfl dX5_lendPatience_11 ?_
      refine G.iload_n C dX5_lendPatience_14 1 rfl ?_
      refine G.iald (i := 0) (j := 7) (f := (v 7)) C rfl rfl h dX5_lendPatience_15 (fun h => ?_)
      refine jn_use (fun J => ∀ (v_41 : SV), J v_41 = some r → G X [wStage t a v_41] 41 [(0, .ref (a 0)), (1, .int x1)] []) h ?_ (fun J41 hJ41 h => ?_)
      · intro v_41 h
        refine G.iinc (v := (x1 + (1 : Int32))) (lv' := [(1, .int (x1 + (1 : Int32))), (0, .ref (a 0))]) C dX5_lendPatience_41 1 rfl (by rw [ni_1]) (by decide) rfl ?_
        refine G.goto (tgt := 2) C dX5_lendPatience_44 (by decide) ?_
        exact G.lvs [1, 0] rfl (ih _ _ h)
      refine G.if_ne (tgt := 41) C dX5_lendPatience_16 (by decide) h (fun h => ?_) (fun h => ?_)
      · exact G.lvs [0, 1] rfl (hJ41 _ h)
      · refine G.aload_n C dX5_lendPatience_19 0 rfl ?_
        refine gfX5_27 (i := 0) (j := 0) (v := .ref (a 6)) C rfl rfl rfl dX5_lendPatience_20 ?_
        refine G.iload_n C dX5_lendPatience_23 1 rfl ?_
        refine G.bipush C dX5_lendPatience_24 nb_99 ?_
        refine G.aload_n C dX5_lendPatience_26 0 rfl ?_
        refine gfX5_27 (i := 0) (j := 0) (v := .ref (a 6)) C rfl rfl rfl dX5_lendPatience_27 ?_
        refine G.iload_n C dX5_lendPatience_30 1 rfl ?_
        refine G.iald (i := 0) (j := 6) (f := (v 6)) C rfl rfl h dX5_lendPatience_31 (fun h => ?_)
        refine G.aload_n C dX5_lendPatience_32 0 rfl ?_
        refine gfX5_40 (i := 0) (j := 0) (v := .int (v 0 1)) C rfl rfl rfl dX5_lendPatience_33 ?_
        refine G.iadd C dX5_lendPatience_36 ?_
        refine G.mmin C k_670 k_513 k_88 k_514 (by decide) (Nat.le_of_ble_eq_true rfl) dX5_lendPatience_37 ?_
        refine G.iast (i := 0) (j := 6) (f := v 6) (cs' := [wStage t a (up2 v 6 (x1.toNatClampNeg) (if (((v 6) (x1.toNatClampNeg)) + (v 0 1)) < (99 : Int32) then (((v 6) (x1.toNatClampNeg)) + (v 0 1)) else (99 : Int32)))]) C rfl rfl h dX5_lendPatience_40 (suStageA_6) rfl (fun h => ?_)
        exact G.lvs [0, 1] rfl (hJ41 _ h)
set_option maxHeartbeats 2000000 in
set_option maxRecDepth 20000 in
theorem c_X5_lendPatience {t : Nat → ClassId} {a : Nat → Nat} {N : Nat} {v : SV} {r : SV} (h : F_X5_lendPatience N v = some r) : CV t yX5_lendPatience cX5_lendPatience 2 none (rm 1) [.ref (a 0)] [wStage t a v] [wStage t a r] := by
  refine CV.of (own := RX5) (by decide) rfl (Nat.le_of_ble_eq_true rfl) (fun X C hR0 => ?_)
  have hR : ∀ q : SV, q = r → RetV X cX5_lendPatience [wStage t a q] := by intro q e; subst e; exact hR0
  show G X [wStage t a v] 0 [(0, .ref (a 0))] []
  unfold F_X5_lendPatience at h
  refine G.iconst C dX5_lendPatience_0 ni_0 ?_
  refine G.istore_n (lv' := [(1, .int (0 : Int32)), (0, .ref (a 0))]) C dX5_lendPatience_1 (by decide) rfl ?_
  exact G.lvs [1, 0] rfl (w_X5_lendPatience_L2 C hR N _ _ h)
set_option maxHeartbeats 2000000 in
set_option maxRecDepth 20000 in
theorem w_X5_gladden_L30 {X : Cx} {t : Nat → ClassId} {a : Nat → Nat} {N : Nat} {x1 : Int32} {x2 : Int32} {r : SV} (C : gX X t (rm 1) cX5_gladden 4 RX5) (hR : ∀ q : SV, q = r → RetV X cX5_gladden [wStage t a q]) : ∀ (n : Nat) (x3 : Int32) (v : SV), F_X5_gladden_L30 N x1 x2 n x3 v = some r → G X [wStage t a v] 30 [(0, .ref (a 0)), (1, .int x1), (2, .int x2), (3, .int x3)] [] := by
  intro n
  induction n with
  | zero => intro x3 v h; exact absurd h (by simp [F_X5_gladden_L30])
  | succ n ih =>
    intro x3 v h
    rw [F_X5_gladden_L30] at h
    refine G.iload_n C dX5_gladden_30 3 rfl ?_
    refine G.aload_n C dX5_gladden_31 0 rfl ?_
    refine gfX5_46 (i := 0) (j := 0) (v := .int (v 0 3)) C rfl rfl rfl dX5_gladden_32 ?_
    refine G.icmp_ge (tgt := 108) C dX5_gladden_35 (by decide) h (fun h => ?_) (fun h => ?_)
    · exact hR _ (Option.some.inj h) _ _ dX5_gladden_108
    · refine G.aload_n C dX5_gladden_38 0 rfl ?_
      refine gfX5_30 (i := 0) (j := 0) (v := .ref (a 7)) C rfl rfl rfl dX5_gladden_39 ?_
      refine G.iload_n C dX5_gladden_42 3 rfl ?_
      refine G.iald (i := 0) (j := 7) (f := (v 7)) C rfl rfl h dX5_gladden_43 (fun h => ?_)
      refine jn_use (fun J => ∀ (v_102 : SV), J v_102 = some r → G X [wStage t a v_102] 102 [(0, .ref (a 0)), (1, .int x1), (2, .int x2), (3, .int x3)] []) h ?_ (fun J102 hJ102 h => ?_)
      · intro v_102 h
        refine G.iinc (v := (x3 + (1 : Int32))) (lv' := [(3, .int (x3 + (1 : Int32))), (0, .ref (a 0)), (1, .int x1), (2, .int x2)]) C dX5_gladden_102 3 rfl (by rw [ni_1]) (by decide) rfl ?_
        refine G.goto (tgt := 30) C dX5_gladden_105 (by decide) ?_
        exact G.lvs [1, 2, 3, 0] rfl (ih _ _ h)
      refine G.if_ne (tgt := 102) C dX5_gladden_44 (by decide) h (fun h => ?_) (fun h => ?_)
      · exact G.lvs [0, 1, 2, 3] rfl (hJ102 _ h)
      · refine G.aload_n C dX5_gladden_47 0 rfl ?_
        refine gfX5_24 (i := 0) (j := 0) (v := .ref (a 5)) C rfl rfl rfl dX5_gladden_48 ?_
        refine G.iload_n C dX5_gladden_51 3 rfl ?_
        refine G.iald (i := 0) (j := 5) (f := (v 5)) C rfl rfl h dX5_gladden_52 (fun h => ?_)
        refine G.aload_n C dX5_gladden_53 0 rfl ?_
        refine gfX5_15 (i := 0) (j := 0) (v := .ref (a 2)) C rfl rfl rfl dX5_gladden_54 ?_
        refine G.iload_n C dX5_gladden_57 1 rfl ?_
        refine G.iald (i := 0) (j := 2) (f := (v 2)) C rfl rfl h dX5_gladden_58 (fun h => ?_)
        refine G.icmp_ne (tgt := 102) C dX5_gladden_59 (by decide) h (fun h => ?_) (fun h => ?_)
        · exact G.lvs [0, 1, 2, 3] rfl (hJ102 _ h)
        · refine G.aload_n C dX5_gladden_62 0 rfl ?_
          refine gfX5_30 (i := 0) (j := 0) (v := .ref (a 7)) C rfl rfl rfl dX5_gladden_63 ?_
          refine G.iload_n C dX5_gladden_66 3 rfl ?_
          refine G.iconst C dX5_gladden_67 ni_1 ?_
          refine G.iast (i := 0) (j := 7) (f := v 7) (cs' := [wStage t a (up2 v 7 (x3.toNatClampNeg) (1 : Int32))]) C rfl rfl h dX5_gladden_68 (suStageA_7) rfl (fun h => ?_)
          refine G.aload_n C dX5_gladden_69 0 rfl ?_
          refine G.dup C dX5_gladden_70 rfl ?_
          refine gfX5_94 (i := 0) (j := 0) (v := .int (v 0 8)) C rfl rfl rfl dX5_gladden_71 ?_
          refine G.iconst C dX5_gladden_74 ni_1 ?_
          refine G.iload_n C dX5_gladden_75 3 rfl ?_
          refine G.ishl C dX5_gladden_76 ?_
          refine G.ior C dX5_gladden_77 ?_
          refine pfX5_94 (i := 0) (j := 0) (cs' := [wStage t a (up2 (up2 v 7 (x3.toNatClampNeg) (1 : Int32)) 0 8 ((v 0 8) ||| ((1 : Int32) <<< (x3 &&& 31))))]) C rfl rfl (Nat.le_of_ble_eq_true rfl) dX5_gladden_78 (suStage_8) rfl ?_
          refine G.aload_n C dX5_gladden_81 0 rfl ?_
          refine G.dup C dX5_gladden_82 rfl ?_
          refine gfX5_97 (i := 0) (j := 0) (v := .int (v 0 9)) C rfl rfl rfl dX5_gladden_83 ?_
          refine G.iload_n C dX5_gladden_86 2 rfl ?_
          refine G.iadd C dX5_gladden_87 ?_
          refine pfX5_97 (i := 0) (j := 0) (cs' := [wStage t a (up2 (up2 (up2 v 7 (x3.toNatClampNeg) (1 : Int32)) 0 8 ((v 0 8) ||| ((1 : Int32) <<< (x3 &&& 31)))) 0 9 ((v 0 9) + x2))]) C rfl rfl (Nat.le_of_ble_eq_true rfl) dX5_gladden_88 (suStage_9) rfl ?_
          refine G.aload_n C dX5_gladden_91 0 rfl ?_
          refine gfX5_11 (i := 0) (j := 0) (v := .ref (a 1)) C rfl rfl rfl dX5_gladden_92 ?_
          refine G.iload_n C dX5_gladden_95 1 rfl ?_
          refine G.iald (i := 0) (j := 1) (f := (v 1)) C rfl rfl h dX5_gladden_96 (fun h => ?_)
          refine G.iconst C dX5_gladden_97 ni_3 ?_
          refine G.icmp_eq (tgt := 102) C dX5_gladden_98 (by decide) h (fun h => ?_) (fun h => ?_)
          · exact G.lvs [0, 1, 2, 3] rfl (hJ102 _ h)
          · exact hR _ (Option.some.inj h) _ _ dX5_gladden_101
set_option maxHeartbeats 2000000 in
set_option maxRecDepth 20000 in
theorem c_X5_gladden {t : Nat → ClassId} {a : Nat → Nat} {N : Nat} {v : SV} {x1 : Int32} {r : SV} (h : F_X5_gladden N v x1 = some r) : CV t yX5_gladden cX5_gladden 4 none (rm 1) [.ref (a 0), .int x1] [wStage t a v] [wStage t a r] := by
  refine CV.of (own := RX5) (by decide) rfl (Nat.le_of_ble_eq_true rfl) (fun X C hR0 => ?_)
  have hR : ∀ q : SV, q = r → RetV X cX5_gladden [wStage t a q] := by intro q e; subst e; exact hR0
  show G X [wStage t a v] 0 [(0, .ref (a 0)), (1, .int x1)] []
  unfold F_X5_gladden at h
  refine G.aload_n C dX5_gladden_0 0 rfl ?_
  refine gfX5_11 (i := 0) (j := 0) (v := .ref (a 1)) C rfl rfl rfl dX5_gladden_1 ?_
  refine G.iload_n C dX5_gladden_4 1 rfl ?_
  refine G.iald (i := 0) (j := 1) (f := (v 1)) C rfl rfl h dX5_gladden_5 (fun h => ?_)
  refine G.iconst C dX5_gladden_6 ni_2 ?_
  refine jn_use (fun J => ∀ (s27_0 : Int32), J s27_0 = some r → G X [wStage t a v] 27 [(0, .ref (a 0)), (1, .int x1)] [.int s27_0]) h ?_ (fun J27 hJ27 h => ?_)
  · intro s27_0 h
    refine G.istore_n (lv' := [(2, .int s27_0), (0, .ref (a 0)), (1, .int x1)]) C dX5_gladden_27 (by decide) rfl ?_
    refine G.iconst C dX5_gladden_28 ni_0 ?_
    refine G.istore_n (lv' := [(3, .int (0 : Int32)), (2, .int s27_0), (0, .ref (a 0)), (1, .int x1)]) C dX5_gladden_29 (by decide) rfl ?_
    exact G.lvs [2, 3, 1, 0] rfl (w_X5_gladden_L30 C hR N _ _ h)
  refine G.icmp_ne (tgt := 21) C dX5_gladden_7 (by decide) h (fun h => ?_) (fun h => ?_)
  · refine G.aload_n C dX5_gladden_21 0 rfl ?_
    refine gfX5_21 (i := 0) (j := 0) (v := .ref (a 4)) C rfl rfl rfl dX5_gladden_22 ?_
    refine G.iload_n C dX5_gladden_25 1 rfl ?_
    refine G.iald (i := 0) (j := 4) (f := (v 4)) C rfl rfl h dX5_gladden_26 (fun h => ?_)
    exact G.lvs [0, 1] rfl (hJ27 _ h)
  · refine G.iconst C dX5_gladden_10 ni_2 ?_
    refine G.aload_n C dX5_gladden_11 0 rfl ?_
    refine gfX5_21 (i := 0) (j := 0) (v := .ref (a 4)) C rfl rfl rfl dX5_gladden_12 ?_
    refine G.iload_n C dX5_gladden_15 1 rfl ?_
    refine G.iald (i := 0) (j := 4) (f := (v 4)) C rfl rfl h dX5_gladden_16 (fun h => ?_)
    refine G.imul C dX5_gladden_17 ?_
    refine G.goto (tgt := 27) C dX5_gladden_18 (by decide) ?_
    exact G.lvs [0, 1] rfl (hJ27 _ h)
set_option maxHeartbeats 2000000 in
set_option maxRecDepth 20000 in
theorem w_X5_passTime_L2 {X : Cx} {t : Nat → ClassId} {a : Nat → Nat} {N : Nat} {K55 : SV → Option (SV)} {r : SV} (C : gX X t (rm 1) cX5_passTime 2 RX5) (hR : ∀ q : SV, q = r → RetV X cX5_passTime [wStage t a q]) (hK55 : ∀ (v_55 : SV), K55 v_55 = some r → G X [wStage t a v_55] 55 [(0, .ref (a 0))] []) : ∀ (n : Nat) (x1 : Int32) (v : SV), F_X5_passTime_L2 N K55 n x1 v = some r → G X [wStage t a v] 2 [(0, .ref (a 0)), (1, .int x1)] [] := by
  intro n
  induction n with
  | zero => intro x1 v h; exact absurd h (by simp [F_X5_passTime_L2])
  | succ n ih =>
    intro x1 v h
    rw [F_X5_passTime_L2] at h
    refine G.iload_n C dX5_passTime_2 1 rfl ?_
    refine G.aload_n C dX5_passTime_3 0 rfl ?_
    refine gfX5_46 (i := 0) (j := 0) (v := .int (v 0 3)) C rfl rfl rfl dX5_passTime_4 ?_
    refine G.icmp_ge (tgt := 55) C dX5_passTime_7 (by decide) h (fun h => ?_) (fun h => ?_)
    · exact G.lvs [0] rfl (hK55 _ h)
    · refine G.aload_n C dX5_passTime_10 0 rfl ?_
      refine gfX5_30 (i := 0) (j := 0) (v := .ref (a 7)) C rfl rfl rfl dX5_passTime_11 ?_
      refine G.iload_n C dX5_passTime_14 1 rfl ?_
      refine G.iald (i := 0) (j := 7) (f := (v 7)) C rfl rfl h dX5_passTime_15 (fun h => ?_)
      refine jn_use (fun J => ∀ (v_49 : SV), J v_49 = some r → G X [wStage t a v_49] 49 [(0, .ref (a 0)), (1, .int x1)] []) h ?_ (fun J49 hJ49 h => ?_)
      · intro v_49 h
        refine G.iinc (v := (x1 + (1 : Int32))) (lv' := [(1, .int (x1 + (1 : Int32))), (0, .ref (a 0))]) C dX5_passTime_49 1 rfl (by rw [ni_1]) (by decide) rfl ?_
        refine G.goto (tgt := 2) C dX5_passTime_52 (by decide) ?_
        exact G.lvs [1, 0] rfl (ih _ _ h)
      refine G.if_ne (tgt := 49) C dX5_passTime_16 (by decide) h (fun h => ?_) (fun h => ?_)
      · exact G.lvs [0, 1] rfl (hJ49 _ h)
      · refine G.aload_n C dX5_passTime_19 0 rfl ?_
        refine gfX5_27 (i := 0) (j := 0) (v := .ref (a 6)) C rfl rfl rfl dX5_passTime_20 ?_
        refine G.iload_n C dX5_passTime_23 1 rfl ?_
        refine G.dup2 C dX5_passTime_24 rfl rfl ?_
        refine G.iald (i := 0) (j := 6) (f := (v 6)) C rfl rfl h dX5_passTime_25 (fun h => ?_)
        refine G.iconst C dX5_passTime_26 ni_1 ?_
        refine G.isub C dX5_passTime_27 ?_
        refine G.iast (i := 0) (j := 6) (f := v 6) (cs' := [wStage t a (up2 v 6 (x1.toNatClampNeg) (((v 6) (x1.toNatClampNeg)) - (1 : Int32)))]) C rfl rfl h dX5_passTime_28 (suStageA_6) rfl (fun h => ?_)
        refine G.aload_n C dX5_passTime_29 0 rfl ?_
        refine gfX5_30 (i := 0) (j := 0) (v := .ref (a 7)) C rfl rfl rfl dX5_passTime_30 ?_
        refine G.iload_n C dX5_passTime_33 1 rfl ?_
        refine G.aload_n C dX5_passTime_34 0 rfl ?_
        refine gfX5_27 (i := 0) (j := 0) (v := .ref (a 6)) C rfl rfl rfl dX5_passTime_35 ?_
        refine G.iload_n C dX5_passTime_38 1 rfl ?_
        refine G.iald (i := 0) (j := 6) (f := (upd (v 6) (x1.toNatClampNeg) (((v 6) (x1.toNatClampNeg)) - (1 : Int32)))) C rfl rfl h dX5_passTime_39 (fun h => ?_)
        refine jn_use (fun J => ∀ (s48_0 : Int32), J s48_0 = some r → G X [wStage t a (up2 v 6 (x1.toNatClampNeg) (((v 6) (x1.toNatClampNeg)) - (1 : Int32)))] 48 [(0, .ref (a 0)), (1, .int x1)] [.int s48_0, .int x1, .ref (a 7)]) h ?_ (fun J48 hJ48 h => ?_)
        · intro s48_0 h
          refine G.iast (i := 0) (j := 7) (f := (up2 v 6 (x1.toNatClampNeg) (((v 6) (x1.toNatClampNeg)) - (1 : Int32))) 7) (cs' := [wStage t a (up2 (up2 v 6 (x1.toNatClampNeg) (((v 6) (x1.toNatClampNeg)) - (1 : Int32))) 7 (x1.toNatClampNeg) s48_0)]) C rfl rfl h dX5_passTime_48 (suStageA_7) rfl (fun h => ?_)
          exact G.lvs [0, 1] rfl (hJ49 _ h)
        refine G.if_le (tgt := 47) C dX5_passTime_40 (by decide) h (fun h => ?_) (fun h => ?_)
        · refine G.iconst C dX5_passTime_47 ni_2 ?_
          exact G.lvs [0, 1] rfl (hJ48 _ h)
        · refine G.iconst C dX5_passTime_43 ni_0 ?_
          refine G.goto (tgt := 48) C dX5_passTime_44 (by decide) ?_
          exact G.lvs [0, 1] rfl (hJ48 _ h)
set_option maxHeartbeats 2000000 in
set_option maxRecDepth 20000 in
theorem c_X5_passTime {t : Nat → ClassId} {a : Nat → Nat} {N : Nat} {v : SV} {r : SV} (h : F_X5_passTime N v = some r) : CV t yX5_passTime cX5_passTime 2 none (rm 1) [.ref (a 0)] [wStage t a v] [wStage t a r] := by
  refine CV.of (own := RX5) (by decide) rfl (Nat.le_of_ble_eq_true rfl) (fun X C hR0 => ?_)
  have hR : ∀ q : SV, q = r → RetV X cX5_passTime [wStage t a q] := by intro q e; subst e; exact hR0
  show G X [wStage t a v] 0 [(0, .ref (a 0))] []
  unfold F_X5_passTime at h
  refine G.iconst C dX5_passTime_0 ni_0 ?_
  refine G.istore_n (lv' := [(1, .int (0 : Int32)), (0, .ref (a 0))]) C dX5_passTime_1 (by decide) rfl ?_
  refine G.lvs [1, 0] rfl (w_X5_passTime_L2 C hR (fun v_55 h => ?_) N _ _ h)
  · refine G.aload_n C dX5_passTime_55 0 rfl ?_
    refine G.dup C dX5_passTime_56 rfl ?_
    refine gfX5_52 (i := 0) (j := 0) (v := .int (v_55 0 5)) C rfl rfl rfl dX5_passTime_57 ?_
    refine G.iconst C dX5_passTime_60 ni_1 ?_
    refine G.iadd C dX5_passTime_61 ?_
    refine pfX5_52 (i := 0) (j := 0) (cs' := [wStage t a (up2 v_55 0 5 ((v_55 0 5) + (1 : Int32)))]) C rfl rfl (Nat.le_of_ble_eq_true rfl) dX5_passTime_62 (suStage_5) rfl ?_
    exact hR _ (Option.some.inj h) _ _ dX5_passTime_65
set_option maxHeartbeats 2000000 in
set_option maxRecDepth 20000 in
theorem c_X5_handUp {t : Nat → ClassId} {a : Nat → Nat} {N : Nat} {v : SV} {x1 : Int32} {r : SV} (h : F_X5_handUp N v x1 = some r) : CV t yX5_handUp cX5_handUp 3 none (rm 2) [.ref (a 0), .int x1] [wStage t a v] [wStage t a r] := by
  refine CV.of (own := RX5) (by decide) rfl (Nat.le_of_ble_eq_true rfl) (fun X C hR0 => ?_)
  have hR : ∀ q : SV, q = r → RetV X cX5_handUp [wStage t a q] := by intro q e; subst e; exact hR0
  show G X [wStage t a v] 0 [(0, .ref (a 0)), (1, .int x1)] []
  unfold F_X5_handUp at h
  refine G.aload_n C dX5_handUp_0 0 rfl ?_
  refine G.iload_n C dX5_handUp_1 1 rfl ?_
  refine pfX5_91 (i := 0) (j := 0) (cs' := [wStage t a (up2 v 0 7 x1)]) C rfl rfl (Nat.le_of_ble_eq_true rfl) dX5_handUp_2 (suStage_7) rfl ?_
  refine G.aload_n C dX5_handUp_5 0 rfl ?_
  refine G.iconst C dX5_handUp_6 ni_0 ?_
  refine pfX5_94 (i := 0) (j := 0) (cs' := [wStage t a (up2 (up2 v 0 7 x1) 0 8 (0 : Int32))]) C rfl rfl (Nat.le_of_ble_eq_true rfl) dX5_handUp_7 (suStage_8) rfl ?_
  refine G.aload_n C dX5_handUp_10 0 rfl ?_
  refine G.iconst C dX5_handUp_11 ni_0 ?_
  refine pfX5_97 (i := 0) (j := 0) (cs' := [wStage t a (up2 (up2 (up2 v 0 7 x1) 0 8 (0 : Int32)) 0 9 (0 : Int32))]) C rfl rfl (Nat.le_of_ble_eq_true rfl) dX5_handUp_12 (suStage_9) rfl ?_
  refine G.aload_n C dX5_handUp_15 0 rfl ?_
  refine G.iload_n C dX5_handUp_16 1 rfl ?_
  obtain ⟨q17, hq17, h⟩ := bind_some' h
  refine G.cvV (i0 := 0) (j0 := 0) (cs' := [wStage t a q17]) C (c_X5_takeOff (a := a) hq17) [0] rfl rfl rfl rfl rfl rfl rfl k_662 cal_X5_takeOff (fit_rm (by decide) (by decide)) rfl (Nat.le_of_ble_eq_true rfl) dX5_handUp_17 ?_
  refine G.aload_n C dX5_handUp_20 0 rfl ?_
  refine gfX5_11 (i := 0) (j := 0) (v := .ref (a 1)) C rfl rfl rfl dX5_handUp_21 ?_
  refine G.iload_n C dX5_handUp_24 1 rfl ?_
  refine G.iald (i := 0) (j := 1) (f := (q17 1)) C rfl rfl h dX5_handUp_25 (fun h => ?_)
  refine G.istore_n (lv' := [(2, .int ((q17 1) (x1.toNatClampNeg))), (0, .ref (a 0)), (1, .int x1)]) C dX5_handUp_26 (by decide) rfl ?_
  refine G.iload_n C dX5_handUp_27 0 rfl ?_
  refine G.iconst C dX5_handUp_28 ni_5 ?_
  refine jn_use (fun J => ∀ (v_70 : SV), J v_70 = some r → G X [wStage t a v_70] 70 [(0, .ref (a 0))] []) h ?_ (fun J70 hJ70 h => ?_)
  · intro v_70 h
    refine G.aload_n C dX5_handUp_70 0 rfl ?_
    refine G.dup C dX5_handUp_71 rfl ?_
    refine gfX5_55 (i := 0) (j := 0) (v := .int (v_70 0 6)) C rfl rfl rfl dX5_handUp_72 ?_
    refine G.aload_n C dX5_handUp_75 0 rfl ?_
    refine gfX5_97 (i := 0) (j := 0) (v := .int (v_70 0 9)) C rfl rfl rfl dX5_handUp_76 ?_
    refine G.iadd C dX5_handUp_79 ?_
    refine pfX5_55 (i := 0) (j := 0) (cs' := [wStage t a (up2 v_70 0 6 ((v_70 0 6) + (v_70 0 9)))]) C rfl rfl (Nat.le_of_ble_eq_true rfl) dX5_handUp_80 (suStage_6) rfl ?_
    refine G.aload_n C dX5_handUp_83 0 rfl ?_
    obtain ⟨q84, hq84, h⟩ := bind_some' h
    refine G.cvV (i0 := 0) (j0 := 0) (cs' := [wStage t a q84]) C (c_X5_passTime (a := a) hq84) [0] rfl rfl rfl rfl rfl rfl rfl k_679 cal_X5_passTime (fit_rm (by decide) (by decide)) rfl (Nat.le_of_ble_eq_true rfl) dX5_handUp_84 ?_
    exact hR _ (Option.some.inj h) _ _ dX5_handUp_87
  refine G.icmp_ne (tgt := 44) C dX5_handUp_29 (by decide) h (fun h => ?_) (fun h => ?_)
  · refine G.iload_n C dX5_handUp_44 0 rfl ?_
    refine G.iconst C dX5_handUp_45 ni_4 ?_
    refine jn_use (fun J => ∀ (u_65 : Unit), J u_65 = some r → G X [wStage t a q17] 65 [(0, .ref (a 0)), (1, .int x1)] []) h ?_ (fun J65 hJ65 h => ?_)
    · intro u_65 h
      refine G.aload_n C dX5_handUp_65 0 rfl ?_
      refine G.iload_n C dX5_handUp_66 1 rfl ?_
      obtain ⟨q67, hq67, h⟩ := bind_some' h
      refine G.cvV (i0 := 0) (j0 := 0) (cs' := [wStage t a q67]) C (c_X5_gladden (a := a) hq67) [0] rfl rfl rfl rfl rfl rfl rfl k_675 cal_X5_gladden (fit_rm (by decide) (by decide)) rfl (Nat.le_of_ble_eq_true rfl) dX5_handUp_67 ?_
      exact G.lvs [0] rfl (hJ70 _ h)
    refine G.icmp_ne (tgt := 65) C dX5_handUp_46 (by decide) h (fun h => ?_) (fun h => ?_)
    · exact G.lvs [1, 2] rfl (hJ65 _ h)
    · refine G.aload_n C dX5_handUp_49 1 rfl ?_
      refine G.iconst C dX5_handUp_50 ni_1 ?_
      obtain ⟨q51, hq51, h⟩ := bind_some' h
      refine G.cvI (i0 := 0) (j0 := 0) (cs' := [wStage t a q17]) C (c_X5_seatsThat (a := a) hq51) [0] rfl rfl rfl rfl rfl rfl rfl k_671 cal_X5_seatsThat (fit_rm (by decide) (by decide)) rfl (Nat.le_of_ble_eq_true rfl) dX5_handUp_51 ?_
      refine G.if_ne (tgt := 65) C dX5_handUp_54 (by decide) h (fun h => ?_) (fun h => ?_)
      · exact G.lvs [1, 2] rfl (hJ65 _ h)
      · refine G.aload_n C dX5_handUp_57 1 rfl ?_
        refine G.iload_n C dX5_handUp_58 2 rfl ?_
        obtain ⟨q59, hq59, h⟩ := bind_some' h
        refine G.cvV (i0 := 0) (j0 := 0) (cs' := [wStage t a q59]) C (c_X5_putLast (a := a) hq59) [0] rfl rfl rfl rfl rfl rfl rfl k_571 cal_X5_putLast (fit_rm (by decide) (by decide)) rfl (Nat.le_of_ble_eq_true rfl) dX5_handUp_59 ?_
        refine G.goto (tgt := 70) C dX5_handUp_62 (by decide) ?_
        exact G.lvs [1] rfl (hJ70 _ h)
  · refine G.aload_n C dX5_handUp_32 1 rfl ?_
    refine G.iload_n C dX5_handUp_33 2 rfl ?_
    obtain ⟨q34, hq34, h⟩ := bind_some' h
    refine G.cvV (i0 := 0) (j0 := 0) (cs' := [wStage t a q34]) C (c_X5_putLast (a := a) hq34) [0] rfl rfl rfl rfl rfl rfl rfl k_571 cal_X5_putLast (fit_rm (by decide) (by decide)) rfl (Nat.le_of_ble_eq_true rfl) dX5_handUp_34 ?_
    refine G.aload_n C dX5_handUp_37 1 rfl ?_
    obtain ⟨q38, hq38, h⟩ := bind_some' h
    refine G.cvV (i0 := 0) (j0 := 0) (cs' := [wStage t a q38]) C (c_X5_lendPatience (a := a) hq38) [0] rfl rfl rfl rfl rfl rfl rfl k_666 cal_X5_lendPatience (fit_rm (by decide) (by decide)) rfl (Nat.le_of_ble_eq_true rfl) dX5_handUp_38 ?_
    refine G.goto (tgt := 70) C dX5_handUp_41 (by decide) ?_
    exact G.lvs [1] rfl (hJ70 _ h)
set_option maxHeartbeats 2000000 in
set_option maxRecDepth 20000 in
theorem c_X5_tapOnce {t : Nat → ClassId} {a : Nat → Nat} {N : Nat} {v : SV} {r : SV} (h : F_X5_tapOnce N v = some r) : CV t yX5_tapOnce cX5_tapOnce 2 none (rm 3) [.ref (a 0)] [wStage t a v] [wStage t a r] := by
  refine CV.of (own := RX5) (by decide) rfl (Nat.le_of_ble_eq_true rfl) (fun X C hR0 => ?_)
  have hR : ∀ q : SV, q = r → RetV X cX5_tapOnce [wStage t a q] := by intro q e; subst e; exact hR0
  show G X [wStage t a v] 0 [(0, .ref (a 0))] []
  unfold F_X5_tapOnce at h
  refine G.aload_n C dX5_tapOnce_0 0 rfl ?_
  obtain ⟨q1, hq1, h⟩ := bind_some' h
  refine G.cvI (i0 := 0) (j0 := 0) (cs' := [wStage t a v]) C (c_X5_chosen (a := a) hq1) [0] rfl rfl rfl rfl rfl rfl rfl k_645 cal_X5_chosen (fit_rm (by decide) (by decide)) rfl (Nat.le_of_ble_eq_true rfl) dX5_tapOnce_1 ?_
  refine G.istore_n (lv' := [(1, .int q1), (0, .ref (a 0))]) C dX5_tapOnce_4 (by decide) rfl ?_
  refine G.aload_n C dX5_tapOnce_5 1 rfl ?_
  refine G.iload_n C dX5_tapOnce_6 0 rfl ?_
  obtain ⟨q7, hq7, h⟩ := bind_some' h
  refine G.cvI (i0 := 0) (j0 := 0) (cs' := [wStage t a v]) C (c_X5_isThing (a := a) hq7) [0] rfl rfl rfl rfl rfl rfl rfl k_654 cal_X5_isThing (fit_rm (by decide) (by decide)) rfl (Nat.le_of_ble_eq_true rfl) dX5_tapOnce_7 ?_
  refine G.if_eq (tgt := 21) C dX5_tapOnce_10 (by decide) h (fun h => ?_) (fun h => ?_)
  · refine G.aload_n C dX5_tapOnce_21 1 rfl ?_
    refine G.ldc C k_649 dX5_tapOnce_22 ?_
    refine pfX5_91 (i := 0) (j := 0) (cs' := [wStage t a (up2 v 0 7 (-1000000 : Int32))]) C rfl rfl (Nat.le_of_ble_eq_true rfl) dX5_tapOnce_24 (suStage_7) rfl ?_
    refine G.aload_n C dX5_tapOnce_27 1 rfl ?_
    refine G.iconst C dX5_tapOnce_28 ni_0 ?_
    refine pfX5_94 (i := 0) (j := 0) (cs' := [wStage t a (up2 (up2 v 0 7 (-1000000 : Int32)) 0 8 (0 : Int32))]) C rfl rfl (Nat.le_of_ble_eq_true rfl) dX5_tapOnce_29 (suStage_8) rfl ?_
    refine G.aload_n C dX5_tapOnce_32 1 rfl ?_
    refine G.iconst C dX5_tapOnce_33 ni_0 ?_
    refine pfX5_97 (i := 0) (j := 0) (cs' := [wStage t a (up2 (up2 (up2 v 0 7 (-1000000 : Int32)) 0 8 (0 : Int32)) 0 9 (0 : Int32))]) C rfl rfl (Nat.le_of_ble_eq_true rfl) dX5_tapOnce_34 (suStage_9) rfl ?_
    refine G.aload_n C dX5_tapOnce_37 1 rfl ?_
    obtain ⟨q38, hq38, h⟩ := bind_some' h
    refine G.cvV (i0 := 0) (j0 := 0) (cs' := [wStage t a q38]) C (c_X5_passTime (a := a) hq38) [0] rfl rfl rfl rfl rfl rfl rfl k_679 cal_X5_passTime (fit_rm (by decide) (by decide)) rfl (Nat.le_of_ble_eq_true rfl) dX5_tapOnce_38 ?_
    exact hR _ (Option.some.inj h) _ _ dX5_tapOnce_41
  · refine G.aload_n C dX5_tapOnce_13 1 rfl ?_
    refine G.iload_n C dX5_tapOnce_14 0 rfl ?_
    obtain ⟨q15, hq15, h⟩ := bind_some' h
    refine G.cvV (i0 := 0) (j0 := 0) (cs' := [wStage t a q15]) C (c_X5_handUp (a := a) hq15) [0] rfl rfl rfl rfl rfl rfl rfl k_658 cal_X5_handUp (fit_rm (by decide) (by decide)) rfl (Nat.le_of_ble_eq_true rfl) dX5_tapOnce_15 ?_
    refine G.goto (tgt := 41) C dX5_tapOnce_18 (by decide) ?_
    exact hR _ (Option.some.inj h) _ _ dX5_tapOnce_41
set_option maxHeartbeats 2000000 in
set_option maxRecDepth 20000 in
theorem w_X5_tapWhileOneWaits_L2 {X : Cx} {t : Nat → ClassId} {a : Nat → Nat} {N : Nat} {x1 : Int32} {r : SV} (C : gX X t (rm 4) cX5_tapWhileOneWaits 3 RX5) (hR : ∀ q : SV, q = r → RetV X cX5_tapWhileOneWaits [wStage t a q]) : ∀ (n : Nat) (x2 : Int32) (v : SV), F_X5_tapWhileOneWaits_L2 N x1 n x2 v = some r → G X [wStage t a v] 2 [(0, .ref (a 0)), (1, .int x1), (2, .int x2)] [] := by
  intro n
  induction n with
  | zero => intro x2 v h; exact absurd h (by simp [F_X5_tapWhileOneWaits_L2])
  | succ n ih =>
    intro x2 v h
    rw [F_X5_tapWhileOneWaits_L2] at h
    refine G.iload_n C dX5_tapWhileOneWaits_2 2 rfl ?_
    refine G.iload_n C dX5_tapWhileOneWaits_3 1 rfl ?_
    refine G.icmp_ge (tgt := 25) C dX5_tapWhileOneWaits_4 (by decide) h (fun h => ?_) (fun h => ?_)
    · exact hR _ (Option.some.inj h) _ _ dX5_tapWhileOneWaits_25
    · refine G.aload_n C dX5_tapWhileOneWaits_7 0 rfl ?_
      refine G.iconst C dX5_tapWhileOneWaits_8 ni_0 ?_
      obtain ⟨q9, hq9, h⟩ := bind_some' h
      refine G.cvI (i0 := 0) (j0 := 0) (cs' := [wStage t a v]) C (c_X5_seatsThat (a := a) hq9) [0] rfl rfl rfl rfl rfl rfl rfl k_671 cal_X5_seatsThat (fit_rm (by decide) (by decide)) rfl (Nat.le_of_ble_eq_true rfl) dX5_tapWhileOneWaits_9 ?_
      refine G.if_eq (tgt := 25) C dX5_tapWhileOneWaits_12 (by decide) h (fun h => ?_) (fun h => ?_)
      · exact hR _ (Option.some.inj h) _ _ dX5_tapWhileOneWaits_25
      · refine G.aload_n C dX5_tapWhileOneWaits_15 0 rfl ?_
        obtain ⟨q16, hq16, h⟩ := bind_some' h
        refine G.cvV (i0 := 0) (j0 := 0) (cs' := [wStage t a q16]) C (c_X5_tapOnce (a := a) hq16) [0] rfl rfl rfl rfl rfl rfl rfl k_763 cal_X5_tapOnce (fit_rm (by decide) (by decide)) rfl (Nat.le_of_ble_eq_true rfl) dX5_tapWhileOneWaits_16 ?_
        refine G.iinc (v := (x2 + (1 : Int32))) (lv' := [(2, .int (x2 + (1 : Int32))), (0, .ref (a 0)), (1, .int x1)]) C dX5_tapWhileOneWaits_19 2 rfl (by rw [ni_1]) (by decide) rfl ?_
        refine G.goto (tgt := 2) C dX5_tapWhileOneWaits_22 (by decide) ?_
        exact G.lvs [1, 2, 0] rfl (ih _ _ h)
set_option maxHeartbeats 2000000 in
set_option maxRecDepth 20000 in
theorem c_X5_tapWhileOneWaits {t : Nat → ClassId} {a : Nat → Nat} {N : Nat} {v : SV} {x1 : Int32} {r : SV} (h : F_X5_tapWhileOneWaits N v x1 = some r) : CV t yX5_tapWhileOneWaits cX5_tapWhileOneWaits 3 none (rm 4) [.ref (a 0), .int x1] [wStage t a v] [wStage t a r] := by
  refine CV.of (own := RX5) (by decide) rfl (Nat.le_of_ble_eq_true rfl) (fun X C hR0 => ?_)
  have hR : ∀ q : SV, q = r → RetV X cX5_tapWhileOneWaits [wStage t a q] := by intro q e; subst e; exact hR0
  show G X [wStage t a v] 0 [(0, .ref (a 0)), (1, .int x1)] []
  unfold F_X5_tapWhileOneWaits at h
  refine G.iconst C dX5_tapWhileOneWaits_0 ni_0 ?_
  refine G.istore_n (lv' := [(2, .int (0 : Int32)), (0, .ref (a 0)), (1, .int x1)]) C dX5_tapWhileOneWaits_1 (by decide) rfl ?_
  exact G.lvs [1, 2, 0] rfl (w_X5_tapWhileOneWaits_L2 C hR N _ _ h)
set_option maxHeartbeats 2000000 in
set_option maxRecDepth 20000 in
theorem w_X5_sumOver_w_L5 {X : Cx} {t : Nat → ClassId} {a : Nat → Nat} {N : Nat} {v : SV} {x1 : Int32} {r : Int32} (C : gX X t (rm 1) cX5_sumOver 5 RX5) (hR : ∀ q : Int32, q = r → RetI X cX5_sumOver q [wStage t a v]) : ∀ (n : Nat) (x3 : Int32) (x4 : Int32), F_X5_sumOver_w_L5 N v x1 n x3 x4 = some r → G X [wStage t a v] 5 [(0, .ref (a 0)), (1, .int x1), (2, .ref (a 3)), (3, .int x3), (4, .int x4)] [] := by
  intro n
  induction n with
  | zero => intro x3 x4 h; exact absurd h (by simp [F_X5_sumOver_w_L5])
  | succ n ih =>
    intro x3 x4 h
    rw [F_X5_sumOver_w_L5] at h
    refine G.iload C dX5_sumOver_5 4 rfl ?_
    refine G.aload_n C dX5_sumOver_7 0 rfl ?_
    refine gfX5_43 (i := 0) (j := 0) (v := .int (v 0 2)) C rfl rfl rfl dX5_sumOver_8 ?_
    refine G.icmp_ge (tgt := 44) C dX5_sumOver_11 (by decide) h (fun h => ?_) (fun h => ?_)
    · refine G.iload_n C dX5_sumOver_44 3 rfl ?_
      exact hR _ (Option.some.inj h) _ _ dX5_sumOver_45
    · refine G.iload C dX5_sumOver_14 4 rfl ?_
      refine G.aload_n C dX5_sumOver_16 2 rfl ?_
      refine G.alen (i := 0) (j := 3) (v := (6 : Int32)) C rfl rfl (by decide) dX5_sumOver_17 ?_
      refine G.icmp_ge (tgt := 44) C dX5_sumOver_18 (by decide) h (fun h => ?_) (fun h => ?_)
      · refine G.iload_n C dX5_sumOver_44 3 rfl ?_
        exact hR _ (Option.some.inj h) _ _ dX5_sumOver_45
      · refine G.iload_n C dX5_sumOver_21 1 rfl ?_
        refine G.iload C dX5_sumOver_22 4 rfl ?_
        refine G.ishr C dX5_sumOver_24 ?_
        refine G.iconst C dX5_sumOver_25 ni_1 ?_
        refine G.iand C dX5_sumOver_26 ?_
        refine G.iconst C dX5_sumOver_27 ni_1 ?_
        refine jn_use (fun J => ∀ (x3_38 : Int32), J x3_38 = some r → G X [wStage t a v] 38 [(0, .ref (a 0)), (1, .int x1), (2, .ref (a 3)), (3, .int x3_38), (4, .int x4)] []) h ?_ (fun J38 hJ38 h => ?_)
        · intro x3_38 h
          refine G.iinc (v := (x4 + (1 : Int32))) (lv' := [(4, .int (x4 + (1 : Int32))), (0, .ref (a 0)), (1, .int x1), (2, .ref (a 3)), (3, .int x3_38)]) C dX5_sumOver_38 4 rfl (by rw [ni_1]) (by decide) rfl ?_
          refine G.goto (tgt := 5) C dX5_sumOver_41 (by decide) ?_
          exact G.lvs [1, 2, 3, 4, 0] rfl (ih _ _ h)
        refine G.icmp_ne (tgt := 38) C dX5_sumOver_28 (by decide) h (fun h => ?_) (fun h => ?_)
        · exact G.lvs [0, 1, 2, 3, 4] rfl (hJ38 _ h)
        · refine G.iload_n C dX5_sumOver_31 3 rfl ?_
          refine G.aload_n C dX5_sumOver_32 2 rfl ?_
          refine G.iload C dX5_sumOver_33 4 rfl ?_
          refine G.iald (i := 0) (j := 3) (f := (v 3)) C rfl rfl h dX5_sumOver_35 (fun h => ?_)
          refine G.iadd C dX5_sumOver_36 ?_
          refine G.istore_n (lv' := [(3, .int (x3 + ((v 3) (x4.toNatClampNeg)))), (0, .ref (a 0)), (1, .int x1), (2, .ref (a 3)), (4, .int x4)]) C dX5_sumOver_37 (by decide) rfl ?_
          exact G.lvs [1, 2, 3, 0, 4] rfl (hJ38 _ h)
set_option maxHeartbeats 2000000 in
set_option maxRecDepth 20000 in
theorem c_X5_sumOver_w {t : Nat → ClassId} {a : Nat → Nat} {N : Nat} {v : SV} {x1 : Int32} {r : Int32} (h : F_X5_sumOver_w N v x1 = some r) : CI t yX5_sumOver cX5_sumOver 5 (some .int) (rm 1) [.ref (a 0), .int x1, .ref (a 3)] [wStage t a v] r [wStage t a v] := by
  refine CI.of (own := RX5) (by decide) rfl (Nat.le_of_ble_eq_true rfl) (fun X C hR0 => ?_)
  have hR : ∀ q : Int32, q = r → RetI X cX5_sumOver q [wStage t a v] := by intro q e; subst e; exact hR0
  show G X [wStage t a v] 0 [(0, .ref (a 0)), (1, .int x1), (2, .ref (a 3))] []
  unfold F_X5_sumOver_w at h
  refine G.iconst C dX5_sumOver_0 ni_0 ?_
  refine G.istore_n (lv' := [(3, .int (0 : Int32)), (0, .ref (a 0)), (1, .int x1), (2, .ref (a 3))]) C dX5_sumOver_1 (by decide) rfl ?_
  refine G.iconst C dX5_sumOver_2 ni_0 ?_
  refine G.istore (lv' := [(4, .int (0 : Int32)), (3, .int (0 : Int32)), (0, .ref (a 0)), (1, .int x1), (2, .ref (a 3))]) C dX5_sumOver_3 (by decide) rfl ?_
  exact G.lvs [2, 3, 4, 1, 0] rfl (w_X5_sumOver_w_L5 C hR N _ _ h)
set_option maxHeartbeats 2000000 in
set_option maxRecDepth 20000 in
theorem w_X5_sumOver_j_L5 {X : Cx} {t : Nat → ClassId} {a : Nat → Nat} {N : Nat} {v : SV} {x1 : Int32} {r : Int32} (C : gX X t (rm 1) cX5_sumOver 5 RX5) (hR : ∀ q : Int32, q = r → RetI X cX5_sumOver q [wStage t a v]) : ∀ (n : Nat) (x3 : Int32) (x4 : Int32), F_X5_sumOver_j_L5 N v x1 n x3 x4 = some r → G X [wStage t a v] 5 [(0, .ref (a 0)), (1, .int x1), (2, .ref (a 4)), (3, .int x3), (4, .int x4)] [] := by
  intro n
  induction n with
  | zero => intro x3 x4 h; exact absurd h (by simp [F_X5_sumOver_j_L5])
  | succ n ih =>
    intro x3 x4 h
    rw [F_X5_sumOver_j_L5] at h
    refine G.iload C dX5_sumOver_5 4 rfl ?_
    refine G.aload_n C dX5_sumOver_7 0 rfl ?_
    refine gfX5_43 (i := 0) (j := 0) (v := .int (v 0 2)) C rfl rfl rfl dX5_sumOver_8 ?_
    refine G.icmp_ge (tgt := 44) C dX5_sumOver_11 (by decide) h (fun h => ?_) (fun h => ?_)
    · refine G.iload_n C dX5_sumOver_44 3 rfl ?_
      exact hR _ (Option.some.inj h) _ _ dX5_sumOver_45
    · refine G.iload C dX5_sumOver_14 4 rfl ?_
      refine G.aload_n C dX5_sumOver_16 2 rfl ?_
      refine G.alen (i := 0) (j := 4) (v := (6 : Int32)) C rfl rfl (by decide) dX5_sumOver_17 ?_
      refine G.icmp_ge (tgt := 44) C dX5_sumOver_18 (by decide) h (fun h => ?_) (fun h => ?_)
      · refine G.iload_n C dX5_sumOver_44 3 rfl ?_
        exact hR _ (Option.some.inj h) _ _ dX5_sumOver_45
      · refine G.iload_n C dX5_sumOver_21 1 rfl ?_
        refine G.iload C dX5_sumOver_22 4 rfl ?_
        refine G.ishr C dX5_sumOver_24 ?_
        refine G.iconst C dX5_sumOver_25 ni_1 ?_
        refine G.iand C dX5_sumOver_26 ?_
        refine G.iconst C dX5_sumOver_27 ni_1 ?_
        refine jn_use (fun J => ∀ (x3_38 : Int32), J x3_38 = some r → G X [wStage t a v] 38 [(0, .ref (a 0)), (1, .int x1), (2, .ref (a 4)), (3, .int x3_38), (4, .int x4)] []) h ?_ (fun J38 hJ38 h => ?_)
        · intro x3_38 h
          refine G.iinc (v := (x4 + (1 : Int32))) (lv' := [(4, .int (x4 + (1 : Int32))), (0, .ref (a 0)), (1, .int x1), (2, .ref (a 4)), (3, .int x3_38)]) C dX5_sumOver_38 4 rfl (by rw [ni_1]) (by decide) rfl ?_
          refine G.goto (tgt := 5) C dX5_sumOver_41 (by decide) ?_
          exact G.lvs [1, 2, 3, 4, 0] rfl (ih _ _ h)
        refine G.icmp_ne (tgt := 38) C dX5_sumOver_28 (by decide) h (fun h => ?_) (fun h => ?_)
        · exact G.lvs [0, 1, 2, 3, 4] rfl (hJ38 _ h)
        · refine G.iload_n C dX5_sumOver_31 3 rfl ?_
          refine G.aload_n C dX5_sumOver_32 2 rfl ?_
          refine G.iload C dX5_sumOver_33 4 rfl ?_
          refine G.iald (i := 0) (j := 4) (f := (v 4)) C rfl rfl h dX5_sumOver_35 (fun h => ?_)
          refine G.iadd C dX5_sumOver_36 ?_
          refine G.istore_n (lv' := [(3, .int (x3 + ((v 4) (x4.toNatClampNeg)))), (0, .ref (a 0)), (1, .int x1), (2, .ref (a 4)), (4, .int x4)]) C dX5_sumOver_37 (by decide) rfl ?_
          exact G.lvs [1, 2, 3, 0, 4] rfl (hJ38 _ h)
set_option maxHeartbeats 2000000 in
set_option maxRecDepth 20000 in
theorem c_X5_sumOver_j {t : Nat → ClassId} {a : Nat → Nat} {N : Nat} {v : SV} {x1 : Int32} {r : Int32} (h : F_X5_sumOver_j N v x1 = some r) : CI t yX5_sumOver cX5_sumOver 5 (some .int) (rm 1) [.ref (a 0), .int x1, .ref (a 4)] [wStage t a v] r [wStage t a v] := by
  refine CI.of (own := RX5) (by decide) rfl (Nat.le_of_ble_eq_true rfl) (fun X C hR0 => ?_)
  have hR : ∀ q : Int32, q = r → RetI X cX5_sumOver q [wStage t a v] := by intro q e; subst e; exact hR0
  show G X [wStage t a v] 0 [(0, .ref (a 0)), (1, .int x1), (2, .ref (a 4))] []
  unfold F_X5_sumOver_j at h
  refine G.iconst C dX5_sumOver_0 ni_0 ?_
  refine G.istore_n (lv' := [(3, .int (0 : Int32)), (0, .ref (a 0)), (1, .int x1), (2, .ref (a 4))]) C dX5_sumOver_1 (by decide) rfl ?_
  refine G.iconst C dX5_sumOver_2 ni_0 ?_
  refine G.istore (lv' := [(4, .int (0 : Int32)), (3, .int (0 : Int32)), (0, .ref (a 0)), (1, .int x1), (2, .ref (a 4))]) C dX5_sumOver_3 (by decide) rfl ?_
  exact G.lvs [2, 3, 4, 1, 0] rfl (w_X5_sumOver_j_L5 C hR N _ _ h)
set_option maxHeartbeats 2000000 in
set_option maxRecDepth 20000 in
theorem w_X5_listed_L5 {X : Cx} {t : Nat → ClassId} {a : Nat → Nat} {N : Nat} {v : SV} {x1 : Int32} {x2 : Int32} {r : Int32} (C : gX X t (rm 1) cX5_listed 5 RX5) (hR : ∀ q : Int32, q = r → RetI X cX5_listed q [wStage t a v]) : ∀ (n : Nat) (x3 : Int32) (x4 : Int32), F_X5_listed_L5 N v x1 x2 n x3 x4 = some r → G X [wStage t a v] 5 [(0, .ref (a 0)), (1, .int x1), (2, .int x2), (3, .int x3), (4, .int x4)] [] := by
  intro n
  induction n with
  | zero => intro x3 x4 h; exact absurd h (by simp [F_X5_listed_L5])
  | succ n ih =>
    intro x3 x4 h
    rw [F_X5_listed_L5] at h
    refine G.iload C dX5_listed_5 4 rfl ?_
    refine G.aload_n C dX5_listed_7 0 rfl ?_
    refine gfX5_49 (i := 0) (j := 0) (v := .int (v 0 4)) C rfl rfl rfl dX5_listed_8 ?_
    refine G.icmp_ge (tgt := 55) C dX5_listed_11 (by decide) h (fun h => ?_) (fun h => ?_)
    · refine G.iload_n C dX5_listed_55 3 rfl ?_
      exact hR _ (Option.some.inj h) _ _ dX5_listed_56
    · refine G.aload_n C dX5_listed_14 0 rfl ?_
      refine gfX5_15 (i := 0) (j := 0) (v := .ref (a 2)) C rfl rfl rfl dX5_listed_15 ?_
      refine G.aload_n C dX5_listed_18 0 rfl ?_
      refine gfX5_33 (i := 0) (j := 0) (v := .ref (a 8)) C rfl rfl rfl dX5_listed_19 ?_
      refine G.iload C dX5_listed_22 4 rfl ?_
      refine G.iald (i := 0) (j := 8) (f := (v 8)) C rfl rfl h dX5_listed_24 (fun h => ?_)
      refine G.iald (i := 0) (j := 2) (f := (v 2)) C rfl rfl h dX5_listed_25 (fun h => ?_)
      refine G.iload_n C dX5_listed_26 1 rfl ?_
      refine jn_use (fun J => ∀ (x3_49 : Int32), J x3_49 = some r → G X [wStage t a v] 49 [(0, .ref (a 0)), (1, .int x1), (2, .int x2), (3, .int x3_49), (4, .int x4)] []) h ?_ (fun J49 hJ49 h => ?_)
      · intro x3_49 h
        refine G.iinc (v := (x4 + (1 : Int32))) (lv' := [(4, .int (x4 + (1 : Int32))), (0, .ref (a 0)), (1, .int x1), (2, .int x2), (3, .int x3_49)]) C dX5_listed_49 4 rfl (by rw [ni_1]) (by decide) rfl ?_
        refine G.goto (tgt := 5) C dX5_listed_52 (by decide) ?_
        exact G.lvs [1, 2, 3, 4, 0] rfl (ih _ _ h)
      refine G.icmp_ne (tgt := 49) C dX5_listed_27 (by decide) h (fun h => ?_) (fun h => ?_)
      · exact G.lvs [0, 1, 2, 3, 4] rfl (hJ49 _ h)
      · refine G.aload_n C dX5_listed_30 0 rfl ?_
        refine gfX5_11 (i := 0) (j := 0) (v := .ref (a 1)) C rfl rfl rfl dX5_listed_31 ?_
        refine G.aload_n C dX5_listed_34 0 rfl ?_
        refine gfX5_33 (i := 0) (j := 0) (v := .ref (a 8)) C rfl rfl rfl dX5_listed_35 ?_
        refine G.iload C dX5_listed_38 4 rfl ?_
        refine G.iald (i := 0) (j := 8) (f := (v 8)) C rfl rfl h dX5_listed_40 (fun h => ?_)
        refine G.iald (i := 0) (j := 1) (f := (v 1)) C rfl rfl h dX5_listed_41 (fun h => ?_)
        refine G.iload_n C dX5_listed_42 2 rfl ?_
        refine G.icmp_ne (tgt := 49) C dX5_listed_43 (by decide) h (fun h => ?_) (fun h => ?_)
        · exact G.lvs [0, 1, 2, 3, 4] rfl (hJ49 _ h)
        · refine G.iinc (v := (x3 + (1 : Int32))) (lv' := [(3, .int (x3 + (1 : Int32))), (0, .ref (a 0)), (1, .int x1), (2, .int x2), (4, .int x4)]) C dX5_listed_46 3 rfl (by rw [ni_1]) (by decide) rfl ?_
          exact G.lvs [1, 2, 3, 0, 4] rfl (hJ49 _ h)
set_option maxHeartbeats 2000000 in
set_option maxRecDepth 20000 in
theorem c_X5_listed {t : Nat → ClassId} {a : Nat → Nat} {N : Nat} {v : SV} {x1 : Int32} {x2 : Int32} {r : Int32} (h : F_X5_listed N v x1 x2 = some r) : CI t yX5_listed cX5_listed 5 (some .int) (rm 1) [.ref (a 0), .int x1, .int x2] [wStage t a v] r [wStage t a v] := by
  refine CI.of (own := RX5) (by decide) rfl (Nat.le_of_ble_eq_true rfl) (fun X C hR0 => ?_)
  have hR : ∀ q : Int32, q = r → RetI X cX5_listed q [wStage t a v] := by intro q e; subst e; exact hR0
  show G X [wStage t a v] 0 [(0, .ref (a 0)), (1, .int x1), (2, .int x2)] []
  unfold F_X5_listed at h
  refine G.iconst C dX5_listed_0 ni_0 ?_
  refine G.istore_n (lv' := [(3, .int (0 : Int32)), (0, .ref (a 0)), (1, .int x1), (2, .int x2)]) C dX5_listed_1 (by decide) rfl ?_
  refine G.iconst C dX5_listed_2 ni_0 ?_
  refine G.istore (lv' := [(4, .int (0 : Int32)), (3, .int (0 : Int32)), (0, .ref (a 0)), (1, .int x1), (2, .int x2)]) C dX5_listed_3 (by decide) rfl ?_
  exact G.lvs [2, 3, 4, 1, 0] rfl (w_X5_listed_L5 C hR N _ _ h)
set_option maxHeartbeats 2000000 in
set_option maxRecDepth 20000 in
theorem w_X5_givenOf_L4 {X : Cx} {t : Nat → ClassId} {a : Nat → Nat} {N : Nat} {v : SV} {x1 : Int32} {r : Int32} (C : gX X t (rm 2) cX5_givenOf 4 RX5) (hR : ∀ q : Int32, q = r → RetI X cX5_givenOf q [wStage t a v]) : ∀ (n : Nat) (x2 : Int32) (x3 : Int32), F_X5_givenOf_L4 N v x1 n x2 x3 = some r → G X [wStage t a v] 4 [(0, .ref (a 0)), (1, .int x1), (2, .int x2), (3, .int x3)] [] := by
  intro n
  induction n with
  | zero => intro x2 x3 h; exact absurd h (by simp [F_X5_givenOf_L4])
  | succ n ih =>
    intro x2 x3 h
    rw [F_X5_givenOf_L4] at h
    refine G.iload_n C dX5_givenOf_4 3 rfl ?_
    refine G.iconst C dX5_givenOf_5 ni_5 ?_
    refine G.icmp_ge (tgt := 24) C dX5_givenOf_6 (by decide) h (fun h => ?_) (fun h => ?_)
    · refine G.iload_n C dX5_givenOf_24 2 rfl ?_
      exact hR _ (Option.some.inj h) _ _ dX5_givenOf_25
    · refine G.iload_n C dX5_givenOf_9 2 rfl ?_
      refine G.aload_n C dX5_givenOf_10 0 rfl ?_
      refine G.iload_n C dX5_givenOf_11 1 rfl ?_
      refine G.iload_n C dX5_givenOf_12 3 rfl ?_
      obtain ⟨q13, hq13, h⟩ := bind_some' h
      refine G.cvI (i0 := 0) (j0 := 0) (cs' := [wStage t a v]) C (c_X5_listed (a := a) hq13) [0] rfl rfl rfl rfl rfl rfl rfl k_843 cal_X5_listed (fit_rm (by decide) (by decide)) rfl (Nat.le_of_ble_eq_true rfl) dX5_givenOf_13 ?_
      refine G.iadd C dX5_givenOf_16 ?_
      refine G.istore_n (lv' := [(2, .int (x2 + q13)), (0, .ref (a 0)), (1, .int x1), (3, .int x3)]) C dX5_givenOf_17 (by decide) rfl ?_
      refine G.iinc (v := (x3 + (1 : Int32))) (lv' := [(3, .int (x3 + (1 : Int32))), (2, .int (x2 + q13)), (0, .ref (a 0)), (1, .int x1)]) C dX5_givenOf_18 3 rfl (by rw [ni_1]) (by decide) rfl ?_
      refine G.goto (tgt := 4) C dX5_givenOf_21 (by decide) ?_
      exact G.lvs [2, 3, 1, 0] rfl (ih _ _ h)
set_option maxHeartbeats 2000000 in
set_option maxRecDepth 20000 in
theorem c_X5_givenOf {t : Nat → ClassId} {a : Nat → Nat} {N : Nat} {v : SV} {x1 : Int32} {r : Int32} (h : F_X5_givenOf N v x1 = some r) : CI t yX5_givenOf cX5_givenOf 4 (some .int) (rm 2) [.ref (a 0), .int x1] [wStage t a v] r [wStage t a v] := by
  refine CI.of (own := RX5) (by decide) rfl (Nat.le_of_ble_eq_true rfl) (fun X C hR0 => ?_)
  have hR : ∀ q : Int32, q = r → RetI X cX5_givenOf q [wStage t a v] := by intro q e; subst e; exact hR0
  show G X [wStage t a v] 0 [(0, .ref (a 0)), (1, .int x1)] []
  unfold F_X5_givenOf at h
  refine G.iconst C dX5_givenOf_0 ni_0 ?_
  refine G.istore_n (lv' := [(2, .int (0 : Int32)), (0, .ref (a 0)), (1, .int x1)]) C dX5_givenOf_1 (by decide) rfl ?_
  refine G.iconst C dX5_givenOf_2 ni_1 ?_
  refine G.istore_n (lv' := [(3, .int (1 : Int32)), (2, .int (0 : Int32)), (0, .ref (a 0)), (1, .int x1)]) C dX5_givenOf_3 (by decide) rfl ?_
  exact G.lvs [2, 3, 1, 0] rfl (w_X5_givenOf_L4 C hR N _ _ h)
set_option maxHeartbeats 2000000 in
set_option maxRecDepth 20000 in
theorem w_X5_couldBePleased_L4 {X : Cx} {t : Nat → ClassId} {a : Nat → Nat} {N : Nat} {v : SV} {r : Int32} (C : gX X t (rm 3) cX5_couldBePleased 4 RX5) (hR : ∀ q : Int32, q = r → RetI X cX5_couldBePleased q [wStage t a v]) : ∀ (n : Nat) (x1 : Int32) (x2 : Int32), F_X5_couldBePleased_L4 N v n x1 x2 = some r → G X [wStage t a v] 4 [(0, .ref (a 0)), (1, .int x1), (2, .int x2)] [] := by
  intro n
  induction n with
  | zero => intro x1 x2 h; exact absurd h (by simp [F_X5_couldBePleased_L4])
  | succ n ih =>
    intro x1 x2 h
    rw [F_X5_couldBePleased_L4] at h
    refine G.iload_n C dX5_couldBePleased_4 2 rfl ?_
    refine G.bipush C dX5_couldBePleased_5 nb_9 ?_
    refine G.icmp_gt (tgt := 45) C dX5_couldBePleased_7 (by decide) h (fun h => ?_) (fun h => ?_)
    · refine G.iload_n C dX5_couldBePleased_45 1 rfl ?_
      exact hR _ (Option.some.inj h) _ _ dX5_couldBePleased_46
    · refine G.aload_n C dX5_couldBePleased_10 0 rfl ?_
      refine G.iload_n C dX5_couldBePleased_11 2 rfl ?_
      obtain ⟨q12, hq12, h⟩ := bind_some' h
      refine G.cvI (i0 := 0) (j0 := 0) (cs' := [wStage t a v]) C (c_X5_wanting (a := a) hq12) [0] rfl rfl rfl rfl rfl rfl rfl k_650 cal_X5_wanting (fit_rm (by decide) (by decide)) rfl (Nat.le_of_ble_eq_true rfl) dX5_couldBePleased_12 ?_
      refine G.istore_n (lv' := [(3, .int q12), (0, .ref (a 0)), (1, .int x1), (2, .int x2)]) C dX5_couldBePleased_15 (by decide) rfl ?_
      refine G.aload_n C dX5_couldBePleased_16 1 rfl ?_
      refine G.iload_n C dX5_couldBePleased_17 3 rfl ?_
      refine G.iconst C dX5_couldBePleased_18 ni_3 ?_
      obtain ⟨q19, hq19, h⟩ := bind_some' h
      refine G.cvI (i0 := 0) (j0 := 0) (cs' := [wStage t a v]) C (c_X5_listed (a := a) hq19) [0] rfl rfl rfl rfl rfl rfl rfl k_843 cal_X5_listed (fit_rm (by decide) (by decide)) rfl (Nat.le_of_ble_eq_true rfl) dX5_couldBePleased_19 ?_
      refine jn_use (fun J => ∀ (x3_35 : Int32), J x3_35 = some r → G X [wStage t a v] 35 [(0, .ref (a 0)), (1, .int x1), (2, .int x2), (3, .int x3_35)] []) h ?_ (fun J35 hJ35 h => ?_)
      · intro x3_35 h
        refine G.iload_n C dX5_couldBePleased_35 1 rfl ?_
        refine G.iload_n C dX5_couldBePleased_36 3 rfl ?_
        refine G.iadd C dX5_couldBePleased_37 ?_
        refine G.istore_n (lv' := [(1, .int (x1 + x3_35)), (0, .ref (a 0)), (2, .int x2), (3, .int x3_35)]) C dX5_couldBePleased_38 (by decide) rfl ?_
        refine G.iinc (v := (x2 + (1 : Int32))) (lv' := [(2, .int (x2 + (1 : Int32))), (1, .int (x1 + x3_35)), (0, .ref (a 0)), (3, .int x3_35)]) C dX5_couldBePleased_39 2 rfl (by rw [ni_1]) (by decide) rfl ?_
        refine G.goto (tgt := 4) C dX5_couldBePleased_42 (by decide) ?_
        exact G.lvs [2, 1, 0] rfl (ih _ _ h)
      refine G.if_ne (tgt := 35) C dX5_couldBePleased_22 (by decide) h (fun h => ?_) (fun h => ?_)
      · exact G.lvs [1, 2, 3, 0] rfl (hJ35 _ h)
      · refine G.iload_n C dX5_couldBePleased_25 0 rfl ?_
        refine G.aload_n C dX5_couldBePleased_26 1 rfl ?_
        refine G.iload_n C dX5_couldBePleased_27 3 rfl ?_
        obtain ⟨q28, hq28, h⟩ := bind_some' h
        refine G.cvI (i0 := 0) (j0 := 0) (cs' := [wStage t a v]) C (c_X5_givenOf (a := a) hq28) [0] rfl rfl rfl rfl rfl rfl rfl k_847 cal_X5_givenOf (fit_rm (by decide) (by decide)) rfl (Nat.le_of_ble_eq_true rfl) dX5_couldBePleased_28 ?_
        refine G.mmin C k_670 k_513 k_88 k_514 (by decide) (Nat.le_of_ble_eq_true rfl) dX5_couldBePleased_31 ?_
        refine G.istore_n (lv' := [(3, .int (if q28 < q12 then q28 else q12)), (0, .ref (a 0)), (1, .int x1), (2, .int x2)]) C dX5_couldBePleased_34 (by decide) rfl ?_
        exact G.lvs [1, 2, 3, 0] rfl (hJ35 _ h)
set_option maxHeartbeats 2000000 in
set_option maxRecDepth 20000 in
theorem c_X5_couldBePleased {t : Nat → ClassId} {a : Nat → Nat} {N : Nat} {v : SV} {r : Int32} (h : F_X5_couldBePleased N v = some r) : CI t yX5_couldBePleased cX5_couldBePleased 4 (some .int) (rm 3) [.ref (a 0)] [wStage t a v] r [wStage t a v] := by
  refine CI.of (own := RX5) (by decide) rfl (Nat.le_of_ble_eq_true rfl) (fun X C hR0 => ?_)
  have hR : ∀ q : Int32, q = r → RetI X cX5_couldBePleased q [wStage t a v] := by intro q e; subst e; exact hR0
  show G X [wStage t a v] 0 [(0, .ref (a 0))] []
  unfold F_X5_couldBePleased at h
  refine G.iconst C dX5_couldBePleased_0 ni_0 ?_
  refine G.istore_n (lv' := [(1, .int (0 : Int32)), (0, .ref (a 0))]) C dX5_couldBePleased_1 (by decide) rfl ?_
  refine G.iconst C dX5_couldBePleased_2 ni_0 ?_
  refine G.istore_n (lv' := [(2, .int (0 : Int32)), (1, .int (0 : Int32)), (0, .ref (a 0))]) C dX5_couldBePleased_3 (by decide) rfl ?_
  exact G.lvs [2, 1, 0] rfl (w_X5_couldBePleased_L4 C hR N _ _ h)
set_option maxHeartbeats 2000000 in
set_option maxRecDepth 20000 in
theorem w_X5_lackedLabels_L4 {X : Cx} {t : Nat → ClassId} {a : Nat → Nat} {N : Nat} {v : SV} {r : Int32} (C : gX X t (rm 3) cX5_lackedLabels 3 RX5) (hR : ∀ q : Int32, q = r → RetI X cX5_lackedLabels q [wStage t a v]) : ∀ (n : Nat) (x1 : Int32) (x2 : Int32), F_X5_lackedLabels_L4 N v n x1 x2 = some r → G X [wStage t a v] 4 [(0, .ref (a 0)), (1, .int x1), (2, .int x2)] [] := by
  intro n
  induction n with
  | zero => intro x1 x2 h; exact absurd h (by simp [F_X5_lackedLabels_L4])
  | succ n ih =>
    intro x1 x2 h
    rw [F_X5_lackedLabels_L4] at h
    refine G.iload_n C dX5_lackedLabels_4 2 rfl ?_
    refine G.bipush C dX5_lackedLabels_5 nb_9 ?_
    refine G.icmp_gt (tgt := 38) C dX5_lackedLabels_7 (by decide) h (fun h => ?_) (fun h => ?_)
    · refine G.iload_n C dX5_lackedLabels_38 1 rfl ?_
      exact hR _ (Option.some.inj h) _ _ dX5_lackedLabels_39
    · refine G.aload_n C dX5_lackedLabels_10 0 rfl ?_
      refine G.iload_n C dX5_lackedLabels_11 2 rfl ?_
      obtain ⟨q12, hq12, h⟩ := bind_some' h
      refine G.cvI (i0 := 0) (j0 := 0) (cs' := [wStage t a v]) C (c_X5_wanting (a := a) hq12) [0] rfl rfl rfl rfl rfl rfl rfl k_650 cal_X5_wanting (fit_rm (by decide) (by decide)) rfl (Nat.le_of_ble_eq_true rfl) dX5_lackedLabels_12 ?_
      refine jn_use (fun J => ∀ (x1_32 : Int32), J x1_32 = some r → G X [wStage t a v] 32 [(0, .ref (a 0)), (1, .int x1_32), (2, .int x2)] []) h ?_ (fun J32 hJ32 h => ?_)
      · intro x1_32 h
        refine G.iinc (v := (x2 + (1 : Int32))) (lv' := [(2, .int (x2 + (1 : Int32))), (0, .ref (a 0)), (1, .int x1_32)]) C dX5_lackedLabels_32 2 rfl (by rw [ni_1]) (by decide) rfl ?_
        refine G.goto (tgt := 4) C dX5_lackedLabels_35 (by decide) ?_
        exact G.lvs [1, 2, 0] rfl (ih _ _ h)
      refine G.if_le (tgt := 32) C dX5_lackedLabels_15 (by decide) h (fun h => ?_) (fun h => ?_)
      · exact G.lvs [0, 1, 2] rfl (hJ32 _ h)
      · refine G.aload_n C dX5_lackedLabels_18 0 rfl ?_
        refine G.iload_n C dX5_lackedLabels_19 2 rfl ?_
        obtain ⟨q20, hq20, h⟩ := bind_some' h
        refine G.cvI (i0 := 0) (j0 := 0) (cs' := [wStage t a v]) C (c_X5_givenOf (a := a) hq20) [0] rfl rfl rfl rfl rfl rfl rfl k_847 cal_X5_givenOf (fit_rm (by decide) (by decide)) rfl (Nat.le_of_ble_eq_true rfl) dX5_lackedLabels_20 ?_
        refine G.if_ne (tgt := 32) C dX5_lackedLabels_23 (by decide) h (fun h => ?_) (fun h => ?_)
        · exact G.lvs [0, 1, 2] rfl (hJ32 _ h)
        · refine G.iload_n C dX5_lackedLabels_26 1 rfl ?_
          refine G.iconst C dX5_lackedLabels_27 ni_1 ?_
          refine G.iload_n C dX5_lackedLabels_28 2 rfl ?_
          refine G.ishl C dX5_lackedLabels_29 ?_
          refine G.ior C dX5_lackedLabels_30 ?_
          refine G.istore_n (lv' := [(1, .int (x1 ||| ((1 : Int32) <<< (x2 &&& 31)))), (0, .ref (a 0)), (2, .int x2)]) C dX5_lackedLabels_31 (by decide) rfl ?_
          exact G.lvs [1, 0, 2] rfl (hJ32 _ h)
set_option maxHeartbeats 2000000 in
set_option maxRecDepth 20000 in
theorem c_X5_lackedLabels {t : Nat → ClassId} {a : Nat → Nat} {N : Nat} {v : SV} {r : Int32} (h : F_X5_lackedLabels N v = some r) : CI t yX5_lackedLabels cX5_lackedLabels 3 (some .int) (rm 3) [.ref (a 0)] [wStage t a v] r [wStage t a v] := by
  refine CI.of (own := RX5) (by decide) rfl (Nat.le_of_ble_eq_true rfl) (fun X C hR0 => ?_)
  have hR : ∀ q : Int32, q = r → RetI X cX5_lackedLabels q [wStage t a v] := by intro q e; subst e; exact hR0
  show G X [wStage t a v] 0 [(0, .ref (a 0))] []
  unfold F_X5_lackedLabels at h
  refine G.iconst C dX5_lackedLabels_0 ni_0 ?_
  refine G.istore_n (lv' := [(1, .int (0 : Int32)), (0, .ref (a 0))]) C dX5_lackedLabels_1 (by decide) rfl ?_
  refine G.iconst C dX5_lackedLabels_2 ni_0 ?_
  refine G.istore_n (lv' := [(2, .int (0 : Int32)), (1, .int (0 : Int32)), (0, .ref (a 0))]) C dX5_lackedLabels_3 (by decide) rfl ?_
  exact G.lvs [2, 1, 0] rfl (w_X5_lackedLabels_L4 C hR N _ _ h)
