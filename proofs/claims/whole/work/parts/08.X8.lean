def F_X8_in (N : Nat) (x0 : Int64) (x2 : Int64) (x4 : Int64) : Option (Int32) := if (lg_cmp x0 x2) < (0 : Int32) then (some (0 : Int32)) else (if (0 : Int32) < (lg_cmp x0 x4) then (some (0 : Int32)) else (some (1 : Int32)))
def F_X8_has (N : Nat) (x0 : Int32) (x1 : Int32) : Option (Int32) := if ((x0 >>> (x1 &&& 31)) &&& (1 : Int32)) = (1 : Int32) then (some (1 : Int32)) else (some (0 : Int32))
def F_X8_ones_L4 (N : Nat)  : Nat → Int32 → Int32 → Option (Int32)
  | 0, _, _ => none
  | n + 1, x1, x2 => if x2 = (0 : Int32) then (some x1) else (F_X8_ones_L4 N  n (x1 + (1 : Int32)) (x2 &&& (x2 - (1 : Int32))))
def F_X8_ones (N : Nat) (x0 : Int32) : Option (Int32) := F_X8_ones_L4 N N (0 : Int32) x0
def F_X8_find (N : Nat) (v : SV) (x1 : Int32) : Option (Int32 × SV) := some (((-1000010 : Int32) - x1), (up2 v 0 3 x1))
def F_X8_well (N : Nat) (v : SV) (x1 : Int32) : Option (Int32 × SV) := some (x1, (up2 v 0 3 (0 : Int32)))
def F_X8_isRow (N : Nat) (x0 : Int32) : Option (Int32) := (F_X8_in N (x0.toInt64) (0 : Int64) (7 : Int64)).bind (fun q6 => zr q6 (some q6))
def F_X8_row_L55 (N : Nat) (x1 : Int32) (x3 : Int32) (K81 : SV → Option (Int32 × SV)) : Nat → Int32 → SV → Option (Int32 × SV)
  | 0, _, _ => none
  | n + 1, x4, v => if x4 < (40 : Int32) then (chk 320 (((40 : Int32) * x1) + x4) (F_X8_row_L55 N x1 x3 K81 n (x4 + (1 : Int32)) (up2 v 3 ((((40 : Int32) * x1) + x4).toNatClampNeg) (0 : Int32)))) else (K81 v)
def F_X8_row (N : Nat) (v : SV) (x1 : Int32) (x2 : Int32) (x3 : Int32) : Option (Int32 × SV) := (F_X8_isRow N x1).bind (fun q1 => if q1 = (0 : Int32) then (some ((-1000001 : Int32), v)) else ((F_X8_in N (x2.toInt64) (0 : Int64) (2 : Int64)).bind (fun q13 => if q13 = (0 : Int32) then (some ((-1000001 : Int32), v)) else (if (40 : Int32) < x3 then (some ((-1000001 : Int32), v)) else (if x3 < (0 : Int32) then ((F_X8_find N v (4 : Int32)).bind (fun q34 => some ((q34.1), (q34.2)))) else (chk 8 x1 (chk 8 x1 (F_X8_row_L55 N x1 x3 (fun (v_81 : SV) => (F_X8_well N v_81 x3).bind (fun q83 => some ((q83.1), (q83.2)))) N (0 : Int32) (up2 (up2 v 1 (x1.toNatClampNeg) x2) 2 (x1.toNatClampNeg) x3)))))))))
def F_X8_asLane (N : Nat) (x0 : Int32) (x1 : Int32) : Option (Int32) := if x0 = (0 : Int32) then (some ((x1 <<< ((24 : Int32) &&& 31)) >>> ((24 : Int32) &&& 31))) else (if x0 = (1 : Int32) then (some ((x1 <<< ((16 : Int32) &&& 31)) >>> ((16 : Int32) &&& 31))) else (some x1))
def F_X8_set (N : Nat) (v : SV) (x1 : Int32) (x2 : Int32) (x3 : Int32) : Option (Int32 × SV) := (F_X8_isRow N x1).bind (fun q1 => if q1 = (0 : Int32) then (some ((-1000001 : Int32), v)) else (chk 8 x1 (if ((v 2) (x1.toNatClampNeg)) < (0 : Int32) then ((F_X8_find N v (1 : Int32)).bind (fun q21 => some ((q21.1), (q21.2)))) else (chk 8 x1 ((F_X8_in N (x2.toInt64) (0 : Int64) ((((v 2) (x1.toNatClampNeg)) - (1 : Int32)).toInt64)).bind (fun q37 => if q37 = (0 : Int32) then ((F_X8_find N v (2 : Int32)).bind (fun q45 => some ((q45.1), (q45.2)))) else (chk 8 x1 ((F_X8_asLane N ((v 1) (x1.toNatClampNeg)) x3).bind (fun q66 => chk 320 (((40 : Int32) * x1) + x2) (chk 320 (((40 : Int32) * x1) + x2) ((F_X8_well N (up2 v 3 ((((40 : Int32) * x1) + x2).toNatClampNeg) q66) ((upd (v 3) ((((40 : Int32) * x1) + x2).toNatClampNeg) q66) ((((40 : Int32) * x1) + x2).toNatClampNeg))).bind (fun q82 => some ((q82.1), (q82.2))))))))))))))
def F_X8_copy_L117 (N : Nat) (x1 : Int32) (x2 : Int32) (x3 : Int32) (x4 : Int32) (x5 : Int32) (K151 : SV → Option (Int32 × SV)) : Nat → Int32 → SV → Option (Int32 × SV)
  | 0, _, _ => none
  | n + 1, x6, v => if x6 < x5 then (chk 320 ((((40 : Int32) * x1) + x2) + x6) (chk 40 x6 (F_X8_copy_L117 N x1 x2 x3 x4 x5 K151 n (x6 + (1 : Int32)) (up2 v 5 (x6.toNatClampNeg) ((v 3) (((((40 : Int32) * x1) + x2) + x6).toNatClampNeg)))))) else (K151 v)
def F_X8_copy_L154 (N : Nat) (x3 : Int32) (x4 : Int32) (x5 : Int32) (K189 : SV → Option (Int32 × SV)) : Nat → Int32 → SV → Option (Int32 × SV)
  | 0, _, _ => none
  | n + 1, x6, v => if x6 < x5 then (chk 40 x6 (chk 320 ((((40 : Int32) * x3) + x4) + x6) (F_X8_copy_L154 N x3 x4 x5 K189 n (x6 + (1 : Int32)) (up2 v 3 (((((40 : Int32) * x3) + x4) + x6).toNatClampNeg) ((v 5) (x6.toNatClampNeg)))))) else (K189 v)
def F_X8_copy (N : Nat) (v : SV) (x1 : Int32) (x2 : Int32) (x3 : Int32) (x4 : Int32) (x5 : Int32) : Option (Int32 × SV) := (F_X8_isRow N x1).bind (fun q1 => if q1 = (0 : Int32) then (some ((-1000001 : Int32), v)) else ((F_X8_isRow N x3).bind (fun q8 => if q8 = (0 : Int32) then (some ((-1000001 : Int32), v)) else (chk 8 x1 (jn (fun (u_35 : Unit) => (F_X8_find N v (1 : Int32)).bind (fun q37 => some ((q37.1), (q37.2)))) (fun J35 => if ((v 2) (x1.toNatClampNeg)) < (0 : Int32) then (J35 ()) else (chk 8 x3 (if ((v 2) (x3.toNatClampNeg)) < (0 : Int32) then (J35 ()) else (chk 8 x1 (chk 8 x3 (if ((v 1) (x1.toNatClampNeg)) = ((v 1) (x3.toNatClampNeg)) then (jn (fun (u_108 : Unit) => (F_X8_find N v (2 : Int32)).bind (fun q110 => some ((q110.1), (q110.2)))) (fun J108 => if x5 < (0 : Int32) then (J108 ()) else (chk 8 x1 ((F_X8_in N (x2.toInt64) (0 : Int64) ((((v 2) (x1.toNatClampNeg)).toInt64) - (x5.toInt64))).bind (fun q81 => if q81 = (0 : Int32) then (J108 ()) else (chk 8 x3 ((F_X8_in N (x4.toInt64) (0 : Int64) ((((v 2) (x3.toNatClampNeg)).toInt64) - (x5.toInt64))).bind (fun q102 => if q102 = (0 : Int32) then (J108 ()) else (F_X8_copy_L117 N x1 x2 x3 x4 x5 (fun (v_151 : SV) => F_X8_copy_L154 N x3 x4 x5 (fun (v_189 : SV) => (F_X8_well N v_189 x5).bind (fun q192 => some ((q192.1), (q192.2)))) N (0 : Int32) v_151) N (0 : Int32) v))))))))) else ((F_X8_find N v (5 : Int32)).bind (fun q58 => some ((q58.1), (q58.2)))))))))))))))
def F_X8_drop (N : Nat) (v : SV) (x1 : Int32) : Option (Int32 × SV) := (F_X8_isRow N x1).bind (fun q1 => if q1 = (0 : Int32) then (some ((-1000001 : Int32), v)) else (chk 8 x1 (if ((v 2) (x1.toNatClampNeg)) < (0 : Int32) then ((F_X8_find N v (1 : Int32)).bind (fun q21 => some ((q21.1), (q21.2)))) else (chk 8 x1 (chk 8 x1 ((F_X8_well N (up2 v 2 (x1.toNatClampNeg) (-1 : Int32)) ((v 2) (x1.toNatClampNeg))).bind (fun q41 => some ((q41.1), (q41.2)))))))))
def F_X8_feed (N : Nat) (v : SV) (x1 : Int32) : Option (Int32 × SV) := (F_X8_in N (x1.toInt64) (0 : Int64) (255 : Int64)).bind (fun q6 => if q6 = (0 : Int32) then (some ((-1000001 : Int32), v)) else (if (v 0 8) = (120 : Int32) then (some ((-1000003 : Int32), v)) else (chk 120 (v 0 8) (some (((v 0 8) + (1 : Int32)), (up2 (up2 v 6 ((v 0 8).toNatClampNeg) x1) 0 8 ((v 0 8) + (1 : Int32))))))))
def F_X8_nextToken_L33 (N : Nat)  (K119 : SV → Option (SV)) : Nat → SV → Option (SV)
  | 0, _ => none
  | n + 1, v => if (v 0 10) < (v 0 8) then (chk 120 (v 0 10) ((F_X8_in N (((v 6) ((v 0 10).toNatClampNeg)).toInt64) (48 : Int64) (57 : Int64)).bind (fun q60 => if q60 = (0 : Int32) then (K119 v) else (jn (fun (s103_0 : Int32) => F_X8_nextToken_L33 N K119 n (up2 (up2 v 0 12 s103_0) 0 10 ((v 0 10) + (1 : Int32)))) (fun J103 => if (99 : Int32) < (v 0 12) then (J103 (v 0 12)) else (chk 120 (v 0 10) (J103 ((((10 : Int32) * (v 0 12)) + ((v 6) ((v 0 10).toNatClampNeg))) - (48 : Int32))))))))) else (K119 v)
def F_X8_nextToken (N : Nat) (v : SV) : Option (SV) := jn (fun (s25_0 : Int32) => F_X8_nextToken_L33 N (fun (v_119 : SV) => if (v_119 0 13) < (v_119 0 10) then (jn (fun (s149_0 : Int32) => some (up2 v_119 0 11 s149_0)) (fun J149 => if (2 : Int32) < ((v_119 0 10) - (v_119 0 13)) then (J149 (0 : Int32)) else (J149 (2 : Int32)))) else (if (v_119 0 11) = (0 : Int32) then (chk 120 (v_119 0 10) ((F_X8_in N (((v_119 6) ((v_119 0 10).toNatClampNeg)).toInt64) (97 : Int64) (122 : Int64)).bind (fun q187 => jn (fun (s216_0 : Int32) => some (up2 (up2 (up2 v_119 0 12 ((v_119 6) ((v_119 0 10).toNatClampNeg))) 0 11 s216_0) 0 10 ((v_119 0 10) + (1 : Int32)))) (fun J216 => jn (fun (u_211 : Unit) => J216 (1 : Int32)) (fun J211 => if q187 = (0 : Int32) then (if ((v_119 6) ((v_119 0 10).toNatClampNeg)) = (44 : Int32) then (J211 ()) else (if ((v_119 6) ((v_119 0 10).toNatClampNeg)) = (59 : Int32) then (J211 ()) else (J216 (0 : Int32)))) else (J211 ())))))) else (some v_119))) N (up2 (up2 (up2 v 0 13 (v 0 10)) 0 11 s25_0) 0 12 (0 : Int32))) (fun J25 => if (v 0 10) = (v 0 8) then (J25 (3 : Int32)) else (J25 (0 : Int32)))
def F_X8_faults (N : Nat) (v : SV) (x1 : Int32) : Option (Int32 × SV) := some ((0 : Int32), (up2 v 0 14 x1))
def F_X8_isLetter (N : Nat) (v : SV) (x1 : Int32) : Option (Int32) := if (v 0 11) = (1 : Int32) then (if (v 0 12) = x1 then (some (1 : Int32)) else (some (0 : Int32))) else (some (0 : Int32))
def F_X8_takes (N : Nat) (v : SV) (x1 : Int32) : Option (Int32 × SV) := (F_X8_isLetter N v x1).bind (fun q2 => if q2 = (0 : Int32) then ((F_X8_faults N v (1 : Int32)).bind (fun q10 => zr (q10.1) (some ((q10.1), (q10.2))))) else ((F_X8_nextToken N v).bind (fun q15 => some ((1 : Int32), q15))))
def F_X8_takesNumber (N : Nat) (v : SV) (x1 : Int32) (x2 : Int32) (x3 : Int32) (x4 : Int32) : Option (Int32 × SV) := jn (fun (u_23 : Unit) => jn (fun (s37_0 : Int32) => (F_X8_faults N v s37_0).bind (fun q37 => zr (q37.1) (some ((q37.1), (q37.2))))) (fun J37 => if (v 0 11) = (2 : Int32) then (J37 (2 : Int32)) else (J37 (1 : Int32)))) (fun J23 => if (v 0 11) = (2 : Int32) then ((F_X8_in N ((v 0 12).toInt64) (x1.toInt64) (x2.toInt64)).bind (fun q17 => if q17 = (0 : Int32) then (J23 ()) else (chk 55 x3 ((F_X8_nextToken N (up2 v 7 (x3.toNatClampNeg) (v 0 12))).bind (fun q52 => (F_X8_takes N q52 x4).bind (fun q58 => zr (q58.1) (some ((q58.1), (q58.2))))))))) else (J23 ()))
def F_X8_readThing (N : Nat) (v : SV) (x1 : Int32) : Option (Int32 × SV) := chk 55 (2 : Int32) (jn (fun (u_22 : Unit) => chk 55 (3 : Int32) (jn (fun (s37_0 : Int32) => (F_X8_faults N v s37_0).bind (fun q37 => zr (q37.1) (some ((q37.1), (q37.2))))) (fun J37 => if (0 : Int32) < ((v 7) ((3 : Int32).toNatClampNeg)) then (J37 (1 : Int32)) else (J37 (3 : Int32))))) (fun J22 => if ((v 7) ((2 : Int32).toNatClampNeg)) = (6 : Int32) then (J22 ()) else (chk 55 (3 : Int32) (if (0 : Int32) < ((v 7) ((3 : Int32).toNatClampNeg)) then (J22 ()) else ((F_X8_nextToken N v).bind (fun q42 => chk 55 ((7 : Int32) + ((v 7) ((2 : Int32).toNatClampNeg))) (chk 55 ((31 : Int32) + ((v 7) ((2 : Int32).toNatClampNeg))) (chk 55 (2 : Int32) (chk 55 (2 : Int32) (chk 55 (6 : Int32) (chk 55 (6 : Int32) ((F_X8_takesNumber N (up2 (up2 (up2 (up2 q42 7 (((7 : Int32) + ((v 7) ((2 : Int32).toNatClampNeg))).toNatClampNeg) x1) 7 (((31 : Int32) + ((v 7) ((2 : Int32).toNatClampNeg))).toNatClampNeg) ((v 7) ((2 : Int32).toNatClampNeg))) 7 ((2 : Int32).toNatClampNeg) (((upd (upd (q42 7) (((7 : Int32) + ((v 7) ((2 : Int32).toNatClampNeg))).toNatClampNeg) x1) (((31 : Int32) + ((v 7) ((2 : Int32).toNatClampNeg))).toNatClampNeg) ((v 7) ((2 : Int32).toNatClampNeg))) ((2 : Int32).toNatClampNeg)) + (1 : Int32))) 7 ((6 : Int32).toNatClampNeg) (((upd (upd (upd (q42 7) (((7 : Int32) + ((v 7) ((2 : Int32).toNatClampNeg))).toNatClampNeg) x1) (((31 : Int32) + ((v 7) ((2 : Int32).toNatClampNeg))).toNatClampNeg) ((v 7) ((2 : Int32).toNatClampNeg))) ((2 : Int32).toNatClampNeg) (((upd (upd (q42 7) (((7 : Int32) + ((v 7) ((2 : Int32).toNatClampNeg))).toNatClampNeg) x1) (((31 : Int32) + ((v 7) ((2 : Int32).toNatClampNeg))).toNatClampNeg) ((v 7) ((2 : Int32).toNatClampNeg))) ((2 : Int32).toNatClampNeg)) + (1 : Int32))) ((6 : Int32).toNatClampNeg)) + (1 : Int32))) (0 : Int32) (9 : Int32) ((13 : Int32) + ((v 7) ((2 : Int32).toNatClampNeg))) (44 : Int32)).bind (fun q96 => if (q96.1) = (0 : Int32) then (some ((0 : Int32), (q96.2))) else ((F_X8_takesNumber N (q96.2) (1 : Int32) (20 : Int32) ((19 : Int32) + ((v 7) ((2 : Int32).toNatClampNeg))) (44 : Int32)).bind (fun q112 => if (q112.1) = (0 : Int32) then (some ((0 : Int32), (q112.2))) else ((F_X8_takesNumber N (q112.2) (0 : Int32) (9 : Int32) ((25 : Int32) + ((v 7) ((2 : Int32).toNatClampNeg))) (59 : Int32)).bind (fun q128 => if (q128.1) = (0 : Int32) then (some ((0 : Int32), (q128.2))) else (some ((1 : Int32), (q128.2))))))))))))))))))))
def F_X8_readSeat (N : Nat) (v : SV) : Option (Int32 × SV) := chk 55 (3 : Int32) (jn (fun (u_22 : Unit) => chk 55 (2 : Int32) (jn (fun (s37_0 : Int32) => (F_X8_faults N v s37_0).bind (fun q37 => zr (q37.1) (some ((q37.1), (q37.2))))) (fun J37 => if ((v 7) ((2 : Int32).toNatClampNeg)) = (0 : Int32) then (J37 (1 : Int32)) else (J37 (3 : Int32))))) (fun J22 => if ((v 7) ((3 : Int32).toNatClampNeg)) = (6 : Int32) then (J22 ()) else (chk 55 (2 : Int32) (if ((v 7) ((2 : Int32).toNatClampNeg)) = (0 : Int32) then (J22 ()) else ((F_X8_nextToken N v).bind (fun q42 => chk 55 (3 : Int32) (chk 55 (3 : Int32) ((F_X8_takesNumber N (up2 q42 7 ((3 : Int32).toNatClampNeg) (((q42 7) ((3 : Int32).toNatClampNeg)) + (1 : Int32))) (0 : Int32) (9 : Int32) ((37 : Int32) + ((v 7) ((3 : Int32).toNatClampNeg))) (44 : Int32)).bind (fun q65 => if (q65.1) = (0 : Int32) then (some ((0 : Int32), (q65.2))) else ((F_X8_takesNumber N (q65.2) (1 : Int32) (20 : Int32) ((43 : Int32) + ((v 7) ((3 : Int32).toNatClampNeg))) (59 : Int32)).bind (fun q81 => if (q81.1) = (0 : Int32) then (some ((0 : Int32), (q81.2))) else (some ((1 : Int32), (q81.2))))))))))))))
def F_X8_readShow_L7 (N : Nat)  (K26 : SV → Option (Int32 × SV)) : Nat → Int32 → SV → Option (Int32 × SV)
  | 0, _, _ => none
  | n + 1, x1, v => if x1 < (55 : Int32) then (chk 55 x1 (F_X8_readShow_L7 N K26 n (x1 + (1 : Int32)) (up2 v 7 (x1.toNatClampNeg) (0 : Int32)))) else (K26 v)
def F_X8_readShow_L69 (N : Nat)  : Nat → Int32 → SV → Option (Int32 × SV)
  | 0, _, _ => none
  | n + 1, x1, v => if x1 = (0 : Int32) then (zr x1 (some (x1, v))) else (jn (fun (u_90 : Unit) => (F_X8_isLetter N v (112 : Int32)).bind (fun q93 => jn (fun (s156_0 : Int32) => jn (fun (s190_0 : Int32) (v_190 : SV) => F_X8_readShow_L69 N  n s190_0 v_190) (fun J190 => if (0 : Int32) < s156_0 then ((F_X8_readThing N v s156_0).bind (fun q163 => J190 (q163.1) (q163.2))) else ((F_X8_isLetter N v (122 : Int32)).bind (fun q172 => if q172 = (0 : Int32) then ((F_X8_faults N v (1 : Int32)).bind (fun q187 => J190 (q187.1) (q187.2))) else ((F_X8_readSeat N v).bind (fun q179 => J190 (q179.1) (q179.2))))))) (fun J156 => if q93 = (0 : Int32) then ((F_X8_isLetter N v (98 : Int32)).bind (fun q106 => if q106 = (0 : Int32) then ((F_X8_isLetter N v (102 : Int32)).bind (fun q119 => if q119 = (0 : Int32) then ((F_X8_isLetter N v (108 : Int32)).bind (fun q132 => if q132 = (0 : Int32) then ((F_X8_isLetter N v (104 : Int32)).bind (fun q145 => if q145 = (0 : Int32) then (J156 (0 : Int32)) else (J156 (5 : Int32)))) else (J156 (4 : Int32)))) else (J156 (3 : Int32)))) else (J156 (2 : Int32)))) else (J156 (1 : Int32))))) (fun J90 => if (v 0 11) = (3 : Int32) then (chk 55 (2 : Int32) (if ((v 7) ((2 : Int32).toNatClampNeg)) = (0 : Int32) then (J90 ()) else (zr x1 (some (x1, v))))) else (J90 ())))
def F_X8_readShow (N : Nat) (v : SV) : Option (Int32 × SV) := F_X8_readShow_L7 N (fun (v_26 : SV) => (F_X8_nextToken N v_26).bind (fun q27 => (F_X8_takes N q27 (114 : Int32)).bind (fun q33 => if (q33.1) = (0 : Int32) then (some ((0 : Int32), (q33.2))) else ((F_X8_takesNumber N (q33.2) (0 : Int32) (60 : Int32) (0 : Int32) (44 : Int32)).bind (fun q46 => if (q46.1) = (0 : Int32) then (some ((0 : Int32), (q46.2))) else ((F_X8_takesNumber N (q46.2) (0 : Int32) (9 : Int32) (1 : Int32) (59 : Int32)).bind (fun q59 => if (q59.1) = (0 : Int32) then (some ((0 : Int32), (q59.2))) else (F_X8_readShow_L69 N N (1 : Int32) (q59.2))))))))) N (0 : Int32) (up2 v 0 10 (0 : Int32))
def F_X8_show_L32 (N : Nat)  (K56 : SV → Option (Int32 × SV)) : Nat → Int32 → SV → Option (Int32 × SV)
  | 0, _, _ => none
  | n + 1, x2, v => if x2 < (55 : Int32) then (chk 55 x2 (chk 55 x2 (F_X8_show_L32 N K56 n (x2 + (1 : Int32)) (up2 v 4 (x2.toNatClampNeg) ((v 7) (x2.toNatClampNeg)))))) else (K56 v)
def F_X8_show (N : Nat) (v : SV) : Option (Int32 × SV) := (F_X8_readShow N v).bind (fun q1 => if (q1.1) = (0 : Int32) then (some (((-1000100 : Int32) - ((q1.2) 0 13)), (up2 (up2 (q1.2) 0 8 (0 : Int32)) 0 9 ((q1.2) 0 14)))) else (F_X8_show_L32 N (fun (v_56 : SV) => chk 55 (2 : Int32) (some (((v_56 4) ((2 : Int32).toNatClampNeg)), (up2 (up2 v_56 0 4 (1 : Int32)) 0 17 (0 : Int32))))) N (0 : Int32) (up2 (q1.2) 0 8 (0 : Int32))))
def F_X8_fault (N : Nat) (v : SV) : Option (Int32) := some (v 0 9)
def F_X8_isThing (N : Nat) (v : SV) (x1 : Int32) : Option (Int32) := chk 55 (2 : Int32) ((F_X8_in N (x1.toInt64) (0 : Int64) ((((v 4) ((2 : Int32).toNatClampNeg)) - (1 : Int32)).toInt64)).bind (fun q12 => zr q12 (some q12)))
def F_X8_isSeat (N : Nat) (v : SV) (x1 : Int32) : Option (Int32) := chk 55 (3 : Int32) ((F_X8_in N (x1.toInt64) (0 : Int64) ((((v 4) ((3 : Int32).toNatClampNeg)) - (1 : Int32)).toInt64)).bind (fun q12 => zr q12 (some q12)))
def F_X8_seatsOf_L4 (N : Nat) (v : SV) (x1 : Int32) : Nat → Int32 → Int32 → Option (Int32)
  | 0, _, _ => none
  | n + 1, x2, x3 => chk 55 (3 : Int32) (if x3 < ((v 4) ((3 : Int32).toNatClampNeg)) then (chk 55 ((49 : Int32) + x3) (jn (fun (s35_0 : Int32) => F_X8_seatsOf_L4 N v x1 n (x2 ||| s35_0) (x3 + (1 : Int32))) (fun J35 => if ((v 4) (((49 : Int32) + x3).toNatClampNeg)) = x1 then (J35 ((1 : Int32) <<< (x3 &&& 31))) else (J35 (0 : Int32))))) else (some x2))
def F_X8_seatsOf (N : Nat) (v : SV) (x1 : Int32) : Option (Int32) := F_X8_seatsOf_L4 N v x1 N (0 : Int32) (0 : Int32)
def F_X8_wantersOf_L4 (N : Nat) (v : SV) (x1 : Int32) : Nat → Int32 → Int32 → Option (Int32)
  | 0, _, _ => none
  | n + 1, x2, x3 => chk 55 (3 : Int32) (if x3 < ((v 4) ((3 : Int32).toNatClampNeg)) then (chk 55 ((49 : Int32) + x3) (jn (fun (s47_0 : Int32) => F_X8_wantersOf_L4 N v x1 n (x2 ||| s47_0) (x3 + (1 : Int32))) (fun J47 => jn (fun (u_46 : Unit) => J47 (0 : Int32)) (fun J46 => if ((v 4) (((49 : Int32) + x3).toNatClampNeg)) = (0 : Int32) then (chk 55 ((37 : Int32) + x3) (if ((v 4) (((37 : Int32) + x3).toNatClampNeg)) = x1 then (J47 ((1 : Int32) <<< (x3 &&& 31))) else (J46 ()))) else (J46 ()))))) else (some x2))
def F_X8_wantersOf (N : Nat) (v : SV) (x1 : Int32) : Option (Int32) := F_X8_wantersOf_L4 N v x1 N (0 : Int32) (0 : Int32)
def F_X8_wantedBy (N : Nat) (v : SV) (x1 : Int32) : Option (Int32) := chk 55 ((13 : Int32) + x1) ((F_X8_wantersOf N v ((v 4) (((13 : Int32) + x1).toNatClampNeg))).bind (fun q10 => (F_X8_ones N q10).bind (fun q13 => some q13)))
def F_X8_placeOf_L5 (N : Nat) (v : SV) (x1 : Int32) : Nat → Int32 → Int32 → Option (Int32)
  | 0, _, _ => none
  | n + 1, x2, x3 => chk 55 (6 : Int32) (if x3 < ((v 4) ((6 : Int32).toNatClampNeg)) then (chk 55 ((31 : Int32) + x3) (jn (fun (s34_0 : Int32) => F_X8_placeOf_L5 N v x1 n s34_0 (x3 + (1 : Int32))) (fun J34 => if ((v 4) (((31 : Int32) + x3).toNatClampNeg)) = x1 then (J34 x3) else (J34 x2)))) else (some x2))
def F_X8_placeOf (N : Nat) (v : SV) (x1 : Int32) : Option (Int32) := F_X8_placeOf_L5 N v x1 N (-1000000 : Int32) (0 : Int32)
def F_X8_takeOff_L10 (N : Nat)  (K47 : SV → Option (SV)) : Nat → Int32 → SV → Option (SV)
  | 0, _, _ => none
  | n + 1, x3, v => chk 55 (6 : Int32) (if x3 < ((v 4) ((6 : Int32).toNatClampNeg)) then (chk 55 ((31 : Int32) + x3) (chk 55 (((31 : Int32) + x3) - (1 : Int32)) (F_X8_takeOff_L10 N K47 n (x3 + (1 : Int32)) (up2 v 4 ((((31 : Int32) + x3) - (1 : Int32)).toNatClampNeg) ((v 4) (((31 : Int32) + x3).toNatClampNeg)))))) else (K47 v))
def F_X8_takeOff (N : Nat) (v : SV) (x1 : Int32) : Option (SV) := (F_X8_placeOf N v x1).bind (fun q2 => F_X8_takeOff_L10 N (fun (v_47 : SV) => chk 55 (6 : Int32) (chk 55 (6 : Int32) (some (up2 v_47 4 ((6 : Int32).toNatClampNeg) (((v_47 4) ((6 : Int32).toNatClampNeg)) - (1 : Int32)))))) N (q2 + (1 : Int32)) v)
def F_X8_layBehind (N : Nat) (v : SV) (x1 : Int32) : Option (SV) := chk 55 (6 : Int32) (chk 55 ((31 : Int32) + ((v 4) ((6 : Int32).toNatClampNeg))) (chk 55 (6 : Int32) (chk 55 (6 : Int32) (some (up2 (up2 v 4 (((31 : Int32) + ((v 4) ((6 : Int32).toNatClampNeg))).toNatClampNeg) x1) 4 ((6 : Int32).toNatClampNeg) (((upd (v 4) (((31 : Int32) + ((v 4) ((6 : Int32).toNatClampNeg))).toNatClampNeg) x1) ((6 : Int32).toNatClampNeg)) + (1 : Int32)))))))
def F_X8_layFirst_L21 (N : Nat) (x1 : Int32) (K51 : SV → Option (SV)) : Nat → Int32 → SV → Option (SV)
  | 0, _, _ => none
  | n + 1, x2, v => if (0 : Int32) < x2 then (chk 55 (((31 : Int32) + x2) - (1 : Int32)) (chk 55 ((31 : Int32) + x2) (F_X8_layFirst_L21 N x1 K51 n (x2 + (-1 : Int32)) (up2 v 4 (((31 : Int32) + x2).toNatClampNeg) ((v 4) ((((31 : Int32) + x2) - (1 : Int32)).toNatClampNeg)))))) else (K51 v)
def F_X8_layFirst (N : Nat) (v : SV) (x1 : Int32) : Option (SV) := (F_X8_placeOf N v x1).bind (fun q2 => jn (fun (v_13 : SV) => chk 55 (6 : Int32) (F_X8_layFirst_L21 N x1 (fun (v_51 : SV) => chk 55 (31 : Int32) (chk 55 (6 : Int32) (chk 55 (6 : Int32) (some (up2 (up2 v_51 4 ((31 : Int32).toNatClampNeg) x1) 4 ((6 : Int32).toNatClampNeg) (((upd (v_51 4) ((31 : Int32).toNatClampNeg) x1) ((6 : Int32).toNatClampNeg)) + (1 : Int32))))))) N ((v_13 4) ((6 : Int32).toNatClampNeg)) v_13)) (fun J13 => if q2 < (0 : Int32) then (J13 v) else ((F_X8_takeOff N v x1).bind (fun q10 => J13 q10))))
def F_X8_nextThing_L7 (N : Nat) (v : SV) : Nat → Int32 → Int32 → Int32 → Option (Int32)
  | 0, _, _, _ => none
  | n + 1, x1, x2, x3 => chk 55 (6 : Int32) (if x3 < ((v 4) ((6 : Int32).toNatClampNeg)) then (chk 55 ((31 : Int32) + x3) ((F_X8_wantedBy N v ((v 4) (((31 : Int32) + x3).toNatClampNeg))).bind (fun q28 => jn (fun (s52_0 : Int32) => jn (fun (s65_0 : Int32) => F_X8_nextThing_L7 N v n s52_0 s65_0 (x3 + (1 : Int32))) (fun J65 => if x2 < q28 then (J65 q28) else (J65 x2))) (fun J52 => if x2 < q28 then (chk 55 ((31 : Int32) + x3) (J52 ((v 4) (((31 : Int32) + x3).toNatClampNeg)))) else (J52 x1))))) else (some x1))
def F_X8_nextThing (N : Nat) (v : SV) : Option (Int32) := F_X8_nextThing_L7 N v N (-1000000 : Int32) (-1 : Int32) (0 : Int32)
def F_X8_isComingBack (N : Nat) (v : SV) (x1 : Int32) : Option (Int32) := chk 55 ((7 : Int32) + x1) (if ((v 4) (((7 : Int32) + x1).toNatClampNeg)) = (5 : Int32) then (some (1 : Int32)) else (if ((v 4) (((7 : Int32) + x1).toNatClampNeg)) = (4 : Int32) then ((F_X8_seatsOf N v (1 : Int32)).bind (fun q22 => if q22 = (0 : Int32) then (some (1 : Int32)) else (some (0 : Int32)))) else (some (0 : Int32))))
def F_X8_pleasedBy (N : Nat) (v : SV) (x1 : Int32) : Option (Int32) := (F_X8_isComingBack N v x1).bind (fun q2 => jn (fun (s25_0 : Int32) => chk 55 ((7 : Int32) + x1) (if ((v 4) (((7 : Int32) + x1).toNatClampNeg)) = (3 : Int32) then (some s25_0) else (some (s25_0 &&& (-s25_0))))) (fun J25 => if q2 = (0 : Int32) then (chk 55 ((13 : Int32) + x1) ((F_X8_wantersOf N v ((v 4) (((13 : Int32) + x1).toNatClampNeg))).bind (fun q22 => J25 q22))) else (J25 (0 : Int32))))
def F_X8_clapsFor (N : Nat) (v : SV) (x1 : Int32) (x2 : Int32) : Option (Int32) := chk 55 ((25 : Int32) + x1) ((F_X8_ones N x2).bind (fun q10 => chk 55 ((7 : Int32) + x1) (if ((v 4) (((7 : Int32) + x1).toNatClampNeg)) = (2 : Int32) then (some ((2 : Int32) * (((v 4) (((25 : Int32) + x1).toNatClampNeg)) * q10))) else (some (((v 4) (((25 : Int32) + x1).toNatClampNeg)) * q10)))))
def F_X8_tapWith_L176 (N : Nat)  (K243 : SV → Option (SV)) : Nat → Int32 → SV → Option (SV)
  | 0, _, _ => none
  | n + 1, x3, v => chk 55 (3 : Int32) (if x3 < ((v 4) ((3 : Int32).toNatClampNeg)) then (chk 55 ((49 : Int32) + x3) (jn (fun (v_237 : SV) => F_X8_tapWith_L176 N K243 n (x3 + (1 : Int32)) v_237) (fun J237 => if ((v 4) (((49 : Int32) + x3).toNatClampNeg)) = (0 : Int32) then (chk 55 ((43 : Int32) + x3) (chk 55 ((43 : Int32) + x3) (chk 55 ((43 : Int32) + x3) (jn (fun (s236_0 : Int32) => chk 55 ((49 : Int32) + x3) (J237 (up2 (up2 v 4 (((43 : Int32) + x3).toNatClampNeg) (((v 4) (((43 : Int32) + x3).toNatClampNeg)) - (1 : Int32))) 4 (((49 : Int32) + x3).toNatClampNeg) s236_0))) (fun J236 => if ((upd (v 4) (((43 : Int32) + x3).toNatClampNeg) (((v 4) (((43 : Int32) + x3).toNatClampNeg)) - (1 : Int32))) (((43 : Int32) + x3).toNatClampNeg)) = (0 : Int32) then (J236 (2 : Int32)) else (J236 (0 : Int32))))))) else (J237 v)))) else (K243 v))
def F_X8_tapWith_L36 (N : Nat) (x1 : Int32) (x2 : Int32) (x3 : Int32) (x4 : Int32) (K156 : SV → Option (SV)) : Nat → Int32 → SV → Option (SV)
  | 0, _, _ => none
  | n + 1, x5, v => chk 55 (3 : Int32) (if x5 < ((v 4) ((3 : Int32).toNatClampNeg)) then ((F_X8_has N x4 x5).bind (fun q60 => jn (fun (s80_0 : Int32) => chk 55 ((49 : Int32) + x5) (chk 55 ((7 : Int32) + x1) (jn (fun (v_150 : SV) => F_X8_tapWith_L36 N x1 x2 x3 x4 K156 n (x5 + (1 : Int32)) v_150) (fun J150 => if ((upd (v 4) (((49 : Int32) + x5).toNatClampNeg) s80_0) (((7 : Int32) + x1).toNatClampNeg)) = (5 : Int32) then (chk 55 ((49 : Int32) + x5) (if ((upd (v 4) (((49 : Int32) + x5).toNatClampNeg) s80_0) (((49 : Int32) + x5).toNatClampNeg)) = (0 : Int32) then (chk 55 ((43 : Int32) + x5) (chk 55 (1 : Int32) (jn (fun (s149_0 : Int32) => chk 55 ((43 : Int32) + x5) (J150 (up2 (up2 v 4 (((49 : Int32) + x5).toNatClampNeg) s80_0) 4 (((43 : Int32) + x5).toNatClampNeg) s149_0))) (fun J149 => if (99 : Int32) < (((upd (v 4) (((49 : Int32) + x5).toNatClampNeg) s80_0) (((43 : Int32) + x5).toNatClampNeg)) + ((upd (v 4) (((49 : Int32) + x5).toNatClampNeg) s80_0) ((1 : Int32).toNatClampNeg))) then (J149 (99 : Int32)) else (J149 (((upd (v 4) (((49 : Int32) + x5).toNatClampNeg) s80_0) (((43 : Int32) + x5).toNatClampNeg)) + ((upd (v 4) (((49 : Int32) + x5).toNatClampNeg) s80_0) ((1 : Int32).toNatClampNeg)))))))) else (J150 (up2 v 4 (((49 : Int32) + x5).toNatClampNeg) s80_0)))) else (J150 (up2 v 4 (((49 : Int32) + x5).toNatClampNeg) s80_0)))))) (fun J80 => if q60 = (0 : Int32) then (chk 55 ((49 : Int32) + x5) (J80 ((v 4) (((49 : Int32) + x5).toNatClampNeg)))) else (J80 (1 : Int32))))) else (K156 v))
def F_X8_tapWith (N : Nat) (v : SV) (x1 : Int32) (x2 : Int32) : Option (SV) := jn (fun (v_174 : SV) => F_X8_tapWith_L176 N (fun (v_243 : SV) => chk 55 (4 : Int32) (chk 55 (4 : Int32) (some (up2 v_243 4 ((4 : Int32).toNatClampNeg) (((v_243 4) ((4 : Int32).toNatClampNeg)) + (1 : Int32)))))) N (0 : Int32) v_174) (fun J174 => if x1 < (0 : Int32) then (J174 v) else ((F_X8_isComingBack N v x1).bind (fun q6 => (F_X8_pleasedBy N v x1).bind (fun q12 => chk 55 (5 : Int32) ((F_X8_clapsFor N v x1 q12).bind (fun q28 => chk 55 (5 : Int32) (F_X8_tapWith_L36 N x1 x2 q6 q12 (fun (v_156 : SV) => (F_X8_takeOff N v_156 x1).bind (fun q158 => if q6 = (0 : Int32) then (J174 q158) else (if x2 = (0 : Int32) then (J174 q158) else ((F_X8_layBehind N q158 x1).bind (fun q171 => J174 q171))))) N (0 : Int32) (up2 v 4 ((5 : Int32).toNatClampNeg) (((v 4) ((5 : Int32).toNatClampNeg)) + q28)))))))))
def F_X8_oneTap (N : Nat) (v : SV) : Option (SV) := (F_X8_nextThing N v).bind (fun q2 => (F_X8_tapWith N v q2 (1 : Int32)).bind (fun q6 => some q6))
def F_X8_note_L51 (N : Nat)  (K83 : SV → Option (SV)) : Nat → Int32 → SV → Option (SV)
  | 0, _, _ => none
  | n + 1, x1, v => if x1 < (55 : Int32) then (chk 55 x1 (chk 1320 (((55 : Int32) * (v 0 17)) + x1) (F_X8_note_L51 N K83 n (x1 + (1 : Int32)) (up2 v 8 ((((55 : Int32) * (v 0 17)) + x1).toNatClampNeg) ((v 4) (x1.toNatClampNeg)))))) else (K83 v)
def F_X8_note_L11 (N : Nat)  (K39 : SV → Option (SV)) : Nat → Int32 → SV → Option (SV)
  | 0, _, _ => none
  | n + 1, x1, v => if x1 < (1265 : Int32) then (chk 1320 (x1 + (55 : Int32)) (chk 1320 x1 (F_X8_note_L11 N K39 n (x1 + (1 : Int32)) (up2 v 8 (x1.toNatClampNeg) ((v 8) ((x1 + (55 : Int32)).toNatClampNeg)))))) else (K39 v)
def F_X8_note (N : Nat) (v : SV) : Option (SV) := jn (fun (v_49 : SV) => F_X8_note_L51 N (fun (v_83 : SV) => some (up2 v_83 0 17 ((v_83 0 17) + (1 : Int32)))) N (0 : Int32) v_49) (fun J49 => if (v 0 17) = (24 : Int32) then (F_X8_note_L11 N (fun (v_39 : SV) => J49 (up2 v_39 0 17 ((v_39 0 17) - (1 : Int32)))) N (0 : Int32) v) else (J49 v))
def F_X8_undo_L22 (N : Nat)  (K54 : SV → Option (Int32 × SV)) : Nat → Int32 → SV → Option (Int32 × SV)
  | 0, _, _ => none
  | n + 1, x1, v => if x1 < (55 : Int32) then (chk 1320 (((55 : Int32) * (v 0 17)) + x1) (chk 55 x1 (F_X8_undo_L22 N K54 n (x1 + (1 : Int32)) (up2 v 4 (x1.toNatClampNeg) ((v 8) ((((55 : Int32) * (v 0 17)) + x1).toNatClampNeg)))))) else (K54 v)
def F_X8_undo (N : Nat) (v : SV) : Option (Int32 × SV) := if (v 0 17) = (0 : Int32) then (some ((-1000002 : Int32), v)) else (F_X8_undo_L22 N (fun (v_54 : SV) => some ((v_54 0 17), v_54)) N (0 : Int32) (up2 v 0 17 ((v 0 17) - (1 : Int32))))
def F_X8_taps_L44 (N : Nat) (x1 : Int32) (K63 : SV → Option (Int32 × SV)) : Nat → Int32 → SV → Option (Int32 × SV)
  | 0, _, _ => none
  | n + 1, x2, v => if x2 < x1 then ((F_X8_note N v).bind (fun q50 => (F_X8_oneTap N q50).bind (fun q54 => F_X8_taps_L44 N x1 K63 n (x2 + (1 : Int32)) q54))) else (K63 v)
def F_X8_taps (N : Nat) (v : SV) (x1 : Int32) : Option (Int32 × SV) := if (v 0 4) = (0 : Int32) then (some ((-1000002 : Int32), v)) else ((F_X8_in N (x1.toInt64) (1 : Int64) (24 : Int64)).bind (fun q16 => if q16 = (0 : Int32) then (some ((-1000001 : Int32), v)) else (chk 55 (4 : Int32) (if (999 : Int32) < (((v 4) ((4 : Int32).toNatClampNeg)) + x1) then (some ((-1000003 : Int32), v)) else (F_X8_taps_L44 N x1 (fun (v_63 : SV) => chk 55 (5 : Int32) (some (((v_63 4) ((5 : Int32).toNatClampNeg)), v_63))) N (0 : Int32) v)))))
def F_X8_front (N : Nat) (v : SV) (x1 : Int32) : Option (Int32 × SV) := (F_X8_isThing N v x1).bind (fun q2 => if q2 = (0 : Int32) then (some ((-1000001 : Int32), v)) else ((F_X8_placeOf N v x1).bind (fun q13 => if q13 < (0 : Int32) then (some ((-1000002 : Int32), v)) else ((F_X8_note N v).bind (fun q25 => (F_X8_layFirst N q25 x1).bind (fun q30 => some (q13, q30)))))))
def F_X8_off (N : Nat) (v : SV) (x1 : Int32) : Option (Int32 × SV) := (F_X8_isThing N v x1).bind (fun q2 => if q2 = (0 : Int32) then (some ((-1000001 : Int32), v)) else ((F_X8_placeOf N v x1).bind (fun q13 => if q13 < (0 : Int32) then (some ((-1000002 : Int32), v)) else ((F_X8_note N v).bind (fun q25 => (F_X8_takeOff N q25 x1).bind (fun q30 => some (q13, q30)))))))
def F_X8_back (N : Nat) (v : SV) (x1 : Int32) : Option (Int32 × SV) := (F_X8_isThing N v x1).bind (fun q2 => if q2 = (0 : Int32) then (some ((-1000001 : Int32), v)) else ((F_X8_placeOf N v x1).bind (fun q13 => if q13 < (0 : Int32) then ((F_X8_note N v).bind (fun q23 => (F_X8_layBehind N q23 x1).bind (fun q28 => chk 55 (6 : Int32) (some (((q28 4) ((6 : Int32).toNatClampNeg)), q28))))) else (some ((-1000002 : Int32), v)))))
def F_X8_seatAnew (N : Nat) (v : SV) (x1 : Int32) (x2 : Int32) (x3 : Int32) : Option (SV) := chk 55 ((37 : Int32) + x1) (chk 55 ((43 : Int32) + x1) (chk 55 ((49 : Int32) + x1) (some (up2 (up2 (up2 v 4 (((37 : Int32) + x1).toNatClampNeg) x2) 4 (((43 : Int32) + x1).toNatClampNeg) x3) 4 (((49 : Int32) + x1).toNatClampNeg) (0 : Int32)))))
def F_X8_sit (N : Nat) (v : SV) (x1 : Int32) (x2 : Int32) (x3 : Int32) : Option (Int32 × SV) := (F_X8_isSeat N v x1).bind (fun q2 => if q2 = (0 : Int32) then (some ((-1000001 : Int32), v)) else ((F_X8_in N (x2.toInt64) (0 : Int64) (9 : Int64)).bind (fun q14 => if q14 = (0 : Int32) then (some ((-1000001 : Int32), v)) else ((F_X8_in N (x3.toInt64) (1 : Int64) (20 : Int64)).bind (fun q26 => if q26 = (0 : Int32) then (some ((-1000001 : Int32), v)) else (chk 55 ((49 : Int32) + x1) (if ((v 4) (((49 : Int32) + x1).toNatClampNeg)) = (0 : Int32) then (some ((-1000002 : Int32), v)) else ((F_X8_note N v).bind (fun q51 => (F_X8_seatAnew N q51 x1 x2 x3).bind (fun q58 => (F_X8_seatsOf N q58 (0 : Int32)).bind (fun q63 => some (q63, q58))))))))))))
def F_X8_thing (N : Nat) (v : SV) (x1 : Int32) (x2 : Int32) : Option (Int32) := (F_X8_isThing N v x1).bind (fun q2 => if q2 = (0 : Int32) then (some (-1000001 : Int32)) else (if x2 = 0 then (chk 55 ((13 : Int32) + x1) (some ((v 4) (((13 : Int32) + x1).toNatClampNeg)))) else (if x2 = 1 then (chk 55 ((19 : Int32) + x1) (some ((v 4) (((19 : Int32) + x1).toNatClampNeg)))) else (if x2 = 2 then (chk 55 ((25 : Int32) + x1) (some ((v 4) (((25 : Int32) + x1).toNatClampNeg)))) else (if x2 = 3 then ((F_X8_placeOf N v x1).bind (fun q80 => some q80)) else (if x2 = 4 then ((F_X8_wantedBy N v x1).bind (fun q86 => some q86)) else (some (-1000001 : Int32))))))))
def F_X8_seat (N : Nat) (v : SV) (x1 : Int32) (x2 : Int32) : Option (Int32) := (F_X8_isSeat N v x1).bind (fun q2 => if q2 = (0 : Int32) then (some (-1000001 : Int32)) else ((F_X8_in N (x2.toInt64) (0 : Int64) (2 : Int64)).bind (fun q14 => if q14 = (0 : Int32) then (some (-1000001 : Int32)) else (if x2 = (0 : Int32) then (chk 55 ((37 : Int32) + x1) (some ((v 4) (((37 : Int32) + x1).toNatClampNeg)))) else (if x2 = (1 : Int32) then (chk 55 ((43 : Int32) + x1) (some ((v 4) (((43 : Int32) + x1).toNatClampNeg)))) else (chk 55 ((49 : Int32) + x1) (some ((v 4) (((49 : Int32) + x1).toNatClampNeg)))))))))
def F_X8_list (N : Nat) (v : SV) (x1 : Int32) : Option (Int32) := if (v 0 4) = (0 : Int32) then (some (-1000002 : Int32)) else (if x1 < (0 : Int32) then (some (-1000001 : Int32)) else (chk 55 (6 : Int32) (if x1 < ((v 4) ((6 : Int32).toNatClampNeg)) then (chk 55 ((31 : Int32) + x1) (some ((v 4) (((31 : Int32) + x1).toNatClampNeg)))) else (some (-1000000 : Int32)))))
def F_X8_standing (N : Nat) (v : SV) (x1 : Int32) : Option (Int32) := if x1 = (3 : Int32) then (chk 55 (5 : Int32) (some ((v 4) ((5 : Int32).toNatClampNeg)))) else ((F_X8_seatsOf N v x1).bind (fun q16 => some q16))
def F_X8_stand (N : Nat) (v : SV) (x1 : Int32) : Option (Int32) := if (v 0 4) = (0 : Int32) then (some (-1000002 : Int32)) else ((F_X8_in N (x1.toInt64) (0 : Int64) (3 : Int64)).bind (fun q18 => if q18 = (0 : Int32) then (some (-1000001 : Int32)) else ((F_X8_standing N v x1).bind (fun q26 => some q26))))
def F_X8_putAside_L2 (N : Nat)  : Nat → Int32 → SV → Option (SV)
  | 0, _, _ => none
  | n + 1, x1, v => if x1 < (55 : Int32) then (chk 55 x1 (chk 55 x1 (F_X8_putAside_L2 N  n (x1 + (1 : Int32)) (up2 v 9 (x1.toNatClampNeg) ((v 4) (x1.toNatClampNeg)))))) else (some v)
def F_X8_putAside (N : Nat) (v : SV) : Option (SV) := F_X8_putAside_L2 N N (0 : Int32) v
def F_X8_takeBack_L2 (N : Nat)  : Nat → Int32 → SV → Option (SV)
  | 0, _, _ => none
  | n + 1, x1, v => if x1 < (55 : Int32) then (chk 55 x1 (chk 55 x1 (F_X8_takeBack_L2 N  n (x1 + (1 : Int32)) (up2 v 4 (x1.toNatClampNeg) ((v 9) (x1.toNatClampNeg)))))) else (some v)
def F_X8_takeBack (N : Nat) (v : SV) : Option (SV) := F_X8_takeBack_L2 N N (0 : Int32) v
def F_X8_goOn_L2 (N : Nat) (x1 : Int32) : Nat → Int32 → SV → Option (SV)
  | 0, _, _ => none
  | n + 1, x2, v => if x2 < x1 then ((F_X8_oneTap N v).bind (fun q8 => F_X8_goOn_L2 N x1 n (x2 + (1 : Int32)) q8)) else (some v)
def F_X8_goOn (N : Nat) (v : SV) (x1 : Int32) : Option (SV) := F_X8_goOn_L2 N x1 N (0 : Int32) v
def F_X8_isWhat (N : Nat) (x0 : Int32) : Option (Int32) := (F_X8_in N (x0.toInt64) (0 : Int64) (1 : Int64)).bind (fun q4 => zr q4 (some q4))
def F_X8_next (N : Nat) (v : SV) (x1 : Int32) : Option (Int32) := if (v 0 4) = (0 : Int32) then (some (-1000002 : Int32)) else ((F_X8_in N (x1.toInt64) (0 : Int64) (2 : Int64)).bind (fun q16 => if q16 = (0 : Int32) then (some (-1000001 : Int32)) else ((F_X8_nextThing N v).bind (fun q26 => jn (fun (u_38 : Unit) => if x1 = (0 : Int32) then (some q26) else (some (0 : Int32))) (fun J38 => if q26 < (0 : Int32) then (J38 ()) else (if x1 = (0 : Int32) then (J38 ()) else ((F_X8_pleasedBy N v q26).bind (fun q50 => if x1 = (1 : Int32) then (some q50) else ((F_X8_clapsFor N v q26 q50).bind (fun q66 => some q66))))))))))
def F_X8_ahead (N : Nat) (v : SV) (x1 : Int32) (x2 : Int32) : Option (Int32 × SV) := if (v 0 4) = (0 : Int32) then (some ((-1000002 : Int32), v)) else ((F_X8_in N (x1.toInt64) (0 : Int64) (60 : Int64)).bind (fun q16 => if q16 = (0 : Int32) then (some ((-1000001 : Int32), v)) else ((F_X8_in N (x2.toInt64) (0 : Int64) (3 : Int64)).bind (fun q28 => if q28 = (0 : Int32) then (some ((-1000001 : Int32), v)) else ((F_X8_putAside N v).bind (fun q38 => (F_X8_goOn N q38 x1).bind (fun q43 => (F_X8_standing N q43 x2).bind (fun q48 => (F_X8_takeBack N q43).bind (fun q53 => some (q48, q53))))))))))
def F_X8_when_L29 (N : Nat) (x1 : Int32) (x2 : Int32) (K58 : Int32 → SV → Option (Int32 × SV)) : Nat → Int32 → SV → Option (Int32 × SV)
  | 0, _, _ => none
  | n + 1, x3, v => chk 55 ((49 : Int32) + x1) (if ((v 4) (((49 : Int32) + x1).toNatClampNeg)) = x2 then (K58 x3 v) else (if x3 < (60 : Int32) then ((F_X8_oneTap N v).bind (fun q49 => F_X8_when_L29 N x1 x2 K58 n (x3 + (1 : Int32)) q49)) else (K58 x3 v)))
def F_X8_when (N : Nat) (v : SV) (x1 : Int32) (x2 : Int32) : Option (Int32 × SV) := (F_X8_isSeat N v x1).bind (fun q2 => if q2 = (0 : Int32) then (some ((-1000001 : Int32), v)) else ((F_X8_in N (x2.toInt64) (1 : Int64) (2 : Int64)).bind (fun q14 => if q14 = (0 : Int32) then (some ((-1000001 : Int32), v)) else ((F_X8_putAside N v).bind (fun q24 => F_X8_when_L29 N x1 x2 (fun (x3_58 : Int32) (v_58 : SV) => chk 55 ((49 : Int32) + x1) (jn (fun (s76_0 : Int32) => (F_X8_takeBack N v_58).bind (fun q79 => if s76_0 = (0 : Int32) then (some ((-1000000 : Int32), q79)) else (some (x3_58, q79)))) (fun J76 => if ((v_58 4) (((49 : Int32) + x1).toNatClampNeg)) = x2 then (J76 (1 : Int32)) else (J76 (0 : Int32))))) N (0 : Int32) q24)))))
def F_X8_comes_L20 (N : Nat) (x1 : Int32) (K54 : Int32 → SV → Option (Int32 × SV)) : Nat → Int32 → Int32 → SV → Option (Int32 × SV)
  | 0, _, _, _ => none
  | n + 1, x2, x3, v => if (60 : Int32) < x3 then (K54 x2 v) else (if x2 < (0 : Int32) then ((F_X8_nextThing N v).bind (fun q31 => jn (fun (s43_0 : Int32) => (F_X8_oneTap N v).bind (fun q45 => F_X8_comes_L20 N x1 K54 n s43_0 (x3 + (1 : Int32)) q45)) (fun J43 => if q31 = x1 then (J43 x3) else (J43 x2)))) else (K54 x2 v))
def F_X8_comes (N : Nat) (v : SV) (x1 : Int32) : Option (Int32 × SV) := (F_X8_isThing N v x1).bind (fun q2 => if q2 = (0 : Int32) then (some ((-1000001 : Int32), v)) else ((F_X8_putAside N v).bind (fun q12 => F_X8_comes_L20 N x1 (fun (x2_54 : Int32) (v_54 : SV) => (F_X8_takeBack N v_54).bind (fun q55 => some (x2_54, q55))) N (-1000000 : Int32) (1 : Int32) q12)))
def F_X8_change (N : Nat) (v : SV) (x1 : Int32) (x2 : Int32) : Option (SV) := chk 6 x1 (chk 6 x2 (chk 6 x1 (chk 6 x2 (some (up2 (up2 v 10 (x1.toNatClampNeg) ((v 10) (x2.toNatClampNeg))) 10 (x2.toNatClampNeg) ((v 10) (x1.toNatClampNeg)))))))
def F_X8_isNext_L4 (N : Nat) (v : SV) (x1 : Int32) (K31 : Int32 → Option (Int32 × SV)) : Nat → Int32 → Option (Int32 × SV)
  | 0, _ => none
  | n + 1, x2 => if x2 < (0 : Int32) then (K31 x2) else (chk 6 x2 (chk 6 (x2 + (1 : Int32)) (if ((v 10) ((x2 + (1 : Int32)).toNatClampNeg)) < ((v 10) (x2.toNatClampNeg)) then (F_X8_isNext_L4 N v x1 K31 n (x2 + (-1 : Int32))) else (K31 x2))))
def F_X8_isNext_L41 (N : Nat) (v : SV) (x1 : Int32) (x2 : Int32) (K62 : Int32 → Option (Int32 × SV)) : Nat → Int32 → Option (Int32 × SV)
  | 0, _ => none
  | n + 1, x3 => chk 6 x3 (chk 6 x2 (if ((v 10) (x3.toNatClampNeg)) < ((v 10) (x2.toNatClampNeg)) then (F_X8_isNext_L41 N v x1 x2 K62 n (x3 + (-1 : Int32))) else (K62 x3)))
def F_X8_isNext_L78 (N : Nat)  : Nat → Int32 → Int32 → SV → Option (Int32 × SV)
  | 0, _, _, _ => none
  | n + 1, x4, x5, v => if x4 < x5 then ((F_X8_change N v x4 x5).bind (fun q90 => F_X8_isNext_L78 N  n (x4 + (1 : Int32)) (x5 + (-1 : Int32)) q90)) else (some ((1 : Int32), v))
def F_X8_isNext (N : Nat) (v : SV) (x1 : Int32) : Option (Int32 × SV) := F_X8_isNext_L4 N v x1 (fun (x2_31 : Int32) => if x2_31 < (0 : Int32) then (some ((0 : Int32), v)) else (F_X8_isNext_L41 N v x1 x2_31 (fun (x3_62 : Int32) => (F_X8_change N v x2_31 x3_62).bind (fun q65 => F_X8_isNext_L78 N N (x2_31 + (1 : Int32)) (x1 - (1 : Int32)) q65)) N (x1 - (1 : Int32)))) N (x1 - (2 : Int32))
def F_X8_order_L27 (N : Nat) (x1 : Int32) (K61 : Int32 → SV → Option (Int32 × SV)) : Nat → Int32 → Int32 → SV → Option (Int32 × SV)
  | 0, _, _, _ => none
  | n + 1, x2, x3, v => chk 55 (2 : Int32) (if x3 < ((v 4) ((2 : Int32).toNatClampNeg)) then ((F_X8_placeOf N v x3).bind (fun q39 => jn (fun (x2_55 : Int32) (v_55 : SV) => F_X8_order_L27 N x1 K61 n x2_55 (x3 + (1 : Int32)) v_55) (fun J55 => if q39 < (0 : Int32) then (J55 x2 v) else (chk 6 x2 (J55 (x2 + (1 : Int32)) (up2 v 10 (x2.toNatClampNeg) x3)))))) else (K61 x2 v))
def F_X8_order_L77 (N : Nat) (x1 : Int32) (x2 : Int32) (x3 : Int32) (x4 : Int32) (K101 : SV → Option (Int32 × SV)) : Nat → Int32 → SV → Option (Int32 × SV)
  | 0, _, _ => none
  | n + 1, x6, v => if x6 < x2 then (chk 6 x6 ((F_X8_tapWith N v ((v 10) (x6.toNatClampNeg)) (0 : Int32)).bind (fun q92 => F_X8_order_L77 N x1 x2 x3 x4 K101 n (x6 + (1 : Int32)) q92))) else (K101 v)
def F_X8_order_L128 (N : Nat) (x1 : Int32) (x2 : Int32) (x3 : Int32) (x4 : Int32) (K154 : SV → Option (Int32 × SV)) : Nat → Int32 → SV → Option (Int32 × SV)
  | 0, _, _ => none
  | n + 1, x6, v => if x6 < x2 then (chk 6 x6 (chk 6 x6 (F_X8_order_L128 N x1 x2 x3 x4 K154 n (x6 + (1 : Int32)) (up2 v 11 (x6.toNatClampNeg) ((v 10) (x6.toNatClampNeg)))))) else (K154 v)
def F_X8_order_L69 (N : Nat) (x1 : Int32) (x2 : Int32) (K168 : Int32 → Int32 → SV → Option (Int32 × SV)) : Nat → Int32 → Int32 → Int32 → SV → Option (Int32 × SV)
  | 0, _, _, _, _ => none
  | n + 1, x3, x4, x5, v => if x5 = (0 : Int32) then (K168 x3 x4 v) else (F_X8_order_L77 N x1 x2 x3 x4 (fun (v_101 : SV) => chk 55 (5 : Int32) (jn (fun (x3_154 : Int32) (x4_154 : Int32) (v_154 : SV) => (F_X8_takeBack N v_154).bind (fun q155 => (F_X8_isNext N q155 x2).bind (fun q160 => F_X8_order_L69 N x1 x2 K168 n x3_154 x4_154 (q160.1) (q160.2)))) (fun J154 => if x3 < ((v_101 4) ((5 : Int32).toNatClampNeg)) then (chk 55 (5 : Int32) ((F_X8_seatsOf N v_101 (1 : Int32)).bind (fun q120 => F_X8_order_L128 N x1 x2 ((v_101 4) ((5 : Int32).toNatClampNeg)) q120 (fun (v_154 : SV) => J154 ((v_101 4) ((5 : Int32).toNatClampNeg)) q120 v_154) N (0 : Int32) v_101))) else (J154 x3 x4 v_101)))) N (0 : Int32) v)
def F_X8_order (N : Nat) (v : SV) (x1 : Int32) : Option (Int32 × SV) := if (v 0 4) = (0 : Int32) then (some ((-1000002 : Int32), v)) else (if x1 < (-2 : Int32) then (some ((-1000001 : Int32), v)) else ((F_X8_putAside N v).bind (fun q20 => F_X8_order_L27 N x1 (fun (x2_61 : Int32) (v_61 : SV) => F_X8_order_L69 N x1 x2_61 (fun (x3_168 : Int32) (x4_168 : Int32) (v_168 : SV) => if x1 = (-1 : Int32) then (some (x3_168, v_168)) else (if x1 = (-2 : Int32) then (some (x4_168, v_168)) else (if x1 < x2_61 then (chk 6 x1 (some (((v_168 11) (x1.toNatClampNeg)), v_168))) else (some ((-1000000 : Int32), v_168))))) N (-1 : Int32) (0 : Int32) (1 : Int32) v_61) N (0 : Int32) (0 : Int32) q20)))
def F_X8_sumOf_L5 (N : Nat) (v : SV) (x1 : Int32) (x2 : Int32) : Nat → Int32 → Int32 → Option (Int32)
  | 0, _, _ => none
  | n + 1, x3, x4 => chk 55 (2 : Int32) (if x4 < ((v 4) ((2 : Int32).toNatClampNeg)) then ((F_X8_has N x2 x4).bind (fun q20 => jn (fun (s39_0 : Int32) => F_X8_sumOf_L5 N v x1 x2 n (x3 + s39_0) (x4 + (1 : Int32))) (fun J39 => if q20 = (0 : Int32) then (J39 (0 : Int32)) else (chk 55 (x1 + x4) (J39 ((v 4) ((x1 + x4).toNatClampNeg))))))) else (some x3))
def F_X8_sumOf (N : Nat) (v : SV) (x1 : Int32) (x2 : Int32) : Option (Int32) := F_X8_sumOf_L5 N v x1 x2 N (0 : Int32) (0 : Int32)
def F_X8_pack_L24 (N : Nat) (v : SV) (x1 : Int32) (K98 : Int32 → Option (Int32)) : Nat → Int32 → Int32 → Option (Int32)
  | 0, _, _ => none
  | n + 1, x2, x3 => chk 55 (2 : Int32) (if x3 < ((1 : Int32) <<< (((v 4) ((2 : Int32).toNatClampNeg)) &&& 31)) then ((F_X8_sumOf N v (25 : Int32) x3).bind (fun q40 => (F_X8_sumOf N v (25 : Int32) x2).bind (fun q47 => (F_X8_sumOf N v (19 : Int32) x3).bind (fun q57 => chk 55 (0 : Int32) (jn (fun (x2_92 : Int32) => F_X8_pack_L24 N v x1 K98 n x2_92 (x3 + (1 : Int32))) (fun J92 => if ((v 4) ((0 : Int32).toNatClampNeg)) < q57 then (J92 x2) else (jn (fun (u_90 : Unit) => J92 x3) (fun J90 => if (0 : Int32) < (q40 - q47) then (J90 ()) else (if (q40 - q47) = (0 : Int32) then ((F_X8_ones N x3).bind (fun q80 => (F_X8_ones N x2).bind (fun q84 => if q80 < q84 then (J90 ()) else (J92 x2)))) else (J92 x2)))))))))) else (K98 x2))
def F_X8_pack (N : Nat) (v : SV) (x1 : Int32) : Option (Int32) := if (v 0 4) = (0 : Int32) then (some (-1000002 : Int32)) else ((F_X8_isWhat N x1).bind (fun q11 => if q11 = (0 : Int32) then (some (-1000001 : Int32)) else (F_X8_pack_L24 N v x1 (fun (x2_98 : Int32) => if x1 = (0 : Int32) then (some x2_98) else ((F_X8_sumOf N v (25 : Int32) x2_98).bind (fun q110 => some q110))) N (0 : Int32) (1 : Int32))))
def F_X8_stockOf_L7 (N : Nat) (v : SV) (x1 : Int32) (K114 : Int32 → Int32 → Option (Int32)) : Nat → Int32 → Int32 → Int32 → Option (Int32)
  | 0, _, _, _ => none
  | n + 1, x2, x3, x4 => chk 55 (6 : Int32) (if x4 < ((v 4) ((6 : Int32).toNatClampNeg)) then (chk 55 ((31 : Int32) + x4) (chk 55 ((13 : Int32) + ((v 4) (((31 : Int32) + x4).toNatClampNeg))) (jn (fun (s64_0 : Int32) => jn (fun (s77_0 : Int32) => jn (fun (s107_0 : Int32) => F_X8_stockOf_L7 N v x1 K114 n (x2 + s77_0) s107_0 (x4 + (1 : Int32))) (fun J107 => jn (fun (u_102 : Unit) => J107 (1 : Int32)) (fun J102 => if x3 = (0 : Int32) then (jn (fun (u_106 : Unit) => J107 (0 : Int32)) (fun J106 => if s64_0 = (0 : Int32) then (J106 ()) else (chk 55 ((7 : Int32) + ((v 4) (((31 : Int32) + x4).toNatClampNeg))) (if ((v 4) (((7 : Int32) + ((v 4) (((31 : Int32) + x4).toNatClampNeg))).toNatClampNeg)) = (3 : Int32) then (J102 ()) else (J106 ()))))) else (J102 ())))) (fun J77 => if s64_0 = (0 : Int32) then (J77 (0 : Int32)) else (J77 (1 : Int32)))) (fun J64 => jn (fun (u_63 : Unit) => J64 (0 : Int32)) (fun J63 => if ((v 4) (((13 : Int32) + ((v 4) (((31 : Int32) + x4).toNatClampNeg))).toNatClampNeg)) = x1 then (chk 55 ((7 : Int32) + ((v 4) (((31 : Int32) + x4).toNatClampNeg))) (if ((v 4) (((7 : Int32) + ((v 4) (((31 : Int32) + x4).toNatClampNeg))).toNatClampNeg)) = (5 : Int32) then (J63 ()) else (J64 (1 : Int32)))) else (J63 ())))))) else (K114 x2 x3))
def F_X8_stockOf (N : Nat) (v : SV) (x1 : Int32) : Option (Int32) := F_X8_stockOf_L7 N v x1 (fun (x2_114 : Int32) (x3_114 : Int32) => if x3_114 = (0 : Int32) then (some x2_114) else (some (-1 : Int32))) N (0 : Int32) (0 : Int32) (0 : Int32)
def F_X8_match_L14 (N : Nat) (v : SV) : Nat → Int32 → Int32 → Option (Int32)
  | 0, _, _ => none
  | n + 1, x1, x2 => if x2 < (10 : Int32) then ((F_X8_wantersOf N v x2).bind (fun q22 => (F_X8_ones N q22).bind (fun q25 => (F_X8_stockOf N v x2).bind (fun q31 => jn (fun (s54_0 : Int32) => F_X8_match_L14 N v n (x1 + s54_0) (x2 + (1 : Int32))) (fun J54 => jn (fun (u_48 : Unit) => J54 q25) (fun J48 => if q31 < (0 : Int32) then (J48 ()) else (if q25 < q31 then (J48 ()) else (J54 q31)))))))) else (some x1)
def F_X8_match (N : Nat) (v : SV) : Option (Int32) := if (v 0 4) = (0 : Int32) then (some (-1000002 : Int32)) else (F_X8_match_L14 N v N (0 : Int32) (0 : Int32))
def F_X8_clear_L82 (N : Nat) (v : SV) (x1 : Int32) (x2 : Int32) (x3 : Int32) (x4 : Int32) (x5 : Int32) (K130 : Int32 → Option (Int32 × SV)) : Nat → Int32 → Int32 → Option (Int32 × SV)
  | 0, _, _ => none
  | n + 1, x6, x7 => chk 55 (2 : Int32) (if x7 < ((v 4) ((2 : Int32).toNatClampNeg)) then (jn (fun (s122_0 : Int32) => F_X8_clear_L82 N v x1 x2 x3 x4 x5 K130 n s122_0 (x7 + (1 : Int32))) (fun J122 => jn (fun (u_121 : Unit) => J122 (0 : Int32)) (fun J121 => if x6 = (0 : Int32) then (J121 ()) else ((F_X8_has N x5 x7).bind (fun q102 => jn (fun (u_117 : Unit) => J122 (1 : Int32)) (fun J117 => if q102 = (0 : Int32) then (J117 ()) else ((F_X8_placeOf N v x7).bind (fun q111 => if q111 < (0 : Int32) then (J121 ()) else (J117 ()))))))))) else (K130 x6))
def F_X8_clear_L138 (N : Nat) (x1 : Int32) (x2 : Int32) (x3 : Int32) (x4 : Int32) (x5 : Int32) (K171 : SV → Option (Int32 × SV)) : Nat → Int32 → SV → Option (Int32 × SV)
  | 0, _, _ => none
  | n + 1, x7, v => chk 55 (2 : Int32) (if x7 < ((v 4) ((2 : Int32).toNatClampNeg)) then ((F_X8_has N x5 x7).bind (fun q153 => jn (fun (v_165 : SV) => F_X8_clear_L138 N x1 x2 x3 x4 x5 K171 n (x7 + (1 : Int32)) v_165) (fun J165 => if q153 = (0 : Int32) then (J165 v) else ((F_X8_takeOff N v x7).bind (fun q162 => J165 q162))))) else (K171 v))
def F_X8_clear_L41 (N : Nat) (x1 : Int32) (x2 : Int32) (x3 : Int32) (K208 : Int32 → SV → Option (Int32 × SV)) : Nat → Int32 → Int32 → SV → Option (Int32 × SV)
  | 0, _, _, _ => none
  | n + 1, x4, x5, v => chk 55 (2 : Int32) (if x5 < ((1 : Int32) <<< (((v 4) ((2 : Int32).toNatClampNeg)) &&& 31)) then (jn (fun (s77_0 : Int32) => F_X8_clear_L82 N v x1 x2 x3 x4 x5 (fun (x6_130 : Int32) => jn (fun (x4_202 : Int32) (v_202 : SV) => F_X8_clear_L41 N x1 x2 x3 K208 n x4_202 (x5 + (1 : Int32)) v_202) (fun J202 => if x6_130 = (0 : Int32) then (J202 x4 v) else (F_X8_clear_L138 N x1 x2 x3 x4 x5 (fun (v_171 : SV) => (F_X8_goOn N v_171 x2).bind (fun q173 => chk 55 ((49 : Int32) + x1) (jn (fun (s196_0 : Int32) => (F_X8_takeBack N q173).bind (fun q199 => J202 s196_0 q199)) (fun J196 => if ((q173 4) (((49 : Int32) + x1).toNatClampNeg)) = (1 : Int32) then (J196 x5) else (J196 x4))))) N (0 : Int32) v))) N s77_0 (0 : Int32)) (fun J77 => jn (fun (u_72 : Unit) => J77 (1 : Int32)) (fun J72 => if x4 < (0 : Int32) then (J72 ()) else ((F_X8_ones N x5).bind (fun q61 => (F_X8_ones N x4).bind (fun q66 => if q61 < q66 then (J72 ()) else (J77 (0 : Int32)))))))) else (K208 x4 v))
def F_X8_clear (N : Nat) (v : SV) (x1 : Int32) (x2 : Int32) (x3 : Int32) : Option (Int32 × SV) := (F_X8_isSeat N v x1).bind (fun q2 => if q2 = (0 : Int32) then (some ((-1000001 : Int32), v)) else ((F_X8_in N (x2.toInt64) (1 : Int64) (30 : Int64)).bind (fun q14 => if q14 = (0 : Int32) then (some ((-1000001 : Int32), v)) else ((F_X8_isWhat N x3).bind (fun q21 => if q21 = (0 : Int32) then (some ((-1000001 : Int32), v)) else ((F_X8_putAside N v).bind (fun q31 => F_X8_clear_L41 N x1 x2 x3 (fun (x4_208 : Int32) (v_208 : SV) => if x4_208 < (0 : Int32) then (some (x4_208, v_208)) else (if x3 = (1 : Int32) then (some (x4_208, v_208)) else ((F_X8_ones N x4_208).bind (fun q225 => some (q225, v_208))))) N (-1000000 : Int32) (0 : Int32) q31)))))))
def F_X8_bring_L44 (N : Nat) (x1 : Int32) (x2 : Int32) (K118 : Int32 → Int32 → SV → Option (Int32 × SV)) : Nat → Int32 → Int32 → Int32 → SV → Option (Int32 × SV)
  | 0, _, _, _, _ => none
  | n + 1, x3, x4, x5, v => chk 55 (2 : Int32) (if x5 < ((v 4) ((2 : Int32).toNatClampNeg)) then ((F_X8_layFirst N v x5).bind (fun q58 => (F_X8_goOn N q58 x1).bind (fun q63 => chk 55 (5 : Int32) (jn (fun (s83_0 : Int32) => chk 55 (5 : Int32) (jn (fun (s106_0 : Int32) => (F_X8_takeBack N q63).bind (fun q109 => F_X8_bring_L44 N x1 x2 K118 n s83_0 s106_0 (x5 + (1 : Int32)) q109)) (fun J106 => if x4 < ((q63 4) ((5 : Int32).toNatClampNeg)) then (chk 55 (5 : Int32) (J106 ((q63 4) ((5 : Int32).toNatClampNeg)))) else (J106 x4)))) (fun J83 => if x4 < ((q63 4) ((5 : Int32).toNatClampNeg)) then (J83 x5) else (J83 x3)))))) else (K118 x3 x4 v))
def F_X8_bring (N : Nat) (v : SV) (x1 : Int32) (x2 : Int32) : Option (Int32 × SV) := if (v 0 4) = (0 : Int32) then (some ((-1000002 : Int32), v)) else ((F_X8_in N (x1.toInt64) (1 : Int64) (30 : Int64)).bind (fun q16 => if q16 = (0 : Int32) then (some ((-1000001 : Int32), v)) else ((F_X8_isWhat N x2).bind (fun q23 => if q23 = (0 : Int32) then (some ((-1000001 : Int32), v)) else ((F_X8_putAside N v).bind (fun q33 => F_X8_bring_L44 N x1 x2 (fun (x3_118 : Int32) (x4_118 : Int32) (v_118 : SV) => if x2 = (0 : Int32) then (some (x3_118, v_118)) else (some (x4_118, v_118))) N (0 : Int32) (-1 : Int32) (0 : Int32) q33))))))
def F_X8_lack_L14 (N : Nat) (v : SV) : Nat → Int32 → Int32 → Option (Int32)
  | 0, _, _ => none
  | n + 1, x1, x2 => if x2 < (10 : Int32) then ((F_X8_wantersOf N v x2).bind (fun q23 => jn (fun (s44_0 : Int32) => F_X8_lack_L14 N v n (x1 ||| s44_0) (x2 + (1 : Int32))) (fun J44 => jn (fun (u_43 : Unit) => J44 (0 : Int32)) (fun J43 => if q23 = (0 : Int32) then (J43 ()) else ((F_X8_stockOf N v x2).bind (fun q31 => if q31 = (0 : Int32) then (J44 ((1 : Int32) <<< (x2 &&& 31))) else (J43 ()))))))) else (some x1)
def F_X8_lack (N : Nat) (v : SV) : Option (Int32) := if (v 0 4) = (0 : Int32) then (some (-1000002 : Int32)) else (F_X8_lack_L14 N v N (0 : Int32) (0 : Int32))
def F_X8_lacks (N : Nat) (v : SV) (x1 : Int32) (x2 : Int32) (x3 : Int32) : Option (Int32 × SV) := chk 8 x1 (if ((v 2) (x1.toNatClampNeg)) < (0 : Int32) then ((F_X8_find N v (1 : Int32)).bind (fun q11 => some ((q11.1), (q11.2)))) else (chk 8 x1 ((F_X8_in N (x2.toInt64) (0 : Int64) ((((v 2) (x1.toNatClampNeg)) - x3).toInt64)).bind (fun q27 => if q27 = (0 : Int32) then ((F_X8_find N v (2 : Int32)).bind (fun q39 => some ((q39.1), (q39.2)))) else (some ((0 : Int32), v))))))
def F_X8_isLine (N : Nat) (v : SV) (x1 : Int32) (x2 : Int32) : Option (Int32) := (F_X8_isRow N x1).bind (fun q1 => if q1 = (0 : Int32) then (some (0 : Int32)) else ((F_X8_in N (x2.toInt64) (1 : Int64) (12 : Int64)).bind (fun q13 => if q13 = (0 : Int32) then (some (0 : Int32)) else (some (1 : Int32)))))
def F_X8_isSo_L5 (N : Nat) (x1 : Int32) (x2 : Int32) (K49 : Int32 → SV → Option (Int32 × SV)) : Nat → Int32 → Int32 → SV → Option (Int32 × SV)
  | 0, _, _, _ => none
  | n + 1, x3, x4, v => if x4 < x2 then ((F_X8_oneTap N v).bind (fun q12 => jn (fun (s42_0 : Int32) => F_X8_isSo_L5 N x1 x2 K49 n s42_0 (x4 + (1 : Int32)) q12) (fun J42 => jn (fun (u_41 : Unit) => J42 (0 : Int32)) (fun J41 => if x3 = (0 : Int32) then (J41 ()) else (chk 320 (x1 + x4) (chk 55 (5 : Int32) (if ((q12 3) ((x1 + x4).toNatClampNeg)) = ((q12 4) ((5 : Int32).toNatClampNeg)) then (J42 (1 : Int32)) else (J41 ())))))))) else (K49 x3 v)
def F_X8_isSo (N : Nat) (v : SV) (x1 : Int32) (x2 : Int32) : Option (Int32 × SV) := F_X8_isSo_L5 N x1 x2 (fun (x3_49 : Int32) (v_49 : SV) => (F_X8_takeBack N v_49).bind (fun q50 => zr x3_49 (some (x3_49, q50)))) N (1 : Int32) (0 : Int32) v
def F_X8_who_L101 (N : Nat) (x2 : Int32) (x3 : Int32) (x4 : Int32) (x5 : Int32) (x7 : Int32) (K160 : Int32 → SV → Option (Int32 × SV)) : Nat → Int32 → Int32 → SV → Option (Int32 × SV)
  | 0, _, _, _ => none
  | n + 1, x8, x9, v => jn (fun (s113_0 : Int32) => if s113_0 < x9 then (K160 x8 v) else (chk 55 x7 ((F_X8_isSo N (up2 v 4 (x7.toNatClampNeg) x9) (((40 : Int32) * x3) + x4) x5).bind (fun q137 => jn (fun (s151_0 : Int32) => F_X8_who_L101 N x2 x3 x4 x5 x7 K160 n (x8 ||| s151_0) (x9 + (1 : Int32)) (q137.2)) (fun J151 => if (q137.1) = (0 : Int32) then (J151 (0 : Int32)) else (J151 ((1 : Int32) <<< (x9 &&& 31)))))))) (fun J113 => if x2 = (0 : Int32) then (J113 (5 : Int32)) else (J113 (9 : Int32)))
def F_X8_who (N : Nat) (v : SV) (x1 : Int32) (x2 : Int32) (x3 : Int32) (x4 : Int32) (x5 : Int32) : Option (Int32 × SV) := (F_X8_isThing N v x1).bind (fun q2 => jn (fun (s44_0 : Int32) (v_44 : SV) => if s44_0 < (0 : Int32) then (some (s44_0, v_44)) else ((F_X8_putAside N v_44).bind (fun q55 => jn (fun (s85_0 : Int32) => jn (fun (s99_0 : Int32) => F_X8_who_L101 N x2 x3 x4 x5 s85_0 (fun (x8_160 : Int32) (v_160 : SV) => (F_X8_well N v_160 x8_160).bind (fun q163 => some ((q163.1), (q163.2)))) N (0 : Int32) s99_0 q55) (fun J99 => if x2 = (0 : Int32) then (J99 (1 : Int32)) else (J99 (0 : Int32)))) (fun J85 => if x2 = (0 : Int32) then (J85 ((7 : Int32) + x1)) else (if x2 = (1 : Int32) then (J85 ((13 : Int32) + x1)) else (J85 ((25 : Int32) + x1))))))) (fun J44 => jn (fun (u_30 : Unit) => J44 (-1000001 : Int32) v) (fun J30 => if q2 = (0 : Int32) then (J30 ()) else ((F_X8_in N (x2.toInt64) (0 : Int64) (2 : Int64)).bind (fun q14 => if q14 = (0 : Int32) then (J30 ()) else ((F_X8_isLine N v x3 x5).bind (fun q24 => if q24 = (0 : Int32) then (J30 ()) else ((F_X8_lacks N v x3 x4 x5).bind (fun q41 => J44 (q41.1) (q41.2))))))))))
def F_X8_wanted_L72 (N : Nat) (x1 : Int32) (x2 : Int32) (x3 : Int32) (x4 : Int32) (x5 : Int32) (K145 : Int32 → SV → Option (Int32 × SV)) : Nat → Int32 → Int32 → SV → Option (Int32 × SV)
  | 0, _, _, _ => none
  | n + 1, x7, x8, v => jn (fun (s85_0 : Int32) => if s85_0 < x8 then (K145 x7 v) else (jn (fun (s107_0 : Int32) => chk 55 s107_0 ((F_X8_isSo N (up2 v 4 (s107_0.toNatClampNeg) x8) (((40 : Int32) * x3) + x4) x5).bind (fun q122 => jn (fun (s136_0 : Int32) => F_X8_wanted_L72 N x1 x2 x3 x4 x5 K145 n (x7 ||| s136_0) (x8 + (1 : Int32)) (q122.2)) (fun J136 => if (q122.1) = (0 : Int32) then (J136 (0 : Int32)) else (J136 ((1 : Int32) <<< (x8 &&& 31))))))) (fun J107 => if x2 = (0 : Int32) then (J107 ((37 : Int32) + x1)) else (J107 ((43 : Int32) + x1))))) (fun J85 => if x2 = (0 : Int32) then (J85 (9 : Int32)) else (J85 (20 : Int32)))
def F_X8_wanted (N : Nat) (v : SV) (x1 : Int32) (x2 : Int32) (x3 : Int32) (x4 : Int32) (x5 : Int32) : Option (Int32 × SV) := (F_X8_isSeat N v x1).bind (fun q2 => if q2 = (0 : Int32) then (some ((-1000001 : Int32), v)) else ((F_X8_isWhat N x2).bind (fun q9 => if q9 = (0 : Int32) then (some ((-1000001 : Int32), v)) else ((F_X8_isLine N v x3 x5).bind (fun q19 => if q19 = (0 : Int32) then (some ((-1000001 : Int32), v)) else (chk 55 ((49 : Int32) + x1) (if ((v 4) (((49 : Int32) + x1).toNatClampNeg)) = (0 : Int32) then ((F_X8_lacks N v x3 x4 x5).bind (fun q49 => if (q49.1) < (0 : Int32) then (some ((q49.1), (q49.2))) else ((F_X8_putAside N (q49.2)).bind (fun q63 => F_X8_wanted_L72 N x1 x2 x3 x4 x5 (fun (x7_145 : Int32) (v_145 : SV) => (F_X8_well N v_145 x7_145).bind (fun q148 => some ((q148.1), (q148.2)))) N (0 : Int32) x2 q63)))) else (some ((-1000002 : Int32), v)))))))))
def F_X8_wasOff_L70 (N : Nat) (x1 : Int32) (x2 : Int32) (x3 : Int32) (K129 : Int32 → SV → Option (Int32 × SV)) : Nat → Int32 → Int32 → SV → Option (Int32 × SV)
  | 0, _, _, _ => none
  | n + 1, x5, x6, v => chk 55 (2 : Int32) (if x6 < ((v 4) ((2 : Int32).toNatClampNeg)) then ((F_X8_placeOf N v x6).bind (fun q84 => jn (fun (x5_123 : Int32) (v_123 : SV) => F_X8_wasOff_L70 N x1 x2 x3 K129 n x5_123 (x6 + (1 : Int32)) v_123) (fun J123 => if q84 < (0 : Int32) then (J123 x5 v) else ((F_X8_takeOff N v x6).bind (fun q93 => (F_X8_isSo N q93 (((40 : Int32) * x1) + x2) x3).bind (fun q106 => jn (fun (s120_0 : Int32) => J123 (x5 ||| s120_0) (q106.2)) (fun J120 => if (q106.1) = (0 : Int32) then (J120 (0 : Int32)) else (J120 ((1 : Int32) <<< (x6 &&& 31)))))))))) else (K129 x5 v))
def F_X8_wasOff (N : Nat) (v : SV) (x1 : Int32) (x2 : Int32) (x3 : Int32) : Option (Int32 × SV) := if (v 0 4) = (0 : Int32) then (some ((-1000002 : Int32), v)) else ((F_X8_isLine N v x1 x3).bind (fun q13 => jn (fun (s31_0 : Int32) (v_31 : SV) => if s31_0 < (0 : Int32) then (some (s31_0, v_31)) else ((F_X8_putAside N v_31).bind (fun q42 => (F_X8_isSo N q42 (((40 : Int32) * x1) + x2) x3).bind (fun q53 => jn (fun (s65_0 : Int32) => F_X8_wasOff_L70 N x1 x2 x3 (fun (x5_129 : Int32) (v_129 : SV) => (F_X8_well N v_129 x5_129).bind (fun q132 => some ((q132.1), (q132.2)))) N s65_0 (0 : Int32) (q53.2)) (fun J65 => if (q53.1) = (0 : Int32) then (J65 (0 : Int32)) else (J65 (64 : Int32))))))) (fun J31 => if q13 = (0 : Int32) then (J31 (-1000001 : Int32) v) else ((F_X8_lacks N v x1 x2 x3).bind (fun q23 => J31 (q23.1) (q23.2))))))
def F_X8_wander_L79 (N : Nat) (v : SV) (x1 : Int32) (x2 : Int32) (x3 : Int32) (x4 : Int32) (x5 : Int32) (x6 : Int64) (K118 : Int64 → Option (Int64 × SV)) : Nat → Int64 → Int32 → Option (Int64 × SV)
  | 0, _, _ => none
  | n + 1, x8, x10 => chk 55 (3 : Int32) (if x10 < ((v 4) ((3 : Int32).toNatClampNeg)) then ((F_X8_has N x5 x10).bind (fun q96 => jn (fun (s109_0 : Int64) => F_X8_wander_L79 N v x1 x2 x3 x4 x5 x6 K118 n (x8 * s109_0) (x10 + (1 : Int32))) (fun J109 => if q96 = (0 : Int32) then (J109 (1 : Int64)) else (J109 (10 : Int64))))) else (K118 x8))
def F_X8_wander_L144 (N : Nat) (x1 : Int32) (x2 : Int32) (x3 : Int32) (x4 : Int32) (x5 : Int32) (x6 : Int64) (x8 : Int64) (x10 : Int32) (K234 : Int64 → SV → Option (Int64 × SV)) : Nat → Int64 → Int32 → SV → Option (Int64 × SV)
  | 0, _, _, _ => none
  | n + 1, x11, x13, v => chk 55 (3 : Int32) (if x13 < ((v 4) ((3 : Int32).toNatClampNeg)) then ((F_X8_has N x5 x13).bind (fun q161 => jn (fun (s191_0 : Int64) => (F_X8_has N x10 x13).bind (fun q207 => jn (fun (s227_0 : Int32) => chk 55 ((49 : Int32) + x13) (F_X8_wander_L144 N x1 x2 x3 x4 x5 x6 x8 x10 K234 n (x11 * s191_0) (x13 + (1 : Int32)) (up2 v 4 (((49 : Int32) + x13).toNatClampNeg) s227_0))) (fun J227 => if q207 = (0 : Int32) then (chk 55 ((49 : Int32) + x13) (J227 ((v 4) (((49 : Int32) + x13).toNatClampNeg)))) else (J227 (2 : Int32))))) (fun J191 => if q161 = (0 : Int32) then (J191 (1 : Int64)) else ((F_X8_has N x10 x13).bind (fun q175 => if q175 = (0 : Int32) then (J191 (((10 : Int32) - x3).toInt64)) else (J191 (x3.toInt64))))))) else (K234 x11 v))
def F_X8_wander_L121 (N : Nat) (x1 : Int32) (x2 : Int32) (x3 : Int32) (x4 : Int32) (x5 : Int32) (x8 : Int64) (K270 : Int64 → SV → Option (Int64 × SV)) : Nat → Int64 → Int32 → SV → Option (Int64 × SV)
  | 0, _, _, _ => none
  | n + 1, x6, x10, v => if x5 < x10 then (K270 x6 v) else (jn (fun (x6_264 : Int64) (v_264 : SV) => F_X8_wander_L121 N x1 x2 x3 x4 x5 x8 K270 n x6_264 (x10 + (1 : Int32)) v_264) (fun J264 => if (x10 &&& (x5 ^^^ (-1 : Int32))) = (0 : Int32) then (F_X8_wander_L144 N x1 x2 x3 x4 x5 x6 x8 x10 (fun (x11_234 : Int64) (v_234 : SV) => (F_X8_goOn N v_234 x2).bind (fun q236 => chk 55 (5 : Int32) (jn (fun (s257_0 : Int64) => (F_X8_takeBack N q236).bind (fun q261 => J264 (x6 + s257_0) q261)) (fun J257 => if ((q236 4) ((5 : Int32).toNatClampNeg)) < x1 then (J257 (0 : Int64)) else (J257 x11_234))))) N (1 : Int64) (0 : Int32) v) else (J264 x6 v)))
def F_X8_wander_L278 (N : Nat) (v : SV) (x4 : Int32) (x6 : Int64) (x8 : Int64) (K303 : Int64 → Option (Int64 × SV)) : Nat → Int64 → Int64 → Option (Int64 × SV)
  | 0, _, _ => none
  | n + 1, x10, x12 => if (lg_cmp x12 (0 : Int64)) = (0 : Int32) then (K303 x10) else (nzl x12 (F_X8_wander_L278 N v x4 x6 x8 K303 n x12 (x10 - x10 / x12 * x12)))
def F_X8_wander (N : Nat) (v : SV) (x1 : Int32) (x2 : Int32) (x3 : Int32) (x4 : Int32) : Option (Int64 × SV) := if (v 0 4) = (0 : Int32) then (some ((-1000002 : Int64), v)) else ((F_X8_in N (x1.toInt64) (0 : Int64) (999 : Int64)).bind (fun q17 => if q17 = (0 : Int32) then (some ((-1000001 : Int64), v)) else ((F_X8_in N (x2.toInt64) (0 : Int64) (30 : Int64)).bind (fun q29 => if q29 = (0 : Int32) then (some ((-1000001 : Int64), v)) else ((F_X8_in N (x3.toInt64) (0 : Int64) (10 : Int64)).bind (fun q41 => if q41 = (0 : Int32) then (some ((-1000001 : Int64), v)) else ((F_X8_isWhat N x4).bind (fun q49 => if q49 = (0 : Int32) then (some ((-1000001 : Int64), v)) else ((F_X8_putAside N v).bind (fun q60 => (F_X8_seatsOf N q60 (0 : Int32)).bind (fun q65 => F_X8_wander_L79 N q60 x1 x2 x3 x4 q65 (0 : Int64) (fun (x8_118 : Int64) => F_X8_wander_L121 N x1 x2 x3 x4 q65 x8_118 (fun (x6_270 : Int64) (v_270 : SV) => F_X8_wander_L278 N v_270 x4 x6_270 x8_118 (fun (x10_303 : Int64) => if x4 = (0 : Int32) then (nzl x10_303 (some ((x6_270 / x10_303), v_270))) else (nzl x10_303 (some ((x8_118 / x10_303), v_270)))) N x6_270 x8_118) N (0 : Int64) (0 : Int32) q60) N (1 : Int64) (0 : Int32))))))))))))
def F_X8_drawn_L58 (N : Nat) (x1 : Int32) (x3 : Int32) (K204 : Int32 → SV → Option (Int32 × SV)) : Nat → Int64 → Int32 → Int32 → SV → Option (Int32 × SV)
  | 0, _, _, _, _ => none
  | n + 1, x4, x6, x7, v => if x7 < x1 then (chk 55 (3 : Int32) (jn (fun (s101_0 : Int32) => jn (fun (v_143 : SV) => chk 55 (6 : Int32) (jn (fun (v_168 : SV) => (F_X8_seatsOf N v_168 (1 : Int32)).bind (fun q170 => (F_X8_ones N q170).bind (fun q173 => (F_X8_oneTap N v_168).bind (fun q179 => (F_X8_seatsOf N q179 (1 : Int32)).bind (fun q186 => (F_X8_ones N q186).bind (fun q189 => F_X8_drawn_L58 N x1 x3 K204 n ((x4 * (16807 : Int64)) - (x4 * (16807 : Int64)) / (2147483647 : Int64) * (2147483647 : Int64)) (x6 + (q189 - q173)) (x7 + (1 : Int32)) q179)))))) (fun J168 => if ((v_143 4) ((6 : Int32).toNatClampNeg)) = (0 : Int32) then (chk 55 (2 : Int32) (nzl (((v_143 4) ((2 : Int32).toNatClampNeg)).toInt64) ((F_X8_layBehind N v_143 ((((x4 * (16807 : Int64)) - (x4 * (16807 : Int64)) / (2147483647 : Int64) * (2147483647 : Int64)) - ((x4 * (16807 : Int64)) - (x4 * (16807 : Int64)) / (2147483647 : Int64) * (2147483647 : Int64)) / (((v_143 4) ((2 : Int32).toNatClampNeg)).toInt64) * (((v_143 4) ((2 : Int32).toNatClampNeg)).toInt64)).toInt32)).bind (fun q165 => J168 q165)))) else (J168 v_143)))) (fun J143 => if s101_0 < (0 : Int32) then (J143 v) else (chk 55 ((49 : Int32) + s101_0) (if ((v 4) (((49 : Int32) + s101_0).toNatClampNeg)) = (0 : Int32) then (J143 v) else ((F_X8_seatAnew N v s101_0 ((((x4 * (16807 : Int64)) - (x4 * (16807 : Int64)) / (2147483647 : Int64) * (2147483647 : Int64)) - ((x4 * (16807 : Int64)) - (x4 * (16807 : Int64)) / (2147483647 : Int64) * (2147483647 : Int64)) / (10 : Int64) * (10 : Int64)).toInt32) (((((x4 * (16807 : Int64)) - (x4 * (16807 : Int64)) / (2147483647 : Int64) * (2147483647 : Int64)) - ((x4 * (16807 : Int64)) - (x4 * (16807 : Int64)) / (2147483647 : Int64) * (2147483647 : Int64)) / (5 : Int64) * (5 : Int64)).toInt32) + (1 : Int32))).bind (fun q140 => J143 q140)))))) (fun J101 => if ((v 4) ((3 : Int32).toNatClampNeg)) = (0 : Int32) then (J101 (-1000000 : Int32)) else (chk 55 (3 : Int32) (nzl (((v 4) ((3 : Int32).toNatClampNeg)).toInt64) (J101 ((((x4 * (16807 : Int64)) - (x4 * (16807 : Int64)) / (2147483647 : Int64) * (2147483647 : Int64)) - ((x4 * (16807 : Int64)) - (x4 * (16807 : Int64)) / (2147483647 : Int64) * (2147483647 : Int64)) / (((v 4) ((3 : Int32).toNatClampNeg)).toInt64) * (((v 4) ((3 : Int32).toNatClampNeg)).toInt64)).toInt32))))))) else (K204 x6 v)
def F_X8_drawn (N : Nat) (v : SV) (x1 : Int32) (x2 : Int32) (x3 : Int32) : Option (Int32 × SV) := if (v 0 4) = (0 : Int32) then (some ((-1000002 : Int32), v)) else ((F_X8_in N (x1.toInt64) (0 : Int64) (60 : Int64)).bind (fun q16 => if q16 = (0 : Int32) then (some ((-1000001 : Int32), v)) else ((F_X8_in N (x2.toInt64) (1 : Int64) (999999 : Int64)).bind (fun q28 => if q28 = (0 : Int32) then (some ((-1000001 : Int32), v)) else ((F_X8_isWhat N x3).bind (fun q35 => if q35 = (0 : Int32) then (some ((-1000001 : Int32), v)) else ((F_X8_putAside N v).bind (fun q45 => F_X8_drawn_L58 N x1 x3 (fun (x6_204 : Int32) (v_204 : SV) => jn (fun (s219_0 : Int32) => (F_X8_takeBack N v_204).bind (fun q222 => some (s219_0, q222))) (fun J219 => if x3 = (0 : Int32) then (chk 55 (5 : Int32) (J219 ((v_204 4) ((5 : Int32).toNatClampNeg)))) else (J219 x6_204))) N (x2.toInt64) (0 : Int32) (0 : Int32) q45))))))))
def F_X8_image_L25 (N : Nat) (x1 : Int32) (K54 : SV → Option (Int32 × SV)) : Nat → Int32 → SV → Option (Int32 × SV)
  | 0, _, _ => none
  | n + 1, x2, v => if x2 < (55 : Int32) then (chk 55 x2 (chk 110 (((55 : Int32) * x1) + x2) (F_X8_image_L25 N x1 K54 n (x2 + (1 : Int32)) (up2 v 13 ((((55 : Int32) * x1) + x2).toNatClampNeg) ((v 4) (x2.toNatClampNeg)))))) else (K54 v)
def F_X8_image (N : Nat) (v : SV) (x1 : Int32) : Option (Int32 × SV) := (F_X8_in N (x1.toInt64) (0 : Int64) (1 : Int64)).bind (fun q4 => if q4 = (0 : Int32) then (some ((-1000001 : Int32), v)) else (if (v 0 4) = (0 : Int32) then (some ((-1000002 : Int32), v)) else (F_X8_image_L25 N x1 (fun (v_54 : SV) => chk 2 x1 (some ((1 : Int32), (up2 v_54 12 (x1.toNatClampNeg) (1 : Int32))))) N (0 : Int32) v)))
def F_X8_restore_L27 (N : Nat) (x1 : Int32) (K56 : SV → Option (Int32 × SV)) : Nat → Int32 → SV → Option (Int32 × SV)
  | 0, _, _ => none
  | n + 1, x2, v => if x2 < (55 : Int32) then (chk 110 (((55 : Int32) * x1) + x2) (chk 55 x2 (F_X8_restore_L27 N x1 K56 n (x2 + (1 : Int32)) (up2 v 4 (x2.toNatClampNeg) ((v 13) ((((55 : Int32) * x1) + x2).toNatClampNeg)))))) else (K56 v)
def F_X8_restore (N : Nat) (v : SV) (x1 : Int32) : Option (Int32 × SV) := (F_X8_in N (x1.toInt64) (0 : Int64) (1 : Int64)).bind (fun q4 => if q4 = (0 : Int32) then (some ((-1000001 : Int32), v)) else (chk 2 x1 (if ((v 12) (x1.toNatClampNeg)) = (0 : Int32) then (some ((-1000002 : Int32), v)) else (F_X8_restore_L27 N x1 (fun (v_56 : SV) => some ((1 : Int32), (up2 v_56 0 17 (0 : Int32)))) N (0 : Int32) v))))
def F_X8_kind (N : Nat) (v : SV) (x1 : Int32) : Option (Int32) := (F_X8_isThing N v x1).bind (fun q2 => if q2 = (0 : Int32) then (some (-1000001 : Int32)) else (chk 55 ((7 : Int32) + x1) (some ((v 4) (((7 : Int32) + x1).toNatClampNeg)))))
def F_X8_isKind (N : Nat) (x0 : Int32) (x1 : Int32) : Option (Int32) := if x1 = (0 : Int32) then (some (1 : Int32)) else (if x0 = x1 then (some (1 : Int32)) else (jn (fun (u_19 : Unit) => if x1 = (4 : Int32) then (if x0 = (5 : Int32) then (some (1 : Int32)) else (some (0 : Int32))) else (some (0 : Int32))) (fun J19 => if x1 = (1 : Int32) then (if x0 < (4 : Int32) then (some (1 : Int32)) else (J19 ())) else (J19 ()))))
def F_X8_as (N : Nat) (v : SV) (x1 : Int32) (x2 : Int32) : Option (Int32 × SV) := (F_X8_isThing N v x1).bind (fun q2 => if q2 = (0 : Int32) then (some ((-1000001 : Int32), v)) else ((F_X8_in N (x2.toInt64) (0 : Int64) (5 : Int64)).bind (fun q14 => if q14 = (0 : Int32) then (some ((-1000001 : Int32), v)) else (chk 55 ((7 : Int32) + x1) ((F_X8_isKind N ((v 4) (((7 : Int32) + x1).toNatClampNeg)) x2).bind (fun q33 => if q33 = (0 : Int32) then ((F_X8_find N v (3 : Int32)).bind (fun q49 => some ((q49.1), (q49.2)))) else ((F_X8_well N v x1).bind (fun q41 => some ((q41.1), (q41.2))))))))))
def F_X8_begin (N : Nat) (v : SV) (x1 : Int32) : Option (SV) := if (v 0 24) < (16 : Int32) then (chk 16 (v 0 24) (some (up2 (up2 v 14 ((v 0 24).toNatClampNeg) x1) 0 24 ((v 0 24) + (1 : Int32))))) else (some v)
def F_X8_lent (N : Nat) (v : SV) (x1 : Int32) (x2 : Int32) : Option (Int32 × SV) := (F_X8_begin N v x2).bind (fun q2 => if x2 = (10 : Int32) then (chk 55 ((19 : Int32) + x1) (some (((q2 4) (((19 : Int32) + x1).toNatClampNeg)), q2))) else (some (x1, q2)))
def F_X8_plainMark (N : Nat) (v : SV) (x1 : Int32) : Option (Int32 × SV) := (F_X8_begin N v (21 : Int32)).bind (fun q3 => (F_X8_lent N q3 x1 (20 : Int32)).bind (fun q10 => (F_X8_wantedBy N (q10.2) x1).bind (fun q15 => some (((q10.1) + q15), (q10.2)))))
def F_X8_liveSize (N : Nat) (v : SV) (x1 : Int32) : Option (Int32 × SV) := (F_X8_begin N v (13 : Int32)).bind (fun q3 => (F_X8_lent N q3 x1 (10 : Int32)).bind (fun q10 => some (((q10.1) - (100 : Int32)), (q10.2))))
def F_X8_sizeOfLive (N : Nat) (v : SV) (x1 : Int32) : Option (Int32 × SV) := chk 55 ((7 : Int32) + x1) (if ((v 4) (((7 : Int32) + x1).toNatClampNeg)) = (5 : Int32) then ((F_X8_begin N v (14 : Int32)).bind (fun q16 => (F_X8_liveSize N q16 x1).bind (fun q22 => some (((2 : Int32) * (q22.1)), (q22.2))))) else ((F_X8_liveSize N v x1).bind (fun q29 => some ((q29.1), (q29.2)))))
def F_X8_markOf (N : Nat) (v : SV) (x1 : Int32) : Option (Int32 × SV) := chk 55 ((7 : Int32) + x1) (if ((v 4) (((7 : Int32) + x1).toNatClampNeg)) = (2 : Int32) then ((F_X8_begin N v (24 : Int32)).bind (fun q18 => (F_X8_plainMark N q18 x1).bind (fun q24 => some (((2 : Int32) * (q24.1)), (q24.2))))) else (if ((v 4) (((7 : Int32) + x1).toNatClampNeg)) = (3 : Int32) then ((F_X8_begin N v (22 : Int32)).bind (fun q37 => (F_X8_plainMark N q37 x1).bind (fun q42 => some (((q42.1) - (1000 : Int32)), (q42.2))))) else (if ((v 4) (((7 : Int32) + x1).toNatClampNeg)) = (1 : Int32) then ((F_X8_plainMark N v x1).bind (fun q57 => some ((q57.1), (q57.2)))) else ((F_X8_begin N v (23 : Int32)).bind (fun q64 => (F_X8_lent N q64 x1 (20 : Int32)).bind (fun q71 => (F_X8_sizeOfLive N (q71.2) x1).bind (fun q78 => some (((q71.1) - (q78.1)), (q78.2)))))))))
def F_X8_plainSize (N : Nat) (v : SV) (x1 : Int32) : Option (Int32 × SV) := (F_X8_begin N v (11 : Int32)).bind (fun q3 => (F_X8_lent N q3 x1 (10 : Int32)).bind (fun q10 => (F_X8_markOf N (q10.2) x1).bind (fun q17 => some (((q10.1) + (q17.1)), (q17.2)))))
def F_X8_sizeOf (N : Nat) (v : SV) (x1 : Int32) : Option (Int32 × SV) := chk 55 ((7 : Int32) + x1) (if ((v 4) (((7 : Int32) + x1).toNatClampNeg)) = (2 : Int32) then ((F_X8_begin N v (12 : Int32)).bind (fun q18 => (F_X8_plainSize N q18 x1).bind (fun q23 => some ((-(q23.1)), (q23.2))))) else (if ((v 4) (((7 : Int32) + x1).toNatClampNeg)) < (4 : Int32) then ((F_X8_plainSize N v x1).bind (fun q43 => some ((q43.1), (q43.2)))) else ((F_X8_sizeOfLive N v x1).bind (fun q35 => some ((q35.1), (q35.2))))))
def F_X8_ask (N : Nat) (v : SV) (x1 : Int32) (x2 : Int32) : Option (Int32 × SV) := (F_X8_isThing N v x1).bind (fun q2 => if q2 = (0 : Int32) then (some ((-1000001 : Int32), v)) else ((F_X8_in N (x2.toInt64) (0 : Int64) (1 : Int64)).bind (fun q12 => if q12 = (0 : Int32) then (some ((-1000001 : Int32), v)) else (if x2 = (0 : Int32) then ((F_X8_sizeOf N (up2 v 0 24 (0 : Int32)) x1).bind (fun q32 => some ((q32.1), (q32.2)))) else ((F_X8_markOf N (up2 v 0 24 (0 : Int32)) x1).bind (fun q40 => some ((q40.1), (q40.2))))))))
def F_X8_trace (N : Nat) (v : SV) (x1 : Int32) : Option (Int32) := (F_X8_in N (x1.toInt64) (0 : Int64) (((v 0 24) - (1 : Int32)).toInt64)).bind (fun q10 => if q10 = (0 : Int32) then (some (-1000000 : Int32)) else (chk 16 x1 (some ((v 14) (x1.toNatClampNeg)))))
def F_X8_count_L4 (N : Nat) (v : SV) (x1 : Int32) (K33 : Int32 → Option (Int32)) : Nat → Int32 → Int32 → Option (Int32)
  | 0, _, _ => none
  | n + 1, x2, x3 => if x3 < (8 : Int32) then (chk 8 x3 (jn (fun (s25_0 : Int32) => F_X8_count_L4 N v x1 K33 n (x2 + s25_0) (x3 + (1 : Int32))) (fun J25 => if ((v 2) (x3.toNatClampNeg)) < (0 : Int32) then (J25 (0 : Int32)) else (J25 (1 : Int32))))) else (K33 x2)
def F_X8_count (N : Nat) (v : SV) (x1 : Int32) : Option (Int32) := F_X8_count_L4 N v x1 (fun (x2_33 : Int32) => if x1 = 0 then (some x2_33) else (if x1 = 1 then (chk 55 (2 : Int32) (some ((v 4) ((2 : Int32).toNatClampNeg)))) else (if x1 = 2 then (chk 55 (3 : Int32) (some ((v 4) ((3 : Int32).toNatClampNeg)))) else (if x1 = 3 then (chk 55 (4 : Int32) (some ((v 4) ((4 : Int32).toNatClampNeg)))) else (if x1 = 4 then (chk 55 (6 : Int32) (some ((v 4) ((6 : Int32).toNatClampNeg)))) else (if x1 = 5 then (chk 55 (5 : Int32) (some ((v 4) ((5 : Int32).toNatClampNeg)))) else (if x1 = 6 then (some (v 0 17)) else (if x1 = 7 then (some (v 0 8)) else (some (-1000001 : Int32)))))))))) N (0 : Int32) (0 : Int32)
def F_X8_status (N : Nat) (v : SV) : Option (Int32) := some (v 0 3)
set_option maxHeartbeats 2000000 in
set_option maxRecDepth 20000 in
theorem c_X8_in {t : Nat → ClassId} {N : Nat} {x0 : Int64} {x2 : Int64} {x4 : Int64} {r : Int32} (h : F_X8_in N x0 x2 x4 = some r) : CI t yX8_in cX8_in 6 (some .boolean) (rm 1) [.long x0, .long x2, .long x4] [] r [] := by
  refine CZ.of (own := RX8) (by decide) rfl (Nat.le_of_ble_eq_true rfl) (fun X C hR0 => ?_)
  have hR : ∀ q : Int32, q = r → RetZ X cX8_in q [] := by intro q e; subst e; exact hR0
  show G X [] 0 [(0, .long x0), (2, .long x2), (4, .long x4)] []
  unfold F_X8_in at h
  refine G.lload_n C dX8_in_0 0 rfl ?_
  refine G.lload_n C dX8_in_1 1 rfl ?_
  refine G.lcmp C dX8_in_2 ?_
  refine G.if_lt (tgt := 17) C dX8_in_3 (by decide) h (fun h => ?_) (fun h => ?_)
  · refine G.iconst C dX8_in_17 ni_0 ?_
    exact hR _ (Option.some.inj h) (Or.inl rfl) _ _ dX8_in_18
  · refine G.lload_n C dX8_in_6 0 rfl ?_
    refine G.lload C dX8_in_7 2 rfl ?_
    refine G.lcmp C dX8_in_9 ?_
    refine G.if_gt (tgt := 17) C dX8_in_10 (by decide) h (fun h => ?_) (fun h => ?_)
    · refine G.iconst C dX8_in_17 ni_0 ?_
      exact hR _ (Option.some.inj h) (Or.inl rfl) _ _ dX8_in_18
    · refine G.iconst C dX8_in_13 ni_1 ?_
      refine G.goto (tgt := 18) C dX8_in_14 (by decide) ?_
      exact hR _ (Option.some.inj h) (Or.inr rfl) _ _ dX8_in_18
set_option maxHeartbeats 2000000 in
set_option maxRecDepth 20000 in
theorem c_X8_has {t : Nat → ClassId} {N : Nat} {x0 : Int32} {x1 : Int32} {r : Int32} (h : F_X8_has N x0 x1 = some r) : CI t yX8_has cX8_has 2 (some .boolean) (rm 1) [.int x0, .int x1] [] r [] := by
  refine CZ.of (own := RX8) (by decide) rfl (Nat.le_of_ble_eq_true rfl) (fun X C hR0 => ?_)
  have hR : ∀ q : Int32, q = r → RetZ X cX8_has q [] := by intro q e; subst e; exact hR0
  show G X [] 0 [(0, .int x0), (1, .int x1)] []
  unfold F_X8_has at h
  refine G.iload_n C dX8_has_0 0 rfl ?_
  refine G.iload_n C dX8_has_1 1 rfl ?_
  refine G.ishr C dX8_has_2 ?_
  refine G.iconst C dX8_has_3 ni_1 ?_
  refine G.iand C dX8_has_4 ?_
  refine G.iconst C dX8_has_5 ni_1 ?_
  refine G.icmp_ne (tgt := 13) C dX8_has_6 (by decide) h (fun h => ?_) (fun h => ?_)
  · refine G.iconst C dX8_has_13 ni_0 ?_
    exact hR _ (Option.some.inj h) (Or.inl rfl) _ _ dX8_has_14
  · refine G.iconst C dX8_has_9 ni_1 ?_
    refine G.goto (tgt := 14) C dX8_has_10 (by decide) ?_
    exact hR _ (Option.some.inj h) (Or.inr rfl) _ _ dX8_has_14
set_option maxHeartbeats 2000000 in
set_option maxRecDepth 20000 in
theorem w_X8_ones_L4 {X : Cx} {t : Nat → ClassId} {N : Nat} {r : Int32} (C : gX X t (rm 1) cX8_ones 3 RX8) (hR : ∀ q : Int32, q = r → RetI X cX8_ones q []) : ∀ (n : Nat) (x1 : Int32) (x2 : Int32), F_X8_ones_L4 N  n x1 x2 = some r → G X [] 4 [(1, .int x1), (2, .int x2)] [] := by
  intro n
  induction n with
  | zero => intro x1 x2 h; exact absurd h (by simp [F_X8_ones_L4])
  | succ n ih =>
    intro x1 x2 h
    rw [F_X8_ones_L4] at h
    refine G.iload_n C dX8_ones_4 1 rfl ?_
    refine G.if_eq (tgt := 20) C dX8_ones_5 (by decide) h (fun h => ?_) (fun h => ?_)
    · refine G.iload_n C dX8_ones_20 0 rfl ?_
      exact hR _ (Option.some.inj h) _ _ dX8_ones_21
    · refine G.iinc (v := (x1 + (1 : Int32))) (lv' := [(1, .int (x1 + (1 : Int32))), (2, .int x2)]) C dX8_ones_8 0 rfl (by rw [ni_1]) (by decide) rfl ?_
      refine G.iload_n C dX8_ones_11 1 rfl ?_
      refine G.iload_n C dX8_ones_12 1 rfl ?_
      refine G.iconst C dX8_ones_13 ni_1 ?_
      refine G.isub C dX8_ones_14 ?_
      refine G.iand C dX8_ones_15 ?_
      refine G.istore_n (lv' := [(2, .int (x2 &&& (x2 - (1 : Int32)))), (1, .int (x1 + (1 : Int32)))]) C dX8_ones_16 (by decide) rfl ?_
      refine G.goto (tgt := 4) C dX8_ones_17 (by decide) ?_
      exact G.lvs [1, 0] rfl (ih _ _ h)
set_option maxHeartbeats 2000000 in
set_option maxRecDepth 20000 in
theorem c_X8_ones {t : Nat → ClassId} {N : Nat} {x0 : Int32} {r : Int32} (h : F_X8_ones N x0 = some r) : CI t yX8_ones cX8_ones 3 (some .int) (rm 1) [.int x0] [] r [] := by
  refine CI.of (own := RX8) (by decide) rfl (Nat.le_of_ble_eq_true rfl) (fun X C hR0 => ?_)
  have hR : ∀ q : Int32, q = r → RetI X cX8_ones q [] := by intro q e; subst e; exact hR0
  show G X [] 0 [(0, .int x0)] []
  unfold F_X8_ones at h
  refine G.iconst C dX8_ones_0 ni_0 ?_
  refine G.istore_n (lv' := [(1, .int (0 : Int32)), (0, .int x0)]) C dX8_ones_1 (by decide) rfl ?_
  refine G.iload_n C dX8_ones_2 1 rfl ?_
  refine G.istore_n (lv' := [(2, .int x0), (1, .int (0 : Int32)), (0, .int x0)]) C dX8_ones_3 (by decide) rfl ?_
  exact G.lvs [1, 0] rfl (w_X8_ones_L4 C hR N _ _ h)
set_option maxHeartbeats 2000000 in
set_option maxRecDepth 20000 in
theorem c_X8_find {t : Nat → ClassId} {a : Nat → Nat} {N : Nat} {v : SV} {x1 : Int32} {r : Int32 × SV} (h : F_X8_find N v x1 = some r) : CI t yX8_find cX8_find 2 (some .int) (rm 1) [.ref (a 0), .int x1] [wModel t a v] (r.1) [wModel t a (r.2)] := by
  refine CI.of (own := RX8) (by decide) rfl (Nat.le_of_ble_eq_true rfl) (fun X C hR0 => ?_)
  have hR : ∀ q : Int32 × SV, q = r → RetI X cX8_find (q.1) [wModel t a (q.2)] := by intro q e; subst e; exact hR0
  show G X [wModel t a v] 0 [(0, .ref (a 0)), (1, .int x1)] []
  unfold F_X8_find at h
  refine G.aload_n C dX8_find_0 0 rfl ?_
  refine G.iload_n C dX8_find_1 1 rfl ?_
  refine pfX8_53 (i := 0) (j := 0) (cs' := [wModel t a (up2 v 0 3 x1)]) C rfl rfl (Nat.le_of_ble_eq_true rfl) dX8_find_2 (suModel_3) rfl ?_
  refine G.ldc C k_1163 dX8_find_5 ?_
  refine G.iload_n C dX8_find_7 1 rfl ?_
  refine G.isub C dX8_find_8 ?_
  exact hR _ (Option.some.inj h) _ _ dX8_find_9
set_option maxHeartbeats 2000000 in
set_option maxRecDepth 20000 in
theorem c_X8_well {t : Nat → ClassId} {a : Nat → Nat} {N : Nat} {v : SV} {x1 : Int32} {r : Int32 × SV} (h : F_X8_well N v x1 = some r) : CI t yX8_well cX8_well 2 (some .int) (rm 1) [.ref (a 0), .int x1] [wModel t a v] (r.1) [wModel t a (r.2)] := by
  refine CI.of (own := RX8) (by decide) rfl (Nat.le_of_ble_eq_true rfl) (fun X C hR0 => ?_)
  have hR : ∀ q : Int32 × SV, q = r → RetI X cX8_well (q.1) [wModel t a (q.2)] := by intro q e; subst e; exact hR0
  show G X [wModel t a v] 0 [(0, .ref (a 0)), (1, .int x1)] []
  unfold F_X8_well at h
  refine G.aload_n C dX8_well_0 0 rfl ?_
  refine G.iconst C dX8_well_1 ni_0 ?_
  refine pfX8_53 (i := 0) (j := 0) (cs' := [wModel t a (up2 v 0 3 (0 : Int32))]) C rfl rfl (Nat.le_of_ble_eq_true rfl) dX8_well_2 (suModel_3) rfl ?_
  refine G.iload_n C dX8_well_5 1 rfl ?_
  exact hR _ (Option.some.inj h) _ _ dX8_well_6
set_option maxHeartbeats 2000000 in
set_option maxRecDepth 20000 in
theorem c_X8_isRow {t : Nat → ClassId} {N : Nat} {x0 : Int32} {r : Int32} (h : F_X8_isRow N x0 = some r) : CI t yX8_isRow cX8_isRow 1 (some .boolean) (rm 2) [.int x0] [] r [] := by
  refine CZ.of (own := RX8) (by decide) rfl (Nat.le_of_ble_eq_true rfl) (fun X C hR0 => ?_)
  have hR : ∀ q : Int32, q = r → RetZ X cX8_isRow q [] := by intro q e; subst e; exact hR0
  show G X [] 0 [(0, .int x0)] []
  unfold F_X8_isRow at h
  refine G.iload_n C dX8_isRow_0 0 rfl ?_
  refine G.i2l C dX8_isRow_1 ?_
  refine G.lconst C dX8_isRow_2 nl_0 ?_
  refine G.ldc2 C k_1153 dX8_isRow_3 ?_
  obtain ⟨q6, hq6, h⟩ := bind_some' h
  refine G.csI (cs' := []) C (c_X8_in hq6) [] rfl rfl rfl rfl k_1154 cal_X8_in (fit_rm (by decide) (by decide)) rfl (Nat.le_of_ble_eq_true rfl) dX8_isRow_6 ?_
  exact hR _ (Option.some.inj (zr_some h).2) (zr_some h).1 _ _ dX8_isRow_9
set_option maxHeartbeats 2000000 in
set_option maxRecDepth 20000 in
theorem w_X8_row_L55 {X : Cx} {t : Nat → ClassId} {a : Nat → Nat} {N : Nat} {x1 : Int32} {x3 : Int32} {K81 : SV → Option (Int32 × SV)} {r : Int32 × SV} (C : gX X t (rm 3) cX8_row 5 RX8) (hR : ∀ q : Int32 × SV, q = r → RetI X cX8_row (q.1) [wModel t a (q.2)]) (hK81 : ∀ (v_81 : SV), K81 v_81 = some r → G X [wModel t a v_81] 81 [(0, .ref (a 0)), (3, .int x3)] []) : ∀ (n : Nat) (x4 : Int32) (v : SV), F_X8_row_L55 N x1 x3 K81 n x4 v = some r → G X [wModel t a v] 55 [(0, .ref (a 0)), (1, .int x1), (3, .int x3), (4, .int x4)] [] := by
  intro n
  induction n with
  | zero => intro x4 v h; exact absurd h (by simp [F_X8_row_L55])
  | succ n ih =>
    intro x4 v h
    rw [F_X8_row_L55] at h
    refine G.iload C dX8_row_55 3 rfl ?_
    refine G.bipush C dX8_row_57 nb_40 ?_
    refine G.icmp_ge (tgt := 81) C dX8_row_59 (by decide) h (fun h => ?_) (fun h => ?_)
    · exact G.lvs [0, 2] rfl (hK81 _ h)
    · refine G.aload_n C dX8_row_62 0 rfl ?_
      refine gfX8_16 (i := 0) (j := 0) (v := .ref (a 3)) C rfl rfl rfl dX8_row_63 ?_
      refine G.bipush C dX8_row_66 nb_40 ?_
      refine G.iload_n C dX8_row_68 1 rfl ?_
      refine G.imul C dX8_row_69 ?_
      refine G.iload C dX8_row_70 3 rfl ?_
      refine G.iadd C dX8_row_72 ?_
      refine G.iconst C dX8_row_73 ni_0 ?_
      refine G.iast (i := 0) (j := 3) (f := v 3) (cs' := [wModel t a (up2 v 3 ((((40 : Int32) * x1) + x4).toNatClampNeg) (0 : Int32))]) C rfl rfl h dX8_row_74 (suModelA_3) rfl (fun h => ?_)
      refine G.iinc (v := (x4 + (1 : Int32))) (lv' := [(4, .int (x4 + (1 : Int32))), (0, .ref (a 0)), (1, .int x1), (3, .int x3)]) C dX8_row_75 3 rfl (by rw [ni_1]) (by decide) rfl ?_
      refine G.goto (tgt := 55) C dX8_row_78 (by decide) ?_
      exact G.lvs [1, 2, 3, 0] rfl (ih _ _ h)
set_option maxHeartbeats 2000000 in
set_option maxRecDepth 20000 in
theorem c_X8_row {t : Nat → ClassId} {a : Nat → Nat} {N : Nat} {v : SV} {x1 : Int32} {x2 : Int32} {x3 : Int32} {r : Int32 × SV} (h : F_X8_row N v x1 x2 x3 = some r) : CI t yX8_row cX8_row 5 (some .int) (rm 3) [.ref (a 0), .int x1, .int x2, .int x3] [wModel t a v] (r.1) [wModel t a (r.2)] := by
  refine CI.of (own := RX8) (by decide) rfl (Nat.le_of_ble_eq_true rfl) (fun X C hR0 => ?_)
  have hR : ∀ q : Int32 × SV, q = r → RetI X cX8_row (q.1) [wModel t a (q.2)] := by intro q e; subst e; exact hR0
  show G X [wModel t a v] 0 [(0, .ref (a 0)), (1, .int x1), (2, .int x2), (3, .int x3)] []
  unfold F_X8_row at h
  refine G.iload_n C dX8_row_0 1 rfl ?_
  obtain ⟨q1, hq1, h⟩ := bind_some' h
  refine G.csI (cs' := [wModel t a v]) C (c_X8_isRow hq1) [] rfl rfl rfl rfl k_1150 cal_X8_isRow (fit_rm (by decide) (by decide)) rfl (Nat.le_of_ble_eq_true rfl) dX8_row_1 ?_
  refine G.if_eq (tgt := 25) C dX8_row_4 (by decide) h (fun h => ?_) (fun h => ?_)
  · refine G.ldc C k_1158 dX8_row_25 ?_
    exact hR _ (Option.some.inj h) _ _ dX8_row_27
  · refine G.iload_n C dX8_row_7 2 rfl ?_
    refine G.i2l C dX8_row_8 ?_
    refine G.lconst C dX8_row_9 nl_0 ?_
    refine G.ldc2 C k_1157 dX8_row_10 ?_
    obtain ⟨q13, hq13, h⟩ := bind_some' h
    refine G.csI (cs' := [wModel t a v]) C (c_X8_in hq13) [] rfl rfl rfl rfl k_1154 cal_X8_in (fit_rm (by decide) (by decide)) rfl (Nat.le_of_ble_eq_true rfl) dX8_row_13 ?_
    refine G.if_eq (tgt := 25) C dX8_row_16 (by decide) h (fun h => ?_) (fun h => ?_)
    · refine G.ldc C k_1158 dX8_row_25 ?_
      exact hR _ (Option.some.inj h) _ _ dX8_row_27
    · refine G.iload_n C dX8_row_19 3 rfl ?_
      refine G.bipush C dX8_row_20 nb_40 ?_
      refine G.icmp_le (tgt := 28) C dX8_row_22 (by decide) h (fun h => ?_) (fun h => ?_)
      · refine G.iload_n C dX8_row_28 3 rfl ?_
        refine G.if_ge (tgt := 38) C dX8_row_29 (by decide) h (fun h => ?_) (fun h => ?_)
        · refine G.aload_n C dX8_row_38 0 rfl ?_
          refine gfX8_7 (i := 0) (j := 0) (v := .ref (a 1)) C rfl rfl rfl dX8_row_39 ?_
          refine G.iload_n C dX8_row_42 1 rfl ?_
          refine G.iload_n C dX8_row_43 2 rfl ?_
          refine G.iast (i := 0) (j := 1) (f := v 1) (cs' := [wModel t a (up2 v 1 (x1.toNatClampNeg) x2)]) C rfl rfl h dX8_row_44 (suModelA_1) rfl (fun h => ?_)
          refine G.aload_n C dX8_row_45 0 rfl ?_
          refine gfX8_13 (i := 0) (j := 0) (v := .ref (a 2)) C rfl rfl rfl dX8_row_46 ?_
          refine G.iload_n C dX8_row_49 1 rfl ?_
          refine G.iload_n C dX8_row_50 3 rfl ?_
          refine G.iast (i := 0) (j := 2) (f := (up2 v 1 (x1.toNatClampNeg) x2) 2) (cs' := [wModel t a (up2 (up2 v 1 (x1.toNatClampNeg) x2) 2 (x1.toNatClampNeg) x3)]) C rfl rfl h dX8_row_51 (suModelA_2) rfl (fun h => ?_)
          refine G.iconst C dX8_row_52 ni_0 ?_
          refine G.istore (lv' := [(4, .int (0 : Int32)), (0, .ref (a 0)), (1, .int x1), (2, .int x2), (3, .int x3)]) C dX8_row_53 (by decide) rfl ?_
          refine G.lvs [1, 2, 4, 0] rfl (w_X8_row_L55 C hR (fun v_81 h => ?_) N _ _ h)
          · refine G.aload_n C dX8_row_81 0 rfl ?_
            refine G.iload_n C dX8_row_82 1 rfl ?_
            obtain ⟨q83, hq83, h⟩ := bind_some' h
            refine G.cvI (i0 := 0) (j0 := 0) (cs' := [wModel t a (q83.2)]) C (c_X8_well (a := a) hq83) [0] rfl rfl rfl rfl rfl rfl rfl k_1164 cal_X8_well (fit_rm (by decide) (by decide)) rfl (Nat.le_of_ble_eq_true rfl) dX8_row_83 ?_
            exact hR _ (Option.some.inj h) _ _ dX8_row_86
        · refine G.aload_n C dX8_row_32 0 rfl ?_
          refine G.iconst C dX8_row_33 ni_4 ?_
          obtain ⟨q34, hq34, h⟩ := bind_some' h
          refine G.cvI (i0 := 0) (j0 := 0) (cs' := [wModel t a (q34.2)]) C (c_X8_find (a := a) hq34) [0] rfl rfl rfl rfl rfl rfl rfl k_1159 cal_X8_find (fit_rm (by decide) (by decide)) rfl (Nat.le_of_ble_eq_true rfl) dX8_row_34 ?_
          exact hR _ (Option.some.inj h) _ _ dX8_row_37
      · refine G.ldc C k_1158 dX8_row_25 ?_
        exact hR _ (Option.some.inj h) _ _ dX8_row_27
set_option maxHeartbeats 2000000 in
set_option maxRecDepth 20000 in
theorem c_X8_asLane {t : Nat → ClassId} {N : Nat} {x0 : Int32} {x1 : Int32} {r : Int32} (h : F_X8_asLane N x0 x1 = some r) : CI t yX8_asLane cX8_asLane 2 (some .int) (rm 1) [.int x0, .int x1] [] r [] := by
  refine CI.of (own := RX8) (by decide) rfl (Nat.le_of_ble_eq_true rfl) (fun X C hR0 => ?_)
  have hR : ∀ q : Int32, q = r → RetI X cX8_asLane q [] := by intro q e; subst e; exact hR0
  show G X [] 0 [(0, .int x0), (1, .int x1)] []
  unfold F_X8_asLane at h
  refine G.iload_n C dX8_asLane_0 0 rfl ?_
  refine G.if_ne (tgt := 14) C dX8_asLane_1 (by decide) h (fun h => ?_) (fun h => ?_)
  · refine G.iload_n C dX8_asLane_14 0 rfl ?_
    refine G.iconst C dX8_asLane_15 ni_1 ?_
    refine G.icmp_ne (tgt := 29) C dX8_asLane_16 (by decide) h (fun h => ?_) (fun h => ?_)
    · refine G.iload_n C dX8_asLane_29 1 rfl ?_
      exact hR _ (Option.some.inj h) _ _ dX8_asLane_30
    · refine G.iload_n C dX8_asLane_19 1 rfl ?_
      refine G.bipush C dX8_asLane_20 nb_16 ?_
      refine G.ishl C dX8_asLane_22 ?_
      refine G.bipush C dX8_asLane_23 nb_16 ?_
      refine G.ishr C dX8_asLane_25 ?_
      refine G.goto (tgt := 30) C dX8_asLane_26 (by decide) ?_
      exact hR _ (Option.some.inj h) _ _ dX8_asLane_30
  · refine G.iload_n C dX8_asLane_4 1 rfl ?_
    refine G.bipush C dX8_asLane_5 nb_24 ?_
    refine G.ishl C dX8_asLane_7 ?_
    refine G.bipush C dX8_asLane_8 nb_24 ?_
    refine G.ishr C dX8_asLane_10 ?_
    refine G.goto (tgt := 30) C dX8_asLane_11 (by decide) ?_
    exact hR _ (Option.some.inj h) _ _ dX8_asLane_30
set_option maxHeartbeats 2000000 in
set_option maxRecDepth 20000 in
theorem c_X8_set {t : Nat → ClassId} {a : Nat → Nat} {N : Nat} {v : SV} {x1 : Int32} {x2 : Int32} {x3 : Int32} {r : Int32 × SV} (h : F_X8_set N v x1 x2 x3 = some r) : CI t yX8_set cX8_set 4 (some .int) (rm 3) [.ref (a 0), .int x1, .int x2, .int x3] [wModel t a v] (r.1) [wModel t a (r.2)] := by
  refine CI.of (own := RX8) (by decide) rfl (Nat.le_of_ble_eq_true rfl) (fun X C hR0 => ?_)
  have hR : ∀ q : Int32 × SV, q = r → RetI X cX8_set (q.1) [wModel t a (q.2)] := by intro q e; subst e; exact hR0
  show G X [wModel t a v] 0 [(0, .ref (a 0)), (1, .int x1), (2, .int x2), (3, .int x3)] []
  unfold F_X8_set at h
  refine G.iload_n C dX8_set_0 1 rfl ?_
  obtain ⟨q1, hq1, h⟩ := bind_some' h
  refine G.csI (cs' := [wModel t a v]) C (c_X8_isRow hq1) [] rfl rfl rfl rfl k_1150 cal_X8_isRow (fit_rm (by decide) (by decide)) rfl (Nat.le_of_ble_eq_true rfl) dX8_set_1 ?_
  refine G.if_ne (tgt := 10) C dX8_set_4 (by decide) h (fun h => ?_) (fun h => ?_)
  · refine G.aload_n C dX8_set_10 0 rfl ?_
    refine gfX8_13 (i := 0) (j := 0) (v := .ref (a 2)) C rfl rfl rfl dX8_set_11 ?_
    refine G.iload_n C dX8_set_14 1 rfl ?_
    refine G.iald (i := 0) (j := 2) (f := (v 2)) C rfl rfl h dX8_set_15 (fun h => ?_)
    refine G.if_ge (tgt := 25) C dX8_set_16 (by decide) h (fun h => ?_) (fun h => ?_)
    · refine G.iload_n C dX8_set_25 2 rfl ?_
      refine G.i2l C dX8_set_26 ?_
      refine G.lconst C dX8_set_27 nl_0 ?_
      refine G.aload_n C dX8_set_28 0 rfl ?_
      refine gfX8_13 (i := 0) (j := 0) (v := .ref (a 2)) C rfl rfl rfl dX8_set_29 ?_
      refine G.iload_n C dX8_set_32 1 rfl ?_
      refine G.iald (i := 0) (j := 2) (f := (v 2)) C rfl rfl h dX8_set_33 (fun h => ?_)
      refine G.iconst C dX8_set_34 ni_1 ?_
      refine G.isub C dX8_set_35 ?_
      refine G.i2l C dX8_set_36 ?_
      obtain ⟨q37, hq37, h⟩ := bind_some' h
      refine G.csI (cs' := [wModel t a v]) C (c_X8_in hq37) [] rfl rfl rfl rfl k_1154 cal_X8_in (fit_rm (by decide) (by decide)) rfl (Nat.le_of_ble_eq_true rfl) dX8_set_37 ?_
      refine G.if_ne (tgt := 49) C dX8_set_40 (by decide) h (fun h => ?_) (fun h => ?_)
      · refine G.aload_n C dX8_set_49 0 rfl ?_
        refine gfX8_16 (i := 0) (j := 0) (v := .ref (a 3)) C rfl rfl rfl dX8_set_50 ?_
        refine G.bipush C dX8_set_53 nb_40 ?_
        refine G.iload_n C dX8_set_55 1 rfl ?_
        refine G.imul C dX8_set_56 ?_
        refine G.iload_n C dX8_set_57 2 rfl ?_
        refine G.iadd C dX8_set_58 ?_
        refine G.aload_n C dX8_set_59 0 rfl ?_
        refine gfX8_7 (i := 0) (j := 0) (v := .ref (a 1)) C rfl rfl rfl dX8_set_60 ?_
        refine G.iload_n C dX8_set_63 1 rfl ?_
        refine G.iald (i := 0) (j := 1) (f := (v 1)) C rfl rfl h dX8_set_64 (fun h => ?_)
        refine G.iload_n C dX8_set_65 3 rfl ?_
        obtain ⟨q66, hq66, h⟩ := bind_some' h
        refine G.csI (cs' := [wModel t a v]) C (c_X8_asLane hq66) [] rfl rfl rfl rfl k_1172 cal_X8_asLane (fit_rm (by decide) (by decide)) rfl (Nat.le_of_ble_eq_true rfl) dX8_set_66 ?_
        refine G.iast (i := 0) (j := 3) (f := v 3) (cs' := [wModel t a (up2 v 3 ((((40 : Int32) * x1) + x2).toNatClampNeg) q66)]) C rfl rfl h dX8_set_69 (suModelA_3) rfl (fun h => ?_)
        refine G.aload_n C dX8_set_70 0 rfl ?_
        refine G.aload_n C dX8_set_71 0 rfl ?_
        refine gfX8_16 (i := 0) (j := 0) (v := .ref (a 3)) C rfl rfl rfl dX8_set_72 ?_
        refine G.bipush C dX8_set_75 nb_40 ?_
        refine G.iload_n C dX8_set_77 1 rfl ?_
        refine G.imul C dX8_set_78 ?_
        refine G.iload_n C dX8_set_79 2 rfl ?_
        refine G.iadd C dX8_set_80 ?_
        refine G.iald (i := 0) (j := 3) (f := (upd (v 3) ((((40 : Int32) * x1) + x2).toNatClampNeg) q66)) C rfl rfl h dX8_set_81 (fun h => ?_)
        obtain ⟨q82, hq82, h⟩ := bind_some' h
        refine G.cvI (i0 := 0) (j0 := 0) (cs' := [wModel t a (q82.2)]) C (c_X8_well (a := a) hq82) [0] rfl rfl rfl rfl rfl rfl rfl k_1164 cal_X8_well (fit_rm (by decide) (by decide)) rfl (Nat.le_of_ble_eq_true rfl) dX8_set_82 ?_
        exact hR _ (Option.some.inj h) _ _ dX8_set_85
      · refine G.aload_n C dX8_set_43 0 rfl ?_
        refine G.iconst C dX8_set_44 ni_2 ?_
        obtain ⟨q45, hq45, h⟩ := bind_some' h
        refine G.cvI (i0 := 0) (j0 := 0) (cs' := [wModel t a (q45.2)]) C (c_X8_find (a := a) hq45) [0] rfl rfl rfl rfl rfl rfl rfl k_1159 cal_X8_find (fit_rm (by decide) (by decide)) rfl (Nat.le_of_ble_eq_true rfl) dX8_set_45 ?_
        exact hR _ (Option.some.inj h) _ _ dX8_set_48
    · refine G.aload_n C dX8_set_19 0 rfl ?_
      refine G.iconst C dX8_set_20 ni_1 ?_
      obtain ⟨q21, hq21, h⟩ := bind_some' h
      refine G.cvI (i0 := 0) (j0 := 0) (cs' := [wModel t a (q21.2)]) C (c_X8_find (a := a) hq21) [0] rfl rfl rfl rfl rfl rfl rfl k_1159 cal_X8_find (fit_rm (by decide) (by decide)) rfl (Nat.le_of_ble_eq_true rfl) dX8_set_21 ?_
      exact hR _ (Option.some.inj h) _ _ dX8_set_24
  · refine G.ldc C k_1158 dX8_set_7 ?_
    exact hR _ (Option.some.inj h) _ _ dX8_set_9
set_option maxHeartbeats 2000000 in
set_option maxRecDepth 20000 in
theorem w_X8_copy_L117 {X : Cx} {t : Nat → ClassId} {a : Nat → Nat} {N : Nat} {x1 : Int32} {x2 : Int32} {x3 : Int32} {x4 : Int32} {x5 : Int32} {K151 : SV → Option (Int32 × SV)} {r : Int32 × SV} (C : gX X t (rm 3) cX8_copy 7 RX8) (hR : ∀ q : Int32 × SV, q = r → RetI X cX8_copy (q.1) [wModel t a (q.2)]) (hK151 : ∀ (v_151 : SV), K151 v_151 = some r → G X [wModel t a v_151] 151 [(0, .ref (a 0)), (3, .int x3), (4, .int x4), (5, .int x5)] []) : ∀ (n : Nat) (x6 : Int32) (v : SV), F_X8_copy_L117 N x1 x2 x3 x4 x5 K151 n x6 v = some r → G X [wModel t a v] 117 [(0, .ref (a 0)), (1, .int x1), (2, .int x2), (3, .int x3), (4, .int x4), (5, .int x5), (6, .int x6)] [] := by
  intro n
  induction n with
  | zero => intro x6 v h; exact absurd h (by simp [F_X8_copy_L117])
  | succ n ih =>
    intro x6 v h
    rw [F_X8_copy_L117] at h
    refine G.iload C dX8_copy_117 6 rfl ?_
    refine G.iload C dX8_copy_119 5 rfl ?_
    refine G.icmp_ge (tgt := 151) C dX8_copy_121 (by decide) h (fun h => ?_) (fun h => ?_)
    · exact G.lvs [0, 3, 4, 5] rfl (hK151 _ h)
    · refine G.aload_n C dX8_copy_124 0 rfl ?_
      refine gfX8_22 (i := 0) (j := 0) (v := .ref (a 5)) C rfl rfl rfl dX8_copy_125 ?_
      refine G.iload C dX8_copy_128 6 rfl ?_
      refine G.aload_n C dX8_copy_130 0 rfl ?_
      refine gfX8_16 (i := 0) (j := 0) (v := .ref (a 3)) C rfl rfl rfl dX8_copy_131 ?_
      refine G.bipush C dX8_copy_134 nb_40 ?_
      refine G.iload_n C dX8_copy_136 1 rfl ?_
      refine G.imul C dX8_copy_137 ?_
      refine G.iload_n C dX8_copy_138 2 rfl ?_
      refine G.iadd C dX8_copy_139 ?_
      refine G.iload C dX8_copy_140 6 rfl ?_
      refine G.iadd C dX8_copy_142 ?_
      refine G.iald (i := 0) (j := 3) (f := (v 3)) C rfl rfl h dX8_copy_143 (fun h => ?_)
      refine G.iast (i := 0) (j := 5) (f := v 5) (cs' := [wModel t a (up2 v 5 (x6.toNatClampNeg) ((v 3) (((((40 : Int32) * x1) + x2) + x6).toNatClampNeg)))]) C rfl rfl h dX8_copy_144 (suModelA_5) rfl (fun h => ?_)
      refine G.iinc (v := (x6 + (1 : Int32))) (lv' := [(6, .int (x6 + (1 : Int32))), (0, .ref (a 0)), (1, .int x1), (2, .int x2), (3, .int x3), (4, .int x4), (5, .int x5)]) C dX8_copy_145 6 rfl (by rw [ni_1]) (by decide) rfl ?_
      refine G.goto (tgt := 117) C dX8_copy_148 (by decide) ?_
      exact G.lvs [1, 2, 3, 4, 5, 6, 0] rfl (ih _ _ h)
set_option maxHeartbeats 2000000 in
set_option maxRecDepth 20000 in
theorem w_X8_copy_L154 {X : Cx} {t : Nat → ClassId} {a : Nat → Nat} {N : Nat} {x3 : Int32} {x4 : Int32} {x5 : Int32} {K189 : SV → Option (Int32 × SV)} {r : Int32 × SV} (C : gX X t (rm 3) cX8_copy 7 RX8) (hR : ∀ q : Int32 × SV, q = r → RetI X cX8_copy (q.1) [wModel t a (q.2)]) (hK189 : ∀ (v_189 : SV), K189 v_189 = some r → G X [wModel t a v_189] 189 [(0, .ref (a 0)), (5, .int x5)] []) : ∀ (n : Nat) (x6 : Int32) (v : SV), F_X8_copy_L154 N x3 x4 x5 K189 n x6 v = some r → G X [wModel t a v] 154 [(0, .ref (a 0)), (3, .int x3), (4, .int x4), (5, .int x5), (6, .int x6)] [] := by
  intro n
  induction n with
  | zero => intro x6 v h; exact absurd h (by simp [F_X8_copy_L154])
  | succ n ih =>
    intro x6 v h
    rw [F_X8_copy_L154] at h
    refine G.iload C dX8_copy_154 4 rfl ?_
    refine G.iload C dX8_copy_156 3 rfl ?_
    refine G.icmp_ge (tgt := 189) C dX8_copy_158 (by decide) h (fun h => ?_) (fun h => ?_)
    · exact G.lvs [0, 3] rfl (hK189 _ h)
    · refine G.aload_n C dX8_copy_161 0 rfl ?_
      refine gfX8_16 (i := 0) (j := 0) (v := .ref (a 3)) C rfl rfl rfl dX8_copy_162 ?_
      refine G.bipush C dX8_copy_165 nb_40 ?_
      refine G.iload_n C dX8_copy_167 1 rfl ?_
      refine G.imul C dX8_copy_168 ?_
      refine G.iload C dX8_copy_169 2 rfl ?_
      refine G.iadd C dX8_copy_171 ?_
      refine G.iload C dX8_copy_172 4 rfl ?_
      refine G.iadd C dX8_copy_174 ?_
      refine G.aload_n C dX8_copy_175 0 rfl ?_
      refine gfX8_22 (i := 0) (j := 0) (v := .ref (a 5)) C rfl rfl rfl dX8_copy_176 ?_
      refine G.iload C dX8_copy_179 4 rfl ?_
      refine G.iald (i := 0) (j := 5) (f := (v 5)) C rfl rfl h dX8_copy_181 (fun h => ?_)
      refine G.iast (i := 0) (j := 3) (f := v 3) (cs' := [wModel t a (up2 v 3 (((((40 : Int32) * x3) + x4) + x6).toNatClampNeg) ((v 5) (x6.toNatClampNeg)))]) C rfl rfl h dX8_copy_182 (suModelA_3) rfl (fun h => ?_)
      refine G.iinc (v := (x6 + (1 : Int32))) (lv' := [(6, .int (x6 + (1 : Int32))), (0, .ref (a 0)), (3, .int x3), (4, .int x4), (5, .int x5)]) C dX8_copy_183 4 rfl (by rw [ni_1]) (by decide) rfl ?_
      refine G.goto (tgt := 154) C dX8_copy_186 (by decide) ?_
      exact G.lvs [1, 2, 3, 4, 0] rfl (ih _ _ h)
set_option maxHeartbeats 2000000 in
set_option maxRecDepth 20000 in
theorem c_X8_copy {t : Nat → ClassId} {a : Nat → Nat} {N : Nat} {v : SV} {x1 : Int32} {x2 : Int32} {x3 : Int32} {x4 : Int32} {x5 : Int32} {r : Int32 × SV} (h : F_X8_copy N v x1 x2 x3 x4 x5 = some r) : CI t yX8_copy cX8_copy 7 (some .int) (rm 3) [.ref (a 0), .int x1, .int x2, .int x3, .int x4, .int x5] [wModel t a v] (r.1) [wModel t a (r.2)] := by
  refine CI.of (own := RX8) (by decide) rfl (Nat.le_of_ble_eq_true rfl) (fun X C hR0 => ?_)
  have hR : ∀ q : Int32 × SV, q = r → RetI X cX8_copy (q.1) [wModel t a (q.2)] := by intro q e; subst e; exact hR0
  show G X [wModel t a v] 0 [(0, .ref (a 0)), (1, .int x1), (2, .int x2), (3, .int x3), (4, .int x4), (5, .int x5)] []
  unfold F_X8_copy at h
  refine G.iload_n C dX8_copy_0 1 rfl ?_
  obtain ⟨q1, hq1, h⟩ := bind_some' h
  refine G.csI (cs' := [wModel t a v]) C (c_X8_isRow hq1) [] rfl rfl rfl rfl k_1150 cal_X8_isRow (fit_rm (by decide) (by decide)) rfl (Nat.le_of_ble_eq_true rfl) dX8_copy_1 ?_
  refine G.if_eq (tgt := 14) C dX8_copy_4 (by decide) h (fun h => ?_) (fun h => ?_)
  · refine G.ldc C k_1158 dX8_copy_14 ?_
    exact hR _ (Option.some.inj h) _ _ dX8_copy_16
  · refine G.iload_n C dX8_copy_7 3 rfl ?_
    obtain ⟨q8, hq8, h⟩ := bind_some' h
    refine G.csI (cs' := [wModel t a v]) C (c_X8_isRow hq8) [] rfl rfl rfl rfl k_1150 cal_X8_isRow (fit_rm (by decide) (by decide)) rfl (Nat.le_of_ble_eq_true rfl) dX8_copy_8 ?_
    refine G.if_ne (tgt := 17) C dX8_copy_11 (by decide) h (fun h => ?_) (fun h => ?_)
    · refine G.aload_n C dX8_copy_17 0 rfl ?_
      refine gfX8_13 (i := 0) (j := 0) (v := .ref (a 2)) C rfl rfl rfl dX8_copy_18 ?_
      refine G.iload_n C dX8_copy_21 1 rfl ?_
      refine G.iald (i := 0) (j := 2) (f := (v 2)) C rfl rfl h dX8_copy_22 (fun h => ?_)
      refine jn_use (fun J => ∀ (u_35 : Unit), J u_35 = some r → G X [wModel t a v] 35 [(0, .ref (a 0))] []) h ?_ (fun J35 hJ35 h => ?_)
      · intro u_35 h
        refine G.aload_n C dX8_copy_35 0 rfl ?_
        refine G.iconst C dX8_copy_36 ni_1 ?_
        obtain ⟨q37, hq37, h⟩ := bind_some' h
        refine G.cvI (i0 := 0) (j0 := 0) (cs' := [wModel t a (q37.2)]) C (c_X8_find (a := a) hq37) [0] rfl rfl rfl rfl rfl rfl rfl k_1159 cal_X8_find (fit_rm (by decide) (by decide)) rfl (Nat.le_of_ble_eq_true rfl) dX8_copy_37 ?_
        exact hR _ (Option.some.inj h) _ _ dX8_copy_40
      refine G.if_lt (tgt := 35) C dX8_copy_23 (by decide) h (fun h => ?_) (fun h => ?_)
      · exact G.lvs [0] rfl (hJ35 _ h)
      · refine G.aload_n C dX8_copy_26 0 rfl ?_
        refine gfX8_13 (i := 0) (j := 0) (v := .ref (a 2)) C rfl rfl rfl dX8_copy_27 ?_
        refine G.iload_n C dX8_copy_30 3 rfl ?_
        refine G.iald (i := 0) (j := 2) (f := (v 2)) C rfl rfl h dX8_copy_31 (fun h => ?_)
        refine G.if_ge (tgt := 41) C dX8_copy_32 (by decide) h (fun h => ?_) (fun h => ?_)
        · refine G.aload_n C dX8_copy_41 0 rfl ?_
          refine gfX8_7 (i := 0) (j := 0) (v := .ref (a 1)) C rfl rfl rfl dX8_copy_42 ?_
          refine G.iload_n C dX8_copy_45 1 rfl ?_
          refine G.iald (i := 0) (j := 1) (f := (v 1)) C rfl rfl h dX8_copy_46 (fun h => ?_)
          refine G.aload_n C dX8_copy_47 0 rfl ?_
          refine gfX8_7 (i := 0) (j := 0) (v := .ref (a 1)) C rfl rfl rfl dX8_copy_48 ?_
          refine G.iload_n C dX8_copy_51 3 rfl ?_
          refine G.iald (i := 0) (j := 1) (f := (v 1)) C rfl rfl h dX8_copy_52 (fun h => ?_)
          refine G.icmp_eq (tgt := 62) C dX8_copy_53 (by decide) h (fun h => ?_) (fun h => ?_)
          · refine G.iload C dX8_copy_62 5 rfl ?_
            refine jn_use (fun J => ∀ (u_108 : Unit), J u_108 = some r → G X [wModel t a v] 108 [(0, .ref (a 0))] []) h ?_ (fun J108 hJ108 h => ?_)
            · intro u_108 h
              refine G.aload_n C dX8_copy_108 0 rfl ?_
              refine G.iconst C dX8_copy_109 ni_2 ?_
              obtain ⟨q110, hq110, h⟩ := bind_some' h
              refine G.cvI (i0 := 0) (j0 := 0) (cs' := [wModel t a (q110.2)]) C (c_X8_find (a := a) hq110) [0] rfl rfl rfl rfl rfl rfl rfl k_1159 cal_X8_find (fit_rm (by decide) (by decide)) rfl (Nat.le_of_ble_eq_true rfl) dX8_copy_110 ?_
              exact hR _ (Option.some.inj h) _ _ dX8_copy_113
            refine G.if_lt (tgt := 108) C dX8_copy_64 (by decide) h (fun h => ?_) (fun h => ?_)
            · exact G.lvs [0] rfl (hJ108 _ h)
            · refine G.iload_n C dX8_copy_67 2 rfl ?_
              refine G.i2l C dX8_copy_68 ?_
              refine G.lconst C dX8_copy_69 nl_0 ?_
              refine G.aload_n C dX8_copy_70 0 rfl ?_
              refine gfX8_13 (i := 0) (j := 0) (v := .ref (a 2)) C rfl rfl rfl dX8_copy_71 ?_
              refine G.iload_n C dX8_copy_74 1 rfl ?_
              refine G.iald (i := 0) (j := 2) (f := (v 2)) C rfl rfl h dX8_copy_75 (fun h => ?_)
              refine G.i2l C dX8_copy_76 ?_
              refine G.iload C dX8_copy_77 5 rfl ?_
              refine G.i2l C dX8_copy_79 ?_
              refine G.lsub C dX8_copy_80 ?_
              obtain ⟨q81, hq81, h⟩ := bind_some' h
              refine G.csI (cs' := [wModel t a v]) C (c_X8_in hq81) [] rfl rfl rfl rfl k_1154 cal_X8_in (fit_rm (by decide) (by decide)) rfl (Nat.le_of_ble_eq_true rfl) dX8_copy_81 ?_
              refine G.if_eq (tgt := 108) C dX8_copy_84 (by decide) h (fun h => ?_) (fun h => ?_)
              · exact G.lvs [0] rfl (hJ108 _ h)
              · refine G.iload C dX8_copy_87 4 rfl ?_
                refine G.i2l C dX8_copy_89 ?_
                refine G.lconst C dX8_copy_90 nl_0 ?_
                refine G.aload_n C dX8_copy_91 0 rfl ?_
                refine gfX8_13 (i := 0) (j := 0) (v := .ref (a 2)) C rfl rfl rfl dX8_copy_92 ?_
                refine G.iload_n C dX8_copy_95 3 rfl ?_
                refine G.iald (i := 0) (j := 2) (f := (v 2)) C rfl rfl h dX8_copy_96 (fun h => ?_)
                refine G.i2l C dX8_copy_97 ?_
                refine G.iload C dX8_copy_98 5 rfl ?_
                refine G.i2l C dX8_copy_100 ?_
                refine G.lsub C dX8_copy_101 ?_
                obtain ⟨q102, hq102, h⟩ := bind_some' h
                refine G.csI (cs' := [wModel t a v]) C (c_X8_in hq102) [] rfl rfl rfl rfl k_1154 cal_X8_in (fit_rm (by decide) (by decide)) rfl (Nat.le_of_ble_eq_true rfl) dX8_copy_102 ?_
                refine G.if_ne (tgt := 114) C dX8_copy_105 (by decide) h (fun h => ?_) (fun h => ?_)
                · refine G.iconst C dX8_copy_114 ni_0 ?_
                  refine G.istore (lv' := [(6, .int (0 : Int32)), (0, .ref (a 0)), (1, .int x1), (2, .int x2), (3, .int x3), (4, .int x4), (5, .int x5)]) C dX8_copy_115 (by decide) rfl ?_
                  refine G.lvs [1, 2, 3, 4, 5, 6, 0] rfl (w_X8_copy_L117 C hR (fun v_151 h => ?_) N _ _ h)
                  · refine G.iconst C dX8_copy_151 ni_0 ?_
                    refine G.istore (lv' := [(6, .int (0 : Int32)), (0, .ref (a 0)), (3, .int x3), (4, .int x4), (5, .int x5)]) C dX8_copy_152 (by decide) rfl ?_
                    refine G.lvs [1, 2, 3, 4, 0] rfl (w_X8_copy_L154 C hR (fun v_189 h => ?_) N _ _ h)
                    · refine G.aload_n C dX8_copy_189 0 rfl ?_
                      refine G.iload C dX8_copy_190 1 rfl ?_
                      obtain ⟨q192, hq192, h⟩ := bind_some' h
                      refine G.cvI (i0 := 0) (j0 := 0) (cs' := [wModel t a (q192.2)]) C (c_X8_well (a := a) hq192) [0] rfl rfl rfl rfl rfl rfl rfl k_1164 cal_X8_well (fit_rm (by decide) (by decide)) rfl (Nat.le_of_ble_eq_true rfl) dX8_copy_192 ?_
                      exact hR _ (Option.some.inj h) _ _ dX8_copy_195
                · exact G.lvs [0] rfl (hJ108 _ h)
          · refine G.aload_n C dX8_copy_56 0 rfl ?_
            refine G.iconst C dX8_copy_57 ni_5 ?_
            obtain ⟨q58, hq58, h⟩ := bind_some' h
            refine G.cvI (i0 := 0) (j0 := 0) (cs' := [wModel t a (q58.2)]) C (c_X8_find (a := a) hq58) [0] rfl rfl rfl rfl rfl rfl rfl k_1159 cal_X8_find (fit_rm (by decide) (by decide)) rfl (Nat.le_of_ble_eq_true rfl) dX8_copy_58 ?_
            exact hR _ (Option.some.inj h) _ _ dX8_copy_61
        · exact G.lvs [0] rfl (hJ35 _ h)
    · refine G.ldc C k_1158 dX8_copy_14 ?_
      exact hR _ (Option.some.inj h) _ _ dX8_copy_16
set_option maxHeartbeats 2000000 in
set_option maxRecDepth 20000 in
theorem c_X8_drop {t : Nat → ClassId} {a : Nat → Nat} {N : Nat} {v : SV} {x1 : Int32} {r : Int32 × SV} (h : F_X8_drop N v x1 = some r) : CI t yX8_drop cX8_drop 3 (some .int) (rm 3) [.ref (a 0), .int x1] [wModel t a v] (r.1) [wModel t a (r.2)] := by
  refine CI.of (own := RX8) (by decide) rfl (Nat.le_of_ble_eq_true rfl) (fun X C hR0 => ?_)
  have hR : ∀ q : Int32 × SV, q = r → RetI X cX8_drop (q.1) [wModel t a (q.2)] := by intro q e; subst e; exact hR0
  show G X [wModel t a v] 0 [(0, .ref (a 0)), (1, .int x1)] []
  unfold F_X8_drop at h
  refine G.iload_n C dX8_drop_0 1 rfl ?_
  obtain ⟨q1, hq1, h⟩ := bind_some' h
  refine G.csI (cs' := [wModel t a v]) C (c_X8_isRow hq1) [] rfl rfl rfl rfl k_1150 cal_X8_isRow (fit_rm (by decide) (by decide)) rfl (Nat.le_of_ble_eq_true rfl) dX8_drop_1 ?_
  refine G.if_ne (tgt := 10) C dX8_drop_4 (by decide) h (fun h => ?_) (fun h => ?_)
  · refine G.aload_n C dX8_drop_10 0 rfl ?_
    refine gfX8_13 (i := 0) (j := 0) (v := .ref (a 2)) C rfl rfl rfl dX8_drop_11 ?_
    refine G.iload_n C dX8_drop_14 1 rfl ?_
    refine G.iald (i := 0) (j := 2) (f := (v 2)) C rfl rfl h dX8_drop_15 (fun h => ?_)
    refine G.if_ge (tgt := 25) C dX8_drop_16 (by decide) h (fun h => ?_) (fun h => ?_)
    · refine G.aload_n C dX8_drop_25 0 rfl ?_
      refine gfX8_13 (i := 0) (j := 0) (v := .ref (a 2)) C rfl rfl rfl dX8_drop_26 ?_
      refine G.iload_n C dX8_drop_29 1 rfl ?_
      refine G.iald (i := 0) (j := 2) (f := (v 2)) C rfl rfl h dX8_drop_30 (fun h => ?_)
      refine G.istore_n (lv' := [(2, .int ((v 2) (x1.toNatClampNeg))), (0, .ref (a 0)), (1, .int x1)]) C dX8_drop_31 (by decide) rfl ?_
      refine G.aload_n C dX8_drop_32 1 rfl ?_
      refine gfX8_13 (i := 0) (j := 0) (v := .ref (a 2)) C rfl rfl rfl dX8_drop_33 ?_
      refine G.iload_n C dX8_drop_36 2 rfl ?_
      refine G.iconst C dX8_drop_37 ni_m1 ?_
      refine G.iast (i := 0) (j := 2) (f := v 2) (cs' := [wModel t a (up2 v 2 (x1.toNatClampNeg) (-1 : Int32))]) C rfl rfl h dX8_drop_38 (suModelA_2) rfl (fun h => ?_)
      refine G.aload_n C dX8_drop_39 1 rfl ?_
      refine G.iload_n C dX8_drop_40 0 rfl ?_
      obtain ⟨q41, hq41, h⟩ := bind_some' h
      refine G.cvI (i0 := 0) (j0 := 0) (cs' := [wModel t a (q41.2)]) C (c_X8_well (a := a) hq41) [0] rfl rfl rfl rfl rfl rfl rfl k_1164 cal_X8_well (fit_rm (by decide) (by decide)) rfl (Nat.le_of_ble_eq_true rfl) dX8_drop_41 ?_
      exact hR _ (Option.some.inj h) _ _ dX8_drop_44
    · refine G.aload_n C dX8_drop_19 0 rfl ?_
      refine G.iconst C dX8_drop_20 ni_1 ?_
      obtain ⟨q21, hq21, h⟩ := bind_some' h
      refine G.cvI (i0 := 0) (j0 := 0) (cs' := [wModel t a (q21.2)]) C (c_X8_find (a := a) hq21) [0] rfl rfl rfl rfl rfl rfl rfl k_1159 cal_X8_find (fit_rm (by decide) (by decide)) rfl (Nat.le_of_ble_eq_true rfl) dX8_drop_21 ?_
      exact hR _ (Option.some.inj h) _ _ dX8_drop_24
  · refine G.ldc C k_1158 dX8_drop_7 ?_
    exact hR _ (Option.some.inj h) _ _ dX8_drop_9
set_option maxHeartbeats 2000000 in
set_option maxRecDepth 20000 in
theorem c_X8_feed {t : Nat → ClassId} {a : Nat → Nat} {N : Nat} {v : SV} {x1 : Int32} {r : Int32 × SV} (h : F_X8_feed N v x1 = some r) : CI t yX8_feed cX8_feed 2 (some .int) (rm 2) [.ref (a 0), .int x1] [wModel t a v] (r.1) [wModel t a (r.2)] := by
  refine CI.of (own := RX8) (by decide) rfl (Nat.le_of_ble_eq_true rfl) (fun X C hR0 => ?_)
  have hR : ∀ q : Int32 × SV, q = r → RetI X cX8_feed (q.1) [wModel t a (q.2)] := by intro q e; subst e; exact hR0
  show G X [wModel t a v] 0 [(0, .ref (a 0)), (1, .int x1)] []
  unfold F_X8_feed at h
  refine G.iload_n C dX8_feed_0 1 rfl ?_
  refine G.i2l C dX8_feed_1 ?_
  refine G.lconst C dX8_feed_2 nl_0 ?_
  refine G.ldc2 C k_1187 dX8_feed_3 ?_
  obtain ⟨q6, hq6, h⟩ := bind_some' h
  refine G.csI (cs' := [wModel t a v]) C (c_X8_in hq6) [] rfl rfl rfl rfl k_1154 cal_X8_in (fit_rm (by decide) (by decide)) rfl (Nat.le_of_ble_eq_true rfl) dX8_feed_6 ?_
  refine G.if_ne (tgt := 15) C dX8_feed_9 (by decide) h (fun h => ?_) (fun h => ?_)
  · refine G.aload_n C dX8_feed_15 0 rfl ?_
    refine gfX8_84 (i := 0) (j := 0) (v := .int (v 0 8)) C rfl rfl rfl dX8_feed_16 ?_
    refine G.bipush C dX8_feed_19 nb_120 ?_
    refine G.icmp_ne (tgt := 27) C dX8_feed_21 (by decide) h (fun h => ?_) (fun h => ?_)
    · refine G.aload_n C dX8_feed_27 0 rfl ?_
      refine gfX8_25 (i := 0) (j := 0) (v := .ref (a 6)) C rfl rfl rfl dX8_feed_28 ?_
      refine G.aload_n C dX8_feed_31 0 rfl ?_
      refine gfX8_84 (i := 0) (j := 0) (v := .int (v 0 8)) C rfl rfl rfl dX8_feed_32 ?_
      refine G.iload_n C dX8_feed_35 1 rfl ?_
      refine G.iast (i := 0) (j := 6) (f := v 6) (cs' := [wModel t a (up2 v 6 ((v 0 8).toNatClampNeg) x1)]) C rfl rfl h dX8_feed_36 (suModelA_6) rfl (fun h => ?_)
      refine G.aload_n C dX8_feed_37 0 rfl ?_
      refine G.dup C dX8_feed_38 rfl ?_
      refine gfX8_84 (i := 0) (j := 0) (v := .int (v 0 8)) C rfl rfl rfl dX8_feed_39 ?_
      refine G.iconst C dX8_feed_42 ni_1 ?_
      refine G.iadd C dX8_feed_43 ?_
      refine pfX8_84 (i := 0) (j := 0) (cs' := [wModel t a (up2 (up2 v 6 ((v 0 8).toNatClampNeg) x1) 0 8 ((v 0 8) + (1 : Int32)))]) C rfl rfl (Nat.le_of_ble_eq_true rfl) dX8_feed_44 (suModel_8) rfl ?_
      refine G.aload_n C dX8_feed_47 0 rfl ?_
      refine gfX8_84 (i := 0) (j := 0) (v := .int ((v 0 8) + (1 : Int32))) C rfl rfl rfl dX8_feed_48 ?_
      exact hR _ (Option.some.inj h) _ _ dX8_feed_51
    · refine G.ldc C k_1188 dX8_feed_24 ?_
      exact hR _ (Option.some.inj h) _ _ dX8_feed_26
  · refine G.ldc C k_1158 dX8_feed_12 ?_
    exact hR _ (Option.some.inj h) _ _ dX8_feed_14
set_option maxHeartbeats 2000000 in
set_option maxRecDepth 20000 in
theorem w_X8_nextToken_L33 {X : Cx} {t : Nat → ClassId} {a : Nat → Nat} {N : Nat} {K119 : SV → Option (SV)} {r : SV} (C : gX X t (rm 2) cX8_nextToken 1 RX8) (hR : ∀ q : SV, q = r → RetV X cX8_nextToken [wModel t a q]) (hK119 : ∀ (v_119 : SV), K119 v_119 = some r → G X [wModel t a v_119] 119 [(0, .ref (a 0))] []) : ∀ (n : Nat) (v : SV), F_X8_nextToken_L33 N K119 n v = some r → G X [wModel t a v] 33 [(0, .ref (a 0))] [] := by
  intro n
  induction n with
  | zero => intro v h; exact absurd h (by simp [F_X8_nextToken_L33])
  | succ n ih =>
    intro v h
    rw [F_X8_nextToken_L33] at h
    refine G.aload_n C dX8_nextToken_33 0 rfl ?_
    refine gfX8_88 (i := 0) (j := 0) (v := .int (v 0 10)) C rfl rfl rfl dX8_nextToken_34 ?_
    refine G.aload_n C dX8_nextToken_37 0 rfl ?_
    refine gfX8_84 (i := 0) (j := 0) (v := .int (v 0 8)) C rfl rfl rfl dX8_nextToken_38 ?_
    refine G.icmp_ge (tgt := 119) C dX8_nextToken_41 (by decide) h (fun h => ?_) (fun h => ?_)
    · exact G.lvs [0] rfl (hK119 _ h)
    · refine G.aload_n C dX8_nextToken_44 0 rfl ?_
      refine gfX8_25 (i := 0) (j := 0) (v := .ref (a 6)) C rfl rfl rfl dX8_nextToken_45 ?_
      refine G.aload_n C dX8_nextToken_48 0 rfl ?_
      refine gfX8_88 (i := 0) (j := 0) (v := .int (v 0 10)) C rfl rfl rfl dX8_nextToken_49 ?_
      refine G.iald (i := 0) (j := 6) (f := (v 6)) C rfl rfl h dX8_nextToken_52 (fun h => ?_)
      refine G.i2l C dX8_nextToken_53 ?_
      refine G.ldc2 C k_1201 dX8_nextToken_54 ?_
      refine G.ldc2 C k_1202 dX8_nextToken_57 ?_
      obtain ⟨q60, hq60, h⟩ := bind_some' h
      refine G.csI (cs' := [wModel t a v]) C (c_X8_in hq60) [] rfl rfl rfl rfl k_1154 cal_X8_in (fit_rm (by decide) (by decide)) rfl (Nat.le_of_ble_eq_true rfl) dX8_nextToken_60 ?_
      refine G.if_eq (tgt := 119) C dX8_nextToken_63 (by decide) h (fun h => ?_) (fun h => ?_)
      · exact G.lvs [0] rfl (hK119 _ h)
      · refine G.aload_n C dX8_nextToken_66 0 rfl ?_
        refine G.aload_n C dX8_nextToken_67 0 rfl ?_
        refine gfX8_97 (i := 0) (j := 0) (v := .int (v 0 12)) C rfl rfl rfl dX8_nextToken_68 ?_
        refine G.bipush C dX8_nextToken_71 nb_99 ?_
        refine jn_use (fun J => ∀ (s103_0 : Int32), J s103_0 = some r → G X [wModel t a v] 103 [(0, .ref (a 0))] [.int s103_0, .ref (a 0)]) h ?_ (fun J103 hJ103 h => ?_)
        · intro s103_0 h
          refine pfX8_97 (i := 0) (j := 0) (cs' := [wModel t a (up2 v 0 12 s103_0)]) C rfl rfl (Nat.le_of_ble_eq_true rfl) dX8_nextToken_103 (suModel_12) rfl ?_
          refine G.aload_n C dX8_nextToken_106 0 rfl ?_
          refine G.dup C dX8_nextToken_107 rfl ?_
          refine gfX8_88 (i := 0) (j := 0) (v := .int (v 0 10)) C rfl rfl rfl dX8_nextToken_108 ?_
          refine G.iconst C dX8_nextToken_111 ni_1 ?_
          refine G.iadd C dX8_nextToken_112 ?_
          refine pfX8_88 (i := 0) (j := 0) (cs' := [wModel t a (up2 (up2 v 0 12 s103_0) 0 10 ((v 0 10) + (1 : Int32)))]) C rfl rfl (Nat.le_of_ble_eq_true rfl) dX8_nextToken_113 (suModel_10) rfl ?_
          refine G.goto (tgt := 33) C dX8_nextToken_116 (by decide) ?_
          exact G.lvs [0] rfl (ih _ h)
        refine G.icmp_le (tgt := 83) C dX8_nextToken_73 (by decide) h (fun h => ?_) (fun h => ?_)
        · refine G.bipush C dX8_nextToken_83 nb_10 ?_
          refine G.aload_n C dX8_nextToken_85 0 rfl ?_
          refine gfX8_97 (i := 0) (j := 0) (v := .int (v 0 12)) C rfl rfl rfl dX8_nextToken_86 ?_
          refine G.imul C dX8_nextToken_89 ?_
          refine G.aload_n C dX8_nextToken_90 0 rfl ?_
          refine gfX8_25 (i := 0) (j := 0) (v := .ref (a 6)) C rfl rfl rfl dX8_nextToken_91 ?_
          refine G.aload_n C dX8_nextToken_94 0 rfl ?_
          refine gfX8_88 (i := 0) (j := 0) (v := .int (v 0 10)) C rfl rfl rfl dX8_nextToken_95 ?_
          refine G.iald (i := 0) (j := 6) (f := (v 6)) C rfl rfl h dX8_nextToken_98 (fun h => ?_)
          refine G.iadd C dX8_nextToken_99 ?_
          refine G.bipush C dX8_nextToken_100 nb_48 ?_
          refine G.isub C dX8_nextToken_102 ?_
          exact G.lvs [0] rfl (hJ103 _ h)
        · refine G.aload_n C dX8_nextToken_76 0 rfl ?_
          refine gfX8_97 (i := 0) (j := 0) (v := .int (v 0 12)) C rfl rfl rfl dX8_nextToken_77 ?_
          refine G.goto (tgt := 103) C dX8_nextToken_80 (by decide) ?_
          exact G.lvs [0] rfl (hJ103 _ h)
set_option maxHeartbeats 2000000 in
set_option maxRecDepth 20000 in
theorem c_X8_nextToken {t : Nat → ClassId} {a : Nat → Nat} {N : Nat} {v : SV} {r : SV} (h : F_X8_nextToken N v = some r) : CV t yX8_nextToken cX8_nextToken 1 none (rm 2) [.ref (a 0)] [wModel t a v] [wModel t a r] := by
  refine CV.of (own := RX8) (by decide) rfl (Nat.le_of_ble_eq_true rfl) (fun X C hR0 => ?_)
  have hR : ∀ q : SV, q = r → RetV X cX8_nextToken [wModel t a q] := by intro q e; subst e; exact hR0
  show G X [wModel t a v] 0 [(0, .ref (a 0))] []
  unfold F_X8_nextToken at h
  refine G.aload_n C dX8_nextToken_0 0 rfl ?_
  refine G.aload_n C dX8_nextToken_1 0 rfl ?_
  refine gfX8_88 (i := 0) (j := 0) (v := .int (v 0 10)) C rfl rfl rfl dX8_nextToken_2 ?_
  refine pfX8_91 (i := 0) (j := 0) (cs' := [wModel t a (up2 v 0 13 (v 0 10))]) C rfl rfl (Nat.le_of_ble_eq_true rfl) dX8_nextToken_5 (suModel_13) rfl ?_
  refine G.aload_n C dX8_nextToken_8 0 rfl ?_
  refine G.aload_n C dX8_nextToken_9 0 rfl ?_
  refine gfX8_88 (i := 0) (j := 0) (v := .int (v 0 10)) C rfl rfl rfl dX8_nextToken_10 ?_
  refine G.aload_n C dX8_nextToken_13 0 rfl ?_
  refine gfX8_84 (i := 0) (j := 0) (v := .int (v 0 8)) C rfl rfl rfl dX8_nextToken_14 ?_
  refine jn_use (fun J => ∀ (s25_0 : Int32), J s25_0 = some r → G X [wModel t a (up2 v 0 13 (v 0 10))] 25 [(0, .ref (a 0))] [.int s25_0, .ref (a 0)]) h ?_ (fun J25 hJ25 h => ?_)
  · intro s25_0 h
    refine pfX8_94 (i := 0) (j := 0) (cs' := [wModel t a (up2 (up2 v 0 13 (v 0 10)) 0 11 s25_0)]) C rfl rfl (Nat.le_of_ble_eq_true rfl) dX8_nextToken_25 (suModel_11) rfl ?_
    refine G.aload_n C dX8_nextToken_28 0 rfl ?_
    refine G.iconst C dX8_nextToken_29 ni_0 ?_
    refine pfX8_97 (i := 0) (j := 0) (cs' := [wModel t a (up2 (up2 (up2 v 0 13 (v 0 10)) 0 11 s25_0) 0 12 (0 : Int32))]) C rfl rfl (Nat.le_of_ble_eq_true rfl) dX8_nextToken_30 (suModel_12) rfl ?_
    refine G.lvs [0] rfl (w_X8_nextToken_L33 C hR (fun v_119 h => ?_) N _ h)
    · refine G.aload_n C dX8_nextToken_119 0 rfl ?_
      refine gfX8_88 (i := 0) (j := 0) (v := .int (v_119 0 10)) C rfl rfl rfl dX8_nextToken_120 ?_
      refine G.aload_n C dX8_nextToken_123 0 rfl ?_
      refine gfX8_91 (i := 0) (j := 0) (v := .int (v_119 0 13)) C rfl rfl rfl dX8_nextToken_124 ?_
      refine G.icmp_le (tgt := 155) C dX8_nextToken_127 (by decide) h (fun h => ?_) (fun h => ?_)
      · refine G.aload_n C dX8_nextToken_155 0 rfl ?_
        refine gfX8_94 (i := 0) (j := 0) (v := .int (v_119 0 11)) C rfl rfl rfl dX8_nextToken_156 ?_
        refine G.if_ne (tgt := 229) C dX8_nextToken_159 (by decide) h (fun h => ?_) (fun h => ?_)
        · exact hR _ (Option.some.inj h) _ _ dX8_nextToken_229
        · refine G.aload_n C dX8_nextToken_162 0 rfl ?_
          refine G.aload_n C dX8_nextToken_163 0 rfl ?_
          refine gfX8_25 (i := 0) (j := 0) (v := .ref (a 6)) C rfl rfl rfl dX8_nextToken_164 ?_
          refine G.aload_n C dX8_nextToken_167 0 rfl ?_
          refine gfX8_88 (i := 0) (j := 0) (v := .int (v_119 0 10)) C rfl rfl rfl dX8_nextToken_168 ?_
          refine G.iald (i := 0) (j := 6) (f := (v_119 6)) C rfl rfl h dX8_nextToken_171 (fun h => ?_)
          refine pfX8_97 (i := 0) (j := 0) (cs' := [wModel t a (up2 v_119 0 12 ((v_119 6) ((v_119 0 10).toNatClampNeg)))]) C rfl rfl (Nat.le_of_ble_eq_true rfl) dX8_nextToken_172 (suModel_12) rfl ?_
          refine G.aload_n C dX8_nextToken_175 0 rfl ?_
          refine G.aload_n C dX8_nextToken_176 0 rfl ?_
          refine gfX8_97 (i := 0) (j := 0) (v := .int ((v_119 6) ((v_119 0 10).toNatClampNeg))) C rfl rfl rfl dX8_nextToken_177 ?_
          refine G.i2l C dX8_nextToken_180 ?_
          refine G.ldc2 C k_1203 dX8_nextToken_181 ?_
          refine G.ldc2 C k_1204 dX8_nextToken_184 ?_
          obtain ⟨q187, hq187, h⟩ := bind_some' h
          refine G.csI (cs' := [wModel t a (up2 v_119 0 12 ((v_119 6) ((v_119 0 10).toNatClampNeg)))]) C (c_X8_in hq187) [] rfl rfl rfl rfl k_1154 cal_X8_in (fit_rm (by decide) (by decide)) rfl (Nat.le_of_ble_eq_true rfl) dX8_nextToken_187 ?_
          refine jn_use (fun J => ∀ (s216_0 : Int32), J s216_0 = some r → G X [wModel t a (up2 v_119 0 12 ((v_119 6) ((v_119 0 10).toNatClampNeg)))] 216 [(0, .ref (a 0))] [.int s216_0, .ref (a 0)]) h ?_ (fun J216 hJ216 h => ?_)
          · intro s216_0 h
            refine pfX8_94 (i := 0) (j := 0) (cs' := [wModel t a (up2 (up2 v_119 0 12 ((v_119 6) ((v_119 0 10).toNatClampNeg))) 0 11 s216_0)]) C rfl rfl (Nat.le_of_ble_eq_true rfl) dX8_nextToken_216 (suModel_11) rfl ?_
            refine G.aload_n C dX8_nextToken_219 0 rfl ?_
            refine G.dup C dX8_nextToken_220 rfl ?_
            refine gfX8_88 (i := 0) (j := 0) (v := .int (v_119 0 10)) C rfl rfl rfl dX8_nextToken_221 ?_
            refine G.iconst C dX8_nextToken_224 ni_1 ?_
            refine G.iadd C dX8_nextToken_225 ?_
            refine pfX8_88 (i := 0) (j := 0) (cs' := [wModel t a (up2 (up2 (up2 v_119 0 12 ((v_119 6) ((v_119 0 10).toNatClampNeg))) 0 11 s216_0) 0 10 ((v_119 0 10) + (1 : Int32)))]) C rfl rfl (Nat.le_of_ble_eq_true rfl) dX8_nextToken_226 (suModel_10) rfl ?_
            exact hR _ (Option.some.inj h) _ _ dX8_nextToken_229
          refine jn_use (fun J => ∀ (u_211 : Unit), J u_211 = some r → G X [wModel t a (up2 v_119 0 12 ((v_119 6) ((v_119 0 10).toNatClampNeg)))] 211 [(0, .ref (a 0))] [.ref (a 0)]) h ?_ (fun J211 hJ211 h => ?_)
          · intro u_211 h
            refine G.iconst C dX8_nextToken_211 ni_1 ?_
            refine G.goto (tgt := 216) C dX8_nextToken_212 (by decide) ?_
            exact G.lvs [0] rfl (hJ216 _ h)
          refine G.if_ne (tgt := 211) C dX8_nextToken_190 (by decide) h (fun h => ?_) (fun h => ?_)
          · exact G.lvs [0] rfl (hJ211 _ h)
          · refine G.aload_n C dX8_nextToken_193 0 rfl ?_
            refine gfX8_97 (i := 0) (j := 0) (v := .int ((v_119 6) ((v_119 0 10).toNatClampNeg))) C rfl rfl rfl dX8_nextToken_194 ?_
            refine G.bipush C dX8_nextToken_197 nb_44 ?_
            refine G.icmp_eq (tgt := 211) C dX8_nextToken_199 (by decide) h (fun h => ?_) (fun h => ?_)
            · exact G.lvs [0] rfl (hJ211 _ h)
            · refine G.aload_n C dX8_nextToken_202 0 rfl ?_
              refine gfX8_97 (i := 0) (j := 0) (v := .int ((v_119 6) ((v_119 0 10).toNatClampNeg))) C rfl rfl rfl dX8_nextToken_203 ?_
              refine G.bipush C dX8_nextToken_206 nb_59 ?_
              refine G.icmp_ne (tgt := 215) C dX8_nextToken_208 (by decide) h (fun h => ?_) (fun h => ?_)
              · refine G.iconst C dX8_nextToken_215 ni_0 ?_
                exact G.lvs [0] rfl (hJ216 _ h)
              · exact G.lvs [0] rfl (hJ211 _ h)
      · refine G.aload_n C dX8_nextToken_130 0 rfl ?_
        refine G.aload_n C dX8_nextToken_131 0 rfl ?_
        refine gfX8_88 (i := 0) (j := 0) (v := .int (v_119 0 10)) C rfl rfl rfl dX8_nextToken_132 ?_
        refine G.aload_n C dX8_nextToken_135 0 rfl ?_
        refine gfX8_91 (i := 0) (j := 0) (v := .int (v_119 0 13)) C rfl rfl rfl dX8_nextToken_136 ?_
        refine G.isub C dX8_nextToken_139 ?_
        refine G.iconst C dX8_nextToken_140 ni_2 ?_
        refine jn_use (fun J => ∀ (s149_0 : Int32), J s149_0 = some r → G X [wModel t a v_119] 149 [] [.int s149_0, .ref (a 0)]) h ?_ (fun J149 hJ149 h => ?_)
        · intro s149_0 h
          refine pfX8_94 (i := 0) (j := 0) (cs' := [wModel t a (up2 v_119 0 11 s149_0)]) C rfl rfl (Nat.le_of_ble_eq_true rfl) dX8_nextToken_149 (suModel_11) rfl ?_
          refine G.goto (tgt := 229) C dX8_nextToken_152 (by decide) ?_
          exact hR _ (Option.some.inj h) _ _ dX8_nextToken_229
        refine G.icmp_le (tgt := 148) C dX8_nextToken_141 (by decide) h (fun h => ?_) (fun h => ?_)
        · refine G.iconst C dX8_nextToken_148 ni_2 ?_
          exact G.lvs [] rfl (hJ149 _ h)
        · refine G.iconst C dX8_nextToken_144 ni_0 ?_
          refine G.goto (tgt := 149) C dX8_nextToken_145 (by decide) ?_
          exact G.lvs [] rfl (hJ149 _ h)
  refine G.icmp_ne (tgt := 24) C dX8_nextToken_17 (by decide) h (fun h => ?_) (fun h => ?_)
  · refine G.iconst C dX8_nextToken_24 ni_0 ?_
    exact G.lvs [0] rfl (hJ25 _ h)
  · refine G.iconst C dX8_nextToken_20 ni_3 ?_
    refine G.goto (tgt := 25) C dX8_nextToken_21 (by decide) ?_
    exact G.lvs [0] rfl (hJ25 _ h)
set_option maxHeartbeats 2000000 in
set_option maxRecDepth 20000 in
theorem c_X8_faults {t : Nat → ClassId} {a : Nat → Nat} {N : Nat} {v : SV} {x1 : Int32} {r : Int32 × SV} (h : F_X8_faults N v x1 = some r) : CI t yX8_faults cX8_faults 2 (some .boolean) (rm 1) [.ref (a 0), .int x1] [wModel t a v] (r.1) [wModel t a (r.2)] := by
  refine CZ.of (own := RX8) (by decide) rfl (Nat.le_of_ble_eq_true rfl) (fun X C hR0 => ?_)
  have hR : ∀ q : Int32 × SV, q = r → RetZ X cX8_faults (q.1) [wModel t a (q.2)] := by intro q e; subst e; exact hR0
  show G X [wModel t a v] 0 [(0, .ref (a 0)), (1, .int x1)] []
  unfold F_X8_faults at h
  refine G.aload_n C dX8_faults_0 0 rfl ?_
  refine G.iload_n C dX8_faults_1 1 rfl ?_
  refine pfX8_108 (i := 0) (j := 0) (cs' := [wModel t a (up2 v 0 14 x1)]) C rfl rfl (Nat.le_of_ble_eq_true rfl) dX8_faults_2 (suModel_14) rfl ?_
  refine G.iconst C dX8_faults_5 ni_0 ?_
  exact hR _ (Option.some.inj h) (Or.inl rfl) _ _ dX8_faults_6
set_option maxHeartbeats 2000000 in
set_option maxRecDepth 20000 in
theorem c_X8_isLetter {t : Nat → ClassId} {a : Nat → Nat} {N : Nat} {v : SV} {x1 : Int32} {r : Int32} (h : F_X8_isLetter N v x1 = some r) : CI t yX8_isLetter cX8_isLetter 2 (some .boolean) (rm 1) [.ref (a 0), .int x1] [wModel t a v] r [wModel t a v] := by
  refine CZ.of (own := RX8) (by decide) rfl (Nat.le_of_ble_eq_true rfl) (fun X C hR0 => ?_)
  have hR : ∀ q : Int32, q = r → RetZ X cX8_isLetter q [wModel t a v] := by intro q e; subst e; exact hR0
  show G X [wModel t a v] 0 [(0, .ref (a 0)), (1, .int x1)] []
  unfold F_X8_isLetter at h
  refine G.aload_n C dX8_isLetter_0 0 rfl ?_
  refine gfX8_94 (i := 0) (j := 0) (v := .int (v 0 11)) C rfl rfl rfl dX8_isLetter_1 ?_
  refine G.iconst C dX8_isLetter_4 ni_1 ?_
  refine G.icmp_ne (tgt := 20) C dX8_isLetter_5 (by decide) h (fun h => ?_) (fun h => ?_)
  · refine G.iconst C dX8_isLetter_20 ni_0 ?_
    exact hR _ (Option.some.inj h) (Or.inl rfl) _ _ dX8_isLetter_21
  · refine G.aload_n C dX8_isLetter_8 0 rfl ?_
    refine gfX8_97 (i := 0) (j := 0) (v := .int (v 0 12)) C rfl rfl rfl dX8_isLetter_9 ?_
    refine G.iload_n C dX8_isLetter_12 1 rfl ?_
    refine G.icmp_ne (tgt := 20) C dX8_isLetter_13 (by decide) h (fun h => ?_) (fun h => ?_)
    · refine G.iconst C dX8_isLetter_20 ni_0 ?_
      exact hR _ (Option.some.inj h) (Or.inl rfl) _ _ dX8_isLetter_21
    · refine G.iconst C dX8_isLetter_16 ni_1 ?_
      refine G.goto (tgt := 21) C dX8_isLetter_17 (by decide) ?_
      exact hR _ (Option.some.inj h) (Or.inr rfl) _ _ dX8_isLetter_21
set_option maxHeartbeats 2000000 in
set_option maxRecDepth 20000 in
theorem c_X8_takes {t : Nat → ClassId} {a : Nat → Nat} {N : Nat} {v : SV} {x1 : Int32} {r : Int32 × SV} (h : F_X8_takes N v x1 = some r) : CI t yX8_takes cX8_takes 2 (some .boolean) (rm 3) [.ref (a 0), .int x1] [wModel t a v] (r.1) [wModel t a (r.2)] := by
  refine CZ.of (own := RX8) (by decide) rfl (Nat.le_of_ble_eq_true rfl) (fun X C hR0 => ?_)
  have hR : ∀ q : Int32 × SV, q = r → RetZ X cX8_takes (q.1) [wModel t a (q.2)] := by intro q e; subst e; exact hR0
  show G X [wModel t a v] 0 [(0, .ref (a 0)), (1, .int x1)] []
  unfold F_X8_takes at h
  refine G.aload_n C dX8_takes_0 0 rfl ?_
  refine G.iload_n C dX8_takes_1 1 rfl ?_
  obtain ⟨q2, hq2, h⟩ := bind_some' h
  refine G.cvI (i0 := 0) (j0 := 0) (cs' := [wModel t a v]) C (c_X8_isLetter (a := a) hq2) [0] rfl rfl rfl rfl rfl rfl rfl k_1209 cal_X8_isLetter (fit_rm (by decide) (by decide)) rfl (Nat.le_of_ble_eq_true rfl) dX8_takes_2 ?_
  refine G.if_ne (tgt := 14) C dX8_takes_5 (by decide) h (fun h => ?_) (fun h => ?_)
  · refine G.aload_n C dX8_takes_14 0 rfl ?_
    obtain ⟨q15, hq15, h⟩ := bind_some' h
    refine G.cvV (i0 := 0) (j0 := 0) (cs' := [wModel t a q15]) C (c_X8_nextToken (a := a) hq15) [0] rfl rfl rfl rfl rfl rfl rfl k_1197 cal_X8_nextToken (fit_rm (by decide) (by decide)) rfl (Nat.le_of_ble_eq_true rfl) dX8_takes_15 ?_
    refine G.iconst C dX8_takes_18 ni_1 ?_
    exact hR _ (Option.some.inj h) (Or.inr rfl) _ _ dX8_takes_19
  · refine G.aload_n C dX8_takes_8 0 rfl ?_
    refine G.iconst C dX8_takes_9 ni_1 ?_
    obtain ⟨q10, hq10, h⟩ := bind_some' h
    refine G.cvI (i0 := 0) (j0 := 0) (cs' := [wModel t a (q10.2)]) C (c_X8_faults (a := a) hq10) [0] rfl rfl rfl rfl rfl rfl rfl k_1213 cal_X8_faults (fit_rm (by decide) (by decide)) rfl (Nat.le_of_ble_eq_true rfl) dX8_takes_10 ?_
    exact hR _ (Option.some.inj (zr_some h).2) (zr_some h).1 _ _ dX8_takes_13
set_option maxHeartbeats 2000000 in
set_option maxRecDepth 20000 in
theorem c_X8_takesNumber {t : Nat → ClassId} {a : Nat → Nat} {N : Nat} {v : SV} {x1 : Int32} {x2 : Int32} {x3 : Int32} {x4 : Int32} {r : Int32 × SV} (h : F_X8_takesNumber N v x1 x2 x3 x4 = some r) : CI t yX8_takesNumber cX8_takesNumber 5 (some .boolean) (rm 4) [.ref (a 0), .int x1, .int x2, .int x3, .int x4] [wModel t a v] (r.1) [wModel t a (r.2)] := by
  refine CZ.of (own := RX8) (by decide) rfl (Nat.le_of_ble_eq_true rfl) (fun X C hR0 => ?_)
  have hR : ∀ q : Int32 × SV, q = r → RetZ X cX8_takesNumber (q.1) [wModel t a (q.2)] := by intro q e; subst e; exact hR0
  show G X [wModel t a v] 0 [(0, .ref (a 0)), (1, .int x1), (2, .int x2), (3, .int x3), (4, .int x4)] []
  unfold F_X8_takesNumber at h
  refine G.aload_n C dX8_takesNumber_0 0 rfl ?_
  refine gfX8_94 (i := 0) (j := 0) (v := .int (v 0 11)) C rfl rfl rfl dX8_takesNumber_1 ?_
  refine G.iconst C dX8_takesNumber_4 ni_2 ?_
  refine jn_use (fun J => ∀ (u_23 : Unit), J u_23 = some r → G X [wModel t a v] 23 [(0, .ref (a 0))] []) h ?_ (fun J23 hJ23 h => ?_)
  · intro u_23 h
    refine G.aload_n C dX8_takesNumber_23 0 rfl ?_
    refine G.aload_n C dX8_takesNumber_24 0 rfl ?_
    refine gfX8_94 (i := 0) (j := 0) (v := .int (v 0 11)) C rfl rfl rfl dX8_takesNumber_25 ?_
    refine G.iconst C dX8_takesNumber_28 ni_2 ?_
    refine jn_use (fun J => ∀ (s37_0 : Int32), J s37_0 = some r → G X [wModel t a v] 37 [] [.int s37_0, .ref (a 0)]) h ?_ (fun J37 hJ37 h => ?_)
    · intro s37_0 h
      obtain ⟨q37, hq37, h⟩ := bind_some' h
      refine G.cvI (i0 := 0) (j0 := 0) (cs' := [wModel t a (q37.2)]) C (c_X8_faults (a := a) hq37) [0] rfl rfl rfl rfl rfl rfl rfl k_1213 cal_X8_faults (fit_rm (by decide) (by decide)) rfl (Nat.le_of_ble_eq_true rfl) dX8_takesNumber_37 ?_
      exact hR _ (Option.some.inj (zr_some h).2) (zr_some h).1 _ _ dX8_takesNumber_40
    refine G.icmp_ne (tgt := 36) C dX8_takesNumber_29 (by decide) h (fun h => ?_) (fun h => ?_)
    · refine G.iconst C dX8_takesNumber_36 ni_1 ?_
      exact G.lvs [] rfl (hJ37 _ h)
    · refine G.iconst C dX8_takesNumber_32 ni_2 ?_
      refine G.goto (tgt := 37) C dX8_takesNumber_33 (by decide) ?_
      exact G.lvs [] rfl (hJ37 _ h)
  refine G.icmp_ne (tgt := 23) C dX8_takesNumber_5 (by decide) h (fun h => ?_) (fun h => ?_)
  · exact G.lvs [0] rfl (hJ23 _ h)
  · refine G.aload_n C dX8_takesNumber_8 0 rfl ?_
    refine gfX8_97 (i := 0) (j := 0) (v := .int (v 0 12)) C rfl rfl rfl dX8_takesNumber_9 ?_
    refine G.i2l C dX8_takesNumber_12 ?_
    refine G.iload_n C dX8_takesNumber_13 1 rfl ?_
    refine G.i2l C dX8_takesNumber_14 ?_
    refine G.iload_n C dX8_takesNumber_15 2 rfl ?_
    refine G.i2l C dX8_takesNumber_16 ?_
    obtain ⟨q17, hq17, h⟩ := bind_some' h
    refine G.csI (cs' := [wModel t a v]) C (c_X8_in hq17) [] rfl rfl rfl rfl k_1154 cal_X8_in (fit_rm (by decide) (by decide)) rfl (Nat.le_of_ble_eq_true rfl) dX8_takesNumber_17 ?_
    refine G.if_ne (tgt := 41) C dX8_takesNumber_20 (by decide) h (fun h => ?_) (fun h => ?_)
    · refine G.aload_n C dX8_takesNumber_41 0 rfl ?_
      refine gfX8_28 (i := 0) (j := 0) (v := .ref (a 7)) C rfl rfl rfl dX8_takesNumber_42 ?_
      refine G.iload_n C dX8_takesNumber_45 3 rfl ?_
      refine G.aload_n C dX8_takesNumber_46 0 rfl ?_
      refine gfX8_97 (i := 0) (j := 0) (v := .int (v 0 12)) C rfl rfl rfl dX8_takesNumber_47 ?_
      refine G.iast (i := 0) (j := 7) (f := v 7) (cs' := [wModel t a (up2 v 7 (x3.toNatClampNeg) (v 0 12))]) C rfl rfl h dX8_takesNumber_50 (suModelA_7) rfl (fun h => ?_)
      refine G.aload_n C dX8_takesNumber_51 0 rfl ?_
      obtain ⟨q52, hq52, h⟩ := bind_some' h
      refine G.cvV (i0 := 0) (j0 := 0) (cs' := [wModel t a q52]) C (c_X8_nextToken (a := a) hq52) [0] rfl rfl rfl rfl rfl rfl rfl k_1197 cal_X8_nextToken (fit_rm (by decide) (by decide)) rfl (Nat.le_of_ble_eq_true rfl) dX8_takesNumber_52 ?_
      refine G.aload_n C dX8_takesNumber_55 0 rfl ?_
      refine G.iload C dX8_takesNumber_56 4 rfl ?_
      obtain ⟨q58, hq58, h⟩ := bind_some' h
      refine G.cvI (i0 := 0) (j0 := 0) (cs' := [wModel t a (q58.2)]) C (c_X8_takes (a := a) hq58) [0] rfl rfl rfl rfl rfl rfl rfl k_1205 cal_X8_takes (fit_rm (by decide) (by decide)) rfl (Nat.le_of_ble_eq_true rfl) dX8_takesNumber_58 ?_
      exact hR _ (Option.some.inj (zr_some h).2) (zr_some h).1 _ _ dX8_takesNumber_61
    · exact G.lvs [0] rfl (hJ23 _ h)
set_option maxHeartbeats 2000000 in
set_option maxRecDepth 20000 in
theorem c_X8_readThing {t : Nat → ClassId} {a : Nat → Nat} {N : Nat} {v : SV} {x1 : Int32} {r : Int32 × SV} (h : F_X8_readThing N v x1 = some r) : CI t yX8_readThing cX8_readThing 3 (some .boolean) (rm 5) [.ref (a 0), .int x1] [wModel t a v] (r.1) [wModel t a (r.2)] := by
  refine CZ.of (own := RX8) (by decide) rfl (Nat.le_of_ble_eq_true rfl) (fun X C hR0 => ?_)
  have hR : ∀ q : Int32 × SV, q = r → RetZ X cX8_readThing (q.1) [wModel t a (q.2)] := by intro q e; subst e; exact hR0
  show G X [wModel t a v] 0 [(0, .ref (a 0)), (1, .int x1)] []
  unfold F_X8_readThing at h
  refine G.aload_n C dX8_readThing_0 0 rfl ?_
  refine gfX8_28 (i := 0) (j := 0) (v := .ref (a 7)) C rfl rfl rfl dX8_readThing_1 ?_
  refine G.iconst C dX8_readThing_4 ni_2 ?_
  refine G.iald (i := 0) (j := 7) (f := (v 7)) C rfl rfl h dX8_readThing_5 (fun h => ?_)
  refine G.istore_n (lv' := [(2, .int ((v 7) ((2 : Int32).toNatClampNeg))), (0, .ref (a 0)), (1, .int x1)]) C dX8_readThing_6 (by decide) rfl ?_
  refine G.iload_n C dX8_readThing_7 0 rfl ?_
  refine G.bipush C dX8_readThing_8 nb_6 ?_
  refine jn_use (fun J => ∀ (u_22 : Unit), J u_22 = some r → G X [wModel t a v] 22 [(0, .ref (a 0))] []) h ?_ (fun J22 hJ22 h => ?_)
  · intro u_22 h
    refine G.aload_n C dX8_readThing_22 0 rfl ?_
    refine G.aload_n C dX8_readThing_23 0 rfl ?_
    refine gfX8_28 (i := 0) (j := 0) (v := .ref (a 7)) C rfl rfl rfl dX8_readThing_24 ?_
    refine G.iconst C dX8_readThing_27 ni_3 ?_
    refine G.iald (i := 0) (j := 7) (f := (v 7)) C rfl rfl h dX8_readThing_28 (fun h => ?_)
    refine jn_use (fun J => ∀ (s37_0 : Int32), J s37_0 = some r → G X [wModel t a v] 37 [] [.int s37_0, .ref (a 0)]) h ?_ (fun J37 hJ37 h => ?_)
    · intro s37_0 h
      obtain ⟨q37, hq37, h⟩ := bind_some' h
      refine G.cvI (i0 := 0) (j0 := 0) (cs' := [wModel t a (q37.2)]) C (c_X8_faults (a := a) hq37) [0] rfl rfl rfl rfl rfl rfl rfl k_1213 cal_X8_faults (fit_rm (by decide) (by decide)) rfl (Nat.le_of_ble_eq_true rfl) dX8_readThing_37 ?_
      exact hR _ (Option.some.inj (zr_some h).2) (zr_some h).1 _ _ dX8_readThing_40
    refine G.if_le (tgt := 36) C dX8_readThing_29 (by decide) h (fun h => ?_) (fun h => ?_)
    · refine G.iconst C dX8_readThing_36 ni_3 ?_
      exact G.lvs [] rfl (hJ37 _ h)
    · refine G.iconst C dX8_readThing_32 ni_1 ?_
      refine G.goto (tgt := 37) C dX8_readThing_33 (by decide) ?_
      exact G.lvs [] rfl (hJ37 _ h)
  refine G.icmp_eq (tgt := 22) C dX8_readThing_10 (by decide) h (fun h => ?_) (fun h => ?_)
  · exact G.lvs [1] rfl (hJ22 _ h)
  · refine G.aload_n C dX8_readThing_13 1 rfl ?_
    refine gfX8_28 (i := 0) (j := 0) (v := .ref (a 7)) C rfl rfl rfl dX8_readThing_14 ?_
    refine G.iconst C dX8_readThing_17 ni_3 ?_
    refine G.iald (i := 0) (j := 7) (f := (v 7)) C rfl rfl h dX8_readThing_18 (fun h => ?_)
    refine G.if_le (tgt := 41) C dX8_readThing_19 (by decide) h (fun h => ?_) (fun h => ?_)
    · refine G.aload_n C dX8_readThing_41 1 rfl ?_
      obtain ⟨q42, hq42, h⟩ := bind_some' h
      refine G.cvV (i0 := 0) (j0 := 0) (cs' := [wModel t a q42]) C (c_X8_nextToken (a := a) hq42) [0] rfl rfl rfl rfl rfl rfl rfl k_1197 cal_X8_nextToken (fit_rm (by decide) (by decide)) rfl (Nat.le_of_ble_eq_true rfl) dX8_readThing_42 ?_
      refine G.aload_n C dX8_readThing_45 1 rfl ?_
      refine gfX8_28 (i := 0) (j := 0) (v := .ref (a 7)) C rfl rfl rfl dX8_readThing_46 ?_
      refine G.bipush C dX8_readThing_49 nb_7 ?_
      refine G.iload_n C dX8_readThing_51 0 rfl ?_
      refine G.iadd C dX8_readThing_52 ?_
      refine G.iload_n C dX8_readThing_53 2 rfl ?_
      refine G.iast (i := 0) (j := 7) (f := q42 7) (cs' := [wModel t a (up2 q42 7 (((7 : Int32) + ((v 7) ((2 : Int32).toNatClampNeg))).toNatClampNeg) x1)]) C rfl rfl h dX8_readThing_54 (suModelA_7) rfl (fun h => ?_)
      refine G.aload_n C dX8_readThing_55 1 rfl ?_
      refine gfX8_28 (i := 0) (j := 0) (v := .ref (a 7)) C rfl rfl rfl dX8_readThing_56 ?_
      refine G.bipush C dX8_readThing_59 nb_31 ?_
      refine G.iload_n C dX8_readThing_61 0 rfl ?_
      refine G.iadd C dX8_readThing_62 ?_
      refine G.iload_n C dX8_readThing_63 0 rfl ?_
      refine G.iast (i := 0) (j := 7) (f := (up2 q42 7 (((7 : Int32) + ((v 7) ((2 : Int32).toNatClampNeg))).toNatClampNeg) x1) 7) (cs' := [wModel t a (up2 (up2 q42 7 (((7 : Int32) + ((v 7) ((2 : Int32).toNatClampNeg))).toNatClampNeg) x1) 7 (((31 : Int32) + ((v 7) ((2 : Int32).toNatClampNeg))).toNatClampNeg) ((v 7) ((2 : Int32).toNatClampNeg)))]) C rfl rfl h dX8_readThing_64 (suModelA_7) rfl (fun h => ?_)
      refine G.aload_n C dX8_readThing_65 1 rfl ?_
      refine gfX8_28 (i := 0) (j := 0) (v := .ref (a 7)) C rfl rfl rfl dX8_readThing_66 ?_
      refine G.iconst C dX8_readThing_69 ni_2 ?_
      refine G.dup2 C dX8_readThing_70 rfl rfl ?_
      refine G.iald (i := 0) (j := 7) (f := (upd (upd (q42 7) (((7 : Int32) + ((v 7) ((2 : Int32).toNatClampNeg))).toNatClampNeg) x1) (((31 : Int32) + ((v 7) ((2 : Int32).toNatClampNeg))).toNatClampNeg) ((v 7) ((2 : Int32).toNatClampNeg)))) C rfl rfl h dX8_readThing_71 (fun h => ?_)
      refine G.iconst C dX8_readThing_72 ni_1 ?_
      refine G.iadd C dX8_readThing_73 ?_
      refine G.iast (i := 0) (j := 7) (f := (up2 (up2 q42 7 (((7 : Int32) + ((v 7) ((2 : Int32).toNatClampNeg))).toNatClampNeg) x1) 7 (((31 : Int32) + ((v 7) ((2 : Int32).toNatClampNeg))).toNatClampNeg) ((v 7) ((2 : Int32).toNatClampNeg))) 7) (cs' := [wModel t a (up2 (up2 (up2 q42 7 (((7 : Int32) + ((v 7) ((2 : Int32).toNatClampNeg))).toNatClampNeg) x1) 7 (((31 : Int32) + ((v 7) ((2 : Int32).toNatClampNeg))).toNatClampNeg) ((v 7) ((2 : Int32).toNatClampNeg))) 7 ((2 : Int32).toNatClampNeg) (((upd (upd (q42 7) (((7 : Int32) + ((v 7) ((2 : Int32).toNatClampNeg))).toNatClampNeg) x1) (((31 : Int32) + ((v 7) ((2 : Int32).toNatClampNeg))).toNatClampNeg) ((v 7) ((2 : Int32).toNatClampNeg))) ((2 : Int32).toNatClampNeg)) + (1 : Int32)))]) C rfl rfl h dX8_readThing_74 (suModelA_7) rfl (fun h => ?_)
      refine G.aload_n C dX8_readThing_75 1 rfl ?_
      refine gfX8_28 (i := 0) (j := 0) (v := .ref (a 7)) C rfl rfl rfl dX8_readThing_76 ?_
      refine G.bipush C dX8_readThing_79 nb_6 ?_
      refine G.dup2 C dX8_readThing_81 rfl rfl ?_
      refine G.iald (i := 0) (j := 7) (f := (upd (upd (upd (q42 7) (((7 : Int32) + ((v 7) ((2 : Int32).toNatClampNeg))).toNatClampNeg) x1) (((31 : Int32) + ((v 7) ((2 : Int32).toNatClampNeg))).toNatClampNeg) ((v 7) ((2 : Int32).toNatClampNeg))) ((2 : Int32).toNatClampNeg) (((upd (upd (q42 7) (((7 : Int32) + ((v 7) ((2 : Int32).toNatClampNeg))).toNatClampNeg) x1) (((31 : Int32) + ((v 7) ((2 : Int32).toNatClampNeg))).toNatClampNeg) ((v 7) ((2 : Int32).toNatClampNeg))) ((2 : Int32).toNatClampNeg)) + (1 : Int32)))) C rfl rfl h dX8_readThing_82 (fun h => ?_)
      refine G.iconst C dX8_readThing_83 ni_1 ?_
      refine G.iadd C dX8_readThing_84 ?_
      refine G.iast (i := 0) (j := 7) (f := (up2 (up2 (up2 q42 7 (((7 : Int32) + ((v 7) ((2 : Int32).toNatClampNeg))).toNatClampNeg) x1) 7 (((31 : Int32) + ((v 7) ((2 : Int32).toNatClampNeg))).toNatClampNeg) ((v 7) ((2 : Int32).toNatClampNeg))) 7 ((2 : Int32).toNatClampNeg) (((upd (upd (q42 7) (((7 : Int32) + ((v 7) ((2 : Int32).toNatClampNeg))).toNatClampNeg) x1) (((31 : Int32) + ((v 7) ((2 : Int32).toNatClampNeg))).toNatClampNeg) ((v 7) ((2 : Int32).toNatClampNeg))) ((2 : Int32).toNatClampNeg)) + (1 : Int32))) 7) (cs' := [wModel t a (up2 (up2 (up2 (up2 q42 7 (((7 : Int32) + ((v 7) ((2 : Int32).toNatClampNeg))).toNatClampNeg) x1) 7 (((31 : Int32) + ((v 7) ((2 : Int32).toNatClampNeg))).toNatClampNeg) ((v 7) ((2 : Int32).toNatClampNeg))) 7 ((2 : Int32).toNatClampNeg) (((upd (upd (q42 7) (((7 : Int32) + ((v 7) ((2 : Int32).toNatClampNeg))).toNatClampNeg) x1) (((31 : Int32) + ((v 7) ((2 : Int32).toNatClampNeg))).toNatClampNeg) ((v 7) ((2 : Int32).toNatClampNeg))) ((2 : Int32).toNatClampNeg)) + (1 : Int32))) 7 ((6 : Int32).toNatClampNeg) (((upd (upd (upd (q42 7) (((7 : Int32) + ((v 7) ((2 : Int32).toNatClampNeg))).toNatClampNeg) x1) (((31 : Int32) + ((v 7) ((2 : Int32).toNatClampNeg))).toNatClampNeg) ((v 7) ((2 : Int32).toNatClampNeg))) ((2 : Int32).toNatClampNeg) (((upd (upd (q42 7) (((7 : Int32) + ((v 7) ((2 : Int32).toNatClampNeg))).toNatClampNeg) x1) (((31 : Int32) + ((v 7) ((2 : Int32).toNatClampNeg))).toNatClampNeg) ((v 7) ((2 : Int32).toNatClampNeg))) ((2 : Int32).toNatClampNeg)) + (1 : Int32))) ((6 : Int32).toNatClampNeg)) + (1 : Int32)))]) C rfl rfl h dX8_readThing_85 (suModelA_7) rfl (fun h => ?_)
      refine G.aload_n C dX8_readThing_86 1 rfl ?_
      refine G.iconst C dX8_readThing_87 ni_0 ?_
      refine G.bipush C dX8_readThing_88 nb_9 ?_
      refine G.bipush C dX8_readThing_90 nb_13 ?_
      refine G.iload_n C dX8_readThing_92 0 rfl ?_
      refine G.iadd C dX8_readThing_93 ?_
      refine G.bipush C dX8_readThing_94 nb_44 ?_
      obtain ⟨q96, hq96, h⟩ := bind_some' h
      refine G.cvI (i0 := 0) (j0 := 0) (cs' := [wModel t a (q96.2)]) C (c_X8_takesNumber (a := a) hq96) [0] rfl rfl rfl rfl rfl rfl rfl k_1217 cal_X8_takesNumber (fit_rm (by decide) (by decide)) rfl (Nat.le_of_ble_eq_true rfl) dX8_readThing_96 ?_
      refine G.if_eq (tgt := 138) C dX8_readThing_99 (by decide) h (fun h => ?_) (fun h => ?_)
      · refine G.iconst C dX8_readThing_138 ni_0 ?_
        exact hR _ (Option.some.inj h) (Or.inl rfl) _ _ dX8_readThing_139
      · refine G.aload_n C dX8_readThing_102 1 rfl ?_
        refine G.iconst C dX8_readThing_103 ni_1 ?_
        refine G.bipush C dX8_readThing_104 nb_20 ?_
        refine G.bipush C dX8_readThing_106 nb_19 ?_
        refine G.iload_n C dX8_readThing_108 0 rfl ?_
        refine G.iadd C dX8_readThing_109 ?_
        refine G.bipush C dX8_readThing_110 nb_44 ?_
        obtain ⟨q112, hq112, h⟩ := bind_some' h
        refine G.cvI (i0 := 0) (j0 := 0) (cs' := [wModel t a (q112.2)]) C (c_X8_takesNumber (a := a) hq112) [0] rfl rfl rfl rfl rfl rfl rfl k_1217 cal_X8_takesNumber (fit_rm (by decide) (by decide)) rfl (Nat.le_of_ble_eq_true rfl) dX8_readThing_112 ?_
        refine G.if_eq (tgt := 138) C dX8_readThing_115 (by decide) h (fun h => ?_) (fun h => ?_)
        · refine G.iconst C dX8_readThing_138 ni_0 ?_
          exact hR _ (Option.some.inj h) (Or.inl rfl) _ _ dX8_readThing_139
        · refine G.aload_n C dX8_readThing_118 1 rfl ?_
          refine G.iconst C dX8_readThing_119 ni_0 ?_
          refine G.bipush C dX8_readThing_120 nb_9 ?_
          refine G.bipush C dX8_readThing_122 nb_25 ?_
          refine G.iload_n C dX8_readThing_124 0 rfl ?_
          refine G.iadd C dX8_readThing_125 ?_
          refine G.bipush C dX8_readThing_126 nb_59 ?_
          obtain ⟨q128, hq128, h⟩ := bind_some' h
          refine G.cvI (i0 := 0) (j0 := 0) (cs' := [wModel t a (q128.2)]) C (c_X8_takesNumber (a := a) hq128) [0] rfl rfl rfl rfl rfl rfl rfl k_1217 cal_X8_takesNumber (fit_rm (by decide) (by decide)) rfl (Nat.le_of_ble_eq_true rfl) dX8_readThing_128 ?_
          refine G.if_eq (tgt := 138) C dX8_readThing_131 (by decide) h (fun h => ?_) (fun h => ?_)
          · refine G.iconst C dX8_readThing_138 ni_0 ?_
            exact hR _ (Option.some.inj h) (Or.inl rfl) _ _ dX8_readThing_139
          · refine G.iconst C dX8_readThing_134 ni_1 ?_
            refine G.goto (tgt := 139) C dX8_readThing_135 (by decide) ?_
            exact hR _ (Option.some.inj h) (Or.inr rfl) _ _ dX8_readThing_139
    · exact G.lvs [1] rfl (hJ22 _ h)
set_option maxHeartbeats 2000000 in
set_option maxRecDepth 20000 in
theorem c_X8_readSeat {t : Nat → ClassId} {a : Nat → Nat} {N : Nat} {v : SV} {r : Int32 × SV} (h : F_X8_readSeat N v = some r) : CI t yX8_readSeat cX8_readSeat 2 (some .boolean) (rm 5) [.ref (a 0)] [wModel t a v] (r.1) [wModel t a (r.2)] := by
  refine CZ.of (own := RX8) (by decide) rfl (Nat.le_of_ble_eq_true rfl) (fun X C hR0 => ?_)
  have hR : ∀ q : Int32 × SV, q = r → RetZ X cX8_readSeat (q.1) [wModel t a (q.2)] := by intro q e; subst e; exact hR0
  show G X [wModel t a v] 0 [(0, .ref (a 0))] []
  unfold F_X8_readSeat at h
  refine G.aload_n C dX8_readSeat_0 0 rfl ?_
  refine gfX8_28 (i := 0) (j := 0) (v := .ref (a 7)) C rfl rfl rfl dX8_readSeat_1 ?_
  refine G.iconst C dX8_readSeat_4 ni_3 ?_
  refine G.iald (i := 0) (j := 7) (f := (v 7)) C rfl rfl h dX8_readSeat_5 (fun h => ?_)
  refine G.istore_n (lv' := [(1, .int ((v 7) ((3 : Int32).toNatClampNeg))), (0, .ref (a 0))]) C dX8_readSeat_6 (by decide) rfl ?_
  refine G.iload_n C dX8_readSeat_7 0 rfl ?_
  refine G.bipush C dX8_readSeat_8 nb_6 ?_
  refine jn_use (fun J => ∀ (u_22 : Unit), J u_22 = some r → G X [wModel t a v] 22 [(0, .ref (a 0))] []) h ?_ (fun J22 hJ22 h => ?_)
  · intro u_22 h
    refine G.aload_n C dX8_readSeat_22 0 rfl ?_
    refine G.aload_n C dX8_readSeat_23 0 rfl ?_
    refine gfX8_28 (i := 0) (j := 0) (v := .ref (a 7)) C rfl rfl rfl dX8_readSeat_24 ?_
    refine G.iconst C dX8_readSeat_27 ni_2 ?_
    refine G.iald (i := 0) (j := 7) (f := (v 7)) C rfl rfl h dX8_readSeat_28 (fun h => ?_)
    refine jn_use (fun J => ∀ (s37_0 : Int32), J s37_0 = some r → G X [wModel t a v] 37 [] [.int s37_0, .ref (a 0)]) h ?_ (fun J37 hJ37 h => ?_)
    · intro s37_0 h
      obtain ⟨q37, hq37, h⟩ := bind_some' h
      refine G.cvI (i0 := 0) (j0 := 0) (cs' := [wModel t a (q37.2)]) C (c_X8_faults (a := a) hq37) [0] rfl rfl rfl rfl rfl rfl rfl k_1213 cal_X8_faults (fit_rm (by decide) (by decide)) rfl (Nat.le_of_ble_eq_true rfl) dX8_readSeat_37 ?_
      exact hR _ (Option.some.inj (zr_some h).2) (zr_some h).1 _ _ dX8_readSeat_40
    refine G.if_ne (tgt := 36) C dX8_readSeat_29 (by decide) h (fun h => ?_) (fun h => ?_)
    · refine G.iconst C dX8_readSeat_36 ni_3 ?_
      exact G.lvs [] rfl (hJ37 _ h)
    · refine G.iconst C dX8_readSeat_32 ni_1 ?_
      refine G.goto (tgt := 37) C dX8_readSeat_33 (by decide) ?_
      exact G.lvs [] rfl (hJ37 _ h)
  refine G.icmp_eq (tgt := 22) C dX8_readSeat_10 (by decide) h (fun h => ?_) (fun h => ?_)
  · exact G.lvs [1] rfl (hJ22 _ h)
  · refine G.aload_n C dX8_readSeat_13 1 rfl ?_
    refine gfX8_28 (i := 0) (j := 0) (v := .ref (a 7)) C rfl rfl rfl dX8_readSeat_14 ?_
    refine G.iconst C dX8_readSeat_17 ni_2 ?_
    refine G.iald (i := 0) (j := 7) (f := (v 7)) C rfl rfl h dX8_readSeat_18 (fun h => ?_)
    refine G.if_ne (tgt := 41) C dX8_readSeat_19 (by decide) h (fun h => ?_) (fun h => ?_)
    · refine G.aload_n C dX8_readSeat_41 1 rfl ?_
      obtain ⟨q42, hq42, h⟩ := bind_some' h
      refine G.cvV (i0 := 0) (j0 := 0) (cs' := [wModel t a q42]) C (c_X8_nextToken (a := a) hq42) [0] rfl rfl rfl rfl rfl rfl rfl k_1197 cal_X8_nextToken (fit_rm (by decide) (by decide)) rfl (Nat.le_of_ble_eq_true rfl) dX8_readSeat_42 ?_
      refine G.aload_n C dX8_readSeat_45 1 rfl ?_
      refine gfX8_28 (i := 0) (j := 0) (v := .ref (a 7)) C rfl rfl rfl dX8_readSeat_46 ?_
      refine G.iconst C dX8_readSeat_49 ni_3 ?_
      refine G.dup2 C dX8_readSeat_50 rfl rfl ?_
      refine G.iald (i := 0) (j := 7) (f := (q42 7)) C rfl rfl h dX8_readSeat_51 (fun h => ?_)
      refine G.iconst C dX8_readSeat_52 ni_1 ?_
      refine G.iadd C dX8_readSeat_53 ?_
      refine G.iast (i := 0) (j := 7) (f := q42 7) (cs' := [wModel t a (up2 q42 7 ((3 : Int32).toNatClampNeg) (((q42 7) ((3 : Int32).toNatClampNeg)) + (1 : Int32)))]) C rfl rfl h dX8_readSeat_54 (suModelA_7) rfl (fun h => ?_)
      refine G.aload_n C dX8_readSeat_55 1 rfl ?_
      refine G.iconst C dX8_readSeat_56 ni_0 ?_
      refine G.bipush C dX8_readSeat_57 nb_9 ?_
      refine G.bipush C dX8_readSeat_59 nb_37 ?_
      refine G.iload_n C dX8_readSeat_61 0 rfl ?_
      refine G.iadd C dX8_readSeat_62 ?_
      refine G.bipush C dX8_readSeat_63 nb_44 ?_
      obtain ⟨q65, hq65, h⟩ := bind_some' h
      refine G.cvI (i0 := 0) (j0 := 0) (cs' := [wModel t a (q65.2)]) C (c_X8_takesNumber (a := a) hq65) [0] rfl rfl rfl rfl rfl rfl rfl k_1217 cal_X8_takesNumber (fit_rm (by decide) (by decide)) rfl (Nat.le_of_ble_eq_true rfl) dX8_readSeat_65 ?_
      refine G.if_eq (tgt := 91) C dX8_readSeat_68 (by decide) h (fun h => ?_) (fun h => ?_)
      · refine G.iconst C dX8_readSeat_91 ni_0 ?_
        exact hR _ (Option.some.inj h) (Or.inl rfl) _ _ dX8_readSeat_92
      · refine G.aload_n C dX8_readSeat_71 1 rfl ?_
        refine G.iconst C dX8_readSeat_72 ni_1 ?_
        refine G.bipush C dX8_readSeat_73 nb_20 ?_
        refine G.bipush C dX8_readSeat_75 nb_43 ?_
        refine G.iload_n C dX8_readSeat_77 0 rfl ?_
        refine G.iadd C dX8_readSeat_78 ?_
        refine G.bipush C dX8_readSeat_79 nb_59 ?_
        obtain ⟨q81, hq81, h⟩ := bind_some' h
        refine G.cvI (i0 := 0) (j0 := 0) (cs' := [wModel t a (q81.2)]) C (c_X8_takesNumber (a := a) hq81) [0] rfl rfl rfl rfl rfl rfl rfl k_1217 cal_X8_takesNumber (fit_rm (by decide) (by decide)) rfl (Nat.le_of_ble_eq_true rfl) dX8_readSeat_81 ?_
        refine G.if_eq (tgt := 91) C dX8_readSeat_84 (by decide) h (fun h => ?_) (fun h => ?_)
        · refine G.iconst C dX8_readSeat_91 ni_0 ?_
          exact hR _ (Option.some.inj h) (Or.inl rfl) _ _ dX8_readSeat_92
        · refine G.iconst C dX8_readSeat_87 ni_1 ?_
          refine G.goto (tgt := 92) C dX8_readSeat_88 (by decide) ?_
          exact hR _ (Option.some.inj h) (Or.inr rfl) _ _ dX8_readSeat_92
    · exact G.lvs [1] rfl (hJ22 _ h)
set_option maxHeartbeats 2000000 in
set_option maxRecDepth 20000 in
theorem w_X8_readShow_L7 {X : Cx} {t : Nat → ClassId} {a : Nat → Nat} {N : Nat} {K26 : SV → Option (Int32 × SV)} {r : Int32 × SV} (C : gX X t (rm 6) cX8_readShow 3 RX8) (hR : ∀ q : Int32 × SV, q = r → RetZ X cX8_readShow (q.1) [wModel t a (q.2)]) (hK26 : ∀ (v_26 : SV), K26 v_26 = some r → G X [wModel t a v_26] 26 [(0, .ref (a 0))] []) : ∀ (n : Nat) (x1 : Int32) (v : SV), F_X8_readShow_L7 N K26 n x1 v = some r → G X [wModel t a v] 7 [(0, .ref (a 0)), (1, .int x1)] [] := by
  intro n
  induction n with
  | zero => intro x1 v h; exact absurd h (by simp [F_X8_readShow_L7])
  | succ n ih =>
    intro x1 v h
    rw [F_X8_readShow_L7] at h
    refine G.iload_n C dX8_readShow_7 1 rfl ?_
    refine G.bipush C dX8_readShow_8 nb_55 ?_
    refine G.icmp_ge (tgt := 26) C dX8_readShow_10 (by decide) h (fun h => ?_) (fun h => ?_)
    · exact G.lvs [0] rfl (hK26 _ h)
    · refine G.aload_n C dX8_readShow_13 0 rfl ?_
      refine gfX8_28 (i := 0) (j := 0) (v := .ref (a 7)) C rfl rfl rfl dX8_readShow_14 ?_
      refine G.iload_n C dX8_readShow_17 1 rfl ?_
      refine G.iconst C dX8_readShow_18 ni_0 ?_
      refine G.iast (i := 0) (j := 7) (f := v 7) (cs' := [wModel t a (up2 v 7 (x1.toNatClampNeg) (0 : Int32))]) C rfl rfl h dX8_readShow_19 (suModelA_7) rfl (fun h => ?_)
      refine G.iinc (v := (x1 + (1 : Int32))) (lv' := [(1, .int (x1 + (1 : Int32))), (0, .ref (a 0))]) C dX8_readShow_20 1 rfl (by rw [ni_1]) (by decide) rfl ?_
      refine G.goto (tgt := 7) C dX8_readShow_23 (by decide) ?_
      exact G.lvs [1, 0] rfl (ih _ _ h)
set_option maxHeartbeats 2000000 in
set_option maxRecDepth 20000 in
theorem w_X8_readShow_L69 {X : Cx} {t : Nat → ClassId} {a : Nat → Nat} {N : Nat} {r : Int32 × SV} (C : gX X t (rm 6) cX8_readShow 3 RX8) (hR : ∀ q : Int32 × SV, q = r → RetZ X cX8_readShow (q.1) [wModel t a (q.2)]) : ∀ (n : Nat) (x1 : Int32) (v : SV), F_X8_readShow_L69 N  n x1 v = some r → G X [wModel t a v] 69 [(0, .ref (a 0)), (1, .int x1)] [] := by
  intro n
  induction n with
  | zero => intro x1 v h; exact absurd h (by simp [F_X8_readShow_L69])
  | succ n ih =>
    intro x1 v h
    rw [F_X8_readShow_L69] at h
    refine G.iload_n C dX8_readShow_69 1 rfl ?_
    refine G.if_eq (tgt := 194) C dX8_readShow_70 (by decide) h (fun h => ?_) (fun h => ?_)
    · refine G.iload_n C dX8_readShow_194 1 rfl ?_
      exact hR _ (Option.some.inj (zr_some h).2) (zr_some h).1 _ _ dX8_readShow_195
    · refine G.aload_n C dX8_readShow_73 0 rfl ?_
      refine gfX8_94 (i := 0) (j := 0) (v := .int (v 0 11)) C rfl rfl rfl dX8_readShow_74 ?_
      refine G.iconst C dX8_readShow_77 ni_3 ?_
      refine jn_use (fun J => ∀ (u_90 : Unit), J u_90 = some r → G X [wModel t a v] 90 [(0, .ref (a 0))] []) h ?_ (fun J90 hJ90 h => ?_)
      · intro u_90 h
        refine G.aload_n C dX8_readShow_90 0 rfl ?_
        refine G.bipush C dX8_readShow_91 nb_112 ?_
        obtain ⟨q93, hq93, h⟩ := bind_some' h
        refine G.cvI (i0 := 0) (j0 := 0) (cs' := [wModel t a v]) C (c_X8_isLetter (a := a) hq93) [0] rfl rfl rfl rfl rfl rfl rfl k_1209 cal_X8_isLetter (fit_rm (by decide) (by decide)) rfl (Nat.le_of_ble_eq_true rfl) dX8_readShow_93 ?_
        refine jn_use (fun J => ∀ (s156_0 : Int32), J s156_0 = some r → G X [wModel t a v] 156 [(0, .ref (a 0))] [.int s156_0]) h ?_ (fun J156 hJ156 h => ?_)
        · intro s156_0 h
          refine G.istore_n (lv' := [(2, .int s156_0), (0, .ref (a 0))]) C dX8_readShow_156 (by decide) rfl ?_
          refine G.iload_n C dX8_readShow_157 0 rfl ?_
          refine jn_use (fun J => ∀ (s190_0 : Int32) (v_190 : SV), J s190_0 v_190 = some r → G X [wModel t a v_190] 190 [(0, .ref (a 0))] [.int s190_0]) h ?_ (fun J190 hJ190 h => ?_)
          · intro s190_0 v_190 h
            refine G.istore_n (lv' := [(1, .int s190_0), (0, .ref (a 0))]) C dX8_readShow_190 (by decide) rfl ?_
            refine G.goto (tgt := 69) C dX8_readShow_191 (by decide) ?_
            exact G.lvs [1, 0] rfl (ih _ _ h)
          refine G.if_le (tgt := 169) C dX8_readShow_158 (by decide) h (fun h => ?_) (fun h => ?_)
          · refine G.aload_n C dX8_readShow_169 1 rfl ?_
            refine G.bipush C dX8_readShow_170 nb_122 ?_
            obtain ⟨q172, hq172, h⟩ := bind_some' h
            refine G.cvI (i0 := 0) (j0 := 0) (cs' := [wModel t a v]) C (c_X8_isLetter (a := a) hq172) [0] rfl rfl rfl rfl rfl rfl rfl k_1209 cal_X8_isLetter (fit_rm (by decide) (by decide)) rfl (Nat.le_of_ble_eq_true rfl) dX8_readShow_172 ?_
            refine G.if_eq (tgt := 185) C dX8_readShow_175 (by decide) h (fun h => ?_) (fun h => ?_)
            · refine G.aload_n C dX8_readShow_185 1 rfl ?_
              refine G.iconst C dX8_readShow_186 ni_1 ?_
              obtain ⟨q187, hq187, h⟩ := bind_some' h
              refine G.cvI (i0 := 0) (j0 := 0) (cs' := [wModel t a (q187.2)]) C (c_X8_faults (a := a) hq187) [0] rfl rfl rfl rfl rfl rfl rfl k_1213 cal_X8_faults (fit_rm (by decide) (by decide)) rfl (Nat.le_of_ble_eq_true rfl) dX8_readShow_187 ?_
              exact G.lvs [1] rfl (hJ190 _ _ h)
            · refine G.aload_n C dX8_readShow_178 1 rfl ?_
              obtain ⟨q179, hq179, h⟩ := bind_some' h
              refine G.cvI (i0 := 0) (j0 := 0) (cs' := [wModel t a (q179.2)]) C (c_X8_readSeat (a := a) hq179) [0] rfl rfl rfl rfl rfl rfl rfl k_1225 cal_X8_readSeat (fit_rm (by decide) (by decide)) rfl (Nat.le_of_ble_eq_true rfl) dX8_readShow_179 ?_
              refine G.goto (tgt := 190) C dX8_readShow_182 (by decide) ?_
              exact G.lvs [1] rfl (hJ190 _ _ h)
          · refine G.aload_n C dX8_readShow_161 1 rfl ?_
            refine G.iload_n C dX8_readShow_162 0 rfl ?_
            obtain ⟨q163, hq163, h⟩ := bind_some' h
            refine G.cvI (i0 := 0) (j0 := 0) (cs' := [wModel t a (q163.2)]) C (c_X8_readThing (a := a) hq163) [0] rfl rfl rfl rfl rfl rfl rfl k_1221 cal_X8_readThing (fit_rm (by decide) (by decide)) rfl (Nat.le_of_ble_eq_true rfl) dX8_readShow_163 ?_
            refine G.goto (tgt := 190) C dX8_readShow_166 (by decide) ?_
            exact G.lvs [1] rfl (hJ190 _ _ h)
        refine G.if_eq (tgt := 103) C dX8_readShow_96 (by decide) h (fun h => ?_) (fun h => ?_)
        · refine G.aload_n C dX8_readShow_103 0 rfl ?_
          refine G.bipush C dX8_readShow_104 nb_98 ?_
          obtain ⟨q106, hq106, h⟩ := bind_some' h
          refine G.cvI (i0 := 0) (j0 := 0) (cs' := [wModel t a v]) C (c_X8_isLetter (a := a) hq106) [0] rfl rfl rfl rfl rfl rfl rfl k_1209 cal_X8_isLetter (fit_rm (by decide) (by decide)) rfl (Nat.le_of_ble_eq_true rfl) dX8_readShow_106 ?_
          refine G.if_eq (tgt := 116) C dX8_readShow_109 (by decide) h (fun h => ?_) (fun h => ?_)
          · refine G.aload_n C dX8_readShow_116 0 rfl ?_
            refine G.bipush C dX8_readShow_117 nb_102 ?_
            obtain ⟨q119, hq119, h⟩ := bind_some' h
            refine G.cvI (i0 := 0) (j0 := 0) (cs' := [wModel t a v]) C (c_X8_isLetter (a := a) hq119) [0] rfl rfl rfl rfl rfl rfl rfl k_1209 cal_X8_isLetter (fit_rm (by decide) (by decide)) rfl (Nat.le_of_ble_eq_true rfl) dX8_readShow_119 ?_
            refine G.if_eq (tgt := 129) C dX8_readShow_122 (by decide) h (fun h => ?_) (fun h => ?_)
            · refine G.aload_n C dX8_readShow_129 0 rfl ?_
              refine G.bipush C dX8_readShow_130 nb_108 ?_
              obtain ⟨q132, hq132, h⟩ := bind_some' h
              refine G.cvI (i0 := 0) (j0 := 0) (cs' := [wModel t a v]) C (c_X8_isLetter (a := a) hq132) [0] rfl rfl rfl rfl rfl rfl rfl k_1209 cal_X8_isLetter (fit_rm (by decide) (by decide)) rfl (Nat.le_of_ble_eq_true rfl) dX8_readShow_132 ?_
              refine G.if_eq (tgt := 142) C dX8_readShow_135 (by decide) h (fun h => ?_) (fun h => ?_)
              · refine G.aload_n C dX8_readShow_142 0 rfl ?_
                refine G.bipush C dX8_readShow_143 nb_104 ?_
                obtain ⟨q145, hq145, h⟩ := bind_some' h
                refine G.cvI (i0 := 0) (j0 := 0) (cs' := [wModel t a v]) C (c_X8_isLetter (a := a) hq145) [0] rfl rfl rfl rfl rfl rfl rfl k_1209 cal_X8_isLetter (fit_rm (by decide) (by decide)) rfl (Nat.le_of_ble_eq_true rfl) dX8_readShow_145 ?_
                refine G.if_eq (tgt := 155) C dX8_readShow_148 (by decide) h (fun h => ?_) (fun h => ?_)
                · refine G.iconst C dX8_readShow_155 ni_0 ?_
                  exact G.lvs [0] rfl (hJ156 _ h)
                · refine G.iconst C dX8_readShow_151 ni_5 ?_
                  refine G.goto (tgt := 156) C dX8_readShow_152 (by decide) ?_
                  exact G.lvs [0] rfl (hJ156 _ h)
              · refine G.iconst C dX8_readShow_138 ni_4 ?_
                refine G.goto (tgt := 156) C dX8_readShow_139 (by decide) ?_
                exact G.lvs [0] rfl (hJ156 _ h)
            · refine G.iconst C dX8_readShow_125 ni_3 ?_
              refine G.goto (tgt := 156) C dX8_readShow_126 (by decide) ?_
              exact G.lvs [0] rfl (hJ156 _ h)
          · refine G.iconst C dX8_readShow_112 ni_2 ?_
            refine G.goto (tgt := 156) C dX8_readShow_113 (by decide) ?_
            exact G.lvs [0] rfl (hJ156 _ h)
        · refine G.iconst C dX8_readShow_99 ni_1 ?_
          refine G.goto (tgt := 156) C dX8_readShow_100 (by decide) ?_
          exact G.lvs [0] rfl (hJ156 _ h)
      refine G.icmp_ne (tgt := 90) C dX8_readShow_78 (by decide) h (fun h => ?_) (fun h => ?_)
      · exact G.lvs [0] rfl (hJ90 _ h)
      · refine G.aload_n C dX8_readShow_81 0 rfl ?_
        refine gfX8_28 (i := 0) (j := 0) (v := .ref (a 7)) C rfl rfl rfl dX8_readShow_82 ?_
        refine G.iconst C dX8_readShow_85 ni_2 ?_
        refine G.iald (i := 0) (j := 7) (f := (v 7)) C rfl rfl h dX8_readShow_86 (fun h => ?_)
        refine G.if_ne (tgt := 194) C dX8_readShow_87 (by decide) h (fun h => ?_) (fun h => ?_)
        · refine G.iload_n C dX8_readShow_194 1 rfl ?_
          exact hR _ (Option.some.inj (zr_some h).2) (zr_some h).1 _ _ dX8_readShow_195
        · exact G.lvs [0] rfl (hJ90 _ h)
set_option maxHeartbeats 2000000 in
set_option maxRecDepth 20000 in
theorem c_X8_readShow {t : Nat → ClassId} {a : Nat → Nat} {N : Nat} {v : SV} {r : Int32 × SV} (h : F_X8_readShow N v = some r) : CI t yX8_readShow cX8_readShow 3 (some .boolean) (rm 6) [.ref (a 0)] [wModel t a v] (r.1) [wModel t a (r.2)] := by
  refine CZ.of (own := RX8) (by decide) rfl (Nat.le_of_ble_eq_true rfl) (fun X C hR0 => ?_)
  have hR : ∀ q : Int32 × SV, q = r → RetZ X cX8_readShow (q.1) [wModel t a (q.2)] := by intro q e; subst e; exact hR0
  show G X [wModel t a v] 0 [(0, .ref (a 0))] []
  unfold F_X8_readShow at h
  refine G.aload_n C dX8_readShow_0 0 rfl ?_
  refine G.iconst C dX8_readShow_1 ni_0 ?_
  refine pfX8_88 (i := 0) (j := 0) (cs' := [wModel t a (up2 v 0 10 (0 : Int32))]) C rfl rfl (Nat.le_of_ble_eq_true rfl) dX8_readShow_2 (suModel_10) rfl ?_
  refine G.iconst C dX8_readShow_5 ni_0 ?_
  refine G.istore_n (lv' := [(1, .int (0 : Int32)), (0, .ref (a 0))]) C dX8_readShow_6 (by decide) rfl ?_
  refine G.lvs [1, 0] rfl (w_X8_readShow_L7 C hR (fun v_26 h => ?_) N _ _ h)
  · refine G.aload_n C dX8_readShow_26 0 rfl ?_
    obtain ⟨q27, hq27, h⟩ := bind_some' h
    refine G.cvV (i0 := 0) (j0 := 0) (cs' := [wModel t a q27]) C (c_X8_nextToken (a := a) hq27) [0] rfl rfl rfl rfl rfl rfl rfl k_1197 cal_X8_nextToken (fit_rm (by decide) (by decide)) rfl (Nat.le_of_ble_eq_true rfl) dX8_readShow_27 ?_
    refine G.aload_n C dX8_readShow_30 0 rfl ?_
    refine G.bipush C dX8_readShow_31 nb_114 ?_
    obtain ⟨q33, hq33, h⟩ := bind_some' h
    refine G.cvI (i0 := 0) (j0 := 0) (cs' := [wModel t a (q33.2)]) C (c_X8_takes (a := a) hq33) [0] rfl rfl rfl rfl rfl rfl rfl k_1205 cal_X8_takes (fit_rm (by decide) (by decide)) rfl (Nat.le_of_ble_eq_true rfl) dX8_readShow_33 ?_
    refine G.if_eq (tgt := 65) C dX8_readShow_36 (by decide) h (fun h => ?_) (fun h => ?_)
    · refine G.iconst C dX8_readShow_65 ni_0 ?_
      exact hR _ (Option.some.inj h) (Or.inl rfl) _ _ dX8_readShow_66
    · refine G.aload_n C dX8_readShow_39 0 rfl ?_
      refine G.iconst C dX8_readShow_40 ni_0 ?_
      refine G.bipush C dX8_readShow_41 nb_60 ?_
      refine G.iconst C dX8_readShow_43 ni_0 ?_
      refine G.bipush C dX8_readShow_44 nb_44 ?_
      obtain ⟨q46, hq46, h⟩ := bind_some' h
      refine G.cvI (i0 := 0) (j0 := 0) (cs' := [wModel t a (q46.2)]) C (c_X8_takesNumber (a := a) hq46) [0] rfl rfl rfl rfl rfl rfl rfl k_1217 cal_X8_takesNumber (fit_rm (by decide) (by decide)) rfl (Nat.le_of_ble_eq_true rfl) dX8_readShow_46 ?_
      refine G.if_eq (tgt := 65) C dX8_readShow_49 (by decide) h (fun h => ?_) (fun h => ?_)
      · refine G.iconst C dX8_readShow_65 ni_0 ?_
        exact hR _ (Option.some.inj h) (Or.inl rfl) _ _ dX8_readShow_66
      · refine G.aload_n C dX8_readShow_52 0 rfl ?_
        refine G.iconst C dX8_readShow_53 ni_0 ?_
        refine G.bipush C dX8_readShow_54 nb_9 ?_
        refine G.iconst C dX8_readShow_56 ni_1 ?_
        refine G.bipush C dX8_readShow_57 nb_59 ?_
        obtain ⟨q59, hq59, h⟩ := bind_some' h
        refine G.cvI (i0 := 0) (j0 := 0) (cs' := [wModel t a (q59.2)]) C (c_X8_takesNumber (a := a) hq59) [0] rfl rfl rfl rfl rfl rfl rfl k_1217 cal_X8_takesNumber (fit_rm (by decide) (by decide)) rfl (Nat.le_of_ble_eq_true rfl) dX8_readShow_59 ?_
        refine G.if_ne (tgt := 67) C dX8_readShow_62 (by decide) h (fun h => ?_) (fun h => ?_)
        · refine G.iconst C dX8_readShow_67 ni_1 ?_
          refine G.istore_n (lv' := [(1, .int (1 : Int32)), (0, .ref (a 0))]) C dX8_readShow_68 (by decide) rfl ?_
          exact G.lvs [1, 0] rfl (w_X8_readShow_L69 C hR N _ _ h)
        · refine G.iconst C dX8_readShow_65 ni_0 ?_
          exact hR _ (Option.some.inj h) (Or.inl rfl) _ _ dX8_readShow_66
set_option maxHeartbeats 2000000 in
set_option maxRecDepth 20000 in
theorem w_X8_show_L32 {X : Cx} {t : Nat → ClassId} {a : Nat → Nat} {N : Nat} {K56 : SV → Option (Int32 × SV)} {r : Int32 × SV} (C : gX X t (rm 7) cX8_show 3 RX8) (hR : ∀ q : Int32 × SV, q = r → RetI X cX8_show (q.1) [wModel t a (q.2)]) (hK56 : ∀ (v_56 : SV), K56 v_56 = some r → G X [wModel t a v_56] 56 [(0, .ref (a 0))] []) : ∀ (n : Nat) (x2 : Int32) (v : SV), F_X8_show_L32 N K56 n x2 v = some r → G X [wModel t a v] 32 [(0, .ref (a 0)), (2, .int x2)] [] := by
  intro n
  induction n with
  | zero => intro x2 v h; exact absurd h (by simp [F_X8_show_L32])
  | succ n ih =>
    intro x2 v h
    rw [F_X8_show_L32] at h
    refine G.iload_n C dX8_show_32 1 rfl ?_
    refine G.bipush C dX8_show_33 nb_55 ?_
    refine G.icmp_ge (tgt := 56) C dX8_show_35 (by decide) h (fun h => ?_) (fun h => ?_)
    · exact G.lvs [0] rfl (hK56 _ h)
    · refine G.aload_n C dX8_show_38 0 rfl ?_
      refine gfX8_19 (i := 0) (j := 0) (v := .ref (a 4)) C rfl rfl rfl dX8_show_39 ?_
      refine G.iload_n C dX8_show_42 1 rfl ?_
      refine G.aload_n C dX8_show_43 0 rfl ?_
      refine gfX8_28 (i := 0) (j := 0) (v := .ref (a 7)) C rfl rfl rfl dX8_show_44 ?_
      refine G.iload_n C dX8_show_47 1 rfl ?_
      refine G.iald (i := 0) (j := 7) (f := (v 7)) C rfl rfl h dX8_show_48 (fun h => ?_)
      refine G.iast (i := 0) (j := 4) (f := v 4) (cs' := [wModel t a (up2 v 4 (x2.toNatClampNeg) ((v 7) (x2.toNatClampNeg)))]) C rfl rfl h dX8_show_49 (suModelA_4) rfl (fun h => ?_)
      refine G.iinc (v := (x2 + (1 : Int32))) (lv' := [(2, .int (x2 + (1 : Int32))), (0, .ref (a 0))]) C dX8_show_50 1 rfl (by rw [ni_1]) (by decide) rfl ?_
      refine G.goto (tgt := 32) C dX8_show_53 (by decide) ?_
      exact G.lvs [1, 0] rfl (ih _ _ h)
set_option maxHeartbeats 2000000 in
set_option maxRecDepth 20000 in
theorem c_X8_show {t : Nat → ClassId} {a : Nat → Nat} {N : Nat} {v : SV} {r : Int32 × SV} (h : F_X8_show N v = some r) : CI t yX8_show cX8_show 3 (some .int) (rm 7) [.ref (a 0)] [wModel t a v] (r.1) [wModel t a (r.2)] := by
  refine CI.of (own := RX8) (by decide) rfl (Nat.le_of_ble_eq_true rfl) (fun X C hR0 => ?_)
  have hR : ∀ q : Int32 × SV, q = r → RetI X cX8_show (q.1) [wModel t a (q.2)] := by intro q e; subst e; exact hR0
  show G X [wModel t a v] 0 [(0, .ref (a 0))] []
  unfold F_X8_show at h
  refine G.aload_n C dX8_show_0 0 rfl ?_
  obtain ⟨q1, hq1, h⟩ := bind_some' h
  refine G.cvI (i0 := 0) (j0 := 0) (cs' := [wModel t a (q1.2)]) C (c_X8_readShow (a := a) hq1) [0] rfl rfl rfl rfl rfl rfl rfl k_1193 cal_X8_readShow (fit_rm (by decide) (by decide)) rfl (Nat.le_of_ble_eq_true rfl) dX8_show_1 ?_
  refine G.istore_n (lv' := [(1, .int (q1.1)), (0, .ref (a 0))]) C dX8_show_4 (by decide) rfl ?_
  refine G.aload_n C dX8_show_5 1 rfl ?_
  refine G.iconst C dX8_show_6 ni_0 ?_
  refine pfX8_84 (i := 0) (j := 0) (cs' := [wModel t a (up2 (q1.2) 0 8 (0 : Int32))]) C rfl rfl (Nat.le_of_ble_eq_true rfl) dX8_show_7 (suModel_8) rfl ?_
  refine G.iload_n C dX8_show_10 0 rfl ?_
  refine G.if_ne (tgt := 30) C dX8_show_11 (by decide) h (fun h => ?_) (fun h => ?_)
  · refine G.iconst C dX8_show_30 ni_0 ?_
    refine G.istore_n (lv' := [(2, .int (0 : Int32)), (1, .int (q1.1)), (0, .ref (a 0))]) C dX8_show_31 (by decide) rfl ?_
    refine G.lvs [2, 0] rfl (w_X8_show_L32 C hR (fun v_56 h => ?_) N _ _ h)
    · refine G.aload_n C dX8_show_56 0 rfl ?_
      refine G.iconst C dX8_show_57 ni_1 ?_
      refine pfX8_141 (i := 0) (j := 0) (cs' := [wModel t a (up2 v_56 0 4 (1 : Int32))]) C rfl rfl (Nat.le_of_ble_eq_true rfl) rfl rfl dX8_show_58 (suModel_4) rfl ?_
      refine G.aload_n C dX8_show_61 0 rfl ?_
      refine G.iconst C dX8_show_62 ni_0 ?_
      refine pfX8_145 (i := 0) (j := 0) (cs' := [wModel t a (up2 (up2 v_56 0 4 (1 : Int32)) 0 17 (0 : Int32))]) C rfl rfl (Nat.le_of_ble_eq_true rfl) dX8_show_63 (suModel_17) rfl ?_
      refine G.aload_n C dX8_show_66 0 rfl ?_
      refine gfX8_19 (i := 0) (j := 0) (v := .ref (a 4)) C rfl rfl rfl dX8_show_67 ?_
      refine G.iconst C dX8_show_70 ni_2 ?_
      refine G.iald (i := 0) (j := 4) (f := (v_56 4)) C rfl rfl h dX8_show_71 (fun h => ?_)
      exact hR _ (Option.some.inj h) _ _ dX8_show_72
  · refine G.aload_n C dX8_show_14 1 rfl ?_
    refine G.aload_n C dX8_show_15 1 rfl ?_
    refine gfX8_108 (i := 0) (j := 0) (v := .int ((q1.2) 0 14)) C rfl rfl rfl dX8_show_16 ?_
    refine pfX8_137 (i := 0) (j := 0) (cs' := [wModel t a (up2 (up2 (q1.2) 0 8 (0 : Int32)) 0 9 ((q1.2) 0 14))]) C rfl rfl (Nat.le_of_ble_eq_true rfl) dX8_show_19 (suModel_9) rfl ?_
    refine G.ldc C k_1229 dX8_show_22 ?_
    refine G.aload_n C dX8_show_24 1 rfl ?_
    refine gfX8_91 (i := 0) (j := 0) (v := .int ((q1.2) 0 13)) C rfl rfl rfl dX8_show_25 ?_
    refine G.isub C dX8_show_28 ?_
    exact hR _ (Option.some.inj h) _ _ dX8_show_29
set_option maxHeartbeats 2000000 in
set_option maxRecDepth 20000 in
theorem c_X8_fault {t : Nat → ClassId} {a : Nat → Nat} {N : Nat} {v : SV} {r : Int32} (h : F_X8_fault N v = some r) : CI t yX8_fault cX8_fault 1 (some .int) (rm 1) [.ref (a 0)] [wModel t a v] r [wModel t a v] := by
  refine CI.of (own := RX8) (by decide) rfl (Nat.le_of_ble_eq_true rfl) (fun X C hR0 => ?_)
  have hR : ∀ q : Int32, q = r → RetI X cX8_fault q [wModel t a v] := by intro q e; subst e; exact hR0
  show G X [wModel t a v] 0 [(0, .ref (a 0))] []
  unfold F_X8_fault at h
  refine G.aload_n C dX8_fault_0 0 rfl ?_
  refine gfX8_137 (i := 0) (j := 0) (v := .int (v 0 9)) C rfl rfl rfl dX8_fault_1 ?_
  exact hR _ (Option.some.inj h) _ _ dX8_fault_4
set_option maxHeartbeats 2000000 in
set_option maxRecDepth 20000 in
theorem c_X8_isThing {t : Nat → ClassId} {a : Nat → Nat} {N : Nat} {v : SV} {x1 : Int32} {r : Int32} (h : F_X8_isThing N v x1 = some r) : CI t yX8_isThing cX8_isThing 2 (some .boolean) (rm 2) [.ref (a 0), .int x1] [wModel t a v] r [wModel t a v] := by
  refine CZ.of (own := RX8) (by decide) rfl (Nat.le_of_ble_eq_true rfl) (fun X C hR0 => ?_)
  have hR : ∀ q : Int32, q = r → RetZ X cX8_isThing q [wModel t a v] := by intro q e; subst e; exact hR0
  show G X [wModel t a v] 0 [(0, .ref (a 0)), (1, .int x1)] []
  unfold F_X8_isThing at h
  refine G.iload_n C dX8_isThing_0 1 rfl ?_
  refine G.i2l C dX8_isThing_1 ?_
  refine G.lconst C dX8_isThing_2 nl_0 ?_
  refine G.aload_n C dX8_isThing_3 0 rfl ?_
  refine gfX8_19 (i := 0) (j := 0) (v := .ref (a 4)) C rfl rfl rfl dX8_isThing_4 ?_
  refine G.iconst C dX8_isThing_7 ni_2 ?_
  refine G.iald (i := 0) (j := 4) (f := (v 4)) C rfl rfl h dX8_isThing_8 (fun h => ?_)
  refine G.iconst C dX8_isThing_9 ni_1 ?_
  refine G.isub C dX8_isThing_10 ?_
  refine G.i2l C dX8_isThing_11 ?_
  obtain ⟨q12, hq12, h⟩ := bind_some' h
  refine G.csI (cs' := [wModel t a v]) C (c_X8_in hq12) [] rfl rfl rfl rfl k_1154 cal_X8_in (fit_rm (by decide) (by decide)) rfl (Nat.le_of_ble_eq_true rfl) dX8_isThing_12 ?_
  exact hR _ (Option.some.inj (zr_some h).2) (zr_some h).1 _ _ dX8_isThing_15
set_option maxHeartbeats 2000000 in
set_option maxRecDepth 20000 in
theorem c_X8_isSeat {t : Nat → ClassId} {a : Nat → Nat} {N : Nat} {v : SV} {x1 : Int32} {r : Int32} (h : F_X8_isSeat N v x1 = some r) : CI t yX8_isSeat cX8_isSeat 2 (some .boolean) (rm 2) [.ref (a 0), .int x1] [wModel t a v] r [wModel t a v] := by
  refine CZ.of (own := RX8) (by decide) rfl (Nat.le_of_ble_eq_true rfl) (fun X C hR0 => ?_)
  have hR : ∀ q : Int32, q = r → RetZ X cX8_isSeat q [wModel t a v] := by intro q e; subst e; exact hR0
  show G X [wModel t a v] 0 [(0, .ref (a 0)), (1, .int x1)] []
  unfold F_X8_isSeat at h
  refine G.iload_n C dX8_isSeat_0 1 rfl ?_
  refine G.i2l C dX8_isSeat_1 ?_
  refine G.lconst C dX8_isSeat_2 nl_0 ?_
  refine G.aload_n C dX8_isSeat_3 0 rfl ?_
  refine gfX8_19 (i := 0) (j := 0) (v := .ref (a 4)) C rfl rfl rfl dX8_isSeat_4 ?_
  refine G.iconst C dX8_isSeat_7 ni_3 ?_
  refine G.iald (i := 0) (j := 4) (f := (v 4)) C rfl rfl h dX8_isSeat_8 (fun h => ?_)
  refine G.iconst C dX8_isSeat_9 ni_1 ?_
  refine G.isub C dX8_isSeat_10 ?_
  refine G.i2l C dX8_isSeat_11 ?_
  obtain ⟨q12, hq12, h⟩ := bind_some' h
  refine G.csI (cs' := [wModel t a v]) C (c_X8_in hq12) [] rfl rfl rfl rfl k_1154 cal_X8_in (fit_rm (by decide) (by decide)) rfl (Nat.le_of_ble_eq_true rfl) dX8_isSeat_12 ?_
  exact hR _ (Option.some.inj (zr_some h).2) (zr_some h).1 _ _ dX8_isSeat_15
set_option maxHeartbeats 2000000 in
set_option maxRecDepth 20000 in
theorem w_X8_seatsOf_L4 {X : Cx} {t : Nat → ClassId} {a : Nat → Nat} {N : Nat} {v : SV} {x1 : Int32} {r : Int32} (C : gX X t (rm 1) cX8_seatsOf 4 RX8) (hR : ∀ q : Int32, q = r → RetI X cX8_seatsOf q [wModel t a v]) : ∀ (n : Nat) (x2 : Int32) (x3 : Int32), F_X8_seatsOf_L4 N v x1 n x2 x3 = some r → G X [wModel t a v] 4 [(0, .ref (a 0)), (1, .int x1), (2, .int x2), (3, .int x3)] [] := by
  intro n
  induction n with
  | zero => intro x2 x3 h; exact absurd h (by simp [F_X8_seatsOf_L4])
  | succ n ih =>
    intro x2 x3 h
    rw [F_X8_seatsOf_L4] at h
    refine G.iload_n C dX8_seatsOf_4 3 rfl ?_
    refine G.aload_n C dX8_seatsOf_5 0 rfl ?_
    refine gfX8_19 (i := 0) (j := 0) (v := .ref (a 4)) C rfl rfl rfl dX8_seatsOf_6 ?_
    refine G.iconst C dX8_seatsOf_9 ni_3 ?_
    refine G.iald (i := 0) (j := 4) (f := (v 4)) C rfl rfl h dX8_seatsOf_10 (fun h => ?_)
    refine G.icmp_ge (tgt := 43) C dX8_seatsOf_11 (by decide) h (fun h => ?_) (fun h => ?_)
    · refine G.iload_n C dX8_seatsOf_43 2 rfl ?_
      exact hR _ (Option.some.inj h) _ _ dX8_seatsOf_44
    · refine G.iload_n C dX8_seatsOf_14 2 rfl ?_
      refine G.aload_n C dX8_seatsOf_15 0 rfl ?_
      refine gfX8_19 (i := 0) (j := 0) (v := .ref (a 4)) C rfl rfl rfl dX8_seatsOf_16 ?_
      refine G.bipush C dX8_seatsOf_19 nb_49 ?_
      refine G.iload_n C dX8_seatsOf_21 3 rfl ?_
      refine G.iadd C dX8_seatsOf_22 ?_
      refine G.iald (i := 0) (j := 4) (f := (v 4)) C rfl rfl h dX8_seatsOf_23 (fun h => ?_)
      refine G.iload_n C dX8_seatsOf_24 1 rfl ?_
      refine jn_use (fun J => ∀ (s35_0 : Int32), J s35_0 = some r → G X [wModel t a v] 35 [(0, .ref (a 0)), (1, .int x1), (3, .int x3)] [.int s35_0, .int x2]) h ?_ (fun J35 hJ35 h => ?_)
      · intro s35_0 h
        refine G.ior C dX8_seatsOf_35 ?_
        refine G.istore_n (lv' := [(2, .int (x2 ||| s35_0)), (0, .ref (a 0)), (1, .int x1), (3, .int x3)]) C dX8_seatsOf_36 (by decide) rfl ?_
        refine G.iinc (v := (x3 + (1 : Int32))) (lv' := [(3, .int (x3 + (1 : Int32))), (2, .int (x2 ||| s35_0)), (0, .ref (a 0)), (1, .int x1)]) C dX8_seatsOf_37 3 rfl (by rw [ni_1]) (by decide) rfl ?_
        refine G.goto (tgt := 4) C dX8_seatsOf_40 (by decide) ?_
        exact G.lvs [2, 3, 1, 0] rfl (ih _ _ h)
      refine G.icmp_ne (tgt := 34) C dX8_seatsOf_25 (by decide) h (fun h => ?_) (fun h => ?_)
      · refine G.iconst C dX8_seatsOf_34 ni_0 ?_
        exact G.lvs [0, 1, 3] rfl (hJ35 _ h)
      · refine G.iconst C dX8_seatsOf_28 ni_1 ?_
        refine G.iload_n C dX8_seatsOf_29 3 rfl ?_
        refine G.ishl C dX8_seatsOf_30 ?_
        refine G.goto (tgt := 35) C dX8_seatsOf_31 (by decide) ?_
        exact G.lvs [0, 1, 3] rfl (hJ35 _ h)
set_option maxHeartbeats 2000000 in
set_option maxRecDepth 20000 in
theorem c_X8_seatsOf {t : Nat → ClassId} {a : Nat → Nat} {N : Nat} {v : SV} {x1 : Int32} {r : Int32} (h : F_X8_seatsOf N v x1 = some r) : CI t yX8_seatsOf cX8_seatsOf 4 (some .int) (rm 1) [.ref (a 0), .int x1] [wModel t a v] r [wModel t a v] := by
  refine CI.of (own := RX8) (by decide) rfl (Nat.le_of_ble_eq_true rfl) (fun X C hR0 => ?_)
  have hR : ∀ q : Int32, q = r → RetI X cX8_seatsOf q [wModel t a v] := by intro q e; subst e; exact hR0
  show G X [wModel t a v] 0 [(0, .ref (a 0)), (1, .int x1)] []
  unfold F_X8_seatsOf at h
  refine G.iconst C dX8_seatsOf_0 ni_0 ?_
  refine G.istore_n (lv' := [(2, .int (0 : Int32)), (0, .ref (a 0)), (1, .int x1)]) C dX8_seatsOf_1 (by decide) rfl ?_
  refine G.iconst C dX8_seatsOf_2 ni_0 ?_
  refine G.istore_n (lv' := [(3, .int (0 : Int32)), (2, .int (0 : Int32)), (0, .ref (a 0)), (1, .int x1)]) C dX8_seatsOf_3 (by decide) rfl ?_
  exact G.lvs [2, 3, 1, 0] rfl (w_X8_seatsOf_L4 C hR N _ _ h)
set_option maxHeartbeats 2000000 in
set_option maxRecDepth 20000 in
theorem w_X8_wantersOf_L4 {X : Cx} {t : Nat → ClassId} {a : Nat → Nat} {N : Nat} {v : SV} {x1 : Int32} {r : Int32} (C : gX X t (rm 1) cX8_wantersOf 4 RX8) (hR : ∀ q : Int32, q = r → RetI X cX8_wantersOf q [wModel t a v]) : ∀ (n : Nat) (x2 : Int32) (x3 : Int32), F_X8_wantersOf_L4 N v x1 n x2 x3 = some r → G X [wModel t a v] 4 [(0, .ref (a 0)), (1, .int x1), (2, .int x2), (3, .int x3)] [] := by
  intro n
  induction n with
  | zero => intro x2 x3 h; exact absurd h (by simp [F_X8_wantersOf_L4])
  | succ n ih =>
    intro x2 x3 h
    rw [F_X8_wantersOf_L4] at h
    refine G.iload_n C dX8_wantersOf_4 3 rfl ?_
    refine G.aload_n C dX8_wantersOf_5 0 rfl ?_
    refine gfX8_19 (i := 0) (j := 0) (v := .ref (a 4)) C rfl rfl rfl dX8_wantersOf_6 ?_
    refine G.iconst C dX8_wantersOf_9 ni_3 ?_
    refine G.iald (i := 0) (j := 4) (f := (v 4)) C rfl rfl h dX8_wantersOf_10 (fun h => ?_)
    refine G.icmp_ge (tgt := 55) C dX8_wantersOf_11 (by decide) h (fun h => ?_) (fun h => ?_)
    · refine G.iload_n C dX8_wantersOf_55 2 rfl ?_
      exact hR _ (Option.some.inj h) _ _ dX8_wantersOf_56
    · refine G.iload_n C dX8_wantersOf_14 2 rfl ?_
      refine G.aload_n C dX8_wantersOf_15 0 rfl ?_
      refine gfX8_19 (i := 0) (j := 0) (v := .ref (a 4)) C rfl rfl rfl dX8_wantersOf_16 ?_
      refine G.bipush C dX8_wantersOf_19 nb_49 ?_
      refine G.iload_n C dX8_wantersOf_21 3 rfl ?_
      refine G.iadd C dX8_wantersOf_22 ?_
      refine G.iald (i := 0) (j := 4) (f := (v 4)) C rfl rfl h dX8_wantersOf_23 (fun h => ?_)
      refine jn_use (fun J => ∀ (s47_0 : Int32), J s47_0 = some r → G X [wModel t a v] 47 [(0, .ref (a 0)), (1, .int x1), (3, .int x3)] [.int s47_0, .int x2]) h ?_ (fun J47 hJ47 h => ?_)
      · intro s47_0 h
        refine G.ior C dX8_wantersOf_47 ?_
        refine G.istore_n (lv' := [(2, .int (x2 ||| s47_0)), (0, .ref (a 0)), (1, .int x1), (3, .int x3)]) C dX8_wantersOf_48 (by decide) rfl ?_
        refine G.iinc (v := (x3 + (1 : Int32))) (lv' := [(3, .int (x3 + (1 : Int32))), (2, .int (x2 ||| s47_0)), (0, .ref (a 0)), (1, .int x1)]) C dX8_wantersOf_49 3 rfl (by rw [ni_1]) (by decide) rfl ?_
        refine G.goto (tgt := 4) C dX8_wantersOf_52 (by decide) ?_
        exact G.lvs [2, 3, 1, 0] rfl (ih _ _ h)
      refine jn_use (fun J => ∀ (u_46 : Unit), J u_46 = some r → G X [wModel t a v] 46 [(0, .ref (a 0)), (1, .int x1), (3, .int x3)] [.int x2]) h ?_ (fun J46 hJ46 h => ?_)
      · intro u_46 h
        refine G.iconst C dX8_wantersOf_46 ni_0 ?_
        exact G.lvs [0, 1, 2] rfl (hJ47 _ h)
      refine G.if_ne (tgt := 46) C dX8_wantersOf_24 (by decide) h (fun h => ?_) (fun h => ?_)
      · exact G.lvs [0, 1, 3] rfl (hJ46 _ h)
      · refine G.aload_n C dX8_wantersOf_27 0 rfl ?_
        refine gfX8_19 (i := 0) (j := 0) (v := .ref (a 4)) C rfl rfl rfl dX8_wantersOf_28 ?_
        refine G.bipush C dX8_wantersOf_31 nb_37 ?_
        refine G.iload_n C dX8_wantersOf_33 3 rfl ?_
        refine G.iadd C dX8_wantersOf_34 ?_
        refine G.iald (i := 0) (j := 4) (f := (v 4)) C rfl rfl h dX8_wantersOf_35 (fun h => ?_)
        refine G.iload_n C dX8_wantersOf_36 1 rfl ?_
        refine G.icmp_ne (tgt := 46) C dX8_wantersOf_37 (by decide) h (fun h => ?_) (fun h => ?_)
        · exact G.lvs [0, 1, 3] rfl (hJ46 _ h)
        · refine G.iconst C dX8_wantersOf_40 ni_1 ?_
          refine G.iload_n C dX8_wantersOf_41 3 rfl ?_
          refine G.ishl C dX8_wantersOf_42 ?_
          refine G.goto (tgt := 47) C dX8_wantersOf_43 (by decide) ?_
          exact G.lvs [0, 1, 3] rfl (hJ47 _ h)
set_option maxHeartbeats 2000000 in
set_option maxRecDepth 20000 in
theorem c_X8_wantersOf {t : Nat → ClassId} {a : Nat → Nat} {N : Nat} {v : SV} {x1 : Int32} {r : Int32} (h : F_X8_wantersOf N v x1 = some r) : CI t yX8_wantersOf cX8_wantersOf 4 (some .int) (rm 1) [.ref (a 0), .int x1] [wModel t a v] r [wModel t a v] := by
  refine CI.of (own := RX8) (by decide) rfl (Nat.le_of_ble_eq_true rfl) (fun X C hR0 => ?_)
  have hR : ∀ q : Int32, q = r → RetI X cX8_wantersOf q [wModel t a v] := by intro q e; subst e; exact hR0
  show G X [wModel t a v] 0 [(0, .ref (a 0)), (1, .int x1)] []
  unfold F_X8_wantersOf at h
  refine G.iconst C dX8_wantersOf_0 ni_0 ?_
  refine G.istore_n (lv' := [(2, .int (0 : Int32)), (0, .ref (a 0)), (1, .int x1)]) C dX8_wantersOf_1 (by decide) rfl ?_
  refine G.iconst C dX8_wantersOf_2 ni_0 ?_
  refine G.istore_n (lv' := [(3, .int (0 : Int32)), (2, .int (0 : Int32)), (0, .ref (a 0)), (1, .int x1)]) C dX8_wantersOf_3 (by decide) rfl ?_
  exact G.lvs [2, 3, 1, 0] rfl (w_X8_wantersOf_L4 C hR N _ _ h)
set_option maxHeartbeats 2000000 in
set_option maxRecDepth 20000 in
theorem c_X8_wantedBy {t : Nat → ClassId} {a : Nat → Nat} {N : Nat} {v : SV} {x1 : Int32} {r : Int32} (h : F_X8_wantedBy N v x1 = some r) : CI t yX8_wantedBy cX8_wantedBy 2 (some .int) (rm 2) [.ref (a 0), .int x1] [wModel t a v] r [wModel t a v] := by
  refine CI.of (own := RX8) (by decide) rfl (Nat.le_of_ble_eq_true rfl) (fun X C hR0 => ?_)
  have hR : ∀ q : Int32, q = r → RetI X cX8_wantedBy q [wModel t a v] := by intro q e; subst e; exact hR0
  show G X [wModel t a v] 0 [(0, .ref (a 0)), (1, .int x1)] []
  unfold F_X8_wantedBy at h
  refine G.aload_n C dX8_wantedBy_0 0 rfl ?_
  refine G.aload_n C dX8_wantedBy_1 0 rfl ?_
  refine gfX8_19 (i := 0) (j := 0) (v := .ref (a 4)) C rfl rfl rfl dX8_wantedBy_2 ?_
  refine G.bipush C dX8_wantedBy_5 nb_13 ?_
  refine G.iload_n C dX8_wantedBy_7 1 rfl ?_
  refine G.iadd C dX8_wantedBy_8 ?_
  refine G.iald (i := 0) (j := 4) (f := (v 4)) C rfl rfl h dX8_wantedBy_9 (fun h => ?_)
  obtain ⟨q10, hq10, h⟩ := bind_some' h
  refine G.cvI (i0 := 0) (j0 := 0) (cs' := [wModel t a v]) C (c_X8_wantersOf (a := a) hq10) [0] rfl rfl rfl rfl rfl rfl rfl k_1261 cal_X8_wantersOf (fit_rm (by decide) (by decide)) rfl (Nat.le_of_ble_eq_true rfl) dX8_wantedBy_10 ?_
  obtain ⟨q13, hq13, h⟩ := bind_some' h
  refine G.csI (cs' := [wModel t a v]) C (c_X8_ones hq13) [] rfl rfl rfl rfl k_1265 cal_X8_ones (fit_rm (by decide) (by decide)) rfl (Nat.le_of_ble_eq_true rfl) dX8_wantedBy_13 ?_
  exact hR _ (Option.some.inj h) _ _ dX8_wantedBy_16
set_option maxHeartbeats 2000000 in
set_option maxRecDepth 20000 in
theorem w_X8_placeOf_L5 {X : Cx} {t : Nat → ClassId} {a : Nat → Nat} {N : Nat} {v : SV} {x1 : Int32} {r : Int32} (C : gX X t (rm 1) cX8_placeOf 4 RX8) (hR : ∀ q : Int32, q = r → RetI X cX8_placeOf q [wModel t a v]) : ∀ (n : Nat) (x2 : Int32) (x3 : Int32), F_X8_placeOf_L5 N v x1 n x2 x3 = some r → G X [wModel t a v] 5 [(0, .ref (a 0)), (1, .int x1), (2, .int x2), (3, .int x3)] [] := by
  intro n
  induction n with
  | zero => intro x2 x3 h; exact absurd h (by simp [F_X8_placeOf_L5])
  | succ n ih =>
    intro x2 x3 h
    rw [F_X8_placeOf_L5] at h
    refine G.iload_n C dX8_placeOf_5 3 rfl ?_
    refine G.aload_n C dX8_placeOf_6 0 rfl ?_
    refine gfX8_19 (i := 0) (j := 0) (v := .ref (a 4)) C rfl rfl rfl dX8_placeOf_7 ?_
    refine G.bipush C dX8_placeOf_10 nb_6 ?_
    refine G.iald (i := 0) (j := 4) (f := (v 4)) C rfl rfl h dX8_placeOf_12 (fun h => ?_)
    refine G.icmp_ge (tgt := 41) C dX8_placeOf_13 (by decide) h (fun h => ?_) (fun h => ?_)
    · refine G.iload_n C dX8_placeOf_41 2 rfl ?_
      exact hR _ (Option.some.inj h) _ _ dX8_placeOf_42
    · refine G.aload_n C dX8_placeOf_16 0 rfl ?_
      refine gfX8_19 (i := 0) (j := 0) (v := .ref (a 4)) C rfl rfl rfl dX8_placeOf_17 ?_
      refine G.bipush C dX8_placeOf_20 nb_31 ?_
      refine G.iload_n C dX8_placeOf_22 3 rfl ?_
      refine G.iadd C dX8_placeOf_23 ?_
      refine G.iald (i := 0) (j := 4) (f := (v 4)) C rfl rfl h dX8_placeOf_24 (fun h => ?_)
      refine G.iload_n C dX8_placeOf_25 1 rfl ?_
      refine jn_use (fun J => ∀ (s34_0 : Int32), J s34_0 = some r → G X [wModel t a v] 34 [(0, .ref (a 0)), (1, .int x1), (3, .int x3)] [.int s34_0]) h ?_ (fun J34 hJ34 h => ?_)
      · intro s34_0 h
        refine G.istore_n (lv' := [(2, .int s34_0), (0, .ref (a 0)), (1, .int x1), (3, .int x3)]) C dX8_placeOf_34 (by decide) rfl ?_
        refine G.iinc (v := (x3 + (1 : Int32))) (lv' := [(3, .int (x3 + (1 : Int32))), (2, .int s34_0), (0, .ref (a 0)), (1, .int x1)]) C dX8_placeOf_35 3 rfl (by rw [ni_1]) (by decide) rfl ?_
        refine G.goto (tgt := 5) C dX8_placeOf_38 (by decide) ?_
        exact G.lvs [2, 3, 1, 0] rfl (ih _ _ h)
      refine G.icmp_ne (tgt := 33) C dX8_placeOf_26 (by decide) h (fun h => ?_) (fun h => ?_)
      · refine G.iload_n C dX8_placeOf_33 2 rfl ?_
        exact G.lvs [0, 1, 3] rfl (hJ34 _ h)
      · refine G.iload_n C dX8_placeOf_29 3 rfl ?_
        refine G.goto (tgt := 34) C dX8_placeOf_30 (by decide) ?_
        exact G.lvs [0, 1, 3] rfl (hJ34 _ h)
set_option maxHeartbeats 2000000 in
set_option maxRecDepth 20000 in
theorem c_X8_placeOf {t : Nat → ClassId} {a : Nat → Nat} {N : Nat} {v : SV} {x1 : Int32} {r : Int32} (h : F_X8_placeOf N v x1 = some r) : CI t yX8_placeOf cX8_placeOf 4 (some .int) (rm 1) [.ref (a 0), .int x1] [wModel t a v] r [wModel t a v] := by
  refine CI.of (own := RX8) (by decide) rfl (Nat.le_of_ble_eq_true rfl) (fun X C hR0 => ?_)
  have hR : ∀ q : Int32, q = r → RetI X cX8_placeOf q [wModel t a v] := by intro q e; subst e; exact hR0
  show G X [wModel t a v] 0 [(0, .ref (a 0)), (1, .int x1)] []
  unfold F_X8_placeOf at h
  refine G.ldc C k_1256 dX8_placeOf_0 ?_
  refine G.istore_n (lv' := [(2, .int (-1000000 : Int32)), (0, .ref (a 0)), (1, .int x1)]) C dX8_placeOf_2 (by decide) rfl ?_
  refine G.iconst C dX8_placeOf_3 ni_0 ?_
  refine G.istore_n (lv' := [(3, .int (0 : Int32)), (2, .int (-1000000 : Int32)), (0, .ref (a 0)), (1, .int x1)]) C dX8_placeOf_4 (by decide) rfl ?_
  exact G.lvs [2, 3, 1, 0] rfl (w_X8_placeOf_L5 C hR N _ _ h)
set_option maxHeartbeats 2000000 in
set_option maxRecDepth 20000 in
theorem w_X8_takeOff_L10 {X : Cx} {t : Nat → ClassId} {a : Nat → Nat} {N : Nat} {K47 : SV → Option (SV)} {r : SV} (C : gX X t (rm 2) cX8_takeOff 4 RX8) (hR : ∀ q : SV, q = r → RetV X cX8_takeOff [wModel t a q]) (hK47 : ∀ (v_47 : SV), K47 v_47 = some r → G X [wModel t a v_47] 47 [(0, .ref (a 0))] []) : ∀ (n : Nat) (x3 : Int32) (v : SV), F_X8_takeOff_L10 N K47 n x3 v = some r → G X [wModel t a v] 10 [(0, .ref (a 0)), (3, .int x3)] [] := by
  intro n
  induction n with
  | zero => intro x3 v h; exact absurd h (by simp [F_X8_takeOff_L10])
  | succ n ih =>
    intro x3 v h
    rw [F_X8_takeOff_L10] at h
    refine G.iload_n C dX8_takeOff_10 1 rfl ?_
    refine G.aload_n C dX8_takeOff_11 0 rfl ?_
    refine gfX8_19 (i := 0) (j := 0) (v := .ref (a 4)) C rfl rfl rfl dX8_takeOff_12 ?_
    refine G.bipush C dX8_takeOff_15 nb_6 ?_
    refine G.iald (i := 0) (j := 4) (f := (v 4)) C rfl rfl h dX8_takeOff_17 (fun h => ?_)
    refine G.icmp_ge (tgt := 47) C dX8_takeOff_18 (by decide) h (fun h => ?_) (fun h => ?_)
    · exact G.lvs [0] rfl (hK47 _ h)
    · refine G.aload_n C dX8_takeOff_21 0 rfl ?_
      refine gfX8_19 (i := 0) (j := 0) (v := .ref (a 4)) C rfl rfl rfl dX8_takeOff_22 ?_
      refine G.bipush C dX8_takeOff_25 nb_31 ?_
      refine G.iload_n C dX8_takeOff_27 1 rfl ?_
      refine G.iadd C dX8_takeOff_28 ?_
      refine G.iconst C dX8_takeOff_29 ni_1 ?_
      refine G.isub C dX8_takeOff_30 ?_
      refine G.aload_n C dX8_takeOff_31 0 rfl ?_
      refine gfX8_19 (i := 0) (j := 0) (v := .ref (a 4)) C rfl rfl rfl dX8_takeOff_32 ?_
      refine G.bipush C dX8_takeOff_35 nb_31 ?_
      refine G.iload_n C dX8_takeOff_37 1 rfl ?_
      refine G.iadd C dX8_takeOff_38 ?_
      refine G.iald (i := 0) (j := 4) (f := (v 4)) C rfl rfl h dX8_takeOff_39 (fun h => ?_)
      refine G.iast (i := 0) (j := 4) (f := v 4) (cs' := [wModel t a (up2 v 4 ((((31 : Int32) + x3) - (1 : Int32)).toNatClampNeg) ((v 4) (((31 : Int32) + x3).toNatClampNeg)))]) C rfl rfl h dX8_takeOff_40 (suModelA_4) rfl (fun h => ?_)
      refine G.iinc (v := (x3 + (1 : Int32))) (lv' := [(3, .int (x3 + (1 : Int32))), (0, .ref (a 0))]) C dX8_takeOff_41 1 rfl (by rw [ni_1]) (by decide) rfl ?_
      refine G.goto (tgt := 10) C dX8_takeOff_44 (by decide) ?_
      exact G.lvs [1, 0] rfl (ih _ _ h)
set_option maxHeartbeats 2000000 in
set_option maxRecDepth 20000 in
theorem c_X8_takeOff {t : Nat → ClassId} {a : Nat → Nat} {N : Nat} {v : SV} {x1 : Int32} {r : SV} (h : F_X8_takeOff N v x1 = some r) : CV t yX8_takeOff cX8_takeOff 4 none (rm 2) [.ref (a 0), .int x1] [wModel t a v] [wModel t a r] := by
  refine CV.of (own := RX8) (by decide) rfl (Nat.le_of_ble_eq_true rfl) (fun X C hR0 => ?_)
  have hR : ∀ q : SV, q = r → RetV X cX8_takeOff [wModel t a q] := by intro q e; subst e; exact hR0
  show G X [wModel t a v] 0 [(0, .ref (a 0)), (1, .int x1)] []
  unfold F_X8_takeOff at h
  refine G.aload_n C dX8_takeOff_0 0 rfl ?_
  refine G.iload_n C dX8_takeOff_1 1 rfl ?_
  obtain ⟨q2, hq2, h⟩ := bind_some' h
  refine G.cvI (i0 := 0) (j0 := 0) (cs' := [wModel t a v]) C (c_X8_placeOf (a := a) hq2) [0] rfl rfl rfl rfl rfl rfl rfl k_1295 cal_X8_placeOf (fit_rm (by decide) (by decide)) rfl (Nat.le_of_ble_eq_true rfl) dX8_takeOff_2 ?_
  refine G.istore_n (lv' := [(2, .int q2), (0, .ref (a 0)), (1, .int x1)]) C dX8_takeOff_5 (by decide) rfl ?_
  refine G.iload_n C dX8_takeOff_6 0 rfl ?_
  refine G.iconst C dX8_takeOff_7 ni_1 ?_
  refine G.iadd C dX8_takeOff_8 ?_
  refine G.istore_n (lv' := [(3, .int (q2 + (1 : Int32))), (2, .int q2), (0, .ref (a 0)), (1, .int x1)]) C dX8_takeOff_9 (by decide) rfl ?_
  refine G.lvs [2, 0] rfl (w_X8_takeOff_L10 C hR (fun v_47 h => ?_) N _ _ h)
  · refine G.aload_n C dX8_takeOff_47 0 rfl ?_
    refine gfX8_19 (i := 0) (j := 0) (v := .ref (a 4)) C rfl rfl rfl dX8_takeOff_48 ?_
    refine G.bipush C dX8_takeOff_51 nb_6 ?_
    refine G.dup2 C dX8_takeOff_53 rfl rfl ?_
    refine G.iald (i := 0) (j := 4) (f := (v_47 4)) C rfl rfl h dX8_takeOff_54 (fun h => ?_)
    refine G.iconst C dX8_takeOff_55 ni_1 ?_
    refine G.isub C dX8_takeOff_56 ?_
    refine G.iast (i := 0) (j := 4) (f := v_47 4) (cs' := [wModel t a (up2 v_47 4 ((6 : Int32).toNatClampNeg) (((v_47 4) ((6 : Int32).toNatClampNeg)) - (1 : Int32)))]) C rfl rfl h dX8_takeOff_57 (suModelA_4) rfl (fun h => ?_)
    exact hR _ (Option.some.inj h) _ _ dX8_takeOff_58
set_option maxHeartbeats 2000000 in
set_option maxRecDepth 20000 in
theorem c_X8_layBehind {t : Nat → ClassId} {a : Nat → Nat} {N : Nat} {v : SV} {x1 : Int32} {r : SV} (h : F_X8_layBehind N v x1 = some r) : CV t yX8_layBehind cX8_layBehind 2 none (rm 1) [.ref (a 0), .int x1] [wModel t a v] [wModel t a r] := by
  refine CV.of (own := RX8) (by decide) rfl (Nat.le_of_ble_eq_true rfl) (fun X C hR0 => ?_)
  have hR : ∀ q : SV, q = r → RetV X cX8_layBehind [wModel t a q] := by intro q e; subst e; exact hR0
  show G X [wModel t a v] 0 [(0, .ref (a 0)), (1, .int x1)] []
  unfold F_X8_layBehind at h
  refine G.aload_n C dX8_layBehind_0 0 rfl ?_
  refine gfX8_19 (i := 0) (j := 0) (v := .ref (a 4)) C rfl rfl rfl dX8_layBehind_1 ?_
  refine G.bipush C dX8_layBehind_4 nb_31 ?_
  refine G.aload_n C dX8_layBehind_6 0 rfl ?_
  refine gfX8_19 (i := 0) (j := 0) (v := .ref (a 4)) C rfl rfl rfl dX8_layBehind_7 ?_
  refine G.bipush C dX8_layBehind_10 nb_6 ?_
  refine G.iald (i := 0) (j := 4) (f := (v 4)) C rfl rfl h dX8_layBehind_12 (fun h => ?_)
  refine G.iadd C dX8_layBehind_13 ?_
  refine G.iload_n C dX8_layBehind_14 1 rfl ?_
  refine G.iast (i := 0) (j := 4) (f := v 4) (cs' := [wModel t a (up2 v 4 (((31 : Int32) + ((v 4) ((6 : Int32).toNatClampNeg))).toNatClampNeg) x1)]) C rfl rfl h dX8_layBehind_15 (suModelA_4) rfl (fun h => ?_)
  refine G.aload_n C dX8_layBehind_16 0 rfl ?_
  refine gfX8_19 (i := 0) (j := 0) (v := .ref (a 4)) C rfl rfl rfl dX8_layBehind_17 ?_
  refine G.bipush C dX8_layBehind_20 nb_6 ?_
  refine G.dup2 C dX8_layBehind_22 rfl rfl ?_
  refine G.iald (i := 0) (j := 4) (f := (upd (v 4) (((31 : Int32) + ((v 4) ((6 : Int32).toNatClampNeg))).toNatClampNeg) x1)) C rfl rfl h dX8_layBehind_23 (fun h => ?_)
  refine G.iconst C dX8_layBehind_24 ni_1 ?_
  refine G.iadd C dX8_layBehind_25 ?_
  refine G.iast (i := 0) (j := 4) (f := (up2 v 4 (((31 : Int32) + ((v 4) ((6 : Int32).toNatClampNeg))).toNatClampNeg) x1) 4) (cs' := [wModel t a (up2 (up2 v 4 (((31 : Int32) + ((v 4) ((6 : Int32).toNatClampNeg))).toNatClampNeg) x1) 4 ((6 : Int32).toNatClampNeg) (((upd (v 4) (((31 : Int32) + ((v 4) ((6 : Int32).toNatClampNeg))).toNatClampNeg) x1) ((6 : Int32).toNatClampNeg)) + (1 : Int32)))]) C rfl rfl h dX8_layBehind_26 (suModelA_4) rfl (fun h => ?_)
  exact hR _ (Option.some.inj h) _ _ dX8_layBehind_27
set_option maxHeartbeats 2000000 in
set_option maxRecDepth 20000 in
theorem w_X8_layFirst_L21 {X : Cx} {t : Nat → ClassId} {a : Nat → Nat} {N : Nat} {x1 : Int32} {K51 : SV → Option (SV)} {r : SV} (C : gX X t (rm 3) cX8_layFirst 3 RX8) (hR : ∀ q : SV, q = r → RetV X cX8_layFirst [wModel t a q]) (hK51 : ∀ (v_51 : SV), K51 v_51 = some r → G X [wModel t a v_51] 51 [(0, .ref (a 0)), (1, .int x1)] []) : ∀ (n : Nat) (x2 : Int32) (v : SV), F_X8_layFirst_L21 N x1 K51 n x2 v = some r → G X [wModel t a v] 21 [(0, .ref (a 0)), (1, .int x1), (2, .int x2)] [] := by
  intro n
  induction n with
  | zero => intro x2 v h; exact absurd h (by simp [F_X8_layFirst_L21])
  | succ n ih =>
    intro x2 v h
    rw [F_X8_layFirst_L21] at h
    refine G.iload_n C dX8_layFirst_21 2 rfl ?_
    refine G.if_le (tgt := 51) C dX8_layFirst_22 (by decide) h (fun h => ?_) (fun h => ?_)
    · exact G.lvs [0, 1] rfl (hK51 _ h)
    · refine G.aload_n C dX8_layFirst_25 0 rfl ?_
      refine gfX8_19 (i := 0) (j := 0) (v := .ref (a 4)) C rfl rfl rfl dX8_layFirst_26 ?_
      refine G.bipush C dX8_layFirst_29 nb_31 ?_
      refine G.iload_n C dX8_layFirst_31 2 rfl ?_
      refine G.iadd C dX8_layFirst_32 ?_
      refine G.aload_n C dX8_layFirst_33 0 rfl ?_
      refine gfX8_19 (i := 0) (j := 0) (v := .ref (a 4)) C rfl rfl rfl dX8_layFirst_34 ?_
      refine G.bipush C dX8_layFirst_37 nb_31 ?_
      refine G.iload_n C dX8_layFirst_39 2 rfl ?_
      refine G.iadd C dX8_layFirst_40 ?_
      refine G.iconst C dX8_layFirst_41 ni_1 ?_
      refine G.isub C dX8_layFirst_42 ?_
      refine G.iald (i := 0) (j := 4) (f := (v 4)) C rfl rfl h dX8_layFirst_43 (fun h => ?_)
      refine G.iast (i := 0) (j := 4) (f := v 4) (cs' := [wModel t a (up2 v 4 (((31 : Int32) + x2).toNatClampNeg) ((v 4) ((((31 : Int32) + x2) - (1 : Int32)).toNatClampNeg)))]) C rfl rfl h dX8_layFirst_44 (suModelA_4) rfl (fun h => ?_)
      refine G.iinc (v := (x2 + (-1 : Int32))) (lv' := [(2, .int (x2 + (-1 : Int32))), (0, .ref (a 0)), (1, .int x1)]) C dX8_layFirst_45 2 rfl (by rw [ni_m1]) (by decide) rfl ?_
      refine G.goto (tgt := 21) C dX8_layFirst_48 (by decide) ?_
      exact G.lvs [1, 2, 0] rfl (ih _ _ h)
set_option maxHeartbeats 2000000 in
set_option maxRecDepth 20000 in
theorem c_X8_layFirst {t : Nat → ClassId} {a : Nat → Nat} {N : Nat} {v : SV} {x1 : Int32} {r : SV} (h : F_X8_layFirst N v x1 = some r) : CV t yX8_layFirst cX8_layFirst 3 none (rm 3) [.ref (a 0), .int x1] [wModel t a v] [wModel t a r] := by
  refine CV.of (own := RX8) (by decide) rfl (Nat.le_of_ble_eq_true rfl) (fun X C hR0 => ?_)
  have hR : ∀ q : SV, q = r → RetV X cX8_layFirst [wModel t a q] := by intro q e; subst e; exact hR0
  show G X [wModel t a v] 0 [(0, .ref (a 0)), (1, .int x1)] []
  unfold F_X8_layFirst at h
  refine G.aload_n C dX8_layFirst_0 0 rfl ?_
  refine G.iload_n C dX8_layFirst_1 1 rfl ?_
  obtain ⟨q2, hq2, h⟩ := bind_some' h
  refine G.cvI (i0 := 0) (j0 := 0) (cs' := [wModel t a v]) C (c_X8_placeOf (a := a) hq2) [0] rfl rfl rfl rfl rfl rfl rfl k_1295 cal_X8_placeOf (fit_rm (by decide) (by decide)) rfl (Nat.le_of_ble_eq_true rfl) dX8_layFirst_2 ?_
  refine jn_use (fun J => ∀ (v_13 : SV), J v_13 = some r → G X [wModel t a v_13] 13 [(0, .ref (a 0)), (1, .int x1)] []) h ?_ (fun J13 hJ13 h => ?_)
  · intro v_13 h
    refine G.aload_n C dX8_layFirst_13 0 rfl ?_
    refine gfX8_19 (i := 0) (j := 0) (v := .ref (a 4)) C rfl rfl rfl dX8_layFirst_14 ?_
    refine G.bipush C dX8_layFirst_17 nb_6 ?_
    refine G.iald (i := 0) (j := 4) (f := (v_13 4)) C rfl rfl h dX8_layFirst_19 (fun h => ?_)
    refine G.istore_n (lv' := [(2, .int ((v_13 4) ((6 : Int32).toNatClampNeg))), (0, .ref (a 0)), (1, .int x1)]) C dX8_layFirst_20 (by decide) rfl ?_
    refine G.lvs [1, 2, 0] rfl (w_X8_layFirst_L21 C hR (fun v_51 h => ?_) N _ _ h)
    · refine G.aload_n C dX8_layFirst_51 0 rfl ?_
      refine gfX8_19 (i := 0) (j := 0) (v := .ref (a 4)) C rfl rfl rfl dX8_layFirst_52 ?_
      refine G.bipush C dX8_layFirst_55 nb_31 ?_
      refine G.iload_n C dX8_layFirst_57 1 rfl ?_
      refine G.iast (i := 0) (j := 4) (f := v_51 4) (cs' := [wModel t a (up2 v_51 4 ((31 : Int32).toNatClampNeg) x1)]) C rfl rfl h dX8_layFirst_58 (suModelA_4) rfl (fun h => ?_)
      refine G.aload_n C dX8_layFirst_59 0 rfl ?_
      refine gfX8_19 (i := 0) (j := 0) (v := .ref (a 4)) C rfl rfl rfl dX8_layFirst_60 ?_
      refine G.bipush C dX8_layFirst_63 nb_6 ?_
      refine G.dup2 C dX8_layFirst_65 rfl rfl ?_
      refine G.iald (i := 0) (j := 4) (f := (upd (v_51 4) ((31 : Int32).toNatClampNeg) x1)) C rfl rfl h dX8_layFirst_66 (fun h => ?_)
      refine G.iconst C dX8_layFirst_67 ni_1 ?_
      refine G.iadd C dX8_layFirst_68 ?_
      refine G.iast (i := 0) (j := 4) (f := (up2 v_51 4 ((31 : Int32).toNatClampNeg) x1) 4) (cs' := [wModel t a (up2 (up2 v_51 4 ((31 : Int32).toNatClampNeg) x1) 4 ((6 : Int32).toNatClampNeg) (((upd (v_51 4) ((31 : Int32).toNatClampNeg) x1) ((6 : Int32).toNatClampNeg)) + (1 : Int32)))]) C rfl rfl h dX8_layFirst_69 (suModelA_4) rfl (fun h => ?_)
      exact hR _ (Option.some.inj h) _ _ dX8_layFirst_70
  refine G.if_lt (tgt := 13) C dX8_layFirst_5 (by decide) h (fun h => ?_) (fun h => ?_)
  · exact G.lvs [0, 1] rfl (hJ13 _ h)
  · refine G.aload_n C dX8_layFirst_8 0 rfl ?_
    refine G.iload_n C dX8_layFirst_9 1 rfl ?_
    obtain ⟨q10, hq10, h⟩ := bind_some' h
    refine G.cvV (i0 := 0) (j0 := 0) (cs' := [wModel t a q10]) C (c_X8_takeOff (a := a) hq10) [0] rfl rfl rfl rfl rfl rfl rfl k_1291 cal_X8_takeOff (fit_rm (by decide) (by decide)) rfl (Nat.le_of_ble_eq_true rfl) dX8_layFirst_10 ?_
    exact G.lvs [0, 1] rfl (hJ13 _ h)
set_option maxHeartbeats 2000000 in
set_option maxRecDepth 20000 in
theorem w_X8_nextThing_L7 {X : Cx} {t : Nat → ClassId} {a : Nat → Nat} {N : Nat} {v : SV} {r : Int32} (C : gX X t (rm 3) cX8_nextThing 5 RX8) (hR : ∀ q : Int32, q = r → RetI X cX8_nextThing q [wModel t a v]) : ∀ (n : Nat) (x1 : Int32) (x2 : Int32) (x3 : Int32), F_X8_nextThing_L7 N v n x1 x2 x3 = some r → G X [wModel t a v] 7 [(0, .ref (a 0)), (1, .int x1), (2, .int x2), (3, .int x3)] [] := by
  intro n
  induction n with
  | zero => intro x1 x2 x3 h; exact absurd h (by simp [F_X8_nextThing_L7])
  | succ n ih =>
    intro x1 x2 x3 h
    rw [F_X8_nextThing_L7] at h
    refine G.iload_n C dX8_nextThing_7 3 rfl ?_
    refine G.aload_n C dX8_nextThing_8 0 rfl ?_
    refine gfX8_19 (i := 0) (j := 0) (v := .ref (a 4)) C rfl rfl rfl dX8_nextThing_9 ?_
    refine G.bipush C dX8_nextThing_12 nb_6 ?_
    refine G.iald (i := 0) (j := 4) (f := (v 4)) C rfl rfl h dX8_nextThing_14 (fun h => ?_)
    refine G.icmp_ge (tgt := 72) C dX8_nextThing_15 (by decide) h (fun h => ?_) (fun h => ?_)
    · refine G.iload_n C dX8_nextThing_72 1 rfl ?_
      exact hR _ (Option.some.inj h) _ _ dX8_nextThing_73
    · refine G.aload_n C dX8_nextThing_18 0 rfl ?_
      refine G.aload_n C dX8_nextThing_19 0 rfl ?_
      refine gfX8_19 (i := 0) (j := 0) (v := .ref (a 4)) C rfl rfl rfl dX8_nextThing_20 ?_
      refine G.bipush C dX8_nextThing_23 nb_31 ?_
      refine G.iload_n C dX8_nextThing_25 3 rfl ?_
      refine G.iadd C dX8_nextThing_26 ?_
      refine G.iald (i := 0) (j := 4) (f := (v 4)) C rfl rfl h dX8_nextThing_27 (fun h => ?_)
      obtain ⟨q28, hq28, h⟩ := bind_some' h
      refine G.cvI (i0 := 0) (j0 := 0) (cs' := [wModel t a v]) C (c_X8_wantedBy (a := a) hq28) [0] rfl rfl rfl rfl rfl rfl rfl k_1257 cal_X8_wantedBy (fit_rm (by decide) (by decide)) rfl (Nat.le_of_ble_eq_true rfl) dX8_nextThing_28 ?_
      refine G.istore (lv' := [(4, .int q28), (0, .ref (a 0)), (1, .int x1), (2, .int x2), (3, .int x3)]) C dX8_nextThing_31 (by decide) rfl ?_
      refine G.iload C dX8_nextThing_33 0 rfl ?_
      refine G.iload_n C dX8_nextThing_35 3 rfl ?_
      refine jn_use (fun J => ∀ (s52_0 : Int32), J s52_0 = some r → G X [wModel t a v] 52 [(0, .ref (a 0)), (2, .int x2), (3, .int x3), (4, .int q28)] [.int s52_0]) h ?_ (fun J52 hJ52 h => ?_)
      · intro s52_0 h
        refine G.istore_n (lv' := [(1, .int s52_0), (0, .ref (a 0)), (2, .int x2), (3, .int x3), (4, .int q28)]) C dX8_nextThing_52 (by decide) rfl ?_
        refine G.iload C dX8_nextThing_53 4 rfl ?_
        refine G.iload_n C dX8_nextThing_55 2 rfl ?_
        refine jn_use (fun J => ∀ (s65_0 : Int32), J s65_0 = some r → G X [wModel t a v] 65 [(0, .ref (a 0)), (1, .int s52_0), (3, .int x3)] [.int s65_0]) h ?_ (fun J65 hJ65 h => ?_)
        · intro s65_0 h
          refine G.istore_n (lv' := [(2, .int s65_0), (0, .ref (a 0)), (1, .int s52_0), (3, .int x3)]) C dX8_nextThing_65 (by decide) rfl ?_
          refine G.iinc (v := (x3 + (1 : Int32))) (lv' := [(3, .int (x3 + (1 : Int32))), (2, .int s65_0), (0, .ref (a 0)), (1, .int s52_0)]) C dX8_nextThing_66 3 rfl (by rw [ni_1]) (by decide) rfl ?_
          refine G.goto (tgt := 7) C dX8_nextThing_69 (by decide) ?_
          exact G.lvs [2, 3, 1, 0] rfl (ih _ _ _ h)
        refine G.icmp_le (tgt := 64) C dX8_nextThing_56 (by decide) h (fun h => ?_) (fun h => ?_)
        · refine G.iload_n C dX8_nextThing_64 2 rfl ?_
          exact G.lvs [1, 0, 3] rfl (hJ65 _ h)
        · refine G.iload C dX8_nextThing_59 4 rfl ?_
          refine G.goto (tgt := 65) C dX8_nextThing_61 (by decide) ?_
          exact G.lvs [1, 0, 3] rfl (hJ65 _ h)
      refine G.icmp_le (tgt := 51) C dX8_nextThing_36 (by decide) h (fun h => ?_) (fun h => ?_)
      · refine G.iload_n C dX8_nextThing_51 2 rfl ?_
        exact G.lvs [1, 3, 4, 0] rfl (hJ52 _ h)
      · refine G.aload_n C dX8_nextThing_39 1 rfl ?_
        refine gfX8_19 (i := 0) (j := 0) (v := .ref (a 4)) C rfl rfl rfl dX8_nextThing_40 ?_
        refine G.bipush C dX8_nextThing_43 nb_31 ?_
        refine G.iload_n C dX8_nextThing_45 4 rfl ?_
        refine G.iadd C dX8_nextThing_46 ?_
        refine G.iald (i := 0) (j := 4) (f := (v 4)) C rfl rfl h dX8_nextThing_47 (fun h => ?_)
        refine G.goto (tgt := 52) C dX8_nextThing_48 (by decide) ?_
        exact G.lvs [1, 3, 4, 0] rfl (hJ52 _ h)
set_option maxHeartbeats 2000000 in
set_option maxRecDepth 20000 in
theorem c_X8_nextThing {t : Nat → ClassId} {a : Nat → Nat} {N : Nat} {v : SV} {r : Int32} (h : F_X8_nextThing N v = some r) : CI t yX8_nextThing cX8_nextThing 5 (some .int) (rm 3) [.ref (a 0)] [wModel t a v] r [wModel t a v] := by
  refine CI.of (own := RX8) (by decide) rfl (Nat.le_of_ble_eq_true rfl) (fun X C hR0 => ?_)
  have hR : ∀ q : Int32, q = r → RetI X cX8_nextThing q [wModel t a v] := by intro q e; subst e; exact hR0
  show G X [wModel t a v] 0 [(0, .ref (a 0))] []
  unfold F_X8_nextThing at h
  refine G.ldc C k_1256 dX8_nextThing_0 ?_
  refine G.istore_n (lv' := [(1, .int (-1000000 : Int32)), (0, .ref (a 0))]) C dX8_nextThing_2 (by decide) rfl ?_
  refine G.iconst C dX8_nextThing_3 ni_m1 ?_
  refine G.istore_n (lv' := [(2, .int (-1 : Int32)), (1, .int (-1000000 : Int32)), (0, .ref (a 0))]) C dX8_nextThing_4 (by decide) rfl ?_
  refine G.iconst C dX8_nextThing_5 ni_0 ?_
  refine G.istore_n (lv' := [(3, .int (0 : Int32)), (2, .int (-1 : Int32)), (1, .int (-1000000 : Int32)), (0, .ref (a 0))]) C dX8_nextThing_6 (by decide) rfl ?_
  exact G.lvs [3, 2, 1, 0] rfl (w_X8_nextThing_L7 C hR N _ _ _ h)
set_option maxHeartbeats 2000000 in
set_option maxRecDepth 20000 in
theorem c_X8_isComingBack {t : Nat → ClassId} {a : Nat → Nat} {N : Nat} {v : SV} {x1 : Int32} {r : Int32} (h : F_X8_isComingBack N v x1 = some r) : CI t yX8_isComingBack cX8_isComingBack 3 (some .boolean) (rm 2) [.ref (a 0), .int x1] [wModel t a v] r [wModel t a v] := by
  refine CZ.of (own := RX8) (by decide) rfl (Nat.le_of_ble_eq_true rfl) (fun X C hR0 => ?_)
  have hR : ∀ q : Int32, q = r → RetZ X cX8_isComingBack q [wModel t a v] := by intro q e; subst e; exact hR0
  show G X [wModel t a v] 0 [(0, .ref (a 0)), (1, .int x1)] []
  unfold F_X8_isComingBack at h
  refine G.aload_n C dX8_isComingBack_0 0 rfl ?_
  refine gfX8_19 (i := 0) (j := 0) (v := .ref (a 4)) C rfl rfl rfl dX8_isComingBack_1 ?_
  refine G.bipush C dX8_isComingBack_4 nb_7 ?_
  refine G.iload_n C dX8_isComingBack_6 1 rfl ?_
  refine G.iadd C dX8_isComingBack_7 ?_
  refine G.iald (i := 0) (j := 4) (f := (v 4)) C rfl rfl h dX8_isComingBack_8 (fun h => ?_)
  refine G.istore_n (lv' := [(2, .int ((v 4) (((7 : Int32) + x1).toNatClampNeg))), (0, .ref (a 0)), (1, .int x1)]) C dX8_isComingBack_9 (by decide) rfl ?_
  refine G.iload_n C dX8_isComingBack_10 0 rfl ?_
  refine G.iconst C dX8_isComingBack_11 ni_5 ?_
  refine G.icmp_eq (tgt := 28) C dX8_isComingBack_12 (by decide) h (fun h => ?_) (fun h => ?_)
  · refine G.iconst C dX8_isComingBack_28 ni_1 ?_
    refine G.goto (tgt := 33) C dX8_isComingBack_29 (by decide) ?_
    exact hR _ (Option.some.inj h) (Or.inr rfl) _ _ dX8_isComingBack_33
  · refine G.iload_n C dX8_isComingBack_15 0 rfl ?_
    refine G.iconst C dX8_isComingBack_16 ni_4 ?_
    refine G.icmp_ne (tgt := 32) C dX8_isComingBack_17 (by decide) h (fun h => ?_) (fun h => ?_)
    · refine G.iconst C dX8_isComingBack_32 ni_0 ?_
      exact hR _ (Option.some.inj h) (Or.inl rfl) _ _ dX8_isComingBack_33
    · refine G.aload_n C dX8_isComingBack_20 1 rfl ?_
      refine G.iconst C dX8_isComingBack_21 ni_1 ?_
      obtain ⟨q22, hq22, h⟩ := bind_some' h
      refine G.cvI (i0 := 0) (j0 := 0) (cs' := [wModel t a v]) C (c_X8_seatsOf (a := a) hq22) [0] rfl rfl rfl rfl rfl rfl rfl k_1276 cal_X8_seatsOf (fit_rm (by decide) (by decide)) rfl (Nat.le_of_ble_eq_true rfl) dX8_isComingBack_22 ?_
      refine G.if_ne (tgt := 32) C dX8_isComingBack_25 (by decide) h (fun h => ?_) (fun h => ?_)
      · refine G.iconst C dX8_isComingBack_32 ni_0 ?_
        exact hR _ (Option.some.inj h) (Or.inl rfl) _ _ dX8_isComingBack_33
      · refine G.iconst C dX8_isComingBack_28 ni_1 ?_
        refine G.goto (tgt := 33) C dX8_isComingBack_29 (by decide) ?_
        exact hR _ (Option.some.inj h) (Or.inr rfl) _ _ dX8_isComingBack_33
set_option maxHeartbeats 2000000 in
set_option maxRecDepth 20000 in
theorem c_X8_pleasedBy {t : Nat → ClassId} {a : Nat → Nat} {N : Nat} {v : SV} {x1 : Int32} {r : Int32} (h : F_X8_pleasedBy N v x1 = some r) : CI t yX8_pleasedBy cX8_pleasedBy 3 (some .int) (rm 3) [.ref (a 0), .int x1] [wModel t a v] r [wModel t a v] := by
  refine CI.of (own := RX8) (by decide) rfl (Nat.le_of_ble_eq_true rfl) (fun X C hR0 => ?_)
  have hR : ∀ q : Int32, q = r → RetI X cX8_pleasedBy q [wModel t a v] := by intro q e; subst e; exact hR0
  show G X [wModel t a v] 0 [(0, .ref (a 0)), (1, .int x1)] []
  unfold F_X8_pleasedBy at h
  refine G.aload_n C dX8_pleasedBy_0 0 rfl ?_
  refine G.iload_n C dX8_pleasedBy_1 1 rfl ?_
  obtain ⟨q2, hq2, h⟩ := bind_some' h
  refine G.cvI (i0 := 0) (j0 := 0) (cs' := [wModel t a v]) C (c_X8_isComingBack (a := a) hq2) [0] rfl rfl rfl rfl rfl rfl rfl k_1272 cal_X8_isComingBack (fit_rm (by decide) (by decide)) rfl (Nat.le_of_ble_eq_true rfl) dX8_pleasedBy_2 ?_
  refine jn_use (fun J => ∀ (s25_0 : Int32), J s25_0 = some r → G X [wModel t a v] 25 [(0, .ref (a 0)), (1, .int x1)] [.int s25_0]) h ?_ (fun J25 hJ25 h => ?_)
  · intro s25_0 h
    refine G.istore_n (lv' := [(2, .int s25_0), (0, .ref (a 0)), (1, .int x1)]) C dX8_pleasedBy_25 (by decide) rfl ?_
    refine G.aload_n C dX8_pleasedBy_26 1 rfl ?_
    refine gfX8_19 (i := 0) (j := 0) (v := .ref (a 4)) C rfl rfl rfl dX8_pleasedBy_27 ?_
    refine G.bipush C dX8_pleasedBy_30 nb_7 ?_
    refine G.iload_n C dX8_pleasedBy_32 2 rfl ?_
    refine G.iadd C dX8_pleasedBy_33 ?_
    refine G.iald (i := 0) (j := 4) (f := (v 4)) C rfl rfl h dX8_pleasedBy_34 (fun h => ?_)
    refine G.iconst C dX8_pleasedBy_35 ni_3 ?_
    refine G.icmp_ne (tgt := 43) C dX8_pleasedBy_36 (by decide) h (fun h => ?_) (fun h => ?_)
    · refine G.iload_n C dX8_pleasedBy_43 0 rfl ?_
      refine G.iload_n C dX8_pleasedBy_44 0 rfl ?_
      refine G.ineg C dX8_pleasedBy_45 ?_
      refine G.iand C dX8_pleasedBy_46 ?_
      exact hR _ (Option.some.inj h) _ _ dX8_pleasedBy_47
    · refine G.iload_n C dX8_pleasedBy_39 0 rfl ?_
      refine G.goto (tgt := 47) C dX8_pleasedBy_40 (by decide) ?_
      exact hR _ (Option.some.inj h) _ _ dX8_pleasedBy_47
  refine G.if_eq (tgt := 12) C dX8_pleasedBy_5 (by decide) h (fun h => ?_) (fun h => ?_)
  · refine G.aload_n C dX8_pleasedBy_12 0 rfl ?_
    refine G.aload_n C dX8_pleasedBy_13 0 rfl ?_
    refine gfX8_19 (i := 0) (j := 0) (v := .ref (a 4)) C rfl rfl rfl dX8_pleasedBy_14 ?_
    refine G.bipush C dX8_pleasedBy_17 nb_13 ?_
    refine G.iload_n C dX8_pleasedBy_19 1 rfl ?_
    refine G.iadd C dX8_pleasedBy_20 ?_
    refine G.iald (i := 0) (j := 4) (f := (v 4)) C rfl rfl h dX8_pleasedBy_21 (fun h => ?_)
    obtain ⟨q22, hq22, h⟩ := bind_some' h
    refine G.cvI (i0 := 0) (j0 := 0) (cs' := [wModel t a v]) C (c_X8_wantersOf (a := a) hq22) [0] rfl rfl rfl rfl rfl rfl rfl k_1261 cal_X8_wantersOf (fit_rm (by decide) (by decide)) rfl (Nat.le_of_ble_eq_true rfl) dX8_pleasedBy_22 ?_
    exact G.lvs [0, 1] rfl (hJ25 _ h)
  · refine G.iconst C dX8_pleasedBy_8 ni_0 ?_
    refine G.goto (tgt := 25) C dX8_pleasedBy_9 (by decide) ?_
    exact G.lvs [0, 1] rfl (hJ25 _ h)
set_option maxHeartbeats 2000000 in
set_option maxRecDepth 20000 in
theorem c_X8_clapsFor {t : Nat → ClassId} {a : Nat → Nat} {N : Nat} {v : SV} {x1 : Int32} {x2 : Int32} {r : Int32} (h : F_X8_clapsFor N v x1 x2 = some r) : CI t yX8_clapsFor cX8_clapsFor 4 (some .int) (rm 2) [.ref (a 0), .int x1, .int x2] [wModel t a v] r [wModel t a v] := by
  refine CI.of (own := RX8) (by decide) rfl (Nat.le_of_ble_eq_true rfl) (fun X C hR0 => ?_)
  have hR : ∀ q : Int32, q = r → RetI X cX8_clapsFor q [wModel t a v] := by intro q e; subst e; exact hR0
  show G X [wModel t a v] 0 [(0, .ref (a 0)), (1, .int x1), (2, .int x2)] []
  unfold F_X8_clapsFor at h
  refine G.aload_n C dX8_clapsFor_0 0 rfl ?_
  refine gfX8_19 (i := 0) (j := 0) (v := .ref (a 4)) C rfl rfl rfl dX8_clapsFor_1 ?_
  refine G.bipush C dX8_clapsFor_4 nb_25 ?_
  refine G.iload_n C dX8_clapsFor_6 1 rfl ?_
  refine G.iadd C dX8_clapsFor_7 ?_
  refine G.iald (i := 0) (j := 4) (f := (v 4)) C rfl rfl h dX8_clapsFor_8 (fun h => ?_)
  refine G.iload_n C dX8_clapsFor_9 2 rfl ?_
  obtain ⟨q10, hq10, h⟩ := bind_some' h
  refine G.csI (cs' := [wModel t a v]) C (c_X8_ones hq10) [] rfl rfl rfl rfl k_1265 cal_X8_ones (fit_rm (by decide) (by decide)) rfl (Nat.le_of_ble_eq_true rfl) dX8_clapsFor_10 ?_
  refine G.imul C dX8_clapsFor_13 ?_
  refine G.istore_n (lv' := [(3, .int (((v 4) (((25 : Int32) + x1).toNatClampNeg)) * q10)), (0, .ref (a 0)), (1, .int x1), (2, .int x2)]) C dX8_clapsFor_14 (by decide) rfl ?_
  refine G.aload_n C dX8_clapsFor_15 1 rfl ?_
  refine gfX8_19 (i := 0) (j := 0) (v := .ref (a 4)) C rfl rfl rfl dX8_clapsFor_16 ?_
  refine G.bipush C dX8_clapsFor_19 nb_7 ?_
  refine G.iload_n C dX8_clapsFor_21 2 rfl ?_
  refine G.iadd C dX8_clapsFor_22 ?_
  refine G.iald (i := 0) (j := 4) (f := (v 4)) C rfl rfl h dX8_clapsFor_23 (fun h => ?_)
  refine G.iconst C dX8_clapsFor_24 ni_2 ?_
  refine G.icmp_ne (tgt := 34) C dX8_clapsFor_25 (by decide) h (fun h => ?_) (fun h => ?_)
  · refine G.iload_n C dX8_clapsFor_34 0 rfl ?_
    exact hR _ (Option.some.inj h) _ _ dX8_clapsFor_35
  · refine G.iconst C dX8_clapsFor_28 ni_2 ?_
    refine G.iload_n C dX8_clapsFor_29 0 rfl ?_
    refine G.imul C dX8_clapsFor_30 ?_
    refine G.goto (tgt := 35) C dX8_clapsFor_31 (by decide) ?_
    exact hR _ (Option.some.inj h) _ _ dX8_clapsFor_35
set_option maxHeartbeats 2000000 in
set_option maxRecDepth 20000 in
theorem w_X8_tapWith_L176 {X : Cx} {t : Nat → ClassId} {a : Nat → Nat} {N : Nat} {K243 : SV → Option (SV)} {r : SV} (C : gX X t (rm 4) cX8_tapWith 7 RX8) (hR : ∀ q : SV, q = r → RetV X cX8_tapWith [wModel t a q]) (hK243 : ∀ (v_243 : SV), K243 v_243 = some r → G X [wModel t a v_243] 243 [(0, .ref (a 0))] []) : ∀ (n : Nat) (x3 : Int32) (v : SV), F_X8_tapWith_L176 N K243 n x3 v = some r → G X [wModel t a v] 176 [(0, .ref (a 0)), (3, .int x3)] [] := by
  intro n
  induction n with
  | zero => intro x3 v h; exact absurd h (by simp [F_X8_tapWith_L176])
  | succ n ih =>
    intro x3 v h
    rw [F_X8_tapWith_L176] at h
    refine G.iload_n C dX8_tapWith_176 1 rfl ?_
    refine G.aload_n C dX8_tapWith_177 0 rfl ?_
    refine gfX8_19 (i := 0) (j := 0) (v := .ref (a 4)) C rfl rfl rfl dX8_tapWith_178 ?_
    refine G.iconst C dX8_tapWith_181 ni_3 ?_
    refine G.iald (i := 0) (j := 4) (f := (v 4)) C rfl rfl h dX8_tapWith_182 (fun h => ?_)
    refine G.icmp_ge (tgt := 243) C dX8_tapWith_183 (by decide) h (fun h => ?_) (fun h => ?_)
    · exact G.lvs [0] rfl (hK243 _ h)
    · refine G.aload_n C dX8_tapWith_186 0 rfl ?_
      refine gfX8_19 (i := 0) (j := 0) (v := .ref (a 4)) C rfl rfl rfl dX8_tapWith_187 ?_
      refine G.bipush C dX8_tapWith_190 nb_49 ?_
      refine G.iload_n C dX8_tapWith_192 1 rfl ?_
      refine G.iadd C dX8_tapWith_193 ?_
      refine G.iald (i := 0) (j := 4) (f := (v 4)) C rfl rfl h dX8_tapWith_194 (fun h => ?_)
      refine jn_use (fun J => ∀ (v_237 : SV), J v_237 = some r → G X [wModel t a v_237] 237 [(0, .ref (a 0)), (3, .int x3)] []) h ?_ (fun J237 hJ237 h => ?_)
      · intro v_237 h
        refine G.iinc (v := (x3 + (1 : Int32))) (lv' := [(3, .int (x3 + (1 : Int32))), (0, .ref (a 0))]) C dX8_tapWith_237 1 rfl (by rw [ni_1]) (by decide) rfl ?_
        refine G.goto (tgt := 176) C dX8_tapWith_240 (by decide) ?_
        exact G.lvs [1, 0] rfl (ih _ _ h)
      refine G.if_ne (tgt := 237) C dX8_tapWith_195 (by decide) h (fun h => ?_) (fun h => ?_)
      · exact G.lvs [0, 1] rfl (hJ237 _ h)
      · refine G.aload_n C dX8_tapWith_198 0 rfl ?_
        refine gfX8_19 (i := 0) (j := 0) (v := .ref (a 4)) C rfl rfl rfl dX8_tapWith_199 ?_
        refine G.bipush C dX8_tapWith_202 nb_43 ?_
        refine G.iload_n C dX8_tapWith_204 1 rfl ?_
        refine G.iadd C dX8_tapWith_205 ?_
        refine G.dup2 C dX8_tapWith_206 rfl rfl ?_
        refine G.iald (i := 0) (j := 4) (f := (v 4)) C rfl rfl h dX8_tapWith_207 (fun h => ?_)
        refine G.iconst C dX8_tapWith_208 ni_1 ?_
        refine G.isub C dX8_tapWith_209 ?_
        refine G.iast (i := 0) (j := 4) (f := v 4) (cs' := [wModel t a (up2 v 4 (((43 : Int32) + x3).toNatClampNeg) (((v 4) (((43 : Int32) + x3).toNatClampNeg)) - (1 : Int32)))]) C rfl rfl h dX8_tapWith_210 (suModelA_4) rfl (fun h => ?_)
        refine G.aload_n C dX8_tapWith_211 0 rfl ?_
        refine gfX8_19 (i := 0) (j := 0) (v := .ref (a 4)) C rfl rfl rfl dX8_tapWith_212 ?_
        refine G.bipush C dX8_tapWith_215 nb_49 ?_
        refine G.iload_n C dX8_tapWith_217 1 rfl ?_
        refine G.iadd C dX8_tapWith_218 ?_
        refine G.aload_n C dX8_tapWith_219 0 rfl ?_
        refine gfX8_19 (i := 0) (j := 0) (v := .ref (a 4)) C rfl rfl rfl dX8_tapWith_220 ?_
        refine G.bipush C dX8_tapWith_223 nb_43 ?_
        refine G.iload_n C dX8_tapWith_225 1 rfl ?_
        refine G.iadd C dX8_tapWith_226 ?_
        refine G.iald (i := 0) (j := 4) (f := (upd (v 4) (((43 : Int32) + x3).toNatClampNeg) (((v 4) (((43 : Int32) + x3).toNatClampNeg)) - (1 : Int32)))) C rfl rfl h dX8_tapWith_227 (fun h => ?_)
        refine jn_use (fun J => ∀ (s236_0 : Int32), J s236_0 = some r → G X [wModel t a (up2 v 4 (((43 : Int32) + x3).toNatClampNeg) (((v 4) (((43 : Int32) + x3).toNatClampNeg)) - (1 : Int32)))] 236 [(0, .ref (a 0)), (3, .int x3)] [.int s236_0, .int ((49 : Int32) + x3), .ref (a 4)]) h ?_ (fun J236 hJ236 h => ?_)
        · intro s236_0 h
          refine G.iast (i := 0) (j := 4) (f := (up2 v 4 (((43 : Int32) + x3).toNatClampNeg) (((v 4) (((43 : Int32) + x3).toNatClampNeg)) - (1 : Int32))) 4) (cs' := [wModel t a (up2 (up2 v 4 (((43 : Int32) + x3).toNatClampNeg) (((v 4) (((43 : Int32) + x3).toNatClampNeg)) - (1 : Int32))) 4 (((49 : Int32) + x3).toNatClampNeg) s236_0)]) C rfl rfl h dX8_tapWith_236 (suModelA_4) rfl (fun h => ?_)
          exact G.lvs [0, 1] rfl (hJ237 _ h)
        refine G.if_ne (tgt := 235) C dX8_tapWith_228 (by decide) h (fun h => ?_) (fun h => ?_)
        · refine G.iconst C dX8_tapWith_235 ni_0 ?_
          exact G.lvs [0, 1] rfl (hJ236 _ h)
        · refine G.iconst C dX8_tapWith_231 ni_2 ?_
          refine G.goto (tgt := 236) C dX8_tapWith_232 (by decide) ?_
          exact G.lvs [0, 1] rfl (hJ236 _ h)
set_option maxHeartbeats 2000000 in
set_option maxRecDepth 20000 in
theorem w_X8_tapWith_L36 {X : Cx} {t : Nat → ClassId} {a : Nat → Nat} {N : Nat} {x1 : Int32} {x2 : Int32} {x3 : Int32} {x4 : Int32} {K156 : SV → Option (SV)} {r : SV} (C : gX X t (rm 4) cX8_tapWith 7 RX8) (hR : ∀ q : SV, q = r → RetV X cX8_tapWith [wModel t a q]) (hK156 : ∀ (v_156 : SV), K156 v_156 = some r → G X [wModel t a v_156] 156 [(0, .ref (a 0)), (1, .int x1), (2, .int x2), (3, .int x3)] []) : ∀ (n : Nat) (x5 : Int32) (v : SV), F_X8_tapWith_L36 N x1 x2 x3 x4 K156 n x5 v = some r → G X [wModel t a v] 36 [(0, .ref (a 0)), (1, .int x1), (2, .int x2), (3, .int x3), (4, .int x4), (5, .int x5)] [] := by
  intro n
  induction n with
  | zero => intro x5 v h; exact absurd h (by simp [F_X8_tapWith_L36])
  | succ n ih =>
    intro x5 v h
    rw [F_X8_tapWith_L36] at h
    refine G.iload C dX8_tapWith_36 5 rfl ?_
    refine G.aload_n C dX8_tapWith_38 0 rfl ?_
    refine gfX8_19 (i := 0) (j := 0) (v := .ref (a 4)) C rfl rfl rfl dX8_tapWith_39 ?_
    refine G.iconst C dX8_tapWith_42 ni_3 ?_
    refine G.iald (i := 0) (j := 4) (f := (v 4)) C rfl rfl h dX8_tapWith_43 (fun h => ?_)
    refine G.icmp_ge (tgt := 156) C dX8_tapWith_44 (by decide) h (fun h => ?_) (fun h => ?_)
    · exact G.lvs [0, 1, 2, 3] rfl (hK156 _ h)
    · refine G.aload_n C dX8_tapWith_47 0 rfl ?_
      refine gfX8_19 (i := 0) (j := 0) (v := .ref (a 4)) C rfl rfl rfl dX8_tapWith_48 ?_
      refine G.bipush C dX8_tapWith_51 nb_49 ?_
      refine G.iload C dX8_tapWith_53 5 rfl ?_
      refine G.iadd C dX8_tapWith_55 ?_
      refine G.iload C dX8_tapWith_56 4 rfl ?_
      refine G.iload C dX8_tapWith_58 5 rfl ?_
      obtain ⟨q60, hq60, h⟩ := bind_some' h
      refine G.csI (cs' := [wModel t a v]) C (c_X8_has hq60) [] rfl rfl rfl rfl k_1288 cal_X8_has (fit_rm (by decide) (by decide)) rfl (Nat.le_of_ble_eq_true rfl) dX8_tapWith_60 ?_
      refine jn_use (fun J => ∀ (s80_0 : Int32), J s80_0 = some r → G X [wModel t a v] 80 [(0, .ref (a 0)), (1, .int x1), (2, .int x2), (3, .int x3), (4, .int x4), (5, .int x5)] [.int s80_0, .int ((49 : Int32) + x5), .ref (a 4)]) h ?_ (fun J80 hJ80 h => ?_)
      · intro s80_0 h
        refine G.iast (i := 0) (j := 4) (f := v 4) (cs' := [wModel t a (up2 v 4 (((49 : Int32) + x5).toNatClampNeg) s80_0)]) C rfl rfl h dX8_tapWith_80 (suModelA_4) rfl (fun h => ?_)
        refine G.aload_n C dX8_tapWith_81 0 rfl ?_
        refine gfX8_19 (i := 0) (j := 0) (v := .ref (a 4)) C rfl rfl rfl dX8_tapWith_82 ?_
        refine G.bipush C dX8_tapWith_85 nb_7 ?_
        refine G.iload_n C dX8_tapWith_87 1 rfl ?_
        refine G.iadd C dX8_tapWith_88 ?_
        refine G.iald (i := 0) (j := 4) (f := (upd (v 4) (((49 : Int32) + x5).toNatClampNeg) s80_0)) C rfl rfl h dX8_tapWith_89 (fun h => ?_)
        refine G.iconst C dX8_tapWith_90 ni_5 ?_
        refine jn_use (fun J => ∀ (v_150 : SV), J v_150 = some r → G X [wModel t a v_150] 150 [(0, .ref (a 0)), (1, .int x1), (2, .int x2), (3, .int x3), (4, .int x4), (5, .int x5)] []) h ?_ (fun J150 hJ150 h => ?_)
        · intro v_150 h
          refine G.iinc (v := (x5 + (1 : Int32))) (lv' := [(5, .int (x5 + (1 : Int32))), (0, .ref (a 0)), (1, .int x1), (2, .int x2), (3, .int x3), (4, .int x4)]) C dX8_tapWith_150 5 rfl (by rw [ni_1]) (by decide) rfl ?_
          refine G.goto (tgt := 36) C dX8_tapWith_153 (by decide) ?_
          exact G.lvs [1, 2, 3, 4, 5, 0] rfl (ih _ _ h)
        refine G.icmp_ne (tgt := 150) C dX8_tapWith_91 (by decide) h (fun h => ?_) (fun h => ?_)
        · exact G.lvs [0, 1, 2, 3, 4, 5] rfl (hJ150 _ h)
        · refine G.aload_n C dX8_tapWith_94 0 rfl ?_
          refine gfX8_19 (i := 0) (j := 0) (v := .ref (a 4)) C rfl rfl rfl dX8_tapWith_95 ?_
          refine G.bipush C dX8_tapWith_98 nb_49 ?_
          refine G.iload C dX8_tapWith_100 5 rfl ?_
          refine G.iadd C dX8_tapWith_102 ?_
          refine G.iald (i := 0) (j := 4) (f := (upd (v 4) (((49 : Int32) + x5).toNatClampNeg) s80_0)) C rfl rfl h dX8_tapWith_103 (fun h => ?_)
          refine G.if_ne (tgt := 150) C dX8_tapWith_104 (by decide) h (fun h => ?_) (fun h => ?_)
          · exact G.lvs [0, 1, 2, 3, 4, 5] rfl (hJ150 _ h)
          · refine G.aload_n C dX8_tapWith_107 0 rfl ?_
            refine gfX8_19 (i := 0) (j := 0) (v := .ref (a 4)) C rfl rfl rfl dX8_tapWith_108 ?_
            refine G.bipush C dX8_tapWith_111 nb_43 ?_
            refine G.iload C dX8_tapWith_113 5 rfl ?_
            refine G.iadd C dX8_tapWith_115 ?_
            refine G.iald (i := 0) (j := 4) (f := (upd (v 4) (((49 : Int32) + x5).toNatClampNeg) s80_0)) C rfl rfl h dX8_tapWith_116 (fun h => ?_)
            refine G.aload_n C dX8_tapWith_117 0 rfl ?_
            refine gfX8_19 (i := 0) (j := 0) (v := .ref (a 4)) C rfl rfl rfl dX8_tapWith_118 ?_
            refine G.iconst C dX8_tapWith_121 ni_1 ?_
            refine G.iald (i := 0) (j := 4) (f := (upd (v 4) (((49 : Int32) + x5).toNatClampNeg) s80_0)) C rfl rfl h dX8_tapWith_122 (fun h => ?_)
            refine G.iadd C dX8_tapWith_123 ?_
            refine G.istore (lv' := [(6, .int (((upd (v 4) (((49 : Int32) + x5).toNatClampNeg) s80_0) (((43 : Int32) + x5).toNatClampNeg)) + ((upd (v 4) (((49 : Int32) + x5).toNatClampNeg) s80_0) ((1 : Int32).toNatClampNeg)))), (0, .ref (a 0)), (1, .int x1), (2, .int x2), (3, .int x3), (4, .int x4), (5, .int x5)]) C dX8_tapWith_124 (by decide) rfl ?_
            refine G.aload_n C dX8_tapWith_126 1 rfl ?_
            refine gfX8_19 (i := 0) (j := 0) (v := .ref (a 4)) C rfl rfl rfl dX8_tapWith_127 ?_
            refine G.bipush C dX8_tapWith_130 nb_43 ?_
            refine G.iload C dX8_tapWith_132 6 rfl ?_
            refine G.iadd C dX8_tapWith_134 ?_
            refine G.iload C dX8_tapWith_135 0 rfl ?_
            refine G.bipush C dX8_tapWith_137 nb_99 ?_
            refine jn_use (fun J => ∀ (s149_0 : Int32), J s149_0 = some r → G X [wModel t a (up2 v 4 (((49 : Int32) + x5).toNatClampNeg) s80_0)] 149 [(0, .ref (a 0)), (1, .int x1), (2, .int x2), (3, .int x3), (4, .int x4), (5, .int x5)] [.int s149_0, .int ((43 : Int32) + x5), .ref (a 4)]) h ?_ (fun J149 hJ149 h => ?_)
            · intro s149_0 h
              refine G.iast (i := 0) (j := 4) (f := (up2 v 4 (((49 : Int32) + x5).toNatClampNeg) s80_0) 4) (cs' := [wModel t a (up2 (up2 v 4 (((49 : Int32) + x5).toNatClampNeg) s80_0) 4 (((43 : Int32) + x5).toNatClampNeg) s149_0)]) C rfl rfl h dX8_tapWith_149 (suModelA_4) rfl (fun h => ?_)
              exact G.lvs [0, 1, 2, 3, 4, 5] rfl (hJ150 _ h)
            refine G.icmp_le (tgt := 147) C dX8_tapWith_139 (by decide) h (fun h => ?_) (fun h => ?_)
            · refine G.iload C dX8_tapWith_147 0 rfl ?_
              exact G.lvs [1, 2, 3, 4, 5, 6] rfl (hJ149 _ h)
            · refine G.bipush C dX8_tapWith_142 nb_99 ?_
              refine G.goto (tgt := 149) C dX8_tapWith_144 (by decide) ?_
              exact G.lvs [1, 2, 3, 4, 5, 6] rfl (hJ149 _ h)
      refine G.if_eq (tgt := 70) C dX8_tapWith_63 (by decide) h (fun h => ?_) (fun h => ?_)
      · refine G.aload_n C dX8_tapWith_70 0 rfl ?_
        refine gfX8_19 (i := 0) (j := 0) (v := .ref (a 4)) C rfl rfl rfl dX8_tapWith_71 ?_
        refine G.bipush C dX8_tapWith_74 nb_49 ?_
        refine G.iload C dX8_tapWith_76 5 rfl ?_
        refine G.iadd C dX8_tapWith_78 ?_
        refine G.iald (i := 0) (j := 4) (f := (v 4)) C rfl rfl h dX8_tapWith_79 (fun h => ?_)
        exact G.lvs [0, 1, 2, 3, 4, 5] rfl (hJ80 _ h)
      · refine G.iconst C dX8_tapWith_66 ni_1 ?_
        refine G.goto (tgt := 80) C dX8_tapWith_67 (by decide) ?_
        exact G.lvs [0, 1, 2, 3, 4, 5] rfl (hJ80 _ h)
set_option maxHeartbeats 2000000 in
set_option maxRecDepth 20000 in
theorem c_X8_tapWith {t : Nat → ClassId} {a : Nat → Nat} {N : Nat} {v : SV} {x1 : Int32} {x2 : Int32} {r : SV} (h : F_X8_tapWith N v x1 x2 = some r) : CV t yX8_tapWith cX8_tapWith 7 none (rm 4) [.ref (a 0), .int x1, .int x2] [wModel t a v] [wModel t a r] := by
  refine CV.of (own := RX8) (by decide) rfl (Nat.le_of_ble_eq_true rfl) (fun X C hR0 => ?_)
  have hR : ∀ q : SV, q = r → RetV X cX8_tapWith [wModel t a q] := by intro q e; subst e; exact hR0
  show G X [wModel t a v] 0 [(0, .ref (a 0)), (1, .int x1), (2, .int x2)] []
  unfold F_X8_tapWith at h
  refine G.iload_n C dX8_tapWith_0 1 rfl ?_
  refine jn_use (fun J => ∀ (v_174 : SV), J v_174 = some r → G X [wModel t a v_174] 174 [(0, .ref (a 0))] []) h ?_ (fun J174 hJ174 h => ?_)
  · intro v_174 h
    refine G.iconst C dX8_tapWith_174 ni_0 ?_
    refine G.istore_n (lv' := [(3, .int (0 : Int32)), (0, .ref (a 0))]) C dX8_tapWith_175 (by decide) rfl ?_
    refine G.lvs [1, 0] rfl (w_X8_tapWith_L176 C hR (fun v_243 h => ?_) N _ _ h)
    · refine G.aload_n C dX8_tapWith_243 0 rfl ?_
      refine gfX8_19 (i := 0) (j := 0) (v := .ref (a 4)) C rfl rfl rfl dX8_tapWith_244 ?_
      refine G.iconst C dX8_tapWith_247 ni_4 ?_
      refine G.dup2 C dX8_tapWith_248 rfl rfl ?_
      refine G.iald (i := 0) (j := 4) (f := (v_243 4)) C rfl rfl h dX8_tapWith_249 (fun h => ?_)
      refine G.iconst C dX8_tapWith_250 ni_1 ?_
      refine G.iadd C dX8_tapWith_251 ?_
      refine G.iast (i := 0) (j := 4) (f := v_243 4) (cs' := [wModel t a (up2 v_243 4 ((4 : Int32).toNatClampNeg) (((v_243 4) ((4 : Int32).toNatClampNeg)) + (1 : Int32)))]) C rfl rfl h dX8_tapWith_252 (suModelA_4) rfl (fun h => ?_)
      exact hR _ (Option.some.inj h) _ _ dX8_tapWith_253
  refine G.if_lt (tgt := 174) C dX8_tapWith_1 (by decide) h (fun h => ?_) (fun h => ?_)
  · exact G.lvs [0] rfl (hJ174 _ h)
  · refine G.aload_n C dX8_tapWith_4 0 rfl ?_
    refine G.iload_n C dX8_tapWith_5 1 rfl ?_
    obtain ⟨q6, hq6, h⟩ := bind_some' h
    refine G.cvI (i0 := 0) (j0 := 0) (cs' := [wModel t a v]) C (c_X8_isComingBack (a := a) hq6) [0] rfl rfl rfl rfl rfl rfl rfl k_1272 cal_X8_isComingBack (fit_rm (by decide) (by decide)) rfl (Nat.le_of_ble_eq_true rfl) dX8_tapWith_6 ?_
    refine G.istore_n (lv' := [(3, .int q6), (0, .ref (a 0)), (1, .int x1), (2, .int x2)]) C dX8_tapWith_9 (by decide) rfl ?_
    refine G.aload_n C dX8_tapWith_10 1 rfl ?_
    refine G.iload_n C dX8_tapWith_11 2 rfl ?_
    obtain ⟨q12, hq12, h⟩ := bind_some' h
    refine G.cvI (i0 := 0) (j0 := 0) (cs' := [wModel t a v]) C (c_X8_pleasedBy (a := a) hq12) [0] rfl rfl rfl rfl rfl rfl rfl k_1280 cal_X8_pleasedBy (fit_rm (by decide) (by decide)) rfl (Nat.le_of_ble_eq_true rfl) dX8_tapWith_12 ?_
    refine G.istore (lv' := [(4, .int q12), (3, .int q6), (0, .ref (a 0)), (1, .int x1), (2, .int x2)]) C dX8_tapWith_15 (by decide) rfl ?_
    refine G.aload_n C dX8_tapWith_17 2 rfl ?_
    refine gfX8_19 (i := 0) (j := 0) (v := .ref (a 4)) C rfl rfl rfl dX8_tapWith_18 ?_
    refine G.iconst C dX8_tapWith_21 ni_5 ?_
    refine G.dup2 C dX8_tapWith_22 rfl rfl ?_
    refine G.iald (i := 0) (j := 4) (f := (v 4)) C rfl rfl h dX8_tapWith_23 (fun h => ?_)
    refine G.aload_n C dX8_tapWith_24 2 rfl ?_
    refine G.iload_n C dX8_tapWith_25 3 rfl ?_
    refine G.iload C dX8_tapWith_26 0 rfl ?_
    obtain ⟨q28, hq28, h⟩ := bind_some' h
    refine G.cvI (i0 := 0) (j0 := 0) (cs' := [wModel t a v]) C (c_X8_clapsFor (a := a) hq28) [0] rfl rfl rfl rfl rfl rfl rfl k_1284 cal_X8_clapsFor (fit_rm (by decide) (by decide)) rfl (Nat.le_of_ble_eq_true rfl) dX8_tapWith_28 ?_
    refine G.iadd C dX8_tapWith_31 ?_
    refine G.iast (i := 0) (j := 4) (f := v 4) (cs' := [wModel t a (up2 v 4 ((5 : Int32).toNatClampNeg) (((v 4) ((5 : Int32).toNatClampNeg)) + q28))]) C rfl rfl h dX8_tapWith_32 (suModelA_4) rfl (fun h => ?_)
    refine G.iconst C dX8_tapWith_33 ni_0 ?_
    refine G.istore (lv' := [(5, .int (0 : Int32)), (4, .int q12), (3, .int q6), (0, .ref (a 0)), (1, .int x1), (2, .int x2)]) C dX8_tapWith_34 (by decide) rfl ?_
    refine G.lvs [3, 4, 5, 2, 1, 0] rfl (w_X8_tapWith_L36 C hR (fun v_156 h => ?_) N _ _ h)
    · refine G.aload_n C dX8_tapWith_156 0 rfl ?_
      refine G.iload_n C dX8_tapWith_157 1 rfl ?_
      obtain ⟨q158, hq158, h⟩ := bind_some' h
      refine G.cvV (i0 := 0) (j0 := 0) (cs' := [wModel t a q158]) C (c_X8_takeOff (a := a) hq158) [0] rfl rfl rfl rfl rfl rfl rfl k_1291 cal_X8_takeOff (fit_rm (by decide) (by decide)) rfl (Nat.le_of_ble_eq_true rfl) dX8_tapWith_158 ?_
      refine G.iload_n C dX8_tapWith_161 3 rfl ?_
      refine G.if_eq (tgt := 174) C dX8_tapWith_162 (by decide) h (fun h => ?_) (fun h => ?_)
      · exact G.lvs [0] rfl (hJ174 _ h)
      · refine G.iload_n C dX8_tapWith_165 2 rfl ?_
        refine G.if_eq (tgt := 174) C dX8_tapWith_166 (by decide) h (fun h => ?_) (fun h => ?_)
        · exact G.lvs [0] rfl (hJ174 _ h)
        · refine G.aload_n C dX8_tapWith_169 0 rfl ?_
          refine G.iload_n C dX8_tapWith_170 1 rfl ?_
          obtain ⟨q171, hq171, h⟩ := bind_some' h
          refine G.cvV (i0 := 0) (j0 := 0) (cs' := [wModel t a q171]) C (c_X8_layBehind (a := a) hq171) [0] rfl rfl rfl rfl rfl rfl rfl k_1299 cal_X8_layBehind (fit_rm (by decide) (by decide)) rfl (Nat.le_of_ble_eq_true rfl) dX8_tapWith_171 ?_
          exact G.lvs [0] rfl (hJ174 _ h)
set_option maxHeartbeats 2000000 in
set_option maxRecDepth 20000 in
theorem c_X8_oneTap {t : Nat → ClassId} {a : Nat → Nat} {N : Nat} {v : SV} {r : SV} (h : F_X8_oneTap N v = some r) : CV t yX8_oneTap cX8_oneTap 1 none (rm 5) [.ref (a 0)] [wModel t a v] [wModel t a r] := by
  refine CV.of (own := RX8) (by decide) rfl (Nat.le_of_ble_eq_true rfl) (fun X C hR0 => ?_)
  have hR : ∀ q : SV, q = r → RetV X cX8_oneTap [wModel t a q] := by intro q e; subst e; exact hR0
  show G X [wModel t a v] 0 [(0, .ref (a 0))] []
  unfold F_X8_oneTap at h
  refine G.aload_n C dX8_oneTap_0 0 rfl ?_
  refine G.aload_n C dX8_oneTap_1 0 rfl ?_
  obtain ⟨q2, hq2, h⟩ := bind_some' h
  refine G.cvI (i0 := 0) (j0 := 0) (cs' := [wModel t a v]) C (c_X8_nextThing (a := a) hq2) [0] rfl rfl rfl rfl rfl rfl rfl k_1252 cal_X8_nextThing (fit_rm (by decide) (by decide)) rfl (Nat.le_of_ble_eq_true rfl) dX8_oneTap_2 ?_
  refine G.iconst C dX8_oneTap_5 ni_1 ?_
  obtain ⟨q6, hq6, h⟩ := bind_some' h
  refine G.cvV (i0 := 0) (j0 := 0) (cs' := [wModel t a q6]) C (c_X8_tapWith (a := a) hq6) [0] rfl rfl rfl rfl rfl rfl rfl k_1268 cal_X8_tapWith (fit_rm (by decide) (by decide)) rfl (Nat.le_of_ble_eq_true rfl) dX8_oneTap_6 ?_
  exact hR _ (Option.some.inj h) _ _ dX8_oneTap_9
set_option maxHeartbeats 2000000 in
set_option maxRecDepth 20000 in
theorem w_X8_note_L51 {X : Cx} {t : Nat → ClassId} {a : Nat → Nat} {N : Nat} {K83 : SV → Option (SV)} {r : SV} (C : gX X t (rm 1) cX8_note 2 RX8) (hR : ∀ q : SV, q = r → RetV X cX8_note [wModel t a q]) (hK83 : ∀ (v_83 : SV), K83 v_83 = some r → G X [wModel t a v_83] 83 [(0, .ref (a 0))] []) : ∀ (n : Nat) (x1 : Int32) (v : SV), F_X8_note_L51 N K83 n x1 v = some r → G X [wModel t a v] 51 [(0, .ref (a 0)), (1, .int x1)] [] := by
  intro n
  induction n with
  | zero => intro x1 v h; exact absurd h (by simp [F_X8_note_L51])
  | succ n ih =>
    intro x1 v h
    rw [F_X8_note_L51] at h
    refine G.iload_n C dX8_note_51 1 rfl ?_
    refine G.bipush C dX8_note_52 nb_55 ?_
    refine G.icmp_ge (tgt := 83) C dX8_note_54 (by decide) h (fun h => ?_) (fun h => ?_)
    · exact G.lvs [0] rfl (hK83 _ h)
    · refine G.aload_n C dX8_note_57 0 rfl ?_
      refine gfX8_31 (i := 0) (j := 0) (v := .ref (a 8)) C rfl rfl rfl dX8_note_58 ?_
      refine G.bipush C dX8_note_61 nb_55 ?_
      refine G.aload_n C dX8_note_63 0 rfl ?_
      refine gfX8_145 (i := 0) (j := 0) (v := .int (v 0 17)) C rfl rfl rfl dX8_note_64 ?_
      refine G.imul C dX8_note_67 ?_
      refine G.iload_n C dX8_note_68 1 rfl ?_
      refine G.iadd C dX8_note_69 ?_
      refine G.aload_n C dX8_note_70 0 rfl ?_
      refine gfX8_19 (i := 0) (j := 0) (v := .ref (a 4)) C rfl rfl rfl dX8_note_71 ?_
      refine G.iload_n C dX8_note_74 1 rfl ?_
      refine G.iald (i := 0) (j := 4) (f := (v 4)) C rfl rfl h dX8_note_75 (fun h => ?_)
      refine G.iast (i := 0) (j := 8) (f := v 8) (cs' := [wModel t a (up2 v 8 ((((55 : Int32) * (v 0 17)) + x1).toNatClampNeg) ((v 4) (x1.toNatClampNeg)))]) C rfl rfl h dX8_note_76 (suModelA_8) rfl (fun h => ?_)
      refine G.iinc (v := (x1 + (1 : Int32))) (lv' := [(1, .int (x1 + (1 : Int32))), (0, .ref (a 0))]) C dX8_note_77 1 rfl (by rw [ni_1]) (by decide) rfl ?_
      refine G.goto (tgt := 51) C dX8_note_80 (by decide) ?_
      exact G.lvs [1, 0] rfl (ih _ _ h)
set_option maxHeartbeats 2000000 in
set_option maxRecDepth 20000 in
theorem w_X8_note_L11 {X : Cx} {t : Nat → ClassId} {a : Nat → Nat} {N : Nat} {K39 : SV → Option (SV)} {r : SV} (C : gX X t (rm 1) cX8_note 2 RX8) (hR : ∀ q : SV, q = r → RetV X cX8_note [wModel t a q]) (hK39 : ∀ (v_39 : SV), K39 v_39 = some r → G X [wModel t a v_39] 39 [(0, .ref (a 0))] []) : ∀ (n : Nat) (x1 : Int32) (v : SV), F_X8_note_L11 N K39 n x1 v = some r → G X [wModel t a v] 11 [(0, .ref (a 0)), (1, .int x1)] [] := by
  intro n
  induction n with
  | zero => intro x1 v h; exact absurd h (by simp [F_X8_note_L11])
  | succ n ih =>
    intro x1 v h
    rw [F_X8_note_L11] at h
    refine G.iload_n C dX8_note_11 1 rfl ?_
    refine G.sipush C dX8_note_12 ns_1265 ?_
    refine G.icmp_ge (tgt := 39) C dX8_note_15 (by decide) h (fun h => ?_) (fun h => ?_)
    · exact G.lvs [0] rfl (hK39 _ h)
    · refine G.aload_n C dX8_note_18 0 rfl ?_
      refine gfX8_31 (i := 0) (j := 0) (v := .ref (a 8)) C rfl rfl rfl dX8_note_19 ?_
      refine G.iload_n C dX8_note_22 1 rfl ?_
      refine G.aload_n C dX8_note_23 0 rfl ?_
      refine gfX8_31 (i := 0) (j := 0) (v := .ref (a 8)) C rfl rfl rfl dX8_note_24 ?_
      refine G.iload_n C dX8_note_27 1 rfl ?_
      refine G.bipush C dX8_note_28 nb_55 ?_
      refine G.iadd C dX8_note_30 ?_
      refine G.iald (i := 0) (j := 8) (f := (v 8)) C rfl rfl h dX8_note_31 (fun h => ?_)
      refine G.iast (i := 0) (j := 8) (f := v 8) (cs' := [wModel t a (up2 v 8 (x1.toNatClampNeg) ((v 8) ((x1 + (55 : Int32)).toNatClampNeg)))]) C rfl rfl h dX8_note_32 (suModelA_8) rfl (fun h => ?_)
      refine G.iinc (v := (x1 + (1 : Int32))) (lv' := [(1, .int (x1 + (1 : Int32))), (0, .ref (a 0))]) C dX8_note_33 1 rfl (by rw [ni_1]) (by decide) rfl ?_
      refine G.goto (tgt := 11) C dX8_note_36 (by decide) ?_
      exact G.lvs [1, 0] rfl (ih _ _ h)
set_option maxHeartbeats 2000000 in
set_option maxRecDepth 20000 in
theorem c_X8_note {t : Nat → ClassId} {a : Nat → Nat} {N : Nat} {v : SV} {r : SV} (h : F_X8_note N v = some r) : CV t yX8_note cX8_note 2 none (rm 1) [.ref (a 0)] [wModel t a v] [wModel t a r] := by
  refine CV.of (own := RX8) (by decide) rfl (Nat.le_of_ble_eq_true rfl) (fun X C hR0 => ?_)
  have hR : ∀ q : SV, q = r → RetV X cX8_note [wModel t a q] := by intro q e; subst e; exact hR0
  show G X [wModel t a v] 0 [(0, .ref (a 0))] []
  unfold F_X8_note at h
  refine G.aload_n C dX8_note_0 0 rfl ?_
  refine gfX8_145 (i := 0) (j := 0) (v := .int (v 0 17)) C rfl rfl rfl dX8_note_1 ?_
  refine G.bipush C dX8_note_4 nb_24 ?_
  refine jn_use (fun J => ∀ (v_49 : SV), J v_49 = some r → G X [wModel t a v_49] 49 [(0, .ref (a 0))] []) h ?_ (fun J49 hJ49 h => ?_)
  · intro v_49 h
    refine G.iconst C dX8_note_49 ni_0 ?_
    refine G.istore_n (lv' := [(1, .int (0 : Int32)), (0, .ref (a 0))]) C dX8_note_50 (by decide) rfl ?_
    refine G.lvs [1, 0] rfl (w_X8_note_L51 C hR (fun v_83 h => ?_) N _ _ h)
    · refine G.aload_n C dX8_note_83 0 rfl ?_
      refine G.dup C dX8_note_84 rfl ?_
      refine gfX8_145 (i := 0) (j := 0) (v := .int (v_83 0 17)) C rfl rfl rfl dX8_note_85 ?_
      refine G.iconst C dX8_note_88 ni_1 ?_
      refine G.iadd C dX8_note_89 ?_
      refine pfX8_145 (i := 0) (j := 0) (cs' := [wModel t a (up2 v_83 0 17 ((v_83 0 17) + (1 : Int32)))]) C rfl rfl (Nat.le_of_ble_eq_true rfl) dX8_note_90 (suModel_17) rfl ?_
      exact hR _ (Option.some.inj h) _ _ dX8_note_93
  refine G.icmp_ne (tgt := 49) C dX8_note_6 (by decide) h (fun h => ?_) (fun h => ?_)
  · exact G.lvs [0] rfl (hJ49 _ h)
  · refine G.iconst C dX8_note_9 ni_0 ?_
    refine G.istore_n (lv' := [(1, .int (0 : Int32)), (0, .ref (a 0))]) C dX8_note_10 (by decide) rfl ?_
    refine G.lvs [1, 0] rfl (w_X8_note_L11 C hR (fun v_39 h => ?_) N _ _ h)
    · refine G.aload_n C dX8_note_39 0 rfl ?_
      refine G.dup C dX8_note_40 rfl ?_
      refine gfX8_145 (i := 0) (j := 0) (v := .int (v_39 0 17)) C rfl rfl rfl dX8_note_41 ?_
      refine G.iconst C dX8_note_44 ni_1 ?_
      refine G.isub C dX8_note_45 ?_
      refine pfX8_145 (i := 0) (j := 0) (cs' := [wModel t a (up2 v_39 0 17 ((v_39 0 17) - (1 : Int32)))]) C rfl rfl (Nat.le_of_ble_eq_true rfl) dX8_note_46 (suModel_17) rfl ?_
      exact G.lvs [0] rfl (hJ49 _ h)
set_option maxHeartbeats 2000000 in
set_option maxRecDepth 20000 in
theorem w_X8_undo_L22 {X : Cx} {t : Nat → ClassId} {a : Nat → Nat} {N : Nat} {K54 : SV → Option (Int32 × SV)} {r : Int32 × SV} (C : gX X t (rm 1) cX8_undo 2 RX8) (hR : ∀ q : Int32 × SV, q = r → RetI X cX8_undo (q.1) [wModel t a (q.2)]) (hK54 : ∀ (v_54 : SV), K54 v_54 = some r → G X [wModel t a v_54] 54 [(0, .ref (a 0))] []) : ∀ (n : Nat) (x1 : Int32) (v : SV), F_X8_undo_L22 N K54 n x1 v = some r → G X [wModel t a v] 22 [(0, .ref (a 0)), (1, .int x1)] [] := by
  intro n
  induction n with
  | zero => intro x1 v h; exact absurd h (by simp [F_X8_undo_L22])
  | succ n ih =>
    intro x1 v h
    rw [F_X8_undo_L22] at h
    refine G.iload_n C dX8_undo_22 1 rfl ?_
    refine G.bipush C dX8_undo_23 nb_55 ?_
    refine G.icmp_ge (tgt := 54) C dX8_undo_25 (by decide) h (fun h => ?_) (fun h => ?_)
    · exact G.lvs [0] rfl (hK54 _ h)
    · refine G.aload_n C dX8_undo_28 0 rfl ?_
      refine gfX8_19 (i := 0) (j := 0) (v := .ref (a 4)) C rfl rfl rfl dX8_undo_29 ?_
      refine G.iload_n C dX8_undo_32 1 rfl ?_
      refine G.aload_n C dX8_undo_33 0 rfl ?_
      refine gfX8_31 (i := 0) (j := 0) (v := .ref (a 8)) C rfl rfl rfl dX8_undo_34 ?_
      refine G.bipush C dX8_undo_37 nb_55 ?_
      refine G.aload_n C dX8_undo_39 0 rfl ?_
      refine gfX8_145 (i := 0) (j := 0) (v := .int (v 0 17)) C rfl rfl rfl dX8_undo_40 ?_
      refine G.imul C dX8_undo_43 ?_
      refine G.iload_n C dX8_undo_44 1 rfl ?_
      refine G.iadd C dX8_undo_45 ?_
      refine G.iald (i := 0) (j := 8) (f := (v 8)) C rfl rfl h dX8_undo_46 (fun h => ?_)
      refine G.iast (i := 0) (j := 4) (f := v 4) (cs' := [wModel t a (up2 v 4 (x1.toNatClampNeg) ((v 8) ((((55 : Int32) * (v 0 17)) + x1).toNatClampNeg)))]) C rfl rfl h dX8_undo_47 (suModelA_4) rfl (fun h => ?_)
      refine G.iinc (v := (x1 + (1 : Int32))) (lv' := [(1, .int (x1 + (1 : Int32))), (0, .ref (a 0))]) C dX8_undo_48 1 rfl (by rw [ni_1]) (by decide) rfl ?_
      refine G.goto (tgt := 22) C dX8_undo_51 (by decide) ?_
      exact G.lvs [1, 0] rfl (ih _ _ h)
set_option maxHeartbeats 2000000 in
set_option maxRecDepth 20000 in
theorem c_X8_undo {t : Nat → ClassId} {a : Nat → Nat} {N : Nat} {v : SV} {r : Int32 × SV} (h : F_X8_undo N v = some r) : CI t yX8_undo cX8_undo 2 (some .int) (rm 1) [.ref (a 0)] [wModel t a v] (r.1) [wModel t a (r.2)] := by
  refine CI.of (own := RX8) (by decide) rfl (Nat.le_of_ble_eq_true rfl) (fun X C hR0 => ?_)
  have hR : ∀ q : Int32 × SV, q = r → RetI X cX8_undo (q.1) [wModel t a (q.2)] := by intro q e; subst e; exact hR0
  show G X [wModel t a v] 0 [(0, .ref (a 0))] []
  unfold F_X8_undo at h
  refine G.aload_n C dX8_undo_0 0 rfl ?_
  refine gfX8_145 (i := 0) (j := 0) (v := .int (v 0 17)) C rfl rfl rfl dX8_undo_1 ?_
  refine G.if_ne (tgt := 10) C dX8_undo_4 (by decide) h (fun h => ?_) (fun h => ?_)
  · refine G.aload_n C dX8_undo_10 0 rfl ?_
    refine G.dup C dX8_undo_11 rfl ?_
    refine gfX8_145 (i := 0) (j := 0) (v := .int (v 0 17)) C rfl rfl rfl dX8_undo_12 ?_
    refine G.iconst C dX8_undo_15 ni_1 ?_
    refine G.isub C dX8_undo_16 ?_
    refine pfX8_145 (i := 0) (j := 0) (cs' := [wModel t a (up2 v 0 17 ((v 0 17) - (1 : Int32)))]) C rfl rfl (Nat.le_of_ble_eq_true rfl) dX8_undo_17 (suModel_17) rfl ?_
    refine G.iconst C dX8_undo_20 ni_0 ?_
    refine G.istore_n (lv' := [(1, .int (0 : Int32)), (0, .ref (a 0))]) C dX8_undo_21 (by decide) rfl ?_
    refine G.lvs [1, 0] rfl (w_X8_undo_L22 C hR (fun v_54 h => ?_) N _ _ h)
    · refine G.aload_n C dX8_undo_54 0 rfl ?_
      refine gfX8_145 (i := 0) (j := 0) (v := .int (v_54 0 17)) C rfl rfl rfl dX8_undo_55 ?_
      exact hR _ (Option.some.inj h) _ _ dX8_undo_58
  · refine G.ldc C k_1238 dX8_undo_7 ?_
    exact hR _ (Option.some.inj h) _ _ dX8_undo_9
set_option maxHeartbeats 2000000 in
set_option maxRecDepth 20000 in
theorem w_X8_taps_L44 {X : Cx} {t : Nat → ClassId} {a : Nat → Nat} {N : Nat} {x1 : Int32} {K63 : SV → Option (Int32 × SV)} {r : Int32 × SV} (C : gX X t (rm 6) cX8_taps 3 RX8) (hR : ∀ q : Int32 × SV, q = r → RetI X cX8_taps (q.1) [wModel t a (q.2)]) (hK63 : ∀ (v_63 : SV), K63 v_63 = some r → G X [wModel t a v_63] 63 [(0, .ref (a 0))] []) : ∀ (n : Nat) (x2 : Int32) (v : SV), F_X8_taps_L44 N x1 K63 n x2 v = some r → G X [wModel t a v] 44 [(0, .ref (a 0)), (1, .int x1), (2, .int x2)] [] := by
  intro n
  induction n with
  | zero => intro x2 v h; exact absurd h (by simp [F_X8_taps_L44])
  | succ n ih =>
    intro x2 v h
    rw [F_X8_taps_L44] at h
    refine G.iload_n C dX8_taps_44 2 rfl ?_
    refine G.iload_n C dX8_taps_45 1 rfl ?_
    refine G.icmp_ge (tgt := 63) C dX8_taps_46 (by decide) h (fun h => ?_) (fun h => ?_)
    · exact G.lvs [0] rfl (hK63 _ h)
    · refine G.aload_n C dX8_taps_49 0 rfl ?_
      obtain ⟨q50, hq50, h⟩ := bind_some' h
      refine G.cvV (i0 := 0) (j0 := 0) (cs' := [wModel t a q50]) C (c_X8_note (a := a) hq50) [0] rfl rfl rfl rfl rfl rfl rfl k_1244 cal_X8_note (fit_rm (by decide) (by decide)) rfl (Nat.le_of_ble_eq_true rfl) dX8_taps_50 ?_
      refine G.aload_n C dX8_taps_53 0 rfl ?_
      obtain ⟨q54, hq54, h⟩ := bind_some' h
      refine G.cvV (i0 := 0) (j0 := 0) (cs' := [wModel t a q54]) C (c_X8_oneTap (a := a) hq54) [0] rfl rfl rfl rfl rfl rfl rfl k_1248 cal_X8_oneTap (fit_rm (by decide) (by decide)) rfl (Nat.le_of_ble_eq_true rfl) dX8_taps_54 ?_
      refine G.iinc (v := (x2 + (1 : Int32))) (lv' := [(2, .int (x2 + (1 : Int32))), (0, .ref (a 0)), (1, .int x1)]) C dX8_taps_57 2 rfl (by rw [ni_1]) (by decide) rfl ?_
      refine G.goto (tgt := 44) C dX8_taps_60 (by decide) ?_
      exact G.lvs [1, 2, 0] rfl (ih _ _ h)
set_option maxHeartbeats 2000000 in
set_option maxRecDepth 20000 in
theorem c_X8_taps {t : Nat → ClassId} {a : Nat → Nat} {N : Nat} {v : SV} {x1 : Int32} {r : Int32 × SV} (h : F_X8_taps N v x1 = some r) : CI t yX8_taps cX8_taps 3 (some .int) (rm 6) [.ref (a 0), .int x1] [wModel t a v] (r.1) [wModel t a (r.2)] := by
  refine CI.of (own := RX8) (by decide) rfl (Nat.le_of_ble_eq_true rfl) (fun X C hR0 => ?_)
  have hR : ∀ q : Int32 × SV, q = r → RetI X cX8_taps (q.1) [wModel t a (q.2)] := by intro q e; subst e; exact hR0
  show G X [wModel t a v] 0 [(0, .ref (a 0)), (1, .int x1)] []
  unfold F_X8_taps at h
  refine G.aload_n C dX8_taps_0 0 rfl ?_
  refine gfX8_141 (i := 0) (j := 0) (v := .int (v 0 4)) C rfl rfl rfl dX8_taps_1 ?_
  refine G.if_ne (tgt := 10) C dX8_taps_4 (by decide) h (fun h => ?_) (fun h => ?_)
  · refine G.iload_n C dX8_taps_10 1 rfl ?_
    refine G.i2l C dX8_taps_11 ?_
    refine G.lconst C dX8_taps_12 nl_1 ?_
    refine G.ldc2 C k_1243 dX8_taps_13 ?_
    obtain ⟨q16, hq16, h⟩ := bind_some' h
    refine G.csI (cs' := [wModel t a v]) C (c_X8_in hq16) [] rfl rfl rfl rfl k_1154 cal_X8_in (fit_rm (by decide) (by decide)) rfl (Nat.le_of_ble_eq_true rfl) dX8_taps_16 ?_
    refine G.if_ne (tgt := 25) C dX8_taps_19 (by decide) h (fun h => ?_) (fun h => ?_)
    · refine G.aload_n C dX8_taps_25 0 rfl ?_
      refine gfX8_19 (i := 0) (j := 0) (v := .ref (a 4)) C rfl rfl rfl dX8_taps_26 ?_
      refine G.iconst C dX8_taps_29 ni_4 ?_
      refine G.iald (i := 0) (j := 4) (f := (v 4)) C rfl rfl h dX8_taps_30 (fun h => ?_)
      refine G.iload_n C dX8_taps_31 1 rfl ?_
      refine G.iadd C dX8_taps_32 ?_
      refine G.sipush C dX8_taps_33 ns_999 ?_
      refine G.icmp_le (tgt := 42) C dX8_taps_36 (by decide) h (fun h => ?_) (fun h => ?_)
      · refine G.iconst C dX8_taps_42 ni_0 ?_
        refine G.istore_n (lv' := [(2, .int (0 : Int32)), (0, .ref (a 0)), (1, .int x1)]) C dX8_taps_43 (by decide) rfl ?_
        refine G.lvs [1, 2, 0] rfl (w_X8_taps_L44 C hR (fun v_63 h => ?_) N _ _ h)
        · refine G.aload_n C dX8_taps_63 0 rfl ?_
          refine gfX8_19 (i := 0) (j := 0) (v := .ref (a 4)) C rfl rfl rfl dX8_taps_64 ?_
          refine G.iconst C dX8_taps_67 ni_5 ?_
          refine G.iald (i := 0) (j := 4) (f := (v_63 4)) C rfl rfl h dX8_taps_68 (fun h => ?_)
          exact hR _ (Option.some.inj h) _ _ dX8_taps_69
      · refine G.ldc C k_1188 dX8_taps_39 ?_
        exact hR _ (Option.some.inj h) _ _ dX8_taps_41
    · refine G.ldc C k_1158 dX8_taps_22 ?_
      exact hR _ (Option.some.inj h) _ _ dX8_taps_24
  · refine G.ldc C k_1238 dX8_taps_7 ?_
    exact hR _ (Option.some.inj h) _ _ dX8_taps_9
set_option maxHeartbeats 2000000 in
set_option maxRecDepth 20000 in
theorem c_X8_front {t : Nat → ClassId} {a : Nat → Nat} {N : Nat} {v : SV} {x1 : Int32} {r : Int32 × SV} (h : F_X8_front N v x1 = some r) : CI t yX8_front cX8_front 3 (some .int) (rm 4) [.ref (a 0), .int x1] [wModel t a v] (r.1) [wModel t a (r.2)] := by
  refine CI.of (own := RX8) (by decide) rfl (Nat.le_of_ble_eq_true rfl) (fun X C hR0 => ?_)
  have hR : ∀ q : Int32 × SV, q = r → RetI X cX8_front (q.1) [wModel t a (q.2)] := by intro q e; subst e; exact hR0
  show G X [wModel t a v] 0 [(0, .ref (a 0)), (1, .int x1)] []
  unfold F_X8_front at h
  refine G.aload_n C dX8_front_0 0 rfl ?_
  refine G.iload_n C dX8_front_1 1 rfl ?_
  obtain ⟨q2, hq2, h⟩ := bind_some' h
  refine G.cvI (i0 := 0) (j0 := 0) (cs' := [wModel t a v]) C (c_X8_isThing (a := a) hq2) [0] rfl rfl rfl rfl rfl rfl rfl k_1307 cal_X8_isThing (fit_rm (by decide) (by decide)) rfl (Nat.le_of_ble_eq_true rfl) dX8_front_2 ?_
  refine G.if_ne (tgt := 11) C dX8_front_5 (by decide) h (fun h => ?_) (fun h => ?_)
  · refine G.aload_n C dX8_front_11 0 rfl ?_
    refine G.iload_n C dX8_front_12 1 rfl ?_
    obtain ⟨q13, hq13, h⟩ := bind_some' h
    refine G.cvI (i0 := 0) (j0 := 0) (cs' := [wModel t a v]) C (c_X8_placeOf (a := a) hq13) [0] rfl rfl rfl rfl rfl rfl rfl k_1295 cal_X8_placeOf (fit_rm (by decide) (by decide)) rfl (Nat.le_of_ble_eq_true rfl) dX8_front_13 ?_
    refine G.istore_n (lv' := [(2, .int q13), (0, .ref (a 0)), (1, .int x1)]) C dX8_front_16 (by decide) rfl ?_
    refine G.iload_n C dX8_front_17 0 rfl ?_
    refine G.if_ge (tgt := 24) C dX8_front_18 (by decide) h (fun h => ?_) (fun h => ?_)
    · refine G.aload_n C dX8_front_24 1 rfl ?_
      obtain ⟨q25, hq25, h⟩ := bind_some' h
      refine G.cvV (i0 := 0) (j0 := 0) (cs' := [wModel t a q25]) C (c_X8_note (a := a) hq25) [0] rfl rfl rfl rfl rfl rfl rfl k_1244 cal_X8_note (fit_rm (by decide) (by decide)) rfl (Nat.le_of_ble_eq_true rfl) dX8_front_25 ?_
      refine G.aload_n C dX8_front_28 1 rfl ?_
      refine G.iload_n C dX8_front_29 2 rfl ?_
      obtain ⟨q30, hq30, h⟩ := bind_some' h
      refine G.cvV (i0 := 0) (j0 := 0) (cs' := [wModel t a q30]) C (c_X8_layFirst (a := a) hq30) [0] rfl rfl rfl rfl rfl rfl rfl k_1311 cal_X8_layFirst (fit_rm (by decide) (by decide)) rfl (Nat.le_of_ble_eq_true rfl) dX8_front_30 ?_
      refine G.iload_n C dX8_front_33 0 rfl ?_
      exact hR _ (Option.some.inj h) _ _ dX8_front_34
    · refine G.ldc C k_1238 dX8_front_21 ?_
      exact hR _ (Option.some.inj h) _ _ dX8_front_23
  · refine G.ldc C k_1158 dX8_front_8 ?_
    exact hR _ (Option.some.inj h) _ _ dX8_front_10
set_option maxHeartbeats 2000000 in
set_option maxRecDepth 20000 in
theorem c_X8_off {t : Nat → ClassId} {a : Nat → Nat} {N : Nat} {v : SV} {x1 : Int32} {r : Int32 × SV} (h : F_X8_off N v x1 = some r) : CI t yX8_off cX8_off 3 (some .int) (rm 3) [.ref (a 0), .int x1] [wModel t a v] (r.1) [wModel t a (r.2)] := by
  refine CI.of (own := RX8) (by decide) rfl (Nat.le_of_ble_eq_true rfl) (fun X C hR0 => ?_)
  have hR : ∀ q : Int32 × SV, q = r → RetI X cX8_off (q.1) [wModel t a (q.2)] := by intro q e; subst e; exact hR0
  show G X [wModel t a v] 0 [(0, .ref (a 0)), (1, .int x1)] []
  unfold F_X8_off at h
  refine G.aload_n C dX8_off_0 0 rfl ?_
  refine G.iload_n C dX8_off_1 1 rfl ?_
  obtain ⟨q2, hq2, h⟩ := bind_some' h
  refine G.cvI (i0 := 0) (j0 := 0) (cs' := [wModel t a v]) C (c_X8_isThing (a := a) hq2) [0] rfl rfl rfl rfl rfl rfl rfl k_1307 cal_X8_isThing (fit_rm (by decide) (by decide)) rfl (Nat.le_of_ble_eq_true rfl) dX8_off_2 ?_
  refine G.if_ne (tgt := 11) C dX8_off_5 (by decide) h (fun h => ?_) (fun h => ?_)
  · refine G.aload_n C dX8_off_11 0 rfl ?_
    refine G.iload_n C dX8_off_12 1 rfl ?_
    obtain ⟨q13, hq13, h⟩ := bind_some' h
    refine G.cvI (i0 := 0) (j0 := 0) (cs' := [wModel t a v]) C (c_X8_placeOf (a := a) hq13) [0] rfl rfl rfl rfl rfl rfl rfl k_1295 cal_X8_placeOf (fit_rm (by decide) (by decide)) rfl (Nat.le_of_ble_eq_true rfl) dX8_off_13 ?_
    refine G.istore_n (lv' := [(2, .int q13), (0, .ref (a 0)), (1, .int x1)]) C dX8_off_16 (by decide) rfl ?_
    refine G.iload_n C dX8_off_17 0 rfl ?_
    refine G.if_ge (tgt := 24) C dX8_off_18 (by decide) h (fun h => ?_) (fun h => ?_)
    · refine G.aload_n C dX8_off_24 1 rfl ?_
      obtain ⟨q25, hq25, h⟩ := bind_some' h
      refine G.cvV (i0 := 0) (j0 := 0) (cs' := [wModel t a q25]) C (c_X8_note (a := a) hq25) [0] rfl rfl rfl rfl rfl rfl rfl k_1244 cal_X8_note (fit_rm (by decide) (by decide)) rfl (Nat.le_of_ble_eq_true rfl) dX8_off_25 ?_
      refine G.aload_n C dX8_off_28 1 rfl ?_
      refine G.iload_n C dX8_off_29 2 rfl ?_
      obtain ⟨q30, hq30, h⟩ := bind_some' h
      refine G.cvV (i0 := 0) (j0 := 0) (cs' := [wModel t a q30]) C (c_X8_takeOff (a := a) hq30) [0] rfl rfl rfl rfl rfl rfl rfl k_1291 cal_X8_takeOff (fit_rm (by decide) (by decide)) rfl (Nat.le_of_ble_eq_true rfl) dX8_off_30 ?_
      refine G.iload_n C dX8_off_33 0 rfl ?_
      exact hR _ (Option.some.inj h) _ _ dX8_off_34
    · refine G.ldc C k_1238 dX8_off_21 ?_
      exact hR _ (Option.some.inj h) _ _ dX8_off_23
  · refine G.ldc C k_1158 dX8_off_8 ?_
    exact hR _ (Option.some.inj h) _ _ dX8_off_10
set_option maxHeartbeats 2000000 in
set_option maxRecDepth 20000 in
theorem c_X8_back {t : Nat → ClassId} {a : Nat → Nat} {N : Nat} {v : SV} {x1 : Int32} {r : Int32 × SV} (h : F_X8_back N v x1 = some r) : CI t yX8_back cX8_back 2 (some .int) (rm 3) [.ref (a 0), .int x1] [wModel t a v] (r.1) [wModel t a (r.2)] := by
  refine CI.of (own := RX8) (by decide) rfl (Nat.le_of_ble_eq_true rfl) (fun X C hR0 => ?_)
  have hR : ∀ q : Int32 × SV, q = r → RetI X cX8_back (q.1) [wModel t a (q.2)] := by intro q e; subst e; exact hR0
  show G X [wModel t a v] 0 [(0, .ref (a 0)), (1, .int x1)] []
  unfold F_X8_back at h
  refine G.aload_n C dX8_back_0 0 rfl ?_
  refine G.iload_n C dX8_back_1 1 rfl ?_
  obtain ⟨q2, hq2, h⟩ := bind_some' h
  refine G.cvI (i0 := 0) (j0 := 0) (cs' := [wModel t a v]) C (c_X8_isThing (a := a) hq2) [0] rfl rfl rfl rfl rfl rfl rfl k_1307 cal_X8_isThing (fit_rm (by decide) (by decide)) rfl (Nat.le_of_ble_eq_true rfl) dX8_back_2 ?_
  refine G.if_ne (tgt := 11) C dX8_back_5 (by decide) h (fun h => ?_) (fun h => ?_)
  · refine G.aload_n C dX8_back_11 0 rfl ?_
    refine G.iload_n C dX8_back_12 1 rfl ?_
    obtain ⟨q13, hq13, h⟩ := bind_some' h
    refine G.cvI (i0 := 0) (j0 := 0) (cs' := [wModel t a v]) C (c_X8_placeOf (a := a) hq13) [0] rfl rfl rfl rfl rfl rfl rfl k_1295 cal_X8_placeOf (fit_rm (by decide) (by decide)) rfl (Nat.le_of_ble_eq_true rfl) dX8_back_13 ?_
    refine G.if_lt (tgt := 22) C dX8_back_16 (by decide) h (fun h => ?_) (fun h => ?_)
    · refine G.aload_n C dX8_back_22 0 rfl ?_
      obtain ⟨q23, hq23, h⟩ := bind_some' h
      refine G.cvV (i0 := 0) (j0 := 0) (cs' := [wModel t a q23]) C (c_X8_note (a := a) hq23) [0] rfl rfl rfl rfl rfl rfl rfl k_1244 cal_X8_note (fit_rm (by decide) (by decide)) rfl (Nat.le_of_ble_eq_true rfl) dX8_back_23 ?_
      refine G.aload_n C dX8_back_26 0 rfl ?_
      refine G.iload_n C dX8_back_27 1 rfl ?_
      obtain ⟨q28, hq28, h⟩ := bind_some' h
      refine G.cvV (i0 := 0) (j0 := 0) (cs' := [wModel t a q28]) C (c_X8_layBehind (a := a) hq28) [0] rfl rfl rfl rfl rfl rfl rfl k_1299 cal_X8_layBehind (fit_rm (by decide) (by decide)) rfl (Nat.le_of_ble_eq_true rfl) dX8_back_28 ?_
      refine G.aload_n C dX8_back_31 0 rfl ?_
      refine gfX8_19 (i := 0) (j := 0) (v := .ref (a 4)) C rfl rfl rfl dX8_back_32 ?_
      refine G.bipush C dX8_back_35 nb_6 ?_
      refine G.iald (i := 0) (j := 4) (f := (q28 4)) C rfl rfl h dX8_back_37 (fun h => ?_)
      exact hR _ (Option.some.inj h) _ _ dX8_back_38
    · refine G.ldc C k_1238 dX8_back_19 ?_
      exact hR _ (Option.some.inj h) _ _ dX8_back_21
  · refine G.ldc C k_1158 dX8_back_8 ?_
    exact hR _ (Option.some.inj h) _ _ dX8_back_10
set_option maxHeartbeats 2000000 in
set_option maxRecDepth 20000 in
theorem c_X8_seatAnew {t : Nat → ClassId} {a : Nat → Nat} {N : Nat} {v : SV} {x1 : Int32} {x2 : Int32} {x3 : Int32} {r : SV} (h : F_X8_seatAnew N v x1 x2 x3 = some r) : CV t yX8_seatAnew cX8_seatAnew 4 none (rm 1) [.ref (a 0), .int x1, .int x2, .int x3] [wModel t a v] [wModel t a r] := by
  refine CV.of (own := RX8) (by decide) rfl (Nat.le_of_ble_eq_true rfl) (fun X C hR0 => ?_)
  have hR : ∀ q : SV, q = r → RetV X cX8_seatAnew [wModel t a q] := by intro q e; subst e; exact hR0
  show G X [wModel t a v] 0 [(0, .ref (a 0)), (1, .int x1), (2, .int x2), (3, .int x3)] []
  unfold F_X8_seatAnew at h
  refine G.aload_n C dX8_seatAnew_0 0 rfl ?_
  refine gfX8_19 (i := 0) (j := 0) (v := .ref (a 4)) C rfl rfl rfl dX8_seatAnew_1 ?_
  refine G.bipush C dX8_seatAnew_4 nb_37 ?_
  refine G.iload_n C dX8_seatAnew_6 1 rfl ?_
  refine G.iadd C dX8_seatAnew_7 ?_
  refine G.iload_n C dX8_seatAnew_8 2 rfl ?_
  refine G.iast (i := 0) (j := 4) (f := v 4) (cs' := [wModel t a (up2 v 4 (((37 : Int32) + x1).toNatClampNeg) x2)]) C rfl rfl h dX8_seatAnew_9 (suModelA_4) rfl (fun h => ?_)
  refine G.aload_n C dX8_seatAnew_10 0 rfl ?_
  refine gfX8_19 (i := 0) (j := 0) (v := .ref (a 4)) C rfl rfl rfl dX8_seatAnew_11 ?_
  refine G.bipush C dX8_seatAnew_14 nb_43 ?_
  refine G.iload_n C dX8_seatAnew_16 1 rfl ?_
  refine G.iadd C dX8_seatAnew_17 ?_
  refine G.iload_n C dX8_seatAnew_18 3 rfl ?_
  refine G.iast (i := 0) (j := 4) (f := (up2 v 4 (((37 : Int32) + x1).toNatClampNeg) x2) 4) (cs' := [wModel t a (up2 (up2 v 4 (((37 : Int32) + x1).toNatClampNeg) x2) 4 (((43 : Int32) + x1).toNatClampNeg) x3)]) C rfl rfl h dX8_seatAnew_19 (suModelA_4) rfl (fun h => ?_)
  refine G.aload_n C dX8_seatAnew_20 0 rfl ?_
  refine gfX8_19 (i := 0) (j := 0) (v := .ref (a 4)) C rfl rfl rfl dX8_seatAnew_21 ?_
  refine G.bipush C dX8_seatAnew_24 nb_49 ?_
  refine G.iload_n C dX8_seatAnew_26 1 rfl ?_
  refine G.iadd C dX8_seatAnew_27 ?_
  refine G.iconst C dX8_seatAnew_28 ni_0 ?_
  refine G.iast (i := 0) (j := 4) (f := (up2 (up2 v 4 (((37 : Int32) + x1).toNatClampNeg) x2) 4 (((43 : Int32) + x1).toNatClampNeg) x3) 4) (cs' := [wModel t a (up2 (up2 (up2 v 4 (((37 : Int32) + x1).toNatClampNeg) x2) 4 (((43 : Int32) + x1).toNatClampNeg) x3) 4 (((49 : Int32) + x1).toNatClampNeg) (0 : Int32))]) C rfl rfl h dX8_seatAnew_29 (suModelA_4) rfl (fun h => ?_)
  exact hR _ (Option.some.inj h) _ _ dX8_seatAnew_30
set_option maxHeartbeats 2000000 in
set_option maxRecDepth 20000 in
theorem c_X8_sit {t : Nat → ClassId} {a : Nat → Nat} {N : Nat} {v : SV} {x1 : Int32} {x2 : Int32} {x3 : Int32} {r : Int32 × SV} (h : F_X8_sit N v x1 x2 x3 = some r) : CI t yX8_sit cX8_sit 4 (some .int) (rm 3) [.ref (a 0), .int x1, .int x2, .int x3] [wModel t a v] (r.1) [wModel t a (r.2)] := by
  refine CI.of (own := RX8) (by decide) rfl (Nat.le_of_ble_eq_true rfl) (fun X C hR0 => ?_)
  have hR : ∀ q : Int32 × SV, q = r → RetI X cX8_sit (q.1) [wModel t a (q.2)] := by intro q e; subst e; exact hR0
  show G X [wModel t a v] 0 [(0, .ref (a 0)), (1, .int x1), (2, .int x2), (3, .int x3)] []
  unfold F_X8_sit at h
  refine G.aload_n C dX8_sit_0 0 rfl ?_
  refine G.iload_n C dX8_sit_1 1 rfl ?_
  obtain ⟨q2, hq2, h⟩ := bind_some' h
  refine G.cvI (i0 := 0) (j0 := 0) (cs' := [wModel t a v]) C (c_X8_isSeat (a := a) hq2) [0] rfl rfl rfl rfl rfl rfl rfl k_1327 cal_X8_isSeat (fit_rm (by decide) (by decide)) rfl (Nat.le_of_ble_eq_true rfl) dX8_sit_2 ?_
  refine G.if_eq (tgt := 32) C dX8_sit_5 (by decide) h (fun h => ?_) (fun h => ?_)
  · refine G.ldc C k_1158 dX8_sit_32 ?_
    exact hR _ (Option.some.inj h) _ _ dX8_sit_34
  · refine G.iload_n C dX8_sit_8 2 rfl ?_
    refine G.i2l C dX8_sit_9 ?_
    refine G.lconst C dX8_sit_10 nl_0 ?_
    refine G.ldc2 C k_1331 dX8_sit_11 ?_
    obtain ⟨q14, hq14, h⟩ := bind_some' h
    refine G.csI (cs' := [wModel t a v]) C (c_X8_in hq14) [] rfl rfl rfl rfl k_1154 cal_X8_in (fit_rm (by decide) (by decide)) rfl (Nat.le_of_ble_eq_true rfl) dX8_sit_14 ?_
    refine G.if_eq (tgt := 32) C dX8_sit_17 (by decide) h (fun h => ?_) (fun h => ?_)
    · refine G.ldc C k_1158 dX8_sit_32 ?_
      exact hR _ (Option.some.inj h) _ _ dX8_sit_34
    · refine G.iload_n C dX8_sit_20 3 rfl ?_
      refine G.i2l C dX8_sit_21 ?_
      refine G.lconst C dX8_sit_22 nl_1 ?_
      refine G.ldc2 C k_1332 dX8_sit_23 ?_
      obtain ⟨q26, hq26, h⟩ := bind_some' h
      refine G.csI (cs' := [wModel t a v]) C (c_X8_in hq26) [] rfl rfl rfl rfl k_1154 cal_X8_in (fit_rm (by decide) (by decide)) rfl (Nat.le_of_ble_eq_true rfl) dX8_sit_26 ?_
      refine G.if_ne (tgt := 35) C dX8_sit_29 (by decide) h (fun h => ?_) (fun h => ?_)
      · refine G.aload_n C dX8_sit_35 0 rfl ?_
        refine gfX8_19 (i := 0) (j := 0) (v := .ref (a 4)) C rfl rfl rfl dX8_sit_36 ?_
        refine G.bipush C dX8_sit_39 nb_49 ?_
        refine G.iload_n C dX8_sit_41 1 rfl ?_
        refine G.iadd C dX8_sit_42 ?_
        refine G.iald (i := 0) (j := 4) (f := (v 4)) C rfl rfl h dX8_sit_43 (fun h => ?_)
        refine G.if_ne (tgt := 50) C dX8_sit_44 (by decide) h (fun h => ?_) (fun h => ?_)
        · refine G.aload_n C dX8_sit_50 0 rfl ?_
          obtain ⟨q51, hq51, h⟩ := bind_some' h
          refine G.cvV (i0 := 0) (j0 := 0) (cs' := [wModel t a q51]) C (c_X8_note (a := a) hq51) [0] rfl rfl rfl rfl rfl rfl rfl k_1244 cal_X8_note (fit_rm (by decide) (by decide)) rfl (Nat.le_of_ble_eq_true rfl) dX8_sit_51 ?_
          refine G.aload_n C dX8_sit_54 0 rfl ?_
          refine G.iload_n C dX8_sit_55 1 rfl ?_
          refine G.iload_n C dX8_sit_56 2 rfl ?_
          refine G.iload_n C dX8_sit_57 3 rfl ?_
          obtain ⟨q58, hq58, h⟩ := bind_some' h
          refine G.cvV (i0 := 0) (j0 := 0) (cs' := [wModel t a q58]) C (c_X8_seatAnew (a := a) hq58) [0] rfl rfl rfl rfl rfl rfl rfl k_1333 cal_X8_seatAnew (fit_rm (by decide) (by decide)) rfl (Nat.le_of_ble_eq_true rfl) dX8_sit_58 ?_
          refine G.aload_n C dX8_sit_61 0 rfl ?_
          refine G.iconst C dX8_sit_62 ni_0 ?_
          obtain ⟨q63, hq63, h⟩ := bind_some' h
          refine G.cvI (i0 := 0) (j0 := 0) (cs' := [wModel t a q58]) C (c_X8_seatsOf (a := a) hq63) [0] rfl rfl rfl rfl rfl rfl rfl k_1276 cal_X8_seatsOf (fit_rm (by decide) (by decide)) rfl (Nat.le_of_ble_eq_true rfl) dX8_sit_63 ?_
          exact hR _ (Option.some.inj h) _ _ dX8_sit_66
        · refine G.ldc C k_1238 dX8_sit_47 ?_
          exact hR _ (Option.some.inj h) _ _ dX8_sit_49
      · refine G.ldc C k_1158 dX8_sit_32 ?_
        exact hR _ (Option.some.inj h) _ _ dX8_sit_34
set_option maxHeartbeats 2000000 in
set_option maxRecDepth 20000 in
theorem c_X8_thing {t : Nat → ClassId} {a : Nat → Nat} {N : Nat} {v : SV} {x1 : Int32} {x2 : Int32} {r : Int32} (h : F_X8_thing N v x1 x2 = some r) : CI t yX8_thing cX8_thing 3 (some .int) (rm 3) [.ref (a 0), .int x1, .int x2] [wModel t a v] r [wModel t a v] := by
  refine CI.of (own := RX8) (by decide) rfl (Nat.le_of_ble_eq_true rfl) (fun X C hR0 => ?_)
  have hR : ∀ q : Int32, q = r → RetI X cX8_thing q [wModel t a v] := by intro q e; subst e; exact hR0
  show G X [wModel t a v] 0 [(0, .ref (a 0)), (1, .int x1), (2, .int x2)] []
  unfold F_X8_thing at h
  refine G.aload_n C dX8_thing_0 0 rfl ?_
  refine G.iload_n C dX8_thing_1 1 rfl ?_
  obtain ⟨q2, hq2, h⟩ := bind_some' h
  refine G.cvI (i0 := 0) (j0 := 0) (cs' := [wModel t a v]) C (c_X8_isThing (a := a) hq2) [0] rfl rfl rfl rfl rfl rfl rfl k_1307 cal_X8_isThing (fit_rm (by decide) (by decide)) rfl (Nat.le_of_ble_eq_true rfl) dX8_thing_2 ?_
  refine G.if_ne (tgt := 11) C dX8_thing_5 (by decide) h (fun h => ?_) (fun h => ?_)
  · refine G.iload_n C dX8_thing_11 2 rfl ?_
    by_cases e_0 : x2 = 0
    · rw [if_pos e_0] at h
      have n_0 : x2.toInt = 0 := by rw [e_0]; decide
      refine G.tableIn (tgt := 48) C dX8_thing_12 (by rw [n_0]; decide) (by rw [n_0]; decide) (by rw [n_0]; rfl) (by decide) ?_
      refine G.aload_n C dX8_thing_48 0 rfl ?_
      refine gfX8_19 (i := 0) (j := 0) (v := .ref (a 4)) C rfl rfl rfl dX8_thing_49 ?_
      refine G.bipush C dX8_thing_52 nb_13 ?_
      refine G.iload_n C dX8_thing_54 1 rfl ?_
      refine G.iadd C dX8_thing_55 ?_
      refine G.iald (i := 0) (j := 4) (f := (v 4)) C rfl rfl h dX8_thing_56 (fun h => ?_)
      exact hR _ (Option.some.inj h) _ _ dX8_thing_57
    rw [if_neg e_0] at h
    by_cases e_1 : x2 = 1
    · rw [if_pos e_1] at h
      have n_1 : x2.toInt = 1 := by rw [e_1]; decide
      refine G.tableIn (tgt := 58) C dX8_thing_12 (by rw [n_1]; decide) (by rw [n_1]; decide) (by rw [n_1]; rfl) (by decide) ?_
      refine G.aload_n C dX8_thing_58 0 rfl ?_
      refine gfX8_19 (i := 0) (j := 0) (v := .ref (a 4)) C rfl rfl rfl dX8_thing_59 ?_
      refine G.bipush C dX8_thing_62 nb_19 ?_
      refine G.iload_n C dX8_thing_64 1 rfl ?_
      refine G.iadd C dX8_thing_65 ?_
      refine G.iald (i := 0) (j := 4) (f := (v 4)) C rfl rfl h dX8_thing_66 (fun h => ?_)
      exact hR _ (Option.some.inj h) _ _ dX8_thing_67
    rw [if_neg e_1] at h
    by_cases e_2 : x2 = 2
    · rw [if_pos e_2] at h
      have n_2 : x2.toInt = 2 := by rw [e_2]; decide
      refine G.tableIn (tgt := 68) C dX8_thing_12 (by rw [n_2]; decide) (by rw [n_2]; decide) (by rw [n_2]; rfl) (by decide) ?_
      refine G.aload_n C dX8_thing_68 0 rfl ?_
      refine gfX8_19 (i := 0) (j := 0) (v := .ref (a 4)) C rfl rfl rfl dX8_thing_69 ?_
      refine G.bipush C dX8_thing_72 nb_25 ?_
      refine G.iload_n C dX8_thing_74 1 rfl ?_
      refine G.iadd C dX8_thing_75 ?_
      refine G.iald (i := 0) (j := 4) (f := (v 4)) C rfl rfl h dX8_thing_76 (fun h => ?_)
      exact hR _ (Option.some.inj h) _ _ dX8_thing_77
    rw [if_neg e_2] at h
    by_cases e_3 : x2 = 3
    · rw [if_pos e_3] at h
      have n_3 : x2.toInt = 3 := by rw [e_3]; decide
      refine G.tableIn (tgt := 78) C dX8_thing_12 (by rw [n_3]; decide) (by rw [n_3]; decide) (by rw [n_3]; rfl) (by decide) ?_
      refine G.aload_n C dX8_thing_78 0 rfl ?_
      refine G.iload_n C dX8_thing_79 1 rfl ?_
      obtain ⟨q80, hq80, h⟩ := bind_some' h
      refine G.cvI (i0 := 0) (j0 := 0) (cs' := [wModel t a v]) C (c_X8_placeOf (a := a) hq80) [0] rfl rfl rfl rfl rfl rfl rfl k_1295 cal_X8_placeOf (fit_rm (by decide) (by decide)) rfl (Nat.le_of_ble_eq_true rfl) dX8_thing_80 ?_
      exact hR _ (Option.some.inj h) _ _ dX8_thing_83
    rw [if_neg e_3] at h
    by_cases e_4 : x2 = 4
    · rw [if_pos e_4] at h
      have n_4 : x2.toInt = 4 := by rw [e_4]; decide
      refine G.tableIn (tgt := 84) C dX8_thing_12 (by rw [n_4]; decide) (by rw [n_4]; decide) (by rw [n_4]; rfl) (by decide) ?_
      refine G.aload_n C dX8_thing_84 0 rfl ?_
      refine G.iload_n C dX8_thing_85 1 rfl ?_
      obtain ⟨q86, hq86, h⟩ := bind_some' h
      refine G.cvI (i0 := 0) (j0 := 0) (cs' := [wModel t a v]) C (c_X8_wantedBy (a := a) hq86) [0] rfl rfl rfl rfl rfl rfl rfl k_1257 cal_X8_wantedBy (fit_rm (by decide) (by decide)) rfl (Nat.le_of_ble_eq_true rfl) dX8_thing_86 ?_
      exact hR _ (Option.some.inj h) _ _ dX8_thing_89
    rw [if_neg e_4] at h
    have n_0 : x2.toInt ≠ 0 := fun h9 => e_0 (Int32.toInt_inj.mp (by rw [h9]; decide))
    have n_1 : x2.toInt ≠ 1 := fun h9 => e_1 (Int32.toInt_inj.mp (by rw [h9]; decide))
    have n_2 : x2.toInt ≠ 2 := fun h9 => e_2 (Int32.toInt_inj.mp (by rw [h9]; decide))
    have n_3 : x2.toInt ≠ 3 := fun h9 => e_3 (Int32.toInt_inj.mp (by rw [h9]; decide))
    have n_4 : x2.toInt ≠ 4 := fun h9 => e_4 (Int32.toInt_inj.mp (by rw [h9]; decide))
    refine G.tableOut (tgt := 90) C dX8_thing_12 (by omega) (by decide) ?_
    refine G.ldc C k_1158 dX8_thing_90 ?_
    exact hR _ (Option.some.inj h) _ _ dX8_thing_92
  · refine G.ldc C k_1158 dX8_thing_8 ?_
    exact hR _ (Option.some.inj h) _ _ dX8_thing_10
set_option maxHeartbeats 2000000 in
set_option maxRecDepth 20000 in
theorem c_X8_seat {t : Nat → ClassId} {a : Nat → Nat} {N : Nat} {v : SV} {x1 : Int32} {x2 : Int32} {r : Int32} (h : F_X8_seat N v x1 x2 = some r) : CI t yX8_seat cX8_seat 3 (some .int) (rm 3) [.ref (a 0), .int x1, .int x2] [wModel t a v] r [wModel t a v] := by
  refine CI.of (own := RX8) (by decide) rfl (Nat.le_of_ble_eq_true rfl) (fun X C hR0 => ?_)
  have hR : ∀ q : Int32, q = r → RetI X cX8_seat q [wModel t a v] := by intro q e; subst e; exact hR0
  show G X [wModel t a v] 0 [(0, .ref (a 0)), (1, .int x1), (2, .int x2)] []
  unfold F_X8_seat at h
  refine G.aload_n C dX8_seat_0 0 rfl ?_
  refine G.iload_n C dX8_seat_1 1 rfl ?_
  obtain ⟨q2, hq2, h⟩ := bind_some' h
  refine G.cvI (i0 := 0) (j0 := 0) (cs' := [wModel t a v]) C (c_X8_isSeat (a := a) hq2) [0] rfl rfl rfl rfl rfl rfl rfl k_1327 cal_X8_isSeat (fit_rm (by decide) (by decide)) rfl (Nat.le_of_ble_eq_true rfl) dX8_seat_2 ?_
  refine G.if_eq (tgt := 20) C dX8_seat_5 (by decide) h (fun h => ?_) (fun h => ?_)
  · refine G.ldc C k_1158 dX8_seat_20 ?_
    refine G.goto (tgt := 67) C dX8_seat_22 (by decide) ?_
    exact hR _ (Option.some.inj h) _ _ dX8_seat_67
  · refine G.iload_n C dX8_seat_8 2 rfl ?_
    refine G.i2l C dX8_seat_9 ?_
    refine G.lconst C dX8_seat_10 nl_0 ?_
    refine G.ldc2 C k_1157 dX8_seat_11 ?_
    obtain ⟨q14, hq14, h⟩ := bind_some' h
    refine G.csI (cs' := [wModel t a v]) C (c_X8_in hq14) [] rfl rfl rfl rfl k_1154 cal_X8_in (fit_rm (by decide) (by decide)) rfl (Nat.le_of_ble_eq_true rfl) dX8_seat_14 ?_
    refine G.if_ne (tgt := 25) C dX8_seat_17 (by decide) h (fun h => ?_) (fun h => ?_)
    · refine G.iload_n C dX8_seat_25 2 rfl ?_
      refine G.if_ne (tgt := 41) C dX8_seat_26 (by decide) h (fun h => ?_) (fun h => ?_)
      · refine G.iload_n C dX8_seat_41 2 rfl ?_
        refine G.iconst C dX8_seat_42 ni_1 ?_
        refine G.icmp_ne (tgt := 58) C dX8_seat_43 (by decide) h (fun h => ?_) (fun h => ?_)
        · refine G.aload_n C dX8_seat_58 0 rfl ?_
          refine gfX8_19 (i := 0) (j := 0) (v := .ref (a 4)) C rfl rfl rfl dX8_seat_59 ?_
          refine G.bipush C dX8_seat_62 nb_49 ?_
          refine G.iload_n C dX8_seat_64 1 rfl ?_
          refine G.iadd C dX8_seat_65 ?_
          refine G.iald (i := 0) (j := 4) (f := (v 4)) C rfl rfl h dX8_seat_66 (fun h => ?_)
          exact hR _ (Option.some.inj h) _ _ dX8_seat_67
        · refine G.aload_n C dX8_seat_46 0 rfl ?_
          refine gfX8_19 (i := 0) (j := 0) (v := .ref (a 4)) C rfl rfl rfl dX8_seat_47 ?_
          refine G.bipush C dX8_seat_50 nb_43 ?_
          refine G.iload_n C dX8_seat_52 1 rfl ?_
          refine G.iadd C dX8_seat_53 ?_
          refine G.iald (i := 0) (j := 4) (f := (v 4)) C rfl rfl h dX8_seat_54 (fun h => ?_)
          refine G.goto (tgt := 67) C dX8_seat_55 (by decide) ?_
          exact hR _ (Option.some.inj h) _ _ dX8_seat_67
      · refine G.aload_n C dX8_seat_29 0 rfl ?_
        refine gfX8_19 (i := 0) (j := 0) (v := .ref (a 4)) C rfl rfl rfl dX8_seat_30 ?_
        refine G.bipush C dX8_seat_33 nb_37 ?_
        refine G.iload_n C dX8_seat_35 1 rfl ?_
        refine G.iadd C dX8_seat_36 ?_
        refine G.iald (i := 0) (j := 4) (f := (v 4)) C rfl rfl h dX8_seat_37 (fun h => ?_)
        refine G.goto (tgt := 67) C dX8_seat_38 (by decide) ?_
        exact hR _ (Option.some.inj h) _ _ dX8_seat_67
    · refine G.ldc C k_1158 dX8_seat_20 ?_
      refine G.goto (tgt := 67) C dX8_seat_22 (by decide) ?_
      exact hR _ (Option.some.inj h) _ _ dX8_seat_67
set_option maxHeartbeats 2000000 in
set_option maxRecDepth 20000 in
theorem c_X8_list {t : Nat → ClassId} {a : Nat → Nat} {N : Nat} {v : SV} {x1 : Int32} {r : Int32} (h : F_X8_list N v x1 = some r) : CI t yX8_list cX8_list 2 (some .int) (rm 1) [.ref (a 0), .int x1] [wModel t a v] r [wModel t a v] := by
  refine CI.of (own := RX8) (by decide) rfl (Nat.le_of_ble_eq_true rfl) (fun X C hR0 => ?_)
  have hR : ∀ q : Int32, q = r → RetI X cX8_list q [wModel t a v] := by intro q e; subst e; exact hR0
  show G X [wModel t a v] 0 [(0, .ref (a 0)), (1, .int x1)] []
  unfold F_X8_list at h
  refine G.aload_n C dX8_list_0 0 rfl ?_
  refine gfX8_141 (i := 0) (j := 0) (v := .int (v 0 4)) C rfl rfl rfl dX8_list_1 ?_
  refine G.if_ne (tgt := 12) C dX8_list_4 (by decide) h (fun h => ?_) (fun h => ?_)
  · refine G.iload_n C dX8_list_12 1 rfl ?_
    refine G.if_ge (tgt := 21) C dX8_list_13 (by decide) h (fun h => ?_) (fun h => ?_)
    · refine G.iload_n C dX8_list_21 1 rfl ?_
      refine G.aload_n C dX8_list_22 0 rfl ?_
      refine gfX8_19 (i := 0) (j := 0) (v := .ref (a 4)) C rfl rfl rfl dX8_list_23 ?_
      refine G.bipush C dX8_list_26 nb_6 ?_
      refine G.iald (i := 0) (j := 4) (f := (v 4)) C rfl rfl h dX8_list_28 (fun h => ?_)
      refine G.icmp_ge (tgt := 44) C dX8_list_29 (by decide) h (fun h => ?_) (fun h => ?_)
      · refine G.ldc C k_1256 dX8_list_44 ?_
        exact hR _ (Option.some.inj h) _ _ dX8_list_46
      · refine G.aload_n C dX8_list_32 0 rfl ?_
        refine gfX8_19 (i := 0) (j := 0) (v := .ref (a 4)) C rfl rfl rfl dX8_list_33 ?_
        refine G.bipush C dX8_list_36 nb_31 ?_
        refine G.iload_n C dX8_list_38 1 rfl ?_
        refine G.iadd C dX8_list_39 ?_
        refine G.iald (i := 0) (j := 4) (f := (v 4)) C rfl rfl h dX8_list_40 (fun h => ?_)
        refine G.goto (tgt := 46) C dX8_list_41 (by decide) ?_
        exact hR _ (Option.some.inj h) _ _ dX8_list_46
    · refine G.ldc C k_1158 dX8_list_16 ?_
      refine G.goto (tgt := 46) C dX8_list_18 (by decide) ?_
      exact hR _ (Option.some.inj h) _ _ dX8_list_46
  · refine G.ldc C k_1238 dX8_list_7 ?_
    refine G.goto (tgt := 46) C dX8_list_9 (by decide) ?_
    exact hR _ (Option.some.inj h) _ _ dX8_list_46
set_option maxHeartbeats 2000000 in
set_option maxRecDepth 20000 in
theorem c_X8_standing {t : Nat → ClassId} {a : Nat → Nat} {N : Nat} {v : SV} {x1 : Int32} {r : Int32} (h : F_X8_standing N v x1 = some r) : CI t yX8_standing cX8_standing 2 (some .int) (rm 2) [.ref (a 0), .int x1] [wModel t a v] r [wModel t a v] := by
  refine CI.of (own := RX8) (by decide) rfl (Nat.le_of_ble_eq_true rfl) (fun X C hR0 => ?_)
  have hR : ∀ q : Int32, q = r → RetI X cX8_standing q [wModel t a v] := by intro q e; subst e; exact hR0
  show G X [wModel t a v] 0 [(0, .ref (a 0)), (1, .int x1)] []
  unfold F_X8_standing at h
  refine G.iload_n C dX8_standing_0 1 rfl ?_
  refine G.iconst C dX8_standing_1 ni_3 ?_
  refine G.icmp_ne (tgt := 14) C dX8_standing_2 (by decide) h (fun h => ?_) (fun h => ?_)
  · refine G.aload_n C dX8_standing_14 0 rfl ?_
    refine G.iload_n C dX8_standing_15 1 rfl ?_
    obtain ⟨q16, hq16, h⟩ := bind_some' h
    refine G.cvI (i0 := 0) (j0 := 0) (cs' := [wModel t a v]) C (c_X8_seatsOf (a := a) hq16) [0] rfl rfl rfl rfl rfl rfl rfl k_1276 cal_X8_seatsOf (fit_rm (by decide) (by decide)) rfl (Nat.le_of_ble_eq_true rfl) dX8_standing_16 ?_
    exact hR _ (Option.some.inj h) _ _ dX8_standing_19
  · refine G.aload_n C dX8_standing_5 0 rfl ?_
    refine gfX8_19 (i := 0) (j := 0) (v := .ref (a 4)) C rfl rfl rfl dX8_standing_6 ?_
    refine G.iconst C dX8_standing_9 ni_5 ?_
    refine G.iald (i := 0) (j := 4) (f := (v 4)) C rfl rfl h dX8_standing_10 (fun h => ?_)
    refine G.goto (tgt := 19) C dX8_standing_11 (by decide) ?_
    exact hR _ (Option.some.inj h) _ _ dX8_standing_19
set_option maxHeartbeats 2000000 in
set_option maxRecDepth 20000 in
theorem c_X8_stand {t : Nat → ClassId} {a : Nat → Nat} {N : Nat} {v : SV} {x1 : Int32} {r : Int32} (h : F_X8_stand N v x1 = some r) : CI t yX8_stand cX8_stand 2 (some .int) (rm 3) [.ref (a 0), .int x1] [wModel t a v] r [wModel t a v] := by
  refine CI.of (own := RX8) (by decide) rfl (Nat.le_of_ble_eq_true rfl) (fun X C hR0 => ?_)
  have hR : ∀ q : Int32, q = r → RetI X cX8_stand q [wModel t a v] := by intro q e; subst e; exact hR0
  show G X [wModel t a v] 0 [(0, .ref (a 0)), (1, .int x1)] []
  unfold F_X8_stand at h
  refine G.aload_n C dX8_stand_0 0 rfl ?_
  refine gfX8_141 (i := 0) (j := 0) (v := .int (v 0 4)) C rfl rfl rfl dX8_stand_1 ?_
  refine G.if_ne (tgt := 12) C dX8_stand_4 (by decide) h (fun h => ?_) (fun h => ?_)
  · refine G.iload_n C dX8_stand_12 1 rfl ?_
    refine G.i2l C dX8_stand_13 ?_
    refine G.lconst C dX8_stand_14 nl_0 ?_
    refine G.ldc2 C k_1353 dX8_stand_15 ?_
    obtain ⟨q18, hq18, h⟩ := bind_some' h
    refine G.csI (cs' := [wModel t a v]) C (c_X8_in hq18) [] rfl rfl rfl rfl k_1154 cal_X8_in (fit_rm (by decide) (by decide)) rfl (Nat.le_of_ble_eq_true rfl) dX8_stand_18 ?_
    refine G.if_eq (tgt := 32) C dX8_stand_21 (by decide) h (fun h => ?_) (fun h => ?_)
    · refine G.ldc C k_1158 dX8_stand_32 ?_
      exact hR _ (Option.some.inj h) _ _ dX8_stand_34
    · refine G.aload_n C dX8_stand_24 0 rfl ?_
      refine G.iload_n C dX8_stand_25 1 rfl ?_
      obtain ⟨q26, hq26, h⟩ := bind_some' h
      refine G.cvI (i0 := 0) (j0 := 0) (cs' := [wModel t a v]) C (c_X8_standing (a := a) hq26) [0] rfl rfl rfl rfl rfl rfl rfl k_1354 cal_X8_standing (fit_rm (by decide) (by decide)) rfl (Nat.le_of_ble_eq_true rfl) dX8_stand_26 ?_
      refine G.goto (tgt := 34) C dX8_stand_29 (by decide) ?_
      exact hR _ (Option.some.inj h) _ _ dX8_stand_34
  · refine G.ldc C k_1238 dX8_stand_7 ?_
    refine G.goto (tgt := 34) C dX8_stand_9 (by decide) ?_
    exact hR _ (Option.some.inj h) _ _ dX8_stand_34
set_option maxHeartbeats 2000000 in
set_option maxRecDepth 20000 in
theorem w_X8_putAside_L2 {X : Cx} {t : Nat → ClassId} {a : Nat → Nat} {N : Nat} {r : SV} (C : gX X t (rm 1) cX8_putAside 2 RX8) (hR : ∀ q : SV, q = r → RetV X cX8_putAside [wModel t a q]) : ∀ (n : Nat) (x1 : Int32) (v : SV), F_X8_putAside_L2 N  n x1 v = some r → G X [wModel t a v] 2 [(0, .ref (a 0)), (1, .int x1)] [] := by
  intro n
  induction n with
  | zero => intro x1 v h; exact absurd h (by simp [F_X8_putAside_L2])
  | succ n ih =>
    intro x1 v h
    rw [F_X8_putAside_L2] at h
    refine G.iload_n C dX8_putAside_2 1 rfl ?_
    refine G.bipush C dX8_putAside_3 nb_55 ?_
    refine G.icmp_ge (tgt := 26) C dX8_putAside_5 (by decide) h (fun h => ?_) (fun h => ?_)
    · exact hR _ (Option.some.inj h) _ _ dX8_putAside_26
    · refine G.aload_n C dX8_putAside_8 0 rfl ?_
      refine gfX8_34 (i := 0) (j := 0) (v := .ref (a 9)) C rfl rfl rfl dX8_putAside_9 ?_
      refine G.iload_n C dX8_putAside_12 1 rfl ?_
      refine G.aload_n C dX8_putAside_13 0 rfl ?_
      refine gfX8_19 (i := 0) (j := 0) (v := .ref (a 4)) C rfl rfl rfl dX8_putAside_14 ?_
      refine G.iload_n C dX8_putAside_17 1 rfl ?_
      refine G.iald (i := 0) (j := 4) (f := (v 4)) C rfl rfl h dX8_putAside_18 (fun h => ?_)
      refine G.iast (i := 0) (j := 9) (f := v 9) (cs' := [wModel t a (up2 v 9 (x1.toNatClampNeg) ((v 4) (x1.toNatClampNeg)))]) C rfl rfl h dX8_putAside_19 (suModelA_9) rfl (fun h => ?_)
      refine G.iinc (v := (x1 + (1 : Int32))) (lv' := [(1, .int (x1 + (1 : Int32))), (0, .ref (a 0))]) C dX8_putAside_20 1 rfl (by rw [ni_1]) (by decide) rfl ?_
      refine G.goto (tgt := 2) C dX8_putAside_23 (by decide) ?_
      exact G.lvs [1, 0] rfl (ih _ _ h)
set_option maxHeartbeats 2000000 in
set_option maxRecDepth 20000 in
theorem c_X8_putAside {t : Nat → ClassId} {a : Nat → Nat} {N : Nat} {v : SV} {r : SV} (h : F_X8_putAside N v = some r) : CV t yX8_putAside cX8_putAside 2 none (rm 1) [.ref (a 0)] [wModel t a v] [wModel t a r] := by
  refine CV.of (own := RX8) (by decide) rfl (Nat.le_of_ble_eq_true rfl) (fun X C hR0 => ?_)
  have hR : ∀ q : SV, q = r → RetV X cX8_putAside [wModel t a q] := by intro q e; subst e; exact hR0
  show G X [wModel t a v] 0 [(0, .ref (a 0))] []
  unfold F_X8_putAside at h
  refine G.iconst C dX8_putAside_0 ni_0 ?_
  refine G.istore_n (lv' := [(1, .int (0 : Int32)), (0, .ref (a 0))]) C dX8_putAside_1 (by decide) rfl ?_
  exact G.lvs [1, 0] rfl (w_X8_putAside_L2 C hR N _ _ h)
set_option maxHeartbeats 2000000 in
set_option maxRecDepth 20000 in
theorem w_X8_takeBack_L2 {X : Cx} {t : Nat → ClassId} {a : Nat → Nat} {N : Nat} {r : SV} (C : gX X t (rm 1) cX8_takeBack 2 RX8) (hR : ∀ q : SV, q = r → RetV X cX8_takeBack [wModel t a q]) : ∀ (n : Nat) (x1 : Int32) (v : SV), F_X8_takeBack_L2 N  n x1 v = some r → G X [wModel t a v] 2 [(0, .ref (a 0)), (1, .int x1)] [] := by
  intro n
  induction n with
  | zero => intro x1 v h; exact absurd h (by simp [F_X8_takeBack_L2])
  | succ n ih =>
    intro x1 v h
    rw [F_X8_takeBack_L2] at h
    refine G.iload_n C dX8_takeBack_2 1 rfl ?_
    refine G.bipush C dX8_takeBack_3 nb_55 ?_
    refine G.icmp_ge (tgt := 26) C dX8_takeBack_5 (by decide) h (fun h => ?_) (fun h => ?_)
    · exact hR _ (Option.some.inj h) _ _ dX8_takeBack_26
    · refine G.aload_n C dX8_takeBack_8 0 rfl ?_
      refine gfX8_19 (i := 0) (j := 0) (v := .ref (a 4)) C rfl rfl rfl dX8_takeBack_9 ?_
      refine G.iload_n C dX8_takeBack_12 1 rfl ?_
      refine G.aload_n C dX8_takeBack_13 0 rfl ?_
      refine gfX8_34 (i := 0) (j := 0) (v := .ref (a 9)) C rfl rfl rfl dX8_takeBack_14 ?_
      refine G.iload_n C dX8_takeBack_17 1 rfl ?_
      refine G.iald (i := 0) (j := 9) (f := (v 9)) C rfl rfl h dX8_takeBack_18 (fun h => ?_)
      refine G.iast (i := 0) (j := 4) (f := v 4) (cs' := [wModel t a (up2 v 4 (x1.toNatClampNeg) ((v 9) (x1.toNatClampNeg)))]) C rfl rfl h dX8_takeBack_19 (suModelA_4) rfl (fun h => ?_)
      refine G.iinc (v := (x1 + (1 : Int32))) (lv' := [(1, .int (x1 + (1 : Int32))), (0, .ref (a 0))]) C dX8_takeBack_20 1 rfl (by rw [ni_1]) (by decide) rfl ?_
      refine G.goto (tgt := 2) C dX8_takeBack_23 (by decide) ?_
      exact G.lvs [1, 0] rfl (ih _ _ h)
set_option maxHeartbeats 2000000 in
set_option maxRecDepth 20000 in
theorem c_X8_takeBack {t : Nat → ClassId} {a : Nat → Nat} {N : Nat} {v : SV} {r : SV} (h : F_X8_takeBack N v = some r) : CV t yX8_takeBack cX8_takeBack 2 none (rm 1) [.ref (a 0)] [wModel t a v] [wModel t a r] := by
  refine CV.of (own := RX8) (by decide) rfl (Nat.le_of_ble_eq_true rfl) (fun X C hR0 => ?_)
  have hR : ∀ q : SV, q = r → RetV X cX8_takeBack [wModel t a q] := by intro q e; subst e; exact hR0
  show G X [wModel t a v] 0 [(0, .ref (a 0))] []
  unfold F_X8_takeBack at h
  refine G.iconst C dX8_takeBack_0 ni_0 ?_
  refine G.istore_n (lv' := [(1, .int (0 : Int32)), (0, .ref (a 0))]) C dX8_takeBack_1 (by decide) rfl ?_
  exact G.lvs [1, 0] rfl (w_X8_takeBack_L2 C hR N _ _ h)
set_option maxHeartbeats 2000000 in
set_option maxRecDepth 20000 in
theorem w_X8_goOn_L2 {X : Cx} {t : Nat → ClassId} {a : Nat → Nat} {N : Nat} {x1 : Int32} {r : SV} (C : gX X t (rm 6) cX8_goOn 3 RX8) (hR : ∀ q : SV, q = r → RetV X cX8_goOn [wModel t a q]) : ∀ (n : Nat) (x2 : Int32) (v : SV), F_X8_goOn_L2 N x1 n x2 v = some r → G X [wModel t a v] 2 [(0, .ref (a 0)), (1, .int x1), (2, .int x2)] [] := by
  intro n
  induction n with
  | zero => intro x2 v h; exact absurd h (by simp [F_X8_goOn_L2])
  | succ n ih =>
    intro x2 v h
    rw [F_X8_goOn_L2] at h
    refine G.iload_n C dX8_goOn_2 2 rfl ?_
    refine G.iload_n C dX8_goOn_3 1 rfl ?_
    refine G.icmp_ge (tgt := 17) C dX8_goOn_4 (by decide) h (fun h => ?_) (fun h => ?_)
    · exact hR _ (Option.some.inj h) _ _ dX8_goOn_17
    · refine G.aload_n C dX8_goOn_7 0 rfl ?_
      obtain ⟨q8, hq8, h⟩ := bind_some' h
      refine G.cvV (i0 := 0) (j0 := 0) (cs' := [wModel t a q8]) C (c_X8_oneTap (a := a) hq8) [0] rfl rfl rfl rfl rfl rfl rfl k_1248 cal_X8_oneTap (fit_rm (by decide) (by decide)) rfl (Nat.le_of_ble_eq_true rfl) dX8_goOn_8 ?_
      refine G.iinc (v := (x2 + (1 : Int32))) (lv' := [(2, .int (x2 + (1 : Int32))), (0, .ref (a 0)), (1, .int x1)]) C dX8_goOn_11 2 rfl (by rw [ni_1]) (by decide) rfl ?_
      refine G.goto (tgt := 2) C dX8_goOn_14 (by decide) ?_
      exact G.lvs [1, 2, 0] rfl (ih _ _ h)
set_option maxHeartbeats 2000000 in
set_option maxRecDepth 20000 in
theorem c_X8_goOn {t : Nat → ClassId} {a : Nat → Nat} {N : Nat} {v : SV} {x1 : Int32} {r : SV} (h : F_X8_goOn N v x1 = some r) : CV t yX8_goOn cX8_goOn 3 none (rm 6) [.ref (a 0), .int x1] [wModel t a v] [wModel t a r] := by
  refine CV.of (own := RX8) (by decide) rfl (Nat.le_of_ble_eq_true rfl) (fun X C hR0 => ?_)
  have hR : ∀ q : SV, q = r → RetV X cX8_goOn [wModel t a q] := by intro q e; subst e; exact hR0
  show G X [wModel t a v] 0 [(0, .ref (a 0)), (1, .int x1)] []
  unfold F_X8_goOn at h
  refine G.iconst C dX8_goOn_0 ni_0 ?_
  refine G.istore_n (lv' := [(2, .int (0 : Int32)), (0, .ref (a 0)), (1, .int x1)]) C dX8_goOn_1 (by decide) rfl ?_
  exact G.lvs [1, 2, 0] rfl (w_X8_goOn_L2 C hR N _ _ h)
set_option maxHeartbeats 2000000 in
set_option maxRecDepth 20000 in
theorem c_X8_isWhat {t : Nat → ClassId} {N : Nat} {x0 : Int32} {r : Int32} (h : F_X8_isWhat N x0 = some r) : CI t yX8_isWhat cX8_isWhat 1 (some .boolean) (rm 2) [.int x0] [] r [] := by
  refine CZ.of (own := RX8) (by decide) rfl (Nat.le_of_ble_eq_true rfl) (fun X C hR0 => ?_)
  have hR : ∀ q : Int32, q = r → RetZ X cX8_isWhat q [] := by intro q e; subst e; exact hR0
  show G X [] 0 [(0, .int x0)] []
  unfold F_X8_isWhat at h
  refine G.iload_n C dX8_isWhat_0 0 rfl ?_
  refine G.i2l C dX8_isWhat_1 ?_
  refine G.lconst C dX8_isWhat_2 nl_0 ?_
  refine G.lconst C dX8_isWhat_3 nl_1 ?_
  obtain ⟨q4, hq4, h⟩ := bind_some' h
  refine G.csI (cs' := []) C (c_X8_in hq4) [] rfl rfl rfl rfl k_1154 cal_X8_in (fit_rm (by decide) (by decide)) rfl (Nat.le_of_ble_eq_true rfl) dX8_isWhat_4 ?_
  exact hR _ (Option.some.inj (zr_some h).2) (zr_some h).1 _ _ dX8_isWhat_7
set_option maxHeartbeats 2000000 in
set_option maxRecDepth 20000 in
theorem c_X8_next {t : Nat → ClassId} {a : Nat → Nat} {N : Nat} {v : SV} {x1 : Int32} {r : Int32} (h : F_X8_next N v x1 = some r) : CI t yX8_next cX8_next 4 (some .int) (rm 4) [.ref (a 0), .int x1] [wModel t a v] r [wModel t a v] := by
  refine CI.of (own := RX8) (by decide) rfl (Nat.le_of_ble_eq_true rfl) (fun X C hR0 => ?_)
  have hR : ∀ q : Int32, q = r → RetI X cX8_next q [wModel t a v] := by intro q e; subst e; exact hR0
  show G X [wModel t a v] 0 [(0, .ref (a 0)), (1, .int x1)] []
  unfold F_X8_next at h
  refine G.aload_n C dX8_next_0 0 rfl ?_
  refine gfX8_141 (i := 0) (j := 0) (v := .int (v 0 4)) C rfl rfl rfl dX8_next_1 ?_
  refine G.if_ne (tgt := 10) C dX8_next_4 (by decide) h (fun h => ?_) (fun h => ?_)
  · refine G.iload_n C dX8_next_10 1 rfl ?_
    refine G.i2l C dX8_next_11 ?_
    refine G.lconst C dX8_next_12 nl_0 ?_
    refine G.ldc2 C k_1157 dX8_next_13 ?_
    obtain ⟨q16, hq16, h⟩ := bind_some' h
    refine G.csI (cs' := [wModel t a v]) C (c_X8_in hq16) [] rfl rfl rfl rfl k_1154 cal_X8_in (fit_rm (by decide) (by decide)) rfl (Nat.le_of_ble_eq_true rfl) dX8_next_16 ?_
    refine G.if_ne (tgt := 25) C dX8_next_19 (by decide) h (fun h => ?_) (fun h => ?_)
    · refine G.aload_n C dX8_next_25 0 rfl ?_
      obtain ⟨q26, hq26, h⟩ := bind_some' h
      refine G.cvI (i0 := 0) (j0 := 0) (cs' := [wModel t a v]) C (c_X8_nextThing (a := a) hq26) [0] rfl rfl rfl rfl rfl rfl rfl k_1252 cal_X8_nextThing (fit_rm (by decide) (by decide)) rfl (Nat.le_of_ble_eq_true rfl) dX8_next_26 ?_
      refine G.istore_n (lv' := [(2, .int q26), (0, .ref (a 0)), (1, .int x1)]) C dX8_next_29 (by decide) rfl ?_
      refine G.iload_n C dX8_next_30 0 rfl ?_
      refine jn_use (fun J => ∀ (u_38 : Unit), J u_38 = some r → G X [wModel t a v] 38 [(1, .int x1), (2, .int q26)] []) h ?_ (fun J38 hJ38 h => ?_)
      · intro u_38 h
        refine G.iload_n C dX8_next_38 0 rfl ?_
        refine G.if_ne (tgt := 46) C dX8_next_39 (by decide) h (fun h => ?_) (fun h => ?_)
        · refine G.iconst C dX8_next_46 ni_0 ?_
          exact hR _ (Option.some.inj h) _ _ dX8_next_47
        · refine G.iload_n C dX8_next_42 1 rfl ?_
          refine G.goto (tgt := 47) C dX8_next_43 (by decide) ?_
          exact hR _ (Option.some.inj h) _ _ dX8_next_47
      refine G.if_lt (tgt := 38) C dX8_next_31 (by decide) h (fun h => ?_) (fun h => ?_)
      · exact G.lvs [2, 0] rfl (hJ38 _ h)
      · refine G.iload_n C dX8_next_34 2 rfl ?_
        refine G.if_ne (tgt := 48) C dX8_next_35 (by decide) h (fun h => ?_) (fun h => ?_)
        · refine G.aload_n C dX8_next_48 1 rfl ?_
          refine G.iload_n C dX8_next_49 0 rfl ?_
          obtain ⟨q50, hq50, h⟩ := bind_some' h
          refine G.cvI (i0 := 0) (j0 := 0) (cs' := [wModel t a v]) C (c_X8_pleasedBy (a := a) hq50) [0] rfl rfl rfl rfl rfl rfl rfl k_1280 cal_X8_pleasedBy (fit_rm (by decide) (by decide)) rfl (Nat.le_of_ble_eq_true rfl) dX8_next_50 ?_
          refine G.istore_n (lv' := [(3, .int q50), (2, .int q26), (0, .ref (a 0)), (1, .int x1)]) C dX8_next_53 (by decide) rfl ?_
          refine G.iload_n C dX8_next_54 3 rfl ?_
          refine G.iconst C dX8_next_55 ni_1 ?_
          refine G.icmp_ne (tgt := 63) C dX8_next_56 (by decide) h (fun h => ?_) (fun h => ?_)
          · refine G.aload_n C dX8_next_63 2 rfl ?_
            refine G.iload_n C dX8_next_64 1 rfl ?_
            refine G.iload_n C dX8_next_65 0 rfl ?_
            obtain ⟨q66, hq66, h⟩ := bind_some' h
            refine G.cvI (i0 := 0) (j0 := 0) (cs' := [wModel t a v]) C (c_X8_clapsFor (a := a) hq66) [0] rfl rfl rfl rfl rfl rfl rfl k_1284 cal_X8_clapsFor (fit_rm (by decide) (by decide)) rfl (Nat.le_of_ble_eq_true rfl) dX8_next_66 ?_
            exact hR _ (Option.some.inj h) _ _ dX8_next_69
          · refine G.iload_n C dX8_next_59 0 rfl ?_
            refine G.goto (tgt := 69) C dX8_next_60 (by decide) ?_
            exact hR _ (Option.some.inj h) _ _ dX8_next_69
        · exact G.lvs [2, 0] rfl (hJ38 _ h)
    · refine G.ldc C k_1158 dX8_next_22 ?_
      exact hR _ (Option.some.inj h) _ _ dX8_next_24
  · refine G.ldc C k_1238 dX8_next_7 ?_
    exact hR _ (Option.some.inj h) _ _ dX8_next_9
set_option maxHeartbeats 2000000 in
set_option maxRecDepth 20000 in
theorem c_X8_ahead {t : Nat → ClassId} {a : Nat → Nat} {N : Nat} {v : SV} {x1 : Int32} {x2 : Int32} {r : Int32 × SV} (h : F_X8_ahead N v x1 x2 = some r) : CI t yX8_ahead cX8_ahead 4 (some .int) (rm 7) [.ref (a 0), .int x1, .int x2] [wModel t a v] (r.1) [wModel t a (r.2)] := by
  refine CI.of (own := RX8) (by decide) rfl (Nat.le_of_ble_eq_true rfl) (fun X C hR0 => ?_)
  have hR : ∀ q : Int32 × SV, q = r → RetI X cX8_ahead (q.1) [wModel t a (q.2)] := by intro q e; subst e; exact hR0
  show G X [wModel t a v] 0 [(0, .ref (a 0)), (1, .int x1), (2, .int x2)] []
  unfold F_X8_ahead at h
  refine G.aload_n C dX8_ahead_0 0 rfl ?_
  refine gfX8_141 (i := 0) (j := 0) (v := .int (v 0 4)) C rfl rfl rfl dX8_ahead_1 ?_
  refine G.if_ne (tgt := 10) C dX8_ahead_4 (by decide) h (fun h => ?_) (fun h => ?_)
  · refine G.iload_n C dX8_ahead_10 1 rfl ?_
    refine G.i2l C dX8_ahead_11 ?_
    refine G.lconst C dX8_ahead_12 nl_0 ?_
    refine G.ldc2 C k_1366 dX8_ahead_13 ?_
    obtain ⟨q16, hq16, h⟩ := bind_some' h
    refine G.csI (cs' := [wModel t a v]) C (c_X8_in hq16) [] rfl rfl rfl rfl k_1154 cal_X8_in (fit_rm (by decide) (by decide)) rfl (Nat.le_of_ble_eq_true rfl) dX8_ahead_16 ?_
    refine G.if_eq (tgt := 34) C dX8_ahead_19 (by decide) h (fun h => ?_) (fun h => ?_)
    · refine G.ldc C k_1158 dX8_ahead_34 ?_
      exact hR _ (Option.some.inj h) _ _ dX8_ahead_36
    · refine G.iload_n C dX8_ahead_22 2 rfl ?_
      refine G.i2l C dX8_ahead_23 ?_
      refine G.lconst C dX8_ahead_24 nl_0 ?_
      refine G.ldc2 C k_1353 dX8_ahead_25 ?_
      obtain ⟨q28, hq28, h⟩ := bind_some' h
      refine G.csI (cs' := [wModel t a v]) C (c_X8_in hq28) [] rfl rfl rfl rfl k_1154 cal_X8_in (fit_rm (by decide) (by decide)) rfl (Nat.le_of_ble_eq_true rfl) dX8_ahead_28 ?_
      refine G.if_ne (tgt := 37) C dX8_ahead_31 (by decide) h (fun h => ?_) (fun h => ?_)
      · refine G.aload_n C dX8_ahead_37 0 rfl ?_
        obtain ⟨q38, hq38, h⟩ := bind_some' h
        refine G.cvV (i0 := 0) (j0 := 0) (cs' := [wModel t a q38]) C (c_X8_putAside (a := a) hq38) [0] rfl rfl rfl rfl rfl rfl rfl k_1367 cal_X8_putAside (fit_rm (by decide) (by decide)) rfl (Nat.le_of_ble_eq_true rfl) dX8_ahead_38 ?_
        refine G.aload_n C dX8_ahead_41 0 rfl ?_
        refine G.iload_n C dX8_ahead_42 1 rfl ?_
        obtain ⟨q43, hq43, h⟩ := bind_some' h
        refine G.cvV (i0 := 0) (j0 := 0) (cs' := [wModel t a q43]) C (c_X8_goOn (a := a) hq43) [0] rfl rfl rfl rfl rfl rfl rfl k_1371 cal_X8_goOn (fit_rm (by decide) (by decide)) rfl (Nat.le_of_ble_eq_true rfl) dX8_ahead_43 ?_
        refine G.aload_n C dX8_ahead_46 0 rfl ?_
        refine G.iload_n C dX8_ahead_47 2 rfl ?_
        obtain ⟨q48, hq48, h⟩ := bind_some' h
        refine G.cvI (i0 := 0) (j0 := 0) (cs' := [wModel t a q43]) C (c_X8_standing (a := a) hq48) [0] rfl rfl rfl rfl rfl rfl rfl k_1354 cal_X8_standing (fit_rm (by decide) (by decide)) rfl (Nat.le_of_ble_eq_true rfl) dX8_ahead_48 ?_
        refine G.istore_n (lv' := [(3, .int q48), (0, .ref (a 0)), (1, .int x1), (2, .int x2)]) C dX8_ahead_51 (by decide) rfl ?_
        refine G.aload_n C dX8_ahead_52 1 rfl ?_
        obtain ⟨q53, hq53, h⟩ := bind_some' h
        refine G.cvV (i0 := 0) (j0 := 0) (cs' := [wModel t a q53]) C (c_X8_takeBack (a := a) hq53) [0] rfl rfl rfl rfl rfl rfl rfl k_1375 cal_X8_takeBack (fit_rm (by decide) (by decide)) rfl (Nat.le_of_ble_eq_true rfl) dX8_ahead_53 ?_
        refine G.iload_n C dX8_ahead_56 0 rfl ?_
        exact hR _ (Option.some.inj h) _ _ dX8_ahead_57
      · refine G.ldc C k_1158 dX8_ahead_34 ?_
        exact hR _ (Option.some.inj h) _ _ dX8_ahead_36
  · refine G.ldc C k_1238 dX8_ahead_7 ?_
    exact hR _ (Option.some.inj h) _ _ dX8_ahead_9
set_option maxHeartbeats 2000000 in
set_option maxRecDepth 20000 in
theorem w_X8_when_L29 {X : Cx} {t : Nat → ClassId} {a : Nat → Nat} {N : Nat} {x1 : Int32} {x2 : Int32} {K58 : Int32 → SV → Option (Int32 × SV)} {r : Int32 × SV} (C : gX X t (rm 6) cX8_when 5 RX8) (hR : ∀ q : Int32 × SV, q = r → RetI X cX8_when (q.1) [wModel t a (q.2)]) (hK58 : ∀ (x3_58 : Int32) (v_58 : SV), K58 x3_58 v_58 = some r → G X [wModel t a v_58] 58 [(0, .ref (a 0)), (1, .int x1), (2, .int x2), (3, .int x3_58)] []) : ∀ (n : Nat) (x3 : Int32) (v : SV), F_X8_when_L29 N x1 x2 K58 n x3 v = some r → G X [wModel t a v] 29 [(0, .ref (a 0)), (1, .int x1), (2, .int x2), (3, .int x3)] [] := by
  intro n
  induction n with
  | zero => intro x3 v h; exact absurd h (by simp [F_X8_when_L29])
  | succ n ih =>
    intro x3 v h
    rw [F_X8_when_L29] at h
    refine G.aload_n C dX8_when_29 0 rfl ?_
    refine gfX8_19 (i := 0) (j := 0) (v := .ref (a 4)) C rfl rfl rfl dX8_when_30 ?_
    refine G.bipush C dX8_when_33 nb_49 ?_
    refine G.iload_n C dX8_when_35 1 rfl ?_
    refine G.iadd C dX8_when_36 ?_
    refine G.iald (i := 0) (j := 4) (f := (v 4)) C rfl rfl h dX8_when_37 (fun h => ?_)
    refine G.iload_n C dX8_when_38 2 rfl ?_
    refine G.icmp_eq (tgt := 58) C dX8_when_39 (by decide) h (fun h => ?_) (fun h => ?_)
    · exact G.lvs [0, 1, 2, 3] rfl (hK58 _ _ h)
    · refine G.iload_n C dX8_when_42 3 rfl ?_
      refine G.bipush C dX8_when_43 nb_60 ?_
      refine G.icmp_ge (tgt := 58) C dX8_when_45 (by decide) h (fun h => ?_) (fun h => ?_)
      · exact G.lvs [0, 1, 2, 3] rfl (hK58 _ _ h)
      · refine G.aload_n C dX8_when_48 0 rfl ?_
        obtain ⟨q49, hq49, h⟩ := bind_some' h
        refine G.cvV (i0 := 0) (j0 := 0) (cs' := [wModel t a q49]) C (c_X8_oneTap (a := a) hq49) [0] rfl rfl rfl rfl rfl rfl rfl k_1248 cal_X8_oneTap (fit_rm (by decide) (by decide)) rfl (Nat.le_of_ble_eq_true rfl) dX8_when_49 ?_
        refine G.iinc (v := (x3 + (1 : Int32))) (lv' := [(3, .int (x3 + (1 : Int32))), (0, .ref (a 0)), (1, .int x1), (2, .int x2)]) C dX8_when_52 3 rfl (by rw [ni_1]) (by decide) rfl ?_
        refine G.goto (tgt := 29) C dX8_when_55 (by decide) ?_
        exact G.lvs [1, 2, 3, 0] rfl (ih _ _ h)
set_option maxHeartbeats 2000000 in
set_option maxRecDepth 20000 in
theorem c_X8_when {t : Nat → ClassId} {a : Nat → Nat} {N : Nat} {v : SV} {x1 : Int32} {x2 : Int32} {r : Int32 × SV} (h : F_X8_when N v x1 x2 = some r) : CI t yX8_when cX8_when 5 (some .int) (rm 6) [.ref (a 0), .int x1, .int x2] [wModel t a v] (r.1) [wModel t a (r.2)] := by
  refine CI.of (own := RX8) (by decide) rfl (Nat.le_of_ble_eq_true rfl) (fun X C hR0 => ?_)
  have hR : ∀ q : Int32 × SV, q = r → RetI X cX8_when (q.1) [wModel t a (q.2)] := by intro q e; subst e; exact hR0
  show G X [wModel t a v] 0 [(0, .ref (a 0)), (1, .int x1), (2, .int x2)] []
  unfold F_X8_when at h
  refine G.aload_n C dX8_when_0 0 rfl ?_
  refine G.iload_n C dX8_when_1 1 rfl ?_
  obtain ⟨q2, hq2, h⟩ := bind_some' h
  refine G.cvI (i0 := 0) (j0 := 0) (cs' := [wModel t a v]) C (c_X8_isSeat (a := a) hq2) [0] rfl rfl rfl rfl rfl rfl rfl k_1327 cal_X8_isSeat (fit_rm (by decide) (by decide)) rfl (Nat.le_of_ble_eq_true rfl) dX8_when_2 ?_
  refine G.if_eq (tgt := 20) C dX8_when_5 (by decide) h (fun h => ?_) (fun h => ?_)
  · refine G.ldc C k_1158 dX8_when_20 ?_
    exact hR _ (Option.some.inj h) _ _ dX8_when_22
  · refine G.iload_n C dX8_when_8 2 rfl ?_
    refine G.i2l C dX8_when_9 ?_
    refine G.lconst C dX8_when_10 nl_1 ?_
    refine G.ldc2 C k_1157 dX8_when_11 ?_
    obtain ⟨q14, hq14, h⟩ := bind_some' h
    refine G.csI (cs' := [wModel t a v]) C (c_X8_in hq14) [] rfl rfl rfl rfl k_1154 cal_X8_in (fit_rm (by decide) (by decide)) rfl (Nat.le_of_ble_eq_true rfl) dX8_when_14 ?_
    refine G.if_ne (tgt := 23) C dX8_when_17 (by decide) h (fun h => ?_) (fun h => ?_)
    · refine G.aload_n C dX8_when_23 0 rfl ?_
      obtain ⟨q24, hq24, h⟩ := bind_some' h
      refine G.cvV (i0 := 0) (j0 := 0) (cs' := [wModel t a q24]) C (c_X8_putAside (a := a) hq24) [0] rfl rfl rfl rfl rfl rfl rfl k_1367 cal_X8_putAside (fit_rm (by decide) (by decide)) rfl (Nat.le_of_ble_eq_true rfl) dX8_when_24 ?_
      refine G.iconst C dX8_when_27 ni_0 ?_
      refine G.istore_n (lv' := [(3, .int (0 : Int32)), (0, .ref (a 0)), (1, .int x1), (2, .int x2)]) C dX8_when_28 (by decide) rfl ?_
      refine G.lvs [1, 2, 3, 0] rfl (w_X8_when_L29 C hR (fun x3_58 v_58 h => ?_) N _ _ h)
      · refine G.aload_n C dX8_when_58 0 rfl ?_
        refine gfX8_19 (i := 0) (j := 0) (v := .ref (a 4)) C rfl rfl rfl dX8_when_59 ?_
        refine G.bipush C dX8_when_62 nb_49 ?_
        refine G.iload_n C dX8_when_64 1 rfl ?_
        refine G.iadd C dX8_when_65 ?_
        refine G.iald (i := 0) (j := 4) (f := (v_58 4)) C rfl rfl h dX8_when_66 (fun h => ?_)
        refine G.iload_n C dX8_when_67 2 rfl ?_
        refine jn_use (fun J => ∀ (s76_0 : Int32), J s76_0 = some r → G X [wModel t a v_58] 76 [(0, .ref (a 0)), (3, .int x3_58)] [.int s76_0]) h ?_ (fun J76 hJ76 h => ?_)
        · intro s76_0 h
          refine G.istore (lv' := [(4, .int s76_0), (0, .ref (a 0)), (3, .int x3_58)]) C dX8_when_76 (by decide) rfl ?_
          refine G.aload_n C dX8_when_78 1 rfl ?_
          obtain ⟨q79, hq79, h⟩ := bind_some' h
          refine G.cvV (i0 := 0) (j0 := 0) (cs' := [wModel t a q79]) C (c_X8_takeBack (a := a) hq79) [0] rfl rfl rfl rfl rfl rfl rfl k_1375 cal_X8_takeBack (fit_rm (by decide) (by decide)) rfl (Nat.le_of_ble_eq_true rfl) dX8_when_79 ?_
          refine G.iload C dX8_when_82 0 rfl ?_
          refine G.if_eq (tgt := 91) C dX8_when_84 (by decide) h (fun h => ?_) (fun h => ?_)
          · refine G.ldc C k_1256 dX8_when_91 ?_
            exact hR _ (Option.some.inj h) _ _ dX8_when_93
          · refine G.iload_n C dX8_when_87 2 rfl ?_
            refine G.goto (tgt := 93) C dX8_when_88 (by decide) ?_
            exact hR _ (Option.some.inj h) _ _ dX8_when_93
        refine G.icmp_ne (tgt := 75) C dX8_when_68 (by decide) h (fun h => ?_) (fun h => ?_)
        · refine G.iconst C dX8_when_75 ni_0 ?_
          exact G.lvs [0, 3] rfl (hJ76 _ h)
        · refine G.iconst C dX8_when_71 ni_1 ?_
          refine G.goto (tgt := 76) C dX8_when_72 (by decide) ?_
          exact G.lvs [0, 3] rfl (hJ76 _ h)
    · refine G.ldc C k_1158 dX8_when_20 ?_
      exact hR _ (Option.some.inj h) _ _ dX8_when_22
set_option maxHeartbeats 2000000 in
set_option maxRecDepth 20000 in
theorem w_X8_comes_L20 {X : Cx} {t : Nat → ClassId} {a : Nat → Nat} {N : Nat} {x1 : Int32} {K54 : Int32 → SV → Option (Int32 × SV)} {r : Int32 × SV} (C : gX X t (rm 6) cX8_comes 4 RX8) (hR : ∀ q : Int32 × SV, q = r → RetI X cX8_comes (q.1) [wModel t a (q.2)]) (hK54 : ∀ (x2_54 : Int32) (v_54 : SV), K54 x2_54 v_54 = some r → G X [wModel t a v_54] 54 [(0, .ref (a 0)), (2, .int x2_54)] []) : ∀ (n : Nat) (x2 : Int32) (x3 : Int32) (v : SV), F_X8_comes_L20 N x1 K54 n x2 x3 v = some r → G X [wModel t a v] 20 [(0, .ref (a 0)), (1, .int x1), (2, .int x2), (3, .int x3)] [] := by
  intro n
  induction n with
  | zero => intro x2 x3 v h; exact absurd h (by simp [F_X8_comes_L20])
  | succ n ih =>
    intro x2 x3 v h
    rw [F_X8_comes_L20] at h
    refine G.iload_n C dX8_comes_20 3 rfl ?_
    refine G.bipush C dX8_comes_21 nb_60 ?_
    refine G.icmp_gt (tgt := 54) C dX8_comes_23 (by decide) h (fun h => ?_) (fun h => ?_)
    · exact G.lvs [0, 2] rfl (hK54 _ _ h)
    · refine G.iload_n C dX8_comes_26 2 rfl ?_
      refine G.if_ge (tgt := 54) C dX8_comes_27 (by decide) h (fun h => ?_) (fun h => ?_)
      · exact G.lvs [0, 2] rfl (hK54 _ _ h)
      · refine G.aload_n C dX8_comes_30 0 rfl ?_
        obtain ⟨q31, hq31, h⟩ := bind_some' h
        refine G.cvI (i0 := 0) (j0 := 0) (cs' := [wModel t a v]) C (c_X8_nextThing (a := a) hq31) [0] rfl rfl rfl rfl rfl rfl rfl k_1252 cal_X8_nextThing (fit_rm (by decide) (by decide)) rfl (Nat.le_of_ble_eq_true rfl) dX8_comes_31 ?_
        refine G.iload_n C dX8_comes_34 1 rfl ?_
        refine jn_use (fun J => ∀ (s43_0 : Int32), J s43_0 = some r → G X [wModel t a v] 43 [(0, .ref (a 0)), (1, .int x1), (3, .int x3)] [.int s43_0]) h ?_ (fun J43 hJ43 h => ?_)
        · intro s43_0 h
          refine G.istore_n (lv' := [(2, .int s43_0), (0, .ref (a 0)), (1, .int x1), (3, .int x3)]) C dX8_comes_43 (by decide) rfl ?_
          refine G.aload_n C dX8_comes_44 1 rfl ?_
          obtain ⟨q45, hq45, h⟩ := bind_some' h
          refine G.cvV (i0 := 0) (j0 := 0) (cs' := [wModel t a q45]) C (c_X8_oneTap (a := a) hq45) [0] rfl rfl rfl rfl rfl rfl rfl k_1248 cal_X8_oneTap (fit_rm (by decide) (by decide)) rfl (Nat.le_of_ble_eq_true rfl) dX8_comes_45 ?_
          refine G.iinc (v := (x3 + (1 : Int32))) (lv' := [(3, .int (x3 + (1 : Int32))), (2, .int s43_0), (0, .ref (a 0)), (1, .int x1)]) C dX8_comes_48 3 rfl (by rw [ni_1]) (by decide) rfl ?_
          refine G.goto (tgt := 20) C dX8_comes_51 (by decide) ?_
          exact G.lvs [2, 3, 1, 0] rfl (ih _ _ _ h)
        refine G.icmp_ne (tgt := 42) C dX8_comes_35 (by decide) h (fun h => ?_) (fun h => ?_)
        · refine G.iload_n C dX8_comes_42 2 rfl ?_
          exact G.lvs [0, 1, 3] rfl (hJ43 _ h)
        · refine G.iload_n C dX8_comes_38 3 rfl ?_
          refine G.goto (tgt := 43) C dX8_comes_39 (by decide) ?_
          exact G.lvs [0, 1, 3] rfl (hJ43 _ h)
set_option maxHeartbeats 2000000 in
set_option maxRecDepth 20000 in
theorem c_X8_comes {t : Nat → ClassId} {a : Nat → Nat} {N : Nat} {v : SV} {x1 : Int32} {r : Int32 × SV} (h : F_X8_comes N v x1 = some r) : CI t yX8_comes cX8_comes 4 (some .int) (rm 6) [.ref (a 0), .int x1] [wModel t a v] (r.1) [wModel t a (r.2)] := by
  refine CI.of (own := RX8) (by decide) rfl (Nat.le_of_ble_eq_true rfl) (fun X C hR0 => ?_)
  have hR : ∀ q : Int32 × SV, q = r → RetI X cX8_comes (q.1) [wModel t a (q.2)] := by intro q e; subst e; exact hR0
  show G X [wModel t a v] 0 [(0, .ref (a 0)), (1, .int x1)] []
  unfold F_X8_comes at h
  refine G.aload_n C dX8_comes_0 0 rfl ?_
  refine G.iload_n C dX8_comes_1 1 rfl ?_
  obtain ⟨q2, hq2, h⟩ := bind_some' h
  refine G.cvI (i0 := 0) (j0 := 0) (cs' := [wModel t a v]) C (c_X8_isThing (a := a) hq2) [0] rfl rfl rfl rfl rfl rfl rfl k_1307 cal_X8_isThing (fit_rm (by decide) (by decide)) rfl (Nat.le_of_ble_eq_true rfl) dX8_comes_2 ?_
  refine G.if_ne (tgt := 11) C dX8_comes_5 (by decide) h (fun h => ?_) (fun h => ?_)
  · refine G.aload_n C dX8_comes_11 0 rfl ?_
    obtain ⟨q12, hq12, h⟩ := bind_some' h
    refine G.cvV (i0 := 0) (j0 := 0) (cs' := [wModel t a q12]) C (c_X8_putAside (a := a) hq12) [0] rfl rfl rfl rfl rfl rfl rfl k_1367 cal_X8_putAside (fit_rm (by decide) (by decide)) rfl (Nat.le_of_ble_eq_true rfl) dX8_comes_12 ?_
    refine G.ldc C k_1256 dX8_comes_15 ?_
    refine G.istore_n (lv' := [(2, .int (-1000000 : Int32)), (0, .ref (a 0)), (1, .int x1)]) C dX8_comes_17 (by decide) rfl ?_
    refine G.iconst C dX8_comes_18 ni_1 ?_
    refine G.istore_n (lv' := [(3, .int (1 : Int32)), (2, .int (-1000000 : Int32)), (0, .ref (a 0)), (1, .int x1)]) C dX8_comes_19 (by decide) rfl ?_
    refine G.lvs [2, 3, 1, 0] rfl (w_X8_comes_L20 C hR (fun x2_54 v_54 h => ?_) N _ _ _ h)
    · refine G.aload_n C dX8_comes_54 0 rfl ?_
      obtain ⟨q55, hq55, h⟩ := bind_some' h
      refine G.cvV (i0 := 0) (j0 := 0) (cs' := [wModel t a q55]) C (c_X8_takeBack (a := a) hq55) [0] rfl rfl rfl rfl rfl rfl rfl k_1375 cal_X8_takeBack (fit_rm (by decide) (by decide)) rfl (Nat.le_of_ble_eq_true rfl) dX8_comes_55 ?_
      refine G.iload_n C dX8_comes_58 1 rfl ?_
      exact hR _ (Option.some.inj h) _ _ dX8_comes_59
  · refine G.ldc C k_1158 dX8_comes_8 ?_
    exact hR _ (Option.some.inj h) _ _ dX8_comes_10
set_option maxHeartbeats 2000000 in
set_option maxRecDepth 20000 in
theorem c_X8_change {t : Nat → ClassId} {a : Nat → Nat} {N : Nat} {v : SV} {x1 : Int32} {x2 : Int32} {r : SV} (h : F_X8_change N v x1 x2 = some r) : CV t yX8_change cX8_change 4 none (rm 1) [.ref (a 0), .int x1, .int x2] [wModel t a v] [wModel t a r] := by
  refine CV.of (own := RX8) (by decide) rfl (Nat.le_of_ble_eq_true rfl) (fun X C hR0 => ?_)
  have hR : ∀ q : SV, q = r → RetV X cX8_change [wModel t a q] := by intro q e; subst e; exact hR0
  show G X [wModel t a v] 0 [(0, .ref (a 0)), (1, .int x1), (2, .int x2)] []
  unfold F_X8_change at h
  refine G.aload_n C dX8_change_0 0 rfl ?_
  refine gfX8_37 (i := 0) (j := 0) (v := .ref (a 10)) C rfl rfl rfl dX8_change_1 ?_
  refine G.iload_n C dX8_change_4 1 rfl ?_
  refine G.iald (i := 0) (j := 10) (f := (v 10)) C rfl rfl h dX8_change_5 (fun h => ?_)
  refine G.istore_n (lv' := [(3, .int ((v 10) (x1.toNatClampNeg))), (0, .ref (a 0)), (1, .int x1), (2, .int x2)]) C dX8_change_6 (by decide) rfl ?_
  refine G.aload_n C dX8_change_7 1 rfl ?_
  refine gfX8_37 (i := 0) (j := 0) (v := .ref (a 10)) C rfl rfl rfl dX8_change_8 ?_
  refine G.iload_n C dX8_change_11 2 rfl ?_
  refine G.aload_n C dX8_change_12 1 rfl ?_
  refine gfX8_37 (i := 0) (j := 0) (v := .ref (a 10)) C rfl rfl rfl dX8_change_13 ?_
  refine G.iload_n C dX8_change_16 3 rfl ?_
  refine G.iald (i := 0) (j := 10) (f := (v 10)) C rfl rfl h dX8_change_17 (fun h => ?_)
  refine G.iast (i := 0) (j := 10) (f := v 10) (cs' := [wModel t a (up2 v 10 (x1.toNatClampNeg) ((v 10) (x2.toNatClampNeg)))]) C rfl rfl h dX8_change_18 (suModelA_10) rfl (fun h => ?_)
  refine G.aload_n C dX8_change_19 1 rfl ?_
  refine gfX8_37 (i := 0) (j := 0) (v := .ref (a 10)) C rfl rfl rfl dX8_change_20 ?_
  refine G.iload_n C dX8_change_23 3 rfl ?_
  refine G.iload_n C dX8_change_24 0 rfl ?_
  refine G.iast (i := 0) (j := 10) (f := (up2 v 10 (x1.toNatClampNeg) ((v 10) (x2.toNatClampNeg))) 10) (cs' := [wModel t a (up2 (up2 v 10 (x1.toNatClampNeg) ((v 10) (x2.toNatClampNeg))) 10 (x2.toNatClampNeg) ((v 10) (x1.toNatClampNeg)))]) C rfl rfl h dX8_change_25 (suModelA_10) rfl (fun h => ?_)
  exact hR _ (Option.some.inj h) _ _ dX8_change_26
set_option maxHeartbeats 2000000 in
set_option maxRecDepth 20000 in
theorem w_X8_isNext_L4 {X : Cx} {t : Nat → ClassId} {a : Nat → Nat} {N : Nat} {v : SV} {x1 : Int32} {K31 : Int32 → Option (Int32 × SV)} {r : Int32 × SV} (C : gX X t (rm 2) cX8_isNext 6 RX8) (hR : ∀ q : Int32 × SV, q = r → RetZ X cX8_isNext (q.1) [wModel t a (q.2)]) (hK31 : ∀ (x2_31 : Int32), K31 x2_31 = some r → G X [wModel t a v] 31 [(0, .ref (a 0)), (1, .int x1), (2, .int x2_31)] []) : ∀ (n : Nat) (x2 : Int32), F_X8_isNext_L4 N v x1 K31 n x2 = some r → G X [wModel t a v] 4 [(0, .ref (a 0)), (1, .int x1), (2, .int x2)] [] := by
  intro n
  induction n with
  | zero => intro x2 h; exact absurd h (by simp [F_X8_isNext_L4])
  | succ n ih =>
    intro x2 h
    rw [F_X8_isNext_L4] at h
    refine G.iload_n C dX8_isNext_4 2 rfl ?_
    refine G.if_lt (tgt := 31) C dX8_isNext_5 (by decide) h (fun h => ?_) (fun h => ?_)
    · exact G.lvs [0, 1, 2] rfl (hK31 _ h)
    · refine G.aload_n C dX8_isNext_8 0 rfl ?_
      refine gfX8_37 (i := 0) (j := 0) (v := .ref (a 10)) C rfl rfl rfl dX8_isNext_9 ?_
      refine G.iload_n C dX8_isNext_12 2 rfl ?_
      refine G.iald (i := 0) (j := 10) (f := (v 10)) C rfl rfl h dX8_isNext_13 (fun h => ?_)
      refine G.aload_n C dX8_isNext_14 0 rfl ?_
      refine gfX8_37 (i := 0) (j := 0) (v := .ref (a 10)) C rfl rfl rfl dX8_isNext_15 ?_
      refine G.iload_n C dX8_isNext_18 2 rfl ?_
      refine G.iconst C dX8_isNext_19 ni_1 ?_
      refine G.iadd C dX8_isNext_20 ?_
      refine G.iald (i := 0) (j := 10) (f := (v 10)) C rfl rfl h dX8_isNext_21 (fun h => ?_)
      refine G.icmp_le (tgt := 31) C dX8_isNext_22 (by decide) h (fun h => ?_) (fun h => ?_)
      · exact G.lvs [0, 1, 2] rfl (hK31 _ h)
      · refine G.iinc (v := (x2 + (-1 : Int32))) (lv' := [(2, .int (x2 + (-1 : Int32))), (0, .ref (a 0)), (1, .int x1)]) C dX8_isNext_25 2 rfl (by rw [ni_m1]) (by decide) rfl ?_
        refine G.goto (tgt := 4) C dX8_isNext_28 (by decide) ?_
        exact G.lvs [1, 2, 0] rfl (ih _ h)
set_option maxHeartbeats 2000000 in
set_option maxRecDepth 20000 in
theorem w_X8_isNext_L41 {X : Cx} {t : Nat → ClassId} {a : Nat → Nat} {N : Nat} {v : SV} {x1 : Int32} {x2 : Int32} {K62 : Int32 → Option (Int32 × SV)} {r : Int32 × SV} (C : gX X t (rm 2) cX8_isNext 6 RX8) (hR : ∀ q : Int32 × SV, q = r → RetZ X cX8_isNext (q.1) [wModel t a (q.2)]) (hK62 : ∀ (x3_62 : Int32), K62 x3_62 = some r → G X [wModel t a v] 62 [(0, .ref (a 0)), (1, .int x1), (2, .int x2), (3, .int x3_62)] []) : ∀ (n : Nat) (x3 : Int32), F_X8_isNext_L41 N v x1 x2 K62 n x3 = some r → G X [wModel t a v] 41 [(0, .ref (a 0)), (1, .int x1), (2, .int x2), (3, .int x3)] [] := by
  intro n
  induction n with
  | zero => intro x3 h; exact absurd h (by simp [F_X8_isNext_L41])
  | succ n ih =>
    intro x3 h
    rw [F_X8_isNext_L41] at h
    refine G.aload_n C dX8_isNext_41 0 rfl ?_
    refine gfX8_37 (i := 0) (j := 0) (v := .ref (a 10)) C rfl rfl rfl dX8_isNext_42 ?_
    refine G.iload_n C dX8_isNext_45 3 rfl ?_
    refine G.iald (i := 0) (j := 10) (f := (v 10)) C rfl rfl h dX8_isNext_46 (fun h => ?_)
    refine G.aload_n C dX8_isNext_47 0 rfl ?_
    refine gfX8_37 (i := 0) (j := 0) (v := .ref (a 10)) C rfl rfl rfl dX8_isNext_48 ?_
    refine G.iload_n C dX8_isNext_51 2 rfl ?_
    refine G.iald (i := 0) (j := 10) (f := (v 10)) C rfl rfl h dX8_isNext_52 (fun h => ?_)
    refine G.icmp_ge (tgt := 62) C dX8_isNext_53 (by decide) h (fun h => ?_) (fun h => ?_)
    · exact G.lvs [0, 1, 2, 3] rfl (hK62 _ h)
    · refine G.iinc (v := (x3 + (-1 : Int32))) (lv' := [(3, .int (x3 + (-1 : Int32))), (0, .ref (a 0)), (1, .int x1), (2, .int x2)]) C dX8_isNext_56 3 rfl (by rw [ni_m1]) (by decide) rfl ?_
      refine G.goto (tgt := 41) C dX8_isNext_59 (by decide) ?_
      exact G.lvs [1, 2, 3, 0] rfl (ih _ h)
set_option maxHeartbeats 2000000 in
set_option maxRecDepth 20000 in
theorem w_X8_isNext_L78 {X : Cx} {t : Nat → ClassId} {a : Nat → Nat} {N : Nat} {r : Int32 × SV} (C : gX X t (rm 2) cX8_isNext 6 RX8) (hR : ∀ q : Int32 × SV, q = r → RetZ X cX8_isNext (q.1) [wModel t a (q.2)]) : ∀ (n : Nat) (x4 : Int32) (x5 : Int32) (v : SV), F_X8_isNext_L78 N  n x4 x5 v = some r → G X [wModel t a v] 78 [(0, .ref (a 0)), (4, .int x4), (5, .int x5)] [] := by
  intro n
  induction n with
  | zero => intro x4 x5 v h; exact absurd h (by simp [F_X8_isNext_L78])
  | succ n ih =>
    intro x4 x5 v h
    rw [F_X8_isNext_L78] at h
    refine G.iload C dX8_isNext_78 1 rfl ?_
    refine G.iload C dX8_isNext_80 2 rfl ?_
    refine G.icmp_ge (tgt := 102) C dX8_isNext_82 (by decide) h (fun h => ?_) (fun h => ?_)
    · refine G.iconst C dX8_isNext_102 ni_1 ?_
      exact hR _ (Option.some.inj h) (Or.inr rfl) _ _ dX8_isNext_103
    · refine G.aload_n C dX8_isNext_85 0 rfl ?_
      refine G.iload C dX8_isNext_86 1 rfl ?_
      refine G.iload C dX8_isNext_88 2 rfl ?_
      obtain ⟨q90, hq90, h⟩ := bind_some' h
      refine G.cvV (i0 := 0) (j0 := 0) (cs' := [wModel t a q90]) C (c_X8_change (a := a) hq90) [0] rfl rfl rfl rfl rfl rfl rfl k_1395 cal_X8_change (fit_rm (by decide) (by decide)) rfl (Nat.le_of_ble_eq_true rfl) dX8_isNext_90 ?_
      refine G.iinc (v := (x4 + (1 : Int32))) (lv' := [(4, .int (x4 + (1 : Int32))), (0, .ref (a 0)), (5, .int x5)]) C dX8_isNext_93 1 rfl (by rw [ni_1]) (by decide) rfl ?_
      refine G.iinc (v := (x5 + (-1 : Int32))) (lv' := [(5, .int (x5 + (-1 : Int32))), (4, .int (x4 + (1 : Int32))), (0, .ref (a 0))]) C dX8_isNext_96 2 rfl (by rw [ni_m1]) (by decide) rfl ?_
      refine G.goto (tgt := 78) C dX8_isNext_99 (by decide) ?_
      exact G.lvs [2, 1, 0] rfl (ih _ _ _ h)
set_option maxHeartbeats 2000000 in
set_option maxRecDepth 20000 in
theorem c_X8_isNext {t : Nat → ClassId} {a : Nat → Nat} {N : Nat} {v : SV} {x1 : Int32} {r : Int32 × SV} (h : F_X8_isNext N v x1 = some r) : CI t yX8_isNext cX8_isNext 6 (some .boolean) (rm 2) [.ref (a 0), .int x1] [wModel t a v] (r.1) [wModel t a (r.2)] := by
  refine CZ.of (own := RX8) (by decide) rfl (Nat.le_of_ble_eq_true rfl) (fun X C hR0 => ?_)
  have hR : ∀ q : Int32 × SV, q = r → RetZ X cX8_isNext (q.1) [wModel t a (q.2)] := by intro q e; subst e; exact hR0
  show G X [wModel t a v] 0 [(0, .ref (a 0)), (1, .int x1)] []
  unfold F_X8_isNext at h
  refine G.iload_n C dX8_isNext_0 1 rfl ?_
  refine G.iconst C dX8_isNext_1 ni_2 ?_
  refine G.isub C dX8_isNext_2 ?_
  refine G.istore_n (lv' := [(2, .int (x1 - (2 : Int32))), (0, .ref (a 0)), (1, .int x1)]) C dX8_isNext_3 (by decide) rfl ?_
  refine G.lvs [1, 2, 0] rfl (w_X8_isNext_L4 C hR (fun x2_31 h => ?_) N _ h)
  · refine G.iload_n C dX8_isNext_31 2 rfl ?_
    refine G.if_ge (tgt := 37) C dX8_isNext_32 (by decide) h (fun h => ?_) (fun h => ?_)
    · refine G.iload_n C dX8_isNext_37 1 rfl ?_
      refine G.iconst C dX8_isNext_38 ni_1 ?_
      refine G.isub C dX8_isNext_39 ?_
      refine G.istore_n (lv' := [(3, .int (x1 - (1 : Int32))), (0, .ref (a 0)), (1, .int x1), (2, .int x2_31)]) C dX8_isNext_40 (by decide) rfl ?_
      refine G.lvs [1, 2, 3, 0] rfl (w_X8_isNext_L41 C hR (fun x3_62 h => ?_) N _ h)
      · refine G.aload_n C dX8_isNext_62 0 rfl ?_
        refine G.iload_n C dX8_isNext_63 2 rfl ?_
        refine G.iload_n C dX8_isNext_64 3 rfl ?_
        obtain ⟨q65, hq65, h⟩ := bind_some' h
        refine G.cvV (i0 := 0) (j0 := 0) (cs' := [wModel t a q65]) C (c_X8_change (a := a) hq65) [0] rfl rfl rfl rfl rfl rfl rfl k_1395 cal_X8_change (fit_rm (by decide) (by decide)) rfl (Nat.le_of_ble_eq_true rfl) dX8_isNext_65 ?_
        refine G.iload_n C dX8_isNext_68 2 rfl ?_
        refine G.iconst C dX8_isNext_69 ni_1 ?_
        refine G.iadd C dX8_isNext_70 ?_
        refine G.istore (lv' := [(4, .int (x2_31 + (1 : Int32))), (0, .ref (a 0)), (1, .int x1), (2, .int x2_31), (3, .int x3_62)]) C dX8_isNext_71 (by decide) rfl ?_
        refine G.iload_n C dX8_isNext_73 2 rfl ?_
        refine G.iconst C dX8_isNext_74 ni_1 ?_
        refine G.isub C dX8_isNext_75 ?_
        refine G.istore (lv' := [(5, .int (x1 - (1 : Int32))), (4, .int (x2_31 + (1 : Int32))), (0, .ref (a 0)), (1, .int x1), (2, .int x2_31), (3, .int x3_62)]) C dX8_isNext_76 (by decide) rfl ?_
        exact G.lvs [2, 1, 0] rfl (w_X8_isNext_L78 C hR N _ _ _ h)
    · refine G.iconst C dX8_isNext_35 ni_0 ?_
      exact hR _ (Option.some.inj h) (Or.inl rfl) _ _ dX8_isNext_36
set_option maxHeartbeats 2000000 in
set_option maxRecDepth 20000 in
theorem w_X8_order_L27 {X : Cx} {t : Nat → ClassId} {a : Nat → Nat} {N : Nat} {x1 : Int32} {K61 : Int32 → SV → Option (Int32 × SV)} {r : Int32 × SV} (C : gX X t (rm 5) cX8_order 7 RX8) (hR : ∀ q : Int32 × SV, q = r → RetI X cX8_order (q.1) [wModel t a (q.2)]) (hK61 : ∀ (x2_61 : Int32) (v_61 : SV), K61 x2_61 v_61 = some r → G X [wModel t a v_61] 61 [(0, .ref (a 0)), (1, .int x1), (2, .int x2_61)] []) : ∀ (n : Nat) (x2 : Int32) (x3 : Int32) (v : SV), F_X8_order_L27 N x1 K61 n x2 x3 v = some r → G X [wModel t a v] 27 [(0, .ref (a 0)), (1, .int x1), (2, .int x2), (3, .int x3)] [] := by
  intro n
  induction n with
  | zero => intro x2 x3 v h; exact absurd h (by simp [F_X8_order_L27])
  | succ n ih =>
    intro x2 x3 v h
    rw [F_X8_order_L27] at h
    refine G.iload_n C dX8_order_27 3 rfl ?_
    refine G.aload_n C dX8_order_28 0 rfl ?_
    refine gfX8_19 (i := 0) (j := 0) (v := .ref (a 4)) C rfl rfl rfl dX8_order_29 ?_
    refine G.iconst C dX8_order_32 ni_2 ?_
    refine G.iald (i := 0) (j := 4) (f := (v 4)) C rfl rfl h dX8_order_33 (fun h => ?_)
    refine G.icmp_ge (tgt := 61) C dX8_order_34 (by decide) h (fun h => ?_) (fun h => ?_)
    · exact G.lvs [0, 1, 2] rfl (hK61 _ _ h)
    · refine G.aload_n C dX8_order_37 0 rfl ?_
      refine G.iload_n C dX8_order_38 3 rfl ?_
      obtain ⟨q39, hq39, h⟩ := bind_some' h
      refine G.cvI (i0 := 0) (j0 := 0) (cs' := [wModel t a v]) C (c_X8_placeOf (a := a) hq39) [0] rfl rfl rfl rfl rfl rfl rfl k_1295 cal_X8_placeOf (fit_rm (by decide) (by decide)) rfl (Nat.le_of_ble_eq_true rfl) dX8_order_39 ?_
      refine jn_use (fun J => ∀ (x2_55 : Int32) (v_55 : SV), J x2_55 v_55 = some r → G X [wModel t a v_55] 55 [(0, .ref (a 0)), (1, .int x1), (2, .int x2_55), (3, .int x3)] []) h ?_ (fun J55 hJ55 h => ?_)
      · intro x2_55 v_55 h
        refine G.iinc (v := (x3 + (1 : Int32))) (lv' := [(3, .int (x3 + (1 : Int32))), (0, .ref (a 0)), (1, .int x1), (2, .int x2_55)]) C dX8_order_55 3 rfl (by rw [ni_1]) (by decide) rfl ?_
        refine G.goto (tgt := 27) C dX8_order_58 (by decide) ?_
        exact G.lvs [1, 2, 3, 0] rfl (ih _ _ _ h)
      refine G.if_lt (tgt := 55) C dX8_order_42 (by decide) h (fun h => ?_) (fun h => ?_)
      · exact G.lvs [0, 1, 2, 3] rfl (hJ55 _ _ h)
      · refine G.aload_n C dX8_order_45 0 rfl ?_
        refine gfX8_37 (i := 0) (j := 0) (v := .ref (a 10)) C rfl rfl rfl dX8_order_46 ?_
        refine G.iload_n C dX8_order_49 2 rfl ?_
        refine G.iload_n C dX8_order_50 3 rfl ?_
        refine G.iast (i := 0) (j := 10) (f := v 10) (cs' := [wModel t a (up2 v 10 (x2.toNatClampNeg) x3)]) C rfl rfl h dX8_order_51 (suModelA_10) rfl (fun h => ?_)
        refine G.iinc (v := (x2 + (1 : Int32))) (lv' := [(2, .int (x2 + (1 : Int32))), (0, .ref (a 0)), (1, .int x1), (3, .int x3)]) C dX8_order_52 2 rfl (by rw [ni_1]) (by decide) rfl ?_
        exact G.lvs [1, 2, 0, 3] rfl (hJ55 _ _ h)
set_option maxHeartbeats 2000000 in
set_option maxRecDepth 20000 in
theorem w_X8_order_L77 {X : Cx} {t : Nat → ClassId} {a : Nat → Nat} {N : Nat} {x1 : Int32} {x2 : Int32} {x3 : Int32} {x4 : Int32} {K101 : SV → Option (Int32 × SV)} {r : Int32 × SV} (C : gX X t (rm 5) cX8_order 7 RX8) (hR : ∀ q : Int32 × SV, q = r → RetI X cX8_order (q.1) [wModel t a (q.2)]) (hK101 : ∀ (v_101 : SV), K101 v_101 = some r → G X [wModel t a v_101] 101 [(0, .ref (a 0)), (1, .int x1), (2, .int x2), (3, .int x3), (4, .int x4)] []) : ∀ (n : Nat) (x6 : Int32) (v : SV), F_X8_order_L77 N x1 x2 x3 x4 K101 n x6 v = some r → G X [wModel t a v] 77 [(0, .ref (a 0)), (1, .int x1), (2, .int x2), (3, .int x3), (4, .int x4), (6, .int x6)] [] := by
  intro n
  induction n with
  | zero => intro x6 v h; exact absurd h (by simp [F_X8_order_L77])
  | succ n ih =>
    intro x6 v h
    rw [F_X8_order_L77] at h
    refine G.iload C dX8_order_77 5 rfl ?_
    refine G.iload_n C dX8_order_79 2 rfl ?_
    refine G.icmp_ge (tgt := 101) C dX8_order_80 (by decide) h (fun h => ?_) (fun h => ?_)
    · exact G.lvs [0, 1, 2, 3, 4] rfl (hK101 _ h)
    · refine G.aload_n C dX8_order_83 0 rfl ?_
      refine G.aload_n C dX8_order_84 0 rfl ?_
      refine gfX8_37 (i := 0) (j := 0) (v := .ref (a 10)) C rfl rfl rfl dX8_order_85 ?_
      refine G.iload C dX8_order_88 5 rfl ?_
      refine G.iald (i := 0) (j := 10) (f := (v 10)) C rfl rfl h dX8_order_90 (fun h => ?_)
      refine G.iconst C dX8_order_91 ni_0 ?_
      obtain ⟨q92, hq92, h⟩ := bind_some' h
      refine G.cvV (i0 := 0) (j0 := 0) (cs' := [wModel t a q92]) C (c_X8_tapWith (a := a) hq92) [0] rfl rfl rfl rfl rfl rfl rfl k_1268 cal_X8_tapWith (fit_rm (by decide) (by decide)) rfl (Nat.le_of_ble_eq_true rfl) dX8_order_92 ?_
      refine G.iinc (v := (x6 + (1 : Int32))) (lv' := [(6, .int (x6 + (1 : Int32))), (0, .ref (a 0)), (1, .int x1), (2, .int x2), (3, .int x3), (4, .int x4)]) C dX8_order_95 5 rfl (by rw [ni_1]) (by decide) rfl ?_
      refine G.goto (tgt := 77) C dX8_order_98 (by decide) ?_
      exact G.lvs [1, 2, 3, 4, 5, 0] rfl (ih _ _ h)
set_option maxHeartbeats 2000000 in
set_option maxRecDepth 20000 in
theorem w_X8_order_L128 {X : Cx} {t : Nat → ClassId} {a : Nat → Nat} {N : Nat} {x1 : Int32} {x2 : Int32} {x3 : Int32} {x4 : Int32} {K154 : SV → Option (Int32 × SV)} {r : Int32 × SV} (C : gX X t (rm 5) cX8_order 7 RX8) (hR : ∀ q : Int32 × SV, q = r → RetI X cX8_order (q.1) [wModel t a (q.2)]) (hK154 : ∀ (v_154 : SV), K154 v_154 = some r → G X [wModel t a v_154] 154 [(0, .ref (a 0)), (1, .int x1), (2, .int x2), (3, .int x3), (4, .int x4)] []) : ∀ (n : Nat) (x6 : Int32) (v : SV), F_X8_order_L128 N x1 x2 x3 x4 K154 n x6 v = some r → G X [wModel t a v] 128 [(0, .ref (a 0)), (1, .int x1), (2, .int x2), (3, .int x3), (4, .int x4), (6, .int x6)] [] := by
  intro n
  induction n with
  | zero => intro x6 v h; exact absurd h (by simp [F_X8_order_L128])
  | succ n ih =>
    intro x6 v h
    rw [F_X8_order_L128] at h
    refine G.iload C dX8_order_128 5 rfl ?_
    refine G.iload_n C dX8_order_130 2 rfl ?_
    refine G.icmp_ge (tgt := 154) C dX8_order_131 (by decide) h (fun h => ?_) (fun h => ?_)
    · exact G.lvs [0, 1, 2, 3, 4] rfl (hK154 _ h)
    · refine G.aload_n C dX8_order_134 0 rfl ?_
      refine gfX8_40 (i := 0) (j := 0) (v := .ref (a 11)) C rfl rfl rfl dX8_order_135 ?_
      refine G.iload C dX8_order_138 5 rfl ?_
      refine G.aload_n C dX8_order_140 0 rfl ?_
      refine gfX8_37 (i := 0) (j := 0) (v := .ref (a 10)) C rfl rfl rfl dX8_order_141 ?_
      refine G.iload C dX8_order_144 5 rfl ?_
      refine G.iald (i := 0) (j := 10) (f := (v 10)) C rfl rfl h dX8_order_146 (fun h => ?_)
      refine G.iast (i := 0) (j := 11) (f := v 11) (cs' := [wModel t a (up2 v 11 (x6.toNatClampNeg) ((v 10) (x6.toNatClampNeg)))]) C rfl rfl h dX8_order_147 (suModelA_11) rfl (fun h => ?_)
      refine G.iinc (v := (x6 + (1 : Int32))) (lv' := [(6, .int (x6 + (1 : Int32))), (0, .ref (a 0)), (1, .int x1), (2, .int x2), (3, .int x3), (4, .int x4)]) C dX8_order_148 5 rfl (by rw [ni_1]) (by decide) rfl ?_
      refine G.goto (tgt := 128) C dX8_order_151 (by decide) ?_
      exact G.lvs [1, 2, 3, 4, 5, 0] rfl (ih _ _ h)
set_option maxHeartbeats 2000000 in
set_option maxRecDepth 20000 in
theorem w_X8_order_L69 {X : Cx} {t : Nat → ClassId} {a : Nat → Nat} {N : Nat} {x1 : Int32} {x2 : Int32} {K168 : Int32 → Int32 → SV → Option (Int32 × SV)} {r : Int32 × SV} (C : gX X t (rm 5) cX8_order 7 RX8) (hR : ∀ q : Int32 × SV, q = r → RetI X cX8_order (q.1) [wModel t a (q.2)]) (hK168 : ∀ (x3_168 : Int32) (x4_168 : Int32) (v_168 : SV), K168 x3_168 x4_168 v_168 = some r → G X [wModel t a v_168] 168 [(0, .ref (a 0)), (1, .int x1), (2, .int x2), (3, .int x3_168), (4, .int x4_168)] []) : ∀ (n : Nat) (x3 : Int32) (x4 : Int32) (x5 : Int32) (v : SV), F_X8_order_L69 N x1 x2 K168 n x3 x4 x5 v = some r → G X [wModel t a v] 69 [(0, .ref (a 0)), (1, .int x1), (2, .int x2), (3, .int x3), (4, .int x4), (5, .int x5)] [] := by
  intro n
  induction n with
  | zero => intro x3 x4 x5 v h; exact absurd h (by simp [F_X8_order_L69])
  | succ n ih =>
    intro x3 x4 x5 v h
    rw [F_X8_order_L69] at h
    refine G.iload C dX8_order_69 5 rfl ?_
    refine G.if_eq (tgt := 168) C dX8_order_71 (by decide) h (fun h => ?_) (fun h => ?_)
    · exact G.lvs [0, 1, 2, 3, 4] rfl (hK168 _ _ _ h)
    · refine G.iconst C dX8_order_74 ni_0 ?_
      refine G.istore (lv' := [(6, .int (0 : Int32)), (0, .ref (a 0)), (1, .int x1), (2, .int x2), (3, .int x3), (4, .int x4), (5, .int x5)]) C dX8_order_75 (by decide) rfl ?_
      refine G.lvs [1, 2, 3, 4, 5, 0] rfl (w_X8_order_L77 C hR (fun v_101 h => ?_) N _ _ h)
      · refine G.aload_n C dX8_order_101 0 rfl ?_
        refine gfX8_19 (i := 0) (j := 0) (v := .ref (a 4)) C rfl rfl rfl dX8_order_102 ?_
        refine G.iconst C dX8_order_105 ni_5 ?_
        refine G.iald (i := 0) (j := 4) (f := (v_101 4)) C rfl rfl h dX8_order_106 (fun h => ?_)
        refine G.iload_n C dX8_order_107 3 rfl ?_
        refine jn_use (fun J => ∀ (x3_154 : Int32) (x4_154 : Int32) (v_154 : SV), J x3_154 x4_154 v_154 = some r → G X [wModel t a v_154] 154 [(0, .ref (a 0)), (1, .int x1), (2, .int x2), (3, .int x3_154), (4, .int x4_154)] []) h ?_ (fun J154 hJ154 h => ?_)
        · intro x3_154 x4_154 v_154 h
          refine G.aload_n C dX8_order_154 0 rfl ?_
          obtain ⟨q155, hq155, h⟩ := bind_some' h
          refine G.cvV (i0 := 0) (j0 := 0) (cs' := [wModel t a q155]) C (c_X8_takeBack (a := a) hq155) [0] rfl rfl rfl rfl rfl rfl rfl k_1375 cal_X8_takeBack (fit_rm (by decide) (by decide)) rfl (Nat.le_of_ble_eq_true rfl) dX8_order_155 ?_
          refine G.aload_n C dX8_order_158 0 rfl ?_
          refine G.iload_n C dX8_order_159 2 rfl ?_
          obtain ⟨q160, hq160, h⟩ := bind_some' h
          refine G.cvI (i0 := 0) (j0 := 0) (cs' := [wModel t a (q160.2)]) C (c_X8_isNext (a := a) hq160) [0] rfl rfl rfl rfl rfl rfl rfl k_1391 cal_X8_isNext (fit_rm (by decide) (by decide)) rfl (Nat.le_of_ble_eq_true rfl) dX8_order_160 ?_
          refine G.istore (lv' := [(5, .int (q160.1)), (0, .ref (a 0)), (1, .int x1), (2, .int x2), (3, .int x3_154), (4, .int x4_154)]) C dX8_order_163 (by decide) rfl ?_
          refine G.goto (tgt := 69) C dX8_order_165 (by decide) ?_
          exact G.lvs [1, 2, 3, 4, 5, 0] rfl (ih _ _ _ _ h)
        refine G.icmp_le (tgt := 154) C dX8_order_108 (by decide) h (fun h => ?_) (fun h => ?_)
        · exact G.lvs [0, 1, 2, 3, 4] rfl (hJ154 _ _ _ h)
        · refine G.aload_n C dX8_order_111 0 rfl ?_
          refine gfX8_19 (i := 0) (j := 0) (v := .ref (a 4)) C rfl rfl rfl dX8_order_112 ?_
          refine G.iconst C dX8_order_115 ni_5 ?_
          refine G.iald (i := 0) (j := 4) (f := (v_101 4)) C rfl rfl h dX8_order_116 (fun h => ?_)
          refine G.istore_n (lv' := [(3, .int ((v_101 4) ((5 : Int32).toNatClampNeg))), (0, .ref (a 0)), (1, .int x1), (2, .int x2), (4, .int x4)]) C dX8_order_117 (by decide) rfl ?_
          refine G.aload_n C dX8_order_118 1 rfl ?_
          refine G.iconst C dX8_order_119 ni_1 ?_
          obtain ⟨q120, hq120, h⟩ := bind_some' h
          refine G.cvI (i0 := 0) (j0 := 0) (cs' := [wModel t a v_101]) C (c_X8_seatsOf (a := a) hq120) [0] rfl rfl rfl rfl rfl rfl rfl k_1276 cal_X8_seatsOf (fit_rm (by decide) (by decide)) rfl (Nat.le_of_ble_eq_true rfl) dX8_order_120 ?_
          refine G.istore (lv' := [(4, .int q120), (3, .int ((v_101 4) ((5 : Int32).toNatClampNeg))), (0, .ref (a 0)), (1, .int x1), (2, .int x2)]) C dX8_order_123 (by decide) rfl ?_
          refine G.iconst C dX8_order_125 ni_0 ?_
          refine G.istore (lv' := [(6, .int (0 : Int32)), (4, .int q120), (3, .int ((v_101 4) ((5 : Int32).toNatClampNeg))), (0, .ref (a 0)), (1, .int x1), (2, .int x2)]) C dX8_order_126 (by decide) rfl ?_
          refine G.lvs [3, 4, 5, 2, 1, 0] rfl (w_X8_order_L128 C hR (fun v_154 h => ?_) N _ _ h)
          · exact G.lvs [0, 1, 2, 3, 4] rfl (hJ154 _ _ _ h)
set_option maxHeartbeats 2000000 in
set_option maxRecDepth 20000 in
theorem c_X8_order {t : Nat → ClassId} {a : Nat → Nat} {N : Nat} {v : SV} {x1 : Int32} {r : Int32 × SV} (h : F_X8_order N v x1 = some r) : CI t yX8_order cX8_order 7 (some .int) (rm 5) [.ref (a 0), .int x1] [wModel t a v] (r.1) [wModel t a (r.2)] := by
  refine CI.of (own := RX8) (by decide) rfl (Nat.le_of_ble_eq_true rfl) (fun X C hR0 => ?_)
  have hR : ∀ q : Int32 × SV, q = r → RetI X cX8_order (q.1) [wModel t a (q.2)] := by intro q e; subst e; exact hR0
  show G X [wModel t a v] 0 [(0, .ref (a 0)), (1, .int x1)] []
  unfold F_X8_order at h
  refine G.aload_n C dX8_order_0 0 rfl ?_
  refine gfX8_141 (i := 0) (j := 0) (v := .int (v 0 4)) C rfl rfl rfl dX8_order_1 ?_
  refine G.if_ne (tgt := 10) C dX8_order_4 (by decide) h (fun h => ?_) (fun h => ?_)
  · refine G.iload_n C dX8_order_10 1 rfl ?_
    refine G.bipush C dX8_order_11 nb_m2 ?_
    refine G.icmp_ge (tgt := 19) C dX8_order_13 (by decide) h (fun h => ?_) (fun h => ?_)
    · refine G.aload_n C dX8_order_19 0 rfl ?_
      obtain ⟨q20, hq20, h⟩ := bind_some' h
      refine G.cvV (i0 := 0) (j0 := 0) (cs' := [wModel t a q20]) C (c_X8_putAside (a := a) hq20) [0] rfl rfl rfl rfl rfl rfl rfl k_1367 cal_X8_putAside (fit_rm (by decide) (by decide)) rfl (Nat.le_of_ble_eq_true rfl) dX8_order_20 ?_
      refine G.iconst C dX8_order_23 ni_0 ?_
      refine G.istore_n (lv' := [(2, .int (0 : Int32)), (0, .ref (a 0)), (1, .int x1)]) C dX8_order_24 (by decide) rfl ?_
      refine G.iconst C dX8_order_25 ni_0 ?_
      refine G.istore_n (lv' := [(3, .int (0 : Int32)), (2, .int (0 : Int32)), (0, .ref (a 0)), (1, .int x1)]) C dX8_order_26 (by decide) rfl ?_
      refine G.lvs [2, 3, 1, 0] rfl (w_X8_order_L27 C hR (fun x2_61 v_61 h => ?_) N _ _ _ h)
      · refine G.iconst C dX8_order_61 ni_m1 ?_
        refine G.istore_n (lv' := [(3, .int (-1 : Int32)), (0, .ref (a 0)), (1, .int x1), (2, .int x2_61)]) C dX8_order_62 (by decide) rfl ?_
        refine G.iconst C dX8_order_63 ni_0 ?_
        refine G.istore (lv' := [(4, .int (0 : Int32)), (3, .int (-1 : Int32)), (0, .ref (a 0)), (1, .int x1), (2, .int x2_61)]) C dX8_order_64 (by decide) rfl ?_
        refine G.iconst C dX8_order_66 ni_1 ?_
        refine G.istore (lv' := [(5, .int (1 : Int32)), (4, .int (0 : Int32)), (3, .int (-1 : Int32)), (0, .ref (a 0)), (1, .int x1), (2, .int x2_61)]) C dX8_order_67 (by decide) rfl ?_
        refine G.lvs [3, 4, 5, 2, 1, 0] rfl (w_X8_order_L69 C hR (fun x3_168 x4_168 v_168 h => ?_) N _ _ _ _ h)
        · refine G.iload_n C dX8_order_168 1 rfl ?_
          refine G.iconst C dX8_order_169 ni_m1 ?_
          refine G.icmp_ne (tgt := 177) C dX8_order_170 (by decide) h (fun h => ?_) (fun h => ?_)
          · refine G.iload_n C dX8_order_177 1 rfl ?_
            refine G.bipush C dX8_order_178 nb_m2 ?_
            refine G.icmp_ne (tgt := 188) C dX8_order_180 (by decide) h (fun h => ?_) (fun h => ?_)
            · refine G.iload_n C dX8_order_188 1 rfl ?_
              refine G.iload_n C dX8_order_189 2 rfl ?_
              refine G.icmp_ge (tgt := 202) C dX8_order_190 (by decide) h (fun h => ?_) (fun h => ?_)
              · refine G.ldc C k_1256 dX8_order_202 ?_
                exact hR _ (Option.some.inj h) _ _ dX8_order_204
              · refine G.aload_n C dX8_order_193 0 rfl ?_
                refine gfX8_40 (i := 0) (j := 0) (v := .ref (a 11)) C rfl rfl rfl dX8_order_194 ?_
                refine G.iload_n C dX8_order_197 1 rfl ?_
                refine G.iald (i := 0) (j := 11) (f := (v_168 11)) C rfl rfl h dX8_order_198 (fun h => ?_)
                refine G.goto (tgt := 204) C dX8_order_199 (by decide) ?_
                exact hR _ (Option.some.inj h) _ _ dX8_order_204
            · refine G.iload C dX8_order_183 4 rfl ?_
              refine G.goto (tgt := 204) C dX8_order_185 (by decide) ?_
              exact hR _ (Option.some.inj h) _ _ dX8_order_204
          · refine G.iload_n C dX8_order_173 3 rfl ?_
            refine G.goto (tgt := 204) C dX8_order_174 (by decide) ?_
            exact hR _ (Option.some.inj h) _ _ dX8_order_204
    · refine G.ldc C k_1158 dX8_order_16 ?_
      exact hR _ (Option.some.inj h) _ _ dX8_order_18
  · refine G.ldc C k_1238 dX8_order_7 ?_
    exact hR _ (Option.some.inj h) _ _ dX8_order_9
set_option maxHeartbeats 2000000 in
set_option maxRecDepth 20000 in
theorem w_X8_sumOf_L5 {X : Cx} {t : Nat → ClassId} {a : Nat → Nat} {N : Nat} {v : SV} {x1 : Int32} {x2 : Int32} {r : Int32} (C : gX X t (rm 2) cX8_sumOf 5 RX8) (hR : ∀ q : Int32, q = r → RetI X cX8_sumOf q [wModel t a v]) : ∀ (n : Nat) (x3 : Int32) (x4 : Int32), F_X8_sumOf_L5 N v x1 x2 n x3 x4 = some r → G X [wModel t a v] 5 [(0, .ref (a 0)), (1, .int x1), (2, .int x2), (3, .int x3), (4, .int x4)] [] := by
  intro n
  induction n with
  | zero => intro x3 x4 h; exact absurd h (by simp [F_X8_sumOf_L5])
  | succ n ih =>
    intro x3 x4 h
    rw [F_X8_sumOf_L5] at h
    refine G.iload C dX8_sumOf_5 4 rfl ?_
    refine G.aload_n C dX8_sumOf_7 0 rfl ?_
    refine gfX8_19 (i := 0) (j := 0) (v := .ref (a 4)) C rfl rfl rfl dX8_sumOf_8 ?_
    refine G.iconst C dX8_sumOf_11 ni_2 ?_
    refine G.iald (i := 0) (j := 4) (f := (v 4)) C rfl rfl h dX8_sumOf_12 (fun h => ?_)
    refine G.icmp_ge (tgt := 47) C dX8_sumOf_13 (by decide) h (fun h => ?_) (fun h => ?_)
    · refine G.iload_n C dX8_sumOf_47 3 rfl ?_
      exact hR _ (Option.some.inj h) _ _ dX8_sumOf_48
    · refine G.iload_n C dX8_sumOf_16 3 rfl ?_
      refine G.iload_n C dX8_sumOf_17 2 rfl ?_
      refine G.iload C dX8_sumOf_18 4 rfl ?_
      obtain ⟨q20, hq20, h⟩ := bind_some' h
      refine G.csI (cs' := [wModel t a v]) C (c_X8_has hq20) [] rfl rfl rfl rfl k_1288 cal_X8_has (fit_rm (by decide) (by decide)) rfl (Nat.le_of_ble_eq_true rfl) dX8_sumOf_20 ?_
      refine jn_use (fun J => ∀ (s39_0 : Int32), J s39_0 = some r → G X [wModel t a v] 39 [(0, .ref (a 0)), (1, .int x1), (2, .int x2), (4, .int x4)] [.int s39_0, .int x3]) h ?_ (fun J39 hJ39 h => ?_)
      · intro s39_0 h
        refine G.iadd C dX8_sumOf_39 ?_
        refine G.istore_n (lv' := [(3, .int (x3 + s39_0)), (0, .ref (a 0)), (1, .int x1), (2, .int x2), (4, .int x4)]) C dX8_sumOf_40 (by decide) rfl ?_
        refine G.iinc (v := (x4 + (1 : Int32))) (lv' := [(4, .int (x4 + (1 : Int32))), (3, .int (x3 + s39_0)), (0, .ref (a 0)), (1, .int x1), (2, .int x2)]) C dX8_sumOf_41 4 rfl (by rw [ni_1]) (by decide) rfl ?_
        refine G.goto (tgt := 5) C dX8_sumOf_44 (by decide) ?_
        exact G.lvs [2, 3, 4, 1, 0] rfl (ih _ _ h)
      refine G.if_eq (tgt := 38) C dX8_sumOf_23 (by decide) h (fun h => ?_) (fun h => ?_)
      · refine G.iconst C dX8_sumOf_38 ni_0 ?_
        exact G.lvs [0, 1, 2, 4] rfl (hJ39 _ h)
      · refine G.aload_n C dX8_sumOf_26 0 rfl ?_
        refine gfX8_19 (i := 0) (j := 0) (v := .ref (a 4)) C rfl rfl rfl dX8_sumOf_27 ?_
        refine G.iload_n C dX8_sumOf_30 1 rfl ?_
        refine G.iload C dX8_sumOf_31 4 rfl ?_
        refine G.iadd C dX8_sumOf_33 ?_
        refine G.iald (i := 0) (j := 4) (f := (v 4)) C rfl rfl h dX8_sumOf_34 (fun h => ?_)
        refine G.goto (tgt := 39) C dX8_sumOf_35 (by decide) ?_
        exact G.lvs [0, 1, 2, 4] rfl (hJ39 _ h)
set_option maxHeartbeats 2000000 in
set_option maxRecDepth 20000 in
theorem c_X8_sumOf {t : Nat → ClassId} {a : Nat → Nat} {N : Nat} {v : SV} {x1 : Int32} {x2 : Int32} {r : Int32} (h : F_X8_sumOf N v x1 x2 = some r) : CI t yX8_sumOf cX8_sumOf 5 (some .int) (rm 2) [.ref (a 0), .int x1, .int x2] [wModel t a v] r [wModel t a v] := by
  refine CI.of (own := RX8) (by decide) rfl (Nat.le_of_ble_eq_true rfl) (fun X C hR0 => ?_)
  have hR : ∀ q : Int32, q = r → RetI X cX8_sumOf q [wModel t a v] := by intro q e; subst e; exact hR0
  show G X [wModel t a v] 0 [(0, .ref (a 0)), (1, .int x1), (2, .int x2)] []
  unfold F_X8_sumOf at h
  refine G.iconst C dX8_sumOf_0 ni_0 ?_
  refine G.istore_n (lv' := [(3, .int (0 : Int32)), (0, .ref (a 0)), (1, .int x1), (2, .int x2)]) C dX8_sumOf_1 (by decide) rfl ?_
  refine G.iconst C dX8_sumOf_2 ni_0 ?_
  refine G.istore (lv' := [(4, .int (0 : Int32)), (3, .int (0 : Int32)), (0, .ref (a 0)), (1, .int x1), (2, .int x2)]) C dX8_sumOf_3 (by decide) rfl ?_
  exact G.lvs [2, 3, 4, 1, 0] rfl (w_X8_sumOf_L5 C hR N _ _ h)
set_option maxHeartbeats 2000000 in
set_option maxRecDepth 20000 in
theorem w_X8_pack_L24 {X : Cx} {t : Nat → ClassId} {a : Nat → Nat} {N : Nat} {v : SV} {x1 : Int32} {K98 : Int32 → Option (Int32)} {r : Int32} (C : gX X t (rm 3) cX8_pack 5 RX8) (hR : ∀ q : Int32, q = r → RetI X cX8_pack q [wModel t a v]) (hK98 : ∀ (x2_98 : Int32), K98 x2_98 = some r → G X [wModel t a v] 98 [(0, .ref (a 0)), (1, .int x1), (2, .int x2_98)] []) : ∀ (n : Nat) (x2 : Int32) (x3 : Int32), F_X8_pack_L24 N v x1 K98 n x2 x3 = some r → G X [wModel t a v] 24 [(0, .ref (a 0)), (1, .int x1), (2, .int x2), (3, .int x3)] [] := by
  intro n
  induction n with
  | zero => intro x2 x3 h; exact absurd h (by simp [F_X8_pack_L24])
  | succ n ih =>
    intro x2 x3 h
    rw [F_X8_pack_L24] at h
    refine G.iload_n C dX8_pack_24 3 rfl ?_
    refine G.iconst C dX8_pack_25 ni_1 ?_
    refine G.aload_n C dX8_pack_26 0 rfl ?_
    refine gfX8_19 (i := 0) (j := 0) (v := .ref (a 4)) C rfl rfl rfl dX8_pack_27 ?_
    refine G.iconst C dX8_pack_30 ni_2 ?_
    refine G.iald (i := 0) (j := 4) (f := (v 4)) C rfl rfl h dX8_pack_31 (fun h => ?_)
    refine G.ishl C dX8_pack_32 ?_
    refine G.icmp_ge (tgt := 98) C dX8_pack_33 (by decide) h (fun h => ?_) (fun h => ?_)
    · exact G.lvs [0, 1, 2] rfl (hK98 _ h)
    · refine G.aload_n C dX8_pack_36 0 rfl ?_
      refine G.bipush C dX8_pack_37 nb_25 ?_
      refine G.iload_n C dX8_pack_39 3 rfl ?_
      obtain ⟨q40, hq40, h⟩ := bind_some' h
      refine G.cvI (i0 := 0) (j0 := 0) (cs' := [wModel t a v]) C (c_X8_sumOf (a := a) hq40) [0] rfl rfl rfl rfl rfl rfl rfl k_1406 cal_X8_sumOf (fit_rm (by decide) (by decide)) rfl (Nat.le_of_ble_eq_true rfl) dX8_pack_40 ?_
      refine G.aload_n C dX8_pack_43 0 rfl ?_
      refine G.bipush C dX8_pack_44 nb_25 ?_
      refine G.iload_n C dX8_pack_46 2 rfl ?_
      obtain ⟨q47, hq47, h⟩ := bind_some' h
      refine G.cvI (i0 := 0) (j0 := 0) (cs' := [wModel t a v]) C (c_X8_sumOf (a := a) hq47) [0] rfl rfl rfl rfl rfl rfl rfl k_1406 cal_X8_sumOf (fit_rm (by decide) (by decide)) rfl (Nat.le_of_ble_eq_true rfl) dX8_pack_47 ?_
      refine G.isub C dX8_pack_50 ?_
      refine G.istore (lv' := [(4, .int (q40 - q47)), (0, .ref (a 0)), (1, .int x1), (2, .int x2), (3, .int x3)]) C dX8_pack_51 (by decide) rfl ?_
      refine G.aload_n C dX8_pack_53 1 rfl ?_
      refine G.bipush C dX8_pack_54 nb_19 ?_
      refine G.iload_n C dX8_pack_56 4 rfl ?_
      obtain ⟨q57, hq57, h⟩ := bind_some' h
      refine G.cvI (i0 := 0) (j0 := 0) (cs' := [wModel t a v]) C (c_X8_sumOf (a := a) hq57) [0] rfl rfl rfl rfl rfl rfl rfl k_1406 cal_X8_sumOf (fit_rm (by decide) (by decide)) rfl (Nat.le_of_ble_eq_true rfl) dX8_pack_57 ?_
      refine G.aload_n C dX8_pack_60 1 rfl ?_
      refine gfX8_19 (i := 0) (j := 0) (v := .ref (a 4)) C rfl rfl rfl dX8_pack_61 ?_
      refine G.iconst C dX8_pack_64 ni_0 ?_
      refine G.iald (i := 0) (j := 4) (f := (v 4)) C rfl rfl h dX8_pack_65 (fun h => ?_)
      refine jn_use (fun J => ∀ (x2_92 : Int32), J x2_92 = some r → G X [wModel t a v] 92 [(0, .ref (a 0)), (1, .int x1), (2, .int x2_92), (3, .int x3)] []) h ?_ (fun J92 hJ92 h => ?_)
      · intro x2_92 h
        refine G.iinc (v := (x3 + (1 : Int32))) (lv' := [(3, .int (x3 + (1 : Int32))), (0, .ref (a 0)), (1, .int x1), (2, .int x2_92)]) C dX8_pack_92 3 rfl (by rw [ni_1]) (by decide) rfl ?_
        refine G.goto (tgt := 24) C dX8_pack_95 (by decide) ?_
        exact G.lvs [1, 2, 3, 0] rfl (ih _ _ h)
      refine G.icmp_gt (tgt := 92) C dX8_pack_66 (by decide) h (fun h => ?_) (fun h => ?_)
      · exact G.lvs [1, 2, 3, 4] rfl (hJ92 _ h)
      · refine G.iload C dX8_pack_69 0 rfl ?_
        refine jn_use (fun J => ∀ (u_90 : Unit), J u_90 = some r → G X [wModel t a v] 90 [(0, .ref (a 0)), (1, .int x1), (3, .int x3)] []) h ?_ (fun J90 hJ90 h => ?_)
        · intro u_90 h
          refine G.iload_n C dX8_pack_90 2 rfl ?_
          refine G.istore_n (lv' := [(2, .int x3), (0, .ref (a 0)), (1, .int x1), (3, .int x3)]) C dX8_pack_91 (by decide) rfl ?_
          exact G.lvs [1, 2, 0, 3] rfl (hJ92 _ h)
        refine G.if_gt (tgt := 90) C dX8_pack_71 (by decide) h (fun h => ?_) (fun h => ?_)
        · exact G.lvs [1, 2, 4] rfl (hJ90 _ h)
        · refine G.iload C dX8_pack_74 0 rfl ?_
          refine G.if_ne (tgt := 92) C dX8_pack_76 (by decide) h (fun h => ?_) (fun h => ?_)
          · exact G.lvs [1, 2, 3, 4] rfl (hJ92 _ h)
          · refine G.iload_n C dX8_pack_79 4 rfl ?_
            obtain ⟨q80, hq80, h⟩ := bind_some' h
            refine G.csI (cs' := [wModel t a v]) C (c_X8_ones hq80) [] rfl rfl rfl rfl k_1265 cal_X8_ones (fit_rm (by decide) (by decide)) rfl (Nat.le_of_ble_eq_true rfl) dX8_pack_80 ?_
            refine G.iload_n C dX8_pack_83 3 rfl ?_
            obtain ⟨q84, hq84, h⟩ := bind_some' h
            refine G.csI (cs' := [wModel t a v]) C (c_X8_ones hq84) [] rfl rfl rfl rfl k_1265 cal_X8_ones (fit_rm (by decide) (by decide)) rfl (Nat.le_of_ble_eq_true rfl) dX8_pack_84 ?_
            refine G.icmp_ge (tgt := 92) C dX8_pack_87 (by decide) h (fun h => ?_) (fun h => ?_)
            · exact G.lvs [1, 2, 3, 4] rfl (hJ92 _ h)
            · exact G.lvs [1, 2, 4] rfl (hJ90 _ h)
set_option maxHeartbeats 2000000 in
set_option maxRecDepth 20000 in
theorem c_X8_pack {t : Nat → ClassId} {a : Nat → Nat} {N : Nat} {v : SV} {x1 : Int32} {r : Int32} (h : F_X8_pack N v x1 = some r) : CI t yX8_pack cX8_pack 5 (some .int) (rm 3) [.ref (a 0), .int x1] [wModel t a v] r [wModel t a v] := by
  refine CI.of (own := RX8) (by decide) rfl (Nat.le_of_ble_eq_true rfl) (fun X C hR0 => ?_)
  have hR : ∀ q : Int32, q = r → RetI X cX8_pack q [wModel t a v] := by intro q e; subst e; exact hR0
  show G X [wModel t a v] 0 [(0, .ref (a 0)), (1, .int x1)] []
  unfold F_X8_pack at h
  refine G.aload_n C dX8_pack_0 0 rfl ?_
  refine gfX8_141 (i := 0) (j := 0) (v := .int (v 0 4)) C rfl rfl rfl dX8_pack_1 ?_
  refine G.if_ne (tgt := 10) C dX8_pack_4 (by decide) h (fun h => ?_) (fun h => ?_)
  · refine G.iload_n C dX8_pack_10 1 rfl ?_
    obtain ⟨q11, hq11, h⟩ := bind_some' h
    refine G.csI (cs' := [wModel t a v]) C (c_X8_isWhat hq11) [] rfl rfl rfl rfl k_1403 cal_X8_isWhat (fit_rm (by decide) (by decide)) rfl (Nat.le_of_ble_eq_true rfl) dX8_pack_11 ?_
    refine G.if_ne (tgt := 20) C dX8_pack_14 (by decide) h (fun h => ?_) (fun h => ?_)
    · refine G.iconst C dX8_pack_20 ni_0 ?_
      refine G.istore_n (lv' := [(2, .int (0 : Int32)), (0, .ref (a 0)), (1, .int x1)]) C dX8_pack_21 (by decide) rfl ?_
      refine G.iconst C dX8_pack_22 ni_1 ?_
      refine G.istore_n (lv' := [(3, .int (1 : Int32)), (2, .int (0 : Int32)), (0, .ref (a 0)), (1, .int x1)]) C dX8_pack_23 (by decide) rfl ?_
      refine G.lvs [2, 3, 1, 0] rfl (w_X8_pack_L24 C hR (fun x2_98 h => ?_) N _ _ h)
      · refine G.iload_n C dX8_pack_98 1 rfl ?_
        refine G.if_ne (tgt := 106) C dX8_pack_99 (by decide) h (fun h => ?_) (fun h => ?_)
        · refine G.aload_n C dX8_pack_106 0 rfl ?_
          refine G.bipush C dX8_pack_107 nb_25 ?_
          refine G.iload_n C dX8_pack_109 2 rfl ?_
          obtain ⟨q110, hq110, h⟩ := bind_some' h
          refine G.cvI (i0 := 0) (j0 := 0) (cs' := [wModel t a v]) C (c_X8_sumOf (a := a) hq110) [0] rfl rfl rfl rfl rfl rfl rfl k_1406 cal_X8_sumOf (fit_rm (by decide) (by decide)) rfl (Nat.le_of_ble_eq_true rfl) dX8_pack_110 ?_
          exact hR _ (Option.some.inj h) _ _ dX8_pack_113
        · refine G.iload_n C dX8_pack_102 2 rfl ?_
          refine G.goto (tgt := 113) C dX8_pack_103 (by decide) ?_
          exact hR _ (Option.some.inj h) _ _ dX8_pack_113
    · refine G.ldc C k_1158 dX8_pack_17 ?_
      exact hR _ (Option.some.inj h) _ _ dX8_pack_19
  · refine G.ldc C k_1238 dX8_pack_7 ?_
    exact hR _ (Option.some.inj h) _ _ dX8_pack_9
set_option maxHeartbeats 2000000 in
set_option maxRecDepth 20000 in
theorem w_X8_stockOf_L7 {X : Cx} {t : Nat → ClassId} {a : Nat → Nat} {N : Nat} {v : SV} {x1 : Int32} {K114 : Int32 → Int32 → Option (Int32)} {r : Int32} (C : gX X t (rm 1) cX8_stockOf 7 RX8) (hR : ∀ q : Int32, q = r → RetI X cX8_stockOf q [wModel t a v]) (hK114 : ∀ (x2_114 : Int32) (x3_114 : Int32), K114 x2_114 x3_114 = some r → G X [wModel t a v] 114 [(2, .int x2_114), (3, .int x3_114)] []) : ∀ (n : Nat) (x2 : Int32) (x3 : Int32) (x4 : Int32), F_X8_stockOf_L7 N v x1 K114 n x2 x3 x4 = some r → G X [wModel t a v] 7 [(0, .ref (a 0)), (1, .int x1), (2, .int x2), (3, .int x3), (4, .int x4)] [] := by
  intro n
  induction n with
  | zero => intro x2 x3 x4 h; exact absurd h (by simp [F_X8_stockOf_L7])
  | succ n ih =>
    intro x2 x3 x4 h
    rw [F_X8_stockOf_L7] at h
    refine G.iload C dX8_stockOf_7 4 rfl ?_
    refine G.aload_n C dX8_stockOf_9 0 rfl ?_
    refine gfX8_19 (i := 0) (j := 0) (v := .ref (a 4)) C rfl rfl rfl dX8_stockOf_10 ?_
    refine G.bipush C dX8_stockOf_13 nb_6 ?_
    refine G.iald (i := 0) (j := 4) (f := (v 4)) C rfl rfl h dX8_stockOf_15 (fun h => ?_)
    refine G.icmp_ge (tgt := 114) C dX8_stockOf_16 (by decide) h (fun h => ?_) (fun h => ?_)
    · exact G.lvs [2, 3] rfl (hK114 _ _ h)
    · refine G.aload_n C dX8_stockOf_19 0 rfl ?_
      refine gfX8_19 (i := 0) (j := 0) (v := .ref (a 4)) C rfl rfl rfl dX8_stockOf_20 ?_
      refine G.bipush C dX8_stockOf_23 nb_31 ?_
      refine G.iload C dX8_stockOf_25 4 rfl ?_
      refine G.iadd C dX8_stockOf_27 ?_
      refine G.iald (i := 0) (j := 4) (f := (v 4)) C rfl rfl h dX8_stockOf_28 (fun h => ?_)
      refine G.istore (lv' := [(5, .int ((v 4) (((31 : Int32) + x4).toNatClampNeg))), (0, .ref (a 0)), (1, .int x1), (2, .int x2), (3, .int x3), (4, .int x4)]) C dX8_stockOf_29 (by decide) rfl ?_
      refine G.aload_n C dX8_stockOf_31 1 rfl ?_
      refine gfX8_19 (i := 0) (j := 0) (v := .ref (a 4)) C rfl rfl rfl dX8_stockOf_32 ?_
      refine G.bipush C dX8_stockOf_35 nb_13 ?_
      refine G.iload C dX8_stockOf_37 0 rfl ?_
      refine G.iadd C dX8_stockOf_39 ?_
      refine G.iald (i := 0) (j := 4) (f := (v 4)) C rfl rfl h dX8_stockOf_40 (fun h => ?_)
      refine G.iload_n C dX8_stockOf_41 2 rfl ?_
      refine jn_use (fun J => ∀ (s64_0 : Int32), J s64_0 = some r → G X [wModel t a v] 64 [(0, .ref (a 0)), (1, .int x1), (2, .int x2), (3, .int x3), (4, .int x4), (5, .int ((v 4) (((31 : Int32) + x4).toNatClampNeg)))] [.int s64_0]) h ?_ (fun J64 hJ64 h => ?_)
      · intro s64_0 h
        refine G.istore (lv' := [(6, .int s64_0), (0, .ref (a 0)), (1, .int x1), (2, .int x2), (3, .int x3), (4, .int x4), (5, .int ((v 4) (((31 : Int32) + x4).toNatClampNeg)))]) C dX8_stockOf_64 (by decide) rfl ?_
        refine G.iload_n C dX8_stockOf_66 3 rfl ?_
        refine G.iload C dX8_stockOf_67 0 rfl ?_
        refine jn_use (fun J => ∀ (s77_0 : Int32), J s77_0 = some r → G X [wModel t a v] 77 [(0, .ref (a 0)), (1, .int x1), (3, .int x3), (4, .int x4), (5, .int ((v 4) (((31 : Int32) + x4).toNatClampNeg))), (6, .int s64_0)] [.int s77_0, .int x2]) h ?_ (fun J77 hJ77 h => ?_)
        · intro s77_0 h
          refine G.iadd C dX8_stockOf_77 ?_
          refine G.istore_n (lv' := [(2, .int (x2 + s77_0)), (0, .ref (a 0)), (1, .int x1), (3, .int x3), (4, .int x4), (5, .int ((v 4) (((31 : Int32) + x4).toNatClampNeg))), (6, .int s64_0)]) C dX8_stockOf_78 (by decide) rfl ?_
          refine G.iload_n C dX8_stockOf_79 3 rfl ?_
          refine jn_use (fun J => ∀ (s107_0 : Int32), J s107_0 = some r → G X [wModel t a v] 107 [(0, .ref (a 0)), (1, .int x1), (2, .int (x2 + s77_0)), (4, .int x4)] [.int s107_0]) h ?_ (fun J107 hJ107 h => ?_)
          · intro s107_0 h
            refine G.istore_n (lv' := [(3, .int s107_0), (0, .ref (a 0)), (1, .int x1), (2, .int (x2 + s77_0)), (4, .int x4)]) C dX8_stockOf_107 (by decide) rfl ?_
            refine G.iinc (v := (x4 + (1 : Int32))) (lv' := [(4, .int (x4 + (1 : Int32))), (3, .int s107_0), (0, .ref (a 0)), (1, .int x1), (2, .int (x2 + s77_0))]) C dX8_stockOf_108 4 rfl (by rw [ni_1]) (by decide) rfl ?_
            refine G.goto (tgt := 7) C dX8_stockOf_111 (by decide) ?_
            exact G.lvs [2, 3, 4, 1, 0] rfl (ih _ _ _ h)
          refine jn_use (fun J => ∀ (u_102 : Unit), J u_102 = some r → G X [wModel t a v] 102 [(0, .ref (a 0)), (1, .int x1), (2, .int (x2 + s77_0)), (4, .int x4)] []) h ?_ (fun J102 hJ102 h => ?_)
          · intro u_102 h
            refine G.iconst C dX8_stockOf_102 ni_1 ?_
            refine G.goto (tgt := 107) C dX8_stockOf_103 (by decide) ?_
            exact G.lvs [0, 1, 2, 3] rfl (hJ107 _ h)
          refine G.if_ne (tgt := 102) C dX8_stockOf_80 (by decide) h (fun h => ?_) (fun h => ?_)
          · exact G.lvs [1, 2, 0, 4] rfl (hJ102 _ h)
          · refine G.iload C dX8_stockOf_83 6 rfl ?_
            refine jn_use (fun J => ∀ (u_106 : Unit), J u_106 = some r → G X [wModel t a v] 106 [(0, .ref (a 0)), (1, .int x1), (2, .int (x2 + s77_0)), (4, .int x4)] []) h ?_ (fun J106 hJ106 h => ?_)
            · intro u_106 h
              refine G.iconst C dX8_stockOf_106 ni_0 ?_
              exact G.lvs [0, 1, 2, 3] rfl (hJ107 _ h)
            refine G.if_eq (tgt := 106) C dX8_stockOf_85 (by decide) h (fun h => ?_) (fun h => ?_)
            · exact G.lvs [1, 2, 0, 4] rfl (hJ106 _ h)
            · refine G.aload_n C dX8_stockOf_88 1 rfl ?_
              refine gfX8_19 (i := 0) (j := 0) (v := .ref (a 4)) C rfl rfl rfl dX8_stockOf_89 ?_
              refine G.bipush C dX8_stockOf_92 nb_7 ?_
              refine G.iload C dX8_stockOf_94 5 rfl ?_
              refine G.iadd C dX8_stockOf_96 ?_
              refine G.iald (i := 0) (j := 4) (f := (v 4)) C rfl rfl h dX8_stockOf_97 (fun h => ?_)
              refine G.iconst C dX8_stockOf_98 ni_3 ?_
              refine G.icmp_ne (tgt := 106) C dX8_stockOf_99 (by decide) h (fun h => ?_) (fun h => ?_)
              · exact G.lvs [1, 2, 0, 4] rfl (hJ106 _ h)
              · exact G.lvs [1, 2, 0, 4] rfl (hJ102 _ h)
        refine G.if_eq (tgt := 76) C dX8_stockOf_69 (by decide) h (fun h => ?_) (fun h => ?_)
        · refine G.iconst C dX8_stockOf_76 ni_0 ?_
          exact G.lvs [1, 2, 4, 5, 6, 0] rfl (hJ77 _ h)
        · refine G.iconst C dX8_stockOf_72 ni_1 ?_
          refine G.goto (tgt := 77) C dX8_stockOf_73 (by decide) ?_
          exact G.lvs [1, 2, 4, 5, 6, 0] rfl (hJ77 _ h)
      refine jn_use (fun J => ∀ (u_63 : Unit), J u_63 = some r → G X [wModel t a v] 63 [(0, .ref (a 0)), (1, .int x1), (2, .int x2), (3, .int x3), (4, .int x4), (5, .int ((v 4) (((31 : Int32) + x4).toNatClampNeg)))] []) h ?_ (fun J63 hJ63 h => ?_)
      · intro u_63 h
        refine G.iconst C dX8_stockOf_63 ni_0 ?_
        exact G.lvs [0, 1, 2, 3, 4, 5] rfl (hJ64 _ h)
      refine G.icmp_ne (tgt := 63) C dX8_stockOf_42 (by decide) h (fun h => ?_) (fun h => ?_)
      · exact G.lvs [1, 2, 3, 4, 5, 0] rfl (hJ63 _ h)
      · refine G.aload_n C dX8_stockOf_45 1 rfl ?_
        refine gfX8_19 (i := 0) (j := 0) (v := .ref (a 4)) C rfl rfl rfl dX8_stockOf_46 ?_
        refine G.bipush C dX8_stockOf_49 nb_7 ?_
        refine G.iload C dX8_stockOf_51 0 rfl ?_
        refine G.iadd C dX8_stockOf_53 ?_
        refine G.iald (i := 0) (j := 4) (f := (v 4)) C rfl rfl h dX8_stockOf_54 (fun h => ?_)
        refine G.iconst C dX8_stockOf_55 ni_5 ?_
        refine G.icmp_eq (tgt := 63) C dX8_stockOf_56 (by decide) h (fun h => ?_) (fun h => ?_)
        · exact G.lvs [1, 2, 3, 4, 5, 0] rfl (hJ63 _ h)
        · refine G.iconst C dX8_stockOf_59 ni_1 ?_
          refine G.goto (tgt := 64) C dX8_stockOf_60 (by decide) ?_
          exact G.lvs [1, 2, 3, 4, 5, 0] rfl (hJ64 _ h)
set_option maxHeartbeats 2000000 in
set_option maxRecDepth 20000 in
theorem c_X8_stockOf {t : Nat → ClassId} {a : Nat → Nat} {N : Nat} {v : SV} {x1 : Int32} {r : Int32} (h : F_X8_stockOf N v x1 = some r) : CI t yX8_stockOf cX8_stockOf 7 (some .int) (rm 1) [.ref (a 0), .int x1] [wModel t a v] r [wModel t a v] := by
  refine CI.of (own := RX8) (by decide) rfl (Nat.le_of_ble_eq_true rfl) (fun X C hR0 => ?_)
  have hR : ∀ q : Int32, q = r → RetI X cX8_stockOf q [wModel t a v] := by intro q e; subst e; exact hR0
  show G X [wModel t a v] 0 [(0, .ref (a 0)), (1, .int x1)] []
  unfold F_X8_stockOf at h
  refine G.iconst C dX8_stockOf_0 ni_0 ?_
  refine G.istore_n (lv' := [(2, .int (0 : Int32)), (0, .ref (a 0)), (1, .int x1)]) C dX8_stockOf_1 (by decide) rfl ?_
  refine G.iconst C dX8_stockOf_2 ni_0 ?_
  refine G.istore_n (lv' := [(3, .int (0 : Int32)), (2, .int (0 : Int32)), (0, .ref (a 0)), (1, .int x1)]) C dX8_stockOf_3 (by decide) rfl ?_
  refine G.iconst C dX8_stockOf_4 ni_0 ?_
  refine G.istore (lv' := [(4, .int (0 : Int32)), (3, .int (0 : Int32)), (2, .int (0 : Int32)), (0, .ref (a 0)), (1, .int x1)]) C dX8_stockOf_5 (by decide) rfl ?_
  refine G.lvs [3, 4, 2, 1, 0] rfl (w_X8_stockOf_L7 C hR (fun x2_114 x3_114 h => ?_) N _ _ _ h)
  · refine G.iload_n C dX8_stockOf_114 1 rfl ?_
    refine G.if_eq (tgt := 122) C dX8_stockOf_115 (by decide) h (fun h => ?_) (fun h => ?_)
    · refine G.iload_n C dX8_stockOf_122 0 rfl ?_
      exact hR _ (Option.some.inj h) _ _ dX8_stockOf_123
    · refine G.iconst C dX8_stockOf_118 ni_m1 ?_
      refine G.goto (tgt := 123) C dX8_stockOf_119 (by decide) ?_
      exact hR _ (Option.some.inj h) _ _ dX8_stockOf_123
set_option maxHeartbeats 2000000 in
set_option maxRecDepth 20000 in
theorem w_X8_match_L14 {X : Cx} {t : Nat → ClassId} {a : Nat → Nat} {N : Nat} {v : SV} {r : Int32} (C : gX X t (rm 2) cX8_match 5 RX8) (hR : ∀ q : Int32, q = r → RetI X cX8_match q [wModel t a v]) : ∀ (n : Nat) (x1 : Int32) (x2 : Int32), F_X8_match_L14 N v n x1 x2 = some r → G X [wModel t a v] 14 [(0, .ref (a 0)), (1, .int x1), (2, .int x2)] [] := by
  intro n
  induction n with
  | zero => intro x1 x2 h; exact absurd h (by simp [F_X8_match_L14])
  | succ n ih =>
    intro x1 x2 h
    rw [F_X8_match_L14] at h
    refine G.iload_n C dX8_match_14 2 rfl ?_
    refine G.bipush C dX8_match_15 nb_10 ?_
    refine G.icmp_ge (tgt := 62) C dX8_match_17 (by decide) h (fun h => ?_) (fun h => ?_)
    · refine G.iload_n C dX8_match_62 1 rfl ?_
      exact hR _ (Option.some.inj h) _ _ dX8_match_63
    · refine G.aload_n C dX8_match_20 0 rfl ?_
      refine G.iload_n C dX8_match_21 2 rfl ?_
      obtain ⟨q22, hq22, h⟩ := bind_some' h
      refine G.cvI (i0 := 0) (j0 := 0) (cs' := [wModel t a v]) C (c_X8_wantersOf (a := a) hq22) [0] rfl rfl rfl rfl rfl rfl rfl k_1261 cal_X8_wantersOf (fit_rm (by decide) (by decide)) rfl (Nat.le_of_ble_eq_true rfl) dX8_match_22 ?_
      obtain ⟨q25, hq25, h⟩ := bind_some' h
      refine G.csI (cs' := [wModel t a v]) C (c_X8_ones hq25) [] rfl rfl rfl rfl k_1265 cal_X8_ones (fit_rm (by decide) (by decide)) rfl (Nat.le_of_ble_eq_true rfl) dX8_match_25 ?_
      refine G.istore_n (lv' := [(3, .int q25), (0, .ref (a 0)), (1, .int x1), (2, .int x2)]) C dX8_match_28 (by decide) rfl ?_
      refine G.aload_n C dX8_match_29 1 rfl ?_
      refine G.iload_n C dX8_match_30 3 rfl ?_
      obtain ⟨q31, hq31, h⟩ := bind_some' h
      refine G.cvI (i0 := 0) (j0 := 0) (cs' := [wModel t a v]) C (c_X8_stockOf (a := a) hq31) [0] rfl rfl rfl rfl rfl rfl rfl k_1414 cal_X8_stockOf (fit_rm (by decide) (by decide)) rfl (Nat.le_of_ble_eq_true rfl) dX8_match_31 ?_
      refine G.istore (lv' := [(4, .int q31), (3, .int q25), (0, .ref (a 0)), (1, .int x1), (2, .int x2)]) C dX8_match_34 (by decide) rfl ?_
      refine G.iload_n C dX8_match_36 3 rfl ?_
      refine G.iload C dX8_match_37 0 rfl ?_
      refine jn_use (fun J => ∀ (s54_0 : Int32), J s54_0 = some r → G X [wModel t a v] 54 [(0, .ref (a 0)), (2, .int x2)] [.int s54_0, .int x1]) h ?_ (fun J54 hJ54 h => ?_)
      · intro s54_0 h
        refine G.iadd C dX8_match_54 ?_
        refine G.istore_n (lv' := [(1, .int (x1 + s54_0)), (0, .ref (a 0)), (2, .int x2)]) C dX8_match_55 (by decide) rfl ?_
        refine G.iinc (v := (x2 + (1 : Int32))) (lv' := [(2, .int (x2 + (1 : Int32))), (1, .int (x1 + s54_0)), (0, .ref (a 0))]) C dX8_match_56 2 rfl (by rw [ni_1]) (by decide) rfl ?_
        refine G.goto (tgt := 14) C dX8_match_59 (by decide) ?_
        exact G.lvs [2, 1, 0] rfl (ih _ _ h)
      refine jn_use (fun J => ∀ (u_48 : Unit), J u_48 = some r → G X [wModel t a v] 48 [(0, .ref (a 0)), (2, .int x2), (3, .int q25)] [.int x1]) h ?_ (fun J48 hJ48 h => ?_)
      · intro u_48 h
        refine G.iload_n C dX8_match_48 2 rfl ?_
        refine G.goto (tgt := 54) C dX8_match_49 (by decide) ?_
        exact G.lvs [0, 1] rfl (hJ54 _ h)
      refine G.if_lt (tgt := 48) C dX8_match_39 (by decide) h (fun h => ?_) (fun h => ?_)
      · exact G.lvs [2, 4, 1] rfl (hJ48 _ h)
      · refine G.iload C dX8_match_42 0 rfl ?_
        refine G.iload_n C dX8_match_44 1 rfl ?_
        refine G.icmp_le (tgt := 52) C dX8_match_45 (by decide) h (fun h => ?_) (fun h => ?_)
        · refine G.iload C dX8_match_52 0 rfl ?_
          exact G.lvs [2, 4] rfl (hJ54 _ h)
        · exact G.lvs [2, 4, 1] rfl (hJ48 _ h)
set_option maxHeartbeats 2000000 in
set_option maxRecDepth 20000 in
theorem c_X8_match {t : Nat → ClassId} {a : Nat → Nat} {N : Nat} {v : SV} {r : Int32} (h : F_X8_match N v = some r) : CI t yX8_match cX8_match 5 (some .int) (rm 2) [.ref (a 0)] [wModel t a v] r [wModel t a v] := by
  refine CI.of (own := RX8) (by decide) rfl (Nat.le_of_ble_eq_true rfl) (fun X C hR0 => ?_)
  have hR : ∀ q : Int32, q = r → RetI X cX8_match q [wModel t a v] := by intro q e; subst e; exact hR0
  show G X [wModel t a v] 0 [(0, .ref (a 0))] []
  unfold F_X8_match at h
  refine G.aload_n C dX8_match_0 0 rfl ?_
  refine gfX8_141 (i := 0) (j := 0) (v := .int (v 0 4)) C rfl rfl rfl dX8_match_1 ?_
  refine G.if_ne (tgt := 10) C dX8_match_4 (by decide) h (fun h => ?_) (fun h => ?_)
  · refine G.iconst C dX8_match_10 ni_0 ?_
    refine G.istore_n (lv' := [(1, .int (0 : Int32)), (0, .ref (a 0))]) C dX8_match_11 (by decide) rfl ?_
    refine G.iconst C dX8_match_12 ni_0 ?_
    refine G.istore_n (lv' := [(2, .int (0 : Int32)), (1, .int (0 : Int32)), (0, .ref (a 0))]) C dX8_match_13 (by decide) rfl ?_
    exact G.lvs [2, 1, 0] rfl (w_X8_match_L14 C hR N _ _ h)
  · refine G.ldc C k_1238 dX8_match_7 ?_
    exact hR _ (Option.some.inj h) _ _ dX8_match_9
set_option maxHeartbeats 2000000 in
set_option maxRecDepth 20000 in
theorem w_X8_clear_L82 {X : Cx} {t : Nat → ClassId} {a : Nat → Nat} {N : Nat} {v : SV} {x1 : Int32} {x2 : Int32} {x3 : Int32} {x4 : Int32} {x5 : Int32} {K130 : Int32 → Option (Int32 × SV)} {r : Int32 × SV} (C : gX X t (rm 7) cX8_clear 8 RX8) (hR : ∀ q : Int32 × SV, q = r → RetI X cX8_clear (q.1) [wModel t a (q.2)]) (hK130 : ∀ (x6_130 : Int32), K130 x6_130 = some r → G X [wModel t a v] 130 [(0, .ref (a 0)), (1, .int x1), (2, .int x2), (3, .int x3), (4, .int x4), (5, .int x5), (6, .int x6_130)] []) : ∀ (n : Nat) (x6 : Int32) (x7 : Int32), F_X8_clear_L82 N v x1 x2 x3 x4 x5 K130 n x6 x7 = some r → G X [wModel t a v] 82 [(0, .ref (a 0)), (1, .int x1), (2, .int x2), (3, .int x3), (4, .int x4), (5, .int x5), (6, .int x6), (7, .int x7)] [] := by
  intro n
  induction n with
  | zero => intro x6 x7 h; exact absurd h (by simp [F_X8_clear_L82])
  | succ n ih =>
    intro x6 x7 h
    rw [F_X8_clear_L82] at h
    refine G.iload C dX8_clear_82 7 rfl ?_
    refine G.aload_n C dX8_clear_84 0 rfl ?_
    refine gfX8_19 (i := 0) (j := 0) (v := .ref (a 4)) C rfl rfl rfl dX8_clear_85 ?_
    refine G.iconst C dX8_clear_88 ni_2 ?_
    refine G.iald (i := 0) (j := 4) (f := (v 4)) C rfl rfl h dX8_clear_89 (fun h => ?_)
    refine G.icmp_ge (tgt := 130) C dX8_clear_90 (by decide) h (fun h => ?_) (fun h => ?_)
    · exact G.lvs [0, 1, 2, 3, 4, 5, 6] rfl (hK130 _ h)
    · refine G.iload C dX8_clear_93 6 rfl ?_
      refine jn_use (fun J => ∀ (s122_0 : Int32), J s122_0 = some r → G X [wModel t a v] 122 [(0, .ref (a 0)), (1, .int x1), (2, .int x2), (3, .int x3), (4, .int x4), (5, .int x5), (7, .int x7)] [.int s122_0]) h ?_ (fun J122 hJ122 h => ?_)
      · intro s122_0 h
        refine G.istore (lv' := [(6, .int s122_0), (0, .ref (a 0)), (1, .int x1), (2, .int x2), (3, .int x3), (4, .int x4), (5, .int x5), (7, .int x7)]) C dX8_clear_122 (by decide) rfl ?_
        refine G.iinc (v := (x7 + (1 : Int32))) (lv' := [(7, .int (x7 + (1 : Int32))), (6, .int s122_0), (0, .ref (a 0)), (1, .int x1), (2, .int x2), (3, .int x3), (4, .int x4), (5, .int x5)]) C dX8_clear_124 7 rfl (by rw [ni_1]) (by decide) rfl ?_
        refine G.goto (tgt := 82) C dX8_clear_127 (by decide) ?_
        exact G.lvs [2, 3, 4, 5, 6, 7, 1, 0] rfl (ih _ _ h)
      refine jn_use (fun J => ∀ (u_121 : Unit), J u_121 = some r → G X [wModel t a v] 121 [(0, .ref (a 0)), (1, .int x1), (2, .int x2), (3, .int x3), (4, .int x4), (5, .int x5), (7, .int x7)] []) h ?_ (fun J121 hJ121 h => ?_)
      · intro u_121 h
        refine G.iconst C dX8_clear_121 ni_0 ?_
        exact G.lvs [0, 1, 2, 3, 4, 5, 6] rfl (hJ122 _ h)
      refine G.if_eq (tgt := 121) C dX8_clear_95 (by decide) h (fun h => ?_) (fun h => ?_)
      · exact G.lvs [0, 1, 2, 3, 4, 5, 7] rfl (hJ121 _ h)
      · refine G.iload C dX8_clear_98 5 rfl ?_
        refine G.iload C dX8_clear_100 7 rfl ?_
        obtain ⟨q102, hq102, h⟩ := bind_some' h
        refine G.csI (cs' := [wModel t a v]) C (c_X8_has hq102) [] rfl rfl rfl rfl k_1288 cal_X8_has (fit_rm (by decide) (by decide)) rfl (Nat.le_of_ble_eq_true rfl) dX8_clear_102 ?_
        refine jn_use (fun J => ∀ (u_117 : Unit), J u_117 = some r → G X [wModel t a v] 117 [(0, .ref (a 0)), (1, .int x1), (2, .int x2), (3, .int x3), (4, .int x4), (5, .int x5), (7, .int x7)] []) h ?_ (fun J117 hJ117 h => ?_)
        · intro u_117 h
          refine G.iconst C dX8_clear_117 ni_1 ?_
          refine G.goto (tgt := 122) C dX8_clear_118 (by decide) ?_
          exact G.lvs [0, 1, 2, 3, 4, 5, 6] rfl (hJ122 _ h)
        refine G.if_eq (tgt := 117) C dX8_clear_105 (by decide) h (fun h => ?_) (fun h => ?_)
        · exact G.lvs [0, 1, 2, 3, 4, 5, 7] rfl (hJ117 _ h)
        · refine G.aload_n C dX8_clear_108 0 rfl ?_
          refine G.iload C dX8_clear_109 7 rfl ?_
          obtain ⟨q111, hq111, h⟩ := bind_some' h
          refine G.cvI (i0 := 0) (j0 := 0) (cs' := [wModel t a v]) C (c_X8_placeOf (a := a) hq111) [0] rfl rfl rfl rfl rfl rfl rfl k_1295 cal_X8_placeOf (fit_rm (by decide) (by decide)) rfl (Nat.le_of_ble_eq_true rfl) dX8_clear_111 ?_
          refine G.if_lt (tgt := 121) C dX8_clear_114 (by decide) h (fun h => ?_) (fun h => ?_)
          · exact G.lvs [0, 1, 2, 3, 4, 5, 7] rfl (hJ121 _ h)
          · exact G.lvs [0, 1, 2, 3, 4, 5, 7] rfl (hJ117 _ h)
set_option maxHeartbeats 2000000 in
set_option maxRecDepth 20000 in
theorem w_X8_clear_L138 {X : Cx} {t : Nat → ClassId} {a : Nat → Nat} {N : Nat} {x1 : Int32} {x2 : Int32} {x3 : Int32} {x4 : Int32} {x5 : Int32} {K171 : SV → Option (Int32 × SV)} {r : Int32 × SV} (C : gX X t (rm 7) cX8_clear 8 RX8) (hR : ∀ q : Int32 × SV, q = r → RetI X cX8_clear (q.1) [wModel t a (q.2)]) (hK171 : ∀ (v_171 : SV), K171 v_171 = some r → G X [wModel t a v_171] 171 [(0, .ref (a 0)), (1, .int x1), (2, .int x2), (3, .int x3), (4, .int x4), (5, .int x5)] []) : ∀ (n : Nat) (x7 : Int32) (v : SV), F_X8_clear_L138 N x1 x2 x3 x4 x5 K171 n x7 v = some r → G X [wModel t a v] 138 [(0, .ref (a 0)), (1, .int x1), (2, .int x2), (3, .int x3), (4, .int x4), (5, .int x5), (7, .int x7)] [] := by
  intro n
  induction n with
  | zero => intro x7 v h; exact absurd h (by simp [F_X8_clear_L138])
  | succ n ih =>
    intro x7 v h
    rw [F_X8_clear_L138] at h
    refine G.iload C dX8_clear_138 6 rfl ?_
    refine G.aload_n C dX8_clear_140 0 rfl ?_
    refine gfX8_19 (i := 0) (j := 0) (v := .ref (a 4)) C rfl rfl rfl dX8_clear_141 ?_
    refine G.iconst C dX8_clear_144 ni_2 ?_
    refine G.iald (i := 0) (j := 4) (f := (v 4)) C rfl rfl h dX8_clear_145 (fun h => ?_)
    refine G.icmp_ge (tgt := 171) C dX8_clear_146 (by decide) h (fun h => ?_) (fun h => ?_)
    · exact G.lvs [0, 1, 2, 3, 4, 5] rfl (hK171 _ h)
    · refine G.iload C dX8_clear_149 5 rfl ?_
      refine G.iload C dX8_clear_151 6 rfl ?_
      obtain ⟨q153, hq153, h⟩ := bind_some' h
      refine G.csI (cs' := [wModel t a v]) C (c_X8_has hq153) [] rfl rfl rfl rfl k_1288 cal_X8_has (fit_rm (by decide) (by decide)) rfl (Nat.le_of_ble_eq_true rfl) dX8_clear_153 ?_
      refine jn_use (fun J => ∀ (v_165 : SV), J v_165 = some r → G X [wModel t a v_165] 165 [(0, .ref (a 0)), (1, .int x1), (2, .int x2), (3, .int x3), (4, .int x4), (5, .int x5), (7, .int x7)] []) h ?_ (fun J165 hJ165 h => ?_)
      · intro v_165 h
        refine G.iinc (v := (x7 + (1 : Int32))) (lv' := [(7, .int (x7 + (1 : Int32))), (0, .ref (a 0)), (1, .int x1), (2, .int x2), (3, .int x3), (4, .int x4), (5, .int x5)]) C dX8_clear_165 6 rfl (by rw [ni_1]) (by decide) rfl ?_
        refine G.goto (tgt := 138) C dX8_clear_168 (by decide) ?_
        exact G.lvs [1, 2, 3, 4, 5, 6, 0] rfl (ih _ _ h)
      refine G.if_eq (tgt := 165) C dX8_clear_156 (by decide) h (fun h => ?_) (fun h => ?_)
      · exact G.lvs [0, 1, 2, 3, 4, 5, 6] rfl (hJ165 _ h)
      · refine G.aload_n C dX8_clear_159 0 rfl ?_
        refine G.iload C dX8_clear_160 6 rfl ?_
        obtain ⟨q162, hq162, h⟩ := bind_some' h
        refine G.cvV (i0 := 0) (j0 := 0) (cs' := [wModel t a q162]) C (c_X8_takeOff (a := a) hq162) [0] rfl rfl rfl rfl rfl rfl rfl k_1291 cal_X8_takeOff (fit_rm (by decide) (by decide)) rfl (Nat.le_of_ble_eq_true rfl) dX8_clear_162 ?_
        exact G.lvs [0, 1, 2, 3, 4, 5, 6] rfl (hJ165 _ h)
set_option maxHeartbeats 2000000 in
set_option maxRecDepth 20000 in
theorem w_X8_clear_L41 {X : Cx} {t : Nat → ClassId} {a : Nat → Nat} {N : Nat} {x1 : Int32} {x2 : Int32} {x3 : Int32} {K208 : Int32 → SV → Option (Int32 × SV)} {r : Int32 × SV} (C : gX X t (rm 7) cX8_clear 8 RX8) (hR : ∀ q : Int32 × SV, q = r → RetI X cX8_clear (q.1) [wModel t a (q.2)]) (hK208 : ∀ (x4_208 : Int32) (v_208 : SV), K208 x4_208 v_208 = some r → G X [wModel t a v_208] 208 [(3, .int x3), (4, .int x4_208)] []) : ∀ (n : Nat) (x4 : Int32) (x5 : Int32) (v : SV), F_X8_clear_L41 N x1 x2 x3 K208 n x4 x5 v = some r → G X [wModel t a v] 41 [(0, .ref (a 0)), (1, .int x1), (2, .int x2), (3, .int x3), (4, .int x4), (5, .int x5)] [] := by
  intro n
  induction n with
  | zero => intro x4 x5 v h; exact absurd h (by simp [F_X8_clear_L41])
  | succ n ih =>
    intro x4 x5 v h
    rw [F_X8_clear_L41] at h
    refine G.iload C dX8_clear_41 5 rfl ?_
    refine G.iconst C dX8_clear_43 ni_1 ?_
    refine G.aload_n C dX8_clear_44 0 rfl ?_
    refine gfX8_19 (i := 0) (j := 0) (v := .ref (a 4)) C rfl rfl rfl dX8_clear_45 ?_
    refine G.iconst C dX8_clear_48 ni_2 ?_
    refine G.iald (i := 0) (j := 4) (f := (v 4)) C rfl rfl h dX8_clear_49 (fun h => ?_)
    refine G.ishl C dX8_clear_50 ?_
    refine G.icmp_ge (tgt := 208) C dX8_clear_51 (by decide) h (fun h => ?_) (fun h => ?_)
    · exact G.lvs [3, 4] rfl (hK208 _ _ h)
    · refine G.iload C dX8_clear_54 4 rfl ?_
      refine jn_use (fun J => ∀ (s77_0 : Int32), J s77_0 = some r → G X [wModel t a v] 77 [(0, .ref (a 0)), (1, .int x1), (2, .int x2), (3, .int x3), (4, .int x4), (5, .int x5)] [.int s77_0]) h ?_ (fun J77 hJ77 h => ?_)
      · intro s77_0 h
        refine G.istore (lv' := [(6, .int s77_0), (0, .ref (a 0)), (1, .int x1), (2, .int x2), (3, .int x3), (4, .int x4), (5, .int x5)]) C dX8_clear_77 (by decide) rfl ?_
        refine G.iconst C dX8_clear_79 ni_0 ?_
        refine G.istore (lv' := [(7, .int (0 : Int32)), (6, .int s77_0), (0, .ref (a 0)), (1, .int x1), (2, .int x2), (3, .int x3), (4, .int x4), (5, .int x5)]) C dX8_clear_80 (by decide) rfl ?_
        refine G.lvs [2, 3, 4, 5, 6, 7, 1, 0] rfl (w_X8_clear_L82 C hR (fun x6_130 h => ?_) N _ _ h)
        · refine G.iload C dX8_clear_130 6 rfl ?_
          refine jn_use (fun J => ∀ (x4_202 : Int32) (v_202 : SV), J x4_202 v_202 = some r → G X [wModel t a v_202] 202 [(0, .ref (a 0)), (1, .int x1), (2, .int x2), (3, .int x3), (4, .int x4_202), (5, .int x5)] []) h ?_ (fun J202 hJ202 h => ?_)
          · intro x4_202 v_202 h
            refine G.iinc (v := (x5 + (1 : Int32))) (lv' := [(5, .int (x5 + (1 : Int32))), (0, .ref (a 0)), (1, .int x1), (2, .int x2), (3, .int x3), (4, .int x4_202)]) C dX8_clear_202 5 rfl (by rw [ni_1]) (by decide) rfl ?_
            refine G.goto (tgt := 41) C dX8_clear_205 (by decide) ?_
            exact G.lvs [1, 2, 3, 4, 5, 0] rfl (ih _ _ _ h)
          refine G.if_eq (tgt := 202) C dX8_clear_132 (by decide) h (fun h => ?_) (fun h => ?_)
          · exact G.lvs [0, 1, 2, 3, 4, 5] rfl (hJ202 _ _ h)
          · refine G.iconst C dX8_clear_135 ni_0 ?_
            refine G.istore (lv' := [(7, .int (0 : Int32)), (0, .ref (a 0)), (1, .int x1), (2, .int x2), (3, .int x3), (4, .int x4), (5, .int x5), (6, .int x6_130)]) C dX8_clear_136 (by decide) rfl ?_
            refine G.lvs [1, 2, 3, 4, 5, 6, 0] rfl (w_X8_clear_L138 C hR (fun v_171 h => ?_) N _ _ h)
            · refine G.aload_n C dX8_clear_171 0 rfl ?_
              refine G.iload_n C dX8_clear_172 2 rfl ?_
              obtain ⟨q173, hq173, h⟩ := bind_some' h
              refine G.cvV (i0 := 0) (j0 := 0) (cs' := [wModel t a q173]) C (c_X8_goOn (a := a) hq173) [0] rfl rfl rfl rfl rfl rfl rfl k_1371 cal_X8_goOn (fit_rm (by decide) (by decide)) rfl (Nat.le_of_ble_eq_true rfl) dX8_clear_173 ?_
              refine G.aload_n C dX8_clear_176 0 rfl ?_
              refine gfX8_19 (i := 0) (j := 0) (v := .ref (a 4)) C rfl rfl rfl dX8_clear_177 ?_
              refine G.bipush C dX8_clear_180 nb_49 ?_
              refine G.iload_n C dX8_clear_182 1 rfl ?_
              refine G.iadd C dX8_clear_183 ?_
              refine G.iald (i := 0) (j := 4) (f := (q173 4)) C rfl rfl h dX8_clear_184 (fun h => ?_)
              refine G.iconst C dX8_clear_185 ni_1 ?_
              refine jn_use (fun J => ∀ (s196_0 : Int32), J s196_0 = some r → G X [wModel t a q173] 196 [(0, .ref (a 0)), (1, .int x1), (2, .int x2), (3, .int x3), (5, .int x5)] [.int s196_0]) h ?_ (fun J196 hJ196 h => ?_)
              · intro s196_0 h
                refine G.istore (lv' := [(4, .int s196_0), (0, .ref (a 0)), (1, .int x1), (2, .int x2), (3, .int x3), (5, .int x5)]) C dX8_clear_196 (by decide) rfl ?_
                refine G.aload_n C dX8_clear_198 1 rfl ?_
                obtain ⟨q199, hq199, h⟩ := bind_some' h
                refine G.cvV (i0 := 0) (j0 := 0) (cs' := [wModel t a q199]) C (c_X8_takeBack (a := a) hq199) [0] rfl rfl rfl rfl rfl rfl rfl k_1375 cal_X8_takeBack (fit_rm (by decide) (by decide)) rfl (Nat.le_of_ble_eq_true rfl) dX8_clear_199 ?_
                exact G.lvs [1, 2, 3, 4, 0, 5] rfl (hJ202 _ _ h)
              refine G.icmp_ne (tgt := 194) C dX8_clear_186 (by decide) h (fun h => ?_) (fun h => ?_)
              · refine G.iload C dX8_clear_194 4 rfl ?_
                exact G.lvs [0, 1, 2, 3, 5] rfl (hJ196 _ h)
              · refine G.iload C dX8_clear_189 5 rfl ?_
                refine G.goto (tgt := 196) C dX8_clear_191 (by decide) ?_
                exact G.lvs [0, 1, 2, 3, 5] rfl (hJ196 _ h)
      refine jn_use (fun J => ∀ (u_72 : Unit), J u_72 = some r → G X [wModel t a v] 72 [(0, .ref (a 0)), (1, .int x1), (2, .int x2), (3, .int x3), (4, .int x4), (5, .int x5)] []) h ?_ (fun J72 hJ72 h => ?_)
      · intro u_72 h
        refine G.iconst C dX8_clear_72 ni_1 ?_
        refine G.goto (tgt := 77) C dX8_clear_73 (by decide) ?_
        exact G.lvs [0, 1, 2, 3, 4, 5] rfl (hJ77 _ h)
      refine G.if_lt (tgt := 72) C dX8_clear_56 (by decide) h (fun h => ?_) (fun h => ?_)
      · exact G.lvs [0, 1, 2, 3, 4, 5] rfl (hJ72 _ h)
      · refine G.iload C dX8_clear_59 5 rfl ?_
        obtain ⟨q61, hq61, h⟩ := bind_some' h
        refine G.csI (cs' := [wModel t a v]) C (c_X8_ones hq61) [] rfl rfl rfl rfl k_1265 cal_X8_ones (fit_rm (by decide) (by decide)) rfl (Nat.le_of_ble_eq_true rfl) dX8_clear_61 ?_
        refine G.iload C dX8_clear_64 4 rfl ?_
        obtain ⟨q66, hq66, h⟩ := bind_some' h
        refine G.csI (cs' := [wModel t a v]) C (c_X8_ones hq66) [] rfl rfl rfl rfl k_1265 cal_X8_ones (fit_rm (by decide) (by decide)) rfl (Nat.le_of_ble_eq_true rfl) dX8_clear_66 ?_
        refine G.icmp_ge (tgt := 76) C dX8_clear_69 (by decide) h (fun h => ?_) (fun h => ?_)
        · refine G.iconst C dX8_clear_76 ni_0 ?_
          exact G.lvs [0, 1, 2, 3, 4, 5] rfl (hJ77 _ h)
        · exact G.lvs [0, 1, 2, 3, 4, 5] rfl (hJ72 _ h)
set_option maxHeartbeats 2000000 in
set_option maxRecDepth 20000 in
theorem c_X8_clear {t : Nat → ClassId} {a : Nat → Nat} {N : Nat} {v : SV} {x1 : Int32} {x2 : Int32} {x3 : Int32} {r : Int32 × SV} (h : F_X8_clear N v x1 x2 x3 = some r) : CI t yX8_clear cX8_clear 8 (some .int) (rm 7) [.ref (a 0), .int x1, .int x2, .int x3] [wModel t a v] (r.1) [wModel t a (r.2)] := by
  refine CI.of (own := RX8) (by decide) rfl (Nat.le_of_ble_eq_true rfl) (fun X C hR0 => ?_)
  have hR : ∀ q : Int32 × SV, q = r → RetI X cX8_clear (q.1) [wModel t a (q.2)] := by intro q e; subst e; exact hR0
  show G X [wModel t a v] 0 [(0, .ref (a 0)), (1, .int x1), (2, .int x2), (3, .int x3)] []
  unfold F_X8_clear at h
  refine G.aload_n C dX8_clear_0 0 rfl ?_
  refine G.iload_n C dX8_clear_1 1 rfl ?_
  obtain ⟨q2, hq2, h⟩ := bind_some' h
  refine G.cvI (i0 := 0) (j0 := 0) (cs' := [wModel t a v]) C (c_X8_isSeat (a := a) hq2) [0] rfl rfl rfl rfl rfl rfl rfl k_1327 cal_X8_isSeat (fit_rm (by decide) (by decide)) rfl (Nat.le_of_ble_eq_true rfl) dX8_clear_2 ?_
  refine G.if_eq (tgt := 27) C dX8_clear_5 (by decide) h (fun h => ?_) (fun h => ?_)
  · refine G.ldc C k_1158 dX8_clear_27 ?_
    exact hR _ (Option.some.inj h) _ _ dX8_clear_29
  · refine G.iload_n C dX8_clear_8 2 rfl ?_
    refine G.i2l C dX8_clear_9 ?_
    refine G.lconst C dX8_clear_10 nl_1 ?_
    refine G.ldc2 C k_1422 dX8_clear_11 ?_
    obtain ⟨q14, hq14, h⟩ := bind_some' h
    refine G.csI (cs' := [wModel t a v]) C (c_X8_in hq14) [] rfl rfl rfl rfl k_1154 cal_X8_in (fit_rm (by decide) (by decide)) rfl (Nat.le_of_ble_eq_true rfl) dX8_clear_14 ?_
    refine G.if_eq (tgt := 27) C dX8_clear_17 (by decide) h (fun h => ?_) (fun h => ?_)
    · refine G.ldc C k_1158 dX8_clear_27 ?_
      exact hR _ (Option.some.inj h) _ _ dX8_clear_29
    · refine G.iload_n C dX8_clear_20 3 rfl ?_
      obtain ⟨q21, hq21, h⟩ := bind_some' h
      refine G.csI (cs' := [wModel t a v]) C (c_X8_isWhat hq21) [] rfl rfl rfl rfl k_1403 cal_X8_isWhat (fit_rm (by decide) (by decide)) rfl (Nat.le_of_ble_eq_true rfl) dX8_clear_21 ?_
      refine G.if_ne (tgt := 30) C dX8_clear_24 (by decide) h (fun h => ?_) (fun h => ?_)
      · refine G.aload_n C dX8_clear_30 0 rfl ?_
        obtain ⟨q31, hq31, h⟩ := bind_some' h
        refine G.cvV (i0 := 0) (j0 := 0) (cs' := [wModel t a q31]) C (c_X8_putAside (a := a) hq31) [0] rfl rfl rfl rfl rfl rfl rfl k_1367 cal_X8_putAside (fit_rm (by decide) (by decide)) rfl (Nat.le_of_ble_eq_true rfl) dX8_clear_31 ?_
        refine G.ldc C k_1256 dX8_clear_34 ?_
        refine G.istore (lv' := [(4, .int (-1000000 : Int32)), (0, .ref (a 0)), (1, .int x1), (2, .int x2), (3, .int x3)]) C dX8_clear_36 (by decide) rfl ?_
        refine G.iconst C dX8_clear_38 ni_0 ?_
        refine G.istore (lv' := [(5, .int (0 : Int32)), (4, .int (-1000000 : Int32)), (0, .ref (a 0)), (1, .int x1), (2, .int x2), (3, .int x3)]) C dX8_clear_39 (by decide) rfl ?_
        refine G.lvs [2, 3, 4, 5, 1, 0] rfl (w_X8_clear_L41 C hR (fun x4_208 v_208 h => ?_) N _ _ _ h)
        · refine G.iload C dX8_clear_208 1 rfl ?_
          refine G.if_lt (tgt := 218) C dX8_clear_210 (by decide) h (fun h => ?_) (fun h => ?_)
          · refine G.iload C dX8_clear_218 1 rfl ?_
            refine G.goto (tgt := 228) C dX8_clear_220 (by decide) ?_
            exact hR _ (Option.some.inj h) _ _ dX8_clear_228
          · refine G.iload_n C dX8_clear_213 0 rfl ?_
            refine G.iconst C dX8_clear_214 ni_1 ?_
            refine G.icmp_ne (tgt := 223) C dX8_clear_215 (by decide) h (fun h => ?_) (fun h => ?_)
            · refine G.iload C dX8_clear_223 1 rfl ?_
              obtain ⟨q225, hq225, h⟩ := bind_some' h
              refine G.csI (cs' := [wModel t a v_208]) C (c_X8_ones hq225) [] rfl rfl rfl rfl k_1265 cal_X8_ones (fit_rm (by decide) (by decide)) rfl (Nat.le_of_ble_eq_true rfl) dX8_clear_225 ?_
              exact hR _ (Option.some.inj h) _ _ dX8_clear_228
            · refine G.iload C dX8_clear_218 1 rfl ?_
              refine G.goto (tgt := 228) C dX8_clear_220 (by decide) ?_
              exact hR _ (Option.some.inj h) _ _ dX8_clear_228
      · refine G.ldc C k_1158 dX8_clear_27 ?_
        exact hR _ (Option.some.inj h) _ _ dX8_clear_29
set_option maxHeartbeats 2000000 in
set_option maxRecDepth 20000 in
theorem w_X8_bring_L44 {X : Cx} {t : Nat → ClassId} {a : Nat → Nat} {N : Nat} {x1 : Int32} {x2 : Int32} {K118 : Int32 → Int32 → SV → Option (Int32 × SV)} {r : Int32 × SV} (C : gX X t (rm 7) cX8_bring 6 RX8) (hR : ∀ q : Int32 × SV, q = r → RetI X cX8_bring (q.1) [wModel t a (q.2)]) (hK118 : ∀ (x3_118 : Int32) (x4_118 : Int32) (v_118 : SV), K118 x3_118 x4_118 v_118 = some r → G X [wModel t a v_118] 118 [(2, .int x2), (3, .int x3_118), (4, .int x4_118)] []) : ∀ (n : Nat) (x3 : Int32) (x4 : Int32) (x5 : Int32) (v : SV), F_X8_bring_L44 N x1 x2 K118 n x3 x4 x5 v = some r → G X [wModel t a v] 44 [(0, .ref (a 0)), (1, .int x1), (2, .int x2), (3, .int x3), (4, .int x4), (5, .int x5)] [] := by
  intro n
  induction n with
  | zero => intro x3 x4 x5 v h; exact absurd h (by simp [F_X8_bring_L44])
  | succ n ih =>
    intro x3 x4 x5 v h
    rw [F_X8_bring_L44] at h
    refine G.iload C dX8_bring_44 5 rfl ?_
    refine G.aload_n C dX8_bring_46 0 rfl ?_
    refine gfX8_19 (i := 0) (j := 0) (v := .ref (a 4)) C rfl rfl rfl dX8_bring_47 ?_
    refine G.iconst C dX8_bring_50 ni_2 ?_
    refine G.iald (i := 0) (j := 4) (f := (v 4)) C rfl rfl h dX8_bring_51 (fun h => ?_)
    refine G.icmp_ge (tgt := 118) C dX8_bring_52 (by decide) h (fun h => ?_) (fun h => ?_)
    · exact G.lvs [2, 3, 4] rfl (hK118 _ _ _ h)
    · refine G.aload_n C dX8_bring_55 0 rfl ?_
      refine G.iload C dX8_bring_56 5 rfl ?_
      obtain ⟨q58, hq58, h⟩ := bind_some' h
      refine G.cvV (i0 := 0) (j0 := 0) (cs' := [wModel t a q58]) C (c_X8_layFirst (a := a) hq58) [0] rfl rfl rfl rfl rfl rfl rfl k_1311 cal_X8_layFirst (fit_rm (by decide) (by decide)) rfl (Nat.le_of_ble_eq_true rfl) dX8_bring_58 ?_
      refine G.aload_n C dX8_bring_61 0 rfl ?_
      refine G.iload_n C dX8_bring_62 1 rfl ?_
      obtain ⟨q63, hq63, h⟩ := bind_some' h
      refine G.cvV (i0 := 0) (j0 := 0) (cs' := [wModel t a q63]) C (c_X8_goOn (a := a) hq63) [0] rfl rfl rfl rfl rfl rfl rfl k_1371 cal_X8_goOn (fit_rm (by decide) (by decide)) rfl (Nat.le_of_ble_eq_true rfl) dX8_bring_63 ?_
      refine G.aload_n C dX8_bring_66 0 rfl ?_
      refine gfX8_19 (i := 0) (j := 0) (v := .ref (a 4)) C rfl rfl rfl dX8_bring_67 ?_
      refine G.iconst C dX8_bring_70 ni_5 ?_
      refine G.iald (i := 0) (j := 4) (f := (q63 4)) C rfl rfl h dX8_bring_71 (fun h => ?_)
      refine G.iload C dX8_bring_72 4 rfl ?_
      refine jn_use (fun J => ∀ (s83_0 : Int32), J s83_0 = some r → G X [wModel t a q63] 83 [(0, .ref (a 0)), (1, .int x1), (2, .int x2), (4, .int x4), (5, .int x5)] [.int s83_0]) h ?_ (fun J83 hJ83 h => ?_)
      · intro s83_0 h
        refine G.istore_n (lv' := [(3, .int s83_0), (0, .ref (a 0)), (1, .int x1), (2, .int x2), (4, .int x4), (5, .int x5)]) C dX8_bring_83 (by decide) rfl ?_
        refine G.aload_n C dX8_bring_84 1 rfl ?_
        refine gfX8_19 (i := 0) (j := 0) (v := .ref (a 4)) C rfl rfl rfl dX8_bring_85 ?_
        refine G.iconst C dX8_bring_88 ni_5 ?_
        refine G.iald (i := 0) (j := 4) (f := (q63 4)) C rfl rfl h dX8_bring_89 (fun h => ?_)
        refine G.iload C dX8_bring_90 4 rfl ?_
        refine jn_use (fun J => ∀ (s106_0 : Int32), J s106_0 = some r → G X [wModel t a q63] 106 [(0, .ref (a 0)), (1, .int x1), (2, .int x2), (3, .int s83_0), (5, .int x5)] [.int s106_0]) h ?_ (fun J106 hJ106 h => ?_)
        · intro s106_0 h
          refine G.istore (lv' := [(4, .int s106_0), (0, .ref (a 0)), (1, .int x1), (2, .int x2), (3, .int s83_0), (5, .int x5)]) C dX8_bring_106 (by decide) rfl ?_
          refine G.aload_n C dX8_bring_108 1 rfl ?_
          obtain ⟨q109, hq109, h⟩ := bind_some' h
          refine G.cvV (i0 := 0) (j0 := 0) (cs' := [wModel t a q109]) C (c_X8_takeBack (a := a) hq109) [0] rfl rfl rfl rfl rfl rfl rfl k_1375 cal_X8_takeBack (fit_rm (by decide) (by decide)) rfl (Nat.le_of_ble_eq_true rfl) dX8_bring_109 ?_
          refine G.iinc (v := (x5 + (1 : Int32))) (lv' := [(5, .int (x5 + (1 : Int32))), (4, .int s106_0), (0, .ref (a 0)), (1, .int x1), (2, .int x2), (3, .int s83_0)]) C dX8_bring_112 5 rfl (by rw [ni_1]) (by decide) rfl ?_
          refine G.goto (tgt := 44) C dX8_bring_115 (by decide) ?_
          exact G.lvs [2, 3, 4, 5, 1, 0] rfl (ih _ _ _ _ h)
        refine G.icmp_le (tgt := 104) C dX8_bring_92 (by decide) h (fun h => ?_) (fun h => ?_)
        · refine G.iload C dX8_bring_104 4 rfl ?_
          exact G.lvs [1, 2, 3, 0, 5] rfl (hJ106 _ h)
        · refine G.aload_n C dX8_bring_95 1 rfl ?_
          refine gfX8_19 (i := 0) (j := 0) (v := .ref (a 4)) C rfl rfl rfl dX8_bring_96 ?_
          refine G.iconst C dX8_bring_99 ni_5 ?_
          refine G.iald (i := 0) (j := 4) (f := (q63 4)) C rfl rfl h dX8_bring_100 (fun h => ?_)
          refine G.goto (tgt := 106) C dX8_bring_101 (by decide) ?_
          exact G.lvs [1, 2, 3, 0, 5] rfl (hJ106 _ h)
      refine G.icmp_le (tgt := 82) C dX8_bring_74 (by decide) h (fun h => ?_) (fun h => ?_)
      · refine G.iload_n C dX8_bring_82 3 rfl ?_
        exact G.lvs [0, 1, 2, 4, 5] rfl (hJ83 _ h)
      · refine G.iload C dX8_bring_77 5 rfl ?_
        refine G.goto (tgt := 83) C dX8_bring_79 (by decide) ?_
        exact G.lvs [0, 1, 2, 4, 5] rfl (hJ83 _ h)
set_option maxHeartbeats 2000000 in
set_option maxRecDepth 20000 in
theorem c_X8_bring {t : Nat → ClassId} {a : Nat → Nat} {N : Nat} {v : SV} {x1 : Int32} {x2 : Int32} {r : Int32 × SV} (h : F_X8_bring N v x1 x2 = some r) : CI t yX8_bring cX8_bring 6 (some .int) (rm 7) [.ref (a 0), .int x1, .int x2] [wModel t a v] (r.1) [wModel t a (r.2)] := by
  refine CI.of (own := RX8) (by decide) rfl (Nat.le_of_ble_eq_true rfl) (fun X C hR0 => ?_)
  have hR : ∀ q : Int32 × SV, q = r → RetI X cX8_bring (q.1) [wModel t a (q.2)] := by intro q e; subst e; exact hR0
  show G X [wModel t a v] 0 [(0, .ref (a 0)), (1, .int x1), (2, .int x2)] []
  unfold F_X8_bring at h
  refine G.aload_n C dX8_bring_0 0 rfl ?_
  refine gfX8_141 (i := 0) (j := 0) (v := .int (v 0 4)) C rfl rfl rfl dX8_bring_1 ?_
  refine G.if_ne (tgt := 10) C dX8_bring_4 (by decide) h (fun h => ?_) (fun h => ?_)
  · refine G.iload_n C dX8_bring_10 1 rfl ?_
    refine G.i2l C dX8_bring_11 ?_
    refine G.lconst C dX8_bring_12 nl_1 ?_
    refine G.ldc2 C k_1422 dX8_bring_13 ?_
    obtain ⟨q16, hq16, h⟩ := bind_some' h
    refine G.csI (cs' := [wModel t a v]) C (c_X8_in hq16) [] rfl rfl rfl rfl k_1154 cal_X8_in (fit_rm (by decide) (by decide)) rfl (Nat.le_of_ble_eq_true rfl) dX8_bring_16 ?_
    refine G.if_eq (tgt := 29) C dX8_bring_19 (by decide) h (fun h => ?_) (fun h => ?_)
    · refine G.ldc C k_1158 dX8_bring_29 ?_
      exact hR _ (Option.some.inj h) _ _ dX8_bring_31
    · refine G.iload_n C dX8_bring_22 2 rfl ?_
      obtain ⟨q23, hq23, h⟩ := bind_some' h
      refine G.csI (cs' := [wModel t a v]) C (c_X8_isWhat hq23) [] rfl rfl rfl rfl k_1403 cal_X8_isWhat (fit_rm (by decide) (by decide)) rfl (Nat.le_of_ble_eq_true rfl) dX8_bring_23 ?_
      refine G.if_ne (tgt := 32) C dX8_bring_26 (by decide) h (fun h => ?_) (fun h => ?_)
      · refine G.aload_n C dX8_bring_32 0 rfl ?_
        obtain ⟨q33, hq33, h⟩ := bind_some' h
        refine G.cvV (i0 := 0) (j0 := 0) (cs' := [wModel t a q33]) C (c_X8_putAside (a := a) hq33) [0] rfl rfl rfl rfl rfl rfl rfl k_1367 cal_X8_putAside (fit_rm (by decide) (by decide)) rfl (Nat.le_of_ble_eq_true rfl) dX8_bring_33 ?_
        refine G.iconst C dX8_bring_36 ni_0 ?_
        refine G.istore_n (lv' := [(3, .int (0 : Int32)), (0, .ref (a 0)), (1, .int x1), (2, .int x2)]) C dX8_bring_37 (by decide) rfl ?_
        refine G.iconst C dX8_bring_38 ni_m1 ?_
        refine G.istore (lv' := [(4, .int (-1 : Int32)), (3, .int (0 : Int32)), (0, .ref (a 0)), (1, .int x1), (2, .int x2)]) C dX8_bring_39 (by decide) rfl ?_
        refine G.iconst C dX8_bring_41 ni_0 ?_
        refine G.istore (lv' := [(5, .int (0 : Int32)), (4, .int (-1 : Int32)), (3, .int (0 : Int32)), (0, .ref (a 0)), (1, .int x1), (2, .int x2)]) C dX8_bring_42 (by decide) rfl ?_
        refine G.lvs [3, 4, 5, 2, 1, 0] rfl (w_X8_bring_L44 C hR (fun x3_118 x4_118 v_118 h => ?_) N _ _ _ _ h)
        · refine G.iload_n C dX8_bring_118 0 rfl ?_
          refine G.if_ne (tgt := 126) C dX8_bring_119 (by decide) h (fun h => ?_) (fun h => ?_)
          · refine G.iload C dX8_bring_126 2 rfl ?_
            exact hR _ (Option.some.inj h) _ _ dX8_bring_128
          · refine G.iload_n C dX8_bring_122 1 rfl ?_
            refine G.goto (tgt := 128) C dX8_bring_123 (by decide) ?_
            exact hR _ (Option.some.inj h) _ _ dX8_bring_128
      · refine G.ldc C k_1158 dX8_bring_29 ?_
        exact hR _ (Option.some.inj h) _ _ dX8_bring_31
  · refine G.ldc C k_1238 dX8_bring_7 ?_
    exact hR _ (Option.some.inj h) _ _ dX8_bring_9
set_option maxHeartbeats 2000000 in
set_option maxRecDepth 20000 in
theorem w_X8_lack_L14 {X : Cx} {t : Nat → ClassId} {a : Nat → Nat} {N : Nat} {v : SV} {r : Int32} (C : gX X t (rm 2) cX8_lack 3 RX8) (hR : ∀ q : Int32, q = r → RetI X cX8_lack q [wModel t a v]) : ∀ (n : Nat) (x1 : Int32) (x2 : Int32), F_X8_lack_L14 N v n x1 x2 = some r → G X [wModel t a v] 14 [(0, .ref (a 0)), (1, .int x1), (2, .int x2)] [] := by
  intro n
  induction n with
  | zero => intro x1 x2 h; exact absurd h (by simp [F_X8_lack_L14])
  | succ n ih =>
    intro x1 x2 h
    rw [F_X8_lack_L14] at h
    refine G.iload_n C dX8_lack_14 2 rfl ?_
    refine G.bipush C dX8_lack_15 nb_10 ?_
    refine G.icmp_ge (tgt := 52) C dX8_lack_17 (by decide) h (fun h => ?_) (fun h => ?_)
    · refine G.iload_n C dX8_lack_52 1 rfl ?_
      exact hR _ (Option.some.inj h) _ _ dX8_lack_53
    · refine G.iload_n C dX8_lack_20 1 rfl ?_
      refine G.aload_n C dX8_lack_21 0 rfl ?_
      refine G.iload_n C dX8_lack_22 2 rfl ?_
      obtain ⟨q23, hq23, h⟩ := bind_some' h
      refine G.cvI (i0 := 0) (j0 := 0) (cs' := [wModel t a v]) C (c_X8_wantersOf (a := a) hq23) [0] rfl rfl rfl rfl rfl rfl rfl k_1261 cal_X8_wantersOf (fit_rm (by decide) (by decide)) rfl (Nat.le_of_ble_eq_true rfl) dX8_lack_23 ?_
      refine jn_use (fun J => ∀ (s44_0 : Int32), J s44_0 = some r → G X [wModel t a v] 44 [(0, .ref (a 0)), (2, .int x2)] [.int s44_0, .int x1]) h ?_ (fun J44 hJ44 h => ?_)
      · intro s44_0 h
        refine G.ior C dX8_lack_44 ?_
        refine G.istore_n (lv' := [(1, .int (x1 ||| s44_0)), (0, .ref (a 0)), (2, .int x2)]) C dX8_lack_45 (by decide) rfl ?_
        refine G.iinc (v := (x2 + (1 : Int32))) (lv' := [(2, .int (x2 + (1 : Int32))), (1, .int (x1 ||| s44_0)), (0, .ref (a 0))]) C dX8_lack_46 2 rfl (by rw [ni_1]) (by decide) rfl ?_
        refine G.goto (tgt := 14) C dX8_lack_49 (by decide) ?_
        exact G.lvs [2, 1, 0] rfl (ih _ _ h)
      refine jn_use (fun J => ∀ (u_43 : Unit), J u_43 = some r → G X [wModel t a v] 43 [(0, .ref (a 0)), (2, .int x2)] [.int x1]) h ?_ (fun J43 hJ43 h => ?_)
      · intro u_43 h
        refine G.iconst C dX8_lack_43 ni_0 ?_
        exact G.lvs [0, 1] rfl (hJ44 _ h)
      refine G.if_eq (tgt := 43) C dX8_lack_26 (by decide) h (fun h => ?_) (fun h => ?_)
      · exact G.lvs [0, 2] rfl (hJ43 _ h)
      · refine G.aload_n C dX8_lack_29 0 rfl ?_
        refine G.iload_n C dX8_lack_30 2 rfl ?_
        obtain ⟨q31, hq31, h⟩ := bind_some' h
        refine G.cvI (i0 := 0) (j0 := 0) (cs' := [wModel t a v]) C (c_X8_stockOf (a := a) hq31) [0] rfl rfl rfl rfl rfl rfl rfl k_1414 cal_X8_stockOf (fit_rm (by decide) (by decide)) rfl (Nat.le_of_ble_eq_true rfl) dX8_lack_31 ?_
        refine G.if_ne (tgt := 43) C dX8_lack_34 (by decide) h (fun h => ?_) (fun h => ?_)
        · exact G.lvs [0, 2] rfl (hJ43 _ h)
        · refine G.iconst C dX8_lack_37 ni_1 ?_
          refine G.iload_n C dX8_lack_38 2 rfl ?_
          refine G.ishl C dX8_lack_39 ?_
          refine G.goto (tgt := 44) C dX8_lack_40 (by decide) ?_
          exact G.lvs [0, 2] rfl (hJ44 _ h)
set_option maxHeartbeats 2000000 in
set_option maxRecDepth 20000 in
theorem c_X8_lack {t : Nat → ClassId} {a : Nat → Nat} {N : Nat} {v : SV} {r : Int32} (h : F_X8_lack N v = some r) : CI t yX8_lack cX8_lack 3 (some .int) (rm 2) [.ref (a 0)] [wModel t a v] r [wModel t a v] := by
  refine CI.of (own := RX8) (by decide) rfl (Nat.le_of_ble_eq_true rfl) (fun X C hR0 => ?_)
  have hR : ∀ q : Int32, q = r → RetI X cX8_lack q [wModel t a v] := by intro q e; subst e; exact hR0
  show G X [wModel t a v] 0 [(0, .ref (a 0))] []
  unfold F_X8_lack at h
  refine G.aload_n C dX8_lack_0 0 rfl ?_
  refine gfX8_141 (i := 0) (j := 0) (v := .int (v 0 4)) C rfl rfl rfl dX8_lack_1 ?_
  refine G.if_ne (tgt := 10) C dX8_lack_4 (by decide) h (fun h => ?_) (fun h => ?_)
  · refine G.iconst C dX8_lack_10 ni_0 ?_
    refine G.istore_n (lv' := [(1, .int (0 : Int32)), (0, .ref (a 0))]) C dX8_lack_11 (by decide) rfl ?_
    refine G.iconst C dX8_lack_12 ni_0 ?_
    refine G.istore_n (lv' := [(2, .int (0 : Int32)), (1, .int (0 : Int32)), (0, .ref (a 0))]) C dX8_lack_13 (by decide) rfl ?_
    exact G.lvs [2, 1, 0] rfl (w_X8_lack_L14 C hR N _ _ h)
  · refine G.ldc C k_1238 dX8_lack_7 ?_
    exact hR _ (Option.some.inj h) _ _ dX8_lack_9
set_option maxHeartbeats 2000000 in
set_option maxRecDepth 20000 in
theorem c_X8_lacks {t : Nat → ClassId} {a : Nat → Nat} {N : Nat} {v : SV} {x1 : Int32} {x2 : Int32} {x3 : Int32} {r : Int32 × SV} (h : F_X8_lacks N v x1 x2 x3 = some r) : CI t yX8_lacks cX8_lacks 4 (some .int) (rm 2) [.ref (a 0), .int x1, .int x2, .int x3] [wModel t a v] (r.1) [wModel t a (r.2)] := by
  refine CI.of (own := RX8) (by decide) rfl (Nat.le_of_ble_eq_true rfl) (fun X C hR0 => ?_)
  have hR : ∀ q : Int32 × SV, q = r → RetI X cX8_lacks (q.1) [wModel t a (q.2)] := by intro q e; subst e; exact hR0
  show G X [wModel t a v] 0 [(0, .ref (a 0)), (1, .int x1), (2, .int x2), (3, .int x3)] []
  unfold F_X8_lacks at h
  refine G.aload_n C dX8_lacks_0 0 rfl ?_
  refine gfX8_13 (i := 0) (j := 0) (v := .ref (a 2)) C rfl rfl rfl dX8_lacks_1 ?_
  refine G.iload_n C dX8_lacks_4 1 rfl ?_
  refine G.iald (i := 0) (j := 2) (f := (v 2)) C rfl rfl h dX8_lacks_5 (fun h => ?_)
  refine G.if_ge (tgt := 15) C dX8_lacks_6 (by decide) h (fun h => ?_) (fun h => ?_)
  · refine G.iload_n C dX8_lacks_15 2 rfl ?_
    refine G.i2l C dX8_lacks_16 ?_
    refine G.lconst C dX8_lacks_17 nl_0 ?_
    refine G.aload_n C dX8_lacks_18 0 rfl ?_
    refine gfX8_13 (i := 0) (j := 0) (v := .ref (a 2)) C rfl rfl rfl dX8_lacks_19 ?_
    refine G.iload_n C dX8_lacks_22 1 rfl ?_
    refine G.iald (i := 0) (j := 2) (f := (v 2)) C rfl rfl h dX8_lacks_23 (fun h => ?_)
    refine G.iload_n C dX8_lacks_24 3 rfl ?_
    refine G.isub C dX8_lacks_25 ?_
    refine G.i2l C dX8_lacks_26 ?_
    obtain ⟨q27, hq27, h⟩ := bind_some' h
    refine G.csI (cs' := [wModel t a v]) C (c_X8_in hq27) [] rfl rfl rfl rfl k_1154 cal_X8_in (fit_rm (by decide) (by decide)) rfl (Nat.le_of_ble_eq_true rfl) dX8_lacks_27 ?_
    refine G.if_eq (tgt := 37) C dX8_lacks_30 (by decide) h (fun h => ?_) (fun h => ?_)
    · refine G.aload_n C dX8_lacks_37 0 rfl ?_
      refine G.iconst C dX8_lacks_38 ni_2 ?_
      obtain ⟨q39, hq39, h⟩ := bind_some' h
      refine G.cvI (i0 := 0) (j0 := 0) (cs' := [wModel t a (q39.2)]) C (c_X8_find (a := a) hq39) [0] rfl rfl rfl rfl rfl rfl rfl k_1159 cal_X8_find (fit_rm (by decide) (by decide)) rfl (Nat.le_of_ble_eq_true rfl) dX8_lacks_39 ?_
      exact hR _ (Option.some.inj h) _ _ dX8_lacks_42
    · refine G.iconst C dX8_lacks_33 ni_0 ?_
      refine G.goto (tgt := 42) C dX8_lacks_34 (by decide) ?_
      exact hR _ (Option.some.inj h) _ _ dX8_lacks_42
  · refine G.aload_n C dX8_lacks_9 0 rfl ?_
    refine G.iconst C dX8_lacks_10 ni_1 ?_
    obtain ⟨q11, hq11, h⟩ := bind_some' h
    refine G.cvI (i0 := 0) (j0 := 0) (cs' := [wModel t a (q11.2)]) C (c_X8_find (a := a) hq11) [0] rfl rfl rfl rfl rfl rfl rfl k_1159 cal_X8_find (fit_rm (by decide) (by decide)) rfl (Nat.le_of_ble_eq_true rfl) dX8_lacks_11 ?_
    exact hR _ (Option.some.inj h) _ _ dX8_lacks_14
set_option maxHeartbeats 2000000 in
set_option maxRecDepth 20000 in
theorem c_X8_isLine {t : Nat → ClassId} {a : Nat → Nat} {N : Nat} {v : SV} {x1 : Int32} {x2 : Int32} {r : Int32} (h : F_X8_isLine N v x1 x2 = some r) : CI t yX8_isLine cX8_isLine 3 (some .boolean) (rm 3) [.ref (a 0), .int x1, .int x2] [wModel t a v] r [wModel t a v] := by
  refine CZ.of (own := RX8) (by decide) rfl (Nat.le_of_ble_eq_true rfl) (fun X C hR0 => ?_)
  have hR : ∀ q : Int32, q = r → RetZ X cX8_isLine q [wModel t a v] := by intro q e; subst e; exact hR0
  show G X [wModel t a v] 0 [(0, .ref (a 0)), (1, .int x1), (2, .int x2)] []
  unfold F_X8_isLine at h
  refine G.iload_n C dX8_isLine_0 1 rfl ?_
  obtain ⟨q1, hq1, h⟩ := bind_some' h
  refine G.csI (cs' := [wModel t a v]) C (c_X8_isRow hq1) [] rfl rfl rfl rfl k_1150 cal_X8_isRow (fit_rm (by decide) (by decide)) rfl (Nat.le_of_ble_eq_true rfl) dX8_isLine_1 ?_
  refine G.if_eq (tgt := 23) C dX8_isLine_4 (by decide) h (fun h => ?_) (fun h => ?_)
  · refine G.iconst C dX8_isLine_23 ni_0 ?_
    exact hR _ (Option.some.inj h) (Or.inl rfl) _ _ dX8_isLine_24
  · refine G.iload_n C dX8_isLine_7 2 rfl ?_
    refine G.i2l C dX8_isLine_8 ?_
    refine G.lconst C dX8_isLine_9 nl_1 ?_
    refine G.ldc2 C k_1439 dX8_isLine_10 ?_
    obtain ⟨q13, hq13, h⟩ := bind_some' h
    refine G.csI (cs' := [wModel t a v]) C (c_X8_in hq13) [] rfl rfl rfl rfl k_1154 cal_X8_in (fit_rm (by decide) (by decide)) rfl (Nat.le_of_ble_eq_true rfl) dX8_isLine_13 ?_
    refine G.if_eq (tgt := 23) C dX8_isLine_16 (by decide) h (fun h => ?_) (fun h => ?_)
    · refine G.iconst C dX8_isLine_23 ni_0 ?_
      exact hR _ (Option.some.inj h) (Or.inl rfl) _ _ dX8_isLine_24
    · refine G.iconst C dX8_isLine_19 ni_1 ?_
      refine G.goto (tgt := 24) C dX8_isLine_20 (by decide) ?_
      exact hR _ (Option.some.inj h) (Or.inr rfl) _ _ dX8_isLine_24
set_option maxHeartbeats 2000000 in
set_option maxRecDepth 20000 in
theorem w_X8_isSo_L5 {X : Cx} {t : Nat → ClassId} {a : Nat → Nat} {N : Nat} {x1 : Int32} {x2 : Int32} {K49 : Int32 → SV → Option (Int32 × SV)} {r : Int32 × SV} (C : gX X t (rm 6) cX8_isSo 5 RX8) (hR : ∀ q : Int32 × SV, q = r → RetZ X cX8_isSo (q.1) [wModel t a (q.2)]) (hK49 : ∀ (x3_49 : Int32) (v_49 : SV), K49 x3_49 v_49 = some r → G X [wModel t a v_49] 49 [(0, .ref (a 0)), (3, .int x3_49)] []) : ∀ (n : Nat) (x3 : Int32) (x4 : Int32) (v : SV), F_X8_isSo_L5 N x1 x2 K49 n x3 x4 v = some r → G X [wModel t a v] 5 [(0, .ref (a 0)), (1, .int x1), (2, .int x2), (3, .int x3), (4, .int x4)] [] := by
  intro n
  induction n with
  | zero => intro x3 x4 v h; exact absurd h (by simp [F_X8_isSo_L5])
  | succ n ih =>
    intro x3 x4 v h
    rw [F_X8_isSo_L5] at h
    refine G.iload C dX8_isSo_5 4 rfl ?_
    refine G.iload_n C dX8_isSo_7 2 rfl ?_
    refine G.icmp_ge (tgt := 49) C dX8_isSo_8 (by decide) h (fun h => ?_) (fun h => ?_)
    · exact G.lvs [0, 3] rfl (hK49 _ _ h)
    · refine G.aload_n C dX8_isSo_11 0 rfl ?_
      obtain ⟨q12, hq12, h⟩ := bind_some' h
      refine G.cvV (i0 := 0) (j0 := 0) (cs' := [wModel t a q12]) C (c_X8_oneTap (a := a) hq12) [0] rfl rfl rfl rfl rfl rfl rfl k_1248 cal_X8_oneTap (fit_rm (by decide) (by decide)) rfl (Nat.le_of_ble_eq_true rfl) dX8_isSo_12 ?_
      refine G.iload_n C dX8_isSo_15 3 rfl ?_
      refine jn_use (fun J => ∀ (s42_0 : Int32), J s42_0 = some r → G X [wModel t a q12] 42 [(0, .ref (a 0)), (1, .int x1), (2, .int x2), (4, .int x4)] [.int s42_0]) h ?_ (fun J42 hJ42 h => ?_)
      · intro s42_0 h
        refine G.istore_n (lv' := [(3, .int s42_0), (0, .ref (a 0)), (1, .int x1), (2, .int x2), (4, .int x4)]) C dX8_isSo_42 (by decide) rfl ?_
        refine G.iinc (v := (x4 + (1 : Int32))) (lv' := [(4, .int (x4 + (1 : Int32))), (3, .int s42_0), (0, .ref (a 0)), (1, .int x1), (2, .int x2)]) C dX8_isSo_43 4 rfl (by rw [ni_1]) (by decide) rfl ?_
        refine G.goto (tgt := 5) C dX8_isSo_46 (by decide) ?_
        exact G.lvs [2, 3, 4, 1, 0] rfl (ih _ _ _ h)
      refine jn_use (fun J => ∀ (u_41 : Unit), J u_41 = some r → G X [wModel t a q12] 41 [(0, .ref (a 0)), (1, .int x1), (2, .int x2), (4, .int x4)] []) h ?_ (fun J41 hJ41 h => ?_)
      · intro u_41 h
        refine G.iconst C dX8_isSo_41 ni_0 ?_
        exact G.lvs [0, 1, 2, 3] rfl (hJ42 _ h)
      refine G.if_eq (tgt := 41) C dX8_isSo_16 (by decide) h (fun h => ?_) (fun h => ?_)
      · exact G.lvs [0, 1, 2, 4] rfl (hJ41 _ h)
      · refine G.aload_n C dX8_isSo_19 0 rfl ?_
        refine gfX8_16 (i := 0) (j := 0) (v := .ref (a 3)) C rfl rfl rfl dX8_isSo_20 ?_
        refine G.iload_n C dX8_isSo_23 1 rfl ?_
        refine G.iload C dX8_isSo_24 4 rfl ?_
        refine G.iadd C dX8_isSo_26 ?_
        refine G.iald (i := 0) (j := 3) (f := (q12 3)) C rfl rfl h dX8_isSo_27 (fun h => ?_)
        refine G.aload_n C dX8_isSo_28 0 rfl ?_
        refine gfX8_19 (i := 0) (j := 0) (v := .ref (a 4)) C rfl rfl rfl dX8_isSo_29 ?_
        refine G.iconst C dX8_isSo_32 ni_5 ?_
        refine G.iald (i := 0) (j := 4) (f := (q12 4)) C rfl rfl h dX8_isSo_33 (fun h => ?_)
        refine G.icmp_ne (tgt := 41) C dX8_isSo_34 (by decide) h (fun h => ?_) (fun h => ?_)
        · exact G.lvs [0, 1, 2, 4] rfl (hJ41 _ h)
        · refine G.iconst C dX8_isSo_37 ni_1 ?_
          refine G.goto (tgt := 42) C dX8_isSo_38 (by decide) ?_
          exact G.lvs [0, 1, 2, 4] rfl (hJ42 _ h)
set_option maxHeartbeats 2000000 in
set_option maxRecDepth 20000 in
theorem c_X8_isSo {t : Nat → ClassId} {a : Nat → Nat} {N : Nat} {v : SV} {x1 : Int32} {x2 : Int32} {r : Int32 × SV} (h : F_X8_isSo N v x1 x2 = some r) : CI t yX8_isSo cX8_isSo 5 (some .boolean) (rm 6) [.ref (a 0), .int x1, .int x2] [wModel t a v] (r.1) [wModel t a (r.2)] := by
  refine CZ.of (own := RX8) (by decide) rfl (Nat.le_of_ble_eq_true rfl) (fun X C hR0 => ?_)
  have hR : ∀ q : Int32 × SV, q = r → RetZ X cX8_isSo (q.1) [wModel t a (q.2)] := by intro q e; subst e; exact hR0
  show G X [wModel t a v] 0 [(0, .ref (a 0)), (1, .int x1), (2, .int x2)] []
  unfold F_X8_isSo at h
  refine G.iconst C dX8_isSo_0 ni_1 ?_
  refine G.istore_n (lv' := [(3, .int (1 : Int32)), (0, .ref (a 0)), (1, .int x1), (2, .int x2)]) C dX8_isSo_1 (by decide) rfl ?_
  refine G.iconst C dX8_isSo_2 ni_0 ?_
  refine G.istore (lv' := [(4, .int (0 : Int32)), (3, .int (1 : Int32)), (0, .ref (a 0)), (1, .int x1), (2, .int x2)]) C dX8_isSo_3 (by decide) rfl ?_
  refine G.lvs [2, 3, 4, 1, 0] rfl (w_X8_isSo_L5 C hR (fun x3_49 v_49 h => ?_) N _ _ _ h)
  · refine G.aload_n C dX8_isSo_49 0 rfl ?_
    obtain ⟨q50, hq50, h⟩ := bind_some' h
    refine G.cvV (i0 := 0) (j0 := 0) (cs' := [wModel t a q50]) C (c_X8_takeBack (a := a) hq50) [0] rfl rfl rfl rfl rfl rfl rfl k_1375 cal_X8_takeBack (fit_rm (by decide) (by decide)) rfl (Nat.le_of_ble_eq_true rfl) dX8_isSo_50 ?_
    refine G.iload_n C dX8_isSo_53 1 rfl ?_
    exact hR _ (Option.some.inj (zr_some h).2) (zr_some h).1 _ _ dX8_isSo_54
set_option maxHeartbeats 2000000 in
set_option maxRecDepth 20000 in
theorem w_X8_who_L101 {X : Cx} {t : Nat → ClassId} {a : Nat → Nat} {N : Nat} {x2 : Int32} {x3 : Int32} {x4 : Int32} {x5 : Int32} {x7 : Int32} {K160 : Int32 → SV → Option (Int32 × SV)} {r : Int32 × SV} (C : gX X t (rm 7) cX8_who 10 RX8) (hR : ∀ q : Int32 × SV, q = r → RetI X cX8_who (q.1) [wModel t a (q.2)]) (hK160 : ∀ (x8_160 : Int32) (v_160 : SV), K160 x8_160 v_160 = some r → G X [wModel t a v_160] 160 [(0, .ref (a 0)), (8, .int x8_160)] []) : ∀ (n : Nat) (x8 : Int32) (x9 : Int32) (v : SV), F_X8_who_L101 N x2 x3 x4 x5 x7 K160 n x8 x9 v = some r → G X [wModel t a v] 101 [(0, .ref (a 0)), (2, .int x2), (3, .int x3), (4, .int x4), (5, .int x5), (7, .int x7), (8, .int x8), (9, .int x9)] [] := by
  intro n
  induction n with
  | zero => intro x8 x9 v h; exact absurd h (by simp [F_X8_who_L101])
  | succ n ih =>
    intro x8 x9 v h
    rw [F_X8_who_L101] at h
    refine G.iload C dX8_who_101 7 rfl ?_
    refine G.iload_n C dX8_who_103 1 rfl ?_
    refine jn_use (fun J => ∀ (s113_0 : Int32), J s113_0 = some r → G X [wModel t a v] 113 [(0, .ref (a 0)), (2, .int x2), (3, .int x3), (4, .int x4), (5, .int x5), (7, .int x7), (8, .int x8), (9, .int x9)] [.int s113_0, .int x9]) h ?_ (fun J113 hJ113 h => ?_)
    · intro s113_0 h
      refine G.icmp_gt (tgt := 160) C dX8_who_113 (by decide) h (fun h => ?_) (fun h => ?_)
      · exact G.lvs [0, 6] rfl (hK160 _ _ h)
      · refine G.aload_n C dX8_who_116 0 rfl ?_
        refine gfX8_19 (i := 0) (j := 0) (v := .ref (a 4)) C rfl rfl rfl dX8_who_117 ?_
        refine G.iload C dX8_who_120 5 rfl ?_
        refine G.iload C dX8_who_122 7 rfl ?_
        refine G.iast (i := 0) (j := 4) (f := v 4) (cs' := [wModel t a (up2 v 4 (x7.toNatClampNeg) x9)]) C rfl rfl h dX8_who_124 (suModelA_4) rfl (fun h => ?_)
        refine G.iload C dX8_who_125 6 rfl ?_
        refine G.aload_n C dX8_who_127 0 rfl ?_
        refine G.bipush C dX8_who_128 nb_40 ?_
        refine G.iload_n C dX8_who_130 2 rfl ?_
        refine G.imul C dX8_who_131 ?_
        refine G.iload C dX8_who_132 3 rfl ?_
        refine G.iadd C dX8_who_134 ?_
        refine G.iload C dX8_who_135 4 rfl ?_
        obtain ⟨q137, hq137, h⟩ := bind_some' h
        refine G.cvI (i0 := 0) (j0 := 0) (cs' := [wModel t a (q137.2)]) C (c_X8_isSo (a := a) hq137) [0] rfl rfl rfl rfl rfl rfl rfl k_1444 cal_X8_isSo (fit_rm (by decide) (by decide)) rfl (Nat.le_of_ble_eq_true rfl) dX8_who_137 ?_
        refine jn_use (fun J => ∀ (s151_0 : Int32), J s151_0 = some r → G X [wModel t a (q137.2)] 151 [(0, .ref (a 0)), (2, .int x2), (3, .int x3), (4, .int x4), (5, .int x5), (7, .int x7), (9, .int x9)] [.int s151_0, .int x8]) h ?_ (fun J151 hJ151 h => ?_)
        · intro s151_0 h
          refine G.ior C dX8_who_151 ?_
          refine G.istore (lv' := [(8, .int (x8 ||| s151_0)), (0, .ref (a 0)), (2, .int x2), (3, .int x3), (4, .int x4), (5, .int x5), (7, .int x7), (9, .int x9)]) C dX8_who_152 (by decide) rfl ?_
          refine G.iinc (v := (x9 + (1 : Int32))) (lv' := [(9, .int (x9 + (1 : Int32))), (8, .int (x8 ||| s151_0)), (0, .ref (a 0)), (2, .int x2), (3, .int x3), (4, .int x4), (5, .int x5), (7, .int x7)]) C dX8_who_154 7 rfl (by rw [ni_1]) (by decide) rfl ?_
          refine G.goto (tgt := 101) C dX8_who_157 (by decide) ?_
          exact G.lvs [2, 3, 4, 5, 6, 7, 1, 0] rfl (ih _ _ _ h)
        refine G.if_eq (tgt := 150) C dX8_who_140 (by decide) h (fun h => ?_) (fun h => ?_)
        · refine G.iconst C dX8_who_150 ni_0 ?_
          exact G.lvs [0, 1, 2, 3, 4, 5, 7] rfl (hJ151 _ h)
        · refine G.iconst C dX8_who_143 ni_1 ?_
          refine G.iload C dX8_who_144 7 rfl ?_
          refine G.ishl C dX8_who_146 ?_
          refine G.goto (tgt := 151) C dX8_who_147 (by decide) ?_
          exact G.lvs [0, 1, 2, 3, 4, 5, 7] rfl (hJ151 _ h)
    refine G.if_ne (tgt := 111) C dX8_who_104 (by decide) h (fun h => ?_) (fun h => ?_)
    · refine G.bipush C dX8_who_111 nb_9 ?_
      exact G.lvs [0, 1, 2, 3, 4, 5, 6, 7] rfl (hJ113 _ h)
    · refine G.iconst C dX8_who_107 ni_5 ?_
      refine G.goto (tgt := 113) C dX8_who_108 (by decide) ?_
      exact G.lvs [0, 1, 2, 3, 4, 5, 6, 7] rfl (hJ113 _ h)
set_option maxHeartbeats 2000000 in
set_option maxRecDepth 20000 in
theorem c_X8_who {t : Nat → ClassId} {a : Nat → Nat} {N : Nat} {v : SV} {x1 : Int32} {x2 : Int32} {x3 : Int32} {x4 : Int32} {x5 : Int32} {r : Int32 × SV} (h : F_X8_who N v x1 x2 x3 x4 x5 = some r) : CI t yX8_who cX8_who 10 (some .int) (rm 7) [.ref (a 0), .int x1, .int x2, .int x3, .int x4, .int x5] [wModel t a v] (r.1) [wModel t a (r.2)] := by
  refine CI.of (own := RX8) (by decide) rfl (Nat.le_of_ble_eq_true rfl) (fun X C hR0 => ?_)
  have hR : ∀ q : Int32 × SV, q = r → RetI X cX8_who (q.1) [wModel t a (q.2)] := by intro q e; subst e; exact hR0
  show G X [wModel t a v] 0 [(0, .ref (a 0)), (1, .int x1), (2, .int x2), (3, .int x3), (4, .int x4), (5, .int x5)] []
  unfold F_X8_who at h
  refine G.aload_n C dX8_who_0 0 rfl ?_
  refine G.iload_n C dX8_who_1 1 rfl ?_
  obtain ⟨q2, hq2, h⟩ := bind_some' h
  refine G.cvI (i0 := 0) (j0 := 0) (cs' := [wModel t a v]) C (c_X8_isThing (a := a) hq2) [0] rfl rfl rfl rfl rfl rfl rfl k_1307 cal_X8_isThing (fit_rm (by decide) (by decide)) rfl (Nat.le_of_ble_eq_true rfl) dX8_who_2 ?_
  refine jn_use (fun J => ∀ (s44_0 : Int32) (v_44 : SV), J s44_0 v_44 = some r → G X [wModel t a v_44] 44 [(0, .ref (a 0)), (1, .int x1), (2, .int x2), (3, .int x3), (4, .int x4), (5, .int x5)] [.int s44_0]) h ?_ (fun J44 hJ44 h => ?_)
  · intro s44_0 v_44 h
    refine G.istore (lv' := [(6, .int s44_0), (0, .ref (a 0)), (1, .int x1), (2, .int x2), (3, .int x3), (4, .int x4), (5, .int x5)]) C dX8_who_44 (by decide) rfl ?_
    refine G.iload C dX8_who_46 0 rfl ?_
    refine G.if_ge (tgt := 54) C dX8_who_48 (by decide) h (fun h => ?_) (fun h => ?_)
    · refine G.aload_n C dX8_who_54 1 rfl ?_
      obtain ⟨q55, hq55, h⟩ := bind_some' h
      refine G.cvV (i0 := 0) (j0 := 0) (cs' := [wModel t a q55]) C (c_X8_putAside (a := a) hq55) [0] rfl rfl rfl rfl rfl rfl rfl k_1367 cal_X8_putAside (fit_rm (by decide) (by decide)) rfl (Nat.le_of_ble_eq_true rfl) dX8_who_55 ?_
      refine G.iload_n C dX8_who_58 3 rfl ?_
      refine jn_use (fun J => ∀ (s85_0 : Int32), J s85_0 = some r → G X [wModel t a q55] 85 [(0, .ref (a 0)), (2, .int x2), (3, .int x3), (4, .int x4), (5, .int x5)] [.int s85_0]) h ?_ (fun J85 hJ85 h => ?_)
      · intro s85_0 h
        refine G.istore (lv' := [(7, .int s85_0), (0, .ref (a 0)), (2, .int x2), (3, .int x3), (4, .int x4), (5, .int x5)]) C dX8_who_85 (by decide) rfl ?_
        refine G.iconst C dX8_who_87 ni_0 ?_
        refine G.istore (lv' := [(8, .int (0 : Int32)), (7, .int s85_0), (0, .ref (a 0)), (2, .int x2), (3, .int x3), (4, .int x4), (5, .int x5)]) C dX8_who_88 (by decide) rfl ?_
        refine G.iload_n C dX8_who_90 3 rfl ?_
        refine jn_use (fun J => ∀ (s99_0 : Int32), J s99_0 = some r → G X [wModel t a q55] 99 [(0, .ref (a 0)), (2, .int x2), (3, .int x3), (4, .int x4), (5, .int x5), (7, .int s85_0), (8, .int (0 : Int32))] [.int s99_0]) h ?_ (fun J99 hJ99 h => ?_)
        · intro s99_0 h
          refine G.istore (lv' := [(9, .int s99_0), (0, .ref (a 0)), (2, .int x2), (3, .int x3), (4, .int x4), (5, .int x5), (7, .int s85_0), (8, .int (0 : Int32))]) C dX8_who_99 (by decide) rfl ?_
          refine G.lvs [1, 2, 3, 4, 5, 6, 7, 0] rfl (w_X8_who_L101 C hR (fun x8_160 v_160 h => ?_) N _ _ _ h)
          · refine G.aload_n C dX8_who_160 0 rfl ?_
            refine G.iload C dX8_who_161 1 rfl ?_
            obtain ⟨q163, hq163, h⟩ := bind_some' h
            refine G.cvI (i0 := 0) (j0 := 0) (cs' := [wModel t a (q163.2)]) C (c_X8_well (a := a) hq163) [0] rfl rfl rfl rfl rfl rfl rfl k_1164 cal_X8_well (fit_rm (by decide) (by decide)) rfl (Nat.le_of_ble_eq_true rfl) dX8_who_163 ?_
            exact hR _ (Option.some.inj h) _ _ dX8_who_166
        refine G.if_ne (tgt := 98) C dX8_who_91 (by decide) h (fun h => ?_) (fun h => ?_)
        · refine G.iconst C dX8_who_98 ni_0 ?_
          exact G.lvs [2, 3, 4, 5, 6, 1, 0] rfl (hJ99 _ h)
        · refine G.iconst C dX8_who_94 ni_1 ?_
          refine G.goto (tgt := 99) C dX8_who_95 (by decide) ?_
          exact G.lvs [2, 3, 4, 5, 6, 1, 0] rfl (hJ99 _ h)
      refine G.if_ne (tgt := 69) C dX8_who_59 (by decide) h (fun h => ?_) (fun h => ?_)
      · refine G.iload_n C dX8_who_69 3 rfl ?_
        refine G.iconst C dX8_who_70 ni_1 ?_
        refine G.icmp_ne (tgt := 81) C dX8_who_71 (by decide) h (fun h => ?_) (fun h => ?_)
        · refine G.bipush C dX8_who_81 nb_25 ?_
          refine G.iload_n C dX8_who_83 2 rfl ?_
          refine G.iadd C dX8_who_84 ?_
          exact G.lvs [1, 3, 4, 5, 6] rfl (hJ85 _ h)
        · refine G.bipush C dX8_who_74 nb_13 ?_
          refine G.iload_n C dX8_who_76 2 rfl ?_
          refine G.iadd C dX8_who_77 ?_
          refine G.goto (tgt := 85) C dX8_who_78 (by decide) ?_
          exact G.lvs [1, 3, 4, 5, 6] rfl (hJ85 _ h)
      · refine G.bipush C dX8_who_62 nb_7 ?_
        refine G.iload_n C dX8_who_64 2 rfl ?_
        refine G.iadd C dX8_who_65 ?_
        refine G.goto (tgt := 85) C dX8_who_66 (by decide) ?_
        exact G.lvs [1, 3, 4, 5, 6] rfl (hJ85 _ h)
    · refine G.iload C dX8_who_51 0 rfl ?_
      exact hR _ (Option.some.inj h) _ _ dX8_who_53
  refine jn_use (fun J => ∀ (u_30 : Unit), J u_30 = some r → G X [wModel t a v] 30 [(0, .ref (a 0)), (1, .int x1), (2, .int x2), (3, .int x3), (4, .int x4), (5, .int x5)] []) h ?_ (fun J30 hJ30 h => ?_)
  · intro u_30 h
    refine G.ldc C k_1158 dX8_who_30 ?_
    refine G.goto (tgt := 44) C dX8_who_32 (by decide) ?_
    exact G.lvs [0, 1, 2, 3, 4, 5] rfl (hJ44 _ _ h)
  refine G.if_eq (tgt := 30) C dX8_who_5 (by decide) h (fun h => ?_) (fun h => ?_)
  · exact G.lvs [0, 1, 2, 3, 4, 5] rfl (hJ30 _ h)
  · refine G.iload_n C dX8_who_8 2 rfl ?_
    refine G.i2l C dX8_who_9 ?_
    refine G.lconst C dX8_who_10 nl_0 ?_
    refine G.ldc2 C k_1157 dX8_who_11 ?_
    obtain ⟨q14, hq14, h⟩ := bind_some' h
    refine G.csI (cs' := [wModel t a v]) C (c_X8_in hq14) [] rfl rfl rfl rfl k_1154 cal_X8_in (fit_rm (by decide) (by decide)) rfl (Nat.le_of_ble_eq_true rfl) dX8_who_14 ?_
    refine G.if_eq (tgt := 30) C dX8_who_17 (by decide) h (fun h => ?_) (fun h => ?_)
    · exact G.lvs [0, 1, 2, 3, 4, 5] rfl (hJ30 _ h)
    · refine G.aload_n C dX8_who_20 0 rfl ?_
      refine G.iload_n C dX8_who_21 3 rfl ?_
      refine G.iload C dX8_who_22 5 rfl ?_
      obtain ⟨q24, hq24, h⟩ := bind_some' h
      refine G.cvI (i0 := 0) (j0 := 0) (cs' := [wModel t a v]) C (c_X8_isLine (a := a) hq24) [0] rfl rfl rfl rfl rfl rfl rfl k_1435 cal_X8_isLine (fit_rm (by decide) (by decide)) rfl (Nat.le_of_ble_eq_true rfl) dX8_who_24 ?_
      refine G.if_ne (tgt := 35) C dX8_who_27 (by decide) h (fun h => ?_) (fun h => ?_)
      · refine G.aload_n C dX8_who_35 0 rfl ?_
        refine G.iload_n C dX8_who_36 3 rfl ?_
        refine G.iload C dX8_who_37 4 rfl ?_
        refine G.iload C dX8_who_39 5 rfl ?_
        obtain ⟨q41, hq41, h⟩ := bind_some' h
        refine G.cvI (i0 := 0) (j0 := 0) (cs' := [wModel t a (q41.2)]) C (c_X8_lacks (a := a) hq41) [0] rfl rfl rfl rfl rfl rfl rfl k_1440 cal_X8_lacks (fit_rm (by decide) (by decide)) rfl (Nat.le_of_ble_eq_true rfl) dX8_who_41 ?_
        exact G.lvs [0, 1, 2, 3, 4, 5] rfl (hJ44 _ _ h)
      · exact G.lvs [0, 1, 2, 3, 4, 5] rfl (hJ30 _ h)
set_option maxHeartbeats 2000000 in
set_option maxRecDepth 20000 in
theorem w_X8_wanted_L72 {X : Cx} {t : Nat → ClassId} {a : Nat → Nat} {N : Nat} {x1 : Int32} {x2 : Int32} {x3 : Int32} {x4 : Int32} {x5 : Int32} {K145 : Int32 → SV → Option (Int32 × SV)} {r : Int32 × SV} (C : gX X t (rm 7) cX8_wanted 9 RX8) (hR : ∀ q : Int32 × SV, q = r → RetI X cX8_wanted (q.1) [wModel t a (q.2)]) (hK145 : ∀ (x7_145 : Int32) (v_145 : SV), K145 x7_145 v_145 = some r → G X [wModel t a v_145] 145 [(0, .ref (a 0)), (7, .int x7_145)] []) : ∀ (n : Nat) (x7 : Int32) (x8 : Int32) (v : SV), F_X8_wanted_L72 N x1 x2 x3 x4 x5 K145 n x7 x8 v = some r → G X [wModel t a v] 72 [(0, .ref (a 0)), (1, .int x1), (2, .int x2), (3, .int x3), (4, .int x4), (5, .int x5), (7, .int x7), (8, .int x8)] [] := by
  intro n
  induction n with
  | zero => intro x7 x8 v h; exact absurd h (by simp [F_X8_wanted_L72])
  | succ n ih =>
    intro x7 x8 v h
    rw [F_X8_wanted_L72] at h
    refine G.iload C dX8_wanted_72 7 rfl ?_
    refine G.iload_n C dX8_wanted_74 2 rfl ?_
    refine jn_use (fun J => ∀ (s85_0 : Int32), J s85_0 = some r → G X [wModel t a v] 85 [(0, .ref (a 0)), (1, .int x1), (2, .int x2), (3, .int x3), (4, .int x4), (5, .int x5), (7, .int x7), (8, .int x8)] [.int s85_0, .int x8]) h ?_ (fun J85 hJ85 h => ?_)
    · intro s85_0 h
      refine G.icmp_gt (tgt := 145) C dX8_wanted_85 (by decide) h (fun h => ?_) (fun h => ?_)
      · exact G.lvs [0, 6] rfl (hK145 _ _ h)
      · refine G.aload_n C dX8_wanted_88 0 rfl ?_
        refine gfX8_19 (i := 0) (j := 0) (v := .ref (a 4)) C rfl rfl rfl dX8_wanted_89 ?_
        refine G.iload_n C dX8_wanted_92 2 rfl ?_
        refine jn_use (fun J => ∀ (s107_0 : Int32), J s107_0 = some r → G X [wModel t a v] 107 [(0, .ref (a 0)), (1, .int x1), (2, .int x2), (3, .int x3), (4, .int x4), (5, .int x5), (7, .int x7), (8, .int x8)] [.int s107_0, .ref (a 4)]) h ?_ (fun J107 hJ107 h => ?_)
        · intro s107_0 h
          refine G.iload C dX8_wanted_107 7 rfl ?_
          refine G.iast (i := 0) (j := 4) (f := v 4) (cs' := [wModel t a (up2 v 4 (s107_0.toNatClampNeg) x8)]) C rfl rfl h dX8_wanted_109 (suModelA_4) rfl (fun h => ?_)
          refine G.iload C dX8_wanted_110 6 rfl ?_
          refine G.aload_n C dX8_wanted_112 0 rfl ?_
          refine G.bipush C dX8_wanted_113 nb_40 ?_
          refine G.iload_n C dX8_wanted_115 3 rfl ?_
          refine G.imul C dX8_wanted_116 ?_
          refine G.iload C dX8_wanted_117 4 rfl ?_
          refine G.iadd C dX8_wanted_119 ?_
          refine G.iload C dX8_wanted_120 5 rfl ?_
          obtain ⟨q122, hq122, h⟩ := bind_some' h
          refine G.cvI (i0 := 0) (j0 := 0) (cs' := [wModel t a (q122.2)]) C (c_X8_isSo (a := a) hq122) [0] rfl rfl rfl rfl rfl rfl rfl k_1444 cal_X8_isSo (fit_rm (by decide) (by decide)) rfl (Nat.le_of_ble_eq_true rfl) dX8_wanted_122 ?_
          refine jn_use (fun J => ∀ (s136_0 : Int32), J s136_0 = some r → G X [wModel t a (q122.2)] 136 [(0, .ref (a 0)), (1, .int x1), (2, .int x2), (3, .int x3), (4, .int x4), (5, .int x5), (8, .int x8)] [.int s136_0, .int x7]) h ?_ (fun J136 hJ136 h => ?_)
          · intro s136_0 h
            refine G.ior C dX8_wanted_136 ?_
            refine G.istore (lv' := [(7, .int (x7 ||| s136_0)), (0, .ref (a 0)), (1, .int x1), (2, .int x2), (3, .int x3), (4, .int x4), (5, .int x5), (8, .int x8)]) C dX8_wanted_137 (by decide) rfl ?_
            refine G.iinc (v := (x8 + (1 : Int32))) (lv' := [(8, .int (x8 + (1 : Int32))), (7, .int (x7 ||| s136_0)), (0, .ref (a 0)), (1, .int x1), (2, .int x2), (3, .int x3), (4, .int x4), (5, .int x5)]) C dX8_wanted_139 7 rfl (by rw [ni_1]) (by decide) rfl ?_
            refine G.goto (tgt := 72) C dX8_wanted_142 (by decide) ?_
            exact G.lvs [2, 3, 4, 5, 6, 7, 1, 0] rfl (ih _ _ _ h)
          refine G.if_eq (tgt := 135) C dX8_wanted_125 (by decide) h (fun h => ?_) (fun h => ?_)
          · refine G.iconst C dX8_wanted_135 ni_0 ?_
            exact G.lvs [0, 1, 2, 3, 4, 5, 7] rfl (hJ136 _ h)
          · refine G.iconst C dX8_wanted_128 ni_1 ?_
            refine G.iload C dX8_wanted_129 7 rfl ?_
            refine G.ishl C dX8_wanted_131 ?_
            refine G.goto (tgt := 136) C dX8_wanted_132 (by decide) ?_
            exact G.lvs [0, 1, 2, 3, 4, 5, 7] rfl (hJ136 _ h)
        refine G.if_ne (tgt := 103) C dX8_wanted_93 (by decide) h (fun h => ?_) (fun h => ?_)
        · refine G.bipush C dX8_wanted_103 nb_43 ?_
          refine G.iload_n C dX8_wanted_105 1 rfl ?_
          refine G.iadd C dX8_wanted_106 ?_
          exact G.lvs [0, 1, 2, 3, 4, 5, 6, 7] rfl (hJ107 _ h)
        · refine G.bipush C dX8_wanted_96 nb_37 ?_
          refine G.iload_n C dX8_wanted_98 1 rfl ?_
          refine G.iadd C dX8_wanted_99 ?_
          refine G.goto (tgt := 107) C dX8_wanted_100 (by decide) ?_
          exact G.lvs [0, 1, 2, 3, 4, 5, 6, 7] rfl (hJ107 _ h)
    refine G.if_ne (tgt := 83) C dX8_wanted_75 (by decide) h (fun h => ?_) (fun h => ?_)
    · refine G.bipush C dX8_wanted_83 nb_20 ?_
      exact G.lvs [0, 1, 2, 3, 4, 5, 6, 7] rfl (hJ85 _ h)
    · refine G.bipush C dX8_wanted_78 nb_9 ?_
      refine G.goto (tgt := 85) C dX8_wanted_80 (by decide) ?_
      exact G.lvs [0, 1, 2, 3, 4, 5, 6, 7] rfl (hJ85 _ h)
set_option maxHeartbeats 2000000 in
set_option maxRecDepth 20000 in
theorem c_X8_wanted {t : Nat → ClassId} {a : Nat → Nat} {N : Nat} {v : SV} {x1 : Int32} {x2 : Int32} {x3 : Int32} {x4 : Int32} {x5 : Int32} {r : Int32 × SV} (h : F_X8_wanted N v x1 x2 x3 x4 x5 = some r) : CI t yX8_wanted cX8_wanted 9 (some .int) (rm 7) [.ref (a 0), .int x1, .int x2, .int x3, .int x4, .int x5] [wModel t a v] (r.1) [wModel t a (r.2)] := by
  refine CI.of (own := RX8) (by decide) rfl (Nat.le_of_ble_eq_true rfl) (fun X C hR0 => ?_)
  have hR : ∀ q : Int32 × SV, q = r → RetI X cX8_wanted (q.1) [wModel t a (q.2)] := by intro q e; subst e; exact hR0
  show G X [wModel t a v] 0 [(0, .ref (a 0)), (1, .int x1), (2, .int x2), (3, .int x3), (4, .int x4), (5, .int x5)] []
  unfold F_X8_wanted at h
  refine G.aload_n C dX8_wanted_0 0 rfl ?_
  refine G.iload_n C dX8_wanted_1 1 rfl ?_
  obtain ⟨q2, hq2, h⟩ := bind_some' h
  refine G.cvI (i0 := 0) (j0 := 0) (cs' := [wModel t a v]) C (c_X8_isSeat (a := a) hq2) [0] rfl rfl rfl rfl rfl rfl rfl k_1327 cal_X8_isSeat (fit_rm (by decide) (by decide)) rfl (Nat.le_of_ble_eq_true rfl) dX8_wanted_2 ?_
  refine G.if_eq (tgt := 25) C dX8_wanted_5 (by decide) h (fun h => ?_) (fun h => ?_)
  · refine G.ldc C k_1158 dX8_wanted_25 ?_
    exact hR _ (Option.some.inj h) _ _ dX8_wanted_27
  · refine G.iload_n C dX8_wanted_8 2 rfl ?_
    obtain ⟨q9, hq9, h⟩ := bind_some' h
    refine G.csI (cs' := [wModel t a v]) C (c_X8_isWhat hq9) [] rfl rfl rfl rfl k_1403 cal_X8_isWhat (fit_rm (by decide) (by decide)) rfl (Nat.le_of_ble_eq_true rfl) dX8_wanted_9 ?_
    refine G.if_eq (tgt := 25) C dX8_wanted_12 (by decide) h (fun h => ?_) (fun h => ?_)
    · refine G.ldc C k_1158 dX8_wanted_25 ?_
      exact hR _ (Option.some.inj h) _ _ dX8_wanted_27
    · refine G.aload_n C dX8_wanted_15 0 rfl ?_
      refine G.iload_n C dX8_wanted_16 3 rfl ?_
      refine G.iload C dX8_wanted_17 5 rfl ?_
      obtain ⟨q19, hq19, h⟩ := bind_some' h
      refine G.cvI (i0 := 0) (j0 := 0) (cs' := [wModel t a v]) C (c_X8_isLine (a := a) hq19) [0] rfl rfl rfl rfl rfl rfl rfl k_1435 cal_X8_isLine (fit_rm (by decide) (by decide)) rfl (Nat.le_of_ble_eq_true rfl) dX8_wanted_19 ?_
      refine G.if_ne (tgt := 28) C dX8_wanted_22 (by decide) h (fun h => ?_) (fun h => ?_)
      · refine G.aload_n C dX8_wanted_28 0 rfl ?_
        refine gfX8_19 (i := 0) (j := 0) (v := .ref (a 4)) C rfl rfl rfl dX8_wanted_29 ?_
        refine G.bipush C dX8_wanted_32 nb_49 ?_
        refine G.iload_n C dX8_wanted_34 1 rfl ?_
        refine G.iadd C dX8_wanted_35 ?_
        refine G.iald (i := 0) (j := 4) (f := (v 4)) C rfl rfl h dX8_wanted_36 (fun h => ?_)
        refine G.if_eq (tgt := 43) C dX8_wanted_37 (by decide) h (fun h => ?_) (fun h => ?_)
        · refine G.aload_n C dX8_wanted_43 0 rfl ?_
          refine G.iload_n C dX8_wanted_44 3 rfl ?_
          refine G.iload C dX8_wanted_45 4 rfl ?_
          refine G.iload C dX8_wanted_47 5 rfl ?_
          obtain ⟨q49, hq49, h⟩ := bind_some' h
          refine G.cvI (i0 := 0) (j0 := 0) (cs' := [wModel t a (q49.2)]) C (c_X8_lacks (a := a) hq49) [0] rfl rfl rfl rfl rfl rfl rfl k_1440 cal_X8_lacks (fit_rm (by decide) (by decide)) rfl (Nat.le_of_ble_eq_true rfl) dX8_wanted_49 ?_
          refine G.istore (lv' := [(6, .int (q49.1)), (0, .ref (a 0)), (1, .int x1), (2, .int x2), (3, .int x3), (4, .int x4), (5, .int x5)]) C dX8_wanted_52 (by decide) rfl ?_
          refine G.iload C dX8_wanted_54 0 rfl ?_
          refine G.if_ge (tgt := 62) C dX8_wanted_56 (by decide) h (fun h => ?_) (fun h => ?_)
          · refine G.aload_n C dX8_wanted_62 1 rfl ?_
            obtain ⟨q63, hq63, h⟩ := bind_some' h
            refine G.cvV (i0 := 0) (j0 := 0) (cs' := [wModel t a q63]) C (c_X8_putAside (a := a) hq63) [0] rfl rfl rfl rfl rfl rfl rfl k_1367 cal_X8_putAside (fit_rm (by decide) (by decide)) rfl (Nat.le_of_ble_eq_true rfl) dX8_wanted_63 ?_
            refine G.iconst C dX8_wanted_66 ni_0 ?_
            refine G.istore (lv' := [(7, .int (0 : Int32)), (6, .int (q49.1)), (0, .ref (a 0)), (1, .int x1), (2, .int x2), (3, .int x3), (4, .int x4), (5, .int x5)]) C dX8_wanted_67 (by decide) rfl ?_
            refine G.iload_n C dX8_wanted_69 4 rfl ?_
            refine G.istore (lv' := [(8, .int x2), (7, .int (0 : Int32)), (6, .int (q49.1)), (0, .ref (a 0)), (1, .int x1), (2, .int x2), (3, .int x3), (4, .int x4), (5, .int x5)]) C dX8_wanted_70 (by decide) rfl ?_
            refine G.lvs [3, 4, 5, 6, 7, 8, 1, 0] rfl (w_X8_wanted_L72 C hR (fun x7_145 v_145 h => ?_) N _ _ _ h)
            · refine G.aload_n C dX8_wanted_145 0 rfl ?_
              refine G.iload C dX8_wanted_146 1 rfl ?_
              obtain ⟨q148, hq148, h⟩ := bind_some' h
              refine G.cvI (i0 := 0) (j0 := 0) (cs' := [wModel t a (q148.2)]) C (c_X8_well (a := a) hq148) [0] rfl rfl rfl rfl rfl rfl rfl k_1164 cal_X8_well (fit_rm (by decide) (by decide)) rfl (Nat.le_of_ble_eq_true rfl) dX8_wanted_148 ?_
              exact hR _ (Option.some.inj h) _ _ dX8_wanted_151
          · refine G.iload C dX8_wanted_59 0 rfl ?_
            exact hR _ (Option.some.inj h) _ _ dX8_wanted_61
        · refine G.ldc C k_1238 dX8_wanted_40 ?_
          exact hR _ (Option.some.inj h) _ _ dX8_wanted_42
      · refine G.ldc C k_1158 dX8_wanted_25 ?_
        exact hR _ (Option.some.inj h) _ _ dX8_wanted_27
set_option maxHeartbeats 2000000 in
set_option maxRecDepth 20000 in
theorem w_X8_wasOff_L70 {X : Cx} {t : Nat → ClassId} {a : Nat → Nat} {N : Nat} {x1 : Int32} {x2 : Int32} {x3 : Int32} {K129 : Int32 → SV → Option (Int32 × SV)} {r : Int32 × SV} (C : gX X t (rm 7) cX8_wasOff 7 RX8) (hR : ∀ q : Int32 × SV, q = r → RetI X cX8_wasOff (q.1) [wModel t a (q.2)]) (hK129 : ∀ (x5_129 : Int32) (v_129 : SV), K129 x5_129 v_129 = some r → G X [wModel t a v_129] 129 [(0, .ref (a 0)), (5, .int x5_129)] []) : ∀ (n : Nat) (x5 : Int32) (x6 : Int32) (v : SV), F_X8_wasOff_L70 N x1 x2 x3 K129 n x5 x6 v = some r → G X [wModel t a v] 70 [(0, .ref (a 0)), (1, .int x1), (2, .int x2), (3, .int x3), (5, .int x5), (6, .int x6)] [] := by
  intro n
  induction n with
  | zero => intro x5 x6 v h; exact absurd h (by simp [F_X8_wasOff_L70])
  | succ n ih =>
    intro x5 x6 v h
    rw [F_X8_wasOff_L70] at h
    refine G.iload C dX8_wasOff_70 5 rfl ?_
    refine G.aload_n C dX8_wasOff_72 0 rfl ?_
    refine gfX8_19 (i := 0) (j := 0) (v := .ref (a 4)) C rfl rfl rfl dX8_wasOff_73 ?_
    refine G.iconst C dX8_wasOff_76 ni_2 ?_
    refine G.iald (i := 0) (j := 4) (f := (v 4)) C rfl rfl h dX8_wasOff_77 (fun h => ?_)
    refine G.icmp_ge (tgt := 129) C dX8_wasOff_78 (by decide) h (fun h => ?_) (fun h => ?_)
    · exact G.lvs [0, 4] rfl (hK129 _ _ h)
    · refine G.aload_n C dX8_wasOff_81 0 rfl ?_
      refine G.iload C dX8_wasOff_82 5 rfl ?_
      obtain ⟨q84, hq84, h⟩ := bind_some' h
      refine G.cvI (i0 := 0) (j0 := 0) (cs' := [wModel t a v]) C (c_X8_placeOf (a := a) hq84) [0] rfl rfl rfl rfl rfl rfl rfl k_1295 cal_X8_placeOf (fit_rm (by decide) (by decide)) rfl (Nat.le_of_ble_eq_true rfl) dX8_wasOff_84 ?_
      refine jn_use (fun J => ∀ (x5_123 : Int32) (v_123 : SV), J x5_123 v_123 = some r → G X [wModel t a v_123] 123 [(0, .ref (a 0)), (1, .int x1), (2, .int x2), (3, .int x3), (5, .int x5_123), (6, .int x6)] []) h ?_ (fun J123 hJ123 h => ?_)
      · intro x5_123 v_123 h
        refine G.iinc (v := (x6 + (1 : Int32))) (lv' := [(6, .int (x6 + (1 : Int32))), (0, .ref (a 0)), (1, .int x1), (2, .int x2), (3, .int x3), (5, .int x5_123)]) C dX8_wasOff_123 5 rfl (by rw [ni_1]) (by decide) rfl ?_
        refine G.goto (tgt := 70) C dX8_wasOff_126 (by decide) ?_
        exact G.lvs [1, 2, 3, 4, 5, 0] rfl (ih _ _ _ h)
      refine G.if_lt (tgt := 123) C dX8_wasOff_87 (by decide) h (fun h => ?_) (fun h => ?_)
      · exact G.lvs [0, 1, 2, 3, 4, 5] rfl (hJ123 _ _ h)
      · refine G.aload_n C dX8_wasOff_90 0 rfl ?_
        refine G.iload C dX8_wasOff_91 5 rfl ?_
        obtain ⟨q93, hq93, h⟩ := bind_some' h
        refine G.cvV (i0 := 0) (j0 := 0) (cs' := [wModel t a q93]) C (c_X8_takeOff (a := a) hq93) [0] rfl rfl rfl rfl rfl rfl rfl k_1291 cal_X8_takeOff (fit_rm (by decide) (by decide)) rfl (Nat.le_of_ble_eq_true rfl) dX8_wasOff_93 ?_
        refine G.iload C dX8_wasOff_96 4 rfl ?_
        refine G.aload_n C dX8_wasOff_98 0 rfl ?_
        refine G.bipush C dX8_wasOff_99 nb_40 ?_
        refine G.iload_n C dX8_wasOff_101 1 rfl ?_
        refine G.imul C dX8_wasOff_102 ?_
        refine G.iload_n C dX8_wasOff_103 2 rfl ?_
        refine G.iadd C dX8_wasOff_104 ?_
        refine G.iload_n C dX8_wasOff_105 3 rfl ?_
        obtain ⟨q106, hq106, h⟩ := bind_some' h
        refine G.cvI (i0 := 0) (j0 := 0) (cs' := [wModel t a (q106.2)]) C (c_X8_isSo (a := a) hq106) [0] rfl rfl rfl rfl rfl rfl rfl k_1444 cal_X8_isSo (fit_rm (by decide) (by decide)) rfl (Nat.le_of_ble_eq_true rfl) dX8_wasOff_106 ?_
        refine jn_use (fun J => ∀ (s120_0 : Int32), J s120_0 = some r → G X [wModel t a (q106.2)] 120 [(0, .ref (a 0)), (1, .int x1), (2, .int x2), (3, .int x3), (6, .int x6)] [.int s120_0, .int x5]) h ?_ (fun J120 hJ120 h => ?_)
        · intro s120_0 h
          refine G.ior C dX8_wasOff_120 ?_
          refine G.istore (lv' := [(5, .int (x5 ||| s120_0)), (0, .ref (a 0)), (1, .int x1), (2, .int x2), (3, .int x3), (6, .int x6)]) C dX8_wasOff_121 (by decide) rfl ?_
          exact G.lvs [1, 2, 3, 4, 0, 5] rfl (hJ123 _ _ h)
        refine G.if_eq (tgt := 119) C dX8_wasOff_109 (by decide) h (fun h => ?_) (fun h => ?_)
        · refine G.iconst C dX8_wasOff_119 ni_0 ?_
          exact G.lvs [0, 1, 2, 3, 5] rfl (hJ120 _ h)
        · refine G.iconst C dX8_wasOff_112 ni_1 ?_
          refine G.iload C dX8_wasOff_113 5 rfl ?_
          refine G.ishl C dX8_wasOff_115 ?_
          refine G.goto (tgt := 120) C dX8_wasOff_116 (by decide) ?_
          exact G.lvs [0, 1, 2, 3, 5] rfl (hJ120 _ h)
set_option maxHeartbeats 2000000 in
set_option maxRecDepth 20000 in
theorem c_X8_wasOff {t : Nat → ClassId} {a : Nat → Nat} {N : Nat} {v : SV} {x1 : Int32} {x2 : Int32} {x3 : Int32} {r : Int32 × SV} (h : F_X8_wasOff N v x1 x2 x3 = some r) : CI t yX8_wasOff cX8_wasOff 7 (some .int) (rm 7) [.ref (a 0), .int x1, .int x2, .int x3] [wModel t a v] (r.1) [wModel t a (r.2)] := by
  refine CI.of (own := RX8) (by decide) rfl (Nat.le_of_ble_eq_true rfl) (fun X C hR0 => ?_)
  have hR : ∀ q : Int32 × SV, q = r → RetI X cX8_wasOff (q.1) [wModel t a (q.2)] := by intro q e; subst e; exact hR0
  show G X [wModel t a v] 0 [(0, .ref (a 0)), (1, .int x1), (2, .int x2), (3, .int x3)] []
  unfold F_X8_wasOff at h
  refine G.aload_n C dX8_wasOff_0 0 rfl ?_
  refine gfX8_141 (i := 0) (j := 0) (v := .int (v 0 4)) C rfl rfl rfl dX8_wasOff_1 ?_
  refine G.if_ne (tgt := 10) C dX8_wasOff_4 (by decide) h (fun h => ?_) (fun h => ?_)
  · refine G.aload_n C dX8_wasOff_10 0 rfl ?_
    refine G.iload_n C dX8_wasOff_11 1 rfl ?_
    refine G.iload_n C dX8_wasOff_12 3 rfl ?_
    obtain ⟨q13, hq13, h⟩ := bind_some' h
    refine G.cvI (i0 := 0) (j0 := 0) (cs' := [wModel t a v]) C (c_X8_isLine (a := a) hq13) [0] rfl rfl rfl rfl rfl rfl rfl k_1435 cal_X8_isLine (fit_rm (by decide) (by decide)) rfl (Nat.le_of_ble_eq_true rfl) dX8_wasOff_13 ?_
    refine jn_use (fun J => ∀ (s31_0 : Int32) (v_31 : SV), J s31_0 v_31 = some r → G X [wModel t a v_31] 31 [(0, .ref (a 0)), (1, .int x1), (2, .int x2), (3, .int x3)] [.int s31_0]) h ?_ (fun J31 hJ31 h => ?_)
    · intro s31_0 v_31 h
      refine G.istore (lv' := [(4, .int s31_0), (0, .ref (a 0)), (1, .int x1), (2, .int x2), (3, .int x3)]) C dX8_wasOff_31 (by decide) rfl ?_
      refine G.iload C dX8_wasOff_33 0 rfl ?_
      refine G.if_ge (tgt := 41) C dX8_wasOff_35 (by decide) h (fun h => ?_) (fun h => ?_)
      · refine G.aload_n C dX8_wasOff_41 1 rfl ?_
        obtain ⟨q42, hq42, h⟩ := bind_some' h
        refine G.cvV (i0 := 0) (j0 := 0) (cs' := [wModel t a q42]) C (c_X8_putAside (a := a) hq42) [0] rfl rfl rfl rfl rfl rfl rfl k_1367 cal_X8_putAside (fit_rm (by decide) (by decide)) rfl (Nat.le_of_ble_eq_true rfl) dX8_wasOff_42 ?_
        refine G.aload_n C dX8_wasOff_45 1 rfl ?_
        refine G.bipush C dX8_wasOff_46 nb_40 ?_
        refine G.iload_n C dX8_wasOff_48 2 rfl ?_
        refine G.imul C dX8_wasOff_49 ?_
        refine G.iload_n C dX8_wasOff_50 3 rfl ?_
        refine G.iadd C dX8_wasOff_51 ?_
        refine G.iload_n C dX8_wasOff_52 4 rfl ?_
        obtain ⟨q53, hq53, h⟩ := bind_some' h
        refine G.cvI (i0 := 0) (j0 := 0) (cs' := [wModel t a (q53.2)]) C (c_X8_isSo (a := a) hq53) [0] rfl rfl rfl rfl rfl rfl rfl k_1444 cal_X8_isSo (fit_rm (by decide) (by decide)) rfl (Nat.le_of_ble_eq_true rfl) dX8_wasOff_53 ?_
        refine jn_use (fun J => ∀ (s65_0 : Int32), J s65_0 = some r → G X [wModel t a (q53.2)] 65 [(0, .ref (a 0)), (1, .int x1), (2, .int x2), (3, .int x3)] [.int s65_0]) h ?_ (fun J65 hJ65 h => ?_)
        · intro s65_0 h
          refine G.istore (lv' := [(5, .int s65_0), (0, .ref (a 0)), (1, .int x1), (2, .int x2), (3, .int x3)]) C dX8_wasOff_65 (by decide) rfl ?_
          refine G.iconst C dX8_wasOff_67 ni_0 ?_
          refine G.istore (lv' := [(6, .int (0 : Int32)), (5, .int s65_0), (0, .ref (a 0)), (1, .int x1), (2, .int x2), (3, .int x3)]) C dX8_wasOff_68 (by decide) rfl ?_
          refine G.lvs [2, 3, 4, 5, 1, 0] rfl (w_X8_wasOff_L70 C hR (fun x5_129 v_129 h => ?_) N _ _ _ h)
          · refine G.aload_n C dX8_wasOff_129 0 rfl ?_
            refine G.iload C dX8_wasOff_130 1 rfl ?_
            obtain ⟨q132, hq132, h⟩ := bind_some' h
            refine G.cvI (i0 := 0) (j0 := 0) (cs' := [wModel t a (q132.2)]) C (c_X8_well (a := a) hq132) [0] rfl rfl rfl rfl rfl rfl rfl k_1164 cal_X8_well (fit_rm (by decide) (by decide)) rfl (Nat.le_of_ble_eq_true rfl) dX8_wasOff_132 ?_
            exact hR _ (Option.some.inj h) _ _ dX8_wasOff_135
        refine G.if_eq (tgt := 64) C dX8_wasOff_56 (by decide) h (fun h => ?_) (fun h => ?_)
        · refine G.iconst C dX8_wasOff_64 ni_0 ?_
          exact G.lvs [1, 2, 3, 4] rfl (hJ65 _ h)
        · refine G.bipush C dX8_wasOff_59 nb_64 ?_
          refine G.goto (tgt := 65) C dX8_wasOff_61 (by decide) ?_
          exact G.lvs [1, 2, 3, 4] rfl (hJ65 _ h)
      · refine G.iload C dX8_wasOff_38 0 rfl ?_
        exact hR _ (Option.some.inj h) _ _ dX8_wasOff_40
    refine G.if_eq (tgt := 29) C dX8_wasOff_16 (by decide) h (fun h => ?_) (fun h => ?_)
    · refine G.ldc C k_1158 dX8_wasOff_29 ?_
      exact G.lvs [0, 1, 2, 3] rfl (hJ31 _ _ h)
    · refine G.aload_n C dX8_wasOff_19 0 rfl ?_
      refine G.iload_n C dX8_wasOff_20 1 rfl ?_
      refine G.iload_n C dX8_wasOff_21 2 rfl ?_
      refine G.iload_n C dX8_wasOff_22 3 rfl ?_
      obtain ⟨q23, hq23, h⟩ := bind_some' h
      refine G.cvI (i0 := 0) (j0 := 0) (cs' := [wModel t a (q23.2)]) C (c_X8_lacks (a := a) hq23) [0] rfl rfl rfl rfl rfl rfl rfl k_1440 cal_X8_lacks (fit_rm (by decide) (by decide)) rfl (Nat.le_of_ble_eq_true rfl) dX8_wasOff_23 ?_
      refine G.goto (tgt := 31) C dX8_wasOff_26 (by decide) ?_
      exact G.lvs [0, 1, 2, 3] rfl (hJ31 _ _ h)
  · refine G.ldc C k_1238 dX8_wasOff_7 ?_
    exact hR _ (Option.some.inj h) _ _ dX8_wasOff_9
set_option maxHeartbeats 2000000 in
set_option maxRecDepth 20000 in
theorem w_X8_wander_L79 {X : Cx} {t : Nat → ClassId} {a : Nat → Nat} {N : Nat} {v : SV} {x1 : Int32} {x2 : Int32} {x3 : Int32} {x4 : Int32} {x5 : Int32} {x6 : Int64} {K118 : Int64 → Option (Int64 × SV)} {r : Int64 × SV} (C : gX X t (rm 7) cX8_wander 16 RX8) (hR : ∀ q : Int64 × SV, q = r → RetL X cX8_wander (q.1) [wModel t a (q.2)]) (hK118 : ∀ (x8_118 : Int64), K118 x8_118 = some r → G X [wModel t a v] 118 [(0, .ref (a 0)), (1, .int x1), (2, .int x2), (3, .int x3), (4, .int x4), (5, .int x5), (6, .long x6), (8, .long x8_118)] []) : ∀ (n : Nat) (x8 : Int64) (x10 : Int32), F_X8_wander_L79 N v x1 x2 x3 x4 x5 x6 K118 n x8 x10 = some r → G X [wModel t a v] 79 [(0, .ref (a 0)), (1, .int x1), (2, .int x2), (3, .int x3), (4, .int x4), (5, .int x5), (6, .long x6), (8, .long x8), (10, .int x10)] [] := by
  intro n
  induction n with
  | zero => intro x8 x10 h; exact absurd h (by simp [F_X8_wander_L79])
  | succ n ih =>
    intro x8 x10 h
    rw [F_X8_wander_L79] at h
    refine G.iload C dX8_wander_79 8 rfl ?_
    refine G.aload_n C dX8_wander_81 0 rfl ?_
    refine gfX8_19 (i := 0) (j := 0) (v := .ref (a 4)) C rfl rfl rfl dX8_wander_82 ?_
    refine G.iconst C dX8_wander_85 ni_3 ?_
    refine G.iald (i := 0) (j := 4) (f := (v 4)) C rfl rfl h dX8_wander_86 (fun h => ?_)
    refine G.icmp_ge (tgt := 118) C dX8_wander_87 (by decide) h (fun h => ?_) (fun h => ?_)
    · exact G.lvs [0, 1, 2, 3, 4, 5, 6, 7] rfl (hK118 _ h)
    · refine G.lload C dX8_wander_90 7 rfl ?_
      refine G.iload C dX8_wander_92 5 rfl ?_
      refine G.iload C dX8_wander_94 8 rfl ?_
      obtain ⟨q96, hq96, h⟩ := bind_some' h
      refine G.csI (cs' := [wModel t a v]) C (c_X8_has hq96) [] rfl rfl rfl rfl k_1288 cal_X8_has (fit_rm (by decide) (by decide)) rfl (Nat.le_of_ble_eq_true rfl) dX8_wander_96 ?_
      refine jn_use (fun J => ∀ (s109_0 : Int64), J s109_0 = some r → G X [wModel t a v] 109 [(0, .ref (a 0)), (1, .int x1), (2, .int x2), (3, .int x3), (4, .int x4), (5, .int x5), (6, .long x6), (10, .int x10)] [.long s109_0, .long x8]) h ?_ (fun J109 hJ109 h => ?_)
      · intro s109_0 h
        refine G.lmul C dX8_wander_109 ?_
        refine G.lstore (lv' := [(8, .long (x8 * s109_0)), (0, .ref (a 0)), (1, .int x1), (2, .int x2), (3, .int x3), (4, .int x4), (5, .int x5), (6, .long x6), (10, .int x10)]) C dX8_wander_110 (by decide) rfl ?_
        refine G.iinc (v := (x10 + (1 : Int32))) (lv' := [(10, .int (x10 + (1 : Int32))), (8, .long (x8 * s109_0)), (0, .ref (a 0)), (1, .int x1), (2, .int x2), (3, .int x3), (4, .int x4), (5, .int x5), (6, .long x6)]) C dX8_wander_112 8 rfl (by rw [ni_1]) (by decide) rfl ?_
        refine G.goto (tgt := 79) C dX8_wander_115 (by decide) ?_
        exact G.lvs [2, 3, 4, 5, 6, 7, 8, 1, 0] rfl (ih _ _ h)
      refine G.if_eq (tgt := 108) C dX8_wander_99 (by decide) h (fun h => ?_) (fun h => ?_)
      · refine G.lconst C dX8_wander_108 nl_1 ?_
        exact G.lvs [0, 1, 2, 3, 4, 5, 6, 8] rfl (hJ109 _ h)
      · refine G.ldc2 C k_1462 dX8_wander_102 ?_
        refine G.goto (tgt := 109) C dX8_wander_105 (by decide) ?_
        exact G.lvs [0, 1, 2, 3, 4, 5, 6, 8] rfl (hJ109 _ h)
set_option maxHeartbeats 2000000 in
set_option maxRecDepth 20000 in
theorem w_X8_wander_L144 {X : Cx} {t : Nat → ClassId} {a : Nat → Nat} {N : Nat} {x1 : Int32} {x2 : Int32} {x3 : Int32} {x4 : Int32} {x5 : Int32} {x6 : Int64} {x8 : Int64} {x10 : Int32} {K234 : Int64 → SV → Option (Int64 × SV)} {r : Int64 × SV} (C : gX X t (rm 7) cX8_wander 16 RX8) (hR : ∀ q : Int64 × SV, q = r → RetL X cX8_wander (q.1) [wModel t a (q.2)]) (hK234 : ∀ (x11_234 : Int64) (v_234 : SV), K234 x11_234 v_234 = some r → G X [wModel t a v_234] 234 [(0, .ref (a 0)), (1, .int x1), (2, .int x2), (3, .int x3), (4, .int x4), (5, .int x5), (6, .long x6), (8, .long x8), (10, .int x10), (11, .long x11_234)] []) : ∀ (n : Nat) (x11 : Int64) (x13 : Int32) (v : SV), F_X8_wander_L144 N x1 x2 x3 x4 x5 x6 x8 x10 K234 n x11 x13 v = some r → G X [wModel t a v] 144 [(0, .ref (a 0)), (1, .int x1), (2, .int x2), (3, .int x3), (4, .int x4), (5, .int x5), (6, .long x6), (8, .long x8), (10, .int x10), (11, .long x11), (13, .int x13)] [] := by
  intro n
  induction n with
  | zero => intro x11 x13 v h; exact absurd h (by simp [F_X8_wander_L144])
  | succ n ih =>
    intro x11 x13 v h
    rw [F_X8_wander_L144] at h
    refine G.iload C dX8_wander_144 10 rfl ?_
    refine G.aload_n C dX8_wander_146 0 rfl ?_
    refine gfX8_19 (i := 0) (j := 0) (v := .ref (a 4)) C rfl rfl rfl dX8_wander_147 ?_
    refine G.iconst C dX8_wander_150 ni_3 ?_
    refine G.iald (i := 0) (j := 4) (f := (v 4)) C rfl rfl h dX8_wander_151 (fun h => ?_)
    refine G.icmp_ge (tgt := 234) C dX8_wander_152 (by decide) h (fun h => ?_) (fun h => ?_)
    · exact G.lvs [0, 1, 2, 3, 4, 5, 6, 7, 8, 9] rfl (hK234 _ _ h)
    · refine G.lload C dX8_wander_155 9 rfl ?_
      refine G.iload C dX8_wander_157 5 rfl ?_
      refine G.iload C dX8_wander_159 10 rfl ?_
      obtain ⟨q161, hq161, h⟩ := bind_some' h
      refine G.csI (cs' := [wModel t a v]) C (c_X8_has hq161) [] rfl rfl rfl rfl k_1288 cal_X8_has (fit_rm (by decide) (by decide)) rfl (Nat.le_of_ble_eq_true rfl) dX8_wander_161 ?_
      refine jn_use (fun J => ∀ (s191_0 : Int64), J s191_0 = some r → G X [wModel t a v] 191 [(0, .ref (a 0)), (1, .int x1), (2, .int x2), (3, .int x3), (4, .int x4), (5, .int x5), (6, .long x6), (8, .long x8), (10, .int x10), (13, .int x13)] [.long s191_0, .long x11]) h ?_ (fun J191 hJ191 h => ?_)
      · intro s191_0 h
        refine G.lmul C dX8_wander_191 ?_
        refine G.lstore (lv' := [(11, .long (x11 * s191_0)), (0, .ref (a 0)), (1, .int x1), (2, .int x2), (3, .int x3), (4, .int x4), (5, .int x5), (6, .long x6), (8, .long x8), (10, .int x10), (13, .int x13)]) C dX8_wander_192 (by decide) rfl ?_
        refine G.aload_n C dX8_wander_194 1 rfl ?_
        refine gfX8_19 (i := 0) (j := 0) (v := .ref (a 4)) C rfl rfl rfl dX8_wander_195 ?_
        refine G.bipush C dX8_wander_198 nb_49 ?_
        refine G.iload C dX8_wander_200 10 rfl ?_
        refine G.iadd C dX8_wander_202 ?_
        refine G.iload C dX8_wander_203 9 rfl ?_
        refine G.iload C dX8_wander_205 10 rfl ?_
        obtain ⟨q207, hq207, h⟩ := bind_some' h
        refine G.csI (cs' := [wModel t a v]) C (c_X8_has hq207) [] rfl rfl rfl rfl k_1288 cal_X8_has (fit_rm (by decide) (by decide)) rfl (Nat.le_of_ble_eq_true rfl) dX8_wander_207 ?_
        refine jn_use (fun J => ∀ (s227_0 : Int32), J s227_0 = some r → G X [wModel t a v] 227 [(0, .ref (a 0)), (1, .int x1), (2, .int x2), (3, .int x3), (4, .int x4), (5, .int x5), (6, .long x6), (8, .long x8), (10, .int x10), (11, .long (x11 * s191_0)), (13, .int x13)] [.int s227_0, .int ((49 : Int32) + x13), .ref (a 4)]) h ?_ (fun J227 hJ227 h => ?_)
        · intro s227_0 h
          refine G.iast (i := 0) (j := 4) (f := v 4) (cs' := [wModel t a (up2 v 4 (((49 : Int32) + x13).toNatClampNeg) s227_0)]) C rfl rfl h dX8_wander_227 (suModelA_4) rfl (fun h => ?_)
          refine G.iinc (v := (x13 + (1 : Int32))) (lv' := [(13, .int (x13 + (1 : Int32))), (0, .ref (a 0)), (1, .int x1), (2, .int x2), (3, .int x3), (4, .int x4), (5, .int x5), (6, .long x6), (8, .long x8), (10, .int x10), (11, .long (x11 * s191_0))]) C dX8_wander_228 10 rfl (by rw [ni_1]) (by decide) rfl ?_
          refine G.goto (tgt := 144) C dX8_wander_231 (by decide) ?_
          exact G.lvs [1, 2, 3, 4, 5, 6, 7, 8, 9, 10, 0] rfl (ih _ _ _ h)
        refine G.if_eq (tgt := 217) C dX8_wander_210 (by decide) h (fun h => ?_) (fun h => ?_)
        · refine G.aload_n C dX8_wander_217 1 rfl ?_
          refine gfX8_19 (i := 0) (j := 0) (v := .ref (a 4)) C rfl rfl rfl dX8_wander_218 ?_
          refine G.bipush C dX8_wander_221 nb_49 ?_
          refine G.iload C dX8_wander_223 10 rfl ?_
          refine G.iadd C dX8_wander_225 ?_
          refine G.iald (i := 0) (j := 4) (f := (v 4)) C rfl rfl h dX8_wander_226 (fun h => ?_)
          exact G.lvs [1, 2, 3, 4, 5, 6, 7, 8, 9, 0, 10] rfl (hJ227 _ h)
        · refine G.iconst C dX8_wander_213 ni_2 ?_
          refine G.goto (tgt := 227) C dX8_wander_214 (by decide) ?_
          exact G.lvs [1, 2, 3, 4, 5, 6, 7, 8, 9, 0, 10] rfl (hJ227 _ h)
      refine G.if_ne (tgt := 171) C dX8_wander_164 (by decide) h (fun h => ?_) (fun h => ?_)
      · refine G.iload C dX8_wander_171 8 rfl ?_
        refine G.iload C dX8_wander_173 10 rfl ?_
        obtain ⟨q175, hq175, h⟩ := bind_some' h
        refine G.csI (cs' := [wModel t a v]) C (c_X8_has hq175) [] rfl rfl rfl rfl k_1288 cal_X8_has (fit_rm (by decide) (by decide)) rfl (Nat.le_of_ble_eq_true rfl) dX8_wander_175 ?_
        refine G.if_eq (tgt := 186) C dX8_wander_178 (by decide) h (fun h => ?_) (fun h => ?_)
        · refine G.bipush C dX8_wander_186 nb_10 ?_
          refine G.iload_n C dX8_wander_188 3 rfl ?_
          refine G.isub C dX8_wander_189 ?_
          refine G.i2l C dX8_wander_190 ?_
          exact G.lvs [0, 1, 2, 3, 4, 5, 6, 7, 8, 10] rfl (hJ191 _ h)
        · refine G.iload_n C dX8_wander_181 3 rfl ?_
          refine G.i2l C dX8_wander_182 ?_
          refine G.goto (tgt := 191) C dX8_wander_183 (by decide) ?_
          exact G.lvs [0, 1, 2, 3, 4, 5, 6, 7, 8, 10] rfl (hJ191 _ h)
      · refine G.lconst C dX8_wander_167 nl_1 ?_
        refine G.goto (tgt := 191) C dX8_wander_168 (by decide) ?_
        exact G.lvs [0, 1, 2, 3, 4, 5, 6, 7, 8, 10] rfl (hJ191 _ h)
set_option maxHeartbeats 2000000 in
set_option maxRecDepth 20000 in
theorem w_X8_wander_L121 {X : Cx} {t : Nat → ClassId} {a : Nat → Nat} {N : Nat} {x1 : Int32} {x2 : Int32} {x3 : Int32} {x4 : Int32} {x5 : Int32} {x8 : Int64} {K270 : Int64 → SV → Option (Int64 × SV)} {r : Int64 × SV} (C : gX X t (rm 7) cX8_wander 16 RX8) (hR : ∀ q : Int64 × SV, q = r → RetL X cX8_wander (q.1) [wModel t a (q.2)]) (hK270 : ∀ (x6_270 : Int64) (v_270 : SV), K270 x6_270 v_270 = some r → G X [wModel t a v_270] 270 [(4, .int x4), (6, .long x6_270), (8, .long x8)] []) : ∀ (n : Nat) (x6 : Int64) (x10 : Int32) (v : SV), F_X8_wander_L121 N x1 x2 x3 x4 x5 x8 K270 n x6 x10 v = some r → G X [wModel t a v] 121 [(0, .ref (a 0)), (1, .int x1), (2, .int x2), (3, .int x3), (4, .int x4), (5, .int x5), (6, .long x6), (8, .long x8), (10, .int x10)] [] := by
  intro n
  induction n with
  | zero => intro x6 x10 v h; exact absurd h (by simp [F_X8_wander_L121])
  | succ n ih =>
    intro x6 x10 v h
    rw [F_X8_wander_L121] at h
    refine G.iload C dX8_wander_121 8 rfl ?_
    refine G.iload C dX8_wander_123 5 rfl ?_
    refine G.icmp_gt (tgt := 270) C dX8_wander_125 (by decide) h (fun h => ?_) (fun h => ?_)
    · exact G.lvs [4, 6, 7] rfl (hK270 _ _ h)
    · refine G.iload C dX8_wander_128 8 rfl ?_
      refine G.iload C dX8_wander_130 5 rfl ?_
      refine G.iconst C dX8_wander_132 ni_m1 ?_
      refine G.ixor C dX8_wander_133 ?_
      refine G.iand C dX8_wander_134 ?_
      refine jn_use (fun J => ∀ (x6_264 : Int64) (v_264 : SV), J x6_264 v_264 = some r → G X [wModel t a v_264] 264 [(0, .ref (a 0)), (1, .int x1), (2, .int x2), (3, .int x3), (4, .int x4), (5, .int x5), (6, .long x6_264), (8, .long x8), (10, .int x10)] []) h ?_ (fun J264 hJ264 h => ?_)
      · intro x6_264 v_264 h
        refine G.iinc (v := (x10 + (1 : Int32))) (lv' := [(10, .int (x10 + (1 : Int32))), (0, .ref (a 0)), (1, .int x1), (2, .int x2), (3, .int x3), (4, .int x4), (5, .int x5), (6, .long x6_264), (8, .long x8)]) C dX8_wander_264 8 rfl (by rw [ni_1]) (by decide) rfl ?_
        refine G.goto (tgt := 121) C dX8_wander_267 (by decide) ?_
        exact G.lvs [1, 2, 3, 4, 5, 6, 7, 8, 0] rfl (ih _ _ _ h)
      refine G.if_ne (tgt := 264) C dX8_wander_135 (by decide) h (fun h => ?_) (fun h => ?_)
      · exact G.lvs [0, 1, 2, 3, 4, 5, 6, 7, 8] rfl (hJ264 _ _ h)
      · refine G.lconst C dX8_wander_138 nl_1 ?_
        refine G.lstore (lv' := [(11, .long (1 : Int64)), (0, .ref (a 0)), (1, .int x1), (2, .int x2), (3, .int x3), (4, .int x4), (5, .int x5), (6, .long x6), (8, .long x8), (10, .int x10)]) C dX8_wander_139 (by decide) rfl ?_
        refine G.iconst C dX8_wander_141 ni_0 ?_
        refine G.istore (lv' := [(13, .int (0 : Int32)), (11, .long (1 : Int64)), (0, .ref (a 0)), (1, .int x1), (2, .int x2), (3, .int x3), (4, .int x4), (5, .int x5), (6, .long x6), (8, .long x8), (10, .int x10)]) C dX8_wander_142 (by decide) rfl ?_
        refine G.lvs [2, 3, 4, 5, 6, 7, 8, 9, 10, 1, 0] rfl (w_X8_wander_L144 C hR (fun x11_234 v_234 h => ?_) N _ _ _ h)
        · refine G.aload_n C dX8_wander_234 0 rfl ?_
          refine G.iload_n C dX8_wander_235 2 rfl ?_
          obtain ⟨q236, hq236, h⟩ := bind_some' h
          refine G.cvV (i0 := 0) (j0 := 0) (cs' := [wModel t a q236]) C (c_X8_goOn (a := a) hq236) [0] rfl rfl rfl rfl rfl rfl rfl k_1371 cal_X8_goOn (fit_rm (by decide) (by decide)) rfl (Nat.le_of_ble_eq_true rfl) dX8_wander_236 ?_
          refine G.lload C dX8_wander_239 6 rfl ?_
          refine G.aload_n C dX8_wander_241 0 rfl ?_
          refine gfX8_19 (i := 0) (j := 0) (v := .ref (a 4)) C rfl rfl rfl dX8_wander_242 ?_
          refine G.iconst C dX8_wander_245 ni_5 ?_
          refine G.iald (i := 0) (j := 4) (f := (q236 4)) C rfl rfl h dX8_wander_246 (fun h => ?_)
          refine G.iload_n C dX8_wander_247 1 rfl ?_
          refine jn_use (fun J => ∀ (s257_0 : Int64), J s257_0 = some r → G X [wModel t a q236] 257 [(0, .ref (a 0)), (1, .int x1), (2, .int x2), (3, .int x3), (4, .int x4), (5, .int x5), (8, .long x8), (10, .int x10)] [.long s257_0, .long x6]) h ?_ (fun J257 hJ257 h => ?_)
          · intro s257_0 h
            refine G.ladd C dX8_wander_257 ?_
            refine G.lstore (lv' := [(6, .long (x6 + s257_0)), (0, .ref (a 0)), (1, .int x1), (2, .int x2), (3, .int x3), (4, .int x4), (5, .int x5), (8, .long x8), (10, .int x10)]) C dX8_wander_258 (by decide) rfl ?_
            refine G.aload_n C dX8_wander_260 1 rfl ?_
            obtain ⟨q261, hq261, h⟩ := bind_some' h
            refine G.cvV (i0 := 0) (j0 := 0) (cs' := [wModel t a q261]) C (c_X8_takeBack (a := a) hq261) [0] rfl rfl rfl rfl rfl rfl rfl k_1375 cal_X8_takeBack (fit_rm (by decide) (by decide)) rfl (Nat.le_of_ble_eq_true rfl) dX8_wander_261 ?_
            exact G.lvs [1, 2, 3, 4, 5, 6, 0, 7, 8] rfl (hJ264 _ _ h)
          refine G.icmp_lt (tgt := 256) C dX8_wander_248 (by decide) h (fun h => ?_) (fun h => ?_)
          · refine G.lconst C dX8_wander_256 nl_0 ?_
            exact G.lvs [0, 1, 2, 3, 4, 5, 7, 8] rfl (hJ257 _ h)
          · refine G.lload C dX8_wander_251 9 rfl ?_
            refine G.goto (tgt := 257) C dX8_wander_253 (by decide) ?_
            exact G.lvs [0, 1, 2, 3, 4, 5, 7, 8] rfl (hJ257 _ h)
set_option maxHeartbeats 2000000 in
set_option maxRecDepth 20000 in
theorem w_X8_wander_L278 {X : Cx} {t : Nat → ClassId} {a : Nat → Nat} {N : Nat} {v : SV} {x4 : Int32} {x6 : Int64} {x8 : Int64} {K303 : Int64 → Option (Int64 × SV)} {r : Int64 × SV} (C : gX X t (rm 7) cX8_wander 16 RX8) (hR : ∀ q : Int64 × SV, q = r → RetL X cX8_wander (q.1) [wModel t a (q.2)]) (hK303 : ∀ (x10_303 : Int64), K303 x10_303 = some r → G X [wModel t a v] 303 [(4, .int x4), (6, .long x6), (8, .long x8), (10, .long x10_303)] []) : ∀ (n : Nat) (x10 : Int64) (x12 : Int64), F_X8_wander_L278 N v x4 x6 x8 K303 n x10 x12 = some r → G X [wModel t a v] 278 [(4, .int x4), (6, .long x6), (8, .long x8), (10, .long x10), (12, .long x12)] [] := by
  intro n
  induction n with
  | zero => intro x10 x12 h; exact absurd h (by simp [F_X8_wander_L278])
  | succ n ih =>
    intro x10 x12 h
    rw [F_X8_wander_L278] at h
    refine G.lload C dX8_wander_278 4 rfl ?_
    refine G.lconst C dX8_wander_280 nl_0 ?_
    refine G.lcmp C dX8_wander_281 ?_
    refine G.if_eq (tgt := 303) C dX8_wander_282 (by decide) h (fun h => ?_) (fun h => ?_)
    · exact G.lvs [0, 1, 2, 3] rfl (hK303 _ h)
    · refine G.lload C dX8_wander_285 3 rfl ?_
      refine G.lload C dX8_wander_287 4 rfl ?_
      refine G.lrem C dX8_wander_289 h (fun h => ?_)
      refine G.lstore (lv' := [(14, .long (x10 - x10 / x12 * x12)), (4, .int x4), (6, .long x6), (8, .long x8), (10, .long x10), (12, .long x12)]) C dX8_wander_290 (by decide) rfl ?_
      refine G.lload C dX8_wander_292 5 rfl ?_
      refine G.lstore (lv' := [(10, .long x12), (14, .long (x10 - x10 / x12 * x12)), (4, .int x4), (6, .long x6), (8, .long x8), (12, .long x12)]) C dX8_wander_294 (by decide) rfl ?_
      refine G.lload C dX8_wander_296 1 rfl ?_
      refine G.lstore (lv' := [(12, .long (x10 - x10 / x12 * x12)), (10, .long x12), (14, .long (x10 - x10 / x12 * x12)), (4, .int x4), (6, .long x6), (8, .long x8)]) C dX8_wander_298 (by decide) rfl ?_
      refine G.goto (tgt := 278) C dX8_wander_300 (by decide) ?_
      exact G.lvs [3, 4, 5, 1, 0] rfl (ih _ _ h)
set_option maxHeartbeats 2000000 in
set_option maxRecDepth 20000 in
theorem c_X8_wander {t : Nat → ClassId} {a : Nat → Nat} {N : Nat} {v : SV} {x1 : Int32} {x2 : Int32} {x3 : Int32} {x4 : Int32} {r : Int64 × SV} (h : F_X8_wander N v x1 x2 x3 x4 = some r) : CL t yX8_wander cX8_wander 16 (some .long) (rm 7) [.ref (a 0), .int x1, .int x2, .int x3, .int x4] [wModel t a v] (r.1) [wModel t a (r.2)] := by
  refine CL.of (own := RX8) (by decide) rfl (Nat.le_of_ble_eq_true rfl) (fun X C hR0 => ?_)
  have hR : ∀ q : Int64 × SV, q = r → RetL X cX8_wander (q.1) [wModel t a (q.2)] := by intro q e; subst e; exact hR0
  show G X [wModel t a v] 0 [(0, .ref (a 0)), (1, .int x1), (2, .int x2), (3, .int x3), (4, .int x4)] []
  unfold F_X8_wander at h
  refine G.aload_n C dX8_wander_0 0 rfl ?_
  refine gfX8_141 (i := 0) (j := 0) (v := .int (v 0 4)) C rfl rfl rfl dX8_wander_1 ?_
  refine G.if_ne (tgt := 11) C dX8_wander_4 (by decide) h (fun h => ?_) (fun h => ?_)
  · refine G.iload_n C dX8_wander_11 1 rfl ?_
    refine G.i2l C dX8_wander_12 ?_
    refine G.lconst C dX8_wander_13 nl_0 ?_
    refine G.ldc2 C k_1461 dX8_wander_14 ?_
    obtain ⟨q17, hq17, h⟩ := bind_some' h
    refine G.csI (cs' := [wModel t a v]) C (c_X8_in hq17) [] rfl rfl rfl rfl k_1154 cal_X8_in (fit_rm (by decide) (by decide)) rfl (Nat.le_of_ble_eq_true rfl) dX8_wander_17 ?_
    refine G.if_eq (tgt := 55) C dX8_wander_20 (by decide) h (fun h => ?_) (fun h => ?_)
    · refine G.ldc2 C k_1463 dX8_wander_55 ?_
      exact hR _ (Option.some.inj h) _ _ dX8_wander_58
    · refine G.iload_n C dX8_wander_23 2 rfl ?_
      refine G.i2l C dX8_wander_24 ?_
      refine G.lconst C dX8_wander_25 nl_0 ?_
      refine G.ldc2 C k_1422 dX8_wander_26 ?_
      obtain ⟨q29, hq29, h⟩ := bind_some' h
      refine G.csI (cs' := [wModel t a v]) C (c_X8_in hq29) [] rfl rfl rfl rfl k_1154 cal_X8_in (fit_rm (by decide) (by decide)) rfl (Nat.le_of_ble_eq_true rfl) dX8_wander_29 ?_
      refine G.if_eq (tgt := 55) C dX8_wander_32 (by decide) h (fun h => ?_) (fun h => ?_)
      · refine G.ldc2 C k_1463 dX8_wander_55 ?_
        exact hR _ (Option.some.inj h) _ _ dX8_wander_58
      · refine G.iload_n C dX8_wander_35 3 rfl ?_
        refine G.i2l C dX8_wander_36 ?_
        refine G.lconst C dX8_wander_37 nl_0 ?_
        refine G.ldc2 C k_1462 dX8_wander_38 ?_
        obtain ⟨q41, hq41, h⟩ := bind_some' h
        refine G.csI (cs' := [wModel t a v]) C (c_X8_in hq41) [] rfl rfl rfl rfl k_1154 cal_X8_in (fit_rm (by decide) (by decide)) rfl (Nat.le_of_ble_eq_true rfl) dX8_wander_41 ?_
        refine G.if_eq (tgt := 55) C dX8_wander_44 (by decide) h (fun h => ?_) (fun h => ?_)
        · refine G.ldc2 C k_1463 dX8_wander_55 ?_
          exact hR _ (Option.some.inj h) _ _ dX8_wander_58
        · refine G.iload C dX8_wander_47 4 rfl ?_
          obtain ⟨q49, hq49, h⟩ := bind_some' h
          refine G.csI (cs' := [wModel t a v]) C (c_X8_isWhat hq49) [] rfl rfl rfl rfl k_1403 cal_X8_isWhat (fit_rm (by decide) (by decide)) rfl (Nat.le_of_ble_eq_true rfl) dX8_wander_49 ?_
          refine G.if_ne (tgt := 59) C dX8_wander_52 (by decide) h (fun h => ?_) (fun h => ?_)
          · refine G.aload_n C dX8_wander_59 0 rfl ?_
            obtain ⟨q60, hq60, h⟩ := bind_some' h
            refine G.cvV (i0 := 0) (j0 := 0) (cs' := [wModel t a q60]) C (c_X8_putAside (a := a) hq60) [0] rfl rfl rfl rfl rfl rfl rfl k_1367 cal_X8_putAside (fit_rm (by decide) (by decide)) rfl (Nat.le_of_ble_eq_true rfl) dX8_wander_60 ?_
            refine G.aload_n C dX8_wander_63 0 rfl ?_
            refine G.iconst C dX8_wander_64 ni_0 ?_
            obtain ⟨q65, hq65, h⟩ := bind_some' h
            refine G.cvI (i0 := 0) (j0 := 0) (cs' := [wModel t a q60]) C (c_X8_seatsOf (a := a) hq65) [0] rfl rfl rfl rfl rfl rfl rfl k_1276 cal_X8_seatsOf (fit_rm (by decide) (by decide)) rfl (Nat.le_of_ble_eq_true rfl) dX8_wander_65 ?_
            refine G.istore (lv' := [(5, .int q65), (0, .ref (a 0)), (1, .int x1), (2, .int x2), (3, .int x3), (4, .int x4)]) C dX8_wander_68 (by decide) rfl ?_
            refine G.lconst C dX8_wander_70 nl_0 ?_
            refine G.lstore (lv' := [(6, .long (0 : Int64)), (5, .int q65), (0, .ref (a 0)), (1, .int x1), (2, .int x2), (3, .int x3), (4, .int x4)]) C dX8_wander_71 (by decide) rfl ?_
            refine G.lconst C dX8_wander_73 nl_1 ?_
            refine G.lstore (lv' := [(8, .long (1 : Int64)), (6, .long (0 : Int64)), (5, .int q65), (0, .ref (a 0)), (1, .int x1), (2, .int x2), (3, .int x3), (4, .int x4)]) C dX8_wander_74 (by decide) rfl ?_
            refine G.iconst C dX8_wander_76 ni_0 ?_
            refine G.istore (lv' := [(10, .int (0 : Int32)), (8, .long (1 : Int64)), (6, .long (0 : Int64)), (5, .int q65), (0, .ref (a 0)), (1, .int x1), (2, .int x2), (3, .int x3), (4, .int x4)]) C dX8_wander_77 (by decide) rfl ?_
            refine G.lvs [4, 5, 6, 7, 8, 3, 2, 1, 0] rfl (w_X8_wander_L79 C hR (fun x8_118 h => ?_) N _ _ h)
            · refine G.iconst C dX8_wander_118 ni_0 ?_
              refine G.istore (lv' := [(10, .int (0 : Int32)), (0, .ref (a 0)), (1, .int x1), (2, .int x2), (3, .int x3), (4, .int x4), (5, .int q65), (6, .long (0 : Int64)), (8, .long x8_118)]) C dX8_wander_119 (by decide) rfl ?_
              refine G.lvs [1, 2, 3, 4, 5, 6, 7, 8, 0] rfl (w_X8_wander_L121 C hR (fun x6_270 v_270 h => ?_) N _ _ _ h)
              · refine G.lload C dX8_wander_270 1 rfl ?_
                refine G.lstore (lv' := [(10, .long x6_270), (4, .int x4), (6, .long x6_270), (8, .long x8_118)]) C dX8_wander_272 (by decide) rfl ?_
                refine G.lload C dX8_wander_274 3 rfl ?_
                refine G.lstore (lv' := [(12, .long x8_118), (10, .long x6_270), (4, .int x4), (6, .long x6_270), (8, .long x8_118)]) C dX8_wander_276 (by decide) rfl ?_
                refine G.lvs [2, 3, 4, 1, 0] rfl (w_X8_wander_L278 C hR (fun x10_303 h => ?_) N _ _ h)
                · refine G.iload C dX8_wander_303 0 rfl ?_
                  refine G.if_ne (tgt := 316) C dX8_wander_305 (by decide) h (fun h => ?_) (fun h => ?_)
                  · refine G.lload C dX8_wander_316 2 rfl ?_
                    refine G.lload C dX8_wander_318 3 rfl ?_
                    refine G.ldiv C dX8_wander_320 h (fun h => ?_)
                    exact hR _ (Option.some.inj h) _ _ dX8_wander_321
                  · refine G.lload C dX8_wander_308 1 rfl ?_
                    refine G.lload C dX8_wander_310 3 rfl ?_
                    refine G.ldiv C dX8_wander_312 h (fun h => ?_)
                    refine G.goto (tgt := 321) C dX8_wander_313 (by decide) ?_
                    exact hR _ (Option.some.inj h) _ _ dX8_wander_321
          · refine G.ldc2 C k_1463 dX8_wander_55 ?_
            exact hR _ (Option.some.inj h) _ _ dX8_wander_58
  · refine G.ldc2 C k_1460 dX8_wander_7 ?_
    exact hR _ (Option.some.inj h) _ _ dX8_wander_10
set_option maxHeartbeats 2000000 in
set_option maxRecDepth 20000 in
theorem w_X8_drawn_L58 {X : Cx} {t : Nat → ClassId} {a : Nat → Nat} {N : Nat} {x1 : Int32} {x3 : Int32} {K204 : Int32 → SV → Option (Int32 × SV)} {r : Int32 × SV} (C : gX X t (rm 6) cX8_drawn 10 RX8) (hR : ∀ q : Int32 × SV, q = r → RetI X cX8_drawn (q.1) [wModel t a (q.2)]) (hK204 : ∀ (x6_204 : Int32) (v_204 : SV), K204 x6_204 v_204 = some r → G X [wModel t a v_204] 204 [(0, .ref (a 0)), (3, .int x3), (6, .int x6_204)] []) : ∀ (n : Nat) (x4 : Int64) (x6 : Int32) (x7 : Int32) (v : SV), F_X8_drawn_L58 N x1 x3 K204 n x4 x6 x7 v = some r → G X [wModel t a v] 58 [(0, .ref (a 0)), (1, .int x1), (3, .int x3), (4, .long x4), (6, .int x6), (7, .int x7)] [] := by
  intro n
  induction n with
  | zero => intro x4 x6 x7 v h; exact absurd h (by simp [F_X8_drawn_L58])
  | succ n ih =>
    intro x4 x6 x7 v h
    rw [F_X8_drawn_L58] at h
    refine G.iload C dX8_drawn_58 5 rfl ?_
    refine G.iload_n C dX8_drawn_60 1 rfl ?_
    refine G.icmp_ge (tgt := 204) C dX8_drawn_61 (by decide) h (fun h => ?_) (fun h => ?_)
    · exact G.lvs [0, 2, 4] rfl (hK204 _ _ h)
    · refine G.lload C dX8_drawn_64 3 rfl ?_
      refine G.ldc2 C k_1469 dX8_drawn_66 ?_
      refine G.lmul C dX8_drawn_69 ?_
      refine G.ldc2 C k_1470 dX8_drawn_70 ?_
      refine G.lremc C dX8_drawn_73 (by decide) ?_
      refine G.lstore (lv' := [(4, .long ((x4 * (16807 : Int64)) - (x4 * (16807 : Int64)) / (2147483647 : Int64) * (2147483647 : Int64))), (0, .ref (a 0)), (1, .int x1), (3, .int x3), (6, .int x6), (7, .int x7)]) C dX8_drawn_74 (by decide) rfl ?_
      refine G.aload_n C dX8_drawn_76 1 rfl ?_
      refine gfX8_19 (i := 0) (j := 0) (v := .ref (a 4)) C rfl rfl rfl dX8_drawn_77 ?_
      refine G.iconst C dX8_drawn_80 ni_3 ?_
      refine G.iald (i := 0) (j := 4) (f := (v 4)) C rfl rfl h dX8_drawn_81 (fun h => ?_)
      refine jn_use (fun J => ∀ (s101_0 : Int32), J s101_0 = some r → G X [wModel t a v] 101 [(0, .ref (a 0)), (1, .int x1), (3, .int x3), (4, .long ((x4 * (16807 : Int64)) - (x4 * (16807 : Int64)) / (2147483647 : Int64) * (2147483647 : Int64))), (6, .int x6), (7, .int x7)] [.int s101_0]) h ?_ (fun J101 hJ101 h => ?_)
      · intro s101_0 h
        refine G.istore (lv' := [(8, .int s101_0), (0, .ref (a 0)), (1, .int x1), (3, .int x3), (4, .long ((x4 * (16807 : Int64)) - (x4 * (16807 : Int64)) / (2147483647 : Int64) * (2147483647 : Int64))), (6, .int x6), (7, .int x7)]) C dX8_drawn_101 (by decide) rfl ?_
        refine G.iload C dX8_drawn_103 0 rfl ?_
        refine jn_use (fun J => ∀ (v_143 : SV), J v_143 = some r → G X [wModel t a v_143] 143 [(0, .ref (a 0)), (1, .int x1), (3, .int x3), (4, .long ((x4 * (16807 : Int64)) - (x4 * (16807 : Int64)) / (2147483647 : Int64) * (2147483647 : Int64))), (6, .int x6), (7, .int x7)] []) h ?_ (fun J143 hJ143 h => ?_)
        · intro v_143 h
          refine G.aload_n C dX8_drawn_143 0 rfl ?_
          refine gfX8_19 (i := 0) (j := 0) (v := .ref (a 4)) C rfl rfl rfl dX8_drawn_144 ?_
          refine G.bipush C dX8_drawn_147 nb_6 ?_
          refine G.iald (i := 0) (j := 4) (f := (v_143 4)) C rfl rfl h dX8_drawn_149 (fun h => ?_)
          refine jn_use (fun J => ∀ (v_168 : SV), J v_168 = some r → G X [wModel t a v_168] 168 [(0, .ref (a 0)), (1, .int x1), (3, .int x3), (4, .long ((x4 * (16807 : Int64)) - (x4 * (16807 : Int64)) / (2147483647 : Int64) * (2147483647 : Int64))), (6, .int x6), (7, .int x7)] []) h ?_ (fun J168 hJ168 h => ?_)
          · intro v_168 h
            refine G.aload_n C dX8_drawn_168 0 rfl ?_
            refine G.iconst C dX8_drawn_169 ni_1 ?_
            obtain ⟨q170, hq170, h⟩ := bind_some' h
            refine G.cvI (i0 := 0) (j0 := 0) (cs' := [wModel t a v_168]) C (c_X8_seatsOf (a := a) hq170) [0] rfl rfl rfl rfl rfl rfl rfl k_1276 cal_X8_seatsOf (fit_rm (by decide) (by decide)) rfl (Nat.le_of_ble_eq_true rfl) dX8_drawn_170 ?_
            obtain ⟨q173, hq173, h⟩ := bind_some' h
            refine G.csI (cs' := [wModel t a v_168]) C (c_X8_ones hq173) [] rfl rfl rfl rfl k_1265 cal_X8_ones (fit_rm (by decide) (by decide)) rfl (Nat.le_of_ble_eq_true rfl) dX8_drawn_173 ?_
            refine G.istore (lv' := [(9, .int q173), (0, .ref (a 0)), (1, .int x1), (3, .int x3), (4, .long ((x4 * (16807 : Int64)) - (x4 * (16807 : Int64)) / (2147483647 : Int64) * (2147483647 : Int64))), (6, .int x6), (7, .int x7)]) C dX8_drawn_176 (by decide) rfl ?_
            refine G.aload_n C dX8_drawn_178 1 rfl ?_
            obtain ⟨q179, hq179, h⟩ := bind_some' h
            refine G.cvV (i0 := 0) (j0 := 0) (cs' := [wModel t a q179]) C (c_X8_oneTap (a := a) hq179) [0] rfl rfl rfl rfl rfl rfl rfl k_1248 cal_X8_oneTap (fit_rm (by decide) (by decide)) rfl (Nat.le_of_ble_eq_true rfl) dX8_drawn_179 ?_
            refine G.iload C dX8_drawn_182 5 rfl ?_
            refine G.aload_n C dX8_drawn_184 1 rfl ?_
            refine G.iconst C dX8_drawn_185 ni_1 ?_
            obtain ⟨q186, hq186, h⟩ := bind_some' h
            refine G.cvI (i0 := 0) (j0 := 0) (cs' := [wModel t a q179]) C (c_X8_seatsOf (a := a) hq186) [0] rfl rfl rfl rfl rfl rfl rfl k_1276 cal_X8_seatsOf (fit_rm (by decide) (by decide)) rfl (Nat.le_of_ble_eq_true rfl) dX8_drawn_186 ?_
            obtain ⟨q189, hq189, h⟩ := bind_some' h
            refine G.csI (cs' := [wModel t a q179]) C (c_X8_ones hq189) [] rfl rfl rfl rfl k_1265 cal_X8_ones (fit_rm (by decide) (by decide)) rfl (Nat.le_of_ble_eq_true rfl) dX8_drawn_189 ?_
            refine G.iload C dX8_drawn_192 0 rfl ?_
            refine G.isub C dX8_drawn_194 ?_
            refine G.iadd C dX8_drawn_195 ?_
            refine G.istore (lv' := [(6, .int (x6 + (q189 - q173))), (9, .int q173), (0, .ref (a 0)), (1, .int x1), (3, .int x3), (4, .long ((x4 * (16807 : Int64)) - (x4 * (16807 : Int64)) / (2147483647 : Int64) * (2147483647 : Int64))), (7, .int x7)]) C dX8_drawn_196 (by decide) rfl ?_
            refine G.iinc (v := (x7 + (1 : Int32))) (lv' := [(7, .int (x7 + (1 : Int32))), (6, .int (x6 + (q189 - q173))), (9, .int q173), (0, .ref (a 0)), (1, .int x1), (3, .int x3), (4, .long ((x4 * (16807 : Int64)) - (x4 * (16807 : Int64)) / (2147483647 : Int64) * (2147483647 : Int64)))]) C dX8_drawn_198 6 rfl (by rw [ni_1]) (by decide) rfl ?_
            refine G.goto (tgt := 58) C dX8_drawn_201 (by decide) ?_
            exact G.lvs [3, 4, 5, 6, 1, 0] rfl (ih _ _ _ _ h)
          refine G.if_ne (tgt := 168) C dX8_drawn_150 (by decide) h (fun h => ?_) (fun h => ?_)
          · exact G.lvs [0, 1, 2, 3, 4, 5] rfl (hJ168 _ h)
          · refine G.aload_n C dX8_drawn_153 0 rfl ?_
            refine G.lload C dX8_drawn_154 3 rfl ?_
            refine G.aload_n C dX8_drawn_156 0 rfl ?_
            refine gfX8_19 (i := 0) (j := 0) (v := .ref (a 4)) C rfl rfl rfl dX8_drawn_157 ?_
            refine G.iconst C dX8_drawn_160 ni_2 ?_
            refine G.iald (i := 0) (j := 4) (f := (v_143 4)) C rfl rfl h dX8_drawn_161 (fun h => ?_)
            refine G.i2l C dX8_drawn_162 ?_
            refine G.lrem C dX8_drawn_163 h (fun h => ?_)
            refine G.l2i C dX8_drawn_164 ?_
            obtain ⟨q165, hq165, h⟩ := bind_some' h
            refine G.cvV (i0 := 0) (j0 := 0) (cs' := [wModel t a q165]) C (c_X8_layBehind (a := a) hq165) [0] rfl rfl rfl rfl rfl rfl rfl k_1299 cal_X8_layBehind (fit_rm (by decide) (by decide)) rfl (Nat.le_of_ble_eq_true rfl) dX8_drawn_165 ?_
            exact G.lvs [0, 1, 2, 3, 4, 5] rfl (hJ168 _ h)
        refine G.if_lt (tgt := 143) C dX8_drawn_105 (by decide) h (fun h => ?_) (fun h => ?_)
        · exact G.lvs [1, 2, 3, 4, 5, 6] rfl (hJ143 _ h)
        · refine G.aload_n C dX8_drawn_108 1 rfl ?_
          refine gfX8_19 (i := 0) (j := 0) (v := .ref (a 4)) C rfl rfl rfl dX8_drawn_109 ?_
          refine G.bipush C dX8_drawn_112 nb_49 ?_
          refine G.iload C dX8_drawn_114 0 rfl ?_
          refine G.iadd C dX8_drawn_116 ?_
          refine G.iald (i := 0) (j := 4) (f := (v 4)) C rfl rfl h dX8_drawn_117 (fun h => ?_)
          refine G.if_eq (tgt := 143) C dX8_drawn_118 (by decide) h (fun h => ?_) (fun h => ?_)
          · exact G.lvs [1, 2, 3, 4, 5, 6] rfl (hJ143 _ h)
          · refine G.aload_n C dX8_drawn_121 1 rfl ?_
            refine G.iload C dX8_drawn_122 0 rfl ?_
            refine G.lload C dX8_drawn_124 4 rfl ?_
            refine G.ldc2 C k_1462 dX8_drawn_126 ?_
            refine G.lremc C dX8_drawn_129 (by decide) ?_
            refine G.l2i C dX8_drawn_130 ?_
            refine G.lload C dX8_drawn_131 4 rfl ?_
            refine G.ldc2 C k_1471 dX8_drawn_133 ?_
            refine G.lremc C dX8_drawn_136 (by decide) ?_
            refine G.l2i C dX8_drawn_137 ?_
            refine G.iconst C dX8_drawn_138 ni_1 ?_
            refine G.iadd C dX8_drawn_139 ?_
            obtain ⟨q140, hq140, h⟩ := bind_some' h
            refine G.cvV (i0 := 0) (j0 := 0) (cs' := [wModel t a q140]) C (c_X8_seatAnew (a := a) hq140) [0] rfl rfl rfl rfl rfl rfl rfl k_1333 cal_X8_seatAnew (fit_rm (by decide) (by decide)) rfl (Nat.le_of_ble_eq_true rfl) dX8_drawn_140 ?_
            exact G.lvs [1, 2, 3, 4, 5, 6] rfl (hJ143 _ h)
      refine G.if_ne (tgt := 90) C dX8_drawn_82 (by decide) h (fun h => ?_) (fun h => ?_)
      · refine G.lload C dX8_drawn_90 0 rfl ?_
        refine G.aload_n C dX8_drawn_92 1 rfl ?_
        refine gfX8_19 (i := 0) (j := 0) (v := .ref (a 4)) C rfl rfl rfl dX8_drawn_93 ?_
        refine G.iconst C dX8_drawn_96 ni_3 ?_
        refine G.iald (i := 0) (j := 4) (f := (v 4)) C rfl rfl h dX8_drawn_97 (fun h => ?_)
        refine G.i2l C dX8_drawn_98 ?_
        refine G.lrem C dX8_drawn_99 h (fun h => ?_)
        refine G.l2i C dX8_drawn_100 ?_
        exact G.lvs [1, 2, 3, 0, 4, 5] rfl (hJ101 _ h)
      · refine G.ldc C k_1256 dX8_drawn_85 ?_
        refine G.goto (tgt := 101) C dX8_drawn_87 (by decide) ?_
        exact G.lvs [1, 2, 3, 0, 4, 5] rfl (hJ101 _ h)
set_option maxHeartbeats 2000000 in
set_option maxRecDepth 20000 in
theorem c_X8_drawn {t : Nat → ClassId} {a : Nat → Nat} {N : Nat} {v : SV} {x1 : Int32} {x2 : Int32} {x3 : Int32} {r : Int32 × SV} (h : F_X8_drawn N v x1 x2 x3 = some r) : CI t yX8_drawn cX8_drawn 10 (some .int) (rm 6) [.ref (a 0), .int x1, .int x2, .int x3] [wModel t a v] (r.1) [wModel t a (r.2)] := by
  refine CI.of (own := RX8) (by decide) rfl (Nat.le_of_ble_eq_true rfl) (fun X C hR0 => ?_)
  have hR : ∀ q : Int32 × SV, q = r → RetI X cX8_drawn (q.1) [wModel t a (q.2)] := by intro q e; subst e; exact hR0
  show G X [wModel t a v] 0 [(0, .ref (a 0)), (1, .int x1), (2, .int x2), (3, .int x3)] []
  unfold F_X8_drawn at h
  refine G.aload_n C dX8_drawn_0 0 rfl ?_
  refine gfX8_141 (i := 0) (j := 0) (v := .int (v 0 4)) C rfl rfl rfl dX8_drawn_1 ?_
  refine G.if_ne (tgt := 10) C dX8_drawn_4 (by decide) h (fun h => ?_) (fun h => ?_)
  · refine G.iload_n C dX8_drawn_10 1 rfl ?_
    refine G.i2l C dX8_drawn_11 ?_
    refine G.lconst C dX8_drawn_12 nl_0 ?_
    refine G.ldc2 C k_1366 dX8_drawn_13 ?_
    obtain ⟨q16, hq16, h⟩ := bind_some' h
    refine G.csI (cs' := [wModel t a v]) C (c_X8_in hq16) [] rfl rfl rfl rfl k_1154 cal_X8_in (fit_rm (by decide) (by decide)) rfl (Nat.le_of_ble_eq_true rfl) dX8_drawn_16 ?_
    refine G.if_eq (tgt := 41) C dX8_drawn_19 (by decide) h (fun h => ?_) (fun h => ?_)
    · refine G.ldc C k_1158 dX8_drawn_41 ?_
      exact hR _ (Option.some.inj h) _ _ dX8_drawn_43
    · refine G.iload_n C dX8_drawn_22 2 rfl ?_
      refine G.i2l C dX8_drawn_23 ?_
      refine G.lconst C dX8_drawn_24 nl_1 ?_
      refine G.ldc2 C k_1468 dX8_drawn_25 ?_
      obtain ⟨q28, hq28, h⟩ := bind_some' h
      refine G.csI (cs' := [wModel t a v]) C (c_X8_in hq28) [] rfl rfl rfl rfl k_1154 cal_X8_in (fit_rm (by decide) (by decide)) rfl (Nat.le_of_ble_eq_true rfl) dX8_drawn_28 ?_
      refine G.if_eq (tgt := 41) C dX8_drawn_31 (by decide) h (fun h => ?_) (fun h => ?_)
      · refine G.ldc C k_1158 dX8_drawn_41 ?_
        exact hR _ (Option.some.inj h) _ _ dX8_drawn_43
      · refine G.iload_n C dX8_drawn_34 3 rfl ?_
        obtain ⟨q35, hq35, h⟩ := bind_some' h
        refine G.csI (cs' := [wModel t a v]) C (c_X8_isWhat hq35) [] rfl rfl rfl rfl k_1403 cal_X8_isWhat (fit_rm (by decide) (by decide)) rfl (Nat.le_of_ble_eq_true rfl) dX8_drawn_35 ?_
        refine G.if_ne (tgt := 44) C dX8_drawn_38 (by decide) h (fun h => ?_) (fun h => ?_)
        · refine G.aload_n C dX8_drawn_44 0 rfl ?_
          obtain ⟨q45, hq45, h⟩ := bind_some' h
          refine G.cvV (i0 := 0) (j0 := 0) (cs' := [wModel t a q45]) C (c_X8_putAside (a := a) hq45) [0] rfl rfl rfl rfl rfl rfl rfl k_1367 cal_X8_putAside (fit_rm (by decide) (by decide)) rfl (Nat.le_of_ble_eq_true rfl) dX8_drawn_45 ?_
          refine G.iload_n C dX8_drawn_48 2 rfl ?_
          refine G.i2l C dX8_drawn_49 ?_
          refine G.lstore (lv' := [(4, .long (x2.toInt64)), (0, .ref (a 0)), (1, .int x1), (2, .int x2), (3, .int x3)]) C dX8_drawn_50 (by decide) rfl ?_
          refine G.iconst C dX8_drawn_52 ni_0 ?_
          refine G.istore (lv' := [(6, .int (0 : Int32)), (4, .long (x2.toInt64)), (0, .ref (a 0)), (1, .int x1), (2, .int x2), (3, .int x3)]) C dX8_drawn_53 (by decide) rfl ?_
          refine G.iconst C dX8_drawn_55 ni_0 ?_
          refine G.istore (lv' := [(7, .int (0 : Int32)), (6, .int (0 : Int32)), (4, .long (x2.toInt64)), (0, .ref (a 0)), (1, .int x1), (2, .int x2), (3, .int x3)]) C dX8_drawn_56 (by decide) rfl ?_
          refine G.lvs [3, 4, 6, 2, 1, 0] rfl (w_X8_drawn_L58 C hR (fun x6_204 v_204 h => ?_) N _ _ _ _ h)
          · refine G.iload_n C dX8_drawn_204 1 rfl ?_
            refine jn_use (fun J => ∀ (s219_0 : Int32), J s219_0 = some r → G X [wModel t a v_204] 219 [(0, .ref (a 0))] [.int s219_0]) h ?_ (fun J219 hJ219 h => ?_)
            · intro s219_0 h
              refine G.istore (lv' := [(7, .int s219_0), (0, .ref (a 0))]) C dX8_drawn_219 (by decide) rfl ?_
              refine G.aload_n C dX8_drawn_221 1 rfl ?_
              obtain ⟨q222, hq222, h⟩ := bind_some' h
              refine G.cvV (i0 := 0) (j0 := 0) (cs' := [wModel t a q222]) C (c_X8_takeBack (a := a) hq222) [0] rfl rfl rfl rfl rfl rfl rfl k_1375 cal_X8_takeBack (fit_rm (by decide) (by decide)) rfl (Nat.le_of_ble_eq_true rfl) dX8_drawn_222 ?_
              refine G.iload C dX8_drawn_225 0 rfl ?_
              exact hR _ (Option.some.inj h) _ _ dX8_drawn_227
            refine G.if_ne (tgt := 217) C dX8_drawn_205 (by decide) h (fun h => ?_) (fun h => ?_)
            · refine G.iload C dX8_drawn_217 2 rfl ?_
              exact G.lvs [0] rfl (hJ219 _ h)
            · refine G.aload_n C dX8_drawn_208 0 rfl ?_
              refine gfX8_19 (i := 0) (j := 0) (v := .ref (a 4)) C rfl rfl rfl dX8_drawn_209 ?_
              refine G.iconst C dX8_drawn_212 ni_5 ?_
              refine G.iald (i := 0) (j := 4) (f := (v_204 4)) C rfl rfl h dX8_drawn_213 (fun h => ?_)
              refine G.goto (tgt := 219) C dX8_drawn_214 (by decide) ?_
              exact G.lvs [0] rfl (hJ219 _ h)
        · refine G.ldc C k_1158 dX8_drawn_41 ?_
          exact hR _ (Option.some.inj h) _ _ dX8_drawn_43
  · refine G.ldc C k_1238 dX8_drawn_7 ?_
    exact hR _ (Option.some.inj h) _ _ dX8_drawn_9
set_option maxHeartbeats 2000000 in
set_option maxRecDepth 20000 in
theorem w_X8_image_L25 {X : Cx} {t : Nat → ClassId} {a : Nat → Nat} {N : Nat} {x1 : Int32} {K54 : SV → Option (Int32 × SV)} {r : Int32 × SV} (C : gX X t (rm 2) cX8_image 3 RX8) (hR : ∀ q : Int32 × SV, q = r → RetI X cX8_image (q.1) [wModel t a (q.2)]) (hK54 : ∀ (v_54 : SV), K54 v_54 = some r → G X [wModel t a v_54] 54 [(0, .ref (a 0)), (1, .int x1)] []) : ∀ (n : Nat) (x2 : Int32) (v : SV), F_X8_image_L25 N x1 K54 n x2 v = some r → G X [wModel t a v] 25 [(0, .ref (a 0)), (1, .int x1), (2, .int x2)] [] := by
  intro n
  induction n with
  | zero => intro x2 v h; exact absurd h (by simp [F_X8_image_L25])
  | succ n ih =>
    intro x2 v h
    rw [F_X8_image_L25] at h
    refine G.iload_n C dX8_image_25 2 rfl ?_
    refine G.bipush C dX8_image_26 nb_55 ?_
    refine G.icmp_ge (tgt := 54) C dX8_image_28 (by decide) h (fun h => ?_) (fun h => ?_)
    · exact G.lvs [0, 1] rfl (hK54 _ h)
    · refine G.aload_n C dX8_image_31 0 rfl ?_
      refine gfX8_47 (i := 0) (j := 0) (v := .ref (a 13)) C rfl rfl rfl dX8_image_32 ?_
      refine G.bipush C dX8_image_35 nb_55 ?_
      refine G.iload_n C dX8_image_37 1 rfl ?_
      refine G.imul C dX8_image_38 ?_
      refine G.iload_n C dX8_image_39 2 rfl ?_
      refine G.iadd C dX8_image_40 ?_
      refine G.aload_n C dX8_image_41 0 rfl ?_
      refine gfX8_19 (i := 0) (j := 0) (v := .ref (a 4)) C rfl rfl rfl dX8_image_42 ?_
      refine G.iload_n C dX8_image_45 2 rfl ?_
      refine G.iald (i := 0) (j := 4) (f := (v 4)) C rfl rfl h dX8_image_46 (fun h => ?_)
      refine G.iast (i := 0) (j := 13) (f := v 13) (cs' := [wModel t a (up2 v 13 ((((55 : Int32) * x1) + x2).toNatClampNeg) ((v 4) (x2.toNatClampNeg)))]) C rfl rfl h dX8_image_47 (suModelA_13) rfl (fun h => ?_)
      refine G.iinc (v := (x2 + (1 : Int32))) (lv' := [(2, .int (x2 + (1 : Int32))), (0, .ref (a 0)), (1, .int x1)]) C dX8_image_48 2 rfl (by rw [ni_1]) (by decide) rfl ?_
      refine G.goto (tgt := 25) C dX8_image_51 (by decide) ?_
      exact G.lvs [1, 2, 0] rfl (ih _ _ h)
set_option maxHeartbeats 2000000 in
set_option maxRecDepth 20000 in
theorem c_X8_image {t : Nat → ClassId} {a : Nat → Nat} {N : Nat} {v : SV} {x1 : Int32} {r : Int32 × SV} (h : F_X8_image N v x1 = some r) : CI t yX8_image cX8_image 3 (some .int) (rm 2) [.ref (a 0), .int x1] [wModel t a v] (r.1) [wModel t a (r.2)] := by
  refine CI.of (own := RX8) (by decide) rfl (Nat.le_of_ble_eq_true rfl) (fun X C hR0 => ?_)
  have hR : ∀ q : Int32 × SV, q = r → RetI X cX8_image (q.1) [wModel t a (q.2)] := by intro q e; subst e; exact hR0
  show G X [wModel t a v] 0 [(0, .ref (a 0)), (1, .int x1)] []
  unfold F_X8_image at h
  refine G.iload_n C dX8_image_0 1 rfl ?_
  refine G.i2l C dX8_image_1 ?_
  refine G.lconst C dX8_image_2 nl_0 ?_
  refine G.lconst C dX8_image_3 nl_1 ?_
  obtain ⟨q4, hq4, h⟩ := bind_some' h
  refine G.csI (cs' := [wModel t a v]) C (c_X8_in hq4) [] rfl rfl rfl rfl k_1154 cal_X8_in (fit_rm (by decide) (by decide)) rfl (Nat.le_of_ble_eq_true rfl) dX8_image_4 ?_
  refine G.if_ne (tgt := 13) C dX8_image_7 (by decide) h (fun h => ?_) (fun h => ?_)
  · refine G.aload_n C dX8_image_13 0 rfl ?_
    refine gfX8_141 (i := 0) (j := 0) (v := .int (v 0 4)) C rfl rfl rfl dX8_image_14 ?_
    refine G.if_ne (tgt := 23) C dX8_image_17 (by decide) h (fun h => ?_) (fun h => ?_)
    · refine G.iconst C dX8_image_23 ni_0 ?_
      refine G.istore_n (lv' := [(2, .int (0 : Int32)), (0, .ref (a 0)), (1, .int x1)]) C dX8_image_24 (by decide) rfl ?_
      refine G.lvs [1, 2, 0] rfl (w_X8_image_L25 C hR (fun v_54 h => ?_) N _ _ h)
      · refine G.aload_n C dX8_image_54 0 rfl ?_
        refine gfX8_43 (i := 0) (j := 0) (v := .ref (a 12)) C rfl rfl rfl dX8_image_55 ?_
        refine G.iload_n C dX8_image_58 1 rfl ?_
        refine G.iconst C dX8_image_59 ni_1 ?_
        refine G.zast (i := 0) (j := 12) (f := v_54 12) (cs' := [wModel t a (up2 v_54 12 (x1.toNatClampNeg) (1 : Int32))]) C rfl rfl h dX8_image_60 (by decide) (suModelA_12) rfl (fun h => ?_)
        refine G.iconst C dX8_image_61 ni_1 ?_
        exact hR _ (Option.some.inj h) _ _ dX8_image_62
    · refine G.ldc C k_1238 dX8_image_20 ?_
      exact hR _ (Option.some.inj h) _ _ dX8_image_22
  · refine G.ldc C k_1158 dX8_image_10 ?_
    exact hR _ (Option.some.inj h) _ _ dX8_image_12
set_option maxHeartbeats 2000000 in
set_option maxRecDepth 20000 in
theorem w_X8_restore_L27 {X : Cx} {t : Nat → ClassId} {a : Nat → Nat} {N : Nat} {x1 : Int32} {K56 : SV → Option (Int32 × SV)} {r : Int32 × SV} (C : gX X t (rm 2) cX8_restore 3 RX8) (hR : ∀ q : Int32 × SV, q = r → RetI X cX8_restore (q.1) [wModel t a (q.2)]) (hK56 : ∀ (v_56 : SV), K56 v_56 = some r → G X [wModel t a v_56] 56 [(0, .ref (a 0))] []) : ∀ (n : Nat) (x2 : Int32) (v : SV), F_X8_restore_L27 N x1 K56 n x2 v = some r → G X [wModel t a v] 27 [(0, .ref (a 0)), (1, .int x1), (2, .int x2)] [] := by
  intro n
  induction n with
  | zero => intro x2 v h; exact absurd h (by simp [F_X8_restore_L27])
  | succ n ih =>
    intro x2 v h
    rw [F_X8_restore_L27] at h
    refine G.iload_n C dX8_restore_27 2 rfl ?_
    refine G.bipush C dX8_restore_28 nb_55 ?_
    refine G.icmp_ge (tgt := 56) C dX8_restore_30 (by decide) h (fun h => ?_) (fun h => ?_)
    · exact G.lvs [0] rfl (hK56 _ h)
    · refine G.aload_n C dX8_restore_33 0 rfl ?_
      refine gfX8_19 (i := 0) (j := 0) (v := .ref (a 4)) C rfl rfl rfl dX8_restore_34 ?_
      refine G.iload_n C dX8_restore_37 2 rfl ?_
      refine G.aload_n C dX8_restore_38 0 rfl ?_
      refine gfX8_47 (i := 0) (j := 0) (v := .ref (a 13)) C rfl rfl rfl dX8_restore_39 ?_
      refine G.bipush C dX8_restore_42 nb_55 ?_
      refine G.iload_n C dX8_restore_44 1 rfl ?_
      refine G.imul C dX8_restore_45 ?_
      refine G.iload_n C dX8_restore_46 2 rfl ?_
      refine G.iadd C dX8_restore_47 ?_
      refine G.iald (i := 0) (j := 13) (f := (v 13)) C rfl rfl h dX8_restore_48 (fun h => ?_)
      refine G.iast (i := 0) (j := 4) (f := v 4) (cs' := [wModel t a (up2 v 4 (x2.toNatClampNeg) ((v 13) ((((55 : Int32) * x1) + x2).toNatClampNeg)))]) C rfl rfl h dX8_restore_49 (suModelA_4) rfl (fun h => ?_)
      refine G.iinc (v := (x2 + (1 : Int32))) (lv' := [(2, .int (x2 + (1 : Int32))), (0, .ref (a 0)), (1, .int x1)]) C dX8_restore_50 2 rfl (by rw [ni_1]) (by decide) rfl ?_
      refine G.goto (tgt := 27) C dX8_restore_53 (by decide) ?_
      exact G.lvs [1, 2, 0] rfl (ih _ _ h)
set_option maxHeartbeats 2000000 in
set_option maxRecDepth 20000 in
theorem c_X8_restore {t : Nat → ClassId} {a : Nat → Nat} {N : Nat} {v : SV} {x1 : Int32} {r : Int32 × SV} (h : F_X8_restore N v x1 = some r) : CI t yX8_restore cX8_restore 3 (some .int) (rm 2) [.ref (a 0), .int x1] [wModel t a v] (r.1) [wModel t a (r.2)] := by
  refine CI.of (own := RX8) (by decide) rfl (Nat.le_of_ble_eq_true rfl) (fun X C hR0 => ?_)
  have hR : ∀ q : Int32 × SV, q = r → RetI X cX8_restore (q.1) [wModel t a (q.2)] := by intro q e; subst e; exact hR0
  show G X [wModel t a v] 0 [(0, .ref (a 0)), (1, .int x1)] []
  unfold F_X8_restore at h
  refine G.iload_n C dX8_restore_0 1 rfl ?_
  refine G.i2l C dX8_restore_1 ?_
  refine G.lconst C dX8_restore_2 nl_0 ?_
  refine G.lconst C dX8_restore_3 nl_1 ?_
  obtain ⟨q4, hq4, h⟩ := bind_some' h
  refine G.csI (cs' := [wModel t a v]) C (c_X8_in hq4) [] rfl rfl rfl rfl k_1154 cal_X8_in (fit_rm (by decide) (by decide)) rfl (Nat.le_of_ble_eq_true rfl) dX8_restore_4 ?_
  refine G.if_ne (tgt := 13) C dX8_restore_7 (by decide) h (fun h => ?_) (fun h => ?_)
  · refine G.aload_n C dX8_restore_13 0 rfl ?_
    refine gfX8_43 (i := 0) (j := 0) (v := .ref (a 12)) C rfl rfl rfl dX8_restore_14 ?_
    refine G.iload_n C dX8_restore_17 1 rfl ?_
    refine G.zald (i := 0) (j := 12) (f := (v 12)) C rfl rfl h dX8_restore_18 (fun h => ?_)
    refine G.if_ne (tgt := 25) C dX8_restore_19 (by decide) h (fun h => ?_) (fun h => ?_)
    · refine G.iconst C dX8_restore_25 ni_0 ?_
      refine G.istore_n (lv' := [(2, .int (0 : Int32)), (0, .ref (a 0)), (1, .int x1)]) C dX8_restore_26 (by decide) rfl ?_
      refine G.lvs [1, 2, 0] rfl (w_X8_restore_L27 C hR (fun v_56 h => ?_) N _ _ h)
      · refine G.aload_n C dX8_restore_56 0 rfl ?_
        refine G.iconst C dX8_restore_57 ni_0 ?_
        refine pfX8_145 (i := 0) (j := 0) (cs' := [wModel t a (up2 v_56 0 17 (0 : Int32))]) C rfl rfl (Nat.le_of_ble_eq_true rfl) dX8_restore_58 (suModel_17) rfl ?_
        refine G.iconst C dX8_restore_61 ni_1 ?_
        exact hR _ (Option.some.inj h) _ _ dX8_restore_62
    · refine G.ldc C k_1238 dX8_restore_22 ?_
      exact hR _ (Option.some.inj h) _ _ dX8_restore_24
  · refine G.ldc C k_1158 dX8_restore_10 ?_
    exact hR _ (Option.some.inj h) _ _ dX8_restore_12
set_option maxHeartbeats 2000000 in
set_option maxRecDepth 20000 in
theorem c_X8_kind {t : Nat → ClassId} {a : Nat → Nat} {N : Nat} {v : SV} {x1 : Int32} {r : Int32} (h : F_X8_kind N v x1 = some r) : CI t yX8_kind cX8_kind 2 (some .int) (rm 3) [.ref (a 0), .int x1] [wModel t a v] r [wModel t a v] := by
  refine CI.of (own := RX8) (by decide) rfl (Nat.le_of_ble_eq_true rfl) (fun X C hR0 => ?_)
  have hR : ∀ q : Int32, q = r → RetI X cX8_kind q [wModel t a v] := by intro q e; subst e; exact hR0
  show G X [wModel t a v] 0 [(0, .ref (a 0)), (1, .int x1)] []
  unfold F_X8_kind at h
  refine G.aload_n C dX8_kind_0 0 rfl ?_
  refine G.iload_n C dX8_kind_1 1 rfl ?_
  obtain ⟨q2, hq2, h⟩ := bind_some' h
  refine G.cvI (i0 := 0) (j0 := 0) (cs' := [wModel t a v]) C (c_X8_isThing (a := a) hq2) [0] rfl rfl rfl rfl rfl rfl rfl k_1307 cal_X8_isThing (fit_rm (by decide) (by decide)) rfl (Nat.le_of_ble_eq_true rfl) dX8_kind_2 ?_
  refine G.if_eq (tgt := 20) C dX8_kind_5 (by decide) h (fun h => ?_) (fun h => ?_)
  · refine G.ldc C k_1158 dX8_kind_20 ?_
    exact hR _ (Option.some.inj h) _ _ dX8_kind_22
  · refine G.aload_n C dX8_kind_8 0 rfl ?_
    refine gfX8_19 (i := 0) (j := 0) (v := .ref (a 4)) C rfl rfl rfl dX8_kind_9 ?_
    refine G.bipush C dX8_kind_12 nb_7 ?_
    refine G.iload_n C dX8_kind_14 1 rfl ?_
    refine G.iadd C dX8_kind_15 ?_
    refine G.iald (i := 0) (j := 4) (f := (v 4)) C rfl rfl h dX8_kind_16 (fun h => ?_)
    refine G.goto (tgt := 22) C dX8_kind_17 (by decide) ?_
    exact hR _ (Option.some.inj h) _ _ dX8_kind_22
set_option maxHeartbeats 2000000 in
set_option maxRecDepth 20000 in
theorem c_X8_isKind {t : Nat → ClassId} {N : Nat} {x0 : Int32} {x1 : Int32} {r : Int32} (h : F_X8_isKind N x0 x1 = some r) : CI t yX8_isKind cX8_isKind 2 (some .boolean) (rm 1) [.int x0, .int x1] [] r [] := by
  refine CZ.of (own := RX8) (by decide) rfl (Nat.le_of_ble_eq_true rfl) (fun X C hR0 => ?_)
  have hR : ∀ q : Int32, q = r → RetZ X cX8_isKind q [] := by intro q e; subst e; exact hR0
  show G X [] 0 [(0, .int x0), (1, .int x1)] []
  unfold F_X8_isKind at h
  refine G.iload_n C dX8_isKind_0 1 rfl ?_
  refine G.if_eq (tgt := 29) C dX8_isKind_1 (by decide) h (fun h => ?_) (fun h => ?_)
  · refine G.iconst C dX8_isKind_29 ni_1 ?_
    refine G.goto (tgt := 34) C dX8_isKind_30 (by decide) ?_
    exact hR _ (Option.some.inj h) (Or.inr rfl) _ _ dX8_isKind_34
  · refine G.iload_n C dX8_isKind_4 0 rfl ?_
    refine G.iload_n C dX8_isKind_5 1 rfl ?_
    refine G.icmp_eq (tgt := 29) C dX8_isKind_6 (by decide) h (fun h => ?_) (fun h => ?_)
    · refine G.iconst C dX8_isKind_29 ni_1 ?_
      refine G.goto (tgt := 34) C dX8_isKind_30 (by decide) ?_
      exact hR _ (Option.some.inj h) (Or.inr rfl) _ _ dX8_isKind_34
    · refine G.iload_n C dX8_isKind_9 1 rfl ?_
      refine G.iconst C dX8_isKind_10 ni_1 ?_
      refine jn_use (fun J => ∀ (u_19 : Unit), J u_19 = some r → G X [] 19 [(0, .int x0), (1, .int x1)] []) h ?_ (fun J19 hJ19 h => ?_)
      · intro u_19 h
        refine G.iload_n C dX8_isKind_19 1 rfl ?_
        refine G.iconst C dX8_isKind_20 ni_4 ?_
        refine G.icmp_ne (tgt := 33) C dX8_isKind_21 (by decide) h (fun h => ?_) (fun h => ?_)
        · refine G.iconst C dX8_isKind_33 ni_0 ?_
          exact hR _ (Option.some.inj h) (Or.inl rfl) _ _ dX8_isKind_34
        · refine G.iload_n C dX8_isKind_24 0 rfl ?_
          refine G.iconst C dX8_isKind_25 ni_5 ?_
          refine G.icmp_ne (tgt := 33) C dX8_isKind_26 (by decide) h (fun h => ?_) (fun h => ?_)
          · refine G.iconst C dX8_isKind_33 ni_0 ?_
            exact hR _ (Option.some.inj h) (Or.inl rfl) _ _ dX8_isKind_34
          · refine G.iconst C dX8_isKind_29 ni_1 ?_
            refine G.goto (tgt := 34) C dX8_isKind_30 (by decide) ?_
            exact hR _ (Option.some.inj h) (Or.inr rfl) _ _ dX8_isKind_34
      refine G.icmp_ne (tgt := 19) C dX8_isKind_11 (by decide) h (fun h => ?_) (fun h => ?_)
      · exact G.lvs [0, 1] rfl (hJ19 _ h)
      · refine G.iload_n C dX8_isKind_14 0 rfl ?_
        refine G.iconst C dX8_isKind_15 ni_4 ?_
        refine G.icmp_lt (tgt := 29) C dX8_isKind_16 (by decide) h (fun h => ?_) (fun h => ?_)
        · refine G.iconst C dX8_isKind_29 ni_1 ?_
          refine G.goto (tgt := 34) C dX8_isKind_30 (by decide) ?_
          exact hR _ (Option.some.inj h) (Or.inr rfl) _ _ dX8_isKind_34
        · exact G.lvs [0, 1] rfl (hJ19 _ h)
set_option maxHeartbeats 2000000 in
set_option maxRecDepth 20000 in
theorem c_X8_as {t : Nat → ClassId} {a : Nat → Nat} {N : Nat} {v : SV} {x1 : Int32} {x2 : Int32} {r : Int32 × SV} (h : F_X8_as N v x1 x2 = some r) : CI t yX8_as cX8_as 3 (some .int) (rm 3) [.ref (a 0), .int x1, .int x2] [wModel t a v] (r.1) [wModel t a (r.2)] := by
  refine CI.of (own := RX8) (by decide) rfl (Nat.le_of_ble_eq_true rfl) (fun X C hR0 => ?_)
  have hR : ∀ q : Int32 × SV, q = r → RetI X cX8_as (q.1) [wModel t a (q.2)] := by intro q e; subst e; exact hR0
  show G X [wModel t a v] 0 [(0, .ref (a 0)), (1, .int x1), (2, .int x2)] []
  unfold F_X8_as at h
  refine G.aload_n C dX8_as_0 0 rfl ?_
  refine G.iload_n C dX8_as_1 1 rfl ?_
  obtain ⟨q2, hq2, h⟩ := bind_some' h
  refine G.cvI (i0 := 0) (j0 := 0) (cs' := [wModel t a v]) C (c_X8_isThing (a := a) hq2) [0] rfl rfl rfl rfl rfl rfl rfl k_1307 cal_X8_isThing (fit_rm (by decide) (by decide)) rfl (Nat.le_of_ble_eq_true rfl) dX8_as_2 ?_
  refine G.if_eq (tgt := 20) C dX8_as_5 (by decide) h (fun h => ?_) (fun h => ?_)
  · refine G.ldc C k_1158 dX8_as_20 ?_
    exact hR _ (Option.some.inj h) _ _ dX8_as_22
  · refine G.iload_n C dX8_as_8 2 rfl ?_
    refine G.i2l C dX8_as_9 ?_
    refine G.lconst C dX8_as_10 nl_0 ?_
    refine G.ldc2 C k_1471 dX8_as_11 ?_
    obtain ⟨q14, hq14, h⟩ := bind_some' h
    refine G.csI (cs' := [wModel t a v]) C (c_X8_in hq14) [] rfl rfl rfl rfl k_1154 cal_X8_in (fit_rm (by decide) (by decide)) rfl (Nat.le_of_ble_eq_true rfl) dX8_as_14 ?_
    refine G.if_ne (tgt := 23) C dX8_as_17 (by decide) h (fun h => ?_) (fun h => ?_)
    · refine G.aload_n C dX8_as_23 0 rfl ?_
      refine gfX8_19 (i := 0) (j := 0) (v := .ref (a 4)) C rfl rfl rfl dX8_as_24 ?_
      refine G.bipush C dX8_as_27 nb_7 ?_
      refine G.iload_n C dX8_as_29 1 rfl ?_
      refine G.iadd C dX8_as_30 ?_
      refine G.iald (i := 0) (j := 4) (f := (v 4)) C rfl rfl h dX8_as_31 (fun h => ?_)
      refine G.iload_n C dX8_as_32 2 rfl ?_
      obtain ⟨q33, hq33, h⟩ := bind_some' h
      refine G.csI (cs' := [wModel t a v]) C (c_X8_isKind hq33) [] rfl rfl rfl rfl k_1488 cal_X8_isKind (fit_rm (by decide) (by decide)) rfl (Nat.le_of_ble_eq_true rfl) dX8_as_33 ?_
      refine G.if_eq (tgt := 47) C dX8_as_36 (by decide) h (fun h => ?_) (fun h => ?_)
      · refine G.aload_n C dX8_as_47 0 rfl ?_
        refine G.iconst C dX8_as_48 ni_3 ?_
        obtain ⟨q49, hq49, h⟩ := bind_some' h
        refine G.cvI (i0 := 0) (j0 := 0) (cs' := [wModel t a (q49.2)]) C (c_X8_find (a := a) hq49) [0] rfl rfl rfl rfl rfl rfl rfl k_1159 cal_X8_find (fit_rm (by decide) (by decide)) rfl (Nat.le_of_ble_eq_true rfl) dX8_as_49 ?_
        exact hR _ (Option.some.inj h) _ _ dX8_as_52
      · refine G.aload_n C dX8_as_39 0 rfl ?_
        refine G.iload_n C dX8_as_40 1 rfl ?_
        obtain ⟨q41, hq41, h⟩ := bind_some' h
        refine G.cvI (i0 := 0) (j0 := 0) (cs' := [wModel t a (q41.2)]) C (c_X8_well (a := a) hq41) [0] rfl rfl rfl rfl rfl rfl rfl k_1164 cal_X8_well (fit_rm (by decide) (by decide)) rfl (Nat.le_of_ble_eq_true rfl) dX8_as_41 ?_
        refine G.goto (tgt := 52) C dX8_as_44 (by decide) ?_
        exact hR _ (Option.some.inj h) _ _ dX8_as_52
    · refine G.ldc C k_1158 dX8_as_20 ?_
      exact hR _ (Option.some.inj h) _ _ dX8_as_22
set_option maxHeartbeats 2000000 in
set_option maxRecDepth 20000 in
theorem c_X8_begin {t : Nat → ClassId} {a : Nat → Nat} {N : Nat} {v : SV} {x1 : Int32} {r : SV} (h : F_X8_begin N v x1 = some r) : CV t yX8_begin cX8_begin 2 none (rm 1) [.ref (a 0), .int x1] [wModel t a v] [wModel t a r] := by
  refine CV.of (own := RX8) (by decide) rfl (Nat.le_of_ble_eq_true rfl) (fun X C hR0 => ?_)
  have hR : ∀ q : SV, q = r → RetV X cX8_begin [wModel t a q] := by intro q e; subst e; exact hR0
  show G X [wModel t a v] 0 [(0, .ref (a 0)), (1, .int x1)] []
  unfold F_X8_begin at h
  refine G.aload_n C dX8_begin_0 0 rfl ?_
  refine gfX8_283 (i := 0) (j := 0) (v := .int (v 0 24)) C rfl rfl rfl dX8_begin_1 ?_
  refine G.bipush C dX8_begin_4 nb_16 ?_
  refine G.icmp_ge (tgt := 29) C dX8_begin_6 (by decide) h (fun h => ?_) (fun h => ?_)
  · exact hR _ (Option.some.inj h) _ _ dX8_begin_29
  · refine G.aload_n C dX8_begin_9 0 rfl ?_
    refine gfX8_50 (i := 0) (j := 0) (v := .ref (a 14)) C rfl rfl rfl dX8_begin_10 ?_
    refine G.aload_n C dX8_begin_13 0 rfl ?_
    refine gfX8_283 (i := 0) (j := 0) (v := .int (v 0 24)) C rfl rfl rfl dX8_begin_14 ?_
    refine G.iload_n C dX8_begin_17 1 rfl ?_
    refine G.iast (i := 0) (j := 14) (f := v 14) (cs' := [wModel t a (up2 v 14 ((v 0 24).toNatClampNeg) x1)]) C rfl rfl h dX8_begin_18 (suModelA_14) rfl (fun h => ?_)
    refine G.aload_n C dX8_begin_19 0 rfl ?_
    refine G.dup C dX8_begin_20 rfl ?_
    refine gfX8_283 (i := 0) (j := 0) (v := .int (v 0 24)) C rfl rfl rfl dX8_begin_21 ?_
    refine G.iconst C dX8_begin_24 ni_1 ?_
    refine G.iadd C dX8_begin_25 ?_
    refine pfX8_283 (i := 0) (j := 0) (cs' := [wModel t a (up2 (up2 v 14 ((v 0 24).toNatClampNeg) x1) 0 24 ((v 0 24) + (1 : Int32)))]) C rfl rfl (Nat.le_of_ble_eq_true rfl) dX8_begin_26 (suModel_24) rfl ?_
    exact hR _ (Option.some.inj h) _ _ dX8_begin_29
set_option maxHeartbeats 2000000 in
set_option maxRecDepth 20000 in
theorem c_X8_lent {t : Nat → ClassId} {a : Nat → Nat} {N : Nat} {v : SV} {x1 : Int32} {x2 : Int32} {r : Int32 × SV} (h : F_X8_lent N v x1 x2 = some r) : CI t yX8_lent cX8_lent 3 (some .int) (rm 2) [.ref (a 0), .int x1, .int x2] [wModel t a v] (r.1) [wModel t a (r.2)] := by
  refine CI.of (own := RX8) (by decide) rfl (Nat.le_of_ble_eq_true rfl) (fun X C hR0 => ?_)
  have hR : ∀ q : Int32 × SV, q = r → RetI X cX8_lent (q.1) [wModel t a (q.2)] := by intro q e; subst e; exact hR0
  show G X [wModel t a v] 0 [(0, .ref (a 0)), (1, .int x1), (2, .int x2)] []
  unfold F_X8_lent at h
  refine G.aload_n C dX8_lent_0 0 rfl ?_
  refine G.iload_n C dX8_lent_1 2 rfl ?_
  obtain ⟨q2, hq2, h⟩ := bind_some' h
  refine G.cvV (i0 := 0) (j0 := 0) (cs' := [wModel t a q2]) C (c_X8_begin (a := a) hq2) [0] rfl rfl rfl rfl rfl rfl rfl k_1499 cal_X8_begin (fit_rm (by decide) (by decide)) rfl (Nat.le_of_ble_eq_true rfl) dX8_lent_2 ?_
  refine G.iload_n C dX8_lent_5 2 rfl ?_
  refine G.bipush C dX8_lent_6 nb_10 ?_
  refine G.icmp_ne (tgt := 23) C dX8_lent_8 (by decide) h (fun h => ?_) (fun h => ?_)
  · refine G.iload_n C dX8_lent_23 1 rfl ?_
    exact hR _ (Option.some.inj h) _ _ dX8_lent_24
  · refine G.aload_n C dX8_lent_11 0 rfl ?_
    refine gfX8_19 (i := 0) (j := 0) (v := .ref (a 4)) C rfl rfl rfl dX8_lent_12 ?_
    refine G.bipush C dX8_lent_15 nb_19 ?_
    refine G.iload_n C dX8_lent_17 1 rfl ?_
    refine G.iadd C dX8_lent_18 ?_
    refine G.iald (i := 0) (j := 4) (f := (q2 4)) C rfl rfl h dX8_lent_19 (fun h => ?_)
    refine G.goto (tgt := 24) C dX8_lent_20 (by decide) ?_
    exact hR _ (Option.some.inj h) _ _ dX8_lent_24
set_option maxHeartbeats 2000000 in
set_option maxRecDepth 20000 in
theorem c_X8_plainMark {t : Nat → ClassId} {a : Nat → Nat} {N : Nat} {v : SV} {x1 : Int32} {r : Int32 × SV} (h : F_X8_plainMark N v x1 = some r) : CI t yX8_plainMark cX8_plainMark 2 (some .int) (rm 3) [.ref (a 0), .int x1] [wModel t a v] (r.1) [wModel t a (r.2)] := by
  refine CI.of (own := RX8) (by decide) rfl (Nat.le_of_ble_eq_true rfl) (fun X C hR0 => ?_)
  have hR : ∀ q : Int32 × SV, q = r → RetI X cX8_plainMark (q.1) [wModel t a (q.2)] := by intro q e; subst e; exact hR0
  show G X [wModel t a v] 0 [(0, .ref (a 0)), (1, .int x1)] []
  unfold F_X8_plainMark at h
  refine G.aload_n C dX8_plainMark_0 0 rfl ?_
  refine G.bipush C dX8_plainMark_1 nb_21 ?_
  obtain ⟨q3, hq3, h⟩ := bind_some' h
  refine G.cvV (i0 := 0) (j0 := 0) (cs' := [wModel t a q3]) C (c_X8_begin (a := a) hq3) [0] rfl rfl rfl rfl rfl rfl rfl k_1499 cal_X8_begin (fit_rm (by decide) (by decide)) rfl (Nat.le_of_ble_eq_true rfl) dX8_plainMark_3 ?_
  refine G.aload_n C dX8_plainMark_6 0 rfl ?_
  refine G.iload_n C dX8_plainMark_7 1 rfl ?_
  refine G.bipush C dX8_plainMark_8 nb_20 ?_
  obtain ⟨q10, hq10, h⟩ := bind_some' h
  refine G.cvI (i0 := 0) (j0 := 0) (cs' := [wModel t a (q10.2)]) C (c_X8_lent (a := a) hq10) [0] rfl rfl rfl rfl rfl rfl rfl k_1507 cal_X8_lent (fit_rm (by decide) (by decide)) rfl (Nat.le_of_ble_eq_true rfl) dX8_plainMark_10 ?_
  refine G.aload_n C dX8_plainMark_13 0 rfl ?_
  refine G.iload_n C dX8_plainMark_14 1 rfl ?_
  obtain ⟨q15, hq15, h⟩ := bind_some' h
  refine G.cvI (i0 := 0) (j0 := 0) (cs' := [wModel t a (q10.2)]) C (c_X8_wantedBy (a := a) hq15) [0] rfl rfl rfl rfl rfl rfl rfl k_1257 cal_X8_wantedBy (fit_rm (by decide) (by decide)) rfl (Nat.le_of_ble_eq_true rfl) dX8_plainMark_15 ?_
  refine G.iadd C dX8_plainMark_18 ?_
  exact hR _ (Option.some.inj h) _ _ dX8_plainMark_19
set_option maxHeartbeats 2000000 in
set_option maxRecDepth 20000 in
theorem c_X8_liveSize {t : Nat → ClassId} {a : Nat → Nat} {N : Nat} {v : SV} {x1 : Int32} {r : Int32 × SV} (h : F_X8_liveSize N v x1 = some r) : CI t yX8_liveSize cX8_liveSize 2 (some .int) (rm 3) [.ref (a 0), .int x1] [wModel t a v] (r.1) [wModel t a (r.2)] := by
  refine CI.of (own := RX8) (by decide) rfl (Nat.le_of_ble_eq_true rfl) (fun X C hR0 => ?_)
  have hR : ∀ q : Int32 × SV, q = r → RetI X cX8_liveSize (q.1) [wModel t a (q.2)] := by intro q e; subst e; exact hR0
  show G X [wModel t a v] 0 [(0, .ref (a 0)), (1, .int x1)] []
  unfold F_X8_liveSize at h
  refine G.aload_n C dX8_liveSize_0 0 rfl ?_
  refine G.bipush C dX8_liveSize_1 nb_13 ?_
  obtain ⟨q3, hq3, h⟩ := bind_some' h
  refine G.cvV (i0 := 0) (j0 := 0) (cs' := [wModel t a q3]) C (c_X8_begin (a := a) hq3) [0] rfl rfl rfl rfl rfl rfl rfl k_1499 cal_X8_begin (fit_rm (by decide) (by decide)) rfl (Nat.le_of_ble_eq_true rfl) dX8_liveSize_3 ?_
  refine G.aload_n C dX8_liveSize_6 0 rfl ?_
  refine G.iload_n C dX8_liveSize_7 1 rfl ?_
  refine G.bipush C dX8_liveSize_8 nb_10 ?_
  obtain ⟨q10, hq10, h⟩ := bind_some' h
  refine G.cvI (i0 := 0) (j0 := 0) (cs' := [wModel t a (q10.2)]) C (c_X8_lent (a := a) hq10) [0] rfl rfl rfl rfl rfl rfl rfl k_1507 cal_X8_lent (fit_rm (by decide) (by decide)) rfl (Nat.le_of_ble_eq_true rfl) dX8_liveSize_10 ?_
  refine G.bipush C dX8_liveSize_13 nb_100 ?_
  refine G.isub C dX8_liveSize_15 ?_
  exact hR _ (Option.some.inj h) _ _ dX8_liveSize_16
set_option maxHeartbeats 2000000 in
set_option maxRecDepth 20000 in
theorem c_X8_sizeOfLive {t : Nat → ClassId} {a : Nat → Nat} {N : Nat} {v : SV} {x1 : Int32} {r : Int32 × SV} (h : F_X8_sizeOfLive N v x1 = some r) : CI t yX8_sizeOfLive cX8_sizeOfLive 2 (some .int) (rm 4) [.ref (a 0), .int x1] [wModel t a v] (r.1) [wModel t a (r.2)] := by
  refine CI.of (own := RX8) (by decide) rfl (Nat.le_of_ble_eq_true rfl) (fun X C hR0 => ?_)
  have hR : ∀ q : Int32 × SV, q = r → RetI X cX8_sizeOfLive (q.1) [wModel t a (q.2)] := by intro q e; subst e; exact hR0
  show G X [wModel t a v] 0 [(0, .ref (a 0)), (1, .int x1)] []
  unfold F_X8_sizeOfLive at h
  refine G.aload_n C dX8_sizeOfLive_0 0 rfl ?_
  refine gfX8_19 (i := 0) (j := 0) (v := .ref (a 4)) C rfl rfl rfl dX8_sizeOfLive_1 ?_
  refine G.bipush C dX8_sizeOfLive_4 nb_7 ?_
  refine G.iload_n C dX8_sizeOfLive_6 1 rfl ?_
  refine G.iadd C dX8_sizeOfLive_7 ?_
  refine G.iald (i := 0) (j := 4) (f := (v 4)) C rfl rfl h dX8_sizeOfLive_8 (fun h => ?_)
  refine G.iconst C dX8_sizeOfLive_9 ni_5 ?_
  refine G.icmp_ne (tgt := 27) C dX8_sizeOfLive_10 (by decide) h (fun h => ?_) (fun h => ?_)
  · refine G.aload_n C dX8_sizeOfLive_27 0 rfl ?_
    refine G.iload_n C dX8_sizeOfLive_28 1 rfl ?_
    obtain ⟨q29, hq29, h⟩ := bind_some' h
    refine G.cvI (i0 := 0) (j0 := 0) (cs' := [wModel t a (q29.2)]) C (c_X8_liveSize (a := a) hq29) [0] rfl rfl rfl rfl rfl rfl rfl k_1523 cal_X8_liveSize (fit_rm (by decide) (by decide)) rfl (Nat.le_of_ble_eq_true rfl) dX8_sizeOfLive_29 ?_
    exact hR _ (Option.some.inj h) _ _ dX8_sizeOfLive_32
  · refine G.aload_n C dX8_sizeOfLive_13 0 rfl ?_
    refine G.bipush C dX8_sizeOfLive_14 nb_14 ?_
    obtain ⟨q16, hq16, h⟩ := bind_some' h
    refine G.cvV (i0 := 0) (j0 := 0) (cs' := [wModel t a q16]) C (c_X8_begin (a := a) hq16) [0] rfl rfl rfl rfl rfl rfl rfl k_1499 cal_X8_begin (fit_rm (by decide) (by decide)) rfl (Nat.le_of_ble_eq_true rfl) dX8_sizeOfLive_16 ?_
    refine G.iconst C dX8_sizeOfLive_19 ni_2 ?_
    refine G.aload_n C dX8_sizeOfLive_20 0 rfl ?_
    refine G.iload_n C dX8_sizeOfLive_21 1 rfl ?_
    obtain ⟨q22, hq22, h⟩ := bind_some' h
    refine G.cvI (i0 := 0) (j0 := 0) (cs' := [wModel t a (q22.2)]) C (c_X8_liveSize (a := a) hq22) [0] rfl rfl rfl rfl rfl rfl rfl k_1523 cal_X8_liveSize (fit_rm (by decide) (by decide)) rfl (Nat.le_of_ble_eq_true rfl) dX8_sizeOfLive_22 ?_
    refine G.imul C dX8_sizeOfLive_25 ?_
    exact hR _ (Option.some.inj h) _ _ dX8_sizeOfLive_26
set_option maxHeartbeats 2000000 in
set_option maxRecDepth 20000 in
theorem c_X8_markOf {t : Nat → ClassId} {a : Nat → Nat} {N : Nat} {v : SV} {x1 : Int32} {r : Int32 × SV} (h : F_X8_markOf N v x1 = some r) : CI t yX8_markOf cX8_markOf 4 (some .int) (rm 5) [.ref (a 0), .int x1] [wModel t a v] (r.1) [wModel t a (r.2)] := by
  refine CI.of (own := RX8) (by decide) rfl (Nat.le_of_ble_eq_true rfl) (fun X C hR0 => ?_)
  have hR : ∀ q : Int32 × SV, q = r → RetI X cX8_markOf (q.1) [wModel t a (q.2)] := by intro q e; subst e; exact hR0
  show G X [wModel t a v] 0 [(0, .ref (a 0)), (1, .int x1)] []
  unfold F_X8_markOf at h
  refine G.aload_n C dX8_markOf_0 0 rfl ?_
  refine gfX8_19 (i := 0) (j := 0) (v := .ref (a 4)) C rfl rfl rfl dX8_markOf_1 ?_
  refine G.bipush C dX8_markOf_4 nb_7 ?_
  refine G.iload_n C dX8_markOf_6 1 rfl ?_
  refine G.iadd C dX8_markOf_7 ?_
  refine G.iald (i := 0) (j := 4) (f := (v 4)) C rfl rfl h dX8_markOf_8 (fun h => ?_)
  refine G.istore_n (lv' := [(2, .int ((v 4) (((7 : Int32) + x1).toNatClampNeg))), (0, .ref (a 0)), (1, .int x1)]) C dX8_markOf_9 (by decide) rfl ?_
  refine G.iload_n C dX8_markOf_10 0 rfl ?_
  refine G.iconst C dX8_markOf_11 ni_2 ?_
  refine G.icmp_ne (tgt := 29) C dX8_markOf_12 (by decide) h (fun h => ?_) (fun h => ?_)
  · refine G.iload_n C dX8_markOf_29 0 rfl ?_
    refine G.iconst C dX8_markOf_30 ni_3 ?_
    refine G.icmp_ne (tgt := 50) C dX8_markOf_31 (by decide) h (fun h => ?_) (fun h => ?_)
    · refine G.iload_n C dX8_markOf_50 0 rfl ?_
      refine G.iconst C dX8_markOf_51 ni_1 ?_
      refine G.icmp_ne (tgt := 61) C dX8_markOf_52 (by decide) h (fun h => ?_) (fun h => ?_)
      · refine G.aload_n C dX8_markOf_61 1 rfl ?_
        refine G.bipush C dX8_markOf_62 nb_23 ?_
        obtain ⟨q64, hq64, h⟩ := bind_some' h
        refine G.cvV (i0 := 0) (j0 := 0) (cs' := [wModel t a q64]) C (c_X8_begin (a := a) hq64) [0] rfl rfl rfl rfl rfl rfl rfl k_1499 cal_X8_begin (fit_rm (by decide) (by decide)) rfl (Nat.le_of_ble_eq_true rfl) dX8_markOf_64 ?_
        refine G.aload_n C dX8_markOf_67 1 rfl ?_
        refine G.iload_n C dX8_markOf_68 2 rfl ?_
        refine G.bipush C dX8_markOf_69 nb_20 ?_
        obtain ⟨q71, hq71, h⟩ := bind_some' h
        refine G.cvI (i0 := 0) (j0 := 0) (cs' := [wModel t a (q71.2)]) C (c_X8_lent (a := a) hq71) [0] rfl rfl rfl rfl rfl rfl rfl k_1507 cal_X8_lent (fit_rm (by decide) (by decide)) rfl (Nat.le_of_ble_eq_true rfl) dX8_markOf_71 ?_
        refine G.istore_n (lv' := [(3, .int (q71.1)), (2, .int ((v 4) (((7 : Int32) + x1).toNatClampNeg))), (0, .ref (a 0)), (1, .int x1)]) C dX8_markOf_74 (by decide) rfl ?_
        refine G.iload_n C dX8_markOf_75 0 rfl ?_
        refine G.aload_n C dX8_markOf_76 2 rfl ?_
        refine G.iload_n C dX8_markOf_77 3 rfl ?_
        obtain ⟨q78, hq78, h⟩ := bind_some' h
        refine G.cvI (i0 := 0) (j0 := 0) (cs' := [wModel t a (q78.2)]) C (c_X8_sizeOfLive (a := a) hq78) [0] rfl rfl rfl rfl rfl rfl rfl k_1519 cal_X8_sizeOfLive (fit_rm (by decide) (by decide)) rfl (Nat.le_of_ble_eq_true rfl) dX8_markOf_78 ?_
        refine G.isub C dX8_markOf_81 ?_
        exact hR _ (Option.some.inj h) _ _ dX8_markOf_82
      · refine G.aload_n C dX8_markOf_55 1 rfl ?_
        refine G.iload_n C dX8_markOf_56 2 rfl ?_
        obtain ⟨q57, hq57, h⟩ := bind_some' h
        refine G.cvI (i0 := 0) (j0 := 0) (cs' := [wModel t a (q57.2)]) C (c_X8_plainMark (a := a) hq57) [0] rfl rfl rfl rfl rfl rfl rfl k_1515 cal_X8_plainMark (fit_rm (by decide) (by decide)) rfl (Nat.le_of_ble_eq_true rfl) dX8_markOf_57 ?_
        exact hR _ (Option.some.inj h) _ _ dX8_markOf_60
    · refine G.aload_n C dX8_markOf_34 1 rfl ?_
      refine G.bipush C dX8_markOf_35 nb_22 ?_
      obtain ⟨q37, hq37, h⟩ := bind_some' h
      refine G.cvV (i0 := 0) (j0 := 0) (cs' := [wModel t a q37]) C (c_X8_begin (a := a) hq37) [0] rfl rfl rfl rfl rfl rfl rfl k_1499 cal_X8_begin (fit_rm (by decide) (by decide)) rfl (Nat.le_of_ble_eq_true rfl) dX8_markOf_37 ?_
      refine G.aload_n C dX8_markOf_40 1 rfl ?_
      refine G.iload_n C dX8_markOf_41 2 rfl ?_
      obtain ⟨q42, hq42, h⟩ := bind_some' h
      refine G.cvI (i0 := 0) (j0 := 0) (cs' := [wModel t a (q42.2)]) C (c_X8_plainMark (a := a) hq42) [0] rfl rfl rfl rfl rfl rfl rfl k_1515 cal_X8_plainMark (fit_rm (by decide) (by decide)) rfl (Nat.le_of_ble_eq_true rfl) dX8_markOf_42 ?_
      refine G.sipush C dX8_markOf_45 ns_1000 ?_
      refine G.isub C dX8_markOf_48 ?_
      exact hR _ (Option.some.inj h) _ _ dX8_markOf_49
  · refine G.aload_n C dX8_markOf_15 1 rfl ?_
    refine G.bipush C dX8_markOf_16 nb_24 ?_
    obtain ⟨q18, hq18, h⟩ := bind_some' h
    refine G.cvV (i0 := 0) (j0 := 0) (cs' := [wModel t a q18]) C (c_X8_begin (a := a) hq18) [0] rfl rfl rfl rfl rfl rfl rfl k_1499 cal_X8_begin (fit_rm (by decide) (by decide)) rfl (Nat.le_of_ble_eq_true rfl) dX8_markOf_18 ?_
    refine G.iconst C dX8_markOf_21 ni_2 ?_
    refine G.aload_n C dX8_markOf_22 1 rfl ?_
    refine G.iload_n C dX8_markOf_23 2 rfl ?_
    obtain ⟨q24, hq24, h⟩ := bind_some' h
    refine G.cvI (i0 := 0) (j0 := 0) (cs' := [wModel t a (q24.2)]) C (c_X8_plainMark (a := a) hq24) [0] rfl rfl rfl rfl rfl rfl rfl k_1515 cal_X8_plainMark (fit_rm (by decide) (by decide)) rfl (Nat.le_of_ble_eq_true rfl) dX8_markOf_24 ?_
    refine G.imul C dX8_markOf_27 ?_
    exact hR _ (Option.some.inj h) _ _ dX8_markOf_28
set_option maxHeartbeats 2000000 in
set_option maxRecDepth 20000 in
theorem c_X8_plainSize {t : Nat → ClassId} {a : Nat → Nat} {N : Nat} {v : SV} {x1 : Int32} {r : Int32 × SV} (h : F_X8_plainSize N v x1 = some r) : CI t yX8_plainSize cX8_plainSize 3 (some .int) (rm 6) [.ref (a 0), .int x1] [wModel t a v] (r.1) [wModel t a (r.2)] := by
  refine CI.of (own := RX8) (by decide) rfl (Nat.le_of_ble_eq_true rfl) (fun X C hR0 => ?_)
  have hR : ∀ q : Int32 × SV, q = r → RetI X cX8_plainSize (q.1) [wModel t a (q.2)] := by intro q e; subst e; exact hR0
  show G X [wModel t a v] 0 [(0, .ref (a 0)), (1, .int x1)] []
  unfold F_X8_plainSize at h
  refine G.aload_n C dX8_plainSize_0 0 rfl ?_
  refine G.bipush C dX8_plainSize_1 nb_11 ?_
  obtain ⟨q3, hq3, h⟩ := bind_some' h
  refine G.cvV (i0 := 0) (j0 := 0) (cs' := [wModel t a q3]) C (c_X8_begin (a := a) hq3) [0] rfl rfl rfl rfl rfl rfl rfl k_1499 cal_X8_begin (fit_rm (by decide) (by decide)) rfl (Nat.le_of_ble_eq_true rfl) dX8_plainSize_3 ?_
  refine G.aload_n C dX8_plainSize_6 0 rfl ?_
  refine G.iload_n C dX8_plainSize_7 1 rfl ?_
  refine G.bipush C dX8_plainSize_8 nb_10 ?_
  obtain ⟨q10, hq10, h⟩ := bind_some' h
  refine G.cvI (i0 := 0) (j0 := 0) (cs' := [wModel t a (q10.2)]) C (c_X8_lent (a := a) hq10) [0] rfl rfl rfl rfl rfl rfl rfl k_1507 cal_X8_lent (fit_rm (by decide) (by decide)) rfl (Nat.le_of_ble_eq_true rfl) dX8_plainSize_10 ?_
  refine G.istore_n (lv' := [(2, .int (q10.1)), (0, .ref (a 0)), (1, .int x1)]) C dX8_plainSize_13 (by decide) rfl ?_
  refine G.iload_n C dX8_plainSize_14 0 rfl ?_
  refine G.aload_n C dX8_plainSize_15 1 rfl ?_
  refine G.iload_n C dX8_plainSize_16 2 rfl ?_
  obtain ⟨q17, hq17, h⟩ := bind_some' h
  refine G.cvI (i0 := 0) (j0 := 0) (cs' := [wModel t a (q17.2)]) C (c_X8_markOf (a := a) hq17) [0] rfl rfl rfl rfl rfl rfl rfl k_1511 cal_X8_markOf (fit_rm (by decide) (by decide)) rfl (Nat.le_of_ble_eq_true rfl) dX8_plainSize_17 ?_
  refine G.iadd C dX8_plainSize_20 ?_
  exact hR _ (Option.some.inj h) _ _ dX8_plainSize_21
set_option maxHeartbeats 2000000 in
set_option maxRecDepth 20000 in
theorem c_X8_sizeOf {t : Nat → ClassId} {a : Nat → Nat} {N : Nat} {v : SV} {x1 : Int32} {r : Int32 × SV} (h : F_X8_sizeOf N v x1 = some r) : CI t yX8_sizeOf cX8_sizeOf 3 (some .int) (rm 7) [.ref (a 0), .int x1] [wModel t a v] (r.1) [wModel t a (r.2)] := by
  refine CI.of (own := RX8) (by decide) rfl (Nat.le_of_ble_eq_true rfl) (fun X C hR0 => ?_)
  have hR : ∀ q : Int32 × SV, q = r → RetI X cX8_sizeOf (q.1) [wModel t a (q.2)] := by intro q e; subst e; exact hR0
  show G X [wModel t a v] 0 [(0, .ref (a 0)), (1, .int x1)] []
  unfold F_X8_sizeOf at h
  refine G.aload_n C dX8_sizeOf_0 0 rfl ?_
  refine gfX8_19 (i := 0) (j := 0) (v := .ref (a 4)) C rfl rfl rfl dX8_sizeOf_1 ?_
  refine G.bipush C dX8_sizeOf_4 nb_7 ?_
  refine G.iload_n C dX8_sizeOf_6 1 rfl ?_
  refine G.iadd C dX8_sizeOf_7 ?_
  refine G.iald (i := 0) (j := 4) (f := (v 4)) C rfl rfl h dX8_sizeOf_8 (fun h => ?_)
  refine G.istore_n (lv' := [(2, .int ((v 4) (((7 : Int32) + x1).toNatClampNeg))), (0, .ref (a 0)), (1, .int x1)]) C dX8_sizeOf_9 (by decide) rfl ?_
  refine G.iload_n C dX8_sizeOf_10 0 rfl ?_
  refine G.iconst C dX8_sizeOf_11 ni_2 ?_
  refine G.icmp_ne (tgt := 28) C dX8_sizeOf_12 (by decide) h (fun h => ?_) (fun h => ?_)
  · refine G.iload_n C dX8_sizeOf_28 0 rfl ?_
    refine G.iconst C dX8_sizeOf_29 ni_4 ?_
    refine G.icmp_lt (tgt := 41) C dX8_sizeOf_30 (by decide) h (fun h => ?_) (fun h => ?_)
    · refine G.aload_n C dX8_sizeOf_41 1 rfl ?_
      refine G.iload_n C dX8_sizeOf_42 2 rfl ?_
      obtain ⟨q43, hq43, h⟩ := bind_some' h
      refine G.cvI (i0 := 0) (j0 := 0) (cs' := [wModel t a (q43.2)]) C (c_X8_plainSize (a := a) hq43) [0] rfl rfl rfl rfl rfl rfl rfl k_1503 cal_X8_plainSize (fit_rm (by decide) (by decide)) rfl (Nat.le_of_ble_eq_true rfl) dX8_sizeOf_43 ?_
      exact hR _ (Option.some.inj h) _ _ dX8_sizeOf_46
    · refine G.aload_n C dX8_sizeOf_33 1 rfl ?_
      refine G.iload_n C dX8_sizeOf_34 2 rfl ?_
      obtain ⟨q35, hq35, h⟩ := bind_some' h
      refine G.cvI (i0 := 0) (j0 := 0) (cs' := [wModel t a (q35.2)]) C (c_X8_sizeOfLive (a := a) hq35) [0] rfl rfl rfl rfl rfl rfl rfl k_1519 cal_X8_sizeOfLive (fit_rm (by decide) (by decide)) rfl (Nat.le_of_ble_eq_true rfl) dX8_sizeOf_35 ?_
      refine G.goto (tgt := 46) C dX8_sizeOf_38 (by decide) ?_
      exact hR _ (Option.some.inj h) _ _ dX8_sizeOf_46
  · refine G.aload_n C dX8_sizeOf_15 1 rfl ?_
    refine G.bipush C dX8_sizeOf_16 nb_12 ?_
    obtain ⟨q18, hq18, h⟩ := bind_some' h
    refine G.cvV (i0 := 0) (j0 := 0) (cs' := [wModel t a q18]) C (c_X8_begin (a := a) hq18) [0] rfl rfl rfl rfl rfl rfl rfl k_1499 cal_X8_begin (fit_rm (by decide) (by decide)) rfl (Nat.le_of_ble_eq_true rfl) dX8_sizeOf_18 ?_
    refine G.aload_n C dX8_sizeOf_21 1 rfl ?_
    refine G.iload_n C dX8_sizeOf_22 2 rfl ?_
    obtain ⟨q23, hq23, h⟩ := bind_some' h
    refine G.cvI (i0 := 0) (j0 := 0) (cs' := [wModel t a (q23.2)]) C (c_X8_plainSize (a := a) hq23) [0] rfl rfl rfl rfl rfl rfl rfl k_1503 cal_X8_plainSize (fit_rm (by decide) (by decide)) rfl (Nat.le_of_ble_eq_true rfl) dX8_sizeOf_23 ?_
    refine G.ineg C dX8_sizeOf_26 ?_
    exact hR _ (Option.some.inj h) _ _ dX8_sizeOf_27
set_option maxHeartbeats 2000000 in
set_option maxRecDepth 20000 in
theorem c_X8_ask {t : Nat → ClassId} {a : Nat → Nat} {N : Nat} {v : SV} {x1 : Int32} {x2 : Int32} {r : Int32 × SV} (h : F_X8_ask N v x1 x2 = some r) : CI t yX8_ask cX8_ask 3 (some .int) (rm 8) [.ref (a 0), .int x1, .int x2] [wModel t a v] (r.1) [wModel t a (r.2)] := by
  refine CI.of (own := RX8) (by decide) rfl (Nat.le_of_ble_eq_true rfl) (fun X C hR0 => ?_)
  have hR : ∀ q : Int32 × SV, q = r → RetI X cX8_ask (q.1) [wModel t a (q.2)] := by intro q e; subst e; exact hR0
  show G X [wModel t a v] 0 [(0, .ref (a 0)), (1, .int x1), (2, .int x2)] []
  unfold F_X8_ask at h
  refine G.aload_n C dX8_ask_0 0 rfl ?_
  refine G.iload_n C dX8_ask_1 1 rfl ?_
  obtain ⟨q2, hq2, h⟩ := bind_some' h
  refine G.cvI (i0 := 0) (j0 := 0) (cs' := [wModel t a v]) C (c_X8_isThing (a := a) hq2) [0] rfl rfl rfl rfl rfl rfl rfl k_1307 cal_X8_isThing (fit_rm (by decide) (by decide)) rfl (Nat.le_of_ble_eq_true rfl) dX8_ask_2 ?_
  refine G.if_eq (tgt := 18) C dX8_ask_5 (by decide) h (fun h => ?_) (fun h => ?_)
  · refine G.ldc C k_1158 dX8_ask_18 ?_
    exact hR _ (Option.some.inj h) _ _ dX8_ask_20
  · refine G.iload_n C dX8_ask_8 2 rfl ?_
    refine G.i2l C dX8_ask_9 ?_
    refine G.lconst C dX8_ask_10 nl_0 ?_
    refine G.lconst C dX8_ask_11 nl_1 ?_
    obtain ⟨q12, hq12, h⟩ := bind_some' h
    refine G.csI (cs' := [wModel t a v]) C (c_X8_in hq12) [] rfl rfl rfl rfl k_1154 cal_X8_in (fit_rm (by decide) (by decide)) rfl (Nat.le_of_ble_eq_true rfl) dX8_ask_12 ?_
    refine G.if_ne (tgt := 21) C dX8_ask_15 (by decide) h (fun h => ?_) (fun h => ?_)
    · refine G.aload_n C dX8_ask_21 0 rfl ?_
      refine G.iconst C dX8_ask_22 ni_0 ?_
      refine pfX8_283 (i := 0) (j := 0) (cs' := [wModel t a (up2 v 0 24 (0 : Int32))]) C rfl rfl (Nat.le_of_ble_eq_true rfl) dX8_ask_23 (suModel_24) rfl ?_
      refine G.iload_n C dX8_ask_26 2 rfl ?_
      refine G.if_ne (tgt := 38) C dX8_ask_27 (by decide) h (fun h => ?_) (fun h => ?_)
      · refine G.aload_n C dX8_ask_38 0 rfl ?_
        refine G.iload_n C dX8_ask_39 1 rfl ?_
        obtain ⟨q40, hq40, h⟩ := bind_some' h
        refine G.cvI (i0 := 0) (j0 := 0) (cs' := [wModel t a (q40.2)]) C (c_X8_markOf (a := a) hq40) [0] rfl rfl rfl rfl rfl rfl rfl k_1511 cal_X8_markOf (fit_rm (by decide) (by decide)) rfl (Nat.le_of_ble_eq_true rfl) dX8_ask_40 ?_
        exact hR _ (Option.some.inj h) _ _ dX8_ask_43
      · refine G.aload_n C dX8_ask_30 0 rfl ?_
        refine G.iload_n C dX8_ask_31 1 rfl ?_
        obtain ⟨q32, hq32, h⟩ := bind_some' h
        refine G.cvI (i0 := 0) (j0 := 0) (cs' := [wModel t a (q32.2)]) C (c_X8_sizeOf (a := a) hq32) [0] rfl rfl rfl rfl rfl rfl rfl k_1495 cal_X8_sizeOf (fit_rm (by decide) (by decide)) rfl (Nat.le_of_ble_eq_true rfl) dX8_ask_32 ?_
        refine G.goto (tgt := 43) C dX8_ask_35 (by decide) ?_
        exact hR _ (Option.some.inj h) _ _ dX8_ask_43
    · refine G.ldc C k_1158 dX8_ask_18 ?_
      exact hR _ (Option.some.inj h) _ _ dX8_ask_20
set_option maxHeartbeats 2000000 in
set_option maxRecDepth 20000 in
theorem c_X8_trace {t : Nat → ClassId} {a : Nat → Nat} {N : Nat} {v : SV} {x1 : Int32} {r : Int32} (h : F_X8_trace N v x1 = some r) : CI t yX8_trace cX8_trace 2 (some .int) (rm 2) [.ref (a 0), .int x1] [wModel t a v] r [wModel t a v] := by
  refine CI.of (own := RX8) (by decide) rfl (Nat.le_of_ble_eq_true rfl) (fun X C hR0 => ?_)
  have hR : ∀ q : Int32, q = r → RetI X cX8_trace q [wModel t a v] := by intro q e; subst e; exact hR0
  show G X [wModel t a v] 0 [(0, .ref (a 0)), (1, .int x1)] []
  unfold F_X8_trace at h
  refine G.iload_n C dX8_trace_0 1 rfl ?_
  refine G.i2l C dX8_trace_1 ?_
  refine G.lconst C dX8_trace_2 nl_0 ?_
  refine G.aload_n C dX8_trace_3 0 rfl ?_
  refine gfX8_283 (i := 0) (j := 0) (v := .int (v 0 24)) C rfl rfl rfl dX8_trace_4 ?_
  refine G.iconst C dX8_trace_7 ni_1 ?_
  refine G.isub C dX8_trace_8 ?_
  refine G.i2l C dX8_trace_9 ?_
  obtain ⟨q10, hq10, h⟩ := bind_some' h
  refine G.csI (cs' := [wModel t a v]) C (c_X8_in hq10) [] rfl rfl rfl rfl k_1154 cal_X8_in (fit_rm (by decide) (by decide)) rfl (Nat.le_of_ble_eq_true rfl) dX8_trace_10 ?_
  refine G.if_eq (tgt := 25) C dX8_trace_13 (by decide) h (fun h => ?_) (fun h => ?_)
  · refine G.ldc C k_1256 dX8_trace_25 ?_
    exact hR _ (Option.some.inj h) _ _ dX8_trace_27
  · refine G.aload_n C dX8_trace_16 0 rfl ?_
    refine gfX8_50 (i := 0) (j := 0) (v := .ref (a 14)) C rfl rfl rfl dX8_trace_17 ?_
    refine G.iload_n C dX8_trace_20 1 rfl ?_
    refine G.iald (i := 0) (j := 14) (f := (v 14)) C rfl rfl h dX8_trace_21 (fun h => ?_)
    refine G.goto (tgt := 27) C dX8_trace_22 (by decide) ?_
    exact hR _ (Option.some.inj h) _ _ dX8_trace_27
set_option maxHeartbeats 2000000 in
set_option maxRecDepth 20000 in
theorem w_X8_count_L4 {X : Cx} {t : Nat → ClassId} {a : Nat → Nat} {N : Nat} {v : SV} {x1 : Int32} {K33 : Int32 → Option (Int32)} {r : Int32} (C : gX X t (rm 1) cX8_count 4 RX8) (hR : ∀ q : Int32, q = r → RetI X cX8_count q [wModel t a v]) (hK33 : ∀ (x2_33 : Int32), K33 x2_33 = some r → G X [wModel t a v] 33 [(0, .ref (a 0)), (1, .int x1), (2, .int x2_33)] []) : ∀ (n : Nat) (x2 : Int32) (x3 : Int32), F_X8_count_L4 N v x1 K33 n x2 x3 = some r → G X [wModel t a v] 4 [(0, .ref (a 0)), (1, .int x1), (2, .int x2), (3, .int x3)] [] := by
  intro n
  induction n with
  | zero => intro x2 x3 h; exact absurd h (by simp [F_X8_count_L4])
  | succ n ih =>
    intro x2 x3 h
    rw [F_X8_count_L4] at h
    refine G.iload_n C dX8_count_4 3 rfl ?_
    refine G.bipush C dX8_count_5 nb_8 ?_
    refine G.icmp_ge (tgt := 33) C dX8_count_7 (by decide) h (fun h => ?_) (fun h => ?_)
    · exact G.lvs [0, 1, 2] rfl (hK33 _ h)
    · refine G.iload_n C dX8_count_10 2 rfl ?_
      refine G.aload_n C dX8_count_11 0 rfl ?_
      refine gfX8_13 (i := 0) (j := 0) (v := .ref (a 2)) C rfl rfl rfl dX8_count_12 ?_
      refine G.iload_n C dX8_count_15 3 rfl ?_
      refine G.iald (i := 0) (j := 2) (f := (v 2)) C rfl rfl h dX8_count_16 (fun h => ?_)
      refine jn_use (fun J => ∀ (s25_0 : Int32), J s25_0 = some r → G X [wModel t a v] 25 [(0, .ref (a 0)), (1, .int x1), (3, .int x3)] [.int s25_0, .int x2]) h ?_ (fun J25 hJ25 h => ?_)
      · intro s25_0 h
        refine G.iadd C dX8_count_25 ?_
        refine G.istore_n (lv' := [(2, .int (x2 + s25_0)), (0, .ref (a 0)), (1, .int x1), (3, .int x3)]) C dX8_count_26 (by decide) rfl ?_
        refine G.iinc (v := (x3 + (1 : Int32))) (lv' := [(3, .int (x3 + (1 : Int32))), (2, .int (x2 + s25_0)), (0, .ref (a 0)), (1, .int x1)]) C dX8_count_27 3 rfl (by rw [ni_1]) (by decide) rfl ?_
        refine G.goto (tgt := 4) C dX8_count_30 (by decide) ?_
        exact G.lvs [2, 3, 1, 0] rfl (ih _ _ h)
      refine G.if_lt (tgt := 24) C dX8_count_17 (by decide) h (fun h => ?_) (fun h => ?_)
      · refine G.iconst C dX8_count_24 ni_0 ?_
        exact G.lvs [0, 1, 3] rfl (hJ25 _ h)
      · refine G.iconst C dX8_count_20 ni_1 ?_
        refine G.goto (tgt := 25) C dX8_count_21 (by decide) ?_
        exact G.lvs [0, 1, 3] rfl (hJ25 _ h)
set_option maxHeartbeats 2000000 in
set_option maxRecDepth 20000 in
theorem c_X8_count {t : Nat → ClassId} {a : Nat → Nat} {N : Nat} {v : SV} {x1 : Int32} {r : Int32} (h : F_X8_count N v x1 = some r) : CI t yX8_count cX8_count 4 (some .int) (rm 1) [.ref (a 0), .int x1] [wModel t a v] r [wModel t a v] := by
  refine CI.of (own := RX8) (by decide) rfl (Nat.le_of_ble_eq_true rfl) (fun X C hR0 => ?_)
  have hR : ∀ q : Int32, q = r → RetI X cX8_count q [wModel t a v] := by intro q e; subst e; exact hR0
  show G X [wModel t a v] 0 [(0, .ref (a 0)), (1, .int x1)] []
  unfold F_X8_count at h
  refine G.iconst C dX8_count_0 ni_0 ?_
  refine G.istore_n (lv' := [(2, .int (0 : Int32)), (0, .ref (a 0)), (1, .int x1)]) C dX8_count_1 (by decide) rfl ?_
  refine G.iconst C dX8_count_2 ni_0 ?_
  refine G.istore_n (lv' := [(3, .int (0 : Int32)), (2, .int (0 : Int32)), (0, .ref (a 0)), (1, .int x1)]) C dX8_count_3 (by decide) rfl ?_
  refine G.lvs [2, 3, 1, 0] rfl (w_X8_count_L4 C hR (fun x2_33 h => ?_) N _ _ h)
  · refine G.iload_n C dX8_count_33 1 rfl ?_
    by_cases e_0 : x1 = 0
    · rw [if_pos e_0] at h
      have n_0 : x1.toInt = 0 := by rw [e_0]; decide
      refine G.tableIn (tgt := 80) C dX8_count_34 (by rw [n_0]; decide) (by rw [n_0]; decide) (by rw [n_0]; rfl) (by decide) ?_
      refine G.iload_n C dX8_count_80 2 rfl ?_
      exact hR _ (Option.some.inj h) _ _ dX8_count_81
    rw [if_neg e_0] at h
    by_cases e_1 : x1 = 1
    · rw [if_pos e_1] at h
      have n_1 : x1.toInt = 1 := by rw [e_1]; decide
      refine G.tableIn (tgt := 82) C dX8_count_34 (by rw [n_1]; decide) (by rw [n_1]; decide) (by rw [n_1]; rfl) (by decide) ?_
      refine G.aload_n C dX8_count_82 0 rfl ?_
      refine gfX8_19 (i := 0) (j := 0) (v := .ref (a 4)) C rfl rfl rfl dX8_count_83 ?_
      refine G.iconst C dX8_count_86 ni_2 ?_
      refine G.iald (i := 0) (j := 4) (f := (v 4)) C rfl rfl h dX8_count_87 (fun h => ?_)
      exact hR _ (Option.some.inj h) _ _ dX8_count_88
    rw [if_neg e_1] at h
    by_cases e_2 : x1 = 2
    · rw [if_pos e_2] at h
      have n_2 : x1.toInt = 2 := by rw [e_2]; decide
      refine G.tableIn (tgt := 89) C dX8_count_34 (by rw [n_2]; decide) (by rw [n_2]; decide) (by rw [n_2]; rfl) (by decide) ?_
      refine G.aload_n C dX8_count_89 0 rfl ?_
      refine gfX8_19 (i := 0) (j := 0) (v := .ref (a 4)) C rfl rfl rfl dX8_count_90 ?_
      refine G.iconst C dX8_count_93 ni_3 ?_
      refine G.iald (i := 0) (j := 4) (f := (v 4)) C rfl rfl h dX8_count_94 (fun h => ?_)
      exact hR _ (Option.some.inj h) _ _ dX8_count_95
    rw [if_neg e_2] at h
    by_cases e_3 : x1 = 3
    · rw [if_pos e_3] at h
      have n_3 : x1.toInt = 3 := by rw [e_3]; decide
      refine G.tableIn (tgt := 96) C dX8_count_34 (by rw [n_3]; decide) (by rw [n_3]; decide) (by rw [n_3]; rfl) (by decide) ?_
      refine G.aload_n C dX8_count_96 0 rfl ?_
      refine gfX8_19 (i := 0) (j := 0) (v := .ref (a 4)) C rfl rfl rfl dX8_count_97 ?_
      refine G.iconst C dX8_count_100 ni_4 ?_
      refine G.iald (i := 0) (j := 4) (f := (v 4)) C rfl rfl h dX8_count_101 (fun h => ?_)
      exact hR _ (Option.some.inj h) _ _ dX8_count_102
    rw [if_neg e_3] at h
    by_cases e_4 : x1 = 4
    · rw [if_pos e_4] at h
      have n_4 : x1.toInt = 4 := by rw [e_4]; decide
      refine G.tableIn (tgt := 103) C dX8_count_34 (by rw [n_4]; decide) (by rw [n_4]; decide) (by rw [n_4]; rfl) (by decide) ?_
      refine G.aload_n C dX8_count_103 0 rfl ?_
      refine gfX8_19 (i := 0) (j := 0) (v := .ref (a 4)) C rfl rfl rfl dX8_count_104 ?_
      refine G.bipush C dX8_count_107 nb_6 ?_
      refine G.iald (i := 0) (j := 4) (f := (v 4)) C rfl rfl h dX8_count_109 (fun h => ?_)
      exact hR _ (Option.some.inj h) _ _ dX8_count_110
    rw [if_neg e_4] at h
    by_cases e_5 : x1 = 5
    · rw [if_pos e_5] at h
      have n_5 : x1.toInt = 5 := by rw [e_5]; decide
      refine G.tableIn (tgt := 111) C dX8_count_34 (by rw [n_5]; decide) (by rw [n_5]; decide) (by rw [n_5]; rfl) (by decide) ?_
      refine G.aload_n C dX8_count_111 0 rfl ?_
      refine gfX8_19 (i := 0) (j := 0) (v := .ref (a 4)) C rfl rfl rfl dX8_count_112 ?_
      refine G.iconst C dX8_count_115 ni_5 ?_
      refine G.iald (i := 0) (j := 4) (f := (v 4)) C rfl rfl h dX8_count_116 (fun h => ?_)
      exact hR _ (Option.some.inj h) _ _ dX8_count_117
    rw [if_neg e_5] at h
    by_cases e_6 : x1 = 6
    · rw [if_pos e_6] at h
      have n_6 : x1.toInt = 6 := by rw [e_6]; decide
      refine G.tableIn (tgt := 118) C dX8_count_34 (by rw [n_6]; decide) (by rw [n_6]; decide) (by rw [n_6]; rfl) (by decide) ?_
      refine G.aload_n C dX8_count_118 0 rfl ?_
      refine gfX8_145 (i := 0) (j := 0) (v := .int (v 0 17)) C rfl rfl rfl dX8_count_119 ?_
      exact hR _ (Option.some.inj h) _ _ dX8_count_122
    rw [if_neg e_6] at h
    by_cases e_7 : x1 = 7
    · rw [if_pos e_7] at h
      have n_7 : x1.toInt = 7 := by rw [e_7]; decide
      refine G.tableIn (tgt := 123) C dX8_count_34 (by rw [n_7]; decide) (by rw [n_7]; decide) (by rw [n_7]; rfl) (by decide) ?_
      refine G.aload_n C dX8_count_123 0 rfl ?_
      refine gfX8_84 (i := 0) (j := 0) (v := .int (v 0 8)) C rfl rfl rfl dX8_count_124 ?_
      exact hR _ (Option.some.inj h) _ _ dX8_count_127
    rw [if_neg e_7] at h
    have n_0 : x1.toInt ≠ 0 := fun h9 => e_0 (Int32.toInt_inj.mp (by rw [h9]; decide))
    have n_1 : x1.toInt ≠ 1 := fun h9 => e_1 (Int32.toInt_inj.mp (by rw [h9]; decide))
    have n_2 : x1.toInt ≠ 2 := fun h9 => e_2 (Int32.toInt_inj.mp (by rw [h9]; decide))
    have n_3 : x1.toInt ≠ 3 := fun h9 => e_3 (Int32.toInt_inj.mp (by rw [h9]; decide))
    have n_4 : x1.toInt ≠ 4 := fun h9 => e_4 (Int32.toInt_inj.mp (by rw [h9]; decide))
    have n_5 : x1.toInt ≠ 5 := fun h9 => e_5 (Int32.toInt_inj.mp (by rw [h9]; decide))
    have n_6 : x1.toInt ≠ 6 := fun h9 => e_6 (Int32.toInt_inj.mp (by rw [h9]; decide))
    have n_7 : x1.toInt ≠ 7 := fun h9 => e_7 (Int32.toInt_inj.mp (by rw [h9]; decide))
    refine G.tableOut (tgt := 128) C dX8_count_34 (by omega) (by decide) ?_
    refine G.ldc C k_1158 dX8_count_128 ?_
    exact hR _ (Option.some.inj h) _ _ dX8_count_130
set_option maxHeartbeats 2000000 in
set_option maxRecDepth 20000 in
theorem c_X8_status {t : Nat → ClassId} {a : Nat → Nat} {N : Nat} {v : SV} {r : Int32} (h : F_X8_status N v = some r) : CI t yX8_status cX8_status 1 (some .int) (rm 1) [.ref (a 0)] [wModel t a v] r [wModel t a v] := by
  refine CI.of (own := RX8) (by decide) rfl (Nat.le_of_ble_eq_true rfl) (fun X C hR0 => ?_)
  have hR : ∀ q : Int32, q = r → RetI X cX8_status q [wModel t a v] := by intro q e; subst e; exact hR0
  show G X [wModel t a v] 0 [(0, .ref (a 0))] []
  unfold F_X8_status at h
  refine G.aload_n C dX8_status_0 0 rfl ?_
  refine gfX8_53 (i := 0) (j := 0) (v := .int (v 0 3)) C rfl rfl rfl dX8_status_1 ?_
  exact hR _ (Option.some.inj h) _ _ dX8_status_4
