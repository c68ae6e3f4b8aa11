def F_X7_found (N : Nat) (vR : SV) (x1 : Int32) : Option (Int32 × SV) := some (((-1000010 : Int32) - x1), (up2 vR 0 10 x1))
def F_X7_foundNothing (N : Nat) (vR : SV) (x1 : Int32) : Option (Int32 × SV) := some (x1, (up2 vR 0 10 (0 : Int32)))
def F_X7_row (N : Nat) (vR : SV) (vW : SV) (gW : SV) (x1 : Int32) (x2 : Int32) (x3 : Int32) : Option (Int32 × SV × SV × SV) := (F_X3_isRow N x1).bind (fun q1 => if q1 = (0 : Int32) then (some ((-1000001 : Int32), vR, vW, gW)) else ((F_X3_isLane N x2).bind (fun q8 => if q8 = (0 : Int32) then (some ((-1000001 : Int32), vR, vW, gW)) else (if (40 : Int32) < x3 then (some ((-1000001 : Int32), vR, vW, gW)) else (if x3 < (0 : Int32) then ((F_X7_found N vR (4 : Int32)).bind (fun q29 => some ((q29.1), (q29.2), vW, gW))) else ((F_X3_make N vW gW x1 x2 x3).bind (fun q40 => (F_X7_foundNothing N vR x3).bind (fun q45 => some ((q45.1), (q45.2), (q40.1), (q40.2))))))))))
def F_X7_set (N : Nat) (vR : SV) (vW : SV) (gW : SV) (x1 : Int32) (x2 : Int32) (x3 : Int32) : Option (Int32 × SV × SV) := (F_X3_isRow N x1).bind (fun q1 => if q1 = (0 : Int32) then (some ((-1000001 : Int32), vR, gW)) else ((F_X3_findingOfSpan N vW x1 x2 (1 : Int32)).bind (fun q17 => if q17 = (0 : Int32) then ((F_X3_put N vW gW x1 x2 x3).bind (fun q42 => (F_X7_foundNothing N vR (q42.1)).bind (fun q45 => some ((q45.1), (q45.2), (q42.2))))) else ((F_X7_found N vR q17).bind (fun q30 => some ((q30.1), (q30.2), gW))))))
def F_X7_copy (N : Nat) (vR : SV) (vW : SV) (gW : SV) (x1 : Int32) (x2 : Int32) (x3 : Int32) (x4 : Int32) (x5 : Int32) : Option (Int32 × SV × SV) := (F_X3_isRow N x1).bind (fun q1 => if q1 = (0 : Int32) then (some ((-1000001 : Int32), vR, gW)) else ((F_X3_isRow N x3).bind (fun q8 => if q8 = (0 : Int32) then (some ((-1000001 : Int32), vR, gW)) else ((F_X3_findingOfMove N vW x1 x2 x3 x4 x5).bind (fun q28 => if q28 = (0 : Int32) then ((F_X3_move N vW gW x1 x2 x3 x4 x5).bind (fun q56 => (F_X7_foundNothing N vR x5).bind (fun q62 => some ((q62.1), (q62.2), q56)))) else ((F_X7_found N vR q28).bind (fun q41 => some ((q41.1), (q41.2), gW))))))))
def F_X7_drop (N : Nat) (vR : SV) (vW : SV) (x1 : Int32) : Option (Int32 × SV × SV) := (F_X3_isRow N x1).bind (fun q1 => if q1 = (0 : Int32) then (some ((-1000001 : Int32), vR, vW)) else ((F_X3_isMissing N vW x1).bind (fun q15 => if q15 = (0 : Int32) then ((F_X3_lose N vW x1).bind (fun q33 => (F_X7_foundNothing N vR (q33.1)).bind (fun q36 => some ((q36.1), (q36.2), (q33.2))))) else ((F_X7_found N vR (1 : Int32)).bind (fun q23 => some ((q23.1), (q23.2), vW))))))
def F_X7_feed (N : Nat) (vR : SV) (vT : SV) (x1 : Int32) : Option (Int32 × SV) := if x1 < (0 : Int32) then (some ((-1000001 : Int32), vT)) else (if (255 : Int32) < x1 then (some ((-1000001 : Int32), vT)) else ((F_X6_isFull N vT).bind (fun q18 => if q18 = (0 : Int32) then ((F_X6_append N vT x1).bind (fun q32 => some ((q32.1), (q32.2)))) else (some ((-1000003 : Int32), vT)))))
def F_X7_show (N : Nat) (vR : SV) (vT : SV) (vS : SV) (vD : SV) (vA : SV) : Option (Int32 × SV × SV × SV × SV) := (F_X6_readInto N vT vD).bind (fun q8 => (F_X6_empty N (q8.2.1)).bind (fun q16 => if (q8.1) = (0 : Int32) then ((F_X6_faultPlace N q16).bind (fun q29 => some (((-1000100 : Int32) - q29), q16, vS, (q8.2.2), vA))) else ((F_X5_takeOver N vS (q8.2.2)).bind (fun q42 => (F_X0_forgetAll N vA).bind (fun q49 => some ((q42 0 2), q16, q42, (q8.2.2), q49))))))
def F_X7_fault (N : Nat) (vR : SV) (vT : SV) : Option (Int32) := (F_X6_latestFault N vT).bind (fun q4 => some q4)
def F_X7_undo (N : Nat) (vR : SV) (vS : SV) (vA : SV) (gA : (Nat → SV)) : Option (Int32 × SV × SV) := (F_X0_kept N vA).bind (fun q4 => if q4 = (0 : Int32) then (some ((-1000002 : Int32), vS, vA)) else ((F_X0_takeBack N vS vA gA).bind (fun q21 => (F_X0_kept N (q21.2)).bind (fun q28 => some (q28, (q21.1), (q21.2))))))
def F_X7_noShow (N : Nat) (vR : SV) (vS : SV) : Option (Int32) := if (vS 0 2) = (0 : Int32) then (some (1 : Int32)) else (some (0 : Int32))
def F_X7_taps_L44 (N : Nat) (vR : SV) (x1 : Int32) (K73 : SV → SV → (Nat → SV) → Option (Int32 × SV × SV × (Nat → SV))) : Nat → Int32 → SV → SV → (Nat → SV) → Option (Int32 × SV × SV × (Nat → SV))
  | 0, _, _, _, _ => none
  | n + 1, x2, vS, vA, gA => if x2 < x1 then ((F_X0_keep N vS vA gA).bind (fun q57 => (F_X5_tapOnce N vS).bind (fun q64 => F_X7_taps_L44 N vR x1 K73 n (x2 + (1 : Int32)) q64 (q57.1) (q57.2)))) else (K73 vS vA gA)
def F_X7_taps (N : Nat) (vR : SV) (vS : SV) (vA : SV) (gA : (Nat → SV)) (x1 : Int32) : Option (Int32 × SV × SV × (Nat → SV)) := (F_X7_noShow N vR vS).bind (fun q1 => if q1 = (0 : Int32) then (if x1 < (1 : Int32) then (some ((-1000001 : Int32), vS, vA, gA)) else (if (24 : Int32) < x1 then (some ((-1000001 : Int32), vS, vA, gA)) else (if (999 : Int32) < ((vS 0 5) + x1) then (some ((-1000003 : Int32), vS, vA, gA)) else (F_X7_taps_L44 N vR x1 (fun (vS_73 : SV) (vA_73 : SV) (gA_73 : (Nat → SV)) => some ((vS_73 0 6), vS_73, vA_73, gA_73)) N (0 : Int32) vS vA gA)))) else (some ((-1000002 : Int32), vS, vA, gA)))
def F_X7_front (N : Nat) (vR : SV) (vS : SV) (vA : SV) (gA : (Nat → SV)) (x1 : Int32) : Option (Int32 × SV × SV × (Nat → SV)) := (F_X5_isThing N vS x1).bind (fun q5 => if q5 = (0 : Int32) then (some ((-1000001 : Int32), vS, vA, gA)) else ((F_X5_placeOf N vS x1).bind (fun q19 => if q19 < (0 : Int32) then (some ((-1000002 : Int32), vS, vA, gA)) else ((F_X0_keep N vS vA gA).bind (fun q38 => (F_X5_putFirst N vS x1).bind (fun q46 => some (q19, q46, (q38.1), (q38.2))))))))
def F_X7_off (N : Nat) (vR : SV) (vS : SV) (vA : SV) (gA : (Nat → SV)) (x1 : Int32) : Option (Int32 × SV × SV × (Nat → SV)) := (F_X5_isThing N vS x1).bind (fun q5 => if q5 = (0 : Int32) then (some ((-1000001 : Int32), vS, vA, gA)) else ((F_X5_placeOf N vS x1).bind (fun q19 => if q19 < (0 : Int32) then (some ((-1000002 : Int32), vS, vA, gA)) else ((F_X0_keep N vS vA gA).bind (fun q38 => (F_X5_takeOff N vS x1).bind (fun q46 => some (q19, q46, (q38.1), (q38.2))))))))
def F_X7_back (N : Nat) (vR : SV) (vS : SV) (vA : SV) (gA : (Nat → SV)) (x1 : Int32) : Option (Int32 × SV × SV × (Nat → SV)) := (F_X5_isThing N vS x1).bind (fun q5 => if q5 = (0 : Int32) then (some ((-1000001 : Int32), vS, vA, gA)) else ((F_X5_placeOf N vS x1).bind (fun q19 => if q19 < (0 : Int32) then ((F_X0_keep N vS vA gA).bind (fun q36 => (F_X5_putLast N vS x1).bind (fun q44 => some ((q44 0 4), q44, (q36.1), (q36.2))))) else (some ((-1000002 : Int32), vS, vA, gA)))))
def F_X7_sit (N : Nat) (vR : SV) (vS : SV) (vA : SV) (gA : (Nat → SV)) (x1 : Int32) (x2 : Int32) (x3 : Int32) : Option (Int32 × SV × SV × (Nat → SV)) := (F_X5_isSeat N vS x1).bind (fun q5 => if q5 = (0 : Int32) then (some ((-1000001 : Int32), vS, vA, gA)) else (if x2 < (0 : Int32) then (some ((-1000001 : Int32), vS, vA, gA)) else (if (9 : Int32) < x2 then (some ((-1000001 : Int32), vS, vA, gA)) else (if x3 < (1 : Int32) then (some ((-1000001 : Int32), vS, vA, gA)) else (if (20 : Int32) < x3 then (some ((-1000001 : Int32), vS, vA, gA)) else (chk 6 x1 (if ((vS 7) (x1.toNatClampNeg)) = (0 : Int32) then (some ((-1000002 : Int32), vS, vA, gA)) else ((F_X0_keep N vS vA gA).bind (fun q61 => (F_X5_takeAnew N vS x1 x2 x3).bind (fun q71 => (F_X5_seatsThat N q71 (0 : Int32)).bind (fun q79 => some (q79, q71, (q61.1), (q61.2)))))))))))))
def F_X7_orNone (N : Nat) (x0 : Int32) : Option (Int32) := if x0 < (0 : Int32) then (some (-1000000 : Int32)) else (some x0)
def F_X7_thing (N : Nat) (vR : SV) (vS : SV) (x1 : Int32) (x2 : Int32) : Option (Int32) := (F_X5_isThing N vS x1).bind (fun q5 => if q5 = (0 : Int32) then (some (-1000001 : Int32)) else (if x2 = 0 then (chk 6 x1 (some ((vS 2) (x1.toNatClampNeg)))) else (if x2 = 1 then (chk 6 x1 (some ((vS 3) (x1.toNatClampNeg)))) else (if x2 = 2 then (chk 6 x1 (some ((vS 4) (x1.toNatClampNeg)))) else (if x2 = 3 then ((F_X5_placeOf N vS x1).bind (fun q83 => (F_X7_orNone N q83).bind (fun q86 => some q86))) else (if x2 = 4 then (chk 6 x1 ((F_X5_wanting N vS ((vS 2) (x1.toNatClampNeg))).bind (fun q103 => some q103))) else (some (-1000001 : Int32))))))))
def F_X7_seat (N : Nat) (vR : SV) (vS : SV) (x1 : Int32) (x2 : Int32) : Option (Int32) := (F_X5_isSeat N vS x1).bind (fun q5 => if q5 = (0 : Int32) then (some (-1000001 : Int32)) else (if x2 = 0 then (chk 6 x1 (some ((vS 5) (x1.toNatClampNeg)))) else (if x2 = 1 then (chk 6 x1 (some ((vS 6) (x1.toNatClampNeg)))) else (if x2 = 2 then (chk 6 x1 (some ((vS 7) (x1.toNatClampNeg)))) else (some (-1000001 : Int32))))))
def F_X7_list (N : Nat) (vR : SV) (vS : SV) (x1 : Int32) : Option (Int32) := (F_X7_noShow N vR vS).bind (fun q1 => if q1 = (0 : Int32) then (if x1 < (0 : Int32) then (some (-1000001 : Int32)) else (if x1 < (vS 0 4) then (chk 6 x1 (some ((vS 8) (x1.toNatClampNeg)))) else (some (-1000000 : Int32)))) else (some (-1000002 : Int32)))
def F_X7_stand (N : Nat) (vR : SV) (vS : SV) (x1 : Int32) : Option (Int32) := (F_X7_noShow N vR vS).bind (fun q1 => if q1 = (0 : Int32) then (if x1 < (0 : Int32) then (some (-1000001 : Int32)) else (if (3 : Int32) < x1 then (some (-1000001 : Int32)) else ((F_X5_standing N vS x1).bind (fun q29 => some q29)))) else (some (-1000002 : Int32)))
def F_X7_next (N : Nat) (vR : SV) (vS : SV) (vE : SV) (vF : SV) (x1 : Int32) : Option (Int32 × SV) := (F_X7_noShow N vR vS).bind (fun q1 => if q1 = (0 : Int32) then (if x1 < (0 : Int32) then (some ((-1000001 : Int32), vF)) else (if (2 : Int32) < x1 then (some ((-1000001 : Int32), vF)) else ((F_X4_nextOne N vS vE vF x1).bind (fun q33 => some ((q33.1), (q33.2)))))) else (some ((-1000002 : Int32), vF)))
def F_X7_ahead (N : Nat) (vR : SV) (vS : SV) (vE : SV) (vF : SV) (x1 : Int32) (x2 : Int32) : Option (Int32 × SV) := (F_X7_noShow N vR vS).bind (fun q1 => if q1 = (0 : Int32) then (if x1 < (0 : Int32) then (some ((-1000001 : Int32), vF)) else (if (60 : Int32) < x1 then (some ((-1000001 : Int32), vF)) else (if x2 < (0 : Int32) then (some ((-1000001 : Int32), vF)) else (if (3 : Int32) < x2 then (some ((-1000001 : Int32), vF)) else ((F_X4_standingBehind N vS vE vF x1 x2).bind (fun q42 => some ((q42.1), (q42.2)))))))) else (some ((-1000002 : Int32), vF)))
def F_X7_when (N : Nat) (vR : SV) (vS : SV) (vE : SV) (vF : SV) (x1 : Int32) (x2 : Int32) : Option (Int32 × SV) := (F_X5_isSeat N vS x1).bind (fun q5 => if q5 = (0 : Int32) then (some ((-1000001 : Int32), vF)) else (if x2 < (1 : Int32) then (some ((-1000001 : Int32), vF)) else (if (2 : Int32) < x2 then (some ((-1000001 : Int32), vF)) else ((F_X4_tapsUntil N vS vE vF x1 x2).bind (fun q34 => (F_X7_orNone N (q34.1)).bind (fun q37 => some (q37, (q34.2))))))))
def F_X7_comes (N : Nat) (vR : SV) (vS : SV) (vE : SV) (vF : SV) (x1 : Int32) : Option (Int32 × SV) := (F_X5_isThing N vS x1).bind (fun q5 => if q5 = (0 : Int32) then (some ((-1000001 : Int32), vF)) else ((F_X4_tapOf N vS vE vF x1).bind (fun q23 => (F_X7_orNone N (q23.1)).bind (fun q26 => some (q26, (q23.2))))))
def F_X7_order (N : Nat) (vR : SV) (vS : SV) (vP : SV) (gL : (Nat → SV)) (x1 : Int32) : Option (Int32 × SV × (Nat → SV)) := (F_X7_noShow N vR vS).bind (fun q1 => if q1 = (0 : Int32) then (if x1 < (-2 : Int32) then (some ((-1000001 : Int32), vP, gL)) else ((F_X2_findBestOrder N vS vP gL).bind (fun q27 => if x1 = (-1 : Int32) then ((F_X2_bestOrderClapped N (q27.1)).bind (fun q39 => some (q39, (q27.1), (q27.2)))) else (if x1 = (-2 : Int32) then ((F_X2_bestOrderPleased N (q27.1)).bind (fun q53 => some (q53, (q27.1), (q27.2)))) else ((F_X2_bestOrderThing N (q27.1) x1).bind (fun q64 => (F_X7_orNone N q64).bind (fun q67 => some (q67, (q27.1), (q27.2))))))))) else (some ((-1000002 : Int32), vP, gL)))
def F_X7_pack (N : Nat) (vR : SV) (vS : SV) (vP : SV) (x1 : Int32) : Option (Int32) := (F_X7_noShow N vR vS).bind (fun q1 => if q1 = (0 : Int32) then (if x1 < (0 : Int32) then (some (-1000001 : Int32)) else (if (1 : Int32) < x1 then (some (-1000001 : Int32)) else ((F_X2_bestPack N vS vP).bind (fun q30 => if x1 = (0 : Int32) then (some q30) else ((F_X5_sumOver_j N vS q30).bind (fun q54 => some q54)))))) else (some (-1000002 : Int32)))
def F_X7_match (N : Nat) (vR : SV) (vS : SV) : Option (Int32) := (F_X7_noShow N vR vS).bind (fun q1 => if q1 = (0 : Int32) then ((F_X5_couldBePleased N vS).bind (fun q16 => some q16)) else (some (-1000002 : Int32)))
def F_X7_clear (N : Nat) (vR : SV) (vS : SV) (vP : SV) (vQ : SV) (x1 : Int32) (x2 : Int32) (x3 : Int32) : Option (Int32 × SV) := (F_X5_isSeat N vS x1).bind (fun q5 => if q5 = (0 : Int32) then (some ((-1000001 : Int32), vQ)) else (if x2 < (1 : Int32) then (some ((-1000001 : Int32), vQ)) else (if (30 : Int32) < x2 then (some ((-1000001 : Int32), vQ)) else (if x3 < (0 : Int32) then (some ((-1000001 : Int32), vQ)) else (if (1 : Int32) < x3 then (some ((-1000001 : Int32), vQ)) else ((F_X2_fewestOff N vS vP vQ x1 x2).bind (fun q44 => if (q44.1) < (0 : Int32) then (some ((-1000000 : Int32), (q44.2))) else (if x3 = (0 : Int32) then ((F_J6_bitCount_0f7a4 N (q44.1)).bind (fun q63 => some (q63, (q44.2)))) else (some ((q44.1), (q44.2)))))))))))
def F_X7_bring (N : Nat) (vR : SV) (vS : SV) (vP : SV) (vQ : SV) (x1 : Int32) (x2 : Int32) : Option (Int32 × SV) := (F_X7_noShow N vR vS).bind (fun q1 => if q1 = (0 : Int32) then (if x1 < (1 : Int32) then (some ((-1000001 : Int32), vQ)) else (if (30 : Int32) < x1 then (some ((-1000001 : Int32), vQ)) else (if x2 < (0 : Int32) then (some ((-1000001 : Int32), vQ)) else (if (1 : Int32) < x2 then (some ((-1000001 : Int32), vQ)) else ((F_X2_bestFirst N vS vP vQ x1).bind (fun q42 => if x2 = (0 : Int32) then (some ((q42.1), (q42.2))) else ((F_X2_clappedIfFirst N vS vP (q42.2) (q42.1) x1).bind (fun q64 => some ((q64.1), (q64.2)))))))))) else (some ((-1000002 : Int32), vQ)))
def F_X7_lack (N : Nat) (vR : SV) (vS : SV) : Option (Int32) := (F_X7_noShow N vR vS).bind (fun q1 => if q1 = (0 : Int32) then ((F_X5_lackedLabels N vS).bind (fun q16 => some q16)) else (some (-1000002 : Int32)))
def F_X7_canTell (N : Nat) (x0 : Int32) (x1 : Int32) : Option (Int32) := (F_X3_isRow N x0).bind (fun q1 => if q1 = (0 : Int32) then (some (0 : Int32)) else (if x1 < (1 : Int32) then (some (0 : Int32)) else (if (12 : Int32) < x1 then (some (0 : Int32)) else (some (1 : Int32)))))
def F_X7_who (N : Nat) (vR : SV) (vW : SV) (vS : SV) (vE : SV) (vF : SV) (gW : SV) (x1 : Int32) (x2 : Int32) (x3 : Int32) (x4 : Int32) (x5 : Int32) : Option (Int32 × SV × SV × SV) := (F_X5_isThing N vS x1).bind (fun q5 => if q5 = (0 : Int32) then (some ((-1000001 : Int32), vR, vE, vF)) else (if x2 < (0 : Int32) then (some ((-1000001 : Int32), vR, vE, vF)) else (if (2 : Int32) < x2 then (some ((-1000001 : Int32), vR, vE, vF)) else ((F_X7_canTell N x3 x5).bind (fun q23 => if q23 = (0 : Int32) then (some ((-1000001 : Int32), vR, vE, vF)) else ((F_X3_findingOfSpan N vW x3 x4 x5).bind (fun q41 => if q41 = (0 : Int32) then ((F_X4_hear N vW vE gW x3 x4 x5).bind (fun q71 => (F_X4_shapesThatFit N vS q71 vF x1 x2).bind (fun q85 => (F_X7_foundNothing N vR (q85.1)).bind (fun q88 => some ((q88.1), (q88.2), q71, (q85.2)))))) else ((F_X7_found N vR q41).bind (fun q54 => some ((q54.1), (q54.2), vE, vF))))))))))
def F_X7_wanted (N : Nat) (vR : SV) (vW : SV) (vS : SV) (vE : SV) (vF : SV) (gW : SV) (x1 : Int32) (x2 : Int32) (x3 : Int32) (x4 : Int32) (x5 : Int32) : Option (Int32 × SV × SV × SV) := (F_X5_isSeat N vS x1).bind (fun q5 => if q5 = (0 : Int32) then (some ((-1000001 : Int32), vR, vE, vF)) else (if x2 < (0 : Int32) then (some ((-1000001 : Int32), vR, vE, vF)) else (if (1 : Int32) < x2 then (some ((-1000001 : Int32), vR, vE, vF)) else ((F_X7_canTell N x3 x5).bind (fun q23 => if q23 = (0 : Int32) then (some ((-1000001 : Int32), vR, vE, vF)) else (chk 6 x1 (if ((vS 7) (x1.toNatClampNeg)) = (0 : Int32) then ((F_X3_findingOfSpan N vW x3 x4 x5).bind (fun q56 => if q56 = (0 : Int32) then ((F_X4_hear N vW vE gW x3 x4 x5).bind (fun q86 => jn (fun (s121_0 : Int32) (vF_121 : SV) => (F_X7_foundNothing N vR s121_0).bind (fun q121 => some ((q121.1), (q121.2), q86, vF_121))) (fun J121 => if x2 = (0 : Int32) then ((F_X4_wantsThatFit N vS q86 vF x1).bind (fun q103 => J121 (q103.1) (q103.2))) else ((F_X4_patienceThatFits N vS q86 vF x1).bind (fun q118 => J121 (q118.1) (q118.2)))))) else ((F_X7_found N vR q56).bind (fun q69 => some ((q69.1), (q69.2), vE, vF))))) else (some ((-1000002 : Int32), vR, vE, vF)))))))))
def F_X7_wasOff (N : Nat) (vR : SV) (vW : SV) (vS : SV) (vE : SV) (vF : SV) (gW : SV) (x1 : Int32) (x2 : Int32) (x3 : Int32) : Option (Int32 × SV × SV × SV) := (F_X7_noShow N vR vS).bind (fun q1 => if q1 = (0 : Int32) then ((F_X7_canTell N x1 x3).bind (fun q12 => if q12 = (0 : Int32) then (some ((-1000001 : Int32), vR, vE, vF)) else ((F_X3_findingOfSpan N vW x1 x2 x3).bind (fun q28 => if q28 = (0 : Int32) then ((F_X4_hear N vW vE gW x1 x2 x3).bind (fun q56 => (F_X4_absencesThatFit N vS q56 vF).bind (fun q68 => (F_X7_foundNothing N vR (q68.1)).bind (fun q71 => some ((q71.1), (q71.2), q56, (q68.2)))))) else ((F_X7_found N vR q28).bind (fun q41 => some ((q41.1), (q41.2), vE, vF))))))) else (some ((-1000002 : Int32), vR, vE, vF)))
def F_X7_wander (N : Nat) (vR : SV) (vS : SV) (vE : SV) (vF : SV) (x1 : Int32) (x2 : Int32) (x3 : Int32) (x4 : Int32) : Option (Int64 × SV) := (F_X7_noShow N vR vS).bind (fun q1 => if q1 = (0 : Int32) then (if x1 < (0 : Int32) then (some ((-1000001 : Int64), vF)) else (if (999 : Int32) < x1 then (some ((-1000001 : Int64), vF)) else (if x2 < (0 : Int32) then (some ((-1000001 : Int64), vF)) else (if (30 : Int32) < x2 then (some ((-1000001 : Int64), vF)) else (if x3 < (0 : Int32) then (some ((-1000001 : Int64), vF)) else (if (10 : Int32) < x3 then (some ((-1000001 : Int64), vF)) else (if x4 < (0 : Int32) then (some ((-1000001 : Int64), vF)) else (if (1 : Int32) < x4 then (some ((-1000001 : Int64), vF)) else ((F_X4_likelyCases N vS vE vF x1 x2 x3).bind (fun q72 => (F_X5_seatsThat N vS (0 : Int32)).bind (fun q84 => (F_J6_bitCount_0f7a4 N q84).bind (fun q87 => (F_X4_power N (10 : Int32) q87).bind (fun q90 => (F_X4_commonDivisor N (q72.1) q90).bind (fun q99 => jn (fun (s116_0 : Int64) => if (0 : Int32) < (lg_cmp q99 (0 : Int64)) then (nzl q99 (some ((s116_0 / q99), (q72.2)))) else (some (s116_0, (q72.2)))) (fun J116 => if x4 = (0 : Int32) then (J116 (q72.1)) else (J116 q90)))))))))))))))) else (some ((-1000002 : Int64), vF)))
def F_X7_drawn (N : Nat) (vR : SV) (vS : SV) (vE : SV) (vF : SV) (x1 : Int32) (x2 : Int32) (x3 : Int32) : Option (Int32 × SV) := (F_X7_noShow N vR vS).bind (fun q1 => if q1 = (0 : Int32) then (if x1 < (0 : Int32) then (some ((-1000001 : Int32), vF)) else (if (60 : Int32) < x1 then (some ((-1000001 : Int32), vF)) else (if x2 < (1 : Int32) then (some ((-1000001 : Int32), vF)) else (if (999999 : Int32) < x2 then (some ((-1000001 : Int32), vF)) else (if x3 < (0 : Int32) then (some ((-1000001 : Int32), vF)) else (if (1 : Int32) < x3 then (some ((-1000001 : Int32), vF)) else ((F_X4_runByDraws N vS vE vF x1 x2 x3).bind (fun q55 => some ((q55.1), (q55.2)))))))))) else (some ((-1000002 : Int32), vF)))
def F_X7_image (N : Nat) (vR : SV) (vS : SV) (vI : SV) (vJ : SV) (x1 : Int32) : Option (Int32 × SV × SV) := if x1 < (0 : Int32) then (some ((-1000001 : Int32), vI, vJ)) else (if (1 : Int32) < x1 then (some ((-1000001 : Int32), vI, vJ)) else ((F_X7_noShow N vR vS).bind (fun q13 => if q13 = (0 : Int32) then (if x1 = (0 : Int32) then ((F_X5_takeOver N vI vS).bind (fun q31 => some ((1 : Int32), q31, vJ))) else ((F_X5_takeOver N vJ vS).bind (fun q31 => some ((1 : Int32), vI, q31)))) else (some ((-1000002 : Int32), vI, vJ)))))
def F_X7_restore (N : Nat) (vR : SV) (vS : SV) (vA : SV) (vI : SV) (vJ : SV) (x1 : Int32) : Option (Int32 × SV × SV) := if x1 < (0 : Int32) then (some ((-1000001 : Int32), vS, vA)) else (if (1 : Int32) < x1 then (some ((-1000001 : Int32), vS, vA)) else (if x1 = (0 : Int32) then (if (vI 0 2) = (0 : Int32) then (some ((-1000002 : Int32), vS, vA)) else ((F_X5_takeOver N vS vI).bind (fun q33 => (F_X0_forgetAll N vA).bind (fun q40 => some ((1 : Int32), q33, q40))))) else (if (vJ 0 2) = (0 : Int32) then (some ((-1000002 : Int32), vS, vA)) else ((F_X5_takeOver N vS vJ).bind (fun q33 => (F_X0_forgetAll N vA).bind (fun q40 => some ((1 : Int32), q33, q40)))))))
def F_X7_kind (N : Nat) (vR : SV) (vS : SV) (x1 : Int32) : Option (Int32) := (F_X5_isThing N vS x1).bind (fun q5 => if q5 = (0 : Int32) then (some (-1000001 : Int32)) else (chk 6 x1 (some ((vS 1) (x1.toNatClampNeg)))))
def F_X7_as (N : Nat) (vR : SV) (vS : SV) (x1 : Int32) (x2 : Int32) : Option (Int32 × SV) := (F_X5_isThing N vS x1).bind (fun q5 => if q5 = (0 : Int32) then (some ((-1000001 : Int32), vR)) else ((F_X1_isKind N x2).bind (fun q12 => if q12 = (0 : Int32) then (some ((-1000001 : Int32), vR)) else (chk 6 x1 ((F_X1_isOneOf N ((vS 1) (x1.toNatClampNeg)) x2).bind (fun q31 => if q31 = (0 : Int32) then ((F_X7_found N vR (3 : Int32)).bind (fun q39 => some ((q39.1), (q39.2)))) else ((F_X7_foundNothing N vR x1).bind (fun q45 => some ((q45.1), (q45.2))))))))))
def F_X7_ask (N : Nat) (vR : SV) (vS : SV) (vK : SV) (x1 : Int32) (x2 : Int32) : Option (Int32 × SV) := (F_X5_isThing N vS x1).bind (fun q5 => if q5 = (0 : Int32) then (some ((-1000001 : Int32), vK)) else (if x2 < (0 : Int32) then (some ((-1000001 : Int32), vK)) else (if (1 : Int32) < x2 then (some ((-1000001 : Int32), vK)) else ((F_X1_answer N vS vK x1 x2).bind (fun q33 => some ((q33.1), (q33.2)))))))
def F_X7_trace (N : Nat) (vR : SV) (vK : SV) (x1 : Int32) : Option (Int32) := (F_X1_traced N vK x1).bind (fun q5 => (F_X7_orNone N q5).bind (fun q8 => some q8))
def F_X7_count (N : Nat) (vR : SV) (vW : SV) (vT : SV) (vS : SV) (vA : SV) (x1 : Int32) : Option (Int32) := if x1 = 0 then ((F_X3_present N vW).bind (fun q52 => some q52)) else (if x1 = 1 then (some (vS 0 2)) else (if x1 = 2 then (some (vS 0 3)) else (if x1 = 3 then (some (vS 0 5)) else (if x1 = 4 then (some (vS 0 4)) else (if x1 = 5 then (some (vS 0 6)) else (if x1 = 6 then ((F_X0_kept N vA).bind (fun q100 => some q100)) else (if x1 = 7 then ((F_X6_length N vT).bind (fun q108 => some q108)) else (some (-1000001 : Int32)))))))))
def F_X7_status (N : Nat) (vR : SV) : Option (Int32) := some (vR 0 10)
set_option maxHeartbeats 2000000 in
set_option maxRecDepth 20000 in
theorem c_X7_imageOf {t : Nat → ClassId} {ad : Nat → Nat → Nat} {vR : SV} {x1 : Int32} : CR t yX7_imageOf cX7_imageOf 2 (some (.object "RabbitList$Stage")) (rm 1) [.ref (ad 0 0), .int x1] [wRL t ad vR] (if x1 = 0 then ad 6 0 else ad 7 0) [wRL t ad vR] := by
  refine CR.of (own := RX7) (by decide) rfl (Nat.le_of_ble_eq_true rfl) (fun X C hR => ?_)
  show G X [wRL t ad vR] 0 [(0, .ref (ad 0 0)), (1, .int x1)] []
  by_cases e : x1 = 0
  · have h : (if x1 = 0 then some () else none) = some () := if_pos e
    rw [if_pos e] at hR
    refine G.iload_n C dX7_imageOf_0 1 rfl ?_
    refine G.if_ne (tgt := 11) C dX7_imageOf_1 (by decide) h (fun h => by cases h) (fun h => ?_)
    refine G.aload_n C dX7_imageOf_4 0 rfl ?_
    refine gfX7_40 (i := 0) (j := 0) (v := .ref (ad 6 0)) C rfl rfl rfl dX7_imageOf_5 ?_
    refine G.goto (tgt := 15) C dX7_imageOf_8 (by decide) ?_
    exact hR _ _ dX7_imageOf_15
  · have h : (if x1 = 0 then none else some ()) = some () := if_neg e
    rw [if_neg e] at hR
    refine G.iload_n C dX7_imageOf_0 1 rfl ?_
    refine G.if_ne (tgt := 11) C dX7_imageOf_1 (by decide) h (fun h => ?_) (fun h => by cases h)
    refine G.aload_n C dX7_imageOf_11 0 rfl ?_
    refine gfX7_43 (i := 0) (j := 0) (v := .ref (ad 7 0)) C rfl rfl rfl dX7_imageOf_12 ?_
    exact hR _ _ dX7_imageOf_15
set_option maxHeartbeats 2000000 in
set_option maxRecDepth 20000 in
theorem c_X7_found {t : Nat → ClassId} {ad : Nat → Nat → Nat} {N : Nat} {vR : SV} {x1 : Int32} {r : Int32 × SV} (h : F_X7_found N vR x1 = some r) : CI t yX7_found cX7_found 2 (some .int) (rm 1) [.ref (ad 0 0), .int x1] [wRL t ad vR] (r.1) [wRL t ad (r.2)] := by
  refine CI.of (own := RX7) (by decide) rfl (Nat.le_of_ble_eq_true rfl) (fun X C hR0 => ?_)
  have hR : ∀ q : Int32 × SV, q = r → RetI X cX7_found (q.1) [wRL t ad (q.2)] := by intro q e; subst e; exact hR0
  show G X [wRL t ad vR] 0 [(0, .ref (ad 0 0)), (1, .int x1)] []
  unfold F_X7_found at h
  refine G.aload_n C dX7_found_0 0 rfl ?_
  refine G.iload_n C dX7_found_1 1 rfl ?_
  refine pfX7_67 (i := 0) (j := 0) (cs' := [wRL t ad (up2 vR 0 10 x1)]) C rfl rfl (Nat.le_of_ble_eq_true rfl) dX7_found_2 (suRL_10) rfl ?_
  refine G.ldcw C k_374 dX7_found_5 ?_
  refine G.iload_n C dX7_found_8 1 rfl ?_
  refine G.isub C dX7_found_9 ?_
  exact hR _ (Option.some.inj h) _ _ dX7_found_10
set_option maxHeartbeats 2000000 in
set_option maxRecDepth 20000 in
theorem c_X7_foundNothing {t : Nat → ClassId} {ad : Nat → Nat → Nat} {N : Nat} {vR : SV} {x1 : Int32} {r : Int32 × SV} (h : F_X7_foundNothing N vR x1 = some r) : CI t yX7_foundNothing cX7_foundNothing 2 (some .int) (rm 1) [.ref (ad 0 0), .int x1] [wRL t ad vR] (r.1) [wRL t ad (r.2)] := by
  refine CI.of (own := RX7) (by decide) rfl (Nat.le_of_ble_eq_true rfl) (fun X C hR0 => ?_)
  have hR : ∀ q : Int32 × SV, q = r → RetI X cX7_foundNothing (q.1) [wRL t ad (q.2)] := by intro q e; subst e; exact hR0
  show G X [wRL t ad vR] 0 [(0, .ref (ad 0 0)), (1, .int x1)] []
  unfold F_X7_foundNothing at h
  refine G.aload_n C dX7_foundNothing_0 0 rfl ?_
  refine G.iconst C dX7_foundNothing_1 ni_0 ?_
  refine pfX7_67 (i := 0) (j := 0) (cs' := [wRL t ad (up2 vR 0 10 (0 : Int32))]) C rfl rfl (Nat.le_of_ble_eq_true rfl) dX7_foundNothing_2 (suRL_10) rfl ?_
  refine G.iload_n C dX7_foundNothing_5 1 rfl ?_
  exact hR _ (Option.some.inj h) _ _ dX7_foundNothing_6
set_option maxHeartbeats 2000000 in
set_option maxRecDepth 20000 in
theorem c_X7_row {t : Nat → ClassId} {ad : Nat → Nat → Nat} {N : Nat} {vR : SV} {vW : SV} {gW : SV} {x1 : Int32} {x2 : Int32} {x3 : Int32} {r : Int32 × SV × SV × SV} (h : F_X7_row N vR vW gW x1 x2 x3 = some r) : CI t yX7_row cX7_row 4 (some .int) (rm 2) [.ref (ad 0 0), .int x1, .int x2, .int x3] ([wRL t ad vR, wRows t ad vW] ++ fRows t ad gW) (r.1) ([wRL t ad (r.2.1), wRows t ad (r.2.2.1)] ++ fRows t ad (r.2.2.2)) := by
  refine CI.of (own := RX7) (by decide) rfl (Nat.le_of_ble_eq_true rfl) (fun X C hR0 => ?_)
  have hR : ∀ q : Int32 × SV × SV × SV, q = r → RetI X cX7_row (q.1) ([wRL t ad (q.2.1), wRows t ad (q.2.2.1)] ++ fRows t ad (q.2.2.2)) := by intro q e; subst e; exact hR0
  show G X ([wRL t ad vR, wRows t ad vW] ++ fRows t ad gW) 0 [(0, .ref (ad 0 0)), (1, .int x1), (2, .int x2), (3, .int x3)] []
  unfold F_X7_row at h
  refine G.iload_n C dX7_row_0 1 rfl ?_
  obtain ⟨q1, hq1, h⟩ := bind_some' h
  refine G.csI (cs' := ([wRL t ad vR, wRows t ad vW] ++ fRows t ad gW)) C (c_X3_isRow hq1) [] rfl rfl rfl rfl k_363 cal_X3_isRow (fit_rm (by decide) (by decide)) rfl (Nat.le_of_ble_eq_true rfl) dX7_row_1 ?_
  refine G.if_eq (tgt := 20) C dX7_row_4 (by decide) h (fun h => ?_) (fun h => ?_)
  · refine G.ldc C k_369 dX7_row_20 ?_
    exact hR _ (Option.some.inj h) _ _ dX7_row_22
  · refine G.iload_n C dX7_row_7 2 rfl ?_
    obtain ⟨q8, hq8, h⟩ := bind_some' h
    refine G.csI (cs' := ([wRL t ad vR, wRows t ad vW] ++ fRows t ad gW)) C (c_X3_isLane hq8) [] rfl rfl rfl rfl k_366 cal_X3_isLane (fit_rm (by decide) (by decide)) rfl (Nat.le_of_ble_eq_true rfl) dX7_row_8 ?_
    refine G.if_eq (tgt := 20) C dX7_row_11 (by decide) h (fun h => ?_) (fun h => ?_)
    · refine G.ldc C k_369 dX7_row_20 ?_
      exact hR _ (Option.some.inj h) _ _ dX7_row_22
    · refine G.iload_n C dX7_row_14 3 rfl ?_
      refine G.bipush C dX7_row_15 nb_40 ?_
      refine G.icmp_le (tgt := 23) C dX7_row_17 (by decide) h (fun h => ?_) (fun h => ?_)
      · refine G.iload_n C dX7_row_23 3 rfl ?_
        refine G.if_ge (tgt := 33) C dX7_row_24 (by decide) h (fun h => ?_) (fun h => ?_)
        · refine G.aload_n C dX7_row_33 0 rfl ?_
          refine gfX7_10 (i := 0) (j := 0) (v := .ref (ad 1 0)) C rfl rfl rfl dX7_row_34 ?_
          refine G.iload_n C dX7_row_37 1 rfl ?_
          refine G.iload_n C dX7_row_38 2 rfl ?_
          refine G.iload_n C dX7_row_39 3 rfl ?_
          obtain ⟨q40, hq40, h⟩ := bind_some' h
          refine G.cvV (i0 := 1) (j0 := 0) (cs' := ([wRL t ad vR, wRows t ad (q40.1)] ++ fRows t ad (q40.2))) C (c_X3_make (ad := ad) hq40) ([1] ++ (List.range 8).map (fun k => 2 + k)) (famJ rfl fRows_len rfl) (by decide) (famA rfl fRows_ads) (famC rfl rfl rfl fRows_len fRows_len) rfl rfl rfl k_375 cal_X3_make (fit_rm (by decide) (by decide)) rfl (Nat.le_of_ble_eq_true rfl) dX7_row_40 ?_
          refine G.aload_n C dX7_row_43 0 rfl ?_
          refine G.iload_n C dX7_row_44 3 rfl ?_
          obtain ⟨q45, hq45, h⟩ := bind_some' h
          refine G.cvI (i0 := 0) (j0 := 0) (cs' := ([wRL t ad (q45.2), wRows t ad (q40.1)] ++ fRows t ad (q40.2))) C (c_X7_foundNothing (ad := ad) hq45) [0] rfl rfl rfl rfl rfl rfl rfl k_379 cal_X7_foundNothing (fit_rm (by decide) (by decide)) rfl (Nat.le_of_ble_eq_true rfl) dX7_row_45 ?_
          exact hR _ (Option.some.inj h) _ _ dX7_row_48
        · refine G.aload_n C dX7_row_27 0 rfl ?_
          refine G.iconst C dX7_row_28 ni_4 ?_
          obtain ⟨q29, hq29, h⟩ := bind_some' h
          refine G.cvI (i0 := 0) (j0 := 0) (cs' := ([wRL t ad (q29.2), wRows t ad vW] ++ fRows t ad gW)) C (c_X7_found (ad := ad) hq29) [0] rfl rfl rfl rfl rfl rfl rfl k_370 cal_X7_found (fit_rm (by decide) (by decide)) rfl (Nat.le_of_ble_eq_true rfl) dX7_row_29 ?_
          exact hR _ (Option.some.inj h) _ _ dX7_row_32
      · refine G.ldc C k_369 dX7_row_20 ?_
        exact hR _ (Option.some.inj h) _ _ dX7_row_22
set_option maxHeartbeats 2000000 in
set_option maxRecDepth 20000 in
theorem c_X7_set {t : Nat → ClassId} {ad : Nat → Nat → Nat} {N : Nat} {vR : SV} {vW : SV} {gW : SV} {x1 : Int32} {x2 : Int32} {x3 : Int32} {r : Int32 × SV × SV} (h : F_X7_set N vR vW gW x1 x2 x3 = some r) : CI t yX7_set cX7_set 5 (some .int) (rm 3) [.ref (ad 0 0), .int x1, .int x2, .int x3] ([wRL t ad vR, wRows t ad vW] ++ fRows t ad gW) (r.1) ([wRL t ad (r.2.1), wRows t ad vW] ++ fRows t ad (r.2.2)) := by
  refine CI.of (own := RX7) (by decide) rfl (Nat.le_of_ble_eq_true rfl) (fun X C hR0 => ?_)
  have hR : ∀ q : Int32 × SV × SV, q = r → RetI X cX7_set (q.1) ([wRL t ad (q.2.1), wRows t ad vW] ++ fRows t ad (q.2.2)) := by intro q e; subst e; exact hR0
  show G X ([wRL t ad vR, wRows t ad vW] ++ fRows t ad gW) 0 [(0, .ref (ad 0 0)), (1, .int x1), (2, .int x2), (3, .int x3)] []
  unfold F_X7_set at h
  refine G.iload_n C dX7_set_0 1 rfl ?_
  obtain ⟨q1, hq1, h⟩ := bind_some' h
  refine G.csI (cs' := ([wRL t ad vR, wRows t ad vW] ++ fRows t ad gW)) C (c_X3_isRow hq1) [] rfl rfl rfl rfl k_363 cal_X3_isRow (fit_rm (by decide) (by decide)) rfl (Nat.le_of_ble_eq_true rfl) dX7_set_1 ?_
  refine G.if_ne (tgt := 10) C dX7_set_4 (by decide) h (fun h => ?_) (fun h => ?_)
  · refine G.aload_n C dX7_set_10 0 rfl ?_
    refine gfX7_10 (i := 0) (j := 0) (v := .ref (ad 1 0)) C rfl rfl rfl dX7_set_11 ?_
    refine G.iload_n C dX7_set_14 1 rfl ?_
    refine G.iload_n C dX7_set_15 2 rfl ?_
    refine G.iconst C dX7_set_16 ni_1 ?_
    obtain ⟨q17, hq17, h⟩ := bind_some' h
    refine G.cvI (i0 := 1) (j0 := 0) (cs' := ([wRL t ad vR, wRows t ad vW] ++ fRows t ad gW)) C (c_X3_findingOfSpan (ad := ad) hq17) [1] rfl rfl rfl rfl rfl rfl rfl k_387 cal_X3_findingOfSpan (fit_rm (by decide) (by decide)) rfl (Nat.le_of_ble_eq_true rfl) dX7_set_17 ?_
    refine G.istore (lv' := [(4, .int q17), (0, .ref (ad 0 0)), (1, .int x1), (2, .int x2), (3, .int x3)]) C dX7_set_20 (by decide) rfl ?_
    refine G.iload C dX7_set_22 0 rfl ?_
    refine G.if_eq (tgt := 34) C dX7_set_24 (by decide) h (fun h => ?_) (fun h => ?_)
    · refine G.aload_n C dX7_set_34 1 rfl ?_
      refine G.aload_n C dX7_set_35 1 rfl ?_
      refine gfX7_10 (i := 0) (j := 0) (v := .ref (ad 1 0)) C rfl rfl rfl dX7_set_36 ?_
      refine G.iload_n C dX7_set_39 2 rfl ?_
      refine G.iload_n C dX7_set_40 3 rfl ?_
      refine G.iload_n C dX7_set_41 4 rfl ?_
      obtain ⟨q42, hq42, h⟩ := bind_some' h
      refine G.cvI (i0 := 1) (j0 := 0) (cs' := ([wRL t ad vR, wRows t ad vW] ++ fRows t ad (q42.2))) C (c_X3_put (ad := ad) hq42) ([1] ++ (List.range 8).map (fun k => 2 + k)) (famJ rfl fRows_len rfl) (by decide) (famA rfl fRows_ads) (famC rfl rfl rfl fRows_len fRows_len) rfl rfl rfl k_399 cal_X3_put (fit_rm (by decide) (by decide)) rfl (Nat.le_of_ble_eq_true rfl) dX7_set_42 ?_
      obtain ⟨q45, hq45, h⟩ := bind_some' h
      refine G.cvI (i0 := 0) (j0 := 0) (cs' := ([wRL t ad (q45.2), wRows t ad vW] ++ fRows t ad (q42.2))) C (c_X7_foundNothing (ad := ad) hq45) [0] rfl rfl rfl rfl rfl rfl rfl k_379 cal_X7_foundNothing (fit_rm (by decide) (by decide)) rfl (Nat.le_of_ble_eq_true rfl) dX7_set_45 ?_
      exact hR _ (Option.some.inj h) _ _ dX7_set_48
    · refine G.aload_n C dX7_set_27 1 rfl ?_
      refine G.iload C dX7_set_28 0 rfl ?_
      obtain ⟨q30, hq30, h⟩ := bind_some' h
      refine G.cvI (i0 := 0) (j0 := 0) (cs' := ([wRL t ad (q30.2), wRows t ad vW] ++ fRows t ad gW)) C (c_X7_found (ad := ad) hq30) [0] rfl rfl rfl rfl rfl rfl rfl k_370 cal_X7_found (fit_rm (by decide) (by decide)) rfl (Nat.le_of_ble_eq_true rfl) dX7_set_30 ?_
      exact hR _ (Option.some.inj h) _ _ dX7_set_33
  · refine G.ldc C k_369 dX7_set_7 ?_
    exact hR _ (Option.some.inj h) _ _ dX7_set_9
set_option maxHeartbeats 2000000 in
set_option maxRecDepth 20000 in
theorem c_X7_copy {t : Nat → ClassId} {ad : Nat → Nat → Nat} {N : Nat} {vR : SV} {vW : SV} {gW : SV} {x1 : Int32} {x2 : Int32} {x3 : Int32} {x4 : Int32} {x5 : Int32} {r : Int32 × SV × SV} (h : F_X7_copy N vR vW gW x1 x2 x3 x4 x5 = some r) : CI t yX7_copy cX7_copy 7 (some .int) (rm 3) [.ref (ad 0 0), .int x1, .int x2, .int x3, .int x4, .int x5] ([wRL t ad vR, wRows t ad vW] ++ fRows t ad gW) (r.1) ([wRL t ad (r.2.1), wRows t ad vW] ++ fRows t ad (r.2.2)) := by
  refine CI.of (own := RX7) (by decide) rfl (Nat.le_of_ble_eq_true rfl) (fun X C hR0 => ?_)
  have hR : ∀ q : Int32 × SV × SV, q = r → RetI X cX7_copy (q.1) ([wRL t ad (q.2.1), wRows t ad vW] ++ fRows t ad (q.2.2)) := by intro q e; subst e; exact hR0
  show G X ([wRL t ad vR, wRows t ad vW] ++ fRows t ad gW) 0 [(0, .ref (ad 0 0)), (1, .int x1), (2, .int x2), (3, .int x3), (4, .int x4), (5, .int x5)] []
  unfold F_X7_copy at h
  refine G.iload_n C dX7_copy_0 1 rfl ?_
  obtain ⟨q1, hq1, h⟩ := bind_some' h
  refine G.csI (cs' := ([wRL t ad vR, wRows t ad vW] ++ fRows t ad gW)) C (c_X3_isRow hq1) [] rfl rfl rfl rfl k_363 cal_X3_isRow (fit_rm (by decide) (by decide)) rfl (Nat.le_of_ble_eq_true rfl) dX7_copy_1 ?_
  refine G.if_eq (tgt := 14) C dX7_copy_4 (by decide) h (fun h => ?_) (fun h => ?_)
  · refine G.ldc C k_369 dX7_copy_14 ?_
    exact hR _ (Option.some.inj h) _ _ dX7_copy_16
  · refine G.iload_n C dX7_copy_7 3 rfl ?_
    obtain ⟨q8, hq8, h⟩ := bind_some' h
    refine G.csI (cs' := ([wRL t ad vR, wRows t ad vW] ++ fRows t ad gW)) C (c_X3_isRow hq8) [] rfl rfl rfl rfl k_363 cal_X3_isRow (fit_rm (by decide) (by decide)) rfl (Nat.le_of_ble_eq_true rfl) dX7_copy_8 ?_
    refine G.if_ne (tgt := 17) C dX7_copy_11 (by decide) h (fun h => ?_) (fun h => ?_)
    · refine G.aload_n C dX7_copy_17 0 rfl ?_
      refine gfX7_10 (i := 0) (j := 0) (v := .ref (ad 1 0)) C rfl rfl rfl dX7_copy_18 ?_
      refine G.iload_n C dX7_copy_21 1 rfl ?_
      refine G.iload_n C dX7_copy_22 2 rfl ?_
      refine G.iload_n C dX7_copy_23 3 rfl ?_
      refine G.iload C dX7_copy_24 4 rfl ?_
      refine G.iload C dX7_copy_26 5 rfl ?_
      obtain ⟨q28, hq28, h⟩ := bind_some' h
      refine G.cvI (i0 := 1) (j0 := 0) (cs' := ([wRL t ad vR, wRows t ad vW] ++ fRows t ad gW)) C (c_X3_findingOfMove (ad := ad) hq28) [1] rfl rfl rfl rfl rfl rfl rfl k_407 cal_X3_findingOfMove (fit_rm (by decide) (by decide)) rfl (Nat.le_of_ble_eq_true rfl) dX7_copy_28 ?_
      refine G.istore (lv' := [(6, .int q28), (0, .ref (ad 0 0)), (1, .int x1), (2, .int x2), (3, .int x3), (4, .int x4), (5, .int x5)]) C dX7_copy_31 (by decide) rfl ?_
      refine G.iload C dX7_copy_33 0 rfl ?_
      refine G.if_eq (tgt := 45) C dX7_copy_35 (by decide) h (fun h => ?_) (fun h => ?_)
      · refine G.aload_n C dX7_copy_45 1 rfl ?_
        refine gfX7_10 (i := 0) (j := 0) (v := .ref (ad 1 0)) C rfl rfl rfl dX7_copy_46 ?_
        refine G.iload_n C dX7_copy_49 2 rfl ?_
        refine G.iload_n C dX7_copy_50 3 rfl ?_
        refine G.iload_n C dX7_copy_51 4 rfl ?_
        refine G.iload C dX7_copy_52 5 rfl ?_
        refine G.iload C dX7_copy_54 6 rfl ?_
        obtain ⟨q56, hq56, h⟩ := bind_some' h
        refine G.cvV (i0 := 1) (j0 := 0) (cs' := ([wRL t ad vR, wRows t ad vW] ++ fRows t ad q56)) C (c_X3_move (ad := ad) hq56) ([1] ++ (List.range 8).map (fun k => 2 + k)) (famJ rfl fRows_len rfl) (by decide) (famA rfl fRows_ads) (famC rfl rfl rfl fRows_len fRows_len) rfl rfl rfl k_411 cal_X3_move (fit_rm (by decide) (by decide)) rfl (Nat.le_of_ble_eq_true rfl) dX7_copy_56 ?_
        refine G.aload_n C dX7_copy_59 1 rfl ?_
        refine G.iload C dX7_copy_60 6 rfl ?_
        obtain ⟨q62, hq62, h⟩ := bind_some' h
        refine G.cvI (i0 := 0) (j0 := 0) (cs' := ([wRL t ad (q62.2), wRows t ad vW] ++ fRows t ad q56)) C (c_X7_foundNothing (ad := ad) hq62) [0] rfl rfl rfl rfl rfl rfl rfl k_379 cal_X7_foundNothing (fit_rm (by decide) (by decide)) rfl (Nat.le_of_ble_eq_true rfl) dX7_copy_62 ?_
        exact hR _ (Option.some.inj h) _ _ dX7_copy_65
      · refine G.aload_n C dX7_copy_38 1 rfl ?_
        refine G.iload C dX7_copy_39 0 rfl ?_
        obtain ⟨q41, hq41, h⟩ := bind_some' h
        refine G.cvI (i0 := 0) (j0 := 0) (cs' := ([wRL t ad (q41.2), wRows t ad vW] ++ fRows t ad gW)) C (c_X7_found (ad := ad) hq41) [0] rfl rfl rfl rfl rfl rfl rfl k_370 cal_X7_found (fit_rm (by decide) (by decide)) rfl (Nat.le_of_ble_eq_true rfl) dX7_copy_41 ?_
        exact hR _ (Option.some.inj h) _ _ dX7_copy_44
    · refine G.ldc C k_369 dX7_copy_14 ?_
      exact hR _ (Option.some.inj h) _ _ dX7_copy_16
set_option maxHeartbeats 2000000 in
set_option maxRecDepth 20000 in
theorem c_X7_drop {t : Nat → ClassId} {ad : Nat → Nat → Nat} {N : Nat} {vR : SV} {vW : SV} {x1 : Int32} {r : Int32 × SV × SV} (h : F_X7_drop N vR vW x1 = some r) : CI t yX7_drop cX7_drop 2 (some .int) (rm 2) [.ref (ad 0 0), .int x1] [wRL t ad vR, wRows t ad vW] (r.1) [wRL t ad (r.2.1), wRows t ad (r.2.2)] := by
  refine CI.of (own := RX7) (by decide) rfl (Nat.le_of_ble_eq_true rfl) (fun X C hR0 => ?_)
  have hR : ∀ q : Int32 × SV × SV, q = r → RetI X cX7_drop (q.1) [wRL t ad (q.2.1), wRows t ad (q.2.2)] := by intro q e; subst e; exact hR0
  show G X [wRL t ad vR, wRows t ad vW] 0 [(0, .ref (ad 0 0)), (1, .int x1)] []
  unfold F_X7_drop at h
  refine G.iload_n C dX7_drop_0 1 rfl ?_
  obtain ⟨q1, hq1, h⟩ := bind_some' h
  refine G.csI (cs' := [wRL t ad vR, wRows t ad vW]) C (c_X3_isRow hq1) [] rfl rfl rfl rfl k_363 cal_X3_isRow (fit_rm (by decide) (by decide)) rfl (Nat.le_of_ble_eq_true rfl) dX7_drop_1 ?_
  refine G.if_ne (tgt := 10) C dX7_drop_4 (by decide) h (fun h => ?_) (fun h => ?_)
  · refine G.aload_n C dX7_drop_10 0 rfl ?_
    refine gfX7_10 (i := 0) (j := 0) (v := .ref (ad 1 0)) C rfl rfl rfl dX7_drop_11 ?_
    refine G.iload_n C dX7_drop_14 1 rfl ?_
    obtain ⟨q15, hq15, h⟩ := bind_some' h
    refine G.cvI (i0 := 1) (j0 := 0) (cs' := [wRL t ad vR, wRows t ad vW]) C (c_X3_isMissing (ad := ad) hq15) [1] rfl rfl rfl rfl rfl rfl rfl k_422 cal_X3_isMissing (fit_rm (by decide) (by decide)) rfl (Nat.le_of_ble_eq_true rfl) dX7_drop_15 ?_
    refine G.if_eq (tgt := 27) C dX7_drop_18 (by decide) h (fun h => ?_) (fun h => ?_)
    · refine G.aload_n C dX7_drop_27 0 rfl ?_
      refine G.aload_n C dX7_drop_28 0 rfl ?_
      refine gfX7_10 (i := 0) (j := 0) (v := .ref (ad 1 0)) C rfl rfl rfl dX7_drop_29 ?_
      refine G.iload_n C dX7_drop_32 1 rfl ?_
      obtain ⟨q33, hq33, h⟩ := bind_some' h
      refine G.cvI (i0 := 1) (j0 := 0) (cs' := [wRL t ad vR, wRows t ad (q33.2)]) C (c_X3_lose (ad := ad) hq33) [1] rfl rfl rfl rfl rfl rfl rfl k_423 cal_X3_lose (fit_rm (by decide) (by decide)) rfl (Nat.le_of_ble_eq_true rfl) dX7_drop_33 ?_
      obtain ⟨q36, hq36, h⟩ := bind_some' h
      refine G.cvI (i0 := 0) (j0 := 0) (cs' := [wRL t ad (q36.2), wRows t ad (q33.2)]) C (c_X7_foundNothing (ad := ad) hq36) [0] rfl rfl rfl rfl rfl rfl rfl k_379 cal_X7_foundNothing (fit_rm (by decide) (by decide)) rfl (Nat.le_of_ble_eq_true rfl) dX7_drop_36 ?_
      exact hR _ (Option.some.inj h) _ _ dX7_drop_39
    · refine G.aload_n C dX7_drop_21 0 rfl ?_
      refine G.iconst C dX7_drop_22 ni_1 ?_
      obtain ⟨q23, hq23, h⟩ := bind_some' h
      refine G.cvI (i0 := 0) (j0 := 0) (cs' := [wRL t ad (q23.2), wRows t ad vW]) C (c_X7_found (ad := ad) hq23) [0] rfl rfl rfl rfl rfl rfl rfl k_370 cal_X7_found (fit_rm (by decide) (by decide)) rfl (Nat.le_of_ble_eq_true rfl) dX7_drop_23 ?_
      exact hR _ (Option.some.inj h) _ _ dX7_drop_26
  · refine G.ldc C k_369 dX7_drop_7 ?_
    exact hR _ (Option.some.inj h) _ _ dX7_drop_9
set_option maxHeartbeats 2000000 in
set_option maxRecDepth 20000 in
theorem c_X7_feed {t : Nat → ClassId} {ad : Nat → Nat → Nat} {N : Nat} {vR : SV} {vT : SV} {x1 : Int32} {r : Int32 × SV} (h : F_X7_feed N vR vT x1 = some r) : CI t yX7_feed cX7_feed 2 (some .int) (rm 2) [.ref (ad 0 0), .int x1] [wRL t ad vR, wTape t ad vT] (r.1) [wRL t ad vR, wTape t ad (r.2)] := by
  refine CI.of (own := RX7) (by decide) rfl (Nat.le_of_ble_eq_true rfl) (fun X C hR0 => ?_)
  have hR : ∀ q : Int32 × SV, q = r → RetI X cX7_feed (q.1) [wRL t ad vR, wTape t ad (q.2)] := by intro q e; subst e; exact hR0
  show G X [wRL t ad vR, wTape t ad vT] 0 [(0, .ref (ad 0 0)), (1, .int x1)] []
  unfold F_X7_feed at h
  refine G.iload_n C dX7_feed_0 1 rfl ?_
  refine G.if_lt (tgt := 11) C dX7_feed_1 (by decide) h (fun h => ?_) (fun h => ?_)
  · refine G.ldc C k_369 dX7_feed_11 ?_
    exact hR _ (Option.some.inj h) _ _ dX7_feed_13
  · refine G.iload_n C dX7_feed_4 1 rfl ?_
    refine G.sipush C dX7_feed_5 ns_255 ?_
    refine G.icmp_le (tgt := 14) C dX7_feed_8 (by decide) h (fun h => ?_) (fun h => ?_)
    · refine G.aload_n C dX7_feed_14 0 rfl ?_
      refine gfX7_19 (i := 0) (j := 0) (v := .ref (ad 2 0)) C rfl rfl rfl dX7_feed_15 ?_
      obtain ⟨q18, hq18, h⟩ := bind_some' h
      refine G.cvI (i0 := 1) (j0 := 0) (cs' := [wRL t ad vR, wTape t ad vT]) C (c_X6_isFull (ad := ad) hq18) [1] rfl rfl rfl rfl rfl rfl rfl k_431 cal_X6_isFull (fit_rm (by decide) (by decide)) rfl (Nat.le_of_ble_eq_true rfl) dX7_feed_18 ?_
      refine G.if_eq (tgt := 27) C dX7_feed_21 (by decide) h (fun h => ?_) (fun h => ?_)
      · refine G.aload_n C dX7_feed_27 0 rfl ?_
        refine gfX7_19 (i := 0) (j := 0) (v := .ref (ad 2 0)) C rfl rfl rfl dX7_feed_28 ?_
        refine G.iload_n C dX7_feed_31 1 rfl ?_
        obtain ⟨q32, hq32, h⟩ := bind_some' h
        refine G.cvI (i0 := 1) (j0 := 0) (cs' := [wRL t ad vR, wTape t ad (q32.2)]) C (c_X6_append (ad := ad) hq32) [1] rfl rfl rfl rfl rfl rfl rfl k_436 cal_X6_append (fit_rm (by decide) (by decide)) rfl (Nat.le_of_ble_eq_true rfl) dX7_feed_32 ?_
        exact hR _ (Option.some.inj h) _ _ dX7_feed_35
      · refine G.ldc C k_435 dX7_feed_24 ?_
        exact hR _ (Option.some.inj h) _ _ dX7_feed_26
    · refine G.ldc C k_369 dX7_feed_11 ?_
      exact hR _ (Option.some.inj h) _ _ dX7_feed_13
set_option maxHeartbeats 2000000 in
set_option maxRecDepth 20000 in
theorem c_X7_show {t : Nat → ClassId} {ad : Nat → Nat → Nat} {N : Nat} {vR : SV} {vT : SV} {vS : SV} {vD : SV} {vA : SV} {r : Int32 × SV × SV × SV × SV} (h : F_X7_show N vR vT vS vD vA = some r) : CI t yX7_show cX7_show 2 (some .int) (rm 8) [.ref (ad 0 0)] [wRL t ad vR, wTape t ad vT, wStage t (ad 3) vS, wStage t (ad 4) vD, wActs t ad vA] (r.1) [wRL t ad vR, wTape t ad (r.2.1), wStage t (ad 3) (r.2.2.1), wStage t (ad 4) (r.2.2.2.1), wActs t ad (r.2.2.2.2)] := by
  refine CI.of (own := RX7) (by decide) rfl (Nat.le_of_ble_eq_true rfl) (fun X C hR0 => ?_)
  have hR : ∀ q : Int32 × SV × SV × SV × SV, q = r → RetI X cX7_show (q.1) [wRL t ad vR, wTape t ad (q.2.1), wStage t (ad 3) (q.2.2.1), wStage t (ad 4) (q.2.2.2.1), wActs t ad (q.2.2.2.2)] := by intro q e; subst e; exact hR0
  show G X [wRL t ad vR, wTape t ad vT, wStage t (ad 3) vS, wStage t (ad 4) vD, wActs t ad vA] 0 [(0, .ref (ad 0 0))] []
  unfold F_X7_show at h
  refine G.aload_n C dX7_show_0 0 rfl ?_
  refine gfX7_19 (i := 0) (j := 0) (v := .ref (ad 2 0)) C rfl rfl rfl dX7_show_1 ?_
  refine G.aload_n C dX7_show_4 0 rfl ?_
  refine gfX7_30 (i := 0) (j := 0) (v := .ref (ad 4 0)) C rfl rfl rfl dX7_show_5 ?_
  obtain ⟨q8, hq8, h⟩ := bind_some' h
  refine G.cvI (i0 := 1) (j0 := 0) (cs' := [wRL t ad vR, wTape t ad (q8.2.1), wStage t (ad 3) vS, wStage t (ad 4) (q8.2.2), wActs t ad vA]) C (c_X6_readInto (ad := ad) hq8) [1, 3] rfl rfl rfl rfl rfl rfl rfl k_444 cal_X6_readInto (fit_rm (by decide) (by decide)) rfl (Nat.le_of_ble_eq_true rfl) dX7_show_8 ?_
  refine G.istore_n (lv' := [(1, .int (q8.1)), (0, .ref (ad 0 0))]) C dX7_show_11 (by decide) rfl ?_
  refine G.aload_n C dX7_show_12 1 rfl ?_
  refine gfX7_19 (i := 0) (j := 0) (v := .ref (ad 2 0)) C rfl rfl rfl dX7_show_13 ?_
  obtain ⟨q16, hq16, h⟩ := bind_some' h
  refine G.cvV (i0 := 1) (j0 := 0) (cs' := [wRL t ad vR, wTape t ad q16, wStage t (ad 3) vS, wStage t (ad 4) (q8.2.2), wActs t ad vA]) C (c_X6_empty (ad := ad) hq16) [1] rfl rfl rfl rfl rfl rfl rfl k_587 cal_X6_empty (fit_rm (by decide) (by decide)) rfl (Nat.le_of_ble_eq_true rfl) dX7_show_16 ?_
  refine G.iload_n C dX7_show_19 0 rfl ?_
  refine G.if_ne (tgt := 34) C dX7_show_20 (by decide) h (fun h => ?_) (fun h => ?_)
  · refine G.aload_n C dX7_show_34 1 rfl ?_
    refine gfX7_26 (i := 0) (j := 0) (v := .ref (ad 3 0)) C rfl rfl rfl dX7_show_35 ?_
    refine G.aload_n C dX7_show_38 1 rfl ?_
    refine gfX7_30 (i := 0) (j := 0) (v := .ref (ad 4 0)) C rfl rfl rfl dX7_show_39 ?_
    obtain ⟨q42, hq42, h⟩ := bind_some' h
    refine G.cvV (i0 := 2) (j0 := 0) (cs' := [wRL t ad vR, wTape t ad q16, wStage t (ad 3) q42, wStage t (ad 4) (q8.2.2), wActs t ad vA]) C (c_X5_takeOver (a := (ad 3)) (b := (ad 4)) hq42) [2, 3] rfl rfl rfl rfl rfl rfl rfl k_596 cal_X5_takeOver (fit_rm (by decide) (by decide)) rfl (Nat.le_of_ble_eq_true rfl) dX7_show_42 ?_
    refine G.aload_n C dX7_show_45 1 rfl ?_
    refine gfX7_36 (i := 0) (j := 0) (v := .ref (ad 5 0)) C rfl rfl rfl dX7_show_46 ?_
    obtain ⟨q49, hq49, h⟩ := bind_some' h
    refine G.cvV (i0 := 4) (j0 := 0) (cs' := [wRL t ad vR, wTape t ad q16, wStage t (ad 3) q42, wStage t (ad 4) (q8.2.2), wActs t ad q49]) C (c_X0_forgetAll (ad := ad) hq49) [4] rfl rfl rfl rfl rfl rfl rfl k_601 cal_X0_forgetAll (fit_rm (by decide) (by decide)) rfl (Nat.le_of_ble_eq_true rfl) dX7_show_49 ?_
    refine G.aload_n C dX7_show_52 1 rfl ?_
    refine gfX7_26 (i := 0) (j := 0) (v := .ref (ad 3 0)) C rfl rfl rfl dX7_show_53 ?_
    refine gfX7_138 (i := 2) (j := 0) (v := .int (q42 0 2)) C rfl rfl rfl dX7_show_56 ?_
    exact hR _ (Option.some.inj h) _ _ dX7_show_59
  · refine G.ldc C k_591 dX7_show_23 ?_
    refine G.aload_n C dX7_show_25 1 rfl ?_
    refine gfX7_19 (i := 0) (j := 0) (v := .ref (ad 2 0)) C rfl rfl rfl dX7_show_26 ?_
    obtain ⟨q29, hq29, h⟩ := bind_some' h
    refine G.cvI (i0 := 1) (j0 := 0) (cs' := [wRL t ad vR, wTape t ad q16, wStage t (ad 3) vS, wStage t (ad 4) (q8.2.2), wActs t ad vA]) C (c_X6_faultPlace (ad := ad) hq29) [1] rfl rfl rfl rfl rfl rfl rfl k_592 cal_X6_faultPlace (fit_rm (by decide) (by decide)) rfl (Nat.le_of_ble_eq_true rfl) dX7_show_29 ?_
    refine G.isub C dX7_show_32 ?_
    exact hR _ (Option.some.inj h) _ _ dX7_show_33
set_option maxHeartbeats 2000000 in
set_option maxRecDepth 20000 in
theorem c_X7_fault {t : Nat → ClassId} {ad : Nat → Nat → Nat} {N : Nat} {vR : SV} {vT : SV} {r : Int32} (h : F_X7_fault N vR vT = some r) : CI t yX7_fault cX7_fault 1 (some .int) (rm 2) [.ref (ad 0 0)] [wRL t ad vR, wTape t ad vT] r [wRL t ad vR, wTape t ad vT] := by
  refine CI.of (own := RX7) (by decide) rfl (Nat.le_of_ble_eq_true rfl) (fun X C hR0 => ?_)
  have hR : ∀ q : Int32, q = r → RetI X cX7_fault q [wRL t ad vR, wTape t ad vT] := by intro q e; subst e; exact hR0
  show G X [wRL t ad vR, wTape t ad vT] 0 [(0, .ref (ad 0 0))] []
  unfold F_X7_fault at h
  refine G.aload_n C dX7_fault_0 0 rfl ?_
  refine gfX7_19 (i := 0) (j := 0) (v := .ref (ad 2 0)) C rfl rfl rfl dX7_fault_1 ?_
  obtain ⟨q4, hq4, h⟩ := bind_some' h
  refine G.cvI (i0 := 1) (j0 := 0) (cs' := [wRL t ad vR, wTape t ad vT]) C (c_X6_latestFault (ad := ad) hq4) [1] rfl rfl rfl rfl rfl rfl rfl k_610 cal_X6_latestFault (fit_rm (by decide) (by decide)) rfl (Nat.le_of_ble_eq_true rfl) dX7_fault_4 ?_
  exact hR _ (Option.some.inj h) _ _ dX7_fault_7
set_option maxHeartbeats 2000000 in
set_option maxRecDepth 20000 in
theorem c_X7_undo {t : Nat → ClassId} {ad : Nat → Nat → Nat} {N : Nat} {vR : SV} {vS : SV} {vA : SV} {gA : (Nat → SV)} {r : Int32 × SV × SV} (h : F_X7_undo N vR vS vA gA = some r) : CI t yX7_undo cX7_undo 1 (some .int) (rm 3) [.ref (ad 0 0)] ([wRL t ad vR, wStage t (ad 3) vS, wActs t ad vA] ++ fRing t ad gA) (r.1) ([wRL t ad vR, wStage t (ad 3) (r.2.1), wActs t ad (r.2.2)] ++ fRing t ad gA) := by
  refine CI.of (own := RX7) (by decide) rfl (Nat.le_of_ble_eq_true rfl) (fun X C hR0 => ?_)
  have hR : ∀ q : Int32 × SV × SV, q = r → RetI X cX7_undo (q.1) ([wRL t ad vR, wStage t (ad 3) (q.2.1), wActs t ad (q.2.2)] ++ fRing t ad gA) := by intro q e; subst e; exact hR0
  show G X ([wRL t ad vR, wStage t (ad 3) vS, wActs t ad vA] ++ fRing t ad gA) 0 [(0, .ref (ad 0 0))] []
  unfold F_X7_undo at h
  refine G.aload_n C dX7_undo_0 0 rfl ?_
  refine gfX7_36 (i := 0) (j := 0) (v := .ref (ad 5 0)) C rfl rfl rfl dX7_undo_1 ?_
  obtain ⟨q4, hq4, h⟩ := bind_some' h
  refine G.cvI (i0 := 2) (j0 := 0) (cs' := ([wRL t ad vR, wStage t (ad 3) vS, wActs t ad vA] ++ fRing t ad gA)) C (c_X0_kept (ad := ad) hq4) [2] rfl rfl rfl rfl rfl rfl rfl k_618 cal_X0_kept (fit_rm (by decide) (by decide)) rfl (Nat.le_of_ble_eq_true rfl) dX7_undo_4 ?_
  refine G.if_ne (tgt := 13) C dX7_undo_7 (by decide) h (fun h => ?_) (fun h => ?_)
  · refine G.aload_n C dX7_undo_13 0 rfl ?_
    refine gfX7_36 (i := 0) (j := 0) (v := .ref (ad 5 0)) C rfl rfl rfl dX7_undo_14 ?_
    refine G.aload_n C dX7_undo_17 0 rfl ?_
    refine gfX7_26 (i := 0) (j := 0) (v := .ref (ad 3 0)) C rfl rfl rfl dX7_undo_18 ?_
    obtain ⟨q21, hq21, h⟩ := bind_some' h
    refine G.cvV (i0 := 2) (j0 := 0) (cs' := ([wRL t ad vR, wStage t (ad 3) (q21.1), wActs t ad (q21.2)] ++ fRing t ad gA)) C (c_X0_takeBack (ad := ad) hq21) ([1, 2] ++ (List.range 24).map (fun k => 3 + k)) (famJ rfl fSt_len rfl) (by decide) (famA rfl fSt_ads) (famC rfl rfl rfl fSt_len fSt_len) rfl rfl rfl k_623 cal_X0_takeBack (fit_rm (by decide) (by decide)) rfl (Nat.le_of_ble_eq_true rfl) dX7_undo_21 ?_
    refine G.aload_n C dX7_undo_24 0 rfl ?_
    refine gfX7_36 (i := 0) (j := 0) (v := .ref (ad 5 0)) C rfl rfl rfl dX7_undo_25 ?_
    obtain ⟨q28, hq28, h⟩ := bind_some' h
    refine G.cvI (i0 := 2) (j0 := 0) (cs' := ([wRL t ad vR, wStage t (ad 3) (q21.1), wActs t ad (q21.2)] ++ fRing t ad gA)) C (c_X0_kept (ad := ad) hq28) [2] rfl rfl rfl rfl rfl rfl rfl k_618 cal_X0_kept (fit_rm (by decide) (by decide)) rfl (Nat.le_of_ble_eq_true rfl) dX7_undo_28 ?_
    exact hR _ (Option.some.inj h) _ _ dX7_undo_31
  · refine G.ldc C k_622 dX7_undo_10 ?_
    exact hR _ (Option.some.inj h) _ _ dX7_undo_12
set_option maxHeartbeats 2000000 in
set_option maxRecDepth 20000 in
theorem c_X7_noShow {t : Nat → ClassId} {ad : Nat → Nat → Nat} {N : Nat} {vR : SV} {vS : SV} {r : Int32} (h : F_X7_noShow N vR vS = some r) : CI t yX7_noShow cX7_noShow 1 (some .boolean) (rm 1) [.ref (ad 0 0)] [wRL t ad vR, wStage t (ad 3) vS] r [wRL t ad vR, wStage t (ad 3) vS] := by
  refine CZ.of (own := RX7) (by decide) rfl (Nat.le_of_ble_eq_true rfl) (fun X C hR0 => ?_)
  have hR : ∀ q : Int32, q = r → RetZ X cX7_noShow q [wRL t ad vR, wStage t (ad 3) vS] := by intro q e; subst e; exact hR0
  show G X [wRL t ad vR, wStage t (ad 3) vS] 0 [(0, .ref (ad 0 0))] []
  unfold F_X7_noShow at h
  refine G.aload_n C dX7_noShow_0 0 rfl ?_
  refine gfX7_26 (i := 0) (j := 0) (v := .ref (ad 3 0)) C rfl rfl rfl dX7_noShow_1 ?_
  refine gfX7_138 (i := 1) (j := 0) (v := .int (vS 0 2)) C rfl rfl rfl dX7_noShow_4 ?_
  refine G.if_ne (tgt := 14) C dX7_noShow_7 (by decide) h (fun h => ?_) (fun h => ?_)
  · refine G.iconst C dX7_noShow_14 ni_0 ?_
    exact hR _ (Option.some.inj h) (Or.inl rfl) _ _ dX7_noShow_15
  · refine G.iconst C dX7_noShow_10 ni_1 ?_
    refine G.goto (tgt := 15) C dX7_noShow_11 (by decide) ?_
    exact hR _ (Option.some.inj h) (Or.inr rfl) _ _ dX7_noShow_15
set_option maxHeartbeats 2000000 in
set_option maxRecDepth 20000 in
theorem w_X7_taps_L44 {X : Cx} {t : Nat → ClassId} {ad : Nat → Nat → Nat} {N : Nat} {vR : SV} {x1 : Int32} {K73 : SV → SV → (Nat → SV) → Option (Int32 × SV × SV × (Nat → SV))} {r : Int32 × SV × SV × (Nat → SV)} (C : gX X t (rm 4) cX7_taps 3 RX7) (hR : ∀ q : Int32 × SV × SV × (Nat → SV), q = r → RetI X cX7_taps (q.1) ([wRL t ad vR, wStage t (ad 3) (q.2.1), wActs t ad (q.2.2.1)] ++ fRing t ad (q.2.2.2))) (hK73 : ∀ (vS_73 : SV) (vA_73 : SV) (gA_73 : (Nat → SV)), K73 vS_73 vA_73 gA_73 = some r → G X ([wRL t ad vR, wStage t (ad 3) vS_73, wActs t ad vA_73] ++ fRing t ad gA_73) 73 [(0, .ref (ad 0 0))] []) : ∀ (n : Nat) (x2 : Int32) (vS : SV) (vA : SV) (gA : (Nat → SV)), F_X7_taps_L44 N vR x1 K73 n x2 vS vA gA = some r → G X ([wRL t ad vR, wStage t (ad 3) vS, wActs t ad vA] ++ fRing t ad gA) 44 [(0, .ref (ad 0 0)), (1, .int x1), (2, .int x2)] [] := by
  intro n
  induction n with
  | zero => intro x2 vS vA gA h; exact absurd h (by simp [F_X7_taps_L44])
  | succ n ih =>
    intro x2 vS vA gA h
    rw [F_X7_taps_L44] at h
    refine G.iload_n C dX7_taps_44 2 rfl ?_
    refine G.iload_n C dX7_taps_45 1 rfl ?_
    refine G.icmp_ge (tgt := 73) C dX7_taps_46 (by decide) h (fun h => ?_) (fun h => ?_)
    · exact G.lvs [0] rfl (hK73 _ _ _ h)
    · refine G.aload_n C dX7_taps_49 0 rfl ?_
      refine gfX7_36 (i := 0) (j := 0) (v := .ref (ad 5 0)) C rfl rfl rfl dX7_taps_50 ?_
      refine G.aload_n C dX7_taps_53 0 rfl ?_
      refine gfX7_26 (i := 0) (j := 0) (v := .ref (ad 3 0)) C rfl rfl rfl dX7_taps_54 ?_
      obtain ⟨q57, hq57, h⟩ := bind_some' h
      refine G.cvV (i0 := 2) (j0 := 0) (cs' := ([wRL t ad vR, wStage t (ad 3) vS, wActs t ad (q57.1)] ++ fRing t ad (q57.2))) C (c_X0_keep (ad := ad) hq57) ([1, 2] ++ (List.range 24).map (fun k => 3 + k)) (famJ rfl fSt_len rfl) (by decide) (famA rfl fSt_ads) (famC rfl rfl rfl fSt_len fSt_len) rfl rfl rfl k_636 cal_X0_keep (fit_rm (by decide) (by decide)) rfl (Nat.le_of_ble_eq_true rfl) dX7_taps_57 ?_
      refine G.aload_n C dX7_taps_60 0 rfl ?_
      refine gfX7_26 (i := 0) (j := 0) (v := .ref (ad 3 0)) C rfl rfl rfl dX7_taps_61 ?_
      obtain ⟨q64, hq64, h⟩ := bind_some' h
      refine G.cvV (i0 := 1) (j0 := 0) (cs' := ([wRL t ad vR, wStage t (ad 3) q64, wActs t ad (q57.1)] ++ fRing t ad (q57.2))) C (c_X5_tapOnce (a := (ad 3)) hq64) [1] rfl rfl rfl rfl rfl rfl rfl k_641 cal_X5_tapOnce (fit_rm (by decide) (by decide)) rfl (Nat.le_of_ble_eq_true rfl) dX7_taps_64 ?_
      refine G.iinc (v := (x2 + (1 : Int32))) (lv' := [(2, .int (x2 + (1 : Int32))), (0, .ref (ad 0 0)), (1, .int x1)]) C dX7_taps_67 2 rfl (by rw [ni_1]) (by decide) rfl ?_
      refine G.goto (tgt := 44) C dX7_taps_70 (by decide) ?_
      exact G.lvs [1, 2, 0] rfl (ih _ _ _ _ h)
set_option maxHeartbeats 2000000 in
set_option maxRecDepth 20000 in
theorem c_X7_taps {t : Nat → ClassId} {ad : Nat → Nat → Nat} {N : Nat} {vR : SV} {vS : SV} {vA : SV} {gA : (Nat → SV)} {x1 : Int32} {r : Int32 × SV × SV × (Nat → SV)} (h : F_X7_taps N vR vS vA gA x1 = some r) : CI t yX7_taps cX7_taps 3 (some .int) (rm 4) [.ref (ad 0 0), .int x1] ([wRL t ad vR, wStage t (ad 3) vS, wActs t ad vA] ++ fRing t ad gA) (r.1) ([wRL t ad vR, wStage t (ad 3) (r.2.1), wActs t ad (r.2.2.1)] ++ fRing t ad (r.2.2.2)) := by
  refine CI.of (own := RX7) (by decide) rfl (Nat.le_of_ble_eq_true rfl) (fun X C hR0 => ?_)
  have hR : ∀ q : Int32 × SV × SV × (Nat → SV), q = r → RetI X cX7_taps (q.1) ([wRL t ad vR, wStage t (ad 3) (q.2.1), wActs t ad (q.2.2.1)] ++ fRing t ad (q.2.2.2)) := by intro q e; subst e; exact hR0
  show G X ([wRL t ad vR, wStage t (ad 3) vS, wActs t ad vA] ++ fRing t ad gA) 0 [(0, .ref (ad 0 0)), (1, .int x1)] []
  unfold F_X7_taps at h
  refine G.aload_n C dX7_taps_0 0 rfl ?_
  obtain ⟨q1, hq1, h⟩ := bind_some' h
  refine G.cvI (i0 := 0) (j0 := 0) (cs' := ([wRL t ad vR, wStage t (ad 3) vS, wActs t ad vA] ++ fRing t ad gA)) C (c_X7_noShow (ad := ad) hq1) [0, 1] rfl rfl rfl rfl rfl rfl rfl k_632 cal_X7_noShow (fit_rm (by decide) (by decide)) rfl (Nat.le_of_ble_eq_true rfl) dX7_taps_1 ?_
  refine G.if_eq (tgt := 10) C dX7_taps_4 (by decide) h (fun h => ?_) (fun h => ?_)
  · refine G.iload_n C dX7_taps_10 1 rfl ?_
    refine G.iconst C dX7_taps_11 ni_1 ?_
    refine G.icmp_lt (tgt := 21) C dX7_taps_12 (by decide) h (fun h => ?_) (fun h => ?_)
    · refine G.ldc C k_369 dX7_taps_21 ?_
      exact hR _ (Option.some.inj h) _ _ dX7_taps_23
    · refine G.iload_n C dX7_taps_15 1 rfl ?_
      refine G.bipush C dX7_taps_16 nb_24 ?_
      refine G.icmp_le (tgt := 24) C dX7_taps_18 (by decide) h (fun h => ?_) (fun h => ?_)
      · refine G.aload_n C dX7_taps_24 0 rfl ?_
        refine gfX7_26 (i := 0) (j := 0) (v := .ref (ad 3 0)) C rfl rfl rfl dX7_taps_25 ?_
        refine gfX7_154 (i := 1) (j := 0) (v := .int (vS 0 5)) C rfl rfl rfl dX7_taps_28 ?_
        refine G.iload_n C dX7_taps_31 1 rfl ?_
        refine G.iadd C dX7_taps_32 ?_
        refine G.sipush C dX7_taps_33 ns_999 ?_
        refine G.icmp_le (tgt := 42) C dX7_taps_36 (by decide) h (fun h => ?_) (fun h => ?_)
        · refine G.iconst C dX7_taps_42 ni_0 ?_
          refine G.istore_n (lv' := [(2, .int (0 : Int32)), (0, .ref (ad 0 0)), (1, .int x1)]) C dX7_taps_43 (by decide) rfl ?_
          refine G.lvs [1, 2, 0] rfl (w_X7_taps_L44 C hR (fun vS_73 vA_73 gA_73 h => ?_) N _ _ _ _ h)
          · refine G.aload_n C dX7_taps_73 0 rfl ?_
            refine gfX7_26 (i := 0) (j := 0) (v := .ref (ad 3 0)) C rfl rfl rfl dX7_taps_74 ?_
            refine gfX7_163 (i := 1) (j := 0) (v := .int (vS_73 0 6)) C rfl rfl rfl dX7_taps_77 ?_
            exact hR _ (Option.some.inj h) _ _ dX7_taps_80
        · refine G.ldc C k_435 dX7_taps_39 ?_
          exact hR _ (Option.some.inj h) _ _ dX7_taps_41
      · refine G.ldc C k_369 dX7_taps_21 ?_
        exact hR _ (Option.some.inj h) _ _ dX7_taps_23
  · refine G.ldc C k_622 dX7_taps_7 ?_
    exact hR _ (Option.some.inj h) _ _ dX7_taps_9
set_option maxHeartbeats 2000000 in
set_option maxRecDepth 20000 in
theorem c_X7_front {t : Nat → ClassId} {ad : Nat → Nat → Nat} {N : Nat} {vR : SV} {vS : SV} {vA : SV} {gA : (Nat → SV)} {x1 : Int32} {r : Int32 × SV × SV × (Nat → SV)} (h : F_X7_front N vR vS vA gA x1 = some r) : CI t yX7_front cX7_front 3 (some .int) (rm 3) [.ref (ad 0 0), .int x1] ([wRL t ad vR, wStage t (ad 3) vS, wActs t ad vA] ++ fRing t ad gA) (r.1) ([wRL t ad vR, wStage t (ad 3) (r.2.1), wActs t ad (r.2.2.1)] ++ fRing t ad (r.2.2.2)) := by
  refine CI.of (own := RX7) (by decide) rfl (Nat.le_of_ble_eq_true rfl) (fun X C hR0 => ?_)
  have hR : ∀ q : Int32 × SV × SV × (Nat → SV), q = r → RetI X cX7_front (q.1) ([wRL t ad vR, wStage t (ad 3) (q.2.1), wActs t ad (q.2.2.1)] ++ fRing t ad (q.2.2.2)) := by intro q e; subst e; exact hR0
  show G X ([wRL t ad vR, wStage t (ad 3) vS, wActs t ad vA] ++ fRing t ad gA) 0 [(0, .ref (ad 0 0)), (1, .int x1)] []
  unfold F_X7_front at h
  refine G.aload_n C dX7_front_0 0 rfl ?_
  refine gfX7_26 (i := 0) (j := 0) (v := .ref (ad 3 0)) C rfl rfl rfl dX7_front_1 ?_
  refine G.iload_n C dX7_front_4 1 rfl ?_
  obtain ⟨q5, hq5, h⟩ := bind_some' h
  refine G.cvI (i0 := 1) (j0 := 0) (cs' := ([wRL t ad vR, wStage t (ad 3) vS, wActs t ad vA] ++ fRing t ad gA)) C (c_X5_isThing (a := (ad 3)) hq5) [1] rfl rfl rfl rfl rfl rfl rfl k_687 cal_X5_isThing (fit_rm (by decide) (by decide)) rfl (Nat.le_of_ble_eq_true rfl) dX7_front_5 ?_
  refine G.if_ne (tgt := 14) C dX7_front_8 (by decide) h (fun h => ?_) (fun h => ?_)
  · refine G.aload_n C dX7_front_14 0 rfl ?_
    refine gfX7_26 (i := 0) (j := 0) (v := .ref (ad 3 0)) C rfl rfl rfl dX7_front_15 ?_
    refine G.iload_n C dX7_front_18 1 rfl ?_
    obtain ⟨q19, hq19, h⟩ := bind_some' h
    refine G.cvI (i0 := 1) (j0 := 0) (cs' := ([wRL t ad vR, wStage t (ad 3) vS, wActs t ad vA] ++ fRing t ad gA)) C (c_X5_placeOf (a := (ad 3)) hq19) [1] rfl rfl rfl rfl rfl rfl rfl k_688 cal_X5_placeOf (fit_rm (by decide) (by decide)) rfl (Nat.le_of_ble_eq_true rfl) dX7_front_19 ?_
    refine G.istore_n (lv' := [(2, .int q19), (0, .ref (ad 0 0)), (1, .int x1)]) C dX7_front_22 (by decide) rfl ?_
    refine G.iload_n C dX7_front_23 0 rfl ?_
    refine G.if_ge (tgt := 30) C dX7_front_24 (by decide) h (fun h => ?_) (fun h => ?_)
    · refine G.aload_n C dX7_front_30 1 rfl ?_
      refine gfX7_36 (i := 0) (j := 0) (v := .ref (ad 5 0)) C rfl rfl rfl dX7_front_31 ?_
      refine G.aload_n C dX7_front_34 1 rfl ?_
      refine gfX7_26 (i := 0) (j := 0) (v := .ref (ad 3 0)) C rfl rfl rfl dX7_front_35 ?_
      obtain ⟨q38, hq38, h⟩ := bind_some' h
      refine G.cvV (i0 := 2) (j0 := 0) (cs' := ([wRL t ad vR, wStage t (ad 3) vS, wActs t ad (q38.1)] ++ fRing t ad (q38.2))) C (c_X0_keep (ad := ad) hq38) ([1, 2] ++ (List.range 24).map (fun k => 3 + k)) (famJ rfl fSt_len rfl) (by decide) (famA rfl fSt_ads) (famC rfl rfl rfl fSt_len fSt_len) rfl rfl rfl k_636 cal_X0_keep (fit_rm (by decide) (by decide)) rfl (Nat.le_of_ble_eq_true rfl) dX7_front_38 ?_
      refine G.aload_n C dX7_front_41 1 rfl ?_
      refine gfX7_26 (i := 0) (j := 0) (v := .ref (ad 3 0)) C rfl rfl rfl dX7_front_42 ?_
      refine G.iload_n C dX7_front_45 2 rfl ?_
      obtain ⟨q46, hq46, h⟩ := bind_some' h
      refine G.cvV (i0 := 1) (j0 := 0) (cs' := ([wRL t ad vR, wStage t (ad 3) q46, wActs t ad (q38.1)] ++ fRing t ad (q38.2))) C (c_X5_putFirst (a := (ad 3)) hq46) [1] rfl rfl rfl rfl rfl rfl rfl k_692 cal_X5_putFirst (fit_rm (by decide) (by decide)) rfl (Nat.le_of_ble_eq_true rfl) dX7_front_46 ?_
      refine G.iload_n C dX7_front_49 0 rfl ?_
      exact hR _ (Option.some.inj h) _ _ dX7_front_50
    · refine G.ldc C k_622 dX7_front_27 ?_
      exact hR _ (Option.some.inj h) _ _ dX7_front_29
  · refine G.ldc C k_369 dX7_front_11 ?_
    exact hR _ (Option.some.inj h) _ _ dX7_front_13
set_option maxHeartbeats 2000000 in
set_option maxRecDepth 20000 in
theorem c_X7_off {t : Nat → ClassId} {ad : Nat → Nat → Nat} {N : Nat} {vR : SV} {vS : SV} {vA : SV} {gA : (Nat → SV)} {x1 : Int32} {r : Int32 × SV × SV × (Nat → SV)} (h : F_X7_off N vR vS vA gA x1 = some r) : CI t yX7_off cX7_off 3 (some .int) (rm 3) [.ref (ad 0 0), .int x1] ([wRL t ad vR, wStage t (ad 3) vS, wActs t ad vA] ++ fRing t ad gA) (r.1) ([wRL t ad vR, wStage t (ad 3) (r.2.1), wActs t ad (r.2.2.1)] ++ fRing t ad (r.2.2.2)) := by
  refine CI.of (own := RX7) (by decide) rfl (Nat.le_of_ble_eq_true rfl) (fun X C hR0 => ?_)
  have hR : ∀ q : Int32 × SV × SV × (Nat → SV), q = r → RetI X cX7_off (q.1) ([wRL t ad vR, wStage t (ad 3) (q.2.1), wActs t ad (q.2.2.1)] ++ fRing t ad (q.2.2.2)) := by intro q e; subst e; exact hR0
  show G X ([wRL t ad vR, wStage t (ad 3) vS, wActs t ad vA] ++ fRing t ad gA) 0 [(0, .ref (ad 0 0)), (1, .int x1)] []
  unfold F_X7_off at h
  refine G.aload_n C dX7_off_0 0 rfl ?_
  refine gfX7_26 (i := 0) (j := 0) (v := .ref (ad 3 0)) C rfl rfl rfl dX7_off_1 ?_
  refine G.iload_n C dX7_off_4 1 rfl ?_
  obtain ⟨q5, hq5, h⟩ := bind_some' h
  refine G.cvI (i0 := 1) (j0 := 0) (cs' := ([wRL t ad vR, wStage t (ad 3) vS, wActs t ad vA] ++ fRing t ad gA)) C (c_X5_isThing (a := (ad 3)) hq5) [1] rfl rfl rfl rfl rfl rfl rfl k_687 cal_X5_isThing (fit_rm (by decide) (by decide)) rfl (Nat.le_of_ble_eq_true rfl) dX7_off_5 ?_
  refine G.if_ne (tgt := 14) C dX7_off_8 (by decide) h (fun h => ?_) (fun h => ?_)
  · refine G.aload_n C dX7_off_14 0 rfl ?_
    refine gfX7_26 (i := 0) (j := 0) (v := .ref (ad 3 0)) C rfl rfl rfl dX7_off_15 ?_
    refine G.iload_n C dX7_off_18 1 rfl ?_
    obtain ⟨q19, hq19, h⟩ := bind_some' h
    refine G.cvI (i0 := 1) (j0 := 0) (cs' := ([wRL t ad vR, wStage t (ad 3) vS, wActs t ad vA] ++ fRing t ad gA)) C (c_X5_placeOf (a := (ad 3)) hq19) [1] rfl rfl rfl rfl rfl rfl rfl k_688 cal_X5_placeOf (fit_rm (by decide) (by decide)) rfl (Nat.le_of_ble_eq_true rfl) dX7_off_19 ?_
    refine G.istore_n (lv' := [(2, .int q19), (0, .ref (ad 0 0)), (1, .int x1)]) C dX7_off_22 (by decide) rfl ?_
    refine G.iload_n C dX7_off_23 0 rfl ?_
    refine G.if_ge (tgt := 30) C dX7_off_24 (by decide) h (fun h => ?_) (fun h => ?_)
    · refine G.aload_n C dX7_off_30 1 rfl ?_
      refine gfX7_36 (i := 0) (j := 0) (v := .ref (ad 5 0)) C rfl rfl rfl dX7_off_31 ?_
      refine G.aload_n C dX7_off_34 1 rfl ?_
      refine gfX7_26 (i := 0) (j := 0) (v := .ref (ad 3 0)) C rfl rfl rfl dX7_off_35 ?_
      obtain ⟨q38, hq38, h⟩ := bind_some' h
      refine G.cvV (i0 := 2) (j0 := 0) (cs' := ([wRL t ad vR, wStage t (ad 3) vS, wActs t ad (q38.1)] ++ fRing t ad (q38.2))) C (c_X0_keep (ad := ad) hq38) ([1, 2] ++ (List.range 24).map (fun k => 3 + k)) (famJ rfl fSt_len rfl) (by decide) (famA rfl fSt_ads) (famC rfl rfl rfl fSt_len fSt_len) rfl rfl rfl k_636 cal_X0_keep (fit_rm (by decide) (by decide)) rfl (Nat.le_of_ble_eq_true rfl) dX7_off_38 ?_
      refine G.aload_n C dX7_off_41 1 rfl ?_
      refine gfX7_26 (i := 0) (j := 0) (v := .ref (ad 3 0)) C rfl rfl rfl dX7_off_42 ?_
      refine G.iload_n C dX7_off_45 2 rfl ?_
      obtain ⟨q46, hq46, h⟩ := bind_some' h
      refine G.cvV (i0 := 1) (j0 := 0) (cs' := ([wRL t ad vR, wStage t (ad 3) q46, wActs t ad (q38.1)] ++ fRing t ad (q38.2))) C (c_X5_takeOff (a := (ad 3)) hq46) [1] rfl rfl rfl rfl rfl rfl rfl k_700 cal_X5_takeOff (fit_rm (by decide) (by decide)) rfl (Nat.le_of_ble_eq_true rfl) dX7_off_46 ?_
      refine G.iload_n C dX7_off_49 0 rfl ?_
      exact hR _ (Option.some.inj h) _ _ dX7_off_50
    · refine G.ldc C k_622 dX7_off_27 ?_
      exact hR _ (Option.some.inj h) _ _ dX7_off_29
  · refine G.ldc C k_369 dX7_off_11 ?_
    exact hR _ (Option.some.inj h) _ _ dX7_off_13
set_option maxHeartbeats 2000000 in
set_option maxRecDepth 20000 in
theorem c_X7_back {t : Nat → ClassId} {ad : Nat → Nat → Nat} {N : Nat} {vR : SV} {vS : SV} {vA : SV} {gA : (Nat → SV)} {x1 : Int32} {r : Int32 × SV × SV × (Nat → SV)} (h : F_X7_back N vR vS vA gA x1 = some r) : CI t yX7_back cX7_back 2 (some .int) (rm 3) [.ref (ad 0 0), .int x1] ([wRL t ad vR, wStage t (ad 3) vS, wActs t ad vA] ++ fRing t ad gA) (r.1) ([wRL t ad vR, wStage t (ad 3) (r.2.1), wActs t ad (r.2.2.1)] ++ fRing t ad (r.2.2.2)) := by
  refine CI.of (own := RX7) (by decide) rfl (Nat.le_of_ble_eq_true rfl) (fun X C hR0 => ?_)
  have hR : ∀ q : Int32 × SV × SV × (Nat → SV), q = r → RetI X cX7_back (q.1) ([wRL t ad vR, wStage t (ad 3) (q.2.1), wActs t ad (q.2.2.1)] ++ fRing t ad (q.2.2.2)) := by intro q e; subst e; exact hR0
  show G X ([wRL t ad vR, wStage t (ad 3) vS, wActs t ad vA] ++ fRing t ad gA) 0 [(0, .ref (ad 0 0)), (1, .int x1)] []
  unfold F_X7_back at h
  refine G.aload_n C dX7_back_0 0 rfl ?_
  refine gfX7_26 (i := 0) (j := 0) (v := .ref (ad 3 0)) C rfl rfl rfl dX7_back_1 ?_
  refine G.iload_n C dX7_back_4 1 rfl ?_
  obtain ⟨q5, hq5, h⟩ := bind_some' h
  refine G.cvI (i0 := 1) (j0 := 0) (cs' := ([wRL t ad vR, wStage t (ad 3) vS, wActs t ad vA] ++ fRing t ad gA)) C (c_X5_isThing (a := (ad 3)) hq5) [1] rfl rfl rfl rfl rfl rfl rfl k_687 cal_X5_isThing (fit_rm (by decide) (by decide)) rfl (Nat.le_of_ble_eq_true rfl) dX7_back_5 ?_
  refine G.if_ne (tgt := 14) C dX7_back_8 (by decide) h (fun h => ?_) (fun h => ?_)
  · refine G.aload_n C dX7_back_14 0 rfl ?_
    refine gfX7_26 (i := 0) (j := 0) (v := .ref (ad 3 0)) C rfl rfl rfl dX7_back_15 ?_
    refine G.iload_n C dX7_back_18 1 rfl ?_
    obtain ⟨q19, hq19, h⟩ := bind_some' h
    refine G.cvI (i0 := 1) (j0 := 0) (cs' := ([wRL t ad vR, wStage t (ad 3) vS, wActs t ad vA] ++ fRing t ad gA)) C (c_X5_placeOf (a := (ad 3)) hq19) [1] rfl rfl rfl rfl rfl rfl rfl k_688 cal_X5_placeOf (fit_rm (by decide) (by decide)) rfl (Nat.le_of_ble_eq_true rfl) dX7_back_19 ?_
    refine G.if_lt (tgt := 28) C dX7_back_22 (by decide) h (fun h => ?_) (fun h => ?_)
    · refine G.aload_n C dX7_back_28 0 rfl ?_
      refine gfX7_36 (i := 0) (j := 0) (v := .ref (ad 5 0)) C rfl rfl rfl dX7_back_29 ?_
      refine G.aload_n C dX7_back_32 0 rfl ?_
      refine gfX7_26 (i := 0) (j := 0) (v := .ref (ad 3 0)) C rfl rfl rfl dX7_back_33 ?_
      obtain ⟨q36, hq36, h⟩ := bind_some' h
      refine G.cvV (i0 := 2) (j0 := 0) (cs' := ([wRL t ad vR, wStage t (ad 3) vS, wActs t ad (q36.1)] ++ fRing t ad (q36.2))) C (c_X0_keep (ad := ad) hq36) ([1, 2] ++ (List.range 24).map (fun k => 3 + k)) (famJ rfl fSt_len rfl) (by decide) (famA rfl fSt_ads) (famC rfl rfl rfl fSt_len fSt_len) rfl rfl rfl k_636 cal_X0_keep (fit_rm (by decide) (by decide)) rfl (Nat.le_of_ble_eq_true rfl) dX7_back_36 ?_
      refine G.aload_n C dX7_back_39 0 rfl ?_
      refine gfX7_26 (i := 0) (j := 0) (v := .ref (ad 3 0)) C rfl rfl rfl dX7_back_40 ?_
      refine G.iload_n C dX7_back_43 1 rfl ?_
      obtain ⟨q44, hq44, h⟩ := bind_some' h
      refine G.cvV (i0 := 1) (j0 := 0) (cs' := ([wRL t ad vR, wStage t (ad 3) q44, wActs t ad (q36.1)] ++ fRing t ad (q36.2))) C (c_X5_putLast (a := (ad 3)) hq44) [1] rfl rfl rfl rfl rfl rfl rfl k_705 cal_X5_putLast (fit_rm (by decide) (by decide)) rfl (Nat.le_of_ble_eq_true rfl) dX7_back_44 ?_
      refine G.aload_n C dX7_back_47 0 rfl ?_
      refine gfX7_26 (i := 0) (j := 0) (v := .ref (ad 3 0)) C rfl rfl rfl dX7_back_48 ?_
      refine gfX7_182 (i := 1) (j := 0) (v := .int (q44 0 4)) C rfl rfl rfl dX7_back_51 ?_
      exact hR _ (Option.some.inj h) _ _ dX7_back_54
    · refine G.ldc C k_622 dX7_back_25 ?_
      exact hR _ (Option.some.inj h) _ _ dX7_back_27
  · refine G.ldc C k_369 dX7_back_11 ?_
    exact hR _ (Option.some.inj h) _ _ dX7_back_13
set_option maxHeartbeats 2000000 in
set_option maxRecDepth 20000 in
theorem c_X7_sit {t : Nat → ClassId} {ad : Nat → Nat → Nat} {N : Nat} {vR : SV} {vS : SV} {vA : SV} {gA : (Nat → SV)} {x1 : Int32} {x2 : Int32} {x3 : Int32} {r : Int32 × SV × SV × (Nat → SV)} (h : F_X7_sit N vR vS vA gA x1 x2 x3 = some r) : CI t yX7_sit cX7_sit 4 (some .int) (rm 3) [.ref (ad 0 0), .int x1, .int x2, .int x3] ([wRL t ad vR, wStage t (ad 3) vS, wActs t ad vA] ++ fRing t ad gA) (r.1) ([wRL t ad vR, wStage t (ad 3) (r.2.1), wActs t ad (r.2.2.1)] ++ fRing t ad (r.2.2.2)) := by
  refine CI.of (own := RX7) (by decide) rfl (Nat.le_of_ble_eq_true rfl) (fun X C hR0 => ?_)
  have hR : ∀ q : Int32 × SV × SV × (Nat → SV), q = r → RetI X cX7_sit (q.1) ([wRL t ad vR, wStage t (ad 3) (q.2.1), wActs t ad (q.2.2.1)] ++ fRing t ad (q.2.2.2)) := by intro q e; subst e; exact hR0
  show G X ([wRL t ad vR, wStage t (ad 3) vS, wActs t ad vA] ++ fRing t ad gA) 0 [(0, .ref (ad 0 0)), (1, .int x1), (2, .int x2), (3, .int x3)] []
  unfold F_X7_sit at h
  refine G.aload_n C dX7_sit_0 0 rfl ?_
  refine gfX7_26 (i := 0) (j := 0) (v := .ref (ad 3 0)) C rfl rfl rfl dX7_sit_1 ?_
  refine G.iload_n C dX7_sit_4 1 rfl ?_
  obtain ⟨q5, hq5, h⟩ := bind_some' h
  refine G.cvI (i0 := 1) (j0 := 0) (cs' := ([wRL t ad vR, wStage t (ad 3) vS, wActs t ad vA] ++ fRing t ad gA)) C (c_X5_isSeat (a := (ad 3)) hq5) [1] rfl rfl rfl rfl rfl rfl rfl k_710 cal_X5_isSeat (fit_rm (by decide) (by decide)) rfl (Nat.le_of_ble_eq_true rfl) dX7_sit_5 ?_
  refine G.if_eq (tgt := 21) C dX7_sit_8 (by decide) h (fun h => ?_) (fun h => ?_)
  · refine G.ldc C k_369 dX7_sit_21 ?_
    exact hR _ (Option.some.inj h) _ _ dX7_sit_23
  · refine G.iload_n C dX7_sit_11 2 rfl ?_
    refine G.if_lt (tgt := 21) C dX7_sit_12 (by decide) h (fun h => ?_) (fun h => ?_)
    · refine G.ldc C k_369 dX7_sit_21 ?_
      exact hR _ (Option.some.inj h) _ _ dX7_sit_23
    · refine G.iload_n C dX7_sit_15 2 rfl ?_
      refine G.bipush C dX7_sit_16 nb_9 ?_
      refine G.icmp_le (tgt := 24) C dX7_sit_18 (by decide) h (fun h => ?_) (fun h => ?_)
      · refine G.iload_n C dX7_sit_24 3 rfl ?_
        refine G.iconst C dX7_sit_25 ni_1 ?_
        refine G.icmp_lt (tgt := 35) C dX7_sit_26 (by decide) h (fun h => ?_) (fun h => ?_)
        · refine G.ldc C k_369 dX7_sit_35 ?_
          exact hR _ (Option.some.inj h) _ _ dX7_sit_37
        · refine G.iload_n C dX7_sit_29 3 rfl ?_
          refine G.bipush C dX7_sit_30 nb_20 ?_
          refine G.icmp_le (tgt := 38) C dX7_sit_32 (by decide) h (fun h => ?_) (fun h => ?_)
          · refine G.aload_n C dX7_sit_38 0 rfl ?_
            refine gfX7_26 (i := 0) (j := 0) (v := .ref (ad 3 0)) C rfl rfl rfl dX7_sit_39 ?_
            refine gfX7_188 (i := 1) (j := 0) (v := .ref (ad 3 7)) C rfl rfl rfl dX7_sit_42 ?_
            refine G.iload_n C dX7_sit_45 1 rfl ?_
            refine G.iald (i := 1) (j := 7) (f := (vS 7)) C rfl rfl h dX7_sit_46 (fun h => ?_)
            refine G.if_ne (tgt := 53) C dX7_sit_47 (by decide) h (fun h => ?_) (fun h => ?_)
            · refine G.aload_n C dX7_sit_53 0 rfl ?_
              refine gfX7_36 (i := 0) (j := 0) (v := .ref (ad 5 0)) C rfl rfl rfl dX7_sit_54 ?_
              refine G.aload_n C dX7_sit_57 0 rfl ?_
              refine gfX7_26 (i := 0) (j := 0) (v := .ref (ad 3 0)) C rfl rfl rfl dX7_sit_58 ?_
              obtain ⟨q61, hq61, h⟩ := bind_some' h
              refine G.cvV (i0 := 2) (j0 := 0) (cs' := ([wRL t ad vR, wStage t (ad 3) vS, wActs t ad (q61.1)] ++ fRing t ad (q61.2))) C (c_X0_keep (ad := ad) hq61) ([1, 2] ++ (List.range 24).map (fun k => 3 + k)) (famJ rfl fSt_len rfl) (by decide) (famA rfl fSt_ads) (famC rfl rfl rfl fSt_len fSt_len) rfl rfl rfl k_636 cal_X0_keep (fit_rm (by decide) (by decide)) rfl (Nat.le_of_ble_eq_true rfl) dX7_sit_61 ?_
              refine G.aload_n C dX7_sit_64 0 rfl ?_
              refine gfX7_26 (i := 0) (j := 0) (v := .ref (ad 3 0)) C rfl rfl rfl dX7_sit_65 ?_
              refine G.iload_n C dX7_sit_68 1 rfl ?_
              refine G.iload_n C dX7_sit_69 2 rfl ?_
              refine G.iload_n C dX7_sit_70 3 rfl ?_
              obtain ⟨q71, hq71, h⟩ := bind_some' h
              refine G.cvV (i0 := 1) (j0 := 0) (cs' := ([wRL t ad vR, wStage t (ad 3) q71, wActs t ad (q61.1)] ++ fRing t ad (q61.2))) C (c_X5_takeAnew (a := (ad 3)) hq71) [1] rfl rfl rfl rfl rfl rfl rfl k_714 cal_X5_takeAnew (fit_rm (by decide) (by decide)) rfl (Nat.le_of_ble_eq_true rfl) dX7_sit_71 ?_
              refine G.aload_n C dX7_sit_74 0 rfl ?_
              refine gfX7_26 (i := 0) (j := 0) (v := .ref (ad 3 0)) C rfl rfl rfl dX7_sit_75 ?_
              refine G.iconst C dX7_sit_78 ni_0 ?_
              obtain ⟨q79, hq79, h⟩ := bind_some' h
              refine G.cvI (i0 := 1) (j0 := 0) (cs' := ([wRL t ad vR, wStage t (ad 3) q71, wActs t ad (q61.1)] ++ fRing t ad (q61.2))) C (c_X5_seatsThat (a := (ad 3)) hq79) [1] rfl rfl rfl rfl rfl rfl rfl k_715 cal_X5_seatsThat (fit_rm (by decide) (by decide)) rfl (Nat.le_of_ble_eq_true rfl) dX7_sit_79 ?_
              exact hR _ (Option.some.inj h) _ _ dX7_sit_82
            · refine G.ldc C k_622 dX7_sit_50 ?_
              exact hR _ (Option.some.inj h) _ _ dX7_sit_52
          · refine G.ldc C k_369 dX7_sit_35 ?_
            exact hR _ (Option.some.inj h) _ _ dX7_sit_37
      · refine G.ldc C k_369 dX7_sit_21 ?_
        exact hR _ (Option.some.inj h) _ _ dX7_sit_23
set_option maxHeartbeats 2000000 in
set_option maxRecDepth 20000 in
theorem c_X7_orNone {t : Nat → ClassId} {N : Nat} {x0 : Int32} {r : Int32} (h : F_X7_orNone N x0 = some r) : CI t yX7_orNone cX7_orNone 1 (some .int) (rm 1) [.int x0] [] r [] := by
  refine CI.of (own := RX7) (by decide) rfl (Nat.le_of_ble_eq_true rfl) (fun X C hR0 => ?_)
  have hR : ∀ q : Int32, q = r → RetI X cX7_orNone q [] := by intro q e; subst e; exact hR0
  show G X [] 0 [(0, .int x0)] []
  unfold F_X7_orNone at h
  refine G.iload_n C dX7_orNone_0 0 rfl ?_
  refine G.if_ge (tgt := 9) C dX7_orNone_1 (by decide) h (fun h => ?_) (fun h => ?_)
  · refine G.iload_n C dX7_orNone_9 0 rfl ?_
    exact hR _ (Option.some.inj h) _ _ dX7_orNone_10
  · refine G.ldc C k_723 dX7_orNone_4 ?_
    refine G.goto (tgt := 10) C dX7_orNone_6 (by decide) ?_
    exact hR _ (Option.some.inj h) _ _ dX7_orNone_10
set_option maxHeartbeats 2000000 in
set_option maxRecDepth 20000 in
theorem c_X7_thing {t : Nat → ClassId} {ad : Nat → Nat → Nat} {N : Nat} {vR : SV} {vS : SV} {x1 : Int32} {x2 : Int32} {r : Int32} (h : F_X7_thing N vR vS x1 x2 = some r) : CI t yX7_thing cX7_thing 3 (some .int) (rm 2) [.ref (ad 0 0), .int x1, .int x2] [wRL t ad vR, wStage t (ad 3) vS] r [wRL t ad vR, wStage t (ad 3) vS] := by
  refine CI.of (own := RX7) (by decide) rfl (Nat.le_of_ble_eq_true rfl) (fun X C hR0 => ?_)
  have hR : ∀ q : Int32, q = r → RetI X cX7_thing q [wRL t ad vR, wStage t (ad 3) vS] := by intro q e; subst e; exact hR0
  show G X [wRL t ad vR, wStage t (ad 3) vS] 0 [(0, .ref (ad 0 0)), (1, .int x1), (2, .int x2)] []
  unfold F_X7_thing at h
  refine G.aload_n C dX7_thing_0 0 rfl ?_
  refine gfX7_26 (i := 0) (j := 0) (v := .ref (ad 3 0)) C rfl rfl rfl dX7_thing_1 ?_
  refine G.iload_n C dX7_thing_4 1 rfl ?_
  obtain ⟨q5, hq5, h⟩ := bind_some' h
  refine G.cvI (i0 := 1) (j0 := 0) (cs' := [wRL t ad vR, wStage t (ad 3) vS]) C (c_X5_isThing (a := (ad 3)) hq5) [1] rfl rfl rfl rfl rfl rfl rfl k_687 cal_X5_isThing (fit_rm (by decide) (by decide)) rfl (Nat.le_of_ble_eq_true rfl) dX7_thing_5 ?_
  refine G.if_ne (tgt := 14) C dX7_thing_8 (by decide) h (fun h => ?_) (fun h => ?_)
  · refine G.iload_n C dX7_thing_14 2 rfl ?_
    by_cases e_0 : x2 = 0
    · rw [if_pos e_0] at h
      have n_0 : x2.toInt = 0 := by rw [e_0]; decide
      refine G.tableIn (tgt := 48) C dX7_thing_15 (by rw [n_0]; decide) (by rw [n_0]; decide) (by rw [n_0]; rfl) (by decide) ?_
      refine G.aload_n C dX7_thing_48 0 rfl ?_
      refine gfX7_26 (i := 0) (j := 0) (v := .ref (ad 3 0)) C rfl rfl rfl dX7_thing_49 ?_
      refine gfX7_198 (i := 1) (j := 0) (v := .ref (ad 3 2)) C rfl rfl rfl dX7_thing_52 ?_
      refine G.iload_n C dX7_thing_55 1 rfl ?_
      refine G.iald (i := 1) (j := 2) (f := (vS 2)) C rfl rfl h dX7_thing_56 (fun h => ?_)
      exact hR _ (Option.some.inj h) _ _ dX7_thing_57
    rw [if_neg e_0] at h
    by_cases e_1 : x2 = 1
    · rw [if_pos e_1] at h
      have n_1 : x2.toInt = 1 := by rw [e_1]; decide
      refine G.tableIn (tgt := 58) C dX7_thing_15 (by rw [n_1]; decide) (by rw [n_1]; decide) (by rw [n_1]; rfl) (by decide) ?_
      refine G.aload_n C dX7_thing_58 0 rfl ?_
      refine gfX7_26 (i := 0) (j := 0) (v := .ref (ad 3 0)) C rfl rfl rfl dX7_thing_59 ?_
      refine gfX7_201 (i := 1) (j := 0) (v := .ref (ad 3 3)) C rfl rfl rfl dX7_thing_62 ?_
      refine G.iload_n C dX7_thing_65 1 rfl ?_
      refine G.iald (i := 1) (j := 3) (f := (vS 3)) C rfl rfl h dX7_thing_66 (fun h => ?_)
      exact hR _ (Option.some.inj h) _ _ dX7_thing_67
    rw [if_neg e_1] at h
    by_cases e_2 : x2 = 2
    · rw [if_pos e_2] at h
      have n_2 : x2.toInt = 2 := by rw [e_2]; decide
      refine G.tableIn (tgt := 68) C dX7_thing_15 (by rw [n_2]; decide) (by rw [n_2]; decide) (by rw [n_2]; rfl) (by decide) ?_
      refine G.aload_n C dX7_thing_68 0 rfl ?_
      refine gfX7_26 (i := 0) (j := 0) (v := .ref (ad 3 0)) C rfl rfl rfl dX7_thing_69 ?_
      refine gfX7_204 (i := 1) (j := 0) (v := .ref (ad 3 4)) C rfl rfl rfl dX7_thing_72 ?_
      refine G.iload_n C dX7_thing_75 1 rfl ?_
      refine G.iald (i := 1) (j := 4) (f := (vS 4)) C rfl rfl h dX7_thing_76 (fun h => ?_)
      exact hR _ (Option.some.inj h) _ _ dX7_thing_77
    rw [if_neg e_2] at h
    by_cases e_3 : x2 = 3
    · rw [if_pos e_3] at h
      have n_3 : x2.toInt = 3 := by rw [e_3]; decide
      refine G.tableIn (tgt := 78) C dX7_thing_15 (by rw [n_3]; decide) (by rw [n_3]; decide) (by rw [n_3]; rfl) (by decide) ?_
      refine G.aload_n C dX7_thing_78 0 rfl ?_
      refine gfX7_26 (i := 0) (j := 0) (v := .ref (ad 3 0)) C rfl rfl rfl dX7_thing_79 ?_
      refine G.iload_n C dX7_thing_82 1 rfl ?_
      obtain ⟨q83, hq83, h⟩ := bind_some' h
      refine G.cvI (i0 := 1) (j0 := 0) (cs' := [wRL t ad vR, wStage t (ad 3) vS]) C (c_X5_placeOf (a := (ad 3)) hq83) [1] rfl rfl rfl rfl rfl rfl rfl k_688 cal_X5_placeOf (fit_rm (by decide) (by decide)) rfl (Nat.le_of_ble_eq_true rfl) dX7_thing_83 ?_
      obtain ⟨q86, hq86, h⟩ := bind_some' h
      refine G.csI (cs' := [wRL t ad vR, wStage t (ad 3) vS]) C (c_X7_orNone hq86) [] rfl rfl rfl rfl k_720 cal_X7_orNone (fit_rm (by decide) (by decide)) rfl (Nat.le_of_ble_eq_true rfl) dX7_thing_86 ?_
      exact hR _ (Option.some.inj h) _ _ dX7_thing_89
    rw [if_neg e_3] at h
    by_cases e_4 : x2 = 4
    · rw [if_pos e_4] at h
      have n_4 : x2.toInt = 4 := by rw [e_4]; decide
      refine G.tableIn (tgt := 90) C dX7_thing_15 (by rw [n_4]; decide) (by rw [n_4]; decide) (by rw [n_4]; rfl) (by decide) ?_
      refine G.aload_n C dX7_thing_90 0 rfl ?_
      refine gfX7_26 (i := 0) (j := 0) (v := .ref (ad 3 0)) C rfl rfl rfl dX7_thing_91 ?_
      refine G.aload_n C dX7_thing_94 0 rfl ?_
      refine gfX7_26 (i := 0) (j := 0) (v := .ref (ad 3 0)) C rfl rfl rfl dX7_thing_95 ?_
      refine gfX7_198 (i := 1) (j := 0) (v := .ref (ad 3 2)) C rfl rfl rfl dX7_thing_98 ?_
      refine G.iload_n C dX7_thing_101 1 rfl ?_
      refine G.iald (i := 1) (j := 2) (f := (vS 2)) C rfl rfl h dX7_thing_102 (fun h => ?_)
      obtain ⟨q103, hq103, h⟩ := bind_some' h
      refine G.cvI (i0 := 1) (j0 := 0) (cs' := [wRL t ad vR, wStage t (ad 3) vS]) C (c_X5_wanting (a := (ad 3)) hq103) [1] rfl rfl rfl rfl rfl rfl rfl k_724 cal_X5_wanting (fit_rm (by decide) (by decide)) rfl (Nat.le_of_ble_eq_true rfl) dX7_thing_103 ?_
      exact hR _ (Option.some.inj h) _ _ dX7_thing_106
    rw [if_neg e_4] at h
    have n_0 : x2.toInt ≠ 0 := fun h9 => e_0 (Int32.toInt_inj.mp (by rw [h9]; decide))
    have n_1 : x2.toInt ≠ 1 := fun h9 => e_1 (Int32.toInt_inj.mp (by rw [h9]; decide))
    have n_2 : x2.toInt ≠ 2 := fun h9 => e_2 (Int32.toInt_inj.mp (by rw [h9]; decide))
    have n_3 : x2.toInt ≠ 3 := fun h9 => e_3 (Int32.toInt_inj.mp (by rw [h9]; decide))
    have n_4 : x2.toInt ≠ 4 := fun h9 => e_4 (Int32.toInt_inj.mp (by rw [h9]; decide))
    refine G.tableOut (tgt := 107) C dX7_thing_15 (by omega) (by decide) ?_
    refine G.ldc C k_369 dX7_thing_107 ?_
    exact hR _ (Option.some.inj h) _ _ dX7_thing_109
  · refine G.ldc C k_369 dX7_thing_11 ?_
    exact hR _ (Option.some.inj h) _ _ dX7_thing_13
set_option maxHeartbeats 2000000 in
set_option maxRecDepth 20000 in
theorem c_X7_seat {t : Nat → ClassId} {ad : Nat → Nat → Nat} {N : Nat} {vR : SV} {vS : SV} {x1 : Int32} {x2 : Int32} {r : Int32} (h : F_X7_seat N vR vS x1 x2 = some r) : CI t yX7_seat cX7_seat 3 (some .int) (rm 2) [.ref (ad 0 0), .int x1, .int x2] [wRL t ad vR, wStage t (ad 3) vS] r [wRL t ad vR, wStage t (ad 3) vS] := by
  refine CI.of (own := RX7) (by decide) rfl (Nat.le_of_ble_eq_true rfl) (fun X C hR0 => ?_)
  have hR : ∀ q : Int32, q = r → RetI X cX7_seat q [wRL t ad vR, wStage t (ad 3) vS] := by intro q e; subst e; exact hR0
  show G X [wRL t ad vR, wStage t (ad 3) vS] 0 [(0, .ref (ad 0 0)), (1, .int x1), (2, .int x2)] []
  unfold F_X7_seat at h
  refine G.aload_n C dX7_seat_0 0 rfl ?_
  refine gfX7_26 (i := 0) (j := 0) (v := .ref (ad 3 0)) C rfl rfl rfl dX7_seat_1 ?_
  refine G.iload_n C dX7_seat_4 1 rfl ?_
  obtain ⟨q5, hq5, h⟩ := bind_some' h
  refine G.cvI (i0 := 1) (j0 := 0) (cs' := [wRL t ad vR, wStage t (ad 3) vS]) C (c_X5_isSeat (a := (ad 3)) hq5) [1] rfl rfl rfl rfl rfl rfl rfl k_710 cal_X5_isSeat (fit_rm (by decide) (by decide)) rfl (Nat.le_of_ble_eq_true rfl) dX7_seat_5 ?_
  refine G.if_ne (tgt := 14) C dX7_seat_8 (by decide) h (fun h => ?_) (fun h => ?_)
  · refine G.iload_n C dX7_seat_14 2 rfl ?_
    by_cases e_0 : x2 = 0
    · rw [if_pos e_0] at h
      have n_0 : x2.toInt = 0 := by rw [e_0]; decide
      refine G.tableIn (tgt := 40) C dX7_seat_15 (by rw [n_0]; decide) (by rw [n_0]; decide) (by rw [n_0]; rfl) (by decide) ?_
      refine G.aload_n C dX7_seat_40 0 rfl ?_
      refine gfX7_26 (i := 0) (j := 0) (v := .ref (ad 3 0)) C rfl rfl rfl dX7_seat_41 ?_
      refine gfX7_213 (i := 1) (j := 0) (v := .ref (ad 3 5)) C rfl rfl rfl dX7_seat_44 ?_
      refine G.iload_n C dX7_seat_47 1 rfl ?_
      refine G.iald (i := 1) (j := 5) (f := (vS 5)) C rfl rfl h dX7_seat_48 (fun h => ?_)
      exact hR _ (Option.some.inj h) _ _ dX7_seat_49
    rw [if_neg e_0] at h
    by_cases e_1 : x2 = 1
    · rw [if_pos e_1] at h
      have n_1 : x2.toInt = 1 := by rw [e_1]; decide
      refine G.tableIn (tgt := 50) C dX7_seat_15 (by rw [n_1]; decide) (by rw [n_1]; decide) (by rw [n_1]; rfl) (by decide) ?_
      refine G.aload_n C dX7_seat_50 0 rfl ?_
      refine gfX7_26 (i := 0) (j := 0) (v := .ref (ad 3 0)) C rfl rfl rfl dX7_seat_51 ?_
      refine gfX7_216 (i := 1) (j := 0) (v := .ref (ad 3 6)) C rfl rfl rfl dX7_seat_54 ?_
      refine G.iload_n C dX7_seat_57 1 rfl ?_
      refine G.iald (i := 1) (j := 6) (f := (vS 6)) C rfl rfl h dX7_seat_58 (fun h => ?_)
      exact hR _ (Option.some.inj h) _ _ dX7_seat_59
    rw [if_neg e_1] at h
    by_cases e_2 : x2 = 2
    · rw [if_pos e_2] at h
      have n_2 : x2.toInt = 2 := by rw [e_2]; decide
      refine G.tableIn (tgt := 60) C dX7_seat_15 (by rw [n_2]; decide) (by rw [n_2]; decide) (by rw [n_2]; rfl) (by decide) ?_
      refine G.aload_n C dX7_seat_60 0 rfl ?_
      refine gfX7_26 (i := 0) (j := 0) (v := .ref (ad 3 0)) C rfl rfl rfl dX7_seat_61 ?_
      refine gfX7_188 (i := 1) (j := 0) (v := .ref (ad 3 7)) C rfl rfl rfl dX7_seat_64 ?_
      refine G.iload_n C dX7_seat_67 1 rfl ?_
      refine G.iald (i := 1) (j := 7) (f := (vS 7)) C rfl rfl h dX7_seat_68 (fun h => ?_)
      exact hR _ (Option.some.inj h) _ _ dX7_seat_69
    rw [if_neg e_2] at h
    have n_0 : x2.toInt ≠ 0 := fun h9 => e_0 (Int32.toInt_inj.mp (by rw [h9]; decide))
    have n_1 : x2.toInt ≠ 1 := fun h9 => e_1 (Int32.toInt_inj.mp (by rw [h9]; decide))
    have n_2 : x2.toInt ≠ 2 := fun h9 => e_2 (Int32.toInt_inj.mp (by rw [h9]; decide))
    refine G.tableOut (tgt := 70) C dX7_seat_15 (by omega) (by decide) ?_
    refine G.ldc C k_369 dX7_seat_70 ?_
    exact hR _ (Option.some.inj h) _ _ dX7_seat_72
  · refine G.ldc C k_369 dX7_seat_11 ?_
    exact hR _ (Option.some.inj h) _ _ dX7_seat_13
set_option maxHeartbeats 2000000 in
set_option maxRecDepth 20000 in
theorem c_X7_list {t : Nat → ClassId} {ad : Nat → Nat → Nat} {N : Nat} {vR : SV} {vS : SV} {x1 : Int32} {r : Int32} (h : F_X7_list N vR vS x1 = some r) : CI t yX7_list cX7_list 2 (some .int) (rm 2) [.ref (ad 0 0), .int x1] [wRL t ad vR, wStage t (ad 3) vS] r [wRL t ad vR, wStage t (ad 3) vS] := by
  refine CI.of (own := RX7) (by decide) rfl (Nat.le_of_ble_eq_true rfl) (fun X C hR0 => ?_)
  have hR : ∀ q : Int32, q = r → RetI X cX7_list q [wRL t ad vR, wStage t (ad 3) vS] := by intro q e; subst e; exact hR0
  show G X [wRL t ad vR, wStage t (ad 3) vS] 0 [(0, .ref (ad 0 0)), (1, .int x1)] []
  unfold F_X7_list at h
  refine G.aload_n C dX7_list_0 0 rfl ?_
  obtain ⟨q1, hq1, h⟩ := bind_some' h
  refine G.cvI (i0 := 0) (j0 := 0) (cs' := [wRL t ad vR, wStage t (ad 3) vS]) C (c_X7_noShow (ad := ad) hq1) [0, 1] rfl rfl rfl rfl rfl rfl rfl k_632 cal_X7_noShow (fit_rm (by decide) (by decide)) rfl (Nat.le_of_ble_eq_true rfl) dX7_list_1 ?_
  refine G.if_eq (tgt := 10) C dX7_list_4 (by decide) h (fun h => ?_) (fun h => ?_)
  · refine G.iload_n C dX7_list_10 1 rfl ?_
    refine G.if_ge (tgt := 17) C dX7_list_11 (by decide) h (fun h => ?_) (fun h => ?_)
    · refine G.iload_n C dX7_list_17 1 rfl ?_
      refine G.aload_n C dX7_list_18 0 rfl ?_
      refine gfX7_26 (i := 0) (j := 0) (v := .ref (ad 3 0)) C rfl rfl rfl dX7_list_19 ?_
      refine gfX7_182 (i := 1) (j := 0) (v := .int (vS 0 4)) C rfl rfl rfl dX7_list_22 ?_
      refine G.icmp_ge (tgt := 40) C dX7_list_25 (by decide) h (fun h => ?_) (fun h => ?_)
      · refine G.ldc C k_723 dX7_list_40 ?_
        exact hR _ (Option.some.inj h) _ _ dX7_list_42
      · refine G.aload_n C dX7_list_28 0 rfl ?_
        refine gfX7_26 (i := 0) (j := 0) (v := .ref (ad 3 0)) C rfl rfl rfl dX7_list_29 ?_
        refine gfX7_219 (i := 1) (j := 0) (v := .ref (ad 3 8)) C rfl rfl rfl dX7_list_32 ?_
        refine G.iload_n C dX7_list_35 1 rfl ?_
        refine G.iald (i := 1) (j := 8) (f := (vS 8)) C rfl rfl h dX7_list_36 (fun h => ?_)
        refine G.goto (tgt := 42) C dX7_list_37 (by decide) ?_
        exact hR _ (Option.some.inj h) _ _ dX7_list_42
    · refine G.ldc C k_369 dX7_list_14 ?_
      exact hR _ (Option.some.inj h) _ _ dX7_list_16
  · refine G.ldc C k_622 dX7_list_7 ?_
    exact hR _ (Option.some.inj h) _ _ dX7_list_9
set_option maxHeartbeats 2000000 in
set_option maxRecDepth 20000 in
theorem c_X7_stand {t : Nat → ClassId} {ad : Nat → Nat → Nat} {N : Nat} {vR : SV} {vS : SV} {x1 : Int32} {r : Int32} (h : F_X7_stand N vR vS x1 = some r) : CI t yX7_stand cX7_stand 2 (some .int) (rm 3) [.ref (ad 0 0), .int x1] [wRL t ad vR, wStage t (ad 3) vS] r [wRL t ad vR, wStage t (ad 3) vS] := by
  refine CI.of (own := RX7) (by decide) rfl (Nat.le_of_ble_eq_true rfl) (fun X C hR0 => ?_)
  have hR : ∀ q : Int32, q = r → RetI X cX7_stand q [wRL t ad vR, wStage t (ad 3) vS] := by intro q e; subst e; exact hR0
  show G X [wRL t ad vR, wStage t (ad 3) vS] 0 [(0, .ref (ad 0 0)), (1, .int x1)] []
  unfold F_X7_stand at h
  refine G.aload_n C dX7_stand_0 0 rfl ?_
  obtain ⟨q1, hq1, h⟩ := bind_some' h
  refine G.cvI (i0 := 0) (j0 := 0) (cs' := [wRL t ad vR, wStage t (ad 3) vS]) C (c_X7_noShow (ad := ad) hq1) [0, 1] rfl rfl rfl rfl rfl rfl rfl k_632 cal_X7_noShow (fit_rm (by decide) (by decide)) rfl (Nat.le_of_ble_eq_true rfl) dX7_stand_1 ?_
  refine G.if_eq (tgt := 10) C dX7_stand_4 (by decide) h (fun h => ?_) (fun h => ?_)
  · refine G.iload_n C dX7_stand_10 1 rfl ?_
    refine G.if_lt (tgt := 19) C dX7_stand_11 (by decide) h (fun h => ?_) (fun h => ?_)
    · refine G.ldc C k_369 dX7_stand_19 ?_
      refine G.goto (tgt := 32) C dX7_stand_21 (by decide) ?_
      exact hR _ (Option.some.inj h) _ _ dX7_stand_32
    · refine G.iload_n C dX7_stand_14 1 rfl ?_
      refine G.iconst C dX7_stand_15 ni_3 ?_
      refine G.icmp_le (tgt := 24) C dX7_stand_16 (by decide) h (fun h => ?_) (fun h => ?_)
      · refine G.aload_n C dX7_stand_24 0 rfl ?_
        refine gfX7_26 (i := 0) (j := 0) (v := .ref (ad 3 0)) C rfl rfl rfl dX7_stand_25 ?_
        refine G.iload_n C dX7_stand_28 1 rfl ?_
        obtain ⟨q29, hq29, h⟩ := bind_some' h
        refine G.cvI (i0 := 1) (j0 := 0) (cs' := [wRL t ad vR, wStage t (ad 3) vS]) C (c_X5_standing (a := (ad 3)) hq29) [1] rfl rfl rfl rfl rfl rfl rfl k_737 cal_X5_standing (fit_rm (by decide) (by decide)) rfl (Nat.le_of_ble_eq_true rfl) dX7_stand_29 ?_
        exact hR _ (Option.some.inj h) _ _ dX7_stand_32
      · refine G.ldc C k_369 dX7_stand_19 ?_
        refine G.goto (tgt := 32) C dX7_stand_21 (by decide) ?_
        exact hR _ (Option.some.inj h) _ _ dX7_stand_32
  · refine G.ldc C k_622 dX7_stand_7 ?_
    exact hR _ (Option.some.inj h) _ _ dX7_stand_9
set_option maxHeartbeats 2000000 in
set_option maxRecDepth 20000 in
theorem c_X7_next {t : Nat → ClassId} {ad : Nat → Nat → Nat} {N : Nat} {vR : SV} {vS : SV} {vE : SV} {vF : SV} {x1 : Int32} {r : Int32 × SV} (h : F_X7_next N vR vS vE vF x1 = some r) : CI t yX7_next cX7_next 2 (some .int) (rm 5) [.ref (ad 0 0), .int x1] [wRL t ad vR, wStage t (ad 3) vS, wSeer t ad vE, wStage t (ad 9) vF] (r.1) [wRL t ad vR, wStage t (ad 3) vS, wSeer t ad vE, wStage t (ad 9) (r.2)] := by
  refine CI.of (own := RX7) (by decide) rfl (Nat.le_of_ble_eq_true rfl) (fun X C hR0 => ?_)
  have hR : ∀ q : Int32 × SV, q = r → RetI X cX7_next (q.1) [wRL t ad vR, wStage t (ad 3) vS, wSeer t ad vE, wStage t (ad 9) (q.2)] := by intro q e; subst e; exact hR0
  show G X [wRL t ad vR, wStage t (ad 3) vS, wSeer t ad vE, wStage t (ad 9) vF] 0 [(0, .ref (ad 0 0)), (1, .int x1)] []
  unfold F_X7_next at h
  refine G.aload_n C dX7_next_0 0 rfl ?_
  obtain ⟨q1, hq1, h⟩ := bind_some' h
  refine G.cvI (i0 := 0) (j0 := 0) (cs' := [wRL t ad vR, wStage t (ad 3) vS, wSeer t ad vE, wStage t (ad 9) vF]) C (c_X7_noShow (ad := ad) hq1) [0, 1] rfl rfl rfl rfl rfl rfl rfl k_632 cal_X7_noShow (fit_rm (by decide) (by decide)) rfl (Nat.le_of_ble_eq_true rfl) dX7_next_1 ?_
  refine G.if_eq (tgt := 10) C dX7_next_4 (by decide) h (fun h => ?_) (fun h => ?_)
  · refine G.iload_n C dX7_next_10 1 rfl ?_
    refine G.if_lt (tgt := 19) C dX7_next_11 (by decide) h (fun h => ?_) (fun h => ?_)
    · refine G.ldc C k_369 dX7_next_19 ?_
      refine G.goto (tgt := 36) C dX7_next_21 (by decide) ?_
      exact hR _ (Option.some.inj h) _ _ dX7_next_36
    · refine G.iload_n C dX7_next_14 1 rfl ?_
      refine G.iconst C dX7_next_15 ni_2 ?_
      refine G.icmp_le (tgt := 24) C dX7_next_16 (by decide) h (fun h => ?_) (fun h => ?_)
      · refine G.aload_n C dX7_next_24 0 rfl ?_
        refine gfX7_49 (i := 0) (j := 0) (v := .ref (ad 8 0)) C rfl rfl rfl dX7_next_25 ?_
        refine G.aload_n C dX7_next_28 0 rfl ?_
        refine gfX7_26 (i := 0) (j := 0) (v := .ref (ad 3 0)) C rfl rfl rfl dX7_next_29 ?_
        refine G.iload_n C dX7_next_32 1 rfl ?_
        obtain ⟨q33, hq33, h⟩ := bind_some' h
        refine G.cvI (i0 := 2) (j0 := 0) (cs' := [wRL t ad vR, wStage t (ad 3) vS, wSeer t ad vE, wStage t (ad 9) (q33.2)]) C (c_X4_nextOne (ad := ad) hq33) [1, 2, 3] rfl rfl rfl rfl rfl rfl rfl k_745 cal_X4_nextOne (fit_rm (by decide) (by decide)) rfl (Nat.le_of_ble_eq_true rfl) dX7_next_33 ?_
        exact hR _ (Option.some.inj h) _ _ dX7_next_36
      · refine G.ldc C k_369 dX7_next_19 ?_
        refine G.goto (tgt := 36) C dX7_next_21 (by decide) ?_
        exact hR _ (Option.some.inj h) _ _ dX7_next_36
  · refine G.ldc C k_622 dX7_next_7 ?_
    exact hR _ (Option.some.inj h) _ _ dX7_next_9
set_option maxHeartbeats 2000000 in
set_option maxRecDepth 20000 in
theorem c_X7_ahead {t : Nat → ClassId} {ad : Nat → Nat → Nat} {N : Nat} {vR : SV} {vS : SV} {vE : SV} {vF : SV} {x1 : Int32} {x2 : Int32} {r : Int32 × SV} (h : F_X7_ahead N vR vS vE vF x1 x2 = some r) : CI t yX7_ahead cX7_ahead 3 (some .int) (rm 6) [.ref (ad 0 0), .int x1, .int x2] [wRL t ad vR, wStage t (ad 3) vS, wSeer t ad vE, wStage t (ad 9) vF] (r.1) [wRL t ad vR, wStage t (ad 3) vS, wSeer t ad vE, wStage t (ad 9) (r.2)] := by
  refine CI.of (own := RX7) (by decide) rfl (Nat.le_of_ble_eq_true rfl) (fun X C hR0 => ?_)
  have hR : ∀ q : Int32 × SV, q = r → RetI X cX7_ahead (q.1) [wRL t ad vR, wStage t (ad 3) vS, wSeer t ad vE, wStage t (ad 9) (q.2)] := by intro q e; subst e; exact hR0
  show G X [wRL t ad vR, wStage t (ad 3) vS, wSeer t ad vE, wStage t (ad 9) vF] 0 [(0, .ref (ad 0 0)), (1, .int x1), (2, .int x2)] []
  unfold F_X7_ahead at h
  refine G.aload_n C dX7_ahead_0 0 rfl ?_
  obtain ⟨q1, hq1, h⟩ := bind_some' h
  refine G.cvI (i0 := 0) (j0 := 0) (cs' := [wRL t ad vR, wStage t (ad 3) vS, wSeer t ad vE, wStage t (ad 9) vF]) C (c_X7_noShow (ad := ad) hq1) [0, 1] rfl rfl rfl rfl rfl rfl rfl k_632 cal_X7_noShow (fit_rm (by decide) (by decide)) rfl (Nat.le_of_ble_eq_true rfl) dX7_ahead_1 ?_
  refine G.if_eq (tgt := 10) C dX7_ahead_4 (by decide) h (fun h => ?_) (fun h => ?_)
  · refine G.iload_n C dX7_ahead_10 1 rfl ?_
    refine G.if_lt (tgt := 29) C dX7_ahead_11 (by decide) h (fun h => ?_) (fun h => ?_)
    · refine G.ldc C k_369 dX7_ahead_29 ?_
      exact hR _ (Option.some.inj h) _ _ dX7_ahead_31
    · refine G.iload_n C dX7_ahead_14 1 rfl ?_
      refine G.bipush C dX7_ahead_15 nb_60 ?_
      refine G.icmp_gt (tgt := 29) C dX7_ahead_17 (by decide) h (fun h => ?_) (fun h => ?_)
      · refine G.ldc C k_369 dX7_ahead_29 ?_
        exact hR _ (Option.some.inj h) _ _ dX7_ahead_31
      · refine G.iload_n C dX7_ahead_20 2 rfl ?_
        refine G.if_lt (tgt := 29) C dX7_ahead_21 (by decide) h (fun h => ?_) (fun h => ?_)
        · refine G.ldc C k_369 dX7_ahead_29 ?_
          exact hR _ (Option.some.inj h) _ _ dX7_ahead_31
        · refine G.iload_n C dX7_ahead_24 2 rfl ?_
          refine G.iconst C dX7_ahead_25 ni_3 ?_
          refine G.icmp_le (tgt := 32) C dX7_ahead_26 (by decide) h (fun h => ?_) (fun h => ?_)
          · refine G.aload_n C dX7_ahead_32 0 rfl ?_
            refine gfX7_49 (i := 0) (j := 0) (v := .ref (ad 8 0)) C rfl rfl rfl dX7_ahead_33 ?_
            refine G.aload_n C dX7_ahead_36 0 rfl ?_
            refine gfX7_26 (i := 0) (j := 0) (v := .ref (ad 3 0)) C rfl rfl rfl dX7_ahead_37 ?_
            refine G.iload_n C dX7_ahead_40 1 rfl ?_
            refine G.iload_n C dX7_ahead_41 2 rfl ?_
            obtain ⟨q42, hq42, h⟩ := bind_some' h
            refine G.cvI (i0 := 2) (j0 := 0) (cs' := [wRL t ad vR, wStage t (ad 3) vS, wSeer t ad vE, wStage t (ad 9) (q42.2)]) C (c_X4_standingBehind (ad := ad) hq42) [1, 2, 3] rfl rfl rfl rfl rfl rfl rfl k_755 cal_X4_standingBehind (fit_rm (by decide) (by decide)) rfl (Nat.le_of_ble_eq_true rfl) dX7_ahead_42 ?_
            exact hR _ (Option.some.inj h) _ _ dX7_ahead_45
          · refine G.ldc C k_369 dX7_ahead_29 ?_
            exact hR _ (Option.some.inj h) _ _ dX7_ahead_31
  · refine G.ldc C k_622 dX7_ahead_7 ?_
    exact hR _ (Option.some.inj h) _ _ dX7_ahead_9
set_option maxHeartbeats 2000000 in
set_option maxRecDepth 20000 in
theorem c_X7_when {t : Nat → ClassId} {ad : Nat → Nat → Nat} {N : Nat} {vR : SV} {vS : SV} {vE : SV} {vF : SV} {x1 : Int32} {x2 : Int32} {r : Int32 × SV} (h : F_X7_when N vR vS vE vF x1 x2 = some r) : CI t yX7_when cX7_when 3 (some .int) (rm 5) [.ref (ad 0 0), .int x1, .int x2] [wRL t ad vR, wStage t (ad 3) vS, wSeer t ad vE, wStage t (ad 9) vF] (r.1) [wRL t ad vR, wStage t (ad 3) vS, wSeer t ad vE, wStage t (ad 9) (r.2)] := by
  refine CI.of (own := RX7) (by decide) rfl (Nat.le_of_ble_eq_true rfl) (fun X C hR0 => ?_)
  have hR : ∀ q : Int32 × SV, q = r → RetI X cX7_when (q.1) [wRL t ad vR, wStage t (ad 3) vS, wSeer t ad vE, wStage t (ad 9) (q.2)] := by intro q e; subst e; exact hR0
  show G X [wRL t ad vR, wStage t (ad 3) vS, wSeer t ad vE, wStage t (ad 9) vF] 0 [(0, .ref (ad 0 0)), (1, .int x1), (2, .int x2)] []
  unfold F_X7_when at h
  refine G.aload_n C dX7_when_0 0 rfl ?_
  refine gfX7_26 (i := 0) (j := 0) (v := .ref (ad 3 0)) C rfl rfl rfl dX7_when_1 ?_
  refine G.iload_n C dX7_when_4 1 rfl ?_
  obtain ⟨q5, hq5, h⟩ := bind_some' h
  refine G.cvI (i0 := 1) (j0 := 0) (cs' := [wRL t ad vR, wStage t (ad 3) vS, wSeer t ad vE, wStage t (ad 9) vF]) C (c_X5_isSeat (a := (ad 3)) hq5) [1] rfl rfl rfl rfl rfl rfl rfl k_710 cal_X5_isSeat (fit_rm (by decide) (by decide)) rfl (Nat.le_of_ble_eq_true rfl) dX7_when_5 ?_
  refine G.if_eq (tgt := 21) C dX7_when_8 (by decide) h (fun h => ?_) (fun h => ?_)
  · refine G.ldc C k_369 dX7_when_21 ?_
    exact hR _ (Option.some.inj h) _ _ dX7_when_23
  · refine G.iload_n C dX7_when_11 2 rfl ?_
    refine G.iconst C dX7_when_12 ni_1 ?_
    refine G.icmp_lt (tgt := 21) C dX7_when_13 (by decide) h (fun h => ?_) (fun h => ?_)
    · refine G.ldc C k_369 dX7_when_21 ?_
      exact hR _ (Option.some.inj h) _ _ dX7_when_23
    · refine G.iload_n C dX7_when_16 2 rfl ?_
      refine G.iconst C dX7_when_17 ni_2 ?_
      refine G.icmp_le (tgt := 24) C dX7_when_18 (by decide) h (fun h => ?_) (fun h => ?_)
      · refine G.aload_n C dX7_when_24 0 rfl ?_
        refine gfX7_49 (i := 0) (j := 0) (v := .ref (ad 8 0)) C rfl rfl rfl dX7_when_25 ?_
        refine G.aload_n C dX7_when_28 0 rfl ?_
        refine gfX7_26 (i := 0) (j := 0) (v := .ref (ad 3 0)) C rfl rfl rfl dX7_when_29 ?_
        refine G.iload_n C dX7_when_32 1 rfl ?_
        refine G.iload_n C dX7_when_33 2 rfl ?_
        obtain ⟨q34, hq34, h⟩ := bind_some' h
        refine G.cvI (i0 := 2) (j0 := 0) (cs' := [wRL t ad vR, wStage t (ad 3) vS, wSeer t ad vE, wStage t (ad 9) (q34.2)]) C (c_X4_tapsUntil (ad := ad) hq34) [1, 2, 3] rfl rfl rfl rfl rfl rfl rfl k_769 cal_X4_tapsUntil (fit_rm (by decide) (by decide)) rfl (Nat.le_of_ble_eq_true rfl) dX7_when_34 ?_
        obtain ⟨q37, hq37, h⟩ := bind_some' h
        refine G.csI (cs' := [wRL t ad vR, wStage t (ad 3) vS, wSeer t ad vE, wStage t (ad 9) (q34.2)]) C (c_X7_orNone hq37) [] rfl rfl rfl rfl k_720 cal_X7_orNone (fit_rm (by decide) (by decide)) rfl (Nat.le_of_ble_eq_true rfl) dX7_when_37 ?_
        exact hR _ (Option.some.inj h) _ _ dX7_when_40
      · refine G.ldc C k_369 dX7_when_21 ?_
        exact hR _ (Option.some.inj h) _ _ dX7_when_23
set_option maxHeartbeats 2000000 in
set_option maxRecDepth 20000 in
theorem c_X7_comes {t : Nat → ClassId} {ad : Nat → Nat → Nat} {N : Nat} {vR : SV} {vS : SV} {vE : SV} {vF : SV} {x1 : Int32} {r : Int32 × SV} (h : F_X7_comes N vR vS vE vF x1 = some r) : CI t yX7_comes cX7_comes 2 (some .int) (rm 5) [.ref (ad 0 0), .int x1] [wRL t ad vR, wStage t (ad 3) vS, wSeer t ad vE, wStage t (ad 9) vF] (r.1) [wRL t ad vR, wStage t (ad 3) vS, wSeer t ad vE, wStage t (ad 9) (r.2)] := by
  refine CI.of (own := RX7) (by decide) rfl (Nat.le_of_ble_eq_true rfl) (fun X C hR0 => ?_)
  have hR : ∀ q : Int32 × SV, q = r → RetI X cX7_comes (q.1) [wRL t ad vR, wStage t (ad 3) vS, wSeer t ad vE, wStage t (ad 9) (q.2)] := by intro q e; subst e; exact hR0
  show G X [wRL t ad vR, wStage t (ad 3) vS, wSeer t ad vE, wStage t (ad 9) vF] 0 [(0, .ref (ad 0 0)), (1, .int x1)] []
  unfold F_X7_comes at h
  refine G.aload_n C dX7_comes_0 0 rfl ?_
  refine gfX7_26 (i := 0) (j := 0) (v := .ref (ad 3 0)) C rfl rfl rfl dX7_comes_1 ?_
  refine G.iload_n C dX7_comes_4 1 rfl ?_
  obtain ⟨q5, hq5, h⟩ := bind_some' h
  refine G.cvI (i0 := 1) (j0 := 0) (cs' := [wRL t ad vR, wStage t (ad 3) vS, wSeer t ad vE, wStage t (ad 9) vF]) C (c_X5_isThing (a := (ad 3)) hq5) [1] rfl rfl rfl rfl rfl rfl rfl k_687 cal_X5_isThing (fit_rm (by decide) (by decide)) rfl (Nat.le_of_ble_eq_true rfl) dX7_comes_5 ?_
  refine G.if_ne (tgt := 14) C dX7_comes_8 (by decide) h (fun h => ?_) (fun h => ?_)
  · refine G.aload_n C dX7_comes_14 0 rfl ?_
    refine gfX7_49 (i := 0) (j := 0) (v := .ref (ad 8 0)) C rfl rfl rfl dX7_comes_15 ?_
    refine G.aload_n C dX7_comes_18 0 rfl ?_
    refine gfX7_26 (i := 0) (j := 0) (v := .ref (ad 3 0)) C rfl rfl rfl dX7_comes_19 ?_
    refine G.iload_n C dX7_comes_22 1 rfl ?_
    obtain ⟨q23, hq23, h⟩ := bind_some' h
    refine G.cvI (i0 := 2) (j0 := 0) (cs' := [wRL t ad vR, wStage t (ad 3) vS, wSeer t ad vE, wStage t (ad 9) (q23.2)]) C (c_X4_tapOf (ad := ad) hq23) [1, 2, 3] rfl rfl rfl rfl rfl rfl rfl k_777 cal_X4_tapOf (fit_rm (by decide) (by decide)) rfl (Nat.le_of_ble_eq_true rfl) dX7_comes_23 ?_
    obtain ⟨q26, hq26, h⟩ := bind_some' h
    refine G.csI (cs' := [wRL t ad vR, wStage t (ad 3) vS, wSeer t ad vE, wStage t (ad 9) (q23.2)]) C (c_X7_orNone hq26) [] rfl rfl rfl rfl k_720 cal_X7_orNone (fit_rm (by decide) (by decide)) rfl (Nat.le_of_ble_eq_true rfl) dX7_comes_26 ?_
    exact hR _ (Option.some.inj h) _ _ dX7_comes_29
  · refine G.ldc C k_369 dX7_comes_11 ?_
    exact hR _ (Option.some.inj h) _ _ dX7_comes_13
set_option maxHeartbeats 2000000 in
set_option maxRecDepth 20000 in
theorem c_X7_order {t : Nat → ClassId} {ad : Nat → Nat → Nat} {N : Nat} {vR : SV} {vS : SV} {vP : SV} {gL : (Nat → SV)} {x1 : Int32} {r : Int32 × SV × (Nat → SV)} (h : F_X7_order N vR vS vP gL x1 = some r) : CI t yX7_order cX7_order 2 (some .int) (rm 66) [.ref (ad 0 0), .int x1] ([wRL t ad vR, wStage t (ad 3) vS, wPlanner t ad vP] ++ fLev t ad gL) (r.1) ([wRL t ad vR, wStage t (ad 3) vS, wPlanner t ad (r.2.1)] ++ fLev t ad (r.2.2)) := by
  refine CI.of (own := RX7) (by decide) rfl (Nat.le_of_ble_eq_true rfl) (fun X C hR0 => ?_)
  have hR : ∀ q : Int32 × SV × (Nat → SV), q = r → RetI X cX7_order (q.1) ([wRL t ad vR, wStage t (ad 3) vS, wPlanner t ad (q.2.1)] ++ fLev t ad (q.2.2)) := by intro q e; subst e; exact hR0
  show G X ([wRL t ad vR, wStage t (ad 3) vS, wPlanner t ad vP] ++ fLev t ad gL) 0 [(0, .ref (ad 0 0)), (1, .int x1)] []
  unfold F_X7_order at h
  refine G.aload_n C dX7_order_0 0 rfl ?_
  obtain ⟨q1, hq1, h⟩ := bind_some' h
  refine G.cvI (i0 := 0) (j0 := 0) (cs' := ([wRL t ad vR, wStage t (ad 3) vS, wPlanner t ad vP] ++ fLev t ad gL)) C (c_X7_noShow (ad := ad) hq1) [0, 1] rfl rfl rfl rfl rfl rfl rfl k_632 cal_X7_noShow (fit_rm (by decide) (by decide)) rfl (Nat.le_of_ble_eq_true rfl) dX7_order_1 ?_
  refine G.if_eq (tgt := 10) C dX7_order_4 (by decide) h (fun h => ?_) (fun h => ?_)
  · refine G.iload_n C dX7_order_10 1 rfl ?_
    refine G.bipush C dX7_order_11 nb_m2 ?_
    refine G.icmp_ge (tgt := 19) C dX7_order_13 (by decide) h (fun h => ?_) (fun h => ?_)
    · refine G.aload_n C dX7_order_19 0 rfl ?_
      refine gfX7_56 (i := 0) (j := 0) (v := .ref (ad 10 0)) C rfl rfl rfl dX7_order_20 ?_
      refine G.aload_n C dX7_order_23 0 rfl ?_
      refine gfX7_26 (i := 0) (j := 0) (v := .ref (ad 3 0)) C rfl rfl rfl dX7_order_24 ?_
      obtain ⟨q27, hq27, h⟩ := bind_some' h
      refine G.cvV (i0 := 2) (j0 := 0) (cs' := ([wRL t ad vR, wStage t (ad 3) vS, wPlanner t ad (q27.1)] ++ fLev t ad (q27.2))) C (c_X2_findBestOrder (ad := ad) hq27) ([1, 2] ++ (List.range 7).map (fun k => 3 + k)) (famJ rfl fSt_len rfl) (by decide) (famA rfl fSt_ads) (famC rfl rfl rfl fSt_len fSt_len) rfl rfl rfl k_785 cal_X2_findBestOrder (fit_rm (by decide) (by decide)) rfl (Nat.le_of_ble_eq_true rfl) dX7_order_27 ?_
      refine G.iload_n C dX7_order_30 1 rfl ?_
      refine G.iconst C dX7_order_31 ni_m1 ?_
      refine G.icmp_ne (tgt := 43) C dX7_order_32 (by decide) h (fun h => ?_) (fun h => ?_)
      · refine G.iload_n C dX7_order_43 1 rfl ?_
        refine G.bipush C dX7_order_44 nb_m2 ?_
        refine G.icmp_ne (tgt := 59) C dX7_order_46 (by decide) h (fun h => ?_) (fun h => ?_)
        · refine G.aload_n C dX7_order_59 0 rfl ?_
          refine gfX7_56 (i := 0) (j := 0) (v := .ref (ad 10 0)) C rfl rfl rfl dX7_order_60 ?_
          refine G.iload_n C dX7_order_63 1 rfl ?_
          obtain ⟨q64, hq64, h⟩ := bind_some' h
          refine G.cvI (i0 := 2) (j0 := 0) (cs' := ([wRL t ad vR, wStage t (ad 3) vS, wPlanner t ad (q27.1)] ++ fLev t ad (q27.2))) C (c_X2_bestOrderThing (ad := ad) hq64) [2] rfl rfl rfl rfl rfl rfl rfl k_809 cal_X2_bestOrderThing (fit_rm (by decide) (by decide)) rfl (Nat.le_of_ble_eq_true rfl) dX7_order_64 ?_
          obtain ⟨q67, hq67, h⟩ := bind_some' h
          refine G.csI (cs' := ([wRL t ad vR, wStage t (ad 3) vS, wPlanner t ad (q27.1)] ++ fLev t ad (q27.2))) C (c_X7_orNone hq67) [] rfl rfl rfl rfl k_720 cal_X7_orNone (fit_rm (by decide) (by decide)) rfl (Nat.le_of_ble_eq_true rfl) dX7_order_67 ?_
          exact hR _ (Option.some.inj h) _ _ dX7_order_70
        · refine G.aload_n C dX7_order_49 0 rfl ?_
          refine gfX7_56 (i := 0) (j := 0) (v := .ref (ad 10 0)) C rfl rfl rfl dX7_order_50 ?_
          obtain ⟨q53, hq53, h⟩ := bind_some' h
          refine G.cvI (i0 := 2) (j0 := 0) (cs' := ([wRL t ad vR, wStage t (ad 3) vS, wPlanner t ad (q27.1)] ++ fLev t ad (q27.2))) C (c_X2_bestOrderPleased (ad := ad) hq53) [2] rfl rfl rfl rfl rfl rfl rfl k_805 cal_X2_bestOrderPleased (fit_rm (by decide) (by decide)) rfl (Nat.le_of_ble_eq_true rfl) dX7_order_53 ?_
          refine G.goto (tgt := 70) C dX7_order_56 (by decide) ?_
          exact hR _ (Option.some.inj h) _ _ dX7_order_70
      · refine G.aload_n C dX7_order_35 0 rfl ?_
        refine gfX7_56 (i := 0) (j := 0) (v := .ref (ad 10 0)) C rfl rfl rfl dX7_order_36 ?_
        obtain ⟨q39, hq39, h⟩ := bind_some' h
        refine G.cvI (i0 := 2) (j0 := 0) (cs' := ([wRL t ad vR, wStage t (ad 3) vS, wPlanner t ad (q27.1)] ++ fLev t ad (q27.2))) C (c_X2_bestOrderClapped (ad := ad) hq39) [2] rfl rfl rfl rfl rfl rfl rfl k_801 cal_X2_bestOrderClapped (fit_rm (by decide) (by decide)) rfl (Nat.le_of_ble_eq_true rfl) dX7_order_39 ?_
        exact hR _ (Option.some.inj h) _ _ dX7_order_42
    · refine G.ldc C k_369 dX7_order_16 ?_
      exact hR _ (Option.some.inj h) _ _ dX7_order_18
  · refine G.ldc C k_622 dX7_order_7 ?_
    exact hR _ (Option.some.inj h) _ _ dX7_order_9
set_option maxHeartbeats 2000000 in
set_option maxRecDepth 20000 in
theorem c_X7_pack {t : Nat → ClassId} {ad : Nat → Nat → Nat} {N : Nat} {vR : SV} {vS : SV} {vP : SV} {x1 : Int32} {r : Int32} (h : F_X7_pack N vR vS vP x1 = some r) : CI t yX7_pack cX7_pack 3 (some .int) (rm 4) [.ref (ad 0 0), .int x1] [wRL t ad vR, wStage t (ad 3) vS, wPlanner t ad vP] r [wRL t ad vR, wStage t (ad 3) vS, wPlanner t ad vP] := by
  refine CI.of (own := RX7) (by decide) rfl (Nat.le_of_ble_eq_true rfl) (fun X C hR0 => ?_)
  have hR : ∀ q : Int32, q = r → RetI X cX7_pack q [wRL t ad vR, wStage t (ad 3) vS, wPlanner t ad vP] := by intro q e; subst e; exact hR0
  show G X [wRL t ad vR, wStage t (ad 3) vS, wPlanner t ad vP] 0 [(0, .ref (ad 0 0)), (1, .int x1)] []
  unfold F_X7_pack at h
  refine G.aload_n C dX7_pack_0 0 rfl ?_
  obtain ⟨q1, hq1, h⟩ := bind_some' h
  refine G.cvI (i0 := 0) (j0 := 0) (cs' := [wRL t ad vR, wStage t (ad 3) vS, wPlanner t ad vP]) C (c_X7_noShow (ad := ad) hq1) [0, 1] rfl rfl rfl rfl rfl rfl rfl k_632 cal_X7_noShow (fit_rm (by decide) (by decide)) rfl (Nat.le_of_ble_eq_true rfl) dX7_pack_1 ?_
  refine G.if_eq (tgt := 10) C dX7_pack_4 (by decide) h (fun h => ?_) (fun h => ?_)
  · refine G.iload_n C dX7_pack_10 1 rfl ?_
    refine G.if_lt (tgt := 19) C dX7_pack_11 (by decide) h (fun h => ?_) (fun h => ?_)
    · refine G.ldc C k_369 dX7_pack_19 ?_
      exact hR _ (Option.some.inj h) _ _ dX7_pack_21
    · refine G.iload_n C dX7_pack_14 1 rfl ?_
      refine G.iconst C dX7_pack_15 ni_1 ?_
      refine G.icmp_le (tgt := 22) C dX7_pack_16 (by decide) h (fun h => ?_) (fun h => ?_)
      · refine G.aload_n C dX7_pack_22 0 rfl ?_
        refine gfX7_56 (i := 0) (j := 0) (v := .ref (ad 10 0)) C rfl rfl rfl dX7_pack_23 ?_
        refine G.aload_n C dX7_pack_26 0 rfl ?_
        refine gfX7_26 (i := 0) (j := 0) (v := .ref (ad 3 0)) C rfl rfl rfl dX7_pack_27 ?_
        obtain ⟨q30, hq30, h⟩ := bind_some' h
        refine G.cvI (i0 := 2) (j0 := 0) (cs' := [wRL t ad vR, wStage t (ad 3) vS, wPlanner t ad vP]) C (c_X2_bestPack (ad := ad) hq30) [1, 2] rfl rfl rfl rfl rfl rfl rfl k_817 cal_X2_bestPack (fit_rm (by decide) (by decide)) rfl (Nat.le_of_ble_eq_true rfl) dX7_pack_30 ?_
        refine G.istore_n (lv' := [(2, .int q30), (0, .ref (ad 0 0)), (1, .int x1)]) C dX7_pack_33 (by decide) rfl ?_
        refine G.iload_n C dX7_pack_34 2 rfl ?_
        refine G.if_ne (tgt := 42) C dX7_pack_35 (by decide) h (fun h => ?_) (fun h => ?_)
        · refine G.aload_n C dX7_pack_42 1 rfl ?_
          refine gfX7_26 (i := 0) (j := 0) (v := .ref (ad 3 0)) C rfl rfl rfl dX7_pack_43 ?_
          refine G.iload_n C dX7_pack_46 0 rfl ?_
          refine G.aload_n C dX7_pack_47 1 rfl ?_
          refine gfX7_26 (i := 0) (j := 0) (v := .ref (ad 3 0)) C rfl rfl rfl dX7_pack_48 ?_
          refine gfX7_204 (i := 1) (j := 0) (v := .ref (ad 3 4)) C rfl rfl rfl dX7_pack_51 ?_
          obtain ⟨q54, hq54, h⟩ := bind_some' h
          refine G.cvI (i0 := 1) (j0 := 0) (cs' := [wRL t ad vR, wStage t (ad 3) vS, wPlanner t ad vP]) C (c_X5_sumOver_j (a := (ad 3)) hq54) [1] rfl rfl rfl rfl rfl rfl rfl k_834 cal_X5_sumOver (fit_rm (by decide) (by decide)) rfl (Nat.le_of_ble_eq_true rfl) dX7_pack_54 ?_
          exact hR _ (Option.some.inj h) _ _ dX7_pack_57
        · refine G.iload_n C dX7_pack_38 0 rfl ?_
          refine G.goto (tgt := 57) C dX7_pack_39 (by decide) ?_
          exact hR _ (Option.some.inj h) _ _ dX7_pack_57
      · refine G.ldc C k_369 dX7_pack_19 ?_
        exact hR _ (Option.some.inj h) _ _ dX7_pack_21
  · refine G.ldc C k_622 dX7_pack_7 ?_
    exact hR _ (Option.some.inj h) _ _ dX7_pack_9
set_option maxHeartbeats 2000000 in
set_option maxRecDepth 20000 in
theorem c_X7_match {t : Nat → ClassId} {ad : Nat → Nat → Nat} {N : Nat} {vR : SV} {vS : SV} {r : Int32} (h : F_X7_match N vR vS = some r) : CI t yX7_match cX7_match 1 (some .int) (rm 4) [.ref (ad 0 0)] [wRL t ad vR, wStage t (ad 3) vS] r [wRL t ad vR, wStage t (ad 3) vS] := by
  refine CI.of (own := RX7) (by decide) rfl (Nat.le_of_ble_eq_true rfl) (fun X C hR0 => ?_)
  have hR : ∀ q : Int32, q = r → RetI X cX7_match q [wRL t ad vR, wStage t (ad 3) vS] := by intro q e; subst e; exact hR0
  show G X [wRL t ad vR, wStage t (ad 3) vS] 0 [(0, .ref (ad 0 0))] []
  unfold F_X7_match at h
  refine G.aload_n C dX7_match_0 0 rfl ?_
  obtain ⟨q1, hq1, h⟩ := bind_some' h
  refine G.cvI (i0 := 0) (j0 := 0) (cs' := [wRL t ad vR, wStage t (ad 3) vS]) C (c_X7_noShow (ad := ad) hq1) [0, 1] rfl rfl rfl rfl rfl rfl rfl k_632 cal_X7_noShow (fit_rm (by decide) (by decide)) rfl (Nat.le_of_ble_eq_true rfl) dX7_match_1 ?_
  refine G.if_eq (tgt := 12) C dX7_match_4 (by decide) h (fun h => ?_) (fun h => ?_)
  · refine G.aload_n C dX7_match_12 0 rfl ?_
    refine gfX7_26 (i := 0) (j := 0) (v := .ref (ad 3 0)) C rfl rfl rfl dX7_match_13 ?_
    obtain ⟨q16, hq16, h⟩ := bind_some' h
    refine G.cvI (i0 := 1) (j0 := 0) (cs' := [wRL t ad vR, wStage t (ad 3) vS]) C (c_X5_couldBePleased (a := (ad 3)) hq16) [1] rfl rfl rfl rfl rfl rfl rfl k_839 cal_X5_couldBePleased (fit_rm (by decide) (by decide)) rfl (Nat.le_of_ble_eq_true rfl) dX7_match_16 ?_
    exact hR _ (Option.some.inj h) _ _ dX7_match_19
  · refine G.ldc C k_622 dX7_match_7 ?_
    refine G.goto (tgt := 19) C dX7_match_9 (by decide) ?_
    exact hR _ (Option.some.inj h) _ _ dX7_match_19
set_option maxHeartbeats 2000000 in
set_option maxRecDepth 20000 in
theorem c_X7_clear {t : Nat → ClassId} {ad : Nat → Nat → Nat} {N : Nat} {vR : SV} {vS : SV} {vP : SV} {vQ : SV} {x1 : Int32} {x2 : Int32} {x3 : Int32} {r : Int32 × SV} (h : F_X7_clear N vR vS vP vQ x1 x2 x3 = some r) : CI t yX7_clear cX7_clear 5 (some .int) (rm 7) [.ref (ad 0 0), .int x1, .int x2, .int x3] [wRL t ad vR, wStage t (ad 3) vS, wPlanner t ad vP, wStage t (ad 11) vQ] (r.1) [wRL t ad vR, wStage t (ad 3) vS, wPlanner t ad vP, wStage t (ad 11) (r.2)] := by
  refine CI.of (own := RX7) (by decide) rfl (Nat.le_of_ble_eq_true rfl) (fun X C hR0 => ?_)
  have hR : ∀ q : Int32 × SV, q = r → RetI X cX7_clear (q.1) [wRL t ad vR, wStage t (ad 3) vS, wPlanner t ad vP, wStage t (ad 11) (q.2)] := by intro q e; subst e; exact hR0
  show G X [wRL t ad vR, wStage t (ad 3) vS, wPlanner t ad vP, wStage t (ad 11) vQ] 0 [(0, .ref (ad 0 0)), (1, .int x1), (2, .int x2), (3, .int x3)] []
  unfold F_X7_clear at h
  refine G.aload_n C dX7_clear_0 0 rfl ?_
  refine gfX7_26 (i := 0) (j := 0) (v := .ref (ad 3 0)) C rfl rfl rfl dX7_clear_1 ?_
  refine G.iload_n C dX7_clear_4 1 rfl ?_
  obtain ⟨q5, hq5, h⟩ := bind_some' h
  refine G.cvI (i0 := 1) (j0 := 0) (cs' := [wRL t ad vR, wStage t (ad 3) vS, wPlanner t ad vP, wStage t (ad 11) vQ]) C (c_X5_isSeat (a := (ad 3)) hq5) [1] rfl rfl rfl rfl rfl rfl rfl k_710 cal_X5_isSeat (fit_rm (by decide) (by decide)) rfl (Nat.le_of_ble_eq_true rfl) dX7_clear_5 ?_
  refine G.if_eq (tgt := 31) C dX7_clear_8 (by decide) h (fun h => ?_) (fun h => ?_)
  · refine G.ldc C k_369 dX7_clear_31 ?_
    exact hR _ (Option.some.inj h) _ _ dX7_clear_33
  · refine G.iload_n C dX7_clear_11 2 rfl ?_
    refine G.iconst C dX7_clear_12 ni_1 ?_
    refine G.icmp_lt (tgt := 31) C dX7_clear_13 (by decide) h (fun h => ?_) (fun h => ?_)
    · refine G.ldc C k_369 dX7_clear_31 ?_
      exact hR _ (Option.some.inj h) _ _ dX7_clear_33
    · refine G.iload_n C dX7_clear_16 2 rfl ?_
      refine G.bipush C dX7_clear_17 nb_30 ?_
      refine G.icmp_gt (tgt := 31) C dX7_clear_19 (by decide) h (fun h => ?_) (fun h => ?_)
      · refine G.ldc C k_369 dX7_clear_31 ?_
        exact hR _ (Option.some.inj h) _ _ dX7_clear_33
      · refine G.iload_n C dX7_clear_22 3 rfl ?_
        refine G.if_lt (tgt := 31) C dX7_clear_23 (by decide) h (fun h => ?_) (fun h => ?_)
        · refine G.ldc C k_369 dX7_clear_31 ?_
          exact hR _ (Option.some.inj h) _ _ dX7_clear_33
        · refine G.iload_n C dX7_clear_26 3 rfl ?_
          refine G.iconst C dX7_clear_27 ni_1 ?_
          refine G.icmp_le (tgt := 34) C dX7_clear_28 (by decide) h (fun h => ?_) (fun h => ?_)
          · refine G.aload_n C dX7_clear_34 0 rfl ?_
            refine gfX7_56 (i := 0) (j := 0) (v := .ref (ad 10 0)) C rfl rfl rfl dX7_clear_35 ?_
            refine G.aload_n C dX7_clear_38 0 rfl ?_
            refine gfX7_26 (i := 0) (j := 0) (v := .ref (ad 3 0)) C rfl rfl rfl dX7_clear_39 ?_
            refine G.iload_n C dX7_clear_42 1 rfl ?_
            refine G.iload_n C dX7_clear_43 2 rfl ?_
            obtain ⟨q44, hq44, h⟩ := bind_some' h
            refine G.cvI (i0 := 2) (j0 := 0) (cs' := [wRL t ad vR, wStage t (ad 3) vS, wPlanner t ad vP, wStage t (ad 11) (q44.2)]) C (c_X2_fewestOff (ad := ad) hq44) [1, 2, 3] rfl rfl rfl rfl rfl rfl rfl k_855 cal_X2_fewestOff (fit_rm (by decide) (by decide)) rfl (Nat.le_of_ble_eq_true rfl) dX7_clear_44 ?_
            refine G.istore (lv' := [(4, .int (q44.1)), (0, .ref (ad 0 0)), (1, .int x1), (2, .int x2), (3, .int x3)]) C dX7_clear_47 (by decide) rfl ?_
            refine G.iload C dX7_clear_49 0 rfl ?_
            refine G.if_ge (tgt := 57) C dX7_clear_51 (by decide) h (fun h => ?_) (fun h => ?_)
            · refine G.iload_n C dX7_clear_57 4 rfl ?_
              refine G.if_ne (tgt := 69) C dX7_clear_58 (by decide) h (fun h => ?_) (fun h => ?_)
              · refine G.iload C dX7_clear_69 0 rfl ?_
                exact hR _ (Option.some.inj h) _ _ dX7_clear_71
              · refine G.iload C dX7_clear_61 0 rfl ?_
                obtain ⟨q63, hq63, h⟩ := bind_some' h
                refine G.csI (cs' := [wRL t ad vR, wStage t (ad 3) vS, wPlanner t ad vP, wStage t (ad 11) (q44.2)]) C (c_J6_bitCount_0f7a4 hq63) [] rfl rfl rfl rfl k_869 cal_J6_bitCount_0f7a4 (fit_rm (by decide) (by decide)) rfl (Nat.le_of_ble_eq_true rfl) dX7_clear_63 ?_
                refine G.goto (tgt := 71) C dX7_clear_66 (by decide) ?_
                exact hR _ (Option.some.inj h) _ _ dX7_clear_71
            · refine G.ldc C k_723 dX7_clear_54 ?_
              exact hR _ (Option.some.inj h) _ _ dX7_clear_56
          · refine G.ldc C k_369 dX7_clear_31 ?_
            exact hR _ (Option.some.inj h) _ _ dX7_clear_33
set_option maxHeartbeats 2000000 in
set_option maxRecDepth 20000 in
theorem c_X7_bring {t : Nat → ClassId} {ad : Nat → Nat → Nat} {N : Nat} {vR : SV} {vS : SV} {vP : SV} {vQ : SV} {x1 : Int32} {x2 : Int32} {r : Int32 × SV} (h : F_X7_bring N vR vS vP vQ x1 x2 = some r) : CI t yX7_bring cX7_bring 4 (some .int) (rm 7) [.ref (ad 0 0), .int x1, .int x2] [wRL t ad vR, wStage t (ad 3) vS, wPlanner t ad vP, wStage t (ad 11) vQ] (r.1) [wRL t ad vR, wStage t (ad 3) vS, wPlanner t ad vP, wStage t (ad 11) (r.2)] := by
  refine CI.of (own := RX7) (by decide) rfl (Nat.le_of_ble_eq_true rfl) (fun X C hR0 => ?_)
  have hR : ∀ q : Int32 × SV, q = r → RetI X cX7_bring (q.1) [wRL t ad vR, wStage t (ad 3) vS, wPlanner t ad vP, wStage t (ad 11) (q.2)] := by intro q e; subst e; exact hR0
  show G X [wRL t ad vR, wStage t (ad 3) vS, wPlanner t ad vP, wStage t (ad 11) vQ] 0 [(0, .ref (ad 0 0)), (1, .int x1), (2, .int x2)] []
  unfold F_X7_bring at h
  refine G.aload_n C dX7_bring_0 0 rfl ?_
  obtain ⟨q1, hq1, h⟩ := bind_some' h
  refine G.cvI (i0 := 0) (j0 := 0) (cs' := [wRL t ad vR, wStage t (ad 3) vS, wPlanner t ad vP, wStage t (ad 11) vQ]) C (c_X7_noShow (ad := ad) hq1) [0, 1] rfl rfl rfl rfl rfl rfl rfl k_632 cal_X7_noShow (fit_rm (by decide) (by decide)) rfl (Nat.le_of_ble_eq_true rfl) dX7_bring_1 ?_
  refine G.if_eq (tgt := 10) C dX7_bring_4 (by decide) h (fun h => ?_) (fun h => ?_)
  · refine G.iload_n C dX7_bring_10 1 rfl ?_
    refine G.iconst C dX7_bring_11 ni_1 ?_
    refine G.icmp_lt (tgt := 30) C dX7_bring_12 (by decide) h (fun h => ?_) (fun h => ?_)
    · refine G.ldc C k_369 dX7_bring_30 ?_
      exact hR _ (Option.some.inj h) _ _ dX7_bring_32
    · refine G.iload_n C dX7_bring_15 1 rfl ?_
      refine G.bipush C dX7_bring_16 nb_30 ?_
      refine G.icmp_gt (tgt := 30) C dX7_bring_18 (by decide) h (fun h => ?_) (fun h => ?_)
      · refine G.ldc C k_369 dX7_bring_30 ?_
        exact hR _ (Option.some.inj h) _ _ dX7_bring_32
      · refine G.iload_n C dX7_bring_21 2 rfl ?_
        refine G.if_lt (tgt := 30) C dX7_bring_22 (by decide) h (fun h => ?_) (fun h => ?_)
        · refine G.ldc C k_369 dX7_bring_30 ?_
          exact hR _ (Option.some.inj h) _ _ dX7_bring_32
        · refine G.iload_n C dX7_bring_25 2 rfl ?_
          refine G.iconst C dX7_bring_26 ni_1 ?_
          refine G.icmp_le (tgt := 33) C dX7_bring_27 (by decide) h (fun h => ?_) (fun h => ?_)
          · refine G.aload_n C dX7_bring_33 0 rfl ?_
            refine gfX7_56 (i := 0) (j := 0) (v := .ref (ad 10 0)) C rfl rfl rfl dX7_bring_34 ?_
            refine G.aload_n C dX7_bring_37 0 rfl ?_
            refine gfX7_26 (i := 0) (j := 0) (v := .ref (ad 3 0)) C rfl rfl rfl dX7_bring_38 ?_
            refine G.iload_n C dX7_bring_41 1 rfl ?_
            obtain ⟨q42, hq42, h⟩ := bind_some' h
            refine G.cvI (i0 := 2) (j0 := 0) (cs' := [wRL t ad vR, wStage t (ad 3) vS, wPlanner t ad vP, wStage t (ad 11) (q42.2)]) C (c_X2_bestFirst (ad := ad) hq42) [1, 2, 3] rfl rfl rfl rfl rfl rfl rfl k_874 cal_X2_bestFirst (fit_rm (by decide) (by decide)) rfl (Nat.le_of_ble_eq_true rfl) dX7_bring_42 ?_
            refine G.istore_n (lv' := [(3, .int (q42.1)), (0, .ref (ad 0 0)), (1, .int x1), (2, .int x2)]) C dX7_bring_45 (by decide) rfl ?_
            refine G.iload_n C dX7_bring_46 3 rfl ?_
            refine G.if_ne (tgt := 54) C dX7_bring_47 (by decide) h (fun h => ?_) (fun h => ?_)
            · refine G.aload_n C dX7_bring_54 1 rfl ?_
              refine gfX7_56 (i := 0) (j := 0) (v := .ref (ad 10 0)) C rfl rfl rfl dX7_bring_55 ?_
              refine G.aload_n C dX7_bring_58 1 rfl ?_
              refine gfX7_26 (i := 0) (j := 0) (v := .ref (ad 3 0)) C rfl rfl rfl dX7_bring_59 ?_
              refine G.iload_n C dX7_bring_62 0 rfl ?_
              refine G.iload_n C dX7_bring_63 2 rfl ?_
              obtain ⟨q64, hq64, h⟩ := bind_some' h
              refine G.cvI (i0 := 2) (j0 := 0) (cs' := [wRL t ad vR, wStage t (ad 3) vS, wPlanner t ad vP, wStage t (ad 11) (q64.2)]) C (c_X2_clappedIfFirst (ad := ad) hq64) [1, 2, 3] rfl rfl rfl rfl rfl rfl rfl k_883 cal_X2_clappedIfFirst (fit_rm (by decide) (by decide)) rfl (Nat.le_of_ble_eq_true rfl) dX7_bring_64 ?_
              exact hR _ (Option.some.inj h) _ _ dX7_bring_67
            · refine G.iload_n C dX7_bring_50 0 rfl ?_
              refine G.goto (tgt := 67) C dX7_bring_51 (by decide) ?_
              exact hR _ (Option.some.inj h) _ _ dX7_bring_67
          · refine G.ldc C k_369 dX7_bring_30 ?_
            exact hR _ (Option.some.inj h) _ _ dX7_bring_32
  · refine G.ldc C k_622 dX7_bring_7 ?_
    exact hR _ (Option.some.inj h) _ _ dX7_bring_9
set_option maxHeartbeats 2000000 in
set_option maxRecDepth 20000 in
theorem c_X7_lack {t : Nat → ClassId} {ad : Nat → Nat → Nat} {N : Nat} {vR : SV} {vS : SV} {r : Int32} (h : F_X7_lack N vR vS = some r) : CI t yX7_lack cX7_lack 1 (some .int) (rm 4) [.ref (ad 0 0)] [wRL t ad vR, wStage t (ad 3) vS] r [wRL t ad vR, wStage t (ad 3) vS] := by
  refine CI.of (own := RX7) (by decide) rfl (Nat.le_of_ble_eq_true rfl) (fun X C hR0 => ?_)
  have hR : ∀ q : Int32, q = r → RetI X cX7_lack q [wRL t ad vR, wStage t (ad 3) vS] := by intro q e; subst e; exact hR0
  show G X [wRL t ad vR, wStage t (ad 3) vS] 0 [(0, .ref (ad 0 0))] []
  unfold F_X7_lack at h
  refine G.aload_n C dX7_lack_0 0 rfl ?_
  obtain ⟨q1, hq1, h⟩ := bind_some' h
  refine G.cvI (i0 := 0) (j0 := 0) (cs' := [wRL t ad vR, wStage t (ad 3) vS]) C (c_X7_noShow (ad := ad) hq1) [0, 1] rfl rfl rfl rfl rfl rfl rfl k_632 cal_X7_noShow (fit_rm (by decide) (by decide)) rfl (Nat.le_of_ble_eq_true rfl) dX7_lack_1 ?_
  refine G.if_eq (tgt := 12) C dX7_lack_4 (by decide) h (fun h => ?_) (fun h => ?_)
  · refine G.aload_n C dX7_lack_12 0 rfl ?_
    refine gfX7_26 (i := 0) (j := 0) (v := .ref (ad 3 0)) C rfl rfl rfl dX7_lack_13 ?_
    obtain ⟨q16, hq16, h⟩ := bind_some' h
    refine G.cvI (i0 := 1) (j0 := 0) (cs' := [wRL t ad vR, wStage t (ad 3) vS]) C (c_X5_lackedLabels (a := (ad 3)) hq16) [1] rfl rfl rfl rfl rfl rfl rfl k_888 cal_X5_lackedLabels (fit_rm (by decide) (by decide)) rfl (Nat.le_of_ble_eq_true rfl) dX7_lack_16 ?_
    exact hR _ (Option.some.inj h) _ _ dX7_lack_19
  · refine G.ldc C k_622 dX7_lack_7 ?_
    refine G.goto (tgt := 19) C dX7_lack_9 (by decide) ?_
    exact hR _ (Option.some.inj h) _ _ dX7_lack_19
set_option maxHeartbeats 2000000 in
set_option maxRecDepth 20000 in
theorem c_X7_canTell {t : Nat → ClassId} {N : Nat} {x0 : Int32} {x1 : Int32} {r : Int32} (h : F_X7_canTell N x0 x1 = some r) : CI t yX7_canTell cX7_canTell 2 (some .boolean) (rm 2) [.int x0, .int x1] [] r [] := by
  refine CZ.of (own := RX7) (by decide) rfl (Nat.le_of_ble_eq_true rfl) (fun X C hR0 => ?_)
  have hR : ∀ q : Int32, q = r → RetZ X cX7_canTell q [] := by intro q e; subst e; exact hR0
  show G X [] 0 [(0, .int x0), (1, .int x1)] []
  unfold F_X7_canTell at h
  refine G.iload_n C dX7_canTell_0 0 rfl ?_
  obtain ⟨q1, hq1, h⟩ := bind_some' h
  refine G.csI (cs' := []) C (c_X3_isRow hq1) [] rfl rfl rfl rfl k_363 cal_X3_isRow (fit_rm (by decide) (by decide)) rfl (Nat.le_of_ble_eq_true rfl) dX7_canTell_1 ?_
  refine G.if_eq (tgt := 22) C dX7_canTell_4 (by decide) h (fun h => ?_) (fun h => ?_)
  · refine G.iconst C dX7_canTell_22 ni_0 ?_
    exact hR _ (Option.some.inj h) (Or.inl rfl) _ _ dX7_canTell_23
  · refine G.iload_n C dX7_canTell_7 1 rfl ?_
    refine G.iconst C dX7_canTell_8 ni_1 ?_
    refine G.icmp_lt (tgt := 22) C dX7_canTell_9 (by decide) h (fun h => ?_) (fun h => ?_)
    · refine G.iconst C dX7_canTell_22 ni_0 ?_
      exact hR _ (Option.some.inj h) (Or.inl rfl) _ _ dX7_canTell_23
    · refine G.iload_n C dX7_canTell_12 1 rfl ?_
      refine G.bipush C dX7_canTell_13 nb_12 ?_
      refine G.icmp_gt (tgt := 22) C dX7_canTell_15 (by decide) h (fun h => ?_) (fun h => ?_)
      · refine G.iconst C dX7_canTell_22 ni_0 ?_
        exact hR _ (Option.some.inj h) (Or.inl rfl) _ _ dX7_canTell_23
      · refine G.iconst C dX7_canTell_18 ni_1 ?_
        refine G.goto (tgt := 23) C dX7_canTell_19 (by decide) ?_
        exact hR _ (Option.some.inj h) (Or.inr rfl) _ _ dX7_canTell_23
set_option maxHeartbeats 2000000 in
set_option maxRecDepth 20000 in
theorem c_X7_who {t : Nat → ClassId} {ad : Nat → Nat → Nat} {N : Nat} {vR : SV} {vW : SV} {vS : SV} {vE : SV} {vF : SV} {gW : SV} {x1 : Int32} {x2 : Int32} {x3 : Int32} {x4 : Int32} {x5 : Int32} {r : Int32 × SV × SV × SV} (h : F_X7_who N vR vW vS vE vF gW x1 x2 x3 x4 x5 = some r) : CI t yX7_who cX7_who 7 (some .int) (rm 6) [.ref (ad 0 0), .int x1, .int x2, .int x3, .int x4, .int x5] ([wRL t ad vR, wRows t ad vW, wStage t (ad 3) vS, wSeer t ad vE, wStage t (ad 9) vF] ++ fRows t ad gW) (r.1) ([wRL t ad (r.2.1), wRows t ad vW, wStage t (ad 3) vS, wSeer t ad (r.2.2.1), wStage t (ad 9) (r.2.2.2)] ++ fRows t ad gW) := by
  refine CI.of (own := RX7) (by decide) rfl (Nat.le_of_ble_eq_true rfl) (fun X C hR0 => ?_)
  have hR : ∀ q : Int32 × SV × SV × SV, q = r → RetI X cX7_who (q.1) ([wRL t ad (q.2.1), wRows t ad vW, wStage t (ad 3) vS, wSeer t ad (q.2.2.1), wStage t (ad 9) (q.2.2.2)] ++ fRows t ad gW) := by intro q e; subst e; exact hR0
  show G X ([wRL t ad vR, wRows t ad vW, wStage t (ad 3) vS, wSeer t ad vE, wStage t (ad 9) vF] ++ fRows t ad gW) 0 [(0, .ref (ad 0 0)), (1, .int x1), (2, .int x2), (3, .int x3), (4, .int x4), (5, .int x5)] []
  unfold F_X7_who at h
  refine G.aload_n C dX7_who_0 0 rfl ?_
  refine gfX7_26 (i := 0) (j := 0) (v := .ref (ad 3 0)) C rfl rfl rfl dX7_who_1 ?_
  refine G.iload_n C dX7_who_4 1 rfl ?_
  obtain ⟨q5, hq5, h⟩ := bind_some' h
  refine G.cvI (i0 := 2) (j0 := 0) (cs' := ([wRL t ad vR, wRows t ad vW, wStage t (ad 3) vS, wSeer t ad vE, wStage t (ad 9) vF] ++ fRows t ad gW)) C (c_X5_isThing (a := (ad 3)) hq5) [2] rfl rfl rfl rfl rfl rfl rfl k_687 cal_X5_isThing (fit_rm (by decide) (by decide)) rfl (Nat.le_of_ble_eq_true rfl) dX7_who_5 ?_
  refine G.if_eq (tgt := 29) C dX7_who_8 (by decide) h (fun h => ?_) (fun h => ?_)
  · refine G.ldc C k_369 dX7_who_29 ?_
    exact hR _ (Option.some.inj h) _ _ dX7_who_31
  · refine G.iload_n C dX7_who_11 2 rfl ?_
    refine G.if_lt (tgt := 29) C dX7_who_12 (by decide) h (fun h => ?_) (fun h => ?_)
    · refine G.ldc C k_369 dX7_who_29 ?_
      exact hR _ (Option.some.inj h) _ _ dX7_who_31
    · refine G.iload_n C dX7_who_15 2 rfl ?_
      refine G.iconst C dX7_who_16 ni_2 ?_
      refine G.icmp_gt (tgt := 29) C dX7_who_17 (by decide) h (fun h => ?_) (fun h => ?_)
      · refine G.ldc C k_369 dX7_who_29 ?_
        exact hR _ (Option.some.inj h) _ _ dX7_who_31
      · refine G.iload_n C dX7_who_20 3 rfl ?_
        refine G.iload C dX7_who_21 5 rfl ?_
        obtain ⟨q23, hq23, h⟩ := bind_some' h
        refine G.csI (cs' := ([wRL t ad vR, wRows t ad vW, wStage t (ad 3) vS, wSeer t ad vE, wStage t (ad 9) vF] ++ fRows t ad gW)) C (c_X7_canTell hq23) [] rfl rfl rfl rfl k_896 cal_X7_canTell (fit_rm (by decide) (by decide)) rfl (Nat.le_of_ble_eq_true rfl) dX7_who_23 ?_
        refine G.if_ne (tgt := 32) C dX7_who_26 (by decide) h (fun h => ?_) (fun h => ?_)
        · refine G.aload_n C dX7_who_32 0 rfl ?_
          refine gfX7_10 (i := 0) (j := 0) (v := .ref (ad 1 0)) C rfl rfl rfl dX7_who_33 ?_
          refine G.iload_n C dX7_who_36 3 rfl ?_
          refine G.iload C dX7_who_37 4 rfl ?_
          refine G.iload C dX7_who_39 5 rfl ?_
          obtain ⟨q41, hq41, h⟩ := bind_some' h
          refine G.cvI (i0 := 1) (j0 := 0) (cs' := ([wRL t ad vR, wRows t ad vW, wStage t (ad 3) vS, wSeer t ad vE, wStage t (ad 9) vF] ++ fRows t ad gW)) C (c_X3_findingOfSpan (ad := ad) hq41) [1] rfl rfl rfl rfl rfl rfl rfl k_387 cal_X3_findingOfSpan (fit_rm (by decide) (by decide)) rfl (Nat.le_of_ble_eq_true rfl) dX7_who_41 ?_
          refine G.istore (lv' := [(6, .int q41), (0, .ref (ad 0 0)), (1, .int x1), (2, .int x2), (3, .int x3), (4, .int x4), (5, .int x5)]) C dX7_who_44 (by decide) rfl ?_
          refine G.iload C dX7_who_46 0 rfl ?_
          refine G.if_eq (tgt := 58) C dX7_who_48 (by decide) h (fun h => ?_) (fun h => ?_)
          · refine G.aload_n C dX7_who_58 1 rfl ?_
            refine gfX7_49 (i := 0) (j := 0) (v := .ref (ad 8 0)) C rfl rfl rfl dX7_who_59 ?_
            refine G.aload_n C dX7_who_62 1 rfl ?_
            refine gfX7_10 (i := 0) (j := 0) (v := .ref (ad 1 0)) C rfl rfl rfl dX7_who_63 ?_
            refine G.iload_n C dX7_who_66 4 rfl ?_
            refine G.iload C dX7_who_67 5 rfl ?_
            refine G.iload C dX7_who_69 6 rfl ?_
            obtain ⟨q71, hq71, h⟩ := bind_some' h
            refine G.cvV (i0 := 3) (j0 := 0) (cs' := ([wRL t ad vR, wRows t ad vW, wStage t (ad 3) vS, wSeer t ad q71, wStage t (ad 9) vF] ++ fRows t ad gW)) C (c_X4_hear (ad := ad) hq71) ([1, 3] ++ (List.range 8).map (fun k => 5 + k)) (famJ rfl fRows_len rfl) (by decide) (famA rfl fRows_ads) (famC rfl rfl rfl fRows_len fRows_len) rfl rfl rfl k_899 cal_X4_hear (fit_rm (by decide) (by decide)) rfl (Nat.le_of_ble_eq_true rfl) dX7_who_71 ?_
            refine G.aload_n C dX7_who_74 1 rfl ?_
            refine G.aload_n C dX7_who_75 1 rfl ?_
            refine gfX7_49 (i := 0) (j := 0) (v := .ref (ad 8 0)) C rfl rfl rfl dX7_who_76 ?_
            refine G.aload_n C dX7_who_79 1 rfl ?_
            refine gfX7_26 (i := 0) (j := 0) (v := .ref (ad 3 0)) C rfl rfl rfl dX7_who_80 ?_
            refine G.iload_n C dX7_who_83 2 rfl ?_
            refine G.iload_n C dX7_who_84 3 rfl ?_
            obtain ⟨q85, hq85, h⟩ := bind_some' h
            refine G.cvI (i0 := 3) (j0 := 0) (cs' := ([wRL t ad vR, wRows t ad vW, wStage t (ad 3) vS, wSeer t ad q71, wStage t (ad 9) (q85.2)] ++ fRows t ad gW)) C (c_X4_shapesThatFit (ad := ad) hq85) [2, 3, 4] rfl rfl rfl rfl rfl rfl rfl k_909 cal_X4_shapesThatFit (fit_rm (by decide) (by decide)) rfl (Nat.le_of_ble_eq_true rfl) dX7_who_85 ?_
            obtain ⟨q88, hq88, h⟩ := bind_some' h
            refine G.cvI (i0 := 0) (j0 := 0) (cs' := ([wRL t ad (q88.2), wRows t ad vW, wStage t (ad 3) vS, wSeer t ad q71, wStage t (ad 9) (q85.2)] ++ fRows t ad gW)) C (c_X7_foundNothing (ad := ad) hq88) [0] rfl rfl rfl rfl rfl rfl rfl k_379 cal_X7_foundNothing (fit_rm (by decide) (by decide)) rfl (Nat.le_of_ble_eq_true rfl) dX7_who_88 ?_
            exact hR _ (Option.some.inj h) _ _ dX7_who_91
          · refine G.aload_n C dX7_who_51 1 rfl ?_
            refine G.iload C dX7_who_52 0 rfl ?_
            obtain ⟨q54, hq54, h⟩ := bind_some' h
            refine G.cvI (i0 := 0) (j0 := 0) (cs' := ([wRL t ad (q54.2), wRows t ad vW, wStage t (ad 3) vS, wSeer t ad vE, wStage t (ad 9) vF] ++ fRows t ad gW)) C (c_X7_found (ad := ad) hq54) [0] rfl rfl rfl rfl rfl rfl rfl k_370 cal_X7_found (fit_rm (by decide) (by decide)) rfl (Nat.le_of_ble_eq_true rfl) dX7_who_54 ?_
            exact hR _ (Option.some.inj h) _ _ dX7_who_57
        · refine G.ldc C k_369 dX7_who_29 ?_
          exact hR _ (Option.some.inj h) _ _ dX7_who_31
set_option maxHeartbeats 2000000 in
set_option maxRecDepth 20000 in
theorem c_X7_wanted {t : Nat → ClassId} {ad : Nat → Nat → Nat} {N : Nat} {vR : SV} {vW : SV} {vS : SV} {vE : SV} {vF : SV} {gW : SV} {x1 : Int32} {x2 : Int32} {x3 : Int32} {x4 : Int32} {x5 : Int32} {r : Int32 × SV × SV × SV} (h : F_X7_wanted N vR vW vS vE vF gW x1 x2 x3 x4 x5 = some r) : CI t yX7_wanted cX7_wanted 7 (some .int) (rm 6) [.ref (ad 0 0), .int x1, .int x2, .int x3, .int x4, .int x5] ([wRL t ad vR, wRows t ad vW, wStage t (ad 3) vS, wSeer t ad vE, wStage t (ad 9) vF] ++ fRows t ad gW) (r.1) ([wRL t ad (r.2.1), wRows t ad vW, wStage t (ad 3) vS, wSeer t ad (r.2.2.1), wStage t (ad 9) (r.2.2.2)] ++ fRows t ad gW) := by
  refine CI.of (own := RX7) (by decide) rfl (Nat.le_of_ble_eq_true rfl) (fun X C hR0 => ?_)
  have hR : ∀ q : Int32 × SV × SV × SV, q = r → RetI X cX7_wanted (q.1) ([wRL t ad (q.2.1), wRows t ad vW, wStage t (ad 3) vS, wSeer t ad (q.2.2.1), wStage t (ad 9) (q.2.2.2)] ++ fRows t ad gW) := by intro q e; subst e; exact hR0
  show G X ([wRL t ad vR, wRows t ad vW, wStage t (ad 3) vS, wSeer t ad vE, wStage t (ad 9) vF] ++ fRows t ad gW) 0 [(0, .ref (ad 0 0)), (1, .int x1), (2, .int x2), (3, .int x3), (4, .int x4), (5, .int x5)] []
  unfold F_X7_wanted at h
  refine G.aload_n C dX7_wanted_0 0 rfl ?_
  refine gfX7_26 (i := 0) (j := 0) (v := .ref (ad 3 0)) C rfl rfl rfl dX7_wanted_1 ?_
  refine G.iload_n C dX7_wanted_4 1 rfl ?_
  obtain ⟨q5, hq5, h⟩ := bind_some' h
  refine G.cvI (i0 := 2) (j0 := 0) (cs' := ([wRL t ad vR, wRows t ad vW, wStage t (ad 3) vS, wSeer t ad vE, wStage t (ad 9) vF] ++ fRows t ad gW)) C (c_X5_isSeat (a := (ad 3)) hq5) [2] rfl rfl rfl rfl rfl rfl rfl k_710 cal_X5_isSeat (fit_rm (by decide) (by decide)) rfl (Nat.le_of_ble_eq_true rfl) dX7_wanted_5 ?_
  refine G.if_eq (tgt := 29) C dX7_wanted_8 (by decide) h (fun h => ?_) (fun h => ?_)
  · refine G.ldc C k_369 dX7_wanted_29 ?_
    exact hR _ (Option.some.inj h) _ _ dX7_wanted_31
  · refine G.iload_n C dX7_wanted_11 2 rfl ?_
    refine G.if_lt (tgt := 29) C dX7_wanted_12 (by decide) h (fun h => ?_) (fun h => ?_)
    · refine G.ldc C k_369 dX7_wanted_29 ?_
      exact hR _ (Option.some.inj h) _ _ dX7_wanted_31
    · refine G.iload_n C dX7_wanted_15 2 rfl ?_
      refine G.iconst C dX7_wanted_16 ni_1 ?_
      refine G.icmp_gt (tgt := 29) C dX7_wanted_17 (by decide) h (fun h => ?_) (fun h => ?_)
      · refine G.ldc C k_369 dX7_wanted_29 ?_
        exact hR _ (Option.some.inj h) _ _ dX7_wanted_31
      · refine G.iload_n C dX7_wanted_20 3 rfl ?_
        refine G.iload C dX7_wanted_21 5 rfl ?_
        obtain ⟨q23, hq23, h⟩ := bind_some' h
        refine G.csI (cs' := ([wRL t ad vR, wRows t ad vW, wStage t (ad 3) vS, wSeer t ad vE, wStage t (ad 9) vF] ++ fRows t ad gW)) C (c_X7_canTell hq23) [] rfl rfl rfl rfl k_896 cal_X7_canTell (fit_rm (by decide) (by decide)) rfl (Nat.le_of_ble_eq_true rfl) dX7_wanted_23 ?_
        refine G.if_ne (tgt := 32) C dX7_wanted_26 (by decide) h (fun h => ?_) (fun h => ?_)
        · refine G.aload_n C dX7_wanted_32 0 rfl ?_
          refine gfX7_26 (i := 0) (j := 0) (v := .ref (ad 3 0)) C rfl rfl rfl dX7_wanted_33 ?_
          refine gfX7_188 (i := 2) (j := 0) (v := .ref (ad 3 7)) C rfl rfl rfl dX7_wanted_36 ?_
          refine G.iload_n C dX7_wanted_39 1 rfl ?_
          refine G.iald (i := 2) (j := 7) (f := (vS 7)) C rfl rfl h dX7_wanted_40 (fun h => ?_)
          refine G.if_eq (tgt := 47) C dX7_wanted_41 (by decide) h (fun h => ?_) (fun h => ?_)
          · refine G.aload_n C dX7_wanted_47 0 rfl ?_
            refine gfX7_10 (i := 0) (j := 0) (v := .ref (ad 1 0)) C rfl rfl rfl dX7_wanted_48 ?_
            refine G.iload_n C dX7_wanted_51 3 rfl ?_
            refine G.iload C dX7_wanted_52 4 rfl ?_
            refine G.iload C dX7_wanted_54 5 rfl ?_
            obtain ⟨q56, hq56, h⟩ := bind_some' h
            refine G.cvI (i0 := 1) (j0 := 0) (cs' := ([wRL t ad vR, wRows t ad vW, wStage t (ad 3) vS, wSeer t ad vE, wStage t (ad 9) vF] ++ fRows t ad gW)) C (c_X3_findingOfSpan (ad := ad) hq56) [1] rfl rfl rfl rfl rfl rfl rfl k_387 cal_X3_findingOfSpan (fit_rm (by decide) (by decide)) rfl (Nat.le_of_ble_eq_true rfl) dX7_wanted_56 ?_
            refine G.istore (lv' := [(6, .int q56), (0, .ref (ad 0 0)), (1, .int x1), (2, .int x2), (3, .int x3), (4, .int x4), (5, .int x5)]) C dX7_wanted_59 (by decide) rfl ?_
            refine G.iload C dX7_wanted_61 0 rfl ?_
            refine G.if_eq (tgt := 73) C dX7_wanted_63 (by decide) h (fun h => ?_) (fun h => ?_)
            · refine G.aload_n C dX7_wanted_73 1 rfl ?_
              refine gfX7_49 (i := 0) (j := 0) (v := .ref (ad 8 0)) C rfl rfl rfl dX7_wanted_74 ?_
              refine G.aload_n C dX7_wanted_77 1 rfl ?_
              refine gfX7_10 (i := 0) (j := 0) (v := .ref (ad 1 0)) C rfl rfl rfl dX7_wanted_78 ?_
              refine G.iload_n C dX7_wanted_81 4 rfl ?_
              refine G.iload C dX7_wanted_82 5 rfl ?_
              refine G.iload C dX7_wanted_84 6 rfl ?_
              obtain ⟨q86, hq86, h⟩ := bind_some' h
              refine G.cvV (i0 := 3) (j0 := 0) (cs' := ([wRL t ad vR, wRows t ad vW, wStage t (ad 3) vS, wSeer t ad q86, wStage t (ad 9) vF] ++ fRows t ad gW)) C (c_X4_hear (ad := ad) hq86) ([1, 3] ++ (List.range 8).map (fun k => 5 + k)) (famJ rfl fRows_len rfl) (by decide) (famA rfl fRows_ads) (famC rfl rfl rfl fRows_len fRows_len) rfl rfl rfl k_899 cal_X4_hear (fit_rm (by decide) (by decide)) rfl (Nat.le_of_ble_eq_true rfl) dX7_wanted_86 ?_
              refine G.aload_n C dX7_wanted_89 1 rfl ?_
              refine G.iload_n C dX7_wanted_90 3 rfl ?_
              refine jn_use (fun J => ∀ (s121_0 : Int32) (vF_121 : SV), J s121_0 vF_121 = some r → G X ([wRL t ad vR, wRows t ad vW, wStage t (ad 3) vS, wSeer t ad q86, wStage t (ad 9) vF_121] ++ fRows t ad gW) 121 [] [.int s121_0, .ref (ad 0 0)]) h ?_ (fun J121 hJ121 h => ?_)
              · intro s121_0 vF_121 h
                obtain ⟨q121, hq121, h⟩ := bind_some' h
                refine G.cvI (i0 := 0) (j0 := 0) (cs' := ([wRL t ad (q121.2), wRows t ad vW, wStage t (ad 3) vS, wSeer t ad q86, wStage t (ad 9) vF_121] ++ fRows t ad gW)) C (c_X7_foundNothing (ad := ad) hq121) [0] rfl rfl rfl rfl rfl rfl rfl k_379 cal_X7_foundNothing (fit_rm (by decide) (by decide)) rfl (Nat.le_of_ble_eq_true rfl) dX7_wanted_121 ?_
                exact hR _ (Option.some.inj h) _ _ dX7_wanted_124
              refine G.if_ne (tgt := 109) C dX7_wanted_91 (by decide) h (fun h => ?_) (fun h => ?_)
              · refine G.aload_n C dX7_wanted_109 1 rfl ?_
                refine gfX7_49 (i := 0) (j := 0) (v := .ref (ad 8 0)) C rfl rfl rfl dX7_wanted_110 ?_
                refine G.aload_n C dX7_wanted_113 1 rfl ?_
                refine gfX7_26 (i := 0) (j := 0) (v := .ref (ad 3 0)) C rfl rfl rfl dX7_wanted_114 ?_
                refine G.iload_n C dX7_wanted_117 2 rfl ?_
                obtain ⟨q118, hq118, h⟩ := bind_some' h
                refine G.cvI (i0 := 3) (j0 := 0) (cs' := ([wRL t ad vR, wRows t ad vW, wStage t (ad 3) vS, wSeer t ad q86, wStage t (ad 9) (q118.2)] ++ fRows t ad gW)) C (c_X4_patienceThatFits (ad := ad) hq118) [2, 3, 4] rfl rfl rfl rfl rfl rfl rfl k_929 cal_X4_patienceThatFits (fit_rm (by decide) (by decide)) rfl (Nat.le_of_ble_eq_true rfl) dX7_wanted_118 ?_
                exact G.lvs [] rfl (hJ121 _ _ h)
              · refine G.aload_n C dX7_wanted_94 1 rfl ?_
                refine gfX7_49 (i := 0) (j := 0) (v := .ref (ad 8 0)) C rfl rfl rfl dX7_wanted_95 ?_
                refine G.aload_n C dX7_wanted_98 1 rfl ?_
                refine gfX7_26 (i := 0) (j := 0) (v := .ref (ad 3 0)) C rfl rfl rfl dX7_wanted_99 ?_
                refine G.iload_n C dX7_wanted_102 2 rfl ?_
                obtain ⟨q103, hq103, h⟩ := bind_some' h
                refine G.cvI (i0 := 3) (j0 := 0) (cs' := ([wRL t ad vR, wRows t ad vW, wStage t (ad 3) vS, wSeer t ad q86, wStage t (ad 9) (q103.2)] ++ fRows t ad gW)) C (c_X4_wantsThatFit (ad := ad) hq103) [2, 3, 4] rfl rfl rfl rfl rfl rfl rfl k_925 cal_X4_wantsThatFit (fit_rm (by decide) (by decide)) rfl (Nat.le_of_ble_eq_true rfl) dX7_wanted_103 ?_
                refine G.goto (tgt := 121) C dX7_wanted_106 (by decide) ?_
                exact G.lvs [] rfl (hJ121 _ _ h)
            · refine G.aload_n C dX7_wanted_66 1 rfl ?_
              refine G.iload C dX7_wanted_67 0 rfl ?_
              obtain ⟨q69, hq69, h⟩ := bind_some' h
              refine G.cvI (i0 := 0) (j0 := 0) (cs' := ([wRL t ad (q69.2), wRows t ad vW, wStage t (ad 3) vS, wSeer t ad vE, wStage t (ad 9) vF] ++ fRows t ad gW)) C (c_X7_found (ad := ad) hq69) [0] rfl rfl rfl rfl rfl rfl rfl k_370 cal_X7_found (fit_rm (by decide) (by decide)) rfl (Nat.le_of_ble_eq_true rfl) dX7_wanted_69 ?_
              exact hR _ (Option.some.inj h) _ _ dX7_wanted_72
          · refine G.ldc C k_622 dX7_wanted_44 ?_
            exact hR _ (Option.some.inj h) _ _ dX7_wanted_46
        · refine G.ldc C k_369 dX7_wanted_29 ?_
          exact hR _ (Option.some.inj h) _ _ dX7_wanted_31
set_option maxHeartbeats 2000000 in
set_option maxRecDepth 20000 in
theorem c_X7_wasOff {t : Nat → ClassId} {ad : Nat → Nat → Nat} {N : Nat} {vR : SV} {vW : SV} {vS : SV} {vE : SV} {vF : SV} {gW : SV} {x1 : Int32} {x2 : Int32} {x3 : Int32} {r : Int32 × SV × SV × SV} (h : F_X7_wasOff N vR vW vS vE vF gW x1 x2 x3 = some r) : CI t yX7_wasOff cX7_wasOff 5 (some .int) (rm 6) [.ref (ad 0 0), .int x1, .int x2, .int x3] ([wRL t ad vR, wRows t ad vW, wStage t (ad 3) vS, wSeer t ad vE, wStage t (ad 9) vF] ++ fRows t ad gW) (r.1) ([wRL t ad (r.2.1), wRows t ad vW, wStage t (ad 3) vS, wSeer t ad (r.2.2.1), wStage t (ad 9) (r.2.2.2)] ++ fRows t ad gW) := by
  refine CI.of (own := RX7) (by decide) rfl (Nat.le_of_ble_eq_true rfl) (fun X C hR0 => ?_)
  have hR : ∀ q : Int32 × SV × SV × SV, q = r → RetI X cX7_wasOff (q.1) ([wRL t ad (q.2.1), wRows t ad vW, wStage t (ad 3) vS, wSeer t ad (q.2.2.1), wStage t (ad 9) (q.2.2.2)] ++ fRows t ad gW) := by intro q e; subst e; exact hR0
  show G X ([wRL t ad vR, wRows t ad vW, wStage t (ad 3) vS, wSeer t ad vE, wStage t (ad 9) vF] ++ fRows t ad gW) 0 [(0, .ref (ad 0 0)), (1, .int x1), (2, .int x2), (3, .int x3)] []
  unfold F_X7_wasOff at h
  refine G.aload_n C dX7_wasOff_0 0 rfl ?_
  obtain ⟨q1, hq1, h⟩ := bind_some' h
  refine G.cvI (i0 := 0) (j0 := 0) (cs' := ([wRL t ad vR, wRows t ad vW, wStage t (ad 3) vS, wSeer t ad vE, wStage t (ad 9) vF] ++ fRows t ad gW)) C (c_X7_noShow (ad := ad) hq1) [0, 2] rfl rfl rfl rfl rfl rfl rfl k_632 cal_X7_noShow (fit_rm (by decide) (by decide)) rfl (Nat.le_of_ble_eq_true rfl) dX7_wasOff_1 ?_
  refine G.if_eq (tgt := 10) C dX7_wasOff_4 (by decide) h (fun h => ?_) (fun h => ?_)
  · refine G.iload_n C dX7_wasOff_10 1 rfl ?_
    refine G.iload_n C dX7_wasOff_11 3 rfl ?_
    obtain ⟨q12, hq12, h⟩ := bind_some' h
    refine G.csI (cs' := ([wRL t ad vR, wRows t ad vW, wStage t (ad 3) vS, wSeer t ad vE, wStage t (ad 9) vF] ++ fRows t ad gW)) C (c_X7_canTell hq12) [] rfl rfl rfl rfl k_896 cal_X7_canTell (fit_rm (by decide) (by decide)) rfl (Nat.le_of_ble_eq_true rfl) dX7_wasOff_12 ?_
    refine G.if_ne (tgt := 21) C dX7_wasOff_15 (by decide) h (fun h => ?_) (fun h => ?_)
    · refine G.aload_n C dX7_wasOff_21 0 rfl ?_
      refine gfX7_10 (i := 0) (j := 0) (v := .ref (ad 1 0)) C rfl rfl rfl dX7_wasOff_22 ?_
      refine G.iload_n C dX7_wasOff_25 1 rfl ?_
      refine G.iload_n C dX7_wasOff_26 2 rfl ?_
      refine G.iload_n C dX7_wasOff_27 3 rfl ?_
      obtain ⟨q28, hq28, h⟩ := bind_some' h
      refine G.cvI (i0 := 1) (j0 := 0) (cs' := ([wRL t ad vR, wRows t ad vW, wStage t (ad 3) vS, wSeer t ad vE, wStage t (ad 9) vF] ++ fRows t ad gW)) C (c_X3_findingOfSpan (ad := ad) hq28) [1] rfl rfl rfl rfl rfl rfl rfl k_387 cal_X3_findingOfSpan (fit_rm (by decide) (by decide)) rfl (Nat.le_of_ble_eq_true rfl) dX7_wasOff_28 ?_
      refine G.istore (lv' := [(4, .int q28), (0, .ref (ad 0 0)), (1, .int x1), (2, .int x2), (3, .int x3)]) C dX7_wasOff_31 (by decide) rfl ?_
      refine G.iload C dX7_wasOff_33 0 rfl ?_
      refine G.if_eq (tgt := 45) C dX7_wasOff_35 (by decide) h (fun h => ?_) (fun h => ?_)
      · refine G.aload_n C dX7_wasOff_45 1 rfl ?_
        refine gfX7_49 (i := 0) (j := 0) (v := .ref (ad 8 0)) C rfl rfl rfl dX7_wasOff_46 ?_
        refine G.aload_n C dX7_wasOff_49 1 rfl ?_
        refine gfX7_10 (i := 0) (j := 0) (v := .ref (ad 1 0)) C rfl rfl rfl dX7_wasOff_50 ?_
        refine G.iload_n C dX7_wasOff_53 2 rfl ?_
        refine G.iload_n C dX7_wasOff_54 3 rfl ?_
        refine G.iload_n C dX7_wasOff_55 4 rfl ?_
        obtain ⟨q56, hq56, h⟩ := bind_some' h
        refine G.cvV (i0 := 3) (j0 := 0) (cs' := ([wRL t ad vR, wRows t ad vW, wStage t (ad 3) vS, wSeer t ad q56, wStage t (ad 9) vF] ++ fRows t ad gW)) C (c_X4_hear (ad := ad) hq56) ([1, 3] ++ (List.range 8).map (fun k => 5 + k)) (famJ rfl fRows_len rfl) (by decide) (famA rfl fRows_ads) (famC rfl rfl rfl fRows_len fRows_len) rfl rfl rfl k_899 cal_X4_hear (fit_rm (by decide) (by decide)) rfl (Nat.le_of_ble_eq_true rfl) dX7_wasOff_56 ?_
        refine G.aload_n C dX7_wasOff_59 1 rfl ?_
        refine G.aload_n C dX7_wasOff_60 1 rfl ?_
        refine gfX7_49 (i := 0) (j := 0) (v := .ref (ad 8 0)) C rfl rfl rfl dX7_wasOff_61 ?_
        refine G.aload_n C dX7_wasOff_64 1 rfl ?_
        refine gfX7_26 (i := 0) (j := 0) (v := .ref (ad 3 0)) C rfl rfl rfl dX7_wasOff_65 ?_
        obtain ⟨q68, hq68, h⟩ := bind_some' h
        refine G.cvI (i0 := 3) (j0 := 0) (cs' := ([wRL t ad vR, wRows t ad vW, wStage t (ad 3) vS, wSeer t ad q56, wStage t (ad 9) (q68.2)] ++ fRows t ad gW)) C (c_X4_absencesThatFit (ad := ad) hq68) [2, 3, 4] rfl rfl rfl rfl rfl rfl rfl k_937 cal_X4_absencesThatFit (fit_rm (by decide) (by decide)) rfl (Nat.le_of_ble_eq_true rfl) dX7_wasOff_68 ?_
        obtain ⟨q71, hq71, h⟩ := bind_some' h
        refine G.cvI (i0 := 0) (j0 := 0) (cs' := ([wRL t ad (q71.2), wRows t ad vW, wStage t (ad 3) vS, wSeer t ad q56, wStage t (ad 9) (q68.2)] ++ fRows t ad gW)) C (c_X7_foundNothing (ad := ad) hq71) [0] rfl rfl rfl rfl rfl rfl rfl k_379 cal_X7_foundNothing (fit_rm (by decide) (by decide)) rfl (Nat.le_of_ble_eq_true rfl) dX7_wasOff_71 ?_
        exact hR _ (Option.some.inj h) _ _ dX7_wasOff_74
      · refine G.aload_n C dX7_wasOff_38 1 rfl ?_
        refine G.iload C dX7_wasOff_39 0 rfl ?_
        obtain ⟨q41, hq41, h⟩ := bind_some' h
        refine G.cvI (i0 := 0) (j0 := 0) (cs' := ([wRL t ad (q41.2), wRows t ad vW, wStage t (ad 3) vS, wSeer t ad vE, wStage t (ad 9) vF] ++ fRows t ad gW)) C (c_X7_found (ad := ad) hq41) [0] rfl rfl rfl rfl rfl rfl rfl k_370 cal_X7_found (fit_rm (by decide) (by decide)) rfl (Nat.le_of_ble_eq_true rfl) dX7_wasOff_41 ?_
        exact hR _ (Option.some.inj h) _ _ dX7_wasOff_44
    · refine G.ldc C k_369 dX7_wasOff_18 ?_
      exact hR _ (Option.some.inj h) _ _ dX7_wasOff_20
  · refine G.ldc C k_622 dX7_wasOff_7 ?_
    exact hR _ (Option.some.inj h) _ _ dX7_wasOff_9
set_option maxHeartbeats 2000000 in
set_option maxRecDepth 20000 in
theorem c_X7_wander {t : Nat → ClassId} {ad : Nat → Nat → Nat} {N : Nat} {vR : SV} {vS : SV} {vE : SV} {vF : SV} {x1 : Int32} {x2 : Int32} {x3 : Int32} {x4 : Int32} {r : Int64 × SV} (h : F_X7_wander N vR vS vE vF x1 x2 x3 x4 = some r) : CL t yX7_wander cX7_wander 13 (some .long) (rm 7) [.ref (ad 0 0), .int x1, .int x2, .int x3, .int x4] [wRL t ad vR, wStage t (ad 3) vS, wSeer t ad vE, wStage t (ad 9) vF] (r.1) [wRL t ad vR, wStage t (ad 3) vS, wSeer t ad vE, wStage t (ad 9) (r.2)] := by
  refine CL.of (own := RX7) (by decide) rfl (Nat.le_of_ble_eq_true rfl) (fun X C hR0 => ?_)
  have hR : ∀ q : Int64 × SV, q = r → RetL X cX7_wander (q.1) [wRL t ad vR, wStage t (ad 3) vS, wSeer t ad vE, wStage t (ad 9) (q.2)] := by intro q e; subst e; exact hR0
  show G X [wRL t ad vR, wStage t (ad 3) vS, wSeer t ad vE, wStage t (ad 9) vF] 0 [(0, .ref (ad 0 0)), (1, .int x1), (2, .int x2), (3, .int x3), (4, .int x4)] []
  unfold F_X7_wander at h
  refine G.aload_n C dX7_wander_0 0 rfl ?_
  obtain ⟨q1, hq1, h⟩ := bind_some' h
  refine G.cvI (i0 := 0) (j0 := 0) (cs' := [wRL t ad vR, wStage t (ad 3) vS, wSeer t ad vE, wStage t (ad 9) vF]) C (c_X7_noShow (ad := ad) hq1) [0, 1] rfl rfl rfl rfl rfl rfl rfl k_632 cal_X7_noShow (fit_rm (by decide) (by decide)) rfl (Nat.le_of_ble_eq_true rfl) dX7_wander_1 ?_
  refine G.if_eq (tgt := 11) C dX7_wander_4 (by decide) h (fun h => ?_) (fun h => ?_)
  · refine G.iload_n C dX7_wander_11 1 rfl ?_
    refine G.if_lt (tgt := 32) C dX7_wander_12 (by decide) h (fun h => ?_) (fun h => ?_)
    · refine G.ldc2 C k_947 dX7_wander_32 ?_
      exact hR _ (Option.some.inj h) _ _ dX7_wander_35
    · refine G.iload_n C dX7_wander_15 1 rfl ?_
      refine G.sipush C dX7_wander_16 ns_999 ?_
      refine G.icmp_gt (tgt := 32) C dX7_wander_19 (by decide) h (fun h => ?_) (fun h => ?_)
      · refine G.ldc2 C k_947 dX7_wander_32 ?_
        exact hR _ (Option.some.inj h) _ _ dX7_wander_35
      · refine G.iload_n C dX7_wander_22 2 rfl ?_
        refine G.if_lt (tgt := 32) C dX7_wander_23 (by decide) h (fun h => ?_) (fun h => ?_)
        · refine G.ldc2 C k_947 dX7_wander_32 ?_
          exact hR _ (Option.some.inj h) _ _ dX7_wander_35
        · refine G.iload_n C dX7_wander_26 2 rfl ?_
          refine G.bipush C dX7_wander_27 nb_30 ?_
          refine G.icmp_le (tgt := 36) C dX7_wander_29 (by decide) h (fun h => ?_) (fun h => ?_)
          · refine G.iload_n C dX7_wander_36 3 rfl ?_
            refine G.if_lt (tgt := 57) C dX7_wander_37 (by decide) h (fun h => ?_) (fun h => ?_)
            · refine G.ldc2 C k_947 dX7_wander_57 ?_
              exact hR _ (Option.some.inj h) _ _ dX7_wander_60
            · refine G.iload_n C dX7_wander_40 3 rfl ?_
              refine G.bipush C dX7_wander_41 nb_10 ?_
              refine G.icmp_gt (tgt := 57) C dX7_wander_43 (by decide) h (fun h => ?_) (fun h => ?_)
              · refine G.ldc2 C k_947 dX7_wander_57 ?_
                exact hR _ (Option.some.inj h) _ _ dX7_wander_60
              · refine G.iload C dX7_wander_46 4 rfl ?_
                refine G.if_lt (tgt := 57) C dX7_wander_48 (by decide) h (fun h => ?_) (fun h => ?_)
                · refine G.ldc2 C k_947 dX7_wander_57 ?_
                  exact hR _ (Option.some.inj h) _ _ dX7_wander_60
                · refine G.iload C dX7_wander_51 4 rfl ?_
                  refine G.iconst C dX7_wander_53 ni_1 ?_
                  refine G.icmp_le (tgt := 61) C dX7_wander_54 (by decide) h (fun h => ?_) (fun h => ?_)
                  · refine G.aload_n C dX7_wander_61 0 rfl ?_
                    refine gfX7_49 (i := 0) (j := 0) (v := .ref (ad 8 0)) C rfl rfl rfl dX7_wander_62 ?_
                    refine G.aload_n C dX7_wander_65 0 rfl ?_
                    refine gfX7_26 (i := 0) (j := 0) (v := .ref (ad 3 0)) C rfl rfl rfl dX7_wander_66 ?_
                    refine G.iload_n C dX7_wander_69 1 rfl ?_
                    refine G.iload_n C dX7_wander_70 2 rfl ?_
                    refine G.iload_n C dX7_wander_71 3 rfl ?_
                    obtain ⟨q72, hq72, h⟩ := bind_some' h
                    refine G.cvL (i0 := 2) (j0 := 0) (cs' := [wRL t ad vR, wStage t (ad 3) vS, wSeer t ad vE, wStage t (ad 9) (q72.2)]) C (c_X4_likelyCases (ad := ad) hq72) [1, 2, 3] rfl rfl rfl rfl rfl rfl rfl k_948 cal_X4_likelyCases (fit_rm (by decide) (by decide)) rfl (Nat.le_of_ble_eq_true rfl) dX7_wander_72 ?_
                    refine G.lstore (lv' := [(5, .long (q72.1)), (0, .ref (ad 0 0)), (1, .int x1), (2, .int x2), (3, .int x3), (4, .int x4)]) C dX7_wander_75 (by decide) rfl ?_
                    refine G.bipush C dX7_wander_77 nb_10 ?_
                    refine G.aload_n C dX7_wander_79 1 rfl ?_
                    refine gfX7_26 (i := 0) (j := 0) (v := .ref (ad 3 0)) C rfl rfl rfl dX7_wander_80 ?_
                    refine G.iconst C dX7_wander_83 ni_0 ?_
                    obtain ⟨q84, hq84, h⟩ := bind_some' h
                    refine G.cvI (i0 := 1) (j0 := 0) (cs' := [wRL t ad vR, wStage t (ad 3) vS, wSeer t ad vE, wStage t (ad 9) (q72.2)]) C (c_X5_seatsThat (a := (ad 3)) hq84) [1] rfl rfl rfl rfl rfl rfl rfl k_715 cal_X5_seatsThat (fit_rm (by decide) (by decide)) rfl (Nat.le_of_ble_eq_true rfl) dX7_wander_84 ?_
                    obtain ⟨q87, hq87, h⟩ := bind_some' h
                    refine G.csI (cs' := [wRL t ad vR, wStage t (ad 3) vS, wSeer t ad vE, wStage t (ad 9) (q72.2)]) C (c_J6_bitCount_0f7a4 hq87) [] rfl rfl rfl rfl k_869 cal_J6_bitCount_0f7a4 (fit_rm (by decide) (by decide)) rfl (Nat.le_of_ble_eq_true rfl) dX7_wander_87 ?_
                    obtain ⟨q90, hq90, h⟩ := bind_some' h
                    refine G.csL (cs' := [wRL t ad vR, wStage t (ad 3) vS, wSeer t ad vE, wStage t (ad 9) (q72.2)]) C (c_X4_power hq90) [] rfl rfl rfl rfl k_961 cal_X4_power (fit_rm (by decide) (by decide)) rfl (Nat.le_of_ble_eq_true rfl) dX7_wander_90 ?_
                    refine G.lstore (lv' := [(7, .long q90), (5, .long (q72.1)), (0, .ref (ad 0 0)), (1, .int x1), (2, .int x2), (3, .int x3), (4, .int x4)]) C dX7_wander_93 (by decide) rfl ?_
                    refine G.lload C dX7_wander_95 1 rfl ?_
                    refine G.lload C dX7_wander_97 0 rfl ?_
                    obtain ⟨q99, hq99, h⟩ := bind_some' h
                    refine G.csL (cs' := [wRL t ad vR, wStage t (ad 3) vS, wSeer t ad vE, wStage t (ad 9) (q72.2)]) C (c_X4_commonDivisor hq99) [] rfl rfl rfl rfl k_962 cal_X4_commonDivisor (fit_rm (by decide) (by decide)) rfl (Nat.le_of_ble_eq_true rfl) dX7_wander_99 ?_
                    refine G.lstore (lv' := [(9, .long q99), (7, .long q90), (5, .long (q72.1)), (0, .ref (ad 0 0)), (1, .int x1), (2, .int x2), (3, .int x3), (4, .int x4)]) C dX7_wander_102 (by decide) rfl ?_
                    refine G.iload C dX7_wander_104 7 rfl ?_
                    refine jn_use (fun J => ∀ (s116_0 : Int64), J s116_0 = some r → G X [wRL t ad vR, wStage t (ad 3) vS, wSeer t ad vE, wStage t (ad 9) (q72.2)] 116 [(9, .long q99)] [.long s116_0]) h ?_ (fun J116 hJ116 h => ?_)
                    · intro s116_0 h
                      refine G.lstore (lv' := [(11, .long s116_0), (9, .long q99)]) C dX7_wander_116 (by decide) rfl ?_
                      refine G.lload C dX7_wander_118 1 rfl ?_
                      refine G.lconst C dX7_wander_120 nl_0 ?_
                      refine G.lcmp C dX7_wander_121 ?_
                      refine G.if_le (tgt := 133) C dX7_wander_122 (by decide) h (fun h => ?_) (fun h => ?_)
                      · refine G.lload C dX7_wander_133 0 rfl ?_
                        exact hR _ (Option.some.inj h) _ _ dX7_wander_135
                      · refine G.lload C dX7_wander_125 0 rfl ?_
                        refine G.lload C dX7_wander_127 1 rfl ?_
                        refine G.ldiv C dX7_wander_129 h (fun h => ?_)
                        refine G.goto (tgt := 135) C dX7_wander_130 (by decide) ?_
                        exact hR _ (Option.some.inj h) _ _ dX7_wander_135
                    refine G.if_ne (tgt := 114) C dX7_wander_106 (by decide) h (fun h => ?_) (fun h => ?_)
                    · refine G.lload C dX7_wander_114 1 rfl ?_
                      exact G.lvs [0] rfl (hJ116 _ h)
                    · refine G.lload C dX7_wander_109 2 rfl ?_
                      refine G.goto (tgt := 116) C dX7_wander_111 (by decide) ?_
                      exact G.lvs [0] rfl (hJ116 _ h)
                  · refine G.ldc2 C k_947 dX7_wander_57 ?_
                    exact hR _ (Option.some.inj h) _ _ dX7_wander_60
          · refine G.ldc2 C k_947 dX7_wander_32 ?_
            exact hR _ (Option.some.inj h) _ _ dX7_wander_35
  · refine G.ldc2 C k_946 dX7_wander_7 ?_
    exact hR _ (Option.some.inj h) _ _ dX7_wander_10
set_option maxHeartbeats 2000000 in
set_option maxRecDepth 20000 in
theorem c_X7_drawn {t : Nat → ClassId} {ad : Nat → Nat → Nat} {N : Nat} {vR : SV} {vS : SV} {vE : SV} {vF : SV} {x1 : Int32} {x2 : Int32} {x3 : Int32} {r : Int32 × SV} (h : F_X7_drawn N vR vS vE vF x1 x2 x3 = some r) : CI t yX7_drawn cX7_drawn 4 (some .int) (rm 5) [.ref (ad 0 0), .int x1, .int x2, .int x3] [wRL t ad vR, wStage t (ad 3) vS, wSeer t ad vE, wStage t (ad 9) vF] (r.1) [wRL t ad vR, wStage t (ad 3) vS, wSeer t ad vE, wStage t (ad 9) (r.2)] := by
  refine CI.of (own := RX7) (by decide) rfl (Nat.le_of_ble_eq_true rfl) (fun X C hR0 => ?_)
  have hR : ∀ q : Int32 × SV, q = r → RetI X cX7_drawn (q.1) [wRL t ad vR, wStage t (ad 3) vS, wSeer t ad vE, wStage t (ad 9) (q.2)] := by intro q e; subst e; exact hR0
  show G X [wRL t ad vR, wStage t (ad 3) vS, wSeer t ad vE, wStage t (ad 9) vF] 0 [(0, .ref (ad 0 0)), (1, .int x1), (2, .int x2), (3, .int x3)] []
  unfold F_X7_drawn at h
  refine G.aload_n C dX7_drawn_0 0 rfl ?_
  obtain ⟨q1, hq1, h⟩ := bind_some' h
  refine G.cvI (i0 := 0) (j0 := 0) (cs' := [wRL t ad vR, wStage t (ad 3) vS, wSeer t ad vE, wStage t (ad 9) vF]) C (c_X7_noShow (ad := ad) hq1) [0, 1] rfl rfl rfl rfl rfl rfl rfl k_632 cal_X7_noShow (fit_rm (by decide) (by decide)) rfl (Nat.le_of_ble_eq_true rfl) dX7_drawn_1 ?_
  refine G.if_eq (tgt := 10) C dX7_drawn_4 (by decide) h (fun h => ?_) (fun h => ?_)
  · refine G.iload_n C dX7_drawn_10 1 rfl ?_
    refine G.if_lt (tgt := 41) C dX7_drawn_11 (by decide) h (fun h => ?_) (fun h => ?_)
    · refine G.ldc C k_369 dX7_drawn_41 ?_
      exact hR _ (Option.some.inj h) _ _ dX7_drawn_43
    · refine G.iload_n C dX7_drawn_14 1 rfl ?_
      refine G.bipush C dX7_drawn_15 nb_60 ?_
      refine G.icmp_gt (tgt := 41) C dX7_drawn_17 (by decide) h (fun h => ?_) (fun h => ?_)
      · refine G.ldc C k_369 dX7_drawn_41 ?_
        exact hR _ (Option.some.inj h) _ _ dX7_drawn_43
      · refine G.iload_n C dX7_drawn_20 2 rfl ?_
        refine G.iconst C dX7_drawn_21 ni_1 ?_
        refine G.icmp_lt (tgt := 41) C dX7_drawn_22 (by decide) h (fun h => ?_) (fun h => ?_)
        · refine G.ldc C k_369 dX7_drawn_41 ?_
          exact hR _ (Option.some.inj h) _ _ dX7_drawn_43
        · refine G.iload_n C dX7_drawn_25 2 rfl ?_
          refine G.ldcw C k_969 dX7_drawn_26 ?_
          refine G.icmp_gt (tgt := 41) C dX7_drawn_29 (by decide) h (fun h => ?_) (fun h => ?_)
          · refine G.ldc C k_369 dX7_drawn_41 ?_
            exact hR _ (Option.some.inj h) _ _ dX7_drawn_43
          · refine G.iload_n C dX7_drawn_32 3 rfl ?_
            refine G.if_lt (tgt := 41) C dX7_drawn_33 (by decide) h (fun h => ?_) (fun h => ?_)
            · refine G.ldc C k_369 dX7_drawn_41 ?_
              exact hR _ (Option.some.inj h) _ _ dX7_drawn_43
            · refine G.iload_n C dX7_drawn_36 3 rfl ?_
              refine G.iconst C dX7_drawn_37 ni_1 ?_
              refine G.icmp_le (tgt := 44) C dX7_drawn_38 (by decide) h (fun h => ?_) (fun h => ?_)
              · refine G.aload_n C dX7_drawn_44 0 rfl ?_
                refine gfX7_49 (i := 0) (j := 0) (v := .ref (ad 8 0)) C rfl rfl rfl dX7_drawn_45 ?_
                refine G.aload_n C dX7_drawn_48 0 rfl ?_
                refine gfX7_26 (i := 0) (j := 0) (v := .ref (ad 3 0)) C rfl rfl rfl dX7_drawn_49 ?_
                refine G.iload_n C dX7_drawn_52 1 rfl ?_
                refine G.iload_n C dX7_drawn_53 2 rfl ?_
                refine G.iload_n C dX7_drawn_54 3 rfl ?_
                obtain ⟨q55, hq55, h⟩ := bind_some' h
                refine G.cvI (i0 := 2) (j0 := 0) (cs' := [wRL t ad vR, wStage t (ad 3) vS, wSeer t ad vE, wStage t (ad 9) (q55.2)]) C (c_X4_runByDraws (ad := ad) hq55) [1, 2, 3] rfl rfl rfl rfl rfl rfl rfl k_970 cal_X4_runByDraws (fit_rm (by decide) (by decide)) rfl (Nat.le_of_ble_eq_true rfl) dX7_drawn_55 ?_
                exact hR _ (Option.some.inj h) _ _ dX7_drawn_58
              · refine G.ldc C k_369 dX7_drawn_41 ?_
                exact hR _ (Option.some.inj h) _ _ dX7_drawn_43
  · refine G.ldc C k_622 dX7_drawn_7 ?_
    exact hR _ (Option.some.inj h) _ _ dX7_drawn_9
set_option maxHeartbeats 2000000 in
set_option maxRecDepth 20000 in
theorem c_X7_image {t : Nat → ClassId} {ad : Nat → Nat → Nat} {N : Nat} {vR : SV} {vS : SV} {vI : SV} {vJ : SV} {x1 : Int32} {r : Int32 × SV × SV} (h : F_X7_image N vR vS vI vJ x1 = some r) : CI t yX7_image cX7_image 2 (some .int) (rm 2) [.ref (ad 0 0), .int x1] [wRL t ad vR, wStage t (ad 3) vS, wStage t (ad 6) vI, wStage t (ad 7) vJ] (r.1) [wRL t ad vR, wStage t (ad 3) vS, wStage t (ad 6) (r.2.1), wStage t (ad 7) (r.2.2)] := by
  refine CI.of (own := RX7) (by decide) rfl (Nat.le_of_ble_eq_true rfl) (fun X C hR0 => ?_)
  have hR : ∀ q : Int32 × SV × SV, q = r → RetI X cX7_image (q.1) [wRL t ad vR, wStage t (ad 3) vS, wStage t (ad 6) (q.2.1), wStage t (ad 7) (q.2.2)] := by intro q e; subst e; exact hR0
  show G X [wRL t ad vR, wStage t (ad 3) vS, wStage t (ad 6) vI, wStage t (ad 7) vJ] 0 [(0, .ref (ad 0 0)), (1, .int x1)] []
  unfold F_X7_image at h
  refine G.iload_n C dX7_image_0 1 rfl ?_
  refine G.if_lt (tgt := 9) C dX7_image_1 (by decide) h (fun h => ?_) (fun h => ?_)
  · refine G.ldc C k_369 dX7_image_9 ?_
    exact hR _ (Option.some.inj h) _ _ dX7_image_11
  · refine G.iload_n C dX7_image_4 1 rfl ?_
    refine G.iconst C dX7_image_5 ni_1 ?_
    refine G.icmp_le (tgt := 12) C dX7_image_6 (by decide) h (fun h => ?_) (fun h => ?_)
    · refine G.aload_n C dX7_image_12 0 rfl ?_
      obtain ⟨q13, hq13, h⟩ := bind_some' h
      refine G.cvI (i0 := 0) (j0 := 0) (cs' := [wRL t ad vR, wStage t (ad 3) vS, wStage t (ad 6) vI, wStage t (ad 7) vJ]) C (c_X7_noShow (ad := ad) hq13) [0, 1] rfl rfl rfl rfl rfl rfl rfl k_632 cal_X7_noShow (fit_rm (by decide) (by decide)) rfl (Nat.le_of_ble_eq_true rfl) dX7_image_13 ?_
      refine G.if_eq (tgt := 22) C dX7_image_16 (by decide) h (fun h => ?_) (fun h => ?_)
      · refine G.aload_n C dX7_image_22 0 rfl ?_
        refine G.iload_n C dX7_image_23 1 rfl ?_
        refine G.cvR (i0 := 0) (j0 := 0) (cs' := [wRL t ad vR, wStage t (ad 3) vS, wStage t (ad 6) vI, wStage t (ad 7) vJ]) C (c_X7_imageOf (ad := ad)) [0] rfl rfl rfl rfl rfl rfl rfl k_989 cal_X7_imageOf (fit_rm (by decide) (by decide)) rfl (Nat.le_of_ble_eq_true rfl) dX7_image_24 ?_
        by_cases e24 : x1 = (0 : Int32)
        · rw [if_pos e24] at h ⊢
          refine G.aload_n C dX7_image_27 0 rfl ?_
          refine gfX7_26 (i := 0) (j := 0) (v := .ref (ad 3 0)) C rfl rfl rfl dX7_image_28 ?_
          obtain ⟨q31, hq31, h⟩ := bind_some' h
          refine G.cvV (i0 := 2) (j0 := 0) (cs' := [wRL t ad vR, wStage t (ad 3) vS, wStage t (ad 6) q31, wStage t (ad 7) vJ]) C (c_X5_takeOver (a := (ad 6)) (b := (ad 3)) hq31) [2, 1] rfl rfl rfl rfl rfl rfl rfl k_596 cal_X5_takeOver (fit_rm (by decide) (by decide)) rfl (Nat.le_of_ble_eq_true rfl) dX7_image_31 ?_
          refine G.iconst C dX7_image_34 ni_1 ?_
          exact hR _ (Option.some.inj h) _ _ dX7_image_35
        · rw [if_neg e24] at h ⊢
          refine G.aload_n C dX7_image_27 0 rfl ?_
          refine gfX7_26 (i := 0) (j := 0) (v := .ref (ad 3 0)) C rfl rfl rfl dX7_image_28 ?_
          obtain ⟨q31, hq31, h⟩ := bind_some' h
          refine G.cvV (i0 := 3) (j0 := 0) (cs' := [wRL t ad vR, wStage t (ad 3) vS, wStage t (ad 6) vI, wStage t (ad 7) q31]) C (c_X5_takeOver (a := (ad 7)) (b := (ad 3)) hq31) [3, 1] rfl rfl rfl rfl rfl rfl rfl k_596 cal_X5_takeOver (fit_rm (by decide) (by decide)) rfl (Nat.le_of_ble_eq_true rfl) dX7_image_31 ?_
          refine G.iconst C dX7_image_34 ni_1 ?_
          exact hR _ (Option.some.inj h) _ _ dX7_image_35
      · refine G.ldc C k_622 dX7_image_19 ?_
        exact hR _ (Option.some.inj h) _ _ dX7_image_21
    · refine G.ldc C k_369 dX7_image_9 ?_
      exact hR _ (Option.some.inj h) _ _ dX7_image_11
set_option maxHeartbeats 2000000 in
set_option maxRecDepth 20000 in
theorem c_X7_restore {t : Nat → ClassId} {ad : Nat → Nat → Nat} {N : Nat} {vR : SV} {vS : SV} {vA : SV} {vI : SV} {vJ : SV} {x1 : Int32} {r : Int32 × SV × SV} (h : F_X7_restore N vR vS vA vI vJ x1 = some r) : CI t yX7_restore cX7_restore 3 (some .int) (rm 2) [.ref (ad 0 0), .int x1] [wRL t ad vR, wStage t (ad 3) vS, wActs t ad vA, wStage t (ad 6) vI, wStage t (ad 7) vJ] (r.1) [wRL t ad vR, wStage t (ad 3) (r.2.1), wActs t ad (r.2.2), wStage t (ad 6) vI, wStage t (ad 7) vJ] := by
  refine CI.of (own := RX7) (by decide) rfl (Nat.le_of_ble_eq_true rfl) (fun X C hR0 => ?_)
  have hR : ∀ q : Int32 × SV × SV, q = r → RetI X cX7_restore (q.1) [wRL t ad vR, wStage t (ad 3) (q.2.1), wActs t ad (q.2.2), wStage t (ad 6) vI, wStage t (ad 7) vJ] := by intro q e; subst e; exact hR0
  show G X [wRL t ad vR, wStage t (ad 3) vS, wActs t ad vA, wStage t (ad 6) vI, wStage t (ad 7) vJ] 0 [(0, .ref (ad 0 0)), (1, .int x1)] []
  unfold F_X7_restore at h
  refine G.iload_n C dX7_restore_0 1 rfl ?_
  refine G.if_lt (tgt := 9) C dX7_restore_1 (by decide) h (fun h => ?_) (fun h => ?_)
  · refine G.ldc C k_369 dX7_restore_9 ?_
    exact hR _ (Option.some.inj h) _ _ dX7_restore_11
  · refine G.iload_n C dX7_restore_4 1 rfl ?_
    refine G.iconst C dX7_restore_5 ni_1 ?_
    refine G.icmp_le (tgt := 12) C dX7_restore_6 (by decide) h (fun h => ?_) (fun h => ?_)
    · refine G.aload_n C dX7_restore_12 0 rfl ?_
      refine G.iload_n C dX7_restore_13 1 rfl ?_
      refine G.cvR (i0 := 0) (j0 := 0) (cs' := [wRL t ad vR, wStage t (ad 3) vS, wActs t ad vA, wStage t (ad 6) vI, wStage t (ad 7) vJ]) C (c_X7_imageOf (ad := ad)) [0] rfl rfl rfl rfl rfl rfl rfl k_989 cal_X7_imageOf (fit_rm (by decide) (by decide)) rfl (Nat.le_of_ble_eq_true rfl) dX7_restore_14 ?_
      by_cases e14 : x1 = (0 : Int32)
      · rw [if_pos e14] at h ⊢
        refine G.astore_n (lv' := [(2, .ref (ad 6 0)), (0, .ref (ad 0 0)), (1, .int x1)]) C dX7_restore_17 (by decide) rfl ?_
        refine G.aload_n C dX7_restore_18 0 rfl ?_
        refine gfX7_138 (i := 3) (j := 0) (v := .int (vI 0 2)) C rfl rfl rfl dX7_restore_19 ?_
        refine G.if_ne (tgt := 28) C dX7_restore_22 (by decide) h (fun h => ?_) (fun h => ?_)
        · refine G.aload_n C dX7_restore_28 1 rfl ?_
          refine gfX7_26 (i := 0) (j := 0) (v := .ref (ad 3 0)) C rfl rfl rfl dX7_restore_29 ?_
          refine G.aload_n C dX7_restore_32 0 rfl ?_
          obtain ⟨q33, hq33, h⟩ := bind_some' h
          refine G.cvV (i0 := 1) (j0 := 0) (cs' := [wRL t ad vR, wStage t (ad 3) q33, wActs t ad vA, wStage t (ad 6) vI, wStage t (ad 7) vJ]) C (c_X5_takeOver (a := (ad 3)) (b := (ad 6)) hq33) [1, 3] rfl rfl rfl rfl rfl rfl rfl k_596 cal_X5_takeOver (fit_rm (by decide) (by decide)) rfl (Nat.le_of_ble_eq_true rfl) dX7_restore_33 ?_
          refine G.aload_n C dX7_restore_36 1 rfl ?_
          refine gfX7_36 (i := 0) (j := 0) (v := .ref (ad 5 0)) C rfl rfl rfl dX7_restore_37 ?_
          obtain ⟨q40, hq40, h⟩ := bind_some' h
          refine G.cvV (i0 := 2) (j0 := 0) (cs' := [wRL t ad vR, wStage t (ad 3) q33, wActs t ad q40, wStage t (ad 6) vI, wStage t (ad 7) vJ]) C (c_X0_forgetAll (ad := ad) hq40) [2] rfl rfl rfl rfl rfl rfl rfl k_601 cal_X0_forgetAll (fit_rm (by decide) (by decide)) rfl (Nat.le_of_ble_eq_true rfl) dX7_restore_40 ?_
          refine G.iconst C dX7_restore_43 ni_1 ?_
          exact hR _ (Option.some.inj h) _ _ dX7_restore_44
        · refine G.ldc C k_622 dX7_restore_25 ?_
          exact hR _ (Option.some.inj h) _ _ dX7_restore_27
      · rw [if_neg e14] at h ⊢
        refine G.astore_n (lv' := [(2, .ref (ad 7 0)), (0, .ref (ad 0 0)), (1, .int x1)]) C dX7_restore_17 (by decide) rfl ?_
        refine G.aload_n C dX7_restore_18 0 rfl ?_
        refine gfX7_138 (i := 4) (j := 0) (v := .int (vJ 0 2)) C rfl rfl rfl dX7_restore_19 ?_
        refine G.if_ne (tgt := 28) C dX7_restore_22 (by decide) h (fun h => ?_) (fun h => ?_)
        · refine G.aload_n C dX7_restore_28 1 rfl ?_
          refine gfX7_26 (i := 0) (j := 0) (v := .ref (ad 3 0)) C rfl rfl rfl dX7_restore_29 ?_
          refine G.aload_n C dX7_restore_32 0 rfl ?_
          obtain ⟨q33, hq33, h⟩ := bind_some' h
          refine G.cvV (i0 := 1) (j0 := 0) (cs' := [wRL t ad vR, wStage t (ad 3) q33, wActs t ad vA, wStage t (ad 6) vI, wStage t (ad 7) vJ]) C (c_X5_takeOver (a := (ad 3)) (b := (ad 7)) hq33) [1, 4] rfl rfl rfl rfl rfl rfl rfl k_596 cal_X5_takeOver (fit_rm (by decide) (by decide)) rfl (Nat.le_of_ble_eq_true rfl) dX7_restore_33 ?_
          refine G.aload_n C dX7_restore_36 1 rfl ?_
          refine gfX7_36 (i := 0) (j := 0) (v := .ref (ad 5 0)) C rfl rfl rfl dX7_restore_37 ?_
          obtain ⟨q40, hq40, h⟩ := bind_some' h
          refine G.cvV (i0 := 2) (j0 := 0) (cs' := [wRL t ad vR, wStage t (ad 3) q33, wActs t ad q40, wStage t (ad 6) vI, wStage t (ad 7) vJ]) C (c_X0_forgetAll (ad := ad) hq40) [2] rfl rfl rfl rfl rfl rfl rfl k_601 cal_X0_forgetAll (fit_rm (by decide) (by decide)) rfl (Nat.le_of_ble_eq_true rfl) dX7_restore_40 ?_
          refine G.iconst C dX7_restore_43 ni_1 ?_
          exact hR _ (Option.some.inj h) _ _ dX7_restore_44
        · refine G.ldc C k_622 dX7_restore_25 ?_
          exact hR _ (Option.some.inj h) _ _ dX7_restore_27
    · refine G.ldc C k_369 dX7_restore_9 ?_
      exact hR _ (Option.some.inj h) _ _ dX7_restore_11
set_option maxHeartbeats 2000000 in
set_option maxRecDepth 20000 in
theorem c_X7_kind {t : Nat → ClassId} {ad : Nat → Nat → Nat} {N : Nat} {vR : SV} {vS : SV} {x1 : Int32} {r : Int32} (h : F_X7_kind N vR vS x1 = some r) : CI t yX7_kind cX7_kind 2 (some .int) (rm 2) [.ref (ad 0 0), .int x1] [wRL t ad vR, wStage t (ad 3) vS] r [wRL t ad vR, wStage t (ad 3) vS] := by
  refine CI.of (own := RX7) (by decide) rfl (Nat.le_of_ble_eq_true rfl) (fun X C hR0 => ?_)
  have hR : ∀ q : Int32, q = r → RetI X cX7_kind q [wRL t ad vR, wStage t (ad 3) vS] := by intro q e; subst e; exact hR0
  show G X [wRL t ad vR, wStage t (ad 3) vS] 0 [(0, .ref (ad 0 0)), (1, .int x1)] []
  unfold F_X7_kind at h
  refine G.aload_n C dX7_kind_0 0 rfl ?_
  refine gfX7_26 (i := 0) (j := 0) (v := .ref (ad 3 0)) C rfl rfl rfl dX7_kind_1 ?_
  refine G.iload_n C dX7_kind_4 1 rfl ?_
  obtain ⟨q5, hq5, h⟩ := bind_some' h
  refine G.cvI (i0 := 1) (j0 := 0) (cs' := [wRL t ad vR, wStage t (ad 3) vS]) C (c_X5_isThing (a := (ad 3)) hq5) [1] rfl rfl rfl rfl rfl rfl rfl k_687 cal_X5_isThing (fit_rm (by decide) (by decide)) rfl (Nat.le_of_ble_eq_true rfl) dX7_kind_5 ?_
  refine G.if_eq (tgt := 23) C dX7_kind_8 (by decide) h (fun h => ?_) (fun h => ?_)
  · refine G.ldc C k_369 dX7_kind_23 ?_
    exact hR _ (Option.some.inj h) _ _ dX7_kind_25
  · refine G.aload_n C dX7_kind_11 0 rfl ?_
    refine gfX7_26 (i := 0) (j := 0) (v := .ref (ad 3 0)) C rfl rfl rfl dX7_kind_12 ?_
    refine gfX7_325 (i := 1) (j := 0) (v := .ref (ad 3 1)) C rfl rfl rfl dX7_kind_15 ?_
    refine G.iload_n C dX7_kind_18 1 rfl ?_
    refine G.iald (i := 1) (j := 1) (f := (vS 1)) C rfl rfl h dX7_kind_19 (fun h => ?_)
    refine G.goto (tgt := 25) C dX7_kind_20 (by decide) ?_
    exact hR _ (Option.some.inj h) _ _ dX7_kind_25
set_option maxHeartbeats 2000000 in
set_option maxRecDepth 20000 in
theorem c_X7_as {t : Nat → ClassId} {ad : Nat → Nat → Nat} {N : Nat} {vR : SV} {vS : SV} {x1 : Int32} {x2 : Int32} {r : Int32 × SV} (h : F_X7_as N vR vS x1 x2 = some r) : CI t yX7_as cX7_as 3 (some .int) (rm 3) [.ref (ad 0 0), .int x1, .int x2] [wRL t ad vR, wStage t (ad 3) vS] (r.1) [wRL t ad (r.2), wStage t (ad 3) vS] := by
  refine CI.of (own := RX7) (by decide) rfl (Nat.le_of_ble_eq_true rfl) (fun X C hR0 => ?_)
  have hR : ∀ q : Int32 × SV, q = r → RetI X cX7_as (q.1) [wRL t ad (q.2), wStage t (ad 3) vS] := by intro q e; subst e; exact hR0
  show G X [wRL t ad vR, wStage t (ad 3) vS] 0 [(0, .ref (ad 0 0)), (1, .int x1), (2, .int x2)] []
  unfold F_X7_as at h
  refine G.aload_n C dX7_as_0 0 rfl ?_
  refine gfX7_26 (i := 0) (j := 0) (v := .ref (ad 3 0)) C rfl rfl rfl dX7_as_1 ?_
  refine G.iload_n C dX7_as_4 1 rfl ?_
  obtain ⟨q5, hq5, h⟩ := bind_some' h
  refine G.cvI (i0 := 1) (j0 := 0) (cs' := [wRL t ad vR, wStage t (ad 3) vS]) C (c_X5_isThing (a := (ad 3)) hq5) [1] rfl rfl rfl rfl rfl rfl rfl k_687 cal_X5_isThing (fit_rm (by decide) (by decide)) rfl (Nat.le_of_ble_eq_true rfl) dX7_as_5 ?_
  refine G.if_eq (tgt := 18) C dX7_as_8 (by decide) h (fun h => ?_) (fun h => ?_)
  · refine G.ldc C k_369 dX7_as_18 ?_
    exact hR _ (Option.some.inj h) _ _ dX7_as_20
  · refine G.iload_n C dX7_as_11 2 rfl ?_
    obtain ⟨q12, hq12, h⟩ := bind_some' h
    refine G.csI (cs' := [wRL t ad vR, wStage t (ad 3) vS]) C (c_X1_isKind hq12) [] rfl rfl rfl rfl k_1005 cal_X1_isKind (fit_rm (by decide) (by decide)) rfl (Nat.le_of_ble_eq_true rfl) dX7_as_12 ?_
    refine G.if_ne (tgt := 21) C dX7_as_15 (by decide) h (fun h => ?_) (fun h => ?_)
    · refine G.aload_n C dX7_as_21 0 rfl ?_
      refine gfX7_26 (i := 0) (j := 0) (v := .ref (ad 3 0)) C rfl rfl rfl dX7_as_22 ?_
      refine gfX7_325 (i := 1) (j := 0) (v := .ref (ad 3 1)) C rfl rfl rfl dX7_as_25 ?_
      refine G.iload_n C dX7_as_28 1 rfl ?_
      refine G.iald (i := 1) (j := 1) (f := (vS 1)) C rfl rfl h dX7_as_29 (fun h => ?_)
      refine G.iload_n C dX7_as_30 2 rfl ?_
      obtain ⟨q31, hq31, h⟩ := bind_some' h
      refine G.csI (cs' := [wRL t ad vR, wStage t (ad 3) vS]) C (c_X1_isOneOf hq31) [] rfl rfl rfl rfl k_1010 cal_X1_isOneOf (fit_rm (by decide) (by decide)) rfl (Nat.le_of_ble_eq_true rfl) dX7_as_31 ?_
      refine G.if_ne (tgt := 43) C dX7_as_34 (by decide) h (fun h => ?_) (fun h => ?_)
      · refine G.aload_n C dX7_as_43 0 rfl ?_
        refine G.iload_n C dX7_as_44 1 rfl ?_
        obtain ⟨q45, hq45, h⟩ := bind_some' h
        refine G.cvI (i0 := 0) (j0 := 0) (cs' := [wRL t ad (q45.2), wStage t (ad 3) vS]) C (c_X7_foundNothing (ad := ad) hq45) [0] rfl rfl rfl rfl rfl rfl rfl k_379 cal_X7_foundNothing (fit_rm (by decide) (by decide)) rfl (Nat.le_of_ble_eq_true rfl) dX7_as_45 ?_
        exact hR _ (Option.some.inj h) _ _ dX7_as_48
      · refine G.aload_n C dX7_as_37 0 rfl ?_
        refine G.iconst C dX7_as_38 ni_3 ?_
        obtain ⟨q39, hq39, h⟩ := bind_some' h
        refine G.cvI (i0 := 0) (j0 := 0) (cs' := [wRL t ad (q39.2), wStage t (ad 3) vS]) C (c_X7_found (ad := ad) hq39) [0] rfl rfl rfl rfl rfl rfl rfl k_370 cal_X7_found (fit_rm (by decide) (by decide)) rfl (Nat.le_of_ble_eq_true rfl) dX7_as_39 ?_
        exact hR _ (Option.some.inj h) _ _ dX7_as_42
    · refine G.ldc C k_369 dX7_as_18 ?_
      exact hR _ (Option.some.inj h) _ _ dX7_as_20
set_option maxHeartbeats 2000000 in
set_option maxRecDepth 20000 in
theorem c_X7_ask {t : Nat → ClassId} {ad : Nat → Nat → Nat} {N : Nat} {vR : SV} {vS : SV} {vK : SV} {x1 : Int32} {x2 : Int32} {r : Int32 × SV} (h : F_X7_ask N vR vS vK x1 x2 = some r) : CI t yX7_ask cX7_ask 3 (some .int) (rm 125) [.ref (ad 0 0), .int x1, .int x2] [wRL t ad vR, wStage t (ad 3) vS, wAsker t ad vK] (r.1) [wRL t ad vR, wStage t (ad 3) vS, wAsker t ad (r.2)] := by
  refine CI.of (own := RX7) (by decide) rfl (Nat.le_of_ble_eq_true rfl) (fun X C hR0 => ?_)
  have hR : ∀ q : Int32 × SV, q = r → RetI X cX7_ask (q.1) [wRL t ad vR, wStage t (ad 3) vS, wAsker t ad (q.2)] := by intro q e; subst e; exact hR0
  show G X [wRL t ad vR, wStage t (ad 3) vS, wAsker t ad vK] 0 [(0, .ref (ad 0 0)), (1, .int x1), (2, .int x2)] []
  unfold F_X7_ask at h
  refine G.aload_n C dX7_ask_0 0 rfl ?_
  refine gfX7_26 (i := 0) (j := 0) (v := .ref (ad 3 0)) C rfl rfl rfl dX7_ask_1 ?_
  refine G.iload_n C dX7_ask_4 1 rfl ?_
  obtain ⟨q5, hq5, h⟩ := bind_some' h
  refine G.cvI (i0 := 1) (j0 := 0) (cs' := [wRL t ad vR, wStage t (ad 3) vS, wAsker t ad vK]) C (c_X5_isThing (a := (ad 3)) hq5) [1] rfl rfl rfl rfl rfl rfl rfl k_687 cal_X5_isThing (fit_rm (by decide) (by decide)) rfl (Nat.le_of_ble_eq_true rfl) dX7_ask_5 ?_
  refine G.if_eq (tgt := 20) C dX7_ask_8 (by decide) h (fun h => ?_) (fun h => ?_)
  · refine G.ldc C k_369 dX7_ask_20 ?_
    exact hR _ (Option.some.inj h) _ _ dX7_ask_22
  · refine G.iload_n C dX7_ask_11 2 rfl ?_
    refine G.if_lt (tgt := 20) C dX7_ask_12 (by decide) h (fun h => ?_) (fun h => ?_)
    · refine G.ldc C k_369 dX7_ask_20 ?_
      exact hR _ (Option.some.inj h) _ _ dX7_ask_22
    · refine G.iload_n C dX7_ask_15 2 rfl ?_
      refine G.iconst C dX7_ask_16 ni_1 ?_
      refine G.icmp_le (tgt := 23) C dX7_ask_17 (by decide) h (fun h => ?_) (fun h => ?_)
      · refine G.aload_n C dX7_ask_23 0 rfl ?_
        refine gfX7_63 (i := 0) (j := 0) (v := .ref (ad 12 0)) C rfl rfl rfl dX7_ask_24 ?_
        refine G.aload_n C dX7_ask_27 0 rfl ?_
        refine gfX7_26 (i := 0) (j := 0) (v := .ref (ad 3 0)) C rfl rfl rfl dX7_ask_28 ?_
        refine G.iload_n C dX7_ask_31 1 rfl ?_
        refine G.iload_n C dX7_ask_32 2 rfl ?_
        obtain ⟨q33, hq33, h⟩ := bind_some' h
        refine G.cvI (i0 := 2) (j0 := 0) (cs' := [wRL t ad vR, wStage t (ad 3) vS, wAsker t ad (q33.2)]) C (c_X1_answer (ad := ad) hq33) [1, 2] rfl rfl rfl rfl rfl rfl rfl k_1018 cal_X1_answer (fit_rm (by decide) (by decide)) rfl (Nat.le_of_ble_eq_true rfl) dX7_ask_33 ?_
        exact hR _ (Option.some.inj h) _ _ dX7_ask_36
      · refine G.ldc C k_369 dX7_ask_20 ?_
        exact hR _ (Option.some.inj h) _ _ dX7_ask_22
set_option maxHeartbeats 2000000 in
set_option maxRecDepth 20000 in
theorem c_X7_trace {t : Nat → ClassId} {ad : Nat → Nat → Nat} {N : Nat} {vR : SV} {vK : SV} {x1 : Int32} {r : Int32} (h : F_X7_trace N vR vK x1 = some r) : CI t yX7_trace cX7_trace 2 (some .int) (rm 2) [.ref (ad 0 0), .int x1] [wRL t ad vR, wAsker t ad vK] r [wRL t ad vR, wAsker t ad vK] := by
  refine CI.of (own := RX7) (by decide) rfl (Nat.le_of_ble_eq_true rfl) (fun X C hR0 => ?_)
  have hR : ∀ q : Int32, q = r → RetI X cX7_trace q [wRL t ad vR, wAsker t ad vK] := by intro q e; subst e; exact hR0
  show G X [wRL t ad vR, wAsker t ad vK] 0 [(0, .ref (ad 0 0)), (1, .int x1)] []
  unfold F_X7_trace at h
  refine G.aload_n C dX7_trace_0 0 rfl ?_
  refine gfX7_63 (i := 0) (j := 0) (v := .ref (ad 12 0)) C rfl rfl rfl dX7_trace_1 ?_
  refine G.iload_n C dX7_trace_4 1 rfl ?_
  obtain ⟨q5, hq5, h⟩ := bind_some' h
  refine G.cvI (i0 := 1) (j0 := 0) (cs' := [wRL t ad vR, wAsker t ad vK]) C (c_X1_traced (ad := ad) hq5) [1] rfl rfl rfl rfl rfl rfl rfl k_1043 cal_X1_traced (fit_rm (by decide) (by decide)) rfl (Nat.le_of_ble_eq_true rfl) dX7_trace_5 ?_
  obtain ⟨q8, hq8, h⟩ := bind_some' h
  refine G.csI (cs' := [wRL t ad vR, wAsker t ad vK]) C (c_X7_orNone hq8) [] rfl rfl rfl rfl k_720 cal_X7_orNone (fit_rm (by decide) (by decide)) rfl (Nat.le_of_ble_eq_true rfl) dX7_trace_8 ?_
  exact hR _ (Option.some.inj h) _ _ dX7_trace_11
set_option maxHeartbeats 2000000 in
set_option maxRecDepth 20000 in
theorem c_X7_count {t : Nat → ClassId} {ad : Nat → Nat → Nat} {N : Nat} {vR : SV} {vW : SV} {vT : SV} {vS : SV} {vA : SV} {x1 : Int32} {r : Int32} (h : F_X7_count N vR vW vT vS vA x1 = some r) : CI t yX7_count cX7_count 2 (some .int) (rm 3) [.ref (ad 0 0), .int x1] [wRL t ad vR, wRows t ad vW, wTape t ad vT, wStage t (ad 3) vS, wActs t ad vA] r [wRL t ad vR, wRows t ad vW, wTape t ad vT, wStage t (ad 3) vS, wActs t ad vA] := by
  refine CI.of (own := RX7) (by decide) rfl (Nat.le_of_ble_eq_true rfl) (fun X C hR0 => ?_)
  have hR : ∀ q : Int32, q = r → RetI X cX7_count q [wRL t ad vR, wRows t ad vW, wTape t ad vT, wStage t (ad 3) vS, wActs t ad vA] := by intro q e; subst e; exact hR0
  show G X [wRL t ad vR, wRows t ad vW, wTape t ad vT, wStage t (ad 3) vS, wActs t ad vA] 0 [(0, .ref (ad 0 0)), (1, .int x1)] []
  unfold F_X7_count at h
  refine G.iload_n C dX7_count_0 1 rfl ?_
  by_cases e_0 : x1 = 0
  · rw [if_pos e_0] at h
    have n_0 : x1.toInt = 0 := by rw [e_0]; decide
    refine G.tableIn (tgt := 48) C dX7_count_1 (by rw [n_0]; decide) (by rw [n_0]; decide) (by rw [n_0]; rfl) (by decide) ?_
    refine G.aload_n C dX7_count_48 0 rfl ?_
    refine gfX7_10 (i := 0) (j := 0) (v := .ref (ad 1 0)) C rfl rfl rfl dX7_count_49 ?_
    obtain ⟨q52, hq52, h⟩ := bind_some' h
    refine G.cvI (i0 := 1) (j0 := 0) (cs' := [wRL t ad vR, wRows t ad vW, wTape t ad vT, wStage t (ad 3) vS, wActs t ad vA]) C (c_X3_present (ad := ad) hq52) [1] rfl rfl rfl rfl rfl rfl rfl k_1051 cal_X3_present (fit_rm (by decide) (by decide)) rfl (Nat.le_of_ble_eq_true rfl) dX7_count_52 ?_
    exact hR _ (Option.some.inj h) _ _ dX7_count_55
  rw [if_neg e_0] at h
  by_cases e_1 : x1 = 1
  · rw [if_pos e_1] at h
    have n_1 : x1.toInt = 1 := by rw [e_1]; decide
    refine G.tableIn (tgt := 56) C dX7_count_1 (by rw [n_1]; decide) (by rw [n_1]; decide) (by rw [n_1]; rfl) (by decide) ?_
    refine G.aload_n C dX7_count_56 0 rfl ?_
    refine gfX7_26 (i := 0) (j := 0) (v := .ref (ad 3 0)) C rfl rfl rfl dX7_count_57 ?_
    refine gfX7_138 (i := 3) (j := 0) (v := .int (vS 0 2)) C rfl rfl rfl dX7_count_60 ?_
    exact hR _ (Option.some.inj h) _ _ dX7_count_63
  rw [if_neg e_1] at h
  by_cases e_2 : x1 = 2
  · rw [if_pos e_2] at h
    have n_2 : x1.toInt = 2 := by rw [e_2]; decide
    refine G.tableIn (tgt := 64) C dX7_count_1 (by rw [n_2]; decide) (by rw [n_2]; decide) (by rw [n_2]; rfl) (by decide) ?_
    refine G.aload_n C dX7_count_64 0 rfl ?_
    refine gfX7_26 (i := 0) (j := 0) (v := .ref (ad 3 0)) C rfl rfl rfl dX7_count_65 ?_
    refine gfX7_343 (i := 3) (j := 0) (v := .int (vS 0 3)) C rfl rfl rfl dX7_count_68 ?_
    exact hR _ (Option.some.inj h) _ _ dX7_count_71
  rw [if_neg e_2] at h
  by_cases e_3 : x1 = 3
  · rw [if_pos e_3] at h
    have n_3 : x1.toInt = 3 := by rw [e_3]; decide
    refine G.tableIn (tgt := 72) C dX7_count_1 (by rw [n_3]; decide) (by rw [n_3]; decide) (by rw [n_3]; rfl) (by decide) ?_
    refine G.aload_n C dX7_count_72 0 rfl ?_
    refine gfX7_26 (i := 0) (j := 0) (v := .ref (ad 3 0)) C rfl rfl rfl dX7_count_73 ?_
    refine gfX7_154 (i := 3) (j := 0) (v := .int (vS 0 5)) C rfl rfl rfl dX7_count_76 ?_
    exact hR _ (Option.some.inj h) _ _ dX7_count_79
  rw [if_neg e_3] at h
  by_cases e_4 : x1 = 4
  · rw [if_pos e_4] at h
    have n_4 : x1.toInt = 4 := by rw [e_4]; decide
    refine G.tableIn (tgt := 80) C dX7_count_1 (by rw [n_4]; decide) (by rw [n_4]; decide) (by rw [n_4]; rfl) (by decide) ?_
    refine G.aload_n C dX7_count_80 0 rfl ?_
    refine gfX7_26 (i := 0) (j := 0) (v := .ref (ad 3 0)) C rfl rfl rfl dX7_count_81 ?_
    refine gfX7_182 (i := 3) (j := 0) (v := .int (vS 0 4)) C rfl rfl rfl dX7_count_84 ?_
    exact hR _ (Option.some.inj h) _ _ dX7_count_87
  rw [if_neg e_4] at h
  by_cases e_5 : x1 = 5
  · rw [if_pos e_5] at h
    have n_5 : x1.toInt = 5 := by rw [e_5]; decide
    refine G.tableIn (tgt := 88) C dX7_count_1 (by rw [n_5]; decide) (by rw [n_5]; decide) (by rw [n_5]; rfl) (by decide) ?_
    refine G.aload_n C dX7_count_88 0 rfl ?_
    refine gfX7_26 (i := 0) (j := 0) (v := .ref (ad 3 0)) C rfl rfl rfl dX7_count_89 ?_
    refine gfX7_163 (i := 3) (j := 0) (v := .int (vS 0 6)) C rfl rfl rfl dX7_count_92 ?_
    exact hR _ (Option.some.inj h) _ _ dX7_count_95
  rw [if_neg e_5] at h
  by_cases e_6 : x1 = 6
  · rw [if_pos e_6] at h
    have n_6 : x1.toInt = 6 := by rw [e_6]; decide
    refine G.tableIn (tgt := 96) C dX7_count_1 (by rw [n_6]; decide) (by rw [n_6]; decide) (by rw [n_6]; rfl) (by decide) ?_
    refine G.aload_n C dX7_count_96 0 rfl ?_
    refine gfX7_36 (i := 0) (j := 0) (v := .ref (ad 5 0)) C rfl rfl rfl dX7_count_97 ?_
    obtain ⟨q100, hq100, h⟩ := bind_some' h
    refine G.cvI (i0 := 4) (j0 := 0) (cs' := [wRL t ad vR, wRows t ad vW, wTape t ad vT, wStage t (ad 3) vS, wActs t ad vA]) C (c_X0_kept (ad := ad) hq100) [4] rfl rfl rfl rfl rfl rfl rfl k_618 cal_X0_kept (fit_rm (by decide) (by decide)) rfl (Nat.le_of_ble_eq_true rfl) dX7_count_100 ?_
    exact hR _ (Option.some.inj h) _ _ dX7_count_103
  rw [if_neg e_6] at h
  by_cases e_7 : x1 = 7
  · rw [if_pos e_7] at h
    have n_7 : x1.toInt = 7 := by rw [e_7]; decide
    refine G.tableIn (tgt := 104) C dX7_count_1 (by rw [n_7]; decide) (by rw [n_7]; decide) (by rw [n_7]; rfl) (by decide) ?_
    refine G.aload_n C dX7_count_104 0 rfl ?_
    refine gfX7_19 (i := 0) (j := 0) (v := .ref (ad 2 0)) C rfl rfl rfl dX7_count_105 ?_
    obtain ⟨q108, hq108, h⟩ := bind_some' h
    refine G.cvI (i0 := 2) (j0 := 0) (cs' := [wRL t ad vR, wRows t ad vW, wTape t ad vT, wStage t (ad 3) vS, wActs t ad vA]) C (c_X6_length (ad := ad) hq108) [2] rfl rfl rfl rfl rfl rfl rfl k_1055 cal_X6_length (fit_rm (by decide) (by decide)) rfl (Nat.le_of_ble_eq_true rfl) dX7_count_108 ?_
    exact hR _ (Option.some.inj h) _ _ dX7_count_111
  rw [if_neg e_7] at h
  have n_0 : x1.toInt ≠ 0 := fun h9 => e_0 (Int32.toInt_inj.mp (by rw [h9]; decide))
  have n_1 : x1.toInt ≠ 1 := fun h9 => e_1 (Int32.toInt_inj.mp (by rw [h9]; decide))
  have n_2 : x1.toInt ≠ 2 := fun h9 => e_2 (Int32.toInt_inj.mp (by rw [h9]; decide))
  have n_3 : x1.toInt ≠ 3 := fun h9 => e_3 (Int32.toInt_inj.mp (by rw [h9]; decide))
  have n_4 : x1.toInt ≠ 4 := fun h9 => e_4 (Int32.toInt_inj.mp (by rw [h9]; decide))
  have n_5 : x1.toInt ≠ 5 := fun h9 => e_5 (Int32.toInt_inj.mp (by rw [h9]; decide))
  have n_6 : x1.toInt ≠ 6 := fun h9 => e_6 (Int32.toInt_inj.mp (by rw [h9]; decide))
  have n_7 : x1.toInt ≠ 7 := fun h9 => e_7 (Int32.toInt_inj.mp (by rw [h9]; decide))
  refine G.tableOut (tgt := 112) C dX7_count_1 (by omega) (by decide) ?_
  refine G.ldc C k_369 dX7_count_112 ?_
  exact hR _ (Option.some.inj h) _ _ dX7_count_114
set_option maxHeartbeats 2000000 in
set_option maxRecDepth 20000 in
theorem c_X7_status {t : Nat → ClassId} {ad : Nat → Nat → Nat} {N : Nat} {vR : SV} {r : Int32} (h : F_X7_status N vR = some r) : CI t yX7_status cX7_status 1 (some .int) (rm 1) [.ref (ad 0 0)] [wRL t ad vR] r [wRL t ad vR] := by
  refine CI.of (own := RX7) (by decide) rfl (Nat.le_of_ble_eq_true rfl) (fun X C hR0 => ?_)
  have hR : ∀ q : Int32, q = r → RetI X cX7_status q [wRL t ad vR] := by intro q e; subst e; exact hR0
  show G X [wRL t ad vR] 0 [(0, .ref (ad 0 0))] []
  unfold F_X7_status at h
  refine G.aload_n C dX7_status_0 0 rfl ?_
  refine gfX7_67 (i := 0) (j := 0) (v := .int (vR 0 10)) C rfl rfl rfl dX7_status_1 ?_
  exact hR _ (Option.some.inj h) _ _ dX7_status_4
