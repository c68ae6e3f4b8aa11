def F_X4_nextOne (N : Nat) (vS : SV) (vE : SV) (vF : SV) (x2 : Int32) : Option (Int32 × SV) := (F_X5_takeOver N vF vS).bind (fun q5 => (F_X5_tapOnce N q5).bind (fun q12 => if x2 = (0 : Int32) then (some ((q12 0 7), q12)) else (if x2 = (1 : Int32) then (some ((q12 0 8), q12)) else (some ((q12 0 9), q12)))))
def F_X4_standingBehind (N : Nat) (vS : SV) (vE : SV) (vF : SV) (x2 : Int32) (x3 : Int32) : Option (Int32 × SV) := (F_X5_takeOver N vF vS).bind (fun q5 => (F_X5_tapWhileOneWaits N q5 x2).bind (fun q13 => (F_X5_standing N q13 x3).bind (fun q21 => some (q21, q13))))
def F_X4_tapsUntil_L11 (N : Nat) (vS : SV) (vE : SV) (x2 : Int32) (x3 : Int32) : Nat → Int32 → SV → Option (Int32 × SV)
  | 0, _, _ => none
  | n + 1, x4, vF => if (60 : Int32) < x4 then (some ((-1 : Int32), vF)) else (chk 6 x2 (if ((vF 7) (x2.toNatClampNeg)) = x3 then (some (x4, vF)) else ((F_X5_tapOnce N vF).bind (fun q38 => F_X4_tapsUntil_L11 N vS vE x2 x3 n (x4 + (1 : Int32)) q38))))
def F_X4_tapsUntil (N : Nat) (vS : SV) (vE : SV) (vF : SV) (x2 : Int32) (x3 : Int32) : Option (Int32 × SV) := (F_X5_takeOver N vF vS).bind (fun q5 => F_X4_tapsUntil_L11 N vS vE x2 x3 N (0 : Int32) q5)
def F_X4_tapOf_L10 (N : Nat) (vS : SV) (vE : SV) (x2 : Int32) : Nat → Int32 → SV → Option (Int32 × SV)
  | 0, _, _ => none
  | n + 1, x3, vF => if (60 : Int32) < x3 then (some ((-1 : Int32), vF)) else ((F_X5_tapOnce N vF).bind (fun q20 => if (q20 0 7) = x2 then (some (x3, q20)) else (F_X4_tapOf_L10 N vS vE x2 n (x3 + (1 : Int32)) q20)))
def F_X4_tapOf (N : Nat) (vS : SV) (vE : SV) (vF : SV) (x2 : Int32) : Option (Int32 × SV) := (F_X5_takeOver N vF vS).bind (fun q5 => F_X4_tapOf_L10 N vS vE x2 N (1 : Int32) q5)
def F_X4_hear_L14 (N : Nat) (vW : SV) (gW : SV) (x2 : Int32) (x3 : Int32) : Nat → Int32 → SV → Option (SV)
  | 0, _, _ => none
  | n + 1, x5, vE => if x5 < (vE 0 2) then ((F_X3_item N vW gW x2 (x3 + x5)).bind (fun q35 => chk 12 x5 (F_X4_hear_L14 N vW gW x2 x3 n (x5 + (1 : Int32)) (up2 vE 1 (x5.toNatClampNeg) q35)))) else (some vE)
def F_X4_hear (N : Nat) (vW : SV) (vE : SV) (gW : SV) (x2 : Int32) (x3 : Int32) (x4 : Int32) : Option (SV) := F_X4_hear_L14 N vW gW x2 x3 N (0 : Int32) (up2 vE 0 2 (if (12 : Int32) < x4 then (12 : Int32) else x4))
def F_X4_trialClapsAsTold_L2 (N : Nat) (vE : SV) : Nat → Int32 → SV → Option (Int32 × SV)
  | 0, _, _ => none
  | n + 1, x1, vF => if x1 < (vE 0 2) then ((F_X5_tapOnce N vF).bind (fun q14 => chk 12 x1 (if (q14 0 6) = ((vE 1) (x1.toNatClampNeg)) then (F_X4_trialClapsAsTold_L2 N vE n (x1 + (1 : Int32)) q14) else (some ((0 : Int32), q14))))) else (some ((1 : Int32), vF))
def F_X4_trialClapsAsTold (N : Nat) (vE : SV) (vF : SV) : Option (Int32 × SV) := F_X4_trialClapsAsTold_L2 N vE N (0 : Int32) vF
def F_X4_reshape (N : Nat) (vE : SV) (vF : SV) (x1 : Int32) (x2 : Int32) (x3 : Int32) : Option (SV) := if x2 = (0 : Int32) then (chk 6 x1 (some (up2 vF 1 (x1.toNatClampNeg) x3))) else (if x2 = (1 : Int32) then (chk 6 x1 (some (up2 vF 2 (x1.toNatClampNeg) x3))) else (chk 6 x1 (some (up2 vF 4 (x1.toNatClampNeg) x3))))
def F_X4_shapesThatFit_L30 (N : Nat) (vS : SV) (vE : SV) (x2 : Int32) (x3 : Int32) (x5 : Int32) : Nat → Int32 → Int32 → SV → Option (Int32 × SV)
  | 0, _, _, _ => none
  | n + 1, x6, x7, vF => if x5 < x7 then (some (x6, vF)) else ((F_X5_takeOver N vF vS).bind (fun q42 => (F_X4_reshape N vE q42 x2 x3 x7).bind (fun q50 => (F_X4_trialClapsAsTold N vE q50).bind (fun q54 => jn (fun (x6_69 : Int32) => F_X4_shapesThatFit_L30 N vS vE x2 x3 x5 n x6_69 (x7 + (1 : Int32)) (q54.2)) (fun J69 => if (q54.1) = (0 : Int32) then (J69 x6) else (J69 (x6 ||| ((1 : Int32) <<< (x7 &&& 31)))))))))
def F_X4_shapesThatFit (N : Nat) (vS : SV) (vE : SV) (vF : SV) (x2 : Int32) (x3 : Int32) : Option (Int32 × SV) := jn (fun (s9_0 : Int32) => jn (fun (s21_0 : Int32) => F_X4_shapesThatFit_L30 N vS vE x2 x3 s21_0 N (0 : Int32) s9_0 vF) (fun J21 => if x3 = (0 : Int32) then (J21 (5 : Int32)) else (J21 (9 : Int32)))) (fun J9 => if x3 = (0 : Int32) then (J9 (1 : Int32)) else (J9 (0 : Int32)))
def F_X4_wantsThatFit_L5 (N : Nat) (vS : SV) (vE : SV) (x2 : Int32) : Nat → Int32 → Int32 → SV → Option (Int32 × SV)
  | 0, _, _, _ => none
  | n + 1, x3, x4, vF => if (9 : Int32) < x4 then (some (x3, vF)) else ((F_X5_takeOver N vF vS).bind (fun q17 => chk 6 x2 ((F_X4_trialClapsAsTold N vE (up2 q17 5 (x2.toNatClampNeg) x4)).bind (fun q32 => jn (fun (x3_45 : Int32) => F_X4_wantsThatFit_L5 N vS vE x2 n x3_45 (x4 + (1 : Int32)) (q32.2)) (fun J45 => if (q32.1) = (0 : Int32) then (J45 x3) else (J45 (x3 ||| ((1 : Int32) <<< (x4 &&& 31)))))))))
def F_X4_wantsThatFit (N : Nat) (vS : SV) (vE : SV) (vF : SV) (x2 : Int32) : Option (Int32 × SV) := F_X4_wantsThatFit_L5 N vS vE x2 N (0 : Int32) (0 : Int32) vF
def F_X4_patienceThatFits_L5 (N : Nat) (vS : SV) (vE : SV) (x2 : Int32) : Nat → Int32 → Int32 → SV → Option (Int32 × SV)
  | 0, _, _, _ => none
  | n + 1, x3, x4, vF => if (20 : Int32) < x4 then (some (x3, vF)) else ((F_X5_takeOver N vF vS).bind (fun q17 => chk 6 x2 ((F_X4_trialClapsAsTold N vE (up2 q17 6 (x2.toNatClampNeg) x4)).bind (fun q32 => jn (fun (x3_45 : Int32) => F_X4_patienceThatFits_L5 N vS vE x2 n x3_45 (x4 + (1 : Int32)) (q32.2)) (fun J45 => if (q32.1) = (0 : Int32) then (J45 x3) else (J45 (x3 ||| ((1 : Int32) <<< (x4 &&& 31)))))))))
def F_X4_patienceThatFits (N : Nat) (vS : SV) (vE : SV) (vF : SV) (x2 : Int32) : Option (Int32 × SV) := F_X4_patienceThatFits_L5 N vS vE x2 N (0 : Int32) (1 : Int32) vF
def F_X4_absencesThatFit_L24 (N : Nat) (vS : SV) (vE : SV) : Nat → Int32 → Int32 → SV → Option (Int32 × SV)
  | 0, _, _, _ => none
  | n + 1, x2, x3, vF => if x3 < (vS 0 4) then ((F_X5_takeOver N vF vS).bind (fun q37 => chk 6 x3 ((F_X5_takeOff N q37 ((vS 8) (x3.toNatClampNeg))).bind (fun q50 => (F_X4_trialClapsAsTold N vE q50).bind (fun q54 => jn (fun (x2_71 : Int32) => F_X4_absencesThatFit_L24 N vS vE n x2_71 (x3 + (1 : Int32)) (q54.2)) (fun J71 => if (q54.1) = (0 : Int32) then (J71 x2) else (chk 6 x3 (J71 (x2 ||| ((1 : Int32) <<< (((vS 8) (x3.toNatClampNeg)) &&& 31))))))))))) else (some (x2, vF))
def F_X4_absencesThatFit (N : Nat) (vS : SV) (vE : SV) (vF : SV) : Option (Int32 × SV) := (F_X5_takeOver N vF vS).bind (fun q5 => (F_X4_trialClapsAsTold N vE q5).bind (fun q9 => jn (fun (s21_0 : Int32) => F_X4_absencesThatFit_L24 N vS vE N s21_0 (0 : Int32) (q9.2)) (fun J21 => if (q9.1) = (0 : Int32) then (J21 (0 : Int32)) else (J21 (64 : Int32)))))
def F_X4_power_L5 (N : Nat) (x0 : Int32) (x1 : Int32) (K22 : Int64 → Option (Int64)) : Nat → Int64 → Int32 → Option (Int64)
  | 0, _, _ => none
  | n + 1, x2, x4 => if x4 < x1 then (F_X4_power_L5 N x0 x1 K22 n (x2 * (x0.toInt64)) (x4 + (1 : Int32))) else (K22 x2)
def F_X4_power (N : Nat) (x0 : Int32) (x1 : Int32) : Option (Int64) := F_X4_power_L5 N x0 x1 (fun (x2_22 : Int64) => some x2_22) N (1 : Int64) (0 : Int32)
def F_X4_clappedWithout_L11 (N : Nat) (vS : SV) (vE : SV) (x2 : Int32) (x3 : Int32) (K50 : SV → Option (Int32 × SV)) : Nat → Int32 → SV → Option (Int32 × SV)
  | 0, _, _ => none
  | n + 1, x4, vF => if x4 < (vF 0 3) then (jn (fun (vF_44 : SV) => F_X4_clappedWithout_L11 N vS vE x2 x3 K50 n (x4 + (1 : Int32)) vF_44) (fun J44 => if ((x2 >>> (x4 &&& 31)) &&& (1 : Int32)) = (1 : Int32) then (chk 6 x4 (J44 (up2 vF 7 (x4.toNatClampNeg) (2 : Int32)))) else (J44 vF))) else (K50 vF)
def F_X4_clappedWithout (N : Nat) (vS : SV) (vE : SV) (vF : SV) (x2 : Int32) (x3 : Int32) : Option (Int32 × SV) := (F_X5_takeOver N vF vS).bind (fun q5 => F_X4_clappedWithout_L11 N vS vE x2 x3 (fun (vF_50 : SV) => (F_X5_tapWhileOneWaits N vF_50 x3).bind (fun q55 => some ((q55 0 6), q55))) N (0 : Int32) q5)
def F_X4_likelyCases_L13 (N : Nat) (vS : SV) (vE : SV) (x2 : Int32) (x3 : Int32) (x4 : Int32) (x5 : Int32) (K99 : Int64 → SV → Option (Int64 × SV)) : Nat → Int64 → Int32 → SV → Option (Int64 × SV)
  | 0, _, _, _ => none
  | n + 1, x6, x8, vF => if x5 < x8 then (K99 x6 vF) else (jn (fun (x6_93 : Int64) (vF_93 : SV) => F_X4_likelyCases_L13 N vS vE x2 x3 x4 x5 K99 n x6_93 (x8 + (1 : Int32)) vF_93) (fun J93 => if (x8 &&& (x5 ^^^ (-1 : Int32))) = (0 : Int32) then ((F_J6_bitCount_0f7a4 N x8).bind (fun q32 => (F_J6_bitCount_0f7a4 N x5).bind (fun q39 => (F_X4_power N x4 q32).bind (fun q51 => (F_X4_power N ((10 : Int32) - x4) (q39 - q32)).bind (fun q61 => if (0 : Int32) < (lg_cmp (q51 * q61) (0 : Int64)) then ((F_X4_clappedWithout N vS vE vF x8 x3).bind (fun q79 => if (q79.1) < x2 then (J93 x6 (q79.2)) else (J93 (x6 + (q51 * q61)) (q79.2)))) else (J93 x6 vF)))))) else (J93 x6 vF)))
def F_X4_likelyCases (N : Nat) (vS : SV) (vE : SV) (vF : SV) (x2 : Int32) (x3 : Int32) (x4 : Int32) : Option (Int64 × SV) := (F_X5_seatsThat N vS (0 : Int32)).bind (fun q2 => F_X4_likelyCases_L13 N vS vE x2 x3 x4 q2 (fun (x6_99 : Int64) (vF_99 : SV) => some (x6_99, vF_99)) N (0 : Int64) (0 : Int32) vF)
def F_X4_commonDivisor_L9 (N : Nat)  (K45 : Int64 → Option (Int64)) : Nat → Int64 → Int64 → Int32 → Option (Int64)
  | 0, _, _, _ => none
  | n + 1, x4, x6, x8 => if x8 < (1000 : Int32) then (if (0 : Int32) < (lg_cmp x6 (0 : Int64)) then (nzl x6 (F_X4_commonDivisor_L9 N K45 n x6 (x4 - x4 / x6 * x6) (x8 + (1 : Int32)))) else (K45 x4)) else (K45 x4)
def F_X4_commonDivisor (N : Nat) (x0 : Int64) (x2 : Int64) : Option (Int64) := F_X4_commonDivisor_L9 N (fun (x4_45 : Int64) => some x4_45) N x0 x2 (0 : Int32)
def F_X4_arrangeByDraw (N : Nat) (vE : SV) (vF : SV) (x1 : Int64) : Option (SV) := jn (fun (vF_67 : SV) => if (vF_67 0 4) = (0 : Int32) then (if (0 : Int32) < (vF_67 0 2) then (nzl ((vF_67 0 2).toInt64) ((F_X5_putLast N vF_67 ((x1 - x1 / ((vF_67 0 2).toInt64) * ((vF_67 0 2).toInt64)).toInt32)).bind (fun q102 => some q102))) else (some vF_67)) else (some vF_67)) (fun J67 => if (0 : Int32) < (vF 0 3) then (nzl ((vF 0 3).toInt64) ((F_X5_isSeat N vF ((x1 - x1 / ((vF 0 3).toInt64) * ((vF 0 3).toInt64)).toInt32)).bind (fun q27 => if q27 = (0 : Int32) then (J67 vF) else (chk 6 ((x1 - x1 / ((vF 0 3).toInt64) * ((vF 0 3).toInt64)).toInt32) (if ((vF 7) (((x1 - x1 / ((vF 0 3).toInt64) * ((vF 0 3).toInt64)).toInt32).toNatClampNeg)) = (0 : Int32) then (J67 vF) else ((F_X5_takeAnew N vF ((x1 - x1 / ((vF 0 3).toInt64) * ((vF 0 3).toInt64)).toInt32) ((x1 - x1 / (10 : Int64) * (10 : Int64)).toInt32) (((x1 - x1 / (5 : Int64) * (5 : Int64)).toInt32) + (1 : Int32))).bind (fun q64 => J67 q64))))))) else (J67 vF))
def F_X4_runByDraws_L18 (N : Nat) (vS : SV) (vE : SV) (x2 : Int32) (x4 : Int32) (K70 : Int32 → SV → Option (Int32 × SV)) : Nat → Int64 → Int32 → Int32 → SV → Option (Int32 × SV)
  | 0, _, _, _, _ => none
  | n + 1, x5, x7, x8, vF => if x8 < x2 then ((F_X4_arrangeByDraw N vE vF ((x5 * (16807 : Int64)) - (x5 * (16807 : Int64)) / (2147483647 : Int64) * (2147483647 : Int64))).bind (fun q39 => (F_X5_tapOnce N q39).bind (fun q46 => (F_J6_bitCount_0f7a4 N (q46 0 8)).bind (fun q58 => F_X4_runByDraws_L18 N vS vE x2 x4 K70 n ((x5 * (16807 : Int64)) - (x5 * (16807 : Int64)) / (2147483647 : Int64) * (2147483647 : Int64)) (x7 + q58) (x8 + (1 : Int32)) q46)))) else (K70 x7 vF)
def F_X4_runByDraws (N : Nat) (vS : SV) (vE : SV) (vF : SV) (x2 : Int32) (x3 : Int32) (x4 : Int32) : Option (Int32 × SV) := (F_X5_takeOver N vF vS).bind (fun q5 => F_X4_runByDraws_L18 N vS vE x2 x4 (fun (x7_70 : Int32) (vF_70 : SV) => if x4 = (0 : Int32) then (some ((vF_70 0 6), vF_70)) else (some (x7_70, vF_70))) N (x3.toInt64) (0 : Int32) (0 : Int32) q5)
set_option maxHeartbeats 2000000 in
set_option maxRecDepth 20000 in
theorem c_X4_nextOne {t : Nat → ClassId} {ad : Nat → Nat → Nat} {N : Nat} {vS : SV} {vE : SV} {vF : SV} {x2 : Int32} {r : Int32 × SV} (h : F_X4_nextOne N vS vE vF x2 = some r) : CI t yX4_nextOne cX4_nextOne 3 (some .int) (rm 4) [.ref (ad 8 0), .ref (ad 3 0), .int x2] [wStage t (ad 3) vS, wSeer t ad vE, wStage t (ad 9) vF] (r.1) [wStage t (ad 3) vS, wSeer t ad vE, wStage t (ad 9) (r.2)] := by
  refine CI.of (own := RX4) (by decide) rfl (Nat.le_of_ble_eq_true rfl) (fun X C hR0 => ?_)
  have hR : ∀ q : Int32 × SV, q = r → RetI X cX4_nextOne (q.1) [wStage t (ad 3) vS, wSeer t ad vE, wStage t (ad 9) (q.2)] := by intro q e; subst e; exact hR0
  show G X [wStage t (ad 3) vS, wSeer t ad vE, wStage t (ad 9) vF] 0 [(0, .ref (ad 8 0)), (1, .ref (ad 3 0)), (2, .int x2)] []
  unfold F_X4_nextOne at h
  refine G.aload_n C dX4_nextOne_0 0 rfl ?_
  refine gfX4_10 (i := 1) (j := 0) (v := .ref (ad 9 0)) C rfl rfl rfl dX4_nextOne_1 ?_
  refine G.aload_n C dX4_nextOne_4 1 rfl ?_
  obtain ⟨q5, hq5, h⟩ := bind_some' h
  refine G.cvV (i0 := 2) (j0 := 0) (cs' := [wStage t (ad 3) vS, wSeer t ad vE, wStage t (ad 9) q5]) C (c_X5_takeOver (a := (ad 9)) (b := (ad 3)) hq5) [2, 0] rfl rfl rfl rfl rfl rfl rfl k_749 cal_X5_takeOver (fit_rm (by decide) (by decide)) rfl (Nat.le_of_ble_eq_true rfl) dX4_nextOne_5 ?_
  refine G.aload_n C dX4_nextOne_8 0 rfl ?_
  refine gfX4_10 (i := 1) (j := 0) (v := .ref (ad 9 0)) C rfl rfl rfl dX4_nextOne_9 ?_
  obtain ⟨q12, hq12, h⟩ := bind_some' h
  refine G.cvV (i0 := 2) (j0 := 0) (cs' := [wStage t (ad 3) vS, wSeer t ad vE, wStage t (ad 9) q12]) C (c_X5_tapOnce (a := (ad 9)) hq12) [2] rfl rfl rfl rfl rfl rfl rfl k_750 cal_X5_tapOnce (fit_rm (by decide) (by decide)) rfl (Nat.le_of_ble_eq_true rfl) dX4_nextOne_12 ?_
  refine G.iload_n C dX4_nextOne_15 2 rfl ?_
  refine G.if_ne (tgt := 27) C dX4_nextOne_16 (by decide) h (fun h => ?_) (fun h => ?_)
  · refine G.iload_n C dX4_nextOne_27 2 rfl ?_
    refine G.iconst C dX4_nextOne_28 ni_1 ?_
    refine G.icmp_ne (tgt := 42) C dX4_nextOne_29 (by decide) h (fun h => ?_) (fun h => ?_)
    · refine G.aload_n C dX4_nextOne_42 0 rfl ?_
      refine gfX4_10 (i := 1) (j := 0) (v := .ref (ad 9 0)) C rfl rfl rfl dX4_nextOne_43 ?_
      refine gfX4_34 (i := 2) (j := 0) (v := .int (q12 0 9)) C rfl rfl rfl dX4_nextOne_46 ?_
      exact hR _ (Option.some.inj h) _ _ dX4_nextOne_49
    · refine G.aload_n C dX4_nextOne_32 0 rfl ?_
      refine gfX4_10 (i := 1) (j := 0) (v := .ref (ad 9 0)) C rfl rfl rfl dX4_nextOne_33 ?_
      refine gfX4_31 (i := 2) (j := 0) (v := .int (q12 0 8)) C rfl rfl rfl dX4_nextOne_36 ?_
      refine G.goto (tgt := 49) C dX4_nextOne_39 (by decide) ?_
      exact hR _ (Option.some.inj h) _ _ dX4_nextOne_49
  · refine G.aload_n C dX4_nextOne_19 0 rfl ?_
    refine gfX4_10 (i := 1) (j := 0) (v := .ref (ad 9 0)) C rfl rfl rfl dX4_nextOne_20 ?_
    refine gfX4_27 (i := 2) (j := 0) (v := .int (q12 0 7)) C rfl rfl rfl dX4_nextOne_23 ?_
    exact hR _ (Option.some.inj h) _ _ dX4_nextOne_26
set_option maxHeartbeats 2000000 in
set_option maxRecDepth 20000 in
theorem c_X4_standingBehind {t : Nat → ClassId} {ad : Nat → Nat → Nat} {N : Nat} {vS : SV} {vE : SV} {vF : SV} {x2 : Int32} {x3 : Int32} {r : Int32 × SV} (h : F_X4_standingBehind N vS vE vF x2 x3 = some r) : CI t yX4_standingBehind cX4_standingBehind 4 (some .int) (rm 5) [.ref (ad 8 0), .ref (ad 3 0), .int x2, .int x3] [wStage t (ad 3) vS, wSeer t ad vE, wStage t (ad 9) vF] (r.1) [wStage t (ad 3) vS, wSeer t ad vE, wStage t (ad 9) (r.2)] := by
  refine CI.of (own := RX4) (by decide) rfl (Nat.le_of_ble_eq_true rfl) (fun X C hR0 => ?_)
  have hR : ∀ q : Int32 × SV, q = r → RetI X cX4_standingBehind (q.1) [wStage t (ad 3) vS, wSeer t ad vE, wStage t (ad 9) (q.2)] := by intro q e; subst e; exact hR0
  show G X [wStage t (ad 3) vS, wSeer t ad vE, wStage t (ad 9) vF] 0 [(0, .ref (ad 8 0)), (1, .ref (ad 3 0)), (2, .int x2), (3, .int x3)] []
  unfold F_X4_standingBehind at h
  refine G.aload_n C dX4_standingBehind_0 0 rfl ?_
  refine gfX4_10 (i := 1) (j := 0) (v := .ref (ad 9 0)) C rfl rfl rfl dX4_standingBehind_1 ?_
  refine G.aload_n C dX4_standingBehind_4 1 rfl ?_
  obtain ⟨q5, hq5, h⟩ := bind_some' h
  refine G.cvV (i0 := 2) (j0 := 0) (cs' := [wStage t (ad 3) vS, wSeer t ad vE, wStage t (ad 9) q5]) C (c_X5_takeOver (a := (ad 9)) (b := (ad 3)) hq5) [2, 0] rfl rfl rfl rfl rfl rfl rfl k_749 cal_X5_takeOver (fit_rm (by decide) (by decide)) rfl (Nat.le_of_ble_eq_true rfl) dX4_standingBehind_5 ?_
  refine G.aload_n C dX4_standingBehind_8 0 rfl ?_
  refine gfX4_10 (i := 1) (j := 0) (v := .ref (ad 9 0)) C rfl rfl rfl dX4_standingBehind_9 ?_
  refine G.iload_n C dX4_standingBehind_12 2 rfl ?_
  obtain ⟨q13, hq13, h⟩ := bind_some' h
  refine G.cvV (i0 := 2) (j0 := 0) (cs' := [wStage t (ad 3) vS, wSeer t ad vE, wStage t (ad 9) q13]) C (c_X5_tapWhileOneWaits (a := (ad 9)) hq13) [2] rfl rfl rfl rfl rfl rfl rfl k_759 cal_X5_tapWhileOneWaits (fit_rm (by decide) (by decide)) rfl (Nat.le_of_ble_eq_true rfl) dX4_standingBehind_13 ?_
  refine G.aload_n C dX4_standingBehind_16 0 rfl ?_
  refine gfX4_10 (i := 1) (j := 0) (v := .ref (ad 9 0)) C rfl rfl rfl dX4_standingBehind_17 ?_
  refine G.iload_n C dX4_standingBehind_20 3 rfl ?_
  obtain ⟨q21, hq21, h⟩ := bind_some' h
  refine G.cvI (i0 := 2) (j0 := 0) (cs' := [wStage t (ad 3) vS, wSeer t ad vE, wStage t (ad 9) q13]) C (c_X5_standing (a := (ad 9)) hq21) [2] rfl rfl rfl rfl rfl rfl rfl k_764 cal_X5_standing (fit_rm (by decide) (by decide)) rfl (Nat.le_of_ble_eq_true rfl) dX4_standingBehind_21 ?_
  exact hR _ (Option.some.inj h) _ _ dX4_standingBehind_24
set_option maxHeartbeats 2000000 in
set_option maxRecDepth 20000 in
theorem w_X4_tapsUntil_L11 {X : Cx} {t : Nat → ClassId} {ad : Nat → Nat → Nat} {N : Nat} {vS : SV} {vE : SV} {x2 : Int32} {x3 : Int32} {r : Int32 × SV} (C : gX X t (rm 4) cX4_tapsUntil 5 RX4) (hR : ∀ q : Int32 × SV, q = r → RetI X cX4_tapsUntil (q.1) [wStage t (ad 3) vS, wSeer t ad vE, wStage t (ad 9) (q.2)]) : ∀ (n : Nat) (x4 : Int32) (vF : SV), F_X4_tapsUntil_L11 N vS vE x2 x3 n x4 vF = some r → G X [wStage t (ad 3) vS, wSeer t ad vE, wStage t (ad 9) vF] 11 [(0, .ref (ad 8 0)), (2, .int x2), (3, .int x3), (4, .int x4)] [] := by
  intro n
  induction n with
  | zero => intro x4 vF h; exact absurd h (by simp [F_X4_tapsUntil_L11])
  | succ n ih =>
    intro x4 vF h
    rw [F_X4_tapsUntil_L11] at h
    refine G.iload C dX4_tapsUntil_11 3 rfl ?_
    refine G.bipush C dX4_tapsUntil_13 nb_60 ?_
    refine G.icmp_gt (tgt := 47) C dX4_tapsUntil_15 (by decide) h (fun h => ?_) (fun h => ?_)
    · refine G.iconst C dX4_tapsUntil_47 ni_m1 ?_
      exact hR _ (Option.some.inj h) _ _ dX4_tapsUntil_48
    · refine G.aload_n C dX4_tapsUntil_18 0 rfl ?_
      refine gfX4_10 (i := 1) (j := 0) (v := .ref (ad 9 0)) C rfl rfl rfl dX4_tapsUntil_19 ?_
      refine gfX4_45 (i := 2) (j := 0) (v := .ref (ad 9 7)) C rfl rfl rfl dX4_tapsUntil_22 ?_
      refine G.iload_n C dX4_tapsUntil_25 1 rfl ?_
      refine G.iald (i := 2) (j := 7) (f := (vF 7)) C rfl rfl h dX4_tapsUntil_26 (fun h => ?_)
      refine G.iload_n C dX4_tapsUntil_27 2 rfl ?_
      refine G.icmp_ne (tgt := 34) C dX4_tapsUntil_28 (by decide) h (fun h => ?_) (fun h => ?_)
      · refine G.aload_n C dX4_tapsUntil_34 0 rfl ?_
        refine gfX4_10 (i := 1) (j := 0) (v := .ref (ad 9 0)) C rfl rfl rfl dX4_tapsUntil_35 ?_
        obtain ⟨q38, hq38, h⟩ := bind_some' h
        refine G.cvV (i0 := 2) (j0 := 0) (cs' := [wStage t (ad 3) vS, wSeer t ad vE, wStage t (ad 9) q38]) C (c_X5_tapOnce (a := (ad 9)) hq38) [2] rfl rfl rfl rfl rfl rfl rfl k_750 cal_X5_tapOnce (fit_rm (by decide) (by decide)) rfl (Nat.le_of_ble_eq_true rfl) dX4_tapsUntil_38 ?_
        refine G.iinc (v := (x4 + (1 : Int32))) (lv' := [(4, .int (x4 + (1 : Int32))), (0, .ref (ad 8 0)), (2, .int x2), (3, .int x3)]) C dX4_tapsUntil_41 3 rfl (by rw [ni_1]) (by decide) rfl ?_
        refine G.goto (tgt := 11) C dX4_tapsUntil_44 (by decide) ?_
        exact G.lvs [1, 2, 3, 0] rfl (ih _ _ h)
      · refine G.iload C dX4_tapsUntil_31 3 rfl ?_
        exact hR _ (Option.some.inj h) _ _ dX4_tapsUntil_33
set_option maxHeartbeats 2000000 in
set_option maxRecDepth 20000 in
theorem c_X4_tapsUntil {t : Nat → ClassId} {ad : Nat → Nat → Nat} {N : Nat} {vS : SV} {vE : SV} {vF : SV} {x2 : Int32} {x3 : Int32} {r : Int32 × SV} (h : F_X4_tapsUntil N vS vE vF x2 x3 = some r) : CI t yX4_tapsUntil cX4_tapsUntil 5 (some .int) (rm 4) [.ref (ad 8 0), .ref (ad 3 0), .int x2, .int x3] [wStage t (ad 3) vS, wSeer t ad vE, wStage t (ad 9) vF] (r.1) [wStage t (ad 3) vS, wSeer t ad vE, wStage t (ad 9) (r.2)] := by
  refine CI.of (own := RX4) (by decide) rfl (Nat.le_of_ble_eq_true rfl) (fun X C hR0 => ?_)
  have hR : ∀ q : Int32 × SV, q = r → RetI X cX4_tapsUntil (q.1) [wStage t (ad 3) vS, wSeer t ad vE, wStage t (ad 9) (q.2)] := by intro q e; subst e; exact hR0
  show G X [wStage t (ad 3) vS, wSeer t ad vE, wStage t (ad 9) vF] 0 [(0, .ref (ad 8 0)), (1, .ref (ad 3 0)), (2, .int x2), (3, .int x3)] []
  unfold F_X4_tapsUntil at h
  refine G.aload_n C dX4_tapsUntil_0 0 rfl ?_
  refine gfX4_10 (i := 1) (j := 0) (v := .ref (ad 9 0)) C rfl rfl rfl dX4_tapsUntil_1 ?_
  refine G.aload_n C dX4_tapsUntil_4 1 rfl ?_
  obtain ⟨q5, hq5, h⟩ := bind_some' h
  refine G.cvV (i0 := 2) (j0 := 0) (cs' := [wStage t (ad 3) vS, wSeer t ad vE, wStage t (ad 9) q5]) C (c_X5_takeOver (a := (ad 9)) (b := (ad 3)) hq5) [2, 0] rfl rfl rfl rfl rfl rfl rfl k_749 cal_X5_takeOver (fit_rm (by decide) (by decide)) rfl (Nat.le_of_ble_eq_true rfl) dX4_tapsUntil_5 ?_
  refine G.iconst C dX4_tapsUntil_8 ni_0 ?_
  refine G.istore (lv' := [(4, .int (0 : Int32)), (0, .ref (ad 8 0)), (1, .ref (ad 3 0)), (2, .int x2), (3, .int x3)]) C dX4_tapsUntil_9 (by decide) rfl ?_
  exact G.lvs [1, 3, 4, 0] rfl (w_X4_tapsUntil_L11 C hR N _ _ h)
set_option maxHeartbeats 2000000 in
set_option maxRecDepth 20000 in
theorem w_X4_tapOf_L10 {X : Cx} {t : Nat → ClassId} {ad : Nat → Nat → Nat} {N : Nat} {vS : SV} {vE : SV} {x2 : Int32} {r : Int32 × SV} (C : gX X t (rm 4) cX4_tapOf 4 RX4) (hR : ∀ q : Int32 × SV, q = r → RetI X cX4_tapOf (q.1) [wStage t (ad 3) vS, wSeer t ad vE, wStage t (ad 9) (q.2)]) : ∀ (n : Nat) (x3 : Int32) (vF : SV), F_X4_tapOf_L10 N vS vE x2 n x3 vF = some r → G X [wStage t (ad 3) vS, wSeer t ad vE, wStage t (ad 9) vF] 10 [(0, .ref (ad 8 0)), (2, .int x2), (3, .int x3)] [] := by
  intro n
  induction n with
  | zero => intro x3 vF h; exact absurd h (by simp [F_X4_tapOf_L10])
  | succ n ih =>
    intro x3 vF h
    rw [F_X4_tapOf_L10] at h
    refine G.iload_n C dX4_tapOf_10 2 rfl ?_
    refine G.bipush C dX4_tapOf_11 nb_60 ?_
    refine G.icmp_gt (tgt := 42) C dX4_tapOf_13 (by decide) h (fun h => ?_) (fun h => ?_)
    · refine G.iconst C dX4_tapOf_42 ni_m1 ?_
      exact hR _ (Option.some.inj h) _ _ dX4_tapOf_43
    · refine G.aload_n C dX4_tapOf_16 0 rfl ?_
      refine gfX4_10 (i := 1) (j := 0) (v := .ref (ad 9 0)) C rfl rfl rfl dX4_tapOf_17 ?_
      obtain ⟨q20, hq20, h⟩ := bind_some' h
      refine G.cvV (i0 := 2) (j0 := 0) (cs' := [wStage t (ad 3) vS, wSeer t ad vE, wStage t (ad 9) q20]) C (c_X5_tapOnce (a := (ad 9)) hq20) [2] rfl rfl rfl rfl rfl rfl rfl k_750 cal_X5_tapOnce (fit_rm (by decide) (by decide)) rfl (Nat.le_of_ble_eq_true rfl) dX4_tapOf_20 ?_
      refine G.aload_n C dX4_tapOf_23 0 rfl ?_
      refine gfX4_10 (i := 1) (j := 0) (v := .ref (ad 9 0)) C rfl rfl rfl dX4_tapOf_24 ?_
      refine gfX4_27 (i := 2) (j := 0) (v := .int (q20 0 7)) C rfl rfl rfl dX4_tapOf_27 ?_
      refine G.iload_n C dX4_tapOf_30 1 rfl ?_
      refine G.icmp_ne (tgt := 36) C dX4_tapOf_31 (by decide) h (fun h => ?_) (fun h => ?_)
      · refine G.iinc (v := (x3 + (1 : Int32))) (lv' := [(3, .int (x3 + (1 : Int32))), (0, .ref (ad 8 0)), (2, .int x2)]) C dX4_tapOf_36 2 rfl (by rw [ni_1]) (by decide) rfl ?_
        refine G.goto (tgt := 10) C dX4_tapOf_39 (by decide) ?_
        exact G.lvs [1, 2, 0] rfl (ih _ _ h)
      · refine G.iload_n C dX4_tapOf_34 2 rfl ?_
        exact hR _ (Option.some.inj h) _ _ dX4_tapOf_35
set_option maxHeartbeats 2000000 in
set_option maxRecDepth 20000 in
theorem c_X4_tapOf {t : Nat → ClassId} {ad : Nat → Nat → Nat} {N : Nat} {vS : SV} {vE : SV} {vF : SV} {x2 : Int32} {r : Int32 × SV} (h : F_X4_tapOf N vS vE vF x2 = some r) : CI t yX4_tapOf cX4_tapOf 4 (some .int) (rm 4) [.ref (ad 8 0), .ref (ad 3 0), .int x2] [wStage t (ad 3) vS, wSeer t ad vE, wStage t (ad 9) vF] (r.1) [wStage t (ad 3) vS, wSeer t ad vE, wStage t (ad 9) (r.2)] := by
  refine CI.of (own := RX4) (by decide) rfl (Nat.le_of_ble_eq_true rfl) (fun X C hR0 => ?_)
  have hR : ∀ q : Int32 × SV, q = r → RetI X cX4_tapOf (q.1) [wStage t (ad 3) vS, wSeer t ad vE, wStage t (ad 9) (q.2)] := by intro q e; subst e; exact hR0
  show G X [wStage t (ad 3) vS, wSeer t ad vE, wStage t (ad 9) vF] 0 [(0, .ref (ad 8 0)), (1, .ref (ad 3 0)), (2, .int x2)] []
  unfold F_X4_tapOf at h
  refine G.aload_n C dX4_tapOf_0 0 rfl ?_
  refine gfX4_10 (i := 1) (j := 0) (v := .ref (ad 9 0)) C rfl rfl rfl dX4_tapOf_1 ?_
  refine G.aload_n C dX4_tapOf_4 1 rfl ?_
  obtain ⟨q5, hq5, h⟩ := bind_some' h
  refine G.cvV (i0 := 2) (j0 := 0) (cs' := [wStage t (ad 3) vS, wSeer t ad vE, wStage t (ad 9) q5]) C (c_X5_takeOver (a := (ad 9)) (b := (ad 3)) hq5) [2, 0] rfl rfl rfl rfl rfl rfl rfl k_749 cal_X5_takeOver (fit_rm (by decide) (by decide)) rfl (Nat.le_of_ble_eq_true rfl) dX4_tapOf_5 ?_
  refine G.iconst C dX4_tapOf_8 ni_1 ?_
  refine G.istore_n (lv' := [(3, .int (1 : Int32)), (0, .ref (ad 8 0)), (1, .ref (ad 3 0)), (2, .int x2)]) C dX4_tapOf_9 (by decide) rfl ?_
  exact G.lvs [1, 3, 0] rfl (w_X4_tapOf_L10 C hR N _ _ h)
set_option maxHeartbeats 2000000 in
set_option maxRecDepth 20000 in
theorem w_X4_hear_L14 {X : Cx} {t : Nat → ClassId} {ad : Nat → Nat → Nat} {N : Nat} {vW : SV} {gW : SV} {x2 : Int32} {x3 : Int32} {r : SV} (C : gX X t (rm 3) cX4_hear 6 RX4) (hR : ∀ q : SV, q = r → RetV X cX4_hear ([wRows t ad vW, wSeer t ad q] ++ fRows t ad gW)) : ∀ (n : Nat) (x5 : Int32) (vE : SV), F_X4_hear_L14 N vW gW x2 x3 n x5 vE = some r → G X ([wRows t ad vW, wSeer t ad vE] ++ fRows t ad gW) 14 [(0, .ref (ad 8 0)), (1, .ref (ad 1 0)), (2, .int x2), (3, .int x3), (5, .int x5)] [] := by
  intro n
  induction n with
  | zero => intro x5 vE h; exact absurd h (by simp [F_X4_hear_L14])
  | succ n ih =>
    intro x5 vE h
    rw [F_X4_hear_L14] at h
    refine G.iload C dX4_hear_14 4 rfl ?_
    refine G.aload_n C dX4_hear_16 0 rfl ?_
    refine gfX4_54 (i := 1) (j := 0) (v := .int (vE 0 2)) C rfl rfl rfl dX4_hear_17 ?_
    refine G.icmp_ge (tgt := 45) C dX4_hear_20 (by decide) h (fun h => ?_) (fun h => ?_)
    · exact hR _ (Option.some.inj h) _ _ dX4_hear_45
    · refine G.aload_n C dX4_hear_23 0 rfl ?_
      refine gfX4_16 (i := 1) (j := 0) (v := .ref (ad 8 1)) C rfl rfl rfl dX4_hear_24 ?_
      refine G.iload C dX4_hear_27 4 rfl ?_
      refine G.aload_n C dX4_hear_29 1 rfl ?_
      refine G.iload_n C dX4_hear_30 2 rfl ?_
      refine G.iload_n C dX4_hear_31 3 rfl ?_
      refine G.iload C dX4_hear_32 4 rfl ?_
      refine G.iadd C dX4_hear_34 ?_
      obtain ⟨q35, hq35, h⟩ := bind_some' h
      refine G.cvI (i0 := 0) (j0 := 0) (cs' := ([wRows t ad vW, wSeer t ad vE] ++ fRows t ad gW)) C (c_X3_item (ad := ad) hq35) ([0] ++ (List.range 8).map (fun k => 2 + k)) (famJ rfl fRows_len rfl) (by decide) (famA rfl fRows_ads) (famC rfl rfl rfl fRows_len fRows_len) rfl rfl rfl k_904 cal_X3_item (fit_rm (by decide) (by decide)) rfl (Nat.le_of_ble_eq_true rfl) dX4_hear_35 ?_
      refine G.iast (i := 1) (j := 1) (f := vE 1) (cs' := ([wRows t ad vW, wSeer t ad (up2 vE 1 (x5.toNatClampNeg) q35)] ++ fRows t ad gW)) C rfl rfl h dX4_hear_38 (suSeerA_1) rfl (fun h => ?_)
      refine G.iinc (v := (x5 + (1 : Int32))) (lv' := [(5, .int (x5 + (1 : Int32))), (0, .ref (ad 8 0)), (1, .ref (ad 1 0)), (2, .int x2), (3, .int x3)]) C dX4_hear_39 4 rfl (by rw [ni_1]) (by decide) rfl ?_
      refine G.goto (tgt := 14) C dX4_hear_42 (by decide) ?_
      exact G.lvs [1, 2, 3, 4, 0] rfl (ih _ _ h)
set_option maxHeartbeats 2000000 in
set_option maxRecDepth 20000 in
theorem c_X4_hear {t : Nat → ClassId} {ad : Nat → Nat → Nat} {N : Nat} {vW : SV} {vE : SV} {gW : SV} {x2 : Int32} {x3 : Int32} {x4 : Int32} {r : SV} (h : F_X4_hear N vW vE gW x2 x3 x4 = some r) : CV t yX4_hear cX4_hear 6 none (rm 3) [.ref (ad 8 0), .ref (ad 1 0), .int x2, .int x3, .int x4] ([wRows t ad vW, wSeer t ad vE] ++ fRows t ad gW) ([wRows t ad vW, wSeer t ad r] ++ fRows t ad gW) := by
  refine CV.of (own := RX4) (by decide) rfl (Nat.le_of_ble_eq_true rfl) (fun X C hR0 => ?_)
  have hR : ∀ q : SV, q = r → RetV X cX4_hear ([wRows t ad vW, wSeer t ad q] ++ fRows t ad gW) := by intro q e; subst e; exact hR0
  show G X ([wRows t ad vW, wSeer t ad vE] ++ fRows t ad gW) 0 [(0, .ref (ad 8 0)), (1, .ref (ad 1 0)), (2, .int x2), (3, .int x3), (4, .int x4)] []
  unfold F_X4_hear at h
  refine G.aload_n C dX4_hear_0 0 rfl ?_
  refine G.iload C dX4_hear_1 4 rfl ?_
  refine G.bipush C dX4_hear_3 nb_12 ?_
  refine G.mmin C k_903 k_513 k_88 k_514 (by decide) (Nat.le_of_ble_eq_true rfl) dX4_hear_5 ?_
  refine pfX4_54 (i := 1) (j := 0) (cs' := ([wRows t ad vW, wSeer t ad (up2 vE 0 2 (if (12 : Int32) < x4 then (12 : Int32) else x4))] ++ fRows t ad gW)) C rfl rfl (Nat.le_of_ble_eq_true rfl) dX4_hear_8 (suSeer_2) rfl ?_
  refine G.iconst C dX4_hear_11 ni_0 ?_
  refine G.istore (lv' := [(5, .int (0 : Int32)), (0, .ref (ad 8 0)), (1, .ref (ad 1 0)), (2, .int x2), (3, .int x3), (4, .int x4)]) C dX4_hear_12 (by decide) rfl ?_
  exact G.lvs [1, 2, 3, 4, 0] rfl (w_X4_hear_L14 C hR N _ _ h)
set_option maxHeartbeats 2000000 in
set_option maxRecDepth 20000 in
theorem w_X4_trialClapsAsTold_L2 {X : Cx} {t : Nat → ClassId} {ad : Nat → Nat → Nat} {N : Nat} {vE : SV} {r : Int32 × SV} (C : gX X t (rm 4) cX4_trialClapsAsTold 2 RX4) (hR : ∀ q : Int32 × SV, q = r → RetZ X cX4_trialClapsAsTold (q.1) [wSeer t ad vE, wStage t (ad 9) (q.2)]) : ∀ (n : Nat) (x1 : Int32) (vF : SV), F_X4_trialClapsAsTold_L2 N vE n x1 vF = some r → G X [wSeer t ad vE, wStage t (ad 9) vF] 2 [(0, .ref (ad 8 0)), (1, .int x1)] [] := by
  intro n
  induction n with
  | zero => intro x1 vF h; exact absurd h (by simp [F_X4_trialClapsAsTold_L2])
  | succ n ih =>
    intro x1 vF h
    rw [F_X4_trialClapsAsTold_L2] at h
    refine G.iload_n C dX4_trialClapsAsTold_2 1 rfl ?_
    refine G.aload_n C dX4_trialClapsAsTold_3 0 rfl ?_
    refine gfX4_54 (i := 0) (j := 0) (v := .int (vE 0 2)) C rfl rfl rfl dX4_trialClapsAsTold_4 ?_
    refine G.icmp_ge (tgt := 41) C dX4_trialClapsAsTold_7 (by decide) h (fun h => ?_) (fun h => ?_)
    · refine G.iconst C dX4_trialClapsAsTold_41 ni_1 ?_
      exact hR _ (Option.some.inj h) (Or.inr rfl) _ _ dX4_trialClapsAsTold_42
    · refine G.aload_n C dX4_trialClapsAsTold_10 0 rfl ?_
      refine gfX4_10 (i := 0) (j := 0) (v := .ref (ad 9 0)) C rfl rfl rfl dX4_trialClapsAsTold_11 ?_
      obtain ⟨q14, hq14, h⟩ := bind_some' h
      refine G.cvV (i0 := 1) (j0 := 0) (cs' := [wSeer t ad vE, wStage t (ad 9) q14]) C (c_X5_tapOnce (a := (ad 9)) hq14) [1] rfl rfl rfl rfl rfl rfl rfl k_750 cal_X5_tapOnce (fit_rm (by decide) (by decide)) rfl (Nat.le_of_ble_eq_true rfl) dX4_trialClapsAsTold_14 ?_
      refine G.aload_n C dX4_trialClapsAsTold_17 0 rfl ?_
      refine gfX4_10 (i := 0) (j := 0) (v := .ref (ad 9 0)) C rfl rfl rfl dX4_trialClapsAsTold_18 ?_
      refine gfX4_62 (i := 1) (j := 0) (v := .int (q14 0 6)) C rfl rfl rfl dX4_trialClapsAsTold_21 ?_
      refine G.aload_n C dX4_trialClapsAsTold_24 0 rfl ?_
      refine gfX4_16 (i := 0) (j := 0) (v := .ref (ad 8 1)) C rfl rfl rfl dX4_trialClapsAsTold_25 ?_
      refine G.iload_n C dX4_trialClapsAsTold_28 1 rfl ?_
      refine G.iald (i := 0) (j := 1) (f := (vE 1)) C rfl rfl h dX4_trialClapsAsTold_29 (fun h => ?_)
      refine G.icmp_eq (tgt := 35) C dX4_trialClapsAsTold_30 (by decide) h (fun h => ?_) (fun h => ?_)
      · refine G.iinc (v := (x1 + (1 : Int32))) (lv' := [(1, .int (x1 + (1 : Int32))), (0, .ref (ad 8 0))]) C dX4_trialClapsAsTold_35 1 rfl (by rw [ni_1]) (by decide) rfl ?_
        refine G.goto (tgt := 2) C dX4_trialClapsAsTold_38 (by decide) ?_
        exact G.lvs [1, 0] rfl (ih _ _ h)
      · refine G.iconst C dX4_trialClapsAsTold_33 ni_0 ?_
        exact hR _ (Option.some.inj h) (Or.inl rfl) _ _ dX4_trialClapsAsTold_34
set_option maxHeartbeats 2000000 in
set_option maxRecDepth 20000 in
theorem c_X4_trialClapsAsTold {t : Nat → ClassId} {ad : Nat → Nat → Nat} {N : Nat} {vE : SV} {vF : SV} {r : Int32 × SV} (h : F_X4_trialClapsAsTold N vE vF = some r) : CI t yX4_trialClapsAsTold cX4_trialClapsAsTold 2 (some .boolean) (rm 4) [.ref (ad 8 0)] [wSeer t ad vE, wStage t (ad 9) vF] (r.1) [wSeer t ad vE, wStage t (ad 9) (r.2)] := by
  refine CZ.of (own := RX4) (by decide) rfl (Nat.le_of_ble_eq_true rfl) (fun X C hR0 => ?_)
  have hR : ∀ q : Int32 × SV, q = r → RetZ X cX4_trialClapsAsTold (q.1) [wSeer t ad vE, wStage t (ad 9) (q.2)] := by intro q e; subst e; exact hR0
  show G X [wSeer t ad vE, wStage t (ad 9) vF] 0 [(0, .ref (ad 8 0))] []
  unfold F_X4_trialClapsAsTold at h
  refine G.iconst C dX4_trialClapsAsTold_0 ni_0 ?_
  refine G.istore_n (lv' := [(1, .int (0 : Int32)), (0, .ref (ad 8 0))]) C dX4_trialClapsAsTold_1 (by decide) rfl ?_
  exact G.lvs [1, 0] rfl (w_X4_trialClapsAsTold_L2 C hR N _ _ h)
set_option maxHeartbeats 2000000 in
set_option maxRecDepth 20000 in
theorem c_X4_reshape {t : Nat → ClassId} {ad : Nat → Nat → Nat} {N : Nat} {vE : SV} {vF : SV} {x1 : Int32} {x2 : Int32} {x3 : Int32} {r : SV} (h : F_X4_reshape N vE vF x1 x2 x3 = some r) : CV t yX4_reshape cX4_reshape 4 none (rm 1) [.ref (ad 8 0), .int x1, .int x2, .int x3] [wSeer t ad vE, wStage t (ad 9) vF] [wSeer t ad vE, wStage t (ad 9) r] := by
  refine CV.of (own := RX4) (by decide) rfl (Nat.le_of_ble_eq_true rfl) (fun X C hR0 => ?_)
  have hR : ∀ q : SV, q = r → RetV X cX4_reshape [wSeer t ad vE, wStage t (ad 9) q] := by intro q e; subst e; exact hR0
  show G X [wSeer t ad vE, wStage t (ad 9) vF] 0 [(0, .ref (ad 8 0)), (1, .int x1), (2, .int x2), (3, .int x3)] []
  unfold F_X4_reshape at h
  refine G.iload_n C dX4_reshape_0 2 rfl ?_
  refine G.if_ne (tgt := 17) C dX4_reshape_1 (by decide) h (fun h => ?_) (fun h => ?_)
  · refine G.iload_n C dX4_reshape_17 2 rfl ?_
    refine G.iconst C dX4_reshape_18 ni_1 ?_
    refine G.icmp_ne (tgt := 35) C dX4_reshape_19 (by decide) h (fun h => ?_) (fun h => ?_)
    · refine G.aload_n C dX4_reshape_35 0 rfl ?_
      refine gfX4_10 (i := 0) (j := 0) (v := .ref (ad 9 0)) C rfl rfl rfl dX4_reshape_36 ?_
      refine gfX4_81 (i := 1) (j := 0) (v := .ref (ad 9 4)) C rfl rfl rfl dX4_reshape_39 ?_
      refine G.iload_n C dX4_reshape_42 1 rfl ?_
      refine G.iload_n C dX4_reshape_43 3 rfl ?_
      refine G.iast (i := 1) (j := 4) (f := vF 4) (cs' := [wSeer t ad vE, wStage t (ad 9) (up2 vF 4 (x1.toNatClampNeg) x3)]) C rfl rfl h dX4_reshape_44 (suStageA_4) rfl (fun h => ?_)
      exact hR _ (Option.some.inj h) _ _ dX4_reshape_45
    · refine G.aload_n C dX4_reshape_22 0 rfl ?_
      refine gfX4_10 (i := 0) (j := 0) (v := .ref (ad 9 0)) C rfl rfl rfl dX4_reshape_23 ?_
      refine gfX4_78 (i := 1) (j := 0) (v := .ref (ad 9 2)) C rfl rfl rfl dX4_reshape_26 ?_
      refine G.iload_n C dX4_reshape_29 1 rfl ?_
      refine G.iload_n C dX4_reshape_30 3 rfl ?_
      refine G.iast (i := 1) (j := 2) (f := vF 2) (cs' := [wSeer t ad vE, wStage t (ad 9) (up2 vF 2 (x1.toNatClampNeg) x3)]) C rfl rfl h dX4_reshape_31 (suStageA_2) rfl (fun h => ?_)
      refine G.goto (tgt := 45) C dX4_reshape_32 (by decide) ?_
      exact hR _ (Option.some.inj h) _ _ dX4_reshape_45
  · refine G.aload_n C dX4_reshape_4 0 rfl ?_
    refine gfX4_10 (i := 0) (j := 0) (v := .ref (ad 9 0)) C rfl rfl rfl dX4_reshape_5 ?_
    refine gfX4_75 (i := 1) (j := 0) (v := .ref (ad 9 1)) C rfl rfl rfl dX4_reshape_8 ?_
    refine G.iload_n C dX4_reshape_11 1 rfl ?_
    refine G.iload_n C dX4_reshape_12 3 rfl ?_
    refine G.iast (i := 1) (j := 1) (f := vF 1) (cs' := [wSeer t ad vE, wStage t (ad 9) (up2 vF 1 (x1.toNatClampNeg) x3)]) C rfl rfl h dX4_reshape_13 (suStageA_1) rfl (fun h => ?_)
    refine G.goto (tgt := 45) C dX4_reshape_14 (by decide) ?_
    exact hR _ (Option.some.inj h) _ _ dX4_reshape_45
set_option maxHeartbeats 2000000 in
set_option maxRecDepth 20000 in
theorem w_X4_shapesThatFit_L30 {X : Cx} {t : Nat → ClassId} {ad : Nat → Nat → Nat} {N : Nat} {vS : SV} {vE : SV} {x2 : Int32} {x3 : Int32} {x5 : Int32} {r : Int32 × SV} (C : gX X t (rm 5) cX4_shapesThatFit 8 RX4) (hR : ∀ q : Int32 × SV, q = r → RetI X cX4_shapesThatFit (q.1) [wStage t (ad 3) vS, wSeer t ad vE, wStage t (ad 9) (q.2)]) : ∀ (n : Nat) (x6 : Int32) (x7 : Int32) (vF : SV), F_X4_shapesThatFit_L30 N vS vE x2 x3 x5 n x6 x7 vF = some r → G X [wStage t (ad 3) vS, wSeer t ad vE, wStage t (ad 9) vF] 30 [(0, .ref (ad 8 0)), (1, .ref (ad 3 0)), (2, .int x2), (3, .int x3), (5, .int x5), (6, .int x6), (7, .int x7)] [] := by
  intro n
  induction n with
  | zero => intro x6 x7 vF h; exact absurd h (by simp [F_X4_shapesThatFit_L30])
  | succ n ih =>
    intro x6 x7 vF h
    rw [F_X4_shapesThatFit_L30] at h
    refine G.iload C dX4_shapesThatFit_30 6 rfl ?_
    refine G.iload C dX4_shapesThatFit_32 4 rfl ?_
    refine G.icmp_gt (tgt := 75) C dX4_shapesThatFit_34 (by decide) h (fun h => ?_) (fun h => ?_)
    · refine G.iload C dX4_shapesThatFit_75 5 rfl ?_
      exact hR _ (Option.some.inj h) _ _ dX4_shapesThatFit_77
    · refine G.aload_n C dX4_shapesThatFit_37 0 rfl ?_
      refine gfX4_10 (i := 1) (j := 0) (v := .ref (ad 9 0)) C rfl rfl rfl dX4_shapesThatFit_38 ?_
      refine G.aload_n C dX4_shapesThatFit_41 1 rfl ?_
      obtain ⟨q42, hq42, h⟩ := bind_some' h
      refine G.cvV (i0 := 2) (j0 := 0) (cs' := [wStage t (ad 3) vS, wSeer t ad vE, wStage t (ad 9) q42]) C (c_X5_takeOver (a := (ad 9)) (b := (ad 3)) hq42) [2, 0] rfl rfl rfl rfl rfl rfl rfl k_749 cal_X5_takeOver (fit_rm (by decide) (by decide)) rfl (Nat.le_of_ble_eq_true rfl) dX4_shapesThatFit_42 ?_
      refine G.aload_n C dX4_shapesThatFit_45 0 rfl ?_
      refine G.iload_n C dX4_shapesThatFit_46 2 rfl ?_
      refine G.iload_n C dX4_shapesThatFit_47 3 rfl ?_
      refine G.iload C dX4_shapesThatFit_48 6 rfl ?_
      obtain ⟨q50, hq50, h⟩ := bind_some' h
      refine G.cvV (i0 := 1) (j0 := 0) (cs' := [wStage t (ad 3) vS, wSeer t ad vE, wStage t (ad 9) q50]) C (c_X4_reshape (ad := ad) hq50) [1, 2] rfl rfl rfl rfl rfl rfl rfl k_913 cal_X4_reshape (fit_rm (by decide) (by decide)) rfl (Nat.le_of_ble_eq_true rfl) dX4_shapesThatFit_50 ?_
      refine G.aload_n C dX4_shapesThatFit_53 0 rfl ?_
      obtain ⟨q54, hq54, h⟩ := bind_some' h
      refine G.cvI (i0 := 1) (j0 := 0) (cs' := [wStage t (ad 3) vS, wSeer t ad vE, wStage t (ad 9) (q54.2)]) C (c_X4_trialClapsAsTold (ad := ad) hq54) [1, 2] rfl rfl rfl rfl rfl rfl rfl k_917 cal_X4_trialClapsAsTold (fit_rm (by decide) (by decide)) rfl (Nat.le_of_ble_eq_true rfl) dX4_shapesThatFit_54 ?_
      refine jn_use (fun J => ∀ (x6_69 : Int32), J x6_69 = some r → G X [wStage t (ad 3) vS, wSeer t ad vE, wStage t (ad 9) (q54.2)] 69 [(0, .ref (ad 8 0)), (1, .ref (ad 3 0)), (2, .int x2), (3, .int x3), (5, .int x5), (6, .int x6_69), (7, .int x7)] []) h ?_ (fun J69 hJ69 h => ?_)
      · intro x6_69 h
        refine G.iinc (v := (x7 + (1 : Int32))) (lv' := [(7, .int (x7 + (1 : Int32))), (0, .ref (ad 8 0)), (1, .ref (ad 3 0)), (2, .int x2), (3, .int x3), (5, .int x5), (6, .int x6_69)]) C dX4_shapesThatFit_69 6 rfl (by rw [ni_1]) (by decide) rfl ?_
        refine G.goto (tgt := 30) C dX4_shapesThatFit_72 (by decide) ?_
        exact G.lvs [1, 2, 3, 4, 5, 6, 0] rfl (ih _ _ _ h)
      refine G.if_eq (tgt := 69) C dX4_shapesThatFit_57 (by decide) h (fun h => ?_) (fun h => ?_)
      · exact G.lvs [0, 1, 2, 3, 4, 5, 6] rfl (hJ69 _ h)
      · refine G.iload C dX4_shapesThatFit_60 5 rfl ?_
        refine G.iconst C dX4_shapesThatFit_62 ni_1 ?_
        refine G.iload C dX4_shapesThatFit_63 6 rfl ?_
        refine G.ishl C dX4_shapesThatFit_65 ?_
        refine G.ior C dX4_shapesThatFit_66 ?_
        refine G.istore (lv' := [(6, .int (x6 ||| ((1 : Int32) <<< (x7 &&& 31)))), (0, .ref (ad 8 0)), (1, .ref (ad 3 0)), (2, .int x2), (3, .int x3), (5, .int x5), (7, .int x7)]) C dX4_shapesThatFit_67 (by decide) rfl ?_
        exact G.lvs [1, 2, 3, 4, 5, 0, 6] rfl (hJ69 _ h)
set_option maxHeartbeats 2000000 in
set_option maxRecDepth 20000 in
theorem c_X4_shapesThatFit {t : Nat → ClassId} {ad : Nat → Nat → Nat} {N : Nat} {vS : SV} {vE : SV} {vF : SV} {x2 : Int32} {x3 : Int32} {r : Int32 × SV} (h : F_X4_shapesThatFit N vS vE vF x2 x3 = some r) : CI t yX4_shapesThatFit cX4_shapesThatFit 8 (some .int) (rm 5) [.ref (ad 8 0), .ref (ad 3 0), .int x2, .int x3] [wStage t (ad 3) vS, wSeer t ad vE, wStage t (ad 9) vF] (r.1) [wStage t (ad 3) vS, wSeer t ad vE, wStage t (ad 9) (r.2)] := by
  refine CI.of (own := RX4) (by decide) rfl (Nat.le_of_ble_eq_true rfl) (fun X C hR0 => ?_)
  have hR : ∀ q : Int32 × SV, q = r → RetI X cX4_shapesThatFit (q.1) [wStage t (ad 3) vS, wSeer t ad vE, wStage t (ad 9) (q.2)] := by intro q e; subst e; exact hR0
  show G X [wStage t (ad 3) vS, wSeer t ad vE, wStage t (ad 9) vF] 0 [(0, .ref (ad 8 0)), (1, .ref (ad 3 0)), (2, .int x2), (3, .int x3)] []
  unfold F_X4_shapesThatFit at h
  refine G.iload_n C dX4_shapesThatFit_0 3 rfl ?_
  refine jn_use (fun J => ∀ (s9_0 : Int32), J s9_0 = some r → G X [wStage t (ad 3) vS, wSeer t ad vE, wStage t (ad 9) vF] 9 [(0, .ref (ad 8 0)), (1, .ref (ad 3 0)), (2, .int x2), (3, .int x3)] [.int s9_0]) h ?_ (fun J9 hJ9 h => ?_)
  · intro s9_0 h
    refine G.istore (lv' := [(4, .int s9_0), (0, .ref (ad 8 0)), (1, .ref (ad 3 0)), (2, .int x2), (3, .int x3)]) C dX4_shapesThatFit_9 (by decide) rfl ?_
    refine G.iload_n C dX4_shapesThatFit_11 4 rfl ?_
    refine jn_use (fun J => ∀ (s21_0 : Int32), J s21_0 = some r → G X [wStage t (ad 3) vS, wSeer t ad vE, wStage t (ad 9) vF] 21 [(0, .ref (ad 8 0)), (1, .ref (ad 3 0)), (2, .int x2), (3, .int x3), (4, .int s9_0)] [.int s21_0]) h ?_ (fun J21 hJ21 h => ?_)
    · intro s21_0 h
      refine G.istore (lv' := [(5, .int s21_0), (0, .ref (ad 8 0)), (1, .ref (ad 3 0)), (2, .int x2), (3, .int x3), (4, .int s9_0)]) C dX4_shapesThatFit_21 (by decide) rfl ?_
      refine G.iconst C dX4_shapesThatFit_23 ni_0 ?_
      refine G.istore (lv' := [(6, .int (0 : Int32)), (5, .int s21_0), (0, .ref (ad 8 0)), (1, .ref (ad 3 0)), (2, .int x2), (3, .int x3), (4, .int s9_0)]) C dX4_shapesThatFit_24 (by decide) rfl ?_
      refine G.iload C dX4_shapesThatFit_26 6 rfl ?_
      refine G.istore (lv' := [(7, .int s9_0), (6, .int (0 : Int32)), (5, .int s21_0), (0, .ref (ad 8 0)), (1, .ref (ad 3 0)), (2, .int x2), (3, .int x3), (4, .int s9_0)]) C dX4_shapesThatFit_28 (by decide) rfl ?_
      exact G.lvs [3, 4, 5, 6, 2, 1, 0] rfl (w_X4_shapesThatFit_L30 C hR N _ _ _ h)
    refine G.if_ne (tgt := 19) C dX4_shapesThatFit_12 (by decide) h (fun h => ?_) (fun h => ?_)
    · refine G.bipush C dX4_shapesThatFit_19 nb_9 ?_
      exact G.lvs [1, 2, 3, 4, 0] rfl (hJ21 _ h)
    · refine G.iconst C dX4_shapesThatFit_15 ni_5 ?_
      refine G.goto (tgt := 21) C dX4_shapesThatFit_16 (by decide) ?_
      exact G.lvs [1, 2, 3, 4, 0] rfl (hJ21 _ h)
  refine G.if_ne (tgt := 8) C dX4_shapesThatFit_1 (by decide) h (fun h => ?_) (fun h => ?_)
  · refine G.iconst C dX4_shapesThatFit_8 ni_0 ?_
    exact G.lvs [0, 1, 2, 3] rfl (hJ9 _ h)
  · refine G.iconst C dX4_shapesThatFit_4 ni_1 ?_
    refine G.goto (tgt := 9) C dX4_shapesThatFit_5 (by decide) ?_
    exact G.lvs [0, 1, 2, 3] rfl (hJ9 _ h)
set_option maxHeartbeats 2000000 in
set_option maxRecDepth 20000 in
theorem w_X4_wantsThatFit_L5 {X : Cx} {t : Nat → ClassId} {ad : Nat → Nat → Nat} {N : Nat} {vS : SV} {vE : SV} {x2 : Int32} {r : Int32 × SV} (C : gX X t (rm 5) cX4_wantsThatFit 5 RX4) (hR : ∀ q : Int32 × SV, q = r → RetI X cX4_wantsThatFit (q.1) [wStage t (ad 3) vS, wSeer t ad vE, wStage t (ad 9) (q.2)]) : ∀ (n : Nat) (x3 : Int32) (x4 : Int32) (vF : SV), F_X4_wantsThatFit_L5 N vS vE x2 n x3 x4 vF = some r → G X [wStage t (ad 3) vS, wSeer t ad vE, wStage t (ad 9) vF] 5 [(0, .ref (ad 8 0)), (1, .ref (ad 3 0)), (2, .int x2), (3, .int x3), (4, .int x4)] [] := by
  intro n
  induction n with
  | zero => intro x3 x4 vF h; exact absurd h (by simp [F_X4_wantsThatFit_L5])
  | succ n ih =>
    intro x3 x4 vF h
    rw [F_X4_wantsThatFit_L5] at h
    refine G.iload C dX4_wantsThatFit_5 4 rfl ?_
    refine G.bipush C dX4_wantsThatFit_7 nb_9 ?_
    refine G.icmp_gt (tgt := 51) C dX4_wantsThatFit_9 (by decide) h (fun h => ?_) (fun h => ?_)
    · refine G.iload_n C dX4_wantsThatFit_51 3 rfl ?_
      exact hR _ (Option.some.inj h) _ _ dX4_wantsThatFit_52
    · refine G.aload_n C dX4_wantsThatFit_12 0 rfl ?_
      refine gfX4_10 (i := 1) (j := 0) (v := .ref (ad 9 0)) C rfl rfl rfl dX4_wantsThatFit_13 ?_
      refine G.aload_n C dX4_wantsThatFit_16 1 rfl ?_
      obtain ⟨q17, hq17, h⟩ := bind_some' h
      refine G.cvV (i0 := 2) (j0 := 0) (cs' := [wStage t (ad 3) vS, wSeer t ad vE, wStage t (ad 9) q17]) C (c_X5_takeOver (a := (ad 9)) (b := (ad 3)) hq17) [2, 0] rfl rfl rfl rfl rfl rfl rfl k_749 cal_X5_takeOver (fit_rm (by decide) (by decide)) rfl (Nat.le_of_ble_eq_true rfl) dX4_wantsThatFit_17 ?_
      refine G.aload_n C dX4_wantsThatFit_20 0 rfl ?_
      refine gfX4_10 (i := 1) (j := 0) (v := .ref (ad 9 0)) C rfl rfl rfl dX4_wantsThatFit_21 ?_
      refine gfX4_84 (i := 2) (j := 0) (v := .ref (ad 9 5)) C rfl rfl rfl dX4_wantsThatFit_24 ?_
      refine G.iload_n C dX4_wantsThatFit_27 2 rfl ?_
      refine G.iload C dX4_wantsThatFit_28 4 rfl ?_
      refine G.iast (i := 2) (j := 5) (f := q17 5) (cs' := [wStage t (ad 3) vS, wSeer t ad vE, wStage t (ad 9) (up2 q17 5 (x2.toNatClampNeg) x4)]) C rfl rfl h dX4_wantsThatFit_30 (suStageA_5) rfl (fun h => ?_)
      refine G.aload_n C dX4_wantsThatFit_31 0 rfl ?_
      obtain ⟨q32, hq32, h⟩ := bind_some' h
      refine G.cvI (i0 := 1) (j0 := 0) (cs' := [wStage t (ad 3) vS, wSeer t ad vE, wStage t (ad 9) (q32.2)]) C (c_X4_trialClapsAsTold (ad := ad) hq32) [1, 2] rfl rfl rfl rfl rfl rfl rfl k_917 cal_X4_trialClapsAsTold (fit_rm (by decide) (by decide)) rfl (Nat.le_of_ble_eq_true rfl) dX4_wantsThatFit_32 ?_
      refine jn_use (fun J => ∀ (x3_45 : Int32), J x3_45 = some r → G X [wStage t (ad 3) vS, wSeer t ad vE, wStage t (ad 9) (q32.2)] 45 [(0, .ref (ad 8 0)), (1, .ref (ad 3 0)), (2, .int x2), (3, .int x3_45), (4, .int x4)] []) h ?_ (fun J45 hJ45 h => ?_)
      · intro x3_45 h
        refine G.iinc (v := (x4 + (1 : Int32))) (lv' := [(4, .int (x4 + (1 : Int32))), (0, .ref (ad 8 0)), (1, .ref (ad 3 0)), (2, .int x2), (3, .int x3_45)]) C dX4_wantsThatFit_45 4 rfl (by rw [ni_1]) (by decide) rfl ?_
        refine G.goto (tgt := 5) C dX4_wantsThatFit_48 (by decide) ?_
        exact G.lvs [1, 2, 3, 4, 0] rfl (ih _ _ _ h)
      refine G.if_eq (tgt := 45) C dX4_wantsThatFit_35 (by decide) h (fun h => ?_) (fun h => ?_)
      · exact G.lvs [0, 1, 2, 3, 4] rfl (hJ45 _ h)
      · refine G.iload_n C dX4_wantsThatFit_38 3 rfl ?_
        refine G.iconst C dX4_wantsThatFit_39 ni_1 ?_
        refine G.iload C dX4_wantsThatFit_40 4 rfl ?_
        refine G.ishl C dX4_wantsThatFit_42 ?_
        refine G.ior C dX4_wantsThatFit_43 ?_
        refine G.istore_n (lv' := [(3, .int (x3 ||| ((1 : Int32) <<< (x4 &&& 31)))), (0, .ref (ad 8 0)), (1, .ref (ad 3 0)), (2, .int x2), (4, .int x4)]) C dX4_wantsThatFit_44 (by decide) rfl ?_
        exact G.lvs [1, 2, 3, 0, 4] rfl (hJ45 _ h)
set_option maxHeartbeats 2000000 in
set_option maxRecDepth 20000 in
theorem c_X4_wantsThatFit {t : Nat → ClassId} {ad : Nat → Nat → Nat} {N : Nat} {vS : SV} {vE : SV} {vF : SV} {x2 : Int32} {r : Int32 × SV} (h : F_X4_wantsThatFit N vS vE vF x2 = some r) : CI t yX4_wantsThatFit cX4_wantsThatFit 5 (some .int) (rm 5) [.ref (ad 8 0), .ref (ad 3 0), .int x2] [wStage t (ad 3) vS, wSeer t ad vE, wStage t (ad 9) vF] (r.1) [wStage t (ad 3) vS, wSeer t ad vE, wStage t (ad 9) (r.2)] := by
  refine CI.of (own := RX4) (by decide) rfl (Nat.le_of_ble_eq_true rfl) (fun X C hR0 => ?_)
  have hR : ∀ q : Int32 × SV, q = r → RetI X cX4_wantsThatFit (q.1) [wStage t (ad 3) vS, wSeer t ad vE, wStage t (ad 9) (q.2)] := by intro q e; subst e; exact hR0
  show G X [wStage t (ad 3) vS, wSeer t ad vE, wStage t (ad 9) vF] 0 [(0, .ref (ad 8 0)), (1, .ref (ad 3 0)), (2, .int x2)] []
  unfold F_X4_wantsThatFit at h
  refine G.iconst C dX4_wantsThatFit_0 ni_0 ?_
  refine G.istore_n (lv' := [(3, .int (0 : Int32)), (0, .ref (ad 8 0)), (1, .ref (ad 3 0)), (2, .int x2)]) C dX4_wantsThatFit_1 (by decide) rfl ?_
  refine G.iconst C dX4_wantsThatFit_2 ni_0 ?_
  refine G.istore (lv' := [(4, .int (0 : Int32)), (3, .int (0 : Int32)), (0, .ref (ad 8 0)), (1, .ref (ad 3 0)), (2, .int x2)]) C dX4_wantsThatFit_3 (by decide) rfl ?_
  exact G.lvs [2, 3, 4, 1, 0] rfl (w_X4_wantsThatFit_L5 C hR N _ _ _ h)
set_option maxHeartbeats 2000000 in
set_option maxRecDepth 20000 in
theorem w_X4_patienceThatFits_L5 {X : Cx} {t : Nat → ClassId} {ad : Nat → Nat → Nat} {N : Nat} {vS : SV} {vE : SV} {x2 : Int32} {r : Int32 × SV} (C : gX X t (rm 5) cX4_patienceThatFits 5 RX4) (hR : ∀ q : Int32 × SV, q = r → RetI X cX4_patienceThatFits (q.1) [wStage t (ad 3) vS, wSeer t ad vE, wStage t (ad 9) (q.2)]) : ∀ (n : Nat) (x3 : Int32) (x4 : Int32) (vF : SV), F_X4_patienceThatFits_L5 N vS vE x2 n x3 x4 vF = some r → G X [wStage t (ad 3) vS, wSeer t ad vE, wStage t (ad 9) vF] 5 [(0, .ref (ad 8 0)), (1, .ref (ad 3 0)), (2, .int x2), (3, .int x3), (4, .int x4)] [] := by
  intro n
  induction n with
  | zero => intro x3 x4 vF h; exact absurd h (by simp [F_X4_patienceThatFits_L5])
  | succ n ih =>
    intro x3 x4 vF h
    rw [F_X4_patienceThatFits_L5] at h
    refine G.iload C dX4_patienceThatFits_5 4 rfl ?_
    refine G.bipush C dX4_patienceThatFits_7 nb_20 ?_
    refine G.icmp_gt (tgt := 51) C dX4_patienceThatFits_9 (by decide) h (fun h => ?_) (fun h => ?_)
    · refine G.iload_n C dX4_patienceThatFits_51 3 rfl ?_
      exact hR _ (Option.some.inj h) _ _ dX4_patienceThatFits_52
    · refine G.aload_n C dX4_patienceThatFits_12 0 rfl ?_
      refine gfX4_10 (i := 1) (j := 0) (v := .ref (ad 9 0)) C rfl rfl rfl dX4_patienceThatFits_13 ?_
      refine G.aload_n C dX4_patienceThatFits_16 1 rfl ?_
      obtain ⟨q17, hq17, h⟩ := bind_some' h
      refine G.cvV (i0 := 2) (j0 := 0) (cs' := [wStage t (ad 3) vS, wSeer t ad vE, wStage t (ad 9) q17]) C (c_X5_takeOver (a := (ad 9)) (b := (ad 3)) hq17) [2, 0] rfl rfl rfl rfl rfl rfl rfl k_749 cal_X5_takeOver (fit_rm (by decide) (by decide)) rfl (Nat.le_of_ble_eq_true rfl) dX4_patienceThatFits_17 ?_
      refine G.aload_n C dX4_patienceThatFits_20 0 rfl ?_
      refine gfX4_10 (i := 1) (j := 0) (v := .ref (ad 9 0)) C rfl rfl rfl dX4_patienceThatFits_21 ?_
      refine gfX4_87 (i := 2) (j := 0) (v := .ref (ad 9 6)) C rfl rfl rfl dX4_patienceThatFits_24 ?_
      refine G.iload_n C dX4_patienceThatFits_27 2 rfl ?_
      refine G.iload C dX4_patienceThatFits_28 4 rfl ?_
      refine G.iast (i := 2) (j := 6) (f := q17 6) (cs' := [wStage t (ad 3) vS, wSeer t ad vE, wStage t (ad 9) (up2 q17 6 (x2.toNatClampNeg) x4)]) C rfl rfl h dX4_patienceThatFits_30 (suStageA_6) rfl (fun h => ?_)
      refine G.aload_n C dX4_patienceThatFits_31 0 rfl ?_
      obtain ⟨q32, hq32, h⟩ := bind_some' h
      refine G.cvI (i0 := 1) (j0 := 0) (cs' := [wStage t (ad 3) vS, wSeer t ad vE, wStage t (ad 9) (q32.2)]) C (c_X4_trialClapsAsTold (ad := ad) hq32) [1, 2] rfl rfl rfl rfl rfl rfl rfl k_917 cal_X4_trialClapsAsTold (fit_rm (by decide) (by decide)) rfl (Nat.le_of_ble_eq_true rfl) dX4_patienceThatFits_32 ?_
      refine jn_use (fun J => ∀ (x3_45 : Int32), J x3_45 = some r → G X [wStage t (ad 3) vS, wSeer t ad vE, wStage t (ad 9) (q32.2)] 45 [(0, .ref (ad 8 0)), (1, .ref (ad 3 0)), (2, .int x2), (3, .int x3_45), (4, .int x4)] []) h ?_ (fun J45 hJ45 h => ?_)
      · intro x3_45 h
        refine G.iinc (v := (x4 + (1 : Int32))) (lv' := [(4, .int (x4 + (1 : Int32))), (0, .ref (ad 8 0)), (1, .ref (ad 3 0)), (2, .int x2), (3, .int x3_45)]) C dX4_patienceThatFits_45 4 rfl (by rw [ni_1]) (by decide) rfl ?_
        refine G.goto (tgt := 5) C dX4_patienceThatFits_48 (by decide) ?_
        exact G.lvs [1, 2, 3, 4, 0] rfl (ih _ _ _ h)
      refine G.if_eq (tgt := 45) C dX4_patienceThatFits_35 (by decide) h (fun h => ?_) (fun h => ?_)
      · exact G.lvs [0, 1, 2, 3, 4] rfl (hJ45 _ h)
      · refine G.iload_n C dX4_patienceThatFits_38 3 rfl ?_
        refine G.iconst C dX4_patienceThatFits_39 ni_1 ?_
        refine G.iload C dX4_patienceThatFits_40 4 rfl ?_
        refine G.ishl C dX4_patienceThatFits_42 ?_
        refine G.ior C dX4_patienceThatFits_43 ?_
        refine G.istore_n (lv' := [(3, .int (x3 ||| ((1 : Int32) <<< (x4 &&& 31)))), (0, .ref (ad 8 0)), (1, .ref (ad 3 0)), (2, .int x2), (4, .int x4)]) C dX4_patienceThatFits_44 (by decide) rfl ?_
        exact G.lvs [1, 2, 3, 0, 4] rfl (hJ45 _ h)
set_option maxHeartbeats 2000000 in
set_option maxRecDepth 20000 in
theorem c_X4_patienceThatFits {t : Nat → ClassId} {ad : Nat → Nat → Nat} {N : Nat} {vS : SV} {vE : SV} {vF : SV} {x2 : Int32} {r : Int32 × SV} (h : F_X4_patienceThatFits N vS vE vF x2 = some r) : CI t yX4_patienceThatFits cX4_patienceThatFits 5 (some .int) (rm 5) [.ref (ad 8 0), .ref (ad 3 0), .int x2] [wStage t (ad 3) vS, wSeer t ad vE, wStage t (ad 9) vF] (r.1) [wStage t (ad 3) vS, wSeer t ad vE, wStage t (ad 9) (r.2)] := by
  refine CI.of (own := RX4) (by decide) rfl (Nat.le_of_ble_eq_true rfl) (fun X C hR0 => ?_)
  have hR : ∀ q : Int32 × SV, q = r → RetI X cX4_patienceThatFits (q.1) [wStage t (ad 3) vS, wSeer t ad vE, wStage t (ad 9) (q.2)] := by intro q e; subst e; exact hR0
  show G X [wStage t (ad 3) vS, wSeer t ad vE, wStage t (ad 9) vF] 0 [(0, .ref (ad 8 0)), (1, .ref (ad 3 0)), (2, .int x2)] []
  unfold F_X4_patienceThatFits at h
  refine G.iconst C dX4_patienceThatFits_0 ni_0 ?_
  refine G.istore_n (lv' := [(3, .int (0 : Int32)), (0, .ref (ad 8 0)), (1, .ref (ad 3 0)), (2, .int x2)]) C dX4_patienceThatFits_1 (by decide) rfl ?_
  refine G.iconst C dX4_patienceThatFits_2 ni_1 ?_
  refine G.istore (lv' := [(4, .int (1 : Int32)), (3, .int (0 : Int32)), (0, .ref (ad 8 0)), (1, .ref (ad 3 0)), (2, .int x2)]) C dX4_patienceThatFits_3 (by decide) rfl ?_
  exact G.lvs [2, 3, 4, 1, 0] rfl (w_X4_patienceThatFits_L5 C hR N _ _ _ h)
set_option maxHeartbeats 2000000 in
set_option maxRecDepth 20000 in
theorem w_X4_absencesThatFit_L24 {X : Cx} {t : Nat → ClassId} {ad : Nat → Nat → Nat} {N : Nat} {vS : SV} {vE : SV} {r : Int32 × SV} (C : gX X t (rm 5) cX4_absencesThatFit 4 RX4) (hR : ∀ q : Int32 × SV, q = r → RetI X cX4_absencesThatFit (q.1) [wStage t (ad 3) vS, wSeer t ad vE, wStage t (ad 9) (q.2)]) : ∀ (n : Nat) (x2 : Int32) (x3 : Int32) (vF : SV), F_X4_absencesThatFit_L24 N vS vE n x2 x3 vF = some r → G X [wStage t (ad 3) vS, wSeer t ad vE, wStage t (ad 9) vF] 24 [(0, .ref (ad 8 0)), (1, .ref (ad 3 0)), (2, .int x2), (3, .int x3)] [] := by
  intro n
  induction n with
  | zero => intro x2 x3 vF h; exact absurd h (by simp [F_X4_absencesThatFit_L24])
  | succ n ih =>
    intro x2 x3 vF h
    rw [F_X4_absencesThatFit_L24] at h
    refine G.iload_n C dX4_absencesThatFit_24 3 rfl ?_
    refine G.aload_n C dX4_absencesThatFit_25 1 rfl ?_
    refine gfX4_90 (i := 0) (j := 0) (v := .int (vS 0 4)) C rfl rfl rfl dX4_absencesThatFit_26 ?_
    refine G.icmp_ge (tgt := 77) C dX4_absencesThatFit_29 (by decide) h (fun h => ?_) (fun h => ?_)
    · refine G.iload_n C dX4_absencesThatFit_77 2 rfl ?_
      exact hR _ (Option.some.inj h) _ _ dX4_absencesThatFit_78
    · refine G.aload_n C dX4_absencesThatFit_32 0 rfl ?_
      refine gfX4_10 (i := 1) (j := 0) (v := .ref (ad 9 0)) C rfl rfl rfl dX4_absencesThatFit_33 ?_
      refine G.aload_n C dX4_absencesThatFit_36 1 rfl ?_
      obtain ⟨q37, hq37, h⟩ := bind_some' h
      refine G.cvV (i0 := 2) (j0 := 0) (cs' := [wStage t (ad 3) vS, wSeer t ad vE, wStage t (ad 9) q37]) C (c_X5_takeOver (a := (ad 9)) (b := (ad 3)) hq37) [2, 0] rfl rfl rfl rfl rfl rfl rfl k_749 cal_X5_takeOver (fit_rm (by decide) (by decide)) rfl (Nat.le_of_ble_eq_true rfl) dX4_absencesThatFit_37 ?_
      refine G.aload_n C dX4_absencesThatFit_40 0 rfl ?_
      refine gfX4_10 (i := 1) (j := 0) (v := .ref (ad 9 0)) C rfl rfl rfl dX4_absencesThatFit_41 ?_
      refine G.aload_n C dX4_absencesThatFit_44 1 rfl ?_
      refine gfX4_93 (i := 0) (j := 0) (v := .ref (ad 3 8)) C rfl rfl rfl dX4_absencesThatFit_45 ?_
      refine G.iload_n C dX4_absencesThatFit_48 3 rfl ?_
      refine G.iald (i := 0) (j := 8) (f := (vS 8)) C rfl rfl h dX4_absencesThatFit_49 (fun h => ?_)
      obtain ⟨q50, hq50, h⟩ := bind_some' h
      refine G.cvV (i0 := 2) (j0 := 0) (cs' := [wStage t (ad 3) vS, wSeer t ad vE, wStage t (ad 9) q50]) C (c_X5_takeOff (a := (ad 9)) hq50) [2] rfl rfl rfl rfl rfl rfl rfl k_941 cal_X5_takeOff (fit_rm (by decide) (by decide)) rfl (Nat.le_of_ble_eq_true rfl) dX4_absencesThatFit_50 ?_
      refine G.aload_n C dX4_absencesThatFit_53 0 rfl ?_
      obtain ⟨q54, hq54, h⟩ := bind_some' h
      refine G.cvI (i0 := 1) (j0 := 0) (cs' := [wStage t (ad 3) vS, wSeer t ad vE, wStage t (ad 9) (q54.2)]) C (c_X4_trialClapsAsTold (ad := ad) hq54) [1, 2] rfl rfl rfl rfl rfl rfl rfl k_917 cal_X4_trialClapsAsTold (fit_rm (by decide) (by decide)) rfl (Nat.le_of_ble_eq_true rfl) dX4_absencesThatFit_54 ?_
      refine jn_use (fun J => ∀ (x2_71 : Int32), J x2_71 = some r → G X [wStage t (ad 3) vS, wSeer t ad vE, wStage t (ad 9) (q54.2)] 71 [(0, .ref (ad 8 0)), (1, .ref (ad 3 0)), (2, .int x2_71), (3, .int x3)] []) h ?_ (fun J71 hJ71 h => ?_)
      · intro x2_71 h
        refine G.iinc (v := (x3 + (1 : Int32))) (lv' := [(3, .int (x3 + (1 : Int32))), (0, .ref (ad 8 0)), (1, .ref (ad 3 0)), (2, .int x2_71)]) C dX4_absencesThatFit_71 3 rfl (by rw [ni_1]) (by decide) rfl ?_
        refine G.goto (tgt := 24) C dX4_absencesThatFit_74 (by decide) ?_
        exact G.lvs [1, 2, 3, 0] rfl (ih _ _ _ h)
      refine G.if_eq (tgt := 71) C dX4_absencesThatFit_57 (by decide) h (fun h => ?_) (fun h => ?_)
      · exact G.lvs [0, 1, 2, 3] rfl (hJ71 _ h)
      · refine G.iload_n C dX4_absencesThatFit_60 2 rfl ?_
        refine G.iconst C dX4_absencesThatFit_61 ni_1 ?_
        refine G.aload_n C dX4_absencesThatFit_62 1 rfl ?_
        refine gfX4_93 (i := 0) (j := 0) (v := .ref (ad 3 8)) C rfl rfl rfl dX4_absencesThatFit_63 ?_
        refine G.iload_n C dX4_absencesThatFit_66 3 rfl ?_
        refine G.iald (i := 0) (j := 8) (f := (vS 8)) C rfl rfl h dX4_absencesThatFit_67 (fun h => ?_)
        refine G.ishl C dX4_absencesThatFit_68 ?_
        refine G.ior C dX4_absencesThatFit_69 ?_
        refine G.istore_n (lv' := [(2, .int (x2 ||| ((1 : Int32) <<< (((vS 8) (x3.toNatClampNeg)) &&& 31)))), (0, .ref (ad 8 0)), (1, .ref (ad 3 0)), (3, .int x3)]) C dX4_absencesThatFit_70 (by decide) rfl ?_
        exact G.lvs [1, 2, 0, 3] rfl (hJ71 _ h)
set_option maxHeartbeats 2000000 in
set_option maxRecDepth 20000 in
theorem c_X4_absencesThatFit {t : Nat → ClassId} {ad : Nat → Nat → Nat} {N : Nat} {vS : SV} {vE : SV} {vF : SV} {r : Int32 × SV} (h : F_X4_absencesThatFit N vS vE vF = some r) : CI t yX4_absencesThatFit cX4_absencesThatFit 4 (some .int) (rm 5) [.ref (ad 8 0), .ref (ad 3 0)] [wStage t (ad 3) vS, wSeer t ad vE, wStage t (ad 9) vF] (r.1) [wStage t (ad 3) vS, wSeer t ad vE, wStage t (ad 9) (r.2)] := by
  refine CI.of (own := RX4) (by decide) rfl (Nat.le_of_ble_eq_true rfl) (fun X C hR0 => ?_)
  have hR : ∀ q : Int32 × SV, q = r → RetI X cX4_absencesThatFit (q.1) [wStage t (ad 3) vS, wSeer t ad vE, wStage t (ad 9) (q.2)] := by intro q e; subst e; exact hR0
  show G X [wStage t (ad 3) vS, wSeer t ad vE, wStage t (ad 9) vF] 0 [(0, .ref (ad 8 0)), (1, .ref (ad 3 0))] []
  unfold F_X4_absencesThatFit at h
  refine G.aload_n C dX4_absencesThatFit_0 0 rfl ?_
  refine gfX4_10 (i := 1) (j := 0) (v := .ref (ad 9 0)) C rfl rfl rfl dX4_absencesThatFit_1 ?_
  refine G.aload_n C dX4_absencesThatFit_4 1 rfl ?_
  obtain ⟨q5, hq5, h⟩ := bind_some' h
  refine G.cvV (i0 := 2) (j0 := 0) (cs' := [wStage t (ad 3) vS, wSeer t ad vE, wStage t (ad 9) q5]) C (c_X5_takeOver (a := (ad 9)) (b := (ad 3)) hq5) [2, 0] rfl rfl rfl rfl rfl rfl rfl k_749 cal_X5_takeOver (fit_rm (by decide) (by decide)) rfl (Nat.le_of_ble_eq_true rfl) dX4_absencesThatFit_5 ?_
  refine G.aload_n C dX4_absencesThatFit_8 0 rfl ?_
  obtain ⟨q9, hq9, h⟩ := bind_some' h
  refine G.cvI (i0 := 1) (j0 := 0) (cs' := [wStage t (ad 3) vS, wSeer t ad vE, wStage t (ad 9) (q9.2)]) C (c_X4_trialClapsAsTold (ad := ad) hq9) [1, 2] rfl rfl rfl rfl rfl rfl rfl k_917 cal_X4_trialClapsAsTold (fit_rm (by decide) (by decide)) rfl (Nat.le_of_ble_eq_true rfl) dX4_absencesThatFit_9 ?_
  refine jn_use (fun J => ∀ (s21_0 : Int32), J s21_0 = some r → G X [wStage t (ad 3) vS, wSeer t ad vE, wStage t (ad 9) (q9.2)] 21 [(0, .ref (ad 8 0)), (1, .ref (ad 3 0))] [.int s21_0]) h ?_ (fun J21 hJ21 h => ?_)
  · intro s21_0 h
    refine G.istore_n (lv' := [(2, .int s21_0), (0, .ref (ad 8 0)), (1, .ref (ad 3 0))]) C dX4_absencesThatFit_21 (by decide) rfl ?_
    refine G.iconst C dX4_absencesThatFit_22 ni_0 ?_
    refine G.istore_n (lv' := [(3, .int (0 : Int32)), (2, .int s21_0), (0, .ref (ad 8 0)), (1, .ref (ad 3 0))]) C dX4_absencesThatFit_23 (by decide) rfl ?_
    exact G.lvs [2, 3, 1, 0] rfl (w_X4_absencesThatFit_L24 C hR N _ _ _ h)
  refine G.if_eq (tgt := 20) C dX4_absencesThatFit_12 (by decide) h (fun h => ?_) (fun h => ?_)
  · refine G.iconst C dX4_absencesThatFit_20 ni_0 ?_
    exact G.lvs [0, 1] rfl (hJ21 _ h)
  · refine G.bipush C dX4_absencesThatFit_15 nb_64 ?_
    refine G.goto (tgt := 21) C dX4_absencesThatFit_17 (by decide) ?_
    exact G.lvs [0, 1] rfl (hJ21 _ h)
set_option maxHeartbeats 2000000 in
set_option maxRecDepth 20000 in
theorem w_X4_power_L5 {X : Cx} {t : Nat → ClassId} {N : Nat} {x0 : Int32} {x1 : Int32} {K22 : Int64 → Option (Int64)} {r : Int64} (C : gX X t (rm 1) cX4_power 5 RX4) (hR : ∀ q : Int64, q = r → RetL X cX4_power q []) (hK22 : ∀ (x2_22 : Int64), K22 x2_22 = some r → G X [] 22 [(2, .long x2_22)] []) : ∀ (n : Nat) (x2 : Int64) (x4 : Int32), F_X4_power_L5 N x0 x1 K22 n x2 x4 = some r → G X [] 5 [(0, .int x0), (1, .int x1), (2, .long x2), (4, .int x4)] [] := by
  intro n
  induction n with
  | zero => intro x2 x4 h; exact absurd h (by simp [F_X4_power_L5])
  | succ n ih =>
    intro x2 x4 h
    rw [F_X4_power_L5] at h
    refine G.iload C dX4_power_5 3 rfl ?_
    refine G.iload_n C dX4_power_7 1 rfl ?_
    refine G.icmp_ge (tgt := 22) C dX4_power_8 (by decide) h (fun h => ?_) (fun h => ?_)
    · exact G.lvs [2] rfl (hK22 _ h)
    · refine G.lload_n C dX4_power_11 2 rfl ?_
      refine G.iload_n C dX4_power_12 0 rfl ?_
      refine G.i2l C dX4_power_13 ?_
      refine G.lmul C dX4_power_14 ?_
      refine G.lstore_n (lv' := [(2, .long (x2 * (x0.toInt64))), (0, .int x0), (1, .int x1), (4, .int x4)]) C dX4_power_15 (by decide) rfl ?_
      refine G.iinc (v := (x4 + (1 : Int32))) (lv' := [(4, .int (x4 + (1 : Int32))), (2, .long (x2 * (x0.toInt64))), (0, .int x0), (1, .int x1)]) C dX4_power_16 3 rfl (by rw [ni_1]) (by decide) rfl ?_
      refine G.goto (tgt := 5) C dX4_power_19 (by decide) ?_
      exact G.lvs [2, 3, 1, 0] rfl (ih _ _ h)
set_option maxHeartbeats 2000000 in
set_option maxRecDepth 20000 in
theorem c_X4_power {t : Nat → ClassId} {N : Nat} {x0 : Int32} {x1 : Int32} {r : Int64} (h : F_X4_power N x0 x1 = some r) : CL t yX4_power cX4_power 5 (some .long) (rm 1) [.int x0, .int x1] [] r [] := by
  refine CL.of (own := RX4) (by decide) rfl (Nat.le_of_ble_eq_true rfl) (fun X C hR0 => ?_)
  have hR : ∀ q : Int64, q = r → RetL X cX4_power q [] := by intro q e; subst e; exact hR0
  show G X [] 0 [(0, .int x0), (1, .int x1)] []
  unfold F_X4_power at h
  refine G.lconst C dX4_power_0 nl_1 ?_
  refine G.lstore_n (lv' := [(2, .long (1 : Int64)), (0, .int x0), (1, .int x1)]) C dX4_power_1 (by decide) rfl ?_
  refine G.iconst C dX4_power_2 ni_0 ?_
  refine G.istore (lv' := [(4, .int (0 : Int32)), (2, .long (1 : Int64)), (0, .int x0), (1, .int x1)]) C dX4_power_3 (by decide) rfl ?_
  refine G.lvs [2, 3, 1, 0] rfl (w_X4_power_L5 C hR (fun x2_22 h => ?_) N _ _ h)
  · refine G.lload_n C dX4_power_22 0 rfl ?_
    exact hR _ (Option.some.inj h) _ _ dX4_power_23
set_option maxHeartbeats 2000000 in
set_option maxRecDepth 20000 in
theorem w_X4_clappedWithout_L11 {X : Cx} {t : Nat → ClassId} {ad : Nat → Nat → Nat} {N : Nat} {vS : SV} {vE : SV} {x2 : Int32} {x3 : Int32} {K50 : SV → Option (Int32 × SV)} {r : Int32 × SV} (C : gX X t (rm 5) cX4_clappedWithout 5 RX4) (hR : ∀ q : Int32 × SV, q = r → RetI X cX4_clappedWithout (q.1) [wStage t (ad 3) vS, wSeer t ad vE, wStage t (ad 9) (q.2)]) (hK50 : ∀ (vF_50 : SV), K50 vF_50 = some r → G X [wStage t (ad 3) vS, wSeer t ad vE, wStage t (ad 9) vF_50] 50 [(0, .ref (ad 8 0)), (3, .int x3)] []) : ∀ (n : Nat) (x4 : Int32) (vF : SV), F_X4_clappedWithout_L11 N vS vE x2 x3 K50 n x4 vF = some r → G X [wStage t (ad 3) vS, wSeer t ad vE, wStage t (ad 9) vF] 11 [(0, .ref (ad 8 0)), (2, .int x2), (3, .int x3), (4, .int x4)] [] := by
  intro n
  induction n with
  | zero => intro x4 vF h; exact absurd h (by simp [F_X4_clappedWithout_L11])
  | succ n ih =>
    intro x4 vF h
    rw [F_X4_clappedWithout_L11] at h
    refine G.iload C dX4_clappedWithout_11 3 rfl ?_
    refine G.aload_n C dX4_clappedWithout_13 0 rfl ?_
    refine gfX4_10 (i := 1) (j := 0) (v := .ref (ad 9 0)) C rfl rfl rfl dX4_clappedWithout_14 ?_
    refine gfX4_115 (i := 2) (j := 0) (v := .int (vF 0 3)) C rfl rfl rfl dX4_clappedWithout_17 ?_
    refine G.icmp_ge (tgt := 50) C dX4_clappedWithout_20 (by decide) h (fun h => ?_) (fun h => ?_)
    · exact G.lvs [0, 2] rfl (hK50 _ h)
    · refine G.iload_n C dX4_clappedWithout_23 1 rfl ?_
      refine G.iload C dX4_clappedWithout_24 3 rfl ?_
      refine G.ishr C dX4_clappedWithout_26 ?_
      refine G.iconst C dX4_clappedWithout_27 ni_1 ?_
      refine G.iand C dX4_clappedWithout_28 ?_
      refine G.iconst C dX4_clappedWithout_29 ni_1 ?_
      refine jn_use (fun J => ∀ (vF_44 : SV), J vF_44 = some r → G X [wStage t (ad 3) vS, wSeer t ad vE, wStage t (ad 9) vF_44] 44 [(0, .ref (ad 8 0)), (2, .int x2), (3, .int x3), (4, .int x4)] []) h ?_ (fun J44 hJ44 h => ?_)
      · intro vF_44 h
        refine G.iinc (v := (x4 + (1 : Int32))) (lv' := [(4, .int (x4 + (1 : Int32))), (0, .ref (ad 8 0)), (2, .int x2), (3, .int x3)]) C dX4_clappedWithout_44 3 rfl (by rw [ni_1]) (by decide) rfl ?_
        refine G.goto (tgt := 11) C dX4_clappedWithout_47 (by decide) ?_
        exact G.lvs [1, 2, 3, 0] rfl (ih _ _ h)
      refine G.icmp_ne (tgt := 44) C dX4_clappedWithout_30 (by decide) h (fun h => ?_) (fun h => ?_)
      · exact G.lvs [0, 1, 2, 3] rfl (hJ44 _ h)
      · refine G.aload_n C dX4_clappedWithout_33 0 rfl ?_
        refine gfX4_10 (i := 1) (j := 0) (v := .ref (ad 9 0)) C rfl rfl rfl dX4_clappedWithout_34 ?_
        refine gfX4_45 (i := 2) (j := 0) (v := .ref (ad 9 7)) C rfl rfl rfl dX4_clappedWithout_37 ?_
        refine G.iload C dX4_clappedWithout_40 3 rfl ?_
        refine G.iconst C dX4_clappedWithout_42 ni_2 ?_
        refine G.iast (i := 2) (j := 7) (f := vF 7) (cs' := [wStage t (ad 3) vS, wSeer t ad vE, wStage t (ad 9) (up2 vF 7 (x4.toNatClampNeg) (2 : Int32))]) C rfl rfl h dX4_clappedWithout_43 (suStageA_7) rfl (fun h => ?_)
        exact G.lvs [0, 1, 2, 3] rfl (hJ44 _ h)
set_option maxHeartbeats 2000000 in
set_option maxRecDepth 20000 in
theorem c_X4_clappedWithout {t : Nat → ClassId} {ad : Nat → Nat → Nat} {N : Nat} {vS : SV} {vE : SV} {vF : SV} {x2 : Int32} {x3 : Int32} {r : Int32 × SV} (h : F_X4_clappedWithout N vS vE vF x2 x3 = some r) : CI t yX4_clappedWithout cX4_clappedWithout 5 (some .int) (rm 5) [.ref (ad 8 0), .ref (ad 3 0), .int x2, .int x3] [wStage t (ad 3) vS, wSeer t ad vE, wStage t (ad 9) vF] (r.1) [wStage t (ad 3) vS, wSeer t ad vE, wStage t (ad 9) (r.2)] := by
  refine CI.of (own := RX4) (by decide) rfl (Nat.le_of_ble_eq_true rfl) (fun X C hR0 => ?_)
  have hR : ∀ q : Int32 × SV, q = r → RetI X cX4_clappedWithout (q.1) [wStage t (ad 3) vS, wSeer t ad vE, wStage t (ad 9) (q.2)] := by intro q e; subst e; exact hR0
  show G X [wStage t (ad 3) vS, wSeer t ad vE, wStage t (ad 9) vF] 0 [(0, .ref (ad 8 0)), (1, .ref (ad 3 0)), (2, .int x2), (3, .int x3)] []
  unfold F_X4_clappedWithout at h
  refine G.aload_n C dX4_clappedWithout_0 0 rfl ?_
  refine gfX4_10 (i := 1) (j := 0) (v := .ref (ad 9 0)) C rfl rfl rfl dX4_clappedWithout_1 ?_
  refine G.aload_n C dX4_clappedWithout_4 1 rfl ?_
  obtain ⟨q5, hq5, h⟩ := bind_some' h
  refine G.cvV (i0 := 2) (j0 := 0) (cs' := [wStage t (ad 3) vS, wSeer t ad vE, wStage t (ad 9) q5]) C (c_X5_takeOver (a := (ad 9)) (b := (ad 3)) hq5) [2, 0] rfl rfl rfl rfl rfl rfl rfl k_749 cal_X5_takeOver (fit_rm (by decide) (by decide)) rfl (Nat.le_of_ble_eq_true rfl) dX4_clappedWithout_5 ?_
  refine G.iconst C dX4_clappedWithout_8 ni_0 ?_
  refine G.istore (lv' := [(4, .int (0 : Int32)), (0, .ref (ad 8 0)), (1, .ref (ad 3 0)), (2, .int x2), (3, .int x3)]) C dX4_clappedWithout_9 (by decide) rfl ?_
  refine G.lvs [1, 3, 4, 0] rfl (w_X4_clappedWithout_L11 C hR (fun vF_50 h => ?_) N _ _ h)
  · refine G.aload_n C dX4_clappedWithout_50 0 rfl ?_
    refine gfX4_10 (i := 1) (j := 0) (v := .ref (ad 9 0)) C rfl rfl rfl dX4_clappedWithout_51 ?_
    refine G.iload_n C dX4_clappedWithout_54 1 rfl ?_
    obtain ⟨q55, hq55, h⟩ := bind_some' h
    refine G.cvV (i0 := 2) (j0 := 0) (cs' := [wStage t (ad 3) vS, wSeer t ad vE, wStage t (ad 9) q55]) C (c_X5_tapWhileOneWaits (a := (ad 9)) hq55) [2] rfl rfl rfl rfl rfl rfl rfl k_759 cal_X5_tapWhileOneWaits (fit_rm (by decide) (by decide)) rfl (Nat.le_of_ble_eq_true rfl) dX4_clappedWithout_55 ?_
    refine G.aload_n C dX4_clappedWithout_58 0 rfl ?_
    refine gfX4_10 (i := 1) (j := 0) (v := .ref (ad 9 0)) C rfl rfl rfl dX4_clappedWithout_59 ?_
    refine gfX4_62 (i := 2) (j := 0) (v := .int (q55 0 6)) C rfl rfl rfl dX4_clappedWithout_62 ?_
    exact hR _ (Option.some.inj h) _ _ dX4_clappedWithout_65
set_option maxHeartbeats 2000000 in
set_option maxRecDepth 20000 in
theorem w_X4_likelyCases_L13 {X : Cx} {t : Nat → ClassId} {ad : Nat → Nat → Nat} {N : Nat} {vS : SV} {vE : SV} {x2 : Int32} {x3 : Int32} {x4 : Int32} {x5 : Int32} {K99 : Int64 → SV → Option (Int64 × SV)} {r : Int64 × SV} (C : gX X t (rm 6) cX4_likelyCases 13 RX4) (hR : ∀ q : Int64 × SV, q = r → RetL X cX4_likelyCases (q.1) [wStage t (ad 3) vS, wSeer t ad vE, wStage t (ad 9) (q.2)]) (hK99 : ∀ (x6_99 : Int64) (vF_99 : SV), K99 x6_99 vF_99 = some r → G X [wStage t (ad 3) vS, wSeer t ad vE, wStage t (ad 9) vF_99] 99 [(6, .long x6_99)] []) : ∀ (n : Nat) (x6 : Int64) (x8 : Int32) (vF : SV), F_X4_likelyCases_L13 N vS vE x2 x3 x4 x5 K99 n x6 x8 vF = some r → G X [wStage t (ad 3) vS, wSeer t ad vE, wStage t (ad 9) vF] 13 [(0, .ref (ad 8 0)), (1, .ref (ad 3 0)), (2, .int x2), (3, .int x3), (4, .int x4), (5, .int x5), (6, .long x6), (8, .int x8)] [] := by
  intro n
  induction n with
  | zero => intro x6 x8 vF h; exact absurd h (by simp [F_X4_likelyCases_L13])
  | succ n ih =>
    intro x6 x8 vF h
    rw [F_X4_likelyCases_L13] at h
    refine G.iload C dX4_likelyCases_13 7 rfl ?_
    refine G.iload C dX4_likelyCases_15 5 rfl ?_
    refine G.icmp_gt (tgt := 99) C dX4_likelyCases_17 (by decide) h (fun h => ?_) (fun h => ?_)
    · exact G.lvs [6] rfl (hK99 _ _ h)
    · refine G.iload C dX4_likelyCases_20 7 rfl ?_
      refine G.iload C dX4_likelyCases_22 5 rfl ?_
      refine G.iconst C dX4_likelyCases_24 ni_m1 ?_
      refine G.ixor C dX4_likelyCases_25 ?_
      refine G.iand C dX4_likelyCases_26 ?_
      refine jn_use (fun J => ∀ (x6_93 : Int64) (vF_93 : SV), J x6_93 vF_93 = some r → G X [wStage t (ad 3) vS, wSeer t ad vE, wStage t (ad 9) vF_93] 93 [(0, .ref (ad 8 0)), (1, .ref (ad 3 0)), (2, .int x2), (3, .int x3), (4, .int x4), (5, .int x5), (6, .long x6_93), (8, .int x8)] []) h ?_ (fun J93 hJ93 h => ?_)
      · intro x6_93 vF_93 h
        refine G.iinc (v := (x8 + (1 : Int32))) (lv' := [(8, .int (x8 + (1 : Int32))), (0, .ref (ad 8 0)), (1, .ref (ad 3 0)), (2, .int x2), (3, .int x3), (4, .int x4), (5, .int x5), (6, .long x6_93)]) C dX4_likelyCases_93 7 rfl (by rw [ni_1]) (by decide) rfl ?_
        refine G.goto (tgt := 13) C dX4_likelyCases_96 (by decide) ?_
        exact G.lvs [1, 2, 3, 4, 5, 6, 7, 0] rfl (ih _ _ _ h)
      refine G.if_ne (tgt := 93) C dX4_likelyCases_27 (by decide) h (fun h => ?_) (fun h => ?_)
      · exact G.lvs [0, 1, 2, 3, 4, 5, 6, 7] rfl (hJ93 _ _ h)
      · refine G.iload C dX4_likelyCases_30 7 rfl ?_
        obtain ⟨q32, hq32, h⟩ := bind_some' h
        refine G.csI (cs' := [wStage t (ad 3) vS, wSeer t ad vE, wStage t (ad 9) vF]) C (c_J6_bitCount_0f7a4 hq32) [] rfl rfl rfl rfl k_953 cal_J6_bitCount_0f7a4 (fit_rm (by decide) (by decide)) rfl (Nat.le_of_ble_eq_true rfl) dX4_likelyCases_32 ?_
        refine G.istore (lv' := [(9, .int q32), (0, .ref (ad 8 0)), (1, .ref (ad 3 0)), (2, .int x2), (3, .int x3), (4, .int x4), (5, .int x5), (6, .long x6), (8, .int x8)]) C dX4_likelyCases_35 (by decide) rfl ?_
        refine G.iload C dX4_likelyCases_37 6 rfl ?_
        obtain ⟨q39, hq39, h⟩ := bind_some' h
        refine G.csI (cs' := [wStage t (ad 3) vS, wSeer t ad vE, wStage t (ad 9) vF]) C (c_J6_bitCount_0f7a4 hq39) [] rfl rfl rfl rfl k_953 cal_J6_bitCount_0f7a4 (fit_rm (by decide) (by decide)) rfl (Nat.le_of_ble_eq_true rfl) dX4_likelyCases_39 ?_
        refine G.iload C dX4_likelyCases_42 0 rfl ?_
        refine G.isub C dX4_likelyCases_44 ?_
        refine G.istore (lv' := [(10, .int (q39 - q32)), (9, .int q32), (0, .ref (ad 8 0)), (1, .ref (ad 3 0)), (2, .int x2), (3, .int x3), (4, .int x4), (5, .int x5), (6, .long x6), (8, .int x8)]) C dX4_likelyCases_45 (by decide) rfl ?_
        refine G.iload C dX4_likelyCases_47 6 rfl ?_
        refine G.iload C dX4_likelyCases_49 1 rfl ?_
        obtain ⟨q51, hq51, h⟩ := bind_some' h
        refine G.csL (cs' := [wStage t (ad 3) vS, wSeer t ad vE, wStage t (ad 9) vF]) C (c_X4_power hq51) [] rfl rfl rfl rfl k_954 cal_X4_power (fit_rm (by decide) (by decide)) rfl (Nat.le_of_ble_eq_true rfl) dX4_likelyCases_51 ?_
        refine G.bipush C dX4_likelyCases_54 nb_10 ?_
        refine G.iload C dX4_likelyCases_56 6 rfl ?_
        refine G.isub C dX4_likelyCases_58 ?_
        refine G.iload C dX4_likelyCases_59 0 rfl ?_
        obtain ⟨q61, hq61, h⟩ := bind_some' h
        refine G.csL (cs' := [wStage t (ad 3) vS, wSeer t ad vE, wStage t (ad 9) vF]) C (c_X4_power hq61) [] rfl rfl rfl rfl k_954 cal_X4_power (fit_rm (by decide) (by decide)) rfl (Nat.le_of_ble_eq_true rfl) dX4_likelyCases_61 ?_
        refine G.lmul C dX4_likelyCases_64 ?_
        refine G.lstore (lv' := [(11, .long (q51 * q61)), (10, .int (q39 - q32)), (9, .int q32), (0, .ref (ad 8 0)), (1, .ref (ad 3 0)), (2, .int x2), (3, .int x3), (4, .int x4), (5, .int x5), (6, .long x6), (8, .int x8)]) C dX4_likelyCases_65 (by decide) rfl ?_
        refine G.lload C dX4_likelyCases_67 0 rfl ?_
        refine G.lconst C dX4_likelyCases_69 nl_0 ?_
        refine G.lcmp C dX4_likelyCases_70 ?_
        refine G.if_le (tgt := 93) C dX4_likelyCases_71 (by decide) h (fun h => ?_) (fun h => ?_)
        · exact G.lvs [3, 4, 5, 6, 7, 8, 9, 10] rfl (hJ93 _ _ h)
        · refine G.aload_n C dX4_likelyCases_74 3 rfl ?_
          refine G.aload_n C dX4_likelyCases_75 4 rfl ?_
          refine G.iload C dX4_likelyCases_76 10 rfl ?_
          refine G.iload_n C dX4_likelyCases_78 6 rfl ?_
          obtain ⟨q79, hq79, h⟩ := bind_some' h
          refine G.cvI (i0 := 1) (j0 := 0) (cs' := [wStage t (ad 3) vS, wSeer t ad vE, wStage t (ad 9) (q79.2)]) C (c_X4_clappedWithout (ad := ad) hq79) [0, 1, 2] rfl rfl rfl rfl rfl rfl rfl k_957 cal_X4_clappedWithout (fit_rm (by decide) (by decide)) rfl (Nat.le_of_ble_eq_true rfl) dX4_likelyCases_79 ?_
          refine G.iload_n C dX4_likelyCases_82 5 rfl ?_
          refine G.icmp_lt (tgt := 93) C dX4_likelyCases_83 (by decide) h (fun h => ?_) (fun h => ?_)
          · exact G.lvs [3, 4, 5, 6, 7, 8, 9, 10] rfl (hJ93 _ _ h)
          · refine G.lload C dX4_likelyCases_86 9 rfl ?_
            refine G.lload C dX4_likelyCases_88 0 rfl ?_
            refine G.ladd C dX4_likelyCases_90 ?_
            refine G.lstore (lv' := [(6, .long (x6 + (q51 * q61))), (11, .long (q51 * q61)), (10, .int (q39 - q32)), (9, .int q32), (0, .ref (ad 8 0)), (1, .ref (ad 3 0)), (2, .int x2), (3, .int x3), (4, .int x4), (5, .int x5), (8, .int x8)]) C dX4_likelyCases_91 (by decide) rfl ?_
            exact G.lvs [4, 5, 6, 7, 8, 9, 0, 10] rfl (hJ93 _ _ h)
set_option maxHeartbeats 2000000 in
set_option maxRecDepth 20000 in
theorem c_X4_likelyCases {t : Nat → ClassId} {ad : Nat → Nat → Nat} {N : Nat} {vS : SV} {vE : SV} {vF : SV} {x2 : Int32} {x3 : Int32} {x4 : Int32} {r : Int64 × SV} (h : F_X4_likelyCases N vS vE vF x2 x3 x4 = some r) : CL t yX4_likelyCases cX4_likelyCases 13 (some .long) (rm 6) [.ref (ad 8 0), .ref (ad 3 0), .int x2, .int x3, .int x4] [wStage t (ad 3) vS, wSeer t ad vE, wStage t (ad 9) vF] (r.1) [wStage t (ad 3) vS, wSeer t ad vE, wStage t (ad 9) (r.2)] := by
  refine CL.of (own := RX4) (by decide) rfl (Nat.le_of_ble_eq_true rfl) (fun X C hR0 => ?_)
  have hR : ∀ q : Int64 × SV, q = r → RetL X cX4_likelyCases (q.1) [wStage t (ad 3) vS, wSeer t ad vE, wStage t (ad 9) (q.2)] := by intro q e; subst e; exact hR0
  show G X [wStage t (ad 3) vS, wSeer t ad vE, wStage t (ad 9) vF] 0 [(0, .ref (ad 8 0)), (1, .ref (ad 3 0)), (2, .int x2), (3, .int x3), (4, .int x4)] []
  unfold F_X4_likelyCases at h
  refine G.aload_n C dX4_likelyCases_0 1 rfl ?_
  refine G.iconst C dX4_likelyCases_1 ni_0 ?_
  obtain ⟨q2, hq2, h⟩ := bind_some' h
  refine G.cvI (i0 := 0) (j0 := 0) (cs' := [wStage t (ad 3) vS, wSeer t ad vE, wStage t (ad 9) vF]) C (c_X5_seatsThat (a := (ad 3)) hq2) [0] rfl rfl rfl rfl rfl rfl rfl k_952 cal_X5_seatsThat (fit_rm (by decide) (by decide)) rfl (Nat.le_of_ble_eq_true rfl) dX4_likelyCases_2 ?_
  refine G.istore (lv' := [(5, .int q2), (0, .ref (ad 8 0)), (1, .ref (ad 3 0)), (2, .int x2), (3, .int x3), (4, .int x4)]) C dX4_likelyCases_5 (by decide) rfl ?_
  refine G.lconst C dX4_likelyCases_7 nl_0 ?_
  refine G.lstore (lv' := [(6, .long (0 : Int64)), (5, .int q2), (0, .ref (ad 8 0)), (1, .ref (ad 3 0)), (2, .int x2), (3, .int x3), (4, .int x4)]) C dX4_likelyCases_8 (by decide) rfl ?_
  refine G.iconst C dX4_likelyCases_10 ni_0 ?_
  refine G.istore (lv' := [(8, .int (0 : Int32)), (6, .long (0 : Int64)), (5, .int q2), (0, .ref (ad 8 0)), (1, .ref (ad 3 0)), (2, .int x2), (3, .int x3), (4, .int x4)]) C dX4_likelyCases_11 (by decide) rfl ?_
  refine G.lvs [3, 4, 5, 6, 7, 2, 1, 0] rfl (w_X4_likelyCases_L13 C hR (fun x6_99 vF_99 h => ?_) N _ _ _ h)
  · refine G.lload C dX4_likelyCases_99 0 rfl ?_
    exact hR _ (Option.some.inj h) _ _ dX4_likelyCases_101
set_option maxHeartbeats 2000000 in
set_option maxRecDepth 20000 in
theorem w_X4_commonDivisor_L9 {X : Cx} {t : Nat → ClassId} {N : Nat} {K45 : Int64 → Option (Int64)} {r : Int64} (C : gX X t (rm 1) cX4_commonDivisor 11 RX4) (hR : ∀ q : Int64, q = r → RetL X cX4_commonDivisor q []) (hK45 : ∀ (x4_45 : Int64), K45 x4_45 = some r → G X [] 45 [(4, .long x4_45)] []) : ∀ (n : Nat) (x4 : Int64) (x6 : Int64) (x8 : Int32), F_X4_commonDivisor_L9 N K45 n x4 x6 x8 = some r → G X [] 9 [(4, .long x4), (6, .long x6), (8, .int x8)] [] := by
  intro n
  induction n with
  | zero => intro x4 x6 x8 h; exact absurd h (by simp [F_X4_commonDivisor_L9])
  | succ n ih =>
    intro x4 x6 x8 h
    rw [F_X4_commonDivisor_L9] at h
    refine G.iload C dX4_commonDivisor_9 2 rfl ?_
    refine G.sipush C dX4_commonDivisor_11 ns_1000 ?_
    refine G.icmp_ge (tgt := 45) C dX4_commonDivisor_14 (by decide) h (fun h => ?_) (fun h => ?_)
    · exact G.lvs [0] rfl (hK45 _ h)
    · refine G.lload C dX4_commonDivisor_17 1 rfl ?_
      refine G.lconst C dX4_commonDivisor_19 nl_0 ?_
      refine G.lcmp C dX4_commonDivisor_20 ?_
      refine G.if_le (tgt := 45) C dX4_commonDivisor_21 (by decide) h (fun h => ?_) (fun h => ?_)
      · exact G.lvs [0] rfl (hK45 _ h)
      · refine G.lload C dX4_commonDivisor_24 0 rfl ?_
        refine G.lload C dX4_commonDivisor_26 1 rfl ?_
        refine G.lrem C dX4_commonDivisor_28 h (fun h => ?_)
        refine G.lstore (lv' := [(9, .long (x4 - x4 / x6 * x6)), (4, .long x4), (6, .long x6), (8, .int x8)]) C dX4_commonDivisor_29 (by decide) rfl ?_
        refine G.lload C dX4_commonDivisor_31 2 rfl ?_
        refine G.lstore (lv' := [(4, .long x6), (9, .long (x4 - x4 / x6 * x6)), (6, .long x6), (8, .int x8)]) C dX4_commonDivisor_33 (by decide) rfl ?_
        refine G.lload C dX4_commonDivisor_35 1 rfl ?_
        refine G.lstore (lv' := [(6, .long (x4 - x4 / x6 * x6)), (4, .long x6), (9, .long (x4 - x4 / x6 * x6)), (8, .int x8)]) C dX4_commonDivisor_37 (by decide) rfl ?_
        refine G.iinc (v := (x8 + (1 : Int32))) (lv' := [(8, .int (x8 + (1 : Int32))), (6, .long (x4 - x4 / x6 * x6)), (4, .long x6), (9, .long (x4 - x4 / x6 * x6))]) C dX4_commonDivisor_39 3 rfl (by rw [ni_1]) (by decide) rfl ?_
        refine G.goto (tgt := 9) C dX4_commonDivisor_42 (by decide) ?_
        exact G.lvs [2, 1, 0] rfl (ih _ _ _ h)
set_option maxHeartbeats 2000000 in
set_option maxRecDepth 20000 in
theorem c_X4_commonDivisor {t : Nat → ClassId} {N : Nat} {x0 : Int64} {x2 : Int64} {r : Int64} (h : F_X4_commonDivisor N x0 x2 = some r) : CL t yX4_commonDivisor cX4_commonDivisor 11 (some .long) (rm 1) [.long x0, .long x2] [] r [] := by
  refine CL.of (own := RX4) (by decide) rfl (Nat.le_of_ble_eq_true rfl) (fun X C hR0 => ?_)
  have hR : ∀ q : Int64, q = r → RetL X cX4_commonDivisor q [] := by intro q e; subst e; exact hR0
  show G X [] 0 [(0, .long x0), (2, .long x2)] []
  unfold F_X4_commonDivisor at h
  refine G.lload_n C dX4_commonDivisor_0 0 rfl ?_
  refine G.lstore (lv' := [(4, .long x0), (0, .long x0), (2, .long x2)]) C dX4_commonDivisor_1 (by decide) rfl ?_
  refine G.lload_n C dX4_commonDivisor_3 2 rfl ?_
  refine G.lstore (lv' := [(6, .long x2), (4, .long x0), (0, .long x0), (2, .long x2)]) C dX4_commonDivisor_4 (by decide) rfl ?_
  refine G.iconst C dX4_commonDivisor_6 ni_0 ?_
  refine G.istore (lv' := [(8, .int (0 : Int32)), (6, .long x2), (4, .long x0), (0, .long x0), (2, .long x2)]) C dX4_commonDivisor_7 (by decide) rfl ?_
  refine G.lvs [2, 1, 0] rfl (w_X4_commonDivisor_L9 C hR (fun x4_45 h => ?_) N _ _ _ h)
  · refine G.lload C dX4_commonDivisor_45 0 rfl ?_
    exact hR _ (Option.some.inj h) _ _ dX4_commonDivisor_47
set_option maxHeartbeats 2000000 in
set_option maxRecDepth 20000 in
theorem c_X4_arrangeByDraw {t : Nat → ClassId} {ad : Nat → Nat → Nat} {N : Nat} {vE : SV} {vF : SV} {x1 : Int64} {r : SV} (h : F_X4_arrangeByDraw N vE vF x1 = some r) : CV t yX4_arrangeByDraw cX4_arrangeByDraw 4 none (rm 2) [.ref (ad 8 0), .long x1] [wSeer t ad vE, wStage t (ad 9) vF] [wSeer t ad vE, wStage t (ad 9) r] := by
  refine CV.of (own := RX4) (by decide) rfl (Nat.le_of_ble_eq_true rfl) (fun X C hR0 => ?_)
  have hR : ∀ q : SV, q = r → RetV X cX4_arrangeByDraw [wSeer t ad vE, wStage t (ad 9) q] := by intro q e; subst e; exact hR0
  show G X [wSeer t ad vE, wStage t (ad 9) vF] 0 [(0, .ref (ad 8 0)), (1, .long x1)] []
  unfold F_X4_arrangeByDraw at h
  refine G.aload_n C dX4_arrangeByDraw_0 0 rfl ?_
  refine gfX4_10 (i := 0) (j := 0) (v := .ref (ad 9 0)) C rfl rfl rfl dX4_arrangeByDraw_1 ?_
  refine gfX4_115 (i := 1) (j := 0) (v := .int (vF 0 3)) C rfl rfl rfl dX4_arrangeByDraw_4 ?_
  refine jn_use (fun J => ∀ (vF_67 : SV), J vF_67 = some r → G X [wSeer t ad vE, wStage t (ad 9) vF_67] 67 [(0, .ref (ad 8 0)), (1, .long x1)] []) h ?_ (fun J67 hJ67 h => ?_)
  · intro vF_67 h
    refine G.aload_n C dX4_arrangeByDraw_67 0 rfl ?_
    refine gfX4_10 (i := 0) (j := 0) (v := .ref (ad 9 0)) C rfl rfl rfl dX4_arrangeByDraw_68 ?_
    refine gfX4_90 (i := 1) (j := 0) (v := .int (vF_67 0 4)) C rfl rfl rfl dX4_arrangeByDraw_71 ?_
    refine G.if_ne (tgt := 105) C dX4_arrangeByDraw_74 (by decide) h (fun h => ?_) (fun h => ?_)
    · exact hR _ (Option.some.inj h) _ _ dX4_arrangeByDraw_105
    · refine G.aload_n C dX4_arrangeByDraw_77 0 rfl ?_
      refine gfX4_10 (i := 0) (j := 0) (v := .ref (ad 9 0)) C rfl rfl rfl dX4_arrangeByDraw_78 ?_
      refine gfX4_137 (i := 1) (j := 0) (v := .int (vF_67 0 2)) C rfl rfl rfl dX4_arrangeByDraw_81 ?_
      refine G.if_le (tgt := 105) C dX4_arrangeByDraw_84 (by decide) h (fun h => ?_) (fun h => ?_)
      · exact hR _ (Option.some.inj h) _ _ dX4_arrangeByDraw_105
      · refine G.aload_n C dX4_arrangeByDraw_87 0 rfl ?_
        refine gfX4_10 (i := 0) (j := 0) (v := .ref (ad 9 0)) C rfl rfl rfl dX4_arrangeByDraw_88 ?_
        refine G.lload_n C dX4_arrangeByDraw_91 1 rfl ?_
        refine G.aload_n C dX4_arrangeByDraw_92 0 rfl ?_
        refine gfX4_10 (i := 0) (j := 0) (v := .ref (ad 9 0)) C rfl rfl rfl dX4_arrangeByDraw_93 ?_
        refine gfX4_137 (i := 1) (j := 0) (v := .int (vF_67 0 2)) C rfl rfl rfl dX4_arrangeByDraw_96 ?_
        refine G.i2l C dX4_arrangeByDraw_99 ?_
        refine G.lrem C dX4_arrangeByDraw_100 h (fun h => ?_)
        refine G.l2i C dX4_arrangeByDraw_101 ?_
        obtain ⟨q102, hq102, h⟩ := bind_some' h
        refine G.cvV (i0 := 1) (j0 := 0) (cs' := [wSeer t ad vE, wStage t (ad 9) q102]) C (c_X5_putLast (a := (ad 9)) hq102) [1] rfl rfl rfl rfl rfl rfl rfl k_984 cal_X5_putLast (fit_rm (by decide) (by decide)) rfl (Nat.le_of_ble_eq_true rfl) dX4_arrangeByDraw_102 ?_
        exact hR _ (Option.some.inj h) _ _ dX4_arrangeByDraw_105
  refine G.if_le (tgt := 67) C dX4_arrangeByDraw_7 (by decide) h (fun h => ?_) (fun h => ?_)
  · exact G.lvs [0, 1] rfl (hJ67 _ h)
  · refine G.lload_n C dX4_arrangeByDraw_10 1 rfl ?_
    refine G.aload_n C dX4_arrangeByDraw_11 0 rfl ?_
    refine gfX4_10 (i := 0) (j := 0) (v := .ref (ad 9 0)) C rfl rfl rfl dX4_arrangeByDraw_12 ?_
    refine gfX4_115 (i := 1) (j := 0) (v := .int (vF 0 3)) C rfl rfl rfl dX4_arrangeByDraw_15 ?_
    refine G.i2l C dX4_arrangeByDraw_18 ?_
    refine G.lrem C dX4_arrangeByDraw_19 h (fun h => ?_)
    refine G.l2i C dX4_arrangeByDraw_20 ?_
    refine G.istore_n (lv' := [(3, .int ((x1 - x1 / ((vF 0 3).toInt64) * ((vF 0 3).toInt64)).toInt32)), (0, .ref (ad 8 0)), (1, .long x1)]) C dX4_arrangeByDraw_21 (by decide) rfl ?_
    refine G.aload_n C dX4_arrangeByDraw_22 1 rfl ?_
    refine gfX4_10 (i := 0) (j := 0) (v := .ref (ad 9 0)) C rfl rfl rfl dX4_arrangeByDraw_23 ?_
    refine G.iload_n C dX4_arrangeByDraw_26 0 rfl ?_
    obtain ⟨q27, hq27, h⟩ := bind_some' h
    refine G.cvI (i0 := 1) (j0 := 0) (cs' := [wSeer t ad vE, wStage t (ad 9) vF]) C (c_X5_isSeat (a := (ad 9)) hq27) [1] rfl rfl rfl rfl rfl rfl rfl k_980 cal_X5_isSeat (fit_rm (by decide) (by decide)) rfl (Nat.le_of_ble_eq_true rfl) dX4_arrangeByDraw_27 ?_
    refine G.if_eq (tgt := 67) C dX4_arrangeByDraw_30 (by decide) h (fun h => ?_) (fun h => ?_)
    · exact G.lvs [1, 2] rfl (hJ67 _ h)
    · refine G.aload_n C dX4_arrangeByDraw_33 1 rfl ?_
      refine gfX4_10 (i := 0) (j := 0) (v := .ref (ad 9 0)) C rfl rfl rfl dX4_arrangeByDraw_34 ?_
      refine gfX4_45 (i := 1) (j := 0) (v := .ref (ad 9 7)) C rfl rfl rfl dX4_arrangeByDraw_37 ?_
      refine G.iload_n C dX4_arrangeByDraw_40 0 rfl ?_
      refine G.iald (i := 1) (j := 7) (f := (vF 7)) C rfl rfl h dX4_arrangeByDraw_41 (fun h => ?_)
      refine G.if_eq (tgt := 67) C dX4_arrangeByDraw_42 (by decide) h (fun h => ?_) (fun h => ?_)
      · exact G.lvs [1, 2] rfl (hJ67 _ h)
      · refine G.aload_n C dX4_arrangeByDraw_45 1 rfl ?_
        refine gfX4_10 (i := 0) (j := 0) (v := .ref (ad 9 0)) C rfl rfl rfl dX4_arrangeByDraw_46 ?_
        refine G.iload_n C dX4_arrangeByDraw_49 0 rfl ?_
        refine G.lload_n C dX4_arrangeByDraw_50 2 rfl ?_
        refine G.ldc2 C k_981 dX4_arrangeByDraw_51 ?_
        refine G.lremc C dX4_arrangeByDraw_54 (by decide) ?_
        refine G.l2i C dX4_arrangeByDraw_55 ?_
        refine G.lload_n C dX4_arrangeByDraw_56 2 rfl ?_
        refine G.ldc2 C k_982 dX4_arrangeByDraw_57 ?_
        refine G.lremc C dX4_arrangeByDraw_60 (by decide) ?_
        refine G.l2i C dX4_arrangeByDraw_61 ?_
        refine G.iconst C dX4_arrangeByDraw_62 ni_1 ?_
        refine G.iadd C dX4_arrangeByDraw_63 ?_
        obtain ⟨q64, hq64, h⟩ := bind_some' h
        refine G.cvV (i0 := 1) (j0 := 0) (cs' := [wSeer t ad vE, wStage t (ad 9) q64]) C (c_X5_takeAnew (a := (ad 9)) hq64) [1] rfl rfl rfl rfl rfl rfl rfl k_983 cal_X5_takeAnew (fit_rm (by decide) (by decide)) rfl (Nat.le_of_ble_eq_true rfl) dX4_arrangeByDraw_64 ?_
        exact G.lvs [1, 2] rfl (hJ67 _ h)
set_option maxHeartbeats 2000000 in
set_option maxRecDepth 20000 in
theorem w_X4_runByDraws_L18 {X : Cx} {t : Nat → ClassId} {ad : Nat → Nat → Nat} {N : Nat} {vS : SV} {vE : SV} {x2 : Int32} {x4 : Int32} {K70 : Int32 → SV → Option (Int32 × SV)} {r : Int32 × SV} (C : gX X t (rm 4) cX4_runByDraws 9 RX4) (hR : ∀ q : Int32 × SV, q = r → RetI X cX4_runByDraws (q.1) [wStage t (ad 3) vS, wSeer t ad vE, wStage t (ad 9) (q.2)]) (hK70 : ∀ (x7_70 : Int32) (vF_70 : SV), K70 x7_70 vF_70 = some r → G X [wStage t (ad 3) vS, wSeer t ad vE, wStage t (ad 9) vF_70] 70 [(0, .ref (ad 8 0)), (4, .int x4), (7, .int x7_70)] []) : ∀ (n : Nat) (x5 : Int64) (x7 : Int32) (x8 : Int32) (vF : SV), F_X4_runByDraws_L18 N vS vE x2 x4 K70 n x5 x7 x8 vF = some r → G X [wStage t (ad 3) vS, wSeer t ad vE, wStage t (ad 9) vF] 18 [(0, .ref (ad 8 0)), (2, .int x2), (4, .int x4), (5, .long x5), (7, .int x7), (8, .int x8)] [] := by
  intro n
  induction n with
  | zero => intro x5 x7 x8 vF h; exact absurd h (by simp [F_X4_runByDraws_L18])
  | succ n ih =>
    intro x5 x7 x8 vF h
    rw [F_X4_runByDraws_L18] at h
    refine G.iload C dX4_runByDraws_18 5 rfl ?_
    refine G.iload_n C dX4_runByDraws_20 1 rfl ?_
    refine G.icmp_ge (tgt := 70) C dX4_runByDraws_21 (by decide) h (fun h => ?_) (fun h => ?_)
    · exact G.lvs [0, 2, 4] rfl (hK70 _ _ h)
    · refine G.lload C dX4_runByDraws_24 3 rfl ?_
      refine G.ldc2 C k_974 dX4_runByDraws_26 ?_
      refine G.lmul C dX4_runByDraws_29 ?_
      refine G.ldc2 C k_975 dX4_runByDraws_30 ?_
      refine G.lremc C dX4_runByDraws_33 (by decide) ?_
      refine G.lstore (lv' := [(5, .long ((x5 * (16807 : Int64)) - (x5 * (16807 : Int64)) / (2147483647 : Int64) * (2147483647 : Int64))), (0, .ref (ad 8 0)), (2, .int x2), (4, .int x4), (7, .int x7), (8, .int x8)]) C dX4_runByDraws_34 (by decide) rfl ?_
      refine G.aload_n C dX4_runByDraws_36 1 rfl ?_
      refine G.lload C dX4_runByDraws_37 0 rfl ?_
      obtain ⟨q39, hq39, h⟩ := bind_some' h
      refine G.cvV (i0 := 1) (j0 := 0) (cs' := [wStage t (ad 3) vS, wSeer t ad vE, wStage t (ad 9) q39]) C (c_X4_arrangeByDraw (ad := ad) hq39) [1, 2] rfl rfl rfl rfl rfl rfl rfl k_976 cal_X4_arrangeByDraw (fit_rm (by decide) (by decide)) rfl (Nat.le_of_ble_eq_true rfl) dX4_runByDraws_39 ?_
      refine G.aload_n C dX4_runByDraws_42 1 rfl ?_
      refine gfX4_10 (i := 1) (j := 0) (v := .ref (ad 9 0)) C rfl rfl rfl dX4_runByDraws_43 ?_
      obtain ⟨q46, hq46, h⟩ := bind_some' h
      refine G.cvV (i0 := 2) (j0 := 0) (cs' := [wStage t (ad 3) vS, wSeer t ad vE, wStage t (ad 9) q46]) C (c_X5_tapOnce (a := (ad 9)) hq46) [2] rfl rfl rfl rfl rfl rfl rfl k_750 cal_X5_tapOnce (fit_rm (by decide) (by decide)) rfl (Nat.le_of_ble_eq_true rfl) dX4_runByDraws_46 ?_
      refine G.iload C dX4_runByDraws_49 4 rfl ?_
      refine G.aload_n C dX4_runByDraws_51 1 rfl ?_
      refine gfX4_10 (i := 1) (j := 0) (v := .ref (ad 9 0)) C rfl rfl rfl dX4_runByDraws_52 ?_
      refine gfX4_31 (i := 2) (j := 0) (v := .int (q46 0 8)) C rfl rfl rfl dX4_runByDraws_55 ?_
      obtain ⟨q58, hq58, h⟩ := bind_some' h
      refine G.csI (cs' := [wStage t (ad 3) vS, wSeer t ad vE, wStage t (ad 9) q46]) C (c_J6_bitCount_0f7a4 hq58) [] rfl rfl rfl rfl k_953 cal_J6_bitCount_0f7a4 (fit_rm (by decide) (by decide)) rfl (Nat.le_of_ble_eq_true rfl) dX4_runByDraws_58 ?_
      refine G.iadd C dX4_runByDraws_61 ?_
      refine G.istore (lv' := [(7, .int (x7 + q58)), (5, .long ((x5 * (16807 : Int64)) - (x5 * (16807 : Int64)) / (2147483647 : Int64) * (2147483647 : Int64))), (0, .ref (ad 8 0)), (2, .int x2), (4, .int x4), (8, .int x8)]) C dX4_runByDraws_62 (by decide) rfl ?_
      refine G.iinc (v := (x8 + (1 : Int32))) (lv' := [(8, .int (x8 + (1 : Int32))), (7, .int (x7 + q58)), (5, .long ((x5 * (16807 : Int64)) - (x5 * (16807 : Int64)) / (2147483647 : Int64) * (2147483647 : Int64))), (0, .ref (ad 8 0)), (2, .int x2), (4, .int x4)]) C dX4_runByDraws_64 5 rfl (by rw [ni_1]) (by decide) rfl ?_
      refine G.goto (tgt := 18) C dX4_runByDraws_67 (by decide) ?_
      exact G.lvs [3, 4, 5, 2, 1, 0] rfl (ih _ _ _ _ h)
set_option maxHeartbeats 2000000 in
set_option maxRecDepth 20000 in
theorem c_X4_runByDraws {t : Nat → ClassId} {ad : Nat → Nat → Nat} {N : Nat} {vS : SV} {vE : SV} {vF : SV} {x2 : Int32} {x3 : Int32} {x4 : Int32} {r : Int32 × SV} (h : F_X4_runByDraws N vS vE vF x2 x3 x4 = some r) : CI t yX4_runByDraws cX4_runByDraws 9 (some .int) (rm 4) [.ref (ad 8 0), .ref (ad 3 0), .int x2, .int x3, .int x4] [wStage t (ad 3) vS, wSeer t ad vE, wStage t (ad 9) vF] (r.1) [wStage t (ad 3) vS, wSeer t ad vE, wStage t (ad 9) (r.2)] := by
  refine CI.of (own := RX4) (by decide) rfl (Nat.le_of_ble_eq_true rfl) (fun X C hR0 => ?_)
  have hR : ∀ q : Int32 × SV, q = r → RetI X cX4_runByDraws (q.1) [wStage t (ad 3) vS, wSeer t ad vE, wStage t (ad 9) (q.2)] := by intro q e; subst e; exact hR0
  show G X [wStage t (ad 3) vS, wSeer t ad vE, wStage t (ad 9) vF] 0 [(0, .ref (ad 8 0)), (1, .ref (ad 3 0)), (2, .int x2), (3, .int x3), (4, .int x4)] []
  unfold F_X4_runByDraws at h
  refine G.aload_n C dX4_runByDraws_0 0 rfl ?_
  refine gfX4_10 (i := 1) (j := 0) (v := .ref (ad 9 0)) C rfl rfl rfl dX4_runByDraws_1 ?_
  refine G.aload_n C dX4_runByDraws_4 1 rfl ?_
  obtain ⟨q5, hq5, h⟩ := bind_some' h
  refine G.cvV (i0 := 2) (j0 := 0) (cs' := [wStage t (ad 3) vS, wSeer t ad vE, wStage t (ad 9) q5]) C (c_X5_takeOver (a := (ad 9)) (b := (ad 3)) hq5) [2, 0] rfl rfl rfl rfl rfl rfl rfl k_749 cal_X5_takeOver (fit_rm (by decide) (by decide)) rfl (Nat.le_of_ble_eq_true rfl) dX4_runByDraws_5 ?_
  refine G.iload_n C dX4_runByDraws_8 3 rfl ?_
  refine G.i2l C dX4_runByDraws_9 ?_
  refine G.lstore (lv' := [(5, .long (x3.toInt64)), (0, .ref (ad 8 0)), (1, .ref (ad 3 0)), (2, .int x2), (3, .int x3), (4, .int x4)]) C dX4_runByDraws_10 (by decide) rfl ?_
  refine G.iconst C dX4_runByDraws_12 ni_0 ?_
  refine G.istore (lv' := [(7, .int (0 : Int32)), (5, .long (x3.toInt64)), (0, .ref (ad 8 0)), (1, .ref (ad 3 0)), (2, .int x2), (3, .int x3), (4, .int x4)]) C dX4_runByDraws_13 (by decide) rfl ?_
  refine G.iconst C dX4_runByDraws_15 ni_0 ?_
  refine G.istore (lv' := [(8, .int (0 : Int32)), (7, .int (0 : Int32)), (5, .long (x3.toInt64)), (0, .ref (ad 8 0)), (1, .ref (ad 3 0)), (2, .int x2), (3, .int x3), (4, .int x4)]) C dX4_runByDraws_16 (by decide) rfl ?_
  refine G.lvs [3, 5, 7, 2, 1, 0] rfl (w_X4_runByDraws_L18 C hR (fun x7_70 vF_70 h => ?_) N _ _ _ _ h)
  · refine G.iload C dX4_runByDraws_70 1 rfl ?_
    refine G.if_ne (tgt := 85) C dX4_runByDraws_72 (by decide) h (fun h => ?_) (fun h => ?_)
    · refine G.iload C dX4_runByDraws_85 2 rfl ?_
      exact hR _ (Option.some.inj h) _ _ dX4_runByDraws_87
    · refine G.aload_n C dX4_runByDraws_75 0 rfl ?_
      refine gfX4_10 (i := 1) (j := 0) (v := .ref (ad 9 0)) C rfl rfl rfl dX4_runByDraws_76 ?_
      refine gfX4_62 (i := 2) (j := 0) (v := .int (vF_70 0 6)) C rfl rfl rfl dX4_runByDraws_79 ?_
      refine G.goto (tgt := 87) C dX4_runByDraws_82 (by decide) ?_
      exact hR _ (Option.some.inj h) _ _ dX4_runByDraws_87
