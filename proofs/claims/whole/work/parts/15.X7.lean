def F_X7_found (N : Nat) (vR : SV) (x1 : Int32) : Option (Int32 × SV) := some (((-1000010 : Int32) - x1), (up2 vR 0 10 x1))
def F_X7_foundNothing (N : Nat) (vR : SV) (x1 : Int32) : Option (Int32 × SV) := some (x1, (up2 vR 0 10 (0 : Int32)))
def F_X7_drop (N : Nat) (vR : SV) (vW : SV) (x1 : Int32) : Option (Int32 × SV × SV) := (F_X3_isRow N x1).bind (fun q1 => if q1 = (0 : Int32) then (some ((-1000001 : Int32), vR, vW)) else ((F_X3_isMissing N vW x1).bind (fun q15 => if q15 = (0 : Int32) then ((F_X3_lose N vW x1).bind (fun q33 => (F_X7_foundNothing N vR (q33.1)).bind (fun q36 => some ((q36.1), (q36.2), (q33.2))))) else ((F_X7_found N vR (1 : Int32)).bind (fun q23 => some ((q23.1), (q23.2), vW))))))
def F_X7_feed (N : Nat) (vR : SV) (vT : SV) (x1 : Int32) : Option (Int32 × SV) := if x1 < (0 : Int32) then (some ((-1000001 : Int32), vT)) else (if (255 : Int32) < x1 then (some ((-1000001 : Int32), vT)) else ((F_X6_isFull N vT).bind (fun q18 => if q18 = (0 : Int32) then ((F_X6_append N vT x1).bind (fun q32 => some ((q32.1), (q32.2)))) else (some ((-1000003 : Int32), vT)))))
def F_X7_fault (N : Nat) (vR : SV) (vT : SV) : Option (Int32) := (F_X6_latestFault N vT).bind (fun q4 => some q4)
def F_X7_noShow (N : Nat) (vR : SV) (vS : SV) : Option (Int32) := if (vS 0 2) = (0 : Int32) then (some (1 : Int32)) else (some (0 : Int32))
def F_X7_orNone (N : Nat) (x0 : Int32) : Option (Int32) := if x0 < (0 : Int32) then (some (-1000000 : Int32)) else (some x0)
def F_X7_thing (N : Nat) (vR : SV) (vS : SV) (x1 : Int32) (x2 : Int32) : Option (Int32) := (F_X5_isThing N vS x1).bind (fun q5 => if q5 = (0 : Int32) then (some (-1000001 : Int32)) else (if x2 = 0 then (chk 6 x1 (some ((vS 2) (x1.toNatClampNeg)))) else (if x2 = 1 then (chk 6 x1 (some ((vS 3) (x1.toNatClampNeg)))) else (if x2 = 2 then (chk 6 x1 (some ((vS 4) (x1.toNatClampNeg)))) else (if x2 = 3 then ((F_X5_placeOf N vS x1).bind (fun q83 => (F_X7_orNone N q83).bind (fun q86 => some q86))) else (if x2 = 4 then (chk 6 x1 ((F_X5_wanting N vS ((vS 2) (x1.toNatClampNeg))).bind (fun q103 => some q103))) else (some (-1000001 : Int32))))))))
def F_X7_seat (N : Nat) (vR : SV) (vS : SV) (x1 : Int32) (x2 : Int32) : Option (Int32) := (F_X5_isSeat N vS x1).bind (fun q5 => if q5 = (0 : Int32) then (some (-1000001 : Int32)) else (if x2 = 0 then (chk 6 x1 (some ((vS 5) (x1.toNatClampNeg)))) else (if x2 = 1 then (chk 6 x1 (some ((vS 6) (x1.toNatClampNeg)))) else (if x2 = 2 then (chk 6 x1 (some ((vS 7) (x1.toNatClampNeg)))) else (some (-1000001 : Int32))))))
def F_X7_list (N : Nat) (vR : SV) (vS : SV) (x1 : Int32) : Option (Int32) := (F_X7_noShow N vR vS).bind (fun q1 => if q1 = (0 : Int32) then (if x1 < (0 : Int32) then (some (-1000001 : Int32)) else (if x1 < (vS 0 4) then (chk 6 x1 (some ((vS 8) (x1.toNatClampNeg)))) else (some (-1000000 : Int32)))) else (some (-1000002 : Int32)))
def F_X7_stand (N : Nat) (vR : SV) (vS : SV) (x1 : Int32) : Option (Int32) := (F_X7_noShow N vR vS).bind (fun q1 => if q1 = (0 : Int32) then (if x1 < (0 : Int32) then (some (-1000001 : Int32)) else (if (3 : Int32) < x1 then (some (-1000001 : Int32)) else ((F_X5_standing N vS x1).bind (fun q29 => some q29)))) else (some (-1000002 : Int32)))
def F_X7_next (N : Nat) (vR : SV) (vS : SV) (vE : SV) (vF : SV) (x1 : Int32) : Option (Int32 × SV) := (F_X7_noShow N vR vS).bind (fun q1 => if q1 = (0 : Int32) then (if x1 < (0 : Int32) then (some ((-1000001 : Int32), vF)) else (if (2 : Int32) < x1 then (some ((-1000001 : Int32), vF)) else ((F_X4_nextOne N vS vE vF x1).bind (fun q33 => some ((q33.1), (q33.2)))))) else (some ((-1000002 : Int32), vF)))
def F_X7_ahead (N : Nat) (vR : SV) (vS : SV) (vE : SV) (vF : SV) (x1 : Int32) (x2 : Int32) : Option (Int32 × SV) := (F_X7_noShow N vR vS).bind (fun q1 => if q1 = (0 : Int32) then (if x1 < (0 : Int32) then (some ((-1000001 : Int32), vF)) else (if (60 : Int32) < x1 then (some ((-1000001 : Int32), vF)) else (if x2 < (0 : Int32) then (some ((-1000001 : Int32), vF)) else (if (3 : Int32) < x2 then (some ((-1000001 : Int32), vF)) else ((F_X4_standingBehind N vS vE vF x1 x2).bind (fun q42 => some ((q42.1), (q42.2)))))))) else (some ((-1000002 : Int32), vF)))
def F_X7_when (N : Nat) (vR : SV) (vS : SV) (vE : SV) (vF : SV) (x1 : Int32) (x2 : Int32) : Option (Int32 × SV) := (F_X5_isSeat N vS x1).bind (fun q5 => if q5 = (0 : Int32) then (some ((-1000001 : Int32), vF)) else (if x2 < (1 : Int32) then (some ((-1000001 : Int32), vF)) else (if (2 : Int32) < x2 then (some ((-1000001 : Int32), vF)) else ((F_X4_tapsUntil N vS vE vF x1 x2).bind (fun q34 => (F_X7_orNone N (q34.1)).bind (fun q37 => some (q37, (q34.2))))))))
def F_X7_comes (N : Nat) (vR : SV) (vS : SV) (vE : SV) (vF : SV) (x1 : Int32) : Option (Int32 × SV) := (F_X5_isThing N vS x1).bind (fun q5 => if q5 = (0 : Int32) then (some ((-1000001 : Int32), vF)) else ((F_X4_tapOf N vS vE vF x1).bind (fun q23 => (F_X7_orNone N (q23.1)).bind (fun q26 => some (q26, (q23.2))))))
def F_X7_match (N : Nat) (vR : SV) (vS : SV) : Option (Int32) := (F_X7_noShow N vR vS).bind (fun q1 => if q1 = (0 : Int32) then ((F_X5_couldBePleased N vS).bind (fun q16 => some q16)) else (some (-1000002 : Int32)))
def F_X7_clear (N : Nat) (vR : SV) (vS : SV) (vP : SV) (vQ : SV) (x1 : Int32) (x2 : Int32) (x3 : Int32) : Option (Int32 × SV) := (F_X5_isSeat N vS x1).bind (fun q5 => if q5 = (0 : Int32) then (some ((-1000001 : Int32), vQ)) else (if x2 < (1 : Int32) then (some ((-1000001 : Int32), vQ)) else (if (30 : Int32) < x2 then (some ((-1000001 : Int32), vQ)) else (if x3 < (0 : Int32) then (some ((-1000001 : Int32), vQ)) else (if (1 : Int32) < x3 then (some ((-1000001 : Int32), vQ)) else ((F_X2_fewestOff N vS vP vQ x1 x2).bind (fun q44 => if (q44.1) < (0 : Int32) then (some ((-1000000 : Int32), (q44.2))) else (if x3 = (0 : Int32) then ((F_J6_bitCount_0f7a4 N (q44.1)).bind (fun q63 => some (q63, (q44.2)))) else (some ((q44.1), (q44.2)))))))))))
def F_X7_bring (N : Nat) (vR : SV) (vS : SV) (vP : SV) (vQ : SV) (x1 : Int32) (x2 : Int32) : Option (Int32 × SV) := (F_X7_noShow N vR vS).bind (fun q1 => if q1 = (0 : Int32) then (if x1 < (1 : Int32) then (some ((-1000001 : Int32), vQ)) else (if (30 : Int32) < x1 then (some ((-1000001 : Int32), vQ)) else (if x2 < (0 : Int32) then (some ((-1000001 : Int32), vQ)) else (if (1 : Int32) < x2 then (some ((-1000001 : Int32), vQ)) else ((F_X2_bestFirst N vS vP vQ x1).bind (fun q42 => if x2 = (0 : Int32) then (some ((q42.1), (q42.2))) else ((F_X2_clappedIfFirst N vS vP (q42.2) (q42.1) x1).bind (fun q64 => some ((q64.1), (q64.2)))))))))) else (some ((-1000002 : Int32), vQ)))
def F_X7_lack (N : Nat) (vR : SV) (vS : SV) : Option (Int32) := (F_X7_noShow N vR vS).bind (fun q1 => if q1 = (0 : Int32) then ((F_X5_lackedLabels N vS).bind (fun q16 => some q16)) else (some (-1000002 : Int32)))
def F_X7_canTell (N : Nat) (x0 : Int32) (x1 : Int32) : Option (Int32) := (F_X3_isRow N x0).bind (fun q1 => if q1 = (0 : Int32) then (some (0 : Int32)) else (if x1 < (1 : Int32) then (some (0 : Int32)) else (if (12 : Int32) < x1 then (some (0 : Int32)) else (some (1 : Int32)))))
def F_X7_wander (N : Nat) (vR : SV) (vS : SV) (vE : SV) (vF : SV) (x1 : Int32) (x2 : Int32) (x3 : Int32) (x4 : Int32) : Option (Int64 × SV) := (F_X7_noShow N vR vS).bind (fun q1 => if q1 = (0 : Int32) then (if x1 < (0 : Int32) then (some ((-1000001 : Int64), vF)) else (if (999 : Int32) < x1 then (some ((-1000001 : Int64), vF)) else (if x2 < (0 : Int32) then (some ((-1000001 : Int64), vF)) else (if (30 : Int32) < x2 then (some ((-1000001 : Int64), vF)) else (if x3 < (0 : Int32) then (some ((-1000001 : Int64), vF)) else (if (10 : Int32) < x3 then (some ((-1000001 : Int64), vF)) else (if x4 < (0 : Int32) then (some ((-1000001 : Int64), vF)) else (if (1 : Int32) < x4 then (some ((-1000001 : Int64), vF)) else ((F_X4_likelyCases N vS vE vF x1 x2 x3).bind (fun q72 => (F_X5_seatsThat N vS (0 : Int32)).bind (fun q84 => (F_J6_bitCount_0f7a4 N q84).bind (fun q87 => (F_X4_power N (10 : Int32) q87).bind (fun q90 => (F_X4_commonDivisor N (q72.1) q90).bind (fun q99 => jn (fun (s116_0 : Int64) => if (0 : Int32) < (lg_cmp q99 (0 : Int64)) then (nzl q99 (some ((s116_0 / q99), (q72.2)))) else (some (s116_0, (q72.2)))) (fun J116 => if x4 = (0 : Int32) then (J116 (q72.1)) else (J116 q90)))))))))))))))) else (some ((-1000002 : Int64), vF)))
def F_X7_drawn (N : Nat) (vR : SV) (vS : SV) (vE : SV) (vF : SV) (x1 : Int32) (x2 : Int32) (x3 : Int32) : Option (Int32 × SV) := (F_X7_noShow N vR vS).bind (fun q1 => if q1 = (0 : Int32) then (if x1 < (0 : Int32) then (some ((-1000001 : Int32), vF)) else (if (60 : Int32) < x1 then (some ((-1000001 : Int32), vF)) else (if x2 < (1 : Int32) then (some ((-1000001 : Int32), vF)) else (if (999999 : Int32) < x2 then (some ((-1000001 : Int32), vF)) else (if x3 < (0 : Int32) then (some ((-1000001 : Int32), vF)) else (if (1 : Int32) < x3 then (some ((-1000001 : Int32), vF)) else ((F_X4_runByDraws N vS vE vF x1 x2 x3).bind (fun q55 => some ((q55.1), (q55.2)))))))))) else (some ((-1000002 : Int32), vF)))
def F_X7_kind (N : Nat) (vR : SV) (vS : SV) (x1 : Int32) : Option (Int32) := (F_X5_isThing N vS x1).bind (fun q5 => if q5 = (0 : Int32) then (some (-1000001 : Int32)) else (chk 6 x1 (some ((vS 1) (x1.toNatClampNeg)))))
def F_X7_trace (N : Nat) (vR : SV) (vK : SV) (x1 : Int32) : Option (Int32) := (F_X1_traced N vK x1).bind (fun q5 => (F_X7_orNone N q5).bind (fun q8 => some q8))
def F_X7_count (N : Nat) (vR : SV) (vW : SV) (vT : SV) (vS : SV) (vA : SV) (x1 : Int32) : Option (Int32) := if x1 = 0 then ((F_X3_present N vW).bind (fun q52 => some q52)) else (if x1 = 1 then (some (vS 0 2)) else (if x1 = 2 then (some (vS 0 3)) else (if x1 = 3 then (some (vS 0 5)) else (if x1 = 4 then (some (vS 0 4)) else (if x1 = 5 then (some (vS 0 6)) else (if x1 = 6 then ((F_X0_kept N vA).bind (fun q100 => some q100)) else (if x1 = 7 then ((F_X6_length N vT).bind (fun q108 => some q108)) else (some (-1000001 : Int32)))))))))
def F_X7_status (N : Nat) (vR : SV) : Option (Int32) := some (vR 0 10)
set_option maxHeartbeats 2000000 in
set_option maxRecDepth 20000 in
theorem c_X7_found {t : Nat → ClassId} {ad : Nat → Nat → Nat} {N : Nat} {vR : SV} {x1 : Int32} {r : Int32 × SV} (h : F_X7_found N vR x1 = some r) : CI t yX7_found cX7_found 2 (some .int) (rm 1) [.ref (ad 0 0), .int x1] [wRL t ad vR] (r.1) [wRL t ad (r.2)] := by
  refine CI.of (own := RX7) (by decide) rfl (Nat.le_of_ble_eq_true rfl) (fun X C hR0 => ?_)
  have hR : ∀ q : Int32 × SV, q = r → RetI X cX7_found (q.1) [wRL t ad (q.2)] := by intro q e; subst e; exact hR0
  show G X [wRL t ad vR] 0 [(0, .ref (ad 0 0)), (1, .int x1)] []
  unfold F_X7_found at h
  refine G.aload_n C dX7_found_0 0 rfl ?_
  refine G.iload_n C dX7_found_1 1 rfl ?_
  refine pfX7_67 (i := 0) (j := 0) (cs' := [wRL t ad (up2 vR 0 10 x1)]) C rfl rfl (Nat.le_of_ble_eq_true rfl) dX7_found_2 (suRL_10) rfl ?_
  refine G.ldcw C k_374 dX7_found_5 ?_
  refine G.iload_n C dX7_found_8 1 rfl ?_
  refine G.isub C dX7_found_9 ?_
  exact hR _ (Option.some.inj h) _ _ dX7_found_10
set_option maxHeartbeats 2000000 in
set_option maxRecDepth 20000 in
theorem c_X7_foundNothing {t : Nat → ClassId} {ad : Nat → Nat → Nat} {N : Nat} {vR : SV} {x1 : Int32} {r : Int32 × SV} (h : F_X7_foundNothing N vR x1 = some r) : CI t yX7_foundNothing cX7_foundNothing 2 (some .int) (rm 1) [.ref (ad 0 0), .int x1] [wRL t ad vR] (r.1) [wRL t ad (r.2)] := by
  refine CI.of (own := RX7) (by decide) rfl (Nat.le_of_ble_eq_true rfl) (fun X C hR0 => ?_)
  have hR : ∀ q : Int32 × SV, q = r → RetI X cX7_foundNothing (q.1) [wRL t ad (q.2)] := by intro q e; subst e; exact hR0
  show G X [wRL t ad vR] 0 [(0, .ref (ad 0 0)), (1, .int x1)] []
  unfold F_X7_foundNothing at h
  refine G.aload_n C dX7_foundNothing_0 0 rfl ?_
  refine G.iconst C dX7_foundNothing_1 ni_0 ?_
  refine pfX7_67 (i := 0) (j := 0) (cs' := [wRL t ad (up2 vR 0 10 (0 : Int32))]) C rfl rfl (Nat.le_of_ble_eq_true rfl) dX7_foundNothing_2 (suRL_10) rfl ?_
  refine G.iload_n C dX7_foundNothing_5 1 rfl ?_
  exact hR _ (Option.some.inj h) _ _ dX7_foundNothing_6
set_option maxHeartbeats 2000000 in
set_option maxRecDepth 20000 in
theorem c_X7_drop {t : Nat → ClassId} {ad : Nat → Nat → Nat} {N : Nat} {vR : SV} {vW : SV} {x1 : Int32} {r : Int32 × SV × SV} (h : F_X7_drop N vR vW x1 = some r) : CI t yX7_drop cX7_drop 2 (some .int) (rm 2) [.ref (ad 0 0), .int x1] [wRL t ad vR, wRows t ad vW] (r.1) [wRL t ad (r.2.1), wRows t ad (r.2.2)] := by
  refine CI.of (own := RX7) (by decide) rfl (Nat.le_of_ble_eq_true rfl) (fun X C hR0 => ?_)
  have hR : ∀ q : Int32 × SV × SV, q = r → RetI X cX7_drop (q.1) [wRL t ad (q.2.1), wRows t ad (q.2.2)] := by intro q e; subst e; exact hR0
  show G X [wRL t ad vR, wRows t ad vW] 0 [(0, .ref (ad 0 0)), (1, .int x1)] []
  unfold F_X7_drop at h
  refine G.iload_n C dX7_drop_0 1 rfl ?_
  obtain ⟨q1, hq1, h⟩ := bind_some' h
  refine G.csI (cs' := [wRL t ad vR, wRows t ad vW]) C (c_X3_isRow hq1) [] rfl rfl rfl rfl k_363 cal_X3_isRow (fit_rm (by decide) (by decide)) rfl (Nat.le_of_ble_eq_true rfl) dX7_drop_1 ?_
  refine G.if_ne (tgt := 10) C dX7_drop_4 (by decide) h (fun h => ?_) (fun h => ?_)
  · refine G.aload_n C dX7_drop_10 0 rfl ?_
    refine gfX7_10 (i := 0) (j := 0) (v := .ref (ad 1 0)) C rfl rfl rfl dX7_drop_11 ?_
    refine G.iload_n C dX7_drop_14 1 rfl ?_
    obtain ⟨q15, hq15, h⟩ := bind_some' h
    refine G.cvI (i0 := 1) (j0 := 0) (cs' := [wRL t ad vR, wRows t ad vW]) C (c_X3_isMissing (ad := ad) hq15) [1] rfl rfl rfl rfl rfl rfl rfl k_422 cal_X3_isMissing (fit_rm (by decide) (by decide)) rfl (Nat.le_of_ble_eq_true rfl) dX7_drop_15 ?_
    refine G.if_eq (tgt := 27) C dX7_drop_18 (by decide) h (fun h => ?_) (fun h => ?_)
    · refine G.aload_n C dX7_drop_27 0 rfl ?_
      refine G.aload_n C dX7_drop_28 0 rfl ?_
      refine gfX7_10 (i := 0) (j := 0) (v := .ref (ad 1 0)) C rfl rfl rfl dX7_drop_29 ?_
      refine G.iload_n C dX7_drop_32 1 rfl ?_
      obtain ⟨q33, hq33, h⟩ := bind_some' h
      refine G.cvI (i0 := 1) (j0 := 0) (cs' := [wRL t ad vR, wRows t ad (q33.2)]) C (c_X3_lose (ad := ad) hq33) [1] rfl rfl rfl rfl rfl rfl rfl k_423 cal_X3_lose (fit_rm (by decide) (by decide)) rfl (Nat.le_of_ble_eq_true rfl) dX7_drop_33 ?_
      obtain ⟨q36, hq36, h⟩ := bind_some' h
      refine G.cvI (i0 := 0) (j0 := 0) (cs' := [wRL t ad (q36.2), wRows t ad (q33.2)]) C (c_X7_foundNothing (ad := ad) hq36) [0] rfl rfl rfl rfl rfl rfl rfl k_379 cal_X7_foundNothing (fit_rm (by decide) (by decide)) rfl (Nat.le_of_ble_eq_true rfl) dX7_drop_36 ?_
      exact hR _ (Option.some.inj h) _ _ dX7_drop_39
    · refine G.aload_n C dX7_drop_21 0 rfl ?_
      refine G.iconst C dX7_drop_22 ni_1 ?_
      obtain ⟨q23, hq23, h⟩ := bind_some' h
      refine G.cvI (i0 := 0) (j0 := 0) (cs' := [wRL t ad (q23.2), wRows t ad vW]) C (c_X7_found (ad := ad) hq23) [0] rfl rfl rfl rfl rfl rfl rfl k_370 cal_X7_found (fit_rm (by decide) (by decide)) rfl (Nat.le_of_ble_eq_true rfl) dX7_drop_23 ?_
      exact hR _ (Option.some.inj h) _ _ dX7_drop_26
  · refine G.ldc C k_369 dX7_drop_7 ?_
    exact hR _ (Option.some.inj h) _ _ dX7_drop_9
set_option maxHeartbeats 2000000 in
set_option maxRecDepth 20000 in
theorem c_X7_feed {t : Nat → ClassId} {ad : Nat → Nat → Nat} {N : Nat} {vR : SV} {vT : SV} {x1 : Int32} {r : Int32 × SV} (h : F_X7_feed N vR vT x1 = some r) : CI t yX7_feed cX7_feed 2 (some .int) (rm 2) [.ref (ad 0 0), .int x1] [wRL t ad vR, wTape t ad vT] (r.1) [wRL t ad vR, wTape t ad (r.2)] := by
  refine CI.of (own := RX7) (by decide) rfl (Nat.le_of_ble_eq_true rfl) (fun X C hR0 => ?_)
  have hR : ∀ q : Int32 × SV, q = r → RetI X cX7_feed (q.1) [wRL t ad vR, wTape t ad (q.2)] := by intro q e; subst e; exact hR0
  show G X [wRL t ad vR, wTape t ad vT] 0 [(0, .ref (ad 0 0)), (1, .int x1)] []
  unfold F_X7_feed at h
  refine G.iload_n C dX7_feed_0 1 rfl ?_
  refine G.if_lt (tgt := 11) C dX7_feed_1 (by decide) h (fun h => ?_) (fun h => ?_)
  · refine G.ldc C k_369 dX7_feed_11 ?_
    exact hR _ (Option.some.inj h) _ _ dX7_feed_13
  · refine G.iload_n C dX7_feed_4 1 rfl ?_
    refine G.sipush C dX7_feed_5 ns_255 ?_
    refine G.icmp_le (tgt := 14) C dX7_feed_8 (by decide) h (fun h => ?_) (fun h => ?_)
    · refine G.aload_n C dX7_feed_14 0 rfl ?_
      refine gfX7_19 (i := 0) (j := 0) (v := .ref (ad 2 0)) C rfl rfl rfl dX7_feed_15 ?_
      obtain ⟨q18, hq18, h⟩ := bind_some' h
      refine G.cvI (i0 := 1) (j0 := 0) (cs' := [wRL t ad vR, wTape t ad vT]) C (c_X6_isFull (ad := ad) hq18) [1] rfl rfl rfl rfl rfl rfl rfl k_431 cal_X6_isFull (fit_rm (by decide) (by decide)) rfl (Nat.le_of_ble_eq_true rfl) dX7_feed_18 ?_
      refine G.if_eq (tgt := 27) C dX7_feed_21 (by decide) h (fun h => ?_) (fun h => ?_)
      · refine G.aload_n C dX7_feed_27 0 rfl ?_
        refine gfX7_19 (i := 0) (j := 0) (v := .ref (ad 2 0)) C rfl rfl rfl dX7_feed_28 ?_
        refine G.iload_n C dX7_feed_31 1 rfl ?_
        obtain ⟨q32, hq32, h⟩ := bind_some' h
        refine G.cvI (i0 := 1) (j0 := 0) (cs' := [wRL t ad vR, wTape t ad (q32.2)]) C (c_X6_append (ad := ad) hq32) [1] rfl rfl rfl rfl rfl rfl rfl k_436 cal_X6_append (fit_rm (by decide) (by decide)) rfl (Nat.le_of_ble_eq_true rfl) dX7_feed_32 ?_
        exact hR _ (Option.some.inj h) _ _ dX7_feed_35
      · refine G.ldc C k_435 dX7_feed_24 ?_
        exact hR _ (Option.some.inj h) _ _ dX7_feed_26
    · refine G.ldc C k_369 dX7_feed_11 ?_
      exact hR _ (Option.some.inj h) _ _ dX7_feed_13
set_option maxHeartbeats 2000000 in
set_option maxRecDepth 20000 in
theorem c_X7_fault {t : Nat → ClassId} {ad : Nat → Nat → Nat} {N : Nat} {vR : SV} {vT : SV} {r : Int32} (h : F_X7_fault N vR vT = some r) : CI t yX7_fault cX7_fault 1 (some .int) (rm 2) [.ref (ad 0 0)] [wRL t ad vR, wTape t ad vT] r [wRL t ad vR, wTape t ad vT] := by
  refine CI.of (own := RX7) (by decide) rfl (Nat.le_of_ble_eq_true rfl) (fun X C hR0 => ?_)
  have hR : ∀ q : Int32, q = r → RetI X cX7_fault q [wRL t ad vR, wTape t ad vT] := by intro q e; subst e; exact hR0
  show G X [wRL t ad vR, wTape t ad vT] 0 [(0, .ref (ad 0 0))] []
  unfold F_X7_fault at h
  refine G.aload_n C dX7_fault_0 0 rfl ?_
  refine gfX7_19 (i := 0) (j := 0) (v := .ref (ad 2 0)) C rfl rfl rfl dX7_fault_1 ?_
  obtain ⟨q4, hq4, h⟩ := bind_some' h
  refine G.cvI (i0 := 1) (j0 := 0) (cs' := [wRL t ad vR, wTape t ad vT]) C (c_X6_latestFault (ad := ad) hq4) [1] rfl rfl rfl rfl rfl rfl rfl k_610 cal_X6_latestFault (fit_rm (by decide) (by decide)) rfl (Nat.le_of_ble_eq_true rfl) dX7_fault_4 ?_
  exact hR _ (Option.some.inj h) _ _ dX7_fault_7
set_option maxHeartbeats 2000000 in
set_option maxRecDepth 20000 in
theorem c_X7_noShow {t : Nat → ClassId} {ad : Nat → Nat → Nat} {N : Nat} {vR : SV} {vS : SV} {r : Int32} (h : F_X7_noShow N vR vS = some r) : CI t yX7_noShow cX7_noShow 1 (some .boolean) (rm 1) [.ref (ad 0 0)] [wRL t ad vR, wStage t (ad 3) vS] r [wRL t ad vR, wStage t (ad 3) vS] := by
  refine CZ.of (own := RX7) (by decide) rfl (Nat.le_of_ble_eq_true rfl) (fun X C hR0 => ?_)
  have hR : ∀ q : Int32, q = r → RetZ X cX7_noShow q [wRL t ad vR, wStage t (ad 3) vS] := by intro q e; subst e; exact hR0
  show G X [wRL t ad vR, wStage t (ad 3) vS] 0 [(0, .ref (ad 0 0))] []
  unfold F_X7_noShow at h
  refine G.aload_n C dX7_noShow_0 0 rfl ?_
  refine gfX7_26 (i := 0) (j := 0) (v := .ref (ad 3 0)) C rfl rfl rfl dX7_noShow_1 ?_
  refine gfX7_138 (i := 1) (j := 0) (v := .int (vS 0 2)) C rfl rfl rfl dX7_noShow_4 ?_
  refine G.if_ne (tgt := 14) C dX7_noShow_7 (by decide) h (fun h => ?_) (fun h => ?_)
  · refine G.iconst C dX7_noShow_14 ni_0 ?_
    exact hR _ (Option.some.inj h) (Or.inl rfl) _ _ dX7_noShow_15
  · refine G.iconst C dX7_noShow_10 ni_1 ?_
    refine G.goto (tgt := 15) C dX7_noShow_11 (by decide) ?_
    exact hR _ (Option.some.inj h) (Or.inr rfl) _ _ dX7_noShow_15
set_option maxHeartbeats 2000000 in
set_option maxRecDepth 20000 in
theorem c_X7_orNone {t : Nat → ClassId} {N : Nat} {x0 : Int32} {r : Int32} (h : F_X7_orNone N x0 = some r) : CI t yX7_orNone cX7_orNone 1 (some .int) (rm 1) [.int x0] [] r [] := by
  refine CI.of (own := RX7) (by decide) rfl (Nat.le_of_ble_eq_true rfl) (fun X C hR0 => ?_)
  have hR : ∀ q : Int32, q = r → RetI X cX7_orNone q [] := by intro q e; subst e; exact hR0
  show G X [] 0 [(0, .int x0)] []
  unfold F_X7_orNone at h
  refine G.iload_n C dX7_orNone_0 0 rfl ?_
  refine G.if_ge (tgt := 9) C dX7_orNone_1 (by decide) h (fun h => ?_) (fun h => ?_)
  · refine G.iload_n C dX7_orNone_9 0 rfl ?_
    exact hR _ (Option.some.inj h) _ _ dX7_orNone_10
  · refine G.ldc C k_723 dX7_orNone_4 ?_
    refine G.goto (tgt := 10) C dX7_orNone_6 (by decide) ?_
    exact hR _ (Option.some.inj h) _ _ dX7_orNone_10
set_option maxHeartbeats 2000000 in
set_option maxRecDepth 20000 in
theorem c_X7_thing {t : Nat → ClassId} {ad : Nat → Nat → Nat} {N : Nat} {vR : SV} {vS : SV} {x1 : Int32} {x2 : Int32} {r : Int32} (h : F_X7_thing N vR vS x1 x2 = some r) : CI t yX7_thing cX7_thing 3 (some .int) (rm 2) [.ref (ad 0 0), .int x1, .int x2] [wRL t ad vR, wStage t (ad 3) vS] r [wRL t ad vR, wStage t (ad 3) vS] := by
  refine CI.of (own := RX7) (by decide) rfl (Nat.le_of_ble_eq_true rfl) (fun X C hR0 => ?_)
  have hR : ∀ q : Int32, q = r → RetI X cX7_thing q [wRL t ad vR, wStage t (ad 3) vS] := by intro q e; subst e; exact hR0
  show G X [wRL t ad vR, wStage t (ad 3) vS] 0 [(0, .ref (ad 0 0)), (1, .int x1), (2, .int x2)] []
  unfold F_X7_thing at h
  refine G.aload_n C dX7_thing_0 0 rfl ?_
  refine gfX7_26 (i := 0) (j := 0) (v := .ref (ad 3 0)) C rfl rfl rfl dX7_thing_1 ?_
  refine G.iload_n C dX7_thing_4 1 rfl ?_
  obtain ⟨q5, hq5, h⟩ := bind_some' h
  refine G.cvI (i0 := 1) (j0 := 0) (cs' := [wRL t ad vR, wStage t (ad 3) vS]) C (c_X5_isThing (a := (ad 3)) hq5) [1] rfl rfl rfl rfl rfl rfl rfl k_687 cal_X5_isThing (fit_rm (by decide) (by decide)) rfl (Nat.le_of_ble_eq_true rfl) dX7_thing_5 ?_
  refine G.if_ne (tgt := 14) C dX7_thing_8 (by decide) h (fun h => ?_) (fun h => ?_)
  · refine G.iload_n C dX7_thing_14 2 rfl ?_
    by_cases e_0 : x2 = 0
    · rw [if_pos e_0] at h
      have n_0 : x2.toInt = 0 := by rw [e_0]; decide
      refine G.tableIn (tgt := 48) C dX7_thing_15 (by rw [n_0]; decide) (by rw [n_0]; decide) (by rw [n_0]; rfl) (by decide) ?_
      refine G.aload_n C dX7_thing_48 0 rfl ?_
      refine gfX7_26 (i := 0) (j := 0) (v := .ref (ad 3 0)) C rfl rfl rfl dX7_thing_49 ?_
      refine gfX7_198 (i := 1) (j := 0) (v := .ref (ad 3 2)) C rfl rfl rfl dX7_thing_52 ?_
      refine G.iload_n C dX7_thing_55 1 rfl ?_
      refine G.iald (i := 1) (j := 2) (f := (vS 2)) C rfl rfl h dX7_thing_56 (fun h => ?_)
      exact hR _ (Option.some.inj h) _ _ dX7_thing_57
    rw [if_neg e_0] at h
    by_cases e_1 : x2 = 1
    · rw [if_pos e_1] at h
      have n_1 : x2.toInt = 1 := by rw [e_1]; decide
      refine G.tableIn (tgt := 58) C dX7_thing_15 (by rw [n_1]; decide) (by rw [n_1]; decide) (by rw [n_1]; rfl) (by decide) ?_
      refine G.aload_n C dX7_thing_58 0 rfl ?_
      refine gfX7_26 (i := 0) (j := 0) (v := .ref (ad 3 0)) C rfl rfl rfl dX7_thing_59 ?_
      refine gfX7_201 (i := 1) (j := 0) (v := .ref (ad 3 3)) C rfl rfl rfl dX7_thing_62 ?_
      refine G.iload_n C dX7_thing_65 1 rfl ?_
      refine G.iald (i := 1) (j := 3) (f := (vS 3)) C rfl rfl h dX7_thing_66 (fun h => ?_)
      exact hR _ (Option.some.inj h) _ _ dX7_thing_67
    rw [if_neg e_1] at h
    by_cases e_2 : x2 = 2
    · rw [if_pos e_2] at h
      have n_2 : x2.toInt = 2 := by rw [e_2]; decide
      refine G.tableIn (tgt := 68) C dX7_thing_15 (by rw [n_2]; decide) (by rw [n_2]; decide) (by rw [n_2]; rfl) (by decide) ?_
      refine G.aload_n C dX7_thing_68 0 rfl ?_
      refine gfX7_26 (i := 0) (j := 0) (v := .ref (ad 3 0)) C rfl rfl rfl dX7_thing_69 ?_
      refine gfX7_204 (i := 1) (j := 0) (v := .ref (ad 3 4)) C rfl rfl rfl dX7_thing_72 ?_
      refine G.iload_n C dX7_thing_75 1 rfl ?_
      refine G.iald (i := 1) (j := 4) (f := (vS 4)) C rfl rfl h dX7_thing_76 (fun h => ?_)
      exact hR _ (Option.some.inj h) _ _ dX7_thing_77
    rw [if_neg e_2] at h
    by_cases e_3 : x2 = 3
    · rw [if_pos e_3] at h
      have n_3 : x2.toInt = 3 := by rw [e_3]; decide
      refine G.tableIn (tgt := 78) C dX7_thing_15 (by rw [n_3]; decide) (by rw [n_3]; decide) (by rw [n_3]; rfl) (by decide) ?_
      refine G.aload_n C dX7_thing_78 0 rfl ?_
      refine gfX7_26 (i := 0) (j := 0) (v := .ref (ad 3 0)) C rfl rfl rfl dX7_thing_79 ?_
      refine G.iload_n C dX7_thing_82 1 rfl ?_
      obtain ⟨q83, hq83, h⟩ := bind_some' h
      refine G.cvI (i0 := 1) (j0 := 0) (cs' := [wRL t ad vR, wStage t (ad 3) vS]) C (c_X5_placeOf (a := (ad 3)) hq83) [1] rfl rfl rfl rfl rfl rfl rfl k_688 cal_X5_placeOf (fit_rm (by decide) (by decide)) rfl (Nat.le_of_ble_eq_true rfl) dX7_thing_83 ?_
      obtain ⟨q86, hq86, h⟩ := bind_some' h
      refine G.csI (cs' := [wRL t ad vR, wStage t (ad 3) vS]) C (c_X7_orNone hq86) [] rfl rfl rfl rfl k_720 cal_X7_orNone (fit_rm (by decide) (by decide)) rfl (Nat.le_of_ble_eq_true rfl) dX7_thing_86 ?_
      exact hR _ (Option.some.inj h) _ _ dX7_thing_89
    rw [if_neg e_3] at h
    by_cases e_4 : x2 = 4
    · rw [if_pos e_4] at h
      have n_4 : x2.toInt = 4 := by rw [e_4]; decide
      refine G.tableIn (tgt := 90) C dX7_thing_15 (by rw [n_4]; decide) (by rw [n_4]; decide) (by rw [n_4]; rfl) (by decide) ?_
      refine G.aload_n C dX7_thing_90 0 rfl ?_
      refine gfX7_26 (i := 0) (j := 0) (v := .ref (ad 3 0)) C rfl rfl rfl dX7_thing_91 ?_
      refine G.aload_n C dX7_thing_94 0 rfl ?_
      refine gfX7_26 (i := 0) (j := 0) (v := .ref (ad 3 0)) C rfl rfl rfl dX7_thing_95 ?_
      refine gfX7_198 (i := 1) (j := 0) (v := .ref (ad 3 2)) C rfl rfl rfl dX7_thing_98 ?_
      refine G.iload_n C dX7_thing_101 1 rfl ?_
      refine G.iald (i := 1) (j := 2) (f := (vS 2)) C rfl rfl h dX7_thing_102 (fun h => ?_)
      obtain ⟨q103, hq103, h⟩ := bind_some' h
      refine G.cvI (i0 := 1) (j0 := 0) (cs' := [wRL t ad vR, wStage t (ad 3) vS]) C (c_X5_wanting (a := (ad 3)) hq103) [1] rfl rfl rfl rfl rfl rfl rfl k_724 cal_X5_wanting (fit_rm (by decide) (by decide)) rfl (Nat.le_of_ble_eq_true rfl) dX7_thing_103 ?_
      exact hR _ (Option.some.inj h) _ _ dX7_thing_106
    rw [if_neg e_4] at h
    have n_0 : x2.toInt ≠ 0 := fun h9 => e_0 (Int32.toInt_inj.mp (by rw [h9]; decide))
    have n_1 : x2.toInt ≠ 1 := fun h9 => e_1 (Int32.toInt_inj.mp (by rw [h9]; decide))
    have n_2 : x2.toInt ≠ 2 := fun h9 => e_2 (Int32.toInt_inj.mp (by rw [h9]; decide))
    have n_3 : x2.toInt ≠ 3 := fun h9 => e_3 (Int32.toInt_inj.mp (by rw [h9]; decide))
    have n_4 : x2.toInt ≠ 4 := fun h9 => e_4 (Int32.toInt_inj.mp (by rw [h9]; decide))
    refine G.tableOut (tgt := 107) C dX7_thing_15 (by omega) (by decide) ?_
    refine G.ldc C k_369 dX7_thing_107 ?_
    exact hR _ (Option.some.inj h) _ _ dX7_thing_109
  · refine G.ldc C k_369 dX7_thing_11 ?_
    exact hR _ (Option.some.inj h) _ _ dX7_thing_13
set_option maxHeartbeats 2000000 in
set_option maxRecDepth 20000 in
theorem c_X7_seat {t : Nat → ClassId} {ad : Nat → Nat → Nat} {N : Nat} {vR : SV} {vS : SV} {x1 : Int32} {x2 : Int32} {r : Int32} (h : F_X7_seat N vR vS x1 x2 = some r) : CI t yX7_seat cX7_seat 3 (some .int) (rm 2) [.ref (ad 0 0), .int x1, .int x2] [wRL t ad vR, wStage t (ad 3) vS] r [wRL t ad vR, wStage t (ad 3) vS] := by
  refine CI.of (own := RX7) (by decide) rfl (Nat.le_of_ble_eq_true rfl) (fun X C hR0 => ?_)
  have hR : ∀ q : Int32, q = r → RetI X cX7_seat q [wRL t ad vR, wStage t (ad 3) vS] := by intro q e; subst e; exact hR0
  show G X [wRL t ad vR, wStage t (ad 3) vS] 0 [(0, .ref (ad 0 0)), (1, .int x1), (2, .int x2)] []
  unfold F_X7_seat at h
  refine G.aload_n C dX7_seat_0 0 rfl ?_
  refine gfX7_26 (i := 0) (j := 0) (v := .ref (ad 3 0)) C rfl rfl rfl dX7_seat_1 ?_
  refine G.iload_n C dX7_seat_4 1 rfl ?_
  obtain ⟨q5, hq5, h⟩ := bind_some' h
  refine G.cvI (i0 := 1) (j0 := 0) (cs' := [wRL t ad vR, wStage t (ad 3) vS]) C (c_X5_isSeat (a := (ad 3)) hq5) [1] rfl rfl rfl rfl rfl rfl rfl k_710 cal_X5_isSeat (fit_rm (by decide) (by decide)) rfl (Nat.le_of_ble_eq_true rfl) dX7_seat_5 ?_
  refine G.if_ne (tgt := 14) C dX7_seat_8 (by decide) h (fun h => ?_) (fun h => ?_)
  · refine G.iload_n C dX7_seat_14 2 rfl ?_
    by_cases e_0 : x2 = 0
    · rw [if_pos e_0] at h
      have n_0 : x2.toInt = 0 := by rw [e_0]; decide
      refine G.tableIn (tgt := 40) C dX7_seat_15 (by rw [n_0]; decide) (by rw [n_0]; decide) (by rw [n_0]; rfl) (by decide) ?_
      refine G.aload_n C dX7_seat_40 0 rfl ?_
      refine gfX7_26 (i := 0) (j := 0) (v := .ref (ad 3 0)) C rfl rfl rfl dX7_seat_41 ?_
      refine gfX7_213 (i := 1) (j := 0) (v := .ref (ad 3 5)) C rfl rfl rfl dX7_seat_44 ?_
      refine G.iload_n C dX7_seat_47 1 rfl ?_
      refine G.iald (i := 1) (j := 5) (f := (vS 5)) C rfl rfl h dX7_seat_48 (fun h => ?_)
      exact hR _ (Option.some.inj h) _ _ dX7_seat_49
    rw [if_neg e_0] at h
    by_cases e_1 : x2 = 1
    · rw [if_pos e_1] at h
      have n_1 : x2.toInt = 1 := by rw [e_1]; decide
      refine G.tableIn (tgt := 50) C dX7_seat_15 (by rw [n_1]; decide) (by rw [n_1]; decide) (by rw [n_1]; rfl) (by decide) ?_
      refine G.aload_n C dX7_seat_50 0 rfl ?_
      refine gfX7_26 (i := 0) (j := 0) (v := .ref (ad 3 0)) C rfl rfl rfl dX7_seat_51 ?_
      refine gfX7_216 (i := 1) (j := 0) (v := .ref (ad 3 6)) C rfl rfl rfl dX7_seat_54 ?_
      refine G.iload_n C dX7_seat_57 1 rfl ?_
      refine G.iald (i := 1) (j := 6) (f := (vS 6)) C rfl rfl h dX7_seat_58 (fun h => ?_)
      exact hR _ (Option.some.inj h) _ _ dX7_seat_59
    rw [if_neg e_1] at h
    by_cases e_2 : x2 = 2
    · rw [if_pos e_2] at h
      have n_2 : x2.toInt = 2 := by rw [e_2]; decide
      refine G.tableIn (tgt := 60) C dX7_seat_15 (by rw [n_2]; decide) (by rw [n_2]; decide) (by rw [n_2]; rfl) (by decide) ?_
      refine G.aload_n C dX7_seat_60 0 rfl ?_
      refine gfX7_26 (i := 0) (j := 0) (v := .ref (ad 3 0)) C rfl rfl rfl dX7_seat_61 ?_
      refine gfX7_188 (i := 1) (j := 0) (v := .ref (ad 3 7)) C rfl rfl rfl dX7_seat_64 ?_
      refine G.iload_n C dX7_seat_67 1 rfl ?_
      refine G.iald (i := 1) (j := 7) (f := (vS 7)) C rfl rfl h dX7_seat_68 (fun h => ?_)
      exact hR _ (Option.some.inj h) _ _ dX7_seat_69
    rw [if_neg e_2] at h
    have n_0 : x2.toInt ≠ 0 := fun h9 => e_0 (Int32.toInt_inj.mp (by rw [h9]; decide))
    have n_1 : x2.toInt ≠ 1 := fun h9 => e_1 (Int32.toInt_inj.mp (by rw [h9]; decide))
    have n_2 : x2.toInt ≠ 2 := fun h9 => e_2 (Int32.toInt_inj.mp (by rw [h9]; decide))
    refine G.tableOut (tgt := 70) C dX7_seat_15 (by omega) (by decide) ?_
    refine G.ldc C k_369 dX7_seat_70 ?_
    exact hR _ (Option.some.inj h) _ _ dX7_seat_72
  · refine G.ldc C k_369 dX7_seat_11 ?_
    exact hR _ (Option.some.inj h) _ _ dX7_seat_13
set_option maxHeartbeats 2000000 in
set_option maxRecDepth 20000 in
theorem c_X7_list {t : Nat → ClassId} {ad : Nat → Nat → Nat} {N : Nat} {vR : SV} {vS : SV} {x1 : Int32} {r : Int32} (h : F_X7_list N vR vS x1 = some r) : CI t yX7_list cX7_list 2 (some .int) (rm 2) [.ref (ad 0 0), .int x1] [wRL t ad vR, wStage t (ad 3) vS] r [wRL t ad vR, wStage t (ad 3) vS] := by
  refine CI.of (own := RX7) (by decide) rfl (Nat.le_of_ble_eq_true rfl) (fun X C hR0 => ?_)
  have hR : ∀ q : Int32, q = r → RetI X cX7_list q [wRL t ad vR, wStage t (ad 3) vS] := by intro q e; subst e; exact hR0
  show G X [wRL t ad vR, wStage t (ad 3) vS] 0 [(0, .ref (ad 0 0)), (1, .int x1)] []
  unfold F_X7_list at h
  refine G.aload_n C dX7_list_0 0 rfl ?_
  obtain ⟨q1, hq1, h⟩ := bind_some' h
  refine G.cvI (i0 := 0) (j0 := 0) (cs' := [wRL t ad vR, wStage t (ad 3) vS]) C (c_X7_noShow (ad := ad) hq1) [0, 1] rfl rfl rfl rfl rfl rfl rfl k_632 cal_X7_noShow (fit_rm (by decide) (by decide)) rfl (Nat.le_of_ble_eq_true rfl) dX7_list_1 ?_
  refine G.if_eq (tgt := 10) C dX7_list_4 (by decide) h (fun h => ?_) (fun h => ?_)
  · refine G.iload_n C dX7_list_10 1 rfl ?_
    refine G.if_ge (tgt := 17) C dX7_list_11 (by decide) h (fun h => ?_) (fun h => ?_)
    · refine G.iload_n C dX7_list_17 1 rfl ?_
      refine G.aload_n C dX7_list_18 0 rfl ?_
      refine gfX7_26 (i := 0) (j := 0) (v := .ref (ad 3 0)) C rfl rfl rfl dX7_list_19 ?_
      refine gfX7_182 (i := 1) (j := 0) (v := .int (vS 0 4)) C rfl rfl rfl dX7_list_22 ?_
      refine G.icmp_ge (tgt := 40) C dX7_list_25 (by decide) h (fun h => ?_) (fun h => ?_)
      · refine G.ldc C k_723 dX7_list_40 ?_
        exact hR _ (Option.some.inj h) _ _ dX7_list_42
      · refine G.aload_n C dX7_list_28 0 rfl ?_
        refine gfX7_26 (i := 0) (j := 0) (v := .ref (ad 3 0)) C rfl rfl rfl dX7_list_29 ?_
        refine gfX7_219 (i := 1) (j := 0) (v := .ref (ad 3 8)) C rfl rfl rfl dX7_list_32 ?_
        refine G.iload_n C dX7_list_35 1 rfl ?_
        refine G.iald (i := 1) (j := 8) (f := (vS 8)) C rfl rfl h dX7_list_36 (fun h => ?_)
        refine G.goto (tgt := 42) C dX7_list_37 (by decide) ?_
        exact hR _ (Option.some.inj h) _ _ dX7_list_42
    · refine G.ldc C k_369 dX7_list_14 ?_
      exact hR _ (Option.some.inj h) _ _ dX7_list_16
  · refine G.ldc C k_622 dX7_list_7 ?_
    exact hR _ (Option.some.inj h) _ _ dX7_list_9
set_option maxHeartbeats 2000000 in
set_option maxRecDepth 20000 in
theorem c_X7_stand {t : Nat → ClassId} {ad : Nat → Nat → Nat} {N : Nat} {vR : SV} {vS : SV} {x1 : Int32} {r : Int32} (h : F_X7_stand N vR vS x1 = some r) : CI t yX7_stand cX7_stand 2 (some .int) (rm 3) [.ref (ad 0 0), .int x1] [wRL t ad vR, wStage t (ad 3) vS] r [wRL t ad vR, wStage t (ad 3) vS] := by
  refine CI.of (own := RX7) (by decide) rfl (Nat.le_of_ble_eq_true rfl) (fun X C hR0 => ?_)
  have hR : ∀ q : Int32, q = r → RetI X cX7_stand q [wRL t ad vR, wStage t (ad 3) vS] := by intro q e; subst e; exact hR0
  show G X [wRL t ad vR, wStage t (ad 3) vS] 0 [(0, .ref (ad 0 0)), (1, .int x1)] []
  unfold F_X7_stand at h
  refine G.aload_n C dX7_stand_0 0 rfl ?_
  obtain ⟨q1, hq1, h⟩ := bind_some' h
  refine G.cvI (i0 := 0) (j0 := 0) (cs' := [wRL t ad vR, wStage t (ad 3) vS]) C (c_X7_noShow (ad := ad) hq1) [0, 1] rfl rfl rfl rfl rfl rfl rfl k_632 cal_X7_noShow (fit_rm (by decide) (by decide)) rfl (Nat.le_of_ble_eq_true rfl) dX7_stand_1 ?_
  refine G.if_eq (tgt := 10) C dX7_stand_4 (by decide) h (fun h => ?_) (fun h => ?_)
  · refine G.iload_n C dX7_stand_10 1 rfl ?_
    refine G.if_lt (tgt := 19) C dX7_stand_11 (by decide) h (fun h => ?_) (fun h => ?_)
    · refine G.ldc C k_369 dX7_stand_19 ?_
      refine G.goto (tgt := 32) C dX7_stand_21 (by decide) ?_
      exact hR _ (Option.some.inj h) _ _ dX7_stand_32
    · refine G.iload_n C dX7_stand_14 1 rfl ?_
      refine G.iconst C dX7_stand_15 ni_3 ?_
      refine G.icmp_le (tgt := 24) C dX7_stand_16 (by decide) h (fun h => ?_) (fun h => ?_)
      · refine G.aload_n C dX7_stand_24 0 rfl ?_
        refine gfX7_26 (i := 0) (j := 0) (v := .ref (ad 3 0)) C rfl rfl rfl dX7_stand_25 ?_
        refine G.iload_n C dX7_stand_28 1 rfl ?_
        obtain ⟨q29, hq29, h⟩ := bind_some' h
        refine G.cvI (i0 := 1) (j0 := 0) (cs' := [wRL t ad vR, wStage t (ad 3) vS]) C (c_X5_standing (a := (ad 3)) hq29) [1] rfl rfl rfl rfl rfl rfl rfl k_737 cal_X5_standing (fit_rm (by decide) (by decide)) rfl (Nat.le_of_ble_eq_true rfl) dX7_stand_29 ?_
        exact hR _ (Option.some.inj h) _ _ dX7_stand_32
      · refine G.ldc C k_369 dX7_stand_19 ?_
        refine G.goto (tgt := 32) C dX7_stand_21 (by decide) ?_
        exact hR _ (Option.some.inj h) _ _ dX7_stand_32
  · refine G.ldc C k_622 dX7_stand_7 ?_
    exact hR _ (Option.some.inj h) _ _ dX7_stand_9
set_option maxHeartbeats 2000000 in
set_option maxRecDepth 20000 in
theorem c_X7_next {t : Nat → ClassId} {ad : Nat → Nat → Nat} {N : Nat} {vR : SV} {vS : SV} {vE : SV} {vF : SV} {x1 : Int32} {r : Int32 × SV} (h : F_X7_next N vR vS vE vF x1 = some r) : CI t yX7_next cX7_next 2 (some .int) (rm 5) [.ref (ad 0 0), .int x1] [wRL t ad vR, wStage t (ad 3) vS, wSeer t ad vE, wStage t (ad 9) vF] (r.1) [wRL t ad vR, wStage t (ad 3) vS, wSeer t ad vE, wStage t (ad 9) (r.2)] := by
  refine CI.of (own := RX7) (by decide) rfl (Nat.le_of_ble_eq_true rfl) (fun X C hR0 => ?_)
  have hR : ∀ q : Int32 × SV, q = r → RetI X cX7_next (q.1) [wRL t ad vR, wStage t (ad 3) vS, wSeer t ad vE, wStage t (ad 9) (q.2)] := by intro q e; subst e; exact hR0
  show G X [wRL t ad vR, wStage t (ad 3) vS, wSeer t ad vE, wStage t (ad 9) vF] 0 [(0, .ref (ad 0 0)), (1, .int x1)] []
  unfold F_X7_next at h
  refine G.aload_n C dX7_next_0 0 rfl ?_
  obtain ⟨q1, hq1, h⟩ := bind_some' h
  refine G.cvI (i0 := 0) (j0 := 0) (cs' := [wRL t ad vR, wStage t (ad 3) vS, wSeer t ad vE, wStage t (ad 9) vF]) C (c_X7_noShow (ad := ad) hq1) [0, 1] rfl rfl rfl rfl rfl rfl rfl k_632 cal_X7_noShow (fit_rm (by decide) (by decide)) rfl (Nat.le_of_ble_eq_true rfl) dX7_next_1 ?_
  refine G.if_eq (tgt := 10) C dX7_next_4 (by decide) h (fun h => ?_) (fun h => ?_)
  · refine G.iload_n C dX7_next_10 1 rfl ?_
    refine G.if_lt (tgt := 19) C dX7_next_11 (by decide) h (fun h => ?_) (fun h => ?_)
    · refine G.ldc C k_369 dX7_next_19 ?_
      refine G.goto (tgt := 36) C dX7_next_21 (by decide) ?_
      exact hR _ (Option.some.inj h) _ _ dX7_next_36
    · refine G.iload_n C dX7_next_14 1 rfl ?_
      refine G.iconst C dX7_next_15 ni_2 ?_
      refine G.icmp_le (tgt := 24) C dX7_next_16 (by decide) h (fun h => ?_) (fun h => ?_)
      · refine G.aload_n C dX7_next_24 0 rfl ?_
        refine gfX7_49 (i := 0) (j := 0) (v := .ref (ad 8 0)) C rfl rfl rfl dX7_next_25 ?_
        refine G.aload_n C dX7_next_28 0 rfl ?_
        refine gfX7_26 (i := 0) (j := 0) (v := .ref (ad 3 0)) C rfl rfl rfl dX7_next_29 ?_
        refine G.iload_n C dX7_next_32 1 rfl ?_
        obtain ⟨q33, hq33, h⟩ := bind_some' h
        refine G.cvI (i0 := 2) (j0 := 0) (cs' := [wRL t ad vR, wStage t (ad 3) vS, wSeer t ad vE, wStage t (ad 9) (q33.2)]) C (c_X4_nextOne (ad := ad) hq33) [1, 2, 3] rfl rfl rfl rfl rfl rfl rfl k_745 cal_X4_nextOne (fit_rm (by decide) (by decide)) rfl (Nat.le_of_ble_eq_true rfl) dX7_next_33 ?_
        exact hR _ (Option.some.inj h) _ _ dX7_next_36
      · refine G.ldc C k_369 dX7_next_19 ?_
        refine G.goto (tgt := 36) C dX7_next_21 (by decide) ?_
        exact hR _ (Option.some.inj h) _ _ dX7_next_36
  · refine G.ldc C k_622 dX7_next_7 ?_
    exact hR _ (Option.some.inj h) _ _ dX7_next_9
set_option maxHeartbeats 2000000 in
set_option maxRecDepth 20000 in
theorem c_X7_ahead {t : Nat → ClassId} {ad : Nat → Nat → Nat} {N : Nat} {vR : SV} {vS : SV} {vE : SV} {vF : SV} {x1 : Int32} {x2 : Int32} {r : Int32 × SV} (h : F_X7_ahead N vR vS vE vF x1 x2 = some r) : CI t yX7_ahead cX7_ahead 3 (some .int) (rm 6) [.ref (ad 0 0), .int x1, .int x2] [wRL t ad vR, wStage t (ad 3) vS, wSeer t ad vE, wStage t (ad 9) vF] (r.1) [wRL t ad vR, wStage t (ad 3) vS, wSeer t ad vE, wStage t (ad 9) (r.2)] := by
  refine CI.of (own := RX7) (by decide) rfl (Nat.le_of_ble_eq_true rfl) (fun X C hR0 => ?_)
  have hR : ∀ q : Int32 × SV, q = r → RetI X cX7_ahead (q.1) [wRL t ad vR, wStage t (ad 3) vS, wSeer t ad vE, wStage t (ad 9) (q.2)] := by intro q e; subst e; exact hR0
  show G X [wRL t ad vR, wStage t (ad 3) vS, wSeer t ad vE, wStage t (ad 9) vF] 0 [(0, .ref (ad 0 0)), (1, .int x1), (2, .int x2)] []
  unfold F_X7_ahead at h
  refine G.aload_n C dX7_ahead_0 0 rfl ?_
  obtain ⟨q1, hq1, h⟩ := bind_some' h
  refine G.cvI (i0 := 0) (j0 := 0) (cs' := [wRL t ad vR, wStage t (ad 3) vS, wSeer t ad vE, wStage t (ad 9) vF]) C (c_X7_noShow (ad := ad) hq1) [0, 1] rfl rfl rfl rfl rfl rfl rfl k_632 cal_X7_noShow (fit_rm (by decide) (by decide)) rfl (Nat.le_of_ble_eq_true rfl) dX7_ahead_1 ?_
  refine G.if_eq (tgt := 10) C dX7_ahead_4 (by decide) h (fun h => ?_) (fun h => ?_)
  · refine G.iload_n C dX7_ahead_10 1 rfl ?_
    refine G.if_lt (tgt := 29) C dX7_ahead_11 (by decide) h (fun h => ?_) (fun h => ?_)
    · refine G.ldc C k_369 dX7_ahead_29 ?_
      exact hR _ (Option.some.inj h) _ _ dX7_ahead_31
    · refine G.iload_n C dX7_ahead_14 1 rfl ?_
      refine G.bipush C dX7_ahead_15 nb_60 ?_
      refine G.icmp_gt (tgt := 29) C dX7_ahead_17 (by decide) h (fun h => ?_) (fun h => ?_)
      · refine G.ldc C k_369 dX7_ahead_29 ?_
        exact hR _ (Option.some.inj h) _ _ dX7_ahead_31
      · refine G.iload_n C dX7_ahead_20 2 rfl ?_
        refine G.if_lt (tgt := 29) C dX7_ahead_21 (by decide) h (fun h => ?_) (fun h => ?_)
        · refine G.ldc C k_369 dX7_ahead_29 ?_
          exact hR _ (Option.some.inj h) _ _ dX7_ahead_31
        · refine G.iload_n C dX7_ahead_24 2 rfl ?_
          refine G.iconst C dX7_ahead_25 ni_3 ?_
          refine G.icmp_le (tgt := 32) C dX7_ahead_26 (by decide) h (fun h => ?_) (fun h => ?_)
          · refine G.aload_n C dX7_ahead_32 0 rfl ?_
            refine gfX7_49 (i := 0) (j := 0) (v := .ref (ad 8 0)) C rfl rfl rfl dX7_ahead_33 ?_
            refine G.aload_n C dX7_ahead_36 0 rfl ?_
            refine gfX7_26 (i := 0) (j := 0) (v := .ref (ad 3 0)) C rfl rfl rfl dX7_ahead_37 ?_
            refine G.iload_n C dX7_ahead_40 1 rfl ?_
            refine G.iload_n C dX7_ahead_41 2 rfl ?_
            obtain ⟨q42, hq42, h⟩ := bind_some' h
            refine G.cvI (i0 := 2) (j0 := 0) (cs' := [wRL t ad vR, wStage t (ad 3) vS, wSeer t ad vE, wStage t (ad 9) (q42.2)]) C (c_X4_standingBehind (ad := ad) hq42) [1, 2, 3] rfl rfl rfl rfl rfl rfl rfl k_755 cal_X4_standingBehind (fit_rm (by decide) (by decide)) rfl (Nat.le_of_ble_eq_true rfl) dX7_ahead_42 ?_
            exact hR _ (Option.some.inj h) _ _ dX7_ahead_45
          · refine G.ldc C k_369 dX7_ahead_29 ?_
            exact hR _ (Option.some.inj h) _ _ dX7_ahead_31
  · refine G.ldc C k_622 dX7_ahead_7 ?_
    exact hR _ (Option.some.inj h) _ _ dX7_ahead_9
set_option maxHeartbeats 2000000 in
set_option maxRecDepth 20000 in
theorem c_X7_when {t : Nat → ClassId} {ad : Nat → Nat → Nat} {N : Nat} {vR : SV} {vS : SV} {vE : SV} {vF : SV} {x1 : Int32} {x2 : Int32} {r : Int32 × SV} (h : F_X7_when N vR vS vE vF x1 x2 = some r) : CI t yX7_when cX7_when 3 (some .int) (rm 5) [.ref (ad 0 0), .int x1, .int x2] [wRL t ad vR, wStage t (ad 3) vS, wSeer t ad vE, wStage t (ad 9) vF] (r.1) [wRL t ad vR, wStage t (ad 3) vS, wSeer t ad vE, wStage t (ad 9) (r.2)] := by
  refine CI.of (own := RX7) (by decide) rfl (Nat.le_of_ble_eq_true rfl) (fun X C hR0 => ?_)
  have hR : ∀ q : Int32 × SV, q = r → RetI X cX7_when (q.1) [wRL t ad vR, wStage t (ad 3) vS, wSeer t ad vE, wStage t (ad 9) (q.2)] := by intro q e; subst e; exact hR0
  show G X [wRL t ad vR, wStage t (ad 3) vS, wSeer t ad vE, wStage t (ad 9) vF] 0 [(0, .ref (ad 0 0)), (1, .int x1), (2, .int x2)] []
  unfold F_X7_when at h
  refine G.aload_n C dX7_when_0 0 rfl ?_
  refine gfX7_26 (i := 0) (j := 0) (v := .ref (ad 3 0)) C rfl rfl rfl dX7_when_1 ?_
  refine G.iload_n C dX7_when_4 1 rfl ?_
  obtain ⟨q5, hq5, h⟩ := bind_some' h
  refine G.cvI (i0 := 1) (j0 := 0) (cs' := [wRL t ad vR, wStage t (ad 3) vS, wSeer t ad vE, wStage t (ad 9) vF]) C (c_X5_isSeat (a := (ad 3)) hq5) [1] rfl rfl rfl rfl rfl rfl rfl k_710 cal_X5_isSeat (fit_rm (by decide) (by decide)) rfl (Nat.le_of_ble_eq_true rfl) dX7_when_5 ?_
  refine G.if_eq (tgt := 21) C dX7_when_8 (by decide) h (fun h => ?_) (fun h => ?_)
  · refine G.ldc C k_369 dX7_when_21 ?_
    exact hR _ (Option.some.inj h) _ _ dX7_when_23
  · refine G.iload_n C dX7_when_11 2 rfl ?_
    refine G.iconst C dX7_when_12 ni_1 ?_
    refine G.icmp_lt (tgt := 21) C dX7_when_13 (by decide) h (fun h => ?_) (fun h => ?_)
    · refine G.ldc C k_369 dX7_when_21 ?_
      exact hR _ (Option.some.inj h) _ _ dX7_when_23
    · refine G.iload_n C dX7_when_16 2 rfl ?_
      refine G.iconst C dX7_when_17 ni_2 ?_
      refine G.icmp_le (tgt := 24) C dX7_when_18 (by decide) h (fun h => ?_) (fun h => ?_)
      · refine G.aload_n C dX7_when_24 0 rfl ?_
        refine gfX7_49 (i := 0) (j := 0) (v := .ref (ad 8 0)) C rfl rfl rfl dX7_when_25 ?_
        refine G.aload_n C dX7_when_28 0 rfl ?_
        refine gfX7_26 (i := 0) (j := 0) (v := .ref (ad 3 0)) C rfl rfl rfl dX7_when_29 ?_
        refine G.iload_n C dX7_when_32 1 rfl ?_
        refine G.iload_n C dX7_when_33 2 rfl ?_
        obtain ⟨q34, hq34, h⟩ := bind_some' h
        refine G.cvI (i0 := 2) (j0 := 0) (cs' := [wRL t ad vR, wStage t (ad 3) vS, wSeer t ad vE, wStage t (ad 9) (q34.2)]) C (c_X4_tapsUntil (ad := ad) hq34) [1, 2, 3] rfl rfl rfl rfl rfl rfl rfl k_769 cal_X4_tapsUntil (fit_rm (by decide) (by decide)) rfl (Nat.le_of_ble_eq_true rfl) dX7_when_34 ?_
        obtain ⟨q37, hq37, h⟩ := bind_some' h
        refine G.csI (cs' := [wRL t ad vR, wStage t (ad 3) vS, wSeer t ad vE, wStage t (ad 9) (q34.2)]) C (c_X7_orNone hq37) [] rfl rfl rfl rfl k_720 cal_X7_orNone (fit_rm (by decide) (by decide)) rfl (Nat.le_of_ble_eq_true rfl) dX7_when_37 ?_
        exact hR _ (Option.some.inj h) _ _ dX7_when_40
      · refine G.ldc C k_369 dX7_when_21 ?_
        exact hR _ (Option.some.inj h) _ _ dX7_when_23
set_option maxHeartbeats 2000000 in
set_option maxRecDepth 20000 in
theorem c_X7_comes {t : Nat → ClassId} {ad : Nat → Nat → Nat} {N : Nat} {vR : SV} {vS : SV} {vE : SV} {vF : SV} {x1 : Int32} {r : Int32 × SV} (h : F_X7_comes N vR vS vE vF x1 = some r) : CI t yX7_comes cX7_comes 2 (some .int) (rm 5) [.ref (ad 0 0), .int x1] [wRL t ad vR, wStage t (ad 3) vS, wSeer t ad vE, wStage t (ad 9) vF] (r.1) [wRL t ad vR, wStage t (ad 3) vS, wSeer t ad vE, wStage t (ad 9) (r.2)] := by
  refine CI.of (own := RX7) (by decide) rfl (Nat.le_of_ble_eq_true rfl) (fun X C hR0 => ?_)
  have hR : ∀ q : Int32 × SV, q = r → RetI X cX7_comes (q.1) [wRL t ad vR, wStage t (ad 3) vS, wSeer t ad vE, wStage t (ad 9) (q.2)] := by intro q e; subst e; exact hR0
  show G X [wRL t ad vR, wStage t (ad 3) vS, wSeer t ad vE, wStage t (ad 9) vF] 0 [(0, .ref (ad 0 0)), (1, .int x1)] []
  unfold F_X7_comes at h
  refine G.aload_n C dX7_comes_0 0 rfl ?_
  refine gfX7_26 (i := 0) (j := 0) (v := .ref (ad 3 0)) C rfl rfl rfl dX7_comes_1 ?_
  refine G.iload_n C dX7_comes_4 1 rfl ?_
  obtain ⟨q5, hq5, h⟩ := bind_some' h
  refine G.cvI (i0 := 1) (j0 := 0) (cs' := [wRL t ad vR, wStage t (ad 3) vS, wSeer t ad vE, wStage t (ad 9) vF]) C (c_X5_isThing (a := (ad 3)) hq5) [1] rfl rfl rfl rfl rfl rfl rfl k_687 cal_X5_isThing (fit_rm (by decide) (by decide)) rfl (Nat.le_of_ble_eq_true rfl) dX7_comes_5 ?_
  refine G.if_ne (tgt := 14) C dX7_comes_8 (by decide) h (fun h => ?_) (fun h => ?_)
  · refine G.aload_n C dX7_comes_14 0 rfl ?_
    refine gfX7_49 (i := 0) (j := 0) (v := .ref (ad 8 0)) C rfl rfl rfl dX7_comes_15 ?_
    refine G.aload_n C dX7_comes_18 0 rfl ?_
    refine gfX7_26 (i := 0) (j := 0) (v := .ref (ad 3 0)) C rfl rfl rfl dX7_comes_19 ?_
    refine G.iload_n C dX7_comes_22 1 rfl ?_
    obtain ⟨q23, hq23, h⟩ := bind_some' h
    refine G.cvI (i0 := 2) (j0 := 0) (cs' := [wRL t ad vR, wStage t (ad 3) vS, wSeer t ad vE, wStage t (ad 9) (q23.2)]) C (c_X4_tapOf (ad := ad) hq23) [1, 2, 3] rfl rfl rfl rfl rfl rfl rfl k_777 cal_X4_tapOf (fit_rm (by decide) (by decide)) rfl (Nat.le_of_ble_eq_true rfl) dX7_comes_23 ?_
    obtain ⟨q26, hq26, h⟩ := bind_some' h
    refine G.csI (cs' := [wRL t ad vR, wStage t (ad 3) vS, wSeer t ad vE, wStage t (ad 9) (q23.2)]) C (c_X7_orNone hq26) [] rfl rfl rfl rfl k_720 cal_X7_orNone (fit_rm (by decide) (by decide)) rfl (Nat.le_of_ble_eq_true rfl) dX7_comes_26 ?_
    exact hR _ (Option.some.inj h) _ _ dX7_comes_29
  · refine G.ldc C k_369 dX7_comes_11 ?_
    exact hR _ (Option.some.inj h) _ _ dX7_comes_13
set_option maxHeartbeats 2000000 in
set_option maxRecDepth 20000 in
theorem c_X7_match {t : Nat → ClassId} {ad : Nat → Nat → Nat} {N : Nat} {vR : SV} {vS : SV} {r : Int32} (h : F_X7_match N vR vS = some r) : CI t yX7_match cX7_match 1 (some .int) (rm 4) [.ref (ad 0 0)] [wRL t ad vR, wStage t (ad 3) vS] r [wRL t ad vR, wStage t (ad 3) vS] := by
  refine CI.of (own := RX7) (by decide) rfl (Nat.le_of_ble_eq_true rfl) (fun X C hR0 => ?_)
  have hR : ∀ q : Int32, q = r → RetI X cX7_match q [wRL t ad vR, wStage t (ad 3) vS] := by intro q e; subst e; exact hR0
  show G X [wRL t ad vR, wStage t (ad 3) vS] 0 [(0, .ref (ad 0 0))] []
  unfold F_X7_match at h
  refine G.aload_n C dX7_match_0 0 rfl ?_
  obtain ⟨q1, hq1, h⟩ := bind_some' h
  refine G.cvI (i0 := 0) (j0 := 0) (cs' := [wRL t ad vR, wStage t (ad 3) vS]) C (c_X7_noShow (ad := ad) hq1) [0, 1] rfl rfl rfl rfl rfl rfl rfl k_632 cal_X7_noShow (fit_rm (by decide) (by decide)) rfl (Nat.le_of_ble_eq_true rfl) dX7_match_1 ?_
  refine G.if_eq (tgt := 12) C dX7_match_4 (by decide) h (fun h => ?_) (fun h => ?_)
  · refine G.aload_n C dX7_match_12 0 rfl ?_
    refine gfX7_26 (i := 0) (j := 0) (v := .ref (ad 3 0)) C rfl rfl rfl dX7_match_13 ?_
    obtain ⟨q16, hq16, h⟩ := bind_some' h
    refine G.cvI (i0 := 1) (j0 := 0) (cs' := [wRL t ad vR, wStage t (ad 3) vS]) C (c_X5_couldBePleased (a := (ad 3)) hq16) [1] rfl rfl rfl rfl rfl rfl rfl k_839 cal_X5_couldBePleased (fit_rm (by decide) (by decide)) rfl (Nat.le_of_ble_eq_true rfl) dX7_match_16 ?_
    exact hR _ (Option.some.inj h) _ _ dX7_match_19
  · refine G.ldc C k_622 dX7_match_7 ?_
    refine G.goto (tgt := 19) C dX7_match_9 (by decide) ?_
    exact hR _ (Option.some.inj h) _ _ dX7_match_19
set_option maxHeartbeats 2000000 in
set_option maxRecDepth 20000 in
theorem c_X7_clear {t : Nat → ClassId} {ad : Nat → Nat → Nat} {N : Nat} {vR : SV} {vS : SV} {vP : SV} {vQ : SV} {x1 : Int32} {x2 : Int32} {x3 : Int32} {r : Int32 × SV} (h : F_X7_clear N vR vS vP vQ x1 x2 x3 = some r) : CI t yX7_clear cX7_clear 5 (some .int) (rm 7) [.ref (ad 0 0), .int x1, .int x2, .int x3] [wRL t ad vR, wStage t (ad 3) vS, wPlanner t ad vP, wStage t (ad 11) vQ] (r.1) [wRL t ad vR, wStage t (ad 3) vS, wPlanner t ad vP, wStage t (ad 11) (r.2)] := by
  refine CI.of (own := RX7) (by decide) rfl (Nat.le_of_ble_eq_true rfl) (fun X C hR0 => ?_)
  have hR : ∀ q : Int32 × SV, q = r → RetI X cX7_clear (q.1) [wRL t ad vR, wStage t (ad 3) vS, wPlanner t ad vP, wStage t (ad 11) (q.2)] := by intro q e; subst e; exact hR0
  show G X [wRL t ad vR, wStage t (ad 3) vS, wPlanner t ad vP, wStage t (ad 11) vQ] 0 [(0, .ref (ad 0 0)), (1, .int x1), (2, .int x2), (3, .int x3)] []
  unfold F_X7_clear at h
  refine G.aload_n C dX7_clear_0 0 rfl ?_
  refine gfX7_26 (i := 0) (j := 0) (v := .ref (ad 3 0)) C rfl rfl rfl dX7_clear_1 ?_
  refine G.iload_n C dX7_clear_4 1 rfl ?_
  obtain ⟨q5, hq5, h⟩ := bind_some' h
  refine G.cvI (i0 := 1) (j0 := 0) (cs' := [wRL t ad vR, wStage t (ad 3) vS, wPlanner t ad vP, wStage t (ad 11) vQ]) C (c_X5_isSeat (a := (ad 3)) hq5) [1] rfl rfl rfl rfl rfl rfl rfl k_710 cal_X5_isSeat (fit_rm (by decide) (by decide)) rfl (Nat.le_of_ble_eq_true rfl) dX7_clear_5 ?_
  refine G.if_eq (tgt := 31) C dX7_clear_8 (by decide) h (fun h => ?_) (fun h => ?_)
  · refine G.ldc C k_369 dX7_clear_31 ?_
    exact hR _ (Option.some.inj h) _ _ dX7_clear_33
  · refine G.iload_n C dX7_clear_11 2 rfl ?_
    refine G.iconst C dX7_clear_12 ni_1 ?_
    refine G.icmp_lt (tgt := 31) C dX7_clear_13 (by decide) h (fun h => ?_) (fun h => ?_)
    · refine G.ldc C k_369 dX7_clear_31 ?_
      exact hR _ (Option.some.inj h) _ _ dX7_clear_33
    · refine G.iload_n C dX7_clear_16 2 rfl ?_
      refine G.bipush C dX7_clear_17 nb_30 ?_
      refine G.icmp_gt (tgt := 31) C dX7_clear_19 (by decide) h (fun h => ?_) (fun h => ?_)
      · refine G.ldc C k_369 dX7_clear_31 ?_
        exact hR _ (Option.some.inj h) _ _ dX7_clear_33
      · refine G.iload_n C dX7_clear_22 3 rfl ?_
        refine G.if_lt (tgt := 31) C dX7_clear_23 (by decide) h (fun h => ?_) (fun h => ?_)
        · refine G.ldc C k_369 dX7_clear_31 ?_
          exact hR _ (Option.some.inj h) _ _ dX7_clear_33
        · refine G.iload_n C dX7_clear_26 3 rfl ?_
          refine G.iconst C dX7_clear_27 ni_1 ?_
          refine G.icmp_le (tgt := 34) C dX7_clear_28 (by decide) h (fun h => ?_) (fun h => ?_)
          · refine G.aload_n C dX7_clear_34 0 rfl ?_
            refine gfX7_56 (i := 0) (j := 0) (v := .ref (ad 10 0)) C rfl rfl rfl dX7_clear_35 ?_
            refine G.aload_n C dX7_clear_38 0 rfl ?_
            refine gfX7_26 (i := 0) (j := 0) (v := .ref (ad 3 0)) C rfl rfl rfl dX7_clear_39 ?_
            refine G.iload_n C dX7_clear_42 1 rfl ?_
            refine G.iload_n C dX7_clear_43 2 rfl ?_
            obtain ⟨q44, hq44, h⟩ := bind_some' h
            refine G.cvI (i0 := 2) (j0 := 0) (cs' := [wRL t ad vR, wStage t (ad 3) vS, wPlanner t ad vP, wStage t (ad 11) (q44.2)]) C (c_X2_fewestOff (ad := ad) hq44) [1, 2, 3] rfl rfl rfl rfl rfl rfl rfl k_855 cal_X2_fewestOff (fit_rm (by decide) (by decide)) rfl (Nat.le_of_ble_eq_true rfl) dX7_clear_44 ?_
            refine G.istore (lv' := [(4, .int (q44.1)), (0, .ref (ad 0 0)), (1, .int x1), (2, .int x2), (3, .int x3)]) C dX7_clear_47 (by decide) rfl ?_
            refine G.iload C dX7_clear_49 0 rfl ?_
            refine G.if_ge (tgt := 57) C dX7_clear_51 (by decide) h (fun h => ?_) (fun h => ?_)
            · refine G.iload_n C dX7_clear_57 4 rfl ?_
              refine G.if_ne (tgt := 69) C dX7_clear_58 (by decide) h (fun h => ?_) (fun h => ?_)
              · refine G.iload C dX7_clear_69 0 rfl ?_
                exact hR _ (Option.some.inj h) _ _ dX7_clear_71
              · refine G.iload C dX7_clear_61 0 rfl ?_
                obtain ⟨q63, hq63, h⟩ := bind_some' h
                refine G.csI (cs' := [wRL t ad vR, wStage t (ad 3) vS, wPlanner t ad vP, wStage t (ad 11) (q44.2)]) C (c_J6_bitCount_0f7a4 hq63) [] rfl rfl rfl rfl k_869 cal_J6_bitCount_0f7a4 (fit_rm (by decide) (by decide)) rfl (Nat.le_of_ble_eq_true rfl) dX7_clear_63 ?_
                refine G.goto (tgt := 71) C dX7_clear_66 (by decide) ?_
                exact hR _ (Option.some.inj h) _ _ dX7_clear_71
            · refine G.ldc C k_723 dX7_clear_54 ?_
              exact hR _ (Option.some.inj h) _ _ dX7_clear_56
          · refine G.ldc C k_369 dX7_clear_31 ?_
            exact hR _ (Option.some.inj h) _ _ dX7_clear_33
set_option maxHeartbeats 2000000 in
set_option maxRecDepth 20000 in
theorem c_X7_bring {t : Nat → ClassId} {ad : Nat → Nat → Nat} {N : Nat} {vR : SV} {vS : SV} {vP : SV} {vQ : SV} {x1 : Int32} {x2 : Int32} {r : Int32 × SV} (h : F_X7_bring N vR vS vP vQ x1 x2 = some r) : CI t yX7_bring cX7_bring 4 (some .int) (rm 7) [.ref (ad 0 0), .int x1, .int x2] [wRL t ad vR, wStage t (ad 3) vS, wPlanner t ad vP, wStage t (ad 11) vQ] (r.1) [wRL t ad vR, wStage t (ad 3) vS, wPlanner t ad vP, wStage t (ad 11) (r.2)] := by
  refine CI.of (own := RX7) (by decide) rfl (Nat.le_of_ble_eq_true rfl) (fun X C hR0 => ?_)
  have hR : ∀ q : Int32 × SV, q = r → RetI X cX7_bring (q.1) [wRL t ad vR, wStage t (ad 3) vS, wPlanner t ad vP, wStage t (ad 11) (q.2)] := by intro q e; subst e; exact hR0
  show G X [wRL t ad vR, wStage t (ad 3) vS, wPlanner t ad vP, wStage t (ad 11) vQ] 0 [(0, .ref (ad 0 0)), (1, .int x1), (2, .int x2)] []
  unfold F_X7_bring at h
  refine G.aload_n C dX7_bring_0 0 rfl ?_
  obtain ⟨q1, hq1, h⟩ := bind_some' h
  refine G.cvI (i0 := 0) (j0 := 0) (cs' := [wRL t ad vR, wStage t (ad 3) vS, wPlanner t ad vP, wStage t (ad 11) vQ]) C (c_X7_noShow (ad := ad) hq1) [0, 1] rfl rfl rfl rfl rfl rfl rfl k_632 cal_X7_noShow (fit_rm (by decide) (by decide)) rfl (Nat.le_of_ble_eq_true rfl) dX7_bring_1 ?_
  refine G.if_eq (tgt := 10) C dX7_bring_4 (by decide) h (fun h => ?_) (fun h => ?_)
  · refine G.iload_n C dX7_bring_10 1 rfl ?_
    refine G.iconst C dX7_bring_11 ni_1 ?_
    refine G.icmp_lt (tgt := 30) C dX7_bring_12 (by decide) h (fun h => ?_) (fun h => ?_)
    · refine G.ldc C k_369 dX7_bring_30 ?_
      exact hR _ (Option.some.inj h) _ _ dX7_bring_32
    · refine G.iload_n C dX7_bring_15 1 rfl ?_
      refine G.bipush C dX7_bring_16 nb_30 ?_
      refine G.icmp_gt (tgt := 30) C dX7_bring_18 (by decide) h (fun h => ?_) (fun h => ?_)
      · refine G.ldc C k_369 dX7_bring_30 ?_
        exact hR _ (Option.some.inj h) _ _ dX7_bring_32
      · refine G.iload_n C dX7_bring_21 2 rfl ?_
        refine G.if_lt (tgt := 30) C dX7_bring_22 (by decide) h (fun h => ?_) (fun h => ?_)
        · refine G.ldc C k_369 dX7_bring_30 ?_
          exact hR _ (Option.some.inj h) _ _ dX7_bring_32
        · refine G.iload_n C dX7_bring_25 2 rfl ?_
          refine G.iconst C dX7_bring_26 ni_1 ?_
          refine G.icmp_le (tgt := 33) C dX7_bring_27 (by decide) h (fun h => ?_) (fun h => ?_)
          · refine G.aload_n C dX7_bring_33 0 rfl ?_
            refine gfX7_56 (i := 0) (j := 0) (v := .ref (ad 10 0)) C rfl rfl rfl dX7_bring_34 ?_
            refine G.aload_n C dX7_bring_37 0 rfl ?_
            refine gfX7_26 (i := 0) (j := 0) (v := .ref (ad 3 0)) C rfl rfl rfl dX7_bring_38 ?_
            refine G.iload_n C dX7_bring_41 1 rfl ?_
            obtain ⟨q42, hq42, h⟩ := bind_some' h
            refine G.cvI (i0 := 2) (j0 := 0) (cs' := [wRL t ad vR, wStage t (ad 3) vS, wPlanner t ad vP, wStage t (ad 11) (q42.2)]) C (c_X2_bestFirst (ad := ad) hq42) [1, 2, 3] rfl rfl rfl rfl rfl rfl rfl k_874 cal_X2_bestFirst (fit_rm (by decide) (by decide)) rfl (Nat.le_of_ble_eq_true rfl) dX7_bring_42 ?_
            refine G.istore_n (lv' := [(3, .int (q42.1)), (0, .ref (ad 0 0)), (1, .int x1), (2, .int x2)]) C dX7_bring_45 (by decide) rfl ?_
            refine G.iload_n C dX7_bring_46 3 rfl ?_
            refine G.if_ne (tgt := 54) C dX7_bring_47 (by decide) h (fun h => ?_) (fun h => ?_)
            · refine G.aload_n C dX7_bring_54 1 rfl ?_
              refine gfX7_56 (i := 0) (j := 0) (v := .ref (ad 10 0)) C rfl rfl rfl dX7_bring_55 ?_
              refine G.aload_n C dX7_bring_58 1 rfl ?_
              refine gfX7_26 (i := 0) (j := 0) (v := .ref (ad 3 0)) C rfl rfl rfl dX7_bring_59 ?_
              refine G.iload_n C dX7_bring_62 0 rfl ?_
              refine G.iload_n C dX7_bring_63 2 rfl ?_
              obtain ⟨q64, hq64, h⟩ := bind_some' h
              refine G.cvI (i0 := 2) (j0 := 0) (cs' := [wRL t ad vR, wStage t (ad 3) vS, wPlanner t ad vP, wStage t (ad 11) (q64.2)]) C (c_X2_clappedIfFirst (ad := ad) hq64) [1, 2, 3] rfl rfl rfl rfl rfl rfl rfl k_883 cal_X2_clappedIfFirst (fit_rm (by decide) (by decide)) rfl (Nat.le_of_ble_eq_true rfl) dX7_bring_64 ?_
              exact hR _ (Option.some.inj h) _ _ dX7_bring_67
            · refine G.iload_n C dX7_bring_50 0 rfl ?_
              refine G.goto (tgt := 67) C dX7_bring_51 (by decide) ?_
              exact hR _ (Option.some.inj h) _ _ dX7_bring_67
          · refine G.ldc C k_369 dX7_bring_30 ?_
            exact hR _ (Option.some.inj h) _ _ dX7_bring_32
  · refine G.ldc C k_622 dX7_bring_7 ?_
    exact hR _ (Option.some.inj h) _ _ dX7_bring_9
set_option maxHeartbeats 2000000 in
set_option maxRecDepth 20000 in
theorem c_X7_lack {t : Nat → ClassId} {ad : Nat → Nat → Nat} {N : Nat} {vR : SV} {vS : SV} {r : Int32} (h : F_X7_lack N vR vS = some r) : CI t yX7_lack cX7_lack 1 (some .int) (rm 4) [.ref (ad 0 0)] [wRL t ad vR, wStage t (ad 3) vS] r [wRL t ad vR, wStage t (ad 3) vS] := by
  refine CI.of (own := RX7) (by decide) rfl (Nat.le_of_ble_eq_true rfl) (fun X C hR0 => ?_)
  have hR : ∀ q : Int32, q = r → RetI X cX7_lack q [wRL t ad vR, wStage t (ad 3) vS] := by intro q e; subst e; exact hR0
  show G X [wRL t ad vR, wStage t (ad 3) vS] 0 [(0, .ref (ad 0 0))] []
  unfold F_X7_lack at h
  refine G.aload_n C dX7_lack_0 0 rfl ?_
  obtain ⟨q1, hq1, h⟩ := bind_some' h
  refine G.cvI (i0 := 0) (j0 := 0) (cs' := [wRL t ad vR, wStage t (ad 3) vS]) C (c_X7_noShow (ad := ad) hq1) [0, 1] rfl rfl rfl rfl rfl rfl rfl k_632 cal_X7_noShow (fit_rm (by decide) (by decide)) rfl (Nat.le_of_ble_eq_true rfl) dX7_lack_1 ?_
  refine G.if_eq (tgt := 12) C dX7_lack_4 (by decide) h (fun h => ?_) (fun h => ?_)
  · refine G.aload_n C dX7_lack_12 0 rfl ?_
    refine gfX7_26 (i := 0) (j := 0) (v := .ref (ad 3 0)) C rfl rfl rfl dX7_lack_13 ?_
    obtain ⟨q16, hq16, h⟩ := bind_some' h
    refine G.cvI (i0 := 1) (j0 := 0) (cs' := [wRL t ad vR, wStage t (ad 3) vS]) C (c_X5_lackedLabels (a := (ad 3)) hq16) [1] rfl rfl rfl rfl rfl rfl rfl k_888 cal_X5_lackedLabels (fit_rm (by decide) (by decide)) rfl (Nat.le_of_ble_eq_true rfl) dX7_lack_16 ?_
    exact hR _ (Option.some.inj h) _ _ dX7_lack_19
  · refine G.ldc C k_622 dX7_lack_7 ?_
    refine G.goto (tgt := 19) C dX7_lack_9 (by decide) ?_
    exact hR _ (Option.some.inj h) _ _ dX7_lack_19
set_option maxHeartbeats 2000000 in
set_option maxRecDepth 20000 in
theorem c_X7_canTell {t : Nat → ClassId} {N : Nat} {x0 : Int32} {x1 : Int32} {r : Int32} (h : F_X7_canTell N x0 x1 = some r) : CI t yX7_canTell cX7_canTell 2 (some .boolean) (rm 2) [.int x0, .int x1] [] r [] := by
  refine CZ.of (own := RX7) (by decide) rfl (Nat.le_of_ble_eq_true rfl) (fun X C hR0 => ?_)
  have hR : ∀ q : Int32, q = r → RetZ X cX7_canTell q [] := by intro q e; subst e; exact hR0
  show G X [] 0 [(0, .int x0), (1, .int x1)] []
  unfold F_X7_canTell at h
  refine G.iload_n C dX7_canTell_0 0 rfl ?_
  obtain ⟨q1, hq1, h⟩ := bind_some' h
  refine G.csI (cs' := []) C (c_X3_isRow hq1) [] rfl rfl rfl rfl k_363 cal_X3_isRow (fit_rm (by decide) (by decide)) rfl (Nat.le_of_ble_eq_true rfl) dX7_canTell_1 ?_
  refine G.if_eq (tgt := 22) C dX7_canTell_4 (by decide) h (fun h => ?_) (fun h => ?_)
  · refine G.iconst C dX7_canTell_22 ni_0 ?_
    exact hR _ (Option.some.inj h) (Or.inl rfl) _ _ dX7_canTell_23
  · refine G.iload_n C dX7_canTell_7 1 rfl ?_
    refine G.iconst C dX7_canTell_8 ni_1 ?_
    refine G.icmp_lt (tgt := 22) C dX7_canTell_9 (by decide) h (fun h => ?_) (fun h => ?_)
    · refine G.iconst C dX7_canTell_22 ni_0 ?_
      exact hR _ (Option.some.inj h) (Or.inl rfl) _ _ dX7_canTell_23
    · refine G.iload_n C dX7_canTell_12 1 rfl ?_
      refine G.bipush C dX7_canTell_13 nb_12 ?_
      refine G.icmp_gt (tgt := 22) C dX7_canTell_15 (by decide) h (fun h => ?_) (fun h => ?_)
      · refine G.iconst C dX7_canTell_22 ni_0 ?_
        exact hR _ (Option.some.inj h) (Or.inl rfl) _ _ dX7_canTell_23
      · refine G.iconst C dX7_canTell_18 ni_1 ?_
        refine G.goto (tgt := 23) C dX7_canTell_19 (by decide) ?_
        exact hR _ (Option.some.inj h) (Or.inr rfl) _ _ dX7_canTell_23
set_option maxHeartbeats 2000000 in
set_option maxRecDepth 20000 in
theorem c_X7_wander {t : Nat → ClassId} {ad : Nat → Nat → Nat} {N : Nat} {vR : SV} {vS : SV} {vE : SV} {vF : SV} {x1 : Int32} {x2 : Int32} {x3 : Int32} {x4 : Int32} {r : Int64 × SV} (h : F_X7_wander N vR vS vE vF x1 x2 x3 x4 = some r) : CL t yX7_wander cX7_wander 13 (some .long) (rm 7) [.ref (ad 0 0), .int x1, .int x2, .int x3, .int x4] [wRL t ad vR, wStage t (ad 3) vS, wSeer t ad vE, wStage t (ad 9) vF] (r.1) [wRL t ad vR, wStage t (ad 3) vS, wSeer t ad vE, wStage t (ad 9) (r.2)] := by
  refine CL.of (own := RX7) (by decide) rfl (Nat.le_of_ble_eq_true rfl) (fun X C hR0 => ?_)
  have hR : ∀ q : Int64 × SV, q = r → RetL X cX7_wander (q.1) [wRL t ad vR, wStage t (ad 3) vS, wSeer t ad vE, wStage t (ad 9) (q.2)] := by intro q e; subst e; exact hR0
  show G X [wRL t ad vR, wStage t (ad 3) vS, wSeer t ad vE, wStage t (ad 9) vF] 0 [(0, .ref (ad 0 0)), (1, .int x1), (2, .int x2), (3, .int x3), (4, .int x4)] []
  unfold F_X7_wander at h
  refine G.aload_n C dX7_wander_0 0 rfl ?_
  obtain ⟨q1, hq1, h⟩ := bind_some' h
  refine G.cvI (i0 := 0) (j0 := 0) (cs' := [wRL t ad vR, wStage t (ad 3) vS, wSeer t ad vE, wStage t (ad 9) vF]) C (c_X7_noShow (ad := ad) hq1) [0, 1] rfl rfl rfl rfl rfl rfl rfl k_632 cal_X7_noShow (fit_rm (by decide) (by decide)) rfl (Nat.le_of_ble_eq_true rfl) dX7_wander_1 ?_
  refine G.if_eq (tgt := 11) C dX7_wander_4 (by decide) h (fun h => ?_) (fun h => ?_)
  · refine G.iload_n C dX7_wander_11 1 rfl ?_
    refine G.if_lt (tgt := 32) C dX7_wander_12 (by decide) h (fun h => ?_) (fun h => ?_)
    · refine G.ldc2 C k_947 dX7_wander_32 ?_
      exact hR _ (Option.some.inj h) _ _ dX7_wander_35
    · refine G.iload_n C dX7_wander_15 1 rfl ?_
      refine G.sipush C dX7_wander_16 ns_999 ?_
      refine G.icmp_gt (tgt := 32) C dX7_wander_19 (by decide) h (fun h => ?_) (fun h => ?_)
      · refine G.ldc2 C k_947 dX7_wander_32 ?_
        exact hR _ (Option.some.inj h) _ _ dX7_wander_35
      · refine G.iload_n C dX7_wander_22 2 rfl ?_
        refine G.if_lt (tgt := 32) C dX7_wander_23 (by decide) h (fun h => ?_) (fun h => ?_)
        · refine G.ldc2 C k_947 dX7_wander_32 ?_
          exact hR _ (Option.some.inj h) _ _ dX7_wander_35
        · refine G.iload_n C dX7_wander_26 2 rfl ?_
          refine G.bipush C dX7_wander_27 nb_30 ?_
          refine G.icmp_le (tgt := 36) C dX7_wander_29 (by decide) h (fun h => ?_) (fun h => ?_)
          · refine G.iload_n C dX7_wander_36 3 rfl ?_
            refine G.if_lt (tgt := 57) C dX7_wander_37 (by decide) h (fun h => ?_) (fun h => ?_)
            · refine G.ldc2 C k_947 dX7_wander_57 ?_
              exact hR _ (Option.some.inj h) _ _ dX7_wander_60
            · refine G.iload_n C dX7_wander_40 3 rfl ?_
              refine G.bipush C dX7_wander_41 nb_10 ?_
              refine G.icmp_gt (tgt := 57) C dX7_wander_43 (by decide) h (fun h => ?_) (fun h => ?_)
              · refine G.ldc2 C k_947 dX7_wander_57 ?_
                exact hR _ (Option.some.inj h) _ _ dX7_wander_60
              · refine G.iload C dX7_wander_46 4 rfl ?_
                refine G.if_lt (tgt := 57) C dX7_wander_48 (by decide) h (fun h => ?_) (fun h => ?_)
                · refine G.ldc2 C k_947 dX7_wander_57 ?_
                  exact hR _ (Option.some.inj h) _ _ dX7_wander_60
                · refine G.iload C dX7_wander_51 4 rfl ?_
                  refine G.iconst C dX7_wander_53 ni_1 ?_
                  refine G.icmp_le (tgt := 61) C dX7_wander_54 (by decide) h (fun h => ?_) (fun h => ?_)
                  · refine G.aload_n C dX7_wander_61 0 rfl ?_
                    refine gfX7_49 (i := 0) (j := 0) (v := .ref (ad 8 0)) C rfl rfl rfl dX7_wander_62 ?_
                    refine G.aload_n C dX7_wander_65 0 rfl ?_
                    refine gfX7_26 (i := 0) (j := 0) (v := .ref (ad 3 0)) C rfl rfl rfl dX7_wander_66 ?_
                    refine G.iload_n C dX7_wander_69 1 rfl ?_
                    refine G.iload_n C dX7_wander_70 2 rfl ?_
                    refine G.iload_n C dX7_wander_71 3 rfl ?_
                    obtain ⟨q72, hq72, h⟩ := bind_some' h
                    refine G.cvL (i0 := 2) (j0 := 0) (cs' := [wRL t ad vR, wStage t (ad 3) vS, wSeer t ad vE, wStage t (ad 9) (q72.2)]) C (c_X4_likelyCases (ad := ad) hq72) [1, 2, 3] rfl rfl rfl rfl rfl rfl rfl k_948 cal_X4_likelyCases (fit_rm (by decide) (by decide)) rfl (Nat.le_of_ble_eq_true rfl) dX7_wander_72 ?_
                    refine G.lstore (lv' := [(5, .long (q72.1)), (0, .ref (ad 0 0)), (1, .int x1), (2, .int x2), (3, .int x3), (4, .int x4)]) C dX7_wander_75 (by decide) rfl ?_
                    refine G.bipush C dX7_wander_77 nb_10 ?_
                    refine G.aload_n C dX7_wander_79 1 rfl ?_
                    refine gfX7_26 (i := 0) (j := 0) (v := .ref (ad 3 0)) C rfl rfl rfl dX7_wander_80 ?_
                    refine G.iconst C dX7_wander_83 ni_0 ?_
                    obtain ⟨q84, hq84, h⟩ := bind_some' h
                    refine G.cvI (i0 := 1) (j0 := 0) (cs' := [wRL t ad vR, wStage t (ad 3) vS, wSeer t ad vE, wStage t (ad 9) (q72.2)]) C (c_X5_seatsThat (a := (ad 3)) hq84) [1] rfl rfl rfl rfl rfl rfl rfl k_715 cal_X5_seatsThat (fit_rm (by decide) (by decide)) rfl (Nat.le_of_ble_eq_true rfl) dX7_wander_84 ?_
                    obtain ⟨q87, hq87, h⟩ := bind_some' h
                    refine G.csI (cs' := [wRL t ad vR, wStage t (ad 3) vS, wSeer t ad vE, wStage t (ad 9) (q72.2)]) C (c_J6_bitCount_0f7a4 hq87) [] rfl rfl rfl rfl k_869 cal_J6_bitCount_0f7a4 (fit_rm (by decide) (by decide)) rfl (Nat.le_of_ble_eq_true rfl) dX7_wander_87 ?_
                    obtain ⟨q90, hq90, h⟩ := bind_some' h
                    refine G.csL (cs' := [wRL t ad vR, wStage t (ad 3) vS, wSeer t ad vE, wStage t (ad 9) (q72.2)]) C (c_X4_power hq90) [] rfl rfl rfl rfl k_961 cal_X4_power (fit_rm (by decide) (by decide)) rfl (Nat.le_of_ble_eq_true rfl) dX7_wander_90 ?_
                    refine G.lstore (lv' := [(7, .long q90), (5, .long (q72.1)), (0, .ref (ad 0 0)), (1, .int x1), (2, .int x2), (3, .int x3), (4, .int x4)]) C dX7_wander_93 (by decide) rfl ?_
                    refine G.lload C dX7_wander_95 1 rfl ?_
                    refine G.lload C dX7_wander_97 0 rfl ?_
                    obtain ⟨q99, hq99, h⟩ := bind_some' h
                    refine G.csL (cs' := [wRL t ad vR, wStage t (ad 3) vS, wSeer t ad vE, wStage t (ad 9) (q72.2)]) C (c_X4_commonDivisor hq99) [] rfl rfl rfl rfl k_962 cal_X4_commonDivisor (fit_rm (by decide) (by decide)) rfl (Nat.le_of_ble_eq_true rfl) dX7_wander_99 ?_
                    refine G.lstore (lv' := [(9, .long q99), (7, .long q90), (5, .long (q72.1)), (0, .ref (ad 0 0)), (1, .int x1), (2, .int x2), (3, .int x3), (4, .int x4)]) C dX7_wander_102 (by decide) rfl ?_
                    refine G.iload C dX7_wander_104 7 rfl ?_
                    refine jn_use (fun J => ∀ (s116_0 : Int64), J s116_0 = some r → G X [wRL t ad vR, wStage t (ad 3) vS, wSeer t ad vE, wStage t (ad 9) (q72.2)] 116 [(9, .long q99)] [.long s116_0]) h ?_ (fun J116 hJ116 h => ?_)
                    · intro s116_0 h
                      refine G.lstore (lv' := [(11, .long s116_0), (9, .long q99)]) C dX7_wander_116 (by decide) rfl ?_
                      refine G.lload C dX7_wander_118 1 rfl ?_
                      refine G.lconst C dX7_wander_120 nl_0 ?_
                      refine G.lcmp C dX7_wander_121 ?_
                      refine G.if_le (tgt := 133) C dX7_wander_122 (by decide) h (fun h => ?_) (fun h => ?_)
                      · refine G.lload C dX7_wander_133 0 rfl ?_
                        exact hR _ (Option.some.inj h) _ _ dX7_wander_135
                      · refine G.lload C dX7_wander_125 0 rfl ?_
                        refine G.lload C dX7_wander_127 1 rfl ?_
                        refine G.ldiv C dX7_wander_129 h (fun h => ?_)
                        refine G.goto (tgt := 135) C dX7_wander_130 (by decide) ?_
                        exact hR _ (Option.some.inj h) _ _ dX7_wander_135
                    refine G.if_ne (tgt := 114) C dX7_wander_106 (by decide) h (fun h => ?_) (fun h => ?_)
                    · refine G.lload C dX7_wander_114 1 rfl ?_
                      exact G.lvs [0] rfl (hJ116 _ h)
                    · refine G.lload C dX7_wander_109 2 rfl ?_
                      refine G.goto (tgt := 116) C dX7_wander_111 (by decide) ?_
                      exact G.lvs [0] rfl (hJ116 _ h)
                  · refine G.ldc2 C k_947 dX7_wander_57 ?_
                    exact hR _ (Option.some.inj h) _ _ dX7_wander_60
          · refine G.ldc2 C k_947 dX7_wander_32 ?_
            exact hR _ (Option.some.inj h) _ _ dX7_wander_35
  · refine G.ldc2 C k_946 dX7_wander_7 ?_
    exact hR _ (Option.some.inj h) _ _ dX7_wander_10
set_option maxHeartbeats 2000000 in
set_option maxRecDepth 20000 in
theorem c_X7_drawn {t : Nat → ClassId} {ad : Nat → Nat → Nat} {N : Nat} {vR : SV} {vS : SV} {vE : SV} {vF : SV} {x1 : Int32} {x2 : Int32} {x3 : Int32} {r : Int32 × SV} (h : F_X7_drawn N vR vS vE vF x1 x2 x3 = some r) : CI t yX7_drawn cX7_drawn 4 (some .int) (rm 5) [.ref (ad 0 0), .int x1, .int x2, .int x3] [wRL t ad vR, wStage t (ad 3) vS, wSeer t ad vE, wStage t (ad 9) vF] (r.1) [wRL t ad vR, wStage t (ad 3) vS, wSeer t ad vE, wStage t (ad 9) (r.2)] := by
  refine CI.of (own := RX7) (by decide) rfl (Nat.le_of_ble_eq_true rfl) (fun X C hR0 => ?_)
  have hR : ∀ q : Int32 × SV, q = r → RetI X cX7_drawn (q.1) [wRL t ad vR, wStage t (ad 3) vS, wSeer t ad vE, wStage t (ad 9) (q.2)] := by intro q e; subst e; exact hR0
  show G X [wRL t ad vR, wStage t (ad 3) vS, wSeer t ad vE, wStage t (ad 9) vF] 0 [(0, .ref (ad 0 0)), (1, .int x1), (2, .int x2), (3, .int x3)] []
  unfold F_X7_drawn at h
  refine G.aload_n C dX7_drawn_0 0 rfl ?_
  obtain ⟨q1, hq1, h⟩ := bind_some' h
  refine G.cvI (i0 := 0) (j0 := 0) (cs' := [wRL t ad vR, wStage t (ad 3) vS, wSeer t ad vE, wStage t (ad 9) vF]) C (c_X7_noShow (ad := ad) hq1) [0, 1] rfl rfl rfl rfl rfl rfl rfl k_632 cal_X7_noShow (fit_rm (by decide) (by decide)) rfl (Nat.le_of_ble_eq_true rfl) dX7_drawn_1 ?_
  refine G.if_eq (tgt := 10) C dX7_drawn_4 (by decide) h (fun h => ?_) (fun h => ?_)
  · refine G.iload_n C dX7_drawn_10 1 rfl ?_
    refine G.if_lt (tgt := 41) C dX7_drawn_11 (by decide) h (fun h => ?_) (fun h => ?_)
    · refine G.ldc C k_369 dX7_drawn_41 ?_
      exact hR _ (Option.some.inj h) _ _ dX7_drawn_43
    · refine G.iload_n C dX7_drawn_14 1 rfl ?_
      refine G.bipush C dX7_drawn_15 nb_60 ?_
      refine G.icmp_gt (tgt := 41) C dX7_drawn_17 (by decide) h (fun h => ?_) (fun h => ?_)
      · refine G.ldc C k_369 dX7_drawn_41 ?_
        exact hR _ (Option.some.inj h) _ _ dX7_drawn_43
      · refine G.iload_n C dX7_drawn_20 2 rfl ?_
        refine G.iconst C dX7_drawn_21 ni_1 ?_
        refine G.icmp_lt (tgt := 41) C dX7_drawn_22 (by decide) h (fun h => ?_) (fun h => ?_)
        · refine G.ldc C k_369 dX7_drawn_41 ?_
          exact hR _ (Option.some.inj h) _ _ dX7_drawn_43
        · refine G.iload_n C dX7_drawn_25 2 rfl ?_
          refine G.ldcw C k_969 dX7_drawn_26 ?_
          refine G.icmp_gt (tgt := 41) C dX7_drawn_29 (by decide) h (fun h => ?_) (fun h => ?_)
          · refine G.ldc C k_369 dX7_drawn_41 ?_
            exact hR _ (Option.some.inj h) _ _ dX7_drawn_43
          · refine G.iload_n C dX7_drawn_32 3 rfl ?_
            refine G.if_lt (tgt := 41) C dX7_drawn_33 (by decide) h (fun h => ?_) (fun h => ?_)
            · refine G.ldc C k_369 dX7_drawn_41 ?_
              exact hR _ (Option.some.inj h) _ _ dX7_drawn_43
            · refine G.iload_n C dX7_drawn_36 3 rfl ?_
              refine G.iconst C dX7_drawn_37 ni_1 ?_
              refine G.icmp_le (tgt := 44) C dX7_drawn_38 (by decide) h (fun h => ?_) (fun h => ?_)
              · refine G.aload_n C dX7_drawn_44 0 rfl ?_
                refine gfX7_49 (i := 0) (j := 0) (v := .ref (ad 8 0)) C rfl rfl rfl dX7_drawn_45 ?_
                refine G.aload_n C dX7_drawn_48 0 rfl ?_
                refine gfX7_26 (i := 0) (j := 0) (v := .ref (ad 3 0)) C rfl rfl rfl dX7_drawn_49 ?_
                refine G.iload_n C dX7_drawn_52 1 rfl ?_
                refine G.iload_n C dX7_drawn_53 2 rfl ?_
                refine G.iload_n C dX7_drawn_54 3 rfl ?_
                obtain ⟨q55, hq55, h⟩ := bind_some' h
                refine G.cvI (i0 := 2) (j0 := 0) (cs' := [wRL t ad vR, wStage t (ad 3) vS, wSeer t ad vE, wStage t (ad 9) (q55.2)]) C (c_X4_runByDraws (ad := ad) hq55) [1, 2, 3] rfl rfl rfl rfl rfl rfl rfl k_970 cal_X4_runByDraws (fit_rm (by decide) (by decide)) rfl (Nat.le_of_ble_eq_true rfl) dX7_drawn_55 ?_
                exact hR _ (Option.some.inj h) _ _ dX7_drawn_58
              · refine G.ldc C k_369 dX7_drawn_41 ?_
                exact hR _ (Option.some.inj h) _ _ dX7_drawn_43
  · refine G.ldc C k_622 dX7_drawn_7 ?_
    exact hR _ (Option.some.inj h) _ _ dX7_drawn_9
set_option maxHeartbeats 2000000 in
set_option maxRecDepth 20000 in
theorem c_X7_kind {t : Nat → ClassId} {ad : Nat → Nat → Nat} {N : Nat} {vR : SV} {vS : SV} {x1 : Int32} {r : Int32} (h : F_X7_kind N vR vS x1 = some r) : CI t yX7_kind cX7_kind 2 (some .int) (rm 2) [.ref (ad 0 0), .int x1] [wRL t ad vR, wStage t (ad 3) vS] r [wRL t ad vR, wStage t (ad 3) vS] := by
  refine CI.of (own := RX7) (by decide) rfl (Nat.le_of_ble_eq_true rfl) (fun X C hR0 => ?_)
  have hR : ∀ q : Int32, q = r → RetI X cX7_kind q [wRL t ad vR, wStage t (ad 3) vS] := by intro q e; subst e; exact hR0
  show G X [wRL t ad vR, wStage t (ad 3) vS] 0 [(0, .ref (ad 0 0)), (1, .int x1)] []
  unfold F_X7_kind at h
  refine G.aload_n C dX7_kind_0 0 rfl ?_
  refine gfX7_26 (i := 0) (j := 0) (v := .ref (ad 3 0)) C rfl rfl rfl dX7_kind_1 ?_
  refine G.iload_n C dX7_kind_4 1 rfl ?_
  obtain ⟨q5, hq5, h⟩ := bind_some' h
  refine G.cvI (i0 := 1) (j0 := 0) (cs' := [wRL t ad vR, wStage t (ad 3) vS]) C (c_X5_isThing (a := (ad 3)) hq5) [1] rfl rfl rfl rfl rfl rfl rfl k_687 cal_X5_isThing (fit_rm (by decide) (by decide)) rfl (Nat.le_of_ble_eq_true rfl) dX7_kind_5 ?_
  refine G.if_eq (tgt := 23) C dX7_kind_8 (by decide) h (fun h => ?_) (fun h => ?_)
  · refine G.ldc C k_369 dX7_kind_23 ?_
    exact hR _ (Option.some.inj h) _ _ dX7_kind_25
  · refine G.aload_n C dX7_kind_11 0 rfl ?_
    refine gfX7_26 (i := 0) (j := 0) (v := .ref (ad 3 0)) C rfl rfl rfl dX7_kind_12 ?_
    refine gfX7_325 (i := 1) (j := 0) (v := .ref (ad 3 1)) C rfl rfl rfl dX7_kind_15 ?_
    refine G.iload_n C dX7_kind_18 1 rfl ?_
    refine G.iald (i := 1) (j := 1) (f := (vS 1)) C rfl rfl h dX7_kind_19 (fun h => ?_)
    refine G.goto (tgt := 25) C dX7_kind_20 (by decide) ?_
    exact hR _ (Option.some.inj h) _ _ dX7_kind_25
set_option maxHeartbeats 2000000 in
set_option maxRecDepth 20000 in
theorem c_X7_trace {t : Nat → ClassId} {ad : Nat → Nat → Nat} {N : Nat} {vR : SV} {vK : SV} {x1 : Int32} {r : Int32} (h : F_X7_trace N vR vK x1 = some r) : CI t yX7_trace cX7_trace 2 (some .int) (rm 2) [.ref (ad 0 0), .int x1] [wRL t ad vR, wAsker t ad vK] r [wRL t ad vR, wAsker t ad vK] := by
  refine CI.of (own := RX7) (by decide) rfl (Nat.le_of_ble_eq_true rfl) (fun X C hR0 => ?_)
  have hR : ∀ q : Int32, q = r → RetI X cX7_trace q [wRL t ad vR, wAsker t ad vK] := by intro q e; subst e; exact hR0
  show G X [wRL t ad vR, wAsker t ad vK] 0 [(0, .ref (ad 0 0)), (1, .int x1)] []
  unfold F_X7_trace at h
  refine G.aload_n C dX7_trace_0 0 rfl ?_
  refine gfX7_63 (i := 0) (j := 0) (v := .ref (ad 12 0)) C rfl rfl rfl dX7_trace_1 ?_
  refine G.iload_n C dX7_trace_4 1 rfl ?_
  obtain ⟨q5, hq5, h⟩ := bind_some' h
  refine G.cvI (i0 := 1) (j0 := 0) (cs' := [wRL t ad vR, wAsker t ad vK]) C (c_X1_traced (ad := ad) hq5) [1] rfl rfl rfl rfl rfl rfl rfl k_1043 cal_X1_traced (fit_rm (by decide) (by decide)) rfl (Nat.le_of_ble_eq_true rfl) dX7_trace_5 ?_
  obtain ⟨q8, hq8, h⟩ := bind_some' h
  refine G.csI (cs' := [wRL t ad vR, wAsker t ad vK]) C (c_X7_orNone hq8) [] rfl rfl rfl rfl k_720 cal_X7_orNone (fit_rm (by decide) (by decide)) rfl (Nat.le_of_ble_eq_true rfl) dX7_trace_8 ?_
  exact hR _ (Option.some.inj h) _ _ dX7_trace_11
set_option maxHeartbeats 2000000 in
set_option maxRecDepth 20000 in
theorem c_X7_count {t : Nat → ClassId} {ad : Nat → Nat → Nat} {N : Nat} {vR : SV} {vW : SV} {vT : SV} {vS : SV} {vA : SV} {x1 : Int32} {r : Int32} (h : F_X7_count N vR vW vT vS vA x1 = some r) : CI t yX7_count cX7_count 2 (some .int) (rm 3) [.ref (ad 0 0), .int x1] [wRL t ad vR, wRows t ad vW, wTape t ad vT, wStage t (ad 3) vS, wActs t ad vA] r [wRL t ad vR, wRows t ad vW, wTape t ad vT, wStage t (ad 3) vS, wActs t ad vA] := by
  refine CI.of (own := RX7) (by decide) rfl (Nat.le_of_ble_eq_true rfl) (fun X C hR0 => ?_)
  have hR : ∀ q : Int32, q = r → RetI X cX7_count q [wRL t ad vR, wRows t ad vW, wTape t ad vT, wStage t (ad 3) vS, wActs t ad vA] := by intro q e; subst e; exact hR0
  show G X [wRL t ad vR, wRows t ad vW, wTape t ad vT, wStage t (ad 3) vS, wActs t ad vA] 0 [(0, .ref (ad 0 0)), (1, .int x1)] []
  unfold F_X7_count at h
  refine G.iload_n C dX7_count_0 1 rfl ?_
  by_cases e_0 : x1 = 0
  · rw [if_pos e_0] at h
    have n_0 : x1.toInt = 0 := by rw [e_0]; decide
    refine G.tableIn (tgt := 48) C dX7_count_1 (by rw [n_0]; decide) (by rw [n_0]; decide) (by rw [n_0]; rfl) (by decide) ?_
    refine G.aload_n C dX7_count_48 0 rfl ?_
    refine gfX7_10 (i := 0) (j := 0) (v := .ref (ad 1 0)) C rfl rfl rfl dX7_count_49 ?_
    obtain ⟨q52, hq52, h⟩ := bind_some' h
    refine G.cvI (i0 := 1) (j0 := 0) (cs' := [wRL t ad vR, wRows t ad vW, wTape t ad vT, wStage t (ad 3) vS, wActs t ad vA]) C (c_X3_present (ad := ad) hq52) [1] rfl rfl rfl rfl rfl rfl rfl k_1051 cal_X3_present (fit_rm (by decide) (by decide)) rfl (Nat.le_of_ble_eq_true rfl) dX7_count_52 ?_
    exact hR _ (Option.some.inj h) _ _ dX7_count_55
  rw [if_neg e_0] at h
  by_cases e_1 : x1 = 1
  · rw [if_pos e_1] at h
    have n_1 : x1.toInt = 1 := by rw [e_1]; decide
    refine G.tableIn (tgt := 56) C dX7_count_1 (by rw [n_1]; decide) (by rw [n_1]; decide) (by rw [n_1]; rfl) (by decide) ?_
    refine G.aload_n C dX7_count_56 0 rfl ?_
    refine gfX7_26 (i := 0) (j := 0) (v := .ref (ad 3 0)) C rfl rfl rfl dX7_count_57 ?_
    refine gfX7_138 (i := 3) (j := 0) (v := .int (vS 0 2)) C rfl rfl rfl dX7_count_60 ?_
    exact hR _ (Option.some.inj h) _ _ dX7_count_63
  rw [if_neg e_1] at h
  by_cases e_2 : x1 = 2
  · rw [if_pos e_2] at h
    have n_2 : x1.toInt = 2 := by rw [e_2]; decide
    refine G.tableIn (tgt := 64) C dX7_count_1 (by rw [n_2]; decide) (by rw [n_2]; decide) (by rw [n_2]; rfl) (by decide) ?_
    refine G.aload_n C dX7_count_64 0 rfl ?_
    refine gfX7_26 (i := 0) (j := 0) (v := .ref (ad 3 0)) C rfl rfl rfl dX7_count_65 ?_
    refine gfX7_343 (i := 3) (j := 0) (v := .int (vS 0 3)) C rfl rfl rfl dX7_count_68 ?_
    exact hR _ (Option.some.inj h) _ _ dX7_count_71
  rw [if_neg e_2] at h
  by_cases e_3 : x1 = 3
  · rw [if_pos e_3] at h
    have n_3 : x1.toInt = 3 := by rw [e_3]; decide
    refine G.tableIn (tgt := 72) C dX7_count_1 (by rw [n_3]; decide) (by rw [n_3]; decide) (by rw [n_3]; rfl) (by decide) ?_
    refine G.aload_n C dX7_count_72 0 rfl ?_
    refine gfX7_26 (i := 0) (j := 0) (v := .ref (ad 3 0)) C rfl rfl rfl dX7_count_73 ?_
    refine gfX7_154 (i := 3) (j := 0) (v := .int (vS 0 5)) C rfl rfl rfl dX7_count_76 ?_
    exact hR _ (Option.some.inj h) _ _ dX7_count_79
  rw [if_neg e_3] at h
  by_cases e_4 : x1 = 4
  · rw [if_pos e_4] at h
    have n_4 : x1.toInt = 4 := by rw [e_4]; decide
    refine G.tableIn (tgt := 80) C dX7_count_1 (by rw [n_4]; decide) (by rw [n_4]; decide) (by rw [n_4]; rfl) (by decide) ?_
    refine G.aload_n C dX7_count_80 0 rfl ?_
    refine gfX7_26 (i := 0) (j := 0) (v := .ref (ad 3 0)) C rfl rfl rfl dX7_count_81 ?_
    refine gfX7_182 (i := 3) (j := 0) (v := .int (vS 0 4)) C rfl rfl rfl dX7_count_84 ?_
    exact hR _ (Option.some.inj h) _ _ dX7_count_87
  rw [if_neg e_4] at h
  by_cases e_5 : x1 = 5
  · rw [if_pos e_5] at h
    have n_5 : x1.toInt = 5 := by rw [e_5]; decide
    refine G.tableIn (tgt := 88) C dX7_count_1 (by rw [n_5]; decide) (by rw [n_5]; decide) (by rw [n_5]; rfl) (by decide) ?_
    refine G.aload_n C dX7_count_88 0 rfl ?_
    refine gfX7_26 (i := 0) (j := 0) (v := .ref (ad 3 0)) C rfl rfl rfl dX7_count_89 ?_
    refine gfX7_163 (i := 3) (j := 0) (v := .int (vS 0 6)) C rfl rfl rfl dX7_count_92 ?_
    exact hR _ (Option.some.inj h) _ _ dX7_count_95
  rw [if_neg e_5] at h
  by_cases e_6 : x1 = 6
  · rw [if_pos e_6] at h
    have n_6 : x1.toInt = 6 := by rw [e_6]; decide
    refine G.tableIn (tgt := 96) C dX7_count_1 (by rw [n_6]; decide) (by rw [n_6]; decide) (by rw [n_6]; rfl) (by decide) ?_
    refine G.aload_n C dX7_count_96 0 rfl ?_
    refine gfX7_36 (i := 0) (j := 0) (v := .ref (ad 5 0)) C rfl rfl rfl dX7_count_97 ?_
    obtain ⟨q100, hq100, h⟩ := bind_some' h
    refine G.cvI (i0 := 4) (j0 := 0) (cs' := [wRL t ad vR, wRows t ad vW, wTape t ad vT, wStage t (ad 3) vS, wActs t ad vA]) C (c_X0_kept (ad := ad) hq100) [4] rfl rfl rfl rfl rfl rfl rfl k_618 cal_X0_kept (fit_rm (by decide) (by decide)) rfl (Nat.le_of_ble_eq_true rfl) dX7_count_100 ?_
    exact hR _ (Option.some.inj h) _ _ dX7_count_103
  rw [if_neg e_6] at h
  by_cases e_7 : x1 = 7
  · rw [if_pos e_7] at h
    have n_7 : x1.toInt = 7 := by rw [e_7]; decide
    refine G.tableIn (tgt := 104) C dX7_count_1 (by rw [n_7]; decide) (by rw [n_7]; decide) (by rw [n_7]; rfl) (by decide) ?_
    refine G.aload_n C dX7_count_104 0 rfl ?_
    refine gfX7_19 (i := 0) (j := 0) (v := .ref (ad 2 0)) C rfl rfl rfl dX7_count_105 ?_
    obtain ⟨q108, hq108, h⟩ := bind_some' h
    refine G.cvI (i0 := 2) (j0 := 0) (cs' := [wRL t ad vR, wRows t ad vW, wTape t ad vT, wStage t (ad 3) vS, wActs t ad vA]) C (c_X6_length (ad := ad) hq108) [2] rfl rfl rfl rfl rfl rfl rfl k_1055 cal_X6_length (fit_rm (by decide) (by decide)) rfl (Nat.le_of_ble_eq_true rfl) dX7_count_108 ?_
    exact hR _ (Option.some.inj h) _ _ dX7_count_111
  rw [if_neg e_7] at h
  have n_0 : x1.toInt ≠ 0 := fun h9 => e_0 (Int32.toInt_inj.mp (by rw [h9]; decide))
  have n_1 : x1.toInt ≠ 1 := fun h9 => e_1 (Int32.toInt_inj.mp (by rw [h9]; decide))
  have n_2 : x1.toInt ≠ 2 := fun h9 => e_2 (Int32.toInt_inj.mp (by rw [h9]; decide))
  have n_3 : x1.toInt ≠ 3 := fun h9 => e_3 (Int32.toInt_inj.mp (by rw [h9]; decide))
  have n_4 : x1.toInt ≠ 4 := fun h9 => e_4 (Int32.toInt_inj.mp (by rw [h9]; decide))
  have n_5 : x1.toInt ≠ 5 := fun h9 => e_5 (Int32.toInt_inj.mp (by rw [h9]; decide))
  have n_6 : x1.toInt ≠ 6 := fun h9 => e_6 (Int32.toInt_inj.mp (by rw [h9]; decide))
  have n_7 : x1.toInt ≠ 7 := fun h9 => e_7 (Int32.toInt_inj.mp (by rw [h9]; decide))
  refine G.tableOut (tgt := 112) C dX7_count_1 (by omega) (by decide) ?_
  refine G.ldc C k_369 dX7_count_112 ?_
  exact hR _ (Option.some.inj h) _ _ dX7_count_114
set_option maxHeartbeats 2000000 in
set_option maxRecDepth 20000 in
theorem c_X7_status {t : Nat → ClassId} {ad : Nat → Nat → Nat} {N : Nat} {vR : SV} {r : Int32} (h : F_X7_status N vR = some r) : CI t yX7_status cX7_status 1 (some .int) (rm 1) [.ref (ad 0 0)] [wRL t ad vR] r [wRL t ad vR] := by
  refine CI.of (own := RX7) (by decide) rfl (Nat.le_of_ble_eq_true rfl) (fun X C hR0 => ?_)
  have hR : ∀ q : Int32, q = r → RetI X cX7_status q [wRL t ad vR] := by intro q e; subst e; exact hR0
  show G X [wRL t ad vR] 0 [(0, .ref (ad 0 0))] []
  unfold F_X7_status at h
  refine G.aload_n C dX7_status_0 0 rfl ?_
  refine gfX7_67 (i := 0) (j := 0) (v := .int (vR 0 10)) C rfl rfl rfl dX7_status_1 ?_
  exact hR _ (Option.some.inj h) _ _ dX7_status_4
