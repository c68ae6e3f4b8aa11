def F_X2_bestOrderClapped (N : Nat) (vP : SV) : Option (Int32) := some (vP 0 5)
def F_X2_bestOrderPleased (N : Nat) (vP : SV) : Option (Int32) := some (vP 0 6)
def F_X2_bestOrderThing (N : Nat) (vP : SV) (x1 : Int32) : Option (Int32) := if x1 < (0 : Int32) then (some (-1 : Int32)) else (if x1 < (vP 0 4) then (if x1 < (6 : Int32) then (chk 6 x1 (some ((vP 2) (x1.toNatClampNeg)))) else (some (-1 : Int32))) else (some (-1 : Int32)))
def F_X2_isBetterPack (N : Nat) (vS : SV) (x1 : Int32) (x2 : Int32) : Option (Int32) := (F_X5_sumOver_j N vS x1).bind (fun q6 => (F_X5_sumOver_j N vS x2).bind (fun q16 => if q6 = q16 then ((F_J6_bitCount_0f7a4 N x1).bind (fun q40 => (F_J6_bitCount_0f7a4 N x2).bind (fun q44 => if q40 < q44 then (some (1 : Int32)) else (some (0 : Int32))))) else (if q16 < q6 then (some (1 : Int32)) else (some (0 : Int32)))))
def F_X2_bestPack_L4 (N : Nat) (vS : SV) (vP : SV) : Nat → Int32 → Int32 → Option (Int32)
  | 0, _, _ => none
  | n + 1, x2, x3 => if x3 < ((1 : Int32) <<< ((vS 0 2) &&& 31)) then ((F_X5_sumOver_w N vS x3).bind (fun q20 => jn (fun (x2_41 : Int32) => F_X2_bestPack_L4 N vS vP n x2_41 (x3 + (1 : Int32))) (fun J41 => if (vS 0 0) < q20 then (J41 x2) else ((F_X2_isBetterPack N vS x3 x2).bind (fun q33 => if q33 = (0 : Int32) then (J41 x2) else (J41 x3)))))) else (some x2)
def F_X2_bestPack (N : Nat) (vS : SV) (vP : SV) : Option (Int32) := F_X2_bestPack_L4 N vS vP N (0 : Int32) (1 : Int32)
def F_X2_isListed_L2 (N : Nat) (vS : SV) (x1 : Int32) : Nat → Int32 → Option (Int32)
  | 0, _ => none
  | n + 1, x2 => if x2 < (6 : Int32) then (jn (fun (u_27 : Unit) => F_X2_isListed_L2 N vS x1 n (x2 + (1 : Int32))) (fun J27 => if ((x1 >>> (x2 &&& 31)) &&& (1 : Int32)) = (1 : Int32) then ((F_X5_placeOf N vS x2).bind (fun q19 => if q19 < (0 : Int32) then (some (0 : Int32)) else (J27 ()))) else (J27 ()))) else (some (1 : Int32))
def F_X2_isListed (N : Nat) (vS : SV) (x1 : Int32) : Option (Int32) := F_X2_isListed_L2 N vS x1 N (0 : Int32)
def F_X2_pleasesWithout_L11 (N : Nat) (vS : SV) (vP : SV) (x2 : Int32) (x3 : Int32) (x4 : Int32) (K43 : SV → Option (Int32 × SV)) : Nat → Int32 → SV → Option (Int32 × SV)
  | 0, _, _ => none
  | n + 1, x5, vQ => if x5 < (6 : Int32) then (jn (fun (vQ_37 : SV) => F_X2_pleasesWithout_L11 N vS vP x2 x3 x4 K43 n (x5 + (1 : Int32)) vQ_37) (fun J37 => if ((x2 >>> (x5 &&& 31)) &&& (1 : Int32)) = (1 : Int32) then ((F_X5_takeOff N vQ x5).bind (fun q34 => J37 q34)) else (J37 vQ))) else (K43 vQ)
def F_X2_pleasesWithout (N : Nat) (vS : SV) (vP : SV) (vQ : SV) (x2 : Int32) (x3 : Int32) (x4 : Int32) : Option (Int32 × SV) := (F_X5_takeOver N vQ vS).bind (fun q5 => F_X2_pleasesWithout_L11 N vS vP x2 x3 x4 (fun (vQ_43 : SV) => (F_X5_tapWhileOneWaits N vQ_43 x4).bind (fun q49 => chk 6 x3 (if ((q49 7) (x3.toNatClampNeg)) = (1 : Int32) then (some ((1 : Int32), q49)) else (some ((0 : Int32), q49))))) N (0 : Int32) q5)
def F_X2_fewestOff_L6 (N : Nat) (vS : SV) (vP : SV) (x2 : Int32) (x3 : Int32) : Nat → Int32 → Int32 → SV → Option (Int32 × SV)
  | 0, _, _, _ => none
  | n + 1, x4, x5, vQ => if x5 < (64 : Int32) then (jn (fun (s36_0 : Int32) => jn (fun (x4_68 : Int32) (vQ_68 : SV) => F_X2_fewestOff_L6 N vS vP x2 x3 n x4_68 (x5 + (1 : Int32)) vQ_68) (fun J68 => if s36_0 = (0 : Int32) then (J68 x4 vQ) else ((F_X2_isListed N vS x5).bind (fun q46 => if q46 = (0 : Int32) then (J68 x4 vQ) else ((F_X2_pleasesWithout N vS vP vQ x5 x2 x3).bind (fun q58 => if (q58.1) = (0 : Int32) then (J68 x4 (q58.2)) else (J68 x5 (q58.2)))))))) (fun J36 => jn (fun (u_31 : Unit) => J36 (1 : Int32)) (fun J31 => if x4 < (0 : Int32) then (J31 ()) else ((F_J6_bitCount_0f7a4 N x5).bind (fun q20 => (F_J6_bitCount_0f7a4 N x4).bind (fun q25 => if q20 < q25 then (J31 ()) else (J36 (0 : Int32)))))))) else (some (x4, vQ))
def F_X2_fewestOff (N : Nat) (vS : SV) (vP : SV) (vQ : SV) (x2 : Int32) (x3 : Int32) : Option (Int32 × SV) := F_X2_fewestOff_L6 N vS vP x2 x3 N (-1 : Int32) (0 : Int32) vQ
def F_X2_clappedIfFirst (N : Nat) (vS : SV) (vP : SV) (vQ : SV) (x2 : Int32) (x3 : Int32) : Option (Int32 × SV) := (F_X5_takeOver N vQ vS).bind (fun q5 => (F_X5_putFirst N q5 x2).bind (fun q13 => (F_X5_tapWhileOneWaits N q13 x3).bind (fun q21 => some ((q21 0 6), q21))))
def F_X2_bestFirst_L8 (N : Nat) (vS : SV) (vP : SV) (x2 : Int32) : Nat → Int32 → Int32 → Int32 → SV → Option (Int32 × SV)
  | 0, _, _, _, _ => none
  | n + 1, x3, x4, x5, vQ => if x5 < (vS 0 2) then ((F_X2_clappedIfFirst N vS vP vQ x5 x2).bind (fun q22 => jn (fun (x3_41 : Int32) (x4_41 : Int32) => F_X2_bestFirst_L8 N vS vP x2 n x3_41 x4_41 (x5 + (1 : Int32)) (q22.2)) (fun J41 => if x4 < (q22.1) then (J41 x5 (q22.1)) else (J41 x3 x4)))) else (some (x3, vQ))
def F_X2_bestFirst (N : Nat) (vS : SV) (vP : SV) (vQ : SV) (x2 : Int32) : Option (Int32 × SV) := F_X2_bestFirst_L8 N vS vP x2 N (0 : Int32) (-1 : Int32) (0 : Int32) vQ
def F_X2_keepIfBetter (N : Nat) (vP : SV) (w : SV) : Option (SV) := if (vP 0 5) < (w 0 6) then ((F_X5_seatsThat N w (1 : Int32)).bind (fun q23 => cpk 6 6 (0 : Int32) (0 : Int32) (6 : Int32) (some (upA (up2 (up2 vP 0 5 (w 0 6)) 0 6 q23) 2 (va_cpy (vP 1) (vP 2) ((0 : Int32).toNatClampNeg) ((0 : Int32).toNatClampNeg) ((6 : Int32).toNatClampNeg)))))) else (some vP)
def F_X2_tryOrders_L33 (N : Nat) (Fr : SV → (Nat → SV) → Int32 → Int32 → Option (SV × (Nat → SV))) (x1 : Int32) (x2 : Int32) : Nat → Int32 → SV → (Nat → SV) → Option (SV × (Nat → SV))
  | 0, _, _, _ => none
  | n + 1, x4, vP, gL => if x4 < (6 : Int32) then (jn (fun (vP_89 : SV) (gL_89 : (Nat → SV)) => F_X2_tryOrders_L33 N Fr x1 x2 n (x4 + (1 : Int32)) vP_89 gL_89) (fun J89 => if ((x1 >>> (x4 &&& 31)) &&& (1 : Int32)) = (1 : Int32) then (chk 7 x2 (nei ((x2 + (1 : Int32)).toNatClampNeg) (x2.toNatClampNeg) ((F_X5_takeOver N (gL ((x2 + (1 : Int32)).toNatClampNeg)) (gL (x2.toNatClampNeg))).bind (fun q57 => (F_X5_handUp N ((upF gL ((x2 + (1 : Int32)).toNatClampNeg) q57) ((x2 + (1 : Int32)).toNatClampNeg)) x4).bind (fun q63 => chk 6 x2 ((Fr (up2 vP 1 (x2.toNatClampNeg) x4) (upF (upF gL ((x2 + (1 : Int32)).toNatClampNeg) q57) ((x2 + (1 : Int32)).toNatClampNeg) q63) (x1 &&& (((1 : Int32) <<< (x4 &&& 31)) ^^^ (-1 : Int32))) (x2 + (1 : Int32))).bind (fun q86 => J89 (q86.1) (q86.2)))))))) else (J89 vP gL))) else (some (vP, gL))
def F_X2_tryOrders (N : Nat) (Fr : SV → (Nat → SV) → Int32 → Int32 → Option (SV × (Nat → SV))) (vP : SV) (gL : (Nat → SV)) (x1 : Int32) (x2 : Int32) : Option (SV × (Nat → SV)) := jn (fun (u_10 : Unit) => chk 7 x2 ((F_X2_keepIfBetter N vP (gL (x2.toNatClampNeg))).bind (fun q17 => some (q17, gL)))) (fun J10 => if x1 = (0 : Int32) then (J10 ()) else (if x2 < (6 : Int32) then (chk 7 (x2 + (1 : Int32)) (F_X2_tryOrders_L33 N Fr x1 x2 N (0 : Int32) vP gL)) else (J10 ())))
def F_X2_tryOrdersK (N : Nat) : Nat → SV → (Nat → SV) → Int32 → Int32 → Option (SV × (Nat → SV))
  | 0 => fun _ _ _ _ => none
  | k + 1 => F_X2_tryOrders N (F_X2_tryOrdersK N k)
def F_X2_tryOrdersC (N : Nat) (vP : SV) (gL : Nat → SV) (x1 : Int32) (x2 : Int32) : Option (SV × (Nat → SV)) := F_X2_tryOrdersK N 8 vP gL x1 x2
def F_X2_findBestOrder_L4 (N : Nat) (vS : SV) (vP : SV) (gL : (Nat → SV)) (K29 : Int32 → Option (SV × (Nat → SV))) : Nat → Int32 → Int32 → Option (SV × (Nat → SV))
  | 0, _, _ => none
  | n + 1, x2, x3 => if x3 < (vS 0 4) then (chk 6 x3 (F_X2_findBestOrder_L4 N vS vP gL K29 n (x2 ||| ((1 : Int32) <<< (((vS 8) (x3.toNatClampNeg)) &&& 31))) (x3 + (1 : Int32)))) else (K29 x2)
def F_X2_findBestOrder (N : Nat) (vS : SV) (vP : SV) (gL : (Nat → SV)) : Option (SV × (Nat → SV)) := F_X2_findBestOrder_L4 N vS vP gL (fun (x2_29 : Int32) => chk 7 (0 : Int32) ((F_X5_takeOver N (gL ((0 : Int32).toNatClampNeg)) vS).bind (fun q49 => (F_X2_tryOrdersC N (up2 (up2 vP 0 5 (-1 : Int32)) 0 4 (vS 0 4)) (upF gL ((0 : Int32).toNatClampNeg) q49) x2_29 (0 : Int32)).bind (fun q55 => some ((q55.1), (q55.2)))))) N (0 : Int32) (0 : Int32)
set_option maxHeartbeats 2000000 in
set_option maxRecDepth 20000 in
theorem c_X2_bestOrderClapped {t : Nat → ClassId} {ad : Nat → Nat → Nat} {N : Nat} {vP : SV} {r : Int32} (h : F_X2_bestOrderClapped N vP = some r) : CI t yX2_bestOrderClapped cX2_bestOrderClapped 1 (some .int) (rm 1) [.ref (ad 10 0)] [wPlanner t ad vP] r [wPlanner t ad vP] := by
  refine CI.of (own := RX2) (by decide) rfl (Nat.le_of_ble_eq_true rfl) (fun X C hR0 => ?_)
  have hR : ∀ q : Int32, q = r → RetI X cX2_bestOrderClapped q [wPlanner t ad vP] := by intro q e; subst e; exact hR0
  show G X [wPlanner t ad vP] 0 [(0, .ref (ad 10 0))] []
  unfold F_X2_bestOrderClapped at h
  refine G.aload_n C dX2_bestOrderClapped_0 0 rfl ?_
  refine gfX2_34 (i := 0) (j := 0) (v := .int (vP 0 5)) C rfl rfl rfl dX2_bestOrderClapped_1 ?_
  exact hR _ (Option.some.inj h) _ _ dX2_bestOrderClapped_4
set_option maxHeartbeats 2000000 in
set_option maxRecDepth 20000 in
theorem c_X2_bestOrderPleased {t : Nat → ClassId} {ad : Nat → Nat → Nat} {N : Nat} {vP : SV} {r : Int32} (h : F_X2_bestOrderPleased N vP = some r) : CI t yX2_bestOrderPleased cX2_bestOrderPleased 1 (some .int) (rm 1) [.ref (ad 10 0)] [wPlanner t ad vP] r [wPlanner t ad vP] := by
  refine CI.of (own := RX2) (by decide) rfl (Nat.le_of_ble_eq_true rfl) (fun X C hR0 => ?_)
  have hR : ∀ q : Int32, q = r → RetI X cX2_bestOrderPleased q [wPlanner t ad vP] := by intro q e; subst e; exact hR0
  show G X [wPlanner t ad vP] 0 [(0, .ref (ad 10 0))] []
  unfold F_X2_bestOrderPleased at h
  refine G.aload_n C dX2_bestOrderPleased_0 0 rfl ?_
  refine gfX2_62 (i := 0) (j := 0) (v := .int (vP 0 6)) C rfl rfl rfl dX2_bestOrderPleased_1 ?_
  exact hR _ (Option.some.inj h) _ _ dX2_bestOrderPleased_4
set_option maxHeartbeats 2000000 in
set_option maxRecDepth 20000 in
theorem c_X2_bestOrderThing {t : Nat → ClassId} {ad : Nat → Nat → Nat} {N : Nat} {vP : SV} {x1 : Int32} {r : Int32} (h : F_X2_bestOrderThing N vP x1 = some r) : CI t yX2_bestOrderThing cX2_bestOrderThing 2 (some .int) (rm 1) [.ref (ad 10 0), .int x1] [wPlanner t ad vP] r [wPlanner t ad vP] := by
  refine CI.of (own := RX2) (by decide) rfl (Nat.le_of_ble_eq_true rfl) (fun X C hR0 => ?_)
  have hR : ∀ q : Int32, q = r → RetI X cX2_bestOrderThing q [wPlanner t ad vP] := by intro q e; subst e; exact hR0
  show G X [wPlanner t ad vP] 0 [(0, .ref (ad 10 0)), (1, .int x1)] []
  unfold F_X2_bestOrderThing at h
  refine G.iload_n C dX2_bestOrderThing_0 1 rfl ?_
  refine G.if_lt (tgt := 27) C dX2_bestOrderThing_1 (by decide) h (fun h => ?_) (fun h => ?_)
  · refine G.iconst C dX2_bestOrderThing_27 ni_m1 ?_
    exact hR _ (Option.some.inj h) _ _ dX2_bestOrderThing_28
  · refine G.iload_n C dX2_bestOrderThing_4 1 rfl ?_
    refine G.aload_n C dX2_bestOrderThing_5 0 rfl ?_
    refine gfX2_37 (i := 0) (j := 0) (v := .int (vP 0 4)) C rfl rfl rfl dX2_bestOrderThing_6 ?_
    refine G.icmp_ge (tgt := 27) C dX2_bestOrderThing_9 (by decide) h (fun h => ?_) (fun h => ?_)
    · refine G.iconst C dX2_bestOrderThing_27 ni_m1 ?_
      exact hR _ (Option.some.inj h) _ _ dX2_bestOrderThing_28
    · refine G.iload_n C dX2_bestOrderThing_12 1 rfl ?_
      refine G.bipush C dX2_bestOrderThing_13 nb_6 ?_
      refine G.icmp_ge (tgt := 27) C dX2_bestOrderThing_15 (by decide) h (fun h => ?_) (fun h => ?_)
      · refine G.iconst C dX2_bestOrderThing_27 ni_m1 ?_
        exact hR _ (Option.some.inj h) _ _ dX2_bestOrderThing_28
      · refine G.aload_n C dX2_bestOrderThing_18 0 rfl ?_
        refine gfX2_24 (i := 0) (j := 0) (v := .ref (ad 10 2)) C rfl rfl rfl dX2_bestOrderThing_19 ?_
        refine G.iload_n C dX2_bestOrderThing_22 1 rfl ?_
        refine G.iald (i := 0) (j := 2) (f := (vP 2)) C rfl rfl h dX2_bestOrderThing_23 (fun h => ?_)
        refine G.goto (tgt := 28) C dX2_bestOrderThing_24 (by decide) ?_
        exact hR _ (Option.some.inj h) _ _ dX2_bestOrderThing_28
set_option maxHeartbeats 2000000 in
set_option maxRecDepth 20000 in
theorem c_X2_isBetterPack {t : Nat → ClassId} {ad : Nat → Nat → Nat} {N : Nat} {vS : SV} {x1 : Int32} {x2 : Int32} {r : Int32} (h : F_X2_isBetterPack N vS x1 x2 = some r) : CI t yX2_isBetterPack cX2_isBetterPack 5 (some .boolean) (rm 2) [.ref (ad 3 0), .int x1, .int x2] [wStage t (ad 3) vS] r [wStage t (ad 3) vS] := by
  refine CZ.of (own := RX2) (by decide) rfl (Nat.le_of_ble_eq_true rfl) (fun X C hR0 => ?_)
  have hR : ∀ q : Int32, q = r → RetZ X cX2_isBetterPack q [wStage t (ad 3) vS] := by intro q e; subst e; exact hR0
  show G X [wStage t (ad 3) vS] 0 [(0, .ref (ad 3 0)), (1, .int x1), (2, .int x2)] []
  unfold F_X2_isBetterPack at h
  refine G.aload_n C dX2_isBetterPack_0 0 rfl ?_
  refine G.iload_n C dX2_isBetterPack_1 1 rfl ?_
  refine G.aload_n C dX2_isBetterPack_2 0 rfl ?_
  refine gfX2_88 (i := 0) (j := 0) (v := .ref (ad 3 4)) C rfl rfl rfl dX2_isBetterPack_3 ?_
  obtain ⟨q6, hq6, h⟩ := bind_some' h
  refine G.cvI (i0 := 0) (j0 := 0) (cs' := [wStage t (ad 3) vS]) C (c_X5_sumOver_j (a := (ad 3)) hq6) [0] rfl rfl rfl rfl rfl rfl rfl k_821 cal_X5_sumOver (fit_rm (by decide) (by decide)) rfl (Nat.le_of_ble_eq_true rfl) dX2_isBetterPack_6 ?_
  refine G.istore_n (lv' := [(3, .int q6), (0, .ref (ad 3 0)), (1, .int x1), (2, .int x2)]) C dX2_isBetterPack_9 (by decide) rfl ?_
  refine G.aload_n C dX2_isBetterPack_10 1 rfl ?_
  refine G.iload_n C dX2_isBetterPack_11 3 rfl ?_
  refine G.aload_n C dX2_isBetterPack_12 1 rfl ?_
  refine gfX2_88 (i := 0) (j := 0) (v := .ref (ad 3 4)) C rfl rfl rfl dX2_isBetterPack_13 ?_
  obtain ⟨q16, hq16, h⟩ := bind_some' h
  refine G.cvI (i0 := 0) (j0 := 0) (cs' := [wStage t (ad 3) vS]) C (c_X5_sumOver_j (a := (ad 3)) hq16) [0] rfl rfl rfl rfl rfl rfl rfl k_821 cal_X5_sumOver (fit_rm (by decide) (by decide)) rfl (Nat.le_of_ble_eq_true rfl) dX2_isBetterPack_16 ?_
  refine G.istore (lv' := [(4, .int q16), (3, .int q6), (0, .ref (ad 3 0)), (1, .int x1), (2, .int x2)]) C dX2_isBetterPack_19 (by decide) rfl ?_
  refine G.iload_n C dX2_isBetterPack_21 1 rfl ?_
  refine G.iload C dX2_isBetterPack_22 0 rfl ?_
  refine G.icmp_eq (tgt := 39) C dX2_isBetterPack_24 (by decide) h (fun h => ?_) (fun h => ?_)
  · refine G.iload_n C dX2_isBetterPack_39 3 rfl ?_
    obtain ⟨q40, hq40, h⟩ := bind_some' h
    refine G.csI (cs' := [wStage t (ad 3) vS]) C (c_J6_bitCount_0f7a4 hq40) [] rfl rfl rfl rfl k_828 cal_J6_bitCount_0f7a4 (fit_rm (by decide) (by decide)) rfl (Nat.le_of_ble_eq_true rfl) dX2_isBetterPack_40 ?_
    refine G.iload_n C dX2_isBetterPack_43 4 rfl ?_
    obtain ⟨q44, hq44, h⟩ := bind_some' h
    refine G.csI (cs' := [wStage t (ad 3) vS]) C (c_J6_bitCount_0f7a4 hq44) [] rfl rfl rfl rfl k_828 cal_J6_bitCount_0f7a4 (fit_rm (by decide) (by decide)) rfl (Nat.le_of_ble_eq_true rfl) dX2_isBetterPack_44 ?_
    refine G.icmp_ge (tgt := 54) C dX2_isBetterPack_47 (by decide) h (fun h => ?_) (fun h => ?_)
    · refine G.iconst C dX2_isBetterPack_54 ni_0 ?_
      exact hR _ (Option.some.inj h) (Or.inl rfl) _ _ dX2_isBetterPack_55
    · refine G.iconst C dX2_isBetterPack_50 ni_1 ?_
      refine G.goto (tgt := 55) C dX2_isBetterPack_51 (by decide) ?_
      exact hR _ (Option.some.inj h) (Or.inr rfl) _ _ dX2_isBetterPack_55
  · refine G.iload_n C dX2_isBetterPack_27 1 rfl ?_
    refine G.iload C dX2_isBetterPack_28 0 rfl ?_
    refine G.icmp_le (tgt := 37) C dX2_isBetterPack_30 (by decide) h (fun h => ?_) (fun h => ?_)
    · refine G.iconst C dX2_isBetterPack_37 ni_0 ?_
      exact hR _ (Option.some.inj h) (Or.inl rfl) _ _ dX2_isBetterPack_38
    · refine G.iconst C dX2_isBetterPack_33 ni_1 ?_
      refine G.goto (tgt := 38) C dX2_isBetterPack_34 (by decide) ?_
      exact hR _ (Option.some.inj h) (Or.inr rfl) _ _ dX2_isBetterPack_38
set_option maxHeartbeats 2000000 in
set_option maxRecDepth 20000 in
theorem w_X2_bestPack_L4 {X : Cx} {t : Nat → ClassId} {ad : Nat → Nat → Nat} {N : Nat} {vS : SV} {vP : SV} {r : Int32} (C : gX X t (rm 3) cX2_bestPack 4 RX2) (hR : ∀ q : Int32, q = r → RetI X cX2_bestPack q [wStage t (ad 3) vS, wPlanner t ad vP]) : ∀ (n : Nat) (x2 : Int32) (x3 : Int32), F_X2_bestPack_L4 N vS vP n x2 x3 = some r → G X [wStage t (ad 3) vS, wPlanner t ad vP] 4 [(1, .ref (ad 3 0)), (2, .int x2), (3, .int x3)] [] := by
  intro n
  induction n with
  | zero => intro x2 x3 h; exact absurd h (by simp [F_X2_bestPack_L4])
  | succ n ih =>
    intro x2 x3 h
    rw [F_X2_bestPack_L4] at h
    refine G.iload_n C dX2_bestPack_4 2 rfl ?_
    refine G.iconst C dX2_bestPack_5 ni_1 ?_
    refine G.aload_n C dX2_bestPack_6 0 rfl ?_
    refine gfX2_71 (i := 0) (j := 0) (v := .int (vS 0 2)) C rfl rfl rfl dX2_bestPack_7 ?_
    refine G.ishl C dX2_bestPack_10 ?_
    refine G.icmp_ge (tgt := 47) C dX2_bestPack_11 (by decide) h (fun h => ?_) (fun h => ?_)
    · refine G.iload_n C dX2_bestPack_47 1 rfl ?_
      exact hR _ (Option.some.inj h) _ _ dX2_bestPack_48
    · refine G.aload_n C dX2_bestPack_14 0 rfl ?_
      refine G.iload_n C dX2_bestPack_15 2 rfl ?_
      refine G.aload_n C dX2_bestPack_16 0 rfl ?_
      refine gfX2_74 (i := 0) (j := 0) (v := .ref (ad 3 3)) C rfl rfl rfl dX2_bestPack_17 ?_
      obtain ⟨q20, hq20, h⟩ := bind_some' h
      refine G.cvI (i0 := 0) (j0 := 0) (cs' := [wStage t (ad 3) vS, wPlanner t ad vP]) C (c_X5_sumOver_w (a := (ad 3)) hq20) [0] rfl rfl rfl rfl rfl rfl rfl k_821 cal_X5_sumOver (fit_rm (by decide) (by decide)) rfl (Nat.le_of_ble_eq_true rfl) dX2_bestPack_20 ?_
      refine G.aload_n C dX2_bestPack_23 0 rfl ?_
      refine gfX2_81 (i := 0) (j := 0) (v := .int (vS 0 0)) C rfl rfl rfl dX2_bestPack_24 ?_
      refine jn_use (fun J => ∀ (x2_41 : Int32), J x2_41 = some r → G X [wStage t (ad 3) vS, wPlanner t ad vP] 41 [(1, .ref (ad 3 0)), (2, .int x2_41), (3, .int x3)] []) h ?_ (fun J41 hJ41 h => ?_)
      · intro x2_41 h
        refine G.iinc (v := (x3 + (1 : Int32))) (lv' := [(3, .int (x3 + (1 : Int32))), (1, .ref (ad 3 0)), (2, .int x2_41)]) C dX2_bestPack_41 2 rfl (by rw [ni_1]) (by decide) rfl ?_
        refine G.goto (tgt := 4) C dX2_bestPack_44 (by decide) ?_
        exact G.lvs [1, 2, 0] rfl (ih _ _ h)
      refine G.icmp_gt (tgt := 41) C dX2_bestPack_27 (by decide) h (fun h => ?_) (fun h => ?_)
      · exact G.lvs [0, 1, 2] rfl (hJ41 _ h)
      · refine G.aload_n C dX2_bestPack_30 0 rfl ?_
        refine G.iload_n C dX2_bestPack_31 2 rfl ?_
        refine G.iload_n C dX2_bestPack_32 1 rfl ?_
        obtain ⟨q33, hq33, h⟩ := bind_some' h
        refine G.csI (cs' := [wStage t (ad 3) vS, wPlanner t ad vP]) C (c_X2_isBetterPack (ad := ad) hq33) [0] rfl rfl rfl rfl k_825 cal_X2_isBetterPack (fit_rm (by decide) (by decide)) rfl (Nat.le_of_ble_eq_true rfl) dX2_bestPack_33 ?_
        refine G.if_eq (tgt := 41) C dX2_bestPack_36 (by decide) h (fun h => ?_) (fun h => ?_)
        · exact G.lvs [0, 1, 2] rfl (hJ41 _ h)
        · refine G.iload_n C dX2_bestPack_39 2 rfl ?_
          refine G.istore_n (lv' := [(2, .int x3), (1, .ref (ad 3 0)), (3, .int x3)]) C dX2_bestPack_40 (by decide) rfl ?_
          exact G.lvs [1, 0, 2] rfl (hJ41 _ h)
set_option maxHeartbeats 2000000 in
set_option maxRecDepth 20000 in
theorem c_X2_bestPack {t : Nat → ClassId} {ad : Nat → Nat → Nat} {N : Nat} {vS : SV} {vP : SV} {r : Int32} (h : F_X2_bestPack N vS vP = some r) : CI t yX2_bestPack cX2_bestPack 4 (some .int) (rm 3) [.ref (ad 10 0), .ref (ad 3 0)] [wStage t (ad 3) vS, wPlanner t ad vP] r [wStage t (ad 3) vS, wPlanner t ad vP] := by
  refine CI.of (own := RX2) (by decide) rfl (Nat.le_of_ble_eq_true rfl) (fun X C hR0 => ?_)
  have hR : ∀ q : Int32, q = r → RetI X cX2_bestPack q [wStage t (ad 3) vS, wPlanner t ad vP] := by intro q e; subst e; exact hR0
  show G X [wStage t (ad 3) vS, wPlanner t ad vP] 0 [(0, .ref (ad 10 0)), (1, .ref (ad 3 0))] []
  unfold F_X2_bestPack at h
  refine G.iconst C dX2_bestPack_0 ni_0 ?_
  refine G.istore_n (lv' := [(2, .int (0 : Int32)), (0, .ref (ad 10 0)), (1, .ref (ad 3 0))]) C dX2_bestPack_1 (by decide) rfl ?_
  refine G.iconst C dX2_bestPack_2 ni_1 ?_
  refine G.istore_n (lv' := [(3, .int (1 : Int32)), (2, .int (0 : Int32)), (0, .ref (ad 10 0)), (1, .ref (ad 3 0))]) C dX2_bestPack_3 (by decide) rfl ?_
  exact G.lvs [3, 1, 0] rfl (w_X2_bestPack_L4 C hR N _ _ h)
set_option maxHeartbeats 2000000 in
set_option maxRecDepth 20000 in
theorem w_X2_isListed_L2 {X : Cx} {t : Nat → ClassId} {ad : Nat → Nat → Nat} {N : Nat} {vS : SV} {x1 : Int32} {r : Int32} (C : gX X t (rm 2) cX2_isListed 3 RX2) (hR : ∀ q : Int32, q = r → RetZ X cX2_isListed q [wStage t (ad 3) vS]) : ∀ (n : Nat) (x2 : Int32), F_X2_isListed_L2 N vS x1 n x2 = some r → G X [wStage t (ad 3) vS] 2 [(0, .ref (ad 3 0)), (1, .int x1), (2, .int x2)] [] := by
  intro n
  induction n with
  | zero => intro x2 h; exact absurd h (by simp [F_X2_isListed_L2])
  | succ n ih =>
    intro x2 h
    rw [F_X2_isListed_L2] at h
    refine G.iload_n C dX2_isListed_2 2 rfl ?_
    refine G.bipush C dX2_isListed_3 nb_6 ?_
    refine G.icmp_ge (tgt := 33) C dX2_isListed_5 (by decide) h (fun h => ?_) (fun h => ?_)
    · refine G.iconst C dX2_isListed_33 ni_1 ?_
      exact hR _ (Option.some.inj h) (Or.inr rfl) _ _ dX2_isListed_34
    · refine G.iload_n C dX2_isListed_8 1 rfl ?_
      refine G.iload_n C dX2_isListed_9 2 rfl ?_
      refine G.ishr C dX2_isListed_10 ?_
      refine G.iconst C dX2_isListed_11 ni_1 ?_
      refine G.iand C dX2_isListed_12 ?_
      refine G.iconst C dX2_isListed_13 ni_1 ?_
      refine jn_use (fun J => ∀ (u_27 : Unit), J u_27 = some r → G X [wStage t (ad 3) vS] 27 [(0, .ref (ad 3 0)), (1, .int x1), (2, .int x2)] []) h ?_ (fun J27 hJ27 h => ?_)
      · intro u_27 h
        refine G.iinc (v := (x2 + (1 : Int32))) (lv' := [(2, .int (x2 + (1 : Int32))), (0, .ref (ad 3 0)), (1, .int x1)]) C dX2_isListed_27 2 rfl (by rw [ni_1]) (by decide) rfl ?_
        refine G.goto (tgt := 2) C dX2_isListed_30 (by decide) ?_
        exact G.lvs [1, 2, 0] rfl (ih _ h)
      refine G.icmp_ne (tgt := 27) C dX2_isListed_14 (by decide) h (fun h => ?_) (fun h => ?_)
      · exact G.lvs [0, 1, 2] rfl (hJ27 _ h)
      · refine G.aload_n C dX2_isListed_17 0 rfl ?_
        refine G.iload_n C dX2_isListed_18 2 rfl ?_
        obtain ⟨q19, hq19, h⟩ := bind_some' h
        refine G.cvI (i0 := 0) (j0 := 0) (cs' := [wStage t (ad 3) vS]) C (c_X5_placeOf (a := (ad 3)) hq19) [0] rfl rfl rfl rfl rfl rfl rfl k_862 cal_X5_placeOf (fit_rm (by decide) (by decide)) rfl (Nat.le_of_ble_eq_true rfl) dX2_isListed_19 ?_
        refine G.if_ge (tgt := 27) C dX2_isListed_22 (by decide) h (fun h => ?_) (fun h => ?_)
        · exact G.lvs [0, 1, 2] rfl (hJ27 _ h)
        · refine G.iconst C dX2_isListed_25 ni_0 ?_
          exact hR _ (Option.some.inj h) (Or.inl rfl) _ _ dX2_isListed_26
set_option maxHeartbeats 2000000 in
set_option maxRecDepth 20000 in
theorem c_X2_isListed {t : Nat → ClassId} {ad : Nat → Nat → Nat} {N : Nat} {vS : SV} {x1 : Int32} {r : Int32} (h : F_X2_isListed N vS x1 = some r) : CI t yX2_isListed cX2_isListed 3 (some .boolean) (rm 2) [.ref (ad 3 0), .int x1] [wStage t (ad 3) vS] r [wStage t (ad 3) vS] := by
  refine CZ.of (own := RX2) (by decide) rfl (Nat.le_of_ble_eq_true rfl) (fun X C hR0 => ?_)
  have hR : ∀ q : Int32, q = r → RetZ X cX2_isListed q [wStage t (ad 3) vS] := by intro q e; subst e; exact hR0
  show G X [wStage t (ad 3) vS] 0 [(0, .ref (ad 3 0)), (1, .int x1)] []
  unfold F_X2_isListed at h
  refine G.iconst C dX2_isListed_0 ni_0 ?_
  refine G.istore_n (lv' := [(2, .int (0 : Int32)), (0, .ref (ad 3 0)), (1, .int x1)]) C dX2_isListed_1 (by decide) rfl ?_
  exact G.lvs [1, 2, 0] rfl (w_X2_isListed_L2 C hR N _ h)
set_option maxHeartbeats 2000000 in
set_option maxRecDepth 20000 in
theorem w_X2_pleasesWithout_L11 {X : Cx} {t : Nat → ClassId} {ad : Nat → Nat → Nat} {N : Nat} {vS : SV} {vP : SV} {x2 : Int32} {x3 : Int32} {x4 : Int32} {K43 : SV → Option (Int32 × SV)} {r : Int32 × SV} (C : gX X t (rm 5) cX2_pleasesWithout 6 RX2) (hR : ∀ q : Int32 × SV, q = r → RetZ X cX2_pleasesWithout (q.1) [wStage t (ad 3) vS, wPlanner t ad vP, wStage t (ad 11) (q.2)]) (hK43 : ∀ (vQ_43 : SV), K43 vQ_43 = some r → G X [wStage t (ad 3) vS, wPlanner t ad vP, wStage t (ad 11) vQ_43] 43 [(0, .ref (ad 10 0)), (3, .int x3), (4, .int x4)] []) : ∀ (n : Nat) (x5 : Int32) (vQ : SV), F_X2_pleasesWithout_L11 N vS vP x2 x3 x4 K43 n x5 vQ = some r → G X [wStage t (ad 3) vS, wPlanner t ad vP, wStage t (ad 11) vQ] 11 [(0, .ref (ad 10 0)), (2, .int x2), (3, .int x3), (4, .int x4), (5, .int x5)] [] := by
  intro n
  induction n with
  | zero => intro x5 vQ h; exact absurd h (by simp [F_X2_pleasesWithout_L11])
  | succ n ih =>
    intro x5 vQ h
    rw [F_X2_pleasesWithout_L11] at h
    refine G.iload C dX2_pleasesWithout_11 4 rfl ?_
    refine G.bipush C dX2_pleasesWithout_13 nb_6 ?_
    refine G.icmp_ge (tgt := 43) C dX2_pleasesWithout_15 (by decide) h (fun h => ?_) (fun h => ?_)
    · exact G.lvs [0, 2, 3] rfl (hK43 _ h)
    · refine G.iload_n C dX2_pleasesWithout_18 1 rfl ?_
      refine G.iload C dX2_pleasesWithout_19 4 rfl ?_
      refine G.ishr C dX2_pleasesWithout_21 ?_
      refine G.iconst C dX2_pleasesWithout_22 ni_1 ?_
      refine G.iand C dX2_pleasesWithout_23 ?_
      refine G.iconst C dX2_pleasesWithout_24 ni_1 ?_
      refine jn_use (fun J => ∀ (vQ_37 : SV), J vQ_37 = some r → G X [wStage t (ad 3) vS, wPlanner t ad vP, wStage t (ad 11) vQ_37] 37 [(0, .ref (ad 10 0)), (2, .int x2), (3, .int x3), (4, .int x4), (5, .int x5)] []) h ?_ (fun J37 hJ37 h => ?_)
      · intro vQ_37 h
        refine G.iinc (v := (x5 + (1 : Int32))) (lv' := [(5, .int (x5 + (1 : Int32))), (0, .ref (ad 10 0)), (2, .int x2), (3, .int x3), (4, .int x4)]) C dX2_pleasesWithout_37 4 rfl (by rw [ni_1]) (by decide) rfl ?_
        refine G.goto (tgt := 11) C dX2_pleasesWithout_40 (by decide) ?_
        exact G.lvs [1, 2, 3, 4, 0] rfl (ih _ _ h)
      refine G.icmp_ne (tgt := 37) C dX2_pleasesWithout_25 (by decide) h (fun h => ?_) (fun h => ?_)
      · exact G.lvs [0, 1, 2, 3, 4] rfl (hJ37 _ h)
      · refine G.aload_n C dX2_pleasesWithout_28 0 rfl ?_
        refine gfX2_10 (i := 1) (j := 0) (v := .ref (ad 11 0)) C rfl rfl rfl dX2_pleasesWithout_29 ?_
        refine G.iload C dX2_pleasesWithout_32 4 rfl ?_
        obtain ⟨q34, hq34, h⟩ := bind_some' h
        refine G.cvV (i0 := 2) (j0 := 0) (cs' := [wStage t (ad 3) vS, wPlanner t ad vP, wStage t (ad 11) q34]) C (c_X5_takeOff (a := (ad 11)) hq34) [2] rfl rfl rfl rfl rfl rfl rfl k_867 cal_X5_takeOff (fit_rm (by decide) (by decide)) rfl (Nat.le_of_ble_eq_true rfl) dX2_pleasesWithout_34 ?_
        exact G.lvs [0, 1, 2, 3, 4] rfl (hJ37 _ h)
set_option maxHeartbeats 2000000 in
set_option maxRecDepth 20000 in
theorem c_X2_pleasesWithout {t : Nat → ClassId} {ad : Nat → Nat → Nat} {N : Nat} {vS : SV} {vP : SV} {vQ : SV} {x2 : Int32} {x3 : Int32} {x4 : Int32} {r : Int32 × SV} (h : F_X2_pleasesWithout N vS vP vQ x2 x3 x4 = some r) : CI t yX2_pleasesWithout cX2_pleasesWithout 6 (some .boolean) (rm 5) [.ref (ad 10 0), .ref (ad 3 0), .int x2, .int x3, .int x4] [wStage t (ad 3) vS, wPlanner t ad vP, wStage t (ad 11) vQ] (r.1) [wStage t (ad 3) vS, wPlanner t ad vP, wStage t (ad 11) (r.2)] := by
  refine CZ.of (own := RX2) (by decide) rfl (Nat.le_of_ble_eq_true rfl) (fun X C hR0 => ?_)
  have hR : ∀ q : Int32 × SV, q = r → RetZ X cX2_pleasesWithout (q.1) [wStage t (ad 3) vS, wPlanner t ad vP, wStage t (ad 11) (q.2)] := by intro q e; subst e; exact hR0
  show G X [wStage t (ad 3) vS, wPlanner t ad vP, wStage t (ad 11) vQ] 0 [(0, .ref (ad 10 0)), (1, .ref (ad 3 0)), (2, .int x2), (3, .int x3), (4, .int x4)] []
  unfold F_X2_pleasesWithout at h
  refine G.aload_n C dX2_pleasesWithout_0 0 rfl ?_
  refine gfX2_10 (i := 1) (j := 0) (v := .ref (ad 11 0)) C rfl rfl rfl dX2_pleasesWithout_1 ?_
  refine G.aload_n C dX2_pleasesWithout_4 1 rfl ?_
  obtain ⟨q5, hq5, h⟩ := bind_some' h
  refine G.cvV (i0 := 2) (j0 := 0) (cs' := [wStage t (ad 3) vS, wPlanner t ad vP, wStage t (ad 11) q5]) C (c_X5_takeOver (a := (ad 11)) (b := (ad 3)) hq5) [2, 0] rfl rfl rfl rfl rfl rfl rfl k_789 cal_X5_takeOver (fit_rm (by decide) (by decide)) rfl (Nat.le_of_ble_eq_true rfl) dX2_pleasesWithout_5 ?_
  refine G.iconst C dX2_pleasesWithout_8 ni_0 ?_
  refine G.istore (lv' := [(5, .int (0 : Int32)), (0, .ref (ad 10 0)), (1, .ref (ad 3 0)), (2, .int x2), (3, .int x3), (4, .int x4)]) C dX2_pleasesWithout_9 (by decide) rfl ?_
  refine G.lvs [1, 3, 4, 5, 0] rfl (w_X2_pleasesWithout_L11 C hR (fun vQ_43 h => ?_) N _ _ h)
  · refine G.aload_n C dX2_pleasesWithout_43 0 rfl ?_
    refine gfX2_10 (i := 1) (j := 0) (v := .ref (ad 11 0)) C rfl rfl rfl dX2_pleasesWithout_44 ?_
    refine G.iload C dX2_pleasesWithout_47 2 rfl ?_
    obtain ⟨q49, hq49, h⟩ := bind_some' h
    refine G.cvV (i0 := 2) (j0 := 0) (cs' := [wStage t (ad 3) vS, wPlanner t ad vP, wStage t (ad 11) q49]) C (c_X5_tapWhileOneWaits (a := (ad 11)) hq49) [2] rfl rfl rfl rfl rfl rfl rfl k_868 cal_X5_tapWhileOneWaits (fit_rm (by decide) (by decide)) rfl (Nat.le_of_ble_eq_true rfl) dX2_pleasesWithout_49 ?_
    refine G.aload_n C dX2_pleasesWithout_52 0 rfl ?_
    refine gfX2_10 (i := 1) (j := 0) (v := .ref (ad 11 0)) C rfl rfl rfl dX2_pleasesWithout_53 ?_
    refine gfX2_113 (i := 2) (j := 0) (v := .ref (ad 11 7)) C rfl rfl rfl dX2_pleasesWithout_56 ?_
    refine G.iload_n C dX2_pleasesWithout_59 1 rfl ?_
    refine G.iald (i := 2) (j := 7) (f := (q49 7)) C rfl rfl h dX2_pleasesWithout_60 (fun h => ?_)
    refine G.iconst C dX2_pleasesWithout_61 ni_1 ?_
    refine G.icmp_ne (tgt := 69) C dX2_pleasesWithout_62 (by decide) h (fun h => ?_) (fun h => ?_)
    · refine G.iconst C dX2_pleasesWithout_69 ni_0 ?_
      exact hR _ (Option.some.inj h) (Or.inl rfl) _ _ dX2_pleasesWithout_70
    · refine G.iconst C dX2_pleasesWithout_65 ni_1 ?_
      refine G.goto (tgt := 70) C dX2_pleasesWithout_66 (by decide) ?_
      exact hR _ (Option.some.inj h) (Or.inr rfl) _ _ dX2_pleasesWithout_70
set_option maxHeartbeats 2000000 in
set_option maxRecDepth 20000 in
theorem w_X2_fewestOff_L6 {X : Cx} {t : Nat → ClassId} {ad : Nat → Nat → Nat} {N : Nat} {vS : SV} {vP : SV} {x2 : Int32} {x3 : Int32} {r : Int32 × SV} (C : gX X t (rm 6) cX2_fewestOff 7 RX2) (hR : ∀ q : Int32 × SV, q = r → RetI X cX2_fewestOff (q.1) [wStage t (ad 3) vS, wPlanner t ad vP, wStage t (ad 11) (q.2)]) : ∀ (n : Nat) (x4 : Int32) (x5 : Int32) (vQ : SV), F_X2_fewestOff_L6 N vS vP x2 x3 n x4 x5 vQ = some r → G X [wStage t (ad 3) vS, wPlanner t ad vP, wStage t (ad 11) vQ] 6 [(0, .ref (ad 10 0)), (1, .ref (ad 3 0)), (2, .int x2), (3, .int x3), (4, .int x4), (5, .int x5)] [] := by
  intro n
  induction n with
  | zero => intro x4 x5 vQ h; exact absurd h (by simp [F_X2_fewestOff_L6])
  | succ n ih =>
    intro x4 x5 vQ h
    rw [F_X2_fewestOff_L6] at h
    refine G.iload C dX2_fewestOff_6 5 rfl ?_
    refine G.bipush C dX2_fewestOff_8 nb_64 ?_
    refine G.icmp_ge (tgt := 74) C dX2_fewestOff_10 (by decide) h (fun h => ?_) (fun h => ?_)
    · refine G.iload C dX2_fewestOff_74 4 rfl ?_
      exact hR _ (Option.some.inj h) _ _ dX2_fewestOff_76
    · refine G.iload C dX2_fewestOff_13 4 rfl ?_
      refine jn_use (fun J => ∀ (s36_0 : Int32), J s36_0 = some r → G X [wStage t (ad 3) vS, wPlanner t ad vP, wStage t (ad 11) vQ] 36 [(0, .ref (ad 10 0)), (1, .ref (ad 3 0)), (2, .int x2), (3, .int x3), (4, .int x4), (5, .int x5)] [.int s36_0]) h ?_ (fun J36 hJ36 h => ?_)
      · intro s36_0 h
        refine G.istore (lv' := [(6, .int s36_0), (0, .ref (ad 10 0)), (1, .ref (ad 3 0)), (2, .int x2), (3, .int x3), (4, .int x4), (5, .int x5)]) C dX2_fewestOff_36 (by decide) rfl ?_
        refine G.iload C dX2_fewestOff_38 0 rfl ?_
        refine jn_use (fun J => ∀ (x4_68 : Int32) (vQ_68 : SV), J x4_68 vQ_68 = some r → G X [wStage t (ad 3) vS, wPlanner t ad vP, wStage t (ad 11) vQ_68] 68 [(0, .ref (ad 10 0)), (1, .ref (ad 3 0)), (2, .int x2), (3, .int x3), (4, .int x4_68), (5, .int x5)] []) h ?_ (fun J68 hJ68 h => ?_)
        · intro x4_68 vQ_68 h
          refine G.iinc (v := (x5 + (1 : Int32))) (lv' := [(5, .int (x5 + (1 : Int32))), (0, .ref (ad 10 0)), (1, .ref (ad 3 0)), (2, .int x2), (3, .int x3), (4, .int x4_68)]) C dX2_fewestOff_68 5 rfl (by rw [ni_1]) (by decide) rfl ?_
          refine G.goto (tgt := 6) C dX2_fewestOff_71 (by decide) ?_
          exact G.lvs [1, 2, 3, 4, 5, 0] rfl (ih _ _ _ h)
        refine G.if_eq (tgt := 68) C dX2_fewestOff_40 (by decide) h (fun h => ?_) (fun h => ?_)
        · exact G.lvs [1, 2, 3, 4, 5, 6] rfl (hJ68 _ _ h)
        · refine G.aload_n C dX2_fewestOff_43 2 rfl ?_
          refine G.iload C dX2_fewestOff_44 6 rfl ?_
          obtain ⟨q46, hq46, h⟩ := bind_some' h
          refine G.csI (cs' := [wStage t (ad 3) vS, wPlanner t ad vP, wStage t (ad 11) vQ]) C (c_X2_isListed (ad := ad) hq46) [0] rfl rfl rfl rfl k_859 cal_X2_isListed (fit_rm (by decide) (by decide)) rfl (Nat.le_of_ble_eq_true rfl) dX2_fewestOff_46 ?_
          refine G.if_eq (tgt := 68) C dX2_fewestOff_49 (by decide) h (fun h => ?_) (fun h => ?_)
          · exact G.lvs [1, 2, 3, 4, 5, 6] rfl (hJ68 _ _ h)
          · refine G.aload_n C dX2_fewestOff_52 1 rfl ?_
            refine G.aload_n C dX2_fewestOff_53 2 rfl ?_
            refine G.iload C dX2_fewestOff_54 6 rfl ?_
            refine G.iload_n C dX2_fewestOff_56 3 rfl ?_
            refine G.iload_n C dX2_fewestOff_57 4 rfl ?_
            obtain ⟨q58, hq58, h⟩ := bind_some' h
            refine G.cvI (i0 := 1) (j0 := 0) (cs' := [wStage t (ad 3) vS, wPlanner t ad vP, wStage t (ad 11) (q58.2)]) C (c_X2_pleasesWithout (ad := ad) hq58) [0, 1, 2] rfl rfl rfl rfl rfl rfl rfl k_863 cal_X2_pleasesWithout (fit_rm (by decide) (by decide)) rfl (Nat.le_of_ble_eq_true rfl) dX2_fewestOff_58 ?_
            refine G.if_eq (tgt := 68) C dX2_fewestOff_61 (by decide) h (fun h => ?_) (fun h => ?_)
            · exact G.lvs [1, 2, 3, 4, 5, 6] rfl (hJ68 _ _ h)
            · refine G.iload C dX2_fewestOff_64 6 rfl ?_
              refine G.istore (lv' := [(4, .int x5), (6, .int s36_0), (0, .ref (ad 10 0)), (1, .ref (ad 3 0)), (2, .int x2), (3, .int x3), (5, .int x5)]) C dX2_fewestOff_66 (by decide) rfl ?_
              exact G.lvs [2, 3, 4, 5, 0, 6] rfl (hJ68 _ _ h)
      refine jn_use (fun J => ∀ (u_31 : Unit), J u_31 = some r → G X [wStage t (ad 3) vS, wPlanner t ad vP, wStage t (ad 11) vQ] 31 [(0, .ref (ad 10 0)), (1, .ref (ad 3 0)), (2, .int x2), (3, .int x3), (4, .int x4), (5, .int x5)] []) h ?_ (fun J31 hJ31 h => ?_)
      · intro u_31 h
        refine G.iconst C dX2_fewestOff_31 ni_1 ?_
        refine G.goto (tgt := 36) C dX2_fewestOff_32 (by decide) ?_
        exact G.lvs [0, 1, 2, 3, 4, 5] rfl (hJ36 _ h)
      refine G.if_lt (tgt := 31) C dX2_fewestOff_15 (by decide) h (fun h => ?_) (fun h => ?_)
      · exact G.lvs [0, 1, 2, 3, 4, 5] rfl (hJ31 _ h)
      · refine G.iload C dX2_fewestOff_18 5 rfl ?_
        obtain ⟨q20, hq20, h⟩ := bind_some' h
        refine G.csI (cs' := [wStage t (ad 3) vS, wPlanner t ad vP, wStage t (ad 11) vQ]) C (c_J6_bitCount_0f7a4 hq20) [] rfl rfl rfl rfl k_828 cal_J6_bitCount_0f7a4 (fit_rm (by decide) (by decide)) rfl (Nat.le_of_ble_eq_true rfl) dX2_fewestOff_20 ?_
        refine G.iload C dX2_fewestOff_23 4 rfl ?_
        obtain ⟨q25, hq25, h⟩ := bind_some' h
        refine G.csI (cs' := [wStage t (ad 3) vS, wPlanner t ad vP, wStage t (ad 11) vQ]) C (c_J6_bitCount_0f7a4 hq25) [] rfl rfl rfl rfl k_828 cal_J6_bitCount_0f7a4 (fit_rm (by decide) (by decide)) rfl (Nat.le_of_ble_eq_true rfl) dX2_fewestOff_25 ?_
        refine G.icmp_ge (tgt := 35) C dX2_fewestOff_28 (by decide) h (fun h => ?_) (fun h => ?_)
        · refine G.iconst C dX2_fewestOff_35 ni_0 ?_
          exact G.lvs [0, 1, 2, 3, 4, 5] rfl (hJ36 _ h)
        · exact G.lvs [0, 1, 2, 3, 4, 5] rfl (hJ31 _ h)
set_option maxHeartbeats 2000000 in
set_option maxRecDepth 20000 in
theorem c_X2_fewestOff {t : Nat → ClassId} {ad : Nat → Nat → Nat} {N : Nat} {vS : SV} {vP : SV} {vQ : SV} {x2 : Int32} {x3 : Int32} {r : Int32 × SV} (h : F_X2_fewestOff N vS vP vQ x2 x3 = some r) : CI t yX2_fewestOff cX2_fewestOff 7 (some .int) (rm 6) [.ref (ad 10 0), .ref (ad 3 0), .int x2, .int x3] [wStage t (ad 3) vS, wPlanner t ad vP, wStage t (ad 11) vQ] (r.1) [wStage t (ad 3) vS, wPlanner t ad vP, wStage t (ad 11) (r.2)] := by
  refine CI.of (own := RX2) (by decide) rfl (Nat.le_of_ble_eq_true rfl) (fun X C hR0 => ?_)
  have hR : ∀ q : Int32 × SV, q = r → RetI X cX2_fewestOff (q.1) [wStage t (ad 3) vS, wPlanner t ad vP, wStage t (ad 11) (q.2)] := by intro q e; subst e; exact hR0
  show G X [wStage t (ad 3) vS, wPlanner t ad vP, wStage t (ad 11) vQ] 0 [(0, .ref (ad 10 0)), (1, .ref (ad 3 0)), (2, .int x2), (3, .int x3)] []
  unfold F_X2_fewestOff at h
  refine G.iconst C dX2_fewestOff_0 ni_m1 ?_
  refine G.istore (lv' := [(4, .int (-1 : Int32)), (0, .ref (ad 10 0)), (1, .ref (ad 3 0)), (2, .int x2), (3, .int x3)]) C dX2_fewestOff_1 (by decide) rfl ?_
  refine G.iconst C dX2_fewestOff_3 ni_0 ?_
  refine G.istore (lv' := [(5, .int (0 : Int32)), (4, .int (-1 : Int32)), (0, .ref (ad 10 0)), (1, .ref (ad 3 0)), (2, .int x2), (3, .int x3)]) C dX2_fewestOff_4 (by decide) rfl ?_
  exact G.lvs [2, 3, 4, 5, 1, 0] rfl (w_X2_fewestOff_L6 C hR N _ _ _ h)
set_option maxHeartbeats 2000000 in
set_option maxRecDepth 20000 in
theorem c_X2_clappedIfFirst {t : Nat → ClassId} {ad : Nat → Nat → Nat} {N : Nat} {vS : SV} {vP : SV} {vQ : SV} {x2 : Int32} {x3 : Int32} {r : Int32 × SV} (h : F_X2_clappedIfFirst N vS vP vQ x2 x3 = some r) : CI t yX2_clappedIfFirst cX2_clappedIfFirst 4 (some .int) (rm 5) [.ref (ad 10 0), .ref (ad 3 0), .int x2, .int x3] [wStage t (ad 3) vS, wPlanner t ad vP, wStage t (ad 11) vQ] (r.1) [wStage t (ad 3) vS, wPlanner t ad vP, wStage t (ad 11) (r.2)] := by
  refine CI.of (own := RX2) (by decide) rfl (Nat.le_of_ble_eq_true rfl) (fun X C hR0 => ?_)
  have hR : ∀ q : Int32 × SV, q = r → RetI X cX2_clappedIfFirst (q.1) [wStage t (ad 3) vS, wPlanner t ad vP, wStage t (ad 11) (q.2)] := by intro q e; subst e; exact hR0
  show G X [wStage t (ad 3) vS, wPlanner t ad vP, wStage t (ad 11) vQ] 0 [(0, .ref (ad 10 0)), (1, .ref (ad 3 0)), (2, .int x2), (3, .int x3)] []
  unfold F_X2_clappedIfFirst at h
  refine G.aload_n C dX2_clappedIfFirst_0 0 rfl ?_
  refine gfX2_10 (i := 1) (j := 0) (v := .ref (ad 11 0)) C rfl rfl rfl dX2_clappedIfFirst_1 ?_
  refine G.aload_n C dX2_clappedIfFirst_4 1 rfl ?_
  obtain ⟨q5, hq5, h⟩ := bind_some' h
  refine G.cvV (i0 := 2) (j0 := 0) (cs' := [wStage t (ad 3) vS, wPlanner t ad vP, wStage t (ad 11) q5]) C (c_X5_takeOver (a := (ad 11)) (b := (ad 3)) hq5) [2, 0] rfl rfl rfl rfl rfl rfl rfl k_789 cal_X5_takeOver (fit_rm (by decide) (by decide)) rfl (Nat.le_of_ble_eq_true rfl) dX2_clappedIfFirst_5 ?_
  refine G.aload_n C dX2_clappedIfFirst_8 0 rfl ?_
  refine gfX2_10 (i := 1) (j := 0) (v := .ref (ad 11 0)) C rfl rfl rfl dX2_clappedIfFirst_9 ?_
  refine G.iload_n C dX2_clappedIfFirst_12 2 rfl ?_
  obtain ⟨q13, hq13, h⟩ := bind_some' h
  refine G.cvV (i0 := 2) (j0 := 0) (cs' := [wStage t (ad 3) vS, wPlanner t ad vP, wStage t (ad 11) q13]) C (c_X5_putFirst (a := (ad 11)) hq13) [2] rfl rfl rfl rfl rfl rfl rfl k_882 cal_X5_putFirst (fit_rm (by decide) (by decide)) rfl (Nat.le_of_ble_eq_true rfl) dX2_clappedIfFirst_13 ?_
  refine G.aload_n C dX2_clappedIfFirst_16 0 rfl ?_
  refine gfX2_10 (i := 1) (j := 0) (v := .ref (ad 11 0)) C rfl rfl rfl dX2_clappedIfFirst_17 ?_
  refine G.iload_n C dX2_clappedIfFirst_20 3 rfl ?_
  obtain ⟨q21, hq21, h⟩ := bind_some' h
  refine G.cvV (i0 := 2) (j0 := 0) (cs' := [wStage t (ad 3) vS, wPlanner t ad vP, wStage t (ad 11) q21]) C (c_X5_tapWhileOneWaits (a := (ad 11)) hq21) [2] rfl rfl rfl rfl rfl rfl rfl k_868 cal_X5_tapWhileOneWaits (fit_rm (by decide) (by decide)) rfl (Nat.le_of_ble_eq_true rfl) dX2_clappedIfFirst_21 ?_
  refine G.aload_n C dX2_clappedIfFirst_24 0 rfl ?_
  refine gfX2_10 (i := 1) (j := 0) (v := .ref (ad 11 0)) C rfl rfl rfl dX2_clappedIfFirst_25 ?_
  refine gfX2_55 (i := 2) (j := 0) (v := .int (q21 0 6)) C rfl rfl rfl dX2_clappedIfFirst_28 ?_
  exact hR _ (Option.some.inj h) _ _ dX2_clappedIfFirst_31
set_option maxHeartbeats 2000000 in
set_option maxRecDepth 20000 in
theorem w_X2_bestFirst_L8 {X : Cx} {t : Nat → ClassId} {ad : Nat → Nat → Nat} {N : Nat} {vS : SV} {vP : SV} {x2 : Int32} {r : Int32 × SV} (C : gX X t (rm 6) cX2_bestFirst 7 RX2) (hR : ∀ q : Int32 × SV, q = r → RetI X cX2_bestFirst (q.1) [wStage t (ad 3) vS, wPlanner t ad vP, wStage t (ad 11) (q.2)]) : ∀ (n : Nat) (x3 : Int32) (x4 : Int32) (x5 : Int32) (vQ : SV), F_X2_bestFirst_L8 N vS vP x2 n x3 x4 x5 vQ = some r → G X [wStage t (ad 3) vS, wPlanner t ad vP, wStage t (ad 11) vQ] 8 [(0, .ref (ad 10 0)), (1, .ref (ad 3 0)), (2, .int x2), (3, .int x3), (4, .int x4), (5, .int x5)] [] := by
  intro n
  induction n with
  | zero => intro x3 x4 x5 vQ h; exact absurd h (by simp [F_X2_bestFirst_L8])
  | succ n ih =>
    intro x3 x4 x5 vQ h
    rw [F_X2_bestFirst_L8] at h
    refine G.iload C dX2_bestFirst_8 5 rfl ?_
    refine G.aload_n C dX2_bestFirst_10 1 rfl ?_
    refine gfX2_71 (i := 0) (j := 0) (v := .int (vS 0 2)) C rfl rfl rfl dX2_bestFirst_11 ?_
    refine G.icmp_ge (tgt := 47) C dX2_bestFirst_14 (by decide) h (fun h => ?_) (fun h => ?_)
    · refine G.iload_n C dX2_bestFirst_47 3 rfl ?_
      exact hR _ (Option.some.inj h) _ _ dX2_bestFirst_48
    · refine G.aload_n C dX2_bestFirst_17 0 rfl ?_
      refine G.aload_n C dX2_bestFirst_18 1 rfl ?_
      refine G.iload C dX2_bestFirst_19 5 rfl ?_
      refine G.iload_n C dX2_bestFirst_21 2 rfl ?_
      obtain ⟨q22, hq22, h⟩ := bind_some' h
      refine G.cvI (i0 := 1) (j0 := 0) (cs' := [wStage t (ad 3) vS, wPlanner t ad vP, wStage t (ad 11) (q22.2)]) C (c_X2_clappedIfFirst (ad := ad) hq22) [0, 1, 2] rfl rfl rfl rfl rfl rfl rfl k_878 cal_X2_clappedIfFirst (fit_rm (by decide) (by decide)) rfl (Nat.le_of_ble_eq_true rfl) dX2_bestFirst_22 ?_
      refine G.istore (lv' := [(6, .int (q22.1)), (0, .ref (ad 10 0)), (1, .ref (ad 3 0)), (2, .int x2), (3, .int x3), (4, .int x4), (5, .int x5)]) C dX2_bestFirst_25 (by decide) rfl ?_
      refine G.iload C dX2_bestFirst_27 0 rfl ?_
      refine G.iload C dX2_bestFirst_29 5 rfl ?_
      refine jn_use (fun J => ∀ (x3_41 : Int32) (x4_41 : Int32), J x3_41 x4_41 = some r → G X [wStage t (ad 3) vS, wPlanner t ad vP, wStage t (ad 11) (q22.2)] 41 [(0, .ref (ad 10 0)), (1, .ref (ad 3 0)), (2, .int x2), (3, .int x3_41), (4, .int x4_41), (5, .int x5)] []) h ?_ (fun J41 hJ41 h => ?_)
      · intro x3_41 x4_41 h
        refine G.iinc (v := (x5 + (1 : Int32))) (lv' := [(5, .int (x5 + (1 : Int32))), (0, .ref (ad 10 0)), (1, .ref (ad 3 0)), (2, .int x2), (3, .int x3_41), (4, .int x4_41)]) C dX2_bestFirst_41 5 rfl (by rw [ni_1]) (by decide) rfl ?_
        refine G.goto (tgt := 8) C dX2_bestFirst_44 (by decide) ?_
        exact G.lvs [1, 2, 3, 4, 5, 0] rfl (ih _ _ _ _ h)
      refine G.icmp_le (tgt := 41) C dX2_bestFirst_31 (by decide) h (fun h => ?_) (fun h => ?_)
      · exact G.lvs [1, 2, 3, 4, 5, 6] rfl (hJ41 _ _ h)
      · refine G.iload C dX2_bestFirst_34 0 rfl ?_
        refine G.istore (lv' := [(4, .int (q22.1)), (6, .int (q22.1)), (0, .ref (ad 10 0)), (1, .ref (ad 3 0)), (2, .int x2), (3, .int x3), (5, .int x5)]) C dX2_bestFirst_36 (by decide) rfl ?_
        refine G.iload C dX2_bestFirst_38 6 rfl ?_
        refine G.istore_n (lv' := [(3, .int x5), (4, .int (q22.1)), (6, .int (q22.1)), (0, .ref (ad 10 0)), (1, .ref (ad 3 0)), (2, .int x2), (5, .int x5)]) C dX2_bestFirst_40 (by decide) rfl ?_
        exact G.lvs [3, 4, 5, 0, 1, 6] rfl (hJ41 _ _ h)
set_option maxHeartbeats 2000000 in
set_option maxRecDepth 20000 in
theorem c_X2_bestFirst {t : Nat → ClassId} {ad : Nat → Nat → Nat} {N : Nat} {vS : SV} {vP : SV} {vQ : SV} {x2 : Int32} {r : Int32 × SV} (h : F_X2_bestFirst N vS vP vQ x2 = some r) : CI t yX2_bestFirst cX2_bestFirst 7 (some .int) (rm 6) [.ref (ad 10 0), .ref (ad 3 0), .int x2] [wStage t (ad 3) vS, wPlanner t ad vP, wStage t (ad 11) vQ] (r.1) [wStage t (ad 3) vS, wPlanner t ad vP, wStage t (ad 11) (r.2)] := by
  refine CI.of (own := RX2) (by decide) rfl (Nat.le_of_ble_eq_true rfl) (fun X C hR0 => ?_)
  have hR : ∀ q : Int32 × SV, q = r → RetI X cX2_bestFirst (q.1) [wStage t (ad 3) vS, wPlanner t ad vP, wStage t (ad 11) (q.2)] := by intro q e; subst e; exact hR0
  show G X [wStage t (ad 3) vS, wPlanner t ad vP, wStage t (ad 11) vQ] 0 [(0, .ref (ad 10 0)), (1, .ref (ad 3 0)), (2, .int x2)] []
  unfold F_X2_bestFirst at h
  refine G.iconst C dX2_bestFirst_0 ni_0 ?_
  refine G.istore_n (lv' := [(3, .int (0 : Int32)), (0, .ref (ad 10 0)), (1, .ref (ad 3 0)), (2, .int x2)]) C dX2_bestFirst_1 (by decide) rfl ?_
  refine G.iconst C dX2_bestFirst_2 ni_m1 ?_
  refine G.istore (lv' := [(4, .int (-1 : Int32)), (3, .int (0 : Int32)), (0, .ref (ad 10 0)), (1, .ref (ad 3 0)), (2, .int x2)]) C dX2_bestFirst_3 (by decide) rfl ?_
  refine G.iconst C dX2_bestFirst_5 ni_0 ?_
  refine G.istore (lv' := [(5, .int (0 : Int32)), (4, .int (-1 : Int32)), (3, .int (0 : Int32)), (0, .ref (ad 10 0)), (1, .ref (ad 3 0)), (2, .int x2)]) C dX2_bestFirst_6 (by decide) rfl ?_
  exact G.lvs [3, 4, 5, 2, 1, 0] rfl (w_X2_bestFirst_L8 C hR N _ _ _ _ h)
set_option maxHeartbeats 2000000 in
set_option maxRecDepth 20000 in
theorem c_X2_keepIfBetter {t : Nat → ClassId} {ad : Nat → Nat → Nat} {b : Nat → Nat} {N : Nat} {vP : SV} {w : SV} {r : SV} (h : F_X2_keepIfBetter N vP w = some r) : CV t yX2_keepIfBetter cX2_keepIfBetter 2 none (rm 2) [.ref (ad 10 0), .ref (b 0)] [wPlanner t ad vP, wStage t b w] [wPlanner t ad r, wStage t b w] := by
  refine CV.of (own := RX2) (by decide) rfl (Nat.le_of_ble_eq_true rfl) (fun X C hR0 => ?_)
  have hR : ∀ q : SV, q = r → RetV X cX2_keepIfBetter [wPlanner t ad q, wStage t b w] := by intro q e; subst e; exact hR0
  show G X [wPlanner t ad vP, wStage t b w] 0 [(0, .ref (ad 10 0)), (1, .ref (b 0))] []
  unfold F_X2_keepIfBetter at h
  refine G.aload_n C dX2_keepIfBetter_0 1 rfl ?_
  refine gfX2_55 (i := 1) (j := 0) (v := .int (w 0 6)) C rfl rfl rfl dX2_keepIfBetter_1 ?_
  refine G.aload_n C dX2_keepIfBetter_4 0 rfl ?_
  refine gfX2_34 (i := 0) (j := 0) (v := .int (vP 0 5)) C rfl rfl rfl dX2_keepIfBetter_5 ?_
  refine G.icmp_gt (tgt := 12) C dX2_keepIfBetter_8 (by decide) h (fun h => ?_) (fun h => ?_)
  · refine G.aload_n C dX2_keepIfBetter_12 0 rfl ?_
    refine G.aload_n C dX2_keepIfBetter_13 1 rfl ?_
    refine gfX2_55 (i := 1) (j := 0) (v := .int (w 0 6)) C rfl rfl rfl dX2_keepIfBetter_14 ?_
    refine pfX2_34 (i := 0) (j := 0) (cs' := [wPlanner t ad (up2 vP 0 5 (w 0 6)), wStage t b w]) C rfl rfl (Nat.le_of_ble_eq_true rfl) dX2_keepIfBetter_17 (suPlanner_5) rfl ?_
    refine G.aload_n C dX2_keepIfBetter_20 0 rfl ?_
    refine G.aload_n C dX2_keepIfBetter_21 1 rfl ?_
    refine G.iconst C dX2_keepIfBetter_22 ni_1 ?_
    obtain ⟨q23, hq23, h⟩ := bind_some' h
    refine G.cvI (i0 := 1) (j0 := 0) (cs' := [wPlanner t ad (up2 vP 0 5 (w 0 6)), wStage t b w]) C (c_X5_seatsThat (a := b) hq23) [1] rfl rfl rfl rfl rfl rfl rfl k_798 cal_X5_seatsThat (fit_rm (by decide) (by decide)) rfl (Nat.le_of_ble_eq_true rfl) dX2_keepIfBetter_23 ?_
    refine pfX2_62 (i := 0) (j := 0) (cs' := [wPlanner t ad (up2 (up2 vP 0 5 (w 0 6)) 0 6 q23), wStage t b w]) C rfl rfl (Nat.le_of_ble_eq_true rfl) dX2_keepIfBetter_26 (suPlanner_6) rfl ?_
    refine G.aload_n C dX2_keepIfBetter_29 0 rfl ?_
    refine gfX2_20 (i := 0) (j := 0) (v := .ref (ad 10 1)) C rfl rfl rfl dX2_keepIfBetter_30 ?_
    refine G.iconst C dX2_keepIfBetter_33 ni_0 ?_
    refine G.aload_n C dX2_keepIfBetter_34 0 rfl ?_
    refine gfX2_24 (i := 0) (j := 0) (v := .ref (ad 10 2)) C rfl rfl rfl dX2_keepIfBetter_35 ?_
    refine G.iconst C dX2_keepIfBetter_38 ni_0 ?_
    refine G.bipush C dX2_keepIfBetter_39 nb_6 ?_
    refine G.copy (i0 := 0) (j0 := 1) (i1 := 0) (j1 := 2) (f := (vP 1)) (g := (vP 2)) (cs' := [wPlanner t ad (upA (up2 (up2 vP 0 5 (w 0 6)) 0 6 q23) 2 (va_cpy (vP 1) (vP 2) ((0 : Int32).toNatClampNeg) ((0 : Int32).toNatClampNeg) ((6 : Int32).toNatClampNeg))), wStage t b w]) C k_799 k_417 k_416 k_85 (by decide) (Nat.le_of_ble_eq_true rfl) rfl rfl rfl rfl h dX2_keepIfBetter_41 (suPlannerC_2) rfl (fun h => ?_)
    exact hR _ (Option.some.inj h) _ _ dX2_keepIfBetter_44
  · exact hR _ (Option.some.inj h) _ _ dX2_keepIfBetter_11
set_option maxHeartbeats 2000000 in
set_option maxRecDepth 20000 in
theorem w_X2_tryOrders_L33 {X : Cx} {t : Nat → ClassId} {ad : Nat → Nat → Nat} {N : Nat} {d : Nat} {Fr : SV → (Nat → SV) → Int32 → Int32 → Option (SV × (Nat → SV))} {x1 : Int32} {x2 : Int32} {r : SV × (Nat → SV)} (C : gX X t (rm (d + 8)) cX2_tryOrders 5 RX2) (hFr : ∀ (vP : SV) (gL : Nat → SV) (x1 x2 : Int32) (r : SV × (Nat → SV)), Fr vP gL x1 x2 = some r → CV t yX2_tryOrders cX2_tryOrders 5 none (rm d) [.ref (ad 10 0), .int x1, .int x2] ([wPlanner t ad vP] ++ fLev t ad gL) ([wPlanner t ad r.1] ++ fLev t ad r.2)) (b28 : ((x2 + (1 : Int32)).toNatClampNeg) < 7) (hR : ∀ q : SV × (Nat → SV), q = r → RetV X cX2_tryOrders ([wPlanner t ad (q.1)] ++ fLev t ad (q.2))) : ∀ (n : Nat) (x4 : Int32) (vP : SV) (gL : (Nat → SV)), F_X2_tryOrders_L33 N Fr x1 x2 n x4 vP gL = some r → G X ([wPlanner t ad vP] ++ fLev t ad gL) 33 [(0, .ref (ad 10 0)), (1, .int x1), (2, .int x2), (3, .ref (ad (70 + ((x2 + (1 : Int32)).toNatClampNeg)) 0)), (4, .int x4)] [] := by
  intro n
  induction n with
  | zero => intro x4 vP gL h; exact absurd h (by simp [F_X2_tryOrders_L33])
  | succ n ih =>
    intro x4 vP gL h
    rw [F_X2_tryOrders_L33] at h
    refine G.iload C dX2_tryOrders_33 4 rfl ?_
    refine G.bipush C dX2_tryOrders_35 nb_6 ?_
    refine G.icmp_ge (tgt := 95) C dX2_tryOrders_37 (by decide) h (fun h => ?_) (fun h => ?_)
    · exact hR _ (Option.some.inj h) _ _ dX2_tryOrders_95
    · refine G.iload_n C dX2_tryOrders_40 1 rfl ?_
      refine G.iload C dX2_tryOrders_41 4 rfl ?_
      refine G.ishr C dX2_tryOrders_43 ?_
      refine G.iconst C dX2_tryOrders_44 ni_1 ?_
      refine G.iand C dX2_tryOrders_45 ?_
      refine G.iconst C dX2_tryOrders_46 ni_1 ?_
      refine jn_use (fun J => ∀ (vP_89 : SV) (gL_89 : (Nat → SV)), J vP_89 gL_89 = some r → G X ([wPlanner t ad vP_89] ++ fLev t ad gL_89) 89 [(0, .ref (ad 10 0)), (1, .int x1), (2, .int x2), (3, .ref (ad (70 + ((x2 + (1 : Int32)).toNatClampNeg)) 0)), (4, .int x4)] []) h ?_ (fun J89 hJ89 h => ?_)
      · intro vP_89 gL_89 h
        refine G.iinc (v := (x4 + (1 : Int32))) (lv' := [(4, .int (x4 + (1 : Int32))), (0, .ref (ad 10 0)), (1, .int x1), (2, .int x2), (3, .ref (ad (70 + ((x2 + (1 : Int32)).toNatClampNeg)) 0))]) C dX2_tryOrders_89 4 rfl (by rw [ni_1]) (by decide) rfl ?_
        refine G.goto (tgt := 33) C dX2_tryOrders_92 (by decide) ?_
        exact G.lvs [1, 2, 3, 4, 0] rfl (ih _ _ _ h)
      refine G.icmp_ne (tgt := 89) C dX2_tryOrders_47 (by decide) h (fun h => ?_) (fun h => ?_)
      · exact G.lvs [0, 1, 2, 3, 4] rfl (hJ89 _ _ h)
      · refine G.aload_n C dX2_tryOrders_50 3 rfl ?_
        refine G.aload_n C dX2_tryOrders_51 0 rfl ?_
        refine gfX2_16 (i := 0) (j := 0) (v := .ref (ad 10 3)) C rfl rfl rfl dX2_tryOrders_52 ?_
        refine G.iload_n C dX2_tryOrders_55 2 rfl ?_
        have b56 := chk_lt h
        refine G.aldS (i := 0) (j := 3) (f := fun i => some (ad (70 + i) 0)) C rfl rfl h rfl dX2_tryOrders_56 (fun h => ?_)
        obtain ⟨n57, h⟩ := nei_some h
        obtain ⟨q57, hq57, h⟩ := bind_some' h
        refine G.cvV (i0 := 1 + ((x2 + (1 : Int32)).toNatClampNeg)) (j0 := 0) (cs' := ([wPlanner t ad vP] ++ fLev t ad (upF gL ((x2 + (1 : Int32)).toNatClampNeg) q57))) C (c_X5_takeOver (a := (ad (70 + ((x2 + (1 : Int32)).toNatClampNeg)))) (b := (ad (70 + (x2.toNatClampNeg)))) hq57) [1 + ((x2 + (1 : Int32)).toNatClampNeg), 1 + (x2.toNatClampNeg)] (mj (fSt_get rfl b28) (mj (fSt_get rfl b56) rfl)) (nd2 (by omega)) rfl ((congrArg (fun z => List.set z (1 + (x2.toNatClampNeg)) (wStage t (ad (70 + (x2.toNatClampNeg))) (gL (x2.toNatClampNeg)))) (fSt_set rfl b28)).trans (fSt_keep2 rfl b56 n57)) (fSt_get rfl b28) rfl rfl k_789 cal_X5_takeOver (fit_rm (by omega) (by decide)) rfl (Nat.le_of_ble_eq_true rfl) dX2_tryOrders_57 ?_
        refine G.aload_n C dX2_tryOrders_60 3 rfl ?_
        refine G.iload C dX2_tryOrders_61 4 rfl ?_
        obtain ⟨q63, hq63, h⟩ := bind_some' h
        refine G.cvV (i0 := 1 + ((x2 + (1 : Int32)).toNatClampNeg)) (j0 := 0) (cs' := ([wPlanner t ad vP] ++ fLev t ad (upF (upF gL ((x2 + (1 : Int32)).toNatClampNeg) q57) ((x2 + (1 : Int32)).toNatClampNeg) q63))) C (c_X5_handUp (a := (ad (70 + ((x2 + (1 : Int32)).toNatClampNeg)))) hq63) [1 + ((x2 + (1 : Int32)).toNatClampNeg)] (mj (fSt_get rfl b28) rfl) nd1 rfl (fSt_set rfl b28) (fSt_get rfl b28) rfl rfl k_800 cal_X5_handUp (fit_rm (by omega) (by decide)) rfl (Nat.le_of_ble_eq_true rfl) dX2_tryOrders_63 ?_
        refine G.aload_n C dX2_tryOrders_66 0 rfl ?_
        refine gfX2_20 (i := 0) (j := 0) (v := .ref (ad 10 1)) C rfl rfl rfl dX2_tryOrders_67 ?_
        refine G.iload_n C dX2_tryOrders_70 2 rfl ?_
        refine G.iload C dX2_tryOrders_71 4 rfl ?_
        refine G.iast (i := 0) (j := 1) (f := vP 1) (cs' := ([wPlanner t ad (up2 vP 1 (x2.toNatClampNeg) x4)] ++ fLev t ad (upF (upF gL ((x2 + (1 : Int32)).toNatClampNeg) q57) ((x2 + (1 : Int32)).toNatClampNeg) q63))) C rfl rfl h dX2_tryOrders_73 (suPlannerA_1) rfl (fun h => ?_)
        refine G.aload_n C dX2_tryOrders_74 0 rfl ?_
        refine G.iload_n C dX2_tryOrders_75 1 rfl ?_
        refine G.iconst C dX2_tryOrders_76 ni_1 ?_
        refine G.iload C dX2_tryOrders_77 4 rfl ?_
        refine G.ishl C dX2_tryOrders_79 ?_
        refine G.iconst C dX2_tryOrders_80 ni_m1 ?_
        refine G.ixor C dX2_tryOrders_81 ?_
        refine G.iand C dX2_tryOrders_82 ?_
        refine G.iload_n C dX2_tryOrders_83 2 rfl ?_
        refine G.iconst C dX2_tryOrders_84 ni_1 ?_
        refine G.iadd C dX2_tryOrders_85 ?_
        obtain ⟨q86, hq86, h⟩ := bind_some' h
        refine G.cvV (i0 := 0) (j0 := 0) (cs' := ([wPlanner t ad (q86.1)] ++ fLev t ad (q86.2))) C (hFr _ _ _ _ _ hq86) ([0] ++ (List.range 7).map (fun k => 1 + k)) (famJ rfl fSt_len rfl) (by decide) (famA rfl fSt_ads) (famC rfl rfl rfl fSt_len fSt_len) rfl rfl rfl k_790 cal_X2_tryOrders (fit_rm (by omega) (by decide)) rfl (Nat.le_of_ble_eq_true rfl) dX2_tryOrders_86 ?_
        exact G.lvs [0, 1, 2, 3, 4] rfl (hJ89 _ _ h)
set_option maxHeartbeats 2000000 in
set_option maxRecDepth 20000 in
theorem c_X2_tryOrders {t : Nat → ClassId} {ad : Nat → Nat → Nat} {N : Nat} {d : Nat} {Fr : SV → (Nat → SV) → Int32 → Int32 → Option (SV × (Nat → SV))} {vP : SV} {gL : (Nat → SV)} {x1 : Int32} {x2 : Int32} {r : SV × (Nat → SV)} (hFr : ∀ (vP : SV) (gL : Nat → SV) (x1 x2 : Int32) (r : SV × (Nat → SV)), Fr vP gL x1 x2 = some r → CV t yX2_tryOrders cX2_tryOrders 5 none (rm d) [.ref (ad 10 0), .int x1, .int x2] ([wPlanner t ad vP] ++ fLev t ad gL) ([wPlanner t ad r.1] ++ fLev t ad r.2)) (h : F_X2_tryOrders N Fr vP gL x1 x2 = some r) : CV t yX2_tryOrders cX2_tryOrders 5 none (rm (d + 8)) [.ref (ad 10 0), .int x1, .int x2] ([wPlanner t ad vP] ++ fLev t ad gL) ([wPlanner t ad (r.1)] ++ fLev t ad (r.2)) := by
  refine CV.of (own := RX2) (by decide) rfl (Nat.le_of_ble_eq_true rfl) (fun X C hR0 => ?_)
  have hR : ∀ q : SV × (Nat → SV), q = r → RetV X cX2_tryOrders ([wPlanner t ad (q.1)] ++ fLev t ad (q.2)) := by intro q e; subst e; exact hR0
  show G X ([wPlanner t ad vP] ++ fLev t ad gL) 0 [(0, .ref (ad 10 0)), (1, .int x1), (2, .int x2)] []
  unfold F_X2_tryOrders at h
  refine G.iload_n C dX2_tryOrders_0 1 rfl ?_
  refine jn_use (fun J => ∀ (u_10 : Unit), J u_10 = some r → G X ([wPlanner t ad vP] ++ fLev t ad gL) 10 [(0, .ref (ad 10 0)), (2, .int x2)] []) h ?_ (fun J10 hJ10 h => ?_)
  · intro u_10 h
    refine G.aload_n C dX2_tryOrders_10 0 rfl ?_
    refine G.aload_n C dX2_tryOrders_11 0 rfl ?_
    refine gfX2_16 (i := 0) (j := 0) (v := .ref (ad 10 3)) C rfl rfl rfl dX2_tryOrders_12 ?_
    refine G.iload_n C dX2_tryOrders_15 1 rfl ?_
    have b16 := chk_lt h
    refine G.aldS (i := 0) (j := 3) (f := fun i => some (ad (70 + i) 0)) C rfl rfl h rfl dX2_tryOrders_16 (fun h => ?_)
    obtain ⟨q17, hq17, h⟩ := bind_some' h
    refine G.cvV (i0 := 0) (j0 := 0) (cs' := ([wPlanner t ad q17] ++ fLev t ad gL)) C (c_X2_keepIfBetter (ad := ad) (b := (ad (70 + (x2.toNatClampNeg)))) hq17) [0, 1 + (x2.toNatClampNeg)] (mj rfl (mj (fSt_get rfl b16) rfl)) (nd2 (by omega)) rfl (fSt_keep (t := t) (ad := ad) (b := 70) (g := gL) (pre := [wPlanner t ad q17]) rfl b16) rfl rfl rfl k_794 cal_X2_keepIfBetter (fit_rm (by omega) (by decide)) rfl (Nat.le_of_ble_eq_true rfl) dX2_tryOrders_17 ?_
    exact hR _ (Option.some.inj h) _ _ dX2_tryOrders_20
  refine G.if_eq (tgt := 10) C dX2_tryOrders_1 (by decide) h (fun h => ?_) (fun h => ?_)
  · exact G.lvs [0, 2] rfl (hJ10 _ h)
  · refine G.iload_n C dX2_tryOrders_4 2 rfl ?_
    refine G.bipush C dX2_tryOrders_5 nb_6 ?_
    refine G.icmp_lt (tgt := 21) C dX2_tryOrders_7 (by decide) h (fun h => ?_) (fun h => ?_)
    · refine G.aload_n C dX2_tryOrders_21 0 rfl ?_
      refine gfX2_16 (i := 0) (j := 0) (v := .ref (ad 10 3)) C rfl rfl rfl dX2_tryOrders_22 ?_
      refine G.iload_n C dX2_tryOrders_25 2 rfl ?_
      refine G.iconst C dX2_tryOrders_26 ni_1 ?_
      refine G.iadd C dX2_tryOrders_27 ?_
      have b28 := chk_lt h
      refine G.aldS (i := 0) (j := 3) (f := fun i => some (ad (70 + i) 0)) C rfl rfl h rfl dX2_tryOrders_28 (fun h => ?_)
      refine G.astore_n (lv' := [(3, .ref (ad (70 + ((x2 + (1 : Int32)).toNatClampNeg)) 0)), (0, .ref (ad 10 0)), (1, .int x1), (2, .int x2)]) C dX2_tryOrders_29 (by decide) rfl ?_
      refine G.iconst C dX2_tryOrders_30 ni_0 ?_
      refine G.istore (lv' := [(4, .int (0 : Int32)), (3, .ref (ad (70 + ((x2 + (1 : Int32)).toNatClampNeg)) 0)), (0, .ref (ad 10 0)), (1, .int x1), (2, .int x2)]) C dX2_tryOrders_31 (by decide) rfl ?_
      exact G.lvs [2, 3, 4, 1, 0] rfl (w_X2_tryOrders_L33 C hFr b28 hR N _ _ _ h)
    · exact G.lvs [0, 2] rfl (hJ10 _ h)
set_option maxHeartbeats 2000000 in
set_option maxRecDepth 20000 in
theorem c_X2_tryOrdersK {t : Nat → ClassId} {ad : Nat → Nat → Nat} {N : Nat} : ∀ (k : Nat) (vP : SV) (gL : Nat → SV) (x1 x2 : Int32) (r : SV × (Nat → SV)), F_X2_tryOrdersK N k vP gL x1 x2 = some r → CV t yX2_tryOrders cX2_tryOrders 5 none (rm (8 * k)) [.ref (ad 10 0), .int x1, .int x2] ([wPlanner t ad vP] ++ fLev t ad gL) ([wPlanner t ad r.1] ++ fLev t ad r.2) := by
  intro k
  induction k with
  | zero => intro vP gL x1 x2 r h; cases h
  | succ k ih => intro vP gL x1 x2 r h; exact c_X2_tryOrders (d := 8 * k) ih h
theorem c_X2_tryOrdersC {t : Nat → ClassId} {ad : Nat → Nat → Nat} {N : Nat} {vP : SV} {gL : Nat → SV} {x1 x2 : Int32} {r : SV × (Nat → SV)} (h : F_X2_tryOrdersC N vP gL x1 x2 = some r) : CV t yX2_tryOrders cX2_tryOrders 5 none (rm 64) [.ref (ad 10 0), .int x1, .int x2] ([wPlanner t ad vP] ++ fLev t ad gL) ([wPlanner t ad r.1] ++ fLev t ad r.2) := c_X2_tryOrdersK 8 vP gL x1 x2 r h
set_option maxHeartbeats 2000000 in
set_option maxRecDepth 20000 in
theorem w_X2_findBestOrder_L4 {X : Cx} {t : Nat → ClassId} {ad : Nat → Nat → Nat} {N : Nat} {vS : SV} {vP : SV} {gL : (Nat → SV)} {K29 : Int32 → Option (SV × (Nat → SV))} {r : SV × (Nat → SV)} (C : gX X t (rm 65) cX2_findBestOrder 4 RX2) (hR : ∀ q : SV × (Nat → SV), q = r → RetV X cX2_findBestOrder ([wStage t (ad 3) vS, wPlanner t ad (q.1)] ++ fLev t ad (q.2))) (hK29 : ∀ (x2_29 : Int32), K29 x2_29 = some r → G X ([wStage t (ad 3) vS, wPlanner t ad vP] ++ fLev t ad gL) 29 [(0, .ref (ad 10 0)), (1, .ref (ad 3 0)), (2, .int x2_29)] []) : ∀ (n : Nat) (x2 : Int32) (x3 : Int32), F_X2_findBestOrder_L4 N vS vP gL K29 n x2 x3 = some r → G X ([wStage t (ad 3) vS, wPlanner t ad vP] ++ fLev t ad gL) 4 [(0, .ref (ad 10 0)), (1, .ref (ad 3 0)), (2, .int x2), (3, .int x3)] [] := by
  intro n
  induction n with
  | zero => intro x2 x3 h; exact absurd h (by simp [F_X2_findBestOrder_L4])
  | succ n ih =>
    intro x2 x3 h
    rw [F_X2_findBestOrder_L4] at h
    refine G.iload_n C dX2_findBestOrder_4 3 rfl ?_
    refine G.aload_n C dX2_findBestOrder_5 1 rfl ?_
    refine gfX2_27 (i := 0) (j := 0) (v := .int (vS 0 4)) C rfl rfl rfl dX2_findBestOrder_6 ?_
    refine G.icmp_ge (tgt := 29) C dX2_findBestOrder_9 (by decide) h (fun h => ?_) (fun h => ?_)
    · exact G.lvs [0, 1, 2] rfl (hK29 _ h)
    · refine G.iload_n C dX2_findBestOrder_12 2 rfl ?_
      refine G.iconst C dX2_findBestOrder_13 ni_1 ?_
      refine G.aload_n C dX2_findBestOrder_14 1 rfl ?_
      refine gfX2_31 (i := 0) (j := 0) (v := .ref (ad 3 8)) C rfl rfl rfl dX2_findBestOrder_15 ?_
      refine G.iload_n C dX2_findBestOrder_18 3 rfl ?_
      refine G.iald (i := 0) (j := 8) (f := (vS 8)) C rfl rfl h dX2_findBestOrder_19 (fun h => ?_)
      refine G.ishl C dX2_findBestOrder_20 ?_
      refine G.ior C dX2_findBestOrder_21 ?_
      refine G.istore_n (lv' := [(2, .int (x2 ||| ((1 : Int32) <<< (((vS 8) (x3.toNatClampNeg)) &&& 31)))), (0, .ref (ad 10 0)), (1, .ref (ad 3 0)), (3, .int x3)]) C dX2_findBestOrder_22 (by decide) rfl ?_
      refine G.iinc (v := (x3 + (1 : Int32))) (lv' := [(3, .int (x3 + (1 : Int32))), (2, .int (x2 ||| ((1 : Int32) <<< (((vS 8) (x3.toNatClampNeg)) &&& 31)))), (0, .ref (ad 10 0)), (1, .ref (ad 3 0))]) C dX2_findBestOrder_23 3 rfl (by rw [ni_1]) (by decide) rfl ?_
      refine G.goto (tgt := 4) C dX2_findBestOrder_26 (by decide) ?_
      exact G.lvs [2, 3, 1, 0] rfl (ih _ _ h)
set_option maxHeartbeats 2000000 in
set_option maxRecDepth 20000 in
theorem c_X2_findBestOrder {t : Nat → ClassId} {ad : Nat → Nat → Nat} {N : Nat} {vS : SV} {vP : SV} {gL : (Nat → SV)} {r : SV × (Nat → SV)} (h : F_X2_findBestOrder N vS vP gL = some r) : CV t yX2_findBestOrder cX2_findBestOrder 4 none (rm 65) [.ref (ad 10 0), .ref (ad 3 0)] ([wStage t (ad 3) vS, wPlanner t ad vP] ++ fLev t ad gL) ([wStage t (ad 3) vS, wPlanner t ad (r.1)] ++ fLev t ad (r.2)) := by
  refine CV.of (own := RX2) (by decide) rfl (Nat.le_of_ble_eq_true rfl) (fun X C hR0 => ?_)
  have hR : ∀ q : SV × (Nat → SV), q = r → RetV X cX2_findBestOrder ([wStage t (ad 3) vS, wPlanner t ad (q.1)] ++ fLev t ad (q.2)) := by intro q e; subst e; exact hR0
  show G X ([wStage t (ad 3) vS, wPlanner t ad vP] ++ fLev t ad gL) 0 [(0, .ref (ad 10 0)), (1, .ref (ad 3 0))] []
  unfold F_X2_findBestOrder at h
  refine G.iconst C dX2_findBestOrder_0 ni_0 ?_
  refine G.istore_n (lv' := [(2, .int (0 : Int32)), (0, .ref (ad 10 0)), (1, .ref (ad 3 0))]) C dX2_findBestOrder_1 (by decide) rfl ?_
  refine G.iconst C dX2_findBestOrder_2 ni_0 ?_
  refine G.istore_n (lv' := [(3, .int (0 : Int32)), (2, .int (0 : Int32)), (0, .ref (ad 10 0)), (1, .ref (ad 3 0))]) C dX2_findBestOrder_3 (by decide) rfl ?_
  refine G.lvs [2, 3, 1, 0] rfl (w_X2_findBestOrder_L4 C hR (fun x2_29 h => ?_) N _ _ h)
  · refine G.aload_n C dX2_findBestOrder_29 0 rfl ?_
    refine G.iconst C dX2_findBestOrder_30 ni_m1 ?_
    refine pfX2_34 (i := 1) (j := 0) (cs' := ([wStage t (ad 3) vS, wPlanner t ad (up2 vP 0 5 (-1 : Int32))] ++ fLev t ad gL)) C rfl rfl (Nat.le_of_ble_eq_true rfl) dX2_findBestOrder_31 (suPlanner_5) rfl ?_
    refine G.aload_n C dX2_findBestOrder_34 0 rfl ?_
    refine G.aload_n C dX2_findBestOrder_35 1 rfl ?_
    refine gfX2_27 (i := 0) (j := 0) (v := .int (vS 0 4)) C rfl rfl rfl dX2_findBestOrder_36 ?_
    refine pfX2_37 (i := 1) (j := 0) (cs' := ([wStage t (ad 3) vS, wPlanner t ad (up2 (up2 vP 0 5 (-1 : Int32)) 0 4 (vS 0 4))] ++ fLev t ad gL)) C rfl rfl (Nat.le_of_ble_eq_true rfl) dX2_findBestOrder_39 (suPlanner_4) rfl ?_
    refine G.aload_n C dX2_findBestOrder_42 0 rfl ?_
    refine gfX2_16 (i := 1) (j := 0) (v := .ref (ad 10 3)) C rfl rfl rfl dX2_findBestOrder_43 ?_
    refine G.iconst C dX2_findBestOrder_46 ni_0 ?_
    have b47 := chk_lt h
    refine G.aldS (i := 1) (j := 3) (f := fun i => some (ad (70 + i) 0)) C rfl rfl h rfl dX2_findBestOrder_47 (fun h => ?_)
    refine G.aload_n C dX2_findBestOrder_48 1 rfl ?_
    obtain ⟨q49, hq49, h⟩ := bind_some' h
    refine G.cvV (i0 := 2 + ((0 : Int32).toNatClampNeg)) (j0 := 0) (cs' := ([wStage t (ad 3) vS, wPlanner t ad (up2 (up2 vP 0 5 (-1 : Int32)) 0 4 (vS 0 4))] ++ fLev t ad (upF gL ((0 : Int32).toNatClampNeg) q49))) C (c_X5_takeOver (a := (ad (70 + ((0 : Int32).toNatClampNeg)))) (b := (ad 3)) hq49) [2 + ((0 : Int32).toNatClampNeg), 0] (mj (fSt_get rfl b47) (mj rfl rfl)) (nd2 (by omega)) rfl ((congrArg (fun z => List.set z 0 (wStage t (ad 3) vS)) (fSt_set rfl b47)).trans rfl) (fSt_get rfl b47) rfl rfl k_789 cal_X5_takeOver (fit_rm (by decide) (by decide)) rfl (Nat.le_of_ble_eq_true rfl) dX2_findBestOrder_49 ?_
    refine G.aload_n C dX2_findBestOrder_52 0 rfl ?_
    refine G.iload_n C dX2_findBestOrder_53 2 rfl ?_
    refine G.iconst C dX2_findBestOrder_54 ni_0 ?_
    obtain ⟨q55, hq55, h⟩ := bind_some' h
    refine G.cvV (i0 := 1) (j0 := 0) (cs' := ([wStage t (ad 3) vS, wPlanner t ad (q55.1)] ++ fLev t ad (q55.2))) C (c_X2_tryOrdersC (ad := ad) hq55) ([1] ++ (List.range 7).map (fun k => 2 + k)) (famJ rfl fSt_len rfl) (by decide) (famA rfl fSt_ads) (famC rfl rfl rfl fSt_len fSt_len) rfl rfl rfl k_790 cal_X2_tryOrders (fit_rm (by decide) (by decide)) rfl (Nat.le_of_ble_eq_true rfl) dX2_findBestOrder_55 ?_
    exact hR _ (Option.some.inj h) _ _ dX2_findBestOrder_58
