def F_X0_kept (N : Nat) (vA : SV) : Option (Int32) := some (vA 0 2)
def F_X0_forgetAll (N : Nat) (vA : SV) : Option (SV) := some (up2 vA 0 2 (0 : Int32))
def F_X0_keep (N : Nat) (vS : SV) (vA : SV) (gA : (Nat → SV)) : Option (SV × (Nat → SV)) := chk 24 (vA 0 1) ((F_X5_takeOver N (gA ((vA 0 1).toNatClampNeg)) vS).bind (fun q10 => some ((up2 (up2 vA 0 1 (((vA 0 1) + (1 : Int32)) - ((vA 0 1) + (1 : Int32)) / (24 : Int32) * (24 : Int32))) 0 2 (if ((vA 0 2) + (1 : Int32)) < (24 : Int32) then ((vA 0 2) + (1 : Int32)) else (24 : Int32))), (upF gA ((vA 0 1).toNatClampNeg) q10))))
def F_X0_takeBack (N : Nat) (vS : SV) (vA : SV) (gA : (Nat → SV)) : Option (SV × SV) := if (vA 0 2) = (0 : Int32) then (some (vS, vA)) else (chk 24 ((((vA 0 1) + (24 : Int32)) - (1 : Int32)) - (((vA 0 1) + (24 : Int32)) - (1 : Int32)) / (24 : Int32) * (24 : Int32)) ((F_X5_takeOver N vS (gA (((((vA 0 1) + (24 : Int32)) - (1 : Int32)) - (((vA 0 1) + (24 : Int32)) - (1 : Int32)) / (24 : Int32) * (24 : Int32)).toNatClampNeg))).bind (fun q44 => some (q44, (up2 (up2 vA 0 1 ((((vA 0 1) + (24 : Int32)) - (1 : Int32)) - (((vA 0 1) + (24 : Int32)) - (1 : Int32)) / (24 : Int32) * (24 : Int32))) 0 2 ((vA 0 2) - (1 : Int32)))))))
set_option maxHeartbeats 2000000 in
set_option maxRecDepth 20000 in
theorem c_X0_kept {t : Nat → ClassId} {ad : Nat → Nat → Nat} {N : Nat} {vA : SV} {r : Int32} (h : F_X0_kept N vA = some r) : CI t yX0_kept cX0_kept 1 (some .int) (rm 1) [.ref (ad 5 0)] [wActs t ad vA] r [wActs t ad vA] := by
  refine CI.of (own := RX0) (by decide) rfl (Nat.le_of_ble_eq_true rfl) (fun X C hR0 => ?_)
  have hR : ∀ q : Int32, q = r → RetI X cX0_kept q [wActs t ad vA] := by intro q e; subst e; exact hR0
  show G X [wActs t ad vA] 0 [(0, .ref (ad 5 0))] []
  unfold F_X0_kept at h
  refine G.aload_n C dX0_kept_0 0 rfl ?_
  refine gfX0_16 (i := 0) (j := 0) (v := .int (vA 0 2)) C rfl rfl rfl dX0_kept_1 ?_
  exact hR _ (Option.some.inj h) _ _ dX0_kept_4
set_option maxHeartbeats 2000000 in
set_option maxRecDepth 20000 in
theorem c_X0_forgetAll {t : Nat → ClassId} {ad : Nat → Nat → Nat} {N : Nat} {vA : SV} {r : SV} (h : F_X0_forgetAll N vA = some r) : CV t yX0_forgetAll cX0_forgetAll 1 none (rm 1) [.ref (ad 5 0)] [wActs t ad vA] [wActs t ad r] := by
  refine CV.of (own := RX0) (by decide) rfl (Nat.le_of_ble_eq_true rfl) (fun X C hR0 => ?_)
  have hR : ∀ q : SV, q = r → RetV X cX0_forgetAll [wActs t ad q] := by intro q e; subst e; exact hR0
  show G X [wActs t ad vA] 0 [(0, .ref (ad 5 0))] []
  unfold F_X0_forgetAll at h
  refine G.aload_n C dX0_forgetAll_0 0 rfl ?_
  refine G.iconst C dX0_forgetAll_1 ni_0 ?_
  refine pfX0_16 (i := 0) (j := 0) (cs' := [wActs t ad (up2 vA 0 2 (0 : Int32))]) C rfl rfl (Nat.le_of_ble_eq_true rfl) dX0_forgetAll_2 (suActs_2) rfl ?_
  exact hR _ (Option.some.inj h) _ _ dX0_forgetAll_5
set_option maxHeartbeats 2000000 in
set_option maxRecDepth 20000 in
theorem c_X0_keep {t : Nat → ClassId} {ad : Nat → Nat → Nat} {N : Nat} {vS : SV} {vA : SV} {gA : (Nat → SV)} {r : SV × (Nat → SV)} (h : F_X0_keep N vS vA gA = some r) : CV t yX0_keep cX0_keep 2 none (rm 2) [.ref (ad 5 0), .ref (ad 3 0)] ([wStage t (ad 3) vS, wActs t ad vA] ++ fRing t ad gA) ([wStage t (ad 3) vS, wActs t ad (r.1)] ++ fRing t ad (r.2)) := by
  refine CV.of (own := RX0) (by decide) rfl (Nat.le_of_ble_eq_true rfl) (fun X C hR0 => ?_)
  have hR : ∀ q : SV × (Nat → SV), q = r → RetV X cX0_keep ([wStage t (ad 3) vS, wActs t ad (q.1)] ++ fRing t ad (q.2)) := by intro q e; subst e; exact hR0
  show G X ([wStage t (ad 3) vS, wActs t ad vA] ++ fRing t ad gA) 0 [(0, .ref (ad 5 0)), (1, .ref (ad 3 0))] []
  unfold F_X0_keep at h
  refine G.aload_n C dX0_keep_0 0 rfl ?_
  refine gfX0_11 (i := 1) (j := 0) (v := .ref (ad 5 1)) C rfl rfl rfl dX0_keep_1 ?_
  refine G.aload_n C dX0_keep_4 0 rfl ?_
  refine gfX0_20 (i := 1) (j := 0) (v := .int (vA 0 1)) C rfl rfl rfl dX0_keep_5 ?_
  have b8 := chk_lt h
  refine G.aldS (i := 1) (j := 1) (f := fun i => some (ad (40 + i) 0)) C rfl rfl h rfl dX0_keep_8 (fun h => ?_)
  refine G.aload_n C dX0_keep_9 1 rfl ?_
  obtain ⟨q10, hq10, h⟩ := bind_some' h
  refine G.cvV (i0 := 2 + ((vA 0 1).toNatClampNeg)) (j0 := 0) (cs' := ([wStage t (ad 3) vS, wActs t ad vA] ++ fRing t ad (upF gA ((vA 0 1).toNatClampNeg) q10))) C (c_X5_takeOver (a := (ad (40 + ((vA 0 1).toNatClampNeg)))) (b := (ad 3)) hq10) [2 + ((vA 0 1).toNatClampNeg), 0] (mj (fSt_get rfl b8) (mj rfl rfl)) (nd2 (by omega)) rfl ((congrArg (fun z => List.set z 0 (wStage t (ad 3) vS)) (fSt_set rfl b8)).trans rfl) (fSt_get rfl b8) rfl rfl k_627 cal_X5_takeOver (fit_rm (by decide) (by decide)) rfl (Nat.le_of_ble_eq_true rfl) dX0_keep_10 ?_
  refine G.aload_n C dX0_keep_13 0 rfl ?_
  refine G.aload_n C dX0_keep_14 0 rfl ?_
  refine gfX0_20 (i := 1) (j := 0) (v := .int (vA 0 1)) C rfl rfl rfl dX0_keep_15 ?_
  refine G.iconst C dX0_keep_18 ni_1 ?_
  refine G.iadd C dX0_keep_19 ?_
  refine G.bipush C dX0_keep_20 nb_24 ?_
  refine G.iremc C dX0_keep_22 (by decide) ?_
  refine pfX0_20 (i := 1) (j := 0) (cs' := ([wStage t (ad 3) vS, wActs t ad (up2 vA 0 1 (((vA 0 1) + (1 : Int32)) - ((vA 0 1) + (1 : Int32)) / (24 : Int32) * (24 : Int32)))] ++ fRing t ad (upF gA ((vA 0 1).toNatClampNeg) q10))) C rfl rfl (Nat.le_of_ble_eq_true rfl) dX0_keep_23 (suActs_1) rfl ?_
  refine G.aload_n C dX0_keep_26 0 rfl ?_
  refine G.bipush C dX0_keep_27 nb_24 ?_
  refine G.aload_n C dX0_keep_29 0 rfl ?_
  refine gfX0_16 (i := 1) (j := 0) (v := .int (vA 0 2)) C rfl rfl rfl dX0_keep_30 ?_
  refine G.iconst C dX0_keep_33 ni_1 ?_
  refine G.iadd C dX0_keep_34 ?_
  refine G.mmin C k_640 k_513 k_88 k_514 (by decide) (Nat.le_of_ble_eq_true rfl) dX0_keep_35 ?_
  refine pfX0_16 (i := 1) (j := 0) (cs' := ([wStage t (ad 3) vS, wActs t ad (up2 (up2 vA 0 1 (((vA 0 1) + (1 : Int32)) - ((vA 0 1) + (1 : Int32)) / (24 : Int32) * (24 : Int32))) 0 2 (if ((vA 0 2) + (1 : Int32)) < (24 : Int32) then ((vA 0 2) + (1 : Int32)) else (24 : Int32)))] ++ fRing t ad (upF gA ((vA 0 1).toNatClampNeg) q10))) C rfl rfl (Nat.le_of_ble_eq_true rfl) dX0_keep_38 (suActs_2) rfl ?_
  exact hR _ (Option.some.inj h) _ _ dX0_keep_41
set_option maxHeartbeats 2000000 in
set_option maxRecDepth 20000 in
theorem c_X0_takeBack {t : Nat → ClassId} {ad : Nat → Nat → Nat} {N : Nat} {vS : SV} {vA : SV} {gA : (Nat → SV)} {r : SV × SV} (h : F_X0_takeBack N vS vA gA = some r) : CV t yX0_takeBack cX0_takeBack 2 none (rm 2) [.ref (ad 5 0), .ref (ad 3 0)] ([wStage t (ad 3) vS, wActs t ad vA] ++ fRing t ad gA) ([wStage t (ad 3) (r.1), wActs t ad (r.2)] ++ fRing t ad gA) := by
  refine CV.of (own := RX0) (by decide) rfl (Nat.le_of_ble_eq_true rfl) (fun X C hR0 => ?_)
  have hR : ∀ q : SV × SV, q = r → RetV X cX0_takeBack ([wStage t (ad 3) (q.1), wActs t ad (q.2)] ++ fRing t ad gA) := by intro q e; subst e; exact hR0
  show G X ([wStage t (ad 3) vS, wActs t ad vA] ++ fRing t ad gA) 0 [(0, .ref (ad 5 0)), (1, .ref (ad 3 0))] []
  unfold F_X0_takeBack at h
  refine G.aload_n C dX0_takeBack_0 0 rfl ?_
  refine gfX0_16 (i := 1) (j := 0) (v := .int (vA 0 2)) C rfl rfl rfl dX0_takeBack_1 ?_
  refine G.if_ne (tgt := 8) C dX0_takeBack_4 (by decide) h (fun h => ?_) (fun h => ?_)
  · refine G.aload_n C dX0_takeBack_8 0 rfl ?_
    refine G.aload_n C dX0_takeBack_9 0 rfl ?_
    refine gfX0_20 (i := 1) (j := 0) (v := .int (vA 0 1)) C rfl rfl rfl dX0_takeBack_10 ?_
    refine G.bipush C dX0_takeBack_13 nb_24 ?_
    refine G.iadd C dX0_takeBack_15 ?_
    refine G.iconst C dX0_takeBack_16 ni_1 ?_
    refine G.isub C dX0_takeBack_17 ?_
    refine G.bipush C dX0_takeBack_18 nb_24 ?_
    refine G.iremc C dX0_takeBack_20 (by decide) ?_
    refine pfX0_20 (i := 1) (j := 0) (cs' := ([wStage t (ad 3) vS, wActs t ad (up2 vA 0 1 ((((vA 0 1) + (24 : Int32)) - (1 : Int32)) - (((vA 0 1) + (24 : Int32)) - (1 : Int32)) / (24 : Int32) * (24 : Int32)))] ++ fRing t ad gA)) C rfl rfl (Nat.le_of_ble_eq_true rfl) dX0_takeBack_21 (suActs_1) rfl ?_
    refine G.aload_n C dX0_takeBack_24 0 rfl ?_
    refine G.dup C dX0_takeBack_25 rfl ?_
    refine gfX0_16 (i := 1) (j := 0) (v := .int (vA 0 2)) C rfl rfl rfl dX0_takeBack_26 ?_
    refine G.iconst C dX0_takeBack_29 ni_1 ?_
    refine G.isub C dX0_takeBack_30 ?_
    refine pfX0_16 (i := 1) (j := 0) (cs' := ([wStage t (ad 3) vS, wActs t ad (up2 (up2 vA 0 1 ((((vA 0 1) + (24 : Int32)) - (1 : Int32)) - (((vA 0 1) + (24 : Int32)) - (1 : Int32)) / (24 : Int32) * (24 : Int32))) 0 2 ((vA 0 2) - (1 : Int32)))] ++ fRing t ad gA)) C rfl rfl (Nat.le_of_ble_eq_true rfl) dX0_takeBack_31 (suActs_2) rfl ?_
    refine G.aload_n C dX0_takeBack_34 1 rfl ?_
    refine G.aload_n C dX0_takeBack_35 0 rfl ?_
    refine gfX0_11 (i := 1) (j := 0) (v := .ref (ad 5 1)) C rfl rfl rfl dX0_takeBack_36 ?_
    refine G.aload_n C dX0_takeBack_39 0 rfl ?_
    refine gfX0_20 (i := 1) (j := 0) (v := .int ((((vA 0 1) + (24 : Int32)) - (1 : Int32)) - (((vA 0 1) + (24 : Int32)) - (1 : Int32)) / (24 : Int32) * (24 : Int32))) C rfl rfl rfl dX0_takeBack_40 ?_
    have b43 := chk_lt h
    refine G.aldS (i := 1) (j := 1) (f := fun i => some (ad (40 + i) 0)) C rfl rfl h rfl dX0_takeBack_43 (fun h => ?_)
    obtain ⟨q44, hq44, h⟩ := bind_some' h
    refine G.cvV (i0 := 0) (j0 := 0) (cs' := ([wStage t (ad 3) q44, wActs t ad (up2 (up2 vA 0 1 ((((vA 0 1) + (24 : Int32)) - (1 : Int32)) - (((vA 0 1) + (24 : Int32)) - (1 : Int32)) / (24 : Int32) * (24 : Int32))) 0 2 ((vA 0 2) - (1 : Int32)))] ++ fRing t ad gA)) C (c_X5_takeOver (a := (ad 3)) (b := (ad (40 + (((((vA 0 1) + (24 : Int32)) - (1 : Int32)) - (((vA 0 1) + (24 : Int32)) - (1 : Int32)) / (24 : Int32) * (24 : Int32)).toNatClampNeg)))) hq44) [0, 2 + (((((vA 0 1) + (24 : Int32)) - (1 : Int32)) - (((vA 0 1) + (24 : Int32)) - (1 : Int32)) / (24 : Int32) * (24 : Int32)).toNatClampNeg)] (mj rfl (mj (fSt_get rfl b43) rfl)) (nd2 (by omega)) rfl (fSt_keep (t := t) (ad := ad) (b := 40) (g := gA) (pre := [wStage t (ad 3) q44, wActs t ad (up2 (up2 vA 0 1 ((((vA 0 1) + (24 : Int32)) - (1 : Int32)) - (((vA 0 1) + (24 : Int32)) - (1 : Int32)) / (24 : Int32) * (24 : Int32))) 0 2 ((vA 0 2) - (1 : Int32)))]) rfl b43) rfl rfl rfl k_627 cal_X5_takeOver (fit_rm (by decide) (by decide)) rfl (Nat.le_of_ble_eq_true rfl) dX0_takeBack_44 ?_
    exact hR _ (Option.some.inj h) _ _ dX0_takeBack_47
  · exact hR _ (Option.some.inj h) _ _ dX0_takeBack_7
