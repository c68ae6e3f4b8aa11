def F_X3_isRow (N : Nat) (x0 : Int32) : Option (Int32) := if x0 < (0 : Int32) then (some (0 : Int32)) else (if x0 < (8 : Int32) then (some (1 : Int32)) else (some (0 : Int32)))
def F_X3_isLane (N : Nat) (x0 : Int32) : Option (Int32) := if x0 < (0 : Int32) then (some (0 : Int32)) else (if (2 : Int32) < x0 then (some (0 : Int32)) else (some (1 : Int32)))
def F_X3_isMissing (N : Nat) (vW : SV) (x1 : Int32) : Option (Int32) := chk 8 x1 (if ((vW 1) (x1.toNatClampNeg)) = (-1 : Int32) then (some (1 : Int32)) else (some (0 : Int32)))
def F_X3_present_L4 (N : Nat) (vW : SV) : Nat → Int32 → Int32 → Option (Int32)
  | 0, _, _ => none
  | n + 1, x1, x2 => if x2 < (8 : Int32) then ((F_X3_isMissing N vW x2).bind (fun q13 => jn (fun (s24_0 : Int32) => F_X3_present_L4 N vW n (x1 + s24_0) (x2 + (1 : Int32))) (fun J24 => if q13 = (0 : Int32) then (J24 (1 : Int32)) else (J24 (0 : Int32))))) else (some x1)
def F_X3_present (N : Nat) (vW : SV) : Option (Int32) := F_X3_present_L4 N vW N (0 : Int32) (0 : Int32)
def F_X3_lose (N : Nat) (vW : SV) (x1 : Int32) : Option (Int32 × SV) := chk 8 x1 (chk 8 x1 (chk 8 x1 (some (((vW 2) (x1.toNatClampNeg)), (up2 (up2 vW 1 (x1.toNatClampNeg) (-1 : Int32)) 2 (x1.toNatClampNeg) (0 : Int32))))))
def F_X3_isSpan (N : Nat) (vW : SV) (x1 : Int32) (x2 : Int32) (x3 : Int32) : Option (Int32) := if x2 < (0 : Int32) then (some (0 : Int32)) else (if x3 < (0 : Int32) then (some (0 : Int32)) else (chk 8 x1 (if ((vW 2) (x1.toNatClampNeg)) < x2 then (some (0 : Int32)) else (chk 8 x1 (if (((vW 2) (x1.toNatClampNeg)) - x2) < x3 then (some (0 : Int32)) else (some (1 : Int32)))))))
def F_X3_findingOfSpan (N : Nat) (vW : SV) (x1 : Int32) (x2 : Int32) (x3 : Int32) : Option (Int32) := (F_X3_isMissing N vW x1).bind (fun q2 => if q2 = (0 : Int32) then ((F_X3_isSpan N vW x1 x2 x3).bind (fun q14 => if q14 = (0 : Int32) then (some (2 : Int32)) else (some (0 : Int32)))) else (some (1 : Int32)))
def F_X3_findingOfMove (N : Nat) (vW : SV) (x1 : Int32) (x2 : Int32) (x3 : Int32) (x4 : Int32) (x5 : Int32) : Option (Int32) := (F_X3_isMissing N vW x1).bind (fun q2 => if q2 = (0 : Int32) then ((F_X3_isMissing N vW x3).bind (fun q10 => if q10 = (0 : Int32) then (chk 8 x1 (chk 8 x3 (if ((vW 1) (x1.toNatClampNeg)) = ((vW 1) (x3.toNatClampNeg)) then ((F_X3_isSpan N vW x1 x2 x5).bind (fun q40 => if q40 = (0 : Int32) then (some (2 : Int32)) else ((F_X3_isSpan N vW x3 x4 x5).bind (fun q52 => if q52 = (0 : Int32) then (some (2 : Int32)) else (some (0 : Int32)))))) else (some (5 : Int32))))) else (some (1 : Int32)))) else (some (1 : Int32)))
set_option maxHeartbeats 2000000 in
set_option maxRecDepth 20000 in
theorem c_X3_isRow {t : Nat → ClassId} {N : Nat} {x0 : Int32} {r : Int32} (h : F_X3_isRow N x0 = some r) : CI t yX3_isRow cX3_isRow 1 (some .boolean) (rm 1) [.int x0] [] r [] := by
  refine CZ.of (own := RX3) (by decide) rfl (Nat.le_of_ble_eq_true rfl) (fun X C hR0 => ?_)
  have hR : ∀ q : Int32, q = r → RetZ X cX3_isRow q [] := by intro q e; subst e; exact hR0
  show G X [] 0 [(0, .int x0)] []
  unfold F_X3_isRow at h
  refine G.iload_n C dX3_isRow_0 0 rfl ?_
  refine G.if_lt (tgt := 14) C dX3_isRow_1 (by decide) h (fun h => ?_) (fun h => ?_)
  · refine G.iconst C dX3_isRow_14 ni_0 ?_
    exact hR _ (Option.some.inj h) (Or.inl rfl) _ _ dX3_isRow_15
  · refine G.iload_n C dX3_isRow_4 0 rfl ?_
    refine G.bipush C dX3_isRow_5 nb_8 ?_
    refine G.icmp_ge (tgt := 14) C dX3_isRow_7 (by decide) h (fun h => ?_) (fun h => ?_)
    · refine G.iconst C dX3_isRow_14 ni_0 ?_
      exact hR _ (Option.some.inj h) (Or.inl rfl) _ _ dX3_isRow_15
    · refine G.iconst C dX3_isRow_10 ni_1 ?_
      refine G.goto (tgt := 15) C dX3_isRow_11 (by decide) ?_
      exact hR _ (Option.some.inj h) (Or.inr rfl) _ _ dX3_isRow_15
set_option maxHeartbeats 2000000 in
set_option maxRecDepth 20000 in
theorem c_X3_isLane {t : Nat → ClassId} {N : Nat} {x0 : Int32} {r : Int32} (h : F_X3_isLane N x0 = some r) : CI t yX3_isLane cX3_isLane 1 (some .boolean) (rm 1) [.int x0] [] r [] := by
  refine CZ.of (own := RX3) (by decide) rfl (Nat.le_of_ble_eq_true rfl) (fun X C hR0 => ?_)
  have hR : ∀ q : Int32, q = r → RetZ X cX3_isLane q [] := by intro q e; subst e; exact hR0
  show G X [] 0 [(0, .int x0)] []
  unfold F_X3_isLane at h
  refine G.iload_n C dX3_isLane_0 0 rfl ?_
  refine G.if_lt (tgt := 13) C dX3_isLane_1 (by decide) h (fun h => ?_) (fun h => ?_)
  · refine G.iconst C dX3_isLane_13 ni_0 ?_
    exact hR _ (Option.some.inj h) (Or.inl rfl) _ _ dX3_isLane_14
  · refine G.iload_n C dX3_isLane_4 0 rfl ?_
    refine G.iconst C dX3_isLane_5 ni_2 ?_
    refine G.icmp_gt (tgt := 13) C dX3_isLane_6 (by decide) h (fun h => ?_) (fun h => ?_)
    · refine G.iconst C dX3_isLane_13 ni_0 ?_
      exact hR _ (Option.some.inj h) (Or.inl rfl) _ _ dX3_isLane_14
    · refine G.iconst C dX3_isLane_9 ni_1 ?_
      refine G.goto (tgt := 14) C dX3_isLane_10 (by decide) ?_
      exact hR _ (Option.some.inj h) (Or.inr rfl) _ _ dX3_isLane_14
set_option maxHeartbeats 2000000 in
set_option maxRecDepth 20000 in
theorem c_X3_isMissing {t : Nat → ClassId} {ad : Nat → Nat → Nat} {N : Nat} {vW : SV} {x1 : Int32} {r : Int32} (h : F_X3_isMissing N vW x1 = some r) : CI t yX3_isMissing cX3_isMissing 2 (some .boolean) (rm 1) [.ref (ad 1 0), .int x1] [wRows t ad vW] r [wRows t ad vW] := by
  refine CZ.of (own := RX3) (by decide) rfl (Nat.le_of_ble_eq_true rfl) (fun X C hR0 => ?_)
  have hR : ∀ q : Int32, q = r → RetZ X cX3_isMissing q [wRows t ad vW] := by intro q e; subst e; exact hR0
  show G X [wRows t ad vW] 0 [(0, .ref (ad 1 0)), (1, .int x1)] []
  unfold F_X3_isMissing at h
  refine G.aload_n C dX3_isMissing_0 0 rfl ?_
  refine gfX3_14 (i := 0) (j := 0) (v := .ref (ad 1 1)) C rfl rfl rfl dX3_isMissing_1 ?_
  refine G.iload_n C dX3_isMissing_4 1 rfl ?_
  refine G.iald (i := 0) (j := 1) (f := (vW 1)) C rfl rfl h dX3_isMissing_5 (fun h => ?_)
  refine G.iconst C dX3_isMissing_6 ni_m1 ?_
  refine G.icmp_ne (tgt := 14) C dX3_isMissing_7 (by decide) h (fun h => ?_) (fun h => ?_)
  · refine G.iconst C dX3_isMissing_14 ni_0 ?_
    exact hR _ (Option.some.inj h) (Or.inl rfl) _ _ dX3_isMissing_15
  · refine G.iconst C dX3_isMissing_10 ni_1 ?_
    refine G.goto (tgt := 15) C dX3_isMissing_11 (by decide) ?_
    exact hR _ (Option.some.inj h) (Or.inr rfl) _ _ dX3_isMissing_15
set_option maxHeartbeats 2000000 in
set_option maxRecDepth 20000 in
theorem w_X3_present_L4 {X : Cx} {t : Nat → ClassId} {ad : Nat → Nat → Nat} {N : Nat} {vW : SV} {r : Int32} (C : gX X t (rm 2) cX3_present 3 RX3) (hR : ∀ q : Int32, q = r → RetI X cX3_present q [wRows t ad vW]) : ∀ (n : Nat) (x1 : Int32) (x2 : Int32), F_X3_present_L4 N vW n x1 x2 = some r → G X [wRows t ad vW] 4 [(0, .ref (ad 1 0)), (1, .int x1), (2, .int x2)] [] := by
  intro n
  induction n with
  | zero => intro x1 x2 h; exact absurd h (by simp [F_X3_present_L4])
  | succ n ih =>
    intro x1 x2 h
    rw [F_X3_present_L4] at h
    refine G.iload_n C dX3_present_4 2 rfl ?_
    refine G.bipush C dX3_present_5 nb_8 ?_
    refine G.icmp_ge (tgt := 32) C dX3_present_7 (by decide) h (fun h => ?_) (fun h => ?_)
    · refine G.iload_n C dX3_present_32 1 rfl ?_
      exact hR _ (Option.some.inj h) _ _ dX3_present_33
    · refine G.iload_n C dX3_present_10 1 rfl ?_
      refine G.aload_n C dX3_present_11 0 rfl ?_
      refine G.iload_n C dX3_present_12 2 rfl ?_
      obtain ⟨q13, hq13, h⟩ := bind_some' h
      refine G.cvI (i0 := 0) (j0 := 0) (cs' := [wRows t ad vW]) C (c_X3_isMissing (ad := ad) hq13) [0] rfl rfl rfl rfl rfl rfl rfl k_391 cal_X3_isMissing (fit_rm (by decide) (by decide)) rfl (Nat.le_of_ble_eq_true rfl) dX3_present_13 ?_
      refine jn_use (fun J => ∀ (s24_0 : Int32), J s24_0 = some r → G X [wRows t ad vW] 24 [(0, .ref (ad 1 0)), (2, .int x2)] [.int s24_0, .int x1]) h ?_ (fun J24 hJ24 h => ?_)
      · intro s24_0 h
        refine G.iadd C dX3_present_24 ?_
        refine G.istore_n (lv' := [(1, .int (x1 + s24_0)), (0, .ref (ad 1 0)), (2, .int x2)]) C dX3_present_25 (by decide) rfl ?_
        refine G.iinc (v := (x2 + (1 : Int32))) (lv' := [(2, .int (x2 + (1 : Int32))), (1, .int (x1 + s24_0)), (0, .ref (ad 1 0))]) C dX3_present_26 2 rfl (by rw [ni_1]) (by decide) rfl ?_
        refine G.goto (tgt := 4) C dX3_present_29 (by decide) ?_
        exact G.lvs [2, 1, 0] rfl (ih _ _ h)
      refine G.if_eq (tgt := 23) C dX3_present_16 (by decide) h (fun h => ?_) (fun h => ?_)
      · refine G.iconst C dX3_present_23 ni_1 ?_
        exact G.lvs [0, 2] rfl (hJ24 _ h)
      · refine G.iconst C dX3_present_19 ni_0 ?_
        refine G.goto (tgt := 24) C dX3_present_20 (by decide) ?_
        exact G.lvs [0, 2] rfl (hJ24 _ h)
set_option maxHeartbeats 2000000 in
set_option maxRecDepth 20000 in
theorem c_X3_present {t : Nat → ClassId} {ad : Nat → Nat → Nat} {N : Nat} {vW : SV} {r : Int32} (h : F_X3_present N vW = some r) : CI t yX3_present cX3_present 3 (some .int) (rm 2) [.ref (ad 1 0)] [wRows t ad vW] r [wRows t ad vW] := by
  refine CI.of (own := RX3) (by decide) rfl (Nat.le_of_ble_eq_true rfl) (fun X C hR0 => ?_)
  have hR : ∀ q : Int32, q = r → RetI X cX3_present q [wRows t ad vW] := by intro q e; subst e; exact hR0
  show G X [wRows t ad vW] 0 [(0, .ref (ad 1 0))] []
  unfold F_X3_present at h
  refine G.iconst C dX3_present_0 ni_0 ?_
  refine G.istore_n (lv' := [(1, .int (0 : Int32)), (0, .ref (ad 1 0))]) C dX3_present_1 (by decide) rfl ?_
  refine G.iconst C dX3_present_2 ni_0 ?_
  refine G.istore_n (lv' := [(2, .int (0 : Int32)), (1, .int (0 : Int32)), (0, .ref (ad 1 0))]) C dX3_present_3 (by decide) rfl ?_
  exact G.lvs [2, 1, 0] rfl (w_X3_present_L4 C hR N _ _ h)
set_option maxHeartbeats 2000000 in
set_option maxRecDepth 20000 in
theorem c_X3_lose {t : Nat → ClassId} {ad : Nat → Nat → Nat} {N : Nat} {vW : SV} {x1 : Int32} {r : Int32 × SV} (h : F_X3_lose N vW x1 = some r) : CI t yX3_lose cX3_lose 3 (some .int) (rm 1) [.ref (ad 1 0), .int x1] [wRows t ad vW] (r.1) [wRows t ad (r.2)] := by
  refine CI.of (own := RX3) (by decide) rfl (Nat.le_of_ble_eq_true rfl) (fun X C hR0 => ?_)
  have hR : ∀ q : Int32 × SV, q = r → RetI X cX3_lose (q.1) [wRows t ad (q.2)] := by intro q e; subst e; exact hR0
  show G X [wRows t ad vW] 0 [(0, .ref (ad 1 0)), (1, .int x1)] []
  unfold F_X3_lose at h
  refine G.aload_n C dX3_lose_0 0 rfl ?_
  refine gfX3_18 (i := 0) (j := 0) (v := .ref (ad 1 2)) C rfl rfl rfl dX3_lose_1 ?_
  refine G.iload_n C dX3_lose_4 1 rfl ?_
  refine G.iald (i := 0) (j := 2) (f := (vW 2)) C rfl rfl h dX3_lose_5 (fun h => ?_)
  refine G.istore_n (lv' := [(2, .int ((vW 2) (x1.toNatClampNeg))), (0, .ref (ad 1 0)), (1, .int x1)]) C dX3_lose_6 (by decide) rfl ?_
  refine G.aload_n C dX3_lose_7 1 rfl ?_
  refine gfX3_14 (i := 0) (j := 0) (v := .ref (ad 1 1)) C rfl rfl rfl dX3_lose_8 ?_
  refine G.iload_n C dX3_lose_11 2 rfl ?_
  refine G.iconst C dX3_lose_12 ni_m1 ?_
  refine G.iast (i := 0) (j := 1) (f := vW 1) (cs' := [wRows t ad (up2 vW 1 (x1.toNatClampNeg) (-1 : Int32))]) C rfl rfl h dX3_lose_13 (suRowsA_1) rfl (fun h => ?_)
  refine G.aload_n C dX3_lose_14 1 rfl ?_
  refine gfX3_18 (i := 0) (j := 0) (v := .ref (ad 1 2)) C rfl rfl rfl dX3_lose_15 ?_
  refine G.iload_n C dX3_lose_18 2 rfl ?_
  refine G.iconst C dX3_lose_19 ni_0 ?_
  refine G.iast (i := 0) (j := 2) (f := (up2 vW 1 (x1.toNatClampNeg) (-1 : Int32)) 2) (cs' := [wRows t ad (up2 (up2 vW 1 (x1.toNatClampNeg) (-1 : Int32)) 2 (x1.toNatClampNeg) (0 : Int32))]) C rfl rfl h dX3_lose_20 (suRowsA_2) rfl (fun h => ?_)
  refine G.iload_n C dX3_lose_21 0 rfl ?_
  exact hR _ (Option.some.inj h) _ _ dX3_lose_22
set_option maxHeartbeats 2000000 in
set_option maxRecDepth 20000 in
theorem c_X3_isSpan {t : Nat → ClassId} {ad : Nat → Nat → Nat} {N : Nat} {vW : SV} {x1 : Int32} {x2 : Int32} {x3 : Int32} {r : Int32} (h : F_X3_isSpan N vW x1 x2 x3 = some r) : CI t yX3_isSpan cX3_isSpan 4 (some .boolean) (rm 1) [.ref (ad 1 0), .int x1, .int x2, .int x3] [wRows t ad vW] r [wRows t ad vW] := by
  refine CZ.of (own := RX3) (by decide) rfl (Nat.le_of_ble_eq_true rfl) (fun X C hR0 => ?_)
  have hR : ∀ q : Int32, q = r → RetZ X cX3_isSpan q [wRows t ad vW] := by intro q e; subst e; exact hR0
  show G X [wRows t ad vW] 0 [(0, .ref (ad 1 0)), (1, .int x1), (2, .int x2), (3, .int x3)] []
  unfold F_X3_isSpan at h
  refine G.iload_n C dX3_isSpan_0 2 rfl ?_
  refine G.if_lt (tgt := 34) C dX3_isSpan_1 (by decide) h (fun h => ?_) (fun h => ?_)
  · refine G.iconst C dX3_isSpan_34 ni_0 ?_
    exact hR _ (Option.some.inj h) (Or.inl rfl) _ _ dX3_isSpan_35
  · refine G.iload_n C dX3_isSpan_4 3 rfl ?_
    refine G.if_lt (tgt := 34) C dX3_isSpan_5 (by decide) h (fun h => ?_) (fun h => ?_)
    · refine G.iconst C dX3_isSpan_34 ni_0 ?_
      exact hR _ (Option.some.inj h) (Or.inl rfl) _ _ dX3_isSpan_35
    · refine G.iload_n C dX3_isSpan_8 2 rfl ?_
      refine G.aload_n C dX3_isSpan_9 0 rfl ?_
      refine gfX3_18 (i := 0) (j := 0) (v := .ref (ad 1 2)) C rfl rfl rfl dX3_isSpan_10 ?_
      refine G.iload_n C dX3_isSpan_13 1 rfl ?_
      refine G.iald (i := 0) (j := 2) (f := (vW 2)) C rfl rfl h dX3_isSpan_14 (fun h => ?_)
      refine G.icmp_gt (tgt := 34) C dX3_isSpan_15 (by decide) h (fun h => ?_) (fun h => ?_)
      · refine G.iconst C dX3_isSpan_34 ni_0 ?_
        exact hR _ (Option.some.inj h) (Or.inl rfl) _ _ dX3_isSpan_35
      · refine G.iload_n C dX3_isSpan_18 3 rfl ?_
        refine G.aload_n C dX3_isSpan_19 0 rfl ?_
        refine gfX3_18 (i := 0) (j := 0) (v := .ref (ad 1 2)) C rfl rfl rfl dX3_isSpan_20 ?_
        refine G.iload_n C dX3_isSpan_23 1 rfl ?_
        refine G.iald (i := 0) (j := 2) (f := (vW 2)) C rfl rfl h dX3_isSpan_24 (fun h => ?_)
        refine G.iload_n C dX3_isSpan_25 2 rfl ?_
        refine G.isub C dX3_isSpan_26 ?_
        refine G.icmp_gt (tgt := 34) C dX3_isSpan_27 (by decide) h (fun h => ?_) (fun h => ?_)
        · refine G.iconst C dX3_isSpan_34 ni_0 ?_
          exact hR _ (Option.some.inj h) (Or.inl rfl) _ _ dX3_isSpan_35
        · refine G.iconst C dX3_isSpan_30 ni_1 ?_
          refine G.goto (tgt := 35) C dX3_isSpan_31 (by decide) ?_
          exact hR _ (Option.some.inj h) (Or.inr rfl) _ _ dX3_isSpan_35
set_option maxHeartbeats 2000000 in
set_option maxRecDepth 20000 in
theorem c_X3_findingOfSpan {t : Nat → ClassId} {ad : Nat → Nat → Nat} {N : Nat} {vW : SV} {x1 : Int32} {x2 : Int32} {x3 : Int32} {r : Int32} (h : F_X3_findingOfSpan N vW x1 x2 x3 = some r) : CI t yX3_findingOfSpan cX3_findingOfSpan 4 (some .int) (rm 2) [.ref (ad 1 0), .int x1, .int x2, .int x3] [wRows t ad vW] r [wRows t ad vW] := by
  refine CI.of (own := RX3) (by decide) rfl (Nat.le_of_ble_eq_true rfl) (fun X C hR0 => ?_)
  have hR : ∀ q : Int32, q = r → RetI X cX3_findingOfSpan q [wRows t ad vW] := by intro q e; subst e; exact hR0
  show G X [wRows t ad vW] 0 [(0, .ref (ad 1 0)), (1, .int x1), (2, .int x2), (3, .int x3)] []
  unfold F_X3_findingOfSpan at h
  refine G.aload_n C dX3_findingOfSpan_0 0 rfl ?_
  refine G.iload_n C dX3_findingOfSpan_1 1 rfl ?_
  obtain ⟨q2, hq2, h⟩ := bind_some' h
  refine G.cvI (i0 := 0) (j0 := 0) (cs' := [wRows t ad vW]) C (c_X3_isMissing (ad := ad) hq2) [0] rfl rfl rfl rfl rfl rfl rfl k_391 cal_X3_isMissing (fit_rm (by decide) (by decide)) rfl (Nat.le_of_ble_eq_true rfl) dX3_findingOfSpan_2 ?_
  refine G.if_eq (tgt := 10) C dX3_findingOfSpan_5 (by decide) h (fun h => ?_) (fun h => ?_)
  · refine G.aload_n C dX3_findingOfSpan_10 0 rfl ?_
    refine G.iload_n C dX3_findingOfSpan_11 1 rfl ?_
    refine G.iload_n C dX3_findingOfSpan_12 2 rfl ?_
    refine G.iload_n C dX3_findingOfSpan_13 3 rfl ?_
    obtain ⟨q14, hq14, h⟩ := bind_some' h
    refine G.cvI (i0 := 0) (j0 := 0) (cs' := [wRows t ad vW]) C (c_X3_isSpan (ad := ad) hq14) [0] rfl rfl rfl rfl rfl rfl rfl k_395 cal_X3_isSpan (fit_rm (by decide) (by decide)) rfl (Nat.le_of_ble_eq_true rfl) dX3_findingOfSpan_14 ?_
    refine G.if_eq (tgt := 24) C dX3_findingOfSpan_17 (by decide) h (fun h => ?_) (fun h => ?_)
    · refine G.iconst C dX3_findingOfSpan_24 ni_2 ?_
      exact hR _ (Option.some.inj h) _ _ dX3_findingOfSpan_25
    · refine G.iconst C dX3_findingOfSpan_20 ni_0 ?_
      refine G.goto (tgt := 25) C dX3_findingOfSpan_21 (by decide) ?_
      exact hR _ (Option.some.inj h) _ _ dX3_findingOfSpan_25
  · refine G.iconst C dX3_findingOfSpan_8 ni_1 ?_
    exact hR _ (Option.some.inj h) _ _ dX3_findingOfSpan_9
set_option maxHeartbeats 2000000 in
set_option maxRecDepth 20000 in
theorem c_X3_findingOfMove {t : Nat → ClassId} {ad : Nat → Nat → Nat} {N : Nat} {vW : SV} {x1 : Int32} {x2 : Int32} {x3 : Int32} {x4 : Int32} {x5 : Int32} {r : Int32} (h : F_X3_findingOfMove N vW x1 x2 x3 x4 x5 = some r) : CI t yX3_findingOfMove cX3_findingOfMove 6 (some .int) (rm 2) [.ref (ad 1 0), .int x1, .int x2, .int x3, .int x4, .int x5] [wRows t ad vW] r [wRows t ad vW] := by
  refine CI.of (own := RX3) (by decide) rfl (Nat.le_of_ble_eq_true rfl) (fun X C hR0 => ?_)
  have hR : ∀ q : Int32, q = r → RetI X cX3_findingOfMove q [wRows t ad vW] := by intro q e; subst e; exact hR0
  show G X [wRows t ad vW] 0 [(0, .ref (ad 1 0)), (1, .int x1), (2, .int x2), (3, .int x3), (4, .int x4), (5, .int x5)] []
  unfold F_X3_findingOfMove at h
  refine G.aload_n C dX3_findingOfMove_0 0 rfl ?_
  refine G.iload_n C dX3_findingOfMove_1 1 rfl ?_
  obtain ⟨q2, hq2, h⟩ := bind_some' h
  refine G.cvI (i0 := 0) (j0 := 0) (cs' := [wRows t ad vW]) C (c_X3_isMissing (ad := ad) hq2) [0] rfl rfl rfl rfl rfl rfl rfl k_391 cal_X3_isMissing (fit_rm (by decide) (by decide)) rfl (Nat.le_of_ble_eq_true rfl) dX3_findingOfMove_2 ?_
  refine G.if_ne (tgt := 16) C dX3_findingOfMove_5 (by decide) h (fun h => ?_) (fun h => ?_)
  · refine G.iconst C dX3_findingOfMove_16 ni_1 ?_
    exact hR _ (Option.some.inj h) _ _ dX3_findingOfMove_17
  · refine G.aload_n C dX3_findingOfMove_8 0 rfl ?_
    refine G.iload_n C dX3_findingOfMove_9 3 rfl ?_
    obtain ⟨q10, hq10, h⟩ := bind_some' h
    refine G.cvI (i0 := 0) (j0 := 0) (cs' := [wRows t ad vW]) C (c_X3_isMissing (ad := ad) hq10) [0] rfl rfl rfl rfl rfl rfl rfl k_391 cal_X3_isMissing (fit_rm (by decide) (by decide)) rfl (Nat.le_of_ble_eq_true rfl) dX3_findingOfMove_10 ?_
    refine G.if_eq (tgt := 18) C dX3_findingOfMove_13 (by decide) h (fun h => ?_) (fun h => ?_)
    · refine G.aload_n C dX3_findingOfMove_18 0 rfl ?_
      refine gfX3_14 (i := 0) (j := 0) (v := .ref (ad 1 1)) C rfl rfl rfl dX3_findingOfMove_19 ?_
      refine G.iload_n C dX3_findingOfMove_22 1 rfl ?_
      refine G.iald (i := 0) (j := 1) (f := (vW 1)) C rfl rfl h dX3_findingOfMove_23 (fun h => ?_)
      refine G.aload_n C dX3_findingOfMove_24 0 rfl ?_
      refine gfX3_14 (i := 0) (j := 0) (v := .ref (ad 1 1)) C rfl rfl rfl dX3_findingOfMove_25 ?_
      refine G.iload_n C dX3_findingOfMove_28 3 rfl ?_
      refine G.iald (i := 0) (j := 1) (f := (vW 1)) C rfl rfl h dX3_findingOfMove_29 (fun h => ?_)
      refine G.icmp_eq (tgt := 35) C dX3_findingOfMove_30 (by decide) h (fun h => ?_) (fun h => ?_)
      · refine G.aload_n C dX3_findingOfMove_35 0 rfl ?_
        refine G.iload_n C dX3_findingOfMove_36 1 rfl ?_
        refine G.iload_n C dX3_findingOfMove_37 2 rfl ?_
        refine G.iload C dX3_findingOfMove_38 5 rfl ?_
        obtain ⟨q40, hq40, h⟩ := bind_some' h
        refine G.cvI (i0 := 0) (j0 := 0) (cs' := [wRows t ad vW]) C (c_X3_isSpan (ad := ad) hq40) [0] rfl rfl rfl rfl rfl rfl rfl k_395 cal_X3_isSpan (fit_rm (by decide) (by decide)) rfl (Nat.le_of_ble_eq_true rfl) dX3_findingOfMove_40 ?_
        refine G.if_eq (tgt := 62) C dX3_findingOfMove_43 (by decide) h (fun h => ?_) (fun h => ?_)
        · refine G.iconst C dX3_findingOfMove_62 ni_2 ?_
          exact hR _ (Option.some.inj h) _ _ dX3_findingOfMove_63
        · refine G.aload_n C dX3_findingOfMove_46 0 rfl ?_
          refine G.iload_n C dX3_findingOfMove_47 3 rfl ?_
          refine G.iload C dX3_findingOfMove_48 4 rfl ?_
          refine G.iload C dX3_findingOfMove_50 5 rfl ?_
          obtain ⟨q52, hq52, h⟩ := bind_some' h
          refine G.cvI (i0 := 0) (j0 := 0) (cs' := [wRows t ad vW]) C (c_X3_isSpan (ad := ad) hq52) [0] rfl rfl rfl rfl rfl rfl rfl k_395 cal_X3_isSpan (fit_rm (by decide) (by decide)) rfl (Nat.le_of_ble_eq_true rfl) dX3_findingOfMove_52 ?_
          refine G.if_eq (tgt := 62) C dX3_findingOfMove_55 (by decide) h (fun h => ?_) (fun h => ?_)
          · refine G.iconst C dX3_findingOfMove_62 ni_2 ?_
            exact hR _ (Option.some.inj h) _ _ dX3_findingOfMove_63
          · refine G.iconst C dX3_findingOfMove_58 ni_0 ?_
            refine G.goto (tgt := 63) C dX3_findingOfMove_59 (by decide) ?_
            exact hR _ (Option.some.inj h) _ _ dX3_findingOfMove_63
      · refine G.iconst C dX3_findingOfMove_33 ni_5 ?_
        exact hR _ (Option.some.inj h) _ _ dX3_findingOfMove_34
    · refine G.iconst C dX3_findingOfMove_16 ni_1 ?_
      exact hR _ (Option.some.inj h) _ _ dX3_findingOfMove_17
