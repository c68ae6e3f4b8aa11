def F_X3_isRow (N : Nat) (x0 : Int32) : Option (Int32) := if x0 < (0 : Int32) then (some (0 : Int32)) else (if x0 < (8 : Int32) then (some (1 : Int32)) else (some (0 : Int32)))
def F_X3_isLane (N : Nat) (x0 : Int32) : Option (Int32) := if x0 < (0 : Int32) then (some (0 : Int32)) else (if (2 : Int32) < x0 then (some (0 : Int32)) else (some (1 : Int32)))
def F_X3_isMissing (N : Nat) (vW : SV) (x1 : Int32) : Option (Int32) := chk 8 x1 (if ((vW 1) (x1.toNatClampNeg)) = (-1 : Int32) then (some (1 : Int32)) else (some (0 : Int32)))
def F_X3_present_L4 (N : Nat) (vW : SV) : Nat → Int32 → Int32 → Option (Int32)
  | 0, _, _ => none
  | n + 1, x1, x2 => if x2 < (8 : Int32) then ((F_X3_isMissing N vW x2).bind (fun q13 => jn (fun (s24_0 : Int32) => F_X3_present_L4 N vW n (x1 + s24_0) (x2 + (1 : Int32))) (fun J24 => if q13 = (0 : Int32) then (J24 (1 : Int32)) else (J24 (0 : Int32))))) else (some x1)
def F_X3_present (N : Nat) (vW : SV) : Option (Int32) := F_X3_present_L4 N vW N (0 : Int32) (0 : Int32)
def F_X3_make_L17 (N : Nat) (vW : SV) (x1 : Int32) : Nat → Int32 → SV → Option (SV × SV)
  | 0, _, _ => none
  | n + 1, x4, gW => if x4 < (40 : Int32) then (chk 8 x1 (chk 40 x4 (F_X3_make_L17 N vW x1 n (x4 + (1 : Int32)) (upA gW (x1.toNatClampNeg) (upd (gW (x1.toNatClampNeg)) (x4.toNatClampNeg) (0 : Int32)))))) else (some (vW, gW))
def F_X3_make (N : Nat) (vW : SV) (gW : SV) (x1 : Int32) (x2 : Int32) (x3 : Int32) : Option (SV × SV) := chk 8 x1 (chk 8 x1 (F_X3_make_L17 N (up2 (up2 vW 1 (x1.toNatClampNeg) x2) 2 (x1.toNatClampNeg) x3) x1 N (0 : Int32) gW))
def F_X3_lose (N : Nat) (vW : SV) (x1 : Int32) : Option (Int32 × SV) := chk 8 x1 (chk 8 x1 (chk 8 x1 (some (((vW 2) (x1.toNatClampNeg)), (up2 (up2 vW 1 (x1.toNatClampNeg) (-1 : Int32)) 2 (x1.toNatClampNeg) (0 : Int32))))))
def F_X3_put (N : Nat) (vW : SV) (gW : SV) (x1 : Int32) (x2 : Int32) (x3 : Int32) : Option (Int32 × SV) := chk 8 x1 (jn (fun (x4_33 : Int32) => chk 8 x1 (chk 40 x2 (some (x4_33, (upA gW (x1.toNatClampNeg) (upd (gW (x1.toNatClampNeg)) (x2.toNatClampNeg) x4_33)))))) (fun J33 => if ((vW 1) (x1.toNatClampNeg)) = (0 : Int32) then (J33 (x3.toInt8.toInt32)) else (chk 8 x1 (if ((vW 1) (x1.toNatClampNeg)) = (1 : Int32) then (J33 (x3.toInt16.toInt32)) else (J33 x3)))))
def F_X3_item (N : Nat) (vW : SV) (gW : SV) (x1 : Int32) (x2 : Int32) : Option (Int32) := (F_X3_isRow N x1).bind (fun q1 => if q1 = (0 : Int32) then (some (0 : Int32)) else (if x2 < (0 : Int32) then (some (0 : Int32)) else (if x2 < (40 : Int32) then (chk 8 x1 (chk 40 x2 (some ((gW (x1.toNatClampNeg)) (x2.toNatClampNeg))))) else (some (0 : Int32)))))
def F_X3_isSpan (N : Nat) (vW : SV) (x1 : Int32) (x2 : Int32) (x3 : Int32) : Option (Int32) := if x2 < (0 : Int32) then (some (0 : Int32)) else (if x3 < (0 : Int32) then (some (0 : Int32)) else (chk 8 x1 (if ((vW 2) (x1.toNatClampNeg)) < x2 then (some (0 : Int32)) else (chk 8 x1 (if (((vW 2) (x1.toNatClampNeg)) - x2) < x3 then (some (0 : Int32)) else (some (1 : Int32)))))))
def F_X3_findingOfSpan (N : Nat) (vW : SV) (x1 : Int32) (x2 : Int32) (x3 : Int32) : Option (Int32) := (F_X3_isMissing N vW x1).bind (fun q2 => if q2 = (0 : Int32) then ((F_X3_isSpan N vW x1 x2 x3).bind (fun q14 => if q14 = (0 : Int32) then (some (2 : Int32)) else (some (0 : Int32)))) else (some (1 : Int32)))
def F_X3_findingOfMove (N : Nat) (vW : SV) (x1 : Int32) (x2 : Int32) (x3 : Int32) (x4 : Int32) (x5 : Int32) : Option (Int32) := (F_X3_isMissing N vW x1).bind (fun q2 => if q2 = (0 : Int32) then ((F_X3_isMissing N vW x3).bind (fun q10 => if q10 = (0 : Int32) then (chk 8 x1 (chk 8 x3 (if ((vW 1) (x1.toNatClampNeg)) = ((vW 1) (x3.toNatClampNeg)) then ((F_X3_isSpan N vW x1 x2 x5).bind (fun q40 => if q40 = (0 : Int32) then (some (2 : Int32)) else ((F_X3_isSpan N vW x3 x4 x5).bind (fun q52 => if q52 = (0 : Int32) then (some (2 : Int32)) else (some (0 : Int32)))))) else (some (5 : Int32))))) else (some (1 : Int32)))) else (some (1 : Int32)))
def F_X3_move (N : Nat) (vW : SV) (gW : SV) (x1 : Int32) (x2 : Int32) (x3 : Int32) (x4 : Int32) (x5 : Int32) : Option (SV) := chk 8 x1 (chk 8 x3 (cpk 40 40 x2 x4 x5 (some (upA gW (x3.toNatClampNeg) (va_cpy (gW (x1.toNatClampNeg)) (gW (x3.toNatClampNeg)) (x2.toNatClampNeg) (x4.toNatClampNeg) (x5.toNatClampNeg))))))
set_option maxHeartbeats 2000000 in
set_option maxRecDepth 20000 in
theorem c_X3_isRow {t : Nat → ClassId} {N : Nat} {x0 : Int32} {r : Int32} (h : F_X3_isRow N x0 = some r) : CI t yX3_isRow cX3_isRow 1 (some .boolean) (rm 1) [.int x0] [] r [] := by
  refine CZ.of (own := RX3) (by decide) rfl (Nat.le_of_ble_eq_true rfl) (fun X C hR0 => ?_)
  have hR : ∀ q : Int32, q = r → RetZ X cX3_isRow q [] := by intro q e; subst e; exact hR0
  show G X [] 0 [(0, .int x0)] []
  unfold F_X3_isRow at h
  refine G.iload_n C dX3_isRow_0 0 rfl ?_
  refine G.if_lt (tgt := 14) C dX3_isRow_1 (by decide) h (fun h => ?_) (fun h => ?_)
  · refine G.iconst C dX3_isRow_14 ni_0 ?_
    exact hR _ (Option.some.inj h) (Or.inl rfl) _ _ dX3_isRow_15
  · refine G.iload_n C dX3_isRow_4 0 rfl ?_
    refine G.bipush C dX3_isRow_5 nb_8 ?_
    refine G.icmp_ge (tgt := 14) C dX3_isRow_7 (by decide) h (fun h => ?_) (fun h => ?_)
    · refine G.iconst C dX3_isRow_14 ni_0 ?_
      exact hR _ (Option.some.inj h) (Or.inl rfl) _ _ dX3_isRow_15
    · refine G.iconst C dX3_isRow_10 ni_1 ?_
      refine G.goto (tgt := 15) C dX3_isRow_11 (by decide) ?_
      exact hR _ (Option.some.inj h) (Or.inr rfl) _ _ dX3_isRow_15
set_option maxHeartbeats 2000000 in
set_option maxRecDepth 20000 in
theorem c_X3_isLane {t : Nat → ClassId} {N : Nat} {x0 : Int32} {r : Int32} (h : F_X3_isLane N x0 = some r) : CI t yX3_isLane cX3_isLane 1 (some .boolean) (rm 1) [.int x0] [] r [] := by
  refine CZ.of (own := RX3) (by decide) rfl (Nat.le_of_ble_eq_true rfl) (fun X C hR0 => ?_)
  have hR : ∀ q : Int32, q = r → RetZ X cX3_isLane q [] := by intro q e; subst e; exact hR0
  show G X [] 0 [(0, .int x0)] []
  unfold F_X3_isLane at h
  refine G.iload_n C dX3_isLane_0 0 rfl ?_
  refine G.if_lt (tgt := 13) C dX3_isLane_1 (by decide) h (fun h => ?_) (fun h => ?_)
  · refine G.iconst C dX3_isLane_13 ni_0 ?_
    exact hR _ (Option.some.inj h) (Or.inl rfl) _ _ dX3_isLane_14
  · refine G.iload_n C dX3_isLane_4 0 rfl ?_
    refine G.iconst C dX3_isLane_5 ni_2 ?_
    refine G.icmp_gt (tgt := 13) C dX3_isLane_6 (by decide) h (fun h => ?_) (fun h => ?_)
    · refine G.iconst C dX3_isLane_13 ni_0 ?_
      exact hR _ (Option.some.inj h) (Or.inl rfl) _ _ dX3_isLane_14
    · refine G.iconst C dX3_isLane_9 ni_1 ?_
      refine G.goto (tgt := 14) C dX3_isLane_10 (by decide) ?_
      exact hR _ (Option.some.inj h) (Or.inr rfl) _ _ dX3_isLane_14
set_option maxHeartbeats 2000000 in
set_option maxRecDepth 20000 in
theorem c_X3_isMissing {t : Nat → ClassId} {ad : Nat → Nat → Nat} {N : Nat} {vW : SV} {x1 : Int32} {r : Int32} (h : F_X3_isMissing N vW x1 = some r) : CI t yX3_isMissing cX3_isMissing 2 (some .boolean) (rm 1) [.ref (ad 1 0), .int x1] [wRows t ad vW] r [wRows t ad vW] := by
  refine CZ.of (own := RX3) (by decide) rfl (Nat.le_of_ble_eq_true rfl) (fun X C hR0 => ?_)
  have hR : ∀ q : Int32, q = r → RetZ X cX3_isMissing q [wRows t ad vW] := by intro q e; subst e; exact hR0
  show G X [wRows t ad vW] 0 [(0, .ref (ad 1 0)), (1, .int x1)] []
  unfold F_X3_isMissing at h
  refine G.aload_n C dX3_isMissing_0 0 rfl ?_
  refine gfX3_14 (i := 0) (j := 0) (v := .ref (ad 1 1)) C rfl rfl rfl dX3_isMissing_1 ?_
  refine G.iload_n C dX3_isMissing_4 1 rfl ?_
  refine G.iald (i := 0) (j := 1) (f := (vW 1)) C rfl rfl h dX3_isMissing_5 (fun h => ?_)
  refine G.iconst C dX3_isMissing_6 ni_m1 ?_
  refine G.icmp_ne (tgt := 14) C dX3_isMissing_7 (by decide) h (fun h => ?_) (fun h => ?_)
  · refine G.iconst C dX3_isMissing_14 ni_0 ?_
    exact hR _ (Option.some.inj h) (Or.inl rfl) _ _ dX3_isMissing_15
  · refine G.iconst C dX3_isMissing_10 ni_1 ?_
    refine G.goto (tgt := 15) C dX3_isMissing_11 (by decide) ?_
    exact hR _ (Option.some.inj h) (Or.inr rfl) _ _ dX3_isMissing_15
set_option maxHeartbeats 2000000 in
set_option maxRecDepth 20000 in
theorem w_X3_present_L4 {X : Cx} {t : Nat → ClassId} {ad : Nat → Nat → Nat} {N : Nat} {vW : SV} {r : Int32} (C : gX X t (rm 2) cX3_present 3 RX3) (hR : ∀ q : Int32, q = r → RetI X cX3_present q [wRows t ad vW]) : ∀ (n : Nat) (x1 : Int32) (x2 : Int32), F_X3_present_L4 N vW n x1 x2 = some r → G X [wRows t ad vW] 4 [(0, .ref (ad 1 0)), (1, .int x1), (2, .int x2)] [] := by
  intro n
  induction n with
  | zero => intro x1 x2 h; exact absurd h (by simp [F_X3_present_L4])
  | succ n ih =>
    intro x1 x2 h
    rw [F_X3_present_L4] at h
    refine G.iload_n C dX3_present_4 2 rfl ?_
    refine G.bipush C dX3_present_5 nb_8 ?_
    refine G.icmp_ge (tgt := 32) C dX3_present_7 (by decide) h (fun h => ?_) (fun h => ?_)
    · refine G.iload_n C dX3_present_32 1 rfl ?_
      exact hR _ (Option.some.inj h) _ _ dX3_present_33
    · refine G.iload_n C dX3_present_10 1 rfl ?_
      refine G.aload_n C dX3_present_11 0 rfl ?_
      refine G.iload_n C dX3_present_12 2 rfl ?_
      obtain ⟨q13, hq13, h⟩ := bind_some' h
      refine G.cvI (i0 := 0) (j0 := 0) (cs' := [wRows t ad vW]) C (c_X3_isMissing (ad := ad) hq13) [0] rfl rfl rfl rfl rfl rfl rfl k_391 cal_X3_isMissing (fit_rm (by decide) (by decide)) rfl (Nat.le_of_ble_eq_true rfl) dX3_present_13 ?_
      refine jn_use (fun J => ∀ (s24_0 : Int32), J s24_0 = some r → G X [wRows t ad vW] 24 [(0, .ref (ad 1 0)), (2, .int x2)] [.int s24_0, .int x1]) h ?_ (fun J24 hJ24 h => ?_)
      · intro s24_0 h
        refine G.iadd C dX3_present_24 ?_
        refine G.istore_n (lv' := [(1, .int (x1 + s24_0)), (0, .ref (ad 1 0)), (2, .int x2)]) C dX3_present_25 (by decide) rfl ?_
        refine G.iinc (v := (x2 + (1 : Int32))) (lv' := [(2, .int (x2 + (1 : Int32))), (1, .int (x1 + s24_0)), (0, .ref (ad 1 0))]) C dX3_present_26 2 rfl (by rw [ni_1]) (by decide) rfl ?_
        refine G.goto (tgt := 4) C dX3_present_29 (by decide) ?_
        exact G.lvs [2, 1, 0] rfl (ih _ _ h)
      refine G.if_eq (tgt := 23) C dX3_present_16 (by decide) h (fun h => ?_) (fun h => ?_)
      · refine G.iconst C dX3_present_23 ni_1 ?_
        exact G.lvs [0, 2] rfl (hJ24 _ h)
      · refine G.iconst C dX3_present_19 ni_0 ?_
        refine G.goto (tgt := 24) C dX3_present_20 (by decide) ?_
        exact G.lvs [0, 2] rfl (hJ24 _ h)
set_option maxHeartbeats 2000000 in
set_option maxRecDepth 20000 in
theorem c_X3_present {t : Nat → ClassId} {ad : Nat → Nat → Nat} {N : Nat} {vW : SV} {r : Int32} (h : F_X3_present N vW = some r) : CI t yX3_present cX3_present 3 (some .int) (rm 2) [.ref (ad 1 0)] [wRows t ad vW] r [wRows t ad vW] := by
  refine CI.of (own := RX3) (by decide) rfl (Nat.le_of_ble_eq_true rfl) (fun X C hR0 => ?_)
  have hR : ∀ q : Int32, q = r → RetI X cX3_present q [wRows t ad vW] := by intro q e; subst e; exact hR0
  show G X [wRows t ad vW] 0 [(0, .ref (ad 1 0))] []
  unfold F_X3_present at h
  refine G.iconst C dX3_present_0 ni_0 ?_
  refine G.istore_n (lv' := [(1, .int (0 : Int32)), (0, .ref (ad 1 0))]) C dX3_present_1 (by decide) rfl ?_
  refine G.iconst C dX3_present_2 ni_0 ?_
  refine G.istore_n (lv' := [(2, .int (0 : Int32)), (1, .int (0 : Int32)), (0, .ref (ad 1 0))]) C dX3_present_3 (by decide) rfl ?_
  exact G.lvs [2, 1, 0] rfl (w_X3_present_L4 C hR N _ _ h)
set_option maxHeartbeats 2000000 in
set_option maxRecDepth 20000 in
theorem w_X3_make_L17 {X : Cx} {t : Nat → ClassId} {ad : Nat → Nat → Nat} {N : Nat} {vW : SV} {x1 : Int32} {r : SV × SV} (C : gX X t (rm 1) cX3_make 5 RX3) (hR : ∀ q : SV × SV, q = r → RetV X cX3_make ([wRows t ad (q.1)] ++ fRows t ad (q.2))) : ∀ (n : Nat) (x4 : Int32) (gW : SV), F_X3_make_L17 N vW x1 n x4 gW = some r → G X ([wRows t ad vW] ++ fRows t ad gW) 17 [(0, .ref (ad 1 0)), (1, .int x1), (4, .int x4)] [] := by
  intro n
  induction n with
  | zero => intro x4 gW h; exact absurd h (by simp [F_X3_make_L17])
  | succ n ih =>
    intro x4 gW h
    rw [F_X3_make_L17] at h
    refine G.iload C dX3_make_17 2 rfl ?_
    refine G.bipush C dX3_make_19 nb_40 ?_
    refine G.icmp_ge (tgt := 40) C dX3_make_21 (by decide) h (fun h => ?_) (fun h => ?_)
    · exact hR _ (Option.some.inj h) _ _ dX3_make_40
    · refine G.aload_n C dX3_make_24 0 rfl ?_
      refine gfX3_11 (i := 0) (j := 0) (v := .ref (ad 1 3)) C rfl rfl rfl dX3_make_25 ?_
      refine G.iload_n C dX3_make_28 1 rfl ?_
      have b29 := chk_lt h
      refine G.aldR (i := 0) (j := 3) (f := fun i => some (ad (20 + i) 0)) C rfl rfl h rfl dX3_make_29 (fun h => ?_)
      refine G.iload C dX3_make_30 2 rfl ?_
      refine G.iconst C dX3_make_32 ni_0 ?_
      refine G.iast (i := 1 + (x1.toNatClampNeg)) (j := 0) (f := (gW (x1.toNatClampNeg))) (cs' := ([wRows t ad vW] ++ fRows t ad (upA gW (x1.toNatClampNeg) (upd (gW (x1.toNatClampNeg)) (x4.toNatClampNeg) (0 : Int32))))) C (fRows_get rfl b29) rfl h dX3_make_33 rfl (fRows_set rfl b29) (fun h => ?_)
      refine G.iinc (v := (x4 + (1 : Int32))) (lv' := [(4, .int (x4 + (1 : Int32))), (0, .ref (ad 1 0)), (1, .int x1)]) C dX3_make_34 2 rfl (by rw [ni_1]) (by decide) rfl ?_
      refine G.goto (tgt := 17) C dX3_make_37 (by decide) ?_
      exact G.lvs [1, 2, 0] rfl (ih _ _ h)
set_option maxHeartbeats 2000000 in
set_option maxRecDepth 20000 in
theorem c_X3_make {t : Nat → ClassId} {ad : Nat → Nat → Nat} {N : Nat} {vW : SV} {gW : SV} {x1 : Int32} {x2 : Int32} {x3 : Int32} {r : SV × SV} (h : F_X3_make N vW gW x1 x2 x3 = some r) : CV t yX3_make cX3_make 5 none (rm 1) [.ref (ad 1 0), .int x1, .int x2, .int x3] ([wRows t ad vW] ++ fRows t ad gW) ([wRows t ad (r.1)] ++ fRows t ad (r.2)) := by
  refine CV.of (own := RX3) (by decide) rfl (Nat.le_of_ble_eq_true rfl) (fun X C hR0 => ?_)
  have hR : ∀ q : SV × SV, q = r → RetV X cX3_make ([wRows t ad (q.1)] ++ fRows t ad (q.2)) := by intro q e; subst e; exact hR0
  show G X ([wRows t ad vW] ++ fRows t ad gW) 0 [(0, .ref (ad 1 0)), (1, .int x1), (2, .int x2), (3, .int x3)] []
  unfold F_X3_make at h
  refine G.aload_n C dX3_make_0 0 rfl ?_
  refine gfX3_14 (i := 0) (j := 0) (v := .ref (ad 1 1)) C rfl rfl rfl dX3_make_1 ?_
  refine G.iload_n C dX3_make_4 1 rfl ?_
  refine G.iload_n C dX3_make_5 2 rfl ?_
  refine G.iast (i := 0) (j := 1) (f := vW 1) (cs' := ([wRows t ad (up2 vW 1 (x1.toNatClampNeg) x2)] ++ fRows t ad gW)) C rfl rfl h dX3_make_6 (suRowsA_1) rfl (fun h => ?_)
  refine G.aload_n C dX3_make_7 0 rfl ?_
  refine gfX3_18 (i := 0) (j := 0) (v := .ref (ad 1 2)) C rfl rfl rfl dX3_make_8 ?_
  refine G.iload_n C dX3_make_11 1 rfl ?_
  refine G.iload_n C dX3_make_12 3 rfl ?_
  refine G.iast (i := 0) (j := 2) (f := (up2 vW 1 (x1.toNatClampNeg) x2) 2) (cs' := ([wRows t ad (up2 (up2 vW 1 (x1.toNatClampNeg) x2) 2 (x1.toNatClampNeg) x3)] ++ fRows t ad gW)) C rfl rfl h dX3_make_13 (suRowsA_2) rfl (fun h => ?_)
  refine G.iconst C dX3_make_14 ni_0 ?_
  refine G.istore (lv' := [(4, .int (0 : Int32)), (0, .ref (ad 1 0)), (1, .int x1), (2, .int x2), (3, .int x3)]) C dX3_make_15 (by decide) rfl ?_
  exact G.lvs [1, 2, 0] rfl (w_X3_make_L17 C hR N _ _ h)
set_option maxHeartbeats 2000000 in
set_option maxRecDepth 20000 in
theorem c_X3_lose {t : Nat → ClassId} {ad : Nat → Nat → Nat} {N : Nat} {vW : SV} {x1 : Int32} {r : Int32 × SV} (h : F_X3_lose N vW x1 = some r) : CI t yX3_lose cX3_lose 3 (some .int) (rm 1) [.ref (ad 1 0), .int x1] [wRows t ad vW] (r.1) [wRows t ad (r.2)] := by
  refine CI.of (own := RX3) (by decide) rfl (Nat.le_of_ble_eq_true rfl) (fun X C hR0 => ?_)
  have hR : ∀ q : Int32 × SV, q = r → RetI X cX3_lose (q.1) [wRows t ad (q.2)] := by intro q e; subst e; exact hR0
  show G X [wRows t ad vW] 0 [(0, .ref (ad 1 0)), (1, .int x1)] []
  unfold F_X3_lose at h
  refine G.aload_n C dX3_lose_0 0 rfl ?_
  refine gfX3_18 (i := 0) (j := 0) (v := .ref (ad 1 2)) C rfl rfl rfl dX3_lose_1 ?_
  refine G.iload_n C dX3_lose_4 1 rfl ?_
  refine G.iald (i := 0) (j := 2) (f := (vW 2)) C rfl rfl h dX3_lose_5 (fun h => ?_)
  refine G.istore_n (lv' := [(2, .int ((vW 2) (x1.toNatClampNeg))), (0, .ref (ad 1 0)), (1, .int x1)]) C dX3_lose_6 (by decide) rfl ?_
  refine G.aload_n C dX3_lose_7 1 rfl ?_
  refine gfX3_14 (i := 0) (j := 0) (v := .ref (ad 1 1)) C rfl rfl rfl dX3_lose_8 ?_
  refine G.iload_n C dX3_lose_11 2 rfl ?_
  refine G.iconst C dX3_lose_12 ni_m1 ?_
  refine G.iast (i := 0) (j := 1) (f := vW 1) (cs' := [wRows t ad (up2 vW 1 (x1.toNatClampNeg) (-1 : Int32))]) C rfl rfl h dX3_lose_13 (suRowsA_1) rfl (fun h => ?_)
  refine G.aload_n C dX3_lose_14 1 rfl ?_
  refine gfX3_18 (i := 0) (j := 0) (v := .ref (ad 1 2)) C rfl rfl rfl dX3_lose_15 ?_
  refine G.iload_n C dX3_lose_18 2 rfl ?_
  refine G.iconst C dX3_lose_19 ni_0 ?_
  refine G.iast (i := 0) (j := 2) (f := (up2 vW 1 (x1.toNatClampNeg) (-1 : Int32)) 2) (cs' := [wRows t ad (up2 (up2 vW 1 (x1.toNatClampNeg) (-1 : Int32)) 2 (x1.toNatClampNeg) (0 : Int32))]) C rfl rfl h dX3_lose_20 (suRowsA_2) rfl (fun h => ?_)
  refine G.iload_n C dX3_lose_21 0 rfl ?_
  exact hR _ (Option.some.inj h) _ _ dX3_lose_22
set_option maxHeartbeats 2000000 in
set_option maxRecDepth 20000 in
theorem c_X3_put {t : Nat → ClassId} {ad : Nat → Nat → Nat} {N : Nat} {vW : SV} {gW : SV} {x1 : Int32} {x2 : Int32} {x3 : Int32} {r : Int32 × SV} (h : F_X3_put N vW gW x1 x2 x3 = some r) : CI t yX3_put cX3_put 5 (some .int) (rm 1) [.ref (ad 1 0), .int x1, .int x2, .int x3] ([wRows t ad vW] ++ fRows t ad gW) (r.1) ([wRows t ad vW] ++ fRows t ad (r.2)) := by
  refine CI.of (own := RX3) (by decide) rfl (Nat.le_of_ble_eq_true rfl) (fun X C hR0 => ?_)
  have hR : ∀ q : Int32 × SV, q = r → RetI X cX3_put (q.1) ([wRows t ad vW] ++ fRows t ad (q.2)) := by intro q e; subst e; exact hR0
  show G X ([wRows t ad vW] ++ fRows t ad gW) 0 [(0, .ref (ad 1 0)), (1, .int x1), (2, .int x2), (3, .int x3)] []
  unfold F_X3_put at h
  refine G.iload_n C dX3_put_0 3 rfl ?_
  refine G.istore (lv' := [(4, .int x3), (0, .ref (ad 1 0)), (1, .int x1), (2, .int x2), (3, .int x3)]) C dX3_put_1 (by decide) rfl ?_
  refine G.aload_n C dX3_put_3 1 rfl ?_
  refine gfX3_14 (i := 0) (j := 0) (v := .ref (ad 1 1)) C rfl rfl rfl dX3_put_4 ?_
  refine G.iload_n C dX3_put_7 2 rfl ?_
  refine G.iald (i := 0) (j := 1) (f := (vW 1)) C rfl rfl h dX3_put_8 (fun h => ?_)
  refine jn_use (fun J => ∀ (x4_33 : Int32), J x4_33 = some r → G X ([wRows t ad vW] ++ fRows t ad gW) 33 [(0, .ref (ad 1 0)), (1, .int x1), (2, .int x2), (4, .int x4_33)] []) h ?_ (fun J33 hJ33 h => ?_)
  · intro x4_33 h
    refine G.aload_n C dX3_put_33 0 rfl ?_
    refine gfX3_11 (i := 0) (j := 0) (v := .ref (ad 1 3)) C rfl rfl rfl dX3_put_34 ?_
    refine G.iload_n C dX3_put_37 1 rfl ?_
    have b38 := chk_lt h
    refine G.aldR (i := 0) (j := 3) (f := fun i => some (ad (20 + i) 0)) C rfl rfl h rfl dX3_put_38 (fun h => ?_)
    refine G.iload_n C dX3_put_39 2 rfl ?_
    refine G.iload C dX3_put_40 3 rfl ?_
    refine G.iast (i := 1 + (x1.toNatClampNeg)) (j := 0) (f := (gW (x1.toNatClampNeg))) (cs' := ([wRows t ad vW] ++ fRows t ad (upA gW (x1.toNatClampNeg) (upd (gW (x1.toNatClampNeg)) (x2.toNatClampNeg) x4_33)))) C (fRows_get rfl b38) rfl h dX3_put_42 rfl (fRows_set rfl b38) (fun h => ?_)
    refine G.iload C dX3_put_43 3 rfl ?_
    exact hR _ (Option.some.inj h) _ _ dX3_put_45
  refine G.if_ne (tgt := 19) C dX3_put_9 (by decide) h (fun h => ?_) (fun h => ?_)
  · refine G.aload_n C dX3_put_19 1 rfl ?_
    refine gfX3_14 (i := 0) (j := 0) (v := .ref (ad 1 1)) C rfl rfl rfl dX3_put_20 ?_
    refine G.iload_n C dX3_put_23 2 rfl ?_
    refine G.iald (i := 0) (j := 1) (f := (vW 1)) C rfl rfl h dX3_put_24 (fun h => ?_)
    refine G.iconst C dX3_put_25 ni_1 ?_
    refine G.icmp_ne (tgt := 33) C dX3_put_26 (by decide) h (fun h => ?_) (fun h => ?_)
    · exact G.lvs [1, 2, 3, 0] rfl (hJ33 _ h)
    · refine G.iload_n C dX3_put_29 4 rfl ?_
      refine G.i2s C dX3_put_30 ?_
      refine G.istore (lv' := [(4, .int (x3.toInt16.toInt32)), (0, .ref (ad 1 0)), (1, .int x1), (2, .int x2), (3, .int x3)]) C dX3_put_31 (by decide) rfl ?_
      exact G.lvs [1, 2, 3, 0] rfl (hJ33 _ h)
  · refine G.iload_n C dX3_put_12 4 rfl ?_
    refine G.i2b C dX3_put_13 ?_
    refine G.istore (lv' := [(4, .int (x3.toInt8.toInt32)), (0, .ref (ad 1 0)), (1, .int x1), (2, .int x2), (3, .int x3)]) C dX3_put_14 (by decide) rfl ?_
    refine G.goto (tgt := 33) C dX3_put_16 (by decide) ?_
    exact G.lvs [1, 2, 3, 0] rfl (hJ33 _ h)
set_option maxHeartbeats 2000000 in
set_option maxRecDepth 20000 in
theorem c_X3_item {t : Nat → ClassId} {ad : Nat → Nat → Nat} {N : Nat} {vW : SV} {gW : SV} {x1 : Int32} {x2 : Int32} {r : Int32} (h : F_X3_item N vW gW x1 x2 = some r) : CI t yX3_item cX3_item 3 (some .int) (rm 2) [.ref (ad 1 0), .int x1, .int x2] ([wRows t ad vW] ++ fRows t ad gW) r ([wRows t ad vW] ++ fRows t ad gW) := by
  refine CI.of (own := RX3) (by decide) rfl (Nat.le_of_ble_eq_true rfl) (fun X C hR0 => ?_)
  have hR : ∀ q : Int32, q = r → RetI X cX3_item q ([wRows t ad vW] ++ fRows t ad gW) := by intro q e; subst e; exact hR0
  show G X ([wRows t ad vW] ++ fRows t ad gW) 0 [(0, .ref (ad 1 0)), (1, .int x1), (2, .int x2)] []
  unfold F_X3_item at h
  refine G.iload_n C dX3_item_0 1 rfl ?_
  obtain ⟨q1, hq1, h⟩ := bind_some' h
  refine G.csI (cs' := ([wRows t ad vW] ++ fRows t ad gW)) C (c_X3_isRow hq1) [] rfl rfl rfl rfl k_908 cal_X3_isRow (fit_rm (by decide) (by decide)) rfl (Nat.le_of_ble_eq_true rfl) dX3_item_1 ?_
  refine G.if_eq (tgt := 28) C dX3_item_4 (by decide) h (fun h => ?_) (fun h => ?_)
  · refine G.iconst C dX3_item_28 ni_0 ?_
    exact hR _ (Option.some.inj h) _ _ dX3_item_29
  · refine G.iload_n C dX3_item_7 2 rfl ?_
    refine G.if_lt (tgt := 28) C dX3_item_8 (by decide) h (fun h => ?_) (fun h => ?_)
    · refine G.iconst C dX3_item_28 ni_0 ?_
      exact hR _ (Option.some.inj h) _ _ dX3_item_29
    · refine G.iload_n C dX3_item_11 2 rfl ?_
      refine G.bipush C dX3_item_12 nb_40 ?_
      refine G.icmp_ge (tgt := 28) C dX3_item_14 (by decide) h (fun h => ?_) (fun h => ?_)
      · refine G.iconst C dX3_item_28 ni_0 ?_
        exact hR _ (Option.some.inj h) _ _ dX3_item_29
      · refine G.aload_n C dX3_item_17 0 rfl ?_
        refine gfX3_11 (i := 0) (j := 0) (v := .ref (ad 1 3)) C rfl rfl rfl dX3_item_18 ?_
        refine G.iload_n C dX3_item_21 1 rfl ?_
        have b22 := chk_lt h
        refine G.aldR (i := 0) (j := 3) (f := fun i => some (ad (20 + i) 0)) C rfl rfl h rfl dX3_item_22 (fun h => ?_)
        refine G.iload_n C dX3_item_23 2 rfl ?_
        refine G.iald (i := 1 + (x1.toNatClampNeg)) (j := 0) (f := (gW (x1.toNatClampNeg))) C (fRows_get rfl b22) rfl h dX3_item_24 (fun h => ?_)
        refine G.goto (tgt := 29) C dX3_item_25 (by decide) ?_
        exact hR _ (Option.some.inj h) _ _ dX3_item_29
set_option maxHeartbeats 2000000 in
set_option maxRecDepth 20000 in
theorem c_X3_isSpan {t : Nat → ClassId} {ad : Nat → Nat → Nat} {N : Nat} {vW : SV} {x1 : Int32} {x2 : Int32} {x3 : Int32} {r : Int32} (h : F_X3_isSpan N vW x1 x2 x3 = some r) : CI t yX3_isSpan cX3_isSpan 4 (some .boolean) (rm 1) [.ref (ad 1 0), .int x1, .int x2, .int x3] [wRows t ad vW] r [wRows t ad vW] := by
  refine CZ.of (own := RX3) (by decide) rfl (Nat.le_of_ble_eq_true rfl) (fun X C hR0 => ?_)
  have hR : ∀ q : Int32, q = r → RetZ X cX3_isSpan q [wRows t ad vW] := by intro q e; subst e; exact hR0
  show G X [wRows t ad vW] 0 [(0, .ref (ad 1 0)), (1, .int x1), (2, .int x2), (3, .int x3)] []
  unfold F_X3_isSpan at h
  refine G.iload_n C dX3_isSpan_0 2 rfl ?_
  refine G.if_lt (tgt := 34) C dX3_isSpan_1 (by decide) h (fun h => ?_) (fun h => ?_)
  · refine G.iconst C dX3_isSpan_34 ni_0 ?_
    exact hR _ (Option.some.inj h) (Or.inl rfl) _ _ dX3_isSpan_35
  · refine G.iload_n C dX3_isSpan_4 3 rfl ?_
    refine G.if_lt (tgt := 34) C dX3_isSpan_5 (by decide) h (fun h => ?_) (fun h => ?_)
    · refine G.iconst C dX3_isSpan_34 ni_0 ?_
      exact hR _ (Option.some.inj h) (Or.inl rfl) _ _ dX3_isSpan_35
    · refine G.iload_n C dX3_isSpan_8 2 rfl ?_
      refine G.aload_n C dX3_isSpan_9 0 rfl ?_
      refine gfX3_18 (i := 0) (j := 0) (v := .ref (ad 1 2)) C rfl rfl rfl dX3_isSpan_10 ?_
      refine G.iload_n C dX3_isSpan_13 1 rfl ?_
      refine G.iald (i := 0) (j := 2) (f := (vW 2)) C rfl rfl h dX3_isSpan_14 (fun h => ?_)
      refine G.icmp_gt (tgt := 34) C dX3_isSpan_15 (by decide) h (fun h => ?_) (fun h => ?_)
      · refine G.iconst C dX3_isSpan_34 ni_0 ?_
        exact hR _ (Option.some.inj h) (Or.inl rfl) _ _ dX3_isSpan_35
      · refine G.iload_n C dX3_isSpan_18 3 rfl ?_
        refine G.aload_n C dX3_isSpan_19 0 rfl ?_
        refine gfX3_18 (i := 0) (j := 0) (v := .ref (ad 1 2)) C rfl rfl rfl dX3_isSpan_20 ?_
        refine G.iload_n C dX3_isSpan_23 1 rfl ?_
        refine G.iald (i := 0) (j := 2) (f := (vW 2)) C rfl rfl h dX3_isSpan_24 (fun h => ?_)
        refine G.iload_n C dX3_isSpan_25 2 rfl ?_
        refine G.isub C dX3_isSpan_26 ?_
        refine G.icmp_gt (tgt := 34) C dX3_isSpan_27 (by decide) h (fun h => ?_) (fun h => ?_)
        · refine G.iconst C dX3_isSpan_34 ni_0 ?_
          exact hR _ (Option.some.inj h) (Or.inl rfl) _ _ dX3_isSpan_35
        · refine G.iconst C dX3_isSpan_30 ni_1 ?_
          refine G.goto (tgt := 35) C dX3_isSpan_31 (by decide) ?_
          exact hR _ (Option.some.inj h) (Or.inr rfl) _ _ dX3_isSpan_35
set_option maxHeartbeats 2000000 in
set_option maxRecDepth 20000 in
theorem c_X3_findingOfSpan {t : Nat → ClassId} {ad : Nat → Nat → Nat} {N : Nat} {vW : SV} {x1 : Int32} {x2 : Int32} {x3 : Int32} {r : Int32} (h : F_X3_findingOfSpan N vW x1 x2 x3 = some r) : CI t yX3_findingOfSpan cX3_findingOfSpan 4 (some .int) (rm 2) [.ref (ad 1 0), .int x1, .int x2, .int x3] [wRows t ad vW] r [wRows t ad vW] := by
  refine CI.of (own := RX3) (by decide) rfl (Nat.le_of_ble_eq_true rfl) (fun X C hR0 => ?_)
  have hR : ∀ q : Int32, q = r → RetI X cX3_findingOfSpan q [wRows t ad vW] := by intro q e; subst e; exact hR0
  show G X [wRows t ad vW] 0 [(0, .ref (ad 1 0)), (1, .int x1), (2, .int x2), (3, .int x3)] []
  unfold F_X3_findingOfSpan at h
  refine G.aload_n C dX3_findingOfSpan_0 0 rfl ?_
  refine G.iload_n C dX3_findingOfSpan_1 1 rfl ?_
  obtain ⟨q2, hq2, h⟩ := bind_some' h
  refine G.cvI (i0 := 0) (j0 := 0) (cs' := [wRows t ad vW]) C (c_X3_isMissing (ad := ad) hq2) [0] rfl rfl rfl rfl rfl rfl rfl k_391 cal_X3_isMissing (fit_rm (by decide) (by decide)) rfl (Nat.le_of_ble_eq_true rfl) dX3_findingOfSpan_2 ?_
  refine G.if_eq (tgt := 10) C dX3_findingOfSpan_5 (by decide) h (fun h => ?_) (fun h => ?_)
  · refine G.aload_n C dX3_findingOfSpan_10 0 rfl ?_
    refine G.iload_n C dX3_findingOfSpan_11 1 rfl ?_
    refine G.iload_n C dX3_findingOfSpan_12 2 rfl ?_
    refine G.iload_n C dX3_findingOfSpan_13 3 rfl ?_
    obtain ⟨q14, hq14, h⟩ := bind_some' h
    refine G.cvI (i0 := 0) (j0 := 0) (cs' := [wRows t ad vW]) C (c_X3_isSpan (ad := ad) hq14) [0] rfl rfl rfl rfl rfl rfl rfl k_395 cal_X3_isSpan (fit_rm (by decide) (by decide)) rfl (Nat.le_of_ble_eq_true rfl) dX3_findingOfSpan_14 ?_
    refine G.if_eq (tgt := 24) C dX3_findingOfSpan_17 (by decide) h (fun h => ?_) (fun h => ?_)
    · refine G.iconst C dX3_findingOfSpan_24 ni_2 ?_
      exact hR _ (Option.some.inj h) _ _ dX3_findingOfSpan_25
    · refine G.iconst C dX3_findingOfSpan_20 ni_0 ?_
      refine G.goto (tgt := 25) C dX3_findingOfSpan_21 (by decide) ?_
      exact hR _ (Option.some.inj h) _ _ dX3_findingOfSpan_25
  · refine G.iconst C dX3_findingOfSpan_8 ni_1 ?_
    exact hR _ (Option.some.inj h) _ _ dX3_findingOfSpan_9
set_option maxHeartbeats 2000000 in
set_option maxRecDepth 20000 in
theorem c_X3_findingOfMove {t : Nat → ClassId} {ad : Nat → Nat → Nat} {N : Nat} {vW : SV} {x1 : Int32} {x2 : Int32} {x3 : Int32} {x4 : Int32} {x5 : Int32} {r : Int32} (h : F_X3_findingOfMove N vW x1 x2 x3 x4 x5 = some r) : CI t yX3_findingOfMove cX3_findingOfMove 6 (some .int) (rm 2) [.ref (ad 1 0), .int x1, .int x2, .int x3, .int x4, .int x5] [wRows t ad vW] r [wRows t ad vW] := by
  refine CI.of (own := RX3) (by decide) rfl (Nat.le_of_ble_eq_true rfl) (fun X C hR0 => ?_)
  have hR : ∀ q : Int32, q = r → RetI X cX3_findingOfMove q [wRows t ad vW] := by intro q e; subst e; exact hR0
  show G X [wRows t ad vW] 0 [(0, .ref (ad 1 0)), (1, .int x1), (2, .int x2), (3, .int x3), (4, .int x4), (5, .int x5)] []
  unfold F_X3_findingOfMove at h
  refine G.aload_n C dX3_findingOfMove_0 0 rfl ?_
  refine G.iload_n C dX3_findingOfMove_1 1 rfl ?_
  obtain ⟨q2, hq2, h⟩ := bind_some' h
  refine G.cvI (i0 := 0) (j0 := 0) (cs' := [wRows t ad vW]) C (c_X3_isMissing (ad := ad) hq2) [0] rfl rfl rfl rfl rfl rfl rfl k_391 cal_X3_isMissing (fit_rm (by decide) (by decide)) rfl (Nat.le_of_ble_eq_true rfl) dX3_findingOfMove_2 ?_
  refine G.if_ne (tgt := 16) C dX3_findingOfMove_5 (by decide) h (fun h => ?_) (fun h => ?_)
  · refine G.iconst C dX3_findingOfMove_16 ni_1 ?_
    exact hR _ (Option.some.inj h) _ _ dX3_findingOfMove_17
  · refine G.aload_n C dX3_findingOfMove_8 0 rfl ?_
    refine G.iload_n C dX3_findingOfMove_9 3 rfl ?_
    obtain ⟨q10, hq10, h⟩ := bind_some' h
    refine G.cvI (i0 := 0) (j0 := 0) (cs' := [wRows t ad vW]) C (c_X3_isMissing (ad := ad) hq10) [0] rfl rfl rfl rfl rfl rfl rfl k_391 cal_X3_isMissing (fit_rm (by decide) (by decide)) rfl (Nat.le_of_ble_eq_true rfl) dX3_findingOfMove_10 ?_
    refine G.if_eq (tgt := 18) C dX3_findingOfMove_13 (by decide) h (fun h => ?_) (fun h => ?_)
    · refine G.aload_n C dX3_findingOfMove_18 0 rfl ?_
      refine gfX3_14 (i := 0) (j := 0) (v := .ref (ad 1 1)) C rfl rfl rfl dX3_findingOfMove_19 ?_
      refine G.iload_n C dX3_findingOfMove_22 1 rfl ?_
      refine G.iald (i := 0) (j := 1) (f := (vW 1)) C rfl rfl h dX3_findingOfMove_23 (fun h => ?_)
      refine G.aload_n C dX3_findingOfMove_24 0 rfl ?_
      refine gfX3_14 (i := 0) (j := 0) (v := .ref (ad 1 1)) C rfl rfl rfl dX3_findingOfMove_25 ?_
      refine G.iload_n C dX3_findingOfMove_28 3 rfl ?_
      refine G.iald (i := 0) (j := 1) (f := (vW 1)) C rfl rfl h dX3_findingOfMove_29 (fun h => ?_)
      refine G.icmp_eq (tgt := 35) C dX3_findingOfMove_30 (by decide) h (fun h => ?_) (fun h => ?_)
      · refine G.aload_n C dX3_findingOfMove_35 0 rfl ?_
        refine G.iload_n C dX3_findingOfMove_36 1 rfl ?_
        refine G.iload_n C dX3_findingOfMove_37 2 rfl ?_
        refine G.iload C dX3_findingOfMove_38 5 rfl ?_
        obtain ⟨q40, hq40, h⟩ := bind_some' h
        refine G.cvI (i0 := 0) (j0 := 0) (cs' := [wRows t ad vW]) C (c_X3_isSpan (ad := ad) hq40) [0] rfl rfl rfl rfl rfl rfl rfl k_395 cal_X3_isSpan (fit_rm (by decide) (by decide)) rfl (Nat.le_of_ble_eq_true rfl) dX3_findingOfMove_40 ?_
        refine G.if_eq (tgt := 62) C dX3_findingOfMove_43 (by decide) h (fun h => ?_) (fun h => ?_)
        · refine G.iconst C dX3_findingOfMove_62 ni_2 ?_
          exact hR _ (Option.some.inj h) _ _ dX3_findingOfMove_63
        · refine G.aload_n C dX3_findingOfMove_46 0 rfl ?_
          refine G.iload_n C dX3_findingOfMove_47 3 rfl ?_
          refine G.iload C dX3_findingOfMove_48 4 rfl ?_
          refine G.iload C dX3_findingOfMove_50 5 rfl ?_
          obtain ⟨q52, hq52, h⟩ := bind_some' h
          refine G.cvI (i0 := 0) (j0 := 0) (cs' := [wRows t ad vW]) C (c_X3_isSpan (ad := ad) hq52) [0] rfl rfl rfl rfl rfl rfl rfl k_395 cal_X3_isSpan (fit_rm (by decide) (by decide)) rfl (Nat.le_of_ble_eq_true rfl) dX3_findingOfMove_52 ?_
          refine G.if_eq (tgt := 62) C dX3_findingOfMove_55 (by decide) h (fun h => ?_) (fun h => ?_)
          · refine G.iconst C dX3_findingOfMove_62 ni_2 ?_
            exact hR _ (Option.some.inj h) _ _ dX3_findingOfMove_63
          · refine G.iconst C dX3_findingOfMove_58 ni_0 ?_
            refine G.goto (tgt := 63) C dX3_findingOfMove_59 (by decide) ?_
            exact hR _ (Option.some.inj h) _ _ dX3_findingOfMove_63
      · refine G.iconst C dX3_findingOfMove_33 ni_5 ?_
        exact hR _ (Option.some.inj h) _ _ dX3_findingOfMove_34
    · refine G.iconst C dX3_findingOfMove_16 ni_1 ?_
      exact hR _ (Option.some.inj h) _ _ dX3_findingOfMove_17
set_option maxHeartbeats 2000000 in
set_option maxRecDepth 20000 in
theorem c_X3_move {t : Nat → ClassId} {ad : Nat → Nat → Nat} {N : Nat} {vW : SV} {gW : SV} {x1 : Int32} {x2 : Int32} {x3 : Int32} {x4 : Int32} {x5 : Int32} {r : SV} (h : F_X3_move N vW gW x1 x2 x3 x4 x5 = some r) : CV t yX3_move cX3_move 6 none (rm 1) [.ref (ad 1 0), .int x1, .int x2, .int x3, .int x4, .int x5] ([wRows t ad vW] ++ fRows t ad gW) ([wRows t ad vW] ++ fRows t ad r) := by
  refine CV.of (own := RX3) (by decide) rfl (Nat.le_of_ble_eq_true rfl) (fun X C hR0 => ?_)
  have hR : ∀ q : SV, q = r → RetV X cX3_move ([wRows t ad vW] ++ fRows t ad q) := by intro q e; subst e; exact hR0
  show G X ([wRows t ad vW] ++ fRows t ad gW) 0 [(0, .ref (ad 1 0)), (1, .int x1), (2, .int x2), (3, .int x3), (4, .int x4), (5, .int x5)] []
  unfold F_X3_move at h
  refine G.aload_n C dX3_move_0 0 rfl ?_
  refine gfX3_11 (i := 0) (j := 0) (v := .ref (ad 1 3)) C rfl rfl rfl dX3_move_1 ?_
  refine G.iload_n C dX3_move_4 1 rfl ?_
  have b5 := chk_lt h
  refine G.aldR (i := 0) (j := 3) (f := fun i => some (ad (20 + i) 0)) C rfl rfl h rfl dX3_move_5 (fun h => ?_)
  refine G.iload_n C dX3_move_6 2 rfl ?_
  refine G.aload_n C dX3_move_7 0 rfl ?_
  refine gfX3_11 (i := 0) (j := 0) (v := .ref (ad 1 3)) C rfl rfl rfl dX3_move_8 ?_
  refine G.iload_n C dX3_move_11 3 rfl ?_
  have b12 := chk_lt h
  refine G.aldR (i := 0) (j := 3) (f := fun i => some (ad (20 + i) 0)) C rfl rfl h rfl dX3_move_12 (fun h => ?_)
  refine G.iload C dX3_move_13 4 rfl ?_
  refine G.iload C dX3_move_15 5 rfl ?_
  refine G.copy (i0 := 1 + (x1.toNatClampNeg)) (j0 := 0) (i1 := 1 + (x3.toNatClampNeg)) (j1 := 0) (f := (gW (x1.toNatClampNeg))) (g := (gW (x3.toNatClampNeg))) (cs' := ([wRows t ad vW] ++ fRows t ad (upA gW (x3.toNatClampNeg) (va_cpy (gW (x1.toNatClampNeg)) (gW (x3.toNatClampNeg)) (x2.toNatClampNeg) (x4.toNatClampNeg) (x5.toNatClampNeg))))) C k_415 k_417 k_416 k_85 (by decide) (Nat.le_of_ble_eq_true rfl) (fRows_get rfl b5) rfl (fRows_get rfl b12) rfl h dX3_move_17 rfl (fRows_set rfl b12) (fun h => ?_)
  exact hR _ (Option.some.inj h) _ _ dX3_move_20
