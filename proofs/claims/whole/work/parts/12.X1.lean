def F_X1_isKind (N : Nat) (x0 : Int32) : Option (Int32) := if x0 < (0 : Int32) then (some (0 : Int32)) else (if x0 < (6 : Int32) then (some (1 : Int32)) else (some (0 : Int32)))
def F_X1_isOneOf_L4 (N : Nat) (x1 : Int32) : Nat → Int32 → Int32 → Option (Int32)
  | 0, _, _ => none
  | n + 1, x2, x3 => if x3 < (6 : Int32) then ((F_X1_isKind N x2).bind (fun q13 => if q13 = (0 : Int32) then (some (0 : Int32)) else (if x2 = x1 then (some (1 : Int32)) else (chk 6 x2 (F_X1_isOneOf_L4 N x1 n (tWider (x2.toNatClampNeg)) (x3 + (1 : Int32))))))) else (some (0 : Int32))
def F_X1_isOneOf (N : Nat) (x0 : Int32) (x1 : Int32) : Option (Int32) := F_X1_isOneOf_L4 N x1 N x0 (0 : Int32)
def F_X1_traced (N : Nat) (vK : SV) (x1 : Int32) : Option (Int32) := if x1 < (0 : Int32) then (some (-1 : Int32)) else (if x1 < (vK 0 1) then (chk 16 x1 (some ((vK 1) (x1.toNatClampNeg)))) else (some (-1 : Int32)))
def F_X1_leaveTrace (N : Nat) (vK : SV) (x1 : Int32) : Option (SV) := if (vK 0 1) < (16 : Int32) then (chk 16 (vK 0 1) (some (up2 (up2 vK 1 ((vK 0 1).toNatClampNeg) x1) 0 1 ((vK 0 1) + (1 : Int32))))) else (some vK)
def F_X1_askAnew (N : Nat) (Fr : SV → SV → Int32 → Int32 → Int32 → Option (Int32 × SV)) (vS : SV) (vK : SV) (x2 : Int32) (x3 : Int32) (x4 : Int32) : Option (Int32 × SV) := chk 6 x2 ((F_X1_isKind N ((vS 1) (x2.toNatClampNeg))).bind (fun q10 => if q10 = (0 : Int32) then (some ((0 : Int32), vK)) else (jn (fun (s40_0 : Int32) => (Fr vS vK x2 s40_0 x4).bind (fun q42 => some ((q42.1), (q42.2)))) (fun J40 => if x3 = (0 : Int32) then (chk 6 ((vS 1) (x2.toNatClampNeg)) (J40 (tSizeB (((vS 1) (x2.toNatClampNeg)).toNatClampNeg)))) else (chk 6 ((vS 1) (x2.toNatClampNeg)) (J40 (tMarkB (((vS 1) (x2.toNatClampNeg)).toNatClampNeg))))))))
def F_X1_begin (N : Nat) (Fr : SV → SV → Int32 → Int32 → Int32 → Option (Int32 × SV)) (vS : SV) (vK : SV) (x2 : Int32) (x3 : Int32) (x4 : Int32) : Option (Int32 × SV) := if (16 : Int32) < x4 then (some ((0 : Int32), vK)) else ((F_X1_leaveTrace N vK x3).bind (fun q11 => if x3 = 10 then (chk 6 x2 (some (((vS 3) (x2.toNatClampNeg)), q11))) else (if x3 = 11 then ((Fr vS q11 x2 (10 : Int32) (x4 + (1 : Int32))).bind (fun q110 => (F_X1_askAnew N Fr vS (q110.2) x2 (1 : Int32) (x4 + (1 : Int32))).bind (fun q119 => some (((q110.1) + (q119.1)), (q119.2))))) else (if x3 = 12 then ((Fr vS q11 x2 (11 : Int32) (x4 + (1 : Int32))).bind (fun q131 => some ((-(q131.1)), (q131.2)))) else (if x3 = 13 then ((Fr vS q11 x2 (10 : Int32) (x4 + (1 : Int32))).bind (fun q143 => some (((q143.1) - (100 : Int32)), (q143.2)))) else (if x3 = 14 then ((Fr vS q11 x2 (13 : Int32) (x4 + (1 : Int32))).bind (fun q158 => some (((2 : Int32) * (q158.1)), (q158.2)))) else (if x3 = 20 then (some (x2, q11)) else (if x3 = 21 then ((Fr vS q11 x2 (20 : Int32) (x4 + (1 : Int32))).bind (fun q172 => chk 6 x2 ((F_X5_wanting N vS ((vS 2) (x2.toNatClampNeg))).bind (fun q182 => some (((q172.1) + q182), (q172.2)))))) else (if x3 = 22 then ((Fr vS q11 x2 (21 : Int32) (x4 + (1 : Int32))).bind (fun q194 => some (((q194.1) - (1000 : Int32)), (q194.2)))) else (if x3 = 23 then ((Fr vS q11 x2 (20 : Int32) (x4 + (1 : Int32))).bind (fun q209 => (F_X1_askAnew N Fr vS (q209.2) x2 (0 : Int32) (x4 + (1 : Int32))).bind (fun q218 => some (((q209.1) - (q218.1)), (q218.2))))) else (if x3 = 24 then ((Fr vS q11 x2 (21 : Int32) (x4 + (1 : Int32))).bind (fun q231 => some (((2 : Int32) * (q231.1)), (q231.2)))) else (some ((0 : Int32), q11)))))))))))))
def F_X1_beginK (N : Nat) : Nat → SV → SV → Int32 → Int32 → Int32 → Option (Int32 × SV)
  | 0 => fun _ _ _ _ _ => none
  | k + 1 => F_X1_begin N (F_X1_beginK N k)
def F_X1_askAnewC (N : Nat) (vS : SV) (vK : SV) (x2 : Int32) (x3 : Int32) (x4 : Int32) : Option (Int32 × SV) := F_X1_askAnew N (F_X1_beginK N 20) vS vK x2 x3 x4
def F_X1_answer (N : Nat) (vS : SV) (vK : SV) (x2 : Int32) (x3 : Int32) : Option (Int32 × SV) := (F_X1_askAnewC N vS (up2 vK 0 1 (0 : Int32)) x2 x3 (0 : Int32)).bind (fun q10 => some ((q10.1), (q10.2)))
set_option maxHeartbeats 2000000 in
set_option maxRecDepth 20000 in
theorem c_X1_isKind {t : Nat → ClassId} {N : Nat} {x0 : Int32} {r : Int32} (h : F_X1_isKind N x0 = some r) : CI t yX1_isKind cX1_isKind 1 (some .boolean) (rm 1) [.int x0] [] r [] := by
  refine CZ.of (own := RX1) (by decide) rfl (Nat.le_of_ble_eq_true rfl) (fun X C hR0 => ?_)
  have hR : ∀ q : Int32, q = r → RetZ X cX1_isKind q [] := by intro q e; subst e; exact hR0
  show G X [] 0 [(0, .int x0)] []
  unfold F_X1_isKind at h
  refine G.iload_n C dX1_isKind_0 0 rfl ?_
  refine G.if_lt (tgt := 16) C dX1_isKind_1 (by decide) h (fun h => ?_) (fun h => ?_)
  · refine G.iconst C dX1_isKind_16 ni_0 ?_
    exact hR _ (Option.some.inj h) (Or.inl rfl) _ _ dX1_isKind_17
  · refine G.iload_n C dX1_isKind_4 0 rfl ?_
    refine G.gets (v := .ref (t 10)) C st_z10 k_1008 dX1_isKind_5 ?_
    refine G.stlen (v := (6 : Int32)) C st_t10 (by decide) dX1_isKind_8 ?_
    refine G.icmp_ge (tgt := 16) C dX1_isKind_9 (by decide) h (fun h => ?_) (fun h => ?_)
    · refine G.iconst C dX1_isKind_16 ni_0 ?_
      exact hR _ (Option.some.inj h) (Or.inl rfl) _ _ dX1_isKind_17
    · refine G.iconst C dX1_isKind_12 ni_1 ?_
      refine G.goto (tgt := 17) C dX1_isKind_13 (by decide) ?_
      exact hR _ (Option.some.inj h) (Or.inr rfl) _ _ dX1_isKind_17
set_option maxHeartbeats 2000000 in
set_option maxRecDepth 20000 in
theorem w_X1_isOneOf_L4 {X : Cx} {t : Nat → ClassId} {N : Nat} {x1 : Int32} {r : Int32} (C : gX X t (rm 2) cX1_isOneOf 4 RX1) (hR : ∀ q : Int32, q = r → RetZ X cX1_isOneOf q []) : ∀ (n : Nat) (x2 : Int32) (x3 : Int32), F_X1_isOneOf_L4 N x1 n x2 x3 = some r → G X [] 4 [(1, .int x1), (2, .int x2), (3, .int x3)] [] := by
  intro n
  induction n with
  | zero => intro x2 x3 h; exact absurd h (by simp [F_X1_isOneOf_L4])
  | succ n ih =>
    intro x2 x3 h
    rw [F_X1_isOneOf_L4] at h
    refine G.iload_n C dX1_isOneOf_4 2 rfl ?_
    refine G.gets (v := .ref (t 10)) C st_z10 k_1008 dX1_isOneOf_5 ?_
    refine G.stlen (v := (6 : Int32)) C st_t10 (by decide) dX1_isOneOf_8 ?_
    refine G.icmp_ge (tgt := 38) C dX1_isOneOf_9 (by decide) h (fun h => ?_) (fun h => ?_)
    · refine G.iconst C dX1_isOneOf_38 ni_0 ?_
      exact hR _ (Option.some.inj h) (Or.inl rfl) _ _ dX1_isOneOf_39
    · refine G.iload_n C dX1_isOneOf_12 1 rfl ?_
      obtain ⟨q13, hq13, h⟩ := bind_some' h
      refine G.csI (cs' := []) C (c_X1_isKind hq13) [] rfl rfl rfl rfl k_1013 cal_X1_isKind (fit_rm (by decide) (by decide)) rfl (Nat.le_of_ble_eq_true rfl) dX1_isOneOf_13 ?_
      refine G.if_eq (tgt := 38) C dX1_isOneOf_16 (by decide) h (fun h => ?_) (fun h => ?_)
      · refine G.iconst C dX1_isOneOf_38 ni_0 ?_
        exact hR _ (Option.some.inj h) (Or.inl rfl) _ _ dX1_isOneOf_39
      · refine G.iload_n C dX1_isOneOf_19 1 rfl ?_
        refine G.iload_n C dX1_isOneOf_20 0 rfl ?_
        refine G.icmp_ne (tgt := 26) C dX1_isOneOf_21 (by decide) h (fun h => ?_) (fun h => ?_)
        · refine G.gets (v := .ref (t 10)) C st_z10 k_1008 dX1_isOneOf_26 ?_
          refine G.iload_n C dX1_isOneOf_29 1 rfl ?_
          refine G.sti (f := tWider) C st_t10 h dX1_isOneOf_30 (fun h => ?_)
          refine G.istore_n (lv' := [(2, .int (tWider (x2.toNatClampNeg))), (1, .int x1), (3, .int x3)]) C dX1_isOneOf_31 (by decide) rfl ?_
          refine G.iinc (v := (x3 + (1 : Int32))) (lv' := [(3, .int (x3 + (1 : Int32))), (2, .int (tWider (x2.toNatClampNeg))), (1, .int x1)]) C dX1_isOneOf_32 2 rfl (by rw [ni_1]) (by decide) rfl ?_
          refine G.goto (tgt := 4) C dX1_isOneOf_35 (by decide) ?_
          exact G.lvs [2, 1, 0] rfl (ih _ _ h)
        · refine G.iconst C dX1_isOneOf_24 ni_1 ?_
          exact hR _ (Option.some.inj h) (Or.inr rfl) _ _ dX1_isOneOf_25
set_option maxHeartbeats 2000000 in
set_option maxRecDepth 20000 in
theorem c_X1_isOneOf {t : Nat → ClassId} {N : Nat} {x0 : Int32} {x1 : Int32} {r : Int32} (h : F_X1_isOneOf N x0 x1 = some r) : CI t yX1_isOneOf cX1_isOneOf 4 (some .boolean) (rm 2) [.int x0, .int x1] [] r [] := by
  refine CZ.of (own := RX1) (by decide) rfl (Nat.le_of_ble_eq_true rfl) (fun X C hR0 => ?_)
  have hR : ∀ q : Int32, q = r → RetZ X cX1_isOneOf q [] := by intro q e; subst e; exact hR0
  show G X [] 0 [(0, .int x0), (1, .int x1)] []
  unfold F_X1_isOneOf at h
  refine G.iload_n C dX1_isOneOf_0 0 rfl ?_
  refine G.istore_n (lv' := [(2, .int x0), (0, .int x0), (1, .int x1)]) C dX1_isOneOf_1 (by decide) rfl ?_
  refine G.iconst C dX1_isOneOf_2 ni_0 ?_
  refine G.istore_n (lv' := [(3, .int (0 : Int32)), (2, .int x0), (0, .int x0), (1, .int x1)]) C dX1_isOneOf_3 (by decide) rfl ?_
  exact G.lvs [3, 1, 0] rfl (w_X1_isOneOf_L4 C hR N _ _ h)
set_option maxHeartbeats 2000000 in
set_option maxRecDepth 20000 in
theorem c_X1_traced {t : Nat → ClassId} {ad : Nat → Nat → Nat} {N : Nat} {vK : SV} {x1 : Int32} {r : Int32} (h : F_X1_traced N vK x1 = some r) : CI t yX1_traced cX1_traced 2 (some .int) (rm 1) [.ref (ad 12 0), .int x1] [wAsker t ad vK] r [wAsker t ad vK] := by
  refine CI.of (own := RX1) (by decide) rfl (Nat.le_of_ble_eq_true rfl) (fun X C hR0 => ?_)
  have hR : ∀ q : Int32, q = r → RetI X cX1_traced q [wAsker t ad vK] := by intro q e; subst e; exact hR0
  show G X [wAsker t ad vK] 0 [(0, .ref (ad 12 0)), (1, .int x1)] []
  unfold F_X1_traced at h
  refine G.iload_n C dX1_traced_0 1 rfl ?_
  refine G.if_lt (tgt := 21) C dX1_traced_1 (by decide) h (fun h => ?_) (fun h => ?_)
  · refine G.iconst C dX1_traced_21 ni_m1 ?_
    exact hR _ (Option.some.inj h) _ _ dX1_traced_22
  · refine G.iload_n C dX1_traced_4 1 rfl ?_
    refine G.aload_n C dX1_traced_5 0 rfl ?_
    refine gfX1_20 (i := 0) (j := 0) (v := .int (vK 0 1)) C rfl rfl rfl dX1_traced_6 ?_
    refine G.icmp_ge (tgt := 21) C dX1_traced_9 (by decide) h (fun h => ?_) (fun h => ?_)
    · refine G.iconst C dX1_traced_21 ni_m1 ?_
      exact hR _ (Option.some.inj h) _ _ dX1_traced_22
    · refine G.aload_n C dX1_traced_12 0 rfl ?_
      refine gfX1_9 (i := 0) (j := 0) (v := .ref (ad 12 1)) C rfl rfl rfl dX1_traced_13 ?_
      refine G.iload_n C dX1_traced_16 1 rfl ?_
      refine G.iald (i := 0) (j := 1) (f := (vK 1)) C rfl rfl h dX1_traced_17 (fun h => ?_)
      refine G.goto (tgt := 22) C dX1_traced_18 (by decide) ?_
      exact hR _ (Option.some.inj h) _ _ dX1_traced_22
set_option maxHeartbeats 2000000 in
set_option maxRecDepth 20000 in
theorem c_X1_leaveTrace {t : Nat → ClassId} {ad : Nat → Nat → Nat} {N : Nat} {vK : SV} {x1 : Int32} {r : SV} (h : F_X1_leaveTrace N vK x1 = some r) : CV t yX1_leaveTrace cX1_leaveTrace 2 none (rm 1) [.ref (ad 12 0), .int x1] [wAsker t ad vK] [wAsker t ad r] := by
  refine CV.of (own := RX1) (by decide) rfl (Nat.le_of_ble_eq_true rfl) (fun X C hR0 => ?_)
  have hR : ∀ q : SV, q = r → RetV X cX1_leaveTrace [wAsker t ad q] := by intro q e; subst e; exact hR0
  show G X [wAsker t ad vK] 0 [(0, .ref (ad 12 0)), (1, .int x1)] []
  unfold F_X1_leaveTrace at h
  refine G.aload_n C dX1_leaveTrace_0 0 rfl ?_
  refine gfX1_20 (i := 0) (j := 0) (v := .int (vK 0 1)) C rfl rfl rfl dX1_leaveTrace_1 ?_
  refine G.bipush C dX1_leaveTrace_4 nb_16 ?_
  refine G.icmp_ge (tgt := 29) C dX1_leaveTrace_6 (by decide) h (fun h => ?_) (fun h => ?_)
  · exact hR _ (Option.some.inj h) _ _ dX1_leaveTrace_29
  · refine G.aload_n C dX1_leaveTrace_9 0 rfl ?_
    refine gfX1_9 (i := 0) (j := 0) (v := .ref (ad 12 1)) C rfl rfl rfl dX1_leaveTrace_10 ?_
    refine G.aload_n C dX1_leaveTrace_13 0 rfl ?_
    refine gfX1_20 (i := 0) (j := 0) (v := .int (vK 0 1)) C rfl rfl rfl dX1_leaveTrace_14 ?_
    refine G.iload_n C dX1_leaveTrace_17 1 rfl ?_
    refine G.iast (i := 0) (j := 1) (f := vK 1) (cs' := [wAsker t ad (up2 vK 1 ((vK 0 1).toNatClampNeg) x1)]) C rfl rfl h dX1_leaveTrace_18 (suAskerA_1) rfl (fun h => ?_)
    refine G.aload_n C dX1_leaveTrace_19 0 rfl ?_
    refine G.dup C dX1_leaveTrace_20 rfl ?_
    refine gfX1_20 (i := 0) (j := 0) (v := .int (vK 0 1)) C rfl rfl rfl dX1_leaveTrace_21 ?_
    refine G.iconst C dX1_leaveTrace_24 ni_1 ?_
    refine G.iadd C dX1_leaveTrace_25 ?_
    refine pfX1_20 (i := 0) (j := 0) (cs' := [wAsker t ad (up2 (up2 vK 1 ((vK 0 1).toNatClampNeg) x1) 0 1 ((vK 0 1) + (1 : Int32)))]) C rfl rfl (Nat.le_of_ble_eq_true rfl) dX1_leaveTrace_26 (suAsker_1) rfl ?_
    exact hR _ (Option.some.inj h) _ _ dX1_leaveTrace_29
set_option maxHeartbeats 2000000 in
set_option maxRecDepth 20000 in
theorem c_X1_askAnew {t : Nat → ClassId} {ad : Nat → Nat → Nat} {N : Nat} {d : Nat} {Fr : SV → SV → Int32 → Int32 → Int32 → Option (Int32 × SV)} {vS : SV} {vK : SV} {x2 : Int32} {x3 : Int32} {x4 : Int32} {r : Int32 × SV} (hFr : ∀ (vS vK : SV) (x2 x3 x4 : Int32) (r : Int32 × SV), Fr vS vK x2 x3 x4 = some r → CI t yX1_begin cX1_begin 6 (some .int) (rm d) [.ref (ad 12 0), .ref (ad 3 0), .int x2, .int x3, .int x4] [wStage t (ad 3) vS, wAsker t ad vK] r.1 [wStage t (ad 3) vS, wAsker t ad r.2]) (h : F_X1_askAnew N Fr vS vK x2 x3 x4 = some r) : CI t yX1_askAnew cX1_askAnew 6 (some .int) (rm (d + 3)) [.ref (ad 12 0), .ref (ad 3 0), .int x2, .int x3, .int x4] [wStage t (ad 3) vS, wAsker t ad vK] (r.1) [wStage t (ad 3) vS, wAsker t ad (r.2)] := by
  refine CI.of (own := RX1) (by decide) rfl (Nat.le_of_ble_eq_true rfl) (fun X C hR0 => ?_)
  have hR : ∀ q : Int32 × SV, q = r → RetI X cX1_askAnew (q.1) [wStage t (ad 3) vS, wAsker t ad (q.2)] := by intro q e; subst e; exact hR0
  show G X [wStage t (ad 3) vS, wAsker t ad vK] 0 [(0, .ref (ad 12 0)), (1, .ref (ad 3 0)), (2, .int x2), (3, .int x3), (4, .int x4)] []
  unfold F_X1_askAnew at h
  refine G.aload_n C dX1_askAnew_0 1 rfl ?_
  refine gfX1_28 (i := 0) (j := 0) (v := .ref (ad 3 1)) C rfl rfl rfl dX1_askAnew_1 ?_
  refine G.iload_n C dX1_askAnew_4 2 rfl ?_
  refine G.iald (i := 0) (j := 1) (f := (vS 1)) C rfl rfl h dX1_askAnew_5 (fun h => ?_)
  refine G.istore (lv' := [(5, .int ((vS 1) (x2.toNatClampNeg))), (0, .ref (ad 12 0)), (1, .ref (ad 3 0)), (2, .int x2), (3, .int x3), (4, .int x4)]) C dX1_askAnew_6 (by decide) rfl ?_
  refine G.iload C dX1_askAnew_8 0 rfl ?_
  obtain ⟨q10, hq10, h⟩ := bind_some' h
  refine G.csI (cs' := [wStage t (ad 3) vS, wAsker t ad vK]) C (c_X1_isKind hq10) [] rfl rfl rfl rfl k_1013 cal_X1_isKind (fit_rm (by omega) (by decide)) rfl (Nat.le_of_ble_eq_true rfl) dX1_askAnew_10 ?_
  refine G.if_ne (tgt := 18) C dX1_askAnew_13 (by decide) h (fun h => ?_) (fun h => ?_)
  · refine G.aload_n C dX1_askAnew_18 1 rfl ?_
    refine G.aload_n C dX1_askAnew_19 2 rfl ?_
    refine G.iload_n C dX1_askAnew_20 3 rfl ?_
    refine G.iload_n C dX1_askAnew_21 4 rfl ?_
    refine jn_use (fun J => ∀ (s40_0 : Int32), J s40_0 = some r → G X [wStage t (ad 3) vS, wAsker t ad vK] 40 [(4, .int x4)] [.int s40_0, .int x2, .ref (ad 3 0), .ref (ad 12 0)]) h ?_ (fun J40 hJ40 h => ?_)
    · intro s40_0 h
      refine G.iload C dX1_askAnew_40 0 rfl ?_
      obtain ⟨q42, hq42, h⟩ := bind_some' h
      refine G.cvI (i0 := 1) (j0 := 0) (cs' := [wStage t (ad 3) vS, wAsker t ad (q42.2)]) C (hFr _ _ _ _ _ _ hq42) [0, 1] rfl rfl rfl rfl rfl rfl rfl k_1030 cal_X1_begin (fit_rm (by omega) (by decide)) rfl (Nat.le_of_ble_eq_true rfl) dX1_askAnew_42 ?_
      exact hR _ (Option.some.inj h) _ _ dX1_askAnew_45
    refine G.if_ne (tgt := 34) C dX1_askAnew_22 (by decide) h (fun h => ?_) (fun h => ?_)
    · refine G.gets (v := .ref (t 12)) C st_z12 k_1028 dX1_askAnew_34 ?_
      refine G.iload C dX1_askAnew_37 0 rfl ?_
      refine G.sti (f := tMarkB) C st_t12 h dX1_askAnew_39 (fun h => ?_)
      exact G.lvs [5] rfl (hJ40 _ h)
    · refine G.gets (v := .ref (t 11)) C st_z11 k_1026 dX1_askAnew_25 ?_
      refine G.iload C dX1_askAnew_28 0 rfl ?_
      refine G.sti (f := tSizeB) C st_t11 h dX1_askAnew_30 (fun h => ?_)
      refine G.goto (tgt := 40) C dX1_askAnew_31 (by decide) ?_
      exact G.lvs [5] rfl (hJ40 _ h)
  · refine G.iconst C dX1_askAnew_16 ni_0 ?_
    exact hR _ (Option.some.inj h) _ _ dX1_askAnew_17
set_option maxHeartbeats 2000000 in
set_option maxRecDepth 20000 in
theorem c_X1_begin {t : Nat → ClassId} {ad : Nat → Nat → Nat} {N : Nat} {d : Nat} {Fr : SV → SV → Int32 → Int32 → Int32 → Option (Int32 × SV)} {vS : SV} {vK : SV} {x2 : Int32} {x3 : Int32} {x4 : Int32} {r : Int32 × SV} (hFr : ∀ (vS vK : SV) (x2 x3 x4 : Int32) (r : Int32 × SV), Fr vS vK x2 x3 x4 = some r → CI t yX1_begin cX1_begin 6 (some .int) (rm d) [.ref (ad 12 0), .ref (ad 3 0), .int x2, .int x3, .int x4] [wStage t (ad 3) vS, wAsker t ad vK] r.1 [wStage t (ad 3) vS, wAsker t ad r.2]) (h : F_X1_begin N Fr vS vK x2 x3 x4 = some r) : CI t yX1_begin cX1_begin 6 (some .int) (rm (d + 6)) [.ref (ad 12 0), .ref (ad 3 0), .int x2, .int x3, .int x4] [wStage t (ad 3) vS, wAsker t ad vK] (r.1) [wStage t (ad 3) vS, wAsker t ad (r.2)] := by
  refine CI.of (own := RX1) (by decide) rfl (Nat.le_of_ble_eq_true rfl) (fun X C hR0 => ?_)
  have hR : ∀ q : Int32 × SV, q = r → RetI X cX1_begin (q.1) [wStage t (ad 3) vS, wAsker t ad (q.2)] := by intro q e; subst e; exact hR0
  show G X [wStage t (ad 3) vS, wAsker t ad vK] 0 [(0, .ref (ad 12 0)), (1, .ref (ad 3 0)), (2, .int x2), (3, .int x3), (4, .int x4)] []
  unfold F_X1_begin at h
  refine G.iload C dX1_begin_0 4 rfl ?_
  refine G.bipush C dX1_begin_2 nb_16 ?_
  refine G.icmp_le (tgt := 9) C dX1_begin_4 (by decide) h (fun h => ?_) (fun h => ?_)
  · refine G.aload_n C dX1_begin_9 0 rfl ?_
    refine G.iload_n C dX1_begin_10 3 rfl ?_
    obtain ⟨q11, hq11, h⟩ := bind_some' h
    refine G.cvV (i0 := 1) (j0 := 0) (cs' := [wStage t (ad 3) vS, wAsker t ad q11]) C (c_X1_leaveTrace (ad := ad) hq11) [1] rfl rfl rfl rfl rfl rfl rfl k_1034 cal_X1_leaveTrace (fit_rm (by omega) (by decide)) rfl (Nat.le_of_ble_eq_true rfl) dX1_begin_11 ?_
    refine G.iload C dX1_begin_14 4 rfl ?_
    refine G.iconst C dX1_begin_16 ni_1 ?_
    refine G.iadd C dX1_begin_17 ?_
    refine G.istore (lv' := [(5, .int (x4 + (1 : Int32))), (0, .ref (ad 12 0)), (1, .ref (ad 3 0)), (2, .int x2), (3, .int x3), (4, .int x4)]) C dX1_begin_18 (by decide) rfl ?_
    refine G.iload_n C dX1_begin_20 4 rfl ?_
    by_cases e_10 : x3 = 10
    · rw [if_pos e_10] at h
      have n_10 : x3.toInt = 10 := by rw [e_10]; decide
      refine G.tableIn (tgt := 96) C dX1_begin_21 (by rw [n_10]; decide) (by rw [n_10]; decide) (by rw [n_10]; rfl) (by decide) ?_
      refine G.aload_n C dX1_begin_96 2 rfl ?_
      refine gfX1_46 (i := 0) (j := 0) (v := .ref (ad 3 3)) C rfl rfl rfl dX1_begin_97 ?_
      refine G.iload_n C dX1_begin_100 3 rfl ?_
      refine G.iald (i := 0) (j := 3) (f := (vS 3)) C rfl rfl h dX1_begin_101 (fun h => ?_)
      exact hR _ (Option.some.inj h) _ _ dX1_begin_102
    rw [if_neg e_10] at h
    by_cases e_11 : x3 = 11
    · rw [if_pos e_11] at h
      have n_11 : x3.toInt = 11 := by rw [e_11]; decide
      refine G.tableIn (tgt := 103) C dX1_begin_21 (by rw [n_11]; decide) (by rw [n_11]; decide) (by rw [n_11]; rfl) (by decide) ?_
      refine G.aload_n C dX1_begin_103 1 rfl ?_
      refine G.aload_n C dX1_begin_104 2 rfl ?_
      refine G.iload_n C dX1_begin_105 3 rfl ?_
      refine G.bipush C dX1_begin_106 nb_10 ?_
      refine G.iload C dX1_begin_108 0 rfl ?_
      obtain ⟨q110, hq110, h⟩ := bind_some' h
      refine G.cvI (i0 := 1) (j0 := 0) (cs' := [wStage t (ad 3) vS, wAsker t ad (q110.2)]) C (hFr _ _ _ _ _ _ hq110) [0, 1] rfl rfl rfl rfl rfl rfl rfl k_1030 cal_X1_begin (fit_rm (by omega) (by decide)) rfl (Nat.le_of_ble_eq_true rfl) dX1_begin_110 ?_
      refine G.aload_n C dX1_begin_113 1 rfl ?_
      refine G.aload_n C dX1_begin_114 2 rfl ?_
      refine G.iload_n C dX1_begin_115 3 rfl ?_
      refine G.iconst C dX1_begin_116 ni_1 ?_
      refine G.iload C dX1_begin_117 0 rfl ?_
      obtain ⟨q119, hq119, h⟩ := bind_some' h
      refine G.cvI (i0 := 1) (j0 := 0) (cs' := [wStage t (ad 3) vS, wAsker t ad (q119.2)]) C (c_X1_askAnew (ad := ad) hFr hq119) [0, 1] rfl rfl rfl rfl rfl rfl rfl k_1022 cal_X1_askAnew (fit_rm (by omega) (by decide)) rfl (Nat.le_of_ble_eq_true rfl) dX1_begin_119 ?_
      refine G.iadd C dX1_begin_122 ?_
      exact hR _ (Option.some.inj h) _ _ dX1_begin_123
    rw [if_neg e_11] at h
    by_cases e_12 : x3 = 12
    · rw [if_pos e_12] at h
      have n_12 : x3.toInt = 12 := by rw [e_12]; decide
      refine G.tableIn (tgt := 124) C dX1_begin_21 (by rw [n_12]; decide) (by rw [n_12]; decide) (by rw [n_12]; rfl) (by decide) ?_
      refine G.aload_n C dX1_begin_124 1 rfl ?_
      refine G.aload_n C dX1_begin_125 2 rfl ?_
      refine G.iload_n C dX1_begin_126 3 rfl ?_
      refine G.bipush C dX1_begin_127 nb_11 ?_
      refine G.iload C dX1_begin_129 0 rfl ?_
      obtain ⟨q131, hq131, h⟩ := bind_some' h
      refine G.cvI (i0 := 1) (j0 := 0) (cs' := [wStage t (ad 3) vS, wAsker t ad (q131.2)]) C (hFr _ _ _ _ _ _ hq131) [0, 1] rfl rfl rfl rfl rfl rfl rfl k_1030 cal_X1_begin (fit_rm (by omega) (by decide)) rfl (Nat.le_of_ble_eq_true rfl) dX1_begin_131 ?_
      refine G.ineg C dX1_begin_134 ?_
      exact hR _ (Option.some.inj h) _ _ dX1_begin_135
    rw [if_neg e_12] at h
    by_cases e_13 : x3 = 13
    · rw [if_pos e_13] at h
      have n_13 : x3.toInt = 13 := by rw [e_13]; decide
      refine G.tableIn (tgt := 136) C dX1_begin_21 (by rw [n_13]; decide) (by rw [n_13]; decide) (by rw [n_13]; rfl) (by decide) ?_
      refine G.aload_n C dX1_begin_136 1 rfl ?_
      refine G.aload_n C dX1_begin_137 2 rfl ?_
      refine G.iload_n C dX1_begin_138 3 rfl ?_
      refine G.bipush C dX1_begin_139 nb_10 ?_
      refine G.iload C dX1_begin_141 0 rfl ?_
      obtain ⟨q143, hq143, h⟩ := bind_some' h
      refine G.cvI (i0 := 1) (j0 := 0) (cs' := [wStage t (ad 3) vS, wAsker t ad (q143.2)]) C (hFr _ _ _ _ _ _ hq143) [0, 1] rfl rfl rfl rfl rfl rfl rfl k_1030 cal_X1_begin (fit_rm (by omega) (by decide)) rfl (Nat.le_of_ble_eq_true rfl) dX1_begin_143 ?_
      refine G.bipush C dX1_begin_146 nb_100 ?_
      refine G.isub C dX1_begin_148 ?_
      exact hR _ (Option.some.inj h) _ _ dX1_begin_149
    rw [if_neg e_13] at h
    by_cases e_14 : x3 = 14
    · rw [if_pos e_14] at h
      have n_14 : x3.toInt = 14 := by rw [e_14]; decide
      refine G.tableIn (tgt := 150) C dX1_begin_21 (by rw [n_14]; decide) (by rw [n_14]; decide) (by rw [n_14]; rfl) (by decide) ?_
      refine G.iconst C dX1_begin_150 ni_2 ?_
      refine G.aload_n C dX1_begin_151 1 rfl ?_
      refine G.aload_n C dX1_begin_152 2 rfl ?_
      refine G.iload_n C dX1_begin_153 3 rfl ?_
      refine G.bipush C dX1_begin_154 nb_13 ?_
      refine G.iload C dX1_begin_156 0 rfl ?_
      obtain ⟨q158, hq158, h⟩ := bind_some' h
      refine G.cvI (i0 := 1) (j0 := 0) (cs' := [wStage t (ad 3) vS, wAsker t ad (q158.2)]) C (hFr _ _ _ _ _ _ hq158) [0, 1] rfl rfl rfl rfl rfl rfl rfl k_1030 cal_X1_begin (fit_rm (by omega) (by decide)) rfl (Nat.le_of_ble_eq_true rfl) dX1_begin_158 ?_
      refine G.imul C dX1_begin_161 ?_
      exact hR _ (Option.some.inj h) _ _ dX1_begin_162
    rw [if_neg e_14] at h
    by_cases e_20 : x3 = 20
    · rw [if_pos e_20] at h
      have n_20 : x3.toInt = 20 := by rw [e_20]; decide
      refine G.tableIn (tgt := 163) C dX1_begin_21 (by rw [n_20]; decide) (by rw [n_20]; decide) (by rw [n_20]; rfl) (by decide) ?_
      refine G.iload_n C dX1_begin_163 3 rfl ?_
      exact hR _ (Option.some.inj h) _ _ dX1_begin_164
    rw [if_neg e_20] at h
    by_cases e_21 : x3 = 21
    · rw [if_pos e_21] at h
      have n_21 : x3.toInt = 21 := by rw [e_21]; decide
      refine G.tableIn (tgt := 165) C dX1_begin_21 (by rw [n_21]; decide) (by rw [n_21]; decide) (by rw [n_21]; rfl) (by decide) ?_
      refine G.aload_n C dX1_begin_165 1 rfl ?_
      refine G.aload_n C dX1_begin_166 2 rfl ?_
      refine G.iload_n C dX1_begin_167 3 rfl ?_
      refine G.bipush C dX1_begin_168 nb_20 ?_
      refine G.iload C dX1_begin_170 0 rfl ?_
      obtain ⟨q172, hq172, h⟩ := bind_some' h
      refine G.cvI (i0 := 1) (j0 := 0) (cs' := [wStage t (ad 3) vS, wAsker t ad (q172.2)]) C (hFr _ _ _ _ _ _ hq172) [0, 1] rfl rfl rfl rfl rfl rfl rfl k_1030 cal_X1_begin (fit_rm (by omega) (by decide)) rfl (Nat.le_of_ble_eq_true rfl) dX1_begin_172 ?_
      refine G.aload_n C dX1_begin_175 2 rfl ?_
      refine G.aload_n C dX1_begin_176 2 rfl ?_
      refine gfX1_49 (i := 0) (j := 0) (v := .ref (ad 3 2)) C rfl rfl rfl dX1_begin_177 ?_
      refine G.iload_n C dX1_begin_180 3 rfl ?_
      refine G.iald (i := 0) (j := 2) (f := (vS 2)) C rfl rfl h dX1_begin_181 (fun h => ?_)
      obtain ⟨q182, hq182, h⟩ := bind_some' h
      refine G.cvI (i0 := 0) (j0 := 0) (cs' := [wStage t (ad 3) vS, wAsker t ad (q172.2)]) C (c_X5_wanting (a := (ad 3)) hq182) [0] rfl rfl rfl rfl rfl rfl rfl k_1038 cal_X5_wanting (fit_rm (by omega) (by decide)) rfl (Nat.le_of_ble_eq_true rfl) dX1_begin_182 ?_
      refine G.iadd C dX1_begin_185 ?_
      exact hR _ (Option.some.inj h) _ _ dX1_begin_186
    rw [if_neg e_21] at h
    by_cases e_22 : x3 = 22
    · rw [if_pos e_22] at h
      have n_22 : x3.toInt = 22 := by rw [e_22]; decide
      refine G.tableIn (tgt := 187) C dX1_begin_21 (by rw [n_22]; decide) (by rw [n_22]; decide) (by rw [n_22]; rfl) (by decide) ?_
      refine G.aload_n C dX1_begin_187 1 rfl ?_
      refine G.aload_n C dX1_begin_188 2 rfl ?_
      refine G.iload_n C dX1_begin_189 3 rfl ?_
      refine G.bipush C dX1_begin_190 nb_21 ?_
      refine G.iload C dX1_begin_192 0 rfl ?_
      obtain ⟨q194, hq194, h⟩ := bind_some' h
      refine G.cvI (i0 := 1) (j0 := 0) (cs' := [wStage t (ad 3) vS, wAsker t ad (q194.2)]) C (hFr _ _ _ _ _ _ hq194) [0, 1] rfl rfl rfl rfl rfl rfl rfl k_1030 cal_X1_begin (fit_rm (by omega) (by decide)) rfl (Nat.le_of_ble_eq_true rfl) dX1_begin_194 ?_
      refine G.sipush C dX1_begin_197 ns_1000 ?_
      refine G.isub C dX1_begin_200 ?_
      exact hR _ (Option.some.inj h) _ _ dX1_begin_201
    rw [if_neg e_22] at h
    by_cases e_23 : x3 = 23
    · rw [if_pos e_23] at h
      have n_23 : x3.toInt = 23 := by rw [e_23]; decide
      refine G.tableIn (tgt := 202) C dX1_begin_21 (by rw [n_23]; decide) (by rw [n_23]; decide) (by rw [n_23]; rfl) (by decide) ?_
      refine G.aload_n C dX1_begin_202 1 rfl ?_
      refine G.aload_n C dX1_begin_203 2 rfl ?_
      refine G.iload_n C dX1_begin_204 3 rfl ?_
      refine G.bipush C dX1_begin_205 nb_20 ?_
      refine G.iload C dX1_begin_207 0 rfl ?_
      obtain ⟨q209, hq209, h⟩ := bind_some' h
      refine G.cvI (i0 := 1) (j0 := 0) (cs' := [wStage t (ad 3) vS, wAsker t ad (q209.2)]) C (hFr _ _ _ _ _ _ hq209) [0, 1] rfl rfl rfl rfl rfl rfl rfl k_1030 cal_X1_begin (fit_rm (by omega) (by decide)) rfl (Nat.le_of_ble_eq_true rfl) dX1_begin_209 ?_
      refine G.aload_n C dX1_begin_212 1 rfl ?_
      refine G.aload_n C dX1_begin_213 2 rfl ?_
      refine G.iload_n C dX1_begin_214 3 rfl ?_
      refine G.iconst C dX1_begin_215 ni_0 ?_
      refine G.iload C dX1_begin_216 0 rfl ?_
      obtain ⟨q218, hq218, h⟩ := bind_some' h
      refine G.cvI (i0 := 1) (j0 := 0) (cs' := [wStage t (ad 3) vS, wAsker t ad (q218.2)]) C (c_X1_askAnew (ad := ad) hFr hq218) [0, 1] rfl rfl rfl rfl rfl rfl rfl k_1022 cal_X1_askAnew (fit_rm (by omega) (by decide)) rfl (Nat.le_of_ble_eq_true rfl) dX1_begin_218 ?_
      refine G.isub C dX1_begin_221 ?_
      exact hR _ (Option.some.inj h) _ _ dX1_begin_222
    rw [if_neg e_23] at h
    by_cases e_24 : x3 = 24
    · rw [if_pos e_24] at h
      have n_24 : x3.toInt = 24 := by rw [e_24]; decide
      refine G.tableIn (tgt := 223) C dX1_begin_21 (by rw [n_24]; decide) (by rw [n_24]; decide) (by rw [n_24]; rfl) (by decide) ?_
      refine G.iconst C dX1_begin_223 ni_2 ?_
      refine G.aload_n C dX1_begin_224 1 rfl ?_
      refine G.aload_n C dX1_begin_225 2 rfl ?_
      refine G.iload_n C dX1_begin_226 3 rfl ?_
      refine G.bipush C dX1_begin_227 nb_21 ?_
      refine G.iload C dX1_begin_229 0 rfl ?_
      obtain ⟨q231, hq231, h⟩ := bind_some' h
      refine G.cvI (i0 := 1) (j0 := 0) (cs' := [wStage t (ad 3) vS, wAsker t ad (q231.2)]) C (hFr _ _ _ _ _ _ hq231) [0, 1] rfl rfl rfl rfl rfl rfl rfl k_1030 cal_X1_begin (fit_rm (by omega) (by decide)) rfl (Nat.le_of_ble_eq_true rfl) dX1_begin_231 ?_
      refine G.imul C dX1_begin_234 ?_
      exact hR _ (Option.some.inj h) _ _ dX1_begin_235
    rw [if_neg e_24] at h
    have n_10 : x3.toInt ≠ 10 := fun h9 => e_10 (Int32.toInt_inj.mp (by rw [h9]; decide))
    have n_11 : x3.toInt ≠ 11 := fun h9 => e_11 (Int32.toInt_inj.mp (by rw [h9]; decide))
    have n_12 : x3.toInt ≠ 12 := fun h9 => e_12 (Int32.toInt_inj.mp (by rw [h9]; decide))
    have n_13 : x3.toInt ≠ 13 := fun h9 => e_13 (Int32.toInt_inj.mp (by rw [h9]; decide))
    have n_14 : x3.toInt ≠ 14 := fun h9 => e_14 (Int32.toInt_inj.mp (by rw [h9]; decide))
    have n_20 : x3.toInt ≠ 20 := fun h9 => e_20 (Int32.toInt_inj.mp (by rw [h9]; decide))
    have n_21 : x3.toInt ≠ 21 := fun h9 => e_21 (Int32.toInt_inj.mp (by rw [h9]; decide))
    have n_22 : x3.toInt ≠ 22 := fun h9 => e_22 (Int32.toInt_inj.mp (by rw [h9]; decide))
    have n_23 : x3.toInt ≠ 23 := fun h9 => e_23 (Int32.toInt_inj.mp (by rw [h9]; decide))
    have n_24 : x3.toInt ≠ 24 := fun h9 => e_24 (Int32.toInt_inj.mp (by rw [h9]; decide))
    have kd : G X [wStage t (ad 3) vS, wAsker t ad q11] 236 [(5, .int (x4 + (1 : Int32))), (0, .ref (ad 12 0)), (1, .ref (ad 3 0)), (2, .int x2), (3, .int x3), (4, .int x4)] [] := by
      refine G.iconst C dX1_begin_236 ni_0 ?_
      exact hR _ (Option.some.inj h) _ _ dX1_begin_237
    by_cases f_15 : x3.toInt = 15
    · exact G.tableIn (tgt := 236) C dX1_begin_21 (by rw [f_15]; decide) (by rw [f_15]; decide) (by rw [f_15]; rfl) (by decide) kd
    by_cases f_16 : x3.toInt = 16
    · exact G.tableIn (tgt := 236) C dX1_begin_21 (by rw [f_16]; decide) (by rw [f_16]; decide) (by rw [f_16]; rfl) (by decide) kd
    by_cases f_17 : x3.toInt = 17
    · exact G.tableIn (tgt := 236) C dX1_begin_21 (by rw [f_17]; decide) (by rw [f_17]; decide) (by rw [f_17]; rfl) (by decide) kd
    by_cases f_18 : x3.toInt = 18
    · exact G.tableIn (tgt := 236) C dX1_begin_21 (by rw [f_18]; decide) (by rw [f_18]; decide) (by rw [f_18]; rfl) (by decide) kd
    by_cases f_19 : x3.toInt = 19
    · exact G.tableIn (tgt := 236) C dX1_begin_21 (by rw [f_19]; decide) (by rw [f_19]; decide) (by rw [f_19]; rfl) (by decide) kd
    exact G.tableOut (tgt := 236) C dX1_begin_21 (by omega) (by decide) kd
  · refine G.iconst C dX1_begin_7 ni_0 ?_
    exact hR _ (Option.some.inj h) _ _ dX1_begin_8
set_option maxHeartbeats 2000000 in
set_option maxRecDepth 20000 in
theorem c_X1_beginK {t : Nat → ClassId} {ad : Nat → Nat → Nat} {N : Nat} : ∀ (k : Nat) (vS vK : SV) (x2 x3 x4 : Int32) (r : Int32 × SV), F_X1_beginK N k vS vK x2 x3 x4 = some r → CI t yX1_begin cX1_begin 6 (some .int) (rm (6 * k)) [.ref (ad 12 0), .ref (ad 3 0), .int x2, .int x3, .int x4] [wStage t (ad 3) vS, wAsker t ad vK] r.1 [wStage t (ad 3) vS, wAsker t ad r.2] := by
  intro k
  induction k with
  | zero => intro vS vK x2 x3 x4 r h; cases h
  | succ k ih => intro vS vK x2 x3 x4 r h; exact c_X1_begin (d := 6 * k) ih h
theorem c_X1_askAnewC {t : Nat → ClassId} {ad : Nat → Nat → Nat} {N : Nat} {vS vK : SV} {x2 x3 x4 : Int32} {r : Int32 × SV} (h : F_X1_askAnewC N vS vK x2 x3 x4 = some r) : CI t yX1_askAnew cX1_askAnew 6 (some .int) (rm 123) [.ref (ad 12 0), .ref (ad 3 0), .int x2, .int x3, .int x4] [wStage t (ad 3) vS, wAsker t ad vK] r.1 [wStage t (ad 3) vS, wAsker t ad r.2] := c_X1_askAnew (d := 120) (c_X1_beginK 20) h
set_option maxHeartbeats 2000000 in
set_option maxRecDepth 20000 in
theorem c_X1_answer {t : Nat → ClassId} {ad : Nat → Nat → Nat} {N : Nat} {vS : SV} {vK : SV} {x2 : Int32} {x3 : Int32} {r : Int32 × SV} (h : F_X1_answer N vS vK x2 x3 = some r) : CI t yX1_answer cX1_answer 4 (some .int) (rm 124) [.ref (ad 12 0), .ref (ad 3 0), .int x2, .int x3] [wStage t (ad 3) vS, wAsker t ad vK] (r.1) [wStage t (ad 3) vS, wAsker t ad (r.2)] := by
  refine CI.of (own := RX1) (by decide) rfl (Nat.le_of_ble_eq_true rfl) (fun X C hR0 => ?_)
  have hR : ∀ q : Int32 × SV, q = r → RetI X cX1_answer (q.1) [wStage t (ad 3) vS, wAsker t ad (q.2)] := by intro q e; subst e; exact hR0
  show G X [wStage t (ad 3) vS, wAsker t ad vK] 0 [(0, .ref (ad 12 0)), (1, .ref (ad 3 0)), (2, .int x2), (3, .int x3)] []
  unfold F_X1_answer at h
  refine G.aload_n C dX1_answer_0 0 rfl ?_
  refine G.iconst C dX1_answer_1 ni_0 ?_
  refine pfX1_20 (i := 1) (j := 0) (cs' := [wStage t (ad 3) vS, wAsker t ad (up2 vK 0 1 (0 : Int32))]) C rfl rfl (Nat.le_of_ble_eq_true rfl) dX1_answer_2 (suAsker_1) rfl ?_
  refine G.aload_n C dX1_answer_5 0 rfl ?_
  refine G.aload_n C dX1_answer_6 1 rfl ?_
  refine G.iload_n C dX1_answer_7 2 rfl ?_
  refine G.iload_n C dX1_answer_8 3 rfl ?_
  refine G.iconst C dX1_answer_9 ni_0 ?_
  obtain ⟨q10, hq10, h⟩ := bind_some' h
  refine G.cvI (i0 := 1) (j0 := 0) (cs' := [wStage t (ad 3) vS, wAsker t ad (q10.2)]) C (c_X1_askAnewC (ad := ad) hq10) [0, 1] rfl rfl rfl rfl rfl rfl rfl k_1022 cal_X1_askAnew (fit_rm (by decide) (by decide)) rfl (Nat.le_of_ble_eq_true rfl) dX1_answer_10 ?_
  exact hR _ (Option.some.inj h) _ _ dX1_answer_13
