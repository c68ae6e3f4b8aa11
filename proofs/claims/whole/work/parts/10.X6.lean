def F_X6_isFull (N : Nat) (vT : SV) : Option (Int32) := if (vT 0 1) < (120 : Int32) then (some (0 : Int32)) else (some (1 : Int32))
def F_X6_append (N : Nat) (vT : SV) (x1 : Int32) : Option (Int32 × SV) := jn (fun (vT_29 : SV) => some ((vT_29 0 1), vT_29)) (fun J29 => if (vT 0 1) < (120 : Int32) then (chk 120 (vT 0 1) (J29 (up2 (up2 vT 1 ((vT 0 1).toNatClampNeg) x1) 0 1 ((vT 0 1) + (1 : Int32))))) else (J29 vT))
def F_X6_empty (N : Nat) (vT : SV) : Option (SV) := some (up2 vT 0 1 (0 : Int32))
def F_X6_length (N : Nat) (vT : SV) : Option (Int32) := some (vT 0 1)
def F_X6_latestFault (N : Nat) (vT : SV) : Option (Int32) := some (vT 0 3)
def F_X6_faultPlace (N : Nat) (vT : SV) : Option (Int32) := some (vT 0 4)
def F_X6_here (N : Nat) (vT : SV) : Option (Int32) := if (vT 0 2) < (vT 0 1) then (chk 120 (vT 0 2) (some ((vT 1) ((vT 0 2).toNatClampNeg)))) else (some (-1 : Int32))
def F_X6_flawed (N : Nat) (vT : SV) (x1 : Int32) : Option (Int32 × SV) := some ((0 : Int32), (up2 (up2 vT 0 3 x1) 0 4 (vT 0 2)))
def F_X6_isFigure (N : Nat) (vT : SV) (x1 : Int32) : Option (Int32) := if x1 < (0 : Int32) then (some (0 : Int32)) else (if x1 < (vT 0 1) then (chk 120 x1 (if ((vT 1) (x1.toNatClampNeg)) < (48 : Int32) then (some (0 : Int32)) else (chk 120 x1 (if (57 : Int32) < ((vT 1) (x1.toNatClampNeg)) then (some (0 : Int32)) else (some (1 : Int32)))))) else (some (0 : Int32)))
def F_X6_readNumber_L6 (N : Nat) (vT : SV) (x1 : Int32) (x2 : Int32) (x3 : Int32) (K55 : Int32 → Int32 → Option (Int32 × SV)) : Nat → Int32 → Int32 → Option (Int32 × SV)
  | 0, _, _ => none
  | n + 1, x4, x5 => if (2 : Int32) < x4 then (K55 x4 x5) else ((F_X6_isFigure N vT ((vT 0 2) + x4)).bind (fun q20 => if q20 = (0 : Int32) then (K55 x4 x5) else (chk 120 ((vT 0 2) + x4) (F_X6_readNumber_L6 N vT x1 x2 x3 K55 n (x4 + (1 : Int32)) (((x5 * (10 : Int32)) + ((vT 1) (((vT 0 2) + x4).toNatClampNeg))) - (48 : Int32))))))
def F_X6_readNumber (N : Nat) (vT : SV) (x1 : Int32) (x2 : Int32) (x3 : Int32) : Option (Int32 × SV) := F_X6_readNumber_L6 N vT x1 x2 x3 (fun (x4_55 : Int32) (x5_55 : Int32) => jn (fun (u_66 : Unit) => (F_X6_flawed N vT (1 : Int32)).bind (fun q68 => some ((-1 : Int32), (q68.2)))) (fun J66 => if x4_55 = (0 : Int32) then (J66 ()) else (if (2 : Int32) < x4_55 then (J66 ()) else (jn (fun (u_86 : Unit) => (F_X6_flawed N vT (2 : Int32)).bind (fun q88 => some ((-1 : Int32), (q88.2)))) (fun J86 => if x5_55 < x1 then (J86 ()) else (if x2 < x5_55 then (J86 ()) else ((F_X6_here N (up2 vT 0 2 ((vT 0 2) + x4_55))).bind (fun q106 => if q106 = x3 then (some (x5_55, (up2 (up2 vT 0 2 ((vT 0 2) + x4_55)) 0 2 (((vT 0 2) + x4_55) + (1 : Int32))))) else ((F_X6_flawed N (up2 vT 0 2 ((vT 0 2) + x4_55)) (1 : Int32)).bind (fun q115 => some ((-1 : Int32), (q115.2)))))))))))) N (0 : Int32) (0 : Int32)
def F_X6_readLaw (N : Nat) (vT : SV) (vD : SV) : Option (Int32 × SV × SV) := (F_X6_here N vT).bind (fun q1 => if q1 = (114 : Int32) then ((F_X6_readNumber N (up2 vT 0 2 ((vT 0 2) + (1 : Int32))) (0 : Int32) (60 : Int32) (44 : Int32)).bind (fun q32 => if (q32.1) = (-1 : Int32) then (some ((0 : Int32), (q32.2), (up2 vD 0 0 (q32.1)))) else ((F_X6_readNumber N (q32.2) (0 : Int32) (9 : Int32) (59 : Int32)).bind (fun q55 => if (q55.1) = (-1 : Int32) then (some ((0 : Int32), (q55.2), (up2 (up2 vD 0 0 (q32.1)) 0 1 (q55.1)))) else (some ((1 : Int32), (q55.2), (up2 (up2 vD 0 0 (q32.1)) 0 1 (q55.1)))))))) else ((F_X6_flawed N vT (1 : Int32)).bind (fun q11 => zr (q11.1) (some ((q11.1), (q11.2), vD)))))
def F_X6_sortHere (N : Nat) (vT : SV) : Option (Int32) := if (vT 0 2) < (vT 0 1) then (chk 120 (vT 0 2) ((F_J0_indexOf_0f7a4 N ((((vT 1) ((vT 0 2).toNatClampNeg)).toUInt32 % 65536).toInt32)).bind (fun q23 => some q23))) else (some (-1 : Int32))
def F_X6_readThing (N : Nat) (vT : SV) (vD : SV) : Option (Int32 × SV × SV) := (F_X6_sortHere N vT).bind (fun q1 => jn (fun (u_16 : Unit) => (F_X6_flawed N vT (1 : Int32)).bind (fun q18 => zr (q18.1) (some ((q18.1), (q18.2), vD)))) (fun J16 => if q1 < (0 : Int32) then (J16 ()) else (if (0 : Int32) < (vD 0 3) then (J16 ()) else (if (vD 0 2) < (6 : Int32) then ((F_X6_readNumber N (up2 vT 0 2 ((vT 0 2) + (1 : Int32))) (0 : Int32) (9 : Int32) (44 : Int32)).bind (fun q53 => jn (fun (s75_0 : Int32) (vT_75 : SV) => jn (fun (s96_0 : Int32) (vT_96 : SV) => if s96_0 = (-1 : Int32) then (some ((0 : Int32), vT_96, vD)) else ((F_X5_addThing N vD (q1 + (1 : Int32)) (q53.1) s75_0 s96_0).bind (fun q115 => some ((1 : Int32), vT_96, q115)))) (fun J96 => if s75_0 = (-1 : Int32) then (J96 (-1 : Int32) vT_75) else ((F_X6_readNumber N vT_75 (0 : Int32) (9 : Int32) (59 : Int32)).bind (fun q93 => J96 (q93.1) (q93.2))))) (fun J75 => if (q53.1) = (-1 : Int32) then (J75 (-1 : Int32) (q53.2)) else ((F_X6_readNumber N (q53.2) (1 : Int32) (20 : Int32) (44 : Int32)).bind (fun q72 => J75 (q72.1) (q72.2)))))) else ((F_X6_flawed N vT (3 : Int32)).bind (fun q33 => zr (q33.1) (some ((q33.1), (q33.2), vD))))))))
def F_X6_readSeat (N : Nat) (vT : SV) (vD : SV) : Option (Int32 × SV × SV) := if (vD 0 3) < (6 : Int32) then ((F_X6_readNumber N (up2 vT 0 2 ((vT 0 2) + (1 : Int32))) (0 : Int32) (9 : Int32) (44 : Int32)).bind (fun q31 => jn (fun (s53_0 : Int32) (vT_53 : SV) => if s53_0 = (-1 : Int32) then (some ((0 : Int32), vT_53, vD)) else ((F_X5_addSeat N vD (q31.1) s53_0).bind (fun q64 => some ((1 : Int32), vT_53, q64)))) (fun J53 => if (q31.1) = (-1 : Int32) then (J53 (-1 : Int32) (q31.2)) else ((F_X6_readNumber N (q31.2) (1 : Int32) (20 : Int32) (59 : Int32)).bind (fun q50 => J53 (q50.1) (q50.2)))))) else ((F_X6_flawed N vT (3 : Int32)).bind (fun q11 => zr (q11.1) (some ((q11.1), (q11.2), vD))))
def F_X6_readInto_L29 (N : Nat)  : Nat → Int32 → SV → SV → Option (Int32 × SV × SV)
  | 0, _, _, _ => none
  | n + 1, x2, vT, vD => if x2 < (120 : Int32) then (if (vT 0 2) < (vT 0 1) then ((F_X6_here N vT).bind (fun q47 => jn (fun (s68_0 : Int32) (vT_68 : SV) (vD_68 : SV) => if s68_0 = (0 : Int32) then (some ((0 : Int32), vT_68, vD_68)) else (F_X6_readInto_L29 N  n (x2 + (1 : Int32)) vT_68 vD_68)) (fun J68 => if q47 = (122 : Int32) then ((F_X6_readSeat N vT vD).bind (fun q57 => J68 (q57.1) (q57.2.1) (q57.2.2))) else ((F_X6_readThing N vT vD).bind (fun q65 => J68 (q65.1) (q65.2.1) (q65.2.2)))))) else (some ((1 : Int32), vT, vD))) else (some ((1 : Int32), vT, vD))
def F_X6_readInto (N : Nat) (vT : SV) (vD : SV) : Option (Int32 × SV × SV) := (F_X5_wipe N vD).bind (fun q6 => (F_X6_readLaw N (up2 vT 0 2 (0 : Int32)) q6).bind (fun q11 => if (q11.1) = (0 : Int32) then (some ((0 : Int32), (q11.2.1), (q11.2.2))) else ((F_X6_readThing N (q11.2.1) (q11.2.2)).bind (fun q19 => if (q19.1) = (0 : Int32) then (some ((0 : Int32), (q19.2.1), (q19.2.2))) else (F_X6_readInto_L29 N N (0 : Int32) (q19.2.1) (q19.2.2))))))
set_option maxHeartbeats 2000000 in
set_option maxRecDepth 20000 in
theorem c_X6_isFull {t : Nat → ClassId} {ad : Nat → Nat → Nat} {N : Nat} {vT : SV} {r : Int32} (h : F_X6_isFull N vT = some r) : CI t yX6_isFull cX6_isFull 1 (some .boolean) (rm 1) [.ref (ad 2 0)] [wTape t ad vT] r [wTape t ad vT] := by
  refine CZ.of (own := RX6) (by decide) rfl (Nat.le_of_ble_eq_true rfl) (fun X C hR0 => ?_)
  have hR : ∀ q : Int32, q = r → RetZ X cX6_isFull q [wTape t ad vT] := by intro q e; subst e; exact hR0
  show G X [wTape t ad vT] 0 [(0, .ref (ad 2 0))] []
  unfold F_X6_isFull at h
  refine G.aload_n C dX6_isFull_0 0 rfl ?_
  refine gfX6_13 (i := 0) (j := 0) (v := .int (vT 0 1)) C rfl rfl rfl dX6_isFull_1 ?_
  refine G.bipush C dX6_isFull_4 nb_120 ?_
  refine G.icmp_lt (tgt := 13) C dX6_isFull_6 (by decide) h (fun h => ?_) (fun h => ?_)
  · refine G.iconst C dX6_isFull_13 ni_0 ?_
    exact hR _ (Option.some.inj h) (Or.inl rfl) _ _ dX6_isFull_14
  · refine G.iconst C dX6_isFull_9 ni_1 ?_
    refine G.goto (tgt := 14) C dX6_isFull_10 (by decide) ?_
    exact hR _ (Option.some.inj h) (Or.inr rfl) _ _ dX6_isFull_14
set_option maxHeartbeats 2000000 in
set_option maxRecDepth 20000 in
theorem c_X6_append {t : Nat → ClassId} {ad : Nat → Nat → Nat} {N : Nat} {vT : SV} {x1 : Int32} {r : Int32 × SV} (h : F_X6_append N vT x1 = some r) : CI t yX6_append cX6_append 2 (some .int) (rm 1) [.ref (ad 2 0), .int x1] [wTape t ad vT] (r.1) [wTape t ad (r.2)] := by
  refine CI.of (own := RX6) (by decide) rfl (Nat.le_of_ble_eq_true rfl) (fun X C hR0 => ?_)
  have hR : ∀ q : Int32 × SV, q = r → RetI X cX6_append (q.1) [wTape t ad (q.2)] := by intro q e; subst e; exact hR0
  show G X [wTape t ad vT] 0 [(0, .ref (ad 2 0)), (1, .int x1)] []
  unfold F_X6_append at h
  refine G.aload_n C dX6_append_0 0 rfl ?_
  refine gfX6_13 (i := 0) (j := 0) (v := .int (vT 0 1)) C rfl rfl rfl dX6_append_1 ?_
  refine G.bipush C dX6_append_4 nb_120 ?_
  refine jn_use (fun J => ∀ (vT_29 : SV), J vT_29 = some r → G X [wTape t ad vT_29] 29 [(0, .ref (ad 2 0))] []) h ?_ (fun J29 hJ29 h => ?_)
  · intro vT_29 h
    refine G.aload_n C dX6_append_29 0 rfl ?_
    refine gfX6_13 (i := 0) (j := 0) (v := .int (vT_29 0 1)) C rfl rfl rfl dX6_append_30 ?_
    exact hR _ (Option.some.inj h) _ _ dX6_append_33
  refine G.icmp_ge (tgt := 29) C dX6_append_6 (by decide) h (fun h => ?_) (fun h => ?_)
  · exact G.lvs [0] rfl (hJ29 _ h)
  · refine G.aload_n C dX6_append_9 0 rfl ?_
    refine gfX6_9 (i := 0) (j := 0) (v := .ref (ad 2 1)) C rfl rfl rfl dX6_append_10 ?_
    refine G.aload_n C dX6_append_13 0 rfl ?_
    refine gfX6_13 (i := 0) (j := 0) (v := .int (vT 0 1)) C rfl rfl rfl dX6_append_14 ?_
    refine G.iload_n C dX6_append_17 1 rfl ?_
    refine G.iast (i := 0) (j := 1) (f := vT 1) (cs' := [wTape t ad (up2 vT 1 ((vT 0 1).toNatClampNeg) x1)]) C rfl rfl h dX6_append_18 (suTapeA_1) rfl (fun h => ?_)
    refine G.aload_n C dX6_append_19 0 rfl ?_
    refine G.dup C dX6_append_20 rfl ?_
    refine gfX6_13 (i := 0) (j := 0) (v := .int (vT 0 1)) C rfl rfl rfl dX6_append_21 ?_
    refine G.iconst C dX6_append_24 ni_1 ?_
    refine G.iadd C dX6_append_25 ?_
    refine pfX6_13 (i := 0) (j := 0) (cs' := [wTape t ad (up2 (up2 vT 1 ((vT 0 1).toNatClampNeg) x1) 0 1 ((vT 0 1) + (1 : Int32)))]) C rfl rfl (Nat.le_of_ble_eq_true rfl) dX6_append_26 (suTape_1) rfl ?_
    exact G.lvs [0] rfl (hJ29 _ h)
set_option maxHeartbeats 2000000 in
set_option maxRecDepth 20000 in
theorem c_X6_empty {t : Nat → ClassId} {ad : Nat → Nat → Nat} {N : Nat} {vT : SV} {r : SV} (h : F_X6_empty N vT = some r) : CV t yX6_empty cX6_empty 1 none (rm 1) [.ref (ad 2 0)] [wTape t ad vT] [wTape t ad r] := by
  refine CV.of (own := RX6) (by decide) rfl (Nat.le_of_ble_eq_true rfl) (fun X C hR0 => ?_)
  have hR : ∀ q : SV, q = r → RetV X cX6_empty [wTape t ad q] := by intro q e; subst e; exact hR0
  show G X [wTape t ad vT] 0 [(0, .ref (ad 2 0))] []
  unfold F_X6_empty at h
  refine G.aload_n C dX6_empty_0 0 rfl ?_
  refine G.iconst C dX6_empty_1 ni_0 ?_
  refine pfX6_13 (i := 0) (j := 0) (cs' := [wTape t ad (up2 vT 0 1 (0 : Int32))]) C rfl rfl (Nat.le_of_ble_eq_true rfl) dX6_empty_2 (suTape_1) rfl ?_
  exact hR _ (Option.some.inj h) _ _ dX6_empty_5
set_option maxHeartbeats 2000000 in
set_option maxRecDepth 20000 in
theorem c_X6_length {t : Nat → ClassId} {ad : Nat → Nat → Nat} {N : Nat} {vT : SV} {r : Int32} (h : F_X6_length N vT = some r) : CI t yX6_length cX6_length 1 (some .int) (rm 1) [.ref (ad 2 0)] [wTape t ad vT] r [wTape t ad vT] := by
  refine CI.of (own := RX6) (by decide) rfl (Nat.le_of_ble_eq_true rfl) (fun X C hR0 => ?_)
  have hR : ∀ q : Int32, q = r → RetI X cX6_length q [wTape t ad vT] := by intro q e; subst e; exact hR0
  show G X [wTape t ad vT] 0 [(0, .ref (ad 2 0))] []
  unfold F_X6_length at h
  refine G.aload_n C dX6_length_0 0 rfl ?_
  refine gfX6_13 (i := 0) (j := 0) (v := .int (vT 0 1)) C rfl rfl rfl dX6_length_1 ?_
  exact hR _ (Option.some.inj h) _ _ dX6_length_4
set_option maxHeartbeats 2000000 in
set_option maxRecDepth 20000 in
theorem c_X6_latestFault {t : Nat → ClassId} {ad : Nat → Nat → Nat} {N : Nat} {vT : SV} {r : Int32} (h : F_X6_latestFault N vT = some r) : CI t yX6_latestFault cX6_latestFault 1 (some .int) (rm 1) [.ref (ad 2 0)] [wTape t ad vT] r [wTape t ad vT] := by
  refine CI.of (own := RX6) (by decide) rfl (Nat.le_of_ble_eq_true rfl) (fun X C hR0 => ?_)
  have hR : ∀ q : Int32, q = r → RetI X cX6_latestFault q [wTape t ad vT] := by intro q e; subst e; exact hR0
  show G X [wTape t ad vT] 0 [(0, .ref (ad 2 0))] []
  unfold F_X6_latestFault at h
  refine G.aload_n C dX6_latestFault_0 0 rfl ?_
  refine gfX6_17 (i := 0) (j := 0) (v := .int (vT 0 3)) C rfl rfl rfl dX6_latestFault_1 ?_
  exact hR _ (Option.some.inj h) _ _ dX6_latestFault_4
set_option maxHeartbeats 2000000 in
set_option maxRecDepth 20000 in
theorem c_X6_faultPlace {t : Nat → ClassId} {ad : Nat → Nat → Nat} {N : Nat} {vT : SV} {r : Int32} (h : F_X6_faultPlace N vT = some r) : CI t yX6_faultPlace cX6_faultPlace 1 (some .int) (rm 1) [.ref (ad 2 0)] [wTape t ad vT] r [wTape t ad vT] := by
  refine CI.of (own := RX6) (by decide) rfl (Nat.le_of_ble_eq_true rfl) (fun X C hR0 => ?_)
  have hR : ∀ q : Int32, q = r → RetI X cX6_faultPlace q [wTape t ad vT] := by intro q e; subst e; exact hR0
  show G X [wTape t ad vT] 0 [(0, .ref (ad 2 0))] []
  unfold F_X6_faultPlace at h
  refine G.aload_n C dX6_faultPlace_0 0 rfl ?_
  refine gfX6_20 (i := 0) (j := 0) (v := .int (vT 0 4)) C rfl rfl rfl dX6_faultPlace_1 ?_
  exact hR _ (Option.some.inj h) _ _ dX6_faultPlace_4
set_option maxHeartbeats 2000000 in
set_option maxRecDepth 20000 in
theorem c_X6_here {t : Nat → ClassId} {ad : Nat → Nat → Nat} {N : Nat} {vT : SV} {r : Int32} (h : F_X6_here N vT = some r) : CI t yX6_here cX6_here 1 (some .int) (rm 1) [.ref (ad 2 0)] [wTape t ad vT] r [wTape t ad vT] := by
  refine CI.of (own := RX6) (by decide) rfl (Nat.le_of_ble_eq_true rfl) (fun X C hR0 => ?_)
  have hR : ∀ q : Int32, q = r → RetI X cX6_here q [wTape t ad vT] := by intro q e; subst e; exact hR0
  show G X [wTape t ad vT] 0 [(0, .ref (ad 2 0))] []
  unfold F_X6_here at h
  refine G.aload_n C dX6_here_0 0 rfl ?_
  refine gfX6_23 (i := 0) (j := 0) (v := .int (vT 0 2)) C rfl rfl rfl dX6_here_1 ?_
  refine G.aload_n C dX6_here_4 0 rfl ?_
  refine gfX6_13 (i := 0) (j := 0) (v := .int (vT 0 1)) C rfl rfl rfl dX6_here_5 ?_
  refine G.icmp_ge (tgt := 23) C dX6_here_8 (by decide) h (fun h => ?_) (fun h => ?_)
  · refine G.iconst C dX6_here_23 ni_m1 ?_
    exact hR _ (Option.some.inj h) _ _ dX6_here_24
  · refine G.aload_n C dX6_here_11 0 rfl ?_
    refine gfX6_9 (i := 0) (j := 0) (v := .ref (ad 2 1)) C rfl rfl rfl dX6_here_12 ?_
    refine G.aload_n C dX6_here_15 0 rfl ?_
    refine gfX6_23 (i := 0) (j := 0) (v := .int (vT 0 2)) C rfl rfl rfl dX6_here_16 ?_
    refine G.iald (i := 0) (j := 1) (f := (vT 1)) C rfl rfl h dX6_here_19 (fun h => ?_)
    refine G.goto (tgt := 24) C dX6_here_20 (by decide) ?_
    exact hR _ (Option.some.inj h) _ _ dX6_here_24
set_option maxHeartbeats 2000000 in
set_option maxRecDepth 20000 in
theorem c_X6_flawed {t : Nat → ClassId} {ad : Nat → Nat → Nat} {N : Nat} {vT : SV} {x1 : Int32} {r : Int32 × SV} (h : F_X6_flawed N vT x1 = some r) : CI t yX6_flawed cX6_flawed 2 (some .boolean) (rm 1) [.ref (ad 2 0), .int x1] [wTape t ad vT] (r.1) [wTape t ad (r.2)] := by
  refine CZ.of (own := RX6) (by decide) rfl (Nat.le_of_ble_eq_true rfl) (fun X C hR0 => ?_)
  have hR : ∀ q : Int32 × SV, q = r → RetZ X cX6_flawed (q.1) [wTape t ad (q.2)] := by intro q e; subst e; exact hR0
  show G X [wTape t ad vT] 0 [(0, .ref (ad 2 0)), (1, .int x1)] []
  unfold F_X6_flawed at h
  refine G.aload_n C dX6_flawed_0 0 rfl ?_
  refine G.iload_n C dX6_flawed_1 1 rfl ?_
  refine pfX6_17 (i := 0) (j := 0) (cs' := [wTape t ad (up2 vT 0 3 x1)]) C rfl rfl (Nat.le_of_ble_eq_true rfl) dX6_flawed_2 (suTape_3) rfl ?_
  refine G.aload_n C dX6_flawed_5 0 rfl ?_
  refine G.aload_n C dX6_flawed_6 0 rfl ?_
  refine gfX6_23 (i := 0) (j := 0) (v := .int (vT 0 2)) C rfl rfl rfl dX6_flawed_7 ?_
  refine pfX6_20 (i := 0) (j := 0) (cs' := [wTape t ad (up2 (up2 vT 0 3 x1) 0 4 (vT 0 2))]) C rfl rfl (Nat.le_of_ble_eq_true rfl) dX6_flawed_10 (suTape_4) rfl ?_
  refine G.iconst C dX6_flawed_13 ni_0 ?_
  exact hR _ (Option.some.inj h) (Or.inl rfl) _ _ dX6_flawed_14
set_option maxHeartbeats 2000000 in
set_option maxRecDepth 20000 in
theorem c_X6_isFigure {t : Nat → ClassId} {ad : Nat → Nat → Nat} {N : Nat} {vT : SV} {x1 : Int32} {r : Int32} (h : F_X6_isFigure N vT x1 = some r) : CI t yX6_isFigure cX6_isFigure 2 (some .boolean) (rm 1) [.ref (ad 2 0), .int x1] [wTape t ad vT] r [wTape t ad vT] := by
  refine CZ.of (own := RX6) (by decide) rfl (Nat.le_of_ble_eq_true rfl) (fun X C hR0 => ?_)
  have hR : ∀ q : Int32, q = r → RetZ X cX6_isFigure q [wTape t ad vT] := by intro q e; subst e; exact hR0
  show G X [wTape t ad vT] 0 [(0, .ref (ad 2 0)), (1, .int x1)] []
  unfold F_X6_isFigure at h
  refine G.iload_n C dX6_isFigure_0 1 rfl ?_
  refine G.if_lt (tgt := 38) C dX6_isFigure_1 (by decide) h (fun h => ?_) (fun h => ?_)
  · refine G.iconst C dX6_isFigure_38 ni_0 ?_
    exact hR _ (Option.some.inj h) (Or.inl rfl) _ _ dX6_isFigure_39
  · refine G.iload_n C dX6_isFigure_4 1 rfl ?_
    refine G.aload_n C dX6_isFigure_5 0 rfl ?_
    refine gfX6_13 (i := 0) (j := 0) (v := .int (vT 0 1)) C rfl rfl rfl dX6_isFigure_6 ?_
    refine G.icmp_ge (tgt := 38) C dX6_isFigure_9 (by decide) h (fun h => ?_) (fun h => ?_)
    · refine G.iconst C dX6_isFigure_38 ni_0 ?_
      exact hR _ (Option.some.inj h) (Or.inl rfl) _ _ dX6_isFigure_39
    · refine G.aload_n C dX6_isFigure_12 0 rfl ?_
      refine gfX6_9 (i := 0) (j := 0) (v := .ref (ad 2 1)) C rfl rfl rfl dX6_isFigure_13 ?_
      refine G.iload_n C dX6_isFigure_16 1 rfl ?_
      refine G.iald (i := 0) (j := 1) (f := (vT 1)) C rfl rfl h dX6_isFigure_17 (fun h => ?_)
      refine G.bipush C dX6_isFigure_18 nb_48 ?_
      refine G.icmp_lt (tgt := 38) C dX6_isFigure_20 (by decide) h (fun h => ?_) (fun h => ?_)
      · refine G.iconst C dX6_isFigure_38 ni_0 ?_
        exact hR _ (Option.some.inj h) (Or.inl rfl) _ _ dX6_isFigure_39
      · refine G.aload_n C dX6_isFigure_23 0 rfl ?_
        refine gfX6_9 (i := 0) (j := 0) (v := .ref (ad 2 1)) C rfl rfl rfl dX6_isFigure_24 ?_
        refine G.iload_n C dX6_isFigure_27 1 rfl ?_
        refine G.iald (i := 0) (j := 1) (f := (vT 1)) C rfl rfl h dX6_isFigure_28 (fun h => ?_)
        refine G.bipush C dX6_isFigure_29 nb_57 ?_
        refine G.icmp_gt (tgt := 38) C dX6_isFigure_31 (by decide) h (fun h => ?_) (fun h => ?_)
        · refine G.iconst C dX6_isFigure_38 ni_0 ?_
          exact hR _ (Option.some.inj h) (Or.inl rfl) _ _ dX6_isFigure_39
        · refine G.iconst C dX6_isFigure_34 ni_1 ?_
          refine G.goto (tgt := 39) C dX6_isFigure_35 (by decide) ?_
          exact hR _ (Option.some.inj h) (Or.inr rfl) _ _ dX6_isFigure_39
set_option maxHeartbeats 2000000 in
set_option maxRecDepth 20000 in
theorem w_X6_readNumber_L6 {X : Cx} {t : Nat → ClassId} {ad : Nat → Nat → Nat} {N : Nat} {vT : SV} {x1 : Int32} {x2 : Int32} {x3 : Int32} {K55 : Int32 → Int32 → Option (Int32 × SV)} {r : Int32 × SV} (C : gX X t (rm 2) cX6_readNumber 6 RX6) (hR : ∀ q : Int32 × SV, q = r → RetI X cX6_readNumber (q.1) [wTape t ad (q.2)]) (hK55 : ∀ (x4_55 : Int32) (x5_55 : Int32), K55 x4_55 x5_55 = some r → G X [wTape t ad vT] 55 [(0, .ref (ad 2 0)), (1, .int x1), (2, .int x2), (3, .int x3), (4, .int x4_55), (5, .int x5_55)] []) : ∀ (n : Nat) (x4 : Int32) (x5 : Int32), F_X6_readNumber_L6 N vT x1 x2 x3 K55 n x4 x5 = some r → G X [wTape t ad vT] 6 [(0, .ref (ad 2 0)), (1, .int x1), (2, .int x2), (3, .int x3), (4, .int x4), (5, .int x5)] [] := by
  intro n
  induction n with
  | zero => intro x4 x5 h; exact absurd h (by simp [F_X6_readNumber_L6])
  | succ n ih =>
    intro x4 x5 h
    rw [F_X6_readNumber_L6] at h
    refine G.iload C dX6_readNumber_6 4 rfl ?_
    refine G.iconst C dX6_readNumber_8 ni_2 ?_
    refine G.icmp_gt (tgt := 55) C dX6_readNumber_9 (by decide) h (fun h => ?_) (fun h => ?_)
    · exact G.lvs [0, 1, 2, 3, 4, 5] rfl (hK55 _ _ h)
    · refine G.aload_n C dX6_readNumber_12 0 rfl ?_
      refine G.aload_n C dX6_readNumber_13 0 rfl ?_
      refine gfX6_23 (i := 0) (j := 0) (v := .int (vT 0 2)) C rfl rfl rfl dX6_readNumber_14 ?_
      refine G.iload C dX6_readNumber_17 4 rfl ?_
      refine G.iadd C dX6_readNumber_19 ?_
      obtain ⟨q20, hq20, h⟩ := bind_some' h
      refine G.cvI (i0 := 0) (j0 := 0) (cs' := [wTape t ad vT]) C (c_X6_isFigure (ad := ad) hq20) [0] rfl rfl rfl rfl rfl rfl rfl k_468 cal_X6_isFigure (fit_rm (by decide) (by decide)) rfl (Nat.le_of_ble_eq_true rfl) dX6_readNumber_20 ?_
      refine G.if_eq (tgt := 55) C dX6_readNumber_23 (by decide) h (fun h => ?_) (fun h => ?_)
      · exact G.lvs [0, 1, 2, 3, 4, 5] rfl (hK55 _ _ h)
      · refine G.iload C dX6_readNumber_26 5 rfl ?_
        refine G.bipush C dX6_readNumber_28 nb_10 ?_
        refine G.imul C dX6_readNumber_30 ?_
        refine G.aload_n C dX6_readNumber_31 0 rfl ?_
        refine gfX6_9 (i := 0) (j := 0) (v := .ref (ad 2 1)) C rfl rfl rfl dX6_readNumber_32 ?_
        refine G.aload_n C dX6_readNumber_35 0 rfl ?_
        refine gfX6_23 (i := 0) (j := 0) (v := .int (vT 0 2)) C rfl rfl rfl dX6_readNumber_36 ?_
        refine G.iload C dX6_readNumber_39 4 rfl ?_
        refine G.iadd C dX6_readNumber_41 ?_
        refine G.iald (i := 0) (j := 1) (f := (vT 1)) C rfl rfl h dX6_readNumber_42 (fun h => ?_)
        refine G.iadd C dX6_readNumber_43 ?_
        refine G.bipush C dX6_readNumber_44 nb_48 ?_
        refine G.isub C dX6_readNumber_46 ?_
        refine G.istore (lv' := [(5, .int (((x5 * (10 : Int32)) + ((vT 1) (((vT 0 2) + x4).toNatClampNeg))) - (48 : Int32))), (0, .ref (ad 2 0)), (1, .int x1), (2, .int x2), (3, .int x3), (4, .int x4)]) C dX6_readNumber_47 (by decide) rfl ?_
        refine G.iinc (v := (x4 + (1 : Int32))) (lv' := [(4, .int (x4 + (1 : Int32))), (5, .int (((x5 * (10 : Int32)) + ((vT 1) (((vT 0 2) + x4).toNatClampNeg))) - (48 : Int32))), (0, .ref (ad 2 0)), (1, .int x1), (2, .int x2), (3, .int x3)]) C dX6_readNumber_49 5 rfl (by rw [ni_1]) (by decide) rfl ?_
        refine G.goto (tgt := 6) C dX6_readNumber_52 (by decide) ?_
        exact G.lvs [2, 3, 4, 5, 0, 1] rfl (ih _ _ h)
set_option maxHeartbeats 2000000 in
set_option maxRecDepth 20000 in
theorem c_X6_readNumber {t : Nat → ClassId} {ad : Nat → Nat → Nat} {N : Nat} {vT : SV} {x1 : Int32} {x2 : Int32} {x3 : Int32} {r : Int32 × SV} (h : F_X6_readNumber N vT x1 x2 x3 = some r) : CI t yX6_readNumber cX6_readNumber 6 (some .int) (rm 2) [.ref (ad 2 0), .int x1, .int x2, .int x3] [wTape t ad vT] (r.1) [wTape t ad (r.2)] := by
  refine CI.of (own := RX6) (by decide) rfl (Nat.le_of_ble_eq_true rfl) (fun X C hR0 => ?_)
  have hR : ∀ q : Int32 × SV, q = r → RetI X cX6_readNumber (q.1) [wTape t ad (q.2)] := by intro q e; subst e; exact hR0
  show G X [wTape t ad vT] 0 [(0, .ref (ad 2 0)), (1, .int x1), (2, .int x2), (3, .int x3)] []
  unfold F_X6_readNumber at h
  refine G.iconst C dX6_readNumber_0 ni_0 ?_
  refine G.istore (lv' := [(4, .int (0 : Int32)), (0, .ref (ad 2 0)), (1, .int x1), (2, .int x2), (3, .int x3)]) C dX6_readNumber_1 (by decide) rfl ?_
  refine G.iconst C dX6_readNumber_3 ni_0 ?_
  refine G.istore (lv' := [(5, .int (0 : Int32)), (4, .int (0 : Int32)), (0, .ref (ad 2 0)), (1, .int x1), (2, .int x2), (3, .int x3)]) C dX6_readNumber_4 (by decide) rfl ?_
  refine G.lvs [2, 3, 4, 5, 1, 0] rfl (w_X6_readNumber_L6 C hR (fun x4_55 x5_55 h => ?_) N _ _ h)
  · refine G.iload C dX6_readNumber_55 4 rfl ?_
    refine jn_use (fun J => ∀ (u_66 : Unit), J u_66 = some r → G X [wTape t ad vT] 66 [(0, .ref (ad 2 0))] []) h ?_ (fun J66 hJ66 h => ?_)
    · intro u_66 h
      refine G.aload_n C dX6_readNumber_66 0 rfl ?_
      refine G.iconst C dX6_readNumber_67 ni_1 ?_
      obtain ⟨q68, hq68, h⟩ := bind_some' h
      refine G.cvI (i0 := 0) (j0 := 0) (cs' := [wTape t ad (q68.2)]) C (c_X6_flawed (ad := ad) hq68) [0] rfl rfl rfl rfl rfl rfl rfl k_460 cal_X6_flawed (fit_rm (by decide) (by decide)) rfl (Nat.le_of_ble_eq_true rfl) dX6_readNumber_68 ?_
      refine G.pop C dX6_readNumber_71 rfl ?_
      refine G.iconst C dX6_readNumber_72 ni_m1 ?_
      exact hR _ (Option.some.inj h) _ _ dX6_readNumber_73
    refine G.if_eq (tgt := 66) C dX6_readNumber_57 (by decide) h (fun h => ?_) (fun h => ?_)
    · exact G.lvs [0] rfl (hJ66 _ h)
    · refine G.iload C dX6_readNumber_60 4 rfl ?_
      refine G.iconst C dX6_readNumber_62 ni_2 ?_
      refine G.icmp_le (tgt := 74) C dX6_readNumber_63 (by decide) h (fun h => ?_) (fun h => ?_)
      · refine G.iload C dX6_readNumber_74 5 rfl ?_
        refine G.iload_n C dX6_readNumber_76 1 rfl ?_
        refine jn_use (fun J => ∀ (u_86 : Unit), J u_86 = some r → G X [wTape t ad vT] 86 [(0, .ref (ad 2 0))] []) h ?_ (fun J86 hJ86 h => ?_)
        · intro u_86 h
          refine G.aload_n C dX6_readNumber_86 0 rfl ?_
          refine G.iconst C dX6_readNumber_87 ni_2 ?_
          obtain ⟨q88, hq88, h⟩ := bind_some' h
          refine G.cvI (i0 := 0) (j0 := 0) (cs' := [wTape t ad (q88.2)]) C (c_X6_flawed (ad := ad) hq88) [0] rfl rfl rfl rfl rfl rfl rfl k_460 cal_X6_flawed (fit_rm (by decide) (by decide)) rfl (Nat.le_of_ble_eq_true rfl) dX6_readNumber_88 ?_
          refine G.pop C dX6_readNumber_91 rfl ?_
          refine G.iconst C dX6_readNumber_92 ni_m1 ?_
          exact hR _ (Option.some.inj h) _ _ dX6_readNumber_93
        refine G.icmp_lt (tgt := 86) C dX6_readNumber_77 (by decide) h (fun h => ?_) (fun h => ?_)
        · exact G.lvs [0] rfl (hJ86 _ h)
        · refine G.iload C dX6_readNumber_80 5 rfl ?_
          refine G.iload_n C dX6_readNumber_82 2 rfl ?_
          refine G.icmp_le (tgt := 94) C dX6_readNumber_83 (by decide) h (fun h => ?_) (fun h => ?_)
          · refine G.aload_n C dX6_readNumber_94 0 rfl ?_
            refine G.dup C dX6_readNumber_95 rfl ?_
            refine gfX6_23 (i := 0) (j := 0) (v := .int (vT 0 2)) C rfl rfl rfl dX6_readNumber_96 ?_
            refine G.iload C dX6_readNumber_99 4 rfl ?_
            refine G.iadd C dX6_readNumber_101 ?_
            refine pfX6_23 (i := 0) (j := 0) (cs' := [wTape t ad (up2 vT 0 2 ((vT 0 2) + x4_55))]) C rfl rfl (Nat.le_of_ble_eq_true rfl) dX6_readNumber_102 (suTape_2) rfl ?_
            refine G.aload_n C dX6_readNumber_105 0 rfl ?_
            obtain ⟨q106, hq106, h⟩ := bind_some' h
            refine G.cvI (i0 := 0) (j0 := 0) (cs' := [wTape t ad (up2 vT 0 2 ((vT 0 2) + x4_55))]) C (c_X6_here (ad := ad) hq106) [0] rfl rfl rfl rfl rfl rfl rfl k_456 cal_X6_here (fit_rm (by decide) (by decide)) rfl (Nat.le_of_ble_eq_true rfl) dX6_readNumber_106 ?_
            refine G.iload_n C dX6_readNumber_109 3 rfl ?_
            refine G.icmp_eq (tgt := 121) C dX6_readNumber_110 (by decide) h (fun h => ?_) (fun h => ?_)
            · refine G.aload_n C dX6_readNumber_121 0 rfl ?_
              refine G.dup C dX6_readNumber_122 rfl ?_
              refine gfX6_23 (i := 0) (j := 0) (v := .int ((vT 0 2) + x4_55)) C rfl rfl rfl dX6_readNumber_123 ?_
              refine G.iconst C dX6_readNumber_126 ni_1 ?_
              refine G.iadd C dX6_readNumber_127 ?_
              refine pfX6_23 (i := 0) (j := 0) (cs' := [wTape t ad (up2 (up2 vT 0 2 ((vT 0 2) + x4_55)) 0 2 (((vT 0 2) + x4_55) + (1 : Int32)))]) C rfl rfl (Nat.le_of_ble_eq_true rfl) dX6_readNumber_128 (suTape_2) rfl ?_
              refine G.iload C dX6_readNumber_131 5 rfl ?_
              exact hR _ (Option.some.inj h) _ _ dX6_readNumber_133
            · refine G.aload_n C dX6_readNumber_113 0 rfl ?_
              refine G.iconst C dX6_readNumber_114 ni_1 ?_
              obtain ⟨q115, hq115, h⟩ := bind_some' h
              refine G.cvI (i0 := 0) (j0 := 0) (cs' := [wTape t ad (q115.2)]) C (c_X6_flawed (ad := ad) hq115) [0] rfl rfl rfl rfl rfl rfl rfl k_460 cal_X6_flawed (fit_rm (by decide) (by decide)) rfl (Nat.le_of_ble_eq_true rfl) dX6_readNumber_115 ?_
              refine G.pop C dX6_readNumber_118 rfl ?_
              refine G.iconst C dX6_readNumber_119 ni_m1 ?_
              exact hR _ (Option.some.inj h) _ _ dX6_readNumber_120
          · exact G.lvs [0] rfl (hJ86 _ h)
      · exact G.lvs [0] rfl (hJ66 _ h)
set_option maxHeartbeats 2000000 in
set_option maxRecDepth 20000 in
theorem c_X6_readLaw {t : Nat → ClassId} {ad : Nat → Nat → Nat} {N : Nat} {vT : SV} {vD : SV} {r : Int32 × SV × SV} (h : F_X6_readLaw N vT vD = some r) : CI t yX6_readLaw cX6_readLaw 2 (some .boolean) (rm 3) [.ref (ad 2 0), .ref (ad 4 0)] [wTape t ad vT, wStage t (ad 4) vD] (r.1) [wTape t ad (r.2.1), wStage t (ad 4) (r.2.2)] := by
  refine CZ.of (own := RX6) (by decide) rfl (Nat.le_of_ble_eq_true rfl) (fun X C hR0 => ?_)
  have hR : ∀ q : Int32 × SV × SV, q = r → RetZ X cX6_readLaw (q.1) [wTape t ad (q.2.1), wStage t (ad 4) (q.2.2)] := by intro q e; subst e; exact hR0
  show G X [wTape t ad vT, wStage t (ad 4) vD] 0 [(0, .ref (ad 2 0)), (1, .ref (ad 4 0))] []
  unfold F_X6_readLaw at h
  refine G.aload_n C dX6_readLaw_0 0 rfl ?_
  obtain ⟨q1, hq1, h⟩ := bind_some' h
  refine G.cvI (i0 := 0) (j0 := 0) (cs' := [wTape t ad vT, wStage t (ad 4) vD]) C (c_X6_here (ad := ad) hq1) [0] rfl rfl rfl rfl rfl rfl rfl k_456 cal_X6_here (fit_rm (by decide) (by decide)) rfl (Nat.le_of_ble_eq_true rfl) dX6_readLaw_1 ?_
  refine G.bipush C dX6_readLaw_4 nb_114 ?_
  refine G.icmp_eq (tgt := 15) C dX6_readLaw_6 (by decide) h (fun h => ?_) (fun h => ?_)
  · refine G.aload_n C dX6_readLaw_15 0 rfl ?_
    refine G.dup C dX6_readLaw_16 rfl ?_
    refine gfX6_23 (i := 0) (j := 0) (v := .int (vT 0 2)) C rfl rfl rfl dX6_readLaw_17 ?_
    refine G.iconst C dX6_readLaw_20 ni_1 ?_
    refine G.iadd C dX6_readLaw_21 ?_
    refine pfX6_23 (i := 0) (j := 0) (cs' := [wTape t ad (up2 vT 0 2 ((vT 0 2) + (1 : Int32))), wStage t (ad 4) vD]) C rfl rfl (Nat.le_of_ble_eq_true rfl) dX6_readLaw_22 (suTape_2) rfl ?_
    refine G.aload_n C dX6_readLaw_25 1 rfl ?_
    refine G.aload_n C dX6_readLaw_26 0 rfl ?_
    refine G.iconst C dX6_readLaw_27 ni_0 ?_
    refine G.bipush C dX6_readLaw_28 nb_60 ?_
    refine G.bipush C dX6_readLaw_30 nb_44 ?_
    obtain ⟨q32, hq32, h⟩ := bind_some' h
    refine G.cvI (i0 := 0) (j0 := 0) (cs' := [wTape t ad (q32.2), wStage t (ad 4) vD]) C (c_X6_readNumber (ad := ad) hq32) [0] rfl rfl rfl rfl rfl rfl rfl k_464 cal_X6_readNumber (fit_rm (by decide) (by decide)) rfl (Nat.le_of_ble_eq_true rfl) dX6_readLaw_32 ?_
    refine pfX6_53 (i := 1) (j := 0) (cs' := [wTape t ad (q32.2), wStage t (ad 4) (up2 vD 0 0 (q32.1))]) C rfl rfl (Nat.le_of_ble_eq_true rfl) dX6_readLaw_35 (suStage_0) rfl ?_
    refine G.aload_n C dX6_readLaw_38 1 rfl ?_
    refine gfX6_53 (i := 1) (j := 0) (v := .int (q32.1)) C rfl rfl rfl dX6_readLaw_39 ?_
    refine G.iconst C dX6_readLaw_42 ni_m1 ?_
    refine G.icmp_ne (tgt := 48) C dX6_readLaw_43 (by decide) h (fun h => ?_) (fun h => ?_)
    · refine G.aload_n C dX6_readLaw_48 1 rfl ?_
      refine G.aload_n C dX6_readLaw_49 0 rfl ?_
      refine G.iconst C dX6_readLaw_50 ni_0 ?_
      refine G.bipush C dX6_readLaw_51 nb_9 ?_
      refine G.bipush C dX6_readLaw_53 nb_59 ?_
      obtain ⟨q55, hq55, h⟩ := bind_some' h
      refine G.cvI (i0 := 0) (j0 := 0) (cs' := [wTape t ad (q55.2), wStage t (ad 4) (up2 vD 0 0 (q32.1))]) C (c_X6_readNumber (ad := ad) hq55) [0] rfl rfl rfl rfl rfl rfl rfl k_464 cal_X6_readNumber (fit_rm (by decide) (by decide)) rfl (Nat.le_of_ble_eq_true rfl) dX6_readLaw_55 ?_
      refine pfX6_56 (i := 1) (j := 0) (cs' := [wTape t ad (q55.2), wStage t (ad 4) (up2 (up2 vD 0 0 (q32.1)) 0 1 (q55.1))]) C rfl rfl (Nat.le_of_ble_eq_true rfl) dX6_readLaw_58 (suStage_1) rfl ?_
      refine G.aload_n C dX6_readLaw_61 1 rfl ?_
      refine gfX6_56 (i := 1) (j := 0) (v := .int (q55.1)) C rfl rfl rfl dX6_readLaw_62 ?_
      refine G.iconst C dX6_readLaw_65 ni_m1 ?_
      refine G.icmp_eq (tgt := 73) C dX6_readLaw_66 (by decide) h (fun h => ?_) (fun h => ?_)
      · refine G.iconst C dX6_readLaw_73 ni_0 ?_
        exact hR _ (Option.some.inj h) (Or.inl rfl) _ _ dX6_readLaw_74
      · refine G.iconst C dX6_readLaw_69 ni_1 ?_
        refine G.goto (tgt := 74) C dX6_readLaw_70 (by decide) ?_
        exact hR _ (Option.some.inj h) (Or.inr rfl) _ _ dX6_readLaw_74
    · refine G.iconst C dX6_readLaw_46 ni_0 ?_
      exact hR _ (Option.some.inj h) (Or.inl rfl) _ _ dX6_readLaw_47
  · refine G.aload_n C dX6_readLaw_9 0 rfl ?_
    refine G.iconst C dX6_readLaw_10 ni_1 ?_
    obtain ⟨q11, hq11, h⟩ := bind_some' h
    refine G.cvI (i0 := 0) (j0 := 0) (cs' := [wTape t ad (q11.2), wStage t (ad 4) vD]) C (c_X6_flawed (ad := ad) hq11) [0] rfl rfl rfl rfl rfl rfl rfl k_460 cal_X6_flawed (fit_rm (by decide) (by decide)) rfl (Nat.le_of_ble_eq_true rfl) dX6_readLaw_11 ?_
    exact hR _ (Option.some.inj (zr_some h).2) (zr_some h).1 _ _ dX6_readLaw_14
set_option maxHeartbeats 2000000 in
set_option maxRecDepth 20000 in
theorem c_X6_sortHere {t : Nat → ClassId} {ad : Nat → Nat → Nat} {N : Nat} {vT : SV} {r : Int32} (h : F_X6_sortHere N vT = some r) : CI t yX6_sortHere cX6_sortHere 1 (some .int) (rm 5) [.ref (ad 2 0)] [wTape t ad vT] r [wTape t ad vT] := by
  refine CI.of (own := RX6) (by decide) rfl (Nat.le_of_ble_eq_true rfl) (fun X C hR0 => ?_)
  have hR : ∀ q : Int32, q = r → RetI X cX6_sortHere q [wTape t ad vT] := by intro q e; subst e; exact hR0
  show G X [wTape t ad vT] 0 [(0, .ref (ad 2 0))] []
  unfold F_X6_sortHere at h
  refine G.aload_n C dX6_sortHere_0 0 rfl ?_
  refine gfX6_23 (i := 0) (j := 0) (v := .int (vT 0 2)) C rfl rfl rfl dX6_sortHere_1 ?_
  refine G.aload_n C dX6_sortHere_4 0 rfl ?_
  refine gfX6_13 (i := 0) (j := 0) (v := .int (vT 0 1)) C rfl rfl rfl dX6_sortHere_5 ?_
  refine G.icmp_ge (tgt := 29) C dX6_sortHere_8 (by decide) h (fun h => ?_) (fun h => ?_)
  · refine G.iconst C dX6_sortHere_29 ni_m1 ?_
    exact hR _ (Option.some.inj h) _ _ dX6_sortHere_30
  · refine G.ldcS C dX6_sortHere_11 ?_
    refine G.aload_n C dX6_sortHere_13 0 rfl ?_
    refine gfX6_9 (i := 0) (j := 0) (v := .ref (ad 2 1)) C rfl rfl rfl dX6_sortHere_14 ?_
    refine G.aload_n C dX6_sortHere_17 0 rfl ?_
    refine gfX6_23 (i := 0) (j := 0) (v := .int (vT 0 2)) C rfl rfl rfl dX6_sortHere_18 ?_
    refine G.iald (i := 0) (j := 1) (f := (vT 1)) C rfl rfl h dX6_sortHere_21 (fun h => ?_)
    refine G.i2c C dX6_sortHere_22 ?_
    obtain ⟨q23, hq23, h⟩ := bind_some' h
    refine G.cvT C (c_J0_indexOf_0f7a4 hq23) rfl k_481 cal_J0_indexOf_0f7a4 (fit_rm (by decide) (by decide)) rfl (Nat.le_of_ble_eq_true rfl) dX6_sortHere_23 ?_
    refine G.goto (tgt := 30) C dX6_sortHere_26 (by decide) ?_
    exact hR _ (Option.some.inj h) _ _ dX6_sortHere_30
set_option maxHeartbeats 2000000 in
set_option maxRecDepth 20000 in
theorem c_X6_readThing {t : Nat → ClassId} {ad : Nat → Nat → Nat} {N : Nat} {vT : SV} {vD : SV} {r : Int32 × SV × SV} (h : F_X6_readThing N vT vD = some r) : CI t yX6_readThing cX6_readThing 6 (some .boolean) (rm 6) [.ref (ad 2 0), .ref (ad 4 0)] [wTape t ad vT, wStage t (ad 4) vD] (r.1) [wTape t ad (r.2.1), wStage t (ad 4) (r.2.2)] := by
  refine CZ.of (own := RX6) (by decide) rfl (Nat.le_of_ble_eq_true rfl) (fun X C hR0 => ?_)
  have hR : ∀ q : Int32 × SV × SV, q = r → RetZ X cX6_readThing (q.1) [wTape t ad (q.2.1), wStage t (ad 4) (q.2.2)] := by intro q e; subst e; exact hR0
  show G X [wTape t ad vT, wStage t (ad 4) vD] 0 [(0, .ref (ad 2 0)), (1, .ref (ad 4 0))] []
  unfold F_X6_readThing at h
  refine G.aload_n C dX6_readThing_0 0 rfl ?_
  obtain ⟨q1, hq1, h⟩ := bind_some' h
  refine G.cvI (i0 := 0) (j0 := 0) (cs' := [wTape t ad vT, wStage t (ad 4) vD]) C (c_X6_sortHere (ad := ad) hq1) [0] rfl rfl rfl rfl rfl rfl rfl k_476 cal_X6_sortHere (fit_rm (by decide) (by decide)) rfl (Nat.le_of_ble_eq_true rfl) dX6_readThing_1 ?_
  refine G.istore_n (lv' := [(2, .int q1), (0, .ref (ad 2 0)), (1, .ref (ad 4 0))]) C dX6_readThing_4 (by decide) rfl ?_
  refine G.iload_n C dX6_readThing_5 0 rfl ?_
  refine jn_use (fun J => ∀ (u_16 : Unit), J u_16 = some r → G X [wTape t ad vT, wStage t (ad 4) vD] 16 [(0, .ref (ad 2 0))] []) h ?_ (fun J16 hJ16 h => ?_)
  · intro u_16 h
    refine G.aload_n C dX6_readThing_16 0 rfl ?_
    refine G.iconst C dX6_readThing_17 ni_1 ?_
    obtain ⟨q18, hq18, h⟩ := bind_some' h
    refine G.cvI (i0 := 0) (j0 := 0) (cs' := [wTape t ad (q18.2), wStage t (ad 4) vD]) C (c_X6_flawed (ad := ad) hq18) [0] rfl rfl rfl rfl rfl rfl rfl k_460 cal_X6_flawed (fit_rm (by decide) (by decide)) rfl (Nat.le_of_ble_eq_true rfl) dX6_readThing_18 ?_
    exact hR _ (Option.some.inj (zr_some h).2) (zr_some h).1 _ _ dX6_readThing_21
  refine G.if_lt (tgt := 16) C dX6_readThing_6 (by decide) h (fun h => ?_) (fun h => ?_)
  · exact G.lvs [1] rfl (hJ16 _ h)
  · refine G.aload_n C dX6_readThing_9 2 rfl ?_
    refine gfX6_62 (i := 1) (j := 0) (v := .int (vD 0 3)) C rfl rfl rfl dX6_readThing_10 ?_
    refine G.if_le (tgt := 22) C dX6_readThing_13 (by decide) h (fun h => ?_) (fun h => ?_)
    · refine G.aload_n C dX6_readThing_22 2 rfl ?_
      refine gfX6_65 (i := 1) (j := 0) (v := .int (vD 0 2)) C rfl rfl rfl dX6_readThing_23 ?_
      refine G.bipush C dX6_readThing_26 nb_6 ?_
      refine G.icmp_lt (tgt := 37) C dX6_readThing_28 (by decide) h (fun h => ?_) (fun h => ?_)
      · refine G.aload_n C dX6_readThing_37 1 rfl ?_
        refine G.dup C dX6_readThing_38 rfl ?_
        refine gfX6_23 (i := 0) (j := 0) (v := .int (vT 0 2)) C rfl rfl rfl dX6_readThing_39 ?_
        refine G.iconst C dX6_readThing_42 ni_1 ?_
        refine G.iadd C dX6_readThing_43 ?_
        refine pfX6_23 (i := 0) (j := 0) (cs' := [wTape t ad (up2 vT 0 2 ((vT 0 2) + (1 : Int32))), wStage t (ad 4) vD]) C rfl rfl (Nat.le_of_ble_eq_true rfl) dX6_readThing_44 (suTape_2) rfl ?_
        refine G.aload_n C dX6_readThing_47 1 rfl ?_
        refine G.iconst C dX6_readThing_48 ni_0 ?_
        refine G.bipush C dX6_readThing_49 nb_9 ?_
        refine G.bipush C dX6_readThing_51 nb_44 ?_
        obtain ⟨q53, hq53, h⟩ := bind_some' h
        refine G.cvI (i0 := 0) (j0 := 0) (cs' := [wTape t ad (q53.2), wStage t (ad 4) vD]) C (c_X6_readNumber (ad := ad) hq53) [0] rfl rfl rfl rfl rfl rfl rfl k_464 cal_X6_readNumber (fit_rm (by decide) (by decide)) rfl (Nat.le_of_ble_eq_true rfl) dX6_readThing_53 ?_
        refine G.istore_n (lv' := [(3, .int (q53.1)), (2, .int q1), (0, .ref (ad 2 0)), (1, .ref (ad 4 0))]) C dX6_readThing_56 (by decide) rfl ?_
        refine G.iload_n C dX6_readThing_57 0 rfl ?_
        refine G.iconst C dX6_readThing_58 ni_m1 ?_
        refine jn_use (fun J => ∀ (s75_0 : Int32) (vT_75 : SV), J s75_0 vT_75 = some r → G X [wTape t ad vT_75, wStage t (ad 4) vD] 75 [(0, .ref (ad 2 0)), (1, .ref (ad 4 0)), (2, .int q1), (3, .int (q53.1))] [.int s75_0]) h ?_ (fun J75 hJ75 h => ?_)
        · intro s75_0 vT_75 h
          refine G.istore (lv' := [(4, .int s75_0), (0, .ref (ad 2 0)), (1, .ref (ad 4 0)), (2, .int q1), (3, .int (q53.1))]) C dX6_readThing_75 (by decide) rfl ?_
          refine G.iload C dX6_readThing_77 0 rfl ?_
          refine G.iconst C dX6_readThing_79 ni_m1 ?_
          refine jn_use (fun J => ∀ (s96_0 : Int32) (vT_96 : SV), J s96_0 vT_96 = some r → G X [wTape t ad vT_96, wStage t (ad 4) vD] 96 [(1, .ref (ad 4 0)), (2, .int q1), (3, .int (q53.1)), (4, .int s75_0)] [.int s96_0]) h ?_ (fun J96 hJ96 h => ?_)
          · intro s96_0 vT_96 h
            refine G.istore (lv' := [(5, .int s96_0), (1, .ref (ad 4 0)), (2, .int q1), (3, .int (q53.1)), (4, .int s75_0)]) C dX6_readThing_96 (by decide) rfl ?_
            refine G.iload C dX6_readThing_98 0 rfl ?_
            refine G.iconst C dX6_readThing_100 ni_m1 ?_
            refine G.icmp_ne (tgt := 106) C dX6_readThing_101 (by decide) h (fun h => ?_) (fun h => ?_)
            · refine G.aload_n C dX6_readThing_106 1 rfl ?_
              refine G.iload_n C dX6_readThing_107 2 rfl ?_
              refine G.iconst C dX6_readThing_108 ni_1 ?_
              refine G.iadd C dX6_readThing_109 ?_
              refine G.iload_n C dX6_readThing_110 3 rfl ?_
              refine G.iload C dX6_readThing_111 4 rfl ?_
              refine G.iload C dX6_readThing_113 0 rfl ?_
              obtain ⟨q115, hq115, h⟩ := bind_some' h
              refine G.cvV (i0 := 1) (j0 := 0) (cs' := [wTape t ad vT_96, wStage t (ad 4) q115]) C (c_X5_addThing (a := (ad 4)) hq115) [1] rfl rfl rfl rfl rfl rfl rfl k_567 cal_X5_addThing (fit_rm (by decide) (by decide)) rfl (Nat.le_of_ble_eq_true rfl) dX6_readThing_115 ?_
              refine G.iconst C dX6_readThing_118 ni_1 ?_
              exact hR _ (Option.some.inj h) (Or.inr rfl) _ _ dX6_readThing_119
            · refine G.iconst C dX6_readThing_104 ni_0 ?_
              exact hR _ (Option.some.inj h) (Or.inl rfl) _ _ dX6_readThing_105
          refine G.icmp_ne (tgt := 87) C dX6_readThing_80 (by decide) h (fun h => ?_) (fun h => ?_)
          · refine G.aload_n C dX6_readThing_87 1 rfl ?_
            refine G.iconst C dX6_readThing_88 ni_0 ?_
            refine G.bipush C dX6_readThing_89 nb_9 ?_
            refine G.bipush C dX6_readThing_91 nb_59 ?_
            obtain ⟨q93, hq93, h⟩ := bind_some' h
            refine G.cvI (i0 := 0) (j0 := 0) (cs' := [wTape t ad (q93.2), wStage t (ad 4) vD]) C (c_X6_readNumber (ad := ad) hq93) [0] rfl rfl rfl rfl rfl rfl rfl k_464 cal_X6_readNumber (fit_rm (by decide) (by decide)) rfl (Nat.le_of_ble_eq_true rfl) dX6_readThing_93 ?_
            exact G.lvs [2, 3, 4, 0] rfl (hJ96 _ _ h)
          · refine G.iconst C dX6_readThing_83 ni_m1 ?_
            refine G.goto (tgt := 96) C dX6_readThing_84 (by decide) ?_
            exact G.lvs [2, 3, 4, 0] rfl (hJ96 _ _ h)
        refine G.icmp_ne (tgt := 66) C dX6_readThing_59 (by decide) h (fun h => ?_) (fun h => ?_)
        · refine G.aload_n C dX6_readThing_66 2 rfl ?_
          refine G.iconst C dX6_readThing_67 ni_1 ?_
          refine G.bipush C dX6_readThing_68 nb_20 ?_
          refine G.bipush C dX6_readThing_70 nb_44 ?_
          obtain ⟨q72, hq72, h⟩ := bind_some' h
          refine G.cvI (i0 := 0) (j0 := 0) (cs' := [wTape t ad (q72.2), wStage t (ad 4) vD]) C (c_X6_readNumber (ad := ad) hq72) [0] rfl rfl rfl rfl rfl rfl rfl k_464 cal_X6_readNumber (fit_rm (by decide) (by decide)) rfl (Nat.le_of_ble_eq_true rfl) dX6_readThing_72 ?_
          exact G.lvs [2, 3, 1, 0] rfl (hJ75 _ _ h)
        · refine G.iconst C dX6_readThing_62 ni_m1 ?_
          refine G.goto (tgt := 75) C dX6_readThing_63 (by decide) ?_
          exact G.lvs [2, 3, 1, 0] rfl (hJ75 _ _ h)
      · refine G.aload_n C dX6_readThing_31 1 rfl ?_
        refine G.iconst C dX6_readThing_32 ni_3 ?_
        obtain ⟨q33, hq33, h⟩ := bind_some' h
        refine G.cvI (i0 := 0) (j0 := 0) (cs' := [wTape t ad (q33.2), wStage t (ad 4) vD]) C (c_X6_flawed (ad := ad) hq33) [0] rfl rfl rfl rfl rfl rfl rfl k_460 cal_X6_flawed (fit_rm (by decide) (by decide)) rfl (Nat.le_of_ble_eq_true rfl) dX6_readThing_33 ?_
        exact hR _ (Option.some.inj (zr_some h).2) (zr_some h).1 _ _ dX6_readThing_36
    · exact G.lvs [1] rfl (hJ16 _ h)
set_option maxHeartbeats 2000000 in
set_option maxRecDepth 20000 in
theorem c_X6_readSeat {t : Nat → ClassId} {ad : Nat → Nat → Nat} {N : Nat} {vT : SV} {vD : SV} {r : Int32 × SV × SV} (h : F_X6_readSeat N vT vD = some r) : CI t yX6_readSeat cX6_readSeat 4 (some .boolean) (rm 3) [.ref (ad 2 0), .ref (ad 4 0)] [wTape t ad vT, wStage t (ad 4) vD] (r.1) [wTape t ad (r.2.1), wStage t (ad 4) (r.2.2)] := by
  refine CZ.of (own := RX6) (by decide) rfl (Nat.le_of_ble_eq_true rfl) (fun X C hR0 => ?_)
  have hR : ∀ q : Int32 × SV × SV, q = r → RetZ X cX6_readSeat (q.1) [wTape t ad (q.2.1), wStage t (ad 4) (q.2.2)] := by intro q e; subst e; exact hR0
  show G X [wTape t ad vT, wStage t (ad 4) vD] 0 [(0, .ref (ad 2 0)), (1, .ref (ad 4 0))] []
  unfold F_X6_readSeat at h
  refine G.aload_n C dX6_readSeat_0 1 rfl ?_
  refine gfX6_62 (i := 1) (j := 0) (v := .int (vD 0 3)) C rfl rfl rfl dX6_readSeat_1 ?_
  refine G.bipush C dX6_readSeat_4 nb_6 ?_
  refine G.icmp_lt (tgt := 15) C dX6_readSeat_6 (by decide) h (fun h => ?_) (fun h => ?_)
  · refine G.aload_n C dX6_readSeat_15 0 rfl ?_
    refine G.dup C dX6_readSeat_16 rfl ?_
    refine gfX6_23 (i := 0) (j := 0) (v := .int (vT 0 2)) C rfl rfl rfl dX6_readSeat_17 ?_
    refine G.iconst C dX6_readSeat_20 ni_1 ?_
    refine G.iadd C dX6_readSeat_21 ?_
    refine pfX6_23 (i := 0) (j := 0) (cs' := [wTape t ad (up2 vT 0 2 ((vT 0 2) + (1 : Int32))), wStage t (ad 4) vD]) C rfl rfl (Nat.le_of_ble_eq_true rfl) dX6_readSeat_22 (suTape_2) rfl ?_
    refine G.aload_n C dX6_readSeat_25 0 rfl ?_
    refine G.iconst C dX6_readSeat_26 ni_0 ?_
    refine G.bipush C dX6_readSeat_27 nb_9 ?_
    refine G.bipush C dX6_readSeat_29 nb_44 ?_
    obtain ⟨q31, hq31, h⟩ := bind_some' h
    refine G.cvI (i0 := 0) (j0 := 0) (cs' := [wTape t ad (q31.2), wStage t (ad 4) vD]) C (c_X6_readNumber (ad := ad) hq31) [0] rfl rfl rfl rfl rfl rfl rfl k_464 cal_X6_readNumber (fit_rm (by decide) (by decide)) rfl (Nat.le_of_ble_eq_true rfl) dX6_readSeat_31 ?_
    refine G.istore_n (lv' := [(2, .int (q31.1)), (0, .ref (ad 2 0)), (1, .ref (ad 4 0))]) C dX6_readSeat_34 (by decide) rfl ?_
    refine G.iload_n C dX6_readSeat_35 0 rfl ?_
    refine G.iconst C dX6_readSeat_36 ni_m1 ?_
    refine jn_use (fun J => ∀ (s53_0 : Int32) (vT_53 : SV), J s53_0 vT_53 = some r → G X [wTape t ad vT_53, wStage t (ad 4) vD] 53 [(1, .ref (ad 4 0)), (2, .int (q31.1))] [.int s53_0]) h ?_ (fun J53 hJ53 h => ?_)
    · intro s53_0 vT_53 h
      refine G.istore_n (lv' := [(3, .int s53_0), (1, .ref (ad 4 0)), (2, .int (q31.1))]) C dX6_readSeat_53 (by decide) rfl ?_
      refine G.iload_n C dX6_readSeat_54 0 rfl ?_
      refine G.iconst C dX6_readSeat_55 ni_m1 ?_
      refine G.icmp_ne (tgt := 61) C dX6_readSeat_56 (by decide) h (fun h => ?_) (fun h => ?_)
      · refine G.aload_n C dX6_readSeat_61 1 rfl ?_
        refine G.iload_n C dX6_readSeat_62 2 rfl ?_
        refine G.iload_n C dX6_readSeat_63 0 rfl ?_
        obtain ⟨q64, hq64, h⟩ := bind_some' h
        refine G.cvV (i0 := 1) (j0 := 0) (cs' := [wTape t ad vT_53, wStage t (ad 4) q64]) C (c_X5_addSeat (a := (ad 4)) hq64) [1] rfl rfl rfl rfl rfl rfl rfl k_579 cal_X5_addSeat (fit_rm (by decide) (by decide)) rfl (Nat.le_of_ble_eq_true rfl) dX6_readSeat_64 ?_
        refine G.iconst C dX6_readSeat_67 ni_1 ?_
        exact hR _ (Option.some.inj h) (Or.inr rfl) _ _ dX6_readSeat_68
      · refine G.iconst C dX6_readSeat_59 ni_0 ?_
        exact hR _ (Option.some.inj h) (Or.inl rfl) _ _ dX6_readSeat_60
    refine G.icmp_ne (tgt := 44) C dX6_readSeat_37 (by decide) h (fun h => ?_) (fun h => ?_)
    · refine G.aload_n C dX6_readSeat_44 1 rfl ?_
      refine G.iconst C dX6_readSeat_45 ni_1 ?_
      refine G.bipush C dX6_readSeat_46 nb_20 ?_
      refine G.bipush C dX6_readSeat_48 nb_59 ?_
      obtain ⟨q50, hq50, h⟩ := bind_some' h
      refine G.cvI (i0 := 0) (j0 := 0) (cs' := [wTape t ad (q50.2), wStage t (ad 4) vD]) C (c_X6_readNumber (ad := ad) hq50) [0] rfl rfl rfl rfl rfl rfl rfl k_464 cal_X6_readNumber (fit_rm (by decide) (by decide)) rfl (Nat.le_of_ble_eq_true rfl) dX6_readSeat_50 ?_
      exact G.lvs [2, 0] rfl (hJ53 _ _ h)
    · refine G.iconst C dX6_readSeat_40 ni_m1 ?_
      refine G.goto (tgt := 53) C dX6_readSeat_41 (by decide) ?_
      exact G.lvs [2, 0] rfl (hJ53 _ _ h)
  · refine G.aload_n C dX6_readSeat_9 0 rfl ?_
    refine G.iconst C dX6_readSeat_10 ni_3 ?_
    obtain ⟨q11, hq11, h⟩ := bind_some' h
    refine G.cvI (i0 := 0) (j0 := 0) (cs' := [wTape t ad (q11.2), wStage t (ad 4) vD]) C (c_X6_flawed (ad := ad) hq11) [0] rfl rfl rfl rfl rfl rfl rfl k_460 cal_X6_flawed (fit_rm (by decide) (by decide)) rfl (Nat.le_of_ble_eq_true rfl) dX6_readSeat_11 ?_
    exact hR _ (Option.some.inj (zr_some h).2) (zr_some h).1 _ _ dX6_readSeat_14
set_option maxHeartbeats 2000000 in
set_option maxRecDepth 20000 in
theorem w_X6_readInto_L29 {X : Cx} {t : Nat → ClassId} {ad : Nat → Nat → Nat} {N : Nat} {r : Int32 × SV × SV} (C : gX X t (rm 7) cX6_readInto 4 RX6) (hR : ∀ q : Int32 × SV × SV, q = r → RetZ X cX6_readInto (q.1) [wTape t ad (q.2.1), wStage t (ad 4) (q.2.2)]) : ∀ (n : Nat) (x2 : Int32) (vT : SV) (vD : SV), F_X6_readInto_L29 N  n x2 vT vD = some r → G X [wTape t ad vT, wStage t (ad 4) vD] 29 [(0, .ref (ad 2 0)), (1, .ref (ad 4 0)), (2, .int x2)] [] := by
  intro n
  induction n with
  | zero => intro x2 vT vD h; exact absurd h (by simp [F_X6_readInto_L29])
  | succ n ih =>
    intro x2 vT vD h
    rw [F_X6_readInto_L29] at h
    refine G.iload_n C dX6_readInto_29 2 rfl ?_
    refine G.bipush C dX6_readInto_30 nb_120 ?_
    refine G.icmp_ge (tgt := 81) C dX6_readInto_32 (by decide) h (fun h => ?_) (fun h => ?_)
    · refine G.iconst C dX6_readInto_81 ni_1 ?_
      exact hR _ (Option.some.inj h) (Or.inr rfl) _ _ dX6_readInto_82
    · refine G.aload_n C dX6_readInto_35 0 rfl ?_
      refine gfX6_23 (i := 0) (j := 0) (v := .int (vT 0 2)) C rfl rfl rfl dX6_readInto_36 ?_
      refine G.aload_n C dX6_readInto_39 0 rfl ?_
      refine gfX6_13 (i := 0) (j := 0) (v := .int (vT 0 1)) C rfl rfl rfl dX6_readInto_40 ?_
      refine G.icmp_ge (tgt := 81) C dX6_readInto_43 (by decide) h (fun h => ?_) (fun h => ?_)
      · refine G.iconst C dX6_readInto_81 ni_1 ?_
        exact hR _ (Option.some.inj h) (Or.inr rfl) _ _ dX6_readInto_82
      · refine G.aload_n C dX6_readInto_46 0 rfl ?_
        obtain ⟨q47, hq47, h⟩ := bind_some' h
        refine G.cvI (i0 := 0) (j0 := 0) (cs' := [wTape t ad vT, wStage t (ad 4) vD]) C (c_X6_here (ad := ad) hq47) [0] rfl rfl rfl rfl rfl rfl rfl k_456 cal_X6_here (fit_rm (by decide) (by decide)) rfl (Nat.le_of_ble_eq_true rfl) dX6_readInto_47 ?_
        refine G.bipush C dX6_readInto_50 nb_122 ?_
        refine jn_use (fun J => ∀ (s68_0 : Int32) (vT_68 : SV) (vD_68 : SV), J s68_0 vT_68 vD_68 = some r → G X [wTape t ad vT_68, wStage t (ad 4) vD_68] 68 [(0, .ref (ad 2 0)), (1, .ref (ad 4 0)), (2, .int x2)] [.int s68_0]) h ?_ (fun J68 hJ68 h => ?_)
        · intro s68_0 vT_68 vD_68 h
          refine G.istore_n (lv' := [(3, .int s68_0), (0, .ref (ad 2 0)), (1, .ref (ad 4 0)), (2, .int x2)]) C dX6_readInto_68 (by decide) rfl ?_
          refine G.iload_n C dX6_readInto_69 0 rfl ?_
          refine G.if_ne (tgt := 75) C dX6_readInto_70 (by decide) h (fun h => ?_) (fun h => ?_)
          · refine G.iinc (v := (x2 + (1 : Int32))) (lv' := [(2, .int (x2 + (1 : Int32))), (3, .int s68_0), (0, .ref (ad 2 0)), (1, .ref (ad 4 0))]) C dX6_readInto_75 3 rfl (by rw [ni_1]) (by decide) rfl ?_
            refine G.goto (tgt := 29) C dX6_readInto_78 (by decide) ?_
            exact G.lvs [2, 3, 0] rfl (ih _ _ _ h)
          · refine G.iconst C dX6_readInto_73 ni_0 ?_
            exact hR _ (Option.some.inj h) (Or.inl rfl) _ _ dX6_readInto_74
        refine G.icmp_ne (tgt := 63) C dX6_readInto_52 (by decide) h (fun h => ?_) (fun h => ?_)
        · refine G.aload_n C dX6_readInto_63 0 rfl ?_
          refine G.aload_n C dX6_readInto_64 1 rfl ?_
          obtain ⟨q65, hq65, h⟩ := bind_some' h
          refine G.cvI (i0 := 0) (j0 := 0) (cs' := [wTape t ad (q65.2.1), wStage t (ad 4) (q65.2.2)]) C (c_X6_readThing (ad := ad) hq65) [0, 1] rfl rfl rfl rfl rfl rfl rfl k_472 cal_X6_readThing (fit_rm (by decide) (by decide)) rfl (Nat.le_of_ble_eq_true rfl) dX6_readInto_65 ?_
          exact G.lvs [0, 1, 2] rfl (hJ68 _ _ _ h)
        · refine G.aload_n C dX6_readInto_55 0 rfl ?_
          refine G.aload_n C dX6_readInto_56 1 rfl ?_
          obtain ⟨q57, hq57, h⟩ := bind_some' h
          refine G.cvI (i0 := 0) (j0 := 0) (cs' := [wTape t ad (q57.2.1), wStage t (ad 4) (q57.2.2)]) C (c_X6_readSeat (ad := ad) hq57) [0, 1] rfl rfl rfl rfl rfl rfl rfl k_575 cal_X6_readSeat (fit_rm (by decide) (by decide)) rfl (Nat.le_of_ble_eq_true rfl) dX6_readInto_57 ?_
          refine G.goto (tgt := 68) C dX6_readInto_60 (by decide) ?_
          exact G.lvs [0, 1, 2] rfl (hJ68 _ _ _ h)
set_option maxHeartbeats 2000000 in
set_option maxRecDepth 20000 in
theorem c_X6_readInto {t : Nat → ClassId} {ad : Nat → Nat → Nat} {N : Nat} {vT : SV} {vD : SV} {r : Int32 × SV × SV} (h : F_X6_readInto N vT vD = some r) : CI t yX6_readInto cX6_readInto 4 (some .boolean) (rm 7) [.ref (ad 2 0), .ref (ad 4 0)] [wTape t ad vT, wStage t (ad 4) vD] (r.1) [wTape t ad (r.2.1), wStage t (ad 4) (r.2.2)] := by
  refine CZ.of (own := RX6) (by decide) rfl (Nat.le_of_ble_eq_true rfl) (fun X C hR0 => ?_)
  have hR : ∀ q : Int32 × SV × SV, q = r → RetZ X cX6_readInto (q.1) [wTape t ad (q.2.1), wStage t (ad 4) (q.2.2)] := by intro q e; subst e; exact hR0
  show G X [wTape t ad vT, wStage t (ad 4) vD] 0 [(0, .ref (ad 2 0)), (1, .ref (ad 4 0))] []
  unfold F_X6_readInto at h
  refine G.aload_n C dX6_readInto_0 0 rfl ?_
  refine G.iconst C dX6_readInto_1 ni_0 ?_
  refine pfX6_23 (i := 0) (j := 0) (cs' := [wTape t ad (up2 vT 0 2 (0 : Int32)), wStage t (ad 4) vD]) C rfl rfl (Nat.le_of_ble_eq_true rfl) dX6_readInto_2 (suTape_2) rfl ?_
  refine G.aload_n C dX6_readInto_5 1 rfl ?_
  obtain ⟨q6, hq6, h⟩ := bind_some' h
  refine G.cvV (i0 := 1) (j0 := 0) (cs' := [wTape t ad (up2 vT 0 2 (0 : Int32)), wStage t (ad 4) q6]) C (c_X5_wipe (a := (ad 4)) hq6) [1] rfl rfl rfl rfl rfl rfl rfl k_448 cal_X5_wipe (fit_rm (by decide) (by decide)) rfl (Nat.le_of_ble_eq_true rfl) dX6_readInto_6 ?_
  refine G.aload_n C dX6_readInto_9 0 rfl ?_
  refine G.aload_n C dX6_readInto_10 1 rfl ?_
  obtain ⟨q11, hq11, h⟩ := bind_some' h
  refine G.cvI (i0 := 0) (j0 := 0) (cs' := [wTape t ad (q11.2.1), wStage t (ad 4) (q11.2.2)]) C (c_X6_readLaw (ad := ad) hq11) [0, 1] rfl rfl rfl rfl rfl rfl rfl k_452 cal_X6_readLaw (fit_rm (by decide) (by decide)) rfl (Nat.le_of_ble_eq_true rfl) dX6_readInto_11 ?_
  refine G.if_eq (tgt := 25) C dX6_readInto_14 (by decide) h (fun h => ?_) (fun h => ?_)
  · refine G.iconst C dX6_readInto_25 ni_0 ?_
    exact hR _ (Option.some.inj h) (Or.inl rfl) _ _ dX6_readInto_26
  · refine G.aload_n C dX6_readInto_17 0 rfl ?_
    refine G.aload_n C dX6_readInto_18 1 rfl ?_
    obtain ⟨q19, hq19, h⟩ := bind_some' h
    refine G.cvI (i0 := 0) (j0 := 0) (cs' := [wTape t ad (q19.2.1), wStage t (ad 4) (q19.2.2)]) C (c_X6_readThing (ad := ad) hq19) [0, 1] rfl rfl rfl rfl rfl rfl rfl k_472 cal_X6_readThing (fit_rm (by decide) (by decide)) rfl (Nat.le_of_ble_eq_true rfl) dX6_readInto_19 ?_
    refine G.if_ne (tgt := 27) C dX6_readInto_22 (by decide) h (fun h => ?_) (fun h => ?_)
    · refine G.iconst C dX6_readInto_27 ni_0 ?_
      refine G.istore_n (lv' := [(2, .int (0 : Int32)), (0, .ref (ad 2 0)), (1, .ref (ad 4 0))]) C dX6_readInto_28 (by decide) rfl ?_
      exact G.lvs [1, 2, 0] rfl (w_X6_readInto_L29 C hR N _ _ _ h)
    · refine G.iconst C dX6_readInto_25 ni_0 ?_
      exact hR _ (Option.some.inj h) (Or.inl rfl) _ _ dX6_readInto_26
