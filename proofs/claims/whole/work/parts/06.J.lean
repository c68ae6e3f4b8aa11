def F_J6_bitCount_0f7a4 (N : Nat) (x0 : Int32) : Option (Int32) := some ((((((((x0 - (((x0.toUInt32 >>> ((1 : Int32).toUInt32 &&& Int32.toUInt32 31)).toInt32) &&& (1431655765 : Int32))) &&& (858993459 : Int32)) + ((((x0 - (((x0.toUInt32 >>> ((1 : Int32).toUInt32 &&& Int32.toUInt32 31)).toInt32) &&& (1431655765 : Int32))).toUInt32 >>> ((2 : Int32).toUInt32 &&& Int32.toUInt32 31)).toInt32) &&& (858993459 : Int32))) + (((((x0 - (((x0.toUInt32 >>> ((1 : Int32).toUInt32 &&& Int32.toUInt32 31)).toInt32) &&& (1431655765 : Int32))) &&& (858993459 : Int32)) + ((((x0 - (((x0.toUInt32 >>> ((1 : Int32).toUInt32 &&& Int32.toUInt32 31)).toInt32) &&& (1431655765 : Int32))).toUInt32 >>> ((2 : Int32).toUInt32 &&& Int32.toUInt32 31)).toInt32) &&& (858993459 : Int32))).toUInt32 >>> ((4 : Int32).toUInt32 &&& Int32.toUInt32 31)).toInt32)) &&& (252645135 : Int32)) + (((((((x0 - (((x0.toUInt32 >>> ((1 : Int32).toUInt32 &&& Int32.toUInt32 31)).toInt32) &&& (1431655765 : Int32))) &&& (858993459 : Int32)) + ((((x0 - (((x0.toUInt32 >>> ((1 : Int32).toUInt32 &&& Int32.toUInt32 31)).toInt32) &&& (1431655765 : Int32))).toUInt32 >>> ((2 : Int32).toUInt32 &&& Int32.toUInt32 31)).toInt32) &&& (858993459 : Int32))) + (((((x0 - (((x0.toUInt32 >>> ((1 : Int32).toUInt32 &&& Int32.toUInt32 31)).toInt32) &&& (1431655765 : Int32))) &&& (858993459 : Int32)) + ((((x0 - (((x0.toUInt32 >>> ((1 : Int32).toUInt32 &&& Int32.toUInt32 31)).toInt32) &&& (1431655765 : Int32))).toUInt32 >>> ((2 : Int32).toUInt32 &&& Int32.toUInt32 31)).toInt32) &&& (858993459 : Int32))).toUInt32 >>> ((4 : Int32).toUInt32 &&& Int32.toUInt32 31)).toInt32)) &&& (252645135 : Int32)).toUInt32 >>> ((8 : Int32).toUInt32 &&& Int32.toUInt32 31)).toInt32)) + ((((((((x0 - (((x0.toUInt32 >>> ((1 : Int32).toUInt32 &&& Int32.toUInt32 31)).toInt32) &&& (1431655765 : Int32))) &&& (858993459 : Int32)) + ((((x0 - (((x0.toUInt32 >>> ((1 : Int32).toUInt32 &&& Int32.toUInt32 31)).toInt32) &&& (1431655765 : Int32))).toUInt32 >>> ((2 : Int32).toUInt32 &&& Int32.toUInt32 31)).toInt32) &&& (858993459 : Int32))) + (((((x0 - (((x0.toUInt32 >>> ((1 : Int32).toUInt32 &&& Int32.toUInt32 31)).toInt32) &&& (1431655765 : Int32))) &&& (858993459 : Int32)) + ((((x0 - (((x0.toUInt32 >>> ((1 : Int32).toUInt32 &&& Int32.toUInt32 31)).toInt32) &&& (1431655765 : Int32))).toUInt32 >>> ((2 : Int32).toUInt32 &&& Int32.toUInt32 31)).toInt32) &&& (858993459 : Int32))).toUInt32 >>> ((4 : Int32).toUInt32 &&& Int32.toUInt32 31)).toInt32)) &&& (252645135 : Int32)) + (((((((x0 - (((x0.toUInt32 >>> ((1 : Int32).toUInt32 &&& Int32.toUInt32 31)).toInt32) &&& (1431655765 : Int32))) &&& (858993459 : Int32)) + ((((x0 - (((x0.toUInt32 >>> ((1 : Int32).toUInt32 &&& Int32.toUInt32 31)).toInt32) &&& (1431655765 : Int32))).toUInt32 >>> ((2 : Int32).toUInt32 &&& Int32.toUInt32 31)).toInt32) &&& (858993459 : Int32))) + (((((x0 - (((x0.toUInt32 >>> ((1 : Int32).toUInt32 &&& Int32.toUInt32 31)).toInt32) &&& (1431655765 : Int32))) &&& (858993459 : Int32)) + ((((x0 - (((x0.toUInt32 >>> ((1 : Int32).toUInt32 &&& Int32.toUInt32 31)).toInt32) &&& (1431655765 : Int32))).toUInt32 >>> ((2 : Int32).toUInt32 &&& Int32.toUInt32 31)).toInt32) &&& (858993459 : Int32))).toUInt32 >>> ((4 : Int32).toUInt32 &&& Int32.toUInt32 31)).toInt32)) &&& (252645135 : Int32)).toUInt32 >>> ((8 : Int32).toUInt32 &&& Int32.toUInt32 31)).toInt32)).toUInt32 >>> ((16 : Int32).toUInt32 &&& Int32.toUInt32 31)).toInt32)) &&& (63 : Int32))
def F_J1_canEncode_9a6ad (N : Nat) (x0 : Int32) : Option (Int32) := if x0 < (0 : Int32) then (some (0 : Int32)) else (if (255 : Int32) < x0 then (some (0 : Int32)) else (some (1 : Int32)))
def F_J1_indexOfChar_4cfef_L7 (N : Nat) (x3 : Int32) (x4 : Int32) : Nat → Int32 → Option (Int32)
  | 0, _ => none
  | n + 1, x5 => if x5 < x3 then (chk 5 x5 (if (tSorts (x5.toNatClampNeg)) = x4 then (some x5) else (F_J1_indexOfChar_4cfef_L7 N x3 x4 n (x5 + (1 : Int32))))) else (some (-1 : Int32))
def F_J1_indexOfChar_4cfef (N : Nat) (x1 : Int32) (x2 : Int32) (x3 : Int32) : Option (Int32) := F_J1_indexOfChar_4cfef_L7 N x3 (x1.toInt8.toInt32) N x2
def F_J1_indexOf_4cfef (N : Nat) (x1 : Int32) (x2 : Int32) (x3 : Int32) : Option (Int32) := (F_J1_canEncode_9a6ad N x1).bind (fun q1 => if q1 = (0 : Int32) then (some (-1 : Int32)) else (if (if x2 < (0 : Int32) then (0 : Int32) else x2) < (if (5 : Int32) < x3 then (5 : Int32) else x3) then ((F_J1_indexOfChar_4cfef N x1 (if x2 < (0 : Int32) then (0 : Int32) else x2) (if (5 : Int32) < x3 then (5 : Int32) else x3)).bind (fun q33 => some q33)) else (some (-1 : Int32))))
def F_J0_coder_7d493 (N : Nat)  : Option (Int32) := if (1 : Int32) = (0 : Int32) then (some (1 : Int32)) else (some (0 : Int32))
def F_J0_isLatin1_aae02 (N : Nat)  : Option (Int32) := if (1 : Int32) = (0 : Int32) then (some (0 : Int32)) else (if (0 : Int32) = (0 : Int32) then (some (1 : Int32)) else (some (0 : Int32)))
def F_J0_length_8abf5 (N : Nat)  : Option (Int32) := (F_J0_coder_7d493 N).bind (fun q6 => some ((5 : Int32) >>> (q6 &&& 31)))
def F_J0_indexOf_7cf53 (N : Nat) (x1 : Int32) (x2 : Int32) : Option (Int32) := (F_J0_isLatin1_aae02 N).bind (fun q1 => if q1 = (0 : Int32) then ((F_J0_length_8abf5 N).bind (fun q30 => none)) else ((F_J0_length_8abf5 N).bind (fun q14 => (F_J1_indexOf_4cfef N x1 x2 q14).bind (fun q17 => some q17))))
def F_J0_indexOf_0f7a4 (N : Nat) (x1 : Int32) : Option (Int32) := (F_J0_indexOf_7cf53 N x1 (0 : Int32)).bind (fun q3 => some q3)
set_option maxHeartbeats 2000000 in
set_option maxRecDepth 20000 in
theorem c_J6_bitCount_0f7a4 {t : Nat → ClassId} {N : Nat} {x0 : Int32} {r : Int32} (h : F_J6_bitCount_0f7a4 N x0 = some r) : CI t yJ6_bitCount_0f7a4 cJ6_bitCount_0f7a4 1 (some .int) (rm 1) [.int x0] [] r [] := by
  refine CI.of (own := RJ6) (by decide) rfl (Nat.le_of_ble_eq_true rfl) (fun X C hR0 => ?_)
  have hR : ∀ q : Int32, q = r → RetI X cJ6_bitCount_0f7a4 q [] := by intro q e; subst e; exact hR0
  show G X [] 0 [(0, .int x0)] []
  unfold F_J6_bitCount_0f7a4 at h
  refine G.iload_n C dJ6_bitCount_0f7a4_0 0 rfl ?_
  refine G.iload_n C dJ6_bitCount_0f7a4_1 0 rfl ?_
  refine G.iconst C dJ6_bitCount_0f7a4_2 ni_1 ?_
  refine G.iushr C dJ6_bitCount_0f7a4_3 ?_
  refine G.ldcw C k_831 dJ6_bitCount_0f7a4_4 ?_
  refine G.iand C dJ6_bitCount_0f7a4_7 ?_
  refine G.isub C dJ6_bitCount_0f7a4_8 ?_
  refine G.istore_n (lv' := [(0, .int (x0 - (((x0.toUInt32 >>> ((1 : Int32).toUInt32 &&& Int32.toUInt32 31)).toInt32) &&& (1431655765 : Int32))))]) C dJ6_bitCount_0f7a4_9 (by decide) rfl ?_
  refine G.iload_n C dJ6_bitCount_0f7a4_10 0 rfl ?_
  refine G.ldcw C k_832 dJ6_bitCount_0f7a4_11 ?_
  refine G.iand C dJ6_bitCount_0f7a4_14 ?_
  refine G.iload_n C dJ6_bitCount_0f7a4_15 0 rfl ?_
  refine G.iconst C dJ6_bitCount_0f7a4_16 ni_2 ?_
  refine G.iushr C dJ6_bitCount_0f7a4_17 ?_
  refine G.ldcw C k_832 dJ6_bitCount_0f7a4_18 ?_
  refine G.iand C dJ6_bitCount_0f7a4_21 ?_
  refine G.iadd C dJ6_bitCount_0f7a4_22 ?_
  refine G.istore_n (lv' := [(0, .int (((x0 - (((x0.toUInt32 >>> ((1 : Int32).toUInt32 &&& Int32.toUInt32 31)).toInt32) &&& (1431655765 : Int32))) &&& (858993459 : Int32)) + ((((x0 - (((x0.toUInt32 >>> ((1 : Int32).toUInt32 &&& Int32.toUInt32 31)).toInt32) &&& (1431655765 : Int32))).toUInt32 >>> ((2 : Int32).toUInt32 &&& Int32.toUInt32 31)).toInt32) &&& (858993459 : Int32))))]) C dJ6_bitCount_0f7a4_23 (by decide) rfl ?_
  refine G.iload_n C dJ6_bitCount_0f7a4_24 0 rfl ?_
  refine G.iload_n C dJ6_bitCount_0f7a4_25 0 rfl ?_
  refine G.iconst C dJ6_bitCount_0f7a4_26 ni_4 ?_
  refine G.iushr C dJ6_bitCount_0f7a4_27 ?_
  refine G.iadd C dJ6_bitCount_0f7a4_28 ?_
  refine G.ldcw C k_833 dJ6_bitCount_0f7a4_29 ?_
  refine G.iand C dJ6_bitCount_0f7a4_32 ?_
  refine G.istore_n (lv' := [(0, .int (((((x0 - (((x0.toUInt32 >>> ((1 : Int32).toUInt32 &&& Int32.toUInt32 31)).toInt32) &&& (1431655765 : Int32))) &&& (858993459 : Int32)) + ((((x0 - (((x0.toUInt32 >>> ((1 : Int32).toUInt32 &&& Int32.toUInt32 31)).toInt32) &&& (1431655765 : Int32))).toUInt32 >>> ((2 : Int32).toUInt32 &&& Int32.toUInt32 31)).toInt32) &&& (858993459 : Int32))) + (((((x0 - (((x0.toUInt32 >>> ((1 : Int32).toUInt32 &&& Int32.toUInt32 31)).toInt32) &&& (1431655765 : Int32))) &&& (858993459 : Int32)) + ((((x0 - (((x0.toUInt32 >>> ((1 : Int32).toUInt32 &&& Int32.toUInt32 31)).toInt32) &&& (1431655765 : Int32))).toUInt32 >>> ((2 : Int32).toUInt32 &&& Int32.toUInt32 31)).toInt32) &&& (858993459 : Int32))).toUInt32 >>> ((4 : Int32).toUInt32 &&& Int32.toUInt32 31)).toInt32)) &&& (252645135 : Int32)))]) C dJ6_bitCount_0f7a4_33 (by decide) rfl ?_
  refine G.iload_n C dJ6_bitCount_0f7a4_34 0 rfl ?_
  refine G.iload_n C dJ6_bitCount_0f7a4_35 0 rfl ?_
  refine G.bipush C dJ6_bitCount_0f7a4_36 nb_8 ?_
  refine G.iushr C dJ6_bitCount_0f7a4_38 ?_
  refine G.iadd C dJ6_bitCount_0f7a4_39 ?_
  refine G.istore_n (lv' := [(0, .int ((((((x0 - (((x0.toUInt32 >>> ((1 : Int32).toUInt32 &&& Int32.toUInt32 31)).toInt32) &&& (1431655765 : Int32))) &&& (858993459 : Int32)) + ((((x0 - (((x0.toUInt32 >>> ((1 : Int32).toUInt32 &&& Int32.toUInt32 31)).toInt32) &&& (1431655765 : Int32))).toUInt32 >>> ((2 : Int32).toUInt32 &&& Int32.toUInt32 31)).toInt32) &&& (858993459 : Int32))) + (((((x0 - (((x0.toUInt32 >>> ((1 : Int32).toUInt32 &&& Int32.toUInt32 31)).toInt32) &&& (1431655765 : Int32))) &&& (858993459 : Int32)) + ((((x0 - (((x0.toUInt32 >>> ((1 : Int32).toUInt32 &&& Int32.toUInt32 31)).toInt32) &&& (1431655765 : Int32))).toUInt32 >>> ((2 : Int32).toUInt32 &&& Int32.toUInt32 31)).toInt32) &&& (858993459 : Int32))).toUInt32 >>> ((4 : Int32).toUInt32 &&& Int32.toUInt32 31)).toInt32)) &&& (252645135 : Int32)) + (((((((x0 - (((x0.toUInt32 >>> ((1 : Int32).toUInt32 &&& Int32.toUInt32 31)).toInt32) &&& (1431655765 : Int32))) &&& (858993459 : Int32)) + ((((x0 - (((x0.toUInt32 >>> ((1 : Int32).toUInt32 &&& Int32.toUInt32 31)).toInt32) &&& (1431655765 : Int32))).toUInt32 >>> ((2 : Int32).toUInt32 &&& Int32.toUInt32 31)).toInt32) &&& (858993459 : Int32))) + (((((x0 - (((x0.toUInt32 >>> ((1 : Int32).toUInt32 &&& Int32.toUInt32 31)).toInt32) &&& (1431655765 : Int32))) &&& (858993459 : Int32)) + ((((x0 - (((x0.toUInt32 >>> ((1 : Int32).toUInt32 &&& Int32.toUInt32 31)).toInt32) &&& (1431655765 : Int32))).toUInt32 >>> ((2 : Int32).toUInt32 &&& Int32.toUInt32 31)).toInt32) &&& (858993459 : Int32))).toUInt32 >>> ((4 : Int32).toUInt32 &&& Int32.toUInt32 31)).toInt32)) &&& (252645135 : Int32)).toUInt32 >>> ((8 : Int32).toUInt32 &&& Int32.toUInt32 31)).toInt32)))]) C dJ6_bitCount_0f7a4_40 (by decide) rfl ?_
  refine G.iload_n C dJ6_bitCount_0f7a4_41 0 rfl ?_
  refine G.iload_n C dJ6_bitCount_0f7a4_42 0 rfl ?_
  refine G.bipush C dJ6_bitCount_0f7a4_43 nb_16 ?_
  refine G.iushr C dJ6_bitCount_0f7a4_45 ?_
  refine G.iadd C dJ6_bitCount_0f7a4_46 ?_
  refine G.istore_n (lv' := [(0, .int (((((((x0 - (((x0.toUInt32 >>> ((1 : Int32).toUInt32 &&& Int32.toUInt32 31)).toInt32) &&& (1431655765 : Int32))) &&& (858993459 : Int32)) + ((((x0 - (((x0.toUInt32 >>> ((1 : Int32).toUInt32 &&& Int32.toUInt32 31)).toInt32) &&& (1431655765 : Int32))).toUInt32 >>> ((2 : Int32).toUInt32 &&& Int32.toUInt32 31)).toInt32) &&& (858993459 : Int32))) + (((((x0 - (((x0.toUInt32 >>> ((1 : Int32).toUInt32 &&& Int32.toUInt32 31)).toInt32) &&& (1431655765 : Int32))) &&& (858993459 : Int32)) + ((((x0 - (((x0.toUInt32 >>> ((1 : Int32).toUInt32 &&& Int32.toUInt32 31)).toInt32) &&& (1431655765 : Int32))).toUInt32 >>> ((2 : Int32).toUInt32 &&& Int32.toUInt32 31)).toInt32) &&& (858993459 : Int32))).toUInt32 >>> ((4 : Int32).toUInt32 &&& Int32.toUInt32 31)).toInt32)) &&& (252645135 : Int32)) + (((((((x0 - (((x0.toUInt32 >>> ((1 : Int32).toUInt32 &&& Int32.toUInt32 31)).toInt32) &&& (1431655765 : Int32))) &&& (858993459 : Int32)) + ((((x0 - (((x0.toUInt32 >>> ((1 : Int32).toUInt32 &&& Int32.toUInt32 31)).toInt32) &&& (1431655765 : Int32))).toUInt32 >>> ((2 : Int32).toUInt32 &&& Int32.toUInt32 31)).toInt32) &&& (858993459 : Int32))) + (((((x0 - (((x0.toUInt32 >>> ((1 : Int32).toUInt32 &&& Int32.toUInt32 31)).toInt32) &&& (1431655765 : Int32))) &&& (858993459 : Int32)) + ((((x0 - (((x0.toUInt32 >>> ((1 : Int32).toUInt32 &&& Int32.toUInt32 31)).toInt32) &&& (1431655765 : Int32))).toUInt32 >>> ((2 : Int32).toUInt32 &&& Int32.toUInt32 31)).toInt32) &&& (858993459 : Int32))).toUInt32 >>> ((4 : Int32).toUInt32 &&& Int32.toUInt32 31)).toInt32)) &&& (252645135 : Int32)).toUInt32 >>> ((8 : Int32).toUInt32 &&& Int32.toUInt32 31)).toInt32)) + ((((((((x0 - (((x0.toUInt32 >>> ((1 : Int32).toUInt32 &&& Int32.toUInt32 31)).toInt32) &&& (1431655765 : Int32))) &&& (858993459 : Int32)) + ((((x0 - (((x0.toUInt32 >>> ((1 : Int32).toUInt32 &&& Int32.toUInt32 31)).toInt32) &&& (1431655765 : Int32))).toUInt32 >>> ((2 : Int32).toUInt32 &&& Int32.toUInt32 31)).toInt32) &&& (858993459 : Int32))) + (((((x0 - (((x0.toUInt32 >>> ((1 : Int32).toUInt32 &&& Int32.toUInt32 31)).toInt32) &&& (1431655765 : Int32))) &&& (858993459 : Int32)) + ((((x0 - (((x0.toUInt32 >>> ((1 : Int32).toUInt32 &&& Int32.toUInt32 31)).toInt32) &&& (1431655765 : Int32))).toUInt32 >>> ((2 : Int32).toUInt32 &&& Int32.toUInt32 31)).toInt32) &&& (858993459 : Int32))).toUInt32 >>> ((4 : Int32).toUInt32 &&& Int32.toUInt32 31)).toInt32)) &&& (252645135 : Int32)) + (((((((x0 - (((x0.toUInt32 >>> ((1 : Int32).toUInt32 &&& Int32.toUInt32 31)).toInt32) &&& (1431655765 : Int32))) &&& (858993459 : Int32)) + ((((x0 - (((x0.toUInt32 >>> ((1 : Int32).toUInt32 &&& Int32.toUInt32 31)).toInt32) &&& (1431655765 : Int32))).toUInt32 >>> ((2 : Int32).toUInt32 &&& Int32.toUInt32 31)).toInt32) &&& (858993459 : Int32))) + (((((x0 - (((x0.toUInt32 >>> ((1 : Int32).toUInt32 &&& Int32.toUInt32 31)).toInt32) &&& (1431655765 : Int32))) &&& (858993459 : Int32)) + ((((x0 - (((x0.toUInt32 >>> ((1 : Int32).toUInt32 &&& Int32.toUInt32 31)).toInt32) &&& (1431655765 : Int32))).toUInt32 >>> ((2 : Int32).toUInt32 &&& Int32.toUInt32 31)).toInt32) &&& (858993459 : Int32))).toUInt32 >>> ((4 : Int32).toUInt32 &&& Int32.toUInt32 31)).toInt32)) &&& (252645135 : Int32)).toUInt32 >>> ((8 : Int32).toUInt32 &&& Int32.toUInt32 31)).toInt32)).toUInt32 >>> ((16 : Int32).toUInt32 &&& Int32.toUInt32 31)).toInt32)))]) C dJ6_bitCount_0f7a4_47 (by decide) rfl ?_
  refine G.iload_n C dJ6_bitCount_0f7a4_48 0 rfl ?_
  refine G.bipush C dJ6_bitCount_0f7a4_49 nb_63 ?_
  refine G.iand C dJ6_bitCount_0f7a4_51 ?_
  exact hR _ (Option.some.inj h) _ _ dJ6_bitCount_0f7a4_52
set_option maxHeartbeats 2000000 in
set_option maxRecDepth 20000 in
theorem c_J1_canEncode_9a6ad {t : Nat → ClassId} {N : Nat} {x0 : Int32} {r : Int32} (h : F_J1_canEncode_9a6ad N x0 = some r) : CI t yJ1_canEncode_9a6ad cJ1_canEncode_9a6ad 1 (some .boolean) (rm 1) [.int x0] [] r [] := by
  refine CZ.of (own := RJ1) (by decide) rfl (Nat.le_of_ble_eq_true rfl) (fun X C hR0 => ?_)
  have hR : ∀ q : Int32, q = r → RetZ X cJ1_canEncode_9a6ad q [] := by intro q e; subst e; exact hR0
  show G X [] 0 [(0, .int x0)] []
  unfold F_J1_canEncode_9a6ad at h
  refine G.iload_n C dJ1_canEncode_9a6ad_0 0 rfl ?_
  refine G.if_lt (tgt := 15) C dJ1_canEncode_9a6ad_1 (by decide) h (fun h => ?_) (fun h => ?_)
  · refine G.iconst C dJ1_canEncode_9a6ad_15 ni_0 ?_
    exact hR _ (Option.some.inj h) (Or.inl rfl) _ _ dJ1_canEncode_9a6ad_16
  · refine G.iload_n C dJ1_canEncode_9a6ad_4 0 rfl ?_
    refine G.sipush C dJ1_canEncode_9a6ad_5 ns_255 ?_
    refine G.icmp_gt (tgt := 15) C dJ1_canEncode_9a6ad_8 (by decide) h (fun h => ?_) (fun h => ?_)
    · refine G.iconst C dJ1_canEncode_9a6ad_15 ni_0 ?_
      exact hR _ (Option.some.inj h) (Or.inl rfl) _ _ dJ1_canEncode_9a6ad_16
    · refine G.iconst C dJ1_canEncode_9a6ad_11 ni_1 ?_
      refine G.goto (tgt := 16) C dJ1_canEncode_9a6ad_12 (by decide) ?_
      exact hR _ (Option.some.inj h) (Or.inr rfl) _ _ dJ1_canEncode_9a6ad_16
set_option maxHeartbeats 2000000 in
set_option maxRecDepth 20000 in
theorem w_J1_indexOfChar_4cfef_L7 {X : Cx} {t : Nat → ClassId} {N : Nat} {x3 : Int32} {x4 : Int32} {r : Int32} (C : gX X t (rm 1) cJ1_indexOfChar_4cfef 6 RJ1) (hR : ∀ q : Int32, q = r → RetI X cJ1_indexOfChar_4cfef q []) : ∀ (n : Nat) (x5 : Int32), F_J1_indexOfChar_4cfef_L7 N x3 x4 n x5 = some r → G X [] 7 [(0, .ref (t 14)), (3, .int x3), (4, .int x4), (5, .int x5)] [] := by
  intro n
  induction n with
  | zero => intro x5 h; exact absurd h (by simp [F_J1_indexOfChar_4cfef_L7])
  | succ n ih =>
    intro x5 h
    rw [F_J1_indexOfChar_4cfef_L7] at h
    refine G.iload C dJ1_indexOfChar_4cfef_7 3 rfl ?_
    refine G.iload_n C dJ1_indexOfChar_4cfef_9 1 rfl ?_
    refine G.icmp_ge (tgt := 31) C dJ1_indexOfChar_4cfef_10 (by decide) h (fun h => ?_) (fun h => ?_)
    · refine G.iconst C dJ1_indexOfChar_4cfef_31 ni_m1 ?_
      exact hR _ (Option.some.inj h) _ _ dJ1_indexOfChar_4cfef_32
    · refine G.aload_n C dJ1_indexOfChar_4cfef_13 0 rfl ?_
      refine G.iload C dJ1_indexOfChar_4cfef_14 3 rfl ?_
      refine G.stb (f := tSorts) C st_bt h dJ1_indexOfChar_4cfef_16 (fun h => ?_)
      refine G.iload C dJ1_indexOfChar_4cfef_17 2 rfl ?_
      refine G.icmp_ne (tgt := 25) C dJ1_indexOfChar_4cfef_19 (by decide) h (fun h => ?_) (fun h => ?_)
      · refine G.iinc (v := (x5 + (1 : Int32))) (lv' := [(5, .int (x5 + (1 : Int32))), (0, .ref (t 14)), (3, .int x3), (4, .int x4)]) C dJ1_indexOfChar_4cfef_25 3 rfl (by rw [ni_1]) (by decide) rfl ?_
        refine G.goto (tgt := 7) C dJ1_indexOfChar_4cfef_28 (by decide) ?_
        exact G.lvs [1, 2, 3, 0] rfl (ih _ h)
      · refine G.iload C dJ1_indexOfChar_4cfef_22 3 rfl ?_
        exact hR _ (Option.some.inj h) _ _ dJ1_indexOfChar_4cfef_24
set_option maxHeartbeats 2000000 in
set_option maxRecDepth 20000 in
theorem c_J1_indexOfChar_4cfef {t : Nat → ClassId} {N : Nat} {x1 : Int32} {x2 : Int32} {x3 : Int32} {r : Int32} (h : F_J1_indexOfChar_4cfef N x1 x2 x3 = some r) : CI t yJ1_indexOfChar_4cfef cJ1_indexOfChar_4cfef 6 (some .int) (rm 1) [.ref (t 14), .int x1, .int x2, .int x3] [] r [] := by
  refine CI.of (own := RJ1) (by decide) rfl (Nat.le_of_ble_eq_true rfl) (fun X C hR0 => ?_)
  have hR : ∀ q : Int32, q = r → RetI X cJ1_indexOfChar_4cfef q [] := by intro q e; subst e; exact hR0
  show G X [] 0 [(0, .ref (t 14)), (1, .int x1), (2, .int x2), (3, .int x3)] []
  unfold F_J1_indexOfChar_4cfef at h
  refine G.iload_n C dJ1_indexOfChar_4cfef_0 1 rfl ?_
  refine G.i2b C dJ1_indexOfChar_4cfef_1 ?_
  refine G.istore (lv' := [(4, .int (x1.toInt8.toInt32)), (0, .ref (t 14)), (1, .int x1), (2, .int x2), (3, .int x3)]) C dJ1_indexOfChar_4cfef_2 (by decide) rfl ?_
  refine G.iload_n C dJ1_indexOfChar_4cfef_4 3 rfl ?_
  refine G.istore (lv' := [(5, .int x2), (4, .int (x1.toInt8.toInt32)), (0, .ref (t 14)), (1, .int x1), (2, .int x2), (3, .int x3)]) C dJ1_indexOfChar_4cfef_5 (by decide) rfl ?_
  exact G.lvs [2, 5, 1, 0] rfl (w_J1_indexOfChar_4cfef_L7 C hR N _ h)
set_option maxHeartbeats 2000000 in
set_option maxRecDepth 20000 in
theorem c_J1_indexOf_4cfef {t : Nat → ClassId} {N : Nat} {x1 : Int32} {x2 : Int32} {x3 : Int32} {r : Int32} (h : F_J1_indexOf_4cfef N x1 x2 x3 = some r) : CI t yJ1_indexOf_4cfef cJ1_indexOf_4cfef 4 (some .int) (rm 2) [.ref (t 14), .int x1, .int x2, .int x3] [] r [] := by
  refine CI.of (own := RJ1) (by decide) rfl (Nat.le_of_ble_eq_true rfl) (fun X C hR0 => ?_)
  have hR : ∀ q : Int32, q = r → RetI X cJ1_indexOf_4cfef q [] := by intro q e; subst e; exact hR0
  show G X [] 0 [(0, .ref (t 14)), (1, .int x1), (2, .int x2), (3, .int x3)] []
  unfold F_J1_indexOf_4cfef at h
  refine G.iload_n C dJ1_indexOf_4cfef_0 1 rfl ?_
  obtain ⟨q1, hq1, h⟩ := bind_some' h
  refine G.csI (cs' := []) C (c_J1_canEncode_9a6ad hq1) [] rfl rfl rfl rfl k_506 cal_J1_canEncode_9a6ad (fit_rm (by decide) (by decide)) rfl (Nat.le_of_ble_eq_true rfl) dJ1_indexOf_4cfef_1 ?_
  refine G.if_ne (tgt := 9) C dJ1_indexOf_4cfef_4 (by decide) h (fun h => ?_) (fun h => ?_)
  · refine G.iload_n C dJ1_indexOf_4cfef_9 2 rfl ?_
    refine G.iconst C dJ1_indexOf_4cfef_10 ni_0 ?_
    refine G.mmax C k_509 k_510 k_88 k_511 (by decide) (Nat.le_of_ble_eq_true rfl) dJ1_indexOf_4cfef_11 ?_
    refine G.istore_n (lv' := [(2, .int (if x2 < (0 : Int32) then (0 : Int32) else x2)), (0, .ref (t 14)), (1, .int x1), (3, .int x3)]) C dJ1_indexOf_4cfef_14 (by decide) rfl ?_
    refine G.iload_n C dJ1_indexOf_4cfef_15 3 rfl ?_
    refine G.aload_n C dJ1_indexOf_4cfef_16 1 rfl ?_
    refine G.stlen (v := (5 : Int32)) C st_bt (by decide) dJ1_indexOf_4cfef_17 ?_
    refine G.mmin C k_512 k_513 k_88 k_514 (by decide) (Nat.le_of_ble_eq_true rfl) dJ1_indexOf_4cfef_18 ?_
    refine G.istore_n (lv' := [(3, .int (if (5 : Int32) < x3 then (5 : Int32) else x3)), (2, .int (if x2 < (0 : Int32) then (0 : Int32) else x2)), (0, .ref (t 14)), (1, .int x1)]) C dJ1_indexOf_4cfef_21 (by decide) rfl ?_
    refine G.iload_n C dJ1_indexOf_4cfef_22 1 rfl ?_
    refine G.iload_n C dJ1_indexOf_4cfef_23 0 rfl ?_
    refine G.icmp_lt (tgt := 29) C dJ1_indexOf_4cfef_24 (by decide) h (fun h => ?_) (fun h => ?_)
    · refine G.aload_n C dJ1_indexOf_4cfef_29 2 rfl ?_
      refine G.iload_n C dJ1_indexOf_4cfef_30 3 rfl ?_
      refine G.iload_n C dJ1_indexOf_4cfef_31 1 rfl ?_
      refine G.iload_n C dJ1_indexOf_4cfef_32 0 rfl ?_
      obtain ⟨q33, hq33, h⟩ := bind_some' h
      refine G.csI (cs' := []) C (c_J1_indexOfChar_4cfef hq33) [] rfl rfl rfl rfl k_515 cal_J1_indexOfChar_4cfef (fit_rm (by decide) (by decide)) rfl (Nat.le_of_ble_eq_true rfl) dJ1_indexOf_4cfef_33 ?_
      exact hR _ (Option.some.inj h) _ _ dJ1_indexOf_4cfef_36
    · refine G.iconst C dJ1_indexOf_4cfef_27 ni_m1 ?_
      exact hR _ (Option.some.inj h) _ _ dJ1_indexOf_4cfef_28
  · refine G.iconst C dJ1_indexOf_4cfef_7 ni_m1 ?_
    exact hR _ (Option.some.inj h) _ _ dJ1_indexOf_4cfef_8
set_option maxHeartbeats 2000000 in
set_option maxRecDepth 20000 in
theorem c_J0_coder_7d493 {t : Nat → ClassId} {N : Nat} {r : Int32} (h : F_J0_coder_7d493 N = some r) : CI t yJ0_coder_7d493 cJ0_coder_7d493 1 (some .byte) (rm 1) [.ref (t 13)] [] r [] := by
  refine CB.of (own := RJ0) (by decide) rfl (Nat.le_of_ble_eq_true rfl) (fun X C hR0 => ?_)
  have hR : ∀ q : Int32, q = r → RetB X cJ0_coder_7d493 q [] := by intro q e; subst e; exact hR0
  show G X [] 0 [(0, .ref (t 13))] []
  unfold F_J0_coder_7d493 at h
  refine G.gets (v := .int (1 : Int32)) C st_cs k_493 dJ0_coder_7d493_0 ?_
  refine G.if_eq (tgt := 13) C dJ0_coder_7d493_3 (by decide) h (fun h => ?_) (fun h => ?_)
  · refine G.iconst C dJ0_coder_7d493_13 ni_1 ?_
    exact hR _ (Option.some.inj h) rfl _ _ dJ0_coder_7d493_14
  · refine G.aload_n C dJ0_coder_7d493_6 0 rfl ?_
    refine G.sgetf (v := .int (0 : Int32)) C st_co k_1539 dJ0_coder_7d493_7 ?_
    refine G.goto (tgt := 14) C dJ0_coder_7d493_10 (by decide) ?_
    exact hR _ (Option.some.inj h) rfl _ _ dJ0_coder_7d493_14
set_option maxHeartbeats 2000000 in
set_option maxRecDepth 20000 in
theorem c_J0_isLatin1_aae02 {t : Nat → ClassId} {N : Nat} {r : Int32} (h : F_J0_isLatin1_aae02 N = some r) : CI t yJ0_isLatin1_aae02 cJ0_isLatin1_aae02 1 (some .boolean) (rm 1) [.ref (t 13)] [] r [] := by
  refine CZ.of (own := RJ0) (by decide) rfl (Nat.le_of_ble_eq_true rfl) (fun X C hR0 => ?_)
  have hR : ∀ q : Int32, q = r → RetZ X cJ0_isLatin1_aae02 q [] := by intro q e; subst e; exact hR0
  show G X [] 0 [(0, .ref (t 13))] []
  unfold F_J0_isLatin1_aae02 at h
  refine G.gets (v := .int (1 : Int32)) C st_cs k_493 dJ0_isLatin1_aae02_0 ?_
  refine G.if_eq (tgt := 17) C dJ0_isLatin1_aae02_3 (by decide) h (fun h => ?_) (fun h => ?_)
  · refine G.iconst C dJ0_isLatin1_aae02_17 ni_0 ?_
    exact hR _ (Option.some.inj h) (Or.inl rfl) _ _ dJ0_isLatin1_aae02_18
  · refine G.aload_n C dJ0_isLatin1_aae02_6 0 rfl ?_
    refine G.sgetf (v := .int (0 : Int32)) C st_co k_1539 dJ0_isLatin1_aae02_7 ?_
    refine G.if_ne (tgt := 17) C dJ0_isLatin1_aae02_10 (by decide) h (fun h => ?_) (fun h => ?_)
    · refine G.iconst C dJ0_isLatin1_aae02_17 ni_0 ?_
      exact hR _ (Option.some.inj h) (Or.inl rfl) _ _ dJ0_isLatin1_aae02_18
    · refine G.iconst C dJ0_isLatin1_aae02_13 ni_1 ?_
      refine G.goto (tgt := 18) C dJ0_isLatin1_aae02_14 (by decide) ?_
      exact hR _ (Option.some.inj h) (Or.inr rfl) _ _ dJ0_isLatin1_aae02_18
set_option maxHeartbeats 2000000 in
set_option maxRecDepth 20000 in
theorem c_J0_length_8abf5 {t : Nat → ClassId} {N : Nat} {r : Int32} (h : F_J0_length_8abf5 N = some r) : CI t yJ0_length_8abf5 cJ0_length_8abf5 1 (some .int) (rm 2) [.ref (t 13)] [] r [] := by
  refine CI.of (own := RJ0) (by decide) rfl (Nat.le_of_ble_eq_true rfl) (fun X C hR0 => ?_)
  have hR : ∀ q : Int32, q = r → RetI X cJ0_length_8abf5 q [] := by intro q e; subst e; exact hR0
  show G X [] 0 [(0, .ref (t 13))] []
  unfold F_J0_length_8abf5 at h
  refine G.aload_n C dJ0_length_8abf5_0 0 rfl ?_
  refine G.sgetf (v := .ref (t 14)) C st_va k_1540 dJ0_length_8abf5_1 ?_
  refine G.stlen (v := (5 : Int32)) C st_bt (by decide) dJ0_length_8abf5_4 ?_
  refine G.aload_n C dJ0_length_8abf5_5 0 rfl ?_
  obtain ⟨q6, hq6, h⟩ := bind_some' h
  refine G.cvT C (c_J0_coder_7d493 hq6) rfl k_499 cal_J0_coder_7d493 (fit_rm (by decide) (by decide)) rfl (Nat.le_of_ble_eq_true rfl) dJ0_length_8abf5_6 ?_
  refine G.ishr C dJ0_length_8abf5_9 ?_
  exact hR _ (Option.some.inj h) _ _ dJ0_length_8abf5_10
set_option maxHeartbeats 2000000 in
set_option maxRecDepth 20000 in
theorem c_J0_indexOf_7cf53 {t : Nat → ClassId} {N : Nat} {x1 : Int32} {x2 : Int32} {r : Int32} (h : F_J0_indexOf_7cf53 N x1 x2 = some r) : CI t yJ0_indexOf_7cf53 cJ0_indexOf_7cf53 3 (some .int) (rm 3) [.ref (t 13), .int x1, .int x2] [] r [] := by
  refine CI.of (own := RJ0) (by decide) rfl (Nat.le_of_ble_eq_true rfl) (fun X C hR0 => ?_)
  have hR : ∀ q : Int32, q = r → RetI X cJ0_indexOf_7cf53 q [] := by intro q e; subst e; exact hR0
  show G X [] 0 [(0, .ref (t 13)), (1, .int x1), (2, .int x2)] []
  unfold F_J0_indexOf_7cf53 at h
  refine G.aload_n C dJ0_indexOf_7cf53_0 0 rfl ?_
  obtain ⟨q1, hq1, h⟩ := bind_some' h
  refine G.cvT C (c_J0_isLatin1_aae02 hq1) rfl k_489 cal_J0_isLatin1_aae02 (fit_rm (by decide) (by decide)) rfl (Nat.le_of_ble_eq_true rfl) dJ0_indexOf_7cf53_1 ?_
  refine G.if_eq (tgt := 23) C dJ0_indexOf_7cf53_4 (by decide) h (fun h => ?_) (fun h => ?_)
  · refine G.aload_n C dJ0_indexOf_7cf53_23 0 rfl ?_
    refine G.sgetf (v := .ref (t 14)) C st_va k_1540 dJ0_indexOf_7cf53_24 ?_
    refine G.iload_n C dJ0_indexOf_7cf53_27 1 rfl ?_
    refine G.iload_n C dJ0_indexOf_7cf53_28 2 rfl ?_
    refine G.aload_n C dJ0_indexOf_7cf53_29 0 rfl ?_
    obtain ⟨q30, hq30, h⟩ := bind_some' h
    refine G.cvT C (c_J0_length_8abf5 hq30) rfl k_495 cal_J0_length_8abf5 (fit_rm (by decide) (by decide)) rfl (Nat.le_of_ble_eq_true rfl) dJ0_indexOf_7cf53_30 ?_
    cases h
  · refine G.aload_n C dJ0_indexOf_7cf53_7 0 rfl ?_
    refine G.sgetf (v := .ref (t 14)) C st_va k_1540 dJ0_indexOf_7cf53_8 ?_
    refine G.iload_n C dJ0_indexOf_7cf53_11 1 rfl ?_
    refine G.iload_n C dJ0_indexOf_7cf53_12 2 rfl ?_
    refine G.aload_n C dJ0_indexOf_7cf53_13 0 rfl ?_
    obtain ⟨q14, hq14, h⟩ := bind_some' h
    refine G.cvT C (c_J0_length_8abf5 hq14) rfl k_495 cal_J0_length_8abf5 (fit_rm (by decide) (by decide)) rfl (Nat.le_of_ble_eq_true rfl) dJ0_indexOf_7cf53_14 ?_
    obtain ⟨q17, hq17, h⟩ := bind_some' h
    refine G.csI (cs' := []) C (c_J1_indexOf_4cfef hq17) [] rfl rfl rfl rfl k_503 cal_J1_indexOf_4cfef (fit_rm (by decide) (by decide)) rfl (Nat.le_of_ble_eq_true rfl) dJ0_indexOf_7cf53_17 ?_
    refine G.goto (tgt := 36) C dJ0_indexOf_7cf53_20 (by decide) ?_
    exact hR _ (Option.some.inj h) _ _ dJ0_indexOf_7cf53_36
set_option maxHeartbeats 2000000 in
set_option maxRecDepth 20000 in
theorem c_J0_indexOf_0f7a4 {t : Nat → ClassId} {N : Nat} {x1 : Int32} {r : Int32} (h : F_J0_indexOf_0f7a4 N x1 = some r) : CI t yJ0_indexOf_0f7a4 cJ0_indexOf_0f7a4 2 (some .int) (rm 4) [.ref (t 13), .int x1] [] r [] := by
  refine CI.of (own := RJ0) (by decide) rfl (Nat.le_of_ble_eq_true rfl) (fun X C hR0 => ?_)
  have hR : ∀ q : Int32, q = r → RetI X cJ0_indexOf_0f7a4 q [] := by intro q e; subst e; exact hR0
  show G X [] 0 [(0, .ref (t 13)), (1, .int x1)] []
  unfold F_J0_indexOf_0f7a4 at h
  refine G.aload_n C dJ0_indexOf_0f7a4_0 0 rfl ?_
  refine G.iload_n C dJ0_indexOf_0f7a4_1 1 rfl ?_
  refine G.iconst C dJ0_indexOf_0f7a4_2 ni_0 ?_
  obtain ⟨q3, hq3, h⟩ := bind_some' h
  refine G.cvT C (c_J0_indexOf_7cf53 hq3) rfl k_485 cal_J0_indexOf_7cf53 (fit_rm (by decide) (by decide)) rfl (Nat.le_of_ble_eq_true rfl) dJ0_indexOf_0f7a4_3 ?_
  exact hR _ (Option.some.inj h) _ _ dJ0_indexOf_0f7a4_6
