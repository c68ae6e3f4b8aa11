theorem ka_int : Cond.arrayClass .int ∈ WS := ws_in 119 (by decide +kernel) (by decide +kernel)
theorem ka_boolean : Cond.arrayClass .boolean ∈ WS := ws_in 1145 (by decide +kernel) (by decide +kernel)
theorem df_0 : ∀ j, j < 3 → defaultValue (tyC 0 j) = vp_V [.null, .int 0, .int 0] j := by decide
theorem df_1 : ∀ j, j < 2 → defaultValue (tyC 1 j) = vp_V [.null, .int 0] j := by decide
theorem df_2 : ∀ j, j < 7 → defaultValue (tyC 2 j) = vp_V [.null, .null, .null, .null, .int 0, .int 0, .int 0] j := by decide
theorem df_3 : ∀ j, j < 3 → defaultValue (tyC 3 j) = vp_V [.null, .null, .null] j := by decide
theorem df_4 : ∀ j, j < 3 → defaultValue (tyC 4 j) = vp_V [.null, .null, .int 0] j := by decide
theorem df_5 : ∀ j, j < 18 → defaultValue (tyC 5 j) = vp_V [.int 0, .int 0, .int 0, .int 0, .int 0, .int 0, .int 0, .int 0, .int 0, .int 0, .null, .null, .null, .null, .null, .null, .null, .null] j := by decide
theorem df_6 : ∀ j, j < 5 → defaultValue (tyC 6 j) = vp_V [.null, .int 0, .int 0, .int 0, .int 0] j := by decide
theorem df_7 : ∀ j, j < 11 → defaultValue (tyC 7 j) = vp_V [.null, .null, .null, .null, .null, .null, .null, .null, .null, .null, .int 0] j := by decide
theorem df_8 : ∀ j, j < 25 → defaultValue (tyC 8 j) = vp_V [.null, .null, .null, .int 0, .int 0, .null, .null, .null, .int 0, .int 0, .int 0, .int 0, .int 0, .int 0, .int 0, .null, .null, .int 0, .null, .null, .null, .null, .null, .null, .int 0] j := by decide
theorem cai_X0 : CalI yX0_init cX0_init 2 0 := ⟨k_248, k_80, k_249, rfl, by decide +kernel, by decide +kernel, by decide +kernel⟩
theorem cai_X1 : CalI yX1_init cX1_init 1 0 := ⟨k_315, k_83, k_316, rfl, by decide +kernel, by decide +kernel, by decide +kernel⟩
theorem cai_X2 : CalI yX2_init cX2_init 2 0 := ⟨k_285, k_82, k_286, rfl, by decide +kernel, by decide +kernel, by decide +kernel⟩
theorem cai_X3 : CalI yX3_init cX3_init 2 0 := ⟨k_104, k_77, k_105, rfl, by decide +kernel, by decide +kernel, by decide +kernel⟩
theorem cai_X4 : CalI yX4_init cX4_init 1 0 := ⟨k_267, k_81, k_268, rfl, by decide +kernel, by decide +kernel, by decide +kernel⟩
theorem cai_X5 : CalI yX5_init cX5_init 1 0 := ⟨k_145, k_79, k_146, rfl, by decide +kernel, by decide +kernel, by decide +kernel⟩
theorem cai_X6 : CalI yX6_init cX6_init 1 0 := ⟨k_123, k_78, k_124, rfl, by decide +kernel, by decide +kernel, by decide +kernel⟩
theorem cai_X7 : CalI yX7_init cX7_init 1 0 := ⟨k_96, k_76, k_97, rfl, by decide +kernel, by decide +kernel, by decide +kernel⟩
theorem cai_X8 : CalI yX8_init cX8_init 2 0 := ⟨k_1066, k_84, k_1067, rfl, by decide +kernel, by decide +kernel, by decide +kernel⟩
set_option maxHeartbeats 2000000 in
set_option maxRecDepth 20000 in
theorem c_X5_init {t : Nat → ClassId} (h0 : Nat) : CN t yX5_init cX5_init 1 (rmN 1 8 48) [.ref h0] [[(h0, .inr (5, [.int 0, .int 0, .int 0, .int 0, .int 0, .int 0, .int 0, .int 0, .int 0, .int 0, .null, .null, .null, .null, .null, .null, .null, .null]))]] (fun cs1 => ∃ a : Nat → Nat, a 0 = h0 ∧ cs1 = [wStage t a zSV]) 8 48 := by
  refine CN.of (own := RX5) (by decide) rfl rfl (Nat.le_of_ble_eq_true rfl) (fun X C hin hR => ?_)
  show G (xs X 0 0) [[(h0, .inr (5, [.int 0, .int 0, .int 0, .int 0, .int 0, .int 0, .int 0, .int 0, .int 0, .int 0, .null, .null, .null, .null, .null, .null, .null, .null]))]] 0 [(0, .ref h0)] []
  refine G.aload_n (C.xs (k := 0) (n := 0) ⟨by decide, by decide⟩) dX5_init_0 0 rfl ?_
  refine G.objInit (C.xs (k := 0) (n := 0) ⟨by decide, by decide⟩) k_147 k_99 k_100 (by decide) (Nat.le_of_ble_eq_true rfl) dX5_init_1 ?_
  refine G.aload_n (C.xs (k := 0) (n := 0) ⟨by decide, by decide⟩) dX5_init_4 0 rfl ?_
  refine G.bipush (v := (6 : Int32)) (C.xs (k := 0) (n := 0) ⟨by decide, by decide⟩) dX5_init_5 (by decide) ?_
  refine G.newi (N := 6) (C.xs (k := 0) (n := 0) ⟨by decide, by decide⟩) ka_int (by decide) (by decide) (Nat.le_of_ble_eq_true rfl) ⟨by decide, by decide⟩ dX5_init_7 (fun q1 => ?_)
  show G (xs X 1 6) [[(h0, .inr (5, [.int 0, .int 0, .int 0, .int 0, .int 0, .int 0, .int 0, .int 0, .int 0, .int 0, .null, .null, .null, .null, .null, .null, .null, .null]))], [(q1, .inl (t 0, 6, .inl (fun _ => 0)))]] 9 [(0, .ref h0)] [.ref q1, .ref h0]
  refine G.putF (X := xs X 1 6) (T := TX5) (N := 18) (i := 0) (j := 0) (cs' := [[(h0, .inr (5, [.int 0, .int 0, .int 0, .int 0, .int 0, .int 0, .int 0, .int 0, .int 0, .int 0, .ref q1, .null, .null, .null, .null, .null, .null, .null]))], [(q1, .inl (t 0, 6, .inl (fun _ => 0)))]]) (C.xs (k := 1) (n := 6) ⟨by decide, by decide⟩) hin rfl rfl rfl 10 (by decide) k_178 rfl rfl rfl rfl rfl (Nat.le_of_ble_eq_true rfl) dX5_init_9 rfl rfl ?_
  refine G.aload_n (C.xs (k := 1) (n := 6) ⟨by decide, by decide⟩) dX5_init_12 0 rfl ?_
  refine G.bipush (v := (6 : Int32)) (C.xs (k := 1) (n := 6) ⟨by decide, by decide⟩) dX5_init_13 (by decide) ?_
  refine G.newi (N := 6) (C.xs (k := 1) (n := 6) ⟨by decide, by decide⟩) ka_int (by decide) (by decide) (Nat.le_of_ble_eq_true rfl) ⟨by decide, by decide⟩ dX5_init_15 (fun q2 => ?_)
  show G (xs X 2 12) [[(h0, .inr (5, [.int 0, .int 0, .int 0, .int 0, .int 0, .int 0, .int 0, .int 0, .int 0, .int 0, .ref q1, .null, .null, .null, .null, .null, .null, .null]))], [(q1, .inl (t 0, 6, .inl (fun _ => 0)))], [(q2, .inl (t 0, 6, .inl (fun _ => 0)))]] 17 [(0, .ref h0)] [.ref q2, .ref h0]
  refine G.putF (X := xs X 2 12) (T := TX5) (N := 18) (i := 0) (j := 0) (cs' := [[(h0, .inr (5, [.int 0, .int 0, .int 0, .int 0, .int 0, .int 0, .int 0, .int 0, .int 0, .int 0, .ref q1, .ref q2, .null, .null, .null, .null, .null, .null]))], [(q1, .inl (t 0, 6, .inl (fun _ => 0)))], [(q2, .inl (t 0, 6, .inl (fun _ => 0)))]]) (C.xs (k := 2) (n := 12) ⟨by decide, by decide⟩) hin rfl rfl rfl 11 (by decide) k_182 rfl rfl rfl rfl rfl (Nat.le_of_ble_eq_true rfl) dX5_init_17 rfl rfl ?_
  refine G.aload_n (C.xs (k := 2) (n := 12) ⟨by decide, by decide⟩) dX5_init_20 0 rfl ?_
  refine G.bipush (v := (6 : Int32)) (C.xs (k := 2) (n := 12) ⟨by decide, by decide⟩) dX5_init_21 (by decide) ?_
  refine G.newi (N := 6) (C.xs (k := 2) (n := 12) ⟨by decide, by decide⟩) ka_int (by decide) (by decide) (Nat.le_of_ble_eq_true rfl) ⟨by decide, by decide⟩ dX5_init_23 (fun q3 => ?_)
  show G (xs X 3 18) [[(h0, .inr (5, [.int 0, .int 0, .int 0, .int 0, .int 0, .int 0, .int 0, .int 0, .int 0, .int 0, .ref q1, .ref q2, .null, .null, .null, .null, .null, .null]))], [(q1, .inl (t 0, 6, .inl (fun _ => 0)))], [(q2, .inl (t 0, 6, .inl (fun _ => 0)))], [(q3, .inl (t 0, 6, .inl (fun _ => 0)))]] 25 [(0, .ref h0)] [.ref q3, .ref h0]
  refine G.putF (X := xs X 3 18) (T := TX5) (N := 18) (i := 0) (j := 0) (cs' := [[(h0, .inr (5, [.int 0, .int 0, .int 0, .int 0, .int 0, .int 0, .int 0, .int 0, .int 0, .int 0, .ref q1, .ref q2, .ref q3, .null, .null, .null, .null, .null]))], [(q1, .inl (t 0, 6, .inl (fun _ => 0)))], [(q2, .inl (t 0, 6, .inl (fun _ => 0)))], [(q3, .inl (t 0, 6, .inl (fun _ => 0)))]]) (C.xs (k := 3) (n := 18) ⟨by decide, by decide⟩) hin rfl rfl rfl 12 (by decide) k_186 rfl rfl rfl rfl rfl (Nat.le_of_ble_eq_true rfl) dX5_init_25 rfl rfl ?_
  refine G.aload_n (C.xs (k := 3) (n := 18) ⟨by decide, by decide⟩) dX5_init_28 0 rfl ?_
  refine G.bipush (v := (6 : Int32)) (C.xs (k := 3) (n := 18) ⟨by decide, by decide⟩) dX5_init_29 (by decide) ?_
  refine G.newi (N := 6) (C.xs (k := 3) (n := 18) ⟨by decide, by decide⟩) ka_int (by decide) (by decide) (Nat.le_of_ble_eq_true rfl) ⟨by decide, by decide⟩ dX5_init_31 (fun q4 => ?_)
  show G (xs X 4 24) [[(h0, .inr (5, [.int 0, .int 0, .int 0, .int 0, .int 0, .int 0, .int 0, .int 0, .int 0, .int 0, .ref q1, .ref q2, .ref q3, .null, .null, .null, .null, .null]))], [(q1, .inl (t 0, 6, .inl (fun _ => 0)))], [(q2, .inl (t 0, 6, .inl (fun _ => 0)))], [(q3, .inl (t 0, 6, .inl (fun _ => 0)))], [(q4, .inl (t 0, 6, .inl (fun _ => 0)))]] 33 [(0, .ref h0)] [.ref q4, .ref h0]
  refine G.putF (X := xs X 4 24) (T := TX5) (N := 18) (i := 0) (j := 0) (cs' := [[(h0, .inr (5, [.int 0, .int 0, .int 0, .int 0, .int 0, .int 0, .int 0, .int 0, .int 0, .int 0, .ref q1, .ref q2, .ref q3, .ref q4, .null, .null, .null, .null]))], [(q1, .inl (t 0, 6, .inl (fun _ => 0)))], [(q2, .inl (t 0, 6, .inl (fun _ => 0)))], [(q3, .inl (t 0, 6, .inl (fun _ => 0)))], [(q4, .inl (t 0, 6, .inl (fun _ => 0)))]]) (C.xs (k := 4) (n := 24) ⟨by decide, by decide⟩) hin rfl rfl rfl 13 (by decide) k_190 rfl rfl rfl rfl rfl (Nat.le_of_ble_eq_true rfl) dX5_init_33 rfl rfl ?_
  refine G.aload_n (C.xs (k := 4) (n := 24) ⟨by decide, by decide⟩) dX5_init_36 0 rfl ?_
  refine G.bipush (v := (6 : Int32)) (C.xs (k := 4) (n := 24) ⟨by decide, by decide⟩) dX5_init_37 (by decide) ?_
  refine G.newi (N := 6) (C.xs (k := 4) (n := 24) ⟨by decide, by decide⟩) ka_int (by decide) (by decide) (Nat.le_of_ble_eq_true rfl) ⟨by decide, by decide⟩ dX5_init_39 (fun q5 => ?_)
  show G (xs X 5 30) [[(h0, .inr (5, [.int 0, .int 0, .int 0, .int 0, .int 0, .int 0, .int 0, .int 0, .int 0, .int 0, .ref q1, .ref q2, .ref q3, .ref q4, .null, .null, .null, .null]))], [(q1, .inl (t 0, 6, .inl (fun _ => 0)))], [(q2, .inl (t 0, 6, .inl (fun _ => 0)))], [(q3, .inl (t 0, 6, .inl (fun _ => 0)))], [(q4, .inl (t 0, 6, .inl (fun _ => 0)))], [(q5, .inl (t 0, 6, .inl (fun _ => 0)))]] 41 [(0, .ref h0)] [.ref q5, .ref h0]
  refine G.putF (X := xs X 5 30) (T := TX5) (N := 18) (i := 0) (j := 0) (cs' := [[(h0, .inr (5, [.int 0, .int 0, .int 0, .int 0, .int 0, .int 0, .int 0, .int 0, .int 0, .int 0, .ref q1, .ref q2, .ref q3, .ref q4, .ref q5, .null, .null, .null]))], [(q1, .inl (t 0, 6, .inl (fun _ => 0)))], [(q2, .inl (t 0, 6, .inl (fun _ => 0)))], [(q3, .inl (t 0, 6, .inl (fun _ => 0)))], [(q4, .inl (t 0, 6, .inl (fun _ => 0)))], [(q5, .inl (t 0, 6, .inl (fun _ => 0)))]]) (C.xs (k := 5) (n := 30) ⟨by decide, by decide⟩) hin rfl rfl rfl 14 (by decide) k_194 rfl rfl rfl rfl rfl (Nat.le_of_ble_eq_true rfl) dX5_init_41 rfl rfl ?_
  refine G.aload_n (C.xs (k := 5) (n := 30) ⟨by decide, by decide⟩) dX5_init_44 0 rfl ?_
  refine G.bipush (v := (6 : Int32)) (C.xs (k := 5) (n := 30) ⟨by decide, by decide⟩) dX5_init_45 (by decide) ?_
  refine G.newi (N := 6) (C.xs (k := 5) (n := 30) ⟨by decide, by decide⟩) ka_int (by decide) (by decide) (Nat.le_of_ble_eq_true rfl) ⟨by decide, by decide⟩ dX5_init_47 (fun q6 => ?_)
  show G (xs X 6 36) [[(h0, .inr (5, [.int 0, .int 0, .int 0, .int 0, .int 0, .int 0, .int 0, .int 0, .int 0, .int 0, .ref q1, .ref q2, .ref q3, .ref q4, .ref q5, .null, .null, .null]))], [(q1, .inl (t 0, 6, .inl (fun _ => 0)))], [(q2, .inl (t 0, 6, .inl (fun _ => 0)))], [(q3, .inl (t 0, 6, .inl (fun _ => 0)))], [(q4, .inl (t 0, 6, .inl (fun _ => 0)))], [(q5, .inl (t 0, 6, .inl (fun _ => 0)))], [(q6, .inl (t 0, 6, .inl (fun _ => 0)))]] 49 [(0, .ref h0)] [.ref q6, .ref h0]
  refine G.putF (X := xs X 6 36) (T := TX5) (N := 18) (i := 0) (j := 0) (cs' := [[(h0, .inr (5, [.int 0, .int 0, .int 0, .int 0, .int 0, .int 0, .int 0, .int 0, .int 0, .int 0, .ref q1, .ref q2, .ref q3, .ref q4, .ref q5, .ref q6, .null, .null]))], [(q1, .inl (t 0, 6, .inl (fun _ => 0)))], [(q2, .inl (t 0, 6, .inl (fun _ => 0)))], [(q3, .inl (t 0, 6, .inl (fun _ => 0)))], [(q4, .inl (t 0, 6, .inl (fun _ => 0)))], [(q5, .inl (t 0, 6, .inl (fun _ => 0)))], [(q6, .inl (t 0, 6, .inl (fun _ => 0)))]]) (C.xs (k := 6) (n := 36) ⟨by decide, by decide⟩) hin rfl rfl rfl 15 (by decide) k_197 rfl rfl rfl rfl rfl (Nat.le_of_ble_eq_true rfl) dX5_init_49 rfl rfl ?_
  refine G.aload_n (C.xs (k := 6) (n := 36) ⟨by decide, by decide⟩) dX5_init_52 0 rfl ?_
  refine G.bipush (v := (6 : Int32)) (C.xs (k := 6) (n := 36) ⟨by decide, by decide⟩) dX5_init_53 (by decide) ?_
  refine G.newi (N := 6) (C.xs (k := 6) (n := 36) ⟨by decide, by decide⟩) ka_int (by decide) (by decide) (Nat.le_of_ble_eq_true rfl) ⟨by decide, by decide⟩ dX5_init_55 (fun q7 => ?_)
  show G (xs X 7 42) [[(h0, .inr (5, [.int 0, .int 0, .int 0, .int 0, .int 0, .int 0, .int 0, .int 0, .int 0, .int 0, .ref q1, .ref q2, .ref q3, .ref q4, .ref q5, .ref q6, .null, .null]))], [(q1, .inl (t 0, 6, .inl (fun _ => 0)))], [(q2, .inl (t 0, 6, .inl (fun _ => 0)))], [(q3, .inl (t 0, 6, .inl (fun _ => 0)))], [(q4, .inl (t 0, 6, .inl (fun _ => 0)))], [(q5, .inl (t 0, 6, .inl (fun _ => 0)))], [(q6, .inl (t 0, 6, .inl (fun _ => 0)))], [(q7, .inl (t 0, 6, .inl (fun _ => 0)))]] 57 [(0, .ref h0)] [.ref q7, .ref h0]
  refine G.putF (X := xs X 7 42) (T := TX5) (N := 18) (i := 0) (j := 0) (cs' := [[(h0, .inr (5, [.int 0, .int 0, .int 0, .int 0, .int 0, .int 0, .int 0, .int 0, .int 0, .int 0, .ref q1, .ref q2, .ref q3, .ref q4, .ref q5, .ref q6, .ref q7, .null]))], [(q1, .inl (t 0, 6, .inl (fun _ => 0)))], [(q2, .inl (t 0, 6, .inl (fun _ => 0)))], [(q3, .inl (t 0, 6, .inl (fun _ => 0)))], [(q4, .inl (t 0, 6, .inl (fun _ => 0)))], [(q5, .inl (t 0, 6, .inl (fun _ => 0)))], [(q6, .inl (t 0, 6, .inl (fun _ => 0)))], [(q7, .inl (t 0, 6, .inl (fun _ => 0)))]]) (C.xs (k := 7) (n := 42) ⟨by decide, by decide⟩) hin rfl rfl rfl 16 (by decide) k_200 rfl rfl rfl rfl rfl (Nat.le_of_ble_eq_true rfl) dX5_init_57 rfl rfl ?_
  refine G.aload_n (C.xs (k := 7) (n := 42) ⟨by decide, by decide⟩) dX5_init_60 0 rfl ?_
  refine G.bipush (v := (6 : Int32)) (C.xs (k := 7) (n := 42) ⟨by decide, by decide⟩) dX5_init_61 (by decide) ?_
  refine G.newi (N := 6) (C.xs (k := 7) (n := 42) ⟨by decide, by decide⟩) ka_int (by decide) (by decide) (Nat.le_of_ble_eq_true rfl) ⟨by decide, by decide⟩ dX5_init_63 (fun q8 => ?_)
  show G (xs X 8 48) [[(h0, .inr (5, [.int 0, .int 0, .int 0, .int 0, .int 0, .int 0, .int 0, .int 0, .int 0, .int 0, .ref q1, .ref q2, .ref q3, .ref q4, .ref q5, .ref q6, .ref q7, .null]))], [(q1, .inl (t 0, 6, .inl (fun _ => 0)))], [(q2, .inl (t 0, 6, .inl (fun _ => 0)))], [(q3, .inl (t 0, 6, .inl (fun _ => 0)))], [(q4, .inl (t 0, 6, .inl (fun _ => 0)))], [(q5, .inl (t 0, 6, .inl (fun _ => 0)))], [(q6, .inl (t 0, 6, .inl (fun _ => 0)))], [(q7, .inl (t 0, 6, .inl (fun _ => 0)))], [(q8, .inl (t 0, 6, .inl (fun _ => 0)))]] 65 [(0, .ref h0)] [.ref q8, .ref h0]
  refine G.putF (X := xs X 8 48) (T := TX5) (N := 18) (i := 0) (j := 0) (cs' := [[(h0, .inr (5, [.int 0, .int 0, .int 0, .int 0, .int 0, .int 0, .int 0, .int 0, .int 0, .int 0, .ref q1, .ref q2, .ref q3, .ref q4, .ref q5, .ref q6, .ref q7, .ref q8]))], [(q1, .inl (t 0, 6, .inl (fun _ => 0)))], [(q2, .inl (t 0, 6, .inl (fun _ => 0)))], [(q3, .inl (t 0, 6, .inl (fun _ => 0)))], [(q4, .inl (t 0, 6, .inl (fun _ => 0)))], [(q5, .inl (t 0, 6, .inl (fun _ => 0)))], [(q6, .inl (t 0, 6, .inl (fun _ => 0)))], [(q7, .inl (t 0, 6, .inl (fun _ => 0)))], [(q8, .inl (t 0, 6, .inl (fun _ => 0)))]]) (C.xs (k := 8) (n := 48) ⟨by decide, by decide⟩) hin rfl rfl rfl 17 (by decide) k_204 rfl rfl rfl rfl rfl (Nat.le_of_ble_eq_true rfl) dX5_init_65 rfl rfl ?_
  refine G.fl (cs' := [wStage t (fun j => match j with | 0 => h0 | 1 => q1 | 2 => q2 | 3 => q3 | 4 => q4 | 5 => q5 | 6 => q6 | 7 => q7 | _ => q8) zSV]) rfl ?_
  exact hR _ (⟨(fun j => match j with | 0 => h0 | 1 => q1 | 2 => q2 | 3 => q3 | 4 => q4 | 5 => q5 | 6 => q6 | 7 => q7 | _ => q8), rfl, rfl⟩) _ _ dX5_init_68
set_option maxHeartbeats 2000000 in
set_option maxRecDepth 20000 in
theorem c_X6_init {t : Nat → ClassId} (h0 : Nat) : CN t yX6_init cX6_init 1 (rmN 1 1 120) [.ref h0] [[(h0, .inr (6, [.null, .int 0, .int 0, .int 0, .int 0]))]] (fun cs1 => ∃ ad : Nat → Nat → Nat, ad 2 0 = h0 ∧ cs1 = [wTape t ad zSV]) 1 120 := by
  refine CN.of (own := RX6) (by decide) rfl rfl (Nat.le_of_ble_eq_true rfl) (fun X C hin hR => ?_)
  show G (xs X 0 0) [[(h0, .inr (6, [.null, .int 0, .int 0, .int 0, .int 0]))]] 0 [(0, .ref h0)] []
  refine G.aload_n (C.xs (k := 0) (n := 0) ⟨by decide, by decide⟩) dX6_init_0 0 rfl ?_
  refine G.objInit (C.xs (k := 0) (n := 0) ⟨by decide, by decide⟩) k_125 k_99 k_100 (by decide) (Nat.le_of_ble_eq_true rfl) dX6_init_1 ?_
  refine G.aload_n (C.xs (k := 0) (n := 0) ⟨by decide, by decide⟩) dX6_init_4 0 rfl ?_
  refine G.bipush (v := (120 : Int32)) (C.xs (k := 0) (n := 0) ⟨by decide, by decide⟩) dX6_init_5 (by decide) ?_
  refine G.newi (N := 120) (C.xs (k := 0) (n := 0) ⟨by decide, by decide⟩) ka_int (by decide) (by decide) (Nat.le_of_ble_eq_true rfl) ⟨by decide, by decide⟩ dX6_init_7 (fun q1 => ?_)
  show G (xs X 1 120) [[(h0, .inr (6, [.null, .int 0, .int 0, .int 0, .int 0]))], [(q1, .inl (t 0, 120, .inl (fun _ => 0)))]] 9 [(0, .ref h0)] [.ref q1, .ref h0]
  refine G.putF (X := xs X 1 120) (T := TX6) (N := 5) (i := 0) (j := 0) (cs' := [[(h0, .inr (6, [.ref q1, .int 0, .int 0, .int 0, .int 0]))], [(q1, .inl (t 0, 120, .inl (fun _ => 0)))]]) (C.xs (k := 1) (n := 120) ⟨by decide, by decide⟩) hin rfl rfl rfl 0 (by decide) k_126 rfl rfl rfl rfl rfl (Nat.le_of_ble_eq_true rfl) dX6_init_9 rfl rfl ?_
  refine G.fl (cs' := [wTape t (fun _ j => match j with | 0 => h0 | _ => q1) zSV]) rfl ?_
  exact hR _ (⟨(fun _ j => match j with | 0 => h0 | _ => q1), rfl, rfl⟩) _ _ dX6_init_12
set_option maxHeartbeats 2000000 in
set_option maxRecDepth 20000 in
theorem c_X1_init {t : Nat → ClassId} (h0 : Nat) : CN t yX1_init cX1_init 1 (rmN 1 1 16) [.ref h0] [[(h0, .inr (1, [.null, .int 0]))]] (fun cs1 => ∃ ad : Nat → Nat → Nat, ad 12 0 = h0 ∧ cs1 = [wAsker t ad zSV]) 1 16 := by
  refine CN.of (own := RX1) (by decide) rfl rfl (Nat.le_of_ble_eq_true rfl) (fun X C hin hR => ?_)
  show G (xs X 0 0) [[(h0, .inr (1, [.null, .int 0]))]] 0 [(0, .ref h0)] []
  refine G.aload_n (C.xs (k := 0) (n := 0) ⟨by decide, by decide⟩) dX1_init_0 0 rfl ?_
  refine G.objInit (C.xs (k := 0) (n := 0) ⟨by decide, by decide⟩) k_317 k_99 k_100 (by decide) (Nat.le_of_ble_eq_true rfl) dX1_init_1 ?_
  refine G.aload_n (C.xs (k := 0) (n := 0) ⟨by decide, by decide⟩) dX1_init_4 0 rfl ?_
  refine G.bipush (v := (16 : Int32)) (C.xs (k := 0) (n := 0) ⟨by decide, by decide⟩) dX1_init_5 (by decide) ?_
  refine G.newi (N := 16) (C.xs (k := 0) (n := 0) ⟨by decide, by decide⟩) ka_int (by decide) (by decide) (Nat.le_of_ble_eq_true rfl) ⟨by decide, by decide⟩ dX1_init_7 (fun q1 => ?_)
  show G (xs X 1 16) [[(h0, .inr (1, [.null, .int 0]))], [(q1, .inl (t 0, 16, .inl (fun _ => 0)))]] 9 [(0, .ref h0)] [.ref q1, .ref h0]
  refine G.putF (X := xs X 1 16) (T := TX1) (N := 2) (i := 0) (j := 0) (cs' := [[(h0, .inr (1, [.ref q1, .int 0]))], [(q1, .inl (t 0, 16, .inl (fun _ => 0)))]]) (C.xs (k := 1) (n := 16) ⟨by decide, by decide⟩) hin rfl rfl rfl 0 (by decide) k_318 rfl rfl rfl rfl rfl (Nat.le_of_ble_eq_true rfl) dX1_init_9 rfl rfl ?_
  refine G.fl (cs' := [wAsker t (fun _ j => match j with | 0 => h0 | _ => q1) zSV]) rfl ?_
  exact hR _ (⟨(fun _ j => match j with | 0 => h0 | _ => q1), rfl, rfl⟩) _ _ dX1_init_12
set_option maxHeartbeats 2000000 in
set_option maxRecDepth 20000 in
theorem c_X4_init {t : Nat → ClassId} (h0 : Nat) : CN t yX4_init cX4_init 1 (rmN 2 10 78) [.ref h0] [[(h0, .inr (4, [.null, .null, .int 0]))]] (fun cs1 => ∃ ad : Nat → Nat → Nat, ad 8 0 = h0 ∧ cs1 = [wSeer t ad zSV, wStage t (ad 9) zSV]) 10 78 := by
  refine CN.of (own := RX4) (by decide) rfl rfl (Nat.le_of_ble_eq_true rfl) (fun X C hin hR => ?_)
  show G (xs X 0 0) [[(h0, .inr (4, [.null, .null, .int 0]))]] 0 [(0, .ref h0)] []
  refine G.aload_n (C.xs (k := 0) (n := 0) ⟨by decide, by decide⟩) dX4_init_0 0 rfl ?_
  refine G.objInit (C.xs (k := 0) (n := 0) ⟨by decide, by decide⟩) k_269 k_99 k_100 (by decide) (Nat.le_of_ble_eq_true rfl) dX4_init_1 ?_
  refine G.aload_n (C.xs (k := 0) (n := 0) ⟨by decide, by decide⟩) dX4_init_4 0 rfl ?_
  refine G.new (T := TX5) (N := 18) (ci := 5) (fs := [.int 0, .int 0, .int 0, .int 0, .int 0, .int 0, .int 0, .int 0, .int 0, .int 0, .null, .null, .null, .null, .null, .null, .null, .null]) (C.xs (k := 0) (n := 0) ⟨by decide, by decide⟩) rfl k_270 k_143 k_79 df_5 ⟨by decide, by decide⟩ dX4_init_5 (fun q1 => ?_)
  show G (xs X 1 18) [[(h0, .inr (4, [.null, .null, .int 0]))], [(q1, .inr (5, [.int 0, .int 0, .int 0, .int 0, .int 0, .int 0, .int 0, .int 0, .int 0, .int 0, .null, .null, .null, .null, .null, .null, .null, .null]))]] 8 [(0, .ref h0)] [.ref q1, .ref h0]
  refine G.dup (C.xs (k := 1) (n := 18) ⟨by decide, by decide⟩) dX4_init_8 rfl ?_
  refine G.cinit (st := [.ref q1, .ref h0]) (pre := [[(h0, .inr (4, [.null, .null, .int 0]))]]) (C.xs (k := 1) (n := 18) ⟨by decide, by decide⟩) (c_X5_init (t := t) q1) cai_X5 k_271 (fit_rmN (by decide) (by decide)) ⟨by decide, by decide⟩ (Nat.le_of_ble_eq_true rfl) dX4_init_9 (fun cs1 hcs1 => ?_)
  obtain ⟨a1, rfl, rfl⟩ := hcs1
  show G (xs X 9 66) [[(h0, .inr (4, [.null, .null, .int 0]))], wStage t a1 zSV] 12 [(0, .ref h0)] [.ref (a1 0), .ref h0]
  refine G.putF (X := xs X 9 66) (T := TX4) (N := 3) (i := 0) (j := 0) (cs' := [[(h0, .inr (4, [.ref (a1 0), .null, .int 0]))], wStage t a1 zSV]) (C.xs (k := 9) (n := 66) ⟨by decide, by decide⟩) hin rfl rfl rfl 0 (by decide) k_272 rfl rfl rfl rfl rfl (Nat.le_of_ble_eq_true rfl) dX4_init_12 rfl rfl ?_
  refine G.aload_n (C.xs (k := 9) (n := 66) ⟨by decide, by decide⟩) dX4_init_15 0 rfl ?_
  refine G.bipush (v := (12 : Int32)) (C.xs (k := 9) (n := 66) ⟨by decide, by decide⟩) dX4_init_16 (by decide) ?_
  refine G.newi (N := 12) (C.xs (k := 9) (n := 66) ⟨by decide, by decide⟩) ka_int (by decide) (by decide) (Nat.le_of_ble_eq_true rfl) ⟨by decide, by decide⟩ dX4_init_18 (fun q2 => ?_)
  show G (xs X 10 78) [[(h0, .inr (4, [.ref (a1 0), .null, .int 0]))], wStage t a1 zSV, [(q2, .inl (t 0, 12, .inl (fun _ => 0)))]] 20 [(0, .ref h0)] [.ref q2, .ref h0]
  refine G.putF (X := xs X 10 78) (T := TX4) (N := 3) (i := 0) (j := 0) (cs' := [[(h0, .inr (4, [.ref (a1 0), .ref q2, .int 0]))], wStage t a1 zSV, [(q2, .inl (t 0, 12, .inl (fun _ => 0)))]]) (C.xs (k := 10) (n := 78) ⟨by decide, by decide⟩) hin rfl rfl rfl 1 (by decide) k_273 rfl rfl rfl rfl rfl (Nat.le_of_ble_eq_true rfl) dX4_init_20 rfl rfl ?_
  refine G.perm (List.Perm.cons _ (List.Perm.swap _ _ _)) ?_
  refine G.fl (cs' := [wSeer t (fun k j => match k with | 9 => a1 j | _ => (match j with | 0 => h0 | _ => q2)) zSV, wStage t ((fun k j => match k with | 9 => a1 j | _ => (match j with | 0 => h0 | _ => q2)) 9) zSV]) rfl ?_
  exact hR _ (⟨(fun k j => match k with | 9 => a1 j | _ => (match j with | 0 => h0 | _ => q2)), rfl, rfl⟩) _ _ dX4_init_23
