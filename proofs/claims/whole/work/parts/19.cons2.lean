theorem st_more {t : Nat → ClassId} {A : Nat → Nat → Nat} {a : Nat → Nat} {i : Nat} : (List.range (i + 1)).map (fun j => wStage t ((fun j => if j = i then a else A j) j) zSV) = (List.range i).map (fun j => wStage t (A j) zSV) ++ [wStage t a zSV] := by
  rw [List.range_succ, List.map_append]
  congr 1
  · apply List.map_congr_left
    intro j hj
    have := List.mem_range.mp hj
    show wStage t (if j = i then a else A j) zSV = _
    rw [if_neg (by omega)]
  · show [wStage t (if i = i then a else A i) zSV] = _
    rw [if_pos rfl]
theorem fn_more {A : Nat → Nat → Nat} {a : Nat → Nat} {i : Nat} : va_up (fun j => if j < i then some (A j 0) else none) i (some (a 0)) = (fun j => if j < i + 1 then some ((fun j => if j = i then a else A j) j 0) else none) := by
  funext j
  unfold va_up
  by_cases h : j = i
  · subst h; simp
  · by_cases h2 : j < i
    · simp [h, h2, show j < i + 1 by omega]
    · simp [h, h2, show ¬ j < i + 1 by omega]
theorem last_get {pre : List va_W} {w : va_W} {n : Nat} (h : pre.length = n) : (pre ++ [w])[n]? = some w := by subst h; simp
theorem vp_lt {i n : Nat} (h : i < n) (hn : n < 2 ^ 31) : vp_in (nI i) n := vp_in_nI h hn
set_option maxHeartbeats 2000000 in
set_option maxRecDepth 20000 in
theorem l_X0_init {X : Cx} {t : Nat → ClassId} {h0 q1 : Nat} (C : gX X t (rmN 2 217 1608) cX0_init 2 RX0) (hR : ∀ cs1, (fun cs1 => ∃ ad : Nat → Nat → Nat, ad 5 0 = h0 ∧ cs1 = [wActs t ad zSV] ++ fRing t ad (fun _ => zSV)) cs1 → RetV (xs X 217 1608) cX0_init cs1) : ∀ (d i : Nat) (A : Nat → Nat → Nat), i + d = 24 → G (xs X (1 + 9 * i) (24 + 66 * i)) ([[(h0, .inr (0, [.ref q1, .int 0, .int 0]))], [(q1, .inl (t 2, 24, .inr (.inr (.inr (.inr (fun j => if j < i then some (A j 0) else none))))))]] ++ (List.range i).map (fun j => wStage t (A j) zSV)) 15 [(1, .int (nI i)), (0, .ref h0)] [] := by
  intro d
  induction d with
  | zero =>
    intro i A hi
    have e : i = 24 := by omega
    subst e
    refine G.iload_n (C.xs (k := 1 + 9 * 24) (n := 24 + 66 * 24) ⟨by show _ ≤ 217; omega, by show _ ≤ 1608; omega⟩) dX0_init_15 0 rfl ?_
    refine G.bipush (v := (24 : Int32)) (C.xs (k := 1 + 9 * 24) (n := 24 + 66 * 24) ⟨by show _ ≤ 217; omega, by show _ ≤ 1608; omega⟩) dX0_init_16 (by decide) ?_
    refine G.icmp_ge (tgt := 40) (C.xs (k := 1 + 9 * 24) (n := 24 + 66 * 24) ⟨by show _ ≤ 217; omega, by show _ ≤ 1608; omega⟩) dX0_init_18 (by decide) (β := Unit) (o1 := none) (o2 := some ()) (r := ()) (if_neg (by decide)) (fun _ => ?_) (fun h => by cases h)
    refine G.cell (i := 1) (j := 0) (f' := fun j => some ((fun k => if k = 5 then (fun j => if j = 0 then h0 else q1) else A (k - 40)) (40 + j) 0)) rfl rfl (fun j hj => ?_) rfl ?_
    · show (if j < 24 then some (A j 0) else none) = some ((if 40 + j = 5 then (fun j => if j = 0 then h0 else q1) else A (40 + j - 40)) 0)
      rw [if_pos hj, if_neg (by omega), show 40 + j - 40 = j by omega]
    have e2 : fRing t (fun k => if k = 5 then (fun j => if j = 0 then h0 else q1) else A (k - 40)) (fun _ => zSV) = (List.range 24).map (fun j => wStage t (A j) zSV) := by
      unfold fRing fSt
      apply List.map_congr_left
      intro j _
      show wStage t (if 40 + j = 5 then (fun j => if j = 0 then h0 else q1) else A (40 + j - 40)) zSV = _
      rw [if_neg (by omega), show 40 + j - 40 = j by omega]
    refine G.fl (cs' := [wActs t (fun k => if k = 5 then (fun j => if j = 0 then h0 else q1) else A (k - 40)) zSV] ++ fRing t (fun k => if k = 5 then (fun j => if j = 0 then h0 else q1) else A (k - 40)) (fun _ => zSV)) ?_ ?_
    · rw [e2]
      rfl
    · exact hR _ ⟨_, rfl, rfl⟩ _ _ dX0_init_40
  | succ d ih =>
    intro i A hi
    refine G.iload_n (C.xs (k := 1 + 9 * i) (n := 24 + 66 * i) ⟨by show _ ≤ 217; omega, by show _ ≤ 1608; omega⟩) dX0_init_15 0 rfl ?_
    refine G.bipush (v := (24 : Int32)) (C.xs (k := 1 + 9 * i) (n := 24 + 66 * i) ⟨by show _ ≤ 217; omega, by show _ ≤ 1608; omega⟩) dX0_init_16 (by decide) ?_
    refine G.icmp_ge (tgt := 40) (C.xs (k := 1 + 9 * i) (n := 24 + 66 * i) ⟨by show _ ≤ 217; omega, by show _ ≤ 1608; omega⟩) dX0_init_18 (by decide) (β := Unit) (o1 := some ()) (o2 := none) (r := ()) (if_pos (nI_lt (b := 24) (by omega) (by decide))) (fun h => by cases h) (fun _ => ?_)
    refine G.aload_n (C.xs (k := 1 + 9 * i) (n := 24 + 66 * i) ⟨by show _ ≤ 217; omega, by show _ ≤ 1608; omega⟩) dX0_init_21 1 rfl ?_
    refine G.get (T := TX0) (N := 3) (i := 0) (j := 0) (v := .ref q1) (C.xs (k := 1 + 9 * i) (n := 24 + 66 * i) ⟨by show _ ≤ 217; omega, by show _ ≤ 1608; omega⟩) rfl rfl rfl 0 (by decide) k_254 rfl rfl dX0_init_22 ?_
    refine G.iload_n (C.xs (k := 1 + 9 * i) (n := 24 + 66 * i) ⟨by show _ ≤ 217; omega, by show _ ≤ 1608; omega⟩) dX0_init_25 0 rfl ?_
    refine G.new (T := TX5) (N := 18) (ci := 5) (fs := [.int 0, .int 0, .int 0, .int 0, .int 0, .int 0, .int 0, .int 0, .int 0, .int 0, .null, .null, .null, .null, .null, .null, .null, .null]) (C.xs (k := 1 + 9 * i) (n := 24 + 66 * i) ⟨by show _ ≤ 217; omega, by show _ ≤ 1608; omega⟩) rfl k_251 k_143 k_79 df_5 ⟨by show _ ≤ 217; omega, by show _ ≤ 1608; omega⟩ dX0_init_26 (fun q => ?_)
    refine G.dup (C.xs (k := 1 + 9 * i + 1) (n := 24 + 66 * i + 18) ⟨by show _ ≤ 217; omega, by show _ ≤ 1608; omega⟩) dX0_init_29 rfl ?_
    refine G.cinit (st := [.ref q, .int (nI i), .ref q1]) (pre := [[(h0, .inr (0, [.ref q1, .int 0, .int 0]))], [(q1, .inl (t 2, 24, .inr (.inr (.inr (.inr (fun j => if j < i then some (A j 0) else none))))))]] ++ (List.range i).map (fun j => wStage t (A j) zSV)) (C.xs (k := 1 + 9 * i + 1) (n := 24 + 66 * i + 18) ⟨by show _ ≤ 217; omega, by show _ ≤ 1608; omega⟩) (c_X5_init (t := t) q) cai_X5 k_253 (fit_rmN (by decide) (by decide)) ⟨by show _ ≤ 217; omega, by show _ ≤ 1608; omega⟩ (Nat.le_of_ble_eq_true rfl) dX0_init_30 (fun cs1 hcs1 => ?_)
    obtain ⟨a, rfl, rfl⟩ := hcs1
    refine G.astS (i := 1) (j := 0) (i1 := 2 + i) (j1 := 0) (cs' := [[(h0, .inr (0, [.ref q1, .int 0, .int 0]))], [(q1, .inl (t 2, 24, .inr (.inr (.inr (.inr (va_up (fun j => if j < i then some (A j 0) else none) i (some (a 0))))))))]] ++ (List.range i).map (fun j => wStage t (A j) zSV) ++ [wStage t a zSV]) (C.xs (k := 1 + 9 * i + 1 + 8) (n := 24 + 66 * i + 18 + 48) ⟨by show _ ≤ 217; omega, by show _ ≤ 1608; omega⟩) rfl rfl (last_get (by simp; omega)) rfl (vp_lt (by omega) (by decide)) dX0_init_33 (by rw [nI_clamp (by omega)]; rfl) rfl ?_
    rw [fn_more, List.append_assoc, ← st_more]
    refine G.iinc (v := nI (i + 1)) (lv' := [(1, .int (nI (i + 1))), (0, .ref h0)]) (C.xs (k := 1 + 9 * i + 1 + 8) (n := 24 + 66 * i + 18 + 48) ⟨by show _ ≤ 217; omega, by show _ ≤ 1608; omega⟩) dX0_init_34 0 rfl (nI_1 i) (by decide) rfl ?_
    refine G.goto (tgt := 15) (C.xs (k := 1 + 9 * i + 1 + 8) (n := 24 + 66 * i + 18 + 48) ⟨by show _ ≤ 217; omega, by show _ ≤ 1608; omega⟩) dX0_init_37 (by decide) ?_
    have e3 : xs X (1 + 9 * i + 1 + 8) (24 + 66 * i + 18 + 48) = xs X (1 + 9 * (i + 1)) (24 + 66 * (i + 1)) := by
      rw [show 1 + 9 * i + 1 + 8 = 1 + 9 * (i + 1) by omega, show 24 + 66 * i + 18 + 48 = 24 + 66 * (i + 1) by omega]
    rw [e3]
    exact ih (i + 1) _ (by omega)
set_option maxHeartbeats 2000000 in
set_option maxRecDepth 20000 in
theorem c_X0_init {t : Nat → ClassId} (h0 : Nat) : CN t yX0_init cX0_init 2 (rmN 2 217 1608) [.ref h0] [[(h0, .inr (0, [.null, .int 0, .int 0]))]] (fun cs1 => ∃ ad : Nat → Nat → Nat, ad 5 0 = h0 ∧ cs1 = [wActs t ad zSV] ++ fRing t ad (fun _ => zSV)) 217 1608 := by
  refine CN.of (own := RX0) (by decide) rfl rfl (Nat.le_of_ble_eq_true rfl) (fun X C hin hR => ?_)
  show G (xs X 0 0) [[(h0, .inr (0, [.null, .int 0, .int 0]))]] 0 [(0, .ref h0)] []
  refine G.aload_n (C.xs (k := 0) (n := 0) ⟨by decide, by decide⟩) dX0_init_0 0 rfl ?_
  refine G.objInit (C.xs (k := 0) (n := 0) ⟨by decide, by decide⟩) k_250 k_99 k_100 (by decide) (Nat.le_of_ble_eq_true rfl) dX0_init_1 ?_
  refine G.aload_n (C.xs (k := 0) (n := 0) ⟨by decide, by decide⟩) dX0_init_4 0 rfl ?_
  refine G.bipush (v := (24 : Int32)) (C.xs (k := 0) (n := 0) ⟨by decide, by decide⟩) dX0_init_5 (by decide) ?_
  refine G.newq (N := 24) (C.xs (k := 0) (n := 0) ⟨by decide, by decide⟩) k_251 (by decide) (by decide) (Nat.le_of_ble_eq_true rfl) ⟨by decide, by decide⟩ dX0_init_7 (fun q1 => ?_)
  show G (xs X 1 24) [[(h0, .inr (0, [.null, .int 0, .int 0]))], [(q1, .inl (t 2, 24, .inr (.inr (.inr (.inr (fun _ => none))))))]] 10 [(0, .ref h0)] [.ref q1, .ref h0]
  refine G.putF (X := xs X 1 24) (T := TX0) (N := 3) (i := 0) (j := 0) (cs' := [[(h0, .inr (0, [.ref q1, .int 0, .int 0]))], [(q1, .inl (t 2, 24, .inr (.inr (.inr (.inr (fun _ => none))))))]]) (C.xs (k := 1) (n := 24) ⟨by decide, by decide⟩) hin rfl rfl rfl 0 (by decide) k_254 rfl rfl rfl rfl rfl (Nat.le_of_ble_eq_true rfl) dX0_init_10 rfl rfl ?_
  refine G.iconst (v := (0 : Int32)) (C.xs (k := 1) (n := 24) ⟨by decide, by decide⟩) dX0_init_13 (by decide) ?_
  refine G.istore_n (lv' := [(1, .int 0), (0, .ref h0)]) (C.xs (k := 1) (n := 24) ⟨by decide, by decide⟩) dX0_init_14 (by decide) rfl ?_
  exact l_X0_init C hR 24 0 (fun _ _ => 0) rfl
theorem permP {o tr lv p b : va_W} {M : List va_W} : ([o, tr, lv] ++ M ++ [p] ++ [b]).Perm ([o, p, b, lv, tr] ++ M) := by
  have h1 : ([o, tr, lv] ++ M ++ [p] ++ [b]) = [o] ++ (([tr, lv] ++ M) ++ [p, b]) := by simp
  have h2 : [o, p, b, lv, tr] ++ M = [o] ++ ([p, b] ++ ([lv, tr] ++ M)) := by simp
  rw [h1, h2]
  refine List.Perm.append_left [o] ?_
  exact (List.perm_append_comm).trans (List.Perm.append_left [p, b] (List.Perm.append_right M (List.Perm.swap _ _ _)))
set_option maxHeartbeats 2000000 in
set_option maxRecDepth 20000 in
theorem l_X2_init {X : Cx} {t : Nat → ClassId} {h0 q2 : Nat} {a1 : Nat → Nat} (C : gX X t (rmN 2 75 547) cX2_init 2 RX2) (hin : (xmeth X).name = "<init>") (hR : ∀ cs1, (fun cs1 => ∃ ad : Nat → Nat → Nat, ad 10 0 = h0 ∧ cs1 = [wPlanner t ad zSV, wStage t (ad 11) zSV] ++ fLev t ad (fun _ => zSV)) cs1 → RetV (xs X 75 547) cX2_init cs1) : ∀ (d i : Nat) (A : Nat → Nat → Nat), i + d = 7 → G (xs X (10 + 9 * i) (73 + 66 * i)) ([[(h0, .inr (2, [.ref (a1 0), .ref q2, .null, .null, .int 0, .int 0, .int 0]))], wStage t a1 zSV, [(q2, .inl (t 2, 7, .inr (.inr (.inr (.inr (fun j => if j < i then some (A j 0) else none))))))]] ++ (List.range i).map (fun j => wStage t (A j) zSV)) 26 [(1, .int (nI i)), (0, .ref h0)] [] := by
  intro d
  induction d with
  | zero =>
    intro i A hi
    have e : i = 7 := by omega
    subst e
    refine G.iload_n (C.xs (k := 73) (n := 535) ⟨by decide, by decide⟩) dX2_init_26 0 rfl ?_
    refine G.bipush (v := (6 : Int32)) (C.xs (k := 73) (n := 535) ⟨by decide, by decide⟩) dX2_init_27 (by decide) ?_
    refine G.icmp_gt (tgt := 51) (C.xs (k := 73) (n := 535) ⟨by decide, by decide⟩) dX2_init_29 (by decide) (β := Unit) (o1 := some ()) (o2 := none) (r := ()) (if_pos (by decide)) (fun _ => ?_) (fun h => by cases h)
    refine G.aload_n (C.xs (k := 73) (n := 535) ⟨by decide, by decide⟩) dX2_init_51 1 rfl ?_
    refine G.bipush (v := (6 : Int32)) (C.xs (k := 73) (n := 535) ⟨by decide, by decide⟩) dX2_init_52 (by decide) ?_
    refine G.newi (N := 6) (C.xs (k := 73) (n := 535) ⟨by decide, by decide⟩) ka_int (by decide) (by decide) (Nat.le_of_ble_eq_true rfl) ⟨by decide, by decide⟩ dX2_init_54 (fun q3 => ?_)
    refine G.putF (X := xs X 74 541) (T := TX2) (N := 7) (i := 0) (j := 0) (cs' := [[(h0, .inr (2, [.ref (a1 0), .ref q2, .ref q3, .null, .int 0, .int 0, .int 0]))], wStage t a1 zSV, [(q2, .inl (t 2, 7, .inr (.inr (.inr (.inr (fun j => if j < 7 then some (A j 0) else none))))))]] ++ (List.range 7).map (fun j => wStage t (A j) zSV) ++ [[(q3, .inl (t 0, 6, .inl (fun _ => 0)))]]) (C.xs (k := 74) (n := 541) ⟨by decide, by decide⟩) hin rfl rfl rfl 2 (by decide) k_292 rfl rfl rfl rfl rfl (Nat.le_of_ble_eq_true rfl) dX2_init_56 rfl rfl ?_
    refine G.aload_n (C.xs (k := 74) (n := 541) ⟨by decide, by decide⟩) dX2_init_59 1 rfl ?_
    refine G.bipush (v := (6 : Int32)) (C.xs (k := 74) (n := 541) ⟨by decide, by decide⟩) dX2_init_60 (by decide) ?_
    refine G.newi (N := 6) (C.xs (k := 74) (n := 541) ⟨by decide, by decide⟩) ka_int (by decide) (by decide) (Nat.le_of_ble_eq_true rfl) ⟨by decide, by decide⟩ dX2_init_62 (fun q4 => ?_)
    refine G.putF (X := xs X 75 547) (T := TX2) (N := 7) (i := 0) (j := 0) (cs' := [[(h0, .inr (2, [.ref (a1 0), .ref q2, .ref q3, .ref q4, .int 0, .int 0, .int 0]))], wStage t a1 zSV, [(q2, .inl (t 2, 7, .inr (.inr (.inr (.inr (fun j => if j < 7 then some (A j 0) else none))))))]] ++ (List.range 7).map (fun j => wStage t (A j) zSV) ++ [[(q3, .inl (t 0, 6, .inl (fun _ => 0)))]] ++ [[(q4, .inl (t 0, 6, .inl (fun _ => 0)))]]) (C.xs (k := 75) (n := 547) ⟨by decide, by decide⟩) hin rfl rfl rfl 3 (by decide) k_293 rfl rfl rfl rfl rfl (Nat.le_of_ble_eq_true rfl) dX2_init_64 rfl rfl ?_
    refine G.cell (i := 2) (j := 0) (f' := fun j => some ((fun k => if k = 10 then (fun j => if j = 0 then h0 else if j = 1 then q3 else if j = 2 then q4 else q2) else if k = 11 then a1 else A (k - 70)) (70 + j) 0)) rfl rfl (fun j hj => ?_) rfl ?_
    · show (if j < 7 then some (A j 0) else none) = some ((if 70 + j = 10 then (fun j => if j = 0 then h0 else if j = 1 then q3 else if j = 2 then q4 else q2) else if 70 + j = 11 then a1 else A (70 + j - 70)) 0)
      rw [if_pos hj, if_neg (by omega), if_neg (by omega), show 70 + j - 70 = j by omega]
    have e2 : fLev t (fun k => if k = 10 then (fun j => if j = 0 then h0 else if j = 1 then q3 else if j = 2 then q4 else q2) else if k = 11 then a1 else A (k - 70)) (fun _ => zSV) = (List.range 7).map (fun j => wStage t (A j) zSV) := by
      unfold fLev fSt
      apply List.map_congr_left
      intro j _
      show wStage t (if 70 + j = 10 then (fun j => if j = 0 then h0 else if j = 1 then q3 else if j = 2 then q4 else q2) else if 70 + j = 11 then a1 else A (70 + j - 70)) zSV = _
      rw [if_neg (by omega), if_neg (by omega), show 70 + j - 70 = j by omega]
    refine G.perm (permP (o := [(h0, .inr (2, [.ref (a1 0), .ref q2, .ref q3, .ref q4, .int 0, .int 0, .int 0]))]) (tr := wStage t a1 zSV) (p := [(q3, .inl (t 0, 6, .inl (fun _ => 0)))]) (b := [(q4, .inl (t 0, 6, .inl (fun _ => 0)))])) ?_
    refine G.fl (cs' := [wPlanner t (fun k => if k = 10 then (fun j => if j = 0 then h0 else if j = 1 then q3 else if j = 2 then q4 else q2) else if k = 11 then a1 else A (k - 70)) zSV, wStage t ((fun k => if k = 10 then (fun j => if j = 0 then h0 else if j = 1 then q3 else if j = 2 then q4 else q2) else if k = 11 then a1 else A (k - 70)) 11) zSV] ++ fLev t (fun k => if k = 10 then (fun j => if j = 0 then h0 else if j = 1 then q3 else if j = 2 then q4 else q2) else if k = 11 then a1 else A (k - 70)) (fun _ => zSV)) ?_ ?_
    · rw [e2]
      rfl
    · exact hR _ ⟨_, rfl, rfl⟩ _ _ dX2_init_67
  | succ d ih =>
    intro i A hi
    refine G.iload_n (C.xs (k := 10 + 9 * i) (n := 73 + 66 * i) ⟨by show _ ≤ 75; omega, by show _ ≤ 547; omega⟩) dX2_init_26 0 rfl ?_
    refine G.bipush (v := (6 : Int32)) (C.xs (k := 10 + 9 * i) (n := 73 + 66 * i) ⟨by show _ ≤ 75; omega, by show _ ≤ 547; omega⟩) dX2_init_27 (by decide) ?_
    refine G.icmp_gt (tgt := 51) (C.xs (k := 10 + 9 * i) (n := 73 + 66 * i) ⟨by show _ ≤ 75; omega, by show _ ≤ 547; omega⟩) dX2_init_29 (by decide) (β := Unit) (o1 := none) (o2 := some ()) (r := ()) (if_neg (nI_nlt (b := i) (a := 6) (by omega) (by decide))) (fun h => by cases h) (fun _ => ?_)
    refine G.aload_n (C.xs (k := 10 + 9 * i) (n := 73 + 66 * i) ⟨by show _ ≤ 75; omega, by show _ ≤ 547; omega⟩) dX2_init_32 1 rfl ?_
    refine G.get (T := TX2) (N := 7) (i := 0) (j := 0) (v := .ref q2) (C.xs (k := 10 + 9 * i) (n := 73 + 66 * i) ⟨by show _ ≤ 75; omega, by show _ ≤ 547; omega⟩) rfl rfl rfl 1 (by decide) k_291 rfl rfl dX2_init_33 ?_
    refine G.iload_n (C.xs (k := 10 + 9 * i) (n := 73 + 66 * i) ⟨by show _ ≤ 75; omega, by show _ ≤ 547; omega⟩) dX2_init_36 0 rfl ?_
    refine G.new (T := TX5) (N := 18) (ci := 5) (fs := [.int 0, .int 0, .int 0, .int 0, .int 0, .int 0, .int 0, .int 0, .int 0, .int 0, .null, .null, .null, .null, .null, .null, .null, .null]) (C.xs (k := 10 + 9 * i) (n := 73 + 66 * i) ⟨by show _ ≤ 75; omega, by show _ ≤ 547; omega⟩) rfl k_288 k_143 k_79 df_5 ⟨by show _ ≤ 75; omega, by show _ ≤ 547; omega⟩ dX2_init_37 (fun q => ?_)
    refine G.dup (C.xs (k := 10 + 9 * i + 1) (n := 73 + 66 * i + 18) ⟨by show _ ≤ 75; omega, by show _ ≤ 547; omega⟩) dX2_init_40 rfl ?_
    refine G.cinit (st := [.ref q, .int (nI i), .ref q2]) (pre := [[(h0, .inr (2, [.ref (a1 0), .ref q2, .null, .null, .int 0, .int 0, .int 0]))], wStage t a1 zSV, [(q2, .inl (t 2, 7, .inr (.inr (.inr (.inr (fun j => if j < i then some (A j 0) else none))))))]] ++ (List.range i).map (fun j => wStage t (A j) zSV)) (C.xs (k := 10 + 9 * i + 1) (n := 73 + 66 * i + 18) ⟨by show _ ≤ 75; omega, by show _ ≤ 547; omega⟩) (c_X5_init (t := t) q) cai_X5 k_289 (fit_rmN (by decide) (by decide)) ⟨by show _ ≤ 75; omega, by show _ ≤ 547; omega⟩ (Nat.le_of_ble_eq_true rfl) dX2_init_41 (fun cs1 hcs1 => ?_)
    obtain ⟨a, rfl, rfl⟩ := hcs1
    refine G.astS (i := 2) (j := 0) (i1 := 3 + i) (j1 := 0) (cs' := [[(h0, .inr (2, [.ref (a1 0), .ref q2, .null, .null, .int 0, .int 0, .int 0]))], wStage t a1 zSV, [(q2, .inl (t 2, 7, .inr (.inr (.inr (.inr (va_up (fun j => if j < i then some (A j 0) else none) i (some (a 0))))))))]] ++ (List.range i).map (fun j => wStage t (A j) zSV) ++ [wStage t a zSV]) (C.xs (k := 10 + 9 * i + 1 + 8) (n := 73 + 66 * i + 18 + 48) ⟨by show _ ≤ 75; omega, by show _ ≤ 547; omega⟩) rfl rfl (last_get (by simp; omega)) rfl (vp_lt (by omega) (by decide)) dX2_init_44 (by rw [nI_clamp (by omega)]; rfl) rfl ?_
    rw [fn_more, List.append_assoc, ← st_more]
    refine G.iinc (v := nI (i + 1)) (lv' := [(1, .int (nI (i + 1))), (0, .ref h0)]) (C.xs (k := 10 + 9 * i + 1 + 8) (n := 73 + 66 * i + 18 + 48) ⟨by show _ ≤ 75; omega, by show _ ≤ 547; omega⟩) dX2_init_45 0 rfl (nI_1 i) (by decide) rfl ?_
    refine G.goto (tgt := 26) (C.xs (k := 10 + 9 * i + 1 + 8) (n := 73 + 66 * i + 18 + 48) ⟨by show _ ≤ 75; omega, by show _ ≤ 547; omega⟩) dX2_init_48 (by decide) ?_
    have e3 : xs X (10 + 9 * i + 1 + 8) (73 + 66 * i + 18 + 48) = xs X (10 + 9 * (i + 1)) (73 + 66 * (i + 1)) := by
      rw [show 10 + 9 * i + 1 + 8 = 10 + 9 * (i + 1) by omega, show 73 + 66 * i + 18 + 48 = 73 + 66 * (i + 1) by omega]
    rw [e3]
    exact ih (i + 1) _ (by omega)
set_option maxHeartbeats 2000000 in
set_option maxRecDepth 20000 in
theorem c_X2_init {t : Nat → ClassId} (h0 : Nat) : CN t yX2_init cX2_init 2 (rmN 2 75 547) [.ref h0] [[(h0, .inr (2, [.null, .null, .null, .null, .int 0, .int 0, .int 0]))]] (fun cs1 => ∃ ad : Nat → Nat → Nat, ad 10 0 = h0 ∧ cs1 = [wPlanner t ad zSV, wStage t (ad 11) zSV] ++ fLev t ad (fun _ => zSV)) 75 547 := by
  refine CN.of (own := RX2) (by decide) rfl rfl (Nat.le_of_ble_eq_true rfl) (fun X C hin hR => ?_)
  show G (xs X 0 0) [[(h0, .inr (2, [.null, .null, .null, .null, .int 0, .int 0, .int 0]))]] 0 [(0, .ref h0)] []
  refine G.aload_n (C.xs (k := 0) (n := 0) ⟨by decide, by decide⟩) dX2_init_0 0 rfl ?_
  refine G.objInit (C.xs (k := 0) (n := 0) ⟨by decide, by decide⟩) k_287 k_99 k_100 (by decide) (Nat.le_of_ble_eq_true rfl) dX2_init_1 ?_
  refine G.aload_n (C.xs (k := 0) (n := 0) ⟨by decide, by decide⟩) dX2_init_4 0 rfl ?_
  refine G.new (T := TX5) (N := 18) (ci := 5) (fs := [.int 0, .int 0, .int 0, .int 0, .int 0, .int 0, .int 0, .int 0, .int 0, .int 0, .null, .null, .null, .null, .null, .null, .null, .null]) (C.xs (k := 0) (n := 0) ⟨by decide, by decide⟩) rfl k_288 k_143 k_79 df_5 ⟨by decide, by decide⟩ dX2_init_5 (fun q1 => ?_)
  show G (xs X 1 18) [[(h0, .inr (2, [.null, .null, .null, .null, .int 0, .int 0, .int 0]))], [(q1, .inr (5, [.int 0, .int 0, .int 0, .int 0, .int 0, .int 0, .int 0, .int 0, .int 0, .int 0, .null, .null, .null, .null, .null, .null, .null, .null]))]] 8 [(0, .ref h0)] [.ref q1, .ref h0]
  refine G.dup (C.xs (k := 1) (n := 18) ⟨by decide, by decide⟩) dX2_init_8 rfl ?_
  refine G.cinit (pre := [[(h0, .inr (2, [.null, .null, .null, .null, .int 0, .int 0, .int 0]))]]) (C.xs (k := 1) (n := 18) ⟨by decide, by decide⟩) (c_X5_init (t := t) q1) cai_X5 k_289 (fit_rmN (by decide) (by decide)) ⟨by decide, by decide⟩ (Nat.le_of_ble_eq_true rfl) dX2_init_9 (fun cs1 hcs1 => ?_)
  obtain ⟨a1, rfl, rfl⟩ := hcs1
  show G (xs X 9 66) [[(h0, .inr (2, [.null, .null, .null, .null, .int 0, .int 0, .int 0]))], wStage t a1 zSV] 12 [(0, .ref h0)] [.ref (a1 0), .ref h0]
  refine G.putF (X := xs X 9 66) (T := TX2) (N := 7) (i := 0) (j := 0) (cs' := [[(h0, .inr (2, [.ref (a1 0), .null, .null, .null, .int 0, .int 0, .int 0]))], wStage t a1 zSV]) (C.xs (k := 9) (n := 66) ⟨by decide, by decide⟩) hin rfl rfl rfl 0 (by decide) k_290 rfl rfl rfl rfl rfl (Nat.le_of_ble_eq_true rfl) dX2_init_12 rfl rfl ?_
  refine G.aload_n (C.xs (k := 9) (n := 66) ⟨by decide, by decide⟩) dX2_init_15 0 rfl ?_
  refine G.bipush (v := (7 : Int32)) (C.xs (k := 9) (n := 66) ⟨by decide, by decide⟩) dX2_init_16 (by decide) ?_
  refine G.newq (N := 7) (C.xs (k := 9) (n := 66) ⟨by decide, by decide⟩) k_288 (by decide) (by decide) (Nat.le_of_ble_eq_true rfl) ⟨by decide, by decide⟩ dX2_init_18 (fun q2 => ?_)
  show G (xs X 10 73) [[(h0, .inr (2, [.ref (a1 0), .null, .null, .null, .int 0, .int 0, .int 0]))], wStage t a1 zSV, [(q2, .inl (t 2, 7, .inr (.inr (.inr (.inr (fun _ => none))))))]] 21 [(0, .ref h0)] [.ref q2, .ref h0]
  refine G.putF (X := xs X 10 73) (T := TX2) (N := 7) (i := 0) (j := 0) (cs' := [[(h0, .inr (2, [.ref (a1 0), .ref q2, .null, .null, .int 0, .int 0, .int 0]))], wStage t a1 zSV, [(q2, .inl (t 2, 7, .inr (.inr (.inr (.inr (fun _ => none))))))]]) (C.xs (k := 10) (n := 73) ⟨by decide, by decide⟩) hin rfl rfl rfl 1 (by decide) k_291 rfl rfl rfl rfl rfl (Nat.le_of_ble_eq_true rfl) dX2_init_21 rfl rfl ?_
  refine G.iconst (v := (0 : Int32)) (C.xs (k := 10) (n := 73) ⟨by decide, by decide⟩) dX2_init_24 (by decide) ?_
  refine G.istore_n (lv' := [(1, .int 0), (0, .ref h0)]) (C.xs (k := 10) (n := 73) ⟨by decide, by decide⟩) dX2_init_25 (by decide) rfl ?_
  exact l_X2_init C hin hR 7 0 (fun _ _ => 0) rfl
set_option maxHeartbeats 2000000 in
set_option maxRecDepth 20000 in
theorem l_X8_init {X : Cx} {t : Nat → ClassId} {h0 : Nat} {a : Nat → Nat} (C : gX X t (rmN 1 14 2121) cX8_init 2 RX8) (hR : ∀ cs1, (fun cs1 => ∃ (a : Nat → Nat) (v : SV), a 0 = h0 ∧ (∀ k j, ¬ k = 2 → v k j = 0) ∧ (∀ j, j < 8 → v 2 j = -1) ∧ cs1 = [wModel t a v]) cs1 → RetV (xs X 14 2121) cX8_init cs1) : ∀ (d i : Nat) (v : SV), i + d = 8 → a 0 = h0 → (∀ k j, ¬ k = 2 → v k j = 0) → (∀ j, j < i → v 2 j = -1) → G (xs X 14 2121) [wModel t a v] 119 [(1, .int (nI i)), (0, .ref h0)] [] := by
  intro d
  induction d with
  | zero =>
    intro i v hi ha h1 h2
    have e : i = 8 := by omega
    subst e
    refine G.iload_n (C.xs (k := 14) (n := 2121) ⟨by decide, by decide⟩) dX8_init_119 0 rfl ?_
    refine G.bipush (v := (8 : Int32)) (C.xs (k := 14) (n := 2121) ⟨by decide, by decide⟩) dX8_init_120 (by decide) ?_
    refine G.icmp_ge (tgt := 138) (C.xs (k := 14) (n := 2121) ⟨by decide, by decide⟩) dX8_init_122 (by decide) (β := Unit) (o1 := none) (o2 := some ()) (r := ()) (if_neg (by decide)) (fun _ => ?_) (fun h => by cases h)
    exact hR _ ⟨a, v, ha, h1, h2, rfl⟩ _ _ dX8_init_138
  | succ d ih =>
    intro i v hi ha h1 h2
    refine G.iload_n (C.xs (k := 14) (n := 2121) ⟨by decide, by decide⟩) dX8_init_119 0 rfl ?_
    refine G.bipush (v := (8 : Int32)) (C.xs (k := 14) (n := 2121) ⟨by decide, by decide⟩) dX8_init_120 (by decide) ?_
    refine G.icmp_ge (tgt := 138) (C.xs (k := 14) (n := 2121) ⟨by decide, by decide⟩) dX8_init_122 (by decide) (β := Unit) (o1 := some ()) (o2 := none) (r := ()) (if_pos (nI_lt (b := 8) (by omega) (by decide))) (fun h => by cases h) (fun _ => ?_)
    refine G.aload_n (C.xs (k := 14) (n := 2121) ⟨by decide, by decide⟩) dX8_init_125 1 rfl ?_
    subst ha
    refine G.get (T := TX8) (N := 25) (i := 0) (j := 0) (v := .ref (a 2)) (C.xs (k := 14) (n := 2121) ⟨by decide, by decide⟩) rfl rfl rfl 1 (by decide) k_1070 rfl rfl dX8_init_126 ?_
    refine G.iload_n (C.xs (k := 14) (n := 2121) ⟨by decide, by decide⟩) dX8_init_129 0 rfl ?_
    refine G.iconst (v := (-1 : Int32)) (C.xs (k := 14) (n := 2121) ⟨by decide, by decide⟩) dX8_init_130 (by decide) ?_
    have hck : chk (β := Unit) 8 (nI i) (some ()) = some () := by
      unfold chk
      rw [if_neg (vp_lt (n := 8) (by omega) (by decide))]
    refine G.iast (i := 0) (j := 2) (f := v 2) (cs' := [wModel t a (up2 v 2 ((nI i).toNatClampNeg) (-1))]) (C.xs (k := 14) (n := 2121) ⟨by decide, by decide⟩) rfl rfl hck dX8_init_131 (suModelA_2) rfl (fun _ => ?_)
    rw [nI_clamp (by omega)]
    refine G.iinc (v := nI (i + 1)) (lv' := [(1, .int (nI (i + 1))), (0, .ref (a 0))]) (C.xs (k := 14) (n := 2121) ⟨by decide, by decide⟩) dX8_init_132 0 rfl (nI_1 i) (by decide) rfl ?_
    refine G.goto (tgt := 119) (C.xs (k := 14) (n := 2121) ⟨by decide, by decide⟩) dX8_init_135 (by decide) ?_
    refine ih (i + 1) _ (by omega) rfl (fun k j hk => ?_) (fun j hj => ?_)
    · unfold up2 upA
      rw [if_neg hk]
      exact h1 k j hk
    · unfold up2 upA
      rw [if_pos rfl]
      unfold upd
      by_cases e : j = i
      · rw [if_pos e]
      · rw [if_neg e]
        exact h2 j (by omega)
set_option maxHeartbeats 2000000 in
set_option maxRecDepth 20000 in
theorem c_X8_init {t : Nat → ClassId} (h0 : Nat) : CN t yX8_init cX8_init 2 (rmN 1 14 2121) [.ref h0] [[(h0, .inr (8, [.null, .null, .null, .int 0, .int 0, .null, .null, .null, .int 0, .int 0, .int 0, .int 0, .int 0, .int 0, .int 0, .null, .null, .int 0, .null, .null, .null, .null, .null, .null, .int 0]))]] (fun cs1 => ∃ (a : Nat → Nat) (v : SV), a 0 = h0 ∧ (∀ k j, ¬ k = 2 → v k j = 0) ∧ (∀ j, j < 8 → v 2 j = -1) ∧ cs1 = [wModel t a v]) 14 2121 := by
  refine CN.of (own := RX8) (by decide) rfl rfl (Nat.le_of_ble_eq_true rfl) (fun X C hin hR => ?_)
  show G (xs X 0 0) [[(h0, .inr (8, [.null, .null, .null, .int 0, .int 0, .null, .null, .null, .int 0, .int 0, .int 0, .int 0, .int 0, .int 0, .int 0, .null, .null, .int 0, .null, .null, .null, .null, .null, .null, .int 0]))]] 0 [(0, .ref h0)] []
  refine G.aload_n (C.xs (k := 0) (n := 0) ⟨by decide, by decide⟩) dX8_init_0 0 rfl ?_
  refine G.objInit (C.xs (k := 0) (n := 0) ⟨by decide, by decide⟩) k_1068 k_99 k_100 (by decide) (Nat.le_of_ble_eq_true rfl) dX8_init_1 ?_
  refine G.aload_n (C.xs (k := 0) (n := 0) ⟨by decide, by decide⟩) dX8_init_4 0 rfl ?_
  refine G.bipush (v := (8 : Int32)) (C.xs (k := 0) (n := 0) ⟨by decide, by decide⟩) dX8_init_5 (by decide) ?_
  refine G.newi (N := 8) (C.xs (k := 0) (n := 0) ⟨by decide, by decide⟩) ka_int (by decide) (by decide) (Nat.le_of_ble_eq_true rfl) ⟨by decide, by decide⟩ dX8_init_7 (fun q1 => ?_)
  show G (xs X 1 8) [[(h0, .inr (8, [.null, .null, .null, .int 0, .int 0, .null, .null, .null, .int 0, .int 0, .int 0, .int 0, .int 0, .int 0, .int 0, .null, .null, .int 0, .null, .null, .null, .null, .null, .null, .int 0]))], [(q1, .inl (t 0, 8, .inl (fun _ => 0)))]] 9 [(0, .ref h0)] [.ref q1, .ref h0]
  refine G.putF (X := xs X 1 8) (T := TX8) (N := 25) (i := 0) (j := 0) (cs' := [[(h0, .inr (8, [.ref q1, .null, .null, .int 0, .int 0, .null, .null, .null, .int 0, .int 0, .int 0, .int 0, .int 0, .int 0, .int 0, .null, .null, .int 0, .null, .null, .null, .null, .null, .null, .int 0]))], [(q1, .inl (t 0, 8, .inl (fun _ => 0)))]]) (C.xs (k := 1) (n := 8) ⟨by decide, by decide⟩) hin rfl rfl rfl 0 (by decide) k_1069 rfl rfl rfl rfl rfl (Nat.le_of_ble_eq_true rfl) dX8_init_9 rfl rfl ?_
  refine G.aload_n (C.xs (k := 1) (n := 8) ⟨by decide, by decide⟩) dX8_init_12 0 rfl ?_
  refine G.bipush (v := (8 : Int32)) (C.xs (k := 1) (n := 8) ⟨by decide, by decide⟩) dX8_init_13 (by decide) ?_
  refine G.newi (N := 8) (C.xs (k := 1) (n := 8) ⟨by decide, by decide⟩) ka_int (by decide) (by decide) (Nat.le_of_ble_eq_true rfl) ⟨by decide, by decide⟩ dX8_init_15 (fun q2 => ?_)
  show G (xs X 2 16) [[(h0, .inr (8, [.ref q1, .null, .null, .int 0, .int 0, .null, .null, .null, .int 0, .int 0, .int 0, .int 0, .int 0, .int 0, .int 0, .null, .null, .int 0, .null, .null, .null, .null, .null, .null, .int 0]))], [(q1, .inl (t 0, 8, .inl (fun _ => 0)))], [(q2, .inl (t 0, 8, .inl (fun _ => 0)))]] 17 [(0, .ref h0)] [.ref q2, .ref h0]
  refine G.putF (X := xs X 2 16) (T := TX8) (N := 25) (i := 0) (j := 0) (cs' := [[(h0, .inr (8, [.ref q1, .ref q2, .null, .int 0, .int 0, .null, .null, .null, .int 0, .int 0, .int 0, .int 0, .int 0, .int 0, .int 0, .null, .null, .int 0, .null, .null, .null, .null, .null, .null, .int 0]))], [(q1, .inl (t 0, 8, .inl (fun _ => 0)))], [(q2, .inl (t 0, 8, .inl (fun _ => 0)))]]) (C.xs (k := 2) (n := 16) ⟨by decide, by decide⟩) hin rfl rfl rfl 1 (by decide) k_1070 rfl rfl rfl rfl rfl (Nat.le_of_ble_eq_true rfl) dX8_init_17 rfl rfl ?_
  refine G.aload_n (C.xs (k := 2) (n := 16) ⟨by decide, by decide⟩) dX8_init_20 0 rfl ?_
  refine G.sipush (v := (320 : Int32)) (C.xs (k := 2) (n := 16) ⟨by decide, by decide⟩) dX8_init_21 (by decide) ?_
  refine G.newi (N := 320) (C.xs (k := 2) (n := 16) ⟨by decide, by decide⟩) ka_int (by decide) (by decide) (Nat.le_of_ble_eq_true rfl) ⟨by decide, by decide⟩ dX8_init_24 (fun q3 => ?_)
  show G (xs X 3 336) [[(h0, .inr (8, [.ref q1, .ref q2, .null, .int 0, .int 0, .null, .null, .null, .int 0, .int 0, .int 0, .int 0, .int 0, .int 0, .int 0, .null, .null, .int 0, .null, .null, .null, .null, .null, .null, .int 0]))], [(q1, .inl (t 0, 8, .inl (fun _ => 0)))], [(q2, .inl (t 0, 8, .inl (fun _ => 0)))], [(q3, .inl (t 0, 320, .inl (fun _ => 0)))]] 26 [(0, .ref h0)] [.ref q3, .ref h0]
  refine G.putF (X := xs X 3 336) (T := TX8) (N := 25) (i := 0) (j := 0) (cs' := [[(h0, .inr (8, [.ref q1, .ref q2, .ref q3, .int 0, .int 0, .null, .null, .null, .int 0, .int 0, .int 0, .int 0, .int 0, .int 0, .int 0, .null, .null, .int 0, .null, .null, .null, .null, .null, .null, .int 0]))], [(q1, .inl (t 0, 8, .inl (fun _ => 0)))], [(q2, .inl (t 0, 8, .inl (fun _ => 0)))], [(q3, .inl (t 0, 320, .inl (fun _ => 0)))]]) (C.xs (k := 3) (n := 336) ⟨by decide, by decide⟩) hin rfl rfl rfl 2 (by decide) k_1071 rfl rfl rfl rfl rfl (Nat.le_of_ble_eq_true rfl) dX8_init_26 rfl rfl ?_
  refine G.aload_n (C.xs (k := 3) (n := 336) ⟨by decide, by decide⟩) dX8_init_29 0 rfl ?_
  refine G.bipush (v := (55 : Int32)) (C.xs (k := 3) (n := 336) ⟨by decide, by decide⟩) dX8_init_30 (by decide) ?_
  refine G.newi (N := 55) (C.xs (k := 3) (n := 336) ⟨by decide, by decide⟩) ka_int (by decide) (by decide) (Nat.le_of_ble_eq_true rfl) ⟨by decide, by decide⟩ dX8_init_32 (fun q4 => ?_)
  show G (xs X 4 391) [[(h0, .inr (8, [.ref q1, .ref q2, .ref q3, .int 0, .int 0, .null, .null, .null, .int 0, .int 0, .int 0, .int 0, .int 0, .int 0, .int 0, .null, .null, .int 0, .null, .null, .null, .null, .null, .null, .int 0]))], [(q1, .inl (t 0, 8, .inl (fun _ => 0)))], [(q2, .inl (t 0, 8, .inl (fun _ => 0)))], [(q3, .inl (t 0, 320, .inl (fun _ => 0)))], [(q4, .inl (t 0, 55, .inl (fun _ => 0)))]] 34 [(0, .ref h0)] [.ref q4, .ref h0]
  refine G.putF (X := xs X 4 391) (T := TX8) (N := 25) (i := 0) (j := 0) (cs' := [[(h0, .inr (8, [.ref q1, .ref q2, .ref q3, .int 0, .int 0, .ref q4, .null, .null, .int 0, .int 0, .int 0, .int 0, .int 0, .int 0, .int 0, .null, .null, .int 0, .null, .null, .null, .null, .null, .null, .int 0]))], [(q1, .inl (t 0, 8, .inl (fun _ => 0)))], [(q2, .inl (t 0, 8, .inl (fun _ => 0)))], [(q3, .inl (t 0, 320, .inl (fun _ => 0)))], [(q4, .inl (t 0, 55, .inl (fun _ => 0)))]]) (C.xs (k := 4) (n := 391) ⟨by decide, by decide⟩) hin rfl rfl rfl 5 (by decide) k_1074 rfl rfl rfl rfl rfl (Nat.le_of_ble_eq_true rfl) dX8_init_34 rfl rfl ?_
  refine G.aload_n (C.xs (k := 4) (n := 391) ⟨by decide, by decide⟩) dX8_init_37 0 rfl ?_
  refine G.bipush (v := (40 : Int32)) (C.xs (k := 4) (n := 391) ⟨by decide, by decide⟩) dX8_init_38 (by decide) ?_
  refine G.newi (N := 40) (C.xs (k := 4) (n := 391) ⟨by decide, by decide⟩) ka_int (by decide) (by decide) (Nat.le_of_ble_eq_true rfl) ⟨by decide, by decide⟩ dX8_init_40 (fun q5 => ?_)
  show G (xs X 5 431) [[(h0, .inr (8, [.ref q1, .ref q2, .ref q3, .int 0, .int 0, .ref q4, .null, .null, .int 0, .int 0, .int 0, .int 0, .int 0, .int 0, .int 0, .null, .null, .int 0, .null, .null, .null, .null, .null, .null, .int 0]))], [(q1, .inl (t 0, 8, .inl (fun _ => 0)))], [(q2, .inl (t 0, 8, .inl (fun _ => 0)))], [(q3, .inl (t 0, 320, .inl (fun _ => 0)))], [(q4, .inl (t 0, 55, .inl (fun _ => 0)))], [(q5, .inl (t 0, 40, .inl (fun _ => 0)))]] 42 [(0, .ref h0)] [.ref q5, .ref h0]
  refine G.putF (X := xs X 5 431) (T := TX8) (N := 25) (i := 0) (j := 0) (cs' := [[(h0, .inr (8, [.ref q1, .ref q2, .ref q3, .int 0, .int 0, .ref q4, .ref q5, .null, .int 0, .int 0, .int 0, .int 0, .int 0, .int 0, .int 0, .null, .null, .int 0, .null, .null, .null, .null, .null, .null, .int 0]))], [(q1, .inl (t 0, 8, .inl (fun _ => 0)))], [(q2, .inl (t 0, 8, .inl (fun _ => 0)))], [(q3, .inl (t 0, 320, .inl (fun _ => 0)))], [(q4, .inl (t 0, 55, .inl (fun _ => 0)))], [(q5, .inl (t 0, 40, .inl (fun _ => 0)))]]) (C.xs (k := 5) (n := 431) ⟨by decide, by decide⟩) hin rfl rfl rfl 6 (by decide) k_1075 rfl rfl rfl rfl rfl (Nat.le_of_ble_eq_true rfl) dX8_init_42 rfl rfl ?_
  refine G.aload_n (C.xs (k := 5) (n := 431) ⟨by decide, by decide⟩) dX8_init_45 0 rfl ?_
  refine G.bipush (v := (120 : Int32)) (C.xs (k := 5) (n := 431) ⟨by decide, by decide⟩) dX8_init_46 (by decide) ?_
  refine G.newi (N := 120) (C.xs (k := 5) (n := 431) ⟨by decide, by decide⟩) ka_int (by decide) (by decide) (Nat.le_of_ble_eq_true rfl) ⟨by decide, by decide⟩ dX8_init_48 (fun q6 => ?_)
  show G (xs X 6 551) [[(h0, .inr (8, [.ref q1, .ref q2, .ref q3, .int 0, .int 0, .ref q4, .ref q5, .null, .int 0, .int 0, .int 0, .int 0, .int 0, .int 0, .int 0, .null, .null, .int 0, .null, .null, .null, .null, .null, .null, .int 0]))], [(q1, .inl (t 0, 8, .inl (fun _ => 0)))], [(q2, .inl (t 0, 8, .inl (fun _ => 0)))], [(q3, .inl (t 0, 320, .inl (fun _ => 0)))], [(q4, .inl (t 0, 55, .inl (fun _ => 0)))], [(q5, .inl (t 0, 40, .inl (fun _ => 0)))], [(q6, .inl (t 0, 120, .inl (fun _ => 0)))]] 50 [(0, .ref h0)] [.ref q6, .ref h0]
  refine G.putF (X := xs X 6 551) (T := TX8) (N := 25) (i := 0) (j := 0) (cs' := [[(h0, .inr (8, [.ref q1, .ref q2, .ref q3, .int 0, .int 0, .ref q4, .ref q5, .ref q6, .int 0, .int 0, .int 0, .int 0, .int 0, .int 0, .int 0, .null, .null, .int 0, .null, .null, .null, .null, .null, .null, .int 0]))], [(q1, .inl (t 0, 8, .inl (fun _ => 0)))], [(q2, .inl (t 0, 8, .inl (fun _ => 0)))], [(q3, .inl (t 0, 320, .inl (fun _ => 0)))], [(q4, .inl (t 0, 55, .inl (fun _ => 0)))], [(q5, .inl (t 0, 40, .inl (fun _ => 0)))], [(q6, .inl (t 0, 120, .inl (fun _ => 0)))]]) (C.xs (k := 6) (n := 551) ⟨by decide, by decide⟩) hin rfl rfl rfl 7 (by decide) k_1076 rfl rfl rfl rfl rfl (Nat.le_of_ble_eq_true rfl) dX8_init_50 rfl rfl ?_
  refine G.aload_n (C.xs (k := 6) (n := 551) ⟨by decide, by decide⟩) dX8_init_53 0 rfl ?_
  refine G.bipush (v := (55 : Int32)) (C.xs (k := 6) (n := 551) ⟨by decide, by decide⟩) dX8_init_54 (by decide) ?_
  refine G.newi (N := 55) (C.xs (k := 6) (n := 551) ⟨by decide, by decide⟩) ka_int (by decide) (by decide) (Nat.le_of_ble_eq_true rfl) ⟨by decide, by decide⟩ dX8_init_56 (fun q7 => ?_)
  show G (xs X 7 606) [[(h0, .inr (8, [.ref q1, .ref q2, .ref q3, .int 0, .int 0, .ref q4, .ref q5, .ref q6, .int 0, .int 0, .int 0, .int 0, .int 0, .int 0, .int 0, .null, .null, .int 0, .null, .null, .null, .null, .null, .null, .int 0]))], [(q1, .inl (t 0, 8, .inl (fun _ => 0)))], [(q2, .inl (t 0, 8, .inl (fun _ => 0)))], [(q3, .inl (t 0, 320, .inl (fun _ => 0)))], [(q4, .inl (t 0, 55, .inl (fun _ => 0)))], [(q5, .inl (t 0, 40, .inl (fun _ => 0)))], [(q6, .inl (t 0, 120, .inl (fun _ => 0)))], [(q7, .inl (t 0, 55, .inl (fun _ => 0)))]] 58 [(0, .ref h0)] [.ref q7, .ref h0]
  refine G.putF (X := xs X 7 606) (T := TX8) (N := 25) (i := 0) (j := 0) (cs' := [[(h0, .inr (8, [.ref q1, .ref q2, .ref q3, .int 0, .int 0, .ref q4, .ref q5, .ref q6, .int 0, .int 0, .int 0, .int 0, .int 0, .int 0, .int 0, .ref q7, .null, .int 0, .null, .null, .null, .null, .null, .null, .int 0]))], [(q1, .inl (t 0, 8, .inl (fun _ => 0)))], [(q2, .inl (t 0, 8, .inl (fun _ => 0)))], [(q3, .inl (t 0, 320, .inl (fun _ => 0)))], [(q4, .inl (t 0, 55, .inl (fun _ => 0)))], [(q5, .inl (t 0, 40, .inl (fun _ => 0)))], [(q6, .inl (t 0, 120, .inl (fun _ => 0)))], [(q7, .inl (t 0, 55, .inl (fun _ => 0)))]]) (C.xs (k := 7) (n := 606) ⟨by decide, by decide⟩) hin rfl rfl rfl 15 (by decide) k_1084 rfl rfl rfl rfl rfl (Nat.le_of_ble_eq_true rfl) dX8_init_58 rfl rfl ?_
  refine G.aload_n (C.xs (k := 7) (n := 606) ⟨by decide, by decide⟩) dX8_init_61 0 rfl ?_
  refine G.sipush (v := (1320 : Int32)) (C.xs (k := 7) (n := 606) ⟨by decide, by decide⟩) dX8_init_62 (by decide) ?_
  refine G.newi (N := 1320) (C.xs (k := 7) (n := 606) ⟨by decide, by decide⟩) ka_int (by decide) (by decide) (Nat.le_of_ble_eq_true rfl) ⟨by decide, by decide⟩ dX8_init_65 (fun q8 => ?_)
  show G (xs X 8 1926) [[(h0, .inr (8, [.ref q1, .ref q2, .ref q3, .int 0, .int 0, .ref q4, .ref q5, .ref q6, .int 0, .int 0, .int 0, .int 0, .int 0, .int 0, .int 0, .ref q7, .null, .int 0, .null, .null, .null, .null, .null, .null, .int 0]))], [(q1, .inl (t 0, 8, .inl (fun _ => 0)))], [(q2, .inl (t 0, 8, .inl (fun _ => 0)))], [(q3, .inl (t 0, 320, .inl (fun _ => 0)))], [(q4, .inl (t 0, 55, .inl (fun _ => 0)))], [(q5, .inl (t 0, 40, .inl (fun _ => 0)))], [(q6, .inl (t 0, 120, .inl (fun _ => 0)))], [(q7, .inl (t 0, 55, .inl (fun _ => 0)))], [(q8, .inl (t 0, 1320, .inl (fun _ => 0)))]] 67 [(0, .ref h0)] [.ref q8, .ref h0]
  refine G.putF (X := xs X 8 1926) (T := TX8) (N := 25) (i := 0) (j := 0) (cs' := [[(h0, .inr (8, [.ref q1, .ref q2, .ref q3, .int 0, .int 0, .ref q4, .ref q5, .ref q6, .int 0, .int 0, .int 0, .int 0, .int 0, .int 0, .int 0, .ref q7, .ref q8, .int 0, .null, .null, .null, .null, .null, .null, .int 0]))], [(q1, .inl (t 0, 8, .inl (fun _ => 0)))], [(q2, .inl (t 0, 8, .inl (fun _ => 0)))], [(q3, .inl (t 0, 320, .inl (fun _ => 0)))], [(q4, .inl (t 0, 55, .inl (fun _ => 0)))], [(q5, .inl (t 0, 40, .inl (fun _ => 0)))], [(q6, .inl (t 0, 120, .inl (fun _ => 0)))], [(q7, .inl (t 0, 55, .inl (fun _ => 0)))], [(q8, .inl (t 0, 1320, .inl (fun _ => 0)))]]) (C.xs (k := 8) (n := 1926) ⟨by decide, by decide⟩) hin rfl rfl rfl 16 (by decide) k_1085 rfl rfl rfl rfl rfl (Nat.le_of_ble_eq_true rfl) dX8_init_67 rfl rfl ?_
  refine G.aload_n (C.xs (k := 8) (n := 1926) ⟨by decide, by decide⟩) dX8_init_70 0 rfl ?_
  refine G.bipush (v := (55 : Int32)) (C.xs (k := 8) (n := 1926) ⟨by decide, by decide⟩) dX8_init_71 (by decide) ?_
  refine G.newi (N := 55) (C.xs (k := 8) (n := 1926) ⟨by decide, by decide⟩) ka_int (by decide) (by decide) (Nat.le_of_ble_eq_true rfl) ⟨by decide, by decide⟩ dX8_init_73 (fun q9 => ?_)
  show G (xs X 9 1981) [[(h0, .inr (8, [.ref q1, .ref q2, .ref q3, .int 0, .int 0, .ref q4, .ref q5, .ref q6, .int 0, .int 0, .int 0, .int 0, .int 0, .int 0, .int 0, .ref q7, .ref q8, .int 0, .null, .null, .null, .null, .null, .null, .int 0]))], [(q1, .inl (t 0, 8, .inl (fun _ => 0)))], [(q2, .inl (t 0, 8, .inl (fun _ => 0)))], [(q3, .inl (t 0, 320, .inl (fun _ => 0)))], [(q4, .inl (t 0, 55, .inl (fun _ => 0)))], [(q5, .inl (t 0, 40, .inl (fun _ => 0)))], [(q6, .inl (t 0, 120, .inl (fun _ => 0)))], [(q7, .inl (t 0, 55, .inl (fun _ => 0)))], [(q8, .inl (t 0, 1320, .inl (fun _ => 0)))], [(q9, .inl (t 0, 55, .inl (fun _ => 0)))]] 75 [(0, .ref h0)] [.ref q9, .ref h0]
  refine G.putF (X := xs X 9 1981) (T := TX8) (N := 25) (i := 0) (j := 0) (cs' := [[(h0, .inr (8, [.ref q1, .ref q2, .ref q3, .int 0, .int 0, .ref q4, .ref q5, .ref q6, .int 0, .int 0, .int 0, .int 0, .int 0, .int 0, .int 0, .ref q7, .ref q8, .int 0, .ref q9, .null, .null, .null, .null, .null, .int 0]))], [(q1, .inl (t 0, 8, .inl (fun _ => 0)))], [(q2, .inl (t 0, 8, .inl (fun _ => 0)))], [(q3, .inl (t 0, 320, .inl (fun _ => 0)))], [(q4, .inl (t 0, 55, .inl (fun _ => 0)))], [(q5, .inl (t 0, 40, .inl (fun _ => 0)))], [(q6, .inl (t 0, 120, .inl (fun _ => 0)))], [(q7, .inl (t 0, 55, .inl (fun _ => 0)))], [(q8, .inl (t 0, 1320, .inl (fun _ => 0)))], [(q9, .inl (t 0, 55, .inl (fun _ => 0)))]]) (C.xs (k := 9) (n := 1981) ⟨by decide, by decide⟩) hin rfl rfl rfl 18 (by decide) k_1087 rfl rfl rfl rfl rfl (Nat.le_of_ble_eq_true rfl) dX8_init_75 rfl rfl ?_
  refine G.aload_n (C.xs (k := 9) (n := 1981) ⟨by decide, by decide⟩) dX8_init_78 0 rfl ?_
  refine G.bipush (v := (6 : Int32)) (C.xs (k := 9) (n := 1981) ⟨by decide, by decide⟩) dX8_init_79 (by decide) ?_
  refine G.newi (N := 6) (C.xs (k := 9) (n := 1981) ⟨by decide, by decide⟩) ka_int (by decide) (by decide) (Nat.le_of_ble_eq_true rfl) ⟨by decide, by decide⟩ dX8_init_81 (fun q10 => ?_)
  show G (xs X 10 1987) [[(h0, .inr (8, [.ref q1, .ref q2, .ref q3, .int 0, .int 0, .ref q4, .ref q5, .ref q6, .int 0, .int 0, .int 0, .int 0, .int 0, .int 0, .int 0, .ref q7, .ref q8, .int 0, .ref q9, .null, .null, .null, .null, .null, .int 0]))], [(q1, .inl (t 0, 8, .inl (fun _ => 0)))], [(q2, .inl (t 0, 8, .inl (fun _ => 0)))], [(q3, .inl (t 0, 320, .inl (fun _ => 0)))], [(q4, .inl (t 0, 55, .inl (fun _ => 0)))], [(q5, .inl (t 0, 40, .inl (fun _ => 0)))], [(q6, .inl (t 0, 120, .inl (fun _ => 0)))], [(q7, .inl (t 0, 55, .inl (fun _ => 0)))], [(q8, .inl (t 0, 1320, .inl (fun _ => 0)))], [(q9, .inl (t 0, 55, .inl (fun _ => 0)))], [(q10, .inl (t 0, 6, .inl (fun _ => 0)))]] 83 [(0, .ref h0)] [.ref q10, .ref h0]
  refine G.putF (X := xs X 10 1987) (T := TX8) (N := 25) (i := 0) (j := 0) (cs' := [[(h0, .inr (8, [.ref q1, .ref q2, .ref q3, .int 0, .int 0, .ref q4, .ref q5, .ref q6, .int 0, .int 0, .int 0, .int 0, .int 0, .int 0, .int 0, .ref q7, .ref q8, .int 0, .ref q9, .ref q10, .null, .null, .null, .null, .int 0]))], [(q1, .inl (t 0, 8, .inl (fun _ => 0)))], [(q2, .inl (t 0, 8, .inl (fun _ => 0)))], [(q3, .inl (t 0, 320, .inl (fun _ => 0)))], [(q4, .inl (t 0, 55, .inl (fun _ => 0)))], [(q5, .inl (t 0, 40, .inl (fun _ => 0)))], [(q6, .inl (t 0, 120, .inl (fun _ => 0)))], [(q7, .inl (t 0, 55, .inl (fun _ => 0)))], [(q8, .inl (t 0, 1320, .inl (fun _ => 0)))], [(q9, .inl (t 0, 55, .inl (fun _ => 0)))], [(q10, .inl (t 0, 6, .inl (fun _ => 0)))]]) (C.xs (k := 10) (n := 1987) ⟨by decide, by decide⟩) hin rfl rfl rfl 19 (by decide) k_1088 rfl rfl rfl rfl rfl (Nat.le_of_ble_eq_true rfl) dX8_init_83 rfl rfl ?_
  refine G.aload_n (C.xs (k := 10) (n := 1987) ⟨by decide, by decide⟩) dX8_init_86 0 rfl ?_
  refine G.bipush (v := (6 : Int32)) (C.xs (k := 10) (n := 1987) ⟨by decide, by decide⟩) dX8_init_87 (by decide) ?_
  refine G.newi (N := 6) (C.xs (k := 10) (n := 1987) ⟨by decide, by decide⟩) ka_int (by decide) (by decide) (Nat.le_of_ble_eq_true rfl) ⟨by decide, by decide⟩ dX8_init_89 (fun q11 => ?_)
  show G (xs X 11 1993) [[(h0, .inr (8, [.ref q1, .ref q2, .ref q3, .int 0, .int 0, .ref q4, .ref q5, .ref q6, .int 0, .int 0, .int 0, .int 0, .int 0, .int 0, .int 0, .ref q7, .ref q8, .int 0, .ref q9, .ref q10, .null, .null, .null, .null, .int 0]))], [(q1, .inl (t 0, 8, .inl (fun _ => 0)))], [(q2, .inl (t 0, 8, .inl (fun _ => 0)))], [(q3, .inl (t 0, 320, .inl (fun _ => 0)))], [(q4, .inl (t 0, 55, .inl (fun _ => 0)))], [(q5, .inl (t 0, 40, .inl (fun _ => 0)))], [(q6, .inl (t 0, 120, .inl (fun _ => 0)))], [(q7, .inl (t 0, 55, .inl (fun _ => 0)))], [(q8, .inl (t 0, 1320, .inl (fun _ => 0)))], [(q9, .inl (t 0, 55, .inl (fun _ => 0)))], [(q10, .inl (t 0, 6, .inl (fun _ => 0)))], [(q11, .inl (t 0, 6, .inl (fun _ => 0)))]] 91 [(0, .ref h0)] [.ref q11, .ref h0]
  refine G.putF (X := xs X 11 1993) (T := TX8) (N := 25) (i := 0) (j := 0) (cs' := [[(h0, .inr (8, [.ref q1, .ref q2, .ref q3, .int 0, .int 0, .ref q4, .ref q5, .ref q6, .int 0, .int 0, .int 0, .int 0, .int 0, .int 0, .int 0, .ref q7, .ref q8, .int 0, .ref q9, .ref q10, .ref q11, .null, .null, .null, .int 0]))], [(q1, .inl (t 0, 8, .inl (fun _ => 0)))], [(q2, .inl (t 0, 8, .inl (fun _ => 0)))], [(q3, .inl (t 0, 320, .inl (fun _ => 0)))], [(q4, .inl (t 0, 55, .inl (fun _ => 0)))], [(q5, .inl (t 0, 40, .inl (fun _ => 0)))], [(q6, .inl (t 0, 120, .inl (fun _ => 0)))], [(q7, .inl (t 0, 55, .inl (fun _ => 0)))], [(q8, .inl (t 0, 1320, .inl (fun _ => 0)))], [(q9, .inl (t 0, 55, .inl (fun _ => 0)))], [(q10, .inl (t 0, 6, .inl (fun _ => 0)))], [(q11, .inl (t 0, 6, .inl (fun _ => 0)))]]) (C.xs (k := 11) (n := 1993) ⟨by decide, by decide⟩) hin rfl rfl rfl 20 (by decide) k_1089 rfl rfl rfl rfl rfl (Nat.le_of_ble_eq_true rfl) dX8_init_91 rfl rfl ?_
  refine G.aload_n (C.xs (k := 11) (n := 1993) ⟨by decide, by decide⟩) dX8_init_94 0 rfl ?_
  refine G.iconst (v := (2 : Int32)) (C.xs (k := 11) (n := 1993) ⟨by decide, by decide⟩) dX8_init_95 (by decide) ?_
  refine G.newz (N := 2) (C.xs (k := 11) (n := 1993) ⟨by decide, by decide⟩) ka_boolean (by decide) (by decide) (Nat.le_of_ble_eq_true rfl) ⟨by decide, by decide⟩ dX8_init_96 (fun q12 => ?_)
  show G (xs X 12 1995) [[(h0, .inr (8, [.ref q1, .ref q2, .ref q3, .int 0, .int 0, .ref q4, .ref q5, .ref q6, .int 0, .int 0, .int 0, .int 0, .int 0, .int 0, .int 0, .ref q7, .ref q8, .int 0, .ref q9, .ref q10, .ref q11, .null, .null, .null, .int 0]))], [(q1, .inl (t 0, 8, .inl (fun _ => 0)))], [(q2, .inl (t 0, 8, .inl (fun _ => 0)))], [(q3, .inl (t 0, 320, .inl (fun _ => 0)))], [(q4, .inl (t 0, 55, .inl (fun _ => 0)))], [(q5, .inl (t 0, 40, .inl (fun _ => 0)))], [(q6, .inl (t 0, 120, .inl (fun _ => 0)))], [(q7, .inl (t 0, 55, .inl (fun _ => 0)))], [(q8, .inl (t 0, 1320, .inl (fun _ => 0)))], [(q9, .inl (t 0, 55, .inl (fun _ => 0)))], [(q10, .inl (t 0, 6, .inl (fun _ => 0)))], [(q11, .inl (t 0, 6, .inl (fun _ => 0)))], [(q12, .inl (t 1, 2, .inl (fun _ => 0)))]] 98 [(0, .ref h0)] [.ref q12, .ref h0]
  refine G.putF (X := xs X 12 1995) (T := TX8) (N := 25) (i := 0) (j := 0) (cs' := [[(h0, .inr (8, [.ref q1, .ref q2, .ref q3, .int 0, .int 0, .ref q4, .ref q5, .ref q6, .int 0, .int 0, .int 0, .int 0, .int 0, .int 0, .int 0, .ref q7, .ref q8, .int 0, .ref q9, .ref q10, .ref q11, .ref q12, .null, .null, .int 0]))], [(q1, .inl (t 0, 8, .inl (fun _ => 0)))], [(q2, .inl (t 0, 8, .inl (fun _ => 0)))], [(q3, .inl (t 0, 320, .inl (fun _ => 0)))], [(q4, .inl (t 0, 55, .inl (fun _ => 0)))], [(q5, .inl (t 0, 40, .inl (fun _ => 0)))], [(q6, .inl (t 0, 120, .inl (fun _ => 0)))], [(q7, .inl (t 0, 55, .inl (fun _ => 0)))], [(q8, .inl (t 0, 1320, .inl (fun _ => 0)))], [(q9, .inl (t 0, 55, .inl (fun _ => 0)))], [(q10, .inl (t 0, 6, .inl (fun _ => 0)))], [(q11, .inl (t 0, 6, .inl (fun _ => 0)))], [(q12, .inl (t 1, 2, .inl (fun _ => 0)))]]) (C.xs (k := 12) (n := 1995) ⟨by decide, by decide⟩) hin rfl rfl rfl 21 (by decide) k_1090 rfl rfl rfl rfl rfl (Nat.le_of_ble_eq_true rfl) dX8_init_98 rfl rfl ?_
  refine G.aload_n (C.xs (k := 12) (n := 1995) ⟨by decide, by decide⟩) dX8_init_101 0 rfl ?_
  refine G.bipush (v := (110 : Int32)) (C.xs (k := 12) (n := 1995) ⟨by decide, by decide⟩) dX8_init_102 (by decide) ?_
  refine G.newi (N := 110) (C.xs (k := 12) (n := 1995) ⟨by decide, by decide⟩) ka_int (by decide) (by decide) (Nat.le_of_ble_eq_true rfl) ⟨by decide, by decide⟩ dX8_init_104 (fun q13 => ?_)
  show G (xs X 13 2105) [[(h0, .inr (8, [.ref q1, .ref q2, .ref q3, .int 0, .int 0, .ref q4, .ref q5, .ref q6, .int 0, .int 0, .int 0, .int 0, .int 0, .int 0, .int 0, .ref q7, .ref q8, .int 0, .ref q9, .ref q10, .ref q11, .ref q12, .null, .null, .int 0]))], [(q1, .inl (t 0, 8, .inl (fun _ => 0)))], [(q2, .inl (t 0, 8, .inl (fun _ => 0)))], [(q3, .inl (t 0, 320, .inl (fun _ => 0)))], [(q4, .inl (t 0, 55, .inl (fun _ => 0)))], [(q5, .inl (t 0, 40, .inl (fun _ => 0)))], [(q6, .inl (t 0, 120, .inl (fun _ => 0)))], [(q7, .inl (t 0, 55, .inl (fun _ => 0)))], [(q8, .inl (t 0, 1320, .inl (fun _ => 0)))], [(q9, .inl (t 0, 55, .inl (fun _ => 0)))], [(q10, .inl (t 0, 6, .inl (fun _ => 0)))], [(q11, .inl (t 0, 6, .inl (fun _ => 0)))], [(q12, .inl (t 1, 2, .inl (fun _ => 0)))], [(q13, .inl (t 0, 110, .inl (fun _ => 0)))]] 106 [(0, .ref h0)] [.ref q13, .ref h0]
  refine G.putF (X := xs X 13 2105) (T := TX8) (N := 25) (i := 0) (j := 0) (cs' := [[(h0, .inr (8, [.ref q1, .ref q2, .ref q3, .int 0, .int 0, .ref q4, .ref q5, .ref q6, .int 0, .int 0, .int 0, .int 0, .int 0, .int 0, .int 0, .ref q7, .ref q8, .int 0, .ref q9, .ref q10, .ref q11, .ref q12, .ref q13, .null, .int 0]))], [(q1, .inl (t 0, 8, .inl (fun _ => 0)))], [(q2, .inl (t 0, 8, .inl (fun _ => 0)))], [(q3, .inl (t 0, 320, .inl (fun _ => 0)))], [(q4, .inl (t 0, 55, .inl (fun _ => 0)))], [(q5, .inl (t 0, 40, .inl (fun _ => 0)))], [(q6, .inl (t 0, 120, .inl (fun _ => 0)))], [(q7, .inl (t 0, 55, .inl (fun _ => 0)))], [(q8, .inl (t 0, 1320, .inl (fun _ => 0)))], [(q9, .inl (t 0, 55, .inl (fun _ => 0)))], [(q10, .inl (t 0, 6, .inl (fun _ => 0)))], [(q11, .inl (t 0, 6, .inl (fun _ => 0)))], [(q12, .inl (t 1, 2, .inl (fun _ => 0)))], [(q13, .inl (t 0, 110, .inl (fun _ => 0)))]]) (C.xs (k := 13) (n := 2105) ⟨by decide, by decide⟩) hin rfl rfl rfl 22 (by decide) k_1091 rfl rfl rfl rfl rfl (Nat.le_of_ble_eq_true rfl) dX8_init_106 rfl rfl ?_
  refine G.aload_n (C.xs (k := 13) (n := 2105) ⟨by decide, by decide⟩) dX8_init_109 0 rfl ?_
  refine G.bipush (v := (16 : Int32)) (C.xs (k := 13) (n := 2105) ⟨by decide, by decide⟩) dX8_init_110 (by decide) ?_
  refine G.newi (N := 16) (C.xs (k := 13) (n := 2105) ⟨by decide, by decide⟩) ka_int (by decide) (by decide) (Nat.le_of_ble_eq_true rfl) ⟨by decide, by decide⟩ dX8_init_112 (fun q14 => ?_)
  show G (xs X 14 2121) [[(h0, .inr (8, [.ref q1, .ref q2, .ref q3, .int 0, .int 0, .ref q4, .ref q5, .ref q6, .int 0, .int 0, .int 0, .int 0, .int 0, .int 0, .int 0, .ref q7, .ref q8, .int 0, .ref q9, .ref q10, .ref q11, .ref q12, .ref q13, .null, .int 0]))], [(q1, .inl (t 0, 8, .inl (fun _ => 0)))], [(q2, .inl (t 0, 8, .inl (fun _ => 0)))], [(q3, .inl (t 0, 320, .inl (fun _ => 0)))], [(q4, .inl (t 0, 55, .inl (fun _ => 0)))], [(q5, .inl (t 0, 40, .inl (fun _ => 0)))], [(q6, .inl (t 0, 120, .inl (fun _ => 0)))], [(q7, .inl (t 0, 55, .inl (fun _ => 0)))], [(q8, .inl (t 0, 1320, .inl (fun _ => 0)))], [(q9, .inl (t 0, 55, .inl (fun _ => 0)))], [(q10, .inl (t 0, 6, .inl (fun _ => 0)))], [(q11, .inl (t 0, 6, .inl (fun _ => 0)))], [(q12, .inl (t 1, 2, .inl (fun _ => 0)))], [(q13, .inl (t 0, 110, .inl (fun _ => 0)))], [(q14, .inl (t 0, 16, .inl (fun _ => 0)))]] 114 [(0, .ref h0)] [.ref q14, .ref h0]
  refine G.putF (X := xs X 14 2121) (T := TX8) (N := 25) (i := 0) (j := 0) (cs' := [[(h0, .inr (8, [.ref q1, .ref q2, .ref q3, .int 0, .int 0, .ref q4, .ref q5, .ref q6, .int 0, .int 0, .int 0, .int 0, .int 0, .int 0, .int 0, .ref q7, .ref q8, .int 0, .ref q9, .ref q10, .ref q11, .ref q12, .ref q13, .ref q14, .int 0]))], [(q1, .inl (t 0, 8, .inl (fun _ => 0)))], [(q2, .inl (t 0, 8, .inl (fun _ => 0)))], [(q3, .inl (t 0, 320, .inl (fun _ => 0)))], [(q4, .inl (t 0, 55, .inl (fun _ => 0)))], [(q5, .inl (t 0, 40, .inl (fun _ => 0)))], [(q6, .inl (t 0, 120, .inl (fun _ => 0)))], [(q7, .inl (t 0, 55, .inl (fun _ => 0)))], [(q8, .inl (t 0, 1320, .inl (fun _ => 0)))], [(q9, .inl (t 0, 55, .inl (fun _ => 0)))], [(q10, .inl (t 0, 6, .inl (fun _ => 0)))], [(q11, .inl (t 0, 6, .inl (fun _ => 0)))], [(q12, .inl (t 1, 2, .inl (fun _ => 0)))], [(q13, .inl (t 0, 110, .inl (fun _ => 0)))], [(q14, .inl (t 0, 16, .inl (fun _ => 0)))]]) (C.xs (k := 14) (n := 2121) ⟨by decide, by decide⟩) hin rfl rfl rfl 23 (by decide) k_1092 rfl rfl rfl rfl rfl (Nat.le_of_ble_eq_true rfl) dX8_init_114 rfl rfl ?_
  refine G.iconst (v := (0 : Int32)) (C.xs (k := 14) (n := 2121) ⟨by decide, by decide⟩) dX8_init_117 (by decide) ?_
  refine G.istore_n (lv' := [(1, .int 0), (0, .ref h0)]) (C.xs (k := 14) (n := 2121) ⟨by decide, by decide⟩) dX8_init_118 (by decide) rfl ?_
  refine G.fl (cs' := [wModel t (fun j => match j with | 0 => h0 | 1 => q1 | 2 => q2 | 3 => q3 | 4 => q4 | 5 => q5 | 6 => q6 | 7 => q7 | 8 => q8 | 9 => q9 | 10 => q10 | 11 => q11 | 12 => q12 | 13 => q13 | _ => q14) zSV]) rfl ?_
  exact l_X8_init C hR 8 0 zSV rfl rfl (fun _ _ _ => rfl) (fun j hj => absurd hj (by omega))
