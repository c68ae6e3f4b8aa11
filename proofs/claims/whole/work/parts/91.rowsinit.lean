/-! the last constructor, over the one allocation of rows of rows -/
def GMna : Prop := ∀ {X : Cx} {t : Nat → ClassId} {R : Room} {cc : ByteArray} {nL : Nat} {own : String} {cs : List va_W} {pc k n index : Nat} {lv : List (Nat × Value)} {st : List Value}, gX (xs X k n) t R cc nL own → Cond.classLink own index "[[I" ∈ WS → Cond.arrayClass .int ∈ WS → (k + 9 ≤ R.cells ∧ n + 328 ≤ R.slots) → decode cc pc = .ok (.multianewarray index 2, 4) → (∀ (q : Nat) (r : Nat → Nat), G (xs X (k + 9) (n + 328)) (cs ++ ([[(q, .inl (t 3, 8, .inr (.inr (.inr (.inr (fun i => if i < 8 then some (r i) else none))))))]] ++ (List.range 8).map (fun i => [(r i, .inl (t 0, 40, .inl (fun _ => 0)))]))) (pc + 4) lv (.ref q :: st)) → G (xs X k n) cs pc lv (.int 40 :: .int 8 :: st)
theorem permRw {o it la si : va_W} {M : List va_W} : ([o, it] ++ M ++ [la] ++ [si]).Perm ([o, la, si, it] ++ M) := by
  have h1 : ([o, it] ++ M ++ [la] ++ [si]) = [o] ++ (([it] ++ M) ++ [la, si]) := by simp
  have h2 : [o, la, si, it] ++ M = [o] ++ ([la, si] ++ ([it] ++ M)) := by simp
  rw [h1, h2]
  exact List.Perm.append_left [o] List.perm_append_comm
set_option maxHeartbeats 2000000 in
set_option maxRecDepth 20000 in
theorem l_X3_init {X : Cx} {t : Nat → ClassId} {h0 : Nat} {ad : Nat → Nat → Nat} (C : gX X t (rmN 1 11 344) cX3_init 2 RX3) (hR : ∀ cs1, (fun cs1 => ∃ (ad : Nat → Nat → Nat) (v : SV), ad 1 0 = h0 ∧ (∀ j, j < 8 → v 1 j = -1 ∧ v 2 j = 0) ∧ cs1 = [wRows t ad v] ++ fRows t ad zSV) cs1 → RetV (xs X 11 344) cX3_init cs1) : ∀ (d i : Nat) (v : SV), i + d = 8 → ad 1 0 = h0 → (∀ j, v 2 j = 0) → (∀ j, j < i → v 1 j = -1) → G (xs X 11 344) ([wRows t ad v] ++ fRows t ad zSV) 34 [(1, .int (nI i)), (0, .ref h0)] [] := by
  intro d
  induction d with
  | zero =>
    intro i v hi ha h1 h2
    have e : i = 8 := by omega
    subst e
    refine G.iload_n (C.xs (k := 11) (n := 344) ⟨by decide, by decide⟩) dX3_init_34 0 rfl ?_
    refine G.bipush (v := (8 : Int32)) (C.xs (k := 11) (n := 344) ⟨by decide, by decide⟩) dX3_init_35 (by decide) ?_
    refine G.icmp_ge (tgt := 53) (C.xs (k := 11) (n := 344) ⟨by decide, by decide⟩) dX3_init_37 (by decide) (β := Unit) (o1 := none) (o2 := some ()) (r := ()) (if_neg (by decide)) (fun _ => ?_) (fun h => by cases h)
    exact hR _ ⟨ad, v, ha, fun j hj => ⟨h2 j hj, h1 j⟩, rfl⟩ _ _ dX3_init_53
  | succ d ih =>
    intro i v hi ha h1 h2
    refine G.iload_n (C.xs (k := 11) (n := 344) ⟨by decide, by decide⟩) dX3_init_34 0 rfl ?_
    refine G.bipush (v := (8 : Int32)) (C.xs (k := 11) (n := 344) ⟨by decide, by decide⟩) dX3_init_35 (by decide) ?_
    refine G.icmp_ge (tgt := 53) (C.xs (k := 11) (n := 344) ⟨by decide, by decide⟩) dX3_init_37 (by decide) (β := Unit) (o1 := some ()) (o2 := none) (r := ()) (if_pos (nI_lt (b := 8) (by omega) (by decide))) (fun h => by cases h) (fun _ => ?_)
    refine G.aload_n (C.xs (k := 11) (n := 344) ⟨by decide, by decide⟩) dX3_init_40 1 rfl ?_
    subst ha
    refine G.get (T := TX3) (N := 3) (i := 0) (j := 0) (v := .ref (ad 1 1)) (C.xs (k := 11) (n := 344) ⟨by decide, by decide⟩) rfl rfl rfl 1 (by decide) k_110 rfl rfl dX3_init_41 ?_
    refine G.iload_n (C.xs (k := 11) (n := 344) ⟨by decide, by decide⟩) dX3_init_44 0 rfl ?_
    refine G.iconst (v := (-1 : Int32)) (C.xs (k := 11) (n := 344) ⟨by decide, by decide⟩) dX3_init_45 (by decide) ?_
    have hck : chk (β := Unit) 8 (nI i) (some ()) = some () := by
      unfold chk
      rw [if_neg (vp_lt (n := 8) (by omega) (by decide))]
    refine G.iast (i := 0) (j := 1) (f := v 1) (cs' := [wRows t ad (up2 v 1 ((nI i).toNatClampNeg) (-1))] ++ fRows t ad zSV) (C.xs (k := 11) (n := 344) ⟨by decide, by decide⟩) rfl rfl hck dX3_init_46 (suRowsA_1) rfl (fun _ => ?_)
    rw [nI_clamp (by omega)]
    refine G.iinc (v := nI (i + 1)) (lv' := [(1, .int (nI (i + 1))), (0, .ref (ad 1 0))]) (C.xs (k := 11) (n := 344) ⟨by decide, by decide⟩) dX3_init_47 0 rfl (nI_1 i) (by decide) rfl ?_
    refine G.goto (tgt := 34) (C.xs (k := 11) (n := 344) ⟨by decide, by decide⟩) dX3_init_50 (by decide) ?_
    refine ih (i + 1) _ (by omega) rfl (fun j => ?_) (fun j hj => ?_)
    · unfold up2 upA
      rw [if_neg (by decide)]
      exact h1 j
    · unfold up2 upA
      rw [if_pos rfl]
      unfold upd
      by_cases e : j = i
      · rw [if_pos e]
      · rw [if_neg e]
        exact h2 j (by omega)
def adR (h0 q1 q2 qi : Nat) (r : Nat → Nat) : Nat → Nat → Nat := fun k => if k = 1 then (fun j => if j = 0 then h0 else if j = 1 then q1 else if j = 2 then q2 else qi) else fun _ => r (k - 20)
set_option maxHeartbeats 2000000 in
set_option maxRecDepth 20000 in
theorem c_X3_init (hM : GMna) (t : Nat → ClassId) (h0 : Nat) : CN t yX3_init cX3_init 2 (rmN 1 11 344) [.ref h0] [[(h0, .inr (3, [.null, .null, .null]))]] (fun cs1 => ∃ (ad : Nat → Nat → Nat) (v : SV), ad 1 0 = h0 ∧ (∀ j, j < 8 → v 1 j = -1 ∧ v 2 j = 0) ∧ cs1 = [wRows t ad v] ++ fRows t ad zSV) 11 344 := by
  refine CN.of (own := RX3) (by decide) rfl rfl (Nat.le_of_ble_eq_true rfl) (fun X C hin hR => ?_)
  show G (xs X 0 0) [[(h0, .inr (3, [.null, .null, .null]))]] 0 [(0, .ref h0)] []
  refine G.aload_n (C.xs (k := 0) (n := 0) ⟨by decide, by decide⟩) dX3_init_0 0 rfl ?_
  refine G.objInit (C.xs (k := 0) (n := 0) ⟨by decide, by decide⟩) k_106 k_99 k_100 (by decide) (Nat.le_of_ble_eq_true rfl) dX3_init_1 ?_
  refine G.aload_n (C.xs (k := 0) (n := 0) ⟨by decide, by decide⟩) dX3_init_4 0 rfl ?_
  refine G.bipush (v := (8 : Int32)) (C.xs (k := 0) (n := 0) ⟨by decide, by decide⟩) dX3_init_5 (by decide) ?_
  refine G.bipush (v := (40 : Int32)) (C.xs (k := 0) (n := 0) ⟨by decide, by decide⟩) dX3_init_7 (by decide) ?_
  refine hM (C.xs (k := 0) (n := 0) ⟨by decide, by decide⟩) k_107 ka_int ⟨by decide, by decide⟩ dX3_init_9 (fun qi r => ?_)
  refine G.fl (cs' := [[(h0, .inr (3, [.null, .null, .null]))], [(qi, .inl (t 3, 8, .inr (.inr (.inr (.inr (fun i => if i < 8 then some (r i) else none))))))]] ++ (List.range 8).map (fun i => [(r i, .inl (t 0, 40, .inl (fun _ => 0)))])) rfl ?_
  refine G.putF (X := xs X 9 328) (T := TX3) (N := 3) (i := 0) (j := 0) (cs' := [[(h0, .inr (3, [.ref qi, .null, .null]))], [(qi, .inl (t 3, 8, .inr (.inr (.inr (.inr (fun i => if i < 8 then some (r i) else none))))))]] ++ (List.range 8).map (fun i => [(r i, .inl (t 0, 40, .inl (fun _ => 0)))])) (C.xs (k := 9) (n := 328) ⟨by decide, by decide⟩) hin rfl rfl rfl 0 (by decide) k_109 rfl rfl rfl rfl rfl (Nat.le_of_ble_eq_true rfl) dX3_init_13 rfl rfl ?_
  refine G.aload_n (C.xs (k := 9) (n := 328) ⟨by decide, by decide⟩) dX3_init_16 0 rfl ?_
  refine G.bipush (v := (8 : Int32)) (C.xs (k := 9) (n := 328) ⟨by decide, by decide⟩) dX3_init_17 (by decide) ?_
  refine G.newi (N := 8) (C.xs (k := 9) (n := 328) ⟨by decide, by decide⟩) ka_int (by decide) (by decide) (Nat.le_of_ble_eq_true rfl) ⟨by decide, by decide⟩ dX3_init_19 (fun q1 => ?_)
  refine G.putF (X := xs X 10 336) (T := TX3) (N := 3) (i := 0) (j := 0) (cs' := [[(h0, .inr (3, [.ref qi, .ref q1, .null]))], [(qi, .inl (t 3, 8, .inr (.inr (.inr (.inr (fun i => if i < 8 then some (r i) else none))))))]] ++ (List.range 8).map (fun i => [(r i, .inl (t 0, 40, .inl (fun _ => 0)))]) ++ [[(q1, .inl (t 0, 8, .inl (fun _ => 0)))]]) (C.xs (k := 10) (n := 336) ⟨by decide, by decide⟩) hin rfl rfl rfl 1 (by decide) k_110 rfl rfl rfl rfl rfl (Nat.le_of_ble_eq_true rfl) dX3_init_21 rfl rfl ?_
  refine G.aload_n (C.xs (k := 10) (n := 336) ⟨by decide, by decide⟩) dX3_init_24 0 rfl ?_
  refine G.bipush (v := (8 : Int32)) (C.xs (k := 10) (n := 336) ⟨by decide, by decide⟩) dX3_init_25 (by decide) ?_
  refine G.newi (N := 8) (C.xs (k := 10) (n := 336) ⟨by decide, by decide⟩) ka_int (by decide) (by decide) (Nat.le_of_ble_eq_true rfl) ⟨by decide, by decide⟩ dX3_init_27 (fun q2 => ?_)
  refine G.putF (X := xs X 11 344) (T := TX3) (N := 3) (i := 0) (j := 0) (cs' := [[(h0, .inr (3, [.ref qi, .ref q1, .ref q2]))], [(qi, .inl (t 3, 8, .inr (.inr (.inr (.inr (fun i => if i < 8 then some (r i) else none))))))]] ++ (List.range 8).map (fun i => [(r i, .inl (t 0, 40, .inl (fun _ => 0)))]) ++ [[(q1, .inl (t 0, 8, .inl (fun _ => 0)))]] ++ [[(q2, .inl (t 0, 8, .inl (fun _ => 0)))]]) (C.xs (k := 11) (n := 344) ⟨by decide, by decide⟩) hin rfl rfl rfl 2 (by decide) k_111 rfl rfl rfl rfl rfl (Nat.le_of_ble_eq_true rfl) dX3_init_29 rfl rfl ?_
  refine G.iconst (v := (0 : Int32)) (C.xs (k := 11) (n := 344) ⟨by decide, by decide⟩) dX3_init_32 (by decide) ?_
  refine G.istore_n (lv' := [(1, .int 0), (0, .ref h0)]) (C.xs (k := 11) (n := 344) ⟨by decide, by decide⟩) dX3_init_33 (by decide) rfl ?_
  refine G.cell (i := 1) (j := 0) (f' := fun j => some (adR h0 q1 q2 qi r (20 + j) 0)) rfl rfl (fun j hj => ?_) rfl ?_
  · show (if j < 8 then some (r j) else none) = some ((if 20 + j = 1 then (fun j => if j = 0 then h0 else if j = 1 then q1 else if j = 2 then q2 else qi) else fun _ => r (20 + j - 20)) 0)
    rw [if_pos hj, if_neg (by omega), show 20 + j - 20 = j by omega]
  have e2 : fRows t (adR h0 q1 q2 qi r) zSV = (List.range 8).map (fun i => ([(r i, .inl (t 0, 40, .inl (fun _ => 0)))] : va_W)) := by
    unfold fRows
    apply List.map_congr_left
    intro j _
    show ([((if 20 + j = 1 then (fun j => if j = 0 then h0 else if j = 1 then q1 else if j = 2 then q2 else qi) else fun _ => r (20 + j - 20)) 0, .inl (t 0, 40, .inl (zSV j)))] : va_W) = _
    rw [if_neg (by omega), show 20 + j - 20 = j by omega]
    rfl
  refine G.perm (permRw (o := [(h0, .inr (3, [.ref qi, .ref q1, .ref q2]))]) (la := [(q1, .inl (t 0, 8, .inl (fun _ => 0)))]) (si := [(q2, .inl (t 0, 8, .inl (fun _ => 0)))])) ?_
  refine G.fl (cs' := [wRows t (adR h0 q1 q2 qi r) zSV] ++ fRows t (adR h0 q1 q2 qi r) zSV) ?_ ?_
  · rw [e2]
    rfl
  · exact l_X3_init C hR 8 0 zSV rfl rfl (fun _ => rfl) (fun j hj => absurd hj (by omega))
