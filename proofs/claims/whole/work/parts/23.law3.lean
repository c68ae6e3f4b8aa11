def AllSt (N : Nat) (Rel : RelT) : Prop := St_row N Rel ∧ St_set N Rel ∧ St_copy N Rel ∧ St_drop N Rel ∧ St_feed N Rel ∧ St_show N Rel ∧ St_fault N Rel ∧ St_undo N Rel ∧ St_taps N Rel ∧ St_front N Rel ∧ St_off N Rel ∧ St_back N Rel ∧ St_sit N Rel ∧ St_thing N Rel ∧ St_seat N Rel ∧ St_list N Rel ∧ St_stand N Rel ∧ St_next N Rel ∧ St_ahead N Rel ∧ St_when N Rel ∧ St_comes N Rel ∧ St_order N Rel ∧ St_pack N Rel ∧ St_match N Rel ∧ St_clear N Rel ∧ St_bring N Rel ∧ St_lack N Rel ∧ St_who N Rel ∧ St_wanted N Rel ∧ St_wasOff N Rel ∧ St_wander N Rel ∧ St_drawn N Rel ∧ St_image N Rel ∧ St_restore N Rel ∧ St_kind N Rel ∧ St_as N Rel ∧ St_ask N Rel ∧ St_trace N Rel ∧ St_count N Rel ∧ St_status N Rel
theorem law_cmp {L i : Nat} (hL : L ≤ 384) (hi : i ≤ 400) : (nI L - 6 < nI i) ↔ L < i + 6 := by
  rw [Int32.lt_iff_toInt_lt, nI_toInt (by omega)]
  have h := pk_sub_toInt (a := L) (b := 6) (by omega) (by omega)
  rw [show (6 : Int32) = nI 6 from rfl, h]
  omega
set_option maxHeartbeats 8000000 in
set_option maxRecDepth 20000 in
theorem law_loop {X : Cx} {t : Nat → ClassId} {ad : Nat → Nat → Nat} {a : Nat → Nat} {b L N : Nat} {xs0 : Nat → Int32} {Rel : RelT} (C : gX X t room_1 cL_law 4 RL) (hS0 : SX X b L xs0) (hL : L ≤ 384) (hall : AllSt N Rel) (hend : ∀ cs lv, G X cs 1416 lv [.int 1]) : ∀ (d i : Nat) (vR vW vT vS vD vA vI vJ vE vF vP vQ vK vM : SV) (gW : SV) (gA gL : Nat → SV), L < i + 6 + 6 * d → i ≤ 390 → Rel vR vW vT vS vD vA vI vJ vE vF vP vQ vK vM gW gA gL → G X (WLw t ad a vR vW vT vS vD vA vI vJ vE vF vP vQ vK vM gW gA gL) 18 [(3, .int (nI i)), (2, .ref (a 0)), (1, .ref (ad 0 0)), (0, .ref b)] [] := by
  obtain ⟨s_row, s_set, s_copy, s_drop, s_feed, s_show, s_fault, s_undo, s_taps, s_front, s_off, s_back, s_sit, s_thing, s_seat, s_list, s_stand, s_next, s_ahead, s_when, s_comes, s_order, s_pack, s_match, s_clear, s_bring, s_lack, s_who, s_wanted, s_wasOff, s_wander, s_drawn, s_image, s_restore, s_kind, s_as, s_ask, s_trace, s_count, s_status⟩ := hall
  intro d
  induction d with
  | zero =>
    intro i vR vW vT vS vD vA vI vJ vE vF vP vQ vK vM gW gA gL hd hi hrel
    refine G.iload_n C dL_law_18 0 rfl ?_
    refine G.aload_n C dL_law_19 3 rfl ?_
    refine G.slen C hS0 dL_law_20 ?_
    refine G.bipush (v := (6 : Int32)) C dL_law_21 (by decide) ?_
    refine G.isub C dL_law_23 ?_
    refine G.icmp_gt (tgt := 1415) C dL_law_24 (by decide) (β := Unit) (o1 := some ()) (o2 := none) (r := ()) (if_pos ((law_cmp hL (by omega)).mpr (by omega))) (fun _ => ?_) (fun h => by cases h)
    refine G.iconst (v := (1 : Int32)) C dL_law_1415 (by decide) ?_
    exact hend _ _
  | succ d ih =>
    intro i vR vW vT vS vD vA vI vJ vE vF vP vQ vK vM gW gA gL hd hi hrel
    refine G.iload_n C dL_law_18 0 rfl ?_
    refine G.aload_n C dL_law_19 3 rfl ?_
    refine G.slen C hS0 dL_law_20 ?_
    refine G.bipush (v := (6 : Int32)) C dL_law_21 (by decide) ?_
    refine G.isub C dL_law_23 ?_
    by_cases hx : L < i + 6
    · refine G.icmp_gt (tgt := 1415) C dL_law_24 (by decide) (β := Unit) (o1 := some ()) (o2 := none) (r := ()) (if_pos ((law_cmp hL (by omega)).mpr hx)) (fun _ => ?_) (fun h => by cases h)
      refine G.iconst (v := (1 : Int32)) C dL_law_1415 (by decide) ?_
      exact hend _ _
    refine G.icmp_gt (tgt := 1415) C dL_law_24 (by decide) (β := Unit) (o1 := none) (o2 := some ()) (r := ()) (if_neg (fun h => hx ((law_cmp hL (by omega)).mp h))) (fun h => by cases h) (fun _ => ?_)
    have kk : ∀ (vR vW vT vS vD vA vI vJ vE vF vP vQ vK vM : SV) (gW : SV) (gA gL : Nat → SV), Rel vR vW vT vS vD vA vI vJ vE vF vP vQ vK vM gW gA gL → G X (WLw t ad a vR vW vT vS vD vA vI vJ vE vF vP vQ vK vM gW gA gL) 1409 [(3, .int (nI i)), (2, .ref (a 0)), (1, .ref (ad 0 0)), (0, .ref b)] [] := by
      intro vR vW vT vS vD vA vI vJ vE vF vP vQ vK vM gW gA gL hr
      refine G.iinc (v := nI (i + 6)) (lv' := [(3, .int (nI (i + 6))), (2, .ref (a 0)), (1, .ref (ad 0 0)), (0, .ref b)]) C dL_law_1409 0 rfl (nI_add i 6) (by decide) rfl ?_
      refine G.goto (tgt := 18) C dL_law_1412 (by decide) ?_
      exact ih (i + 6) _ _ _ _ _ _ _ _ _ _ _ _ _ _ _ _ _ (by omega) (by omega) hr
    refine G.aload_n C dL_law_27 3 rfl ?_
    refine G.iload_n C dL_law_28 0 rfl ?_
    refine G.sld C hS0 i rfl (by omega) hL dL_law_29 ?_
    refine G.bipush (v := (63 : Int32)) C dL_law_30 (by decide) ?_
    refine G.iand C dL_law_32 ?_
    generalize xs0 i &&& 63 = z
    by_cases e_0 : z = 0
    · have n_0 : z.toInt = 0 := by rw [e_0]; decide
      refine G.tableIn (tgt := 208) C dL_law_33 (by rw [n_0]; decide) (by rw [n_0]; decide) (by rw [n_0]; rfl) (by decide) ?_
      exact law_row C hS0 hL (by omega) s_row hrel kk
    have n_0 : z.toInt ≠ 0 := fun h9 => e_0 (Int32.toInt_inj.mp (by rw [h9]; decide))
    by_cases e_1 : z = 1
    · have n_1 : z.toInt = 1 := by rw [e_1]; decide
      refine G.tableIn (tgt := 251) C dL_law_33 (by rw [n_1]; decide) (by rw [n_1]; decide) (by rw [n_1]; rfl) (by decide) ?_
      exact law_set C hS0 hL (by omega) s_set hrel kk
    have n_1 : z.toInt ≠ 1 := fun h9 => e_1 (Int32.toInt_inj.mp (by rw [h9]; decide))
    by_cases e_2 : z = 2
    · have n_2 : z.toInt = 2 := by rw [e_2]; decide
      refine G.tableIn (tgt := 294) C dL_law_33 (by rw [n_2]; decide) (by rw [n_2]; decide) (by rw [n_2]; rfl) (by decide) ?_
      exact law_copy C hS0 hL (by omega) s_copy hrel kk
    have n_2 : z.toInt ≠ 2 := fun h9 => e_2 (Int32.toInt_inj.mp (by rw [h9]; decide))
    by_cases e_3 : z = 3
    · have n_3 : z.toInt = 3 := by rw [e_3]; decide
      refine G.tableIn (tgt := 357) C dL_law_33 (by rw [n_3]; decide) (by rw [n_3]; decide) (by rw [n_3]; rfl) (by decide) ?_
      exact law_drop C hS0 hL (by omega) s_drop hrel kk
    have n_3 : z.toInt ≠ 3 := fun h9 => e_3 (Int32.toInt_inj.mp (by rw [h9]; decide))
    by_cases e_4 : z = 4
    · have n_4 : z.toInt = 4 := by rw [e_4]; decide
      refine G.tableIn (tgt := 380) C dL_law_33 (by rw [n_4]; decide) (by rw [n_4]; decide) (by rw [n_4]; rfl) (by decide) ?_
      exact law_feed C hS0 hL (by omega) s_feed hrel kk
    have n_4 : z.toInt ≠ 4 := fun h9 => e_4 (Int32.toInt_inj.mp (by rw [h9]; decide))
    by_cases e_5 : z = 5
    · have n_5 : z.toInt = 5 := by rw [e_5]; decide
      refine G.tableIn (tgt := 403) C dL_law_33 (by rw [n_5]; decide) (by rw [n_5]; decide) (by rw [n_5]; rfl) (by decide) ?_
      exact law_show C hS0 hL (by omega) s_show hrel kk
    have n_5 : z.toInt ≠ 5 := fun h9 => e_5 (Int32.toInt_inj.mp (by rw [h9]; decide))
    by_cases e_6 : z = 6
    · have n_6 : z.toInt = 6 := by rw [e_6]; decide
      refine G.tableIn (tgt := 416) C dL_law_33 (by rw [n_6]; decide) (by rw [n_6]; decide) (by rw [n_6]; rfl) (by decide) ?_
      exact law_fault C hS0 hL (by omega) s_fault hrel kk
    have n_6 : z.toInt ≠ 6 := fun h9 => e_6 (Int32.toInt_inj.mp (by rw [h9]; decide))
    by_cases e_7 : z = 7
    · have n_7 : z.toInt = 7 := by rw [e_7]; decide
      refine G.tableIn (tgt := 429) C dL_law_33 (by rw [n_7]; decide) (by rw [n_7]; decide) (by rw [n_7]; rfl) (by decide) ?_
      exact law_undo C hS0 hL (by omega) s_undo hrel kk
    have n_7 : z.toInt ≠ 7 := fun h9 => e_7 (Int32.toInt_inj.mp (by rw [h9]; decide))
    by_cases e_8 : z = 8
    · have n_8 : z.toInt = 8 := by rw [e_8]; decide
      refine G.tableIn (tgt := 442) C dL_law_33 (by rw [n_8]; decide) (by rw [n_8]; decide) (by rw [n_8]; rfl) (by decide) ?_
      exact law_taps C hS0 hL (by omega) s_taps hrel kk
    have n_8 : z.toInt ≠ 8 := fun h9 => e_8 (Int32.toInt_inj.mp (by rw [h9]; decide))
    by_cases e_9 : z = 9
    · have n_9 : z.toInt = 9 := by rw [e_9]; decide
      refine G.tableIn (tgt := 465) C dL_law_33 (by rw [n_9]; decide) (by rw [n_9]; decide) (by rw [n_9]; rfl) (by decide) ?_
      exact law_front C hS0 hL (by omega) s_front hrel kk
    have n_9 : z.toInt ≠ 9 := fun h9 => e_9 (Int32.toInt_inj.mp (by rw [h9]; decide))
    by_cases e_10 : z = 10
    · have n_10 : z.toInt = 10 := by rw [e_10]; decide
      refine G.tableIn (tgt := 488) C dL_law_33 (by rw [n_10]; decide) (by rw [n_10]; decide) (by rw [n_10]; rfl) (by decide) ?_
      exact law_off C hS0 hL (by omega) s_off hrel kk
    have n_10 : z.toInt ≠ 10 := fun h9 => e_10 (Int32.toInt_inj.mp (by rw [h9]; decide))
    by_cases e_11 : z = 11
    · have n_11 : z.toInt = 11 := by rw [e_11]; decide
      refine G.tableIn (tgt := 511) C dL_law_33 (by rw [n_11]; decide) (by rw [n_11]; decide) (by rw [n_11]; rfl) (by decide) ?_
      exact law_back C hS0 hL (by omega) s_back hrel kk
    have n_11 : z.toInt ≠ 11 := fun h9 => e_11 (Int32.toInt_inj.mp (by rw [h9]; decide))
    by_cases e_12 : z = 12
    · have n_12 : z.toInt = 12 := by rw [e_12]; decide
      refine G.tableIn (tgt := 534) C dL_law_33 (by rw [n_12]; decide) (by rw [n_12]; decide) (by rw [n_12]; rfl) (by decide) ?_
      exact law_sit C hS0 hL (by omega) s_sit hrel kk
    have n_12 : z.toInt ≠ 12 := fun h9 => e_12 (Int32.toInt_inj.mp (by rw [h9]; decide))
    by_cases e_13 : z = 13
    · have n_13 : z.toInt = 13 := by rw [e_13]; decide
      refine G.tableIn (tgt := 577) C dL_law_33 (by rw [n_13]; decide) (by rw [n_13]; decide) (by rw [n_13]; rfl) (by decide) ?_
      exact law_thing C hS0 hL (by omega) s_thing hrel kk
    have n_13 : z.toInt ≠ 13 := fun h9 => e_13 (Int32.toInt_inj.mp (by rw [h9]; decide))
    by_cases e_14 : z = 14
    · have n_14 : z.toInt = 14 := by rw [e_14]; decide
      refine G.tableIn (tgt := 610) C dL_law_33 (by rw [n_14]; decide) (by rw [n_14]; decide) (by rw [n_14]; rfl) (by decide) ?_
      exact law_seat C hS0 hL (by omega) s_seat hrel kk
    have n_14 : z.toInt ≠ 14 := fun h9 => e_14 (Int32.toInt_inj.mp (by rw [h9]; decide))
    by_cases e_15 : z = 15
    · have n_15 : z.toInt = 15 := by rw [e_15]; decide
      refine G.tableIn (tgt := 643) C dL_law_33 (by rw [n_15]; decide) (by rw [n_15]; decide) (by rw [n_15]; rfl) (by decide) ?_
      exact law_list C hS0 hL (by omega) s_list hrel kk
    have n_15 : z.toInt ≠ 15 := fun h9 => e_15 (Int32.toInt_inj.mp (by rw [h9]; decide))
    by_cases e_16 : z = 16
    · have n_16 : z.toInt = 16 := by rw [e_16]; decide
      refine G.tableIn (tgt := 666) C dL_law_33 (by rw [n_16]; decide) (by rw [n_16]; decide) (by rw [n_16]; rfl) (by decide) ?_
      exact law_stand C hS0 hL (by omega) s_stand hrel kk
    have n_16 : z.toInt ≠ 16 := fun h9 => e_16 (Int32.toInt_inj.mp (by rw [h9]; decide))
    by_cases e_17 : z = 17
    · have n_17 : z.toInt = 17 := by rw [e_17]; decide
      refine G.tableIn (tgt := 689) C dL_law_33 (by rw [n_17]; decide) (by rw [n_17]; decide) (by rw [n_17]; rfl) (by decide) ?_
      exact law_next C hS0 hL (by omega) s_next hrel kk
    have n_17 : z.toInt ≠ 17 := fun h9 => e_17 (Int32.toInt_inj.mp (by rw [h9]; decide))
    by_cases e_18 : z = 18
    · have n_18 : z.toInt = 18 := by rw [e_18]; decide
      refine G.tableIn (tgt := 712) C dL_law_33 (by rw [n_18]; decide) (by rw [n_18]; decide) (by rw [n_18]; rfl) (by decide) ?_
      exact law_ahead C hS0 hL (by omega) s_ahead hrel kk
    have n_18 : z.toInt ≠ 18 := fun h9 => e_18 (Int32.toInt_inj.mp (by rw [h9]; decide))
    by_cases e_19 : z = 19
    · have n_19 : z.toInt = 19 := by rw [e_19]; decide
      refine G.tableIn (tgt := 745) C dL_law_33 (by rw [n_19]; decide) (by rw [n_19]; decide) (by rw [n_19]; rfl) (by decide) ?_
      exact law_when C hS0 hL (by omega) s_when hrel kk
    have n_19 : z.toInt ≠ 19 := fun h9 => e_19 (Int32.toInt_inj.mp (by rw [h9]; decide))
    by_cases e_20 : z = 20
    · have n_20 : z.toInt = 20 := by rw [e_20]; decide
      refine G.tableIn (tgt := 778) C dL_law_33 (by rw [n_20]; decide) (by rw [n_20]; decide) (by rw [n_20]; rfl) (by decide) ?_
      exact law_comes C hS0 hL (by omega) s_comes hrel kk
    have n_20 : z.toInt ≠ 20 := fun h9 => e_20 (Int32.toInt_inj.mp (by rw [h9]; decide))
    by_cases e_21 : z = 21
    · have n_21 : z.toInt = 21 := by rw [e_21]; decide
      refine G.tableIn (tgt := 801) C dL_law_33 (by rw [n_21]; decide) (by rw [n_21]; decide) (by rw [n_21]; rfl) (by decide) ?_
      exact law_order C hS0 hL (by omega) s_order hrel kk
    have n_21 : z.toInt ≠ 21 := fun h9 => e_21 (Int32.toInt_inj.mp (by rw [h9]; decide))
    by_cases e_22 : z = 22
    · have n_22 : z.toInt = 22 := by rw [e_22]; decide
      refine G.tableIn (tgt := 824) C dL_law_33 (by rw [n_22]; decide) (by rw [n_22]; decide) (by rw [n_22]; rfl) (by decide) ?_
      exact law_pack C hS0 hL (by omega) s_pack hrel kk
    have n_22 : z.toInt ≠ 22 := fun h9 => e_22 (Int32.toInt_inj.mp (by rw [h9]; decide))
    by_cases e_23 : z = 23
    · have n_23 : z.toInt = 23 := by rw [e_23]; decide
      refine G.tableIn (tgt := 847) C dL_law_33 (by rw [n_23]; decide) (by rw [n_23]; decide) (by rw [n_23]; rfl) (by decide) ?_
      exact law_match C hS0 hL (by omega) s_match hrel kk
    have n_23 : z.toInt ≠ 23 := fun h9 => e_23 (Int32.toInt_inj.mp (by rw [h9]; decide))
    by_cases e_24 : z = 24
    · have n_24 : z.toInt = 24 := by rw [e_24]; decide
      refine G.tableIn (tgt := 860) C dL_law_33 (by rw [n_24]; decide) (by rw [n_24]; decide) (by rw [n_24]; rfl) (by decide) ?_
      exact law_clear C hS0 hL (by omega) s_clear hrel kk
    have n_24 : z.toInt ≠ 24 := fun h9 => e_24 (Int32.toInt_inj.mp (by rw [h9]; decide))
    by_cases e_25 : z = 25
    · have n_25 : z.toInt = 25 := by rw [e_25]; decide
      refine G.tableIn (tgt := 903) C dL_law_33 (by rw [n_25]; decide) (by rw [n_25]; decide) (by rw [n_25]; rfl) (by decide) ?_
      exact law_bring C hS0 hL (by omega) s_bring hrel kk
    have n_25 : z.toInt ≠ 25 := fun h9 => e_25 (Int32.toInt_inj.mp (by rw [h9]; decide))
    by_cases e_26 : z = 26
    · have n_26 : z.toInt = 26 := by rw [e_26]; decide
      refine G.tableIn (tgt := 936) C dL_law_33 (by rw [n_26]; decide) (by rw [n_26]; decide) (by rw [n_26]; rfl) (by decide) ?_
      exact law_lack C hS0 hL (by omega) s_lack hrel kk
    have n_26 : z.toInt ≠ 26 := fun h9 => e_26 (Int32.toInt_inj.mp (by rw [h9]; decide))
    by_cases e_27 : z = 27
    · have n_27 : z.toInt = 27 := by rw [e_27]; decide
      refine G.tableIn (tgt := 949) C dL_law_33 (by rw [n_27]; decide) (by rw [n_27]; decide) (by rw [n_27]; rfl) (by decide) ?_
      exact law_who C hS0 hL (by omega) s_who hrel kk
    have n_27 : z.toInt ≠ 27 := fun h9 => e_27 (Int32.toInt_inj.mp (by rw [h9]; decide))
    by_cases e_28 : z = 28
    · have n_28 : z.toInt = 28 := by rw [e_28]; decide
      refine G.tableIn (tgt := 1012) C dL_law_33 (by rw [n_28]; decide) (by rw [n_28]; decide) (by rw [n_28]; rfl) (by decide) ?_
      exact law_wanted C hS0 hL (by omega) s_wanted hrel kk
    have n_28 : z.toInt ≠ 28 := fun h9 => e_28 (Int32.toInt_inj.mp (by rw [h9]; decide))
    by_cases e_29 : z = 29
    · have n_29 : z.toInt = 29 := by rw [e_29]; decide
      refine G.tableIn (tgt := 1075) C dL_law_33 (by rw [n_29]; decide) (by rw [n_29]; decide) (by rw [n_29]; rfl) (by decide) ?_
      exact law_wasOff C hS0 hL (by omega) s_wasOff hrel kk
    have n_29 : z.toInt ≠ 29 := fun h9 => e_29 (Int32.toInt_inj.mp (by rw [h9]; decide))
    by_cases e_30 : z = 30
    · have n_30 : z.toInt = 30 := by rw [e_30]; decide
      refine G.tableIn (tgt := 1118) C dL_law_33 (by rw [n_30]; decide) (by rw [n_30]; decide) (by rw [n_30]; rfl) (by decide) ?_
      exact law_wander C hS0 hL (by omega) s_wander hrel kk
    have n_30 : z.toInt ≠ 30 := fun h9 => e_30 (Int32.toInt_inj.mp (by rw [h9]; decide))
    by_cases e_31 : z = 31
    · have n_31 : z.toInt = 31 := by rw [e_31]; decide
      refine G.tableIn (tgt := 1172) C dL_law_33 (by rw [n_31]; decide) (by rw [n_31]; decide) (by rw [n_31]; rfl) (by decide) ?_
      exact law_drawn C hS0 hL (by omega) s_drawn hrel kk
    have n_31 : z.toInt ≠ 31 := fun h9 => e_31 (Int32.toInt_inj.mp (by rw [h9]; decide))
    by_cases e_32 : z = 32
    · have n_32 : z.toInt = 32 := by rw [e_32]; decide
      refine G.tableIn (tgt := 1215) C dL_law_33 (by rw [n_32]; decide) (by rw [n_32]; decide) (by rw [n_32]; rfl) (by decide) ?_
      exact law_image C hS0 hL (by omega) s_image hrel kk
    have n_32 : z.toInt ≠ 32 := fun h9 => e_32 (Int32.toInt_inj.mp (by rw [h9]; decide))
    by_cases e_33 : z = 33
    · have n_33 : z.toInt = 33 := by rw [e_33]; decide
      refine G.tableIn (tgt := 1238) C dL_law_33 (by rw [n_33]; decide) (by rw [n_33]; decide) (by rw [n_33]; rfl) (by decide) ?_
      exact law_restore C hS0 hL (by omega) s_restore hrel kk
    have n_33 : z.toInt ≠ 33 := fun h9 => e_33 (Int32.toInt_inj.mp (by rw [h9]; decide))
    by_cases e_34 : z = 34
    · have n_34 : z.toInt = 34 := by rw [e_34]; decide
      refine G.tableIn (tgt := 1261) C dL_law_33 (by rw [n_34]; decide) (by rw [n_34]; decide) (by rw [n_34]; rfl) (by decide) ?_
      exact law_kind C hS0 hL (by omega) s_kind hrel kk
    have n_34 : z.toInt ≠ 34 := fun h9 => e_34 (Int32.toInt_inj.mp (by rw [h9]; decide))
    by_cases e_35 : z = 35
    · have n_35 : z.toInt = 35 := by rw [e_35]; decide
      refine G.tableIn (tgt := 1284) C dL_law_33 (by rw [n_35]; decide) (by rw [n_35]; decide) (by rw [n_35]; rfl) (by decide) ?_
      exact law_as C hS0 hL (by omega) s_as hrel kk
    have n_35 : z.toInt ≠ 35 := fun h9 => e_35 (Int32.toInt_inj.mp (by rw [h9]; decide))
    by_cases e_36 : z = 36
    · have n_36 : z.toInt = 36 := by rw [e_36]; decide
      refine G.tableIn (tgt := 1317) C dL_law_33 (by rw [n_36]; decide) (by rw [n_36]; decide) (by rw [n_36]; rfl) (by decide) ?_
      exact law_ask C hS0 hL (by omega) s_ask hrel kk
    have n_36 : z.toInt ≠ 36 := fun h9 => e_36 (Int32.toInt_inj.mp (by rw [h9]; decide))
    by_cases e_37 : z = 37
    · have n_37 : z.toInt = 37 := by rw [e_37]; decide
      refine G.tableIn (tgt := 1350) C dL_law_33 (by rw [n_37]; decide) (by rw [n_37]; decide) (by rw [n_37]; rfl) (by decide) ?_
      exact law_trace C hS0 hL (by omega) s_trace hrel kk
    have n_37 : z.toInt ≠ 37 := fun h9 => e_37 (Int32.toInt_inj.mp (by rw [h9]; decide))
    by_cases e_38 : z = 38
    · have n_38 : z.toInt = 38 := by rw [e_38]; decide
      refine G.tableIn (tgt := 1373) C dL_law_33 (by rw [n_38]; decide) (by rw [n_38]; decide) (by rw [n_38]; rfl) (by decide) ?_
      exact law_count C hS0 hL (by omega) s_count hrel kk
    have n_38 : z.toInt ≠ 38 := fun h9 => e_38 (Int32.toInt_inj.mp (by rw [h9]; decide))
    by_cases e_39 : z = 39
    · have n_39 : z.toInt = 39 := by rw [e_39]; decide
      refine G.tableIn (tgt := 1396) C dL_law_33 (by rw [n_39]; decide) (by rw [n_39]; decide) (by rw [n_39]; rfl) (by decide) ?_
      exact law_status C hS0 hL (by omega) s_status hrel kk
    have n_39 : z.toInt ≠ 39 := fun h9 => e_39 (Int32.toInt_inj.mp (by rw [h9]; decide))
    refine G.tableOut (tgt := 1409) C dL_law_33 (by omega) (by decide) ?_
    exact kk _ _ _ _ _ _ _ _ _ _ _ _ _ _ _ _ _ hrel
