/-! order: the step -/
theorem l_bits {N : Nat} {vS vP : SV} {gL : Nat → SV} {S : Sh} {B : Nat} (hc : RC vS S) (hi : SInv B S) : ∀ d i n a, i + d = S.2.2.2.2.length → d < n → a < 64 → (∀ q, a.testBit q = true ↔ ∃ i', i' < i ∧ S.2.2.2.2.getD i' 0 = q) → ∃ m, (∀ K, F_X2_findBestOrder_L4 N vS vP gL K n (nI a) (nI i) = K (nI m)) ∧ m < 64 ∧ ∀ q, m.testBit q = true ↔ q ∈ S.2.2.2.2 := by
  have h1 := hi.1
  have h2 := len6 hi
  intro d
  induction d with
  | zero =>
    intro i n a hid hn ha hb
    obtain ⟨n, rfl⟩ : ∃ m, n = m + 1 := ⟨n - 1, by omega⟩
    have e : i = S.2.2.2.2.length := by omega
    subst e
    refine ⟨a, fun K => by rw [F_X2_findBestOrder_L4, hc.2.2.2.2.1, if_neg (nI_nlt (by omega) (by omega))], ha, fun q => ?_⟩
    rw [hb q]
    constructor
    · rintro ⟨i', h3, h4⟩
      rw [← h4]
      exact getD_mem h3
    · intro h3
      obtain ⟨i', hil, he⟩ := List.getElem_of_mem h3
      refine ⟨i', hil, ?_⟩
      rw [List.getD_eq_getElem?_getD, List.getElem?_eq_getElem hil]
      exact he
  | succ d ih =>
    intro i n a hid hn ha hb
    obtain ⟨n, rfl⟩ : ∃ m, n = m + 1 := ⟨n - 1, by omega⟩
    have hil : i < S.2.2.2.2.length := by omega
    have hlt := list_lt hi hil
    have c8 := hc.2.2.2.2.2.2.2.2.2 i hil
    generalize hj2 : S.2.2.2.2.getD i 0 = t at hlt c8
    have h2t : 2 ^ t ≤ 32 := Nat.le_trans (Nat.pow_le_pow_right (by omega) (show t ≤ 5 by omega)) (by decide)
    obtain ⟨m, m1, m2, m3⟩ := ih (i + 1) n (a ||| 2 ^ t) (by omega) (by omega) (Nat.or_lt_two_pow (n := 6) ha (by omega)) (fun q => by
      rw [tb_or, hb q]
      constructor
      · rintro (⟨i', h3, h4⟩ | h)
        · exact ⟨i', by omega, h4⟩
        · exact ⟨i, by omega, by rw [hj2]; exact h⟩
      · rintro ⟨i', h3, h4⟩
        by_cases y : i' = i
        · rw [y, hj2] at h4
          exact Or.inr h4
        · exact Or.inl ⟨i', by omega, h4⟩)
    refine ⟨m, fun K => ?_, m2, m3⟩
    rw [F_X2_findBestOrder_L4, hc.2.2.2.2.1, if_pos (nI_lt hil (by omega)), chk_in (n := 6) (k := i) (by omega) (by decide), nI_clamp (by omega), c8, or_n (by omega), nI_1, m1]
theorem l_rows {N mm : Nat} (hN : 3000 ≤ N) {x1 : Int32} {vC vM : SV} {as : Nat → Int32} {S : Sh} (hc : RC vC S) (hm : RM (vM 4) S) (hi : SInv 999 S) (hmm : ∀ q, mm.testBit q = true ↔ q ∈ S.2.2.2.2) : ∀ d t m w, t + d = S.2.2.1 → d < m → OM vM as w → (∀ i, i < 55 → w 4 i = vM 4 i) → (∀ i, i < ((List.range t).filter (fun i => mm.testBit i)).length → w 10 i = nI (((List.range t).filter (fun i => mm.testBit i)).getD i 0)) → ∃ w', (∀ K, F_X8_order_L27 N x1 K m (nI ((List.range t).filter (fun i => mm.testBit i)).length) (nI t) w = K (nI ((List.range S.2.2.1).filter (fun i => mm.testBit i)).length) w') ∧ OM vM as w' ∧ (∀ i, i < 55 → w' 4 i = vM 4 i) ∧ ∀ i, i < ((List.range S.2.2.1).filter (fun i => mm.testBit i)).length → w' 10 i = nI (((List.range S.2.2.1).filter (fun i => mm.testBit i)).getD i 0) := by
  have h1 := hi.1
  have h2 := len6 hi
  intro d
  induction d with
  | zero =>
    intro t m w ht hm' hom hw4 hw
    obtain ⟨m, rfl⟩ : ∃ q, m = q + 1 := ⟨m - 1, by omega⟩
    have e : t = S.2.2.1 := by omega
    subst e
    exact ⟨w, fun K => by rw [F_X8_order_L27, k2, t2, (hw4 2 (by omega)).trans hm.2.2.1, if_neg (nI_nlt (by omega) (by omega))], hom, hw4, hw⟩
  | succ d ih =>
    intro t m w ht hm' hom hw4 hw
    obtain ⟨m, rfl⟩ : ∃ q, m = q + 1 := ⟨m - 1, by omega⟩
    have hlt : nI t < nI S.2.2.1 := nI_lt (by omega) (by omega)
    have hlen : ((List.range t).filter (fun i => mm.testBit i)).length ≤ t := by
      have := List.length_filter_le (fun i => mm.testBit i) (List.range t)
      rw [List.length_range] at this
      exact this
    rcases p_place hN hc (vM := w) (rm_cg hm hi hw4) hi (j := t) (by omega) with ⟨q, -, p2⟩ | ⟨q, i, hil, -, -, p2⟩
    · have hb : mm.testBit t = false := by
        by_cases y : mm.testBit t = true
        · exact absurd ((hmm t).mp y) q
        · simpa using y
      have ef : (List.range (t + 1)).filter (fun i => mm.testBit i) = (List.range t).filter (fun i => mm.testBit i) := by
        rw [List.range_succ, List.filter_append, List.filter_cons, if_neg (by rw [hb]; decide), List.filter_nil, List.append_nil]
      obtain ⟨w', a1, a2⟩ := ih (t + 1) m w (by omega) (by omega) hom hw4 (by rw [ef]; exact hw)
      rw [ef] at a1
      refine ⟨w', fun K => ?_, a2⟩
      rw [F_X8_order_L27, k2, t2, (hw4 2 (by omega)).trans hm.2.2.1, if_pos hlt, p2, bs, nI_1]
      simp only [jn_eq]
      rw [if_pos (by decide), a1]
    · have hb : mm.testBit t = true := (hmm t).mpr q
      have ef : (List.range (t + 1)).filter (fun i => mm.testBit i) = (List.range t).filter (fun i => mm.testBit i) ++ [t] := by
        rw [List.range_succ, List.filter_append, List.filter_cons, if_pos hb, List.filter_nil]
      have el : ((List.range (t + 1)).filter (fun i => mm.testBit i)).length = ((List.range t).filter (fun i => mm.testBit i)).length + 1 := by rw [ef, List.length_append]; rfl
      obtain ⟨w', a1, a2⟩ := ih (t + 1) m (upA w 10 (upd (w 10) ((List.range t).filter (fun i => mm.testBit i)).length (nI t))) (by omega) (by omega) (OM10 hom) hw4 (fun i hi2 => by
        rw [el] at hi2
        show upd (w 10) _ (nI t) i = _
        rw [ef]
        by_cases y : i = ((List.range t).filter (fun i => mm.testBit i)).length
        · rw [y, upd_s, getD_end]
        · rw [upd_n y, getD_app (by omega)]
          exact hw i (by omega))
      rw [el] at a1
      refine ⟨w', fun K => ?_, a2⟩
      rw [F_X8_order_L27, k2, t2, (hw4 2 (by omega)).trans hm.2.2.1, if_pos hlt, p2, bs, nI_1]
      simp only [jn_eq]
      rw [if_neg (nI_pos (by omega)), chk_in (n := 6) (k := ((List.range t).filter (fun i => mm.testBit i)).length) (by omega) (by decide), nI_clamp (by omega), nI_1]
      exact a1 K
theorem rel_ord {vR vW vT vS vD vA vI vJ vE vF vP vQ vK vM gW : SV} {gA gL : Nat → SV} (h : Rel vR vW vT vS vD vA vI vJ vE vF vP vQ vK vM gW gA gL) {as : Nat → Int32} {w : SV} (ho : OM vM as w) (hg : ∀ i, i < 55 → w 4 i = vM 4 i) (vP' : SV) (gL' : Nat → SV) : Rel vR vW vT vS vD vA vI vJ vE vF vP' vQ vK w gW gA gL' := by
  obtain ⟨hr, hs, ht, ⟨S, hc, hm, hi, hs4⟩, ha, hI, hk⟩ := h
  have e0 := ho.2 0 (by decide) (by decide) (by decide) (by decide)
  refine ⟨?_, ?_, ?_, ⟨S, hc, rm_cg hm hi hg, hi, ?_⟩, ?_, ?_, ?_⟩
  · rw [ho.2 1 (by decide) (by decide) (by decide) (by decide), ho.2 2 (by decide) (by decide) (by decide) (by decide), ho.2 3 (by decide) (by decide) (by decide) (by decide)]; exact hr
  · rw [e0]; exact hs
  · rw [e0, ho.2 6 (by decide) (by decide) (by decide) (by decide)]; exact ht
  · rw [e0]; exact hs4
  · rw [e0, ho.2 8 (by decide) (by decide) (by decide) (by decide)]; exact ha
  · rw [ho.2 12 (by decide) (by decide) (by decide) (by decide), ho.2 13 (by decide) (by decide) (by decide) (by decide)]; exact hI
  · rw [e0, ho.2 12 (by decide) (by decide) (by decide) (by decide), ho.2 14 (by decide) (by decide) (by decide) (by decide)]; exact hk
theorem goO_some {S : Sh} : ∀ (P : List (List Nat)) (st : Int32 × Option (List Nat)) (p : List Nat), st.2 = some p → ∃ q, (goO S [] st P).2 = some q := by
  intro P
  induction P with
  | nil =>
    intro st p h
    unfold goO
    rw [List.foldl_nil]
    exact ⟨p, h⟩
  | cons x P ih =>
    intro st p h
    unfold goO at ih ⊢
    rw [List.foldl_cons]
    by_cases z : st.1 < clO S ([] ++ x)
    · exact ih _ ([] ++ x) (by unfold stp; rw [if_pos z])
    · exact ih _ p (by unfold stp; rw [if_neg z]; exact h)
theorem goO_in {S : Sh} (G : List Nat → Prop) : ∀ (P : List (List Nat)) (st : Int32 × Option (List Nat)), (∀ x ∈ P, G x) → (∀ q, st.2 = some q → G q) → ∀ q, (goO S [] st P).2 = some q → G q := by
  intro P
  induction P with
  | nil =>
    intro st _ h q hq
    unfold goO at hq
    rw [List.foldl_nil] at hq
    exact h q hq
  | cons x P ih =>
    intro st hP h q hq
    unfold goO at ih hq
    rw [List.foldl_cons] at hq
    refine ih _ (fun y hy => hP y (List.mem_cons_of_mem x hy)) (fun q2 h2 => ?_) q hq
    unfold stp at h2
    by_cases z : st.1 < clO S ([] ++ x)
    · rw [if_pos z] at h2
      have h2 := Option.some.inj h2
      rw [List.nil_append] at h2
      rw [← h2]
      exact hP x List.mem_cons_self
    · rw [if_neg z] at h2
      exact h q2 h2
theorem si_hnd {S : Sh} : ∀ {p : List Nat} {B : Nat}, SInv B S → (∀ x ∈ p, x < S.2.2.1) → SInv (B + p.length) (hnd S p) := by
  intro p
  induction p generalizing S with
  | nil => intro B h _; exact h
  | cons j p ih =>
    intro B h hp
    have := ih (S := handS S j) (siHand h (hp j List.mem_cons_self)) (fun x hx => hp x (List.mem_cons_of_mem j hx))
    rw [List.length_cons, show B + (p.length + 1) = B + 1 + p.length from by omega]
    exact this
theorem st_order {N : Nat} (hN : 3000 ≤ N) : St_order N Rel := by
  intro vR vW vT vS vD vA vI vJ vE vF vP vQ vK vM gW gA gL x1 hrel
  obtain ⟨S, hc, hm, hi, hs⟩ := hrel.2.2.2.1
  have h1 := hi.1
  have h2 := len6 hi
  rcases no_show (N := N) (vR := vR) hc hi.1 hs with ⟨a, b⟩ | ⟨a, b, hp⟩
  · exact ⟨(-1000002, vP, gL), (-1000002, vM), by unfold F_X7_order; rw [a]; rfl, by unfold F_X8_order; rw [b]; rfl, rfl, hrel⟩
  by_cases c : x1 < -2
  · exact ⟨(-1000001, vP, gL), (-1000001, vM), by unfold F_X7_order; rw [a, bs, if_pos rfl, if_pos c], by unfold F_X8_order; rw [b, if_neg one0, if_pos c], rfl, hrel⟩
  obtain ⟨mm, m1, m2, m3⟩ := l_bits (N := N) (vP := vP) (gL := gL) hc hi S.2.2.2.2.length 0 N 0 (by omega) (by omega) (by omega) (fun q => by
    rw [Nat.zero_testBit]
    constructor
    · intro h; exact absurd h (by decide)
    · rintro ⟨i', h3, -⟩; omega)
  have hokM := ok_all mm m2
  unfold okM at hokM
  rw [Bool.and_eq_true, Bool.and_eq_true, Bool.and_eq_true, Bool.and_eq_true, decide_eq_true_iff, decide_eq_true_iff, decide_eq_true_iff, List.all_eq_true] at hokM
  obtain ⟨⟨⟨⟨o1, o2⟩, o3⟩, o4⟩, o5⟩ := hokM
  have hbits : ∀ q, q ∈ bitsOf mm ↔ q ∈ S.2.2.2.2 := fun q => by
    unfold bitsOf
    rw [List.mem_filter, List.mem_range]
    constructor
    · intro h; exact (m3 q).mp h.2
    · intro h; exact ⟨by have := hi.2.2.2.1 q h; omega, (m3 q).mpr h⟩
  have hlen : popc mm = S.2.2.2.2.length := by
    rw [← o5]
    have nb : (bitsOf mm).Nodup := List.Nodup.sublist List.filter_sublist List.nodup_range
    have q1 := List.Nodup.length_le_of_subset nb (fun x hx => (hbits x).mp hx)
    have q2 := List.Nodup.length_le_of_subset hi.2.2.1 (fun x hx => (hbits x).mpr hx)
    omega
  have hmT : mm < 2 ^ S.2.2.1 := by
    by_cases y : mm < 2 ^ S.2.2.1
    · exact y
    · obtain ⟨q, q1, q2, q3⟩ := big_bit S.2.2.1 h1 mm m2 (by omega)
      have := hi.2.2.2.1 q ((m3 q).mp q3)
      omega
  have hfil := bt_tab2 S.2.2.1 (by omega) mm m2 hmT
  generalize hn : popc mm = n at *
  cases hP : lexB 8 mm with
  | nil => rw [hP] at o3; exact absurd o3 (by simp)
  | cons p0 P =>
  rw [hP] at o1 o2 o3 o4
  have hp0 : p0 = bitsOf mm := by
    rw [List.head?_cons] at o3
    exact Option.some.inj o3
  -- the class
  obtain ⟨vP', gL', t1, t2', t3', t4', t5'⟩ := l_try (N := N) (n := n) hN (by omega) (S := S) (by omega) 8 mm 0 [] (up2 (up2 vP 0 5 (-1)) 0 4 (vS 0 4)) (upF gL 0 (ovr (gL 0) vS)) (-1, none) (by omega) m2 (fun q _ qb => hi.2.2.2.1 q ((m3 q).mp qb)) rfl (by omega) (fun i hi2 => absurd hi2 (Nat.not_lt_zero i)) (by rw [upF_s]; exact ovr_rc hc hi) hi ⟨rfl, fun p h => absurd h (by simp)⟩
  rw [hP] at t2'
  -- the model
  obtain ⟨as, a1, a2⟩ := p_asd hN vM
  have hom0 : OM vM as (tU vM as (vM 4)) := ⟨rfl, fun k k4 k9 _ _ => by unfold tU; rw [upA_k k4, upA_k k9]⟩
  obtain ⟨w1, r1, r2, r3, r4⟩ := l_rows (N := N) (mm := mm) (x1 := x1) hN hc hm hi m3 S.2.2.1 0 N (tU vM as (vM 4)) (by omega) (by omega) hom0 (fun _ _ => rfl) (fun i hi2 => absurd hi2 (Nat.not_lt_zero i))
  rw [hfil, o5] at r1 r4
  obtain ⟨most, who, w2, s1, s2, s3, s4⟩ := l_orders (N := N) (n := n) (mm := mm) (x1 := x1) (vM := vM) (as := as) hN (by omega) hm hi a2 (fun q qb => (m3 q).mp qb) P p0 N (-1) 0 w1 (-1, none) o1 o2 (by omega) (fun i hi2 => by rw [hp0]; exact r4 i hi2) r2 r3 ⟨rfl, fun p h => absurd h (by simp)⟩
  -- the best
  have hG : ∀ x ∈ p0 :: P, x.length = n ∧ ∀ y ∈ x, y < S.2.2.1 := fun x hx => by
    have := o2 x hx
    unfold okL at this
    rw [Bool.and_eq_true, Bool.and_eq_true, decide_eq_true_iff, decide_eq_true_iff, List.all_eq_true] at this
    refine ⟨this.1.1, fun y hy => ?_⟩
    have hy2 := this.2 y hy
    rw [Bool.and_eq_true] at hy2
    exact hi.2.2.2.1 y ((m3 y).mp hy2.2)
  obtain ⟨best, hbest⟩ : ∃ q, (goO S [] (-1, none) (p0 :: P)).2 = some q := by
    unfold goO
    rw [List.foldl_cons, List.nil_append]
    have hcl : (-1 : Int32) < clO S p0 := by
      obtain ⟨g1, g2⟩ := hG p0 List.mem_cons_self
      obtain ⟨T, C, c1, c2, c3, c4⟩ := (si_hnd hi g2).2.2.2.2.2.2.2.2
      unfold clO
      rw [c2]
      refine Int32.lt_iff_toInt_lt.mpr ?_
      rw [nI_toInt (by omega)]
      show (-1 : Int) < _
      omega
    exact goO_some P _ p0 (by unfold stp; rw [if_pos hcl])
  obtain ⟨bl, bi⟩ := goO_in (S := S) (fun x => x.length = n ∧ ∀ y ∈ x, y < S.2.2.1) (p0 :: P) (-1, none) hG (fun q h => absurd h (by simp)) best hbest
  obtain ⟨c1, c2⟩ := t2'.2 best hbest
  obtain ⟨d1, d2⟩ := s4.2 best hbest
  have f7 : F_X2_findBestOrder N vS vP gL = some (vP', gL') := by
    unfold F_X2_findBestOrder F_X2_tryOrdersC
    rw [show ∀ K, F_X2_findBestOrder_L4 N vS vP gL K N (0 : Int32) (0 : Int32) = K (nI mm) from m1, chk_dec (by decide), p_over, bs, show F_X2_tryOrdersK N 8 (up2 (up2 vP 0 5 (-1)) 0 4 (vS 0 4)) (upF gL ((0 : Int32).toNatClampNeg) (ovr (gL ((0 : Int32).toNatClampNeg)) vS)) (nI mm) (0 : Int32) = some (vP', gL') from t1]
    rfl
  have e4 : vP' 0 4 = nI n := by
    rw [t5']
    show vS 0 4 = _
    rw [hc.2.2.2.2.1, hlen]
  have e7 : F_X7_order N vR vS vP gL x1 = if x1 = -1 then some (vP' 0 5, vP', gL') else if x1 = -2 then some (vP' 0 6, vP', gL') else ((F_X2_bestOrderThing N vP' x1).bind (fun q64 => (F_X7_orNone N q64).bind (fun q67 => some (q67, vP', gL')))) := by
    unfold F_X7_order
    rw [a, bs, if_pos rfl, if_neg c, f7, bs]
    rfl
  have e8 : F_X8_order N vM x1 = if x1 = -1 then some (most, w2) else if x1 = -2 then some (who, w2) else if x1 < nI n then chk 6 x1 (some (w2 11 x1.toNatClampNeg, w2)) else some (-1000000, w2) := by
    unfold F_X8_order
    rw [b, if_neg one0, if_neg c, a1, bs, show ∀ K, F_X8_order_L27 N x1 K N (0 : Int32) (0 : Int32) (tU vM as (vM 4)) = K (nI n) w1 from r1, show ∀ K, F_X8_order_L69 N x1 (nI n) K N (-1 : Int32) (0 : Int32) (1 : Int32) w1 = K most who w2 from s1]
  have fin := rel_ord hrel s2 s3 vP' gL'
  rw [e7, e8]
  by_cases x1m : x1 = -1
  · exact ⟨(vP' 0 5, vP', gL'), (most, w2), by rw [if_pos x1m], by rw [if_pos x1m], by rw [t2'.1]; exact s4.1.symm, fin⟩
  rw [if_neg x1m, if_neg x1m]
  by_cases x2m : x1 = -2
  · exact ⟨(vP' 0 6, vP', gL'), (who, w2), by rw [if_pos x2m], by rw [if_pos x2m], by rw [c1]; exact d1.symm, fin⟩
  rw [if_neg x2m, if_neg x2m]
  rcases pk_ix x1 (n := n) (by omega) with hb | hb | ⟨k, hk, rfl⟩
  · exfalso
    have q1 := Int32.lt_iff_toInt_lt.mp hb
    have q2 : ¬ x1.toInt < (-2 : Int32).toInt := fun z => c (Int32.lt_iff_toInt_lt.mpr z)
    have z0 : (0 : Int32).toInt = 0 := rfl
    have z1 : (-1 : Int32).toInt = -1 := rfl
    have z2 : (-2 : Int32).toInt = -2 := rfl
    have q3 : ¬ x1.toInt = -1 := fun z => x1m (Int32.toInt_inj.mp (z.trans z1.symm))
    have q4 : ¬ x1.toInt = -2 := fun z => x2m (Int32.toInt_inj.mp (z.trans z2.symm))
    omega
  · refine ⟨(-1000000, vP', gL'), (-1000000, w2), ?_, by rw [if_neg (nlt_of hb)], rfl, fin⟩
    unfold F_X2_bestOrderThing
    rw [if_neg (nn_of (by omega) hb), e4, if_neg (nlt_of hb)]
    rfl
  · have hg6 : gd best k < 6 := by
      unfold gd
      have := bi _ (getD_mem (l := best) (i := k) (by omega))
      omega
    refine ⟨(nI (gd best k), vP', gL'), (nI (gd best k), w2), ?_, ?_, rfl, fin⟩
    · unfold F_X2_bestOrderThing F_X7_orNone
      rw [if_neg (nI_pos (by omega)), e4, if_pos (nI_lt hk (by omega)), if_pos (show nI k < (6 : Int32) from nI_lt (b := 6) (by omega) (by decide)), chk_in (by omega) (by decide), nI_clamp (by omega), c2 k hk, bs, if_neg (nI_pos (by omega))]
      rfl
    · rw [if_pos (nI_lt hk (by omega)), chk_in (by omega) (by decide), nI_clamp (by omega), d2 k hk]
