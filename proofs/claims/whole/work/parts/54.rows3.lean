/-! set, copy -/
theorem sh8 (x : Int32) : (x <<< ((24 : Int32) &&& 31)) >>> ((24 : Int32) &&& 31) = x.toInt8.toInt32 := by
  apply Int32.toInt_inj.mp
  rw [pk_shr _ _ 24 (by decide), Int8.toInt_toInt32, Int32.toInt_toInt8, Int.shiftRight_eq_div_pow, Int.bmod_def]
  have h1 := pk_shl x ((24 : Int32) &&& 31) 24 (by decide)
  have h2 : (x <<< ((24 : Int32) &&& 31)).toInt = _ := BitVec.toInt_eq_toNat_cond (x <<< ((24 : Int32) &&& 31)).toBitVec
  have h3 : x.toInt = _ := BitVec.toInt_eq_toNat_cond x.toBitVec
  have h4 := x.toBitVec.isLt
  rw [h2, h1, h3]
  generalize x.toBitVec.toNat = u at *
  split <;> split <;> split <;> omega
theorem sh16 (x : Int32) : (x <<< ((16 : Int32) &&& 31)) >>> ((16 : Int32) &&& 31) = x.toInt16.toInt32 := by
  apply Int32.toInt_inj.mp
  rw [pk_shr _ _ 16 (by decide), Int16.toInt_toInt32, Int32.toInt_toInt16, Int.shiftRight_eq_div_pow, Int.bmod_def]
  have h1 := pk_shl x ((16 : Int32) &&& 31) 16 (by decide)
  have h2 : (x <<< ((16 : Int32) &&& 31)).toInt = _ := BitVec.toInt_eq_toNat_cond (x <<< ((16 : Int32) &&& 31)).toBitVec
  have h3 : x.toInt = _ := BitVec.toInt_eq_toNat_cond x.toBitVec
  have h4 := x.toBitVec.isLt
  rw [h2, h1, h3]
  generalize x.toBitVec.toNat = u at *
  split <;> split <;> split <;> omega
theorem p_span {N : Nat} {vW : SV} {j n m : Nat} (hj : j < 8) (hn : n ≤ 40) (hm : m < 2 ^ 31) (h2 : vW 2 j = nI n) {c : Int64} (hc : c.toInt = (n : Int) - m) (x : Int32) : (F_X3_isSpan N vW (nI j) x (nI m) = some 0 ∧ F_X8_in N x.toInt64 0 c = some 0) ∨ (∃ k, k + m ≤ n ∧ x = nI k ∧ F_X3_isSpan N vW (nI j) x (nI m) = some 1 ∧ F_X8_in N x.toInt64 0 c = some 1) := by
  have e : F_X3_isSpan N vW (nI j) x (nI m) = if x < 0 then some 0 else if nI n < x then some 0 else if nI n - x < nI m then some 0 else some 1 := by
    unfold F_X3_isSpan
    rw [chk_in hj (by decide), chk_in hj (by decide), nI_clamp (by omega), h2, if_neg (nI_pos hm)]
  rw [e]
  have hz : (0 : Int32).toInt = 0 := rfl
  rcases pk_ix x (n := n + 1) (by omega) with hb | hb | ⟨k, hk, rfl⟩
  · have := Int32.lt_iff_toInt_lt.mp hb
    exact Or.inl ⟨by rw [if_pos hb], in_no (B := 0) (C := (n : Int) - m) rfl hc (by omega)⟩
  · have := Int32.le_iff_toInt_le.mp hb
    rw [nI_toInt (by omega)] at this
    have e2 := nI_toInt (n := n) (by omega)
    exact Or.inl ⟨by rw [if_neg (nn_of (n := n + 1) (by omega) hb), if_pos (Int32.lt_iff_toInt_lt.mpr (by omega))], in_no (B := 0) (C := (n : Int) - m) rfl hc (by omega)⟩
  · have e2 := nI_toInt (n := k) (by omega)
    rw [if_neg (nI_pos (by omega)), if_neg (nI_nlt (by omega) (by omega)), pk_sub (by omega)]
    by_cases q : n - k < m
    · exact Or.inl ⟨by rw [if_pos (nI_lt q hm)], in_no (B := 0) (C := (n : Int) - m) rfl hc (by omega)⟩
    · exact Or.inr ⟨k, by omega, rfl, by rw [if_neg (nI_nlt (by omega) (by omega))], in_ok (B := 0) (C := (n : Int) - m) rfl hc (by omega)⟩
theorem p_lane {N : Nat} {vW gW : SV} {j k la : Nat} (hj : j < 8) (hk : k < 40) (h1 : vW 1 j = nI la) (hla : la < 3) (x : Int32) : ∃ y, F_X3_put N vW gW (nI j) (nI k) x = some (y, upA gW j (upd (gW j) k y)) ∧ F_X8_asLane N (nI la) x = some y := by
  have hk1 : ∀ {β : Type} {o : Option β}, chk 8 (nI j) o = o := chk_in (by omega) (by decide)
  have hk2 : ∀ {β : Type} {o : Option β}, chk 40 (nI k) o = o := chk_in (by omega) (by decide)
  have c1 : (nI j).toNatClampNeg = j := nI_clamp (by omega)
  have c2 : (nI k).toNatClampNeg = k := nI_clamp (by omega)
  have hl : la = 0 ∨ la = 1 ∨ la = 2 := by omega
  unfold F_X3_put F_X8_asLane
  simp only [jn_eq, hk1, hk2, c1, c2, h1]
  rcases hl with rfl | rfl | rfl
  · exact ⟨x.toInt8.toInt32, by rw [if_pos (show nI 0 = 0 from rfl)], by rw [if_pos (show nI 0 = 0 from rfl), sh8]⟩
  · exact ⟨x.toInt16.toInt32, by rw [if_neg (show ¬ nI 1 = 0 by decide), if_pos (show nI 1 = 1 from rfl)], by rw [if_neg (show ¬ nI 1 = 0 by decide), if_pos (show nI 1 = 1 from rfl), sh16]⟩
  · exact ⟨x, by rw [if_neg (show ¬ nI 2 = 0 by decide), if_neg (show ¬ nI 2 = 1 by decide)], by rw [if_neg (show ¬ nI 2 = 0 by decide), if_neg (show ¬ nI 2 = 1 by decide)]⟩
theorem st_set {N : Nat} (hN : 3000 ≤ N) : St_set N Rel := by
  intro vR vW vT vS vD vA vI vJ vE vF vP vQ vK vM gW gA gL x1 x2 x3 hrel
  have keep := hrel
  obtain ⟨hr, hs, ht, hg, ha, hi, hk⟩ := hrel
  rcases pk_ix x1 (n := 8) (by decide) with hb | hb | ⟨j, hj, rfl⟩
  · obtain ⟨a, b⟩ := row_bad N (Or.inl hb)
    exact ⟨(-1000001, vR, gW), (-1000001, vM), by unfold F_X7_set; rw [a]; rfl, by unfold F_X8_set; rw [b]; rfl, rfl, keep⟩
  · obtain ⟨a, b⟩ := row_bad N (Or.inr hb)
    exact ⟨(-1000001, vR, gW), (-1000001, vM), by unfold F_X7_set; rw [a]; rfl, by unfold F_X8_set; rw [b]; rfl, rfl, keep⟩
  obtain ⟨a, b⟩ := row_ok N hj
  have hc : (nI j).toNatClampNeg = j := nI_clamp (by omega)
  rcases p_miss N hr hj with ⟨h1, h2, h3, h4⟩ | ⟨n, la, g1, g2, g3, g4, g5, g6, g7⟩
  · refine ⟨(-1000010 - 1, up2 vR 0 10 1, gW), (-1000010 - 1, up2 vM 0 3 1), ?_, ?_, rfl, hr, rfl, ht, hg, ha, hi, hk⟩
    · unfold F_X7_set F_X3_findingOfSpan; rw [a, bs, if_neg one0, h4, bs, if_neg one0, bs, if_neg one0, ff]; rfl
    · unfold F_X8_set; rw [b, bs, if_neg one0, chk_in hj (by decide), hc, h3, if_pos m1lt, mf]; rfl
  have hsz : ¬ nI n < 0 := nI_pos (by omega)
  have hcc : ((nI n - 1 : Int32).toInt64).toInt = (n : Int) - (1 : Nat) := by rw [i64]; exact pk_sub_toInt (a := n) (b := 1) (by omega) (by decide)
  have e8 : F_X8_set N vM (nI j) x2 x3 = (F_X8_in N (x2.toInt64) (0 : Int64) ((nI n - 1).toInt64)).bind (fun q37 => if q37 = (0 : Int32) then ((F_X8_find N vM 2).bind (fun q45 => some ((q45.1), (q45.2)))) else ((F_X8_asLane N (nI la) x3).bind (fun q66 => chk 320 ((40 * nI j) + x2) (chk 320 ((40 * nI j) + x2) ((F_X8_well N (up2 vM 3 (((40 * nI j) + x2).toNatClampNeg) q66) ((upd (vM 3) (((40 * nI j) + x2).toNatClampNeg) q66) (((40 * nI j) + x2).toNatClampNeg))).bind (fun q82 => some ((q82.1), (q82.2)))))))) := by
    unfold F_X8_set
    rw [b, bs, if_neg one0, chk_in hj (by decide), hc, g5, if_neg hsz, chk_in hj (by decide), chk_in hj (by decide), g6]
  rcases p_span (N := N) hj g1 (m := 1) (by decide) g4 hcc x2 with ⟨s1, s2⟩ | ⟨k, hk2, rfl, s1, s2⟩
  · refine ⟨(-1000010 - 2, up2 vR 0 10 2, gW), (-1000010 - 2, up2 vM 0 3 2), ?_, ?_, rfl, hr, rfl, ht, hg, ha, hi, hk⟩
    · unfold F_X7_set F_X3_findingOfSpan; rw [a, bs, if_neg one0, g7, bs, if_pos rfl, show F_X3_isSpan N vW (nI j) x2 (1 : Int32) = some 0 from s1, bs, if_pos rfl, bs, if_neg (by decide), ff]; rfl
    · rw [e8, s2, bs, if_pos rfl, mf]; rfl
  · obtain ⟨y, y1, y2⟩ := p_lane (N := N) (gW := gW) hj (k := k) (by omega) g3 g2 x3
    refine ⟨(y, up2 vR 0 10 0, upA gW j (upd (gW j) k y)), (y, up2 (up2 vM 3 (40 * j + k) y) 0 3 0), ?_, ?_, rfl, ⟨fun r i hr8 hi40 => ?_, hr.2⟩, rfl, ht, hg, ha, hi, hk⟩
    · unfold F_X7_set F_X3_findingOfSpan; rw [a, bs, if_neg one0, g7, bs, if_pos rfl, show F_X3_isSpan N vW (nI j) (nI k) (1 : Int32) = some 1 from s1, bs, if_neg one0, bs, if_pos rfl, y1, bs, fn]; rfl
    · rw [e8, s2, bs, if_neg one0, y2, bs, lit40, pk_mul, nI_add, chk_in (n := 320) (k := 40 * j + k) (by omega) (by decide), chk_in (n := 320) (k := 40 * j + k) (by omega) (by decide), nI_clamp (n := 40 * j + k) (by omega), upd_s, mw]; rfl
    · show upA gW j (upd (gW j) k y) r i = upd (vM 3) (40 * j + k) y (40 * r + i)
      by_cases e : r = j
      · subst e
        rw [upA_s]
        by_cases e2 : i = k
        · subst e2
          rw [upd_s, upd_s]
        · rw [upd_n e2, upd_n (by omega)]
          exact hr.1 r i hr8 hi40
      · rw [upA_k e, upd_n (by omega)]
        exact hr.1 r i hr8 hi40
theorem l_copy1 {N a i b j m : Nat} (ha : a < 8) (him : i + m ≤ 40) : ∀ d s n v, s + d = m → d < n → ∃ f, (∀ K, F_X8_copy_L117 N (nI a) (nI i) (nI b) (nI j) (nI m) K n (nI s) v = K (upA v 5 f)) ∧ ∀ q, f q = if s ≤ q ∧ q < m then v 3 (40 * a + i + q) else v 5 q := by
  intro d
  induction d with
  | zero =>
    intro s n v hs hn
    obtain ⟨n, rfl⟩ : ∃ m, n = m + 1 := ⟨n - 1, by omega⟩
    refine ⟨v 5, fun K => ?_, fun q => by rw [if_neg (by omega)]⟩
    rw [F_X8_copy_L117, if_neg (nI_nlt (by omega) (by omega)), upA_self]
  | succ d ih =>
    intro s n v hs hn
    obtain ⟨n, rfl⟩ : ∃ m, n = m + 1 := ⟨n - 1, by omega⟩
    obtain ⟨f, f1, f2⟩ := ih (s + 1) n (up2 v 5 s (v 3 (40 * a + i + s))) (by omega) (by omega)
    refine ⟨f, fun K => ?_, fun q => ?_⟩
    · rw [F_X8_copy_L117, if_pos (nI_lt (by omega) (by omega)), lit40, pk_mul, nI_add, nI_add, chk_in (n := 320) (k := 40 * a + i + s) (by omega) (by decide), chk_in (n := 40) (k := s) (by omega) (by decide), nI_clamp (n := s) (by omega), nI_clamp (n := 40 * a + i + s) (by omega), nI_1, f1]
      unfold up2
      rw [upA_upA]
    · rw [f2 q]
      show (if s + 1 ≤ q ∧ q < m then v 3 (40 * a + i + q) else upd (v 5) s (v 3 (40 * a + i + s)) q) = _
      by_cases w : s + 1 ≤ q ∧ q < m
      · rw [if_pos w, if_pos (by omega)]
      · rw [if_neg w]
        by_cases e : q = s
        · subst e
          rw [if_pos (by omega), upd_s]
        · rw [if_neg (by omega), upd_n e]
theorem l_copy2 {N b j m : Nat} (hb : b < 8) (hjm : j + m ≤ 40) : ∀ d s n v, s + d = m → d < n → ∃ f, (∀ K, F_X8_copy_L154 N (nI b) (nI j) (nI m) K n (nI s) v = K (upA v 3 f)) ∧ ∀ q, f q = if 40 * b + j + s ≤ q ∧ q < 40 * b + j + m then v 5 (q - (40 * b + j)) else v 3 q := by
  intro d
  induction d with
  | zero =>
    intro s n v hs hn
    obtain ⟨n, rfl⟩ : ∃ m, n = m + 1 := ⟨n - 1, by omega⟩
    refine ⟨v 3, fun K => ?_, fun q => by rw [if_neg (by omega)]⟩
    rw [F_X8_copy_L154, if_neg (nI_nlt (by omega) (by omega)), upA_self]
  | succ d ih =>
    intro s n v hs hn
    obtain ⟨n, rfl⟩ : ∃ m, n = m + 1 := ⟨n - 1, by omega⟩
    obtain ⟨f, f1, f2⟩ := ih (s + 1) n (up2 v 3 (40 * b + j + s) (v 5 s)) (by omega) (by omega)
    refine ⟨f, fun K => ?_, fun q => ?_⟩
    · rw [F_X8_copy_L154, if_pos (nI_lt (by omega) (by omega)), lit40, pk_mul, nI_add, nI_add, chk_in (n := 40) (k := s) (by omega) (by decide), chk_in (n := 320) (k := 40 * b + j + s) (by omega) (by decide), nI_clamp (n := s) (by omega), nI_clamp (n := 40 * b + j + s) (by omega), nI_1, f1]
      unfold up2
      rw [upA_upA]
    · rw [f2 q]
      show (if 40 * b + j + (s + 1) ≤ q ∧ q < 40 * b + j + m then v 5 (q - (40 * b + j)) else upd (v 3) (40 * b + j + s) (v 5 s) q) = _
      by_cases w : 40 * b + j + (s + 1) ≤ q ∧ q < 40 * b + j + m
      · rw [if_pos w, if_pos (by omega)]
      · rw [if_neg w]
        by_cases e : q = 40 * b + j + s
        · subst e
          rw [if_pos (by omega), upd_s, show 40 * b + j + s - (40 * b + j) = s from by omega]
        · rw [if_neg (by omega), upd_n e]
theorem st_copy {N : Nat} (hN : 3000 ≤ N) : St_copy N Rel := by
  intro vR vW vT vS vD vA vI vJ vE vF vP vQ vK vM gW gA gL x1 x2 x3 x4 x5 hrel
  have keep := hrel
  obtain ⟨hr, hs, ht, hg, ha, hi, hk⟩ := hrel
  have bad : ∀ {F7 : Option (Int32 × SV × SV)} {F8 : Option (Int32 × SV)}, F7 = some (-1000001, vR, gW) → F8 = some (-1000001, vM) → ∃ (r : Int32 × SV × SV) (m : Int32 × SV), F7 = some r ∧ F8 = some m ∧ r.1 = m.1 ∧ Rel r.2.1 vW vT vS vD vA vI vJ vE vF vP vQ vK m.2 r.2.2 gA gL := fun a b => ⟨_, _, a, b, rfl, keep⟩
  have fnd : ∀ (x : Int32) {F7 : Option (Int32 × SV × SV)} {F8 : Option (Int32 × SV)}, F7 = some (-1000010 - x, up2 vR 0 10 x, gW) → F8 = some (-1000010 - x, up2 vM 0 3 x) → ∃ (r : Int32 × SV × SV) (m : Int32 × SV), F7 = some r ∧ F8 = some m ∧ r.1 = m.1 ∧ Rel r.2.1 vW vT vS vD vA vI vJ vE vF vP vQ vK m.2 r.2.2 gA gL := fun x _ _ a b => ⟨_, _, a, b, rfl, hr, rfl, ht, hg, ha, hi, hk⟩
  rcases pk_ix x1 (n := 8) (by decide) with hb | hb | ⟨a, ha8, rfl⟩
  · obtain ⟨p, q⟩ := row_bad N (Or.inl hb)
    exact bad (by unfold F_X7_copy; rw [p]; rfl) (by unfold F_X8_copy; rw [q]; rfl)
  · obtain ⟨p, q⟩ := row_bad N (Or.inr hb)
    exact bad (by unfold F_X7_copy; rw [p]; rfl) (by unfold F_X8_copy; rw [q]; rfl)
  obtain ⟨p, q⟩ := row_ok N ha8
  rcases pk_ix x3 (n := 8) (by decide) with hb | hb | ⟨b, hb8, rfl⟩
  · obtain ⟨p2, q2⟩ := row_bad N (Or.inl hb)
    exact bad (by unfold F_X7_copy; rw [p, bs, if_neg one0, p2]; rfl) (by unfold F_X8_copy; rw [q, bs, if_neg one0, q2]; rfl)
  · obtain ⟨p2, q2⟩ := row_bad N (Or.inr hb)
    exact bad (by unfold F_X7_copy; rw [p, bs, if_neg one0, p2]; rfl) (by unfold F_X8_copy; rw [q, bs, if_neg one0, q2]; rfl)
  obtain ⟨p2, q2⟩ := row_ok N hb8
  have ca : (nI a).toNatClampNeg = a := nI_clamp (by omega)
  have cb : (nI b).toNatClampNeg = b := nI_clamp (by omega)
  have e7 : F_X7_copy N vR vW gW (nI a) x2 (nI b) x4 x5 = (F_X3_findingOfMove N vW (nI a) x2 (nI b) x4 x5).bind (fun q28 => if q28 = (0 : Int32) then ((F_X3_move N vW gW (nI a) x2 (nI b) x4 x5).bind (fun q56 => (F_X7_foundNothing N vR x5).bind (fun q62 => some ((q62.1), (q62.2), q56)))) else ((F_X7_found N vR q28).bind (fun q41 => some ((q41.1), (q41.2), gW)))) := by
    unfold F_X7_copy
    rw [p, bs, if_neg one0, p2, bs, if_neg one0]
  have hk1 : ∀ {β : Type} {o : Option β}, chk 8 (nI a) o = o := chk_in (by omega) (by decide)
  have hk2 : ∀ {β : Type} {o : Option β}, chk 8 (nI b) o = o := chk_in (by omega) (by decide)
  rcases p_miss N hr ha8 with ⟨h1, h2, h3, h4⟩ | ⟨n, la, g1, g2, g3, g4, g5, g6, g7⟩
  · refine fnd 1 ?_ ?_
    · rw [e7]; unfold F_X3_findingOfMove; rw [h4, bs, if_neg one0, bs, if_neg one0, ff]; rfl
    · unfold F_X8_copy; rw [q, bs, if_neg one0, q2, bs, if_neg one0]
      simp only [jn_eq, hk1, hk2, ca, cb]
      rw [h3, if_pos m1lt, mf]; rfl
  have hsa : ¬ nI n < 0 := nI_pos (by omega)
  rcases p_miss N hr hb8 with ⟨h1, h2, h3, h4⟩ | ⟨n', la', i1, i2, i3, i4, i5, i6, i7⟩
  · refine fnd 1 ?_ ?_
    · rw [e7]; unfold F_X3_findingOfMove; rw [g7, bs, if_pos rfl, h4, bs, if_neg one0, bs, if_neg one0, ff]; rfl
    · unfold F_X8_copy; rw [q, bs, if_neg one0, q2, bs, if_neg one0]
      simp only [jn_eq, hk1, hk2, ca, cb]
      rw [g5, if_neg hsa, h3, if_pos m1lt, mf]; rfl
  have hsb : ¬ nI n' < 0 := nI_pos (by omega)
  have e8 : F_X8_copy N vM (nI a) x2 (nI b) x4 x5 = if nI la = nI la' then (if x5 < 0 then ((F_X8_find N vM 2).bind (fun q110 => some ((q110.1), (q110.2)))) else ((F_X8_in N (x2.toInt64) (0 : Int64) ((nI n).toInt64 - x5.toInt64)).bind (fun q81 => if q81 = (0 : Int32) then ((F_X8_find N vM 2).bind (fun q110 => some ((q110.1), (q110.2)))) else ((F_X8_in N (x4.toInt64) (0 : Int64) ((nI n').toInt64 - x5.toInt64)).bind (fun q102 => if q102 = (0 : Int32) then ((F_X8_find N vM 2).bind (fun q110 => some ((q110.1), (q110.2)))) else (F_X8_copy_L117 N (nI a) x2 (nI b) x4 x5 (fun (v_151 : SV) => F_X8_copy_L154 N (nI b) x4 x5 (fun (v_189 : SV) => (F_X8_well N v_189 x5).bind (fun q192 => some ((q192.1), (q192.2)))) N (0 : Int32) v_151) N (0 : Int32) vM)))))) else ((F_X8_find N vM 5).bind (fun q58 => some ((q58.1), (q58.2)))) := by
    unfold F_X8_copy; rw [q, bs, if_neg one0, q2, bs, if_neg one0]
    simp only [jn_eq, hk1, hk2, ca, cb]
    rw [g5, i5, if_neg hsa, if_neg hsb, g6, i6]
  have f7 : F_X3_findingOfMove N vW (nI a) x2 (nI b) x4 x5 = if nI la = nI la' then ((F_X3_isSpan N vW (nI a) x2 x5).bind (fun q40 => if q40 = (0 : Int32) then (some 2) else ((F_X3_isSpan N vW (nI b) x4 x5).bind (fun q52 => if q52 = (0 : Int32) then (some 2) else (some 0))))) else (some 5) := by
    unfold F_X3_findingOfMove
    rw [g7, bs, if_pos rfl, i7, bs, if_pos rfl, hk1, hk2, ca, cb, g3, i3]
  by_cases hl : nI la = nI la'
  · rw [if_pos hl] at e8 f7
    by_cases h5 : x5 < 0
    · refine fnd 2 ?_ ?_
      · rw [e7, f7]
        have es : F_X3_isSpan N vW (nI a) x2 x5 = some 0 := by
          unfold F_X3_isSpan
          by_cases z : x2 < 0
          · rw [if_pos z]
          · rw [if_neg z, if_pos h5]
        rw [es, bs, if_pos rfl, bs, if_neg (by decide), ff]; rfl
      · rw [e8, if_pos h5, mf]; rfl
    · obtain ⟨m, hm, rfl⟩ := nI_of h5
      have hcc : ∀ n : Nat, n ≤ 40 → ((nI n).toInt64 - (nI m).toInt64).toInt = (n : Int) - m := fun n hn => by
        rw [Int64.toInt_sub, i64, i64, nI_toInt (by omega), nI_toInt hm]
        exact Int.bmod_eq_of_le (by omega) (by omega)
      rw [if_neg h5] at e8
      rcases p_span (N := N) ha8 g1 hm g4 (hcc n g1) x2 with ⟨s1, s2⟩ | ⟨k, hk3, rfl, s1, s2⟩
      · refine fnd 2 ?_ ?_
        · rw [e7, f7, s1, bs, if_pos rfl, bs, if_neg (by decide), ff]; rfl
        · rw [e8, s2, bs, if_pos rfl, mf]; rfl
      rcases p_span (N := N) hb8 i1 hm i4 (hcc n' i1) x4 with ⟨s3, s4⟩ | ⟨k', hk4, rfl, s3, s4⟩
      · refine fnd 2 ?_ ?_
        · rw [e7, f7, s1, bs, if_neg one0, s3, bs, if_pos rfl, bs, if_neg (by decide), ff]; rfl
        · rw [e8, s2, bs, if_neg one0, s4, bs, if_pos rfl, mf]; rfl
      obtain ⟨f, f1, f2⟩ := l_copy1 (N := N) (a := a) (i := k) (b := b) (j := k') (m := m) ha8 (by omega) m 0 N vM (by omega) (by omega)
      obtain ⟨g, w1, w2⟩ := l_copy2 (N := N) (b := b) (j := k') (m := m) hb8 (by omega) m 0 N (upA vM 5 f) (by omega) (by omega)
      refine ⟨(nI m, up2 vR 0 10 0, upA gW b (va_cpy (gW a) (gW b) k k' m)), (nI m, up2 (upA (upA vM 5 f) 3 g) 0 3 0), ?_, ?_, rfl, ⟨fun r i hr8 hi40 => ?_, hr.2⟩, rfl, ht, hg, ha, hi, hk⟩
      · have cm : (nI m).toNatClampNeg = m := nI_clamp (by omega)
        have ck : (nI k).toNatClampNeg = k := nI_clamp (by omega)
        have ck' : (nI k').toNatClampNeg = k' := nI_clamp (by omega)
        have em : F_X3_move N vW gW (nI a) (nI k) (nI b) (nI k') (nI m) = some (upA gW b (va_cpy (gW a) (gW b) k k' m)) := by
          unfold F_X3_move cpk
          rw [hk1, hk2, ca, cb, cm, ck, ck', if_neg]
          intro z
          rcases z with z | z | z | z | z
          · exact nI_pos (by omega) z
          · exact nI_pos (by omega) z
          · exact nI_pos (by omega) z
          · omega
          · omega
        rw [e7, f7, s1, bs, if_neg one0, s3, bs, if_neg one0, bs, if_pos rfl, em, bs, fn]; rfl
      · rw [e8, s2, bs, if_neg one0, s4, bs, if_neg one0, show ∀ K, F_X8_copy_L117 N (nI a) (nI k) (nI b) (nI k') (nI m) K N (0 : Int32) vM = K (upA vM 5 f) from f1, show ∀ K, F_X8_copy_L154 N (nI b) (nI k') (nI m) K N (0 : Int32) (upA vM 5 f) = K (upA (upA vM 5 f) 3 g) from w1, mw]; rfl
      · show upA gW b (va_cpy (gW a) (gW b) k k' m) r i = g (40 * r + i)
        rw [w2]
        show _ = if _ then f (40 * r + i - (40 * b + k')) else vM 3 (40 * r + i)
        by_cases e : r = b
        · subst e
          rw [upA_s]
          by_cases z : k' ≤ i ∧ i < k' + m
          · rw [pk_cpy_in z.1 z.2, if_pos (by omega), f2, if_pos (by omega), hr.1 a _ ha8 (by omega)]
            congr 1
            omega
          · rw [pk_cpy_out (by omega), if_neg (by omega)]
            exact hr.1 r i hr8 hi40
        · rw [upA_k e, if_neg (by omega)]
          exact hr.1 r i hr8 hi40
  · rw [if_neg hl] at e8 f7
    refine fnd 5 ?_ ?_
    · rw [e7, f7, bs, if_neg (by decide), ff]; rfl
    · rw [e8, mf]; rfl
