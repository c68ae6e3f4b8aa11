/-! feed, trace, kind, list, count -/
theorem jn_eq {α β : Type} (f : α) (k : α → β) : jn f k = k f := rfl
theorem ix_ok {N j n : Nat} (h : j < n) (hn : n < 2 ^ 30) : F_X8_in N (nI j).toInt64 0 ((nI n - 1).toInt64) = some 1 := by
  have e := pk_sub_toInt (a := n) (b := 1) hn (by decide)
  have ej := nI_toInt (n := j) (by omega)
  exact in_ok (B := 0) (C := (n : Int) - 1) rfl (by rw [i64]; exact e) (by rw [ej]; omega)
theorem ix_no {N n : Nat} {x : Int32} (h : x < 0 ∨ nI n ≤ x) (hn : n < 2 ^ 30) : F_X8_in N x.toInt64 0 ((nI n - 1).toInt64) = some 0 := by
  have e := pk_sub_toInt (a := n) (b := 1) hn (by decide)
  refine in_no (B := 0) (C := (n : Int) - 1) rfl (by rw [i64]; exact e) ?_
  rcases h with h | h
  · have := Int32.lt_iff_toInt_lt.mp h
    have hz : (0 : Int32).toInt = 0 := rfl
    omega
  · have := Int32.le_iff_toInt_le.mp h
    rw [nI_toInt (by omega)] at this
    omega
theorem chk_dec {β : Type} {n : Nat} {x : Int32} {o : Option β} (h : ¬ (x < 0 ∨ n ≤ x.toNatClampNeg)) : chk n x o = o := if_neg h
theorem nlt_of {n : Nat} {x : Int32} (h : nI n ≤ x) : ¬ x < nI n := Int32.not_lt.mpr h
theorem nn_of {n : Nat} {x : Int32} (hn : n < 2 ^ 31) (h : nI n ≤ x) : ¬ x < 0 := fun q => by
  have h1 := Int32.lt_iff_toInt_lt.mp q
  have h2 := Int32.le_iff_toInt_le.mp h
  rw [nI_toInt hn] at h2
  have hz : (0 : Int32).toInt = 0 := rfl
  omega
theorem st_feed (N : Nat) : St_feed N Rel := by
  intro vR vW vT vS vD vA vI vJ vE vF vP vQ vK vM gW gA gL x1 hrel
  obtain ⟨hr, hs, ht, hg, ha, hi, hk⟩ := hrel
  have keep : Rel vR vW vT vS vD vA vI vJ vE vF vP vQ vK vM gW gA gL := ⟨hr, hs, ht, hg, ha, hi, hk⟩
  have hz : (0 : Int32).toInt = 0 := rfl
  have h5 : (255 : Int32).toInt = 255 := rfl
  by_cases h0 : x1 < 0
  · have := Int32.lt_iff_toInt_lt.mp h0
    refine ⟨(-1000001, vT), (-1000001, vM), ?_, ?_, rfl, keep⟩
    · unfold F_X7_feed; rw [if_pos h0]
    · unfold F_X8_feed; rw [in_no (B := 0) (C := 255) rfl rfl (by omega)]; rfl
  by_cases h2 : (255 : Int32) < x1
  · have := Int32.lt_iff_toInt_lt.mp h2
    refine ⟨(-1000001, vT), (-1000001, vM), ?_, ?_, rfl, keep⟩
    · unfold F_X7_feed; rw [if_neg h0, if_pos h2]
    · unfold F_X8_feed; rw [in_no (B := 0) (C := 255) rfl rfl (by omega)]; rfl
  obtain ⟨c, hc, rfl⟩ : ∃ c, c ≤ 255 ∧ x1 = nI c := nI_of2 (M := 255) (n := 255) (by decide) h0 (Int32.not_lt.mp h2)
  have ec := nI_toInt (n := c) (by omega)
  have hin : F_X8_in N (nI c).toInt64 0 255 = some 1 := in_ok (B := 0) (C := 255) rfl rfl (by rw [ec]; omega)
  obtain ⟨f1, n, hn, f2, f3, f4⟩ := ht
  by_cases hf : n = 120
  · subst hf
    refine ⟨(-1000003, vT), (-1000003, vM), ?_, ?_, rfl, keep⟩
    · unfold F_X7_feed F_X6_isFull; rw [if_neg h0, if_neg h2, f2, if_neg (by decide)]; rfl
    · unfold F_X8_feed; rw [hin, bs, if_neg one0, f3, if_pos (show nI 120 = 120 from rfl)]
  · have hlt : nI n < 120 := nI_lt (b := 120) (by omega) (by decide)
    have hne : ¬ nI n = 120 := fun q => hf ((nI_eq (b := 120) (by omega) (by decide)).mp q)
    have hcl : (nI n).toNatClampNeg = n := nI_clamp (by omega)
    refine ⟨(nI (n + 1), up2 (up2 vT 1 n (nI c)) 0 1 (nI (n + 1))), (nI (n + 1), up2 (up2 vM 6 n (nI c)) 0 8 (nI (n + 1))), ?_, ?_, rfl, hr, hs, ⟨f1, n + 1, by omega, rfl, rfl, fun i hi2 => ?_⟩, hg, ha, hi, hk⟩
    · unfold F_X7_feed F_X6_isFull F_X6_append; rw [if_neg h0, if_neg h2, f2, if_pos hlt, bs, if_pos rfl, jn_eq, if_pos hlt, chk_in (by omega) (by decide), hcl, nI_1]; rfl
    · unfold F_X8_feed; rw [hin, bs, if_neg one0, f3, if_neg hne, chk_in (by omega) (by decide), hcl, nI_1]
    · show upd (vT 1) n (nI c) i = upd (vM 6) n (nI c) i ∧ ∃ c2, c2 < 256 ∧ upd (vM 6) n (nI c) i = nI c2
      by_cases e : i = n
      · subst e
        rw [upd_s, upd_s]
        exact ⟨rfl, c, by omega, rfl⟩
      · rw [upd_n e, upd_n e]
        exact f4 i (by omega)
theorem st_trace (N : Nat) : St_trace N Rel := by
  intro vR vW vT vS vD vA vI vJ vE vF vP vQ vK vM gW gA gL x1 hrel
  have hk := hrel.2.2.2.2.2.2.1
  obtain ⟨n, hn, f2, f3, f4⟩ := hk
  rcases pk_ix x1 (n := n) (by omega) with hb | hb | ⟨j, hj, rfl⟩
  · refine ⟨-1000000, -1000000, ?_, ?_, rfl, hrel⟩
    · unfold F_X7_trace F_X1_traced; rw [if_pos hb]; rfl
    · unfold F_X8_trace; rw [f3, ix_no (Or.inl hb) (by omega)]; rfl
  · refine ⟨-1000000, -1000000, ?_, ?_, rfl, hrel⟩
    · unfold F_X7_trace F_X1_traced; rw [f2, if_neg (nn_of (by omega) hb), if_neg (nlt_of hb)]; rfl
    · unfold F_X8_trace; rw [f3, ix_no (Or.inr hb) (by omega)]; rfl
  · obtain ⟨g1, c, g2, g3⟩ := f4 j hj
    have hcl : (nI j).toNatClampNeg = j := nI_clamp (by omega)
    refine ⟨nI c, nI c, ?_, ?_, rfl, hrel⟩
    · unfold F_X7_trace F_X1_traced F_X7_orNone; rw [f2, if_neg (nI_pos (by omega)), if_pos (nI_lt hj (by omega)), chk_in (by omega) (by decide), hcl, g1, g3, bs, if_neg (nI_pos (by omega))]; rfl
    · unfold F_X8_trace; rw [f3, ix_ok hj (by omega), bs, if_neg one0, chk_in (by omega) (by decide), hcl, g3]
/-- a thing's number, class and model -/
theorem thing_ix {N : Nat} {v vM : SV} {S : Sh} (h : RC v S) (hm : RM (vM 4) S) (hi : SInv 999 S) (x : Int32) : (F_X5_isThing N v x = some 0 ∧ F_X8_isThing N vM x = some 0) ∨ ∃ j, j < S.2.2.1 ∧ x = nI j ∧ F_X5_isThing N v x = some 1 ∧ F_X8_isThing N vM x = some 1 := by
  have e1 := h.2.2.1
  have e2 := hm.2.2.1
  have h6 := hi.1
  have et : (2 : Int32).toNatClampNeg = 2 := rfl
  unfold F_X5_isThing F_X8_isThing
  rw [chk_dec (n := 55) (x := 2) (by decide), et, e1, e2]
  rcases pk_ix x (n := S.2.2.1) (by omega) with hb | hb | ⟨j, hj, rfl⟩
  · rw [if_pos hb, ix_no (Or.inl hb) (by omega)]
    exact Or.inl ⟨rfl, zr_zero⟩
  · rw [if_neg (nn_of (by omega) hb), if_neg (nlt_of hb), ix_no (Or.inr hb) (by omega)]
    exact Or.inl ⟨rfl, zr_zero⟩
  · refine Or.inr ⟨j, hj, rfl, ?_, ?_⟩
    · rw [if_neg (nI_pos (by omega)), if_pos (nI_lt hj (by omega))]
    · rw [ix_ok hj (by omega)]; exact zr_one
theorem st_kind (N : Nat) : St_kind N Rel := by
  intro vR vW vT vS vD vA vI vJ vE vF vP vQ vK vM gW gA gL x1 hrel
  obtain ⟨S, hc, hm, hi, hs⟩ := hrel.2.2.2.1
  rcases thing_ix (N := N) hc hm hi x1 with ⟨a, b⟩ | ⟨j, hj, rfl, a, b⟩
  · exact ⟨-1000001, -1000001, by unfold F_X7_kind; rw [a]; rfl, by unfold F_X8_kind; rw [b]; rfl, rfl, hrel⟩
  · have h6 := hi.1
    have hcl : (nI j).toNatClampNeg = j := nI_clamp (by omega)
    refine ⟨S.2.1 0 j, S.2.1 0 j, ?_, ?_, rfl, hrel⟩
    · unfold F_X7_kind; rw [a, bs, if_neg one0, chk_in (by omega) (by decide), hcl, (hc.2.2.2.2.2.2.2.1 j hj).1]
    · unfold F_X8_kind; rw [b, bs, if_neg one0, show (7 : Int32) = nI 7 from rfl, nI_add, chk_in (by omega) (by decide), nI_clamp (by omega), (hm.2.2.2.2.2.2.2.1 j hj).1]
theorem st_list (N : Nat) : St_list N Rel := by
  intro vR vW vT vS vD vA vI vJ vE vF vP vQ vK vM gW gA gL x1 hrel
  obtain ⟨S, hc, hm, hi, hs⟩ := hrel.2.2.2.1
  have h6 := hi.1
  have hlen : S.2.2.2.2.length ≤ 6 := by
    have h1 : S.2.2.2.2.length ≤ (List.range S.2.2.1).length := List.Nodup.length_le_of_subset hi.2.2.1 (fun x hx => List.mem_range.mpr (hi.2.2.2.1 x hx))
    rw [List.length_range] at h1
    omega
  have et : (6 : Int32).toNatClampNeg = 6 := rfl
  rcases hs with ⟨z1, z2, z3⟩ | ⟨z1, z3⟩
  · refine ⟨-1000002, -1000002, ?_, ?_, rfl, hrel⟩
    · unfold F_X7_list F_X7_noShow; rw [hc.2.2.1, z1, if_pos (show nI 0 = 0 from rfl)]; rfl
    · unfold F_X8_list; rw [z3, if_pos rfl]
  · have n0 : ¬ nI S.2.2.1 = 0 := nI_ne0 z1 (by omega)
    have f7 : F_X7_list N vR vS x1 = if x1 < 0 then some (-1000001) else if x1 < nI S.2.2.2.2.length then chk 6 x1 (some (vS 8 x1.toNatClampNeg)) else some (-1000000) := by
      unfold F_X7_list F_X7_noShow; rw [hc.2.2.1, if_neg n0, bs, if_pos rfl, hc.2.2.2.2.1]
    have f8 : F_X8_list N vM x1 = if x1 < 0 then some (-1000001) else if x1 < nI S.2.2.2.2.length then chk 55 (31 + x1) (some (vM 4 (31 + x1).toNatClampNeg)) else some (-1000000) := by
      unfold F_X8_list; rw [z3, if_neg one0, chk_dec (n := 55) (x := 6) (by decide), et, hm.2.2.2.2.1]
    rw [f7, f8]
    rcases pk_ix x1 (n := S.2.2.2.2.length) (by omega) with hb | hb | ⟨j, hj, rfl⟩
    · exact ⟨_, _, if_pos hb, if_pos hb, rfl, hrel⟩
    · refine ⟨-1000000, -1000000, ?_, ?_, rfl, hrel⟩
      · rw [if_neg (nn_of (by omega) hb), if_neg (nlt_of hb)]
      · rw [if_neg (nn_of (by omega) hb), if_neg (nlt_of hb)]
    · refine ⟨nI (S.2.2.2.2.getD j 0), nI (S.2.2.2.2.getD j 0), ?_, ?_, rfl, hrel⟩
      · rw [if_neg (nI_pos (by omega)), if_pos (nI_lt hj (by omega)), chk_in (by omega) (by decide), nI_clamp (by omega), hc.2.2.2.2.2.2.2.2.2 j hj]
      · rw [if_neg (nI_pos (by omega)), if_pos (nI_lt hj (by omega)), show (31 : Int32) = nI 31 from rfl, nI_add, chk_in (by omega) (by decide), nI_clamp (by omega), hm.2.2.2.2.2.2.2.2.2 j hj]
