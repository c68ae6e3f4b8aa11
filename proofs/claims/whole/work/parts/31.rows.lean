/-! the rows' calls -/
theorem ff {N : Nat} {v : SV} {x : Int32} : F_X7_found N v x = some (-1000010 - x, up2 v 0 10 x) := rfl
theorem fn {N : Nat} {v : SV} {x : Int32} : F_X7_foundNothing N v x = some (x, up2 v 0 10 0) := rfl
theorem mf {N : Nat} {v : SV} {x : Int32} : F_X8_find N v x = some (-1000010 - x, up2 v 0 3 x) := rfl
theorem mw {N : Nat} {v : SV} {x : Int32} : F_X8_well N v x = some (x, up2 v 0 3 0) := rfl
theorem bs {α β : Type} (a : α) (k : α → Option β) : (some a).bind k = k a := rfl
theorem one0 : ¬ (1 : Int32) = 0 := by decide
theorem m1lt : (-1 : Int32) < 0 := by decide
theorem st_drop (N : Nat) : St_drop N Rel := by
  intro vR vW vT vS vD vA vI vJ vE vF vP vQ vK vM gW gA gL x1 hrel
  obtain ⟨hr, hs, ht, hg, ha, hi, hk⟩ := hrel
  have bad : (x1 < 0 ∨ nI 8 ≤ x1) → ∃ (r : Int32 × SV × SV) (m : Int32 × SV), F_X7_drop N vR vW x1 = some r ∧ F_X8_drop N vM x1 = some m ∧ r.1 = m.1 ∧ Rel r.2.1 r.2.2 vT vS vD vA vI vJ vE vF vP vQ vK m.2 gW gA gL := by
    intro hb
    obtain ⟨a, b⟩ := row_bad N hb
    refine ⟨(-1000001, vR, vW), (-1000001, vM), ?_, ?_, rfl, hr, hs, ht, hg, ha, hi, hk⟩
    · unfold F_X7_drop; rw [a]; rfl
    · unfold F_X8_drop; rw [b]; rfl
  rcases pk_ix x1 (n := 8) (by decide) with hb | hb | ⟨j, hj, rfl⟩
  · exact bad (Or.inl hb)
  · exact bad (Or.inr hb)
  · obtain ⟨a, b⟩ := row_ok N hj
    have hc : (nI j).toNatClampNeg = j := nI_clamp (by omega)
    rcases p_miss N hr hj with ⟨h1, h2, h3, h4⟩ | ⟨n, la, g1, g2, g3, g4, g5, g6, g7⟩
    · refine ⟨(-1000010 - 1, up2 vR 0 10 1, vW), (-1000010 - 1, up2 vM 0 3 1), ?_, ?_, rfl, hr, rfl, ht, hg, ha, hi, hk⟩
      · unfold F_X7_drop; rw [a, bs, if_neg one0, h4, bs, if_neg one0, ff]; rfl
      · unfold F_X8_drop; rw [b, bs, if_neg one0, chk_in hj (by decide), hc, h3, if_pos m1lt, mf]; rfl
    · have hn : ¬ nI n < 0 := nI_pos (by omega)
      refine ⟨(nI n, up2 vR 0 10 0, up2 (up2 vW 1 j (-1)) 2 j 0), (nI n, up2 (up2 vM 2 j (-1)) 0 3 0), ?_, ?_, rfl, hr.gone j, rfl, ht, hg, ha, hi, hk⟩
      · unfold F_X7_drop; rw [a, bs, if_neg one0, g7, bs, if_pos rfl]
        unfold F_X3_lose
        rw [chk_in hj (by decide), chk_in hj (by decide), chk_in hj (by decide), hc, g4, bs, fn]; rfl
      · unfold F_X8_drop; rw [b, bs, if_neg one0, chk_in hj (by decide), hc, g5, if_neg hn, chk_in hj (by decide), chk_in hj (by decide), mw]; rfl
theorem st_status (N : Nat) : St_status N Rel := by
  intro vR vW vT vS vD vA vI vJ vE vF vP vQ vK vM gW gA gL hrel
  exact ⟨_, _, rfl, rfl, hrel.2.1, hrel⟩
theorem st_fault (N : Nat) : St_fault N Rel := by
  intro vR vW vT vS vD vA vI vJ vE vF vP vQ vK vM gW gA gL hrel
  exact ⟨_, _, rfl, rfl, hrel.2.2.1.1, hrel⟩
