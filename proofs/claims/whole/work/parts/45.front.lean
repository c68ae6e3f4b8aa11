/-! front, off, back -/
theorem st_front {N : Nat} (hN : 3000 ≤ N) : St_front N Rel := by
  intro vR vW vT vS vD vA vI vJ vE vF vP vQ vK vM gW gA gL x1 hrel
  have keep := hrel
  obtain ⟨hr, hs, ht, ⟨S, hc, hm, hi, hs4⟩, ha, hI, hk⟩ := hrel
  rcases thing_ix (N := N) hc hm hi x1 with ⟨a, b⟩ | ⟨j, hj, rfl, a, b⟩
  · exact ⟨(-1000001, vS, vA, gA), (-1000001, vM), by unfold F_X7_front; rw [a]; rfl, by unfold F_X8_front; rw [b]; rfl, rfl, keep⟩
  · have h6 := hi.1
    have h8 := len6 hi
    have h1 : vM 0 4 = 1 := by rcases hs4 with ⟨z, _⟩ | ⟨_, z⟩; omega; exact z
    rcases p_place hN hc hm hi (j := j) (by omega) with ⟨-, p1, p2⟩ | ⟨q, i, hil, -, p1, p2⟩
    · exact ⟨(-1000002, vS, vA, gA), (-1000002, vM), by unfold F_X7_front; rw [a, bs, if_neg one0, p1]; rfl, by unfold F_X8_front; rw [b, bs, if_neg one0, p2]; rfl, rfl, keep⟩
    · obtain ⟨vA', gA', f, x, k1, k2, k3⟩ := p_keep hN hc hm hi (by omega) ha
      obtain ⟨w, w1, w2⟩ := p_firstC hN hc hi hj
      obtain ⟨g, g1, g2⟩ := p_firstM hN (v := up2 (upA vM 8 f) 0 17 x) hc hm hi hj
      refine ⟨(nI i, w, vA', gA'), (nI i, upA (up2 (upA vM 8 f) 0 17 x) 4 g), ?_, ?_, rfl, hr, hs, ht, ⟨_, w2, g2, siL hi (List.nodup_cons.mpr ⟨wo_not, wo_nd hi.2.2.1⟩) (fun y hy => ?_), Or.inr ⟨by show 0 < S.2.2.1; omega, h1⟩⟩, k3, hI, hk.1, fun z => absurd (h1.symm.trans z) one0⟩
      · unfold F_X7_front; rw [a, bs, if_neg one0, p1, bs, if_neg (nI_pos (by omega)), k1, bs, w1]; rfl
      · unfold F_X8_front; rw [b, bs, if_neg one0, p2, bs, if_neg (nI_pos (by omega)), k2, bs, g1]; rfl
      · rcases List.mem_cons.mp hy with e | e
        · rw [e]; exact hj
        · exact hi.2.2.2.1 y (wo_in e)
theorem st_off {N : Nat} (hN : 3000 ≤ N) : St_off N Rel := by
  intro vR vW vT vS vD vA vI vJ vE vF vP vQ vK vM gW gA gL x1 hrel
  have keep := hrel
  obtain ⟨hr, hs, ht, ⟨S, hc, hm, hi, hs4⟩, ha, hI, hk⟩ := hrel
  rcases thing_ix (N := N) hc hm hi x1 with ⟨a, b⟩ | ⟨j, hj, rfl, a, b⟩
  · exact ⟨(-1000001, vS, vA, gA), (-1000001, vM), by unfold F_X7_off; rw [a]; rfl, by unfold F_X8_off; rw [b]; rfl, rfl, keep⟩
  · have h6 := hi.1
    have h8 := len6 hi
    have h1 : vM 0 4 = 1 := by rcases hs4 with ⟨z, _⟩ | ⟨_, z⟩; omega; exact z
    rcases p_place hN hc hm hi (j := j) (by omega) with ⟨-, p1, p2⟩ | ⟨q, i, hil, -, p1, p2⟩
    · exact ⟨(-1000002, vS, vA, gA), (-1000002, vM), by unfold F_X7_off; rw [a, bs, if_neg one0, p1]; rfl, by unfold F_X8_off; rw [b, bs, if_neg one0, p2]; rfl, rfl, keep⟩
    · obtain ⟨vA', gA', f, x, k1, k2, k3⟩ := p_keep hN hc hm hi (by omega) ha
      obtain ⟨w, w1, w2⟩ := p_offC hN hc hi (j := j) (by omega)
      obtain ⟨g, g1, g2⟩ := p_offM hN (v := up2 (upA vM 8 f) 0 17 x) hc hm hi q
      refine ⟨(nI i, _, vA', gA'), (nI i, upA (up2 (upA vM 8 f) 0 17 x) 4 g), ?_, ?_, rfl, hr, hs, ht, ⟨_, rcL hc w2, g2, siL hi (wo_nd hi.2.2.1) (fun y hy => hi.2.2.2.1 y (wo_in hy)), Or.inr ⟨by show 0 < S.2.2.1; omega, h1⟩⟩, k3, hI, hk.1, fun z => absurd (h1.symm.trans z) one0⟩
      · unfold F_X7_off; rw [a, bs, if_neg one0, p1, bs, if_neg (nI_pos (by omega)), k1, bs, w1]; rfl
      · unfold F_X8_off; rw [b, bs, if_neg one0, p2, bs, if_neg (nI_pos (by omega)), k2, bs, g1]; rfl
