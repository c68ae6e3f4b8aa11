/-! an act kept: the ring and the model's row of acts -/
theorem rm_cg {B : Nat} {m f : Nat → Int32} {S : Sh} (h : RM m S) (hi : SInv B S) (hk : ∀ i, i < 55 → f i = m i) : RM f S := by
  have h1 := hi.1
  have h2 := hi.2.1
  have h3 := len6 hi
  obtain ⟨a0, a1, a2, a3, a4, a5, a6, a7, a8, a9⟩ := h
  refine ⟨(hk 0 (by omega)).trans a0, (hk 1 (by omega)).trans a1, (hk 2 (by omega)).trans a2, (hk 3 (by omega)).trans a3, (hk 6 (by omega)).trans a4, (hk 4 (by omega)).trans a5, (hk 5 (by omega)).trans a6, fun i hi => ?_, fun i hi => ?_, fun i hi => (hk (31 + i) (by omega)).trans (a9 i hi)⟩
  · obtain ⟨b1, b2, b3, b4⟩ := a7 i hi
    exact ⟨(hk (7 + i) (by omega)).trans b1, (hk (13 + i) (by omega)).trans b2, (hk (19 + i) (by omega)).trans b3, (hk (25 + i) (by omega)).trans b4⟩
  · obtain ⟨b1, b2, b3⟩ := a8 i hi
    exact ⟨(hk (37 + i) (by omega)).trans b1, (hk (43 + i) (by omega)).trans b2, (hk (49 + i) (by omega)).trans b3⟩
theorem upF_s {g : Nat → SV} {i : Nat} {v : SV} : upF g i v i = v := if_pos rfl
theorem upF_n {g : Nat → SV} {i j : Nat} {v : SV} (h : ¬ j = i) : upF g i v j = g j := if_neg h
theorem p_keep {N : Nat} (hN : 3000 ≤ N) {vS vA vM : SV} {gA : Nat → SV} {S : Sh} (hc : RC vS S) (hm : RM (vM 4) S) (hi : SInv 999 S) (hp : 0 < S.2.2.1) (ha : RAct vA gA (vM 0 17) (vM 8)) : ∃ vA' gA' f x, F_X0_keep N vS vA gA = some (vA', gA') ∧ F_X8_note N vM = some (up2 (upA vM 8 f) 0 17 x) ∧ RAct vA' gA' x f := by
  obtain ⟨c, k, hc24, hk, a1, a2, a3, a4⟩ := ha
  obtain ⟨f, q, hq, f1, f2, f3⟩ := p_noteM hN hk a3
  refine ⟨up2 (up2 vA 0 1 (nI ((c + 1) % 24))) 0 2 (nI (q + 1)), upF gA c (ovr (gA c) vS), f, nI (q + 1), ?_, f1, (c + 1) % 24, q + 1, Nat.mod_lt _ (by decide), by omega, rfl, rfl, rfl, fun j hj => ?_⟩
  · have er : (nI c + 1) - (nI c + 1) / (24 : Int32) * (24 : Int32) = nI ((c + 1) % 24) := by
      rw [nI_1]
      exact pk_rem (d := 24) (by omega) (by decide) (by decide)
    have em : (if nI k + 1 < (24 : Int32) then nI k + 1 else (24 : Int32)) = nI (q + 1) := by
      rw [nI_1]
      rcases hq with ⟨e, h⟩ | ⟨e, h⟩
      · subst e
        by_cases z : q + 1 < 24
        · rw [if_pos (show nI (q + 1) < (24 : Int32) from nI_lt (b := 24) z (by decide))]
        · have : q = 23 := by omega
          subst this
          decide
      · subst e
        subst h
        decide
    unfold F_X0_keep
    rw [a1, a2, chk_in hc24 (by decide), nI_clamp (by omega), p_over, bs, er, em]
  · by_cases e : j = q
    · subst e
      refine ⟨S, ?_, rm_cg hm hi (fun i h => f3 i h), hi, hp⟩
      rw [show ((c + 1) % 24 + 24 - (j + 1) + j) % 24 = c from by omega, upF_s]
      exact ovr_rc hc hi
    · obtain ⟨T, t1, t2, t3, t4⟩ := a4 (j + (k - q)) (by omega)
      refine ⟨T, ?_, rm_cg t2 t3 (fun i h => ?_), t3, t4⟩
      · rw [upF_n (by omega), show ((c + 1) % 24 + 24 - (q + 1) + j) % 24 = (c + 24 - k + (j + (k - q))) % 24 from by omega]
        exact t1
      · rw [f2 _ (by omega)]
        show vM 8 _ = vM 8 _
        congr 1
        omega
