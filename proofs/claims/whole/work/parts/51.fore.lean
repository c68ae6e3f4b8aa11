/-! ranges; next, ahead, when, comes -/
theorem rg {N : Nat} {l h : Int32} (lo hi : Nat) (hl : l = nI lo) (hh : h = nI hi) {b c : Int64} (hb : b.toInt = lo) (hc : c.toInt = hi) (hlh : lo ≤ hi) (h30 : hi < 2 ^ 30) (x : Int32) : (x < l ∧ F_X8_in N x.toInt64 b c = some 0) ∨ (¬ x < l ∧ h < x ∧ F_X8_in N x.toInt64 b c = some 0) ∨ (∃ n, lo ≤ n ∧ n ≤ hi ∧ x = nI n ∧ ¬ x < l ∧ ¬ h < x ∧ F_X8_in N x.toInt64 b c = some 1) := by
  subst hl
  subst hh
  have e1 := nI_toInt (n := lo) (by omega)
  have e2 := nI_toInt (n := hi) (by omega)
  by_cases q1 : x < nI lo
  · have := Int32.lt_iff_toInt_lt.mp q1
    exact Or.inl ⟨q1, in_no hb hc (by omega)⟩
  · have g1 : ¬ x.toInt < (nI lo).toInt := fun z => q1 (Int32.lt_iff_toInt_lt.mpr z)
    by_cases q2 : nI hi < x
    · have := Int32.lt_iff_toInt_lt.mp q2
      exact Or.inr (Or.inl ⟨q1, q2, in_no hb hc (by omega)⟩)
    · have g2 : ¬ (nI hi).toInt < x.toInt := fun z => q2 (Int32.lt_iff_toInt_lt.mpr z)
      refine Or.inr (Or.inr ?_)
      obtain ⟨j, j1, j2⟩ : ∃ j : Nat, j < 2 ^ 31 ∧ x = nI j := nI_of (fun z => by
        have := Int32.lt_iff_toInt_lt.mp z
        have hz : (0 : Int32).toInt = 0 := rfl
        omega)
      have e3 := nI_toInt j1
      rw [← j2] at e3
      exact ⟨j, by omega, by omega, j2, q1, q2, in_ok hb hc (by omega)⟩
theorem rgW {N : Nat} (x : Int32) : (x < 0 ∧ F_X8_isWhat N x = some 0) ∨ (¬ x < 0 ∧ 1 < x ∧ F_X8_isWhat N x = some 0) ∨ (∃ n, n ≤ 1 ∧ x = nI n ∧ ¬ x < 0 ∧ ¬ 1 < x ∧ F_X8_isWhat N x = some 1) := by
  unfold F_X8_isWhat
  rcases rg (N := N) (l := 0) (h := 1) 0 1 rfl rfl (b := 0) (c := 1) rfl rfl (by omega) (by omega) x with ⟨a, b⟩ | ⟨a, b, c⟩ | ⟨n, -, h, e, a, b, c⟩
  · exact Or.inl ⟨a, by rw [b]; exact zr_zero⟩
  · exact Or.inr (Or.inl ⟨a, b, by rw [c]; exact zr_zero⟩)
  · exact Or.inr (Or.inr ⟨n, h, e, a, b, by rw [c]; exact zr_one⟩)
theorem st_next {N : Nat} (hN : 3000 ≤ N) : St_next N Rel := by
  intro vR vW vT vS vD vA vI vJ vE vF vP vQ vK vM gW gA gL x1 hrel
  obtain ⟨S, hc, hm, hi, hs⟩ := hrel.2.2.2.1
  rcases no_show (N := N) (vR := vR) hc hi.1 hs with ⟨a, b⟩ | ⟨a, b, -⟩
  · exact ⟨(-1000002, vF), -1000002, by unfold F_X7_next; rw [a]; rfl, by unfold F_X8_next; rw [b]; rfl, rfl, hrel⟩
  rcases rg (N := N) (l := 0) (h := 2) 0 2 rfl rfl (b := 0) (c := 2) rfl rfl (by omega) (by omega) x1 with ⟨c, d⟩ | ⟨c, d, e⟩ | ⟨n, -, -, -, c, d, e⟩
  · exact ⟨(-1000001, vF), -1000001, by unfold F_X7_next; rw [a, bs, if_pos rfl, if_pos c], by unfold F_X8_next; rw [b, if_neg one0, d]; rfl, rfl, hrel⟩
  · exact ⟨(-1000001, vF), -1000001, by unfold F_X7_next; rw [a, bs, if_pos rfl, if_neg c, if_pos d], by unfold F_X8_next; rw [b, if_neg one0, e]; rfl, rfl, hrel⟩
  obtain ⟨o, ho, n1, ⟨w, w1, w2, w3, w4, w5⟩, -⟩ := p_tap hN (ovr_rc (v := vF) hc hi) hm hi
  refine ⟨(if x1 = 0 then nxI o else if x1 = 1 then nI (tapG S o) else nI (tapA S o), w), _, ?_, ?_, rfl, hrel⟩
  · unfold F_X7_next F_X4_nextOne
    rw [a, bs, if_pos rfl, if_neg c, if_neg d, p_over, bs, w1, bs, w3, w4, w5]
    by_cases e0 : x1 = 0
    · rw [if_pos e0, if_pos e0]; rfl
    · rw [if_neg e0, if_neg e0]
      by_cases e1 : x1 = 1
      · rw [if_pos e1, if_pos e1]; rfl
      · rw [if_neg e1, if_neg e1]; rfl
  · unfold F_X8_next
    rw [b, if_neg one0, e, bs, if_neg one0, n1, bs]
    simp only [jn_eq]
    cases o with
    | none =>
      rw [if_pos (show nxI none < 0 by decide)]
      by_cases e0 : x1 = 0
      · rw [if_pos e0, if_pos e0]
      · rw [if_neg e0, if_neg e0]
        by_cases e1 : x1 = 1
        · rw [if_pos e1]; rfl
        · rw [if_neg e1]; rfl
    | some j =>
      have hj := hi.2.2.2.1 j (ho j rfl)
      have h6 := hi.1
      rw [if_neg (show ¬ nxI (some j) < 0 from nI_pos (n := j) (by omega))]
      by_cases e0 : x1 = 0
      · rw [if_pos e0, if_pos e0, if_pos e0]
      · rw [if_neg e0, if_neg e0, show F_X8_pleasedBy N vM (nxI (some j)) = _ from p_plM hN hm hi hj, bs]
        by_cases e1 : x1 = 1
        · rw [if_pos e1, if_pos e1]; rfl
        · rw [if_neg e1, if_neg e1, show F_X8_clapsFor N vM (nxI (some j)) _ = _ from p_clM hN hm hi hj]; rfl
theorem st_ahead {N : Nat} (hN : 3000 ≤ N) : St_ahead N Rel := by
  intro vR vW vT vS vD vA vI vJ vE vF vP vQ vK vM gW gA gL x1 x2 hrel
  obtain ⟨S, hc, hm, hi, hs⟩ := hrel.2.2.2.1
  have h6 := hi.2.1
  rcases no_show (N := N) (vR := vR) hc hi.1 hs with ⟨a, b⟩ | ⟨a, b, -⟩
  · exact ⟨(-1000002, vF), (-1000002, vM), by unfold F_X7_ahead; rw [a]; rfl, by unfold F_X8_ahead; rw [b]; rfl, rfl, hrel⟩
  rcases rg (N := N) (l := 0) (h := 60) 0 60 rfl rfl (b := 0) (c := 60) rfl rfl (by omega) (by omega) x1 with ⟨c, d⟩ | ⟨c, d, e⟩ | ⟨n, -, h60, rfl, c, d, e⟩
  · exact ⟨(-1000001, vF), (-1000001, vM), by unfold F_X7_ahead; rw [a, bs, if_pos rfl, if_pos c], by unfold F_X8_ahead; rw [b, if_neg one0, d]; rfl, rfl, hrel⟩
  · exact ⟨(-1000001, vF), (-1000001, vM), by unfold F_X7_ahead; rw [a, bs, if_pos rfl, if_neg c, if_pos d], by unfold F_X8_ahead; rw [b, if_neg one0, e]; rfl, rfl, hrel⟩
  rcases rg (N := N) (l := 0) (h := 3) 0 3 rfl rfl (b := 0) (c := 3) rfl rfl (by omega) (by omega) x2 with ⟨c2, d2⟩ | ⟨c2, d2, e2⟩ | ⟨n2, -, -, -, c2, d2, e2⟩
  · exact ⟨(-1000001, vF), (-1000001, vM), by unfold F_X7_ahead; rw [a, bs, if_pos rfl, if_neg c, if_neg d, if_pos c2], by unfold F_X8_ahead; rw [b, if_neg one0, e, bs, if_neg one0, d2]; rfl, rfl, hrel⟩
  · exact ⟨(-1000001, vF), (-1000001, vM), by unfold F_X7_ahead; rw [a, bs, if_pos rfl, if_neg c, if_neg d, if_neg c2, if_pos d2], by unfold F_X8_ahead; rw [b, if_neg one0, e, bs, if_neg one0, e2]; rfl, rfl, hrel⟩
  obtain ⟨as, a1, a2⟩ := p_aside hN vM
  obtain ⟨w, S1, f, S2, w1, w2, w3, w4, w5, w6, w7, -⟩ := p_while hN h60 (ovr_rc (v := vF) hc hi) (vM := upA vM 9 as) hm hi
  obtain ⟨g, g1, g2⟩ := p_tback hN (upA (upA vM 9 as) 4 f)
  refine ⟨(stdV S1 x2, w), (stdV S2 x2, upA (upA vM 9 as) 4 g), ?_, ?_, (std_same w7 x2).symm, rel_fore hrel (fun i hI => (g2 i hI).trans (a2 i hI)) _ _ _ _ _⟩
  · unfold F_X7_ahead F_X4_standingBehind
    rw [a, bs, if_pos rfl, if_neg c, if_neg d, if_neg c2, if_neg d2, p_over, bs, w1, bs, p_stdC hN w2 w5.2.1]
    rfl
  · unfold F_X8_ahead
    rw [b, if_neg one0, e, bs, if_neg one0, e2, bs, if_neg one0, a1, bs, w3, bs, p_stdM hN (v := upA (upA vM 9 as) 4 f) w4 w6.2.1, bs, g1, upA_upA]
    rfl
theorem l_when {N q : Nat} {x2 : Int32} {vS vE : SV} (hN : 3000 ≤ N) : ∀ d t n n2 v vM S B, t + d = 60 → RC v S → RM (vM 4) S → SInv B S → q < S.2.2.2.1 → d + 1 < n → d < n2 → ∃ k w f, ((∀ K, F_X8_when_L29 N (nI q) x2 K n2 (nI t) vM = K (nI k) (upA vM 4 f)) ∧ k ≤ 60 ∧ ((f (49 + q) = x2 ∧ F_X4_tapsUntil_L11 N vS vE (nI q) x2 n (nI t) v = some (nI k, w)) ∨ (¬ f (49 + q) = x2 ∧ F_X4_tapsUntil_L11 N vS vE (nI q) x2 n (nI t) v = some (-1, w)))) := by
  intro d
  induction d with
  | zero =>
    intro t n n2 v vM S B ht hc hm hi hq hn hn2
    obtain ⟨n, rfl⟩ : ∃ m, n = m + 2 := ⟨n - 2, by omega⟩
    obtain ⟨n2, rfl⟩ : ∃ m, n2 = m + 1 := ⟨n2 - 1, by omega⟩
    have h6 := hi.2.1
    have et : t = 60 := by omega
    subst et
    obtain ⟨b1, b2, b3⟩ := hc.2.2.2.2.2.2.2.2.1 q hq
    obtain ⟨m1, m2, m3⟩ := hm.2.2.2.2.2.2.2.2.1 q hq
    have em : ∀ K, F_X8_when_L29 N (nI q) x2 K (n2 + 1) (nI 60) vM = K (nI 60) vM := fun K => by
      rw [F_X8_when_L29, show (49 : Int32) = nI 49 from rfl, nI_add, chk_in (n := 55) (k := 49 + q) (by omega) (by decide), nI_clamp (n := 49 + q) (by omega), m3]
      by_cases z : S.2.1 6 q = x2
      · rw [if_pos z]
      · rw [if_neg z, if_neg (by decide)]
    by_cases z : S.2.1 6 q = x2
    · refine ⟨60, v, vM 4, fun K => by rw [em, upA_self], by omega, Or.inl ⟨m3.trans z, ?_⟩⟩
      rw [F_X4_tapsUntil_L11, if_neg (by decide), chk_in (n := 6) (k := q) (by omega) (by decide), nI_clamp (n := q) (by omega), b3, if_pos z]
    · obtain ⟨o, ho, -, ⟨w, w1, w2, -⟩, -⟩ := p_tap hN hc hm hi
      refine ⟨60, w, vM 4, fun K => by rw [em, upA_self], by omega, Or.inr ⟨fun h => z (m3.symm.trans h), ?_⟩⟩
      rw [F_X4_tapsUntil_L11, if_neg (by decide), chk_in (n := 6) (k := q) (by omega) (by decide), nI_clamp (n := q) (by omega), b3, if_neg z, w1, bs, F_X4_tapsUntil_L11, if_pos (by decide)]
  | succ d ih =>
    intro t n n2 v vM S B ht hc hm hi hq hn hn2
    obtain ⟨n, rfl⟩ : ∃ m, n = m + 1 := ⟨n - 1, by omega⟩
    obtain ⟨n2, rfl⟩ : ∃ m, n2 = m + 1 := ⟨n2 - 1, by omega⟩
    have h6 := hi.2.1
    obtain ⟨b1, b2, b3⟩ := hc.2.2.2.2.2.2.2.2.1 q hq
    obtain ⟨m1, m2, m3⟩ := hm.2.2.2.2.2.2.2.2.1 q hq
    have hlt : nI t < (60 : Int32) := nI_lt (b := 60) (by omega) (by decide)
    have hnl : ¬ (60 : Int32) < nI t := nI_nlt (a := 60) (by omega) (by decide)
    by_cases z : S.2.1 6 q = x2
    · refine ⟨t, v, vM 4, fun K => ?_, by omega, Or.inl ⟨m3.trans z, ?_⟩⟩
      · rw [F_X8_when_L29, show (49 : Int32) = nI 49 from rfl, nI_add, chk_in (n := 55) (k := 49 + q) (by omega) (by decide), nI_clamp (n := 49 + q) (by omega), m3, if_pos z, upA_self]
      · rw [F_X4_tapsUntil_L11, if_neg hnl, chk_in (n := 6) (k := q) (by omega) (by decide), nI_clamp (n := q) (by omega), b3, if_pos z]
    · obtain ⟨o, ho, -, ⟨w, w1, w2, -⟩, f, f1, f2⟩ := p_tap hN hc hm hi
      obtain ⟨k, w', g, g1, g2, g3⟩ := ih (t + 1) n n2 w (upA vM 4 f) (tapS S o) (B + 1) (by omega) w2 f2 (siTap hi ho) (by rw [tap_th.2]; exact hq) (by omega) (by omega)
      refine ⟨k, w', g, fun K => ?_, g2, ?_⟩
      · rw [F_X8_when_L29, show (49 : Int32) = nI 49 from rfl, nI_add, chk_in (n := 55) (k := 49 + q) (by omega) (by decide), nI_clamp (n := 49 + q) (by omega), m3, if_neg z, if_pos hlt, f1, bs, nI_1, g1, upA_upA]
      · rw [F_X4_tapsUntil_L11, if_neg hnl, chk_in (n := 6) (k := q) (by omega) (by decide), nI_clamp (n := q) (by omega), b3, if_neg z, w1, bs, nI_1]
        exact g3
theorem st_when {N : Nat} (hN : 3000 ≤ N) : St_when N Rel := by
  intro vR vW vT vS vD vA vI vJ vE vF vP vQ vK vM gW gA gL x1 x2 hrel
  obtain ⟨S, hc, hm, hi, hs⟩ := hrel.2.2.2.1
  have h6 := hi.2.1
  rcases seat_ix (N := N) hc hm h6 x1 with ⟨a, b⟩ | ⟨q, hq, rfl, a, b⟩
  · exact ⟨(-1000001, vF), (-1000001, vM), by unfold F_X7_when; rw [a]; rfl, by unfold F_X8_when; rw [b]; rfl, rfl, hrel⟩
  rcases rg (N := N) (l := 1) (h := 2) 1 2 rfl rfl (b := 1) (c := 2) rfl rfl (by omega) (by omega) x2 with ⟨c, d⟩ | ⟨c, d, e⟩ | ⟨n, -, -, -, c, d, e⟩
  · exact ⟨(-1000001, vF), (-1000001, vM), by unfold F_X7_when; rw [a, bs, if_neg one0, if_pos c], by unfold F_X8_when; rw [b, bs, if_neg one0, d]; rfl, rfl, hrel⟩
  · exact ⟨(-1000001, vF), (-1000001, vM), by unfold F_X7_when; rw [a, bs, if_neg one0, if_neg c, if_pos d], by unfold F_X8_when; rw [b, bs, if_neg one0, e]; rfl, rfl, hrel⟩
  obtain ⟨as, a1, a2⟩ := p_aside hN vM
  obtain ⟨k, w, f, f1, f2, f3⟩ := l_when (q := q) (x2 := x2) (vS := vS) (vE := vE) hN 60 0 N N (ovr vF vS) (upA vM 9 as) S 999 (by omega) (ovr_rc hc hi) hm hi hq (by omega) (by omega)
  obtain ⟨g, g1, g2⟩ := p_tback hN (upA (upA vM 9 as) 4 f)
  have e7 : F_X7_when N vR vS vE vF (nI q) x2 = (F_X4_tapsUntil_L11 N vS vE (nI q) x2 N (nI 0) (ovr vF vS)).bind (fun q34 => (F_X7_orNone N (q34.1)).bind (fun q37 => some (q37, (q34.2)))) := by
    unfold F_X7_when F_X4_tapsUntil
    rw [a, bs, if_neg one0, if_neg c, if_neg d, p_over, bs]
    rfl
  have e8 : F_X8_when N vM (nI q) x2 = if f (49 + q) = x2 then some (nI k, upA (upA vM 9 as) 4 g) else some (-1000000, upA (upA vM 9 as) 4 g) := by
    unfold F_X8_when
    rw [b, bs, if_neg one0, e, bs, if_neg one0, a1, bs, show ∀ K, F_X8_when_L29 N (nI q) x2 K N (0 : Int32) (upA vM 9 as) = K (nI k) (upA (upA vM 9 as) 4 f) from f1, show (49 : Int32) = nI 49 from rfl, nI_add, chk_in (n := 55) (k := 49 + q) (by omega) (by decide), nI_clamp (n := 49 + q) (by omega)]
    simp only [jn_eq]
    rw [g1, bs, bs, upA_upA, if_neg one0, if_pos trivial]
    rfl
  have fin := rel_fore hrel (a := as) (g := g) (fun i hI => (g2 i hI).trans (a2 i hI))
  rcases f3 with ⟨z, y⟩ | ⟨z, y⟩
  · refine ⟨(nI k, w), (nI k, upA (upA vM 9 as) 4 g), ?_, by rw [e8, if_pos z], rfl, fin _ _ _ _ _⟩
    rw [e7, y, bs]
    unfold F_X7_orNone
    rw [if_neg (nI_pos (by omega))]
    rfl
  · refine ⟨(-1000000, w), (-1000000, upA (upA vM 9 as) 4 g), ?_, by rw [e8, if_neg z], rfl, fin _ _ _ _ _⟩
    rw [e7, y, bs]
    rfl
theorem l_comes {N j : Nat} {vS vE : SV} (hN : 3000 ≤ N) (hj : j < 6) : ∀ d t n n2 v vM S B, t + d = 61 → RC v S → RM (vM 4) S → SInv B S → d < n → d + 1 < n2 → ∃ rc rm w f, F_X4_tapOf_L10 N vS vE (nI j) n (nI t) v = some (rc, w) ∧ (∀ K, F_X8_comes_L20 N (nI j) K n2 (-1000000) (nI t) vM = K rm (upA vM 4 f)) ∧ ((rc = -1 ∧ rm = -1000000) ∨ ∃ k, k ≤ 60 ∧ rc = nI k ∧ rm = nI k) := by
  intro d
  induction d with
  | zero =>
    intro t n n2 v vM S B ht hc hm hi hn hn2
    obtain ⟨n, rfl⟩ : ∃ m, n = m + 1 := ⟨n - 1, by omega⟩
    obtain ⟨n2, rfl⟩ : ∃ m, n2 = m + 1 := ⟨n2 - 1, by omega⟩
    have et : t = 61 := by omega
    subst et
    refine ⟨-1, -1000000, v, vM 4, ?_, fun K => ?_, Or.inl ⟨rfl, rfl⟩⟩
    · rw [F_X4_tapOf_L10, if_pos (by decide)]
    · rw [F_X8_comes_L20, if_pos (by decide), upA_self]
  | succ d ih =>
    intro t n n2 v vM S B ht hc hm hi hn hn2
    obtain ⟨n, rfl⟩ : ∃ m, n = m + 1 := ⟨n - 1, by omega⟩
    obtain ⟨n2, rfl⟩ : ∃ m, n2 = m + 2 := ⟨n2 - 2, by omega⟩
    have hnl : ¬ (60 : Int32) < nI t := nI_nlt (a := 60) (by omega) (by decide)
    obtain ⟨o, ho, n1, ⟨w, w1, w2, w3, -⟩, f, f1, f2⟩ := p_tap hN hc hm hi
    have em : ∀ K, F_X8_comes_L20 N (nI j) K (n2 + 2) (-1000000) (nI t) vM = if nxI o = nI j then F_X8_comes_L20 N (nI j) K (n2 + 1) (nI t) (nI (t + 1)) (upA vM 4 f) else F_X8_comes_L20 N (nI j) K (n2 + 1) (-1000000) (nI (t + 1)) (upA vM 4 f) := fun K => by
      rw [F_X8_comes_L20, if_neg hnl, if_pos (by decide), n1, bs]
      simp only [jn_eq]
      rw [f1, bs, bs, nI_1]
    by_cases z : nxI o = nI j
    · refine ⟨nI t, nI t, w, f, ?_, fun K => ?_, Or.inr ⟨t, by omega, rfl, rfl⟩⟩
      · rw [F_X4_tapOf_L10, if_neg hnl, w1, bs, w3, if_pos z]
      · rw [em, if_pos z, F_X8_comes_L20]
        by_cases y : (60 : Int32) < nI (t + 1)
        · rw [if_pos y]
        · rw [if_neg y, if_neg (nI_pos (by omega))]
    · obtain ⟨rc, rm, w', g, g1, g2, g3⟩ := ih (t + 1) n (n2 + 1) w (upA vM 4 f) (tapS S o) (B + 1) (by omega) w2 f2 (siTap hi ho) (by omega) (by omega)
      refine ⟨rc, rm, w', g, ?_, fun K => ?_, g3⟩
      · rw [F_X4_tapOf_L10, if_neg hnl, w1, bs, w3, if_neg z, nI_1, g1]
      · rw [em, if_neg z, g2, upA_upA]
theorem st_comes {N : Nat} (hN : 3000 ≤ N) : St_comes N Rel := by
  intro vR vW vT vS vD vA vI vJ vE vF vP vQ vK vM gW gA gL x1 hrel
  obtain ⟨S, hc, hm, hi, hs⟩ := hrel.2.2.2.1
  have h6 := hi.1
  rcases thing_ix (N := N) hc hm hi x1 with ⟨a, b⟩ | ⟨q, hq, rfl, a, b⟩
  · exact ⟨(-1000001, vF), (-1000001, vM), by unfold F_X7_comes; rw [a]; rfl, by unfold F_X8_comes; rw [b]; rfl, rfl, hrel⟩
  obtain ⟨as, a1, a2⟩ := p_aside hN vM
  obtain ⟨rc, rm, w, f, f1, f2, f3⟩ := l_comes (j := q) (vS := vS) (vE := vE) hN (by omega) 60 1 N N (ovr vF vS) (upA vM 9 as) S 999 (by omega) (ovr_rc hc hi) hm hi (by omega) (by omega)
  obtain ⟨g, g1, g2⟩ := p_tback hN (upA (upA vM 9 as) 4 f)
  have fin := rel_fore hrel (a := as) (g := g) (fun i hI => (g2 i hI).trans (a2 i hI))
  refine ⟨(rm, w), (rm, upA (upA vM 9 as) 4 g), ?_, ?_, rfl, fin _ _ _ _ _⟩
  · unfold F_X7_comes F_X4_tapOf
    rw [a, bs, if_neg one0, p_over, bs, show F_X4_tapOf_L10 N vS vE (nI q) N (1 : Int32) (ovr vF vS) = some (rc, w) from f1, bs]
    unfold F_X7_orNone
    rcases f3 with ⟨y, z⟩ | ⟨k, k1, y, z⟩
    · rw [y, z]; rfl
    · rw [y, z, if_neg (nI_pos (by omega))]; rfl
  · unfold F_X8_comes
    rw [b, bs, if_neg one0, a1, bs, show ∀ K, F_X8_comes_L20 N (nI q) K N (-1000000) (1 : Int32) (upA vM 9 as) = K rm (upA (upA vM 9 as) 4 f) from f2, g1, upA_upA]
    rfl
