/-! as, count -/
theorem p_kindC (N M : Nat) {k q : Nat} (hk : 1 ≤ k ∧ k ≤ 5) (hq : q ≤ 5) : F_X1_isOneOf_L4 N (nI q) (M + 8) (nI k) 0 = F_X8_isKind N (nI k) (nI q) := by
  obtain ⟨h1, h2⟩ := hk
  have hk' : k = 1 ∨ k = 2 ∨ k = 3 ∨ k = 4 ∨ k = 5 := by omega
  have hq' : q = 0 ∨ q = 1 ∨ q = 2 ∨ q = 3 ∨ q = 4 ∨ q = 5 := by omega
  rcases hk' with rfl | rfl | rfl | rfl | rfl <;> rcases hq' with rfl | rfl | rfl | rfl | rfl | rfl <;> rfl
theorem p_kind {N : Nat} (hN : 3000 ≤ N) {k q : Nat} (hk : 1 ≤ k ∧ k ≤ 5) (hq : q ≤ 5) : F_X1_isOneOf N (nI k) (nI q) = F_X8_isKind N (nI k) (nI q) := by
  have h := p_kindC N (N - 8) hk hq
  rw [show N - 8 + 8 = N from by omega] at h
  exact h
theorem p_isKind (N : Nat) (k q : Int32) : F_X8_isKind N k q = some 0 ∨ F_X8_isKind N k q = some 1 := by
  unfold F_X8_isKind
  simp only [jn_eq]
  repeat' split
  all_goals first | exact Or.inl rfl | exact Or.inr rfl
theorem st_as {N : Nat} (hN : 3000 ≤ N) : St_as N Rel := by
  intro vR vW vT vS vD vA vI vJ vE vF vP vQ vK vM gW gA gL x1 x2 hrel
  have keep := hrel
  obtain ⟨hr, hs, ht, ⟨S, hc, hm, hi, hs4⟩, ha, hI, hk⟩ := hrel
  have hz : (0 : Int32).toInt = 0 := rfl
  have h5 : (6 : Int32).toInt = 6 := rfl
  rcases thing_ix (N := N) hc hm hi x1 with ⟨a, b⟩ | ⟨j, hj, rfl, a, b⟩
  · exact ⟨(-1000001, vR), (-1000001, vM), by unfold F_X7_as; rw [a]; rfl, by unfold F_X8_as; rw [b]; rfl, rfl, keep⟩
  · have h6 := hi.1
    have hcl : (nI j).toNatClampNeg = j := nI_clamp (by omega)
    by_cases h0 : x2 < 0
    · have := Int32.lt_iff_toInt_lt.mp h0
      exact ⟨(-1000001, vR), (-1000001, vM), by unfold F_X7_as F_X1_isKind; rw [a, bs, if_neg one0, if_pos h0]; rfl, by unfold F_X8_as; rw [b, bs, if_neg one0, in_no (B := 0) (C := 5) rfl rfl (by omega)]; rfl, rfl, keep⟩
    by_cases h2 : x2 < (6 : Int32)
    · obtain ⟨q, hq, rfl⟩ : ∃ c, c ≤ 5 ∧ x2 = nI c := nI_of2 (M := 5) (n := 5) (by decide) h0 (by
        have := Int32.lt_iff_toInt_lt.mp h2
        refine Int32.le_iff_toInt_le.mpr ?_
        show x2.toInt ≤ 5
        omega)
      have eq := nI_toInt (n := q) (by omega)
      obtain ⟨k, k1, k2, k3⟩ := (hi.2.2.2.2.1 j hj).1
      have c1 := (hc.2.2.2.2.2.2.2.1 j hj).1
      have m1 := (hm.2.2.2.2.2.2.2.1 j hj).1
      have e7 : F_X7_as N vR vS (nI j) (nI q) = (F_X8_isKind N (nI k) (nI q)).bind (fun q31 => if q31 = (0 : Int32) then ((F_X7_found N vR (3 : Int32)).bind (fun q39 => some ((q39.1), (q39.2)))) else ((F_X7_foundNothing N vR (nI j)).bind (fun q45 => some ((q45.1), (q45.2))))) := by
        unfold F_X7_as F_X1_isKind
        rw [a, bs, if_neg one0, if_neg h0, if_pos h2, bs, if_neg one0, chk_in (by omega) (by decide), hcl, c1, k3, p_kind hN ⟨k1, k2⟩ hq]
      have e8 : F_X8_as N vM (nI j) (nI q) = (F_X8_isKind N (nI k) (nI q)).bind (fun q33 => if q33 = (0 : Int32) then ((F_X8_find N vM (3 : Int32)).bind (fun q49 => some ((q49.1), (q49.2)))) else ((F_X8_well N vM (nI j)).bind (fun q41 => some ((q41.1), (q41.2))))) := by
        unfold F_X8_as
        rw [b, bs, if_neg one0, in_ok (B := 0) (C := 5) rfl rfl (by rw [eq]; omega), bs, if_neg one0, show (7 : Int32) = nI 7 from rfl, nI_add, chk_in (by omega) (by decide), nI_clamp (by omega), m1, k3]
      rcases p_isKind N (nI k) (nI q) with z | z
      · refine ⟨(-1000010 - 3, up2 vR 0 10 3), (-1000010 - 3, up2 vM 0 3 3), ?_, ?_, rfl, hr, rfl, ht, ⟨S, hc, hm, hi, hs4⟩, ha, hI, hk⟩
        · rw [e7, z, bs, if_pos rfl, ff]; rfl
        · rw [e8, z, bs, if_pos rfl, mf]; rfl
      · refine ⟨(nI j, up2 vR 0 10 0), (nI j, up2 vM 0 3 0), ?_, ?_, rfl, hr, rfl, ht, ⟨S, hc, hm, hi, hs4⟩, ha, hI, hk⟩
        · rw [e7, z, bs, if_neg one0, fn]; rfl
        · rw [e8, z, bs, if_neg one0, mw]; rfl
    · have : ¬ x2.toInt < (6 : Int32).toInt := fun z => h2 (Int32.lt_iff_toInt_lt.mpr z)
      exact ⟨(-1000001, vR), (-1000001, vM), by unfold F_X7_as F_X1_isKind; rw [a, bs, if_neg one0, if_neg h0, if_neg h2]; rfl, by unfold F_X8_as; rw [b, bs, if_neg one0, in_no (B := 0) (C := 5) rfl rfl (by omega)]; rfl, rfl, keep⟩
theorem l_count {N : Nat} {vW vM gW : SV} {x1 : Int32} (h : RRow (vW 1) (vW 2) gW (vM 1) (vM 2) (vM 3)) : ∀ d s n x, s + d = 8 → d < n → ∃ y, F_X3_present_L4 N vW n x (nI s) = some y ∧ ∀ K, F_X8_count_L4 N vM x1 K n x (nI s) = K y := by
  intro d
  induction d with
  | zero =>
    intro s n x hs hn
    obtain ⟨n, rfl⟩ : ∃ m, n = m + 1 := ⟨n - 1, by omega⟩
    have e : s = 8 := by omega
    subst e
    exact ⟨x, by rw [F_X3_present_L4, if_neg (by decide)], fun K => by rw [F_X8_count_L4, if_neg (by decide)]⟩
  | succ d ih =>
    intro s n x hs hn
    obtain ⟨n, rfl⟩ : ∃ m, n = m + 1 := ⟨n - 1, by omega⟩
    have hj : s < 8 := by omega
    have hlt : nI s < (8 : Int32) := nI_lt (b := 8) hj (by decide)
    rcases p_miss N h hj with ⟨h1, h2, h3, h4⟩ | ⟨k, la, g1, g2, g3, g4, g5, g6, g7⟩
    · obtain ⟨y, y1, y2⟩ := ih (s + 1) n (x + 0) (by omega) (by omega)
      refine ⟨y, ?_, fun K => ?_⟩
      · rw [F_X3_present_L4, if_pos hlt, h4, bs]
        simp only [jn_eq]
        rw [if_neg one0, nI_1, y1]
      · rw [F_X8_count_L4, if_pos hlt, chk_in hj (by decide)]
        simp only [jn_eq]
        rw [nI_clamp (by omega), h3, if_pos m1lt, nI_1, y2]
    · obtain ⟨y, y1, y2⟩ := ih (s + 1) n (x + 1) (by omega) (by omega)
      refine ⟨y, ?_, fun K => ?_⟩
      · rw [F_X3_present_L4, if_pos hlt, g7, bs]
        simp only [jn_eq]
        rw [if_pos trivial, nI_1, y1]
      · rw [F_X8_count_L4, if_pos hlt, chk_in hj (by decide)]
        simp only [jn_eq]
        rw [nI_clamp (by omega), g5, if_neg (nI_pos (by omega)), nI_1, y2]
theorem st_count {N : Nat} (hN : 3000 ≤ N) : St_count N Rel := by
  intro vR vW vT vS vD vA vI vJ vE vF vP vQ vK vM gW gA gL x1 hrel
  have keep := hrel
  obtain ⟨hr, hs, ht, ⟨S, hc, hm, hi, hs4⟩, ha, hI, hk⟩ := hrel
  obtain ⟨y, y1, y2⟩ := l_count (N := N) (x1 := x1) hr 8 0 N 0 (by omega) (by omega)
  obtain ⟨f, ka, _, _, _, a2, a3, _⟩ := ha
  obtain ⟨f1, n, hn, f2, f3, f4⟩ := ht
  refine ⟨if x1 = 0 then y else if x1 = 1 then nI S.2.2.1 else if x1 = 2 then nI S.2.2.2.1 else if x1 = 3 then S.1 2 else if x1 = 4 then nI S.2.2.2.2.length else if x1 = 5 then S.1 3 else if x1 = 6 then nI ka else if x1 = 7 then nI n else -1000001, _, ?_, ?_, rfl, keep⟩
  · unfold F_X7_count F_X3_present F_X0_kept F_X6_length
    rw [show F_X3_present_L4 N vW N 0 0 = some y from y1, hc.2.2.1, hc.2.2.2.1, hc.2.2.2.2.1, hc.2.2.2.2.2.1, hc.2.2.2.2.2.2.1, a2, f2]
    repeat' split
    all_goals rfl
  · unfold F_X8_count
    rw [show F_X8_count_L4 N vM x1 _ N 0 0 = _ from y2 _, k2, k3, k4, k5, k6, t2, t3, t4, t5, t6, hm.2.2.1, hm.2.2.2.1, hm.2.2.2.2.1, hm.2.2.2.2.2.1, hm.2.2.2.2.2.2.1, a3, f3]
    repeat' split
    all_goals rfl
