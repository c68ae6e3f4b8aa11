/-! the thing that comes next: class and model -/
theorem l_next {N : Nat} (hN : 3000 ≤ N) {v vM : SV} {S : Sh} {B : Nat} (hc : RC v S) (hm : RM (vM 4) S) (hi : SInv B S) : ∀ d s n x1 x2, s + d = S.2.2.2.2.length → d < n → (x1 = -1000000 ∨ ∃ j, j ∈ S.2.2.2.2 ∧ x1 = nI j) → ∃ y, F_X5_chosen_L7 N v n x1 x2 (nI s) = some y ∧ F_X8_nextThing_L7 N vM n x1 x2 (nI s) = some y ∧ (y = -1000000 ∨ ∃ j, j ∈ S.2.2.2.2 ∧ y = nI j) := by
  have h1 := hi.1
  have h2 := len6 hi
  have h3 := hi.2.1
  intro d
  induction d with
  | zero =>
    intro s n x1 x2 hs hn hx
    obtain ⟨n, rfl⟩ : ∃ m, n = m + 1 := ⟨n - 1, by omega⟩
    have e : s = S.2.2.2.2.length := by omega
    subst e
    refine ⟨x1, ?_, ?_, hx⟩
    · rw [F_X5_chosen_L7, hc.2.2.2.2.1, if_neg (nI_nlt (by omega) (by omega))]
    · rw [F_X8_nextThing_L7, k6, t6, hm.2.2.2.2.1, if_neg (nI_nlt (by omega) (by omega))]
  | succ d ih =>
    intro s n x1 x2 hs hn hx
    obtain ⟨n, rfl⟩ : ∃ m, n = m + 1 := ⟨n - 1, by omega⟩
    have hsl : s < S.2.2.2.2.length := by omega
    have hl := list_lt hi hsl
    have hmem := getD_mem hsl
    have c8 := hc.2.2.2.2.2.2.2.2.2 s hsl
    have m8 := hm.2.2.2.2.2.2.2.2.2 s hsl
    generalize S.2.2.2.2.getD s 0 = j at hl hmem c8 m8
    have c2 := (hc.2.2.2.2.2.2.2.1 j hl).2.1
    have e5 : F_X5_chosen_L7 N v (n + 1) x1 x2 (nI s) = if x2 < nI (cntP (wB S (S.2.1 1 j)) S.2.2.2.1) then F_X5_chosen_L7 N v n (nI j) (nI (cntP (wB S (S.2.1 1 j)) S.2.2.2.1)) (nI (s + 1)) else F_X5_chosen_L7 N v n x1 x2 (nI (s + 1)) := by
      rw [F_X5_chosen_L7, hc.2.2.2.2.1, if_pos (nI_lt hsl (by omega)), chk_in (n := 6) (k := s) (by omega) (by decide), nI_clamp (n := s) (by omega), c8, chk_in (n := 6) (k := j) (by omega) (by decide), nI_clamp (n := j) (by omega), c2, p_wanting hN hc h3, bs]
      simp only [jn_eq]
      rw [chk_in (n := 6) (k := s) (by omega) (by decide), nI_1]
    have e8 : F_X8_nextThing_L7 N vM (n + 1) x1 x2 (nI s) = if x2 < nI (cntP (wB S (S.2.1 1 j)) S.2.2.2.1) then F_X8_nextThing_L7 N vM n (nI j) (nI (cntP (wB S (S.2.1 1 j)) S.2.2.2.1)) (nI (s + 1)) else F_X8_nextThing_L7 N vM n x1 x2 (nI (s + 1)) := by
      rw [F_X8_nextThing_L7, k6, t6, hm.2.2.2.2.1, if_pos (nI_lt hsl (by omega)), show (31 : Int32) = nI 31 from rfl, nI_add, chk_in (n := 55) (k := 31 + s) (by omega) (by decide), nI_clamp (n := 31 + s) (by omega), m8, p_wantedBy hN hm h1 h3 hl, bs]
      simp only [jn_eq]
      rw [chk_in (n := 55) (k := 31 + s) (by omega) (by decide), nI_1]
      by_cases q : x2 < nI (cntP (wB S (S.2.1 1 j)) S.2.2.2.1)
      · rw [if_pos q, if_pos q, if_pos q]
      · rw [if_neg q, if_neg q, if_neg q]
    rw [e5, e8]
    by_cases q : x2 < nI (cntP (wB S (S.2.1 1 j)) S.2.2.2.1)
    · rw [if_pos q, if_pos q]
      exact ih (s + 1) n _ _ (by omega) (by omega) (Or.inr ⟨j, hmem, rfl⟩)
    · rw [if_neg q, if_neg q]
      exact ih (s + 1) n _ _ (by omega) (by omega) hx
theorem p_next {N : Nat} (hN : 3000 ≤ N) {v vM : SV} {S : Sh} {B : Nat} (hc : RC v S) (hm : RM (vM 4) S) (hi : SInv B S) : ∃ y, F_X5_chosen N v = some y ∧ F_X8_nextThing N vM = some y ∧ (y = -1000000 ∨ ∃ j, j ∈ S.2.2.2.2 ∧ y = nI j) := by
  have h1 := hi.1
  have h2 := len6 hi
  exact l_next hN hc hm hi S.2.2.2.2.length 0 N (-1000000) (-1) (by omega) (by omega) (Or.inl rfl)
