/-! the list: the model's taking off; laid behind, laid first -/
theorem nI_p (k : Nat) : nI (k + 1) + (-1 : Int32) = nI k := by
  rw [show nI (k + 1) + (-1 : Int32) = nI (k + 1) - nI 1 from (Int32.sub_eq_add_neg (nI (k + 1)) (nI 1)).symm, pk_sub (by omega)]
  rfl
theorem nI_s1 {k : Nat} (h : 1 ≤ k) : nI k - (1 : Int32) = nI (k - 1) := pk_sub (b := 1) h
theorem t31 : (31 : Int32).toNatClampNeg = 31 := rfl
theorem l_offM {N : Nat} {T : Nat} {K : SV → Option SV} (hT : T ≤ 6) : ∀ d s n v, s + d = T → 1 ≤ s → v 4 6 = nI T → d < n → ∃ f, F_X8_takeOff_L10 N K n (nI s) v = K (upA v 4 f) ∧ ∀ i, f i = if 30 + s ≤ i ∧ i < 30 + T then v 4 (i + 1) else v 4 i := by
  intro d
  induction d with
  | zero =>
    intro s n v hs h1 h6 hn
    obtain ⟨n, rfl⟩ : ∃ m, n = m + 1 := ⟨n - 1, by omega⟩
    refine ⟨v 4, ?_, fun i => by rw [if_neg (by omega)]⟩
    rw [F_X8_takeOff_L10, k6, t6, h6, if_neg (nI_nlt (by omega) (by omega)), show upA v 4 (v 4) = v from by
        funext a
        unfold upA
        by_cases h : a = 4
        · rw [if_pos h, h]
        · rw [if_neg h]]
  | succ d ih =>
    intro s n v hs h1 h6 hn
    obtain ⟨n, rfl⟩ : ∃ m, n = m + 1 := ⟨n - 1, by omega⟩
    obtain ⟨f, f1, f2⟩ := ih (s + 1) n (up2 v 4 (31 + s - 1) (v 4 (31 + s))) (by omega) (by omega) (by
      show upd (v 4) (31 + s - 1) (v 4 (31 + s)) 6 = nI T
      rw [upd_n (by omega)]
      exact h6) (by omega)
    refine ⟨f, ?_, fun i => ?_⟩
    · rw [F_X8_takeOff_L10, k6, t6, h6, if_pos (nI_lt (by omega) (by omega)), show (31 : Int32) = nI 31 from rfl, nI_add, nI_s1 (by omega), chk_in (n := 55) (k := 31 + s) (by omega) (by decide), chk_in (n := 55) (k := 31 + s - 1) (by omega) (by decide), nI_clamp (n := 31 + s) (by omega), nI_clamp (n := 31 + s - 1) (by omega), nI_1, f1]
      unfold up2
      rw [upA_upA]
    · rw [f2 i]
      show (if 30 + (s + 1) ≤ i ∧ i < 30 + T then upd (v 4) (31 + s - 1) (v 4 (31 + s)) (i + 1) else upd (v 4) (31 + s - 1) (v 4 (31 + s)) i) = _
      by_cases q : 30 + (s + 1) ≤ i ∧ i < 30 + T
      · rw [if_pos q, if_pos (by omega), upd_n (by omega)]
      · rw [if_neg q]
        by_cases e : i = 30 + s
        · subst e
          rw [if_pos (by omega), show 31 + s - 1 = 30 + s from by omega, upd_s, show 30 + s + 1 = 31 + s from by omega]
        · rw [if_neg (by omega), upd_n (by omega)]
theorem p_offM {N : Nat} (hN : 3000 ≤ N) {v vC : SV} {S : Sh} {B : Nat} (hc : RC vC S) (hm : RM (v 4) S) (hi : SInv B S) {j : Nat} (hj : j ∈ S.2.2.2.2) : ∃ f, F_X8_takeOff N v (nI j) = some (upA v 4 f) ∧ RM f (sL S (wo S.2.2.2.2 j)) := by
  have h1 := hi.1
  have h2 := len6 hi
  have h3 := hi.2.1
  have hjl := hi.2.2.2.1 j hj
  rcases p_place hN hc hm hi (j := j) (by omega) with ⟨q, -, -⟩ | ⟨-, i, hil, hg, -, p2⟩
  · exact absurd hj q
  · obtain ⟨g1, g2⟩ := wo_at hi.2.2.1 hil hg
    obtain ⟨f, f1, f2⟩ := l_offM (N := N) (K := fun (v_47 : SV) => chk 55 (6 : Int32) (chk 55 (6 : Int32) (some (up2 v_47 4 ((6 : Int32).toNatClampNeg) (((v_47 4) ((6 : Int32).toNatClampNeg)) - (1 : Int32)))))) (T := S.2.2.2.2.length) (by omega) (S.2.2.2.2.length - (i + 1)) (i + 1) N v (by omega) (by omega) hm.2.2.2.2.1 (by omega)
    have e6 : f 6 = nI S.2.2.2.2.length := by rw [f2, if_neg (by omega)]; exact hm.2.2.2.2.1
    refine ⟨upd f 6 (nI (wo S.2.2.2.2 j).length), ?_, rmL hm (fun k q1 q2 => ?_) upd_s (fun k hk => ?_) h1 h3⟩
    · unfold F_X8_takeOff
      rw [p2, bs, nI_1, f1, k6, k6, t6]
      show some (up2 (upA v 4 f) 4 6 (f 6 - 1)) = _
      rw [e6, nI_s1 (by omega), show S.2.2.2.2.length - 1 = (wo S.2.2.2.2 j).length from by omega]
      unfold up2
      rw [upA_upA]
      rfl
    · rw [upd_n q1, f2, if_neg (by omega)]
    · rw [upd_n (by omega), f2, g2 k]
      by_cases q : k < i
      · rw [if_neg (by omega), if_pos q]
        exact hm.2.2.2.2.2.2.2.2.2 k (by omega)
      · rw [if_pos (by omega), if_neg q, show 31 + k + 1 = 31 + (k + 1) from by omega]
        exact hm.2.2.2.2.2.2.2.2.2 (k + 1) (by omega)
theorem getD_app {l : List Nat} {j i : Nat} (h : i < l.length) : (l ++ [j]).getD i 0 = l.getD i 0 := by rw [List.getD_eq_getElem?_getD, List.getElem?_append_left h, ← List.getD_eq_getElem?_getD]
theorem getD_end {l : List Nat} {j : Nat} : (l ++ [j]).getD l.length 0 = j := by
  rw [List.getD_eq_getElem?_getD, List.getElem?_append_right (Nat.le_refl _), Nat.sub_self]
  rfl
theorem p_lastC (N : Nat) {v : SV} {S : Sh} (hc : RC v S) (hl : S.2.2.2.2.length < 6) (j : Nat) : ∃ f, F_X5_putLast N v (nI j) = some (up2 (upA v 8 f) 0 4 (nI (S.2.2.2.2 ++ [j]).length)) ∧ ∀ i, i < (S.2.2.2.2 ++ [j]).length → f i = nI ((S.2.2.2.2 ++ [j]).getD i 0) := by
  have e : (S.2.2.2.2 ++ [j]).length = S.2.2.2.2.length + 1 := by rw [List.length_append]; rfl
  refine ⟨upd (v 8) S.2.2.2.2.length (nI j), ?_, fun i hi => ?_⟩
  · unfold F_X5_putLast
    rw [hc.2.2.2.2.1, if_pos (show nI S.2.2.2.2.length < (6 : Int32) from nI_lt (b := 6) hl (by decide)), chk_in hl (by decide), nI_clamp (by omega), nI_1, e]
    rfl
  · by_cases q : i = S.2.2.2.2.length
    · subst q
      rw [upd_s, getD_end]
    · rw [upd_n q, getD_app (by omega)]
      exact hc.2.2.2.2.2.2.2.2.2 i (by omega)
theorem p_lastM (N : Nat) {v : SV} {S : Sh} (hm : RM (v 4) S) (h1 : S.2.2.1 ≤ 6) (h3 : S.2.2.2.1 ≤ 6) (hl : S.2.2.2.2.length < 6) (j : Nat) : ∃ f, F_X8_layBehind N v (nI j) = some (upA v 4 f) ∧ RM f (sL S (S.2.2.2.2 ++ [j])) := by
  have e : (S.2.2.2.2 ++ [j]).length = S.2.2.2.2.length + 1 := by rw [List.length_append]; rfl
  refine ⟨upd (upd (v 4) (31 + S.2.2.2.2.length) (nI j)) 6 (nI (S.2.2.2.2 ++ [j]).length), ?_, rmL hm (fun k q1 q2 => ?_) upd_s (fun k hk => ?_) h1 h3⟩
  · unfold F_X8_layBehind
    rw [k6, t6, hm.2.2.2.2.1, show (31 : Int32) = nI 31 from rfl, nI_add, chk_in (n := 55) (k := 31 + S.2.2.2.2.length) (by omega) (by decide), k6, k6, nI_clamp (by omega), upd_n (by omega), hm.2.2.2.2.1, nI_1, e]
    unfold up2
    rw [upA_upA]
    rfl
  · rw [upd_n q1, upd_n (by omega)]
  · rw [upd_n (by omega)]
    by_cases q : k = S.2.2.2.2.length
    · subst q
      rw [upd_s, getD_end]
    · rw [upd_n (by omega), getD_app (by omega)]
      exact hm.2.2.2.2.2.2.2.2.2 k (by omega)
