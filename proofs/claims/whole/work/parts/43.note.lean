/-! an act noted: class and model -/
theorem l_note51 {N : Nat} {K : SV → Option SV} {k : Nat} (hk : k ≤ 23) : ∀ d s n v, s + d = 55 → d < n → v 0 17 = nI k → ∃ f, F_X8_note_L51 N K n (nI s) v = K (upA v 8 f) ∧ ∀ i, f i = if 55 * k + s ≤ i ∧ i < 55 * k + 55 then v 4 (i - 55 * k) else v 8 i := by
  intro d
  induction d with
  | zero =>
    intro s n v hs hn h17
    obtain ⟨n, rfl⟩ : ∃ m, n = m + 1 := ⟨n - 1, by omega⟩
    have e : s = 55 := by omega
    subst e
    refine ⟨v 8, ?_, fun i => by rw [if_neg (by omega)]⟩
    rw [F_X8_note_L51, if_neg (by decide), upA_self]
  | succ d ih =>
    intro s n v hs hn h17
    obtain ⟨n, rfl⟩ : ∃ m, n = m + 1 := ⟨n - 1, by omega⟩
    obtain ⟨f, f1, f2⟩ := ih (s + 1) n (up2 v 8 (55 * k + s) (v 4 s)) (by omega) (by omega) h17
    refine ⟨f, ?_, fun i => ?_⟩
    · rw [F_X8_note_L51, if_pos (show nI s < (55 : Int32) from nI_lt (b := 55) (by omega) (by decide)), h17, show (55 : Int32) = nI 55 from rfl, pk_mul, nI_add, chk_in (n := 55) (k := s) (by omega) (by decide), chk_in (n := 1320) (k := 55 * k + s) (by omega) (by decide), nI_clamp (n := s) (by omega), nI_clamp (n := 55 * k + s) (by omega), nI_1, f1]
      unfold up2
      rw [upA_upA]
    · rw [f2 i]
      show (if 55 * k + (s + 1) ≤ i ∧ i < 55 * k + 55 then v 4 (i - 55 * k) else upd (v 8) (55 * k + s) (v 4 s) i) = _
      by_cases q : 55 * k + (s + 1) ≤ i ∧ i < 55 * k + 55
      · rw [if_pos q, if_pos (by omega)]
      · rw [if_neg q]
        by_cases e : i = 55 * k + s
        · subst e
          rw [if_pos (by omega), upd_s, show 55 * k + s - 55 * k = s from by omega]
        · rw [if_neg (by omega), upd_n e]
theorem l_note11 {N : Nat} {K : SV → Option SV} : ∀ d s n v, s + d = 1265 → d < n → ∃ f, F_X8_note_L11 N K n (nI s) v = K (upA v 8 f) ∧ ∀ i, f i = if s ≤ i ∧ i < 1265 then v 8 (i + 55) else v 8 i := by
  intro d
  induction d with
  | zero =>
    intro s n v hs hn
    obtain ⟨n, rfl⟩ : ∃ m, n = m + 1 := ⟨n - 1, by omega⟩
    have e : s = 1265 := by omega
    subst e
    refine ⟨v 8, ?_, fun i => by rw [if_neg (by omega)]⟩
    rw [F_X8_note_L11, if_neg (by decide), upA_self]
  | succ d ih =>
    intro s n v hs hn
    obtain ⟨n, rfl⟩ : ∃ m, n = m + 1 := ⟨n - 1, by omega⟩
    obtain ⟨f, f1, f2⟩ := ih (s + 1) n (up2 v 8 s (v 8 (s + 55))) (by omega) (by omega)
    refine ⟨f, ?_, fun i => ?_⟩
    · rw [F_X8_note_L11, if_pos (show nI s < (1265 : Int32) from nI_lt (b := 1265) (by omega) (by decide)), show (55 : Int32) = nI 55 from rfl, nI_add, chk_in (n := 1320) (k := s + 55) (by omega) (by decide), chk_in (n := 1320) (k := s) (by omega) (by decide), nI_clamp (n := s) (by omega), nI_clamp (n := s + 55) (by omega), nI_1, f1]
      unfold up2
      rw [upA_upA]
    · rw [f2 i]
      show (if s + 1 ≤ i ∧ i < 1265 then upd (v 8) s (v 8 (s + 55)) (i + 55) else upd (v 8) s (v 8 (s + 55)) i) = _
      by_cases q : s + 1 ≤ i ∧ i < 1265
      · rw [if_pos q, if_pos (by omega), upd_n (by omega)]
      · rw [if_neg q]
        by_cases e : i = s
        · subst e
          rw [if_pos (by omega), upd_s]
        · rw [if_neg (by omega), upd_n e]
theorem p_noteM {N : Nat} (hN : 3000 ≤ N) {v : SV} {k : Nat} (hk : k ≤ 24) (h17 : v 0 17 = nI k) : ∃ f q, (q = k ∧ k < 24 ∨ q = 23 ∧ k = 24) ∧ F_X8_note N v = some (up2 (upA v 8 f) 0 17 (nI (q + 1))) ∧ (∀ i, i < 55 * q → f i = v 8 (i + 55 * (k - q))) ∧ ∀ i, i < 55 → f (55 * q + i) = v 4 i := by
  by_cases e : k = 24
  · subst e
    obtain ⟨g, g1, g2⟩ := l_note11 (N := N) (K := fun (v_39 : SV) => F_X8_note_L51 N (fun (v_83 : SV) => some (up2 v_83 0 17 ((v_83 0 17) + (1 : Int32)))) N (0 : Int32) (up2 v_39 0 17 ((v_39 0 17) - (1 : Int32)))) 1265 0 N v (by omega) (by omega)
    obtain ⟨f, f1, f2⟩ := l_note51 (N := N) (K := fun (v_83 : SV) => some (up2 v_83 0 17 ((v_83 0 17) + (1 : Int32)))) (k := 23) (by omega) 55 0 N (up2 (upA v 8 g) 0 17 (nI 23)) (by omega) (by omega) rfl
    refine ⟨f, 23, Or.inr ⟨rfl, rfl⟩, ?_, fun i hi => ?_, fun i hi => ?_⟩
    · unfold F_X8_note
      simp only [jn_eq]
      rw [if_pos (show v 0 17 = (24 : Int32) from h17), show F_X8_note_L11 N _ N (0 : Int32) v = _ from g1]
      show F_X8_note_L51 N _ N (nI 0) (up2 (upA v 8 g) 0 17 (v 0 17 - 1)) = _
      rw [h17, nI_s1 (by omega), show 24 - 1 = 23 from rfl, f1]
      show some (up2 (upA (up2 (upA v 8 g) 0 17 (nI 23)) 8 f) 0 17 (nI 23 + 1)) = _
      rw [nI_1]
      refine congrArg some (funext fun a => ?_)
      unfold up2 upA
      by_cases a0 : a = 0
      · subst a0
        funext b
        show upd (upd (v 0) 17 (nI 23)) 17 (nI 24) b = upd (v 0) 17 (nI 24) b
        by_cases b0 : b = 17
        · subst b0; rw [upd_s, upd_s]
        · rw [upd_n b0, upd_n b0, upd_n b0]
      · by_cases a8 : a = 8
        · simp [a8]
        · simp [a0, a8]
    · rw [f2, if_neg (by omega)]
      show g i = _
      rw [g2, if_pos (by omega)]
    · rw [f2, if_pos (by omega), show 55 * 23 + i - 55 * 23 = i from by omega]
      rfl
  · obtain ⟨f, f1, f2⟩ := l_note51 (N := N) (K := fun (v_83 : SV) => some (up2 v_83 0 17 ((v_83 0 17) + (1 : Int32)))) (k := k) (by omega) 55 0 N v (by omega) (by omega) h17
    refine ⟨f, k, Or.inl ⟨rfl, by omega⟩, ?_, fun i hi => ?_, fun i hi => ?_⟩
    · unfold F_X8_note
      simp only [jn_eq]
      rw [if_neg (show ¬ v 0 17 = (24 : Int32) from fun z => e ((nI_eq (b := 24) (by omega) (by decide)).mp (h17.symm.trans z))), show F_X8_note_L51 N _ N (0 : Int32) v = _ from f1]
      show some (up2 (upA v 8 f) 0 17 (v 0 17 + 1)) = _
      rw [h17, nI_1]
    · rw [f2, if_neg (by omega), Nat.sub_self, Nat.mul_zero, Nat.add_zero]
    · rw [f2, if_pos (by omega), show 55 * k + i - 55 * k = i from by omega]
