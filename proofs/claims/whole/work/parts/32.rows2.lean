/-! row: both sides clear forty items -/
theorem in_ok {N : Nat} {x : Int32} {b c : Int64} {B C : Int} (hb : b.toInt = B) (hc : c.toInt = C) (h : B ≤ x.toInt ∧ x.toInt ≤ C) : F_X8_in N x.toInt64 b c = some 1 := by rw [p_inI, hb, hc, if_pos h]
theorem in_no {N : Nat} {x : Int32} {b c : Int64} {B C : Int} (hb : b.toInt = B) (hc : c.toInt = C) (h : ¬ (B ≤ x.toInt ∧ x.toInt ≤ C)) : F_X8_in N x.toInt64 b c = some 0 := by rw [p_inI, hb, hc, if_neg h]
theorem lit40 : (40 : Int32) = nI 40 := rfl
theorem l_make {N : Nat} {vW : SV} {j : Nat} (hj : j < 8) : ∀ (d i n : Nat) (g : SV), i + d = 40 → d < n → ∃ g', F_X3_make_L17 N vW (nI j) n (nI i) g = some (vW, g') ∧ ∀ r k, g' r k = if r = j ∧ i ≤ k ∧ k < 40 then 0 else g r k := by
  intro d
  induction d with
  | zero =>
    intro i n g hi hn
    obtain ⟨n, rfl⟩ : ∃ m, n = m + 1 := ⟨n - 1, by omega⟩
    have e : i = 40 := by omega
    subst e
    refine ⟨g, ?_, fun r k => (if_neg (by omega)).symm⟩
    rw [F_X3_make_L17, if_neg (by decide)]
  | succ d ih =>
    intro i n g hi hn
    obtain ⟨n, rfl⟩ : ∃ m, n = m + 1 := ⟨n - 1, by omega⟩
    obtain ⟨g', h1, h2⟩ := ih (i + 1) n (upA g j (upd (g j) i 0)) (by omega) (by omega)
    refine ⟨g', ?_, fun r k => ?_⟩
    · rw [F_X3_make_L17, if_pos (show nI i < 40 from nI_lt (b := 40) (by omega) (by decide)), chk_in hj (by decide), chk_in (by omega) (by decide), nI_clamp (by omega), nI_clamp (by omega), nI_1]
      exact h1
    · rw [h2 r k]
      by_cases e : r = j
      · subst e
        rw [upA_s]
        by_cases e2 : k = i
        · subst e2
          rw [if_neg (by omega), if_pos (by omega), upd_s]
        · rw [upd_n e2]
          by_cases e3 : i + 1 ≤ k ∧ k < 40
          · rw [if_pos ⟨rfl, e3⟩, if_pos ⟨rfl, by omega, e3.2⟩]
          · rw [if_neg (fun q => e3 q.2), if_neg (fun q => e3 ⟨by omega, q.2.2⟩)]
      · rw [if_neg (fun q => e q.1), if_neg (fun q => e q.1), upA_k e]
theorem l_rowM {N : Nat} {x3 : Int32} {K : SV → Option (Int32 × SV)} {j : Nat} (hj : j < 8) : ∀ (d i n : Nat) (v : SV), i + d = 40 → d < n → ∃ v', F_X8_row_L55 N (nI j) x3 K n (nI i) v = K v' ∧ (∀ k, ¬ k = 3 → v' k = v k) ∧ ∀ q, v' 3 q = if 40 * j + i ≤ q ∧ q < 40 * j + 40 then 0 else v 3 q := by
  intro d
  induction d with
  | zero =>
    intro i n v hi hn
    obtain ⟨n, rfl⟩ : ∃ m, n = m + 1 := ⟨n - 1, by omega⟩
    have e : i = 40 := by omega
    subst e
    refine ⟨v, ?_, fun _ _ => rfl, fun q => (if_neg (by omega)).symm⟩
    rw [F_X8_row_L55, if_neg (by decide)]
  | succ d ih =>
    intro i n v hi hn
    obtain ⟨n, rfl⟩ : ∃ m, n = m + 1 := ⟨n - 1, by omega⟩
    obtain ⟨v', h1, h2, h3⟩ := ih (i + 1) n (up2 v 3 (40 * j + i) 0) (by omega) (by omega)
    refine ⟨v', ?_, fun k hk => ?_, fun q => ?_⟩
    · rw [F_X8_row_L55, if_pos (show nI i < 40 from nI_lt (b := 40) (by omega) (by decide)), lit40, pk_mul, nI_add, chk_in (by omega) (by decide), nI_clamp (by omega), nI_1]
      exact h1
    · rw [h2 k hk, up2_k hk]
    · rw [h3 q]
      by_cases e : q = 40 * j + i
      · subst e
        rw [if_neg (by omega), if_pos (by omega), up2_s]
      · rw [up2_j e]
        by_cases e3 : 40 * j + (i + 1) ≤ q ∧ q < 40 * j + 40
        · rw [if_pos e3, if_pos ⟨by omega, e3.2⟩]
        · rw [if_neg e3, if_neg (fun z => e3 ⟨by omega, z.2⟩)]
theorem st_row {N : Nat} (hN : 3000 ≤ N) : St_row N Rel := by
  intro vR vW vT vS vD vA vI vJ vE vF vP vQ vK vM gW gA gL x1 x2 x3 hrel
  obtain ⟨hr, hs, ht, hg, ha, hi, hk⟩ := hrel
  have fin : ∀ {F7 : Option (Int32 × SV × SV × SV)} {F8 : Option (Int32 × SV)}, F7 = some (-1000001, vR, vW, gW) → F8 = some (-1000001, vM) → ∃ (r : Int32 × SV × SV × SV) (m : Int32 × SV), F7 = some r ∧ F8 = some m ∧ r.1 = m.1 ∧ Rel r.2.1 r.2.2.1 vT vS vD vA vI vJ vE vF vP vQ vK m.2 r.2.2.2 gA gL := fun a b => ⟨_, _, a, b, rfl, hr, hs, ht, hg, ha, hi, hk⟩
  rcases pk_ix x1 (n := 8) (by decide) with hb | hb | ⟨j, hj, rfl⟩
  · obtain ⟨a, b⟩ := row_bad N (Or.inl hb)
    exact fin (by unfold F_X7_row; rw [a]; rfl) (by unfold F_X8_row; rw [b]; rfl)
  · obtain ⟨a, b⟩ := row_bad N (Or.inr hb)
    exact fin (by unfold F_X7_row; rw [a]; rfl) (by unfold F_X8_row; rw [b]; rfl)
  obtain ⟨a, b⟩ := row_ok N hj
  have hz : (0 : Int32).toInt = 0 := rfl
  have h2 : (2 : Int32).toInt = 2 := rfl
  have hc : (nI j).toNatClampNeg = j := nI_clamp (by omega)
  by_cases hl : 0 ≤ x2.toInt ∧ x2.toInt ≤ 2
  · obtain ⟨la, hla, rfl⟩ : ∃ la, la < 3 ∧ x2 = nI la := by
      rcases pk_ix x2 (n := 3) (by decide) with q | q | ⟨la, q, e⟩
      · have := Int32.lt_iff_toInt_lt.mp q; omega
      · have := Int32.le_iff_toInt_le.mp q; have e3 : (nI 3).toInt = 3 := by decide
        omega
      · exact ⟨la, q, e⟩
    have il : F_X3_isLane N (nI la) = some 1 := by
      unfold F_X3_isLane
      rw [if_neg (nI_pos (by omega)), if_neg (show ¬ (2 : Int32) < nI la from nI_nlt (a := 2) (b := la) (by omega) (by decide))]
    have ml : F_X8_in N (nI la).toInt64 0 2 = some 1 := in_ok (B := 0) (C := 2) rfl rfl hl
    by_cases h40 : (40 : Int32) < x3
    · exact fin (by unfold F_X7_row; rw [a, bs, if_neg one0, il, bs, if_neg one0, if_pos h40]) (by unfold F_X8_row; rw [b, bs, if_neg one0, ml, bs, if_neg one0, if_pos h40])
    by_cases h0 : x3 < 0
    · refine ⟨(-1000010 - 4, up2 vR 0 10 4, vW, gW), (-1000010 - 4, up2 vM 0 3 4), ?_, ?_, rfl, hr, rfl, ht, hg, ha, hi, hk⟩
      · unfold F_X7_row; rw [a, bs, if_neg one0, il, bs, if_neg one0, if_neg h40, if_pos h0, ff]; rfl
      · unfold F_X8_row; rw [b, bs, if_neg one0, ml, bs, if_neg one0, if_neg h40, if_pos h0, mf]; rfl
    obtain ⟨n, hn, rfl⟩ : ∃ n, n ≤ 40 ∧ x3 = nI n := nI_of2 (M := 40) (n := 40) (by decide) h0 (Int32.not_lt.mp h40)
    obtain ⟨g', m1, m2⟩ := l_make (N := N) (vW := up2 (up2 vW 1 j (nI la)) 2 j (nI n)) hj 40 0 N gW rfl (by omega)
    obtain ⟨v', w1, w2, w3⟩ := l_rowM (N := N) (x3 := nI n) (K := fun (v_81 : SV) => (F_X8_well N v_81 (nI n)).bind (fun q83 => some ((q83.1), (q83.2)))) hj 40 0 N (up2 (up2 vM 1 j (nI la)) 2 j (nI n)) rfl (by omega)
    refine ⟨(nI n, up2 vR 0 10 0, up2 (up2 vW 1 j (nI la)) 2 j (nI n), g'), (nI n, up2 v' 0 3 0), ?_, ?_, rfl, ?_, rfl, ?_, ?_, ?_, ?_, ?_⟩
    · unfold F_X7_row; rw [a, bs, if_neg one0, il, bs, if_neg one0, if_neg h40, if_neg h0]
      unfold F_X3_make
      rw [chk_in hj (by decide), chk_in hj (by decide), hc, show (0 : Int32) = nI 0 from rfl, m1, bs, fn]; rfl
    · unfold F_X8_row; rw [b, bs, if_neg one0, ml, bs, if_neg one0, if_neg h40, if_neg h0, chk_in hj (by decide), chk_in hj (by decide), hc, show (0 : Int32) = nI 0 from rfl, w1, mw]; rfl
    · have e1 : (up2 v' 0 3 0) 1 = upd (vM 1) j (nI la) := by rw [up2_k (by decide), w2 1 (by decide), up2_k (by decide)]; rfl
      have e2 : (up2 v' 0 3 0) 2 = upd (vM 2) j (nI n) := by rw [up2_k (by decide), w2 2 (by decide)]; rfl
      have e3 : (up2 v' 0 3 0) 3 = v' 3 := up2_k (by decide)
      show RRow (upd (vW 1) j (nI la)) (upd (vW 2) j (nI n)) g' ((up2 v' 0 3 0) 1) ((up2 v' 0 3 0) 2) ((up2 v' 0 3 0) 3)
      rw [e1, e2, e3]
      refine hr.made (fun r i hr8 hi40 => ?_) hn hla
      rw [m2 r i, w3 (40 * r + i)]
      by_cases e : r = j
      · subst e
        rw [if_pos ⟨rfl, by omega, hi40⟩, if_pos (by omega)]
      · rw [if_neg (fun q => e q.1), if_neg (by omega)]
        exact hr.1 r i hr8 hi40
    · have e0 : ∀ k, ¬ k = 3 → (up2 v' 0 3 0) 0 k = vM 0 k := fun k hk3 => by rw [up2_j hk3, w2 0 (by decide)]; rfl
      show RTape vT ((up2 v' 0 3 0) 0 8) ((up2 v' 0 3 0) 0 9) ((up2 v' 0 3 0) 6)
      rw [e0 8 (by decide), e0 9 (by decide), up2_k (by decide), w2 6 (by decide)]
      exact ht
    · have e0 : ∀ k, ¬ k = 3 → (up2 v' 0 3 0) 0 k = vM 0 k := fun k hk3 => by rw [up2_j hk3, w2 0 (by decide)]; rfl
      show RStg vS ((up2 v' 0 3 0) 0 4) ((up2 v' 0 3 0) 4)
      rw [e0 4 (by decide), up2_k (by decide), w2 4 (by decide)]
      exact hg
    · have e0 : ∀ k, ¬ k = 3 → (up2 v' 0 3 0) 0 k = vM 0 k := fun k hk3 => by rw [up2_j hk3, w2 0 (by decide)]; rfl
      show RAct vA gA ((up2 v' 0 3 0) 0 17) ((up2 v' 0 3 0) 8)
      rw [e0 17 (by decide), up2_k (by decide), w2 8 (by decide)]
      exact ha
    · show RIm vI ((up2 v' 0 3 0) 12 0) (fun i => (up2 v' 0 3 0) 13 i) ∧ RIm vJ ((up2 v' 0 3 0) 12 1) (fun i => (up2 v' 0 3 0) 13 (55 + i))
      rw [up2_k (k' := 12) (by decide), up2_k (k' := 13) (by decide), w2 12 (by decide), w2 13 (by decide)]
      exact hi
    · have e0 : ∀ k, ¬ k = 3 → (up2 v' 0 3 0) 0 k = vM 0 k := fun k hk3 => by rw [up2_j hk3, w2 0 (by decide)]; rfl
      show RAsk vK ((up2 v' 0 3 0) 0 24) ((up2 v' 0 3 0) 14) ∧ ((up2 v' 0 3 0) 0 4 = 0 → (up2 v' 0 3 0) 0 17 = 0 ∧ (up2 v' 0 3 0) 12 0 = 0 ∧ (up2 v' 0 3 0) 12 1 = 0)
      rw [e0 24 (by decide), e0 4 (by decide), e0 17 (by decide), up2_k (k' := 14) (by decide), up2_k (k' := 12) (by decide), w2 14 (by decide), w2 12 (by decide)]
      exact hk
  · have il : F_X3_isLane N x2 = some 0 := by
      unfold F_X3_isLane
      by_cases q : x2 < 0
      · rw [if_pos q]
      · rw [if_neg q, if_pos]
        have q1 : ¬ x2.toInt < 0 := fun z => q (Int32.lt_iff_toInt_lt.mpr z)
        exact Int32.lt_iff_toInt_lt.mpr (by omega)
    have ml : F_X8_in N x2.toInt64 0 2 = some 0 := in_no (B := 0) (C := 2) rfl rfl hl
    exact fin (by unfold F_X7_row; rw [a, bs, if_neg one0, il]; rfl) (by unfold F_X8_row; rw [b, bs, if_neg one0, ml]; rfl)
