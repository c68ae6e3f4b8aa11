/-! how many bits; a seat's number; stand, seat -/
def popc (m : Nat) : Nat := cntP (fun i => m.testBit i) 6
theorem ones_tab : ∀ m, m < 64 → ¬ m = 0 → (nI m &&& (nI m - 1) = nI (m &&& (m - 1)) ∧ (m &&& (m - 1)) < 64 ∧ popc m = popc (m &&& (m - 1)) + 1) := by decide
theorem l_ones {N : Nat} : ∀ (n m x : Nat), m < 64 → popc m < n → F_X8_ones_L4 N n (nI x) (nI m) = some (nI (x + popc m)) := by
  intro n
  induction n with
  | zero => intro m x _ h; omega
  | succ n ih =>
    intro m x hm hp
    rw [F_X8_ones_L4]
    by_cases h0 : m = 0
    · subst h0
      rw [if_pos (show nI 0 = 0 from rfl)]
      rfl
    · obtain ⟨a, b, c⟩ := ones_tab m hm h0
      rw [if_neg (nI_ne0 (by omega) (by omega)), a, nI_1, ih _ _ b (by omega), c]
      congr 2
      omega
theorem popc_le (m : Nat) : popc m ≤ 6 := cntP_le _ 6
theorem p_ones {N : Nat} (hN : 3000 ≤ N) {m : Nat} (hm : m < 64) : F_X8_ones N (nI m) = some (nI (popc m)) := by
  have h := l_ones (N := N) N m 0 hm (by have := popc_le m; omega)
  rw [Nat.zero_add] at h
  exact h
def p6 (b0 b1 b2 b3 b4 b5 : Bool) : Nat → Bool := fun i => match i with | 0 => b0 | 1 => b1 | 2 => b2 | 3 => b3 | 4 => b4 | _ => b5
theorem popc_tab : ∀ b0 b1 b2 b3 b4 b5 : Bool, ∀ n, n < 7 → popc (bitN (p6 b0 b1 b2 b3 b4 b5) n) = cntP (p6 b0 b1 b2 b3 b4 b5) n := by decide
theorem p6_eq (p : Nat → Bool) : ∀ i, i < 6 → p i = p6 (p 0) (p 1) (p 2) (p 3) (p 4) (p 5) i := by
  intro i hi
  match i, hi with
  | 0, _ => rfl
  | 1, _ => rfl
  | 2, _ => rfl
  | 3, _ => rfl
  | 4, _ => rfl
  | 5, _ => rfl
  | i + 6, h => omega
theorem popc_bit (p : Nat → Bool) {n : Nat} (hn : n ≤ 6) : popc (bitN p n) = cntP p n := by
  have e : ∀ i, i < n → p i = p6 (p 0) (p 1) (p 2) (p 3) (p 4) (p 5) i := fun i hi => p6_eq p i (by omega)
  rw [bitN_cg e, cntP_cg e]
  exact popc_tab _ _ _ _ _ _ n (by omega)
theorem bit64 (p : Nat → Bool) {n : Nat} (hn : n ≤ 6) : bitN p n < 64 := Nat.lt_of_lt_of_le (bitN_lt p n) (Nat.pow_le_pow_right (by decide) hn)
theorem p_wantedBy {N : Nat} (hN : 3000 ≤ N) {v : SV} {S : Sh} (hm : RM (v 4) S) (h1 : S.2.2.1 ≤ 6) (h6 : S.2.2.2.1 ≤ 6) {j : Nat} (hj : j < S.2.2.1) : F_X8_wantedBy N v (nI j) = some (nI (cntP (wB S (S.2.1 1 j)) S.2.2.2.1)) := by
  unfold F_X8_wantedBy
  rw [show (13 : Int32) = nI 13 from rfl, nI_add, chk_in (by omega) (by decide), nI_clamp (by omega), (hm.2.2.2.2.2.2.2.1 j hj).2.1, p_wantersOf hN hm h6, bs, p_ones hN (bit64 _ h6), popc_bit _ h6]
  rfl
theorem seat_ix {N : Nat} {v vM : SV} {S : Sh} (h : RC v S) (hm : RM (vM 4) S) (h6 : S.2.2.2.1 ≤ 6) (x : Int32) : (F_X5_isSeat N v x = some 0 ∧ F_X8_isSeat N vM x = some 0) ∨ ∃ j, j < S.2.2.2.1 ∧ x = nI j ∧ F_X5_isSeat N v x = some 1 ∧ F_X8_isSeat N vM x = some 1 := by
  have e1 := h.2.2.2.1
  have e2 := hm.2.2.2.1
  unfold F_X5_isSeat F_X8_isSeat
  rw [k3, t3, e1, e2]
  rcases pk_ix x (n := S.2.2.2.1) (by omega) with hb | hb | ⟨j, hj, rfl⟩
  · rw [if_pos hb, ix_no (Or.inl hb) (by omega)]
    exact Or.inl ⟨rfl, zr_zero⟩
  · rw [if_neg (nn_of (by omega) hb), if_neg (nlt_of hb), ix_no (Or.inr hb) (by omega)]
    exact Or.inl ⟨rfl, zr_zero⟩
  · refine Or.inr ⟨j, hj, rfl, ?_, ?_⟩
    · rw [if_neg (nI_pos (by omega)), if_pos (nI_lt hj (by omega))]
    · rw [ix_ok hj (by omega)]; exact zr_one
/-- standing: class and model, on any show -/
theorem p_standing {N : Nat} (hN : 3000 ≤ N) {v vM : SV} {S : Sh} (h : RC v S) (hm : RM (vM 4) S) (h6 : S.2.2.2.1 ≤ 6) (w : Int32) : ∃ r, F_X5_standing N v w = some r ∧ F_X8_standing N vM w = some r := by
  unfold F_X5_standing F_X8_standing
  by_cases e : w = 3
  · exact ⟨S.1 3, by rw [if_pos e, h.2.2.2.2.2.2.1], by rw [if_pos e, k5, t5, hm.2.2.2.2.2.2.1]⟩
  · exact ⟨_, by rw [if_neg e, p_seatsThat hN h h6]; rfl, by rw [if_neg e, p_seatsOf hN hm h6]; rfl⟩
/-- is there a show: class and model -/
theorem no_show {N : Nat} {vR v vM : SV} {S : Sh} (h : RC v S) (hi : S.2.2.1 ≤ 6) (hs : (S.2.2.1 = 0 ∧ S.2.2.2.1 = 0 ∧ vM 0 4 = 0) ∨ (0 < S.2.2.1 ∧ vM 0 4 = 1)) : (F_X7_noShow N vR v = some 1 ∧ vM 0 4 = 0) ∨ (F_X7_noShow N vR v = some 0 ∧ vM 0 4 = 1 ∧ 0 < S.2.2.1) := by
  unfold F_X7_noShow
  rw [h.2.2.1]
  rcases hs with ⟨a, b, c⟩ | ⟨a, c⟩
  · exact Or.inl ⟨by rw [a, if_pos (show nI 0 = 0 from rfl)], c⟩
  · exact Or.inr ⟨by rw [if_neg (nI_ne0 a (by omega))], c, a⟩
theorem st_stand {N : Nat} (hN : 3000 ≤ N) : St_stand N Rel := by
  intro vR vW vT vS vD vA vI vJ vE vF vP vQ vK vM gW gA gL x1 hrel
  obtain ⟨S, hc, hm, hi, hs⟩ := hrel.2.2.2.1
  rcases no_show (N := N) (vR := vR) hc hi.1 hs with ⟨a, b⟩ | ⟨a, b, -⟩
  · exact ⟨-1000002, -1000002, by unfold F_X7_stand; rw [a]; rfl, by unfold F_X8_stand; rw [b]; rfl, rfl, hrel⟩
  · have hz : (0 : Int32).toInt = 0 := rfl
    have h3 : (3 : Int32).toInt = 3 := rfl
    by_cases q : 0 ≤ x1.toInt ∧ x1.toInt ≤ 3
    · obtain ⟨r, r1, r2⟩ := p_standing hN hc hm hi.2.1 x1
      have q1 : ¬ x1 < 0 := fun z => by have := Int32.lt_iff_toInt_lt.mp z; omega
      have q2 : ¬ (3 : Int32) < x1 := fun z => by have := Int32.lt_iff_toInt_lt.mp z; omega
      refine ⟨r, r, ?_, ?_, rfl, hrel⟩
      · unfold F_X7_stand; rw [a, bs, if_pos rfl, if_neg q1, if_neg q2, r1]; rfl
      · unfold F_X8_stand; rw [b, if_neg one0, in_ok (B := 0) (C := 3) rfl rfl q, bs, if_neg one0, r2]; rfl
    · refine ⟨-1000001, -1000001, ?_, ?_, rfl, hrel⟩
      · unfold F_X7_stand; rw [a, bs, if_pos rfl]
        by_cases q1 : x1 < 0
        · rw [if_pos q1]
        · have q2 : ¬ x1.toInt < 0 := fun z => q1 (Int32.lt_iff_toInt_lt.mpr z)
          rw [if_neg q1, if_pos (Int32.lt_iff_toInt_lt.mpr (by omega))]
      · unfold F_X8_stand; rw [b, if_neg one0, in_no (B := 0) (C := 3) rfl rfl q]; rfl
