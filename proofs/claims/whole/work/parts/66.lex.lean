/-! show: tokens -/
def dg (n : Nat) (ch : Nat → Nat) (i : Nat) : Bool := decide (i < n ∧ 48 ≤ ch i ∧ ch i ≤ 57)
theorem dg_t {n : Nat} {ch : Nat → Nat} {i : Nat} : dg n ch i = true ↔ i < n ∧ 48 ≤ ch i ∧ ch i ≤ 57 := by unfold dg; exact decide_eq_true_iff
def numL (n : Nat) (ch : Nat → Nat) (a : Nat) : Nat := if dg n ch a = true then (if dg n ch (a + 1) = true then (if dg n ch (a + 2) = true then 3 else 2) else 1) else 0
def numV (n : Nat) (ch : Nat → Nat) (a : Nat) : Nat := if dg n ch (a + 1) = true then 10 * (ch a - 48) + (ch (a + 1) - 48) else ch a - 48
def cls (c : Nat) : Bool := decide ((97 ≤ c ∧ c ≤ 122) ∨ c = 44 ∨ c = 59)
def TkAt (n : Nat) (ch : Nat → Nat) (v : SV) (a : Nat) : Prop := v 0 13 = nI a ∧ ((numL n ch a = 0 ∧ a = n ∧ v 0 11 = 3) ∨ (numL n ch a = 0 ∧ a < n ∧ v 0 11 = (if cls (ch a) = true then 1 else 0) ∧ v 0 12 = nI (ch a) ∧ v 0 10 = nI (a + 1)) ∨ ((numL n ch a = 1 ∨ numL n ch a = 2) ∧ v 0 11 = 2 ∧ v 0 12 = nI (numV n ch a) ∧ v 0 10 = nI (a + numL n ch a)) ∨ (numL n ch a = 3 ∧ v 0 11 = 0))
def sameT (v w : SV) : Prop := (∀ k, ¬ k = 0 → w k = v k) ∧ ∀ j, (j < 10 ∨ 14 ≤ j) → w 0 j = v 0 j
theorem sameT_tr {u v w : SV} (a : sameT u v) (b : sameT v w) : sameT u w := ⟨fun k h => (b.1 k h).trans (a.1 k h), fun j h => (b.2 j h).trans (a.2 j h)⟩
theorem sameT_up {v : SV} {j : Nat} {x : Int32} (hj : 10 ≤ j ∧ j < 14) : sameT v (up2 v 0 j x) := ⟨fun k h => up2_k h, fun i h => up2_j (by omega)⟩
theorem l33 {N n m b : Nat} {ch : Nat → Nat} {K : SV → Option SV} {w : SV} (hn : n ≤ 120) (hch : ∀ i, i < n → ch i < 256) (h8 : w 0 8 = nI n) (h6 : ∀ i, i < n → w 6 i = nI (ch i)) (h10 : w 0 10 = nI b) (hb : b ≤ n) : F_X8_nextToken_L33 N K (m + 1) w = if dg n ch b = true then (if 99 < w 0 12 then F_X8_nextToken_L33 N K m (up2 (up2 w 0 12 (w 0 12)) 0 10 (nI (b + 1))) else F_X8_nextToken_L33 N K m (up2 (up2 w 0 12 ((10 * w 0 12 + nI (ch b)) - 48)) 0 10 (nI (b + 1)))) else K w := by
  rw [F_X8_nextToken_L33, h10, h8]
  by_cases z : b < n
  · have hc := hch b z
    have e := nI_toInt (n := ch b) (by omega)
    have hk : ∀ {β : Type} {o : Option β}, chk 120 (nI b) o = o := chk_in (by omega) (by decide)
    rw [if_pos (nI_lt z (by omega)), nI_clamp (by omega), h6 b z, nI_1]
    simp only [hk, jn_eq]
    by_cases y : dg n ch b = true
    · rw [if_pos y, in_ok (B := 48) (C := 57) rfl rfl (by have := dg_t.mp y; omega), bs, if_neg one0]
    · rw [if_neg y, in_no (B := 48) (C := 57) rfl rfl (fun q => y (dg_t.mpr (by omega))), bs, if_pos rfl]
  · rw [if_neg (nI_nlt (by omega) (by omega)), if_neg (fun y => z (dg_t.mp y).1)]
theorem l_run {N n : Nat} {ch : Nat → Nat} (hn : n ≤ 120) (hch : ∀ i, i < n → ch i < 256) : ∀ d w b m, b + d = n → w 0 8 = nI n → (∀ i, i < n → w 6 i = nI (ch i)) → w 0 10 = nI b → d < m → ∃ w' b', (∀ K, F_X8_nextToken_L33 N K m w = K w') ∧ w' 0 10 = nI b' ∧ b ≤ b' ∧ b' ≤ n ∧ (dg n ch b = true → b < b') ∧ w' 0 13 = w 0 13 ∧ sameT w w' := by
  intro d
  induction d with
  | zero =>
    intro w b m hb h8 h6 h10 hm
    obtain ⟨m, rfl⟩ : ∃ k, m = k + 1 := ⟨m - 1, by omega⟩
    have hd : ¬ dg n ch b = true := fun y => by have := (dg_t.mp y).1; omega
    exact ⟨w, b, fun K => by rw [l33 hn hch h8 h6 h10 (by omega), if_neg hd], h10, Nat.le_refl _, by omega, fun y => absurd y hd, rfl, fun _ _ => rfl, fun _ _ => rfl⟩
  | succ d ih =>
    intro w b m hb h8 h6 h10 hm
    obtain ⟨m, rfl⟩ : ∃ k, m = k + 1 := ⟨m - 1, by omega⟩
    by_cases y : dg n ch b = true
    · have go : ∀ x, ∃ w' b', (∀ K, F_X8_nextToken_L33 N K m (up2 (up2 w 0 12 x) 0 10 (nI (b + 1))) = K w') ∧ w' 0 10 = nI b' ∧ b ≤ b' ∧ b' ≤ n ∧ (dg n ch b = true → b < b') ∧ w' 0 13 = w 0 13 ∧ sameT w w' := fun x => by
        obtain ⟨w', b', a1, a2, a3, a4, a5, a6, a7⟩ := ih (up2 (up2 w 0 12 x) 0 10 (nI (b + 1))) (b + 1) m (by omega) h8 h6 rfl (by omega)
        exact ⟨w', b', a1, a2, by omega, a4, fun _ => by omega, a6, sameT_tr (sameT_tr (sameT_up (by omega)) (sameT_up (by omega))) a7⟩
      by_cases z : 99 < w 0 12
      · obtain ⟨w', b', a1, a2⟩ := go (w 0 12)
        exact ⟨w', b', fun K => by rw [l33 hn hch h8 h6 h10 (by omega), if_pos y, if_pos z, a1], a2⟩
      · obtain ⟨w', b', a1, a2⟩ := go ((10 * w 0 12 + nI (ch b)) - 48)
        exact ⟨w', b', fun K => by rw [l33 hn hch h8 h6 h10 (by omega), if_pos y, if_neg z, a1], a2⟩
    · exact ⟨w, b, fun K => by rw [l33 hn hch h8 h6 h10 (by omega), if_neg y], h10, Nat.le_refl _, by omega, fun z => absurd z y, rfl, fun _ _ => rfl, fun _ _ => rfl⟩
theorem p_tok {N n a : Nat} (hN : 3000 ≤ N) {ch : Nat → Nat} (hn : n ≤ 120) (hch : ∀ i, i < n → ch i < 256) {v : SV} (h8 : v 0 8 = nI n) (h6 : ∀ i, i < n → v 6 i = nI (ch i)) (h10 : v 0 10 = nI a) (ha : a ≤ n) : ∃ w, F_X8_nextToken N v = some w ∧ TkAt n ch w a ∧ sameT v w := by
  obtain ⟨M, rfl⟩ : ∃ k, N = k + 3 := ⟨N - 3, by omega⟩
  unfold F_X8_nextToken
  simp only [jn_eq]
  have hs : ∀ x, sameT v (up2 (up2 (up2 v 0 13 (v 0 10)) 0 11 x) 0 12 0) := fun x => sameT_tr (sameT_tr (sameT_up (by omega)) (sameT_up (by omega))) (sameT_up (by omega))
  by_cases z : a = n
  · have hd : ¬ dg n ch a = true := fun y => by have := (dg_t.mp y).1; omega
    have e10 : (up2 (up2 (up2 v 0 13 (v 0 10)) 0 11 3) 0 12 0) 0 10 = nI a := h10
    have e13 : (up2 (up2 (up2 v 0 13 (v 0 10)) 0 11 3) 0 12 0) 0 13 = nI a := h10
    refine ⟨up2 (up2 (up2 v 0 13 (v 0 10)) 0 11 3) 0 12 0, ?_, ⟨e13, Or.inl ⟨by unfold numL; rw [if_neg hd], z, rfl⟩⟩, hs 3⟩
    rw [if_pos (by rw [h10, h8, z]), l33 hn hch (w := up2 (up2 (up2 v 0 13 (v 0 10)) 0 11 3) 0 12 0) h8 h6 e10 ha, if_neg hd, e13, e10, if_neg (nI_nlt (Nat.le_refl _) (by omega)), if_neg (show ¬ (up2 (up2 (up2 v 0 13 (v 0 10)) 0 11 3) 0 12 0) 0 11 = 0 from (show ¬ (3 : Int32) = 0 by decide))]
  · have hne : ¬ v 0 10 = v 0 8 := fun q => z ((nI_eq (by omega) (by omega)).mp (h10.symm.trans (q.trans h8)))
    rw [if_neg hne]
    have hS := hs 0
    generalize hw0 : up2 (up2 (up2 v 0 13 (v 0 10)) 0 11 0) 0 12 0 = w0 at hS
    have e10 : w0 0 10 = nI a := by rw [← hw0]; exact h10
    have e13 : w0 0 13 = nI a := by rw [← hw0]; exact h10
    have e11 : w0 0 11 = 0 := by rw [← hw0]; rfl
    have e12 : w0 0 12 = 0 := by rw [← hw0]; rfl
    have e8 : w0 0 8 = nI n := by rw [← hw0]; exact h8
    have e6 : ∀ i, i < n → w0 6 i = nI (ch i) := by rw [← hw0]; exact h6
    have han : a < n := by omega
    have hca := hch a han
    rw [l33 hn hch e8 e6 e10 ha]
    by_cases d0 : dg n ch a = true
    · obtain ⟨-, q1, q2⟩ := dg_t.mp d0
      rw [if_pos d0, e12, if_neg (by decide), show (10 * (0 : Int32) + nI (ch a)) - 48 = nI (ch a - 48) from by
        rw [show (10 : Int32) * 0 = nI 0 from rfl, nI_add, Nat.zero_add, show (48 : Int32) = nI 48 from rfl, pk_sub q1]]
      have hS1 : sameT w0 (up2 (up2 w0 0 12 (nI (ch a - 48))) 0 10 (nI (a + 1))) := sameT_tr (sameT_up (by omega)) (sameT_up (by omega))
      generalize hw1 : up2 (up2 w0 0 12 (nI (ch a - 48))) 0 10 (nI (a + 1)) = w1 at hS1
      have f10 : w1 0 10 = nI (a + 1) := by rw [← hw1]; rfl
      have f13 : w1 0 13 = nI a := by rw [← hw1]; exact e13
      have f12 : w1 0 12 = nI (ch a - 48) := by rw [← hw1]; rfl
      have f8 : w1 0 8 = nI n := by rw [← hw1]; exact e8
      have f6 : ∀ i, i < n → w1 6 i = nI (ch i) := by rw [← hw1]; exact e6
      rw [l33 hn hch f8 f6 f10 (by omega)]
      by_cases d1 : dg n ch (a + 1) = true
      · obtain ⟨q0, q3, q4⟩ := dg_t.mp d1
        rw [if_pos d1, f12, if_neg (show ¬ (99 : Int32) < nI (ch a - 48) from nI_nlt (a := 99) (by omega) (by decide)), show (10 * nI (ch a - 48) + nI (ch (a + 1))) - 48 = nI (10 * (ch a - 48) + (ch (a + 1) - 48)) from by
          rw [show (10 : Int32) = nI 10 from rfl, pk_mul, nI_add, show (48 : Int32) = nI 48 from rfl, pk_sub (by omega)]
          congr 1
          omega]
        have hS2 : sameT w1 (up2 (up2 w1 0 12 (nI (10 * (ch a - 48) + (ch (a + 1) - 48)))) 0 10 (nI (a + 1 + 1))) := sameT_tr (sameT_up (by omega)) (sameT_up (by omega))
        generalize hw2 : up2 (up2 w1 0 12 (nI (10 * (ch a - 48) + (ch (a + 1) - 48)))) 0 10 (nI (a + 1 + 1)) = w2 at hS2
        have g10 : w2 0 10 = nI (a + 2) := by rw [← hw2]; rfl
        have g13 : w2 0 13 = nI a := by rw [← hw2]; exact f13
        have g12 : w2 0 12 = nI (10 * (ch a - 48) + (ch (a + 1) - 48)) := by rw [← hw2]; rfl
        have g8 : w2 0 8 = nI n := by rw [← hw2]; exact f8
        have g6 : ∀ i, i < n → w2 6 i = nI (ch i) := by rw [← hw2]; exact f6
        by_cases d2 : dg n ch (a + 2) = true
        · obtain ⟨w3, b', r1, r2, r3, r4, r5, r6, r7⟩ := l_run (N := M + 3) hn hch (n - (a + 2)) w2 (a + 2) (M + 1) (by omega) g8 g6 g10 (by omega)
          have hb3 := r5 d2
          refine ⟨up2 w3 0 11 0, ?_, ⟨?_, Or.inr (Or.inr (Or.inr ⟨?_, rfl⟩))⟩, sameT_tr hS (sameT_tr hS1 (sameT_tr hS2 (sameT_tr r7 (sameT_up (by omega)))))⟩
          · rw [r1, r6, r2, g13, if_pos (nI_lt (by omega) (by omega)), pk_sub (by omega), if_pos (show (2 : Int32) < nI (b' - a) from nI_lt (a := 2) (by omega) (by omega))]
          · show w3 0 13 = _
            rw [r6, g13]
          · unfold numL; rw [if_pos d0, if_pos d1, if_pos d2]
        · refine ⟨up2 w2 0 11 2, ?_, ⟨g13, Or.inr (Or.inr (Or.inl ⟨?_, rfl, ?_, ?_⟩))⟩, sameT_tr hS (sameT_tr hS1 (sameT_tr hS2 (sameT_up (by omega))))⟩
          · rw [l33 hn hch g8 g6 g10 (by omega), if_neg d2, g13, g10, if_pos (nI_lt (by omega) (by omega)), pk_sub (by omega), if_neg (show ¬ (2 : Int32) < nI (a + 2 - a) from nI_nlt (a := 2) (by omega) (by decide))]
          · unfold numL; rw [if_pos d0, if_pos d1, if_neg d2]; exact Or.inr rfl
          · show w2 0 12 = _
            rw [g12]; unfold numV; rw [if_pos d1]
          · show w2 0 10 = _
            rw [g10]; unfold numL; rw [if_pos d0, if_pos d1, if_neg d2]
      · refine ⟨up2 w1 0 11 2, ?_, ⟨f13, Or.inr (Or.inr (Or.inl ⟨?_, rfl, ?_, ?_⟩))⟩, sameT_tr hS (sameT_tr hS1 (sameT_up (by omega)))⟩
        · rw [if_neg d1, f13, f10, if_pos (nI_lt (by omega) (by omega)), pk_sub (by omega), if_neg (show ¬ (2 : Int32) < nI (a + 1 - a) from nI_nlt (a := 2) (by omega) (by decide))]
        · unfold numL; rw [if_pos d0, if_neg d1]; exact Or.inl rfl
        · show w1 0 12 = _
          rw [f12]; unfold numV; rw [if_neg d1]
        · show w1 0 10 = _
          rw [f10]; unfold numL; rw [if_pos d0, if_neg d1]
    · have hk : ∀ {β : Type} {o : Option β}, chk 120 (nI a) o = o := chk_in (by omega) (by decide)
      have ec := nI_toInt (n := ch a) (by omega)
      refine ⟨up2 (up2 (up2 w0 0 12 (nI (ch a))) 0 11 (if cls (ch a) = true then 1 else 0)) 0 10 (nI (a + 1)), ?_, ⟨e13, Or.inr (Or.inl ⟨by unfold numL; rw [if_neg d0], han, rfl, rfl, rfl⟩)⟩, sameT_tr hS (sameT_tr (sameT_tr (sameT_up (by omega)) (sameT_up (by omega))) (sameT_up (by omega)))⟩
      rw [if_neg d0, e13, e10, if_neg (nI_nlt (Nat.le_refl _) (by omega)), e11, if_pos rfl, hk, nI_clamp (by omega), e6 a han, nI_1]
      unfold cls
      by_cases y : 97 ≤ ch a ∧ ch a ≤ 122
      · rw [in_ok (B := 97) (C := 122) rfl rfl (by omega), bs, if_neg one0, decide_eq_true (Or.inl y)]
        rfl
      · rw [in_no (B := 97) (C := 122) rfl rfl (by omega), bs, if_pos rfl]
        by_cases y2 : ch a = 44
        · rw [if_pos (show nI (ch a) = 44 by rw [y2]; rfl), decide_eq_true (Or.inr (Or.inl y2))]; rfl
        · rw [if_neg (show ¬ nI (ch a) = 44 from fun q => y2 ((nI_eq (b := 44) (by omega) (by decide)).mp q))]
          by_cases y3 : ch a = 59
          · rw [if_pos (show nI (ch a) = 59 by rw [y3]; rfl), decide_eq_true (Or.inr (Or.inr y3))]; rfl
          · rw [if_neg (show ¬ nI (ch a) = 59 from fun q => y3 ((nI_eq (b := 59) (by omega) (by decide)).mp q)), decide_eq_false (fun q => by rcases q with q | q | q; exact y q; exact y2 q; exact y3 q)]; rfl
theorem p_letter {N n a c : Nat} {ch : Nat → Nat} {v : SV} (hch : ∀ i, i < n → ch i < 256) (h : TkAt n ch v a) (hc : cls c = true) (hc2 : c < 256) : F_X8_isLetter N v (nI c) = some (if a < n ∧ ch a = c then 1 else 0) := by
  have hcc : (97 ≤ c ∧ c ≤ 122) ∨ c = 44 ∨ c = 59 := by unfold cls at hc; exact of_decide_eq_true hc
  unfold F_X8_isLetter
  have hdig : ¬ numL n ch a = 0 → a < n ∧ 48 ≤ ch a ∧ ch a ≤ 57 := fun hl => by
    by_cases d0 : dg n ch a = true
    · exact dg_t.mp d0
    · exact absurd (by unfold numL; rw [if_neg d0]) hl
  rcases h.2 with ⟨h0, h1, h2⟩ | ⟨h0, h1, h2, h3, h4⟩ | ⟨h0, h1, h2, h3⟩ | ⟨h0, h1⟩
  · rw [h2, if_neg (by decide), if_neg (by omega)]
  · have hca := hch a h1
    rw [h2, h3]
    by_cases y : cls (ch a) = true
    · rw [if_pos y, if_pos rfl]
      by_cases z : ch a = c
      · rw [if_pos (by rw [z]), if_pos (And.intro h1 z)]
      · rw [if_neg (fun q => z ((nI_eq (by omega) (by omega)).mp q)), if_neg (fun q => z q.2)]
    · rw [if_neg y, if_neg (by decide), if_neg (fun q => y (by rw [q.2]; exact hc))]
  · have := hdig (by omega)
    rw [h1, if_neg (by decide), if_neg (by omega)]
  · have := hdig (by omega)
    rw [h1, if_neg (by decide), if_neg (by omega)]
