/-! who, wanted: told rows -/
theorem p_line {N : Nat} {vW gW vM : SV} (hr : RRow (vW 1) (vW 2) gW (vM 1) (vM 2) (vM 3)) (x3 x4 x5 : Int32) : (F_X7_canTell N x3 x5 = some 0 ∧ F_X8_isLine N vM x3 x5 = some 0) ∨ (F_X7_canTell N x3 x5 = some 1 ∧ F_X8_isLine N vM x3 x5 = some 1 ∧ ((∃ c, (c = 1 ∨ c = 2) ∧ F_X3_findingOfSpan N vW x3 x4 x5 = some c ∧ F_X8_lacks N vM x3 x4 x5 = some (-1000010 - c, up2 vM 0 3 c)) ∨ (∃ j k m, j < 8 ∧ k + m ≤ 40 ∧ 1 ≤ m ∧ m ≤ 12 ∧ x3 = nI j ∧ x4 = nI k ∧ x5 = nI m ∧ F_X3_findingOfSpan N vW x3 x4 x5 = some 0 ∧ F_X8_lacks N vM x3 x4 x5 = some (0, vM)))) := by
  unfold F_X7_canTell F_X8_isLine
  rcases pk_ix x3 (n := 8) (by decide) with hb | hb | ⟨j, hj, rfl⟩
  · obtain ⟨p, q⟩ := row_bad N (Or.inl hb)
    exact Or.inl ⟨by rw [p]; rfl, by rw [q]; rfl⟩
  · obtain ⟨p, q⟩ := row_bad N (Or.inr hb)
    exact Or.inl ⟨by rw [p]; rfl, by rw [q]; rfl⟩
  obtain ⟨p, q⟩ := row_ok N hj
  rw [p, q, bs, bs, if_neg one0, if_neg one0]
  rcases rg (N := N) (l := 1) (h := 12) 1 12 rfl rfl (b := 1) (c := 12) rfl rfl (by omega) (by omega) x5 with ⟨c, d⟩ | ⟨c, d, e⟩ | ⟨m, m1, m12, rfl, c, d, e⟩
  · exact Or.inl ⟨by rw [if_pos c], by rw [d]; rfl⟩
  · exact Or.inl ⟨by rw [if_neg c, if_pos d], by rw [e]; rfl⟩
  refine Or.inr ⟨by rw [if_neg c, if_neg d], by rw [e]; rfl, ?_⟩
  have hc : (nI j).toNatClampNeg = j := nI_clamp (by omega)
  unfold F_X3_findingOfSpan F_X8_lacks
  rw [chk_in hj (by decide), chk_in hj (by decide), hc]
  rcases p_miss N hr hj with ⟨h1, h2, h3, h4⟩ | ⟨n, la, g1, g2, g3, g4, g5, g6, g7⟩
  · refine Or.inl ⟨1, Or.inl rfl, by rw [h4]; rfl, ?_⟩
    rw [h3, if_pos m1lt, mf]
    rfl
  have hsz : ¬ nI n < 0 := nI_pos (by omega)
  have hcc : ((nI n - nI m : Int32).toInt64).toInt = (n : Int) - m := by rw [i64]; exact pk_sub_toInt (a := n) (b := m) (by omega) (by omega)
  rw [g7, bs, if_pos rfl, g5, if_neg hsz]
  rcases p_span (N := N) hj g1 (m := m) (by omega) g4 hcc x4 with ⟨s1, s2⟩ | ⟨k, hk2, rfl, s1, s2⟩
  · exact Or.inl ⟨2, Or.inr rfl, by rw [s1]; rfl, by rw [s2, bs, if_pos rfl, mf]; rfl⟩
  · exact Or.inr ⟨j, k, m, hj, by omega, m1, m12, rfl, rfl, rfl, by rw [s1]; rfl, by rw [s2]; rfl⟩
theorem l_hear {N j k m : Nat} {vW gW : SV} (hj : j < 8) (hkm : k + m ≤ 40) (hm : m ≤ 12) : ∀ d t n vE, t + d = m → d < n → vE 0 2 = nI m → (∀ q, q < t → vE 1 q = gW j (k + q)) → ∃ e, F_X4_hear_L14 N vW gW (nI j) (nI k) n (nI t) vE = some e ∧ e 0 2 = nI m ∧ ∀ q, q < m → e 1 q = gW j (k + q) := by
  intro d
  induction d with
  | zero =>
    intro t n vE ht hn h2 hq
    obtain ⟨n, rfl⟩ : ∃ m, n = m + 1 := ⟨n - 1, by omega⟩
    have e : t = m := by omega
    subst e
    exact ⟨vE, by rw [F_X4_hear_L14, h2, if_neg (nI_nlt (by omega) (by omega))], h2, hq⟩
  | succ d ih =>
    intro t n vE ht hn h2 hq
    obtain ⟨n, rfl⟩ : ∃ m, n = m + 1 := ⟨n - 1, by omega⟩
    obtain ⟨e, e1, e2, e3⟩ := ih (t + 1) n (up2 vE 1 t (gW j (k + t))) (by omega) (by omega) h2 (fun q hq2 => by
      show upd (vE 1) t _ q = _
      by_cases z : q = t
      · rw [z, upd_s]
      · rw [upd_n z]; exact hq q (by omega))
    refine ⟨e, ?_, e2, e3⟩
    have ei : F_X3_item N vW gW (nI j) (nI (k + t)) = some (gW j (k + t)) := by
      unfold F_X3_item
      rw [(row_ok N hj).1, bs, if_neg one0, if_neg (nI_pos (by omega)), if_pos (show nI (k + t) < (40 : Int32) from nI_lt (b := 40) (by omega) (by decide)), chk_in hj (by decide), chk_in (by omega) (by decide), nI_clamp (by omega), nI_clamp (by omega)]
    rw [F_X4_hear_L14, h2, if_pos (nI_lt (by omega) (by omega)), nI_add, ei, bs, chk_in (n := 12) (k := t) (by omega) (by decide), nI_clamp (by omega), nI_1, e1]
theorem p_hear {N : Nat} (hN : 3000 ≤ N) {j k m : Nat} {vW gW : SV} (hj : j < 8) (hkm : k + m ≤ 40) (hm : m ≤ 12) (vE : SV) : ∃ e, F_X4_hear N vW vE gW (nI j) (nI k) (nI m) = some e ∧ e 0 2 = nI m ∧ ∀ q, q < m → e 1 q = gW j (k + q) := by
  unfold F_X4_hear
  rw [if_neg (show ¬ (12 : Int32) < nI m from nI_nlt (a := 12) hm (by decide))]
  exact l_hear hj hkm hm m 0 N (up2 vE 0 2 (nI m)) (by omega) (by omega) rfl (fun q hq => absurd hq (Nat.not_lt_zero q))
theorem l_so0 {N at_ m : Nat} (hN : 3000 ≤ N) (hm12 : m ≤ 12) {vM : SV} {as : Nat → Int32} : ∀ d t n2 f S B, t + d = m → RM f S → SInv B S → d < n2 → ∃ g, ∀ K, F_X8_isSo_L5 N (nI at_) (nI m) K n2 0 (nI t) (tU vM as f) = K 0 (tU vM as g) := by
  intro d
  induction d with
  | zero =>
    intro t n2 f S B ht hm hi hn2
    obtain ⟨n2, rfl⟩ : ∃ m, n2 = m + 1 := ⟨n2 - 1, by omega⟩
    exact ⟨f, fun K => by rw [F_X8_isSo_L5, if_neg (nI_nlt (by omega) (by omega))]⟩
  | succ d ih =>
    intro t n2 f S B ht hm hi hn2
    obtain ⟨n2, rfl⟩ : ∃ m, n2 = m + 1 := ⟨n2 - 1, by omega⟩
    obtain ⟨o, h, ho, h1, h2⟩ := p_tap1 hN (vM := tU vM as f) hm hi
    rw [tU_up] at h1
    obtain ⟨g, g1⟩ := ih (t + 1) n2 h (tapS S o) (B + 1) (by omega) h2 (siTap hi ho) (by omega)
    refine ⟨g, fun K => ?_⟩
    rw [F_X8_isSo_L5, if_pos (nI_lt (by omega) (by omega)), h1, bs, nI_1]
    simp only [jn_eq]
    rw [if_pos trivial, g1]
theorem l_so {N j k m : Nat} (hN : 3000 ≤ N) (hj : j < 8) (hkm : k + m ≤ 40) (hm12 : m ≤ 12) {vM vE gW : SV} {as : Nat → Int32} (hg : ∀ r i, r < 8 → i < 40 → gW r i = vM 3 (40 * r + i)) (he0 : vE 0 2 = nI m) (he : ∀ q, q < m → vE 1 q = gW j (k + q)) : ∀ d t n n2 vF f S B, t + d = m → RC vF S → RM f S → SInv B S → d < n → d < n2 → ∃ r w g, F_X4_trialClapsAsTold_L2 N vE n (nI t) vF = some (r, w) ∧ (∀ K, F_X8_isSo_L5 N (nI (40 * j + k)) (nI m) K n2 1 (nI t) (tU vM as f) = K r (tU vM as g)) ∧ (r = 0 ∨ r = 1) := by
  intro d
  induction d with
  | zero =>
    intro t n n2 vF f S B ht hc hm hi hn hn2
    obtain ⟨n, rfl⟩ : ∃ m, n = m + 1 := ⟨n - 1, by omega⟩
    obtain ⟨n2, rfl⟩ : ∃ m, n2 = m + 1 := ⟨n2 - 1, by omega⟩
    exact ⟨1, vF, f, by rw [F_X4_trialClapsAsTold_L2, he0, if_neg (nI_nlt (by omega) (by omega))], fun K => by rw [F_X8_isSo_L5, if_neg (nI_nlt (by omega) (by omega))], Or.inr rfl⟩
  | succ d ih =>
    intro t n n2 vF f S B ht hc hm hi hn hn2
    obtain ⟨n, rfl⟩ : ∃ m, n = m + 1 := ⟨n - 1, by omega⟩
    obtain ⟨n2, rfl⟩ : ∃ m, n2 = m + 1 := ⟨n2 - 1, by omega⟩
    obtain ⟨o, ho, -, ⟨w, w1, w2, -⟩, h, h1, h2⟩ := p_tap hN hc (vM := tU vM as f) hm hi
    rw [tU_up] at h1
    have eq : gW j (k + t) = vM 3 (40 * j + k + t) := by rw [hg j (k + t) hj (by omega), Nat.add_assoc]
    have e5 : F_X4_trialClapsAsTold_L2 N vE (n + 1) (nI t) vF = if (tapS S o).1 3 = vM 3 (40 * j + k + t) then F_X4_trialClapsAsTold_L2 N vE n (nI (t + 1)) w else some (0, w) := by
      rw [F_X4_trialClapsAsTold_L2, he0, if_pos (nI_lt (by omega) (by omega)), w1, bs, chk_in (n := 12) (k := t) (by omega) (by decide), nI_clamp (by omega), he t (by omega), eq, w2.2.2.2.2.2.2.1, nI_1]
    have e8 : ∀ K, F_X8_isSo_L5 N (nI (40 * j + k)) (nI m) K (n2 + 1) 1 (nI t) (tU vM as f) = if vM 3 (40 * j + k + t) = (tapS S o).1 3 then F_X8_isSo_L5 N (nI (40 * j + k)) (nI m) K n2 1 (nI (t + 1)) (tU vM as h) else F_X8_isSo_L5 N (nI (40 * j + k)) (nI m) K n2 0 (nI (t + 1)) (tU vM as h) := fun K => by
      rw [F_X8_isSo_L5, if_pos (nI_lt (by omega) (by omega)), h1, bs, nI_1, nI_add]
      simp only [jn_eq]
      rw [if_neg one0, chk_in (n := 320) (k := 40 * j + k + t) (by omega) (by decide), k5, t5, nI_clamp (by omega), show (tU vM as h) 4 5 = (tapS S o).1 3 from h2.2.2.2.2.2.2.1]
      rfl
    rw [e5]
    by_cases z : (tapS S o).1 3 = vM 3 (40 * j + k + t)
    · obtain ⟨r, w', g, a1, a2, a3⟩ := ih (t + 1) n n2 w h (tapS S o) (B + 1) (by omega) w2 h2 (siTap hi ho) (by omega) (by omega)
      exact ⟨r, w', g, by rw [if_pos z, a1], fun K => by rw [e8, if_pos z.symm, a2], a3⟩
    · obtain ⟨g, g1⟩ := l_so0 (N := N) (at_ := 40 * j + k) (vM := vM) (as := as) hN hm12 d (t + 1) n2 h (tapS S o) (B + 1) (by omega) h2 (siTap hi ho) (by omega)
      exact ⟨0, w, g, by rw [if_neg z], fun K => by rw [e8, if_neg (fun y => z y.symm), g1], Or.inl rfl⟩
theorem p_so {N j k m : Nat} (hN : 3000 ≤ N) (hj : j < 8) (hkm : k + m ≤ 40) (hm12 : m ≤ 12) {vM vE gW : SV} {as : Nat → Int32} (ha : ∀ i, i < 55 → as i = vM 4 i) (hg : ∀ r i, r < 8 → i < 40 → gW r i = vM 3 (40 * r + i)) (he0 : vE 0 2 = nI m) (he : ∀ q, q < m → vE 1 q = gW j (k + q)) {vF : SV} {f : Nat → Int32} {S : Sh} {B : Nat} (hc : RC vF S) (hm : RM f S) (hi : SInv B S) : ∃ r w g, F_X4_trialClapsAsTold N vE vF = some (r, w) ∧ F_X8_isSo N (tU vM as f) ((40 * nI j) + nI k) (nI m) = some (r, tU vM as g) ∧ (r = 0 ∨ r = 1) ∧ ∀ i, i < 55 → g i = vM 4 i := by
  obtain ⟨r, w, g, a1, a2, a3⟩ := l_so (as := as) hN hj hkm hm12 hg he0 he m 0 N N vF f S B (by omega) hc hm hi (by omega) (by omega)
  obtain ⟨g', c1, c2⟩ := p_tb hN ha g
  refine ⟨r, w, g', a1, ?_, a3, c2⟩
  unfold F_X8_isSo
  rw [lit40, pk_mul, nI_add, show ∀ K, F_X8_isSo_L5 N (nI (40 * j + k)) (nI m) K N 1 (0 : Int32) (tU vM as f) = K r (tU vM as g) from a2, c1, bs]
  rcases a3 with h | h
  · rw [h]; exact zr_zero
  · rw [h]; exact zr_one
/-- one number of a show told anew -/
def reS (S : Sh) (k j : Nat) (x : Int32) : Sh := (S.1, fun a s => if a = k ∧ s = j then x else S.2.1 a s, S.2.2.1, S.2.2.2.1, S.2.2.2.2)
theorem up2_if {v : SV} {k j a b : Nat} {x : Int32} : up2 v k j x a b = if a = k ∧ b = j then x else v a b := by
  by_cases h : a = k
  · subst h
    by_cases h2 : b = j
    · subst h2
      rw [up2_s, if_pos (And.intro rfl rfl)]
    · rw [up2_j h2, if_neg (fun z => h2 z.2)]
  · rw [up2_k h, if_neg (fun z => h z.1)]
theorem rcR {v : SV} {S : Sh} {k j : Nat} {x : Int32} (hc : RC v S) (hk : k < 6) : RC (up2 v (k + 1) j x) (reS S k j x) := by
  have e : ∀ a i, v (a + 1) i = S.2.1 a i → up2 v (k + 1) j x (a + 1) i = (reS S k j x).2.1 a i := fun a i h => by
    rw [up2_if]
    show _ = if a = k ∧ i = j then x else S.2.1 a i
    by_cases z : a = k ∧ i = j
    · rw [if_pos z, if_pos (by omega)]
    · rw [if_neg z, if_neg (by omega), h]
  obtain ⟨a0, a1, a2, a3, a4, a5, a6, a7, a8, a9⟩ := hc
  have e0 : up2 v (k + 1) j x 0 = v 0 := up2_k (by omega)
  have e8 : up2 v (k + 1) j x 8 = v 8 := up2_k (by omega)
  refine ⟨by rw [e0]; exact a0, by rw [e0]; exact a1, by rw [e0]; exact a2, by rw [e0]; exact a3, by rw [e0]; exact a4, by rw [e0]; exact a5, by rw [e0]; exact a6, fun i hI => ?_, fun i hI => ?_, fun i hI => by rw [e8]; exact a9 i hI⟩
  · obtain ⟨b1, b2, b3, b4⟩ := a7 i hI
    exact ⟨e 0 i b1, e 1 i b2, e 2 i b3, e 3 i b4⟩
  · obtain ⟨b1, b2, b3⟩ := a8 i hI
    exact ⟨e 4 i b1, e 5 i b2, e 6 i b3⟩
theorem rmR {m : Nat → Int32} {S : Sh} {B k j b : Nat} {x : Int32} (hm : RM m S) (hi : SInv B S) (hb : (k < 4 ∧ b = 7 + 6 * k ∧ j < S.2.2.1) ∨ (4 ≤ k ∧ k < 6 ∧ b = 13 + 6 * k ∧ j < S.2.2.2.1)) : RM (upd m (b + j) x) (reS S k j x) := by
  have h1 := hi.1
  have h6 := hi.2.1
  have hl := len6 hi
  have e : ∀ a c i, ((a < 4 ∧ c = 7 + 6 * a ∧ i < S.2.2.1) ∨ (4 ≤ a ∧ a < 7 ∧ c = 13 + 6 * a ∧ i < S.2.2.2.1)) → m (c + i) = S.2.1 a i → upd m (b + j) x (c + i) = (reS S k j x).2.1 a i := fun a c i hac h => by
    show _ = if a = k ∧ i = j then x else S.2.1 a i
    by_cases z : a = k ∧ i = j
    · rw [if_pos z, show c + i = b + j from by omega, upd_s]
    · rw [if_neg z, upd_n (by omega), h]
  obtain ⟨a0, a1, a2, a3, a4, a5, a6, a7, a8, a9⟩ := hm
  refine ⟨by rw [upd_n (by omega)]; exact a0, by rw [upd_n (by omega)]; exact a1, by rw [upd_n (by omega)]; exact a2, by rw [upd_n (by omega)]; exact a3, by rw [upd_n (by omega)]; exact a4, by rw [upd_n (by omega)]; exact a5, by rw [upd_n (by omega)]; exact a6, fun i hI => ?_, fun i hI => ?_, fun i hI => ?_⟩
  · have hI : i < S.2.2.1 := hI
    obtain ⟨b1, b2, b3, b4⟩ := a7 i hI
    exact ⟨e 0 7 i (by omega) b1, e 1 13 i (by omega) b2, e 2 19 i (by omega) b3, e 3 25 i (by omega) b4⟩
  · have hI : i < S.2.2.2.1 := hI
    obtain ⟨b1, b2, b3⟩ := a8 i hI
    exact ⟨e 4 37 i (by omega) b1, e 5 43 i (by omega) b2, e 6 49 i (by omega) b3⟩
  · have hI : i < S.2.2.2.2.length := hI
    rw [upd_n (by omega)]
    exact a9 i hI
theorem siR {B k j c : Nat} {S : Sh} (hi : SInv B S) (hk : (k = 0 ∧ 1 ≤ c ∧ c ≤ 5) ∨ (k = 1 ∧ c ≤ 9) ∨ (k = 3 ∧ c ≤ 9) ∨ (k = 4 ∧ c ≤ 9) ∨ (k = 5 ∧ 1 ≤ c ∧ c ≤ 20)) : SInv B (reS S k j (nI c)) := by
  obtain ⟨a1, a2, a3, a4, a5, a6, a7, a8, a9⟩ := hi
  have e : ∀ a i, (reS S k j (nI c)).2.1 a i = if a = k ∧ i = j then nI c else S.2.1 a i := fun _ _ => rfl
  refine ⟨a1, a2, a3, a4, fun i hI => ?_, fun i hI => ?_, a7, a8, a9⟩
  · obtain ⟨b1, b2, b3, b4⟩ := a5 i hI
    rw [e, e, e, e]
    refine ⟨?_, ?_, ?_, ?_⟩
    · by_cases z : 0 = k ∧ i = j
      · rw [if_pos z]; exact ⟨c, by omega, by omega, rfl⟩
      · rw [if_neg z]; exact b1
    · by_cases z : 1 = k ∧ i = j
      · rw [if_pos z]; exact ⟨c, by omega, rfl⟩
      · rw [if_neg z]; exact b2
    · by_cases z : 2 = k ∧ i = j
      · omega
      · rw [if_neg z]; exact b3
    · by_cases z : 3 = k ∧ i = j
      · rw [if_pos z]; exact ⟨c, by omega, rfl⟩
      · rw [if_neg z]; exact b4
  · obtain ⟨b1, b2, b3, b4⟩ := a6 i hI
    rw [e, e, e, if_neg (show ¬ (6 = k ∧ i = j) by omega)]
    refine ⟨?_, ?_, b3, fun h0 => ?_⟩
    · by_cases z : 4 = k ∧ i = j
      · rw [if_pos z]; exact ⟨c, by omega, rfl⟩
      · rw [if_neg z]; exact b1
    · by_cases z : 5 = k ∧ i = j
      · rw [if_pos z]; exact ⟨c, by omega, rfl⟩
      · rw [if_neg z]; exact b2
    · by_cases z : 5 = k ∧ i = j
      · rw [if_pos z]; exact nI_ne0 (by omega) (by omega)
      · rw [if_neg z]; exact b4 h0
