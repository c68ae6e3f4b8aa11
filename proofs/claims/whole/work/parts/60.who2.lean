/-! who, wanted -/
theorem tU_u2 {vM : SV} {as f : Nat → Int32} {i : Nat} {x : Int32} : up2 (tU vM as f) 4 i x = tU vM as (upd f i x) := by
  unfold up2
  rw [tU_up]
  rfl
theorem p_reshape {N q wh kk hi : Nat} (hq : q < 6) (hw : (wh = 0 ∧ kk = 0 ∧ hi = 5) ∨ (wh = 1 ∧ kk = 1 ∧ hi = 9) ∨ (wh = 2 ∧ kk = 3 ∧ hi = 9)) (vE u : SV) (x : Int32) : F_X4_reshape N vE u (nI q) (nI wh) x = some (up2 u (kk + 1) q x) := by
  unfold F_X4_reshape
  rw [chk_in hq (by decide), chk_in hq (by decide), chk_in hq (by decide), nI_clamp (by omega)]
  rcases hw with ⟨rfl, rfl, -⟩ | ⟨rfl, rfl, -⟩ | ⟨rfl, rfl, -⟩
  · rw [if_pos (show nI 0 = 0 from rfl)]
  · rw [if_neg (show ¬ nI 1 = 0 by decide), if_pos (show nI 1 = 1 from rfl)]
  · rw [if_neg (show ¬ nI 2 = 0 by decide), if_neg (show ¬ nI 2 = 1 by decide)]
theorem selW {α : Type} {wh kk hi9 : Nat} {c : Int32} {A B : Option α} (hw : (wh = 0 ∧ kk = 0 ∧ hi9 = 5) ∨ (wh = 1 ∧ kk = 1 ∧ hi9 = 9) ∨ (wh = 2 ∧ kk = 3 ∧ hi9 = 9)) : (if nI wh = 0 then (if (5 : Int32) < c then A else B) else (if (9 : Int32) < c then A else B)) = (if nI hi9 < c then A else B) := by
  rcases hw with ⟨rfl, rfl, rfl⟩ | ⟨rfl, rfl, rfl⟩ | ⟨rfl, rfl, rfl⟩
  · rw [if_pos (show nI 0 = 0 from rfl)]; rfl
  · rw [if_neg (show ¬ nI 1 = 0 by decide)]; rfl
  · rw [if_neg (show ¬ nI 2 = 0 by decide)]; rfl
theorem l_who {N q j k m wh kk hi9 : Nat} (hN : 3000 ≤ N) (hj : j < 8) (hkm : k + m ≤ 40) (hm12 : m ≤ 12) {vS vM vE gW : SV} {as : Nat → Int32} {S : Sh} (hc : RC vS S) (hm : RM (vM 4) S) (hi : SInv 999 S) (hq : q < S.2.2.1) (hw : (wh = 0 ∧ kk = 0 ∧ hi9 = 5) ∨ (wh = 1 ∧ kk = 1 ∧ hi9 = 9) ∨ (wh = 2 ∧ kk = 3 ∧ hi9 = 9)) (ha : ∀ i, i < 55 → as i = vM 4 i) (hg : ∀ r i, r < 8 → i < 40 → gW r i = vM 3 (40 * r + i)) (he0 : vE 0 2 = nI m) (he : ∀ q, q < m → vE 1 q = gW j (k + q)) : ∀ d c n n2 acc vF f, c + d = hi9 + 1 → (1 ≤ c ∨ ¬ kk = 0) → (∀ i, i < 55 → f i = vM 4 i) → d < n → d < n2 → ∃ y w g, F_X4_shapesThatFit_L30 N vS vE (nI q) (nI wh) (nI hi9) n acc (nI c) vF = some (y, w) ∧ (∀ K, F_X8_who_L101 N (nI wh) (nI j) (nI k) (nI m) (nI (7 + 6 * kk + q)) K n2 acc (nI c) (tU vM as f) = K y (tU vM as g)) ∧ ∀ i, i < 55 → g i = vM 4 i := by
  have h1 := hi.1
  have h6 := hi.2.1
  intro d
  induction d with
  | zero =>
    intro c n n2 acc vF f hcd hlo hf hn hn2
    obtain ⟨n, rfl⟩ : ∃ m, n = m + 1 := ⟨n - 1, by omega⟩
    obtain ⟨n2, rfl⟩ : ∃ m, n2 = m + 1 := ⟨n2 - 1, by omega⟩
    have hlt : nI hi9 < nI c := nI_lt (a := hi9) (by omega) (by omega)
    refine ⟨acc, vF, f, by rw [F_X4_shapesThatFit_L30, if_pos hlt], fun K => ?_, hf⟩
    rw [F_X8_who_L101]
    simp only [jn_eq]
    rw [selW hw]
    rw [if_pos hlt]
  | succ d ih =>
    intro c n n2 acc vF f hcd hlo hf hn hn2
    obtain ⟨n, rfl⟩ : ∃ m, n = m + 1 := ⟨n - 1, by omega⟩
    obtain ⟨n2, rfl⟩ : ∃ m, n2 = m + 1 := ⟨n2 - 1, by omega⟩
    have hnl : ¬ nI hi9 < nI c := nI_nlt (a := hi9) (by omega) (by omega)
    have hsi := siR (j := q) (c := c) (k := kk) hi (by omega)
    have hrm := rmR (k := kk) (j := q) (b := 7 + 6 * kk) (x := nI c) (rm_cg hm hi hf) hi (by omega)
    have hrc := rcR (k := kk) (j := q) (x := nI c) (ovr_rc (v := vF) hc hi) (by omega)
    obtain ⟨r, w, g, a1, a2, a3, a4⟩ := p_so (as := as) hN hj hkm hm12 ha hg he0 he hrc hrm hsi
    have e5 : F_X4_shapesThatFit_L30 N vS vE (nI q) (nI wh) (nI hi9) (n + 1) acc (nI c) vF = if r = 0 then F_X4_shapesThatFit_L30 N vS vE (nI q) (nI wh) (nI hi9) n acc (nI (c + 1)) w else F_X4_shapesThatFit_L30 N vS vE (nI q) (nI wh) (nI hi9) n (acc ||| ((1 : Int32) <<< (nI c &&& 31))) (nI (c + 1)) w := by
      rw [F_X4_shapesThatFit_L30, if_neg hnl, p_over, bs, p_reshape (by omega) hw, bs, a1, bs, nI_1]
      simp only [jn_eq]
    have e8 : ∀ K, F_X8_who_L101 N (nI wh) (nI j) (nI k) (nI m) (nI (7 + 6 * kk + q)) K (n2 + 1) acc (nI c) (tU vM as f) = if r = 0 then F_X8_who_L101 N (nI wh) (nI j) (nI k) (nI m) (nI (7 + 6 * kk + q)) K n2 acc (nI (c + 1)) (tU vM as g) else F_X8_who_L101 N (nI wh) (nI j) (nI k) (nI m) (nI (7 + 6 * kk + q)) K n2 (acc ||| ((1 : Int32) <<< (nI c &&& 31))) (nI (c + 1)) (tU vM as g) := fun K => by
      rw [F_X8_who_L101]
      simp only [jn_eq]
      rw [selW hw]
      rw [if_neg hnl, chk_in (n := 55) (k := 7 + 6 * kk + q) (by omega) (by decide), nI_clamp (by omega), tU_u2, a2, bs, nI_1, or_0]
    rw [e5]
    by_cases z : r = 0
    · obtain ⟨y, w', g', d1, d2, d3⟩ := ih (c + 1) n n2 acc w g (by omega) (by omega) a4 (by omega) (by omega)
      exact ⟨y, w', g', by rw [if_pos z, d1], fun K => by rw [e8, if_pos z, d2], d3⟩
    · obtain ⟨y, w', g', d1, d2, d3⟩ := ih (c + 1) n n2 (acc ||| ((1 : Int32) <<< (nI c &&& 31))) w g (by omega) (by omega) a4 (by omega) (by omega)
      exact ⟨y, w', g', by rw [if_neg z, d1], fun K => by rw [e8, if_neg z, d2], d3⟩
theorem l_wants {N q j k m : Nat} (hN : 3000 ≤ N) (hj : j < 8) (hkm : k + m ≤ 40) (hm12 : m ≤ 12) {vS vM vE gW : SV} {as : Nat → Int32} {S : Sh} (hc : RC vS S) (hm : RM (vM 4) S) (hi : SInv 999 S) (hq : q < S.2.2.2.1) (ha : ∀ i, i < 55 → as i = vM 4 i) (hg : ∀ r i, r < 8 → i < 40 → gW r i = vM 3 (40 * r + i)) (he0 : vE 0 2 = nI m) (he : ∀ q, q < m → vE 1 q = gW j (k + q)) : ∀ d c n n2 acc vF f, c + d = 9 + 1 → 0 ≤ c → (∀ i, i < 55 → f i = vM 4 i) → d < n → d < n2 → ∃ y w g, F_X4_wantsThatFit_L5 N vS vE (nI q) n acc (nI c) vF = some (y, w) ∧ (∀ K, F_X8_wanted_L72 N (nI q) 0 (nI j) (nI k) (nI m) K n2 acc (nI c) (tU vM as f) = K y (tU vM as g)) ∧ ∀ i, i < 55 → g i = vM 4 i := by
  have h1 := hi.1
  have h6 := hi.2.1
  intro d
  induction d with
  | zero =>
    intro c n n2 acc vF f hcd hlo hf hn hn2
    obtain ⟨n, rfl⟩ : ∃ m, n = m + 1 := ⟨n - 1, by omega⟩
    obtain ⟨n2, rfl⟩ : ∃ m, n2 = m + 1 := ⟨n2 - 1, by omega⟩
    have hlt : (9 : Int32) < nI c := nI_lt (a := 9) (by omega) (by omega)
    refine ⟨acc, vF, f, by rw [F_X4_wantsThatFit_L5, if_pos hlt], fun K => ?_, hf⟩
    rw [F_X8_wanted_L72]
    simp only [jn_eq]
    rw [if_pos trivial]
    rw [if_pos hlt]
  | succ d ih =>
    intro c n n2 acc vF f hcd hlo hf hn hn2
    obtain ⟨n, rfl⟩ : ∃ m, n = m + 1 := ⟨n - 1, by omega⟩
    obtain ⟨n2, rfl⟩ : ∃ m, n2 = m + 1 := ⟨n2 - 1, by omega⟩
    have hnl : ¬ (9 : Int32) < nI c := nI_nlt (a := 9) (by omega) (by omega)
    have hsi := siR (j := q) (c := c) (k := 4) hi (by omega)
    have hrm := rmR (k := 4) (j := q) (b := 37) (x := nI c) (rm_cg hm hi hf) hi (by omega)
    have hrc := rcR (k := 4) (j := q) (x := nI c) (ovr_rc (v := vF) hc hi) (by omega)
    obtain ⟨r, w, g, a1, a2, a3, a4⟩ := p_so (as := as) hN hj hkm hm12 ha hg he0 he hrc hrm hsi
    have e5 : F_X4_wantsThatFit_L5 N vS vE (nI q) (n + 1) acc (nI c) vF = if r = 0 then F_X4_wantsThatFit_L5 N vS vE (nI q) n acc (nI (c + 1)) w else F_X4_wantsThatFit_L5 N vS vE (nI q) n (acc ||| ((1 : Int32) <<< (nI c &&& 31))) (nI (c + 1)) w := by
      rw [F_X4_wantsThatFit_L5, if_neg hnl, p_over, bs, chk_in (n := 6) (k := q) (by omega) (by decide), nI_clamp (n := q) (by omega), a1, bs, nI_1]
      simp only [jn_eq]
    have e8 : ∀ K, F_X8_wanted_L72 N (nI q) 0 (nI j) (nI k) (nI m) K (n2 + 1) acc (nI c) (tU vM as f) = if r = 0 then F_X8_wanted_L72 N (nI q) 0 (nI j) (nI k) (nI m) K n2 acc (nI (c + 1)) (tU vM as g) else F_X8_wanted_L72 N (nI q) 0 (nI j) (nI k) (nI m) K n2 (acc ||| ((1 : Int32) <<< (nI c &&& 31))) (nI (c + 1)) (tU vM as g) := fun K => by
      rw [F_X8_wanted_L72]
      simp only [jn_eq]
      rw [if_pos trivial]
      rw [if_neg hnl, if_pos trivial, show (37 : Int32) = nI 37 from rfl, nI_add, chk_in (n := 55) (k := 37 + q) (by omega) (by decide), nI_clamp (by omega), tU_u2, a2, bs, nI_1, or_0]
    rw [e5]
    by_cases z : r = 0
    · obtain ⟨y, w', g', d1, d2, d3⟩ := ih (c + 1) n n2 acc w g (by omega) (by omega) a4 (by omega) (by omega)
      exact ⟨y, w', g', by rw [if_pos z, d1], fun K => by rw [e8, if_pos z, d2], d3⟩
    · obtain ⟨y, w', g', d1, d2, d3⟩ := ih (c + 1) n n2 (acc ||| ((1 : Int32) <<< (nI c &&& 31))) w g (by omega) (by omega) a4 (by omega) (by omega)
      exact ⟨y, w', g', by rw [if_neg z, d1], fun K => by rw [e8, if_neg z, d2], d3⟩
theorem l_pati {N q j k m : Nat} (hN : 3000 ≤ N) (hj : j < 8) (hkm : k + m ≤ 40) (hm12 : m ≤ 12) {vS vM vE gW : SV} {as : Nat → Int32} {S : Sh} (hc : RC vS S) (hm : RM (vM 4) S) (hi : SInv 999 S) (hq : q < S.2.2.2.1) (ha : ∀ i, i < 55 → as i = vM 4 i) (hg : ∀ r i, r < 8 → i < 40 → gW r i = vM 3 (40 * r + i)) (he0 : vE 0 2 = nI m) (he : ∀ q, q < m → vE 1 q = gW j (k + q)) : ∀ d c n n2 acc vF f, c + d = 20 + 1 → 1 ≤ c → (∀ i, i < 55 → f i = vM 4 i) → d < n → d < n2 → ∃ y w g, F_X4_patienceThatFits_L5 N vS vE (nI q) n acc (nI c) vF = some (y, w) ∧ (∀ K, F_X8_wanted_L72 N (nI q) 1 (nI j) (nI k) (nI m) K n2 acc (nI c) (tU vM as f) = K y (tU vM as g)) ∧ ∀ i, i < 55 → g i = vM 4 i := by
  have h1 := hi.1
  have h6 := hi.2.1
  intro d
  induction d with
  | zero =>
    intro c n n2 acc vF f hcd hlo hf hn hn2
    obtain ⟨n, rfl⟩ : ∃ m, n = m + 1 := ⟨n - 1, by omega⟩
    obtain ⟨n2, rfl⟩ : ∃ m, n2 = m + 1 := ⟨n2 - 1, by omega⟩
    have hlt : (20 : Int32) < nI c := nI_lt (a := 20) (by omega) (by omega)
    refine ⟨acc, vF, f, by rw [F_X4_patienceThatFits_L5, if_pos hlt], fun K => ?_, hf⟩
    rw [F_X8_wanted_L72]
    simp only [jn_eq]
    rw [if_neg one0]
    rw [if_pos hlt]
  | succ d ih =>
    intro c n n2 acc vF f hcd hlo hf hn hn2
    obtain ⟨n, rfl⟩ : ∃ m, n = m + 1 := ⟨n - 1, by omega⟩
    obtain ⟨n2, rfl⟩ : ∃ m, n2 = m + 1 := ⟨n2 - 1, by omega⟩
    have hnl : ¬ (20 : Int32) < nI c := nI_nlt (a := 20) (by omega) (by omega)
    have hsi := siR (j := q) (c := c) (k := 5) hi (by omega)
    have hrm := rmR (k := 5) (j := q) (b := 43) (x := nI c) (rm_cg hm hi hf) hi (by omega)
    have hrc := rcR (k := 5) (j := q) (x := nI c) (ovr_rc (v := vF) hc hi) (by omega)
    obtain ⟨r, w, g, a1, a2, a3, a4⟩ := p_so (as := as) hN hj hkm hm12 ha hg he0 he hrc hrm hsi
    have e5 : F_X4_patienceThatFits_L5 N vS vE (nI q) (n + 1) acc (nI c) vF = if r = 0 then F_X4_patienceThatFits_L5 N vS vE (nI q) n acc (nI (c + 1)) w else F_X4_patienceThatFits_L5 N vS vE (nI q) n (acc ||| ((1 : Int32) <<< (nI c &&& 31))) (nI (c + 1)) w := by
      rw [F_X4_patienceThatFits_L5, if_neg hnl, p_over, bs, chk_in (n := 6) (k := q) (by omega) (by decide), nI_clamp (n := q) (by omega), a1, bs, nI_1]
      simp only [jn_eq]
    have e8 : ∀ K, F_X8_wanted_L72 N (nI q) 1 (nI j) (nI k) (nI m) K (n2 + 1) acc (nI c) (tU vM as f) = if r = 0 then F_X8_wanted_L72 N (nI q) 1 (nI j) (nI k) (nI m) K n2 acc (nI (c + 1)) (tU vM as g) else F_X8_wanted_L72 N (nI q) 1 (nI j) (nI k) (nI m) K n2 (acc ||| ((1 : Int32) <<< (nI c &&& 31))) (nI (c + 1)) (tU vM as g) := fun K => by
      rw [F_X8_wanted_L72]
      simp only [jn_eq]
      rw [if_neg one0]
      rw [if_neg hnl, if_neg one0, show (43 : Int32) = nI 43 from rfl, nI_add, chk_in (n := 55) (k := 43 + q) (by omega) (by decide), nI_clamp (by omega), tU_u2, a2, bs, nI_1, or_0]
    rw [e5]
    by_cases z : r = 0
    · obtain ⟨y, w', g', d1, d2, d3⟩ := ih (c + 1) n n2 acc w g (by omega) (by omega) a4 (by omega) (by omega)
      exact ⟨y, w', g', by rw [if_pos z, d1], fun K => by rw [e8, if_pos z, d2], d3⟩
    · obtain ⟨y, w', g', d1, d2, d3⟩ := ih (c + 1) n n2 (acc ||| ((1 : Int32) <<< (nI c &&& 31))) w g (by omega) (by omega) a4 (by omega) (by omega)
      exact ⟨y, w', g', by rw [if_neg z, d1], fun K => by rw [e8, if_neg z, d2], d3⟩
