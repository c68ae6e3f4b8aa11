/-! wander -/
def goneS (S : Sh) (m : Nat) : Sh := (S.1, fun a s => if a = 6 ∧ m.testBit s = true then 2 else S.2.1 a s, S.2.2.1, S.2.2.2.1, S.2.2.2.2)
theorem siG {B m : Nat} {S : Sh} (hi : SInv B S) : SInv B (goneS S m) := by
  obtain ⟨a1, a2, a3, a4, a5, a6, a7, a8, a9⟩ := hi
  have e : ∀ a i, ¬ a = 6 → (goneS S m).2.1 a i = S.2.1 a i := fun a i h => if_neg (fun z => h z.1)
  refine ⟨a1, a2, a3, a4, fun i hI => ?_, fun i hI => ?_, a7, a8, a9⟩
  · rw [e 0 i (by decide), e 1 i (by decide), e 2 i (by decide), e 3 i (by decide)]
    exact a5 i hI
  · obtain ⟨b1, b2, b3, b4⟩ := a6 i hI
    rw [e 4 i (by decide), e 5 i (by decide)]
    have e6 : (goneS S m).2.1 6 i = if m.testBit i = true then 2 else S.2.1 6 i := by
      show (if 6 = 6 ∧ m.testBit i = true then (2 : Int32) else S.2.1 6 i) = _
      by_cases z : m.testBit i = true
      · rw [if_pos (And.intro rfl z), if_pos z]
      · rw [if_neg (fun y => z y.2), if_neg z]
    rw [e6]
    by_cases z : m.testBit i = true
    · rw [if_pos z]; exact ⟨b1, b2, ⟨2, by omega, rfl⟩, fun h => absurd h (by decide)⟩
    · rw [if_neg z]; exact ⟨b1, b2, b3, b4⟩
theorem gone6 {S : Sh} {m i : Nat} : (goneS S m).2.1 6 i = if m.testBit i = true then 2 else S.2.1 6 i := by
  show (if 6 = 6 ∧ m.testBit i = true then (2 : Int32) else S.2.1 6 i) = _
  by_cases z : m.testBit i = true
  · rw [if_pos (And.intro rfl z), if_pos z]
  · rw [if_neg (fun y => z y.2), if_neg z]
theorem gone_n {S : Sh} {m a i : Nat} (h : ¬ a = 6) : (goneS S m).2.1 a i = S.2.1 a i := if_neg (fun z => h z.1)
theorem l_goneC {N T m : Nat} (hT : T ≤ 6) (hm : m < 64) {vS vE : SV} {x3 : Int32} : ∀ d s n v, s + d = T → v 0 3 = nI T → d < n → ∃ w, (∀ K, F_X4_clappedWithout_L11 N vS vE (nI m) x3 K n (nI s) v = K w) ∧ (∀ k, ¬ k = 7 → w k = v k) ∧ ∀ q, w 7 q = if s ≤ q ∧ q < T ∧ m.testBit q = true then 2 else v 7 q := by
  intro d
  induction d with
  | zero =>
    intro s n v hs h3 hn
    obtain ⟨n, rfl⟩ : ∃ m, n = m + 1 := ⟨n - 1, by omega⟩
    refine ⟨v, fun K => ?_, fun _ _ => rfl, fun q => (if_neg (fun z => by have := z.1; have := z.2.1; omega)).symm⟩
    rw [F_X4_clappedWithout_L11, h3, if_neg (nI_nlt (by omega) (by omega))]
  | succ d ih =>
    intro s n v hs h3 hn
    obtain ⟨n, rfl⟩ : ∃ m, n = m + 1 := ⟨n - 1, by omega⟩
    have hT2 : s < T := by omega
    have e : ∀ K, F_X4_clappedWithout_L11 N vS vE (nI m) x3 K (n + 1) (nI s) v = if m.testBit s = true then F_X4_clappedWithout_L11 N vS vE (nI m) x3 K n (nI (s + 1)) (up2 v 7 s 2) else F_X4_clappedWithout_L11 N vS vE (nI m) x3 K n (nI (s + 1)) v := fun K => by
      rw [F_X4_clappedWithout_L11, h3, if_pos (nI_lt (by omega) (by omega)), nI_1]
      simp only [jn_eq]
      rw [chk_in (n := 6) (k := s) (by omega) (by decide), nI_clamp (by omega)]
      by_cases z : m.testBit s = true
      · rw [if_pos z, if_pos ((bit_has hm (by omega)).mpr z)]
      · rw [if_neg z, if_neg (fun y => z ((bit_has hm (by omega)).mp y))]
    by_cases z : m.testBit s = true
    · obtain ⟨w, f1, f2, f3⟩ := ih (s + 1) n (up2 v 7 s 2) (by omega) h3 (by omega)
      refine ⟨w, fun K => by rw [e, if_pos z, f1], fun k h => by rw [f2 k h, up2_k h], fun q => ?_⟩
      rw [f3 q]
      show (if s + 1 ≤ q ∧ q < T ∧ m.testBit q = true then 2 else upd (v 7) s 2 q) = _
      by_cases w : q = s
      · subst w
        have hq1 : ¬ q + 1 ≤ q := by omega
        rw [upd_s]
        simp [z, hT2]
      · simp only [upd_n w, stepP w]
    · obtain ⟨w, f1, f2, f3⟩ := ih (s + 1) n v (by omega) h3 (by omega)
      refine ⟨w, fun K => by rw [e, if_neg z, f1], f2, fun q => ?_⟩
      rw [f3 q]
      by_cases w : q = s
      · subst w
        simp [z]
      · simp only [stepP w]
def fac (wm m p i : Nat) : Nat := if wm.testBit i = true then (if m.testBit i = true then p else 10 - p) else 1
def pPr (wm m p : Nat) : Nat → Nat
  | 0 => 1
  | n + 1 => pPr wm m p n * fac wm m p n
theorem l_goneM {N T m wm p : Nat} (hT : T ≤ 6) (hm : m < 64) (hw : wm < 64) (hp : p ≤ 10) {vM : SV} {as : Nat → Int32} {x1 x2 x4 : Int32} {x6 x8 : Int64} : ∀ d s n f, s + d = T → f 3 = nI T → d < n → ∃ g, (∀ K, F_X8_wander_L144 N x1 x2 (nI p) x4 (nI wm) x6 x8 (nI m) K n (lN (pPr wm m p s)) (nI s) (tU vM as f) = K (lN (pPr wm m p T)) (tU vM as g)) ∧ (∀ i, i < 49 → g i = f i) ∧ ∀ q, q < 6 → g (49 + q) = if s ≤ q ∧ q < T ∧ m.testBit q = true then 2 else f (49 + q) := by
  intro d
  induction d with
  | zero =>
    intro s n f hs h3 hn
    obtain ⟨n, rfl⟩ : ∃ m, n = m + 1 := ⟨n - 1, by omega⟩
    have es : s = T := by omega
    subst es
    refine ⟨f, fun K => ?_, fun _ _ => rfl, fun q _ => (if_neg (fun z => by have := z.1; have := z.2.1; omega)).symm⟩
    rw [F_X8_wander_L144, k3, t3, show (tU vM as f) 4 3 = nI s from h3, if_neg (nI_nlt (by omega) (by omega))]
  | succ d ih =>
    intro s n f hs h3 hn
    obtain ⟨n, rfl⟩ : ∃ m, n = m + 1 := ⟨n - 1, by omega⟩
    have hT2 : s < T := by omega
    have ef : lN (pPr wm m p s) * lN (fac wm m p s) = lN (pPr wm m p (s + 1)) := by rw [lN_mul]; rfl
    have e : ∀ K, F_X8_wander_L144 N x1 x2 (nI p) x4 (nI wm) x6 x8 (nI m) K (n + 1) (lN (pPr wm m p s)) (nI s) (tU vM as f) = F_X8_wander_L144 N x1 x2 (nI p) x4 (nI wm) x6 x8 (nI m) K n (lN (pPr wm m p (s + 1))) (nI (s + 1)) (tU vM as (upd f (49 + s) (if m.testBit s = true then 2 else f (49 + s)))) := fun K => by
      rw [← ef, F_X8_wander_L144, k3, t3, show (tU vM as f) 4 3 = nI T from h3, if_pos (nI_lt (by omega) (by omega)), p_has N hw (by omega), bs, nI_1, show (49 : Int32) = nI 49 from rfl, nI_add]
      simp only [jn_eq]
      rw [p_has N hm (by omega), bs, bs, bs, bs, chk_in (n := 55) (k := 49 + s) (by omega) (by decide), nI_clamp (by omega), show (10 : Int32) - nI p = nI (10 - p) from pk_sub (a := 10) hp, nI_l (by omega), nI_l (by omega), tU_u2, tU_u2, show (tU vM as f) 4 (49 + s) = f (49 + s) from rfl]
      simp only [chk_in (n := 55) (k := 49 + s) (show 49 + s < 55 by omega) (show 55 < 2 ^ 31 by decide)]
      unfold fac
      by_cases z : wm.testBit s = true
      · by_cases y : m.testBit s = true
        · simp only [if_pos z, if_pos y, if_neg one0]
        · simp only [if_pos z, if_neg y, if_neg one0, if_true]
      · by_cases y : m.testBit s = true
        · simp only [if_neg z, if_pos y, if_neg one0, if_true]
          rfl
        · simp only [if_neg z, if_neg y, if_true]
          rfl
    obtain ⟨g, g1, g2, g3⟩ := ih (s + 1) n (upd f (49 + s) (if m.testBit s = true then 2 else f (49 + s))) (by omega) (by rw [upd_n (by omega)]; exact h3) (by omega)
    refine ⟨g, fun K => by rw [e, g1], fun i hi => by rw [g2 i hi, upd_n (by omega)], fun q hq => ?_⟩
    rw [g3 q hq]
    by_cases w : q = s
    · subst w
      have hq1 : ¬ q + 1 ≤ q := by omega
      rw [upd_s]
      by_cases z : m.testBit q = true
      · simp [z, hT2]
      · simp [z]
    · simp only [upd_n (show ¬ 49 + q = 49 + s by omega), stepP w]
theorem p_cw {N m n0 p wm : Nat} (hN : 3000 ≤ N) (h60 : n0 ≤ 60) (hm : m < 64) (hw : wm < 64) (hp : p ≤ 10) {vS vE vM : SV} {as : Nat → Int32} {S : Sh} {x1 x2 x4 : Int32} {x6 x8 : Int64} (hc : RC vS S) (hi : SInv 999 S) (vF : SV) {f : Nat → Int32} (hf : RM f S) : ∃ cl w g1 g, F_X4_clappedWithout N vS vE vF (nI m) (nI n0) = some (cl, w) ∧ (∀ K, F_X8_wander_L144 N x1 x2 (nI p) x4 (nI wm) x6 x8 (nI m) K N (1 : Int64) (0 : Int32) (tU vM as f) = K (lN (pPr wm m p S.2.2.2.1)) (tU vM as g1)) ∧ F_X8_goOn N (tU vM as g1) (nI n0) = some (tU vM as g) ∧ g 5 = cl := by
  have h1 := hi.1
  have h6 := hi.2.1
  have hl := len6 hi
  obtain ⟨w, a1, a2, a3⟩ := l_goneC (N := N) (vS := vS) (vE := vE) (x3 := nI n0) h6 hm S.2.2.2.1 0 N (ovr vF vS) (by omega) (ovr_rc hc hi).2.2.2.1 (by omega)
  obtain ⟨g1, b1, b2, b3⟩ := l_goneM (N := N) (vM := vM) (as := as) (x1 := x1) (x2 := x2) (x4 := x4) (x6 := x6) (x8 := x8) h6 hm hw hp S.2.2.2.1 0 N f (by omega) hf.2.2.2.1 (by omega)
  have rc : RC w (goneS S m) := by
    obtain ⟨c0, c1, c2, c3, c4, c5, c6, c7, c8, c9⟩ := ovr_rc (v := vF) hc hi
    have w0 := a2 0 (by decide)
    refine ⟨by rw [w0]; exact c0, by rw [w0]; exact c1, by rw [w0]; exact c2, by rw [w0]; exact c3, by rw [w0]; exact c4, by rw [w0]; exact c5, by rw [w0]; exact c6, fun i hI => ?_, fun i hI => ?_, fun i hI => by rw [a2 8 (by decide)]; exact c9 i hI⟩
    · rw [a2 1 (by decide), a2 2 (by decide), a2 3 (by decide), a2 4 (by decide), gone_n (by decide), gone_n (by decide), gone_n (by decide), gone_n (by decide)]
      exact c7 i hI
    · obtain ⟨d1, d2, d3⟩ := c8 i hI
      have hI : i < S.2.2.2.1 := hI
      rw [a2 5 (by decide), a2 6 (by decide), a3 i, gone_n (by decide), gone_n (by decide), gone6, d3]
      refine ⟨d1, d2, ?_⟩
      by_cases z : m.testBit i = true
      · rw [if_pos z, if_pos (And.intro (Nat.zero_le _) (And.intro hI z))]
      · rw [if_neg z, if_neg (fun y => z y.2.2)]
  have rm : RM g1 (goneS S m) := by
    obtain ⟨c0, c1, c2, c3, c4, c5, c6, c7, c8, c9⟩ := hf
    refine ⟨(b2 0 (by omega)).trans c0, (b2 1 (by omega)).trans c1, (b2 2 (by omega)).trans c2, (b2 3 (by omega)).trans c3, (b2 6 (by omega)).trans c4, (b2 4 (by omega)).trans c5, (b2 5 (by omega)).trans c6, fun i hI => ?_, fun i hI => ?_, fun i hI => ?_⟩
    · have hI : i < S.2.2.1 := hI
      rw [b2 _ (by omega), b2 _ (by omega), b2 _ (by omega), b2 _ (by omega), gone_n (by decide), gone_n (by decide), gone_n (by decide), gone_n (by decide)]
      exact c7 i hI
    · have hI : i < S.2.2.2.1 := hI
      obtain ⟨d1, d2, d3⟩ := c8 i hI
      rw [b2 _ (by omega), b2 _ (by omega), b3 i (by omega), gone_n (by decide), gone_n (by decide), gone6, d3]
      refine ⟨d1, d2, ?_⟩
      by_cases z : m.testBit i = true
      · rw [if_pos z, if_pos (And.intro (Nat.zero_le _) (And.intro hI z))]
      · rw [if_neg z, if_neg (fun y => z y.2.2)]
    · have hI : i < S.2.2.2.2.length := hI
      rw [b2 _ (by omega)]
      exact c9 i hI
  obtain ⟨w', S1, g, S2, d1, d2, d3, d4, d5, d6, d7, -⟩ := p_while hN h60 rc (vM := tU vM as g1) rm (siG hi)
  rw [tU_up] at d3
  refine ⟨w' 0 6, w', g1, g, ?_, b1, d3, ?_⟩
  · unfold F_X4_clappedWithout
    rw [p_over, bs, show ∀ K, F_X4_clappedWithout_L11 N vS vE (nI m) (nI n0) K N (0 : Int32) (ovr vF vS) = K w from a1, d1]
    rfl
  · rw [d4.2.2.2.2.2.2.1, d2.2.2.2.2.2.2.1, d7.2.2.1]
theorem l_pow {N b e : Nat} (hb : b ≤ 10) (he : e ≤ 6) : ∀ d i n a, i + d = e → d < n → ∀ K, F_X4_power_L5 N (nI b) (nI e) K n (lN a) (nI i) = K (lN (a * b ^ d)) := by
  intro d
  induction d with
  | zero =>
    intro i n a hi hn K
    obtain ⟨n, rfl⟩ : ∃ m, n = m + 1 := ⟨n - 1, by omega⟩
    rw [F_X4_power_L5, if_neg (nI_nlt (by omega) (by omega)), Nat.pow_zero, Nat.mul_one]
  | succ d ih =>
    intro i n a hi hn K
    obtain ⟨n, rfl⟩ : ∃ m, n = m + 1 := ⟨n - 1, by omega⟩
    rw [F_X4_power_L5, if_pos (nI_lt (by omega) (by omega)), nI_l (by omega), lN_mul, nI_1, ih (i + 1) n (a * b) (by omega) (by omega), Nat.pow_succ, Nat.mul_assoc, Nat.mul_comm b]
theorem p_pow {N b e : Nat} (hN : 3000 ≤ N) (hb : b ≤ 10) (he : e ≤ 6) : F_X4_power N (nI b) (nI e) = some (lN (b ^ e)) := by
  unfold F_X4_power
  rw [show ∀ K, F_X4_power_L5 N (nI b) (nI e) K N (1 : Int64) (0 : Int32) = K (lN (1 * b ^ e)) from l_pow hb he e 0 N 1 (by omega) (by omega), Nat.one_mul]
theorem cnt_ext {p : Nat → Bool} {T : Nat} : ∀ d, (∀ i, T ≤ i → i < T + d → p i = false) → cntP p (T + d) = cntP p T
  | 0, _ => rfl
  | d + 1, h => by
    show cntP p (T + d + 1) = _
    rw [cntP, cnt_ext d (fun i a b => h i a (by omega)), h (T + d) (by omega) (by omega)]
    rfl
theorem pPr_eq {wm m p : Nat} : ∀ n, pPr wm m p n = p ^ cntP (fun i => wm.testBit i && m.testBit i) n * (10 - p) ^ cntP (fun i => wm.testBit i && !m.testBit i) n
  | 0 => by rw [pPr, cntP, cntP]; rfl
  | n + 1 => by
    rw [pPr, cntP, cntP, pPr_eq n]
    unfold fac
    by_cases z : wm.testBit n = true
    · by_cases y : m.testBit n = true
      · rw [z, y]
        simp only [Bool.and_self, Bool.not_true, Bool.and_false, Bool.false_eq_true, if_true, if_false, Nat.add_zero, Nat.pow_succ]
        rw [Nat.mul_right_comm]
      · rw [z, show m.testBit n = false by simpa using y]
        simp only [Bool.and_false, Bool.not_false, Bool.and_self, Bool.false_eq_true, if_true, if_false, Nat.add_zero, Nat.pow_succ, Nat.mul_assoc]
    · rw [show wm.testBit n = false by simpa using z]
      simp only [Bool.false_and, Bool.false_eq_true, if_false, Nat.add_zero, Nat.mul_one]
theorem sub_tab : ∀ m, m < 64 → ∀ s, s < 64 → (nI s &&& (nI m ^^^ (-1 : Int32))) = 0 → ∀ q, q < 6 → s.testBit q = true → m.testBit q = true := by decide +kernel
theorem part_eq {T wm m p : Nat} (hT : T ≤ 6) (hw : wm < 64) (hm : m < 64) (hb : ∀ q, T ≤ q → q < 6 → wm.testBit q = false) (hs : (nI m &&& (nI wm ^^^ (-1 : Int32))) = 0) : pPr wm m p T = p ^ popc m * (10 - p) ^ (popc wm - popc m) ∧ popc m ≤ popc wm := by
  have h1 : cntP (fun i => wm.testBit i && m.testBit i) T = popc m := by
    unfold popc
    rw [show (6 : Nat) = T + (6 - T) from by omega, cnt_ext (6 - T) (fun i a b => by
      by_cases y : m.testBit i = true
      · have := sub_tab wm hw m hm hs i (by omega) y
        rw [hb i a (by omega)] at this
        exact absurd this (by decide)
      · simpa using y)]
    refine cntP_cg (fun i hi => ?_)
    by_cases y : m.testBit i = true
    · rw [y, sub_tab wm hw m hm hs i (by omega) y]; rfl
    · rw [show m.testBit i = false by simpa using y, Bool.and_false]
  have h2 : cntP (fun i => wm.testBit i) T = popc wm := by
    unfold popc
    rw [show (6 : Nat) = T + (6 - T) from by omega, cnt_ext (6 - T) (fun i a b => hb i a (by omega))]
  have h3 : cntP (fun i => wm.testBit i) T = cntP (fun i => wm.testBit i && m.testBit i) T + cntP (fun i => wm.testBit i && !m.testBit i) T := cnt_add (fun i _ => by
    by_cases z : wm.testBit i = true
    · by_cases y : m.testBit i = true
      · rw [z, y]; exact Or.inl ⟨rfl, rfl, rfl⟩
      · rw [z, show m.testBit i = false by simpa using y]; exact Or.inr (Or.inl ⟨rfl, rfl, rfl⟩)
    · rw [show wm.testBit i = false by simpa using z]; exact Or.inr (Or.inr ⟨rfl, rfl, rfl⟩))
  rw [pPr_eq, h1, show cntP (fun i => wm.testBit i && !m.testBit i) T = popc wm - popc m from by omega]
  exact ⟨rfl, by omega⟩
theorem l_below {N T wm : Nat} (hT : T ≤ 6) (hw : wm < 64) {v : SV} {x1 x2 x3 x4 : Int32} {x6 : Int64} (h3 : v 4 3 = nI T) : ∀ d s n, s + d = T → d < n → ∀ K, F_X8_wander_L79 N v x1 x2 x3 x4 (nI wm) x6 K n (lN (10 ^ cntP (fun i => wm.testBit i) s)) (nI s) = K (lN (10 ^ cntP (fun i => wm.testBit i) T)) := by
  intro d
  induction d with
  | zero =>
    intro s n hs hn K
    obtain ⟨n, rfl⟩ : ∃ m, n = m + 1 := ⟨n - 1, by omega⟩
    have es : s = T := by omega
    subst es
    rw [F_X8_wander_L79, k3, t3, h3, if_neg (nI_nlt (by omega) (by omega))]
  | succ d ih =>
    intro s n hs hn K
    obtain ⟨n, rfl⟩ : ∃ m, n = m + 1 := ⟨n - 1, by omega⟩
    have ih' := ih (s + 1) n (by omega) (by omega) K
    rw [cntP] at ih'
    rw [F_X8_wander_L79, k3, t3, h3, if_pos (nI_lt (by omega) (by omega)), p_has N hw (by omega), bs, nI_1]
    simp only [jn_eq]
    by_cases z : wm.testBit s = true
    · rw [if_pos z] at ih' ⊢
      rw [if_neg one0, show (10 : Int64) = lN 10 from rfl, lN_mul, ← Nat.pow_succ]
      exact ih'
    · rw [if_neg z] at ih' ⊢
      rw [if_pos rfl, show (1 : Int64) = lN 1 from rfl, lN_mul, Nat.mul_one]
      exact ih'
theorem lg0 {b : Nat} (hb : b < 2 ^ 62) : (0 < lg_cmp (lN b) 0 ↔ 0 < b) ∧ (lg_cmp (lN b) 0 = 0 ↔ b = 0) := by
  have h1 : 0 < lg_cmp (lN b) 0 ↔ 0 < b := by
    rw [lgc_gt, pk_lT (by omega)]
    show (0 : Int) < b ↔ _
    omega
  refine ⟨h1, ?_⟩
  constructor
  · intro h
    by_cases z : b = 0
    · exact z
    · have := h1.mpr (by omega)
      rw [h] at this
      exact absurd this (by decide)
  · intro h
    rw [h]
    decide
theorem l_gcd {N : Nat} {v : SV} {x4 : Int32} {x6 x8 : Int64} : ∀ k s n n2 a b, b < 2 ^ k → b < 2 ^ 62 → a < 2 ^ 62 → s + 2 * k + 1 ≤ 1000 → 2 * k + 1 < n → 2 * k + 1 < n2 → ∃ g, (∀ K, F_X4_commonDivisor_L9 N K n (lN a) (lN b) (nI s) = K (lN g)) ∧ (∀ K, F_X8_wander_L278 N v x4 x6 x8 K n2 (lN a) (lN b) = K (lN g)) ∧ g < 2 ^ 62 ∧ (0 < a ∨ 0 < b → 0 < g) := by
  have base : ∀ s n n2 a, a < 2 ^ 62 → s + 1 ≤ 1000 → 0 < n → 0 < n2 → (∀ K, F_X4_commonDivisor_L9 N K n (lN a) (lN 0) (nI s) = K (lN a)) ∧ (∀ K, F_X8_wander_L278 N v x4 x6 x8 K n2 (lN a) (lN 0) = K (lN a)) := by
    intro s n n2 a ha hs hn hn2
    obtain ⟨n, rfl⟩ : ∃ m, n = m + 1 := ⟨n - 1, by omega⟩
    obtain ⟨n2, rfl⟩ : ∃ m, n2 = m + 1 := ⟨n2 - 1, by omega⟩
    refine ⟨fun K => ?_, fun K => ?_⟩
    · rw [F_X4_commonDivisor_L9, if_pos (show nI s < (1000 : Int32) from nI_lt (b := 1000) (by omega) (by decide)), if_neg (fun z => by have := (lg0 (b := 0) (by omega)).1.mp z; omega)]
    · rw [F_X8_wander_L278, if_pos ((lg0 (b := 0) (by omega)).2.mpr rfl)]
  have step : ∀ s n n2 a b, 0 < b → a < 2 ^ 62 → b < 2 ^ 62 → s < 1000 → (∀ K, F_X4_commonDivisor_L9 N K (n + 1) (lN a) (lN b) (nI s) = F_X4_commonDivisor_L9 N K n (lN b) (lN (a % b)) (nI (s + 1))) ∧ (∀ K, F_X8_wander_L278 N v x4 x6 x8 K (n2 + 1) (lN a) (lN b) = F_X8_wander_L278 N v x4 x6 x8 K n2 (lN b) (lN (a % b))) := by
    intro s n n2 a b hb ha hb2 hs
    have nz : ∀ {β : Type} {o : Option β}, nzl (lN b) o = o := fun {β o} => by
      unfold nzl
      rw [if_neg (fun z => by
        have := (pk_lEQ (a := b) (b := 0) (by omega) (by omega)).mp z
        omega)]
    refine ⟨fun K => ?_, fun K => ?_⟩
    · rw [F_X4_commonDivisor_L9, if_pos (show nI s < (1000 : Int32) from nI_lt (b := 1000) (by omega) (by decide)), if_pos ((lg0 hb2).1.mpr hb), nz, pk_lRem (by omega) hb (by omega), nI_1]
    · rw [F_X8_wander_L278, if_neg (fun z => by have := (lg0 hb2).2.mp z; omega), nz, pk_lRem (by omega) hb (by omega)]
  intro k
  induction k with
  | zero =>
    intro s n n2 a b hb hb2 ha hs hn hn2
    have e : b = 0 := by omega
    subst e
    obtain ⟨c1, c2⟩ := base s n n2 a ha (by omega) (by omega) (by omega)
    exact ⟨a, c1, c2, ha, fun h => by omega⟩
  | succ k ih =>
    intro s n n2 a b hb hb2 ha hs hn hn2
    by_cases z : b = 0
    · subst z
      obtain ⟨c1, c2⟩ := base s n n2 a ha (by omega) (by omega) (by omega)
      exact ⟨a, c1, c2, ha, fun h => by omega⟩
    · obtain ⟨n, rfl⟩ : ∃ m, n = m + 2 := ⟨n - 2, by omega⟩
      obtain ⟨n2, rfl⟩ : ∃ m, n2 = m + 2 := ⟨n2 - 2, by omega⟩
      obtain ⟨s1, s2⟩ := step s (n + 1) (n2 + 1) a b (by omega) ha hb2 (by omega)
      have hr := Nat.mod_lt a (show 0 < b by omega)
      by_cases y : a % b = 0
      · obtain ⟨c1, c2⟩ := base (s + 1) (n + 1) (n2 + 1) b hb2 (by omega) (by omega) (by omega)
        rw [y] at s1 s2
        exact ⟨b, fun K => by rw [s1, c1], fun K => by rw [s2, c2], hb2, fun _ => by omega⟩
      · obtain ⟨t1, t2⟩ := step (s + 1) n n2 b (a % b) (by omega) hb2 (by omega) (by omega)
        have h2k : 2 ^ (k + 1) = 2 * 2 ^ k := by rw [Nat.pow_succ, Nat.mul_comm]
        have hq : b % (a % b) < 2 ^ k := by
          have q1 := Nat.mod_lt b (show 0 < a % b by omega)
          have q2 := Nat.div_add_mod b (a % b)
          have q3 : 1 ≤ b / (a % b) := (Nat.one_le_div_iff (by omega)).mpr (by omega)
          have q4 : a % b * 1 ≤ a % b * (b / (a % b)) := Nat.mul_le_mul_left _ q3
          omega
        obtain ⟨g, g1, g2, g3, g4⟩ := ih (s + 1 + 1) n n2 (a % b) (b % (a % b)) hq (by have := Nat.mod_le b (a % b); omega) (by omega) (by omega) (by omega) (by omega)
        exact ⟨g, fun K => by rw [s1, t1, g1], fun K => by rw [s2, t2, g2], g3, fun _ => g4 (Or.inl (by omega))⟩
theorem l_likely {N n0 p wm : Nat} (hN : 3000 ≤ N) (h60 : n0 ≤ 60) (hw : wm < 64) (hp : p ≤ 10) {vS vE vM : SV} {as : Nat → Int32} {S : Sh} {xk x4 : Int32} {x8 : Int64} (hc : RC vS S) (hm : RM (vM 4) S) (hi : SInv 999 S) (ha : ∀ i, i < 55 → as i = vM 4 i) (hb : ∀ q, S.2.2.2.1 ≤ q → q < 6 → wm.testBit q = false) : ∀ d s n n2 acc vF f, s + d = wm + 1 → (∀ i, i < 55 → f i = vM 4 i) → d < n → d < n2 → ∃ acc' w g, (∀ K, F_X4_likelyCases_L13 N vS vE xk (nI n0) (nI p) (nI wm) K n (lN acc) (nI s) vF = K (lN acc') w) ∧ (∀ K, F_X8_wander_L121 N xk (nI n0) (nI p) x4 (nI wm) x8 K n2 (lN acc) (nI s) (tU vM as f) = K (lN acc') (tU vM as g)) ∧ (∀ i, i < 55 → g i = vM 4 i) ∧ acc' ≤ acc + d * 1000000 := by
  have h6 := hi.2.1
  intro d
  induction d with
  | zero =>
    intro s n n2 acc vF f hs hf hn hn2
    obtain ⟨n, rfl⟩ : ∃ m, n = m + 1 := ⟨n - 1, by omega⟩
    obtain ⟨n2, rfl⟩ : ∃ m, n2 = m + 1 := ⟨n2 - 1, by omega⟩
    have hlt : nI wm < nI s := nI_lt (by omega) (by omega)
    exact ⟨acc, vF, f, fun K => by rw [F_X4_likelyCases_L13, if_pos hlt], fun K => by rw [F_X8_wander_L121, if_pos hlt], hf, by omega⟩
  | succ d ih =>
    intro s n n2 acc vF f hs hf hn hn2
    obtain ⟨n, rfl⟩ : ∃ m, n = m + 1 := ⟨n - 1, by omega⟩
    obtain ⟨n2, rfl⟩ : ∃ m, n2 = m + 1 := ⟨n2 - 1, by omega⟩
    have hnl : ¬ nI wm < nI s := nI_nlt (by omega) (by omega)
    have hs64 : s < 64 := by omega
    by_cases z : (nI s &&& (nI wm ^^^ (-1 : Int32))) = 0
    · obtain ⟨pe, pl⟩ := part_eq (p := p) h6 hw hs64 hb z
      have hl1 := popc_le s
      have hl2 := popc_le wm
      have hW : p ^ popc s * (10 - p) ^ (popc wm - popc s) ≤ 1000000 := by
        have q1 : p ^ popc s ≤ 10 ^ popc s := Nat.pow_le_pow_left hp _
        have q2 : (10 - p) ^ (popc wm - popc s) ≤ 10 ^ (popc wm - popc s) := Nat.pow_le_pow_left (by omega) _
        calc p ^ popc s * (10 - p) ^ (popc wm - popc s) ≤ 10 ^ popc s * 10 ^ (popc wm - popc s) := Nat.mul_le_mul q1 q2
          _ = 10 ^ (popc s + (popc wm - popc s)) := by rw [Nat.pow_add]
          _ ≤ 10 ^ 6 := Nat.pow_le_pow_right (by omega) (by omega)
      generalize hWd : p ^ popc s * (10 - p) ^ (popc wm - popc s) = W at hW pe
      obtain ⟨cl, w, g1, g, c1, c2, c3, c4⟩ := p_cw (N := N) (m := s) (n0 := n0) (p := p) (wm := wm) (vE := vE) (vM := vM) (as := as) (x1 := xk) (x2 := nI n0) (x4 := x4) (x6 := lN acc) (x8 := x8) hN h60 hs64 hw hp hc hi vF (rm_cg hm hi hf)
      obtain ⟨f', b1, b2⟩ := p_tb hN ha g
      have e5 : ∀ K, F_X4_likelyCases_L13 N vS vE xk (nI n0) (nI p) (nI wm) K (n + 1) (lN acc) (nI s) vF = if 0 < W then (if cl < xk then F_X4_likelyCases_L13 N vS vE xk (nI n0) (nI p) (nI wm) K n (lN acc) (nI (s + 1)) w else F_X4_likelyCases_L13 N vS vE xk (nI n0) (nI p) (nI wm) K n (lN (acc + W)) (nI (s + 1)) w) else F_X4_likelyCases_L13 N vS vE xk (nI n0) (nI p) (nI wm) K n (lN acc) (nI (s + 1)) vF := fun K => by
        rw [F_X4_likelyCases_L13, if_neg hnl, nI_1]
        simp only [jn_eq]
        rw [if_pos z, p_bc N hs64, bs, p_bc N hw, bs, p_pow hN hp (by omega), bs, show (10 : Int32) - nI p = nI (10 - p) from pk_sub (a := 10) hp, pk_sub pl, p_pow hN (by omega) (by omega), bs, lN_mul, hWd, c1, bs, lN_add]
        by_cases y : 0 < W
        · rw [if_pos y, if_pos ((lg0 (by omega)).1.mpr y)]
        · rw [if_neg y, if_neg (fun q => y ((lg0 (by omega)).1.mp q))]
      have e8 : ∀ K, F_X8_wander_L121 N xk (nI n0) (nI p) x4 (nI wm) x8 K (n2 + 1) (lN acc) (nI s) (tU vM as f) = if cl < xk then F_X8_wander_L121 N xk (nI n0) (nI p) x4 (nI wm) x8 K n2 (lN acc) (nI (s + 1)) (tU vM as f') else F_X8_wander_L121 N xk (nI n0) (nI p) x4 (nI wm) x8 K n2 (lN (acc + W)) (nI (s + 1)) (tU vM as f') := fun K => by
        rw [F_X8_wander_L121, if_neg hnl, nI_1]
        simp only [jn_eq]
        rw [if_pos z, c2, c3, bs, k5, t5, show (tU vM as g) 4 5 = cl from c4, b1, bs, bs, pe, lN_add, show (0 : Int64) = lN 0 from rfl, lN_add, Nat.add_zero]
      by_cases y : 0 < W
      · by_cases x : cl < xk
        · obtain ⟨acc', w', g', d1, d2, d3, d4⟩ := ih (s + 1) n n2 acc w f' (by omega) b2 (by omega) (by omega)
          exact ⟨acc', w', g', fun K => by rw [e5, if_pos y, if_pos x, d1], fun K => by rw [e8, if_pos x, d2], d3, Nat.le_trans d4 (Nat.add_le_add_left (Nat.mul_le_mul_right _ (Nat.le_succ d)) _)⟩
        · obtain ⟨acc', w', g', d1, d2, d3, d4⟩ := ih (s + 1) n n2 (acc + W) w f' (by omega) b2 (by omega) (by omega)
          exact ⟨acc', w', g', fun K => by rw [e5, if_pos y, if_neg x, d1], fun K => by rw [e8, if_neg x, d2], d3, by omega⟩
      · have hW0 : W = 0 := by omega
        obtain ⟨acc', w', g', d1, d2, d3, d4⟩ := ih (s + 1) n n2 acc vF f' (by omega) b2 (by omega) (by omega)
        refine ⟨acc', w', g', fun K => by rw [e5, if_neg y, d1], fun K => ?_, d3, Nat.le_trans d4 (Nat.add_le_add_left (Nat.mul_le_mul_right _ (Nat.le_succ d)) _)⟩
        rw [e8, hW0]
        by_cases x : cl < xk
        · rw [if_pos x, d2]
        · rw [if_neg x]
          exact d2 K
    · obtain ⟨acc', w', g', d1, d2, d3, d4⟩ := ih (s + 1) n n2 acc vF f (by omega) hf (by omega) (by omega)
      refine ⟨acc', w', g', fun K => ?_, fun K => ?_, d3, Nat.le_trans d4 (Nat.add_le_add_left (Nat.mul_le_mul_right _ (Nat.le_succ d)) _)⟩
      · rw [F_X4_likelyCases_L13, if_neg hnl, nI_1]
        simp only [jn_eq]
        rw [if_neg z, d1]
      · rw [F_X8_wander_L121, if_neg hnl, nI_1]
        simp only [jn_eq]
        rw [if_neg z, d2]
theorem st_wander {N : Nat} (hN : 3000 ≤ N) : St_wander N Rel := by
  intro vR vW vT vS vD vA vI vJ vE vF vP vQ vK vM gW gA gL x1 x2 x3 x4 hrel
  obtain ⟨S, hc, hm, hi, hs⟩ := hrel.2.2.2.1
  have h6 := hi.2.1
  rcases no_show (N := N) (vR := vR) hc hi.1 hs with ⟨a, b⟩ | ⟨a, b, hp⟩
  · exact ⟨(-1000002, vF), (-1000002, vM), by unfold F_X7_wander; rw [a]; rfl, by unfold F_X8_wander; rw [b]; rfl, rfl, hrel⟩
  rcases rg (N := N) (l := 0) (h := 999) 0 999 rfl rfl (b := 0) (c := 999) rfl rfl (by omega) (by omega) x1 with ⟨c, d⟩ | ⟨c, d, e⟩ | ⟨k, -, -, -, c, d, e⟩
  · exact ⟨(-1000001, vF), (-1000001, vM), by unfold F_X7_wander; rw [a, bs, if_pos rfl, if_pos c], by unfold F_X8_wander; rw [b, if_neg one0, d]; rfl, rfl, hrel⟩
  · exact ⟨(-1000001, vF), (-1000001, vM), by unfold F_X7_wander; rw [a, bs, if_pos rfl, if_neg c, if_pos d], by unfold F_X8_wander; rw [b, if_neg one0, e]; rfl, rfl, hrel⟩
  rcases rg (N := N) (l := 0) (h := 30) 0 30 rfl rfl (b := 0) (c := 30) rfl rfl (by omega) (by omega) x2 with ⟨c2, d2⟩ | ⟨c2, d2, e2⟩ | ⟨n, -, n30, rfl, c2, d2, e2⟩
  · exact ⟨(-1000001, vF), (-1000001, vM), by unfold F_X7_wander; rw [a, bs, if_pos rfl, if_neg c, if_neg d, if_pos c2], by unfold F_X8_wander; rw [b, if_neg one0, e, bs, if_neg one0, d2]; rfl, rfl, hrel⟩
  · exact ⟨(-1000001, vF), (-1000001, vM), by unfold F_X7_wander; rw [a, bs, if_pos rfl, if_neg c, if_neg d, if_neg c2, if_pos d2], by unfold F_X8_wander; rw [b, if_neg one0, e, bs, if_neg one0, e2]; rfl, rfl, hrel⟩
  rcases rg (N := N) (l := 0) (h := 10) 0 10 rfl rfl (b := 0) (c := 10) rfl rfl (by omega) (by omega) x3 with ⟨c3, d3⟩ | ⟨c3, d3, e3⟩ | ⟨p, -, p10, rfl, c3, d3, e3⟩
  · exact ⟨(-1000001, vF), (-1000001, vM), by unfold F_X7_wander; rw [a, bs, if_pos rfl, if_neg c, if_neg d, if_neg c2, if_neg d2, if_pos c3], by unfold F_X8_wander; rw [b, if_neg one0, e, bs, if_neg one0, e2, bs, if_neg one0, d3]; rfl, rfl, hrel⟩
  · exact ⟨(-1000001, vF), (-1000001, vM), by unfold F_X7_wander; rw [a, bs, if_pos rfl, if_neg c, if_neg d, if_neg c2, if_neg d2, if_neg c3, if_pos d3], by unfold F_X8_wander; rw [b, if_neg one0, e, bs, if_neg one0, e2, bs, if_neg one0, e3]; rfl, rfl, hrel⟩
  rcases rgW (N := N) x4 with ⟨c4, d4⟩ | ⟨c4, d4, e4⟩ | ⟨n4, -, -, c4, d4, e4⟩
  · exact ⟨(-1000001, vF), (-1000001, vM), by unfold F_X7_wander; rw [a, bs, if_pos rfl, if_neg c, if_neg d, if_neg c2, if_neg d2, if_neg c3, if_neg d3, if_pos c4], by unfold F_X8_wander; rw [b, if_neg one0, e, bs, if_neg one0, e2, bs, if_neg one0, e3, bs, if_neg one0, d4]; rfl, rfl, hrel⟩
  · exact ⟨(-1000001, vF), (-1000001, vM), by unfold F_X7_wander; rw [a, bs, if_pos rfl, if_neg c, if_neg d, if_neg c2, if_neg d2, if_neg c3, if_neg d3, if_neg c4, if_pos d4], by unfold F_X8_wander; rw [b, if_neg one0, e, bs, if_neg one0, e2, bs, if_neg one0, e3, bs, if_neg one0, e4]; rfl, rfl, hrel⟩
  obtain ⟨as, a1, a2⟩ := p_asd hN vM
  have hw := bit64 (hB S 0) h6
  have hbt : ∀ q, S.2.2.2.1 ≤ q → q < 6 → (bitN (hB S 0) S.2.2.2.1).testBit q = false := fun q q1 q2 => by rw [bit_test _ h6 q2, decide_eq_false (by omega), Bool.false_and]
  have hseat : F_X5_seatsThat N vS (0 : Int32) = some (nI (bitN (hB S 0) S.2.2.2.1)) := p_seatsThat hN hc h6 0
  have hseat8 : F_X8_seatsOf N (tU vM as (vM 4)) (0 : Int32) = some (nI (bitN (hB S 0) S.2.2.2.1)) := p_seatsOf hN (v := tU vM as (vM 4)) hm h6 0
  generalize bitN (hB S 0) S.2.2.2.1 = wm at hw hbt hseat hseat8
  have hpc := popc_le wm
  have ecnt : cntP (fun i => wm.testBit i) S.2.2.2.1 = popc wm := by
    unfold popc
    rw [show (6 : Nat) = S.2.2.2.1 + (6 - S.2.2.2.1) from by omega, cnt_ext (6 - S.2.2.2.1) (fun i q1 q2 => hbt i q1 (by omega))]
  obtain ⟨ab, w, g, l1, l2, l3, l4⟩ := l_likely (N := N) (n0 := n) (p := p) (wm := wm) (vE := vE) (xk := x1) (x4 := x4) (x8 := lN (10 ^ popc wm)) hN (by omega) hw p10 hc hm hi a2 hbt (wm + 1) 0 N N 0 vF (vM 4) (by omega) (fun _ _ => rfl) (by omega) (by omega)
  have hpow : 10 ^ popc wm ≤ 10 ^ 6 := Nat.pow_le_pow_right (by omega) hpc
  have hpow0 : 0 < 10 ^ popc wm := Nat.pow_pos (by omega)
  obtain ⟨gd, g1, g2, g3, g4⟩ := l_gcd (N := N) (v := tU vM as g) (x4 := x4) (x6 := lN ab) (x8 := lN (10 ^ popc wm)) 20 0 N N ab (10 ^ popc wm) (by omega) (by omega) (by omega) (by omega) (by omega) (by omega)
  have hgd := g4 (Or.inr hpow0)
  have nz : ∀ {β : Type} {o : Option β}, nzl (lN gd) o = o := fun {β o} => by
    unfold nzl
    rw [if_neg (fun z => by
      have := (pk_lEQ (a := gd) (b := 0) (by omega) (by omega)).mp z
      omega)]
  refine ⟨(if x4 = 0 then lN ab / lN gd else lN (10 ^ popc wm) / lN gd, w), (if x4 = 0 then lN ab / lN gd else lN (10 ^ popc wm) / lN gd, tU vM as g), ?_, ?_, rfl, rel_fore hrel l3 _ _ _ _ _⟩
  · unfold F_X7_wander F_X4_likelyCases F_X4_commonDivisor
    rw [a, bs, if_pos rfl, if_neg c, if_neg d, if_neg c2, if_neg d2, if_neg c3, if_neg d3, if_neg c4, if_neg d4, hseat, bs, show ∀ K, F_X4_likelyCases_L13 N vS vE x1 (nI n) (nI p) (nI wm) K N (0 : Int64) (0 : Int32) vF = K (lN ab) w from l1, bs, bs, p_bc N hw, bs, show F_X4_power N (10 : Int32) (nI (popc wm)) = some (lN (10 ^ popc wm)) from p_pow (b := 10) hN (by omega) hpc, bs, show ∀ K, F_X4_commonDivisor_L9 N K N (lN ab) (lN (10 ^ popc wm)) (0 : Int32) = K (lN gd) from g1, bs]
    simp only [jn_eq]
    rw [if_pos ((lg0 (by omega)).1.mpr hgd), nz, if_pos ((lg0 (by omega)).1.mpr hgd), nz]
    by_cases z : x4 = 0
    · rw [if_pos z, if_pos z]
    · rw [if_neg z, if_neg z]
  · unfold F_X8_wander
    rw [b, if_neg one0, e, bs, if_neg one0, e2, bs, if_neg one0, e3, bs, if_neg one0, e4, bs, if_neg one0, a1, bs, hseat8, bs, show ∀ K, F_X8_wander_L79 N (tU vM as (vM 4)) x1 (nI n) (nI p) x4 (nI wm) (0 : Int64) K N (1 : Int64) (0 : Int32) = K (lN (10 ^ popc wm)) from fun K => (l_below (N := N) h6 hw (show (tU vM as (vM 4)) 4 3 = nI S.2.2.2.1 from hm.2.2.2.1) S.2.2.2.1 0 N (by omega) (by omega) K).trans (by rw [ecnt]), show ∀ K, F_X8_wander_L121 N x1 (nI n) (nI p) x4 (nI wm) (lN (10 ^ popc wm)) K N (0 : Int64) (0 : Int32) (tU vM as (vM 4)) = K (lN ab) (tU vM as g) from l2, g2, nz, nz]
    by_cases z : x4 = 0
    · rw [if_pos z, if_pos z]
    · rw [if_neg z, if_neg z]
