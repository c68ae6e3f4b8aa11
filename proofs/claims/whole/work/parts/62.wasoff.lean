/-! wasOff -/
def fitV (N : Nat) (vS vE : SV) (t : Nat) : Int32 := match (F_X5_takeOff N (ovr zSV vS) (nI t)).bind (fun u => F_X4_trialClapsAsTold N vE u) with | some r => r.1 | none => 0
theorem off_one {N j k m : Nat} (hN : 3000 ≤ N) (hj : j < 8) (hkm : k + m ≤ 40) (hm12 : m ≤ 12) {vS vM vE gW : SV} {as : Nat → Int32} {S : Sh} (hc : RC vS S) (hi : SInv 999 S) (ha : ∀ i, i < 55 → as i = vM 4 i) (hg : ∀ r i, r < 8 → i < 40 → gW r i = vM 3 (40 * r + i)) (he0 : vE 0 2 = nI m) (he : ∀ q, q < m → vE 1 q = gW j (k + q)) {t : Nat} (ht : t ∈ S.2.2.2.2) (vF : SV) {f : Nat → Int32} (hf : RM f S) : ∃ r w1 w g1 g, F_X5_takeOff N (ovr vF vS) (nI t) = some w1 ∧ F_X4_trialClapsAsTold N vE w1 = some (r, w) ∧ F_X8_takeOff N (tU vM as f) (nI t) = some (tU vM as g1) ∧ F_X8_isSo N (tU vM as g1) ((40 * nI j) + nI k) (nI m) = some (r, tU vM as g) ∧ (r = 0 ∨ r = 1) ∧ ∀ i, i < 55 → g i = vM 4 i := by
  have h1 := hi.1
  have htl := hi.2.2.2.1 t ht
  obtain ⟨h, h1', h2'⟩ := p_offC hN (ovr_rc (v := vF) hc hi) hi (j := t) (by omega)
  obtain ⟨g1, g2, g3⟩ := p_offM hN (v := tU vM as f) hc hf hi (j := t) ht
  rw [tU_up] at g2
  obtain ⟨r, w, g, a1, a2, a3, a4⟩ := p_so (as := as) hN hj hkm hm12 ha hg he0 he (rcL (ovr_rc (v := vF) hc hi) h2') g3 (siL hi (wo_nd hi.2.2.1) (fun x hx => hi.2.2.2.1 x (wo_in hx)))
  exact ⟨r, _, w, g1, g, h1', a1, g2, a2, a3, a4⟩
theorem off_any {N j k m : Nat} (hN : 3000 ≤ N) (hj : j < 8) (hkm : k + m ≤ 40) (hm12 : m ≤ 12) {vS vM vE gW : SV} {as : Nat → Int32} {S : Sh} (hc : RC vS S) (hi : SInv 999 S) (ha : ∀ i, i < 55 → as i = vM 4 i) (hg : ∀ r i, r < 8 → i < 40 → gW r i = vM 3 (40 * r + i)) (he0 : vE 0 2 = nI m) (he : ∀ q, q < m → vE 1 q = gW j (k + q)) {t : Nat} (ht : t ∈ S.2.2.2.2) (vF : SV) {f : Nat → Int32} (hf : RM f S) : ∃ w1 w g1 g, F_X5_takeOff N (ovr vF vS) (nI t) = some w1 ∧ F_X4_trialClapsAsTold N vE w1 = some (fitV N vS vE t, w) ∧ F_X8_takeOff N (tU vM as f) (nI t) = some (tU vM as g1) ∧ F_X8_isSo N (tU vM as g1) ((40 * nI j) + nI k) (nI m) = some (fitV N vS vE t, tU vM as g) ∧ (fitV N vS vE t = 0 ∨ fitV N vS vE t = 1) ∧ ∀ i, i < 55 → g i = vM 4 i := by
  obtain ⟨r, w1, w, g1, g, a1, a2, a3, a4, a5, a6⟩ := off_one (as := as) hN hj hkm hm12 hc hi ha hg he0 he ht vF hf
  obtain ⟨y, w1', w', g1', g', b1, b2, b3, b4, b5, b6⟩ := off_one (as := as) hN hj hkm hm12 hc hi ha hg he0 he ht zSV hf
  have e1 : tU vM as g1 = tU vM as g1' := Option.some.inj (a3.symm.trans b3)
  have a4' := a4
  rw [e1] at a4'
  have e2 := Option.some.inj (a4'.symm.trans b4)
  have exy : r = y := congrArg Prod.fst e2
  have ey : fitV N vS vE t = y := by unfold fitV; rw [b1, bs, b2]
  rw [ey, ← exy]
  exact ⟨w1, w, g1, g, a1, a2, a3, a4, a5, a6⟩
theorem or_n {a t : Nat} (ht : t < 31) : nI a ||| ((1 : Int32) <<< (nI t &&& 31)) = nI (a ||| 2 ^ t) := by rw [sh1 t ht, nI_or]
theorem tb_or {a t q : Nat} : (a ||| 2 ^ t).testBit q = true ↔ a.testBit q = true ∨ t = q := by
  rw [Nat.testBit_or, Nat.testBit_two_pow, Bool.or_eq_true, decide_eq_true_iff]
theorem l_abs {N j k m b0 : Nat} (hN : 3000 ≤ N) (hj : j < 8) (hkm : k + m ≤ 40) (hm12 : m ≤ 12) {vS vM vE gW : SV} {as : Nat → Int32} {S : Sh} (hc : RC vS S) (hm : RM (vM 4) S) (hi : SInv 999 S) (ha : ∀ i, i < 55 → as i = vM 4 i) (hg : ∀ r i, r < 8 → i < 40 → gW r i = vM 3 (40 * r + i)) (he0 : vE 0 2 = nI m) (he : ∀ q, q < m → vE 1 q = gW j (k + q)) : ∀ d i n a vF, i + d = S.2.2.2.2.length → d < n → (∀ q, a.testBit q = true ↔ b0.testBit q = true ∨ ∃ i', i' < i ∧ S.2.2.2.2.getD i' 0 = q ∧ fitV N vS vE q = 1) → ∃ a' w, F_X4_absencesThatFit_L24 N vS vE n (nI a) (nI i) vF = some (nI a', w) ∧ ∀ q, a'.testBit q = true ↔ b0.testBit q = true ∨ (q ∈ S.2.2.2.2 ∧ fitV N vS vE q = 1) := by
  have h1 := hi.1
  have h2 := len6 hi
  intro d
  induction d with
  | zero =>
    intro i n a vF hid hn hb
    obtain ⟨n, rfl⟩ : ∃ m, n = m + 1 := ⟨n - 1, by omega⟩
    have e : i = S.2.2.2.2.length := by omega
    subst e
    refine ⟨a, vF, by rw [F_X4_absencesThatFit_L24, hc.2.2.2.2.1, if_neg (nI_nlt (by omega) (by omega))], fun q => ?_⟩
    rw [hb q]
    constructor
    · rintro (h | ⟨i', h3, h4, h5⟩)
      · exact Or.inl h
      · exact Or.inr ⟨by rw [← h4]; exact getD_mem h3, h5⟩
    · rintro (h | ⟨h3, h5⟩)
      · exact Or.inl h
      · obtain ⟨i', hil, he⟩ := List.getElem_of_mem h3
        refine Or.inr ⟨i', hil, ?_, h5⟩
        rw [List.getD_eq_getElem?_getD, List.getElem?_eq_getElem hil]
        exact he
  | succ d ih =>
    intro i n a vF hid hn hb
    obtain ⟨n, rfl⟩ : ∃ m, n = m + 1 := ⟨n - 1, by omega⟩
    have hil : i < S.2.2.2.2.length := by omega
    have hlt := list_lt hi hil
    have hmem := getD_mem hil
    have c8 := hc.2.2.2.2.2.2.2.2.2 i hil
    generalize hj2 : S.2.2.2.2.getD i 0 = t at hlt hmem c8
    obtain ⟨w1, w, -, -, a1, a2, -, -, a5, -⟩ := off_any (as := as) hN hj hkm hm12 hc hi ha hg he0 he hmem vF hm
    have e5 : F_X4_absencesThatFit_L24 N vS vE (n + 1) (nI a) (nI i) vF = if fitV N vS vE t = 0 then F_X4_absencesThatFit_L24 N vS vE n (nI a) (nI (i + 1)) w else F_X4_absencesThatFit_L24 N vS vE n (nI (a ||| 2 ^ t)) (nI (i + 1)) w := by
      rw [F_X4_absencesThatFit_L24, hc.2.2.2.2.1, if_pos (nI_lt hil (by omega)), p_over, bs, chk_in (n := 6) (k := i) (by omega) (by decide), nI_clamp (n := i) (by omega), c8, a1, bs, a2, bs, nI_1]
      simp only [jn_eq]
      rw [chk_in (n := 6) (k := i) (by omega) (by decide), or_n (by omega)]
    rw [e5]
    by_cases z : fitV N vS vE t = 0
    · rw [if_pos z]
      refine ih (i + 1) n a w (by omega) (by omega) (fun q => ?_)
      rw [hb q]
      constructor
      · rintro (h | ⟨i', h3, h4, h5⟩)
        · exact Or.inl h
        · exact Or.inr ⟨i', by omega, h4, h5⟩
      · rintro (h | ⟨i', h3, h4, h5⟩)
        · exact Or.inl h
        · by_cases y : i' = i
          · rw [y, hj2] at h4
            rw [← h4, z] at h5
            exact absurd h5 (by decide)
          · exact Or.inr ⟨i', by omega, h4, h5⟩
    · rw [if_neg z]
      have hz1 : fitV N vS vE t = 1 := by
        rcases a5 with h | h
        · exact absurd h z
        · exact h
      refine ih (i + 1) n (a ||| 2 ^ t) w (by omega) (by omega) (fun q => ?_)
      rw [tb_or, hb q]
      constructor
      · rintro ((h | ⟨i', h3, h4, h5⟩) | h)
        · exact Or.inl h
        · exact Or.inr ⟨i', by omega, h4, h5⟩
        · exact Or.inr ⟨i, by omega, by rw [hj2]; exact h, by rw [← h]; exact hz1⟩
      · rintro (h | ⟨i', h3, h4, h5⟩)
        · exact Or.inl (Or.inl h)
        · by_cases y : i' = i
          · rw [y, hj2] at h4
            exact Or.inr h4
          · exact Or.inl (Or.inr ⟨i', by omega, h4, h5⟩)
theorem l_absM {N j k m b0 : Nat} (hN : 3000 ≤ N) (hj : j < 8) (hkm : k + m ≤ 40) (hm12 : m ≤ 12) {vS vM vE gW : SV} {as : Nat → Int32} {S : Sh} (hc : RC vS S) (hm : RM (vM 4) S) (hi : SInv 999 S) (ha : ∀ i, i < 55 → as i = vM 4 i) (hg : ∀ r i, r < 8 → i < 40 → gW r i = vM 3 (40 * r + i)) (he0 : vE 0 2 = nI m) (he : ∀ q, q < m → vE 1 q = gW j (k + q)) : ∀ d t n a f, t + d = S.2.2.1 → d < n → (∀ i, i < 55 → f i = vM 4 i) → (∀ q, a.testBit q = true ↔ b0.testBit q = true ∨ (q < t ∧ q ∈ S.2.2.2.2 ∧ fitV N vS vE q = 1)) → ∃ a' g, (∀ K, F_X8_wasOff_L70 N (nI j) (nI k) (nI m) K n (nI a) (nI t) (tU vM as f) = K (nI a') (tU vM as g)) ∧ (∀ i, i < 55 → g i = vM 4 i) ∧ ∀ q, a'.testBit q = true ↔ b0.testBit q = true ∨ (q ∈ S.2.2.2.2 ∧ fitV N vS vE q = 1) := by
  have h1 := hi.1
  have h2 := len6 hi
  intro d
  induction d with
  | zero =>
    intro t n a f htd hn hf hb
    obtain ⟨n, rfl⟩ : ∃ m, n = m + 1 := ⟨n - 1, by omega⟩
    refine ⟨a, f, fun K => by rw [F_X8_wasOff_L70, k2, t2, show (tU vM as f) 4 2 = nI S.2.2.1 from (hf 2 (by omega)).trans hm.2.2.1, if_neg (nI_nlt (by omega) (by omega))], hf, fun q => ?_⟩
    rw [hb q]
    constructor
    · rintro (h | ⟨h3, h4, h5⟩)
      · exact Or.inl h
      · exact Or.inr ⟨h4, h5⟩
    · rintro (h | ⟨h4, h5⟩)
      · exact Or.inl h
      · exact Or.inr ⟨by have := hi.2.2.2.1 q h4; omega, h4, h5⟩
  | succ d ih =>
    intro t n a f htd hn hf hb
    obtain ⟨n, rfl⟩ : ∃ m, n = m + 1 := ⟨n - 1, by omega⟩
    have hrf : RM f S := rm_cg hm hi hf
    have hlt : nI t < nI S.2.2.1 := nI_lt (by omega) (by omega)
    rcases p_place hN hc (vM := tU vM as f) hrf hi (j := t) (by omega) with ⟨q, -, p2⟩ | ⟨q, i, hil, -, -, p2⟩
    · obtain ⟨a', g, r1, r2, r3⟩ := ih (t + 1) n a f (by omega) (by omega) hf (fun r => by
        rw [hb r]
        constructor
        · rintro (h | ⟨h3, h4, h5⟩)
          · exact Or.inl h
          · exact Or.inr ⟨by omega, h4, h5⟩
        · rintro (h | ⟨h3, h4, h5⟩)
          · exact Or.inl h
          · by_cases y : r = t
            · rw [y] at h4; exact absurd h4 q
            · exact Or.inr ⟨by omega, h4, h5⟩)
      refine ⟨a', g, fun K => ?_, r2, r3⟩
      rw [F_X8_wasOff_L70, k2, t2, show (tU vM as f) 4 2 = nI S.2.2.1 from (hf 2 (by omega)).trans hm.2.2.1, if_pos hlt, p2, bs, nI_1]
      simp only [jn_eq]
      rw [if_pos (by decide), r1]
    · obtain ⟨-, -, g1, g2, -, -, a3, a4, a5, a6⟩ := off_any (as := as) hN hj hkm hm12 hc hi ha hg he0 he q zSV hrf
      have e8 : ∀ K, F_X8_wasOff_L70 N (nI j) (nI k) (nI m) K (n + 1) (nI a) (nI t) (tU vM as f) = if fitV N vS vE t = 0 then F_X8_wasOff_L70 N (nI j) (nI k) (nI m) K n (nI a) (nI (t + 1)) (tU vM as g2) else F_X8_wasOff_L70 N (nI j) (nI k) (nI m) K n (nI (a ||| 2 ^ t)) (nI (t + 1)) (tU vM as g2) := fun K => by
        rw [F_X8_wasOff_L70, k2, t2, show (tU vM as f) 4 2 = nI S.2.2.1 from (hf 2 (by omega)).trans hm.2.2.1, if_pos hlt, p2, bs, nI_1]
        simp only [jn_eq]
        rw [if_neg (nI_pos (by omega)), a3, bs, a4, bs, or_n (by omega), or_0]
      by_cases z : fitV N vS vE t = 0
      · obtain ⟨a', g, r1, r2, r3⟩ := ih (t + 1) n a g2 (by omega) (by omega) a6 (fun r => by
          rw [hb r]
          constructor
          · rintro (h | ⟨h3, h4, h5⟩)
            · exact Or.inl h
            · exact Or.inr ⟨by omega, h4, h5⟩
          · rintro (h | ⟨h3, h4, h5⟩)
            · exact Or.inl h
            · by_cases y : r = t
              · rw [y, z] at h5; exact absurd h5 (by decide)
              · exact Or.inr ⟨by omega, h4, h5⟩)
        exact ⟨a', g, fun K => by rw [e8, if_pos z, r1], r2, r3⟩
      · have hz1 : fitV N vS vE t = 1 := by
          rcases a5 with h | h
          · exact absurd h z
          · exact h
        obtain ⟨a', g, r1, r2, r3⟩ := ih (t + 1) n (a ||| 2 ^ t) g2 (by omega) (by omega) a6 (fun r => by
          rw [tb_or, hb r]
          constructor
          · rintro ((h | ⟨h3, h4, h5⟩) | h)
            · exact Or.inl h
            · exact Or.inr ⟨by omega, h4, h5⟩
            · exact Or.inr ⟨by omega, by rw [← h]; exact q, by rw [← h]; exact hz1⟩
          · rintro (h | ⟨h3, h4, h5⟩)
            · exact Or.inl (Or.inl h)
            · by_cases y : r = t
              · exact Or.inr y.symm
              · exact Or.inl (Or.inr ⟨by omega, h4, h5⟩))
        exact ⟨a', g, fun K => by rw [e8, if_neg z, r1], r2, r3⟩
theorem st_wasOff {N : Nat} (hN : 3000 ≤ N) : St_wasOff N Rel := by
  intro vR vW vT vS vD vA vI vJ vE vF vP vQ vK vM gW gA gL x1 x2 x3 hrel
  have keep := hrel
  obtain ⟨hr, hs, ht, ⟨S, hc, hm, hi, hs4⟩, hacts, hI, hk⟩ := hrel
  have h1 := hi.1
  have h2 := len6 hi
  have nb : (-1000001 : Int32) < 0 := by decide
  rcases no_show (N := N) (vR := vR) hc hi.1 hs4 with ⟨a, b⟩ | ⟨a, b, -⟩
  · exact ⟨(-1000002, vR, vE, vF), (-1000002, vM), by unfold F_X7_wasOff; rw [a]; rfl, by unfold F_X8_wasOff; rw [b]; rfl, rfl, keep⟩
  rcases p_line (N := N) hr x1 x2 x3 with ⟨p1, p2⟩ | ⟨p1, p2, ⟨cc, hcc, f1, f2⟩ | ⟨j, k, m, hj, hkm, m1, m12, rfl, rfl, rfl, f1, f2⟩⟩
  · refine ⟨(-1000001, vR, vE, vF), (-1000001, vM), by unfold F_X7_wasOff; rw [a, bs, if_pos rfl, p1]; rfl, ?_, rfl, keep⟩
    unfold F_X8_wasOff; rw [b, if_neg one0, p2, bs]
    simp only [jn_eq]
    rw [if_pos trivial, if_pos nb]
  · have c0 : ¬ cc = 0 := by rcases hcc with h | h <;> rw [h] <;> decide
    have cn : -1000010 - cc < 0 := by rcases hcc with h | h <;> rw [h] <;> decide
    refine ⟨(-1000010 - cc, up2 vR 0 10 cc, vE, vF), (-1000010 - cc, up2 vM 0 3 cc), ?_, ?_, rfl, hr, rfl, ht, ⟨S, hc, hm, hi, hs4⟩, hacts, hI, hk⟩
    · unfold F_X7_wasOff; rw [a, bs, if_pos rfl, p1, bs, if_neg one0, f1, bs, if_neg c0, ff]; rfl
    · unfold F_X8_wasOff; rw [b, if_neg one0, p2, bs]
      simp only [jn_eq]
      rw [if_neg one0, f2, bs, if_pos cn]
  obtain ⟨en, e1, e2, e3⟩ := p_hear (N := N) (vW := vW) (gW := gW) hN hj hkm m12 vE
  obtain ⟨as, a1, a2⟩ := p_asd hN vM
  obtain ⟨r, w, g, s1, s2, s3, s4⟩ := p_so (as := as) hN hj hkm m12 a2 hr.1 e2 e3 (ovr_rc (v := vF) hc hi) (f := vM 4) hm hi
  obtain ⟨b0, hb0, hb1⟩ : ∃ b0 : Nat, (∀ {α : Type} (J : Int32 → Option α), (if r = 0 then J 0 else J 64) = J (nI b0)) ∧ b0 ≤ 64 := by
    by_cases z : r = 0
    · exact ⟨0, fun J => by rw [if_pos z]; rfl, by omega⟩
    · exact ⟨64, fun J => by rw [if_neg z]; rfl, by omega⟩
  obtain ⟨ac, wc, c1, c2⟩ := l_abs (b0 := b0) (as := as) hN hj hkm m12 hc hm hi a2 hr.1 e2 e3 S.2.2.2.2.length 0 N b0 w (by omega) (by omega) (fun q => by
    constructor
    · exact Or.inl
    · rintro (h | ⟨i', h3, -⟩)
      · exact h
      · omega)
  obtain ⟨am, g', d1, d2, d3⟩ := l_absM (b0 := b0) (as := as) hN hj hkm m12 hc hm hi a2 hr.1 e2 e3 S.2.2.1 0 N b0 g (by omega) (by omega) s4 (fun q => by
    constructor
    · exact Or.inl
    · rintro (h | ⟨h3, -⟩)
      · exact h
      · omega)
  have eac : ac = am := Nat.eq_of_testBit_eq (fun q => Bool.eq_iff_iff.mpr ((c2 q).trans (d3 q).symm))
  subst eac
  refine ⟨(nI ac, up2 vR 0 10 0, en, wc), (nI ac, up2 (tU vM as g') 0 3 0), ?_, ?_, rfl, hr, rfl, ht, ⟨S, hc, rm_cg hm hi d2, hi, hs4⟩, hacts, hI, hk⟩
  · unfold F_X7_wasOff F_X4_absencesThatFit
    rw [a, bs, if_pos rfl, p1, bs, if_neg one0, f1, bs, if_pos rfl, e1, bs, p_over, bs, s1, bs]
    simp only [jn_eq]
    rw [hb0 (fun s21_0 => F_X4_absencesThatFit_L24 N vS en N s21_0 (0 : Int32) w), show F_X4_absencesThatFit_L24 N vS en N (nI b0) (0 : Int32) w = some (nI ac, wc) from c1, bs, fn]
    rfl
  · unfold F_X8_wasOff
    rw [b, if_neg one0, p2, bs]
    simp only [jn_eq]
    rw [if_neg one0, f2, bs, if_neg (show ¬ (0 : Int32) < 0 by decide), a1, bs, s2, bs]
    refine (hb0 (fun s65_0 => F_X8_wasOff_L70 N (nI j) (nI k) (nI m) _ N s65_0 (0 : Int32) (tU vM as g))).trans ?_
    rw [show ∀ K, F_X8_wasOff_L70 N (nI j) (nI k) (nI m) K N (nI b0) (0 : Int32) (tU vM as g) = K (nI ac) (tU vM as g') from d1, mw]
    rfl
