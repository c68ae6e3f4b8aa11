/-! bring, clear: what is tried and taken back -/
def tU (vM : SV) (as f : Nat → Int32) : SV := upA (upA vM 9 as) 4 f
theorem tU_up {vM : SV} {as f g : Nat → Int32} : upA (tU vM as f) 4 g = tU vM as g := upA_upA
theorem p_tb {N : Nat} (hN : 3000 ≤ N) {vM : SV} {as : Nat → Int32} (ha : ∀ i, i < 55 → as i = vM 4 i) (f : Nat → Int32) : ∃ g, F_X8_takeBack N (tU vM as f) = some (tU vM as g) ∧ ∀ i, i < 55 → g i = vM 4 i := by
  obtain ⟨g, g1, g2⟩ := p_tback hN (tU vM as f)
  exact ⟨g, by rw [g1, tU_up], fun i hi => (g2 i hi).trans (ha i hi)⟩
theorem p_asd {N : Nat} (hN : 3000 ≤ N) (vM : SV) : ∃ as, F_X8_putAside N vM = some (tU vM as (vM 4)) ∧ ∀ i, i < 55 → as i = vM 4 i := by
  obtain ⟨as, a1, a2⟩ := p_aside hN vM
  refine ⟨as, ?_, a2⟩
  rw [a1]
  unfold tU
  rw [show upA (upA vM 9 as) 4 (vM 4) = upA vM 9 as from by
    have h := upA_self (v := upA vM 9 as) (k := 4)
    rwa [show (upA vM 9 as) 4 = vM 4 from upA_k (by decide)] at h]
def fstV (N : Nat) (vS vP : SV) (n0 t : Nat) : Int32 := match F_X2_clappedIfFirst N vS vP zSV (nI t) (nI n0) with | some r => r.1 | none => 0
theorem first_one {N n0 : Nat} (hN : 3000 ≤ N) (h60 : n0 ≤ 60) {vS vP vM : SV} {as : Nat → Int32} {S : Sh} (hc : RC vS S) (hi : SInv 999 S) {t : Nat} (ht : t < S.2.2.1) (vQ : SV) {f : Nat → Int32} (hf : RM f S) : ∃ x w g1 g, F_X2_clappedIfFirst N vS vP vQ (nI t) (nI n0) = some (x, w) ∧ F_X8_layFirst N (tU vM as f) (nI t) = some (tU vM as g1) ∧ F_X8_goOn N (tU vM as g1) (nI n0) = some (tU vM as g) ∧ g 5 = x ∧ ∃ k, k < 2 ^ 30 ∧ x = nI k := by
  obtain ⟨w, w1, w2⟩ := p_firstC hN (ovr_rc (v := vQ) hc hi) hi ht
  obtain ⟨g1, a1, a2⟩ := p_firstM hN (v := tU vM as f) hc hf hi ht
  have hsi : SInv 999 (sL S (t :: wo S.2.2.2.2 t)) := siL hi (List.nodup_cons.mpr ⟨wo_not, wo_nd hi.2.2.1⟩) (fun y hy => by
    rcases List.mem_cons.mp hy with e | e
    · rw [e]; exact ht
    · exact hi.2.2.2.1 y (wo_in e))
  rw [tU_up] at a1
  obtain ⟨w', S1, g, S2, b1, b2, b3, b4, b5, b6, b7, -⟩ := p_while hN h60 w2 (vM := tU vM as g1) a2 hsi
  rw [tU_up] at b3
  obtain ⟨T, C, q1, q2, q3, q4⟩ := b5.2.2.2.2.2.2.2.2
  refine ⟨w' 0 6, w', g1, g, ?_, a1, b3, ?_, C, by omega, ?_⟩
  · unfold F_X2_clappedIfFirst
    rw [p_over, bs, w1, bs, b1]
    rfl
  · rw [b4.2.2.2.2.2.2.1, b2.2.2.2.2.2.2.1, b7.2.2.1]
  · rw [b2.2.2.2.2.2.2.1, q2]
theorem first_any {N n0 : Nat} (hN : 3000 ≤ N) (h60 : n0 ≤ 60) {vS vP vM : SV} {as : Nat → Int32} {S : Sh} (hc : RC vS S) (hi : SInv 999 S) {t : Nat} (ht : t < S.2.2.1) (vQ : SV) {f : Nat → Int32} (hf : RM f S) : ∃ w g1 g, F_X2_clappedIfFirst N vS vP vQ (nI t) (nI n0) = some (fstV N vS vP n0 t, w) ∧ F_X8_layFirst N (tU vM as f) (nI t) = some (tU vM as g1) ∧ F_X8_goOn N (tU vM as g1) (nI n0) = some (tU vM as g) ∧ g 5 = fstV N vS vP n0 t ∧ ∃ k, k < 2 ^ 30 ∧ fstV N vS vP n0 t = nI k := by
  obtain ⟨x, w, g1, g, a1, a2, a3, a4, a5⟩ := first_one (vP := vP) (vM := vM) (as := as) hN h60 hc hi ht vQ hf
  obtain ⟨y, w', h1, h, b1, b2, b3, b4, b5⟩ := first_one (vP := vP) (vM := vM) (as := as) hN h60 hc hi ht zSV hf
  have e1 : tU vM as g1 = tU vM as h1 := Option.some.inj (a2.symm.trans b2)
  rw [e1] at a3
  have e2 : tU vM as g = tU vM as h := Option.some.inj (a3.symm.trans b3)
  have e3 : g = h := congrFun e2 4
  have ey : fstV N vS vP n0 t = y := by unfold fstV; rw [b1]
  have exy : x = y := by rw [← a4, e3]; exact b4
  rw [ey, ← exy]
  exact ⟨w, g1, g, a1, a2, by rw [e1]; exact a3, a4, a5⟩
theorem l_bring {N n0 : Nat} (hN : 3000 ≤ N) (h60 : n0 ≤ 60) {vS vP vM : SV} {x2 : Int32} {as : Nat → Int32} {S : Sh} (hc : RC vS S) (hm : RM (vM 4) S) (hi : SInv 999 S) (ha : ∀ i, i < 55 → as i = vM 4 i) : ∀ d t n n2 b m vQ f, t + d = S.2.2.1 → (∀ i, i < 55 → f i = vM 4 i) → d < n → d < n2 → ((t = 0 ∧ b = 0 ∧ m = -1) ∨ (0 < t ∧ b < t ∧ m = fstV N vS vP n0 b)) → ∃ y z w g, F_X2_bestFirst_L8 N vS vP (nI n0) n (nI b) m (nI t) vQ = some (nI y, w) ∧ (∀ K, F_X8_bring_L44 N (nI n0) x2 K n2 (nI b) m (nI t) (tU vM as f) = K (nI y) z (tU vM as g)) ∧ (∀ i, i < 55 → g i = vM 4 i) ∧ ((S.2.2.1 = 0 ∧ y = 0 ∧ z = -1) ∨ (0 < S.2.2.1 ∧ y < S.2.2.1 ∧ z = fstV N vS vP n0 y)) := by
  have h1 := hi.1
  intro d
  induction d with
  | zero =>
    intro t n n2 b m vQ f ht hf hn hn2 hb
    obtain ⟨n, rfl⟩ : ∃ m, n = m + 1 := ⟨n - 1, by omega⟩
    obtain ⟨n2, rfl⟩ : ∃ m, n2 = m + 1 := ⟨n2 - 1, by omega⟩
    have e : t = S.2.2.1 := by omega
    subst e
    refine ⟨b, m, vQ, f, ?_, fun K => ?_, hf, hb⟩
    · rw [F_X2_bestFirst_L8, hc.2.2.1, if_neg (nI_nlt (by omega) (by omega))]
    · rw [F_X8_bring_L44, k2, t2, show (tU vM as f) 4 2 = nI S.2.2.1 from (hf 2 (by omega)).trans hm.2.2.1, if_neg (nI_nlt (by omega) (by omega))]
  | succ d ih =>
    intro t n n2 b m vQ f ht hf hn hn2 hb
    obtain ⟨n, rfl⟩ : ∃ m, n = m + 1 := ⟨n - 1, by omega⟩
    obtain ⟨n2, rfl⟩ : ∃ m, n2 = m + 1 := ⟨n2 - 1, by omega⟩
    have hlt : nI t < nI S.2.2.1 := nI_lt (by omega) (by omega)
    obtain ⟨w, g1, g, a1, a2, a3, a4, k, hk, ek⟩ := first_any (vP := vP) (vM := vM) (as := as) (t := t) hN h60 hc hi (by omega) vQ (rm_cg hm hi hf)
    obtain ⟨f', c1, c2⟩ := p_tb hN ha g
    have e5 : F_X2_bestFirst_L8 N vS vP (nI n0) (n + 1) (nI b) m (nI t) vQ = if m < fstV N vS vP n0 t then F_X2_bestFirst_L8 N vS vP (nI n0) n (nI t) (fstV N vS vP n0 t) (nI (t + 1)) w else F_X2_bestFirst_L8 N vS vP (nI n0) n (nI b) m (nI (t + 1)) w := by
      rw [F_X2_bestFirst_L8, hc.2.2.1, if_pos hlt, a1, bs, nI_1]
      simp only [jn_eq]
    have e8 : ∀ K, F_X8_bring_L44 N (nI n0) x2 K (n2 + 1) (nI b) m (nI t) (tU vM as f) = if m < fstV N vS vP n0 t then F_X8_bring_L44 N (nI n0) x2 K n2 (nI t) (fstV N vS vP n0 t) (nI (t + 1)) (tU vM as f') else F_X8_bring_L44 N (nI n0) x2 K n2 (nI b) m (nI (t + 1)) (tU vM as f') := fun K => by
      rw [F_X8_bring_L44, k2, t2, show (tU vM as f) 4 2 = nI S.2.2.1 from (hf 2 (by omega)).trans hm.2.2.1, if_pos hlt, a2, bs, a3, bs, k5, t5, show (tU vM as g) 4 5 = fstV N vS vP n0 t from a4, nI_1]
      simp only [jn_eq, k5]
      rw [c1, bs, bs, bs, bs]
      by_cases z : m < fstV N vS vP n0 t
      · rw [if_pos z, if_pos z, if_pos z]
      · rw [if_neg z, if_neg z, if_neg z]
    by_cases z : m < fstV N vS vP n0 t
    · obtain ⟨y, zz, w', g', d1, d2, d3, d4⟩ := ih (t + 1) n n2 t (fstV N vS vP n0 t) w f' (by omega) c2 (by omega) (by omega) (Or.inr ⟨by omega, by omega, rfl⟩)
      exact ⟨y, zz, w', g', by rw [e5, if_pos z, d1], fun K => by rw [e8, if_pos z, d2], d3, d4⟩
    · have hb' : 0 < t + 1 ∧ b < t + 1 ∧ m = fstV N vS vP n0 b := by
        rcases hb with ⟨p1, p2, p3⟩ | ⟨p1, p2, p3⟩
        · exfalso
          apply z
          rw [p3, ek]
          refine Int32.lt_iff_toInt_lt.mpr ?_
          rw [nI_toInt (by omega)]
          show (-1 : Int) < _
          omega
        · exact ⟨by omega, by omega, p3⟩
      obtain ⟨y, zz, w', g', d1, d2, d3, d4⟩ := ih (t + 1) n n2 b m w f' (by omega) c2 (by omega) (by omega) (Or.inr hb')
      exact ⟨y, zz, w', g', by rw [e5, if_neg z, d1], fun K => by rw [e8, if_neg z, d2], d3, d4⟩
theorem st_bring {N : Nat} (hN : 3000 ≤ N) : St_bring N Rel := by
  intro vR vW vT vS vD vA vI vJ vE vF vP vQ vK vM gW gA gL x1 x2 hrel
  obtain ⟨S, hc, hm, hi, hs⟩ := hrel.2.2.2.1
  have h1 := hi.1
  rcases no_show (N := N) (vR := vR) hc hi.1 hs with ⟨a, b⟩ | ⟨a, b, hp⟩
  · exact ⟨(-1000002, vQ), (-1000002, vM), by unfold F_X7_bring; rw [a]; rfl, by unfold F_X8_bring; rw [b]; rfl, rfl, hrel⟩
  rcases rg (N := N) (l := 1) (h := 30) 1 30 rfl rfl (b := 1) (c := 30) rfl rfl (by omega) (by omega) x1 with ⟨c, d⟩ | ⟨c, d, e⟩ | ⟨n, n1, n30, rfl, c, d, e⟩
  · exact ⟨(-1000001, vQ), (-1000001, vM), by unfold F_X7_bring; rw [a, bs, if_pos rfl, if_pos c], by unfold F_X8_bring; rw [b, if_neg one0, d]; rfl, rfl, hrel⟩
  · exact ⟨(-1000001, vQ), (-1000001, vM), by unfold F_X7_bring; rw [a, bs, if_pos rfl, if_neg c, if_pos d], by unfold F_X8_bring; rw [b, if_neg one0, e]; rfl, rfl, hrel⟩
  rcases rgW (N := N) x2 with ⟨c2, d2⟩ | ⟨c2, d2, e2⟩ | ⟨n2, -, -, c2, d2, e2⟩
  · exact ⟨(-1000001, vQ), (-1000001, vM), by unfold F_X7_bring; rw [a, bs, if_pos rfl, if_neg c, if_neg d, if_pos c2], by unfold F_X8_bring; rw [b, if_neg one0, e, bs, if_neg one0, d2]; rfl, rfl, hrel⟩
  · exact ⟨(-1000001, vQ), (-1000001, vM), by unfold F_X7_bring; rw [a, bs, if_pos rfl, if_neg c, if_neg d, if_neg c2, if_pos d2], by unfold F_X8_bring; rw [b, if_neg one0, e, bs, if_neg one0, e2]; rfl, rfl, hrel⟩
  obtain ⟨as, a1, a2⟩ := p_asd hN vM
  obtain ⟨y, z, w, g, q1, q2, q3, q4⟩ := l_bring (vP := vP) (x2 := x2) (n0 := n) hN (by omega) hc hm hi a2 S.2.2.1 0 N N 0 (-1) vQ (vM 4) (by omega) (fun _ _ => rfl) (by omega) (by omega) (Or.inl ⟨rfl, rfl, rfl⟩)
  obtain ⟨-, r2, r3⟩ : 0 < S.2.2.1 ∧ y < S.2.2.1 ∧ z = fstV N vS vP n y := by
    rcases q4 with ⟨q, -, -⟩ | q
    · omega
    · exact q
  obtain ⟨w', -, -, v1, -⟩ := first_any (vP := vP) (vM := vM) (as := as) (t := y) (n0 := n) hN (by omega) hc hi r2 w (rm_cg hm hi q3)
  have fin := fun u => rel_fore hrel (a := as) (g := g) q3 vE vF vP u gL
  by_cases x0 : x2 = 0
  · refine ⟨(nI y, w), (nI y, tU vM as g), ?_, ?_, rfl, fin _⟩
    · unfold F_X7_bring F_X2_bestFirst
      rw [a, bs, if_pos rfl, if_neg c, if_neg d, if_neg c2, if_neg d2, show F_X2_bestFirst_L8 N vS vP (nI n) N (0 : Int32) (-1 : Int32) (0 : Int32) vQ = some (nI y, w) from q1, bs, if_pos x0]
    · unfold F_X8_bring
      rw [b, if_neg one0, e, bs, if_neg one0, e2, bs, if_neg one0, a1, bs, show ∀ K, F_X8_bring_L44 N (nI n) x2 K N (0 : Int32) (-1 : Int32) (0 : Int32) (tU vM as (vM 4)) = K (nI y) z (tU vM as g) from q2, if_pos x0]
  · refine ⟨(z, w'), (z, tU vM as g), ?_, ?_, rfl, fin _⟩
    · unfold F_X7_bring F_X2_bestFirst
      rw [a, bs, if_pos rfl, if_neg c, if_neg d, if_neg c2, if_neg d2, show F_X2_bestFirst_L8 N vS vP (nI n) N (0 : Int32) (-1 : Int32) (0 : Int32) vQ = some (nI y, w) from q1, bs, if_neg x0, v1, r3]
      rfl
    · unfold F_X8_bring
      rw [b, if_neg one0, e, bs, if_neg one0, e2, bs, if_neg one0, a1, bs, show ∀ K, F_X8_bring_L44 N (nI n) x2 K N (0 : Int32) (-1 : Int32) (0 : Int32) (tU vM as (vM 4)) = K (nI y) z (tU vM as g) from q2, if_neg x0]
