/-! show: a clause, class and model in step -/
theorem tk_adv {n a : Nat} {ch : Nat → Nat} {v : SV} (h : TkAt n ch v a) (ha : a < n) (hc : 97 ≤ ch a) : v 0 10 = nI (a + 1) := by
  have hd : numL n ch a = 0 := by
    unfold numL
    rw [if_neg (fun q => by have := dg_t.mp q; omega)]
  rcases h.2 with ⟨_, g, _⟩ | ⟨_, _, _, _, g⟩ | ⟨g, _⟩ | ⟨g, _⟩
  · omega
  · exact g
  · omega
  · omega
def DInv (v vD : SV) (S : Sh) : Prop := RC vD S ∧ RM (v 7) S ∧ SInv 999 S ∧ S.2.2.2.2 = List.range S.2.2.1 ∧ ∀ s, s < 6 → v 7 (49 + s) = 0
theorem p_thing {N n a : Nat} (hN : 3000 ≤ N) {ch : Nat → Nat} {fl : Int32} {vT vD v : SV} {S : Sh} (hn : n ≤ 120) (hch : ∀ i, i < n → ch i < 256) (hT : TcAt n ch fl vT a) (hM : TmAt n ch v a) (hD : DInv v vD S) (han : a < n) (hso : 0 < sortN (ch a)) : (∃ vT' vD' w, F_X6_readThing N vT vD = some (0, vT', vD') ∧ F_X8_readThing N v (nI (sortN (ch a))) = some (0, w) ∧ FailR vT' w ∧ Oth v w) ∨ (∃ b vT' vD' w S', F_X6_readThing N vT vD = some (1, vT', vD') ∧ F_X8_readThing N v (nI (sortN (ch a))) = some (1, w) ∧ a < b ∧ TcAt n ch fl vT' b ∧ TmAt n ch w b ∧ Oth v w ∧ DInv w vD' S' ∧ 0 < S'.2.2.1) := by
  obtain ⟨hc, hm, hi, hl, hz⟩ := hD
  obtain ⟨m8, m6, man, hk⟩ := hM
  have hs5 := sort_le (ch a)
  have hcl := sort_cls hso
  have h1 := hi.1
  have h6 := hi.2.1
  have hlen : S.2.2.2.2.length = S.2.2.1 := by rw [hl, List.length_range]
  have es := p_sort hN hn hch man hT
  rw [if_pos (And.intro han hso)] at es
  have d2 := hc.2.2.1
  have d3 := hc.2.2.2.1
  have r2 := hm.2.2.1
  have r3 := hm.2.2.2.1
  have r6 : v 7 6 = nI S.2.2.1 := by rw [hm.2.2.2.2.1, hlen]
  have hfin : vT 0 2 = v 0 13 := by rw [hT.2.1, hk.1]
  by_cases s0 : 0 < S.2.2.2.1
  · have hp : (0 : Int32) < nI S.2.2.2.1 := nI_lt (a := 0) s0 (by omega)
    refine Or.inl ⟨up2 (up2 vT 0 3 1) 0 4 (vT 0 2), vD, up2 v 0 14 1, ?_, ?_, ⟨rfl, hfin⟩, Oth_14⟩
    · unfold F_X6_readThing F_X6_flawed
      rw [es, bs]
      simp only [jn_eq]
      rw [if_neg (nI_pos (by omega)), d3, if_pos hp, bs]
      exact zr_zero
    · unfold F_X8_readThing F_X8_faults
      simp only [jn_eq, k2, k3, t2, t3, r2, r3, bs, zr_zero, if_pos hp]
      by_cases t6' : nI S.2.2.1 = 6
      · rw [if_pos t6']
      · rw [if_neg t6']
  have hp0 : ¬ (0 : Int32) < nI S.2.2.2.1 := nI_nlt (a := 0) (by omega) (by decide)
  by_cases t66 : S.2.2.1 < 6
  case neg =>
    have e6 : nI S.2.2.1 = 6 := by rw [show S.2.2.1 = 6 from by omega]; rfl
    refine Or.inl ⟨up2 (up2 vT 0 3 3) 0 4 (vT 0 2), vD, up2 v 0 14 3, ?_, ?_, ⟨rfl, hfin⟩, Oth_14⟩
    · unfold F_X6_readThing F_X6_flawed
      rw [es, bs]
      simp only [jn_eq]
      rw [if_neg (nI_pos (by omega)), d3, if_neg hp0, d2, e6, if_neg (by decide), bs]
      exact zr_zero
    · unfold F_X8_readThing F_X8_faults
      simp only [jn_eq, k2, k3, t2, t3, r2, r3, bs, zr_zero, if_neg hp0, if_pos e6]
  have hlt6 : nI S.2.2.1 < (6 : Int32) := nI_lt (b := 6) t66 (by decide)
  have hne6 : ¬ nI S.2.2.1 = 6 := fun q => by have := (nI_eq (b := 6) (by omega) (by decide)).mp q; omega
  obtain ⟨w1, u1, u2, u3⟩ := p_tok (a := a + 1) hN hn hch m8 m6 (tk_adv hk han hcl.1) (by omega)
  have hw7 : w1 7 = v 7 := u3.1 7 (by decide)
  generalize ht : S.2.2.1 = t at *
  generalize hkd : sortN (ch a) = k at *
  have hv1 : ∃ v1, v1 = up2 (up2 (up2 (up2 w1 7 (7 + t) (nI k)) 7 (31 + t) (nI t)) 7 2 (nI (t + 1))) 7 6 (nI (t + 1)) := ⟨_, rfl⟩
  obtain ⟨v1, hv1⟩ := hv1
  have v17 : v1 7 = upd (upd (upd (upd (v 7) (7 + t) (nI k)) (31 + t) (nI t)) 2 (nI (t + 1))) 6 (nI (t + 1)) := by rw [hv1, ← hw7]; rfl
  have v10 : v1 0 = w1 0 := by rw [hv1]; rfl
  have ho1 : Oth v v1 := by
    rw [hv1]
    exact Oth_tr (Oth_s u3) (Oth_tr Oth_7 (Oth_tr Oth_7 (Oth_tr Oth_7 Oth_7)))
  have hM1 : TmAt n ch v1 (a + 1) := ⟨(ho1.2 8 (by omega)).trans m8, fun i hi2 => by rw [ho1.1 6 (by decide) (by decide)]; exact m6 i hi2, by omega, by unfold TkAt; rw [v10]; exact u2⟩
  have e8 : F_X8_readThing N v (nI k) = (F_X8_takesNumber N v1 (nI 0) (nI 9) (nI (13 + t)) (nI 44)).bind (fun q96 => if (q96.1) = (0 : Int32) then (some ((0 : Int32), (q96.2))) else ((F_X8_takesNumber N (q96.2) (nI 1) (nI 20) (nI (19 + t)) (nI 44)).bind (fun q112 => if (q112.1) = (0 : Int32) then (some ((0 : Int32), (q112.2))) else ((F_X8_takesNumber N (q112.2) (nI 0) (nI 9) (nI (25 + t)) (nI 59)).bind (fun q128 => if (q128.1) = (0 : Int32) then (some ((0 : Int32), (q128.2))) else (some ((1 : Int32), (q128.2)))))))) := by
    have hk7 : ∀ {β : Type} {o : Option β}, chk 55 (nI (7 + t)) o = o := chk_in (by omega) (by decide)
    have hk31 : ∀ {β : Type} {o : Option β}, chk 55 (nI (31 + t)) o = o := chk_in (by omega) (by decide)
    have c7 : (nI (7 + t)).toNatClampNeg = 7 + t := nI_clamp (by omega)
    have c31 : (nI (31 + t)).toNatClampNeg = 31 + t := nI_clamp (by omega)
    have ex : (upd (upd (v 7) (7 + t) (nI k)) (31 + t) (nI t)) 2 = nI t := by rw [upd_n (by omega), upd_n (by omega), r2]
    have ey : ∀ z, (upd (upd (upd (v 7) (7 + t) (nI k)) (31 + t) (nI t)) 2 z) 6 = nI t := fun z => by rw [upd_n (by omega), upd_n (by omega), upd_n (by omega), r6]
    unfold F_X8_readThing
    simp only [jn_eq, k2, k3, k6, t2, t3, t6, r2, r3, if_neg hp0, if_neg hne6, u1, bs, show (7 : Int32) + nI t = nI (7 + t) from nI_add 7 t, show (31 : Int32) + nI t = nI (31 + t) from nI_add 31 t, show (13 : Int32) + nI t = nI (13 + t) from nI_add 13 t, show (19 : Int32) + nI t = nI (19 + t) from nI_add 19 t, show (25 : Int32) + nI t = nI (25 + t) from nI_add 25 t, hk7, hk31, c7, c31, hw7, ex, ey, nI_1]
    rw [hv1]
    rfl
  have e5 : F_X6_readThing N vT vD = (F_X6_readNumber N (up2 vT 0 2 (nI (a + 1))) (nI 0) (nI 9) (nI 44)).bind (fun q53 => if (q53.1) = (-1 : Int32) then some (0, (q53.2), vD) else ((F_X6_readNumber N (q53.2) (nI 1) (nI 20) (nI 44)).bind (fun q72 => if (q72.1) = (-1 : Int32) then some (0, (q72.2), vD) else ((F_X6_readNumber N (q72.2) (nI 0) (nI 9) (nI 59)).bind (fun q93 => if (q93.1) = (-1 : Int32) then some (0, (q93.2), vD) else ((F_X5_addThing N vD (nI k) (q53.1) (q72.1) (q93.1)).bind (fun q115 => some (1, (q93.2), q115)))))))) := by
    unfold F_X6_readThing
    rw [es, bs]
    simp only [jn_eq]
    rw [if_neg (nI_pos (by omega)), d3, if_neg hp0, d2, if_pos hlt6, hT.2.1, nI_1, show nI (k - 1) + 1 = nI k from by rw [nI_1, show k - 1 + 1 = k from by omega]]
    rfl
  have hT1 : TcAt n ch fl (up2 vT 0 2 (nI (a + 1))) (a + 1) := ⟨hT.1, rfl, hT.2.2.1, hT.2.2.2⟩
  rw [e5, e8]
  rcases p_num (lo := 0) (hi := 9) (c := 44) (idx := 13 + t) hN hn hch hT1 hM1 (by omega) (Or.inl rfl) (by omega) with ⟨vT1, w2, n1, n2, n3, n4⟩ | ⟨lb, b1, vT1, w2, lb0, lb9, ab1, bn1, n1, n2, nT1, nM1, n4, n7⟩
  · exact Or.inl ⟨vT1, vD, w2, by rw [n1]; rfl, by rw [n2]; rfl, n3, Oth_tr ho1 n4⟩
  rw [n1, n2, bs, bs, if_neg (nI_m1 (by omega)), if_neg one0]
  rcases p_num (lo := 1) (hi := 20) (c := 44) (idx := 19 + t) hN hn hch nT1 nM1 (by omega) (Or.inl rfl) (by omega) with ⟨vT2, w3, o1, o2, o3, o4⟩ | ⟨wt, b2, vT2, w3, wt1, wt20, ab2, bn2, o1, o2, oT1, oM1, o4, o7⟩
  · exact Or.inl ⟨vT2, vD, w3, by rw [o1]; rfl, by rw [o2]; rfl, o3, Oth_tr ho1 (Oth_tr n4 o4)⟩
  rw [o1, o2, bs, bs, if_neg (nI_m1 (by omega)), if_neg one0]
  rcases p_num (lo := 0) (hi := 9) (c := 59) (idx := 25 + t) hN hn hch oT1 oM1 (by omega) (Or.inr rfl) (by omega) with ⟨vT3, w4, p1, p2, p3, p4⟩ | ⟨jy, b3, vT3, w4, jy0, jy9, ab3, bn3, p1, p2, pT1, pM1, p4, p7⟩
  · exact Or.inl ⟨vT3, vD, w4, by rw [p1]; rfl, by rw [p2]; rfl, p3, Oth_tr ho1 (Oth_tr n4 (Oth_tr o4 p4))⟩
  rw [p1, p2, bs, bs, if_neg (nI_m1 (by omega)), if_neg one0]
  obtain ⟨D', q1, q2⟩ := p_addT N hc (by rw [hlen, ht]) (by omega) (nI k) (nI lb) (nI wt) (nI jy)
  have hw4 : w4 7 = thF (v 7) t (nI k) (nI lb) (nI wt) (nI jy) := by rw [p7, o7, n7, v17]; rfl
  have hrm := rm_addT (kd := nI k) (lb := nI lb) (wt := nI wt) (jy := nI jy) hm (by rw [hlen, ht]) (by omega) h6
  rw [ht] at hrm
  refine Or.inr ⟨b3, vT3, D', w4, addT S (nI k) (nI lb) (nI wt) (nI jy), by rw [q1]; rfl, rfl, by omega, pT1, pM1, Oth_tr ho1 (Oth_tr n4 (Oth_tr o4 p4)), ⟨q2, by rw [hw4]; exact hrm, siT hi (by rw [hl, ht]) (by omega) (by omega) lb9 ⟨wt1, wt20⟩ jy9, ?_, fun s hs => ?_⟩, by show 0 < S.2.2.1 + 1; omega⟩
  · show S.2.2.2.2 ++ [S.2.2.1] = List.range (S.2.2.1 + 1)
    rw [hl, ht, List.range_succ]
  · rw [hw4, thF_n (by omega)]
    exact hz s hs
theorem p_seat {N n a : Nat} (hN : 3000 ≤ N) {ch : Nat → Nat} {fl : Int32} {vT vD v : SV} {S : Sh} (hn : n ≤ 120) (hch : ∀ i, i < n → ch i < 256) (hT : TcAt n ch fl vT a) (hM : TmAt n ch v a) (hD : DInv v vD S) (han : a < n) (hcz : ch a = 122) (hth : 0 < S.2.2.1) : (∃ vT' vD' w, F_X6_readSeat N vT vD = some (0, vT', vD') ∧ F_X8_readSeat N v = some (0, w) ∧ FailR vT' w ∧ Oth v w) ∨ (∃ b vT' vD' w S', F_X6_readSeat N vT vD = some (1, vT', vD') ∧ F_X8_readSeat N v = some (1, w) ∧ a < b ∧ TcAt n ch fl vT' b ∧ TmAt n ch w b ∧ Oth v w ∧ DInv w vD' S' ∧ 0 < S'.2.2.1) := by
  obtain ⟨hc, hm, hi, hl, hz⟩ := hD
  obtain ⟨m8, m6, man, hk⟩ := hM
  have h1 := hi.1
  have h6 := hi.2.1
  have hlen : S.2.2.2.2.length = S.2.2.1 := by rw [hl, List.length_range]
  have d3 := hc.2.2.2.1
  have r2 := hm.2.2.1
  have r3 := hm.2.2.2.1
  have hfin : vT 0 2 = v 0 13 := by rw [hT.2.1, hk.1]
  have hn0 : ¬ nI S.2.2.1 = 0 := nI_ne0 hth (by omega)
  by_cases t66 : S.2.2.2.1 < 6
  case neg =>
    have e6 : nI S.2.2.2.1 = 6 := by rw [show S.2.2.2.1 = 6 from by omega]; rfl
    refine Or.inl ⟨up2 (up2 vT 0 3 3) 0 4 (vT 0 2), vD, up2 v 0 14 3, ?_, ?_, ⟨rfl, hfin⟩, Oth_14⟩
    · unfold F_X6_readSeat F_X6_flawed
      rw [d3, e6, if_neg (by decide), bs]
      exact zr_zero
    · unfold F_X8_readSeat F_X8_faults
      simp only [jn_eq, k2, k3, t2, t3, r2, r3, bs, zr_zero, if_neg hn0, if_pos e6]
  have hlt6 : nI S.2.2.2.1 < (6 : Int32) := nI_lt (b := 6) t66 (by decide)
  have hne6 : ¬ nI S.2.2.2.1 = 6 := fun q => by have := (nI_eq (b := 6) (by omega) (by decide)).mp q; omega
  obtain ⟨w1, u1, u2, u3⟩ := p_tok (a := a + 1) hN hn hch m8 m6 (tk_adv hk han (by omega)) (by omega)
  have hw7 : w1 7 = v 7 := u3.1 7 (by decide)
  generalize ht : S.2.2.2.1 = t at *
  obtain ⟨v1, hv1⟩ : ∃ v1, v1 = up2 w1 7 3 (nI (t + 1)) := ⟨_, rfl⟩
  have v17 : v1 7 = upd (v 7) 3 (nI (t + 1)) := by rw [hv1, ← hw7]; rfl
  have v10 : v1 0 = w1 0 := by rw [hv1]; rfl
  have ho1 : Oth v v1 := by
    rw [hv1]
    exact Oth_tr (Oth_s u3) Oth_7
  have hM1 : TmAt n ch v1 (a + 1) := ⟨(ho1.2 8 (by omega)).trans m8, fun i hi2 => by rw [ho1.1 6 (by decide) (by decide)]; exact m6 i hi2, by omega, by unfold TkAt; rw [v10]; exact u2⟩
  have e8 : F_X8_readSeat N v = (F_X8_takesNumber N v1 (nI 0) (nI 9) (nI (37 + t)) (nI 44)).bind (fun q65 => if (q65.1) = (0 : Int32) then (some ((0 : Int32), (q65.2))) else ((F_X8_takesNumber N (q65.2) (nI 1) (nI 20) (nI (43 + t)) (nI 59)).bind (fun q81 => if (q81.1) = (0 : Int32) then (some ((0 : Int32), (q81.2))) else (some ((1 : Int32), (q81.2)))))) := by
    unfold F_X8_readSeat
    simp only [jn_eq, k2, k3, t2, t3, r2, r3, if_neg hn0, if_neg hne6, u1, bs, show (37 : Int32) + nI t = nI (37 + t) from nI_add 37 t, show (43 : Int32) + nI t = nI (43 + t) from nI_add 43 t, hw7, nI_1]
    rw [hv1]
    rfl
  have e5 : F_X6_readSeat N vT vD = (F_X6_readNumber N (up2 vT 0 2 (nI (a + 1))) (nI 0) (nI 9) (nI 44)).bind (fun q31 => if (q31.1) = (-1 : Int32) then some (0, (q31.2), vD) else ((F_X6_readNumber N (q31.2) (nI 1) (nI 20) (nI 59)).bind (fun q50 => if (q50.1) = (-1 : Int32) then some (0, (q50.2), vD) else ((F_X5_addSeat N vD (q31.1) (q50.1)).bind (fun q64 => some (1, (q50.2), q64)))))) := by
    unfold F_X6_readSeat
    rw [d3, if_pos hlt6, hT.2.1, nI_1]
    simp only [jn_eq]
    rfl
  have hT1 : TcAt n ch fl (up2 vT 0 2 (nI (a + 1))) (a + 1) := ⟨hT.1, rfl, hT.2.2.1, hT.2.2.2⟩
  rw [e5, e8]
  rcases p_num (lo := 0) (hi := 9) (c := 44) (idx := 37 + t) hN hn hch hT1 hM1 (by omega) (Or.inl rfl) (by omega) with ⟨vT1, w2, n1, n2, n3, n4⟩ | ⟨lb, b1, vT1, w2, lb0, lb9, ab1, bn1, n1, n2, nT1, nM1, n4, n7⟩
  · exact Or.inl ⟨vT1, vD, w2, by rw [n1]; rfl, by rw [n2]; rfl, n3, Oth_tr ho1 n4⟩
  rw [n1, n2, bs, bs, if_neg (nI_m1 (by omega)), if_neg one0]
  rcases p_num (lo := 1) (hi := 20) (c := 59) (idx := 43 + t) hN hn hch nT1 nM1 (by omega) (Or.inr rfl) (by omega) with ⟨vT2, w3, o1, o2, o3, o4⟩ | ⟨pt, b2, vT2, w3, wt1, wt20, ab2, bn2, o1, o2, oT1, oM1, o4, o7⟩
  · exact Or.inl ⟨vT2, vD, w3, by rw [o1]; rfl, by rw [o2]; rfl, o3, Oth_tr ho1 (Oth_tr n4 o4)⟩
  rw [o1, o2, bs, bs, if_neg (nI_m1 (by omega)), if_neg one0]
  obtain ⟨D', q1, q2⟩ := p_addS N hc (by omega) (nI lb) (nI pt)
  have hw4 : w3 7 = seF (v 7) t (nI lb) (nI pt) := by rw [o7, n7, v17]; rfl
  have hrm := rm_addS (lb := nI lb) (pt := nI pt) hm (by omega) h1 (by omega) (by rw [ht]; exact hz t t66)
  rw [ht] at hrm
  refine Or.inr ⟨b2, vT2, D', w3, addS S (nI lb) (nI pt), by rw [q1]; rfl, rfl, by omega, oT1, oM1, Oth_tr ho1 (Oth_tr n4 o4), ⟨q2, by rw [hw4]; exact hrm, siS hi (by omega) lb9 ⟨wt1, wt20⟩, hl, fun s hs => ?_⟩, hth⟩
  rw [hw4, seF_n (by omega)]
  exact hz s hs
