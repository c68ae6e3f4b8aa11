/-! who, wanted: the steps -/
theorem st_who {N : Nat} (hN : 3000 ≤ N) : St_who N Rel := by
  intro vR vW vT vS vD vA vI vJ vE vF vP vQ vK vM gW gA gL x1 x2 x3 x4 x5 hrel
  have keep := hrel
  obtain ⟨hr, hs, ht, ⟨S, hc, hm, hi, hs4⟩, hacts, hI, hk⟩ := hrel
  have h1 := hi.1
  have bad : ∀ {F7 : Option (Int32 × SV × SV × SV)} {F8 : Option (Int32 × SV)}, F7 = some (-1000001, vR, vE, vF) → F8 = some (-1000001, vM) → ∃ (r : Int32 × SV × SV × SV) (m : Int32 × SV), F7 = some r ∧ F8 = some m ∧ r.1 = m.1 ∧ Rel r.2.1 vW vT vS vD vA vI vJ r.2.2.1 r.2.2.2 vP vQ vK m.2 gW gA gL := fun a b => ⟨_, _, a, b, rfl, keep⟩
  have nb : (-1000001 : Int32) < 0 := by decide
  rcases thing_ix (N := N) hc hm hi x1 with ⟨a, b⟩ | ⟨q, hq, rfl, a, b⟩
  · exact bad (by unfold F_X7_who; rw [a]; rfl) (by
      unfold F_X8_who; rw [b, bs]
      simp only [jn_eq]
      rw [if_pos trivial, if_pos nb])
  rcases rg (N := N) (l := 0) (h := 2) 0 2 rfl rfl (b := 0) (c := 2) rfl rfl (by omega) (by omega) x2 with ⟨c, d⟩ | ⟨c, d, e⟩ | ⟨wh, -, wh2, rfl, c, d, e⟩
  · exact bad (by unfold F_X7_who; rw [a, bs, if_neg one0, if_pos c]) (by
      unfold F_X8_who; rw [b, bs]
      simp only [jn_eq]
      rw [if_neg one0, d, bs, if_pos rfl, if_pos nb])
  · exact bad (by unfold F_X7_who; rw [a, bs, if_neg one0, if_neg c, if_pos d]) (by
      unfold F_X8_who; rw [b, bs]
      simp only [jn_eq]
      rw [if_neg one0, e, bs, if_pos rfl, if_pos nb])
  rcases p_line (N := N) hr x3 x4 x5 with ⟨p1, p2⟩ | ⟨p1, p2, ⟨cc, hcc, f1, f2⟩ | ⟨j, k, m, hj, hkm, m1, m12, rfl, rfl, rfl, f1, f2⟩⟩
  · exact bad (by unfold F_X7_who; rw [a, bs, if_neg one0, if_neg c, if_neg d, p1]; rfl) (by
      unfold F_X8_who; rw [b, bs]
      simp only [jn_eq]
      rw [if_neg one0, e, bs, if_neg one0, p2, bs, if_pos rfl, if_pos nb])
  · have c0 : ¬ cc = 0 := by rcases hcc with h | h <;> rw [h] <;> decide
    have cn : -1000010 - cc < 0 := by rcases hcc with h | h <;> rw [h] <;> decide
    refine ⟨(-1000010 - cc, up2 vR 0 10 cc, vE, vF), (-1000010 - cc, up2 vM 0 3 cc), ?_, ?_, rfl, hr, rfl, ht, ⟨S, hc, hm, hi, hs4⟩, hacts, hI, hk⟩
    · unfold F_X7_who; rw [a, bs, if_neg one0, if_neg c, if_neg d, p1, bs, if_neg one0, f1, bs, if_neg c0, ff]; rfl
    · unfold F_X8_who; rw [b, bs]
      simp only [jn_eq]
      rw [if_neg one0, e, bs, if_neg one0, p2, bs, if_neg one0, f2, bs, if_pos cn]
  obtain ⟨en, e1, e2, e3⟩ := p_hear (N := N) (vW := vW) (gW := gW) hN hj hkm m12 vE
  obtain ⟨as, a1, a2⟩ := p_asd hN vM
  obtain ⟨kk, hi9, hw⟩ : ∃ kk hi9 : Nat, (wh = 0 ∧ kk = 0 ∧ hi9 = 5) ∨ (wh = 1 ∧ kk = 1 ∧ hi9 = 9) ∨ (wh = 2 ∧ kk = 3 ∧ hi9 = 9) := by
    have : wh = 0 ∨ wh = 1 ∨ wh = 2 := by omega
    rcases this with h | h | h
    · exact ⟨0, 5, Or.inl ⟨h, rfl, rfl⟩⟩
    · exact ⟨1, 9, Or.inr (Or.inl ⟨h, rfl, rfl⟩)⟩
    · exact ⟨3, 9, Or.inr (Or.inr ⟨h, rfl, rfl⟩)⟩
  obtain ⟨lo, hlo⟩ : ∃ lo : Nat, (wh = 0 ∧ lo = 1) ∨ (¬ wh = 0 ∧ lo = 0) := by
    by_cases h : wh = 0
    · exact ⟨1, Or.inl ⟨h, rfl⟩⟩
    · exact ⟨0, Or.inr ⟨h, rfl⟩⟩
  obtain ⟨y, w, g, q1, q2, q3⟩ := l_who (N := N) (q := q) (wh := wh) (kk := kk) (hi9 := hi9) hN hj hkm m12 hc hm hi hq hw a2 hr.1 e2 e3 (hi9 + 1 - lo) lo N N 0 vF (vM 4) (by omega) (by omega) (fun _ _ => rfl) (by omega) (by omega)
  refine ⟨(y, up2 vR 0 10 0, en, w), (y, up2 (tU vM as g) 0 3 0), ?_, ?_, rfl, hr, rfl, ht, ⟨S, hc, rm_cg hm hi q3, hi, hs4⟩, hacts, hI, hk⟩
  · unfold F_X7_who F_X4_shapesThatFit
    rw [a, bs, if_neg one0, if_neg c, if_neg d, p1, bs, if_neg one0, f1, bs, if_pos rfl, e1, bs]
    simp only [jn_eq]
    have es : (if nI wh = 0 then (if nI wh = 0 then F_X4_shapesThatFit_L30 N vS en (nI q) (nI wh) (5 : Int32) N (0 : Int32) (1 : Int32) vF else F_X4_shapesThatFit_L30 N vS en (nI q) (nI wh) (9 : Int32) N (0 : Int32) (1 : Int32) vF) else (if nI wh = 0 then F_X4_shapesThatFit_L30 N vS en (nI q) (nI wh) (5 : Int32) N (0 : Int32) (0 : Int32) vF else F_X4_shapesThatFit_L30 N vS en (nI q) (nI wh) (9 : Int32) N (0 : Int32) (0 : Int32) vF)) = some (y, w) := by
      rw [← q1]
      rcases hw with ⟨h, -, h9⟩ | ⟨h, -, h9⟩ | ⟨h, -, h9⟩
      · have hl : lo = 1 := by omega
        rw [h, h9, hl, if_pos (show nI 0 = 0 from rfl), if_pos (show nI 0 = 0 from rfl)]; rfl
      · have hl : lo = 0 := by omega
        rw [h, h9, hl, if_neg (show ¬ nI 1 = 0 by decide), if_neg (show ¬ nI 1 = 0 by decide)]; rfl
      · have hl : lo = 0 := by omega
        rw [h, h9, hl, if_neg (show ¬ nI 2 = 0 by decide), if_neg (show ¬ nI 2 = 0 by decide)]; rfl
    rw [es, bs, fn]
    rfl
  · unfold F_X8_who; rw [b, bs]
    simp only [jn_eq]
    rw [if_neg one0, e, bs, if_neg one0, p2, bs, if_neg one0, f2, bs, if_neg (show ¬ (0 : Int32) < 0 by decide), a1, bs]
    have em : ∀ K, (if nI wh = 0 then (if nI wh = 0 then F_X8_who_L101 N (nI wh) (nI j) (nI k) (nI m) ((7 : Int32) + nI q) K N (0 : Int32) (1 : Int32) (tU vM as (vM 4)) else F_X8_who_L101 N (nI wh) (nI j) (nI k) (nI m) ((7 : Int32) + nI q) K N (0 : Int32) (0 : Int32) (tU vM as (vM 4))) else (if nI wh = 1 then (if nI wh = 0 then F_X8_who_L101 N (nI wh) (nI j) (nI k) (nI m) ((13 : Int32) + nI q) K N (0 : Int32) (1 : Int32) (tU vM as (vM 4)) else F_X8_who_L101 N (nI wh) (nI j) (nI k) (nI m) ((13 : Int32) + nI q) K N (0 : Int32) (0 : Int32) (tU vM as (vM 4))) else (if nI wh = 0 then F_X8_who_L101 N (nI wh) (nI j) (nI k) (nI m) ((25 : Int32) + nI q) K N (0 : Int32) (1 : Int32) (tU vM as (vM 4)) else F_X8_who_L101 N (nI wh) (nI j) (nI k) (nI m) ((25 : Int32) + nI q) K N (0 : Int32) (0 : Int32) (tU vM as (vM 4))))) = K y (tU vM as g) := fun K => by
      rw [← q2 K]
      rcases hw with ⟨h, hkk, -⟩ | ⟨h, hkk, -⟩ | ⟨h, hkk, -⟩
      · have hl : lo = 1 := by omega
        rw [h, hkk, hl, if_pos (show nI 0 = 0 from rfl), if_pos (show nI 0 = 0 from rfl), show (7 : Int32) + nI q = nI (7 + q) from nI_add 7 q]; rfl
      · have hl : lo = 0 := by omega
        rw [h, hkk, hl, if_neg (show ¬ nI 1 = 0 by decide), if_pos (show nI 1 = 1 from rfl), if_neg (show ¬ nI 1 = 0 by decide), show (13 : Int32) + nI q = nI (13 + q) from nI_add 13 q]; rfl
      · have hl : lo = 0 := by omega
        rw [h, hkk, hl, if_neg (show ¬ nI 2 = 0 by decide), if_neg (show ¬ nI 2 = 1 by decide), if_neg (show ¬ nI 2 = 0 by decide), show (25 : Int32) + nI q = nI (25 + q) from nI_add 25 q]; rfl
    rw [em, mw]
    rfl
theorem st_wanted {N : Nat} (hN : 3000 ≤ N) : St_wanted N Rel := by
  intro vR vW vT vS vD vA vI vJ vE vF vP vQ vK vM gW gA gL x1 x2 x3 x4 x5 hrel
  have keep := hrel
  obtain ⟨hr, hs, ht, ⟨S, hc, hm, hi, hs4⟩, hacts, hI, hk⟩ := hrel
  have h6 := hi.2.1
  have bad : ∀ {F7 : Option (Int32 × SV × SV × SV)} {F8 : Option (Int32 × SV)} (x : Int32), F7 = some (x, vR, vE, vF) → F8 = some (x, vM) → ∃ (r : Int32 × SV × SV × SV) (m : Int32 × SV), F7 = some r ∧ F8 = some m ∧ r.1 = m.1 ∧ Rel r.2.1 vW vT vS vD vA vI vJ r.2.2.1 r.2.2.2 vP vQ vK m.2 gW gA gL := fun x a b => ⟨_, _, a, b, rfl, keep⟩
  rcases seat_ix (N := N) hc hm h6 x1 with ⟨a, b⟩ | ⟨q, hq, rfl, a, b⟩
  · exact bad (-1000001) (by unfold F_X7_wanted; rw [a]; rfl) (by unfold F_X8_wanted; rw [b]; rfl)
  rcases rgW (N := N) x2 with ⟨c, d⟩ | ⟨c, d, e⟩ | ⟨wh, wh1, rfl, c, d, e⟩
  · exact bad (-1000001) (by unfold F_X7_wanted; rw [a, bs, if_neg one0, if_pos c]) (by unfold F_X8_wanted; rw [b, bs, if_neg one0, d]; rfl)
  · exact bad (-1000001) (by unfold F_X7_wanted; rw [a, bs, if_neg one0, if_neg c, if_pos d]) (by unfold F_X8_wanted; rw [b, bs, if_neg one0, e]; rfl)
  obtain ⟨b1, b2, b3⟩ := hc.2.2.2.2.2.2.2.2.1 q hq
  obtain ⟨n1, n2, n3⟩ := hm.2.2.2.2.2.2.2.2.1 q hq
  have hpl := p_line (N := N) hr x3 x4 x5
  have f7 : F_X7_canTell N x3 x5 = some 1 → F_X7_wanted N vR vW vS vE vF gW (nI q) (nI wh) x3 x4 x5 = if S.2.1 6 q = 0 then ((F_X3_findingOfSpan N vW x3 x4 x5).bind (fun q56 => if q56 = (0 : Int32) then ((F_X4_hear N vW vE gW x3 x4 x5).bind (fun q86 => if nI wh = 0 then ((F_X4_wantsThatFit N vS q86 vF (nI q)).bind (fun q103 => (F_X7_foundNothing N vR (q103.1)).bind (fun q121 => some ((q121.1), (q121.2), q86, (q103.2))))) else ((F_X4_patienceThatFits N vS q86 vF (nI q)).bind (fun q118 => (F_X7_foundNothing N vR (q118.1)).bind (fun q121 => some ((q121.1), (q121.2), q86, (q118.2))))))) else ((F_X7_found N vR q56).bind (fun q69 => some ((q69.1), (q69.2), vE, vF))))) else some (-1000002, vR, vE, vF) := fun p1 => by
    unfold F_X7_wanted
    rw [a, bs, if_neg one0, if_neg c, if_neg d, p1, bs, if_neg one0, chk_in (by omega) (by decide), nI_clamp (by omega), b3]
    simp only [jn_eq]
  have f8 : F_X8_isLine N vM x3 x5 = some 1 → F_X8_wanted N vM (nI q) (nI wh) x3 x4 x5 = if S.2.1 6 q = 0 then ((F_X8_lacks N vM x3 x4 x5).bind (fun q49 => if (q49.1) < (0 : Int32) then (some ((q49.1), (q49.2))) else ((F_X8_putAside N (q49.2)).bind (fun q63 => F_X8_wanted_L72 N (nI q) (nI wh) x3 x4 x5 (fun (x7_145 : Int32) (v_145 : SV) => (F_X8_well N v_145 x7_145).bind (fun q148 => some ((q148.1), (q148.2)))) N (0 : Int32) (nI wh) q63)))) else some (-1000002, vM) := fun p2 => by
    unfold F_X8_wanted
    rw [b, bs, if_neg one0, e, bs, if_neg one0, p2, bs, if_neg one0, show (49 : Int32) = nI 49 from rfl, nI_add, chk_in (n := 55) (k := 49 + q) (by omega) (by decide), nI_clamp (by omega), n3]
  rcases hpl with ⟨p1, p2⟩ | ⟨p1, p2, hrest⟩
  · exact bad (-1000001) (by unfold F_X7_wanted; rw [a, bs, if_neg one0, if_neg c, if_neg d, p1]; rfl) (by unfold F_X8_wanted; rw [b, bs, if_neg one0, e, bs, if_neg one0, p2]; rfl)
  rw [f7 p1, f8 p2]
  by_cases z : S.2.1 6 q = 0
  case neg => exact bad (-1000002) (by rw [if_neg z]) (by rw [if_neg z])
  rw [if_pos z, if_pos z]
  rcases hrest with ⟨cc, hcc, f1, f2⟩ | ⟨j, k, m, hj, hkm, m1, m12, rfl, rfl, rfl, f1, f2⟩
  · have c0 : ¬ cc = 0 := by rcases hcc with h | h <;> rw [h] <;> decide
    have cn : -1000010 - cc < 0 := by rcases hcc with h | h <;> rw [h] <;> decide
    refine ⟨(-1000010 - cc, up2 vR 0 10 cc, vE, vF), (-1000010 - cc, up2 vM 0 3 cc), ?_, ?_, rfl, hr, rfl, ht, ⟨S, hc, hm, hi, hs4⟩, hacts, hI, hk⟩
    · rw [f1, bs, if_neg c0, ff]; rfl
    · rw [f2, bs, if_pos cn]
  obtain ⟨en, e1, e2, e3⟩ := p_hear (N := N) (vW := vW) (gW := gW) hN hj hkm m12 vE
  obtain ⟨as, a1, a2⟩ := p_asd hN vM
  rw [f1, bs, if_pos rfl, e1, bs, f2, bs, if_neg (show ¬ (0 : Int32) < 0 by decide), a1, bs]
  have hwh : wh = 0 ∨ wh = 1 := by omega
  rcases hwh with rfl | rfl
  · obtain ⟨y, w, g, q1, q2, q3⟩ := l_wants (N := N) (q := q) hN hj hkm m12 hc hm hi hq a2 hr.1 e2 e3 10 0 N N 0 vF (vM 4) (by omega) (by omega) (fun _ _ => rfl) (by omega) (by omega)
    refine ⟨(y, up2 vR 0 10 0, en, w), (y, up2 (tU vM as g) 0 3 0), ?_, ?_, rfl, hr, rfl, ht, ⟨S, hc, rm_cg hm hi q3, hi, hs4⟩, hacts, hI, hk⟩
    · unfold F_X4_wantsThatFit
      rw [if_pos (show nI 0 = 0 from rfl), show F_X4_wantsThatFit_L5 N vS en (nI q) N (0 : Int32) (0 : Int32) vF = some (y, w) from q1, bs, fn]; rfl
    · rw [show ∀ K, F_X8_wanted_L72 N (nI q) (nI 0) (nI j) (nI k) (nI m) K N (0 : Int32) (nI 0) (tU vM as (vM 4)) = K y (tU vM as g) from q2, mw]; rfl
  · obtain ⟨y, w, g, q1, q2, q3⟩ := l_pati (N := N) (q := q) hN hj hkm m12 hc hm hi hq a2 hr.1 e2 e3 20 1 N N 0 vF (vM 4) (by omega) (by omega) (fun _ _ => rfl) (by omega) (by omega)
    refine ⟨(y, up2 vR 0 10 0, en, w), (y, up2 (tU vM as g) 0 3 0), ?_, ?_, rfl, hr, rfl, ht, ⟨S, hc, rm_cg hm hi q3, hi, hs4⟩, hacts, hI, hk⟩
    · unfold F_X4_patienceThatFits
      rw [if_neg (show ¬ nI 1 = 0 by decide), show F_X4_patienceThatFits_L5 N vS en (nI q) N (0 : Int32) (1 : Int32) vF = some (y, w) from q1, bs, fn]; rfl
    · rw [show ∀ K, F_X8_wanted_L72 N (nI q) (nI 1) (nI j) (nI k) (nI m) K N (0 : Int32) (nI 1) (tU vM as (vM 4)) = K y (tU vM as g) from q2, mw]; rfl
