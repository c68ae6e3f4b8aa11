/-! taps, back, sit, undo, image, restore -/
theorem rel_new {vR vW vT vS vD vA vI vJ vE vF vP vQ vK vM gW : SV} {gA gL : Nat → SV} (h : Rel vR vW vT vS vD vA vI vJ vE vF vP vQ vK vM gW gA gL) {vS' vA' vM' : SV} {gA' : Nat → SV} (hk : ∀ k, ¬ k = 0 → ¬ k = 4 → ¬ k = 8 → vM' k = vM k) (h0 : ∀ k, ¬ k = 17 → vM' 0 k = vM 0 k) (hg : RStg vS' (vM 0 4) (vM' 4)) (ha : RAct vA' gA' (vM' 0 17) (vM' 8)) (h1 : vM 0 4 = 1) : Rel vR vW vT vS' vD vA' vI vJ vE vF vP vQ vK vM' gW gA' gL := by
  obtain ⟨hr, hs, ht, -, -, hI, hk2⟩ := h
  refine ⟨?_, ?_, ?_, ?_, ha, ?_, ?_⟩
  · rw [hk 1 (by decide) (by decide) (by decide), hk 2 (by decide) (by decide) (by decide), hk 3 (by decide) (by decide) (by decide)]; exact hr
  · rw [h0 3 (by decide)]; exact hs
  · rw [h0 8 (by decide), h0 9 (by decide), hk 6 (by decide) (by decide) (by decide)]; exact ht
  · rw [h0 4 (by decide)]; exact hg
  · rw [hk 12 (by decide) (by decide) (by decide), hk 13 (by decide) (by decide) (by decide)]; exact hI
  · rw [h0 24 (by decide), hk 14 (by decide) (by decide) (by decide), h0 4 (by decide)]; exact ⟨hk2.1, fun z => absurd (h1.symm.trans z) one0⟩
theorem siTight {B : Nat} {S : Sh} (hi : SInv B S) : ∃ T, S.1 2 = nI T ∧ T ≤ B ∧ SInv T S := by
  obtain ⟨a1, a2, a3, a4, a5, a6, a7, a8, T, C, b1, b2, b3, b4⟩ := hi
  exact ⟨T, b1, b3, a1, a2, a3, a4, a5, a6, a7, a8, T, C, b1, b2, Nat.le_refl _, b4⟩
theorem l_taps {N n0 : Nat} {vR : SV} (hN : 3000 ≤ N) (h24 : n0 ≤ 24) : ∀ d t n n2 vS vA gA vM S B, t + d = n0 → RC vS S → RM (vM 4) S → SInv B S → B + d ≤ 999 → 0 < S.2.2.1 → RAct vA gA (vM 0 17) (vM 8) → d < n → d < n2 → ∃ w vA' gA' vM' S', (∀ K, F_X7_taps_L44 N vR (nI n0) K n (nI t) vS vA gA = K w vA' gA') ∧ (∀ K, F_X8_taps_L44 N (nI n0) K n2 (nI t) vM = K vM') ∧ RC w S' ∧ RM (vM' 4) S' ∧ SInv 999 S' ∧ 0 < S'.2.2.1 ∧ RAct vA' gA' (vM' 0 17) (vM' 8) ∧ (∀ k, ¬ k = 0 → ¬ k = 4 → ¬ k = 8 → vM' k = vM k) ∧ (∀ k, ¬ k = 17 → vM' 0 k = vM 0 k) := by
  intro d
  induction d with
  | zero =>
    intro t n n2 vS vA gA vM S B ht hc hm hi hB hp ha hn hn2
    obtain ⟨n, rfl⟩ : ∃ m, n = m + 1 := ⟨n - 1, by omega⟩
    obtain ⟨n2, rfl⟩ : ∃ m, n2 = m + 1 := ⟨n2 - 1, by omega⟩
    have hnl : ¬ nI t < nI n0 := nI_nlt (by omega) (by omega)
    exact ⟨vS, vA, gA, vM, S, fun K => by rw [F_X7_taps_L44, if_neg hnl], fun K => by rw [F_X8_taps_L44, if_neg hnl], hc, hm, siMono hi (by omega), hp, ha, fun _ _ _ _ => rfl, fun _ _ => rfl⟩
  | succ d ih =>
    intro t n n2 vS vA gA vM S B ht hc hm hi hB hp ha hn hn2
    obtain ⟨n, rfl⟩ : ∃ m, n = m + 1 := ⟨n - 1, by omega⟩
    obtain ⟨n2, rfl⟩ : ∃ m, n2 = m + 1 := ⟨n2 - 1, by omega⟩
    have hlt : nI t < nI n0 := nI_lt (by omega) (by omega)
    obtain ⟨vA1, gA1, f, x, k1, k2, k3⟩ := p_keep hN hc hm (siMono hi (by omega)) hp ha
    obtain ⟨o, ho, -, ⟨w, w1, w2, -⟩, g, g1, g2⟩ := p_tap hN hc (vM := up2 (upA vM 8 f) 0 17 x) hm hi
    obtain ⟨w', vA', gA', vM', S', a1, a2, a3, a4, a5, a6, a7, a8, a9⟩ := ih (t + 1) n n2 w vA1 gA1 (upA (up2 (upA vM 8 f) 0 17 x) 4 g) (tapS S o) (B + 1) (by omega) w2 g2 (siTap hi ho) (by omega) (by rw [tap_th.1]; exact hp) k3 (by omega) (by omega)
    refine ⟨w', vA', gA', vM', S', fun K => ?_, fun K => ?_, a3, a4, a5, a6, a7, fun k z0 z4 z8 => ?_, fun k hk => ?_⟩
    · rw [F_X7_taps_L44, if_pos hlt, k1, bs, w1, bs, nI_1, a1]
    · rw [F_X8_taps_L44, if_pos hlt, k2, bs, g1, bs, nI_1, a2]
    · rw [a8 k z0 z4 z8, upA_k z4, up2_k z0, upA_k z8]
    · rw [a9 k hk, upA_k (by decide), up2_j hk]
      rfl
theorem st_taps {N : Nat} (hN : 3000 ≤ N) : St_taps N Rel := by
  intro vR vW vT vS vD vA vI vJ vE vF vP vQ vK vM gW gA gL x1 hrel
  have keep := hrel
  obtain ⟨hr, hs, ht, ⟨S, hc, hm, hi, hs4⟩, ha, hI, hk⟩ := hrel
  rcases no_show (N := N) (vR := vR) hc hi.1 hs4 with ⟨a, b⟩ | ⟨a, b, hp⟩
  · exact ⟨(-1000002, vS, vA, gA), (-1000002, vM), by unfold F_X7_taps; rw [a]; rfl, by unfold F_X8_taps; rw [b]; rfl, rfl, keep⟩
  rcases rg (N := N) (l := 1) (h := 24) 1 24 rfl rfl (b := 1) (c := 24) rfl rfl (by omega) (by omega) x1 with ⟨c, d⟩ | ⟨c, d, e⟩ | ⟨n, n1, n24, rfl, c, d, e⟩
  · exact ⟨(-1000001, vS, vA, gA), (-1000001, vM), by unfold F_X7_taps; rw [a, bs, if_pos rfl, if_pos c], by unfold F_X8_taps; rw [b, if_neg one0, d]; rfl, rfl, keep⟩
  · exact ⟨(-1000001, vS, vA, gA), (-1000001, vM), by unfold F_X7_taps; rw [a, bs, if_pos rfl, if_neg c, if_pos d], by unfold F_X8_taps; rw [b, if_neg one0, e]; rfl, rfl, keep⟩
  obtain ⟨T, hT, hT9, hiT⟩ := siTight hi
  by_cases q : 999 < T + n
  · have qi : (999 : Int32) < nI (T + n) := nI_lt (a := 999) q (by omega)
    refine ⟨(-1000003, vS, vA, gA), (-1000003, vM), ?_, ?_, rfl, keep⟩
    · unfold F_X7_taps
      rw [a, bs, if_pos rfl, if_neg c, if_neg d, hc.2.2.2.2.2.1, hT, nI_add, if_pos qi]
    · unfold F_X8_taps
      rw [b, if_neg one0, e, bs, if_neg one0, k4, t4, hm.2.2.2.2.2.1, hT, nI_add, if_pos qi]
  · have qi : ¬ (999 : Int32) < nI (T + n) := nI_nlt (a := 999) (by omega) (by decide)
    obtain ⟨w, vA', gA', vM', S', a1, a2, a3, a4, a5, a6, a7, a8, a9⟩ := l_taps (vR := vR) hN n24 n 0 N N vS vA gA vM S T (by omega) hc hm hiT (by omega) hp ha (by omega) (by omega)
    refine ⟨(S'.1 3, w, vA', gA'), (S'.1 3, vM'), ?_, ?_, rfl, rel_new keep a8 a9 ⟨S', a3, a4, a5, Or.inr ⟨a6, b⟩⟩ a7 b⟩
    · unfold F_X7_taps
      rw [a, bs, if_pos rfl, if_neg c, if_neg d, hc.2.2.2.2.2.1, hT, nI_add, if_neg qi, show ∀ K, F_X7_taps_L44 N vR (nI n) K N (0 : Int32) vS vA gA = K w vA' gA' from a1, a3.2.2.2.2.2.2.1]
    · unfold F_X8_taps
      rw [b, if_neg one0, e, bs, if_neg one0, k4, t4, hm.2.2.2.2.2.1, hT, nI_add, if_neg qi, show ∀ K, F_X8_taps_L44 N (nI n) K N (0 : Int32) vM = K vM' from a2, k5, t5, a4.2.2.2.2.2.2.1]
theorem st_back {N : Nat} (hN : 3000 ≤ N) : St_back N Rel := by
  intro vR vW vT vS vD vA vI vJ vE vF vP vQ vK vM gW gA gL x1 hrel
  have keep := hrel
  obtain ⟨hr, hs, ht, ⟨S, hc, hm, hi, hs4⟩, ha, hI, hk⟩ := hrel
  rcases thing_ix (N := N) hc hm hi x1 with ⟨a, b⟩ | ⟨j, hj, rfl, a, b⟩
  · exact ⟨(-1000001, vS, vA, gA), (-1000001, vM), by unfold F_X7_back; rw [a]; rfl, by unfold F_X8_back; rw [b]; rfl, rfl, keep⟩
  · have h6 := hi.1
    have h8 := len6 hi
    have h1 : vM 0 4 = 1 := by rcases hs4 with ⟨z, _⟩ | ⟨_, z⟩; omega; exact z
    rcases p_place hN hc hm hi (j := j) (by omega) with ⟨q, p1, p2⟩ | ⟨q, i, hil, -, p1, p2⟩
    · obtain ⟨vA', gA', f, x, k1, k2, k3⟩ := p_keep hN hc hm hi (by omega) ha
      have hwl := wo_len hi hj
      rw [wo_id q] at hwl
      obtain ⟨w, w1, w2⟩ := p_lastC N hc (by omega) j
      obtain ⟨g, g1, g2⟩ := p_lastM N (v := up2 (upA vM 8 f) 0 17 x) hm h6 hi.2.1 (by omega) j
      refine ⟨(nI (S.2.2.2.2 ++ [j]).length, _, vA', gA'), (nI (S.2.2.2.2 ++ [j]).length, upA (up2 (upA vM 8 f) 0 17 x) 4 g), ?_, ?_, rfl, hr, hs, ht, ⟨_, rcL hc w2, g2, siL hi ?_ (fun y hy => ?_), Or.inr ⟨by show 0 < S.2.2.1; omega, h1⟩⟩, k3, hI, hk.1, fun z => absurd (h1.symm.trans z) one0⟩
      · unfold F_X7_back; rw [a, bs, if_neg one0, p1, bs, if_pos (by decide), k1, bs, w1]; rfl
      · unfold F_X8_back; rw [b, bs, if_neg one0, p2, bs, if_pos (by decide), k2, bs, g1, bs, k6, t6]
        show some (g 6, _) = _
        rw [g2.2.2.2.2.1]
        rfl
      · exact List.nodup_append.mpr ⟨hi.2.2.1, List.nodup_cons.mpr ⟨List.not_mem_nil, List.nodup_nil⟩, fun a ha b hb => by
          rw [List.mem_singleton.mp hb]
          exact fun e => q (e ▸ ha)⟩
      · rcases List.mem_append.mp hy with e | e
        · exact hi.2.2.2.1 y e
        · rw [List.mem_singleton.mp e]; exact hj
    · exact ⟨(-1000002, vS, vA, gA), (-1000002, vM), by unfold F_X7_back; rw [a, bs, if_neg one0, p1, bs, if_neg (nI_pos (by omega))], by unfold F_X8_back; rw [b, bs, if_neg one0, p2, bs, if_neg (nI_pos (by omega))], rfl, keep⟩
/-- a seat taken anew -/
def anew (S : Sh) (q : Nat) (la pa : Int32) : Sh := (S.1, fun k s => if s = q then (if k = 4 then la else if k = 5 then pa else if k = 6 then 0 else S.2.1 k s) else S.2.1 k s, S.2.2.1, S.2.2.2.1, S.2.2.2.2)
theorem siAnew {B : Nat} {S : Sh} {q l p : Nat} (hi : SInv B S) (hl : l ≤ 9) (hp : 1 ≤ p ∧ p ≤ 20) : SInv B (anew S q (nI l) (nI p)) := by
  obtain ⟨a1, a2, a3, a4, a5, a6, a7, a8, a9⟩ := hi
  have h0 : ∀ k i, k < 4 → (anew S q (nI l) (nI p)).2.1 k i = S.2.1 k i := fun k i hk => by
    show (if i = q then _ else _) = _
    by_cases e : i = q
    · rw [if_pos e, if_neg (by omega), if_neg (by omega), if_neg (by omega)]
    · rw [if_neg e]
  refine ⟨a1, a2, a3, a4, fun i hI => ?_, fun i hI => ?_, a7, a8, a9⟩
  · rw [h0 0 i (by omega), h0 1 i (by omega), h0 2 i (by omega), h0 3 i (by omega)]
    exact a5 i hI
  · by_cases e : i = q
    · subst e
      have e4 : (anew S i (nI l) (nI p)).2.1 4 i = nI l := by show (if i = i then _ else _) = _; rw [if_pos rfl]; rfl
      have e5 : (anew S i (nI l) (nI p)).2.1 5 i = nI p := by show (if i = i then _ else _) = _; rw [if_pos rfl]; rfl
      have e6 : (anew S i (nI l) (nI p)).2.1 6 i = 0 := by show (if i = i then _ else _) = _; rw [if_pos rfl]; rfl
      rw [e4, e5, e6]
      exact ⟨⟨l, hl, rfl⟩, ⟨p, by omega, rfl⟩, ⟨0, by omega, rfl⟩, fun _ => nI_ne0 (by omega) (by omega)⟩
    · have ek : ∀ k, (anew S q (nI l) (nI p)).2.1 k i = S.2.1 k i := fun k => by show (if i = q then _ else _) = _; rw [if_neg e]
      rw [ek, ek, ek]
      exact a6 i hI
theorem anew_at {S : Sh} {q i : Nat} {la pa : Int32} : (anew S q la pa).2.1 4 i = (if i = q then la else S.2.1 4 i) ∧ (anew S q la pa).2.1 5 i = (if i = q then pa else S.2.1 5 i) ∧ (anew S q la pa).2.1 6 i = (if i = q then 0 else S.2.1 6 i) := by
  refine ⟨?_, ?_, ?_⟩
  · show (if i = q then _ else _) = _
    by_cases e : i = q
    · rw [if_pos e, if_pos e]; rfl
    · rw [if_neg e, if_neg e]
  · show (if i = q then _ else _) = _
    by_cases e : i = q
    · rw [if_pos e, if_pos e]; rfl
    · rw [if_neg e, if_neg e]
  · show (if i = q then _ else _) = _
    by_cases e : i = q
    · rw [if_pos e, if_pos e]; rfl
    · rw [if_neg e, if_neg e]
theorem anew_lo {S : Sh} {q i k : Nat} {la pa : Int32} (hk : k < 4) : (anew S q la pa).2.1 k i = S.2.1 k i := by
  show (if i = q then _ else _) = _
  by_cases e : i = q
  · rw [if_pos e, if_neg (by omega), if_neg (by omega), if_neg (by omega)]
  · rw [if_neg e]
theorem upd_if {f : Nat → Int32} {k i : Nat} {x : Int32} : upd f k x i = if i = k then x else f i := by
  by_cases e : i = k
  · rw [e, upd_s, if_pos rfl]
  · rw [upd_n e, if_neg e]
theorem p_anewC (N : Nat) {v : SV} {S : Sh} (hc : RC v S) (h6 : S.2.2.2.1 ≤ 6) {q : Nat} (hq : q < S.2.2.2.1) (la pa : Int32) : ∃ w, F_X5_takeAnew N v (nI q) la pa = some w ∧ RC w (anew S q la pa) := by
  refine ⟨up2 (up2 (up2 v 5 q la) 6 q pa) 7 q 0, ?_, ?_⟩
  · unfold F_X5_takeAnew
    rw [chk_in (by omega) (by decide), chk_in (by omega) (by decide), chk_in (by omega) (by decide), nI_clamp (by omega)]
  · obtain ⟨a0, a1, a2, a3, a4, a5, a6, a7, a8, a9⟩ := hc
    refine ⟨a0, a1, a2, a3, a4, a5, a6, fun i hI => ?_, fun i hI => ?_, a9⟩
    · rw [anew_lo (by omega), anew_lo (by omega), anew_lo (by omega), anew_lo (by omega)]
      exact a7 i hI
    · obtain ⟨b1, b2, b3⟩ := a8 i hI
      obtain ⟨c1, c2, c3⟩ := anew_at (S := S) (q := q) (i := i) (la := la) (pa := pa)
      rw [c1, c2, c3]
      show upd (v 5) q la i = _ ∧ upd (v 6) q pa i = _ ∧ upd (v 7) q 0 i = _
      rw [upd_if, upd_if, upd_if, b1, b2, b3]
      exact ⟨rfl, rfl, rfl⟩
theorem p_anewM (N : Nat) {v : SV} {S : Sh} {B : Nat} (hm : RM (v 4) S) (hi : SInv B S) {q : Nat} (hq : q < S.2.2.2.1) (la pa : Int32) : ∃ f, F_X8_seatAnew N v (nI q) la pa = some (upA v 4 f) ∧ RM f (anew S q la pa) := by
  have h1 := hi.1
  have h6 := hi.2.1
  have hl := len6 hi
  refine ⟨upd (upd (upd (v 4) (37 + q) la) (43 + q) pa) (49 + q) 0, ?_, ?_⟩
  · unfold F_X8_seatAnew
    rw [show (37 : Int32) = nI 37 from rfl, show (43 : Int32) = nI 43 from rfl, show (49 : Int32) = nI 49 from rfl, nI_add, nI_add, nI_add, chk_in (n := 55) (k := 37 + q) (by omega) (by decide), chk_in (n := 55) (k := 43 + q) (by omega) (by decide), chk_in (n := 55) (k := 49 + q) (by omega) (by decide), nI_clamp (n := 37 + q) (by omega), nI_clamp (n := 43 + q) (by omega), nI_clamp (n := 49 + q) (by omega)]
    unfold up2
    rw [upA_upA, upA_upA]
    rfl
  · have hk : ∀ i, i < 37 → upd (upd (upd (v 4) (37 + q) la) (43 + q) pa) (49 + q) 0 i = v 4 i := fun i hi => by rw [upd_n (by omega), upd_n (by omega), upd_n (by omega)]
    obtain ⟨a0, a1, a2, a3, a4, a5, a6, a7, a8, a9⟩ := hm
    refine ⟨(hk 0 (by omega)).trans a0, (hk 1 (by omega)).trans a1, (hk 2 (by omega)).trans a2, (hk 3 (by omega)).trans a3, (hk 6 (by omega)).trans a4, (hk 4 (by omega)).trans a5, (hk 5 (by omega)).trans a6, fun i hI => ?_, fun i hI => ?_, fun i hI => ?_⟩
    · have hI : i < S.2.2.1 := hI
      rw [anew_lo (by omega), anew_lo (by omega), anew_lo (by omega), anew_lo (by omega), hk _ (by omega), hk _ (by omega), hk _ (by omega), hk _ (by omega)]
      exact a7 i hI
    · have hI : i < S.2.2.2.1 := hI
      obtain ⟨b1, b2, b3⟩ := a8 i hI
      obtain ⟨c1, c2, c3⟩ := anew_at (S := S) (q := q) (i := i) (la := la) (pa := pa)
      rw [c1, c2, c3]
      by_cases e : i = q
      · subst e
        rw [if_pos rfl, if_pos rfl, if_pos rfl, upd_s]
        refine ⟨?_, ?_, rfl⟩
        · rw [upd_n (by omega), upd_n (by omega), upd_s]
        · rw [upd_n (by omega), upd_s]
      · rw [if_neg e, if_neg e, if_neg e, upd_n (by omega), upd_n (by omega), upd_n (by omega), upd_n (by omega), upd_n (by omega), upd_n (by omega), upd_n (by omega), upd_n (by omega), upd_n (by omega)]
        exact ⟨b1, b2, b3⟩
    · have hI : i < S.2.2.2.2.length := hI
      rw [hk _ (by omega)]
      exact a9 i hI
theorem st_sit {N : Nat} (hN : 3000 ≤ N) : St_sit N Rel := by
  intro vR vW vT vS vD vA vI vJ vE vF vP vQ vK vM gW gA gL x1 x2 x3 hrel
  have keep := hrel
  obtain ⟨hr, hs, ht, ⟨S, hc, hm, hi, hs4⟩, ha, hI, hk⟩ := hrel
  have h6 := hi.2.1
  rcases seat_ix (N := N) hc hm h6 x1 with ⟨a, b⟩ | ⟨q, hq, rfl, a, b⟩
  · exact ⟨(-1000001, vS, vA, gA), (-1000001, vM), by unfold F_X7_sit; rw [a]; rfl, by unfold F_X8_sit; rw [b]; rfl, rfl, keep⟩
  rcases rg (N := N) (l := 0) (h := 9) 0 9 rfl rfl (b := 0) (c := 9) rfl rfl (by omega) (by omega) x2 with ⟨c, d⟩ | ⟨c, d, e⟩ | ⟨l, -, l9, rfl, c, d, e⟩
  · exact ⟨(-1000001, vS, vA, gA), (-1000001, vM), by unfold F_X7_sit; rw [a, bs, if_neg one0, if_pos c], by unfold F_X8_sit; rw [b, bs, if_neg one0, d]; rfl, rfl, keep⟩
  · exact ⟨(-1000001, vS, vA, gA), (-1000001, vM), by unfold F_X7_sit; rw [a, bs, if_neg one0, if_neg c, if_pos d], by unfold F_X8_sit; rw [b, bs, if_neg one0, e]; rfl, rfl, keep⟩
  rcases rg (N := N) (l := 1) (h := 20) 1 20 rfl rfl (b := 1) (c := 20) rfl rfl (by omega) (by omega) x3 with ⟨c2, d2⟩ | ⟨c2, d2, e2⟩ | ⟨p, p1, p20, rfl, c2, d2, e2⟩
  · exact ⟨(-1000001, vS, vA, gA), (-1000001, vM), by unfold F_X7_sit; rw [a, bs, if_neg one0, if_neg c, if_neg d, if_pos c2], by unfold F_X8_sit; rw [b, bs, if_neg one0, e, bs, if_neg one0, d2]; rfl, rfl, keep⟩
  · exact ⟨(-1000001, vS, vA, gA), (-1000001, vM), by unfold F_X7_sit; rw [a, bs, if_neg one0, if_neg c, if_neg d, if_neg c2, if_pos d2], by unfold F_X8_sit; rw [b, bs, if_neg one0, e, bs, if_neg one0, e2]; rfl, rfl, keep⟩
  have hth : 0 < S.2.2.1 ∧ vM 0 4 = 1 := by
    rcases hs4 with ⟨z, z2, _⟩ | z
    · omega
    · exact z
  obtain ⟨b1, b2, b3⟩ := hc.2.2.2.2.2.2.2.2.1 q hq
  obtain ⟨m1, m2, m3⟩ := hm.2.2.2.2.2.2.2.2.1 q hq
  have f7 : F_X7_sit N vR vS vA gA (nI q) (nI l) (nI p) = if S.2.1 6 q = 0 then some (-1000002, vS, vA, gA) else ((F_X0_keep N vS vA gA).bind (fun q61 => (F_X5_takeAnew N vS (nI q) (nI l) (nI p)).bind (fun q71 => (F_X5_seatsThat N q71 (0 : Int32)).bind (fun q79 => some (q79, q71, (q61.1), (q61.2)))))) := by
    unfold F_X7_sit
    rw [a, bs, if_neg one0, if_neg c, if_neg d, if_neg c2, if_neg d2, chk_in (by omega) (by decide), nI_clamp (by omega), b3]
  have f8 : F_X8_sit N vM (nI q) (nI l) (nI p) = if S.2.1 6 q = 0 then some (-1000002, vM) else ((F_X8_note N vM).bind (fun q51 => (F_X8_seatAnew N q51 (nI q) (nI l) (nI p)).bind (fun q58 => (F_X8_seatsOf N q58 (0 : Int32)).bind (fun q63 => some (q63, q58))))) := by
    unfold F_X8_sit
    rw [b, bs, if_neg one0, e, bs, if_neg one0, e2, bs, if_neg one0, show (49 : Int32) = nI 49 from rfl, nI_add, chk_in (n := 55) (k := 49 + q) (by omega) (by decide), nI_clamp (n := 49 + q) (by omega), m3]
  rw [f7, f8]
  by_cases z : S.2.1 6 q = 0
  · exact ⟨_, _, if_pos z, if_pos z, rfl, keep⟩
  · obtain ⟨vA', gA', f, x, k1, k2, k3⟩ := p_keep hN hc hm hi hth.1 ha
    obtain ⟨w, w1, w2⟩ := p_anewC N hc h6 hq (nI l) (nI p)
    obtain ⟨g, g1, g2⟩ := p_anewM N (v := up2 (upA vM 8 f) 0 17 x) hm hi hq (nI l) (nI p)
    refine ⟨(nI (bitN (hB (anew S q (nI l) (nI p)) 0) S.2.2.2.1), w, vA', gA'), (nI (bitN (hB (anew S q (nI l) (nI p)) 0) S.2.2.2.1), upA (up2 (upA vM 8 f) 0 17 x) 4 g), ?_, ?_, rfl, hr, hs, ht, ⟨_, w2, g2, siAnew hi l9 ⟨p1, p20⟩, Or.inr hth⟩, k3, hI, hk.1, fun z => absurd (hth.2.symm.trans z) one0⟩
    · rw [if_neg z, k1, bs, w1, bs, p_seatsThat hN w2 h6]; rfl
    · rw [if_neg z, k2, bs, g1, bs, p_seatsOf hN (v := upA (up2 (upA vM 8 f) 0 17 x) 4 g) g2 h6]; rfl
theorem l_undo {N k : Nat} (hk : k ≤ 23) : ∀ d s n v, s + d = 55 → d < n → v 0 17 = nI k → ∃ f, (∀ K, F_X8_undo_L22 N K n (nI s) v = K (upA v 4 f)) ∧ ∀ i, f i = if s ≤ i ∧ i < 55 then v 8 (55 * k + i) else v 4 i := by
  intro d
  induction d with
  | zero =>
    intro s n v hs hn h17
    obtain ⟨n, rfl⟩ : ∃ m, n = m + 1 := ⟨n - 1, by omega⟩
    have e : s = 55 := by omega
    subst e
    refine ⟨v 4, fun K => ?_, fun i => by rw [if_neg (by omega)]⟩
    rw [F_X8_undo_L22, if_neg (by decide), upA_self]
  | succ d ih =>
    intro s n v hs hn h17
    obtain ⟨n, rfl⟩ : ∃ m, n = m + 1 := ⟨n - 1, by omega⟩
    obtain ⟨f, f1, f2⟩ := ih (s + 1) n (up2 v 4 s (v 8 (55 * k + s))) (by omega) (by omega) h17
    refine ⟨f, fun K => ?_, fun i => ?_⟩
    · rw [F_X8_undo_L22, if_pos (show nI s < (55 : Int32) from nI_lt (b := 55) (by omega) (by decide)), h17, show (55 : Int32) = nI 55 from rfl, pk_mul, nI_add, chk_in (n := 1320) (k := 55 * k + s) (by omega) (by decide), chk_in (n := 55) (k := s) (by omega) (by decide), nI_clamp (n := s) (by omega), nI_clamp (n := 55 * k + s) (by omega), nI_1, f1]
      unfold up2
      rw [upA_upA]
    · rw [f2 i]
      show (if s + 1 ≤ i ∧ i < 55 then v 8 (55 * k + i) else upd (v 4) s (v 8 (55 * k + s)) i) = _
      by_cases q : s + 1 ≤ i ∧ i < 55
      · rw [if_pos q, if_pos (by omega)]
      · rw [if_neg q]
        by_cases e : i = s
        · subst e
          rw [if_pos (by omega), upd_s]
        · rw [if_neg (by omega), upd_n e]
theorem st_undo {N : Nat} (hN : 3000 ≤ N) : St_undo N Rel := by
  intro vR vW vT vS vD vA vI vJ vE vF vP vQ vK vM gW gA gL hrel
  have keep := hrel
  obtain ⟨hr, hs, ht, ⟨S, hc, hm, hi, hs4⟩, ha, hI, hk⟩ := hrel
  obtain ⟨c, k, hc24, hk24, a1, a2, a3, a4⟩ := ha
  by_cases z : k = 0
  · subst z
    exact ⟨(-1000002, vS, vA), (-1000002, vM), by unfold F_X7_undo F_X0_kept; rw [a2]; rfl, by unfold F_X8_undo; rw [a3, if_pos (show nI 0 = 0 from rfl)], rfl, keep⟩
  · have hk0 : ¬ nI k = 0 := nI_ne0 (by omega) (by omega)
    have hth : vM 0 4 = 1 := by
      rcases hs4 with ⟨y, y2, y3⟩ | y
      · exact absurd (a3.symm.trans (hk.2 y3).1) hk0
      · exact y.2
    obtain ⟨T, t1, t2, t3, t4⟩ := a4 (k - 1) (by omega)
    rw [show (c + 24 - k + (k - 1)) % 24 = (c + 24 - 1) % 24 from by omega] at t1
    obtain ⟨f, f1, f2⟩ := l_undo (N := N) (k := k - 1) (by omega) 55 0 N (up2 vM 0 17 (nI (k - 1))) (by omega) (by omega) up2_s
    have er : (nI c + 24 - 1) - (nI c + 24 - 1) / (24 : Int32) * (24 : Int32) = nI ((c + 24 - 1) % 24) := by
      rw [show (24 : Int32) = nI 24 from rfl, nI_add, nI_s1 (by omega)]
      exact pk_rem (d := 24) (by omega) (by decide) (by decide)
    have hm24 : (c + 24 - 1) % 24 < 24 := Nat.mod_lt _ (by decide)
    refine ⟨(nI (k - 1), ovr vS (gA ((c + 24 - 1) % 24)), up2 (up2 vA 0 1 (nI ((c + 24 - 1) % 24))) 0 2 (nI (k - 1))), (nI (k - 1), upA (up2 vM 0 17 (nI (k - 1))) 4 f), ?_, ?_, rfl, hr, hs, ht, ⟨T, ovr_rc t1 t3, rm_cg t2 t3 (fun i hI2 => ?_), t3, Or.inr ⟨t4, hth⟩⟩, ⟨(c + 24 - 1) % 24, k - 1, hm24, by omega, rfl, rfl, rfl, fun j hj => ?_⟩, hI, hk.1, fun z => absurd (hth.symm.trans z) one0⟩
    · unfold F_X7_undo F_X0_kept F_X0_takeBack
      rw [bs, a2, if_neg hk0, if_neg hk0, a1, er, chk_in hm24 (by decide), nI_clamp (by omega), p_over, bs, bs, nI_s1 (by omega)]
      rfl
    · unfold F_X8_undo
      rw [a3, if_neg hk0, nI_s1 (by omega), show ∀ K, F_X8_undo_L22 N K N (0 : Int32) (up2 vM 0 17 (nI (k - 1))) = K (upA (up2 vM 0 17 (nI (k - 1))) 4 f) from f1]
      rfl
    · show f i = _
      rw [f2 i, if_pos (by omega)]
      rfl
    · obtain ⟨U, u1, u2, u3, u4⟩ := a4 j (by omega)
      refine ⟨U, ?_, u2, u3, u4⟩
      rw [show ((c + 24 - 1) % 24 + 24 - (k - 1) + j) % 24 = (c + 24 - k + j) % 24 from by omega]
      exact u1
