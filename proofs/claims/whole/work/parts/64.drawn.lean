/-! drawn -/
theorem cnt_add {r p q : Nat → Bool} : ∀ {n : Nat}, (∀ i, i < n → (r i = true ∧ p i = true ∧ q i = false) ∨ (r i = true ∧ p i = false ∧ q i = true) ∨ (r i = false ∧ p i = false ∧ q i = false)) → cntP r n = cntP p n + cntP q n
  | 0, _ => rfl
  | n + 1, h => by
    have ih := cnt_add (n := n) (fun i hi => h i (by omega))
    rw [cntP, cntP, cntP, ih]
    rcases h n (by omega) with ⟨a, b, c⟩ | ⟨a, b, c⟩ | ⟨a, b, c⟩
    · rw [a, b, c]; simp; omega
    · rw [a, b, c]; simp; omega
    · rw [a, b, c]; simp
theorem gB_wait {S : Sh} {j s : Nat} (h : gB S j s = true) : S.2.1 6 s = 0 := by
  have hw : ∀ lab, wB S lab s = true → S.2.1 6 s = 0 := fun lab hl => by
    unfold wB at hl
    rw [Bool.and_eq_true, decide_eq_true_iff] at hl
    exact hl.1
  unfold gB at h
  by_cases hb : cbk S j = true
  · rw [if_pos hb] at h; exact absurd h (by decide)
  · rw [if_neg hb] at h
    by_cases k3 : S.2.1 0 j = 3
    · rw [if_pos k3] at h; exact hw _ h
    · rw [if_neg k3] at h
      unfold fstB at h
      rw [Bool.and_eq_true] at h
      exact hw _ h.1
theorem pHow_1 {S : Sh} {s : Nat} : pHow S s = 1 ↔ S.2.1 6 s = 1 := by
  unfold pHow
  by_cases z : S.2.1 6 s = 0
  · rw [if_pos z, z]
    by_cases y : S.2.1 5 s - 1 = 0
    · rw [if_pos y]; decide
    · rw [if_neg y]
  · rw [if_neg z]
theorem tap_pl {S : Sh} {o : Option Nat} (h6 : S.2.2.2.1 ≤ 6) : cntP (hB (tapS S o) 1) S.2.2.2.1 = cntP (hB S 1) S.2.2.2.1 + popc (tapG S o) ∧ tapG S o < 64 := by
  cases o with
  | none =>
    refine ⟨?_, by show 0 < 64; omega⟩
    have e : cntP (hB (tapS S none) 1) S.2.2.2.1 = cntP (hB S 1) S.2.2.2.1 := cntP_cg (fun i _ => by
      unfold hB
      show decide (pHow S i = 1) = _
      exact decide_eq_decide.mpr pHow_1)
    rw [e, show popc (tapG S none) = 0 from by show popc 0 = 0; decide]
    rfl
  | some j =>
    refine ⟨?_, bit64 _ h6⟩
    show _ = _ + popc (bitN (gB S j) S.2.2.2.1)
    rw [popc_bit _ h6]
    refine cnt_add (fun i _ => ?_)
    have e : hB (tapS S (some j)) 1 i = decide (h1S S j i = 1) := by
      unfold hB
      show decide (pHow (preS S j) i = 1) = _
      exact decide_eq_decide.mpr pHow_1
    rw [e]
    unfold h1S hB
    by_cases g : gB S j i = true
    · rw [if_pos g, g, gB_wait g]
      exact Or.inr (Or.inl ⟨by decide, by decide, rfl⟩)
    · rw [if_neg g, show gB S j i = false by simpa using g]
      by_cases z : S.2.1 6 i = 1
      · rw [decide_eq_true z]; exact Or.inl ⟨rfl, rfl, rfl⟩
      · rw [decide_eq_false z]; exact Or.inr (Or.inr ⟨rfl, rfl, rfl⟩)
def mArr {γ : Type} (N : Nat) (v : SV) (X : Int64) (J : SV → Option γ) : Option γ := jn (fun (s101_0 : Int32) => jn (fun (v_143 : SV) => chk 55 (6 : Int32) (jn J (fun J168 => if ((v_143 4) ((6 : Int32).toNatClampNeg)) = (0 : Int32) then (chk 55 (2 : Int32) (nzl (((v_143 4) ((2 : Int32).toNatClampNeg)).toInt64) ((F_X8_layBehind N v_143 ((X - X / (((v_143 4) ((2 : Int32).toNatClampNeg)).toInt64) * (((v_143 4) ((2 : Int32).toNatClampNeg)).toInt64)).toInt32)).bind (fun q165 => J168 q165)))) else (J168 v_143)))) (fun J143 => if s101_0 < (0 : Int32) then (J143 v) else (chk 55 ((49 : Int32) + s101_0) (if ((v 4) (((49 : Int32) + s101_0).toNatClampNeg)) = (0 : Int32) then (J143 v) else ((F_X8_seatAnew N v s101_0 ((X - X / (10 : Int64) * (10 : Int64)).toInt32) (((X - X / (5 : Int64) * (5 : Int64)).toInt32) + (1 : Int32))).bind (fun q140 => J143 q140)))))) (fun J101 => if ((v 4) ((3 : Int32).toNatClampNeg)) = (0 : Int32) then (J101 (-1000000 : Int32)) else (chk 55 (3 : Int32) (nzl (((v 4) ((3 : Int32).toNatClampNeg)).toInt64) (J101 ((X - X / (((v 4) ((3 : Int32).toNatClampNeg)).toInt64) * (((v 4) ((3 : Int32).toNatClampNeg)).toInt64)).toInt32)))))
theorem drawn_eq {N : Nat} {x1 x3 : Int32} {K : Int32 → SV → Option (Int32 × SV)} {n : Nat} {x4 : Int64} {x6 x7 : Int32} {v : SV} : F_X8_drawn_L58 N x1 x3 K (n + 1) x4 x6 x7 v = if x7 < x1 then (chk 55 (3 : Int32) (mArr N v ((x4 * (16807 : Int64)) - (x4 * (16807 : Int64)) / (2147483647 : Int64) * (2147483647 : Int64)) (fun (v_168 : SV) => (F_X8_seatsOf N v_168 (1 : Int32)).bind (fun q170 => (F_X8_ones N q170).bind (fun q173 => (F_X8_oneTap N v_168).bind (fun q179 => (F_X8_seatsOf N q179 (1 : Int32)).bind (fun q186 => (F_X8_ones N q186).bind (fun q189 => F_X8_drawn_L58 N x1 x3 K n ((x4 * (16807 : Int64)) - (x4 * (16807 : Int64)) / (2147483647 : Int64) * (2147483647 : Int64)) (x6 + (q189 - q173)) (x7 + (1 : Int32)) q179))))))) ) else (K x6 v) := rfl
theorem lrem {a b : Nat} (ha : a < 2 ^ 62) (hb : 0 < b) (hb2 : b < 2 ^ 31) : (lN a - lN a / lN b * lN b).toInt32 = nI (a % b) := by rw [pk_lRem (by omega) hb (by omega), lN_i]
theorem nzl_ok {β : Type} {b : Nat} {o : Option β} (hb : 0 < b) (hb2 : b < 2 ^ 31) : nzl (lN b) o = o := by
  unfold nzl
  rw [if_neg (fun z => by
    have := (pk_lEQ (a := b) (b := 0) (by omega) (by omega)).mp z
    omega)]
theorem p_arr {N a : Nat} {vE vM vF : SV} {as f : Nat → Int32} {S : Sh} {B : Nat} (ha : a < 2 ^ 62) (hc : RC vF S) (hm : RM f S) (hi : SInv B S) (hp : 0 < S.2.2.1) : ∃ S2 w g, F_X4_arrangeByDraw N vE vF (lN a) = some w ∧ (∀ {γ : Type} (J : SV → Option γ), mArr N (tU vM as f) (lN a) J = J (tU vM as g)) ∧ RC w S2 ∧ RM g S2 ∧ SInv B S2 ∧ S2.2.2.1 = S.2.2.1 ∧ S2.2.2.2.1 = S.2.2.2.1 := by
  have h1 := hi.1
  have h6 := hi.2.1
  have e10 : (lN a - lN a / (10 : Int64) * (10 : Int64)).toInt32 = nI (a % 10) := lrem (b := 10) ha (by omega) (by omega)
  have e5 : (lN a - lN a / (5 : Int64) * (5 : Int64)).toInt32 + (1 : Int32) = nI (a % 5 + 1) := by
    rw [show (lN a - lN a / (5 : Int64) * (5 : Int64)).toInt32 = nI (a % 5) from lrem (b := 5) ha (by omega) (by omega), nI_1]
  -- the list
  have lst2 : ∀ (S1 : Sh) (u : SV) (f1 : Nat → Int32), RC u S1 → RM f1 S1 → SInv B S1 → S1.2.2.1 = S.2.2.1 → ∃ S2 w g, (if (u 0 4) = (0 : Int32) then (if (0 : Int32) < (u 0 2) then (nzl ((u 0 2).toInt64) ((F_X5_putLast N u ((lN a - lN a / ((u 0 2).toInt64) * ((u 0 2).toInt64)).toInt32)).bind (fun q102 => some q102))) else (some u)) else (some u)) = some w ∧ (∀ {γ : Type} (J : SV → Option γ), (chk 55 (6 : Int32) (if (((tU vM as f1) 4) ((6 : Int32).toNatClampNeg)) = (0 : Int32) then (chk 55 (2 : Int32) (nzl ((((tU vM as f1) 4) ((2 : Int32).toNatClampNeg)).toInt64) ((F_X8_layBehind N (tU vM as f1) ((lN a - lN a / ((((tU vM as f1) 4) ((2 : Int32).toNatClampNeg)).toInt64) * ((((tU vM as f1) 4) ((2 : Int32).toNatClampNeg)).toInt64)).toInt32)).bind (fun q165 => J q165)))) else (J (tU vM as f1)))) = J (tU vM as g)) ∧ RC w S2 ∧ RM g S2 ∧ SInv B S2 ∧ S2.2.2.1 = S1.2.2.1 ∧ S2.2.2.2.1 = S1.2.2.2.1 := by
    intro S1 u f1 hc1 hm1 hi1 hth
    have g1 := hi1.1
    have hp1 : 0 < S1.2.2.1 := by omega
    have hl := len6 hi1
    have c4 := hc1.2.2.2.2.1
    have c2 := hc1.2.2.1
    have m6 : (tU vM as f1) 4 6 = nI S1.2.2.2.2.length := hm1.2.2.2.2.1
    have m2 : (tU vM as f1) 4 2 = nI S1.2.2.1 := hm1.2.2.1
    rw [c4, c2, nI_l (by omega), lrem ha hp1 (by omega), nzl_ok hp1 (by omega), if_pos (show (0 : Int32) < nI S1.2.2.1 from nI_lt (a := 0) hp1 (by omega))]
    by_cases z : S1.2.2.2.2.length = 0
    · have hnil : S1.2.2.2.2 = [] := List.length_eq_zero_iff.mp z
      have hmod := Nat.mod_lt a hp1
      obtain ⟨h, h1', h2'⟩ := p_lastC N hc1 (by omega) (a % S1.2.2.1)
      obtain ⟨g, g1', g2'⟩ := p_lastM N (v := tU vM as f1) hm1 g1 hi1.2.1 (by omega) (a % S1.2.2.1)
      rw [tU_up] at g1'
      refine ⟨_, _, g, ?_, fun J => ?_, rcL hc1 h2', g2', siL hi1 ?_ (fun x hx => ?_), rfl, rfl⟩
      · rw [z, if_pos (show nI 0 = 0 from rfl), h1']; rfl
      · rw [k6, t6, m6, z, if_pos (show nI 0 = 0 from rfl), k2, t2, m2, nI_l (by omega), lrem ha hp1 (by omega), nzl_ok hp1 (by omega), g1', bs]
      · rw [hnil]; exact List.nodup_cons.mpr ⟨List.not_mem_nil, List.nodup_nil⟩
      · rw [hnil] at hx
        rw [List.mem_singleton.mp hx]
        exact hmod
    · have hz : ¬ nI S1.2.2.2.2.length = 0 := nI_ne0 (by omega) (by omega)
      exact ⟨S1, u, f1, by rw [if_neg hz], fun J => by rw [k6, t6, m6, if_neg hz], hc1, hm1, hi1, rfl, rfl⟩
  have m3 : (tU vM as f) 4 3 = nI S.2.2.2.1 := hm.2.2.2.1
  by_cases z : S.2.2.2.1 = 0
  · obtain ⟨S2, w, g, a1, a2, a3, a4, a5, a6, a7⟩ := lst2 S vF f hc hm hi rfl
    refine ⟨S2, w, g, ?_, fun J => ?_, a3, a4, a5, a6, a7⟩
    · unfold F_X4_arrangeByDraw
      simp only [jn_eq]
      rw [hc.2.2.2.1, z, if_neg (show ¬ (0 : Int32) < nI 0 by decide)]
      exact a1
    · unfold mArr
      simp only [jn_eq]
      rw [t3, m3, z, if_pos (show nI 0 = 0 from rfl), if_pos (by decide)]
      exact a2 J
  · have hT : 0 < S.2.2.2.1 := by omega
    have hmod := Nat.mod_lt a hT
    have hz : ¬ nI S.2.2.2.1 = 0 := nI_ne0 hT (by omega)
    obtain ⟨b1, b2, b3⟩ := hc.2.2.2.2.2.2.2.2.1 _ hmod
    obtain ⟨n1, n2, n3⟩ := hm.2.2.2.2.2.2.2.2.1 _ hmod
    have is1 : F_X5_isSeat N vF (nI (a % S.2.2.2.1)) = some 1 := by
      unfold F_X5_isSeat
      rw [hc.2.2.2.1, if_neg (nI_pos (by omega)), if_pos (nI_lt hmod (by omega))]
    by_cases y : S.2.1 6 (a % S.2.2.2.1) = 0
    · obtain ⟨S2, w, g, a1, a2, a3, a4, a5, a6, a7⟩ := lst2 S vF f hc hm hi rfl
      refine ⟨S2, w, g, ?_, fun J => ?_, a3, a4, a5, a6, a7⟩
      · unfold F_X4_arrangeByDraw
        simp only [jn_eq]
        rw [hc.2.2.2.1, if_pos (show (0 : Int32) < nI S.2.2.2.1 from nI_lt (a := 0) hT (by omega)), nI_l (by omega), nzl_ok hT (by omega), lrem ha hT (by omega), is1, bs, if_neg one0, chk_in (by omega) (by decide), nI_clamp (by omega), b3, if_pos y]
        exact a1
      · unfold mArr
        simp only [jn_eq]
        rw [t3, m3, if_neg hz, k3, nI_l (by omega), nzl_ok hT (by omega), lrem ha hT (by omega), if_neg (nI_pos (by omega)), show (49 : Int32) = nI 49 from rfl, nI_add, chk_in (n := 55) (k := 49 + a % S.2.2.2.1) (by omega) (by decide), nI_clamp (by omega), show (tU vM as f) 4 (49 + a % S.2.2.2.1) = S.2.1 6 (a % S.2.2.2.1) from n3, if_pos y]
        exact a2 J
    · obtain ⟨u, u1, u2⟩ := p_anewC N hc h6 hmod (nI (a % 10)) (nI (a % 5 + 1))
      obtain ⟨f1, g1, g2⟩ := p_anewM N (v := tU vM as f) hm hi hmod (nI (a % 10)) (nI (a % 5 + 1))
      rw [tU_up] at g1
      obtain ⟨S2, w, g, a1, a2, a3, a4, a5, a6, a7⟩ := lst2 (anew S (a % S.2.2.2.1) (nI (a % 10)) (nI (a % 5 + 1))) u f1 u2 g2 (siAnew hi (by omega) (by omega)) rfl
      refine ⟨S2, w, g, ?_, fun J => ?_, a3, a4, a5, a6, a7⟩
      · unfold F_X4_arrangeByDraw
        simp only [jn_eq]
        rw [hc.2.2.2.1, if_pos (show (0 : Int32) < nI S.2.2.2.1 from nI_lt (a := 0) hT (by omega)), nI_l (by omega), nzl_ok hT (by omega), lrem ha hT (by omega), is1, bs, if_neg one0, chk_in (by omega) (by decide), nI_clamp (by omega), b3, if_neg y, e10, e5, u1, bs]
        exact a1
      · unfold mArr
        simp only [jn_eq]
        rw [t3, m3, if_neg hz, k3, nI_l (by omega), nzl_ok hT (by omega), lrem ha hT (by omega), if_neg (nI_pos (by omega)), show (49 : Int32) = nI 49 from rfl, nI_add, chk_in (n := 55) (k := 49 + a % S.2.2.2.1) (by omega) (by decide), nI_clamp (by omega), show (tU vM as f) 4 (49 + a % S.2.2.2.1) = S.2.1 6 (a % S.2.2.2.1) from n3, if_neg y, e10, e5, g1, bs]
        exact a2 J
theorem l_drawn {N n0 : Nat} (hN : 3000 ≤ N) (h60 : n0 ≤ 60) {vS vE vM : SV} {as : Nat → Int32} {x3 x4 : Int32} : ∀ d t n n2 a p vF f S B, t + d = n0 → RC vF S → RM f S → SInv B S → 0 < S.2.2.1 → a < 2147483647 → d < n → d < n2 → ∃ p' w g S', (∀ K, F_X4_runByDraws_L18 N vS vE (nI n0) x4 K n (lN a) p (nI t) vF = K p' w) ∧ (∀ K, F_X8_drawn_L58 N (nI n0) x3 K n2 (lN a) p (nI t) (tU vM as f) = K p' (tU vM as g)) ∧ RC w S' ∧ RM g S' := by
  intro d
  induction d with
  | zero =>
    intro t n n2 a p vF f S B ht hc hm hi hp ha hn hn2
    obtain ⟨n, rfl⟩ : ∃ m, n = m + 1 := ⟨n - 1, by omega⟩
    obtain ⟨n2, rfl⟩ : ∃ m, n2 = m + 1 := ⟨n2 - 1, by omega⟩
    have hnl : ¬ nI t < nI n0 := nI_nlt (by omega) (by omega)
    exact ⟨p, vF, f, S, fun K => by rw [F_X4_runByDraws_L18, if_neg hnl], fun K => by rw [drawn_eq, if_neg hnl], hc, hm⟩
  | succ d ih =>
    intro t n n2 a p vF f S B ht hc hm hi hp ha hn hn2
    obtain ⟨n, rfl⟩ : ∃ m, n = m + 1 := ⟨n - 1, by omega⟩
    obtain ⟨n2, rfl⟩ : ∃ m, n2 = m + 1 := ⟨n2 - 1, by omega⟩
    have hlt : nI t < nI n0 := nI_lt (by omega) (by omega)
    have eX : (lN a * (16807 : Int64)) - (lN a * (16807 : Int64)) / (2147483647 : Int64) * (2147483647 : Int64) = lN (a * 16807 % 2147483647) := by
      rw [show (16807 : Int64) = lN 16807 from rfl, show (2147483647 : Int64) = lN 2147483647 from rfl, lN_mul]
      exact pk_lRem (by omega) (by omega) (by omega)
    have hX : a * 16807 % 2147483647 < 2147483647 := Nat.mod_lt _ (by omega)
    obtain ⟨S2, w, g, a1, a2, a3, a4, a5, a6, a7⟩ := p_arr (N := N) (a := a * 16807 % 2147483647) (vE := vE) (vM := vM) (as := as) (by omega) hc hm hi hp
    have h6 := a5.2.1
    obtain ⟨o, ho, -, ⟨w2, w1', w2', -, w4, -⟩, h, h1', h2'⟩ := p_tap hN a3 (vM := tU vM as g) a4 a5
    rw [tU_up] at h1'
    obtain ⟨tp, tq⟩ := tap_pl (S := S2) (o := o) h6
    have hsi := siTap a5 ho
    have hth := (tap_th (S := S2) (o := o)).1
    have hse := (tap_th (S := S2) (o := o)).2
    obtain ⟨p', w', g', S', d1, d2, d3, d4⟩ := ih (t + 1) n n2 (a * 16807 % 2147483647) (p + nI (popc (tapG S2 o))) w2 h (tapS S2 o) (B + 1) (by omega) w2' h2' hsi (by omega) hX (by omega) (by omega)
    refine ⟨p', w', g', S', fun K => ?_, fun K => ?_, d3, d4⟩
    · rw [F_X4_runByDraws_L18, if_pos hlt, eX, a1, bs, w1', bs, w4, p_bc N tq, bs, nI_1, d1]
    · rw [drawn_eq, if_pos hlt, k3, eX, a2, p_seatsOf hN (v := tU vM as g) a4 h6, bs, p_ones hN (bit64 _ h6), bs, h1', bs, p_seatsOf hN (v := tU vM as h) h2' (by rw [hse]; exact h6), bs, p_ones hN (bit64 _ (by rw [hse]; exact h6)), bs, popc_bit _ h6, popc_bit _ (by rw [hse]; exact h6), hse, tp, nI_1, pk_sub (by omega), Nat.add_sub_cancel_left, d2]
theorem st_drawn {N : Nat} (hN : 3000 ≤ N) : St_drawn N Rel := by
  intro vR vW vT vS vD vA vI vJ vE vF vP vQ vK vM gW gA gL x1 x2 x3 hrel
  obtain ⟨S, hc, hm, hi, hs⟩ := hrel.2.2.2.1
  rcases no_show (N := N) (vR := vR) hc hi.1 hs with ⟨a, b⟩ | ⟨a, b, hp⟩
  · exact ⟨(-1000002, vF), (-1000002, vM), by unfold F_X7_drawn; rw [a]; rfl, by unfold F_X8_drawn; rw [b]; rfl, rfl, hrel⟩
  rcases rg (N := N) (l := 0) (h := 60) 0 60 rfl rfl (b := 0) (c := 60) rfl rfl (by omega) (by omega) x1 with ⟨c, d⟩ | ⟨c, d, e⟩ | ⟨n, -, n60, rfl, c, d, e⟩
  · exact ⟨(-1000001, vF), (-1000001, vM), by unfold F_X7_drawn; rw [a, bs, if_pos rfl, if_pos c], by unfold F_X8_drawn; rw [b, if_neg one0, d]; rfl, rfl, hrel⟩
  · exact ⟨(-1000001, vF), (-1000001, vM), by unfold F_X7_drawn; rw [a, bs, if_pos rfl, if_neg c, if_pos d], by unfold F_X8_drawn; rw [b, if_neg one0, e]; rfl, rfl, hrel⟩
  rcases rg (N := N) (l := 1) (h := 999999) 1 999999 rfl rfl (b := 1) (c := 999999) rfl rfl (by omega) (by omega) x2 with ⟨c2, d2⟩ | ⟨c2, d2, e2⟩ | ⟨sd, -, sd9, rfl, c2, d2, e2⟩
  · exact ⟨(-1000001, vF), (-1000001, vM), by unfold F_X7_drawn; rw [a, bs, if_pos rfl, if_neg c, if_neg d, if_pos c2], by unfold F_X8_drawn; rw [b, if_neg one0, e, bs, if_neg one0, d2]; rfl, rfl, hrel⟩
  · exact ⟨(-1000001, vF), (-1000001, vM), by unfold F_X7_drawn; rw [a, bs, if_pos rfl, if_neg c, if_neg d, if_neg c2, if_pos d2], by unfold F_X8_drawn; rw [b, if_neg one0, e, bs, if_neg one0, e2]; rfl, rfl, hrel⟩
  rcases rgW (N := N) x3 with ⟨c3, d3⟩ | ⟨c3, d3, e3⟩ | ⟨n3, -, -, c3, d3, e3⟩
  · exact ⟨(-1000001, vF), (-1000001, vM), by unfold F_X7_drawn; rw [a, bs, if_pos rfl, if_neg c, if_neg d, if_neg c2, if_neg d2, if_pos c3], by unfold F_X8_drawn; rw [b, if_neg one0, e, bs, if_neg one0, e2, bs, if_neg one0, d3]; rfl, rfl, hrel⟩
  · exact ⟨(-1000001, vF), (-1000001, vM), by unfold F_X7_drawn; rw [a, bs, if_pos rfl, if_neg c, if_neg d, if_neg c2, if_neg d2, if_neg c3, if_pos d3], by unfold F_X8_drawn; rw [b, if_neg one0, e, bs, if_neg one0, e2, bs, if_neg one0, e3]; rfl, rfl, hrel⟩
  obtain ⟨as, a1, a2⟩ := p_asd hN vM
  obtain ⟨p', w, g, S', q1, q2, q3, q4⟩ := l_drawn (N := N) (n0 := n) (vS := vS) (vE := vE) (vM := vM) (as := as) (x3 := x3) (x4 := x3) hN n60 n 0 N N sd 0 (ovr vF vS) (vM 4) S 999 (by omega) (ovr_rc hc hi) hm hi hp (by omega) (by omega) (by omega)
  obtain ⟨g', c1, c2'⟩ := p_tb hN a2 g
  refine ⟨(if x3 = 0 then S'.1 3 else p', w), (if x3 = 0 then S'.1 3 else p', tU vM as g'), ?_, ?_, rfl, rel_fore hrel c2' _ _ _ _ _⟩
  · unfold F_X7_drawn F_X4_runByDraws
    rw [a, bs, if_pos rfl, if_neg c, if_neg d, if_neg c2, if_neg d2, if_neg c3, if_neg d3, p_over, bs, nI_l (by omega), show ∀ K, F_X4_runByDraws_L18 N vS vE (nI n) x3 K N (lN sd) (0 : Int32) (0 : Int32) (ovr vF vS) = K p' w from q1, q3.2.2.2.2.2.2.1]
    by_cases z : x3 = 0
    · rw [if_pos z, if_pos z]; rfl
    · rw [if_neg z, if_neg z]; rfl
  · unfold F_X8_drawn
    rw [b, if_neg one0, e, bs, if_neg one0, e2, bs, if_neg one0, e3, bs, if_neg one0, a1, bs, nI_l (by omega), show ∀ K, F_X8_drawn_L58 N (nI n) x3 K N (lN sd) (0 : Int32) (0 : Int32) (tU vM as (vM 4)) = K p' (tU vM as g) from q2]
    simp only [jn_eq]
    rw [c1, bs, bs, k5, t5, show (tU vM as g) 4 5 = S'.1 3 from q4.2.2.2.2.2.2.1]
    by_cases z : x3 = 0
    · rw [if_pos z, if_pos z]
    · rw [if_neg z, if_neg z]
