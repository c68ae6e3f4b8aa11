/-! ask -/
def tT (vM : SV) (f : Nat → Int32) (x : Int32) : SV := up2 (upA vM 14 f) 0 24 x
theorem upd_upd {f : Nat → Int32} {k : Nat} {x y : Int32} : upd (upd f k x) k y = upd f k y := by
  funext b
  by_cases h : b = k
  · rw [h, upd_s, upd_s]
  · rw [upd_n h, upd_n h, upd_n h]
theorem tT_up {vM : SV} {f : Nat → Int32} {n : Nat} {x c y : Int32} : up2 (up2 (tT vM f x) 14 n c) 0 24 y = tT vM (upd f n c) y := by
  funext a
  by_cases a0 : a = 0
  · subst a0
    show upd (upd (vM 0) 24 x) 24 y = upd (vM 0) 24 y
    exact upd_upd
  · by_cases a14 : a = 14
    · subst a14
      rfl
    · unfold tT
      rw [up2_k a0, up2_k a14, up2_k a0, upA_k a14, up2_k a0, upA_k a14]
theorem p_trace {N c : Nat} (hc : c < 100) {vK vM : SV} {f : Nat → Int32} {x : Int32} (h : RAsk vK x f) : ∃ vK' f' x', F_X1_leaveTrace N vK (nI c) = some vK' ∧ F_X8_begin N (tT vM f x) (nI c) = some (tT vM f' x') ∧ RAsk vK' x' f' := by
  obtain ⟨n, hn, h1, h2, h3⟩ := h
  have e24 : (tT vM f x) 0 24 = x := rfl
  unfold F_X1_leaveTrace F_X8_begin
  rw [e24, h1, h2]
  by_cases z : n < 16
  · have hlt : nI n < (16 : Int32) := nI_lt (b := 16) z (by decide)
    refine ⟨up2 (up2 vK 1 n (nI c)) 0 1 (nI (n + 1)), upd f n (nI c), nI (n + 1), ?_, ?_, n + 1, by omega, rfl, rfl, fun i hi => ?_⟩
    · rw [if_pos hlt, chk_in z (by decide), nI_clamp (by omega), nI_1]
    · rw [if_pos hlt, chk_in z (by decide), nI_clamp (by omega), nI_1, tT_up]
    · show upd (vK 1) n (nI c) i = _ ∧ _
      by_cases y : i = n
      · rw [y, upd_s, upd_s]; exact ⟨rfl, c, hc, rfl⟩
      · rw [upd_n y, upd_n y]; exact h3 i (by omega)
  · have hlt : ¬ nI n < (16 : Int32) := nI_nlt (b := 16) (by omega) (by omega)
    exact ⟨vK, f, nI n, by rw [if_neg hlt], by rw [if_neg hlt], n, hn, h1, rfl, h3⟩
def aEv (vM : SV) (F M : Option (Int32 × SV)) : Prop := ∃ r vK' f x, F = some (r, vK') ∧ M = some (r, tT vM f x) ∧ RAsk vK' x f
theorem b_10 {N k p j : Nat} {vS vM : SV} {S : Sh} (hc : RC vS S) (hm : RM (vM 4) S) (h1 : S.2.2.1 ≤ 6) (hj : j < S.2.2.1) (hp : p ≤ 16) {vK : SV} {f : Nat → Int32} {x : Int32} (h : RAsk vK x f) : aEv vM (F_X1_beginK N (k + 1) vS vK (nI j) 10 (nI p)) (F_X8_lent N (tT vM f x) (nI j) 10) := by
  obtain ⟨vK', f', x', a1, a2, a3⟩ := p_trace (N := N) (c := 10) (vM := vM) (by omega) h
  refine ⟨S.2.1 2 j, vK', f', x', ?_, ?_, a3⟩
  · show F_X1_begin N (F_X1_beginK N k) vS vK (nI j) 10 (nI p) = _
    unfold F_X1_begin
    rw [if_neg (show ¬ (16 : Int32) < nI p from nI_nlt (a := 16) hp (by decide)), show F_X1_leaveTrace N vK (10 : Int32) = some vK' from a1, bs, if_pos rfl, chk_in (by omega) (by decide), nI_clamp (by omega), (hc.2.2.2.2.2.2.2.1 j hj).2.2.1]
  · unfold F_X8_lent
    rw [show F_X8_begin N (tT vM f x) (10 : Int32) = _ from a2, bs, if_pos rfl, show (19 : Int32) = nI 19 from rfl, nI_add, chk_in (by omega) (by decide), nI_clamp (by omega), show (tT vM f' x') 4 (19 + j) = S.2.1 2 j from (hm.2.2.2.2.2.2.2.1 j hj).2.2.1]
theorem b_20 {N k p j : Nat} {vS vM : SV} (hp : p ≤ 16) {vK : SV} {f : Nat → Int32} {x : Int32} (h : RAsk vK x f) : aEv vM (F_X1_beginK N (k + 1) vS vK (nI j) 20 (nI p)) (F_X8_lent N (tT vM f x) (nI j) 20) := by
  obtain ⟨vK', f', x', a1, a2, a3⟩ := p_trace (N := N) (c := 20) (vM := vM) (by omega) h
  refine ⟨nI j, vK', f', x', ?_, ?_, a3⟩
  · show F_X1_begin N (F_X1_beginK N k) vS vK (nI j) 20 (nI p) = _
    unfold F_X1_begin
    rw [if_neg (show ¬ (16 : Int32) < nI p from nI_nlt (a := 16) hp (by decide)), show F_X1_leaveTrace N vK (20 : Int32) = some vK' from a1, bs, if_neg (by decide), if_neg (by decide), if_neg (by decide), if_neg (by decide), if_neg (by decide), if_pos rfl]
  · unfold F_X8_lent
    rw [show F_X8_begin N (tT vM f x) (20 : Int32) = _ from a2, bs, if_neg (by decide)]
theorem b_13 {N k p j : Nat} {vS vM : SV} {S : Sh} (hc : RC vS S) (hm : RM (vM 4) S) (h1 : S.2.2.1 ≤ 6) (hj : j < S.2.2.1) (hp : p ≤ 15) {vK : SV} {f : Nat → Int32} {x : Int32} (h : RAsk vK x f) : aEv vM (F_X1_beginK N (k + 2) vS vK (nI j) 13 (nI p)) (F_X8_liveSize N (tT vM f x) (nI j)) := by
  obtain ⟨vK', f', x', a1, a2, a3⟩ := p_trace (N := N) (c := 13) (vM := vM) (by omega) h
  obtain ⟨r, vK2, f2, x2, b1, b2, b3⟩ := b_10 (N := N) (k := k) (p := p + 1) hc hm h1 hj (by omega) a3
  refine ⟨r - 100, vK2, f2, x2, ?_, ?_, b3⟩
  · show F_X1_begin N (F_X1_beginK N (k + 1)) vS vK (nI j) 13 (nI p) = _
    unfold F_X1_begin
    rw [if_neg (show ¬ (16 : Int32) < nI p from nI_nlt (a := 16) (by omega) (by decide)), show F_X1_leaveTrace N vK (13 : Int32) = some vK' from a1, bs, if_neg (by decide), if_neg (by decide), if_neg (by decide), if_pos rfl, nI_1, b1]
    rfl
  · unfold F_X8_liveSize
    rw [show F_X8_begin N (tT vM f x) (13 : Int32) = _ from a2, bs, b2]
    rfl
theorem b_21 {N k p j : Nat} (hN : 3000 ≤ N) {vS vM : SV} {S : Sh} (hc : RC vS S) (hm : RM (vM 4) S) (h1 : S.2.2.1 ≤ 6) (h6 : S.2.2.2.1 ≤ 6) (hj : j < S.2.2.1) (hp : p ≤ 15) {vK : SV} {f : Nat → Int32} {x : Int32} (h : RAsk vK x f) : aEv vM (F_X1_beginK N (k + 2) vS vK (nI j) 21 (nI p)) (F_X8_plainMark N (tT vM f x) (nI j)) := by
  obtain ⟨vK', f', x', a1, a2, a3⟩ := p_trace (N := N) (c := 21) (vM := vM) (by omega) h
  obtain ⟨r, vK2, f2, x2, b1, b2, b3⟩ := b_20 (N := N) (k := k) (p := p + 1) (j := j) (vS := vS) (vM := vM) (by omega) a3
  refine ⟨r + nI (cntP (wB S (S.2.1 1 j)) S.2.2.2.1), vK2, f2, x2, ?_, ?_, b3⟩
  · show F_X1_begin N (F_X1_beginK N (k + 1)) vS vK (nI j) 21 (nI p) = _
    unfold F_X1_begin
    rw [if_neg (show ¬ (16 : Int32) < nI p from nI_nlt (a := 16) (by omega) (by decide)), show F_X1_leaveTrace N vK (21 : Int32) = some vK' from a1, bs, if_neg (by decide), if_neg (by decide), if_neg (by decide), if_neg (by decide), if_neg (by decide), if_neg (by decide), if_pos rfl, nI_1, b1, bs, chk_in (by omega) (by decide), nI_clamp (by omega), (hc.2.2.2.2.2.2.2.1 j hj).2.1, p_wanting hN hc h6]
    rfl
  · unfold F_X8_plainMark
    rw [show F_X8_begin N (tT vM f x) (21 : Int32) = _ from a2, bs, b2, bs, p_wantedBy hN (v := tT vM f2 x2) hm h1 h6 hj]
    rfl
theorem b_14 {N k p j : Nat} {vS vM : SV} {S : Sh} (hc : RC vS S) (hm : RM (vM 4) S) (h1 : S.2.2.1 ≤ 6) (hj : j < S.2.2.1) (hp : p ≤ 14) {vK : SV} {f : Nat → Int32} {x : Int32} (h : RAsk vK x f) : aEv vM (F_X1_beginK N (k + 3) vS vK (nI j) 14 (nI p)) ((F_X8_begin N (tT vM f x) (14 : Int32)).bind (fun q16 => (F_X8_liveSize N q16 (nI j)).bind (fun q22 => some (((2 : Int32) * (q22.1)), (q22.2))))) := by
  obtain ⟨vK', f', x', a1, a2, a3⟩ := p_trace (N := N) (c := 14) (vM := vM) (by omega) h
  obtain ⟨r, vK2, f2, x2, b1, b2, b3⟩ := b_13 (N := N) (k := k) (p := p + 1) hc hm h1 hj (by omega) a3
  refine ⟨2 * r, vK2, f2, x2, ?_, ?_, b3⟩
  · show F_X1_begin N (F_X1_beginK N (k + 2)) vS vK (nI j) 14 (nI p) = _
    unfold F_X1_begin
    rw [if_neg (show ¬ (16 : Int32) < nI p from nI_nlt (a := 16) (by omega) (by decide)), show F_X1_leaveTrace N vK (14 : Int32) = some vK' from a1, bs, if_neg (by decide), if_neg (by decide), if_neg (by decide), if_neg (by decide), if_pos rfl, nI_1, b1]
    rfl
  · rw [show F_X8_begin N (tT vM f x) (14 : Int32) = _ from a2, bs, b2]
    rfl
theorem anewE {N K p j kd : Nat} {vS vK : SV} {S : Sh} (hc : RC vS S) (hj : j < S.2.2.1) (h1 : S.2.2.1 ≤ 6) (hk : kd ≤ 5) (ek : S.2.1 0 j = nI kd) (what : Int32) : F_X1_askAnew N (F_X1_beginK N K) vS vK (nI j) what (nI p) = (F_X1_beginK N K vS vK (nI j) (if what = 0 then tSizeB kd else tMarkB kd) (nI p)).bind (fun q42 => some ((q42.1), (q42.2))) := by
  unfold F_X1_askAnew F_X1_isKind
  rw [chk_in (by omega) (by decide), nI_clamp (by omega), (hc.2.2.2.2.2.2.2.1 j hj).1, ek, if_neg (nI_pos (by omega)), if_pos (show nI kd < (6 : Int32) from nI_lt (b := 6) (by omega) (by decide)), bs, if_neg one0]
  simp only [jn_eq]
  rw [chk_in (by omega) (by decide), chk_in (by omega) (by decide), nI_clamp (by omega)]
  by_cases z : what = 0
  · rw [if_pos z, if_pos z]
  · rw [if_neg z, if_neg z]
theorem m7 {vM : SV} {S : Sh} {j kd : Nat} {f : Nat → Int32} {x : Int32} (hm : RM (vM 4) S) (hj : j < S.2.2.1) (ek : S.2.1 0 j = nI kd) : (tT vM f x) 4 (7 + j) = nI kd := ((hm.2.2.2.2.2.2.2.1 j hj).1).trans ek
theorem aEv_id {vM : SV} {F M : Option (Int32 × SV)} (h : aEv vM F M) : aEv vM (F.bind (fun q => some ((q.1), (q.2)))) (M.bind (fun q => some ((q.1), (q.2)))) := by
  obtain ⟨r, vK', f, x, h1, h2, h3⟩ := h
  exact ⟨r, vK', f, x, by rw [h1]; rfl, by rw [h2]; rfl, h3⟩
theorem aEv_idC {vM : SV} {F M : Option (Int32 × SV)} (h : aEv vM F M) : aEv vM (F.bind (fun q => some ((q.1), (q.2)))) M := by
  obtain ⟨r, vK', f, x, h1, h2, h3⟩ := h
  exact ⟨r, vK', f, x, by rw [h1]; rfl, h2, h3⟩
/-- the size of a live one: 13 or 14 -/
theorem b_live {N k p j kd : Nat} {vS vM : SV} {S : Sh} (hc : RC vS S) (hm : RM (vM 4) S) (h1 : S.2.2.1 ≤ 6) (hj : j < S.2.2.1) (hp : p ≤ 14) (hk : kd = 4 ∨ kd = 5) (ek : S.2.1 0 j = nI kd) {vK : SV} {f : Nat → Int32} {x : Int32} (h : RAsk vK x f) : aEv vM (F_X1_askAnew N (F_X1_beginK N (k + 3)) vS vK (nI j) 0 (nI p)) (F_X8_sizeOfLive N (tT vM f x) (nI j)) := by
  rw [anewE hc hj h1 (by omega) ek]
  unfold F_X8_sizeOfLive
  rw [show (7 : Int32) = nI 7 from rfl, nI_add, chk_in (by omega) (by decide), nI_clamp (by omega), m7 hm hj ek, if_pos rfl]
  rcases hk with rfl | rfl
  · rw [if_neg (show ¬ nI 4 = 5 by decide)]
    exact aEv_id (b_13 (k := k + 1) hc hm h1 hj (by omega) h)
  · rw [if_pos (show nI 5 = 5 from rfl)]
    exact aEv_idC (b_14 (k := k) hc hm h1 hj hp h)
theorem b_mark {N k p j kd : Nat} (hN : 3000 ≤ N) {vS vM : SV} {S : Sh} (hc : RC vS S) (hm : RM (vM 4) S) (h1 : S.2.2.1 ≤ 6) (h6 : S.2.2.2.1 ≤ 6) (hj : j < S.2.2.1) (hp : p ≤ 12) (hk : 1 ≤ kd ∧ kd ≤ 5) (ek : S.2.1 0 j = nI kd) {vK : SV} {f : Nat → Int32} {x : Int32} (h : RAsk vK x f) : aEv vM (F_X1_askAnew N (F_X1_beginK N (k + 5)) vS vK (nI j) 1 (nI p)) (F_X8_markOf N (tT vM f x) (nI j)) := by
  rw [anewE hc hj h1 (by omega) ek]
  unfold F_X8_markOf
  rw [show (7 : Int32) = nI 7 from rfl, nI_add, chk_in (by omega) (by decide), nI_clamp (by omega), m7 hm hj ek, if_neg one0]
  have hk5 : kd = 1 ∨ kd = 2 ∨ kd = 3 ∨ kd = 4 ∨ kd = 5 := by omega
  have live : kd = 4 ∨ kd = 5 → aEv vM ((F_X1_beginK N (k + 5) vS vK (nI j) (23 : Int32) (nI p)).bind (fun q42 => some ((q42.1), (q42.2)))) ((F_X8_begin N (tT vM f x) (23 : Int32)).bind (fun q64 => (F_X8_lent N q64 (nI j) (20 : Int32)).bind (fun q71 => (F_X8_sizeOfLive N (q71.2) (nI j)).bind (fun q78 => some (((q71.1) - (q78.1)), (q78.2)))))) := fun hk45 => by
    obtain ⟨vK', f', x', a1, a2, a3⟩ := p_trace (N := N) (c := 23) (vM := vM) (by omega) h
    obtain ⟨r, vK2, f2, x2, b1, b2, b3⟩ := b_20 (N := N) (k := k + 3) (p := p + 1) (j := j) (vS := vS) (vM := vM) (by omega) a3
    obtain ⟨r3, vK3, f3, x3, c1, c2, c3⟩ := b_live (N := N) (k := k + 1) (p := p + 1) hc hm h1 hj (by omega) hk45 ek b3
    refine ⟨r - r3, vK3, f3, x3, ?_, ?_, c3⟩
    · show (F_X1_begin N (F_X1_beginK N (k + 4)) vS vK (nI j) 23 (nI p)).bind _ = _
      unfold F_X1_begin
      rw [if_neg (show ¬ (16 : Int32) < nI p from nI_nlt (a := 16) (by omega) (by decide)), show F_X1_leaveTrace N vK (23 : Int32) = some vK' from a1, bs, if_neg (by decide), if_neg (by decide), if_neg (by decide), if_neg (by decide), if_neg (by decide), if_neg (by decide), if_neg (by decide), if_neg (by decide), if_pos rfl, nI_1, b1, bs, c1]
      rfl
    · rw [show F_X8_begin N (tT vM f x) (23 : Int32) = _ from a2, bs, b2, bs, c2]
      rfl
  rcases hk5 with rfl | rfl | rfl | rfl | rfl
  · rw [if_neg (show ¬ nI 1 = 2 by decide), if_neg (show ¬ nI 1 = 3 by decide), if_pos (show nI 1 = 1 from rfl)]
    exact aEv_id (b_21 (k := k + 3) hN hc hm h1 h6 hj (by omega) h)
  · rw [if_pos (show nI 2 = 2 from rfl)]
    obtain ⟨vK', f', x', a1, a2, a3⟩ := p_trace (N := N) (c := 24) (vM := vM) (by omega) h
    obtain ⟨r, vK2, f2, x2, b1, b2, b3⟩ := b_21 (N := N) (k := k + 2) (p := p + 1) hN hc hm h1 h6 hj (by omega) a3
    refine ⟨2 * r, vK2, f2, x2, ?_, ?_, b3⟩
    · show (F_X1_begin N (F_X1_beginK N (k + 4)) vS vK (nI j) 24 (nI p)).bind _ = _
      unfold F_X1_begin
      rw [if_neg (show ¬ (16 : Int32) < nI p from nI_nlt (a := 16) (by omega) (by decide)), show F_X1_leaveTrace N vK (24 : Int32) = some vK' from a1, bs, if_neg (by decide), if_neg (by decide), if_neg (by decide), if_neg (by decide), if_neg (by decide), if_neg (by decide), if_neg (by decide), if_neg (by decide), if_neg (by decide), if_pos rfl, nI_1, b1]
      rfl
    · rw [show F_X8_begin N (tT vM f x) (24 : Int32) = _ from a2, bs, b2]
      rfl
  · rw [if_neg (show ¬ nI 3 = 2 by decide), if_pos (show nI 3 = 3 from rfl)]
    obtain ⟨vK', f', x', a1, a2, a3⟩ := p_trace (N := N) (c := 22) (vM := vM) (by omega) h
    obtain ⟨r, vK2, f2, x2, b1, b2, b3⟩ := b_21 (N := N) (k := k + 2) (p := p + 1) hN hc hm h1 h6 hj (by omega) a3
    refine ⟨r - 1000, vK2, f2, x2, ?_, ?_, b3⟩
    · show (F_X1_begin N (F_X1_beginK N (k + 4)) vS vK (nI j) 22 (nI p)).bind _ = _
      unfold F_X1_begin
      rw [if_neg (show ¬ (16 : Int32) < nI p from nI_nlt (a := 16) (by omega) (by decide)), show F_X1_leaveTrace N vK (22 : Int32) = some vK' from a1, bs, if_neg (by decide), if_neg (by decide), if_neg (by decide), if_neg (by decide), if_neg (by decide), if_neg (by decide), if_neg (by decide), if_pos rfl, nI_1, b1]
      rfl
    · rw [show F_X8_begin N (tT vM f x) (22 : Int32) = _ from a2, bs, b2]
      rfl
  · rw [if_neg (show ¬ nI 4 = 2 by decide), if_neg (show ¬ nI 4 = 3 by decide), if_neg (show ¬ nI 4 = 1 by decide)]
    exact live (Or.inl rfl)
  · rw [if_neg (show ¬ nI 5 = 2 by decide), if_neg (show ¬ nI 5 = 3 by decide), if_neg (show ¬ nI 5 = 1 by decide)]
    exact live (Or.inr rfl)
theorem b_11 {N k p j kd : Nat} (hN : 3000 ≤ N) {vS vM : SV} {S : Sh} (hc : RC vS S) (hm : RM (vM 4) S) (h1 : S.2.2.1 ≤ 6) (h6 : S.2.2.2.1 ≤ 6) (hj : j < S.2.2.1) (hp : p ≤ 11) (hk : 1 ≤ kd ∧ kd ≤ 5) (ek : S.2.1 0 j = nI kd) {vK : SV} {f : Nat → Int32} {x : Int32} (h : RAsk vK x f) : aEv vM (F_X1_beginK N (k + 6) vS vK (nI j) 11 (nI p)) (F_X8_plainSize N (tT vM f x) (nI j)) := by
  obtain ⟨vK', f', x', a1, a2, a3⟩ := p_trace (N := N) (c := 11) (vM := vM) (by omega) h
  obtain ⟨r, vK2, f2, x2, b1, b2, b3⟩ := b_10 (N := N) (k := k + 4) (p := p + 1) hc hm h1 hj (by omega) a3
  obtain ⟨r3, vK3, f3, x3, c1, c2, c3⟩ := b_mark (N := N) (k := k) (p := p + 1) hN hc hm h1 h6 hj (by omega) hk ek b3
  refine ⟨r + r3, vK3, f3, x3, ?_, ?_, c3⟩
  · show F_X1_begin N (F_X1_beginK N (k + 5)) vS vK (nI j) 11 (nI p) = _
    unfold F_X1_begin
    rw [if_neg (show ¬ (16 : Int32) < nI p from nI_nlt (a := 16) (by omega) (by decide)), show F_X1_leaveTrace N vK (11 : Int32) = some vK' from a1, bs, if_neg (by decide), if_pos rfl, nI_1, b1, bs, c1]
    rfl
  · unfold F_X8_plainSize
    rw [show F_X8_begin N (tT vM f x) (11 : Int32) = _ from a2, bs, b2, bs, c2]
    rfl
theorem b_size {N k p j kd : Nat} (hN : 3000 ≤ N) {vS vM : SV} {S : Sh} (hc : RC vS S) (hm : RM (vM 4) S) (h1 : S.2.2.1 ≤ 6) (h6 : S.2.2.2.1 ≤ 6) (hj : j < S.2.2.1) (hp : p ≤ 10) (hk : 1 ≤ kd ∧ kd ≤ 5) (ek : S.2.1 0 j = nI kd) {vK : SV} {f : Nat → Int32} {x : Int32} (h : RAsk vK x f) : aEv vM (F_X1_askAnew N (F_X1_beginK N (k + 7)) vS vK (nI j) 0 (nI p)) (F_X8_sizeOf N (tT vM f x) (nI j)) := by
  have hk5 : kd = 1 ∨ kd = 2 ∨ kd = 3 ∨ kd = 4 ∨ kd = 5 := by omega
  unfold F_X8_sizeOf
  rw [show (7 : Int32) = nI 7 from rfl, nI_add, chk_in (by omega) (by decide), nI_clamp (by omega), m7 hm hj ek]
  rcases hk5 with rfl | rfl | rfl | rfl | rfl
  · rw [anewE hc hj h1 (by omega) ek, if_pos rfl, if_neg (show ¬ nI 1 = 2 by decide), if_pos (show nI 1 < 4 by decide)]
    exact aEv_id (b_11 (k := k + 1) hN hc hm h1 h6 hj (by omega) hk ek h)
  · rw [anewE hc hj h1 (by omega) ek, if_pos rfl, if_pos (show nI 2 = 2 from rfl)]
    obtain ⟨vK', f', x', a1, a2, a3⟩ := p_trace (N := N) (c := 12) (vM := vM) (by omega) h
    obtain ⟨r, vK2, f2, x2, b1, b2, b3⟩ := b_11 (N := N) (k := k) (p := p + 1) hN hc hm h1 h6 hj (by omega) hk ek a3
    refine ⟨-r, vK2, f2, x2, ?_, ?_, b3⟩
    · show (F_X1_begin N (F_X1_beginK N (k + 6)) vS vK (nI j) 12 (nI p)).bind _ = _
      unfold F_X1_begin
      rw [if_neg (show ¬ (16 : Int32) < nI p from nI_nlt (a := 16) (by omega) (by decide)), show F_X1_leaveTrace N vK (12 : Int32) = some vK' from a1, bs, if_neg (by decide), if_neg (by decide), if_pos rfl, nI_1, b1]
      rfl
    · rw [show F_X8_begin N (tT vM f x) (12 : Int32) = _ from a2, bs, b2]
      rfl
  · rw [anewE hc hj h1 (by omega) ek, if_pos rfl, if_neg (show ¬ nI 3 = 2 by decide), if_pos (show nI 3 < 4 by decide)]
    exact aEv_id (b_11 (k := k + 1) hN hc hm h1 h6 hj (by omega) hk ek h)
  · rw [if_neg (show ¬ nI 4 = 2 by decide), if_neg (show ¬ nI 4 < 4 by decide)]
    obtain ⟨r, vK2, f2, x2, b1, b2, b3⟩ := b_live (N := N) (k := k + 4) (p := p) hc hm h1 hj (by omega) (Or.inl rfl) ek h
    exact ⟨r, vK2, f2, x2, b1, by rw [b2]; rfl, b3⟩
  · rw [if_neg (show ¬ nI 5 = 2 by decide), if_neg (show ¬ nI 5 < 4 by decide)]
    obtain ⟨r, vK2, f2, x2, b1, b2, b3⟩ := b_live (N := N) (k := k + 4) (p := p) hc hm h1 hj (by omega) (Or.inr rfl) ek h
    exact ⟨r, vK2, f2, x2, b1, by rw [b2]; rfl, b3⟩
theorem st_ask {N : Nat} (hN : 3000 ≤ N) : St_ask N Rel := by
  intro vR vW vT vS vD vA vI vJ vE vF vP vQ vK vM gW gA gL x1 x2 hrel
  have keep := hrel
  obtain ⟨hr, hs, ht, ⟨S, hc, hm, hi, hs4⟩, ha, hI, hk⟩ := hrel
  have h1 := hi.1
  have h6 := hi.2.1
  rcases thing_ix (N := N) hc hm hi x1 with ⟨a, b⟩ | ⟨j, hj, rfl, a, b⟩
  · exact ⟨(-1000001, vK), (-1000001, vM), by unfold F_X7_ask; rw [a]; rfl, by unfold F_X8_ask; rw [b]; rfl, rfl, keep⟩
  rcases rg (N := N) (l := 0) (h := 1) 0 1 rfl rfl (b := 0) (c := 1) rfl rfl (by omega) (by omega) x2 with ⟨c, d⟩ | ⟨c, d, e⟩ | ⟨n, n1, n24, rfl, c, d, e⟩
  · exact ⟨(-1000001, vK), (-1000001, vM), by unfold F_X7_ask; rw [a, bs, if_neg one0, if_pos c], by unfold F_X8_ask; rw [b, bs, if_neg one0, d]; rfl, rfl, keep⟩
  · exact ⟨(-1000001, vK), (-1000001, vM), by unfold F_X7_ask; rw [a, bs, if_neg one0, if_neg c, if_pos d], by unfold F_X8_ask; rw [b, bs, if_neg one0, e]; rfl, rfl, keep⟩
  obtain ⟨⟨kd, k1, k2, ek⟩, -⟩ := hi.2.2.2.2.1 j hj
  have hA : RAsk (up2 vK 0 1 0) 0 (vM 14) := ⟨0, by omega, rfl, rfl, fun i hi => absurd hi (by omega)⟩
  have eT : up2 vM 0 24 0 = tT vM (vM 14) 0 := by unfold tT; rw [upA_self]
  have hn : n = 0 ∨ n = 1 := by omega
  rcases hn with rfl | rfl
  · obtain ⟨r, vK2, f2, x2, b1, b2, b3⟩ := b_size (N := N) (k := 13) (p := 0) hN hc hm h1 h6 hj (by omega) ⟨k1, k2⟩ ek hA
    refine ⟨(r, vK2), (r, tT vM f2 x2), ?_, ?_, rfl, hr, hs, ht, ⟨S, hc, hm, hi, hs4⟩, ha, hI, b3, hk.2⟩
    · unfold F_X7_ask F_X1_answer F_X1_askAnewC
      rw [a, bs, if_neg one0, if_neg c, if_neg d, show F_X1_askAnew N (F_X1_beginK N 20) vS (up2 vK 0 1 0) (nI j) (nI 0) (0 : Int32) = some (r, vK2) from b1]; rfl
    · unfold F_X8_ask
      rw [b, bs, if_neg one0, e, bs, if_neg one0, if_pos (show nI 0 = 0 from rfl), eT, b2]; rfl
  · obtain ⟨r, vK2, f2, x2, b1, b2, b3⟩ := b_mark (N := N) (k := 15) (p := 0) hN hc hm h1 h6 hj (by omega) ⟨k1, k2⟩ ek hA
    refine ⟨(r, vK2), (r, tT vM f2 x2), ?_, ?_, rfl, hr, hs, ht, ⟨S, hc, hm, hi, hs4⟩, ha, hI, b3, hk.2⟩
    · unfold F_X7_ask F_X1_answer F_X1_askAnewC
      rw [a, bs, if_neg one0, if_neg c, if_neg d, show F_X1_askAnew N (F_X1_beginK N 20) vS (up2 vK 0 1 0) (nI j) (nI 1) (0 : Int32) = some (r, vK2) from b1]; rfl
    · unfold F_X8_ask
      rw [b, bs, if_neg one0, e, bs, if_neg one0, if_neg (show ¬ nI 1 = 0 from one0), eT, b2]; rfl
