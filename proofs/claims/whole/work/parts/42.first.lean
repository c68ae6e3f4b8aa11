/-! the list: laid first -/
theorem upA_self {v : SV} {k : Nat} : upA v k (v k) = v := by
  funext a
  unfold upA
  by_cases h : a = k
  · rw [if_pos h, h]
  · rw [if_neg h]
theorem l_firstC {N : Nat} {x1 : Int32} {K : SV → Option SV} : ∀ d n v, d ≤ 5 → d < n → ∃ f, F_X5_putFirst_L20 N x1 K n (nI d) v = K (upA v 8 f) ∧ ∀ i, f i = if 1 ≤ i ∧ i ≤ d then v 8 (i - 1) else v 8 i := by
  intro d
  induction d with
  | zero =>
    intro n v hd hn
    obtain ⟨n, rfl⟩ : ∃ m, n = m + 1 := ⟨n - 1, by omega⟩
    refine ⟨v 8, ?_, fun i => by rw [if_neg (by omega)]⟩
    rw [F_X5_putFirst_L20, if_neg (by decide), upA_self]
  | succ d ih =>
    intro n v hd hn
    obtain ⟨n, rfl⟩ : ∃ m, n = m + 1 := ⟨n - 1, by omega⟩
    obtain ⟨f, f1, f2⟩ := ih n (up2 v 8 (d + 1) (v 8 d)) (by omega) (by omega)
    refine ⟨f, ?_, fun i => ?_⟩
    · rw [F_X5_putFirst_L20, if_pos (show (0 : Int32) < nI (d + 1) from nI_lt (a := 0) (by omega) (by omega)), nI_s1 (by omega), chk_in (n := 6) (k := d + 1 - 1) (by omega) (by decide), chk_in (n := 6) (k := d + 1) (by omega) (by decide), nI_clamp (n := d + 1) (by omega), nI_clamp (n := d + 1 - 1) (by omega), nI_p, show d + 1 - 1 = d from rfl, f1]
      unfold up2
      rw [upA_upA]
    · rw [f2 i]
      show (if 1 ≤ i ∧ i ≤ d then upd (v 8) (d + 1) (v 8 d) (i - 1) else upd (v 8) (d + 1) (v 8 d) i) = _
      by_cases q : 1 ≤ i ∧ i ≤ d
      · rw [if_pos q, if_pos (by omega), upd_n (by omega)]
      · rw [if_neg q]
        by_cases e : i = d + 1
        · subst e
          rw [if_pos (by omega), upd_s]
          rfl
        · rw [if_neg (by omega), upd_n e]
theorem l_firstM {N : Nat} {x1 : Int32} {K : SV → Option SV} : ∀ d n v, d ≤ 5 → d < n → ∃ f, F_X8_layFirst_L21 N x1 K n (nI d) v = K (upA v 4 f) ∧ ∀ i, f i = if 32 ≤ i ∧ i ≤ 31 + d then v 4 (i - 1) else v 4 i := by
  intro d
  induction d with
  | zero =>
    intro n v hd hn
    obtain ⟨n, rfl⟩ : ∃ m, n = m + 1 := ⟨n - 1, by omega⟩
    refine ⟨v 4, ?_, fun i => by rw [if_neg (by omega)]⟩
    rw [F_X8_layFirst_L21, if_neg (by decide), upA_self]
  | succ d ih =>
    intro n v hd hn
    obtain ⟨n, rfl⟩ : ∃ m, n = m + 1 := ⟨n - 1, by omega⟩
    obtain ⟨f, f1, f2⟩ := ih n (up2 v 4 (31 + (d + 1)) (v 4 (31 + d))) (by omega) (by omega)
    refine ⟨f, ?_, fun i => ?_⟩
    · rw [F_X8_layFirst_L21, if_pos (show (0 : Int32) < nI (d + 1) from nI_lt (a := 0) (by omega) (by omega)), show (31 : Int32) = nI 31 from rfl, nI_add, nI_s1 (by omega), chk_in (n := 55) (k := 31 + (d + 1) - 1) (by omega) (by decide), chk_in (n := 55) (k := 31 + (d + 1)) (by omega) (by decide), nI_clamp (n := 31 + (d + 1)) (by omega), nI_clamp (n := 31 + (d + 1) - 1) (by omega), nI_p, show 31 + (d + 1) - 1 = 31 + d from rfl, f1]
      unfold up2
      rw [upA_upA]
    · rw [f2 i]
      show (if 32 ≤ i ∧ i ≤ 31 + d then upd (v 4) (31 + (d + 1)) (v 4 (31 + d)) (i - 1) else upd (v 4) (31 + (d + 1)) (v 4 (31 + d)) i) = _
      by_cases q : 32 ≤ i ∧ i ≤ 31 + d
      · rw [if_pos q, if_pos (by omega), upd_n (by omega)]
      · rw [if_neg q]
        by_cases e : i = 31 + (d + 1)
        · subst e
          rw [if_pos (by omega), upd_s]
          rfl
        · rw [if_neg (by omega), upd_n e]
theorem wo_not {l : List Nat} {j : Nat} : j ∉ wo l j := fun h => by
  have := (List.mem_filter.mp h).2
  simp at this
theorem wo_len {B : Nat} {S : Sh} (hi : SInv B S) {j : Nat} (hj : j < S.2.2.1) : (wo S.2.2.2.2 j).length < S.2.2.1 := by
  have h1 : (j :: wo S.2.2.2.2 j).length ≤ (List.range S.2.2.1).length := List.Nodup.length_le_of_subset (List.nodup_cons.mpr ⟨wo_not, wo_nd hi.2.2.1⟩) (fun x hx => by
    rcases List.mem_cons.mp hx with e | e
    · rw [e]; exact List.mem_range.mpr hj
    · exact List.mem_range.mpr (hi.2.2.2.1 x (wo_in e)))
  rw [List.length_range, List.length_cons] at h1
  omega
theorem p_firstC {N : Nat} (hN : 3000 ≤ N) {v : SV} {S : Sh} {B : Nat} (hc : RC v S) (hi : SInv B S) {j : Nat} (hj : j < S.2.2.1) : ∃ w, F_X5_putFirst N v (nI j) = some w ∧ RC w (sL S (j :: wo S.2.2.2.2 j)) := by
  have h1 := hi.1
  have h2 := wo_len hi hj
  obtain ⟨f, f1, f2⟩ := p_offC hN hc hi (j := j) (by omega)
  obtain ⟨g, g1, g2⟩ := l_firstC (N := N) (x1 := nI j) (K := fun (v_44 : SV) => chk 6 (0 : Int32) (some (up2 (up2 v_44 8 ((0 : Int32).toNatClampNeg) (nI j)) 0 4 ((v_44 0 4) + (1 : Int32))))) (wo S.2.2.2.2 j).length N (up2 (upA v 8 f) 0 4 (nI (wo S.2.2.2.2 j).length)) (by omega) (by omega)
  refine ⟨up2 (up2 (upA (up2 (upA v 8 f) 0 4 (nI (wo S.2.2.2.2 j).length)) 8 g) 8 0 (nI j)) 0 4 (nI ((wo S.2.2.2.2 j).length + 1)), ?_, ?_⟩
  · unfold F_X5_putFirst
    rw [f1, bs]
    show (if nI (wo S.2.2.2.2 j).length < (6 : Int32) then F_X5_putFirst_L20 N (nI j) _ N (nI (wo S.2.2.2.2 j).length) _ else _) = _
    rw [if_pos (show nI (wo S.2.2.2.2 j).length < (6 : Int32) from nI_lt (b := 6) (by omega) (by decide)), g1, chk_dec (by decide)]
    show some (up2 (up2 _ 8 0 (nI j)) 0 4 (nI (wo S.2.2.2.2 j).length + 1)) = _
    rw [nI_1]
  · refine ⟨hc.1, hc.2.1, hc.2.2.1, hc.2.2.2.1, rfl, hc.2.2.2.2.2.1, hc.2.2.2.2.2.2.1, hc.2.2.2.2.2.2.2.1, hc.2.2.2.2.2.2.2.2.1, fun i hI => ?_⟩
    show upd g 0 (nI j) i = nI ((j :: wo S.2.2.2.2 j).getD i 0)
    have hI : i < (wo S.2.2.2.2 j).length + 1 := hI
    cases i with
    | zero => rw [upd_s]; rfl
    | succ i =>
      rw [upd_n (by omega), g2, if_pos (by omega)]
      exact f2 i (by omega)
theorem p_firstM {N : Nat} (hN : 3000 ≤ N) {v vC : SV} {S : Sh} {B : Nat} (hc : RC vC S) (hm : RM (v 4) S) (hi : SInv B S) {j : Nat} (hj : j < S.2.2.1) : ∃ f, F_X8_layFirst N v (nI j) = some (upA v 4 f) ∧ RM f (sL S (j :: wo S.2.2.2.2 j)) := by
  have h1 := hi.1
  have h2 := wo_len hi hj
  have h3 := hi.2.1
  have key : ∀ w : SV, RM (w 4) (sL S (wo S.2.2.2.2 j)) → ∃ f, (chk 55 (6 : Int32) (F_X8_layFirst_L21 N (nI j) (fun (v_51 : SV) => chk 55 (31 : Int32) (chk 55 (6 : Int32) (chk 55 (6 : Int32) (some (up2 (up2 v_51 4 ((31 : Int32).toNatClampNeg) (nI j)) 4 ((6 : Int32).toNatClampNeg) (((upd (v_51 4) ((31 : Int32).toNatClampNeg) (nI j)) ((6 : Int32).toNatClampNeg)) + (1 : Int32))))))) N ((w 4) ((6 : Int32).toNatClampNeg)) w)) = some (upA w 4 f) ∧ RM f (sL S (j :: wo S.2.2.2.2 j)) := by
    intro w hw
    have w6 : w 4 6 = nI (wo S.2.2.2.2 j).length := hw.2.2.2.2.1
    obtain ⟨f, f1, f2⟩ := l_firstM (N := N) (x1 := nI j) (K := fun (v_51 : SV) => chk 55 (31 : Int32) (chk 55 (6 : Int32) (chk 55 (6 : Int32) (some (up2 (up2 v_51 4 ((31 : Int32).toNatClampNeg) (nI j)) 4 ((6 : Int32).toNatClampNeg) (((upd (v_51 4) ((31 : Int32).toNatClampNeg) (nI j)) ((6 : Int32).toNatClampNeg)) + (1 : Int32))))))) (wo S.2.2.2.2 j).length N w (by omega) (by omega)
    refine ⟨upd (upd f 31 (nI j)) 6 (nI ((wo S.2.2.2.2 j).length + 1)), ?_, rmL (S := sL S (wo S.2.2.2.2 j)) hw (fun k q1 q2 => ?_) upd_s (fun k hk => ?_) h1 h3⟩
    · rw [k6, show w 4 ((6 : Int32).toNatClampNeg) = nI (wo S.2.2.2.2 j).length from w6, f1, chk_dec (n := 55) (x := 31) (by decide), k6, k6, t31, t6]
      show some (up2 (up2 (upA w 4 f) 4 31 (nI j)) 4 6 (upd f 31 (nI j) 6 + 1)) = _
      rw [upd_n (by omega), f2, if_neg (by omega), w6, nI_1]
      unfold up2
      rw [upA_upA, upA_upA]
      rfl
    · rw [upd_n q1, upd_n (by omega), f2, if_neg (by omega)]
    · have hk : k < (wo S.2.2.2.2 j).length + 1 := hk
      rw [upd_n (by omega)]
      cases k with
      | zero => rw [upd_s]; rfl
      | succ k =>
        rw [upd_n (by omega), f2, if_pos (by omega)]
        exact hw.2.2.2.2.2.2.2.2.2 k (by show k < (wo S.2.2.2.2 j).length; omega)
  unfold F_X8_layFirst
  rcases p_place hN hc hm hi (j := j) (by omega) with ⟨q, -, p2⟩ | ⟨q, i, hil, hg, -, p2⟩
  · rw [p2, bs]
    simp only [jn_eq]
    rw [if_pos (by decide)]
    exact key v (by rw [wo_id q]; exact hm)
  · rw [p2, bs]
    simp only [jn_eq]
    have := len6 hi
    rw [if_neg (nI_pos (by omega))]
    obtain ⟨g, g1, g2⟩ := p_offM hN hc hm hi q
    rw [g1, bs]
    obtain ⟨f, f1, f2⟩ := key (upA v 4 g) g2
    exact ⟨f, by rw [f1, upA_upA], f2⟩
