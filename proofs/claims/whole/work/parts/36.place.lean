/-! where a thing is on the list; seat, thing -/
theorem len6 {B : Nat} {S : Sh} (hi : SInv B S) : S.2.2.2.2.length ≤ S.2.2.1 := by
  have h1 : S.2.2.2.2.length ≤ (List.range S.2.2.1).length := List.Nodup.length_le_of_subset hi.2.2.1 (fun x hx => List.mem_range.mpr (hi.2.2.2.1 x hx))
  rw [List.length_range] at h1
  exact h1
theorem getD_mem {l : List Nat} {i : Nat} (h : i < l.length) : l.getD i 0 ∈ l := by
  rw [List.getD_eq_getElem?_getD, List.getElem?_eq_getElem h]
  exact List.getElem_mem h
theorem list_lt {B : Nat} {S : Sh} (hi : SInv B S) {i : Nat} (h : i < S.2.2.2.2.length) : S.2.2.2.2.getD i 0 < S.2.2.1 := hi.2.2.2.1 _ (getD_mem h)
theorem getD_inj {l : List Nat} (hn : l.Nodup) {i k : Nat} (hi : i < l.length) (hk : k < l.length) (h : l.getD i 0 = l.getD k 0) : i = k := by
  rw [List.getD_eq_getElem?_getD, List.getElem?_eq_getElem hi, List.getD_eq_getElem?_getD, List.getElem?_eq_getElem hk] at h
  have h1 := hn
  rw [List.nodup_iff_pairwise_ne, List.pairwise_iff_getElem] at h1
  have h : l[i] = l[k] := h
  rcases Nat.lt_trichotomy i k with a | a | a
  · exact absurd h (h1 i k hi hk a)
  · exact a
  · exact absurd h.symm (h1 k i hk hi a)
theorem l_placeC {N : Nat} {v : SV} {S : Sh} {B j i : Nat} (hc : RC v S) (hi : SInv B S) (hj : j < 2 ^ 31) (hil : i < S.2.2.2.2.length) (hu : ∀ k, k < S.2.2.2.2.length → (S.2.2.2.2.getD k 0 = j ↔ k = i)) : ∀ d s n, s + d = i → d < n → F_X5_placeOf_L2 N v (nI j) n (nI s) = some (nI i) := by
  have h1 := hi.1
  have h2 := len6 hi
  intro d
  induction d with
  | zero =>
    intro s n hs hn
    obtain ⟨n, rfl⟩ : ∃ m, n = m + 1 := ⟨n - 1, by omega⟩
    have e : s = i := by omega
    subst e
    rw [F_X5_placeOf_L2, hc.2.2.2.2.1, if_pos (nI_lt hil (by omega)), chk_in (by omega) (by decide), nI_clamp (by omega), hc.2.2.2.2.2.2.2.2.2 s hil, if_pos (by rw [(hu s hil).mpr rfl])]
  | succ d ih =>
    intro s n hs hn
    obtain ⟨n, rfl⟩ : ∃ m, n = m + 1 := ⟨n - 1, by omega⟩
    have hsl : s < S.2.2.2.2.length := by omega
    have hne : ¬ nI (S.2.2.2.2.getD s 0) = nI j := fun q => by
      have := (nI_eq (by have := list_lt hi hsl; omega) hj).mp q
      have := (hu s hsl).mp this
      omega
    rw [F_X5_placeOf_L2, hc.2.2.2.2.1, if_pos (nI_lt hsl (by omega)), chk_in (by omega) (by decide), nI_clamp (by omega), hc.2.2.2.2.2.2.2.2.2 s hsl, if_neg hne, nI_1]
    exact ih (s + 1) n (by omega) (by omega)
theorem l_placeC0 {N : Nat} {v : SV} {S : Sh} {B j : Nat} (hc : RC v S) (hi : SInv B S) (hj : j < 2 ^ 31) (hu : ∀ k, k < S.2.2.2.2.length → ¬ S.2.2.2.2.getD k 0 = j) : ∀ d s n, s + d = S.2.2.2.2.length → d < n → F_X5_placeOf_L2 N v (nI j) n (nI s) = some (-1) := by
  have h1 := hi.1
  have h2 := len6 hi
  intro d
  induction d with
  | zero =>
    intro s n hs hn
    obtain ⟨n, rfl⟩ : ∃ m, n = m + 1 := ⟨n - 1, by omega⟩
    rw [F_X5_placeOf_L2, hc.2.2.2.2.1, if_neg (nI_nlt (by omega) (by omega))]
  | succ d ih =>
    intro s n hs hn
    obtain ⟨n, rfl⟩ : ∃ m, n = m + 1 := ⟨n - 1, by omega⟩
    have hsl : s < S.2.2.2.2.length := by omega
    have hne : ¬ nI (S.2.2.2.2.getD s 0) = nI j := fun q => hu s hsl ((nI_eq (by have := list_lt hi hsl; omega) hj).mp q)
    rw [F_X5_placeOf_L2, hc.2.2.2.2.1, if_pos (nI_lt hsl (by omega)), chk_in (by omega) (by decide), nI_clamp (by omega), hc.2.2.2.2.2.2.2.2.2 s hsl, if_neg hne, nI_1]
    exact ih (s + 1) n (by omega) (by omega)
theorem l_placeM {N : Nat} {v : SV} {S : Sh} {B j : Nat} (hm : RM (v 4) S) (hi : SInv B S) (hj : j < 2 ^ 31) (f : Int32 → Nat → Int32) (hf : ∀ x s, s < S.2.2.2.2.length → f x s = if S.2.2.2.2.getD s 0 = j then f (nI s) (s + 1) else f x (s + 1)) (hf0 : ∀ x, f x S.2.2.2.2.length = x) : ∀ d s n x, s + d = S.2.2.2.2.length → d < n → F_X8_placeOf_L5 N v (nI j) n x (nI s) = some (f x s) := by
  have h1 := hi.1
  have h2 := len6 hi
  intro d
  induction d with
  | zero =>
    intro s n x hs hn
    obtain ⟨n, rfl⟩ : ∃ m, n = m + 1 := ⟨n - 1, by omega⟩
    have e : s = S.2.2.2.2.length := by omega
    subst e
    rw [F_X8_placeOf_L5, k6, t6, hm.2.2.2.2.1, if_neg (nI_nlt (by omega) (by omega)), hf0]
  | succ d ih =>
    intro s n x hs hn
    obtain ⟨n, rfl⟩ : ∃ m, n = m + 1 := ⟨n - 1, by omega⟩
    have hsl : s < S.2.2.2.2.length := by omega
    rw [F_X8_placeOf_L5, k6, t6, hm.2.2.2.2.1, if_pos (nI_lt hsl (by omega)), show (31 : Int32) = nI 31 from rfl, nI_add, chk_in (by omega) (by decide)]
    simp only [jn_eq]
    rw [nI_clamp (by omega), hm.2.2.2.2.2.2.2.2.2 s hsl, nI_1, hf x s hsl]
    by_cases q : S.2.2.2.2.getD s 0 = j
    · rw [if_pos q, if_pos (by rw [q])]
      exact ih (s + 1) n _ (by omega) (by omega)
    · rw [if_neg q, if_neg (fun z => q ((nI_eq (by have := list_lt hi hsl; omega) hj).mp z))]
      exact ih (s + 1) n _ (by omega) (by omega)
/-- where a thing is: class and model -/
theorem p_place {N : Nat} (hN : 3000 ≤ N) {v vM : SV} {S : Sh} {B : Nat} (hc : RC v S) (hm : RM (vM 4) S) (hi : SInv B S) {j : Nat} (hj : j < 2 ^ 31) : (j ∉ S.2.2.2.2 ∧ F_X5_placeOf N v (nI j) = some (-1) ∧ F_X8_placeOf N vM (nI j) = some (-1000000)) ∨ (j ∈ S.2.2.2.2 ∧ ∃ i, i < S.2.2.2.2.length ∧ S.2.2.2.2.getD i 0 = j ∧ F_X5_placeOf N v (nI j) = some (nI i) ∧ F_X8_placeOf N vM (nI j) = some (nI i)) := by
  have h1 := hi.1
  have h2 := len6 hi
  by_cases hmem : j ∈ S.2.2.2.2
  · obtain ⟨i, hil, he⟩ := List.getElem_of_mem hmem
    have hg : S.2.2.2.2.getD i 0 = j := by rw [List.getD_eq_getElem?_getD, List.getElem?_eq_getElem hil]; exact he
    have hu : ∀ k, k < S.2.2.2.2.length → (S.2.2.2.2.getD k 0 = j ↔ k = i) := fun k hk => ⟨fun q => getD_inj hi.2.2.1 hk hil (q.trans hg.symm), fun q => by rw [q]; exact hg⟩
    refine Or.inr ⟨hmem, i, hil, hg, l_placeC hc hi hj hil hu i 0 N (by omega) (by omega), ?_⟩
    have h := l_placeM (N := N) hm hi hj (fun x s => if s ≤ i then nI i else x) (fun x s hs => by
      by_cases q : S.2.2.2.2.getD s 0 = j
      · have e := (hu s hs).mp q
        subst e
        rw [if_pos (Nat.le_refl _), if_pos q, if_neg (by omega)]
      · have e : ¬ s = i := fun z => q ((hu s hs).mpr z)
        rw [if_neg q]
        by_cases z : s ≤ i
        · rw [if_pos z, if_pos (by omega)]
        · rw [if_neg z, if_neg (by omega)]) (fun x => if_neg (by omega)) S.2.2.2.2.length 0 N (-1000000) (by omega) (by omega)
    rw [if_pos (Nat.zero_le _)] at h
    exact h
  · have hu : ∀ k, k < S.2.2.2.2.length → ¬ S.2.2.2.2.getD k 0 = j := fun k hk q => hmem (by rw [← q]; exact getD_mem hk)
    refine Or.inl ⟨hmem, l_placeC0 hc hi hj hu S.2.2.2.2.length 0 N (by omega) (by omega), ?_⟩
    exact l_placeM (N := N) hm hi hj (fun x _ => x) (fun x s hs => by rw [if_neg (hu s hs)]) (fun x => rfl) S.2.2.2.2.length 0 N (-1000000) (by omega) (by omega)
theorem st_thing {N : Nat} (hN : 3000 ≤ N) : St_thing N Rel := by
  intro vR vW vT vS vD vA vI vJ vE vF vP vQ vK vM gW gA gL x1 x2 hrel
  obtain ⟨S, hc, hm, hi, hs⟩ := hrel.2.2.2.1
  have h6 := hi.1
  have h7 := hi.2.1
  have h8 := len6 hi
  rcases thing_ix (N := N) hc hm hi x1 with ⟨a, b⟩ | ⟨j, hj, rfl, a, b⟩
  · exact ⟨-1000001, -1000001, by unfold F_X7_thing; rw [a]; rfl, by unfold F_X8_thing; rw [b]; rfl, rfl, hrel⟩
  · have hcl : (nI j).toNatClampNeg = j := nI_clamp (by omega)
    obtain ⟨c1, c2, c3, c4⟩ := hc.2.2.2.2.2.2.2.1 j hj
    obtain ⟨m1, m2, m3, m4⟩ := hm.2.2.2.2.2.2.2.1 j hj
    have f7 : F_X7_thing N vR vS (nI j) x2 = if x2 = 0 then some (S.2.1 1 j) else if x2 = 1 then some (S.2.1 2 j) else if x2 = 2 then some (S.2.1 3 j) else if x2 = 3 then (F_X5_placeOf N vS (nI j)).bind (fun q83 => (F_X7_orNone N q83).bind (fun q86 => some q86)) else if x2 = 4 then some (nI (cntP (wB S (S.2.1 1 j)) S.2.2.2.1)) else some (-1000001) := by
      unfold F_X7_thing
      rw [a, bs, if_neg one0, chk_in (by omega) (by decide), chk_in (by omega) (by decide), chk_in (by omega) (by decide), chk_in (by omega) (by decide), hcl, c2, c3, c4, p_wanting hN hc h7]
      rfl
    have f8 : F_X8_thing N vM (nI j) x2 = if x2 = 0 then some (S.2.1 1 j) else if x2 = 1 then some (S.2.1 2 j) else if x2 = 2 then some (S.2.1 3 j) else if x2 = 3 then (F_X8_placeOf N vM (nI j)).bind (fun q80 => some q80) else if x2 = 4 then some (nI (cntP (wB S (S.2.1 1 j)) S.2.2.2.1)) else some (-1000001) := by
      unfold F_X8_thing
      rw [b, bs, if_neg one0, p_wantedBy hN hm h6 h7 hj, show (13 : Int32) = nI 13 from rfl, show (19 : Int32) = nI 19 from rfl, show (25 : Int32) = nI 25 from rfl, nI_add, nI_add, nI_add, chk_in (n := 55) (k := 13 + j) (by omega) (by decide), chk_in (n := 55) (k := 19 + j) (by omega) (by decide), chk_in (n := 55) (k := 25 + j) (by omega) (by decide), nI_clamp (n := 13 + j) (by omega), nI_clamp (n := 19 + j) (by omega), nI_clamp (n := 25 + j) (by omega), m2, m3, m4]
      rfl
    rw [f7, f8]
    by_cases e0 : x2 = 0
    · exact ⟨_, _, if_pos e0, if_pos e0, rfl, hrel⟩
    rw [if_neg e0, if_neg e0]
    by_cases e1 : x2 = 1
    · exact ⟨_, _, if_pos e1, if_pos e1, rfl, hrel⟩
    rw [if_neg e1, if_neg e1]
    by_cases e2 : x2 = 2
    · exact ⟨_, _, if_pos e2, if_pos e2, rfl, hrel⟩
    rw [if_neg e2, if_neg e2]
    by_cases e3 : x2 = 3
    · rw [if_pos e3, if_pos e3]
      rcases p_place hN hc hm hi (j := j) (by omega) with ⟨-, p1, p2⟩ | ⟨-, i, hil, -, p1, p2⟩
      · exact ⟨-1000000, -1000000, by rw [p1]; rfl, by rw [p2]; rfl, rfl, hrel⟩
      · exact ⟨nI i, nI i, by rw [p1, bs]; unfold F_X7_orNone; rw [if_neg (nI_pos (by omega))]; rfl, by rw [p2]; rfl, rfl, hrel⟩
    rw [if_neg e3, if_neg e3]
    by_cases e4 : x2 = 4
    · exact ⟨_, _, if_pos e4, if_pos e4, rfl, hrel⟩
    · exact ⟨_, _, if_neg e4, if_neg e4, rfl, hrel⟩
