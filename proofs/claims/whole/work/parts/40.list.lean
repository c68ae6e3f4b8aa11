/-! the list: taken off, laid behind, laid first -/
def sL (S : Sh) (l : List Nat) : Sh := (S.1, S.2.1, S.2.2.1, S.2.2.2.1, l)
theorem upA_upA {v : SV} {k : Nat} {f g : Nat → Int32} : upA (upA v k f) k g = upA v k g := by
  funext a
  unfold upA
  by_cases h : a = k
  · rw [if_pos h, if_pos h]
  · rw [if_neg h, if_neg h, if_neg h]
theorem rcL {v : SV} {S : Sh} {l : List Nat} {f : Nat → Int32} (h : RC v S) (hf : ∀ i, i < l.length → f i = nI (l.getD i 0)) : RC (up2 (upA v 8 f) 0 4 (nI l.length)) (sL S l) := ⟨h.1, h.2.1, h.2.2.1, h.2.2.2.1, rfl, h.2.2.2.2.2.1, h.2.2.2.2.2.2.1, h.2.2.2.2.2.2.2.1, h.2.2.2.2.2.2.2.2.1, hf⟩
theorem rmL {m f : Nat → Int32} {S : Sh} {l : List Nat} (h : RM m S) (hk : ∀ i, ¬ i = 6 → ¬ (31 ≤ i ∧ i < 37) → f i = m i) (h6 : f 6 = nI l.length) (hf : ∀ i, i < l.length → f (31 + i) = nI (l.getD i 0)) (h1 : S.2.2.1 ≤ 6) (h2 : S.2.2.2.1 ≤ 6) : RM f (sL S l) := by
  obtain ⟨a0, a1, a2, a3, a4, a5, a6, a7, a8, a9⟩ := h
  refine ⟨(hk 0 (by omega) (by omega)).trans a0, (hk 1 (by omega) (by omega)).trans a1, (hk 2 (by omega) (by omega)).trans a2, (hk 3 (by omega) (by omega)).trans a3, h6, (hk 4 (by omega) (by omega)).trans a5, (hk 5 (by omega) (by omega)).trans a6, fun i hi => ?_, fun i hi => ?_, hf⟩
  · have hi : i < S.2.2.1 := hi
    obtain ⟨b1, b2, b3, b4⟩ := a7 i hi
    exact ⟨(hk (7 + i) (by omega) (by omega)).trans b1, (hk (13 + i) (by omega) (by omega)).trans b2, (hk (19 + i) (by omega) (by omega)).trans b3, (hk (25 + i) (by omega) (by omega)).trans b4⟩
  · have hi : i < S.2.2.2.1 := hi
    obtain ⟨b1, b2, b3⟩ := a8 i hi
    exact ⟨(hk (37 + i) (by omega) (by omega)).trans b1, (hk (43 + i) (by omega) (by omega)).trans b2, (hk (49 + i) (by omega) (by omega)).trans b3⟩
theorem siL {B : Nat} {S : Sh} {l : List Nat} (h : SInv B S) (hn : l.Nodup) (hl : ∀ x ∈ l, x < S.2.2.1) : SInv B (sL S l) := ⟨h.1, h.2.1, hn, hl, h.2.2.2.2.1, h.2.2.2.2.2.1, h.2.2.2.2.2.2.1, h.2.2.2.2.2.2.2.1, h.2.2.2.2.2.2.2.2⟩
def wo (l : List Nat) (j : Nat) : List Nat := l.filter (fun x => decide (¬ x = j))
theorem wo_c {a j : Nat} {l : List Nat} : wo (a :: l) j = if a = j then wo l j else a :: wo l j := by
  unfold wo
  rw [List.filter_cons]
  by_cases h : a = j
  · rw [if_pos h, if_neg (by simp [h])]
  · rw [if_neg h, if_pos (by simp [h])]
theorem wo_id {j : Nat} : ∀ {l : List Nat}, j ∉ l → wo l j = l
  | [], _ => rfl
  | a :: l, h => by
    rw [wo_c, if_neg (fun e => h (by rw [e]; exact List.mem_cons_self)), wo_id (fun m => h (List.mem_cons_of_mem a m))]
theorem wo_at {j : Nat} : ∀ {l : List Nat} {i : Nat}, l.Nodup → i < l.length → l.getD i 0 = j → (wo l j).length + 1 = l.length ∧ ∀ k, (wo l j).getD k 0 = if k < i then l.getD k 0 else l.getD (k + 1) 0
  | [], i, _, h, _ => absurd h (Nat.not_lt_zero i)
  | a :: l, 0, hn, _, he => by
    have e : a = j := he
    subst e
    rw [wo_c, if_pos rfl, wo_id (List.nodup_cons.mp hn).1]
    exact ⟨rfl, fun k => by rw [if_neg (Nat.not_lt_zero k)]; rfl⟩
  | a :: l, i + 1, hn, h, he => by
    have he : l.getD i 0 = j := he
    have h : i < l.length := Nat.lt_of_succ_lt_succ h
    have hne : ¬ a = j := fun e => (List.nodup_cons.mp hn).1 (by rw [e, ← he]; exact getD_mem h)
    obtain ⟨g1, g2⟩ := wo_at (List.nodup_cons.mp hn).2 h he
    rw [wo_c, if_neg hne]
    refine ⟨by rw [List.length_cons, List.length_cons, g1], fun k => ?_⟩
    cases k with
    | zero => rw [if_pos (Nat.succ_pos i)]; rfl
    | succ k =>
      show (wo l j).getD k 0 = if k + 1 < i + 1 then l.getD k 0 else l.getD (k + 1) 0
      rw [g2 k]
      by_cases q : k < i
      · rw [if_pos q, if_pos (by omega)]
      · rw [if_neg q, if_neg (by omega)]
theorem wo_nd {l : List Nat} {j : Nat} (h : l.Nodup) : (wo l j).Nodup := List.Nodup.sublist List.filter_sublist h
theorem wo_in {l : List Nat} {j x : Nat} (h : x ∈ wo l j) : x ∈ l := (List.mem_filter.mp h).1
theorem l_offC {N : Nat} {j T : Nat} {K : Int32 → SV → Option SV} (hj : j < 2 ^ 31) (hT : T ≤ 6) : ∀ (l2 l1 : List Nat) (s n : Nat) (v : SV), s + l2.length = T → l1.length ≤ s → v 0 4 = nI T → (∀ i, i < l1.length → v 8 i = nI (l1.getD i 0)) → (∀ i, i < l2.length → v 8 (s + i) = nI (l2.getD i 0)) → (∀ x ∈ l2, x < 2 ^ 31) → l2.length < n → ∃ f, F_X5_takeOff_L4 N (nI j) K n (nI l1.length) (nI s) v = K (nI (l1 ++ wo l2 j).length) (upA v 8 f) ∧ ∀ i, i < (l1 ++ wo l2 j).length → f i = nI ((l1 ++ wo l2 j).getD i 0)
  | [], l1, s, n, v, hs, h1, h4, g1, g2, hx, hn => by
    obtain ⟨n, rfl⟩ : ∃ m, n = m + 1 := ⟨n - 1, by omega⟩
    have hs : s + 0 = T := hs
    refine ⟨v 8, ?_, ?_⟩
    · rw [F_X5_takeOff_L4, h4, if_neg (nI_nlt (by omega) (by omega)), show wo [] j = [] from rfl, List.append_nil, show upA v 8 (v 8) = v from by
        funext a
        unfold upA
        by_cases h : a = 8
        · rw [if_pos h, h]
        · rw [if_neg h]]
    · rw [show wo [] j = [] from rfl, List.append_nil]
      exact g1
  | a :: l2, l1, s, n, v, hs, h1, h4, g1, g2, hx, hn => by
    rw [List.length_cons] at hs hn
    obtain ⟨n, rfl⟩ : ∃ m, n = m + 1 := ⟨n - 1, by omega⟩
    have g0 : v 8 s = nI a := g2 0 (by rw [List.length_cons]; omega)
    have ha : a < 2 ^ 31 := hx a List.mem_cons_self
    have g3 : ∀ i, i < l2.length → v 8 (s + 1 + i) = nI (l2.getD i 0) := fun i hi => by
      have := g2 (i + 1) (by rw [List.length_cons]; omega)
      rw [show s + 1 + i = s + (i + 1) from by omega]
      exact this
    rw [F_X5_takeOff_L4, h4, if_pos (nI_lt (by omega) (by omega)), chk_in (n := 6) (k := s) (by omega) (by decide), nI_clamp (n := s) (by omega), g0]
    simp only [jn_eq]
    by_cases q : a = j
    · rw [if_pos (by rw [q]), nI_1, wo_c, if_pos q]
      exact l_offC hj hT l2 l1 (s + 1) n v (by omega) (by omega) h4 g1 g3 (fun x m => hx x (List.mem_cons_of_mem a m)) (by omega)
    · rw [if_neg (fun z => q ((nI_eq ha hj).mp z)), chk_in (n := 6) (k := s) (by omega) (by decide), chk_in (n := 6) (k := l1.length) (by omega) (by decide), nI_clamp (n := l1.length) (by omega), nI_1, nI_1, wo_c, if_neg q]
      have hl : (l1 ++ [a]).length = l1.length + 1 := by rw [List.length_append]; rfl
      obtain ⟨f, f1, f2⟩ := l_offC (N := N) (K := K) hj hT l2 (l1 ++ [a]) (s + 1) n (up2 v 8 l1.length (nI a)) (by omega) (by omega) h4 (fun i hi => by
        show upd (v 8) l1.length (nI a) i = _
        by_cases e : i = l1.length
        · subst e
          rw [upd_s, List.getD_eq_getElem?_getD, List.getElem?_append_right (Nat.le_refl _), Nat.sub_self]
          rfl
        · rw [upd_n e, List.getD_eq_getElem?_getD, List.getElem?_append_left (by omega), ← List.getD_eq_getElem?_getD]
          exact g1 i (by omega)) (fun i hi => by
        show upd (v 8) l1.length (nI a) (s + 1 + i) = _
        rw [upd_n (by omega)]
        exact g3 i hi) (fun x m => hx x (List.mem_cons_of_mem a m)) (by omega)
      rw [hl, List.append_assoc] at f1
      rw [List.append_assoc] at f2
      refine ⟨f, ?_, f2⟩
      rw [f1]
      unfold up2
      rw [upA_upA]
      rfl
theorem p_offC {N : Nat} (hN : 3000 ≤ N) {v : SV} {S : Sh} {B : Nat} (hc : RC v S) (hi : SInv B S) {j : Nat} (hj : j < 2 ^ 31) : ∃ f, F_X5_takeOff N v (nI j) = some (up2 (upA v 8 f) 0 4 (nI (wo S.2.2.2.2 j).length)) ∧ ∀ i, i < (wo S.2.2.2.2 j).length → f i = nI ((wo S.2.2.2.2 j).getD i 0) := by
  have h1 := hi.1
  have h2 := len6 hi
  obtain ⟨f, f1, f2⟩ := l_offC (N := N) (K := fun (x2_43 : Int32) (v_43 : SV) => some (up2 v_43 0 4 x2_43)) hj (T := S.2.2.2.2.length) (by omega) S.2.2.2.2 [] 0 N v (by omega) (Nat.le_refl _) hc.2.2.2.2.1 (fun i h => absurd h (Nat.not_lt_zero i)) (fun i h => by rw [Nat.zero_add]; exact hc.2.2.2.2.2.2.2.2.2 i h) (fun x hx => by have := hi.2.2.2.1 x hx; omega) (by omega)
  exact ⟨f, f1, f2⟩
