/-! order: the orders, one after another -/
def pI (r : Nat → Nat) : Nat → Option Nat
  | 0 => none
  | k + 1 => if r (k + 1) < r k then pI r k else some k
def pJ (r : Nat → Nat) (x : Nat) : Nat → Option Nat
  | 0 => if r 0 < x then none else some 0
  | k + 1 => if r (k + 1) < x then pJ r x k else some (k + 1)
def sw (r : Nat → Nat) (i j : Nat) : Nat → Nat := fun k => if k = j then r i else if k = i then r j else r k
def rv (r : Nat → Nat) (a b : Nat) : Nat → Nat → Nat
  | 0 => r
  | f + 1 => if a < b then rv (sw r a b) (a + 1) (b - 1) f else r
def gd (p : List Nat) : Nat → Nat := fun k => p.getD k 0
def stepOK (p : List Nat) (n : Nat) (q : List Nat) : Bool := match pI (gd p) (n - 1) with
  | none => false
  | some i => match pJ (gd p) (gd p i) (n - 1) with
    | none => false
    | some j => decide (i + 1 < n) && decide (j < n) && decide ((List.range n).map (rv (sw (gd p) i j) (i + 1) (n - 1) 3) = q)
def chkP (n : Nat) : List (List Nat) → Bool
  | [] => true
  | [p] => (pI (gd p) (n - 1)).isNone
  | p :: q :: P => stepOK p n q && chkP n (q :: P)
def flT (g : Nat → List (List Nat)) : Nat → Nat → List (List Nat)
  | _, 0 => []
  | t, d + 1 => g t ++ flT g (t + 1) d
def lexB : Nat → Nat → List (List Nat)
  | 0, _ => [[]]
  | k + 1, m => if m = 0 then [[]] else flT (fun t => if m.testBit t = true then (lexB k (m - 2 ^ t)).map (fun p => t :: p) else []) 0 6
def bitsOf (m : Nat) : List Nat := (List.range 6).filter (fun i => m.testBit i)
def okL (m n : Nat) (p : List Nat) : Bool := decide (p.length = n) && decide p.Nodup && p.all (fun x => decide (x < 6) && m.testBit x)
def okM (m : Nat) : Bool := chkP (popc m) (lexB 8 m) && (lexB 8 m).all (okL m (popc m)) && decide ((lexB 8 m).head? = some (bitsOf m)) && decide ((lexB 8 m).length ≤ 720) && decide ((bitsOf m).length = popc m)
theorem ok_all : ∀ m, m < 64 → okM m = true := by decide +kernel
theorem rem_tab : ∀ m, m < 64 → ∀ t, t < 6 → m.testBit t = true → (nI m &&& (((1 : Int32) <<< (nI t &&& 31)) ^^^ (-1 : Int32))) = nI (m - 2 ^ t) ∧ m - 2 ^ t < 64 ∧ popc (m - 2 ^ t) + 1 = popc m ∧ (∀ q, q < 6 → (m - 2 ^ t).testBit q = true → m.testBit q = true) := by decide +kernel
theorem pop0 : ∀ m, m < 64 → (popc m = 0 ↔ m = 0) := by decide +kernel
theorem bt_tab2 : ∀ T, T < 7 → ∀ m, m < 64 → m < 2 ^ T → (List.range T).filter (fun i => m.testBit i) = bitsOf m := by decide +kernel
theorem l_pI {N n : Nat} {v : SV} {x1 : Int32} {r : Nat → Nat} (hn : n ≤ 6) (hr : ∀ i, i < n → v 10 i = nI (r i)) (hb : ∀ i, i < n → r i < 6) : ∀ k m, k + 1 < n → k + 1 < m → (∀ i, pI r (k + 1) = some i → i ≤ k ∧ ∀ K, F_X8_isNext_L4 N v x1 K m (nI k) = K (nI i)) ∧ (pI r (k + 1) = none → ∀ K, F_X8_isNext_L4 N v x1 K m (nI k) = K (-1)) := by
  intro k
  induction k with
  | zero =>
    intro m hk hm
    obtain ⟨m, rfl⟩ : ∃ q, m = q + 2 := ⟨m - 2, by omega⟩
    have b0 := hb 0 (by omega)
    have b1 := hb 1 (by omega)
    have e : ∀ K, F_X8_isNext_L4 N v x1 K (m + 2) (nI 0) = if r 1 < r 0 then F_X8_isNext_L4 N v x1 K (m + 1) (-1) else K (nI 0) := fun K => by
      rw [F_X8_isNext_L4, if_neg (by decide), nI_1, chk_in (n := 6) (k := 0) (by omega) (by decide), chk_in (n := 6) (k := 0 + 1) (by omega) (by decide), nI_clamp (n := 0) (by omega), nI_clamp (n := 0 + 1) (by omega), hr 0 (by omega), show v 10 (0 + 1) = nI (r 1) from hr 1 (by omega)]
      by_cases z : r 1 < r 0
      · rw [if_pos z, if_pos (nI_lt z (by omega))]; rfl
      · rw [if_neg z, if_neg (nI_nlt (by omega) (by omega))]
    rw [pI]
    by_cases z : r 1 < r 0
    · rw [if_pos z]
      refine ⟨fun i h => absurd h (by rw [pI]; simp), fun _ K => ?_⟩
      rw [e, if_pos z, F_X8_isNext_L4, if_pos m1lt]
    · rw [if_neg z]
      refine ⟨fun i h => ?_, fun h => absurd h (by simp)⟩
      have h := Option.some.inj h
      subst h
      exact ⟨Nat.le_refl _, fun K => by rw [e, if_neg z]⟩
  | succ k ih =>
    intro m hk hm
    obtain ⟨m, rfl⟩ : ∃ q, m = q + 1 := ⟨m - 1, by omega⟩
    obtain ⟨ih1, ih2⟩ := ih m (by omega) (by omega)
    have b0 := hb (k + 1) (by omega)
    have b1 := hb (k + 1 + 1) (by omega)
    have e : ∀ K, F_X8_isNext_L4 N v x1 K (m + 1) (nI (k + 1)) = if r (k + 1 + 1) < r (k + 1) then F_X8_isNext_L4 N v x1 K m (nI k) else K (nI (k + 1)) := fun K => by
      rw [F_X8_isNext_L4, if_neg (nI_pos (by omega)), nI_1, nI_p, chk_in (n := 6) (k := k + 1) (by omega) (by decide), chk_in (n := 6) (k := k + 1 + 1) (by omega) (by decide), nI_clamp (n := k + 1) (by omega), nI_clamp (n := k + 1 + 1) (by omega), hr (k + 1) (by omega), hr (k + 1 + 1) (by omega)]
      by_cases z : r (k + 1 + 1) < r (k + 1)
      · rw [if_pos z, if_pos (nI_lt z (by omega))]
      · rw [if_neg z, if_neg (nI_nlt (by omega) (by omega))]
    rw [pI]
    by_cases z : r (k + 1 + 1) < r (k + 1)
    · rw [if_pos z]
      refine ⟨fun i h => ?_, fun h K => by rw [e, if_pos z, ih2 h]⟩
      obtain ⟨c1, c2⟩ := ih1 i h
      exact ⟨by omega, fun K => by rw [e, if_pos z, c2]⟩
    · rw [if_neg z]
      refine ⟨fun i h => ?_, fun h => absurd h (by simp)⟩
      have h := Option.some.inj h
      subst h
      exact ⟨Nat.le_refl _, fun K => by rw [e, if_neg z]⟩
theorem l_pJ {N n i : Nat} {v : SV} {x1 : Int32} {r : Nat → Nat} (hn : n ≤ 6) (hi : i < n) (hr : ∀ i, i < n → v 10 i = nI (r i)) (hb : ∀ i, i < n → r i < 6) : ∀ k m j, k < n → k < m → pJ r (r i) k = some j → ∀ K, F_X8_isNext_L41 N v x1 (nI i) K m (nI k) = K (nI j) := by
  have bi := hb i hi
  intro k
  induction k with
  | zero =>
    intro m j hk hm h K
    obtain ⟨m, rfl⟩ : ∃ q, m = q + 1 := ⟨m - 1, by omega⟩
    have b0 := hb 0 (by omega)
    rw [pJ] at h
    by_cases z : r 0 < r i
    · rw [if_pos z] at h; exact absurd h (by simp)
    · rw [if_neg z] at h
      have h := Option.some.inj h
      subst h
      rw [F_X8_isNext_L41, chk_in (n := 6) (k := 0) (by omega) (by decide), chk_in (n := 6) (k := i) (by omega) (by decide), nI_clamp (n := 0) (by omega), nI_clamp (n := i) (by omega), hr 0 (by omega), hr i hi, if_neg (nI_nlt (by omega) (by omega))]
  | succ k ih =>
    intro m j hk hm h K
    obtain ⟨m, rfl⟩ : ∃ q, m = q + 1 := ⟨m - 1, by omega⟩
    have b0 := hb (k + 1) (by omega)
    rw [F_X8_isNext_L41, nI_p, chk_in (n := 6) (k := k + 1) (by omega) (by decide), chk_in (n := 6) (k := i) (by omega) (by decide), nI_clamp (n := k + 1) (by omega), nI_clamp (n := i) (by omega), hr (k + 1) (by omega), hr i hi]
    rw [pJ] at h
    by_cases z : r (k + 1) < r i
    · rw [if_pos z] at h
      rw [if_pos (nI_lt z (by omega)), ih m j (by omega) (by omega) h]
    · rw [if_neg z] at h
      have h := Option.some.inj h
      subst h
      rw [if_neg (nI_nlt (by omega) (by omega))]
theorem p_change {N n i j : Nat} {v : SV} {r : Nat → Nat} (hn : n ≤ 6) (hi : i < n) (hj : j < n) (hr : ∀ i, i < n → v 10 i = nI (r i)) : ∃ f, F_X8_change N v (nI i) (nI j) = some (upA v 10 f) ∧ ∀ k, k < n → f k = nI (sw r i j k) := by
  refine ⟨upd (upd (v 10) i (v 10 j)) j (v 10 i), ?_, fun k hk => ?_⟩
  · unfold F_X8_change
    rw [chk_in (n := 6) (k := i) (by omega) (by decide), chk_in (n := 6) (k := j) (by omega) (by decide), chk_in (n := 6) (k := i) (by omega) (by decide), chk_in (n := 6) (k := j) (by omega) (by decide), nI_clamp (n := i) (by omega), nI_clamp (n := j) (by omega)]
    unfold up2
    rw [upA_upA]
    rfl
  · unfold sw
    by_cases z : k = j
    · rw [if_pos z, z, upd_s, hr i hi]
    · rw [if_neg z, upd_n z]
      by_cases y : k = i
      · rw [if_pos y, y, upd_s, hr j hj]
      · rw [if_neg y, upd_n y, hr k hk]
theorem l_rv {N n : Nat} (hn : n ≤ 6) : ∀ fu a b m v r, b ≤ a + 2 * fu → b < n → a ≤ 100 → fu < m → (∀ i, i < n → v 10 i = nI (r i)) → ∃ f, F_X8_isNext_L78 N m (nI a) (nI b) v = some (1, upA v 10 f) ∧ ∀ k, k < n → f k = nI (rv r a b fu k) := by
  intro fu
  induction fu with
  | zero =>
    intro a b m v r hab hbn ha100 hm hr
    obtain ⟨m, rfl⟩ : ∃ q, m = q + 1 := ⟨m - 1, by omega⟩
    refine ⟨v 10, ?_, fun k hk => hr k hk⟩
    rw [F_X8_isNext_L78, if_neg (nI_nlt (by omega) (by omega)), upA_self]
  | succ fu ih =>
    intro a b m v r hab hbn ha100 hm hr
    obtain ⟨m, rfl⟩ : ∃ q, m = q + 1 := ⟨m - 1, by omega⟩
    by_cases z : a < b
    · obtain ⟨f, f1, f2⟩ := p_change (N := N) (i := a) (j := b) hn (by omega) hbn hr
      obtain ⟨g, g1, g2⟩ := ih (a + 1) (b - 1) m (upA v 10 f) (sw r a b) (by omega) (by omega) (by omega) (by omega) f2
      refine ⟨g, ?_, fun k hk => ?_⟩
      · rw [F_X8_isNext_L78, if_pos (nI_lt z (by omega)), f1, bs, nI_1, show nI b + (-1 : Int32) = nI (b - 1) from by
          have := nI_p (b - 1)
          rwa [show b - 1 + 1 = b from by omega] at this, g1, upA_upA]
      · rw [g2 k hk, rv, if_pos z]
    · refine ⟨v 10, ?_, fun k hk => by rw [rv, if_neg z]; exact hr k hk⟩
      rw [F_X8_isNext_L78, if_neg (nI_nlt (by omega) (by omega)), upA_self]
theorem p_last {N n : Nat} (hN : 3000 ≤ N) {v : SV} {p : List Nat} (hn : n ≤ 6) (hr : ∀ i, i < n → v 10 i = nI (gd p i)) (hb : ∀ i, i < n → gd p i < 6) (h : (pI (gd p) (n - 1)).isNone = true) : F_X8_isNext N v (nI n) = some (0, v) := by
  unfold F_X8_isNext
  by_cases z : n < 2
  · have hn2 : n = 0 ∨ n = 1 := by omega
    obtain ⟨M, hM⟩ : ∃ M, N = M + 1 := ⟨N - 1, by omega⟩
    have e : ∀ K, F_X8_isNext_L4 N v (nI n) K N (nI n - 2) = K (nI n - 2) := fun K => by
      rw [hM]
      rw [F_X8_isNext_L4]
      rcases hn2 with rfl | rfl
      · rw [if_pos (by decide)]
      · rw [if_pos (by decide)]
    rw [e]
    rcases hn2 with rfl | rfl
    · rw [if_pos (by decide)]
    · rw [if_pos (by decide)]
  · have h2 : pI (gd p) (n - 2 + 1) = none := by
      rw [show n - 2 + 1 = n - 1 from by omega]
      exact Option.isNone_iff_eq_none.mp h
    rw [show nI n - (2 : Int32) = nI (n - 2) from pk_sub (b := 2) (by omega), (l_pI hn hr hb (n - 2) N (by omega) (by omega)).2 h2, if_pos m1lt]
theorem p_nextP {N n : Nat} (hN : 3000 ≤ N) {v : SV} {p q : List Nat} (hn : n ≤ 6) (hr : ∀ i, i < n → v 10 i = nI (gd p i)) (hb : ∀ i, i < n → gd p i < 6) (h : stepOK p n q = true) : ∃ f, F_X8_isNext N v (nI n) = some (1, upA v 10 f) ∧ ∀ i, i < n → f i = nI (gd q i) := by
  unfold stepOK at h
  cases e1 : pI (gd p) (n - 1) with
  | none => rw [e1] at h; exact absurd h (by simp)
  | some i =>
    rw [e1] at h
    cases e2 : pJ (gd p) (gd p i) (n - 1) with
    | none =>
      simp only [e2] at h
      exact absurd h (by simp)
    | some j =>
      simp only [e2, Bool.and_eq_true, decide_eq_true_eq] at h
      obtain ⟨⟨h1, h2⟩, h3⟩ := h
      have e1' : pI (gd p) (n - 2 + 1) = some i := by rw [show n - 2 + 1 = n - 1 from by omega]; exact e1
      obtain ⟨c1, c2⟩ := (l_pI (N := N) (x1 := nI n) hn hr hb (n - 2) N (by omega) (by omega)).1 i e1'
      have cj := l_pJ (N := N) (x1 := nI n) hn (show i < n by omega) hr hb (n - 1) N j (by omega) (by omega) e2
      obtain ⟨f, f1, f2⟩ := p_change (N := N) (i := i) (j := j) hn (by omega) h2 hr
      obtain ⟨g, g1, g2⟩ := l_rv (N := N) hn 3 (i + 1) (n - 1) N (upA v 10 f) (sw (gd p) i j) (by omega) (by omega) (by omega) (by omega) f2
      refine ⟨g, ?_, fun k hk => ?_⟩
      · unfold F_X8_isNext
        rw [show nI n - (2 : Int32) = nI (n - 2) from pk_sub (b := 2) (by omega), c2, if_neg (nI_pos (by omega)), nI_s1 (by omega), cj, f1, bs, nI_1, g1, upA_upA]
      · rw [g2 k hk, ← h3]
        unfold gd
        rw [List.getD_eq_getElem?_getD, List.getElem?_map, List.getElem?_range hk]
        rfl
