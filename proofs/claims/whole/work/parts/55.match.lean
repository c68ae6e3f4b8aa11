/-! match, lack, pack -/
def kB (S : Sh) (lab kd : Int32) (i : Nat) : Bool := decide (S.2.1 1 (S.2.2.2.2.getD i 0) = lab) && decide (S.2.1 0 (S.2.2.2.2.getD i 0) = kd)
def nB (S : Sh) (lab : Int32) (i : Nat) : Bool := decide (S.2.1 1 (S.2.2.2.2.getD i 0) = lab) && decide (¬ S.2.1 0 (S.2.2.2.2.getD i 0) = 5)
theorem l_listed {N : Nat} {v : SV} {S : Sh} {B : Nat} {lab kd : Int32} (hc : RC v S) (hi : SInv B S) : ∀ d s n, s + d = S.2.2.2.2.length → d < n → F_X5_listed_L5 N v lab kd n (nI (cntP (kB S lab kd) s)) (nI s) = some (nI (cntP (kB S lab kd) S.2.2.2.2.length)) := by
  have h1 := hi.1
  have h2 := len6 hi
  intro d
  induction d with
  | zero =>
    intro s n hs hn
    obtain ⟨n, rfl⟩ : ∃ m, n = m + 1 := ⟨n - 1, by omega⟩
    have e : s = S.2.2.2.2.length := by omega
    subst e
    rw [F_X5_listed_L5, hc.2.2.2.2.1, if_neg (nI_nlt (Nat.le_refl _) (by omega))]
  | succ d ih =>
    intro s n hs hn
    obtain ⟨n, rfl⟩ : ∃ m, n = m + 1 := ⟨n - 1, by omega⟩
    have hsl : s < S.2.2.2.2.length := by omega
    have ih' := ih (s + 1) n (by omega) (by omega)
    have hl := list_lt hi hsl
    have c8 := hc.2.2.2.2.2.2.2.2.2 s hsl
    obtain ⟨b1, b2, -, -⟩ := hc.2.2.2.2.2.2.2.1 _ hl
    have hk1 : ∀ {β : Type} {o : Option β}, chk 6 (nI s) o = o := chk_in (by omega) (by decide)
    have hk2 : ∀ {β : Type} {o : Option β}, chk 6 (nI (S.2.2.2.2.getD s 0)) o = o := chk_in (by omega) (by decide)
    have d1 : (nI s).toNatClampNeg = s := nI_clamp (by omega)
    have d2 : (nI (S.2.2.2.2.getD s 0)).toNatClampNeg = S.2.2.2.2.getD s 0 := nI_clamp (by omega)
    rw [F_X5_listed_L5, hc.2.2.2.2.1, if_pos (nI_lt hsl (by omega)), nI_1 s]
    simp only [jn_eq, hk1, d1, c8, hk2, d2, b1, b2]
    rw [cntP] at ih'
    by_cases q1 : S.2.1 1 (S.2.2.2.2.getD s 0) = lab
    · rw [if_pos q1]
      by_cases q2 : S.2.1 0 (S.2.2.2.2.getD s 0) = kd
      · rw [if_pos (show kB S lab kd s = true by unfold kB; rw [decide_eq_true q1, decide_eq_true q2]; rfl)] at ih'
        rw [if_pos q2, nI_1]
        exact ih'
      · rw [if_neg (show ¬ kB S lab kd s = true by unfold kB; rw [decide_eq_false q2, Bool.and_false]; decide)] at ih'
        rw [if_neg q2]
        exact ih'
    · rw [if_neg (show ¬ kB S lab kd s = true by unfold kB; rw [decide_eq_false q1, Bool.false_and]; decide)] at ih'
      rw [if_neg q1]
      exact ih'
theorem p_listed {N : Nat} (hN : 3000 ≤ N) {v : SV} {S : Sh} {B : Nat} (hc : RC v S) (hi : SInv B S) (lab kd : Int32) : F_X5_listed N v lab kd = some (nI (cntP (kB S lab kd) S.2.2.2.2.length)) := by
  have h1 := hi.1
  have h2 := len6 hi
  exact l_listed hc hi S.2.2.2.2.length 0 N (by omega) (by omega)
theorem cnt_kinds {B : Nat} {S : Sh} (hi : SInv B S) (lab : Int32) : ∀ n, n ≤ S.2.2.2.2.length → cntP (kB S lab 1) n + cntP (kB S lab 2) n + cntP (kB S lab 3) n + cntP (kB S lab 4) n = cntP (nB S lab) n
  | 0, _ => rfl
  | n + 1, h => by
    have ih := cnt_kinds hi lab n (by omega)
    have hl := list_lt hi (show n < S.2.2.2.2.length by omega)
    obtain ⟨k, k1, k2, k3⟩ := (hi.2.2.2.2.1 _ hl).1
    rw [cntP, cntP, cntP, cntP, cntP]
    have hk : k = 1 ∨ k = 2 ∨ k = 3 ∨ k = 4 ∨ k = 5 := by omega
    by_cases q1 : S.2.1 1 (S.2.2.2.2.getD n 0) = lab
    · have e : ∀ kd, kB S lab kd n = decide (nI k = kd) := fun kd => by unfold kB; rw [decide_eq_true q1, k3, Bool.true_and]
      have e2 : nB S lab n = decide (¬ nI k = 5) := by unfold nB; rw [decide_eq_true q1, k3, Bool.true_and]
      rw [e, e, e, e, e2]
      rcases hk with rfl | rfl | rfl | rfl | rfl
      · rw [if_pos (by decide), if_neg (by decide), if_neg (by decide), if_neg (by decide), if_pos (by decide)]; omega
      · rw [if_neg (by decide), if_pos (by decide), if_neg (by decide), if_neg (by decide), if_pos (by decide)]; omega
      · rw [if_neg (by decide), if_neg (by decide), if_pos (by decide), if_neg (by decide), if_pos (by decide)]; omega
      · rw [if_neg (by decide), if_neg (by decide), if_neg (by decide), if_pos (by decide), if_pos (by decide)]; omega
      · rw [if_neg (by decide), if_neg (by decide), if_neg (by decide), if_neg (by decide), if_neg (by decide)]; omega
    · have e : ∀ kd, kB S lab kd n = false := fun kd => by unfold kB; rw [decide_eq_false q1, Bool.false_and]
      have e2 : nB S lab n = false := by unfold nB; rw [decide_eq_false q1, Bool.false_and]
      rw [e, e, e, e, e2]
      simp only [Bool.false_eq_true, if_false]
      omega
theorem p_given {N : Nat} (hN : 3000 ≤ N) {v : SV} {S : Sh} {B : Nat} (hc : RC v S) (hi : SInv B S) (lab : Int32) : F_X5_givenOf N v lab = some (nI (cntP (nB S lab) S.2.2.2.2.length)) := by
  obtain ⟨m, rfl⟩ : ∃ m, N = m + 5 := ⟨N - 5, by omega⟩
  unfold F_X5_givenOf
  rw [F_X5_givenOf_L4, if_pos (by decide), p_listed hN hc hi, bs, F_X5_givenOf_L4, if_pos (by decide), p_listed hN hc hi, bs, F_X5_givenOf_L4, if_pos (by decide), p_listed hN hc hi, bs, F_X5_givenOf_L4, if_pos (by decide), p_listed hN hc hi, bs, F_X5_givenOf_L4, if_neg (by decide), show (0 : Int32) = nI 0 from rfl, show (1 : Int32) + 1 = 2 from rfl, show (2 : Int32) + 1 = 3 from rfl, show (3 : Int32) + 1 = 4 from rfl, nI_add, nI_add, nI_add, nI_add, ← cnt_kinds hi lab _ (Nat.le_refl _)]
  congr 2
  omega
def flI (S : Sh) (lab : Int32) (s : Nat) : Int32 := if cntP (kB S lab 3) s = 0 then 0 else 1
theorem l_stock {N : Nat} {v : SV} {S : Sh} {B : Nat} {lab : Int32} {K : Int32 → Int32 → Option Int32} (hm : RM (v 4) S) (hi : SInv B S) : ∀ d s n, s + d = S.2.2.2.2.length → d < n → F_X8_stockOf_L7 N v lab K n (nI (cntP (nB S lab) s)) (flI S lab s) (nI s) = K (nI (cntP (nB S lab) S.2.2.2.2.length)) (flI S lab S.2.2.2.2.length) := by
  have h1 := hi.1
  have h2 := len6 hi
  intro d
  induction d with
  | zero =>
    intro s n hs hn
    obtain ⟨n, rfl⟩ : ∃ m, n = m + 1 := ⟨n - 1, by omega⟩
    have e : s = S.2.2.2.2.length := by omega
    subst e
    rw [F_X8_stockOf_L7, k6, t6, hm.2.2.2.2.1, if_neg (nI_nlt (Nat.le_refl _) (by omega))]
  | succ d ih =>
    intro s n hs hn
    obtain ⟨n, rfl⟩ : ∃ m, n = m + 1 := ⟨n - 1, by omega⟩
    have hsl : s < S.2.2.2.2.length := by omega
    have ih' := ih (s + 1) n (by omega) (by omega)
    have hl := list_lt hi hsl
    have c8 := hm.2.2.2.2.2.2.2.2.2 s hsl
    obtain ⟨b1, b2, -, -⟩ := hm.2.2.2.2.2.2.2.1 _ hl
    generalize hj : S.2.2.2.2.getD s 0 = j at hl c8 b1 b2
    have hk1 : ∀ {β : Type} {o : Option β}, chk 55 (nI (31 + s)) o = o := chk_in (by omega) (by decide)
    have hk2 : ∀ {β : Type} {o : Option β}, chk 55 (nI (13 + j)) o = o := chk_in (by omega) (by decide)
    have hk3 : ∀ {β : Type} {o : Option β}, chk 55 (nI (7 + j)) o = o := chk_in (by omega) (by decide)
    have d1 : (nI (31 + s)).toNatClampNeg = 31 + s := nI_clamp (by omega)
    have d2 : (nI (13 + j)).toNatClampNeg = 13 + j := nI_clamp (by omega)
    have d3 : (nI (7 + j)).toNatClampNeg = 7 + j := nI_clamp (by omega)
    have eN : ∀ x : Int32, (13 : Int32) + nI j = nI (13 + j) := fun _ => by rw [show (13 : Int32) = nI 13 from rfl, nI_add]
    have eK : ∀ x : Int32, (7 : Int32) + nI j = nI (7 + j) := fun _ => by rw [show (7 : Int32) = nI 7 from rfl, nI_add]
    rw [F_X8_stockOf_L7, k6, t6, hm.2.2.2.2.1, if_pos (nI_lt hsl (by omega)), nI_1 s, show (31 : Int32) = nI 31 from rfl, nI_add, hk1, d1, c8, eN 0, eK 0, hk2, d2, b2, d3, b1]
    simp only [jn_eq, hk3]
    have eB : nB S lab s = (decide (S.2.1 1 j = lab) && decide (¬ S.2.1 0 j = 5)) := by unfold nB; rw [hj]
    have eF : kB S lab 3 s = (decide (S.2.1 1 j = lab) && decide (S.2.1 0 j = 3)) := by unfold kB; rw [hj]
    unfold flI at ih' ⊢
    rw [cntP, cntP, eB, eF] at ih'
    by_cases q1 : S.2.1 1 j = lab
    · by_cases q5 : S.2.1 0 j = 5
      · have q3 : ¬ S.2.1 0 j = 3 := by rw [q5]; decide
        rw [decide_eq_true q1, decide_eq_false q3, decide_eq_false (fun h => h q5)] at ih'
        simp only [if_pos q1, if_pos q5, Bool.and_false, Bool.false_eq_true, if_false, Nat.add_zero, if_true] at ih' ⊢
        by_cases z : cntP (kB S lab 3) s = 0
        · simp only [if_pos z, if_true] at ih' ⊢
          rw [← ih']
          congr 1
          exact Int32.add_zero _
        · simp only [if_neg z, if_neg one0] at ih' ⊢
          rw [← ih']
          congr 1
          exact Int32.add_zero _
      · by_cases q3 : S.2.1 0 j = 3
        · rw [decide_eq_true q1, decide_eq_true q3, decide_eq_true q5] at ih'
          simp only [if_pos q1, if_neg q5, if_pos q3, Bool.and_true, if_true, if_neg one0] at ih' ⊢
          rw [if_neg (show ¬ cntP (kB S lab 3) s + 1 = 0 by omega)] at ih'
          by_cases z : cntP (kB S lab 3) s = 0
          · simp only [if_pos z, if_true] at ih' ⊢
            rw [nI_1]
            exact ih'
          · simp only [if_neg z, if_neg one0] at ih' ⊢
            rw [nI_1]
            exact ih'
        · rw [decide_eq_true q1, decide_eq_false q3, decide_eq_true q5] at ih'
          simp only [if_pos q1, if_neg q5, if_neg q3, Bool.and_true, Bool.and_false, Bool.false_eq_true, if_false, if_true, if_neg one0, Nat.add_zero] at ih' ⊢
          by_cases z : cntP (kB S lab 3) s = 0
          · simp only [if_pos z, if_true] at ih' ⊢
            rw [nI_1]
            exact ih'
          · simp only [if_neg z, if_neg one0] at ih' ⊢
            rw [nI_1]
            exact ih'
    · rw [decide_eq_false q1] at ih'
      simp only [if_neg q1, Bool.false_and, Bool.false_eq_true, if_false, Nat.add_zero, if_true] at ih' ⊢
      by_cases z : cntP (kB S lab 3) s = 0
      · simp only [if_pos z, if_true] at ih' ⊢
        rw [← ih']
        congr 1
        exact Int32.add_zero _
      · simp only [if_neg z, if_neg one0] at ih' ⊢
        rw [← ih']
        congr 1
        exact Int32.add_zero _
theorem p_stock {N : Nat} (hN : 3000 ≤ N) {v : SV} {S : Sh} {B : Nat} (hm : RM (v 4) S) (hi : SInv B S) (lab : Int32) : F_X8_stockOf N v lab = if cntP (kB S lab 3) S.2.2.2.2.length = 0 then some (nI (cntP (nB S lab) S.2.2.2.2.length)) else some (-1) := by
  have h1 := hi.1
  have h2 := len6 hi
  unfold F_X8_stockOf
  rw [show ∀ K, F_X8_stockOf_L7 N v lab K N (0 : Int32) (0 : Int32) (0 : Int32) = K (nI (cntP (nB S lab) S.2.2.2.2.length)) (flI S lab S.2.2.2.2.length) from fun K => l_stock (K := K) hm hi S.2.2.2.2.length 0 N (by omega) (by omega)]
  unfold flI
  by_cases z : cntP (kB S lab 3) S.2.2.2.2.length = 0
  · rw [if_pos z, if_pos z, if_pos rfl]
  · rw [if_neg z, if_neg z, if_neg one0]
theorem l_match {N : Nat} (hN : 3000 ≤ N) {v vM : SV} {S : Sh} {B : Nat} (hc : RC v S) (hm : RM (vM 4) S) (hi : SInv B S) : ∀ d s n n2 x, s + d = 10 → d < n → d < n2 → ∃ y, F_X5_couldBePleased_L4 N v n x (nI s) = some y ∧ F_X8_match_L14 N vM n2 x (nI s) = some y := by
  have h1 := hi.1
  have h2 := len6 hi
  have h6 := hi.2.1
  intro d
  induction d with
  | zero =>
    intro s n n2 x hs hn hn2
    obtain ⟨n, rfl⟩ : ∃ m, n = m + 1 := ⟨n - 1, by omega⟩
    obtain ⟨n2, rfl⟩ : ∃ m, n2 = m + 1 := ⟨n2 - 1, by omega⟩
    have e : s = 10 := by omega
    subst e
    exact ⟨x, by rw [F_X5_couldBePleased_L4, if_pos (by decide)], by rw [F_X8_match_L14, if_neg (by decide)]⟩
  | succ d ih =>
    intro s n n2 x hs hn hn2
    obtain ⟨n, rfl⟩ : ∃ m, n = m + 1 := ⟨n - 1, by omega⟩
    obtain ⟨n2, rfl⟩ : ∃ m, n2 = m + 1 := ⟨n2 - 1, by omega⟩
    have hw := cntP_le (wB S (nI s)) S.2.2.2.1
    have hg := cntP_le (nB S (nI s)) S.2.2.2.2.length
    have e5 : F_X5_couldBePleased_L4 N v (n + 1) x (nI s) = if cntP (kB S (nI s) 3) S.2.2.2.2.length = 0 then F_X5_couldBePleased_L4 N v n (x + (if nI (cntP (nB S (nI s)) S.2.2.2.2.length) < nI (cntP (wB S (nI s)) S.2.2.2.1) then nI (cntP (nB S (nI s)) S.2.2.2.2.length) else nI (cntP (wB S (nI s)) S.2.2.2.1))) (nI (s + 1)) else F_X5_couldBePleased_L4 N v n (x + nI (cntP (wB S (nI s)) S.2.2.2.1)) (nI (s + 1)) := by
      have hk := cntP_le (kB S (nI s) 3) S.2.2.2.2.length
      rw [F_X5_couldBePleased_L4, if_neg (show ¬ (9 : Int32) < nI s from nI_nlt (a := 9) (by omega) (by omega)), p_wanting hN hc h6, bs, p_listed hN hc hi, bs, nI_1]
      simp only [jn_eq]
      rw [p_given hN hc hi, bs]
      by_cases z : cntP (kB S (nI s) 3) S.2.2.2.2.length = 0
      · rw [if_pos z, z, if_pos (show nI 0 = 0 from rfl)]
      · rw [if_neg z, if_neg (nI_ne0 (by omega) (by omega))]
    have e8 : F_X8_match_L14 N vM (n2 + 1) x (nI s) = if cntP (kB S (nI s) 3) S.2.2.2.2.length = 0 then F_X8_match_L14 N vM n2 (x + (if nI (cntP (wB S (nI s)) S.2.2.2.1) < nI (cntP (nB S (nI s)) S.2.2.2.2.length) then nI (cntP (wB S (nI s)) S.2.2.2.1) else nI (cntP (nB S (nI s)) S.2.2.2.2.length))) (nI (s + 1)) else F_X8_match_L14 N vM n2 (x + nI (cntP (wB S (nI s)) S.2.2.2.1)) (nI (s + 1)) := by
      rw [F_X8_match_L14, if_pos (show nI s < (10 : Int32) from nI_lt (b := 10) (by omega) (by decide)), p_wantersOf hN hm h6, bs, p_ones hN (bit64 _ h6), bs, popc_bit _ h6, p_stock hN hm hi, nI_1]
      simp only [jn_eq]
      by_cases z : cntP (kB S (nI s) 3) S.2.2.2.2.length = 0
      · rw [if_pos z, if_pos z, bs, if_neg (nI_pos (by omega))]
        by_cases y : nI (cntP (wB S (nI s)) S.2.2.2.1) < nI (cntP (nB S (nI s)) S.2.2.2.2.length)
        · rw [if_pos y, if_pos y]
        · rw [if_neg y, if_neg y]
      · rw [if_neg z, if_neg z, bs, if_pos (by decide)]
    rw [e5, e8]
    by_cases z : cntP (kB S (nI s) 3) S.2.2.2.2.length = 0
    · rw [if_pos z, if_pos z]
      have em : (if nI (cntP (nB S (nI s)) S.2.2.2.2.length) < nI (cntP (wB S (nI s)) S.2.2.2.1) then nI (cntP (nB S (nI s)) S.2.2.2.2.length) else nI (cntP (wB S (nI s)) S.2.2.2.1)) = (if nI (cntP (wB S (nI s)) S.2.2.2.1) < nI (cntP (nB S (nI s)) S.2.2.2.2.length) then nI (cntP (wB S (nI s)) S.2.2.2.1) else nI (cntP (nB S (nI s)) S.2.2.2.2.length)) := by
        generalize cntP (nB S (nI s)) S.2.2.2.2.length = a at hg
        generalize cntP (wB S (nI s)) S.2.2.2.1 = b at hw
        rcases Nat.lt_trichotomy a b with c | c | c
        · rw [if_pos (nI_lt c (by omega)), if_neg (nI_nlt (by omega) (by omega))]
        · rw [c]
        · rw [if_neg (nI_nlt (by omega) (by omega)), if_pos (nI_lt c (by omega))]
      rw [em]
      exact ih (s + 1) n n2 _ (by omega) (by omega) (by omega)
    · rw [if_neg z, if_neg z]
      exact ih (s + 1) n n2 _ (by omega) (by omega) (by omega)
theorem st_match {N : Nat} (hN : 3000 ≤ N) : St_match N Rel := by
  intro vR vW vT vS vD vA vI vJ vE vF vP vQ vK vM gW gA gL hrel
  obtain ⟨S, hc, hm, hi, hs⟩ := hrel.2.2.2.1
  rcases no_show (N := N) (vR := vR) hc hi.1 hs with ⟨a, b⟩ | ⟨a, b, -⟩
  · exact ⟨-1000002, -1000002, by unfold F_X7_match; rw [a]; rfl, by unfold F_X8_match; rw [b]; rfl, rfl, hrel⟩
  obtain ⟨y, y1, y2⟩ := l_match hN hc hm hi 10 0 N N 0 (by omega) (by omega) (by omega)
  refine ⟨y, y, ?_, ?_, rfl, hrel⟩
  · unfold F_X7_match F_X5_couldBePleased; rw [a, bs, if_pos rfl, show F_X5_couldBePleased_L4 N vS N (0 : Int32) (0 : Int32) = some y from y1]; rfl
  · unfold F_X8_match; rw [b, if_neg one0]; exact y2
theorem cnt_bit {p : Nat → Bool} {n : Nat} : bitN p n = 0 ↔ cntP p n = 0 := by
  constructor
  · intro h
    exact (cnt_false (fun i hi => bit_zero h i hi)).1
  · intro h
    induction n with
    | zero => rfl
    | succ n ih =>
      rw [cntP] at h
      by_cases q : p n = true
      · rw [if_pos q] at h; omega
      · rw [bitN, ih (by omega), if_neg q]
theorem l_lack {N : Nat} (hN : 3000 ≤ N) {v vM : SV} {S : Sh} {B : Nat} (hc : RC v S) (hm : RM (vM 4) S) (hi : SInv B S) : ∀ d s n n2 x, s + d = 10 → d < n → d < n2 → ∃ y, F_X5_lackedLabels_L4 N v n x (nI s) = some y ∧ F_X8_lack_L14 N vM n2 x (nI s) = some y := by
  have h1 := hi.1
  have h2 := len6 hi
  have h6 := hi.2.1
  intro d
  induction d with
  | zero =>
    intro s n n2 x hs hn hn2
    obtain ⟨n, rfl⟩ : ∃ m, n = m + 1 := ⟨n - 1, by omega⟩
    obtain ⟨n2, rfl⟩ : ∃ m, n2 = m + 1 := ⟨n2 - 1, by omega⟩
    have e : s = 10 := by omega
    subst e
    exact ⟨x, by rw [F_X5_lackedLabels_L4, if_pos (by decide)], by rw [F_X8_lack_L14, if_neg (by decide)]⟩
  | succ d ih =>
    intro s n n2 x hs hn hn2
    obtain ⟨n, rfl⟩ : ∃ m, n = m + 1 := ⟨n - 1, by omega⟩
    obtain ⟨n2, rfl⟩ : ∃ m, n2 = m + 1 := ⟨n2 - 1, by omega⟩
    have hw := cntP_le (wB S (nI s)) S.2.2.2.1
    have hg := cntP_le (nB S (nI s)) S.2.2.2.2.length
    have hb := bit64 (wB S (nI s)) h6
    have hk := cnt_kinds hi (nI s) _ (Nat.le_refl _)
    have e5 : F_X5_lackedLabels_L4 N v (n + 1) x (nI s) = if 0 < cntP (wB S (nI s)) S.2.2.2.1 ∧ cntP (nB S (nI s)) S.2.2.2.2.length = 0 then F_X5_lackedLabels_L4 N v n (x ||| ((1 : Int32) <<< (nI s &&& 31))) (nI (s + 1)) else F_X5_lackedLabels_L4 N v n x (nI (s + 1)) := by
      rw [F_X5_lackedLabels_L4, if_neg (show ¬ (9 : Int32) < nI s from nI_nlt (a := 9) (by omega) (by omega)), p_wanting hN hc h6, bs, nI_1]
      simp only [jn_eq]
      rw [p_given hN hc hi, bs]
      by_cases z : 0 < cntP (wB S (nI s)) S.2.2.2.1
      · rw [if_pos (show (0 : Int32) < _ from nI_lt (a := 0) z (by omega))]
        by_cases y : cntP (nB S (nI s)) S.2.2.2.2.length = 0
        · rw [y, if_pos (show nI 0 = 0 from rfl), if_pos (And.intro z rfl)]
        · rw [if_neg (nI_ne0 (by omega) (by omega)), if_neg (fun q => y q.2)]
      · rw [if_neg (show ¬ (0 : Int32) < _ from nI_nlt (a := 0) (by omega) (by omega)), if_neg (fun q => z q.1)]
    have e8 : F_X8_lack_L14 N vM (n2 + 1) x (nI s) = if 0 < cntP (wB S (nI s)) S.2.2.2.1 ∧ cntP (nB S (nI s)) S.2.2.2.2.length = 0 then F_X8_lack_L14 N vM n2 (x ||| ((1 : Int32) <<< (nI s &&& 31))) (nI (s + 1)) else F_X8_lack_L14 N vM n2 x (nI (s + 1)) := by
      rw [F_X8_lack_L14, if_pos (show nI s < (10 : Int32) from nI_lt (b := 10) (by omega) (by decide)), p_wantersOf hN hm h6, bs, nI_1]
      simp only [jn_eq]
      rw [or_0, p_stock hN hm hi]
      by_cases z : 0 < cntP (wB S (nI s)) S.2.2.2.1
      · have zb : ¬ bitN (wB S (nI s)) S.2.2.2.1 = 0 := fun q => by have := cnt_bit.mp q; omega
        rw [if_neg (nI_ne0 (by omega) (by omega))]
        by_cases y : cntP (nB S (nI s)) S.2.2.2.2.length = 0
        · rw [if_pos (show cntP (kB S (nI s) 3) S.2.2.2.2.length = 0 by omega), bs, y, if_pos (show nI 0 = 0 from rfl), if_pos (And.intro z rfl)]
        · rw [if_neg (fun (q : 0 < cntP (wB S (nI s)) S.2.2.2.1 ∧ cntP (nB S (nI s)) S.2.2.2.2.length = 0) => y q.2)]
          by_cases w : cntP (kB S (nI s) 3) S.2.2.2.2.length = 0
          · rw [if_pos w, bs, if_neg (nI_ne0 (by omega) (by omega))]
          · rw [if_neg w, bs, if_neg (by decide)]
      · have zb : bitN (wB S (nI s)) S.2.2.2.1 = 0 := cnt_bit.mpr (by omega)
        rw [zb, if_pos (show nI 0 = 0 from rfl), if_neg (fun (q : 0 < cntP (wB S (nI s)) S.2.2.2.1 ∧ cntP (nB S (nI s)) S.2.2.2.2.length = 0) => z q.1)]
    rw [e5, e8]
    by_cases z : 0 < cntP (wB S (nI s)) S.2.2.2.1 ∧ cntP (nB S (nI s)) S.2.2.2.2.length = 0
    · rw [if_pos z, if_pos z]
      exact ih (s + 1) n n2 _ (by omega) (by omega) (by omega)
    · rw [if_neg z, if_neg z]
      exact ih (s + 1) n n2 _ (by omega) (by omega) (by omega)
theorem st_lack {N : Nat} (hN : 3000 ≤ N) : St_lack N Rel := by
  intro vR vW vT vS vD vA vI vJ vE vF vP vQ vK vM gW gA gL hrel
  obtain ⟨S, hc, hm, hi, hs⟩ := hrel.2.2.2.1
  rcases no_show (N := N) (vR := vR) hc hi.1 hs with ⟨a, b⟩ | ⟨a, b, -⟩
  · exact ⟨-1000002, -1000002, by unfold F_X7_lack; rw [a]; rfl, by unfold F_X8_lack; rw [b]; rfl, rfl, hrel⟩
  obtain ⟨y, y1, y2⟩ := l_lack hN hc hm hi 10 0 N N 0 (by omega) (by omega) (by omega)
  refine ⟨y, y, ?_, ?_, rfl, hrel⟩
  · unfold F_X7_lack F_X5_lackedLabels; rw [a, bs, if_pos rfl, show F_X5_lackedLabels_L4 N vS N (0 : Int32) (0 : Int32) = some y from y1]; rfl
  · unfold F_X8_lack; rw [b, if_neg one0]; exact y2
