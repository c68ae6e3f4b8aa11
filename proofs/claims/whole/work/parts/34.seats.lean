/-! seats: who waits and wants, as counts and as bits -/
def cntP (p : Nat → Bool) : Nat → Nat
  | 0 => 0
  | n + 1 => cntP p n + (if p n = true then 1 else 0)
def bitN (p : Nat → Bool) : Nat → Nat
  | 0 => 0
  | n + 1 => bitN p n + (if p n = true then 2 ^ n else 0)
theorem bitN_lt (p : Nat → Bool) : ∀ n, bitN p n < 2 ^ n
  | 0 => Nat.zero_lt_one
  | n + 1 => by
    have := bitN_lt p n
    rw [bitN, Nat.pow_succ]
    split <;> omega
theorem cntP_le (p : Nat → Bool) : ∀ n, cntP p n ≤ n
  | 0 => Nat.le_refl 0
  | n + 1 => by
    have := cntP_le p n
    rw [cntP]
    split <;> omega
theorem cntP_cg {p q : Nat → Bool} : ∀ {n : Nat}, (∀ i, i < n → p i = q i) → cntP p n = cntP q n
  | 0, _ => rfl
  | n + 1, h => by rw [cntP, cntP, cntP_cg (fun i hi => h i (by omega)), h n (by omega)]
theorem bitN_cg {p q : Nat → Bool} : ∀ {n : Nat}, (∀ i, i < n → p i = q i) → bitN p n = bitN q n
  | 0, _ => rfl
  | n + 1, h => by rw [bitN, bitN, bitN_cg (fun i hi => h i (by omega)), h n (by omega)]
theorem sh1 : ∀ s, s < 31 → (1 : Int32) <<< (nI s &&& 31) = nI (2 ^ s) := by decide
theorem nI_or (a b : Nat) : nI a ||| nI b = nI (a ||| b) := by
  unfold nI
  apply Int32.toBitVec_inj.mp
  show BitVec.ofNat 32 a ||| BitVec.ofNat 32 b = BitVec.ofNat 32 (a ||| b)
  rw [BitVec.ofNat_or]
theorem or_bit {m s : Nat} (hm : m < 2 ^ s) (hs : s < 31) : nI m ||| ((1 : Int32) <<< (nI s &&& 31)) = nI (m + 2 ^ s) := by
  rw [sh1 s hs, nI_or]
  have h := Nat.two_pow_add_eq_or_of_lt (i := s) (b := m) hm 1
  rw [Nat.mul_one] at h
  rw [Nat.or_comm, ← h, Nat.add_comm]
theorem or_0 (x : Int32) : x ||| 0 = x := Int32.or_zero
theorem k2 {β : Type} {o : Option β} : chk 55 (2 : Int32) o = o := chk_dec (by decide)
theorem k3 {β : Type} {o : Option β} : chk 55 (3 : Int32) o = o := chk_dec (by decide)
theorem k4 {β : Type} {o : Option β} : chk 55 (4 : Int32) o = o := chk_dec (by decide)
theorem k5 {β : Type} {o : Option β} : chk 55 (5 : Int32) o = o := chk_dec (by decide)
theorem k6 {β : Type} {o : Option β} : chk 55 (6 : Int32) o = o := chk_dec (by decide)
theorem t2 : (2 : Int32).toNatClampNeg = 2 := rfl
theorem t3 : (3 : Int32).toNatClampNeg = 3 := rfl
theorem t4 : (4 : Int32).toNatClampNeg = 4 := rfl
theorem t5 : (5 : Int32).toNatClampNeg = 5 := rfl
theorem t6 : (6 : Int32).toNatClampNeg = 6 := rfl
def wB (S : Sh) (lab : Int32) (s : Nat) : Bool := decide (S.2.1 6 s = 0) && decide (S.2.1 4 s = lab)
def hB (S : Sh) (h : Int32) (s : Nat) : Bool := decide (S.2.1 6 s = h)
theorem l_wanting {N : Nat} {v : SV} {S : Sh} {lab : Int32} (hc : RC v S) (h6 : S.2.2.2.1 ≤ 6) : ∀ d s n, s + d = S.2.2.2.1 → d < n → F_X5_wanting_L4 N v lab n (nI (cntP (wB S lab) s)) (nI s) = some (nI (cntP (wB S lab) S.2.2.2.1)) := by
  intro d
  induction d with
  | zero =>
    intro s n hs hn
    obtain ⟨n, rfl⟩ : ∃ m, n = m + 1 := ⟨n - 1, by omega⟩
    have e : s = S.2.2.2.1 := by omega
    subst e
    rw [F_X5_wanting_L4, hc.2.2.2.1, if_neg (nI_nlt (Nat.le_refl _) (by omega))]
  | succ d ih =>
    intro s n hs hn
    obtain ⟨n, rfl⟩ : ∃ m, n = m + 1 := ⟨n - 1, by omega⟩
    have ih' := ih (s + 1) n (by omega) (by omega)
    obtain ⟨e5, e6, e7⟩ := hc.2.2.2.2.2.2.2.2.1 s (by omega)
    rw [F_X5_wanting_L4, hc.2.2.2.1, if_pos (nI_lt (by omega) (by omega)), chk_in (by omega) (by decide), jn_eq, nI_clamp (by omega), e7, e5, nI_1 s, chk_in (by omega) (by decide)]
    rw [cntP] at ih'
    by_cases q1 : S.2.1 6 s = 0
    · rw [if_pos q1]
      by_cases q2 : S.2.1 4 s = lab
      · rw [if_pos (show wB S lab s = true by simp [wB, q1, q2])] at ih'
        rw [if_pos q2, nI_1]
        exact ih'
      · rw [if_neg (show ¬ wB S lab s = true by simp [wB, q2])] at ih'
        rw [if_neg q2]
        exact ih'
    · rw [if_neg (show ¬ wB S lab s = true by simp [wB, q1])] at ih'
      rw [if_neg q1]
      exact ih'
theorem p_wanting {N : Nat} (hN : 3000 ≤ N) {v : SV} {S : Sh} (hc : RC v S) (h6 : S.2.2.2.1 ≤ 6) (lab : Int32) : F_X5_wanting N v lab = some (nI (cntP (wB S lab) S.2.2.2.1)) := l_wanting hc h6 S.2.2.2.1 0 N (by omega) (by omega)
theorem l_seatsThat {N : Nat} {v : SV} {S : Sh} {st : Int32} (hc : RC v S) (h6 : S.2.2.2.1 ≤ 6) : ∀ d s n, s + d = S.2.2.2.1 → d < n → F_X5_seatsThat_L4 N v st n (nI (bitN (hB S st) s)) (nI s) = some (nI (bitN (hB S st) S.2.2.2.1)) := by
  intro d
  induction d with
  | zero =>
    intro s n hs hn
    obtain ⟨n, rfl⟩ : ∃ m, n = m + 1 := ⟨n - 1, by omega⟩
    have e : s = S.2.2.2.1 := by omega
    subst e
    rw [F_X5_seatsThat_L4, hc.2.2.2.1, if_neg (nI_nlt (Nat.le_refl _) (by omega))]
  | succ d ih =>
    intro s n hs hn
    obtain ⟨n, rfl⟩ : ∃ m, n = m + 1 := ⟨n - 1, by omega⟩
    have ih' := ih (s + 1) n (by omega) (by omega)
    obtain ⟨e5, e6, e7⟩ := hc.2.2.2.2.2.2.2.2.1 s (by omega)
    rw [F_X5_seatsThat_L4, hc.2.2.2.1, if_pos (nI_lt (by omega) (by omega)), chk_in (by omega) (by decide), jn_eq, nI_clamp (by omega), e7, nI_1 s, or_bit (bitN_lt _ _) (by omega)]
    rw [bitN] at ih'
    by_cases q1 : S.2.1 6 s = st
    · rw [if_pos (show hB S st s = true by simp [hB, q1])] at ih'
      rw [if_pos q1]
      exact ih'
    · rw [if_neg (show ¬ hB S st s = true by simp [hB, q1])] at ih'
      rw [if_neg q1]
      exact ih'
theorem p_seatsThat {N : Nat} (hN : 3000 ≤ N) {v : SV} {S : Sh} (hc : RC v S) (h6 : S.2.2.2.1 ≤ 6) (st : Int32) : F_X5_seatsThat N v st = some (nI (bitN (hB S st) S.2.2.2.1)) := l_seatsThat hc h6 S.2.2.2.1 0 N (by omega) (by omega)
theorem l_seatsOf {N : Nat} {v : SV} {S : Sh} {st : Int32} (hm : RM (v 4) S) (h6 : S.2.2.2.1 ≤ 6) : ∀ d s n, s + d = S.2.2.2.1 → d < n → F_X8_seatsOf_L4 N v st n (nI (bitN (hB S st) s)) (nI s) = some (nI (bitN (hB S st) S.2.2.2.1)) := by
  intro d
  induction d with
  | zero =>
    intro s n hs hn
    obtain ⟨n, rfl⟩ : ∃ m, n = m + 1 := ⟨n - 1, by omega⟩
    have e : s = S.2.2.2.1 := by omega
    subst e
    rw [F_X8_seatsOf_L4, k3, t3, hm.2.2.2.1, if_neg (nI_nlt (Nat.le_refl _) (by omega))]
  | succ d ih =>
    intro s n hs hn
    obtain ⟨n, rfl⟩ : ∃ m, n = m + 1 := ⟨n - 1, by omega⟩
    have ih' := ih (s + 1) n (by omega) (by omega)
    obtain ⟨e5, e6, e7⟩ := hm.2.2.2.2.2.2.2.2.1 s (by omega)
    rw [F_X8_seatsOf_L4, k3, t3, hm.2.2.2.1, if_pos (nI_lt (by omega) (by omega)), show (49 : Int32) = nI 49 from rfl, nI_add, chk_in (by omega) (by decide)]
    simp only [jn_eq]
    rw [nI_clamp (by omega), e7, nI_1 s, or_bit (bitN_lt _ _) (by omega), or_0]
    rw [bitN] at ih'
    by_cases q1 : S.2.1 6 s = st
    · rw [if_pos (show hB S st s = true by simp [hB, q1])] at ih'
      rw [if_pos q1]
      exact ih'
    · rw [if_neg (show ¬ hB S st s = true by simp [hB, q1])] at ih'
      rw [if_neg q1]
      exact ih'
theorem p_seatsOf {N : Nat} (hN : 3000 ≤ N) {v : SV} {S : Sh} (hm : RM (v 4) S) (h6 : S.2.2.2.1 ≤ 6) (st : Int32) : F_X8_seatsOf N v st = some (nI (bitN (hB S st) S.2.2.2.1)) := l_seatsOf hm h6 S.2.2.2.1 0 N (by omega) (by omega)
theorem l_wantersOf {N : Nat} {v : SV} {S : Sh} {lab : Int32} (hm : RM (v 4) S) (h6 : S.2.2.2.1 ≤ 6) : ∀ d s n, s + d = S.2.2.2.1 → d < n → F_X8_wantersOf_L4 N v lab n (nI (bitN (wB S lab) s)) (nI s) = some (nI (bitN (wB S lab) S.2.2.2.1)) := by
  intro d
  induction d with
  | zero =>
    intro s n hs hn
    obtain ⟨n, rfl⟩ : ∃ m, n = m + 1 := ⟨n - 1, by omega⟩
    have e : s = S.2.2.2.1 := by omega
    subst e
    rw [F_X8_wantersOf_L4, k3, t3, hm.2.2.2.1, if_neg (nI_nlt (Nat.le_refl _) (by omega))]
  | succ d ih =>
    intro s n hs hn
    obtain ⟨n, rfl⟩ : ∃ m, n = m + 1 := ⟨n - 1, by omega⟩
    have ih' := ih (s + 1) n (by omega) (by omega)
    obtain ⟨e5, e6, e7⟩ := hm.2.2.2.2.2.2.2.2.1 s (by omega)
    rw [F_X8_wantersOf_L4, k3, t3, hm.2.2.2.1, if_pos (nI_lt (by omega) (by omega)), show (49 : Int32) = nI 49 from rfl, show (37 : Int32) = nI 37 from rfl, nI_add, nI_add, chk_in (n := 55) (k := 49 + s) (by omega) (by decide)]
    simp only [jn_eq]
    rw [nI_clamp (by omega), nI_clamp (by omega), e7, chk_in (n := 55) (k := 37 + s) (by omega) (by decide), e5, nI_1 s, or_bit (bitN_lt _ _) (by omega), or_0]
    rw [bitN] at ih'
    by_cases q1 : S.2.1 6 s = 0
    · rw [if_pos q1]
      by_cases q2 : S.2.1 4 s = lab
      · rw [if_pos (show wB S lab s = true by simp [wB, q1, q2])] at ih'
        rw [if_pos q2]
        exact ih'
      · rw [if_neg (show ¬ wB S lab s = true by simp [wB, q2])] at ih'
        rw [if_neg q2]
        exact ih'
    · rw [if_neg (show ¬ wB S lab s = true by simp [wB, q1])] at ih'
      rw [if_neg q1]
      exact ih'
theorem p_wantersOf {N : Nat} (hN : 3000 ≤ N) {v : SV} {S : Sh} (hm : RM (v 4) S) (h6 : S.2.2.2.1 ≤ 6) (lab : Int32) : F_X8_wantersOf N v lab = some (nI (bitN (wB S lab) S.2.2.2.1)) := l_wantersOf hm h6 S.2.2.2.1 0 N (by omega) (by omega)
