/-! a tap, in parts: who is pleased; more patience: the class -/
def fstB (p : Nat → Bool) (s : Nat) : Bool := p s && decide (cntP p s = 0)
theorem fstB_cg {p q : Nat → Bool} {n : Nat} (h : ∀ i, i < n → p i = q i) : ∀ i, i < n → fstB p i = fstB q i := by
  intro i hi
  unfold fstB
  rw [h i hi, cntP_cg (fun k hk => h k (by omega))]
theorem fst_none {p : Nat → Bool} : ∀ {n : Nat}, cntP p n = 0 → bitN (fstB p) n = 0 ∧ cntP (fstB p) n = 0
  | 0, _ => ⟨rfl, rfl⟩
  | n + 1, h => by
    rw [cntP] at h
    have h1 : cntP p n = 0 := by omega
    obtain ⟨a, b⟩ := fst_none h1
    have h2 : p n = false := by
      by_cases q : p n = true
      · rw [if_pos q] at h; omega
      · exact Bool.not_eq_true _ ▸ q
    have e : fstB p n = false := by unfold fstB; rw [h2]; rfl
    rw [bitN, cntP, a, b, e]
    exact ⟨rfl, rfl⟩
theorem fst_found {p : Nat → Bool} {s : Nat} (hp : p s = true) (h0 : cntP p s = 0) : ∀ d, bitN (fstB p) (s + 1 + d) = 2 ^ s ∧ cntP (fstB p) (s + 1 + d) = 1 ∧ 0 < cntP p (s + 1 + d)
  | 0 => by
    have e : fstB p s = true := by unfold fstB; rw [hp, h0]; rfl
    obtain ⟨a, b⟩ := fst_none h0
    show bitN (fstB p) (s + 1) = _ ∧ cntP (fstB p) (s + 1) = 1 ∧ 0 < cntP p (s + 1)
    rw [bitN, cntP, cntP, a, b, e, hp, h0]
    simp
  | d + 1 => by
    obtain ⟨a, b, c⟩ := fst_found hp h0 d
    have e : fstB p (s + 1 + d) = false := by
      unfold fstB
      rw [decide_eq_false (by omega)]
      exact Bool.and_false _
    show bitN (fstB p) (s + 1 + d + 1) = _ ∧ cntP (fstB p) (s + 1 + d + 1) = 1 ∧ 0 < cntP p (s + 1 + d + 1)
    rw [bitN, cntP, cntP, a, b, e]
    refine ⟨rfl, rfl, by omega⟩
theorem fst_le {p : Nat → Bool} : ∀ n, cntP (fstB p) n ≤ 1 ∧ (cntP p n = 0 → cntP (fstB p) n = 0)
  | 0 => ⟨by rw [cntP]; omega, fun _ => rfl⟩
  | n + 1 => by
    obtain ⟨a, b⟩ := fst_le (p := p) n
    refine ⟨?_, fun h => (fst_none h).2⟩
    rw [cntP]
    by_cases q : fstB p n = true
    · have h0 : cntP p n = 0 := by
        unfold fstB at q
        rw [Bool.and_eq_true] at q
        exact of_decide_eq_true q.2
      rw [b h0, if_pos q]
      omega
    · rw [if_neg q]; omega
theorem gl7 {v : SV} {s q : Nat} {X Y Z : Int32} : (up2 (up2 (up2 v 7 s X) 0 8 Y) 0 9 Z) 7 q = if q = s then X else v 7 q := by
  show upd (v 7) s X q = _
  by_cases w : q = s
  · rw [w, upd_s, if_pos rfl]
  · rw [upd_n w, if_neg w]
theorem gl0 {v : SV} {s k : Nat} {X Y Z : Int32} (h : k < 8) : (up2 (up2 (up2 v 7 s X) 0 8 Y) 0 9 Z) 0 k = v 0 k := by
  rw [up2_j (by omega), up2_j (by omega), up2_k (by omega)]
theorem glk {v : SV} {s k : Nat} {X Y Z : Int32} (h : ¬ k = 0) (h7 : ¬ k = 7) : (up2 (up2 (up2 v 7 s X) 0 8 Y) 0 9 Z) k = v k := by
  rw [up2_k h, up2_k h, up2_k h7]
theorem l_glad {N j s n T : Nat} {x2 : Int32} {v : SV} (hj : j < 6) (hs : s < T) (hT : T ≤ 6) (h3 : v 0 3 = nI T) : F_X5_gladden_L30 N (nI j) x2 (n + 1) (nI s) v = if v 7 s = 0 ∧ v 5 s = v 2 j then (if v 1 j = 3 then F_X5_gladden_L30 N (nI j) x2 n (nI (s + 1)) (up2 (up2 (up2 v 7 s 1) 0 8 (v 0 8 ||| ((1 : Int32) <<< (nI s &&& 31)))) 0 9 (v 0 9 + x2)) else some (up2 (up2 (up2 v 7 s 1) 0 8 (v 0 8 ||| ((1 : Int32) <<< (nI s &&& 31)))) 0 9 (v 0 9 + x2))) else F_X5_gladden_L30 N (nI j) x2 n (nI (s + 1)) v := by
  have hk1 : ∀ {β : Type} {o : Option β}, chk 6 (nI s) o = o := chk_in (by omega) (by decide)
  have hk2 : ∀ {β : Type} {o : Option β}, chk 6 (nI j) o = o := chk_in (by omega) (by decide)
  have c1 : (nI s).toNatClampNeg = s := nI_clamp (by omega)
  have c2 : (nI j).toNatClampNeg = j := nI_clamp (by omega)
  rw [F_X5_gladden_L30, h3, if_pos (nI_lt (by omega) (by omega)), nI_1]
  simp only [jn_eq, hk1, hk2, c1, c2]
  by_cases q1 : v 7 s = 0
  · rw [if_pos q1]
    by_cases q2 : v 5 s = v 2 j
    · rw [if_pos q2, if_pos (And.intro (q1) (q2))]
    · rw [if_neg q2, if_neg (fun z => q2 z.2)]
  · rw [if_neg q1, if_neg (fun z => q1 z.1)]
theorem l_gladF {N j T e : Nat} {P : Nat → Bool} (hj : j < 6) (hT : T ≤ 6) : ∀ d s n v, s + d = T → v 0 3 = nI T → v 1 j = 3 → v 0 8 = nI (bitN P s) → v 0 9 = nI (e * cntP P s) → (∀ q, s ≤ q → q < T → (P q = true ↔ v 7 q = 0 ∧ v 5 q = v 2 j)) → d < n → ∃ w, F_X5_gladden_L30 N (nI j) (nI e) n (nI s) v = some w ∧ (∀ k, ¬ k = 0 → ¬ k = 7 → w k = v k) ∧ (∀ k, k < 8 → w 0 k = v 0 k) ∧ w 0 8 = nI (bitN P T) ∧ w 0 9 = nI (e * cntP P T) ∧ ∀ q, w 7 q = if s ≤ q ∧ q < T ∧ P q = true then 1 else v 7 q := by
  intro d
  induction d with
  | zero =>
    intro s n v hs h3 h1 h8 h9 hP hn
    obtain ⟨n, rfl⟩ : ∃ m, n = m + 1 := ⟨n - 1, by omega⟩
    have es : s = T := by omega
    subst es
    refine ⟨v, ?_, fun _ _ _ => rfl, fun _ _ => rfl, h8, h9, fun q => (if_neg (fun z => by have := z.1; have := z.2.1; omega)).symm⟩
    rw [F_X5_gladden_L30, h3, if_neg (nI_nlt (by omega) (by omega))]
  | succ d ih =>
    intro s n v hs h3 h1 h8 h9 hP hn
    obtain ⟨n, rfl⟩ : ∃ m, n = m + 1 := ⟨n - 1, by omega⟩
    have hT2 : s < T := by omega
    have hPs := hP s (Nat.le_refl _) hT2
    by_cases z : P s = true
    · obtain ⟨w, f1, f2, f3, f4, f5, f6⟩ := ih (s + 1) n (up2 (up2 (up2 v 7 s 1) 0 8 (v 0 8 ||| ((1 : Int32) <<< (nI s &&& 31)))) 0 9 (v 0 9 + nI e)) (by omega) ((gl0 (by omega)).trans h3) h1 (by
        show v 0 8 ||| ((1 : Int32) <<< (nI s &&& 31)) = _
        rw [h8, or_bit (bitN_lt _ _) (by omega), bitN, if_pos z]) (by
        show v 0 9 + nI e = _
        rw [h9, nI_add, cntP, if_pos z, Nat.mul_add, Nat.mul_one]) (fun q a b => by
        rw [gl7, if_neg (by omega)]
        exact hP q (by omega) b) (by omega)
      refine ⟨w, ?_, fun k a b => ?_, fun k a => ?_, f4, f5, fun q => ?_⟩
      · rw [l_glad hj hT2 hT h3, if_pos (hPs.mp z), if_pos h1, f1]
      · rw [f2 k a b, glk a b]
      · rw [f3 k a, gl0 a]
      · rw [f6 q, gl7]
        by_cases w : q = s
        · subst w
          have hq1 : ¬ q + 1 ≤ q := by omega
          simp [z, hT2, hq1]
        · simp only [if_neg w, stepP w]
    · obtain ⟨w, f1, f2, f3, f4, f5, f6⟩ := ih (s + 1) n v (by omega) h3 h1 (by rw [h8, bitN, if_neg z]; rfl) (by rw [h9, cntP, if_neg z]; rfl) (fun q a b => hP q (by omega) b) (by omega)
      refine ⟨w, ?_, f2, f3, f4, f5, fun q => ?_⟩
      · rw [l_glad hj hT2 hT h3, if_neg (fun a => z (hPs.mpr a)), f1]
      · rw [f6 q]
        by_cases w : q = s
        · subst w
          simp [z]
        · simp only [stepP w]
theorem l_gladP {N j T e : Nat} {P : Nat → Bool} (hj : j < 6) (hT : T ≤ 6) : ∀ d s n v, s + d = T → v 0 3 = nI T → ¬ v 1 j = 3 → v 0 8 = 0 → v 0 9 = 0 → cntP P s = 0 → (∀ q, s ≤ q → q < T → (P q = true ↔ v 7 q = 0 ∧ v 5 q = v 2 j)) → d < n → ∃ w, F_X5_gladden_L30 N (nI j) (nI e) n (nI s) v = some w ∧ (∀ k, ¬ k = 0 → ¬ k = 7 → w k = v k) ∧ (∀ k, k < 8 → w 0 k = v 0 k) ∧ w 0 8 = nI (bitN (fstB P) T) ∧ w 0 9 = nI (e * cntP (fstB P) T) ∧ ∀ q, w 7 q = if s ≤ q ∧ q < T ∧ fstB P q = true then 1 else v 7 q := by
  intro d
  induction d with
  | zero =>
    intro s n v hs h3 h1 h8 h9 h0 hP hn
    obtain ⟨n, rfl⟩ : ∃ m, n = m + 1 := ⟨n - 1, by omega⟩
    have es : s = T := by omega
    subst es
    obtain ⟨a, b⟩ := fst_none h0
    refine ⟨v, ?_, fun _ _ _ => rfl, fun _ _ => rfl, by rw [a]; exact h8, by rw [b]; exact h9, fun q => (if_neg (fun z => by have := z.1; have := z.2.1; omega)).symm⟩
    rw [F_X5_gladden_L30, h3, if_neg (nI_nlt (by omega) (by omega))]
  | succ d ih =>
    intro s n v hs h3 h1 h8 h9 h0 hP hn
    obtain ⟨n, rfl⟩ : ∃ m, n = m + 1 := ⟨n - 1, by omega⟩
    have hT2 : s < T := by omega
    have hPs := hP s (Nat.le_refl _) hT2
    by_cases z : P s = true
    · obtain ⟨a, b, -⟩ := fst_found z h0 d
      rw [show s + 1 + d = T from by omega] at a b
      refine ⟨up2 (up2 (up2 v 7 s 1) 0 8 (v 0 8 ||| ((1 : Int32) <<< (nI s &&& 31)))) 0 9 (v 0 9 + nI e), ?_, fun k a b => glk a b, fun k a => gl0 a, ?_, ?_, fun q => ?_⟩
      · rw [l_glad hj hT2 hT h3, if_pos (hPs.mp z), if_neg h1]
      · show v 0 8 ||| ((1 : Int32) <<< (nI s &&& 31)) = _
        rw [h8, show (0 : Int32) = nI 0 from rfl, or_bit (Nat.two_pow_pos s) (by omega), a, Nat.zero_add]
      · show v 0 9 + nI e = _
        rw [h9, show (0 : Int32) = nI 0 from rfl, nI_add, b, Nat.zero_add, Nat.mul_one]
      · rw [gl7]
        by_cases w : q = s
        · subst w
          have e : fstB P q = true := by unfold fstB; rw [z, h0]; rfl
          have hq1 : ¬ q + 1 ≤ q := by omega
          simp [e, hT2, hq1]
        · have e : ¬ (s ≤ q ∧ q < T ∧ fstB P q = true) := fun c => by
            obtain ⟨c1, c2, c3⟩ := c
            obtain ⟨-, -, g⟩ := fst_found z h0 (q - (s + 1))
            rw [show s + 1 + (q - (s + 1)) = q from by omega] at g
            unfold fstB at c3
            rw [Bool.and_eq_true] at c3
            have := of_decide_eq_true c3.2
            omega
          rw [if_neg w, if_neg e]
    · obtain ⟨w, f1, f2, f3, f4, f5, f6⟩ := ih (s + 1) n v (by omega) h3 h1 h8 h9 (by rw [cntP, if_neg z, h0]) (fun q a b => hP q (by omega) b) (by omega)
      refine ⟨w, ?_, f2, f3, f4, f5, fun q => ?_⟩
      · rw [l_glad hj hT2 hT h3, if_neg (fun a => z (hPs.mpr a)), f1]
      · rw [f6 q]
        by_cases w : q = s
        · subst w
          have e : fstB P q = false := by unfold fstB; rw [show P q = false by simpa using z]; rfl
          simp [e]
        · simp only [stepP w]
def mn99 (a e : Int32) : Int32 := if 99 < a + e then 99 else a + e
theorem mn_eq (x : Int32) : (if x < 99 then x else 99) = if 99 < x then 99 else x := by
  by_cases h1 : x < 99
  · rw [if_pos h1, if_neg (fun h => Int32.lt_irrefl (Int32.lt_trans h1 h))]
  · rw [if_neg h1]
    by_cases h2 : 99 < x
    · rw [if_pos h2]
    · rw [if_neg h2]
      exact Int32.le_antisymm (Int32.not_lt.mp h1) (Int32.not_lt.mp h2)
theorem l_lend {N T : Nat} (hT : T ≤ 6) : ∀ d s n v, s + d = T → v 0 3 = nI T → d < n → ∃ w, F_X5_lendPatience_L2 N n (nI s) v = some w ∧ (∀ k, ¬ k = 6 → w k = v k) ∧ ∀ q, w 6 q = (if s ≤ q ∧ q < T ∧ v 7 q = 0 then mn99 (v 6 q) (v 0 1) else v 6 q) := by
  intro d
  induction d with
  | zero =>
    intro s n v hs h3 hn
    obtain ⟨n, rfl⟩ : ∃ m, n = m + 1 := ⟨n - 1, by omega⟩
    refine ⟨v, ?_, fun _ _ => rfl, fun q => (if_neg (fun z => by have := z.1; have := z.2.1; omega)).symm⟩
    rw [F_X5_lendPatience_L2, h3, if_neg (nI_nlt (by omega) (by omega))]
  | succ d ih =>
    intro s n v hs h3 hn
    obtain ⟨n, rfl⟩ : ∃ m, n = m + 1 := ⟨n - 1, by omega⟩
    have hk1 : ∀ {β : Type} {o : Option β}, chk 6 (nI s) o = o := chk_in (by omega) (by decide)
    have c1 : (nI s).toNatClampNeg = s := nI_clamp (by omega)
    have hT2 : s < T := by omega
    have e : F_X5_lendPatience_L2 N (n + 1) (nI s) v = if v 7 s = 0 then F_X5_lendPatience_L2 N n (nI (s + 1)) (up2 v 6 s (mn99 (v 6 s) (v 0 1))) else F_X5_lendPatience_L2 N n (nI (s + 1)) v := by
      rw [F_X5_lendPatience_L2, h3, if_pos (nI_lt (by omega) (by omega)), nI_1]
      simp only [jn_eq, hk1, c1, mn_eq]
      rfl
    by_cases z : v 7 s = 0
    · obtain ⟨w, f1, f2, f3⟩ := ih (s + 1) n (up2 v 6 s (mn99 (v 6 s) (v 0 1))) (by omega) h3 (by omega)
      refine ⟨w, by rw [e, if_pos z, f1], fun k h => by rw [f2 k h, up2_k h], fun q => ?_⟩
      rw [f3 q]
      show (if s + 1 ≤ q ∧ q < T ∧ v 7 q = 0 then mn99 (upd (v 6) s (mn99 (v 6 s) (v 0 1)) q) (v 0 1) else upd (v 6) s (mn99 (v 6 s) (v 0 1)) q) = _
      by_cases w : q = s
      · subst w
        rw [upd_s]
        have hq1 : ¬ q + 1 ≤ q := by omega
        simp [z, hT2, hq1]
      · simp only [upd_n w, stepP w]
    · obtain ⟨w, f1, f2, f3⟩ := ih (s + 1) n v (by omega) h3 (by omega)
      refine ⟨w, by rw [e, if_neg z, f1], f2, fun q => ?_⟩
      rw [f3 q]
      by_cases w : q = s
      · subst w
        simp [z]
      · simp only [stepP w]
