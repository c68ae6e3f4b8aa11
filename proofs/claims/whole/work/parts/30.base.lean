/-! PURE: small laws of the option functions and of Int32 -/
theorem up2_k {v : SV} {k k' j : Nat} {x : Int32} (h : ¬ k' = k) : up2 v k j x k' = v k' := by unfold up2 upA; rw [if_neg h]
theorem up2_s {v : SV} {k j : Nat} {x : Int32} : up2 v k j x k j = x := by unfold up2 upA upd; simp
theorem up2_j {v : SV} {k j j' : Nat} {x : Int32} (h : ¬ j' = j) : up2 v k j x k j' = v k j' := by unfold up2 upA upd; simp [h]
theorem upA_k {v : SV} {k k' : Nat} {f : Nat → Int32} (h : ¬ k' = k) : upA v k f k' = v k' := by unfold upA; rw [if_neg h]
theorem upA_s {v : SV} {k : Nat} {f : Nat → Int32} : upA v k f k = f := by unfold upA; simp
theorem chk_in {β : Type} {n k : Nat} {o : Option β} (h : k < n) (hn : n < 2 ^ 31) : chk n (nI k) o = o := by
  unfold chk
  rw [if_neg (vp_in_nI h hn)]
theorem i64 (x : Int32) : x.toInt64.toInt = x.toInt := Int32.toInt_toInt64 x
theorem lgc_lt {a b : Int64} : lg_cmp a b < 0 ↔ a.toInt < b.toInt := by
  unfold lg_cmp
  by_cases h1 : a > b
  · rw [if_pos h1]
    have := Int64.lt_iff_toInt_lt.mp h1
    constructor
    · intro h; exact absurd h (by decide)
    · intro h; omega
  · rw [if_neg h1]
    by_cases h2 : a = b
    · rw [if_pos h2]
      subst h2
      constructor
      · intro h; exact absurd h (by decide)
      · intro h; omega
    · rw [if_neg h2]
      have h3 : ¬ b.toInt < a.toInt := fun h => h1 (Int64.lt_iff_toInt_lt.mpr h)
      have h4 : ¬ a.toInt = b.toInt := fun h => h2 (Int64.toInt_inj.mp h)
      constructor
      · intro _; omega
      · intro _; decide
theorem lgc_gt {a b : Int64} : 0 < lg_cmp a b ↔ b.toInt < a.toInt := by
  unfold lg_cmp
  by_cases h1 : a > b
  · rw [if_pos h1]
    have := Int64.lt_iff_toInt_lt.mp h1
    constructor
    · intro _; omega
    · intro _; decide
  · rw [if_neg h1]
    have h3 : ¬ b.toInt < a.toInt := fun h => h1 (Int64.lt_iff_toInt_lt.mpr h)
    by_cases h2 : a = b
    · rw [if_pos h2]
      constructor
      · intro h; exact absurd h (by decide)
      · intro h; exact absurd h h3
    · rw [if_neg h2]
      constructor
      · intro h; exact absurd h (by decide)
      · intro h; exact absurd h h3
theorem p_in (N : Nat) (a b c : Int64) : F_X8_in N a b c = some (if b.toInt ≤ a.toInt ∧ a.toInt ≤ c.toInt then 1 else 0) := by
  unfold F_X8_in
  by_cases h1 : a.toInt < b.toInt
  · rw [if_pos (lgc_lt.mpr h1), if_neg (by omega)]
  · rw [if_neg (fun h => h1 (lgc_lt.mp h))]
    by_cases h2 : c.toInt < a.toInt
    · rw [if_pos (lgc_gt.mpr h2), if_neg (by omega)]
    · rw [if_neg (fun h => h2 (lgc_gt.mp h)), if_pos (by omega)]
theorem p_inI (N : Nat) (x : Int32) (b c : Int64) : F_X8_in N x.toInt64 b c = some (if b.toInt ≤ x.toInt ∧ x.toInt ≤ c.toInt then 1 else 0) := by rw [p_in, i64]
theorem zr_one {β : Type} {o : Option β} : zr 1 o = o := by unfold zr; rw [if_pos (Or.inr rfl)]
theorem zr_zero {β : Type} {o : Option β} : zr 0 o = o := by unfold zr; rw [if_pos (Or.inl rfl)]
theorem row_ok (N : Nat) {j : Nat} (h : j < 8) : F_X3_isRow N (nI j) = some 1 ∧ F_X8_isRow N (nI j) = some 1 := by
  have e := nI_toInt (n := j) (by omega)
  constructor
  · unfold F_X3_isRow
    rw [if_neg (nI_pos (by omega)), if_pos (show nI j < 8 from nI_lt (b := 8) h (by decide))]
  · unfold F_X8_isRow
    rw [p_inI, if_pos ⟨by rw [e]; show (0 : Int) ≤ _; omega, by rw [e]; show _ ≤ (7 : Int); omega⟩]
    exact zr_one
theorem row_bad (N : Nat) {x : Int32} (h : x < 0 ∨ nI 8 ≤ x) : F_X3_isRow N x = some 0 ∧ F_X8_isRow N x = some 0 := by
  rcases h with h | h
  · have e := Int32.lt_iff_toInt_lt.mp h
    constructor
    · unfold F_X3_isRow
      rw [if_pos h]
    · unfold F_X8_isRow
      rw [p_inI, if_neg (fun q => by have h1 : (0 : Int) ≤ _ := q.1; have h2 : (0 : Int32).toInt = 0 := rfl; omega)]
      exact zr_zero
  · have e := Int32.le_iff_toInt_le.mp h
    have e8 : (nI 8).toInt = 8 := by decide
    have hz : (0 : Int32).toInt = 0 := rfl
    constructor
    · unfold F_X3_isRow
      rw [if_neg (fun q => by have := Int32.lt_iff_toInt_lt.mp q; omega), if_neg (fun q => by have h1 := Int32.lt_iff_toInt_lt.mp q; have h2 : (8 : Int32).toInt = 8 := rfl; omega)]
    · unfold F_X8_isRow
      rw [p_inI, if_neg (fun q => by have h1 : _ ≤ (7 : Int) := q.2; omega)]
      exact zr_zero
/-- what the rows are: lanes, sizes, items of the class; lanes, sizes, items of the model -/
def RRow (wl ws : Nat → Int32) (gW : SV) (ml ms mi : Nat → Int32) : Prop := (∀ r i, r < 8 → i < 40 → gW r i = mi (40 * r + i)) ∧ ∀ r, r < 8 → (wl r = -1 ∧ ws r = 0 ∧ ms r = -1) ∨ (∃ n la, n ≤ 40 ∧ la < 3 ∧ wl r = nI la ∧ ws r = nI n ∧ ms r = nI n ∧ ml r = nI la)
theorem nI_m1 {n : Nat} (h : n < 2 ^ 31) : ¬ nI n = -1 := fun e => by
  have := congrArg Int32.toInt e
  rw [nI_toInt h] at this
  have h2 : (-1 : Int32).toInt = -1 := rfl
  omega
theorem p_miss (N : Nat) {vW gW : SV} {ml ms mi : Nat → Int32} (h : RRow (vW 1) (vW 2) gW ml ms mi) {j : Nat} (hj : j < 8) : (vW 1 j = -1 ∧ vW 2 j = 0 ∧ ms j = -1 ∧ F_X3_isMissing N vW (nI j) = some 1) ∨ (∃ n la, n ≤ 40 ∧ la < 3 ∧ vW 1 j = nI la ∧ vW 2 j = nI n ∧ ms j = nI n ∧ ml j = nI la ∧ F_X3_isMissing N vW (nI j) = some 0) := by
  have e : F_X3_isMissing N vW (nI j) = if vW 1 j = -1 then some 1 else some 0 := by
    unfold F_X3_isMissing
    rw [chk_in hj (by decide), nI_clamp (by omega)]
  rcases h.2 j hj with ⟨a, b, c⟩ | ⟨n, la, h1, h2, h3, h4, h5, h6⟩
  · exact Or.inl ⟨a, b, c, by rw [e, if_pos a]⟩
  · exact Or.inr ⟨n, la, h1, h2, h3, h4, h5, h6, by rw [e, h3, if_neg (nI_m1 (by omega))]⟩
theorem upd_s {f : Nat → Int32} {k : Nat} {x : Int32} : upd f k x k = x := pk_us
theorem upd_n {f : Nat → Int32} {k j : Nat} {x : Int32} (h : ¬ j = k) : upd f k x j = f j := pk_un h
theorem RRow.gone {wl ws ml ms mi : Nat → Int32} {gW : SV} (h : RRow wl ws gW ml ms mi) (j : Nat) : RRow (upd wl j (-1)) (upd ws j 0) gW ml (upd ms j (-1)) mi := by
  refine ⟨h.1, fun r hr => ?_⟩
  by_cases e : r = j
  · subst e
    exact Or.inl ⟨upd_s, upd_s, upd_s⟩
  · rw [upd_n e, upd_n e, upd_n e]
    exact h.2 r hr
theorem RRow.made {wl ws ml ms mi mi' : Nat → Int32} {gW gW' : SV} (h : RRow wl ws gW ml ms mi) (hi : ∀ r i, r < 8 → i < 40 → gW' r i = mi' (40 * r + i)) {j n la : Nat} (hn : n ≤ 40) (hl : la < 3) : RRow (upd wl j (nI la)) (upd ws j (nI n)) gW' (upd ml j (nI la)) (upd ms j (nI n)) mi' := by
  refine ⟨hi, fun r hr => ?_⟩
  by_cases e : r = j
  · subst e
    exact Or.inr ⟨n, la, hn, hl, upd_s, upd_s, upd_s, upd_s⟩
  · rw [upd_n e, upd_n e, upd_n e, upd_n e]
    exact h.2 r hr
theorem RRow.items {wl ws ml ms mi mi' : Nat → Int32} {gW gW' : SV} (h : RRow wl ws gW ml ms mi) (hi : ∀ r i, r < 8 → i < 40 → gW' r i = mi' (40 * r + i)) : RRow wl ws gW' ml ms mi' := ⟨hi, h.2⟩
/-! the abstract show: (room, extra, tap, clapped), (kinds, labels, weights, joys, wants, patience, how), how many things, seats, the list -/
abbrev Sh : Type := (Nat → Int32) × (Nat → Nat → Int32) × Nat × Nat × List Nat
def RC (v : SV) (S : Sh) : Prop := v 0 0 = S.1 0 ∧ v 0 1 = S.1 1 ∧ v 0 2 = nI S.2.2.1 ∧ v 0 3 = nI S.2.2.2.1 ∧ v 0 4 = nI S.2.2.2.2.length ∧ v 0 5 = S.1 2 ∧ v 0 6 = S.1 3 ∧ (∀ i, i < S.2.2.1 → v 1 i = S.2.1 0 i ∧ v 2 i = S.2.1 1 i ∧ v 3 i = S.2.1 2 i ∧ v 4 i = S.2.1 3 i) ∧ (∀ i, i < S.2.2.2.1 → v 5 i = S.2.1 4 i ∧ v 6 i = S.2.1 5 i ∧ v 7 i = S.2.1 6 i) ∧ (∀ i, i < S.2.2.2.2.length → v 8 i = nI (S.2.2.2.2.getD i 0))
def RM (m : Nat → Int32) (S : Sh) : Prop := m 0 = S.1 0 ∧ m 1 = S.1 1 ∧ m 2 = nI S.2.2.1 ∧ m 3 = nI S.2.2.2.1 ∧ m 6 = nI S.2.2.2.2.length ∧ m 4 = S.1 2 ∧ m 5 = S.1 3 ∧ (∀ i, i < S.2.2.1 → m (7 + i) = S.2.1 0 i ∧ m (13 + i) = S.2.1 1 i ∧ m (19 + i) = S.2.1 2 i ∧ m (25 + i) = S.2.1 3 i) ∧ (∀ i, i < S.2.2.2.1 → m (37 + i) = S.2.1 4 i ∧ m (43 + i) = S.2.1 5 i ∧ m (49 + i) = S.2.1 6 i) ∧ (∀ i, i < S.2.2.2.2.length → m (31 + i) = nI (S.2.2.2.2.getD i 0))
def SInv (B : Nat) (S : Sh) : Prop := S.2.2.1 ≤ 6 ∧ S.2.2.2.1 ≤ 6 ∧ S.2.2.2.2.Nodup ∧ (∀ x ∈ S.2.2.2.2, x < S.2.2.1) ∧
  (∀ i, i < S.2.2.1 → (∃ k, 1 ≤ k ∧ k ≤ 5 ∧ S.2.1 0 i = nI k) ∧ (∃ k, k ≤ 9 ∧ S.2.1 1 i = nI k) ∧ (∃ k, 1 ≤ k ∧ k ≤ 20 ∧ S.2.1 2 i = nI k) ∧ (∃ k, k ≤ 9 ∧ S.2.1 3 i = nI k)) ∧
  (∀ i, i < S.2.2.2.1 → (∃ k, k ≤ 9 ∧ S.2.1 4 i = nI k) ∧ (∃ k, k ≤ 99 ∧ S.2.1 5 i = nI k) ∧ (∃ k, k ≤ 2 ∧ S.2.1 6 i = nI k) ∧ (S.2.1 6 i = 0 → ¬ S.2.1 5 i = 0)) ∧
  (∃ k, k ≤ 60 ∧ S.1 0 = nI k) ∧ (∃ k, k ≤ 9 ∧ S.1 1 = nI k) ∧ (∃ T C, S.1 2 = nI T ∧ S.1 3 = nI C ∧ T ≤ B ∧ C ≤ 54 * T)
def RStg (vS : SV) (isT : Int32) (st : Nat → Int32) : Prop := ∃ S : Sh, RC vS S ∧ RM st S ∧ SInv 999 S ∧ ((S.2.2.1 = 0 ∧ S.2.2.2.1 = 0 ∧ isT = 0) ∨ (0 < S.2.2.1 ∧ isT = 1))
def RAct (vA : SV) (gA : Nat → SV) (am : Int32) (acts : Nat → Int32) : Prop := ∃ f k, f < 24 ∧ k ≤ 24 ∧ vA 0 1 = nI f ∧ vA 0 2 = nI k ∧ am = nI k ∧ ∀ j, j < k → ∃ S : Sh, RC (gA ((f + 24 - k + j) % 24)) S ∧ RM (fun i => acts (55 * j + i)) S ∧ SInv 999 S ∧ 0 < S.2.2.1
def RIm (v : SV) (b : Int32) (st : Nat → Int32) : Prop := (v 0 2 = 0 ∧ b = 0) ∨ (b = 1 ∧ ∃ S : Sh, RC v S ∧ RM st S ∧ SInv 999 S ∧ 0 < S.2.2.1)
def RTape (vT : SV) (mb ml : Int32) (mt : Nat → Int32) : Prop := vT 0 3 = ml ∧ ∃ n, n ≤ 120 ∧ vT 0 1 = nI n ∧ mb = nI n ∧ ∀ i, i < n → vT 1 i = mt i ∧ ∃ c, c < 256 ∧ mt i = nI c
def RAsk (vK : SV) (mn : Int32) (mt : Nat → Int32) : Prop := ∃ n, n ≤ 16 ∧ vK 0 1 = nI n ∧ mn = nI n ∧ ∀ i, i < n → vK 1 i = mt i ∧ ∃ c, c < 100 ∧ mt i = nI c
/-- THE RELATION between the class's components and the model -/
def Rel : RelT := fun vR vW vT vS vD vA vI vJ vE vF vP vQ vK vM gW gA gL => RRow (vW 1) (vW 2) gW (vM 1) (vM 2) (vM 3) ∧ vR 0 10 = vM 0 3 ∧ RTape vT (vM 0 8) (vM 0 9) (vM 6) ∧ RStg vS (vM 0 4) (vM 4) ∧ RAct vA gA (vM 0 17) (vM 8) ∧ (RIm vI (vM 12 0) (fun i => vM 13 i) ∧ RIm vJ (vM 12 1) (fun i => vM 13 (55 + i))) ∧ RAsk vK (vM 0 24) (vM 14) ∧ (vM 0 4 = 0 → vM 0 17 = 0 ∧ vM 12 0 = 0 ∧ vM 12 1 = 0)
theorem rel_init (v vm : SV) (h1 : ∀ j, j < 8 → v 1 j = -1 ∧ v 2 j = 0) (h2 : ∀ k j, ¬ k = 2 → vm k j = 0) (h3 : ∀ j, j < 8 → vm 2 j = -1) : Rel zSV v zSV zSV zSV zSV zSV zSV zSV zSV zSV zSV zSV vm zSV (fun _ => zSV) (fun _ => zSV) := by
  have z : ∀ k j, ¬ k = 2 → vm k j = nI 0 := h2
  refine ⟨⟨fun r i _ _ => (h2 3 _ (by decide)).symm, fun r hr => Or.inl ⟨(h1 r hr).1, (h1 r hr).2, h3 r hr⟩⟩, (h2 0 3 (by decide)).symm, ⟨(h2 0 9 (by decide)).symm, 0, by omega, rfl, z 0 8 (by decide), fun i hi => absurd hi (by omega)⟩, ?_, ⟨0, 0, by decide, by decide, rfl, rfl, z 0 17 (by decide), fun j hj => absurd hj (by omega)⟩, ⟨Or.inl ⟨rfl, h2 12 0 (by decide)⟩, Or.inl ⟨rfl, h2 12 1 (by decide)⟩⟩, ⟨0, by omega, rfl, z 0 24 (by decide), fun i hi => absurd hi (by omega)⟩, fun _ => ⟨h2 0 17 (by decide), h2 12 0 (by decide), h2 12 1 (by decide)⟩⟩
  refine ⟨(fun _ => 0, fun _ _ => 0, 0, 0, []), ?_, ?_, ?_, Or.inl ⟨rfl, rfl, h2 0 4 (by decide)⟩⟩
  · exact ⟨rfl, rfl, rfl, rfl, rfl, rfl, rfl, fun i hi => absurd hi (Nat.not_lt_zero i), fun i hi => absurd hi (Nat.not_lt_zero i), fun i hi => absurd hi (Nat.not_lt_zero i)⟩
  · exact ⟨h2 4 0 (by decide), h2 4 1 (by decide), h2 4 2 (by decide), h2 4 3 (by decide), h2 4 6 (by decide), h2 4 4 (by decide), h2 4 5 (by decide), fun i hi => absurd hi (Nat.not_lt_zero i), fun i hi => absurd hi (Nat.not_lt_zero i), fun i hi => absurd hi (Nat.not_lt_zero i)⟩
  · exact ⟨by decide, by decide, List.nodup_nil, fun x hx => absurd hx List.not_mem_nil, fun i hi => absurd hi (Nat.not_lt_zero i), fun i hi => absurd hi (Nat.not_lt_zero i), ⟨0, by decide, rfl⟩, ⟨0, by decide, rfl⟩, 0, 0, rfl, rfl, by decide, by decide⟩
