/-! pack -/
theorem bc_tab : ∀ m, m < 64 → F_J6_bitCount_0f7a4 0 (nI m) = some (nI (popc m)) := by decide +kernel
theorem p_bc (N : Nat) {m : Nat} (hm : m < 64) : F_J6_bitCount_0f7a4 N (nI m) = some (nI (popc m)) := bc_tab m hm
theorem l_sumJ {N : Nat} {v vM : SV} {S : Sh} {B : Nat} {x : Int32} (hc : RC v S) (hm : RM (vM 4) S) (hi : SInv B S) : ∀ d s n n2 a, s + d = S.2.2.1 → d < n → d < n2 → a ≤ 9 * s → ∃ k, k ≤ 54 ∧ F_X5_sumOver_j_L5 N v x n (nI a) (nI s) = some (nI k) ∧ F_X8_sumOf_L5 N vM 25 x n2 (nI a) (nI s) = some (nI k) := by
  have h1 := hi.1
  intro d
  induction d with
  | zero =>
    intro s n n2 a hs hn hn2 ha
    obtain ⟨n, rfl⟩ : ∃ m, n = m + 1 := ⟨n - 1, by omega⟩
    obtain ⟨n2, rfl⟩ : ∃ m, n2 = m + 1 := ⟨n2 - 1, by omega⟩
    refine ⟨a, by omega, ?_, ?_⟩
    · rw [F_X5_sumOver_j_L5, hc.2.2.1, if_neg (nI_nlt (by omega) (by omega))]
    · rw [F_X8_sumOf_L5, k2, t2, hm.2.2.1, if_neg (nI_nlt (by omega) (by omega))]
  | succ d ih =>
    intro s n n2 a hs hn hn2 ha
    obtain ⟨n, rfl⟩ : ∃ m, n = m + 1 := ⟨n - 1, by omega⟩
    obtain ⟨n2, rfl⟩ : ∃ m, n2 = m + 1 := ⟨n2 - 1, by omega⟩
    have hsT : s < S.2.2.1 := by omega
    obtain ⟨-, -, -, y, y1, y2⟩ := hi.2.2.2.2.1 s hsT
    obtain ⟨-, -, -, b4⟩ := hc.2.2.2.2.2.2.2.1 s hsT
    obtain ⟨-, -, -, m4⟩ := hm.2.2.2.2.2.2.2.1 s hsT
    rw [y2] at b4 m4
    have hlt : nI s < nI S.2.2.1 := nI_lt hsT (by omega)
    have e5 : F_X5_sumOver_j_L5 N v x (n + 1) (nI a) (nI s) = if ((x >>> (nI s &&& 31)) &&& (1 : Int32)) = 1 then F_X5_sumOver_j_L5 N v x n (nI (a + y)) (nI (s + 1)) else F_X5_sumOver_j_L5 N v x n (nI a) (nI (s + 1)) := by
      rw [F_X5_sumOver_j_L5, hc.2.2.1, if_pos hlt, if_pos (show nI s < (6 : Int32) from nI_lt (b := 6) (by omega) (by decide)), nI_1]
      simp only [jn_eq]
      rw [chk_in (n := 6) (k := s) (by omega) (by decide), nI_clamp (by omega), b4, nI_add]
    have e8 : F_X8_sumOf_L5 N vM 25 x (n2 + 1) (nI a) (nI s) = if ((x >>> (nI s &&& 31)) &&& (1 : Int32)) = 1 then F_X8_sumOf_L5 N vM 25 x n2 (nI (a + y)) (nI (s + 1)) else F_X8_sumOf_L5 N vM 25 x n2 (nI a) (nI (s + 1)) := by
      rw [F_X8_sumOf_L5, k2, t2, hm.2.2.1, if_pos hlt, nI_1]
      unfold F_X8_has
      simp only [jn_eq]
      rw [show (25 : Int32) + nI s = nI (25 + s) from nI_add 25 s, chk_in (n := 55) (k := 25 + s) (by omega) (by decide), nI_clamp (by omega), m4, nI_add]
      by_cases z : ((x >>> (nI s &&& 31)) &&& (1 : Int32)) = 1
      · rw [if_pos z, if_pos z, bs, if_neg one0]
      · rw [if_neg z, if_neg z, bs, if_pos rfl, show nI a + (0 : Int32) = nI a from Int32.add_zero _]
    rw [e5, e8]
    by_cases z : ((x >>> (nI s &&& 31)) &&& (1 : Int32)) = 1
    · rw [if_pos z, if_pos z]
      exact ih (s + 1) n n2 (a + y) (by omega) (by omega) (by omega) (by omega)
    · rw [if_neg z, if_neg z]
      exact ih (s + 1) n n2 a (by omega) (by omega) (by omega) (by omega)
theorem l_sumW {N : Nat} {v vM : SV} {S : Sh} {B : Nat} {x : Int32} (hc : RC v S) (hm : RM (vM 4) S) (hi : SInv B S) : ∀ d s n n2 a, s + d = S.2.2.1 → d < n → d < n2 → ∃ k, F_X5_sumOver_w_L5 N v x n a (nI s) = some k ∧ F_X8_sumOf_L5 N vM 19 x n2 a (nI s) = some k := by
  have h1 := hi.1
  intro d
  induction d with
  | zero =>
    intro s n n2 a hs hn hn2
    obtain ⟨n, rfl⟩ : ∃ m, n = m + 1 := ⟨n - 1, by omega⟩
    obtain ⟨n2, rfl⟩ : ∃ m, n2 = m + 1 := ⟨n2 - 1, by omega⟩
    refine ⟨a, ?_, ?_⟩
    · rw [F_X5_sumOver_w_L5, hc.2.2.1, if_neg (nI_nlt (by omega) (by omega))]
    · rw [F_X8_sumOf_L5, k2, t2, hm.2.2.1, if_neg (nI_nlt (by omega) (by omega))]
  | succ d ih =>
    intro s n n2 a hs hn hn2
    obtain ⟨n, rfl⟩ : ∃ m, n = m + 1 := ⟨n - 1, by omega⟩
    obtain ⟨n2, rfl⟩ : ∃ m, n2 = m + 1 := ⟨n2 - 1, by omega⟩
    have hsT : s < S.2.2.1 := by omega
    obtain ⟨-, -, b4, -⟩ := hc.2.2.2.2.2.2.2.1 s hsT
    obtain ⟨-, -, m4, -⟩ := hm.2.2.2.2.2.2.2.1 s hsT
    have hlt : nI s < nI S.2.2.1 := nI_lt hsT (by omega)
    have e5 : F_X5_sumOver_w_L5 N v x (n + 1) a (nI s) = if ((x >>> (nI s &&& 31)) &&& (1 : Int32)) = 1 then F_X5_sumOver_w_L5 N v x n (a + S.2.1 2 s) (nI (s + 1)) else F_X5_sumOver_w_L5 N v x n a (nI (s + 1)) := by
      rw [F_X5_sumOver_w_L5, hc.2.2.1, if_pos hlt, if_pos (show nI s < (6 : Int32) from nI_lt (b := 6) (by omega) (by decide)), nI_1]
      simp only [jn_eq]
      rw [chk_in (n := 6) (k := s) (by omega) (by decide), nI_clamp (by omega), b4]
    have e8 : F_X8_sumOf_L5 N vM 19 x (n2 + 1) a (nI s) = if ((x >>> (nI s &&& 31)) &&& (1 : Int32)) = 1 then F_X8_sumOf_L5 N vM 19 x n2 (a + S.2.1 2 s) (nI (s + 1)) else F_X8_sumOf_L5 N vM 19 x n2 a (nI (s + 1)) := by
      rw [F_X8_sumOf_L5, k2, t2, hm.2.2.1, if_pos hlt, nI_1]
      unfold F_X8_has
      simp only [jn_eq]
      rw [show (19 : Int32) + nI s = nI (19 + s) from nI_add 19 s, chk_in (n := 55) (k := 19 + s) (by omega) (by decide), nI_clamp (by omega), m4]
      by_cases z : ((x >>> (nI s &&& 31)) &&& (1 : Int32)) = 1
      · rw [if_pos z, if_pos z, bs, if_neg one0]
      · rw [if_neg z, if_neg z, bs, if_pos rfl, show a + (0 : Int32) = a from Int32.add_zero _]
    rw [e5, e8]
    by_cases z : ((x >>> (nI s &&& 31)) &&& (1 : Int32)) = 1
    · rw [if_pos z, if_pos z]
      exact ih (s + 1) n n2 _ (by omega) (by omega) (by omega)
    · rw [if_neg z, if_neg z]
      exact ih (s + 1) n n2 _ (by omega) (by omega) (by omega)
theorem p_sumJ {N : Nat} (hN : 3000 ≤ N) {v vM : SV} {S : Sh} {B : Nat} (hc : RC v S) (hm : RM (vM 4) S) (hi : SInv B S) (x : Int32) : ∃ k, k ≤ 54 ∧ F_X5_sumOver_j N v x = some (nI k) ∧ F_X8_sumOf N vM 25 x = some (nI k) := by
  have h1 := hi.1
  exact l_sumJ hc hm hi S.2.2.1 0 N N 0 (by omega) (by omega) (by omega) (by omega)
theorem p_sumW {N : Nat} (hN : 3000 ≤ N) {v vM : SV} {S : Sh} {B : Nat} (hc : RC v S) (hm : RM (vM 4) S) (hi : SInv B S) (x : Int32) : ∃ k, F_X5_sumOver_w N v x = some k ∧ F_X8_sumOf N vM 19 x = some k := by
  have h1 := hi.1
  exact l_sumW hc hm hi S.2.2.1 0 N N 0 (by omega) (by omega) (by omega)
theorem pow6 {T : Nat} (h : T ≤ 6) : 2 ^ T ≤ 64 := Nat.le_trans (Nat.pow_le_pow_right (by decide) h) (by decide)
theorem l_pack {N : Nat} (hN : 3000 ≤ N) {vS vP vM : SV} {S : Sh} {B : Nat} {x1 : Int32} (hc : RC vS S) (hm : RM (vM 4) S) (hi : SInv B S) : ∀ d s n n2 b, s + d = 2 ^ S.2.2.1 → b < 64 → d < n → d < n2 → ∃ y, y < 64 ∧ F_X2_bestPack_L4 N vS vP n (nI b) (nI s) = some (nI y) ∧ ∀ K, F_X8_pack_L24 N vM x1 K n2 (nI b) (nI s) = K (nI y) := by
  have h1 := hi.1
  have h64 := pow6 h1
  have esh : (1 : Int32) <<< (nI S.2.2.1 &&& 31) = nI (2 ^ S.2.2.1) := sh1 _ (by omega)
  intro d
  induction d with
  | zero =>
    intro s n n2 b hs hb hn hn2
    obtain ⟨n, rfl⟩ : ∃ m, n = m + 1 := ⟨n - 1, by omega⟩
    obtain ⟨n2, rfl⟩ : ∃ m, n2 = m + 1 := ⟨n2 - 1, by omega⟩
    refine ⟨b, hb, ?_, fun K => ?_⟩
    · rw [F_X2_bestPack_L4, hc.2.2.1, esh, if_neg (nI_nlt (by omega) (by omega))]
    · rw [F_X8_pack_L24, k2, t2, hm.2.2.1, esh, if_neg (nI_nlt (by omega) (by omega))]
  | succ d ih =>
    intro s n n2 b hs hb hn hn2
    obtain ⟨n, rfl⟩ : ∃ m, n = m + 1 := ⟨n - 1, by omega⟩
    obtain ⟨n2, rfl⟩ : ∃ m, n2 = m + 1 := ⟨n2 - 1, by omega⟩
    have hs64 : s < 64 := by omega
    obtain ⟨kw, w1, w2⟩ := p_sumW hN hc hm hi (nI s)
    obtain ⟨kj, j0, j1, j2⟩ := p_sumJ hN hc hm hi (nI s)
    obtain ⟨kb, b0, b1, b2⟩ := p_sumJ hN hc hm hi (nI b)
    have hp1 := popc_le s
    have hp2 := popc_le b
    have hlt : nI s < nI (2 ^ S.2.2.1) := nI_lt (by omega) (by omega)
    have k0 : ∀ {β : Type} {o : Option β}, chk 55 (0 : Int32) o = o := chk_dec (by decide)
    have t0 : (0 : Int32).toNatClampNeg = 0 := rfl
    have ep : F_X2_isBetterPack N vS (nI s) (nI b) = some (if kb < kj ∨ (kj = kb ∧ popc s < popc b) then 1 else 0) := by
      unfold F_X2_isBetterPack
      rw [j1, bs, b1, bs, p_bc N hs64, bs, p_bc N hb, bs]
      by_cases z : kj = kb
      · rw [if_pos (by rw [z])]
        by_cases y : popc s < popc b
        · rw [if_pos (nI_lt y (by omega)), if_pos (Or.inr (And.intro z y))]
        · rw [if_neg (nI_nlt (by omega) (by omega)), if_neg (by omega)]
      · rw [if_neg (fun q => z ((nI_eq (by omega) (by omega)).mp q))]
        by_cases y : kb < kj
        · rw [if_pos (nI_lt y (by omega)), if_pos (Or.inl y)]
        · rw [if_neg (nI_nlt (by omega) (by omega)), if_neg (by omega)]
    have e5 : F_X2_bestPack_L4 N vS vP (n + 1) (nI b) (nI s) = F_X2_bestPack_L4 N vS vP n (nI (if ¬ S.1 0 < kw ∧ (kb < kj ∨ (kj = kb ∧ popc s < popc b)) then s else b)) (nI (s + 1)) := by
      rw [F_X2_bestPack_L4, hc.2.2.1, esh, if_pos hlt, w1, bs, hc.1, nI_1]
      simp only [jn_eq]
      rw [ep, bs]
      by_cases z : S.1 0 < kw
      · rw [if_pos z, if_neg (fun q => q.1 z)]
      · rw [if_neg z]
        by_cases y : kb < kj ∨ (kj = kb ∧ popc s < popc b)
        · rw [if_pos y, if_neg one0, if_pos (And.intro z y)]
        · rw [if_neg y, if_pos rfl, if_neg (fun q => y q.2)]
    have e8 : ∀ K, F_X8_pack_L24 N vM x1 K (n2 + 1) (nI b) (nI s) = F_X8_pack_L24 N vM x1 K n2 (nI (if ¬ S.1 0 < kw ∧ (kb < kj ∨ (kj = kb ∧ popc s < popc b)) then s else b)) (nI (s + 1)) := fun K => by
      rw [F_X8_pack_L24, k2, t2, hm.2.2.1, esh, if_pos hlt, j2, bs, b2, bs, w2, bs, k0, t0, hm.1, nI_1]
      simp only [jn_eq]
      rw [p_ones hN hs64, bs, p_ones hN hb, bs]
      by_cases z : S.1 0 < kw
      · rw [if_pos z, if_neg (fun (q : ¬ S.1 0 < kw ∧ (kb < kj ∨ (kj = kb ∧ popc s < popc b))) => q.1 z)]
      · rw [if_neg z]
        rcases Nat.lt_trichotomy kb kj with y | y | y
        · rw [pk_sub (by omega), if_pos (show (0 : Int32) < _ from nI_lt (a := 0) (by omega) (by omega)), if_pos (And.intro z (Or.inl y))]
        · rw [pk_sub (by omega), show kj - kb = 0 from by omega, if_neg (by decide), if_pos (show nI 0 = 0 from rfl)]
          by_cases u : popc s < popc b
          · rw [if_pos (nI_lt u (by omega)), if_pos (And.intro z (Or.inr (And.intro y.symm u)))]
          · rw [if_neg (nI_nlt (by omega) (by omega)), if_neg (fun q => by have := q.2; omega)]
        · have hneg := pk_sneg (a := kj) (b := kb) (by omega) y
          rw [if_neg (fun q => Int32.lt_irrefl (Int32.lt_trans hneg q)), if_neg (fun q => by rw [q] at hneg; exact absurd hneg (by decide)), if_neg (fun q => by have := q.2; omega)]
    obtain ⟨y, y1, y2, y3⟩ := ih (s + 1) n n2 (if ¬ S.1 0 < kw ∧ (kb < kj ∨ (kj = kb ∧ popc s < popc b)) then s else b) (by omega) (by
      by_cases q : ¬ S.1 0 < kw ∧ (kb < kj ∨ (kj = kb ∧ popc s < popc b))
      · rw [if_pos q]; exact hs64
      · rw [if_neg q]; exact hb) (by omega) (by omega)
    exact ⟨y, y1, by rw [e5, y2], fun K => by rw [e8, y3]⟩
theorem st_pack {N : Nat} (hN : 3000 ≤ N) : St_pack N Rel := by
  intro vR vW vT vS vD vA vI vJ vE vF vP vQ vK vM gW gA gL x1 hrel
  obtain ⟨S, hc, hm, hi, hs⟩ := hrel.2.2.2.1
  have h1 := hi.1
  have h64 := pow6 h1
  rcases no_show (N := N) (vR := vR) hc hi.1 hs with ⟨a, b⟩ | ⟨a, b, -⟩
  · exact ⟨-1000002, -1000002, by unfold F_X7_pack; rw [a]; rfl, by unfold F_X8_pack; rw [b]; rfl, rfl, hrel⟩
  rcases rgW (N := N) x1 with ⟨c, d⟩ | ⟨c, d, e⟩ | ⟨n, -, -, c, d, e⟩
  · exact ⟨-1000001, -1000001, by unfold F_X7_pack; rw [a, bs, if_pos rfl, if_pos c], by unfold F_X8_pack; rw [b, if_neg one0, d]; rfl, rfl, hrel⟩
  · exact ⟨-1000001, -1000001, by unfold F_X7_pack; rw [a, bs, if_pos rfl, if_neg c, if_pos d], by unfold F_X8_pack; rw [b, if_neg one0, e]; rfl, rfl, hrel⟩
  have hp := Nat.two_pow_pos S.2.2.1
  obtain ⟨y, y0, y1, y2⟩ := l_pack (vP := vP) (x1 := x1) hN hc hm hi (2 ^ S.2.2.1 - 1) 1 N N 0 (by omega) (by omega) (by omega) (by omega)
  obtain ⟨k, k0, k1, k2⟩ := p_sumJ hN hc hm hi (nI y)
  refine ⟨if x1 = 0 then nI y else nI k, _, ?_, ?_, rfl, hrel⟩
  · unfold F_X7_pack F_X2_bestPack
    rw [a, bs, if_pos rfl, if_neg c, if_neg d, show F_X2_bestPack_L4 N vS vP N (0 : Int32) (1 : Int32) = some (nI y) from y1, bs, k1]
    by_cases z : x1 = 0
    · rw [if_pos z, if_pos z]
    · rw [if_neg z, if_neg z]; rfl
  · unfold F_X8_pack
    rw [b, if_neg one0, e, bs, if_neg one0, show ∀ K, F_X8_pack_L24 N vM x1 K N (0 : Int32) (1 : Int32) = K (nI y) from y2, k2]
    by_cases z : x1 = 0
    · rw [if_pos z, if_pos z]
    · rw [if_neg z, if_neg z]; rfl
