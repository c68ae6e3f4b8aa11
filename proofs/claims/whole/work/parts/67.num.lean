/-! show: numbers -/
def TcAt (n : Nat) (ch : Nat → Nat) (fl : Int32) (vT : SV) (a : Nat) : Prop := vT 0 1 = nI n ∧ vT 0 2 = nI a ∧ vT 0 3 = fl ∧ ∀ i, i < n → vT 1 i = nI (ch i)
def TmAt (n : Nat) (ch : Nat → Nat) (v : SV) (a : Nat) : Prop := v 0 8 = nI n ∧ (∀ i, i < n → v 6 i = nI (ch i)) ∧ a ≤ n ∧ TkAt n ch v a
def Oth (v w : SV) : Prop := (∀ k, ¬ k = 0 → ¬ k = 7 → w k = v k) ∧ ∀ j, (j < 10 ∨ 15 ≤ j) → w 0 j = v 0 j
def FailR (vT v : SV) : Prop := vT 0 3 = v 0 14 ∧ vT 0 4 = v 0 13
theorem Oth_tr {u v w : SV} (a : Oth u v) (b : Oth v w) : Oth u w := ⟨fun k h h7 => (b.1 k h h7).trans (a.1 k h h7), fun j h => (b.2 j h).trans (a.2 j h)⟩
theorem Oth_s {v w : SV} (h : sameT v w) : Oth v w := ⟨fun k h0 _ => h.1 k h0, fun j hj => h.2 j (by omega)⟩
theorem Oth_14 {v : SV} {x : Int32} : Oth v (up2 v 0 14 x) := ⟨fun k h0 _ => up2_k h0, fun j hj => up2_j (by omega)⟩
theorem Oth_7 {v : SV} {f : Nat → Int32} : Oth v (upA v 7 f) := ⟨fun k _ h7 => upA_k h7, fun j _ => by rw [upA_k (by decide)]⟩
theorem p_here (N : Nat) {n a : Nat} {ch : Nat → Nat} {fl : Int32} {vT : SV} (hn : n ≤ 120) (ha : a ≤ n) (h : TcAt n ch fl vT a) : F_X6_here N vT = some (if a < n then nI (ch a) else -1) := by
  unfold F_X6_here
  rw [h.1, h.2.1]
  by_cases z : a < n
  · rw [if_pos z, if_pos (nI_lt z (by omega)), chk_in (by omega) (by decide), nI_clamp (by omega), h.2.2.2 a z]
  · rw [if_neg z, if_neg (nI_nlt (by omega) (by omega))]
theorem p_fig (N : Nat) {n i : Nat} {ch : Nat → Nat} {vT : SV} (hn : n ≤ 120) (hi : i ≤ 200) (hch : ∀ i, i < n → ch i < 256) (h1 : vT 0 1 = nI n) (hb : ∀ i, i < n → vT 1 i = nI (ch i)) : F_X6_isFigure N vT (nI i) = some (if dg n ch i = true then 1 else 0) := by
  unfold F_X6_isFigure
  rw [if_neg (nI_pos (by omega)), h1]
  by_cases z : i < n
  · have hc := hch i z
    have hk : ∀ {β : Type} {o : Option β}, chk 120 (nI i) o = o := chk_in (by omega) (by decide)
    rw [if_pos (nI_lt z (by omega)), hk, hk, nI_clamp (by omega), hb i z]
    by_cases y1 : ch i < 48
    · rw [if_pos (show nI (ch i) < 48 from nI_lt (b := 48) y1 (by decide)), if_neg (fun q => by have := dg_t.mp q; omega)]
    · rw [if_neg (show ¬ nI (ch i) < 48 from nI_nlt (b := 48) (by omega) (by omega))]
      by_cases y2 : 57 < ch i
      · rw [if_pos (show (57 : Int32) < nI (ch i) from nI_lt (a := 57) y2 (by omega)), if_neg (fun q => by have := dg_t.mp q; omega)]
      · rw [if_neg (show ¬ (57 : Int32) < nI (ch i) from nI_nlt (a := 57) (by omega) (by decide)), if_pos (dg_t.mpr (by omega))]
  · rw [if_neg (nI_nlt (by omega) (by omega)), if_neg (fun q => z (dg_t.mp q).1)]
theorem l6 {N n a k m : Nat} {ch : Nat → Nat} {fl : Int32} {vT : SV} {x1 x2 x3 y : Int32} {K : Int32 → Int32 → Option (Int32 × SV)} (hn : n ≤ 120) (hch : ∀ i, i < n → ch i < 256) (ha : a ≤ n) (h : TcAt n ch fl vT a) (hk : k ≤ 3) : F_X6_readNumber_L6 N vT x1 x2 x3 K (m + 1) (nI k) y = if 2 < k then K (nI k) y else if dg n ch (a + k) = true then F_X6_readNumber_L6 N vT x1 x2 x3 K m (nI (k + 1)) ((y * 10 + nI (ch (a + k))) - 48) else K (nI k) y := by
  rw [F_X6_readNumber_L6]
  by_cases z : 2 < k
  · rw [if_pos z, if_pos (show (2 : Int32) < nI k from nI_lt (a := 2) z (by omega))]
  · rw [if_neg z, if_neg (show ¬ (2 : Int32) < nI k from nI_nlt (a := 2) (by omega) (by decide)), h.2.1, nI_add, p_fig N hn (by omega) hch h.1 h.2.2.2, bs, nI_1]
    by_cases y : dg n ch (a + k) = true
    · have hlt := (dg_t.mp y).1
      rw [if_pos y, if_pos y, if_neg one0, chk_in (by omega) (by decide), nI_clamp (by omega), h.2.2.2 _ hlt]
    · rw [if_neg y, if_neg y, if_pos rfl]
theorem l_numC {N n a : Nat} (hN : 3000 ≤ N) {ch : Nat → Nat} {fl : Int32} {vT : SV} {x1 x2 x3 : Int32} (hn : n ≤ 120) (hch : ∀ i, i < n → ch i < 256) (ha : a ≤ n) (h : TcAt n ch fl vT a) : ∃ y, (∀ K, F_X6_readNumber_L6 N vT x1 x2 x3 K N (0 : Int32) (0 : Int32) = K (nI (numL n ch a)) y) ∧ (numL n ch a = 1 ∨ numL n ch a = 2 → y = nI (numV n ch a)) := by
  obtain ⟨M, rfl⟩ : ∃ k, N = k + 4 := ⟨N - 4, by omega⟩
  have e0 : ∀ K, F_X6_readNumber_L6 (M + 4) vT x1 x2 x3 K (M + 4) (0 : Int32) (0 : Int32) = F_X6_readNumber_L6 (M + 4) vT x1 x2 x3 K (M + 3 + 1) (nI 0) (0 : Int32) := fun K => rfl
  by_cases d0 : dg n ch a = true
  · obtain ⟨q0, q1, q2⟩ := dg_t.mp d0
    have v0 : ((0 : Int32) * 10 + nI (ch (a + 0))) - 48 = nI (ch a - 48) := by
      rw [show (0 : Int32) * 10 = nI 0 from rfl, nI_add, Nat.zero_add, show (48 : Int32) = nI 48 from rfl, Nat.add_zero, pk_sub q1]
    have s0 : ∀ K, F_X6_readNumber_L6 (M + 4) vT x1 x2 x3 K (M + 4) (0 : Int32) (0 : Int32) = F_X6_readNumber_L6 (M + 4) vT x1 x2 x3 K (M + 2 + 1) (nI 1) (nI (ch a - 48)) := fun K => by
      rw [e0, l6 hn hch ha h (by omega), if_neg (by omega), if_pos (show dg n ch (a + 0) = true from d0), v0]
    by_cases d1 : dg n ch (a + 1) = true
    · obtain ⟨q3, q4, q5⟩ := dg_t.mp d1
      have v1 : (nI (ch a - 48) * 10 + nI (ch (a + 1))) - 48 = nI (10 * (ch a - 48) + (ch (a + 1) - 48)) := by
        rw [show (10 : Int32) = nI 10 from rfl, pk_mul, nI_add, show (48 : Int32) = nI 48 from rfl, pk_sub (by omega)]
        congr 1
        omega
      have s1 : ∀ K, F_X6_readNumber_L6 (M + 4) vT x1 x2 x3 K (M + 4) (0 : Int32) (0 : Int32) = F_X6_readNumber_L6 (M + 4) vT x1 x2 x3 K (M + 1 + 1) (nI 2) (nI (10 * (ch a - 48) + (ch (a + 1) - 48))) := fun K => by
        rw [s0, l6 hn hch ha h (by omega), if_neg (by omega), if_pos d1, v1]
      by_cases d2 : dg n ch (a + 2) = true
      · refine ⟨(nI (10 * (ch a - 48) + (ch (a + 1) - 48)) * 10 + nI (ch (a + 2))) - 48, fun K => ?_, fun z => ?_⟩
        · rw [s1, l6 hn hch ha h (by omega), if_neg (by omega), if_pos d2, l6 hn hch ha h (by omega), if_pos (by omega)]
          unfold numL
          rw [if_pos d0, if_pos d1, if_pos d2]
        · unfold numL at z
          rw [if_pos d0, if_pos d1, if_pos d2] at z
          omega
      · refine ⟨nI (10 * (ch a - 48) + (ch (a + 1) - 48)), fun K => ?_, fun z => ?_⟩
        · rw [s1, l6 hn hch ha h (by omega), if_neg (by omega), if_neg d2]
          unfold numL
          rw [if_pos d0, if_pos d1, if_neg d2]
        · unfold numV
          rw [if_pos d1]
    · refine ⟨nI (ch a - 48), fun K => ?_, fun z => ?_⟩
      · rw [s0, l6 hn hch ha h (by omega), if_neg (by omega), if_neg d1]
        unfold numL
        rw [if_pos d0, if_neg d1]
      · unfold numV
        rw [if_neg d1]
  · refine ⟨0, fun K => ?_, fun z => ?_⟩
    · rw [e0, l6 hn hch ha h (by omega), if_neg (by omega), if_neg (show ¬ dg n ch (a + 0) = true from d0)]
      unfold numL
      rw [if_neg d0]
    · unfold numL at z
      rw [if_neg d0] at z
      omega
theorem num_end {n a : Nat} {ch : Nat → Nat} : (numL n ch a = 1 → a + 1 ≤ n) ∧ (numL n ch a = 2 → a + 2 ≤ n) := by
  unfold numL
  by_cases d0 : dg n ch a = true
  · have := (dg_t.mp d0).1
    rw [if_pos d0]
    by_cases d1 : dg n ch (a + 1) = true
    · have := (dg_t.mp d1).1
      rw [if_pos d1]
      by_cases d2 : dg n ch (a + 2) = true
      · rw [if_pos d2]; omega
      · rw [if_neg d2]; omega
    · rw [if_neg d1]; omega
  · rw [if_neg d0]; omega
theorem numL_le {n a : Nat} {ch : Nat → Nat} : numL n ch a ≤ 3 := by
  unfold numL
  repeat' split
  all_goals omega
theorem numV_lt {n a : Nat} {ch : Nat → Nat} (h : numL n ch a = 1 ∨ numL n ch a = 2) : numV n ch a ≤ 99 := by
  unfold numL at h
  unfold numV
  by_cases d0 : dg n ch a = true
  · have := dg_t.mp d0
    by_cases d1 : dg n ch (a + 1) = true
    · have := dg_t.mp d1
      rw [if_pos d1]; omega
    · rw [if_neg d1]; omega
  · rw [if_neg d0] at h; omega
theorem p_num {N n a lo hi c idx : Nat} (hN : 3000 ≤ N) {ch : Nat → Nat} {fl : Int32} {vT v : SV} (hn : n ≤ 120) (hch : ∀ i, i < n → ch i < 256) (hT : TcAt n ch fl vT a) (hM : TmAt n ch v a) (hlh : lo ≤ hi ∧ hi ≤ 99) (hc : c = 44 ∨ c = 59) (hidx : idx < 55) : (∃ vT' w, F_X6_readNumber N vT (nI lo) (nI hi) (nI c) = some (-1, vT') ∧ F_X8_takesNumber N v (nI lo) (nI hi) (nI idx) (nI c) = some (0, w) ∧ FailR vT' w ∧ Oth v w) ∨ (∃ x b vT' w, lo ≤ x ∧ x ≤ hi ∧ a < b ∧ b ≤ n ∧ F_X6_readNumber N vT (nI lo) (nI hi) (nI c) = some (nI x, vT') ∧ F_X8_takesNumber N v (nI lo) (nI hi) (nI idx) (nI c) = some (1, w) ∧ TcAt n ch fl vT' b ∧ TmAt n ch w b ∧ Oth v w ∧ w 7 = upd (v 7) idx (nI x)) := by
  obtain ⟨m8, m6, man, hk⟩ := hM
  obtain ⟨y, y1, y2⟩ := l_numC (x1 := nI lo) (x2 := nI hi) (x3 := nI c) hN hn hch man hT
  have hL := numL_le (n := n) (a := a) (ch := ch)
  have e5 : F_X6_readNumber N vT (nI lo) (nI hi) (nI c) = if nI (numL n ch a) = 0 then some (-1, up2 (up2 vT 0 3 1) 0 4 (vT 0 2)) else if 2 < nI (numL n ch a) then some (-1, up2 (up2 vT 0 3 1) 0 4 (vT 0 2)) else if y < nI lo then some (-1, up2 (up2 vT 0 3 2) 0 4 (vT 0 2)) else if nI hi < y then some (-1, up2 (up2 vT 0 3 2) 0 4 (vT 0 2)) else ((F_X6_here N (up2 vT 0 2 (vT 0 2 + nI (numL n ch a)))).bind (fun q106 => if q106 = nI c then some (y, up2 (up2 vT 0 2 (vT 0 2 + nI (numL n ch a))) 0 2 ((vT 0 2 + nI (numL n ch a)) + 1)) else some (-1, up2 (up2 (up2 vT 0 2 (vT 0 2 + nI (numL n ch a))) 0 3 1) 0 4 (vT 0 2 + nI (numL n ch a))))) := by
    unfold F_X6_readNumber
    rw [y1]
    simp only [jn_eq]
    rfl
  have e8 : F_X8_takesNumber N v (nI lo) (nI hi) (nI idx) (nI c) = if v 0 11 = 2 then ((F_X8_in N ((v 0 12).toInt64) ((nI lo).toInt64) ((nI hi).toInt64)).bind (fun q17 => if q17 = (0 : Int32) then some (0, up2 v 0 14 2) else ((F_X8_nextToken N (up2 v 7 idx (v 0 12))).bind (fun q52 => (F_X8_takes N q52 (nI c)).bind (fun q58 => zr (q58.1) (some ((q58.1), (q58.2)))))))) else some (0, up2 v 0 14 1) := by
    unfold F_X8_takesNumber F_X8_faults
    simp only [jn_eq, bs, zr_zero]
    rw [chk_in hidx (by decide), nI_clamp (by omega)]
    by_cases z : v 0 11 = 2
    · simp only [if_pos z]
    · simp only [if_neg z]
  have notnum : ¬ (numL n ch a = 1 ∨ numL n ch a = 2) → ¬ v 0 11 = 2 := fun h q => by
    rcases hk.2 with ⟨_, _, g⟩ | ⟨_, _, g, _⟩ | ⟨g, _⟩ | ⟨_, g⟩
    · rw [q] at g; exact absurd g (by decide)
    · rw [q] at g
      by_cases z : cls (ch a) = true
      · rw [if_pos z] at g; exact absurd g (by decide)
      · rw [if_neg z] at g; exact absurd g (by decide)
    · exact h g
    · rw [q] at g; exact absurd g (by decide)
  by_cases hnum : numL n ch a = 1 ∨ numL n ch a = 2
  · have hy := y2 hnum
    have hV := numV_lt hnum
    obtain ⟨k11, k12, k10⟩ : v 0 11 = 2 ∧ v 0 12 = nI (numV n ch a) ∧ v 0 10 = nI (a + numL n ch a) := by
      rcases hk.2 with ⟨g, _⟩ | ⟨g, _⟩ | ⟨_, g⟩ | ⟨g, _⟩
      · omega
      · omega
      · exact g
      · omega
    have hend : a + numL n ch a ≤ n := by
      rcases hnum with h | h
      · rw [h]; exact num_end.1 h
      · rw [h]; exact num_end.2 h
    rw [e5, e8, if_neg (nI_ne0 (by omega) (by omega)), if_neg (show ¬ (2 : Int32) < nI (numL n ch a) from nI_nlt (a := 2) (by omega) (by decide)), if_pos k11, k12, hy]
    have b1 : ((nI lo).toInt64).toInt = (lo : Int) := by rw [i64, nI_toInt (by omega)]
    have b2 : ((nI hi).toInt64).toInt = (hi : Int) := by rw [i64, nI_toInt (by omega)]
    have b3 := nI_toInt (n := numV n ch a) (by omega)
    by_cases r1 : numV n ch a < lo
    · refine Or.inl ⟨_, _, by rw [if_pos (nI_lt r1 (by omega))], by rw [in_no b1 b2 (by omega)]; rfl, ⟨rfl, ?_⟩, Oth_14⟩
      show vT 0 2 = v 0 13
      rw [hT.2.1, hk.1]
    rw [if_neg (nI_nlt (by omega) (by omega))]
    by_cases r2 : hi < numV n ch a
    · refine Or.inl ⟨_, _, by rw [if_pos (nI_lt r2 (by omega))], by rw [in_no b1 b2 (by omega)]; rfl, ⟨rfl, ?_⟩, Oth_14⟩
      show vT 0 2 = v 0 13
      rw [hT.2.1, hk.1]
    rw [if_neg (nI_nlt (by omega) (by omega)), in_ok b1 b2 (by omega), bs, if_neg one0, hT.2.1, nI_add]
    have hT1 : TcAt n ch fl (up2 vT 0 2 (nI (a + numL n ch a))) (a + numL n ch a) := ⟨hT.1, rfl, hT.2.2.1, hT.2.2.2⟩
    rw [p_here N hn hend hT1, bs]
    obtain ⟨w1, t1, t2, t3⟩ := p_tok (a := a + numL n ch a) hN hn hch (v := up2 v 7 idx (nI (numV n ch a))) m8 m6 k10 hend
    have ho1 : Oth v w1 := Oth_tr Oth_7 (Oth_s t3)
    have hw7 : w1 7 = upd (v 7) idx (nI (numV n ch a)) := t3.1 7 (by decide)
    have hcl : cls c = true := by rcases hc with h | h <;> rw [h] <;> decide
    have hlet := p_letter (N := N) hch t2 hcl (by omega)
    rw [t1, bs]
    unfold F_X8_takes F_X8_faults
    rw [hlet, bs]
    by_cases z : a + numL n ch a < n ∧ ch (a + numL n ch a) = c
    · rw [if_pos z, if_neg one0, if_pos z.1, z.2, if_pos rfl]
      have hx : w1 0 10 = nI (a + numL n ch a + 1) := by
        rcases t2.2 with ⟨_, g, _⟩ | ⟨_, _, _, _, g⟩ | ⟨g, _⟩ | ⟨g, _⟩
        · omega
        · exact g
        · exfalso
          have : dg n ch (a + numL n ch a) = true := by
            by_cases d : dg n ch (a + numL n ch a) = true
            · exact d
            · unfold numL at g; unfold numL at d; rw [if_neg d] at g; omega
          have := dg_t.mp this
          omega
        · exfalso
          have : dg n ch (a + numL n ch a) = true := by
            by_cases d : dg n ch (a + numL n ch a) = true
            · exact d
            · unfold numL at g; unfold numL at d; rw [if_neg d] at g; omega
          have := dg_t.mp this
          omega
      have h81 : w1 0 8 = nI n := (t3.2 8 (by omega)).trans m8
      have h61 : ∀ i, i < n → w1 6 i = nI (ch i) := fun i hi2 => by rw [t3.1 6 (by decide)]; exact m6 i hi2
      obtain ⟨w2, u1, u2, u3⟩ := p_tok (a := a + numL n ch a + 1) hN hn hch (v := w1) h81 h61 hx (by omega)
      refine Or.inr ⟨numV n ch a, a + numL n ch a + 1, up2 (up2 vT 0 2 (nI (a + numL n ch a))) 0 2 (nI (a + numL n ch a + 1)), w2, by omega, by omega, by omega, by omega, by rw [nI_1], ?_, ⟨hT.1, rfl, hT.2.2.1, hT.2.2.2⟩, ⟨(u3.2 8 (by omega)).trans h81, fun i hi2 => by rw [u3.1 6 (by decide)]; exact h61 i hi2, by omega, u2⟩, Oth_tr ho1 (Oth_s u3), (u3.1 7 (by decide)).trans hw7⟩
      rw [u1]
      exact zr_one
    · rw [if_neg z, if_pos rfl]
      refine Or.inl ⟨up2 (up2 (up2 vT 0 2 (nI (a + numL n ch a))) 0 3 1) 0 4 (nI (a + numL n ch a)), up2 w1 0 14 1, ?_, zr_zero, ⟨rfl, ?_⟩, Oth_tr ho1 Oth_14⟩
      · by_cases q : a + numL n ch a < n
        · have hcb := hch _ q
          rw [if_pos q, if_neg (fun e => z (And.intro q ((nI_eq (by omega) (by omega)).mp e)))]
        · rw [if_neg q, if_neg (fun e => nI_m1 (n := c) (by omega) e.symm)]
      · show nI (a + numL n ch a) = w1 0 13
        rw [t2.1]
  · have hv := notnum hnum
    rw [e5, e8, if_neg hv]
    have hfin : vT 0 2 = v 0 13 := by rw [hT.2.1, hk.1]
    by_cases z : numL n ch a = 0
    · exact Or.inl ⟨_, _, by rw [z, if_pos (show nI 0 = 0 from rfl)], rfl, ⟨rfl, hfin⟩, Oth_14⟩
    · exact Or.inl ⟨_, _, by rw [if_neg (nI_ne0 (by omega) (by omega)), if_pos (show (2 : Int32) < nI (numL n ch a) from nI_lt (a := 2) (by omega) (by omega))], rfl, ⟨rfl, hfin⟩, Oth_14⟩
