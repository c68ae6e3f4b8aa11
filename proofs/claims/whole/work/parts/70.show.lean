/-! show -/
def mJ (N m : Nat) (v : SV) : Option (Int32 × SV) := (F_X8_isLetter N v (112 : Int32)).bind (fun q93 => jn (fun (s156_0 : Int32) => jn (fun (s190_0 : Int32) (v_190 : SV) => F_X8_readShow_L69 N m s190_0 v_190) (fun J190 => if (0 : Int32) < s156_0 then ((F_X8_readThing N v s156_0).bind (fun q163 => J190 (q163.1) (q163.2))) else ((F_X8_isLetter N v (122 : Int32)).bind (fun q172 => if q172 = (0 : Int32) then ((F_X8_faults N v (1 : Int32)).bind (fun q187 => J190 (q187.1) (q187.2))) else ((F_X8_readSeat N v).bind (fun q179 => J190 (q179.1) (q179.2))))))) (fun J156 => if q93 = (0 : Int32) then ((F_X8_isLetter N v (98 : Int32)).bind (fun q106 => if q106 = (0 : Int32) then ((F_X8_isLetter N v (102 : Int32)).bind (fun q119 => if q119 = (0 : Int32) then ((F_X8_isLetter N v (108 : Int32)).bind (fun q132 => if q132 = (0 : Int32) then ((F_X8_isLetter N v (104 : Int32)).bind (fun q145 => if q145 = (0 : Int32) then (J156 (0 : Int32)) else (J156 (5 : Int32)))) else (J156 (4 : Int32)))) else (J156 (3 : Int32)))) else (J156 (2 : Int32)))) else (J156 (1 : Int32))))
theorem l69_eq {N m : Nat} {x1 : Int32} {v : SV} : F_X8_readShow_L69 N (m + 1) x1 v = if x1 = (0 : Int32) then (zr x1 (some (x1, v))) else (jn (fun (u_90 : Unit) => mJ N m v) (fun J90 => if (v 0 11) = (3 : Int32) then (chk 55 (2 : Int32) (if ((v 7) ((2 : Int32).toNatClampNeg)) = (0 : Int32) then (J90 ()) else (zr x1 (some (x1, v))))) else (J90 ()))) := rfl
theorem l69 {N n a m : Nat} {ch : Nat → Nat} {v : SV} (hch : ∀ i, i < n → ch i < 256) (hM : TmAt n ch v a) (hcond : a < n ∨ v 7 2 = 0) : F_X8_readShow_L69 N (m + 1) 1 v = if a < n ∧ 0 < sortN (ch a) then ((F_X8_readThing N v (nI (sortN (ch a)))).bind (fun q => F_X8_readShow_L69 N m (q.1) (q.2))) else if a < n ∧ ch a = 122 then ((F_X8_readSeat N v).bind (fun q => F_X8_readShow_L69 N m (q.1) (q.2))) else F_X8_readShow_L69 N m 0 (up2 v 0 14 1) := by
  have pl : ∀ X, cls X = true → X < 256 → F_X8_isLetter N v (nI X) = some (if a < n ∧ ch a = X then 1 else 0) := fun X h1 h2 => p_letter hch hM.2.2.2 h1 h2
  have hJ : mJ N m v = if a < n ∧ 0 < sortN (ch a) then ((F_X8_readThing N v (nI (sortN (ch a)))).bind (fun q => F_X8_readShow_L69 N m (q.1) (q.2))) else if a < n ∧ ch a = 122 then ((F_X8_readSeat N v).bind (fun q => F_X8_readShow_L69 N m (q.1) (q.2))) else F_X8_readShow_L69 N m 0 (up2 v 0 14 1) := by
    unfold mJ F_X8_faults
    rw [show F_X8_isLetter N v (112 : Int32) = _ from pl 112 (by decide) (by decide), bs]
    simp only [jn_eq]
    rw [show F_X8_isLetter N v (98 : Int32) = _ from pl 98 (by decide) (by decide), bs, show F_X8_isLetter N v (102 : Int32) = _ from pl 102 (by decide) (by decide), bs, show F_X8_isLetter N v (108 : Int32) = _ from pl 108 (by decide) (by decide), bs, show F_X8_isLetter N v (104 : Int32) = _ from pl 104 (by decide) (by decide), bs, show F_X8_isLetter N v (122 : Int32) = _ from pl 122 (by decide) (by decide), bs]
    by_cases an : a < n
    · by_cases z1 : ch a = 112
      · have hs : sortN (ch a) = 1 := by unfold sortN; rw [if_pos z1]
        rw [if_pos (And.intro an z1), if_neg one0, if_pos (show (0 : Int32) < 1 by decide), hs, if_pos (And.intro an (show 0 < 1 by decide))]
        rfl
      rw [if_neg (fun (q : a < n ∧ ch a = 112) => z1 q.2), if_pos rfl]
      by_cases z2 : ch a = 98
      · have hs : sortN (ch a) = 2 := by unfold sortN; rw [if_neg z1, if_pos z2]
        rw [if_pos (And.intro an z2), if_neg one0, if_pos (show (0 : Int32) < 2 by decide), hs, if_pos (And.intro an (show 0 < 2 by decide))]
        rfl
      rw [if_neg (fun (q : a < n ∧ ch a = 98) => z2 q.2), if_pos rfl]
      by_cases z3 : ch a = 102
      · have hs : sortN (ch a) = 3 := by unfold sortN; rw [if_neg z1, if_neg z2, if_pos z3]
        rw [if_pos (And.intro an z3), if_neg one0, if_pos (show (0 : Int32) < 3 by decide), hs, if_pos (And.intro an (show 0 < 3 by decide))]
        rfl
      rw [if_neg (fun (q : a < n ∧ ch a = 102) => z3 q.2), if_pos rfl]
      by_cases z4 : ch a = 108
      · have hs : sortN (ch a) = 4 := by unfold sortN; rw [if_neg z1, if_neg z2, if_neg z3, if_pos z4]
        rw [if_pos (And.intro an z4), if_neg one0, if_pos (show (0 : Int32) < 4 by decide), hs, if_pos (And.intro an (show 0 < 4 by decide))]
        rfl
      rw [if_neg (fun (q : a < n ∧ ch a = 108) => z4 q.2), if_pos rfl]
      by_cases z5 : ch a = 104
      · have hs : sortN (ch a) = 5 := by unfold sortN; rw [if_neg z1, if_neg z2, if_neg z3, if_neg z4, if_pos z5]
        rw [if_pos (And.intro an z5), if_neg one0, if_pos (show (0 : Int32) < 5 by decide), hs, if_pos (And.intro an (show 0 < 5 by decide))]
        rfl
      have hs : sortN (ch a) = 0 := by unfold sortN; rw [if_neg z1, if_neg z2, if_neg z3, if_neg z4, if_neg z5]
      rw [if_neg (fun (q : a < n ∧ ch a = 104) => z5 q.2), if_pos rfl, if_neg (show ¬ (0 : Int32) < 0 by decide), if_neg (fun (q : a < n ∧ 0 < sortN (ch a)) => by have := q.2; omega)]
      by_cases z6 : ch a = 122
      · rw [if_pos (And.intro an z6), if_neg one0, if_pos (And.intro an z6)]
      · rw [if_neg (fun (q : a < n ∧ ch a = 122) => z6 q.2), if_pos rfl, if_neg (fun (q : a < n ∧ ch a = 122) => z6 q.2)]
        rfl
    · have g : ∀ X, ¬ (a < n ∧ ch a = X) := fun X q => an q.1
      rw [if_neg (g 112), if_pos rfl, if_neg (g 98), if_pos rfl, if_neg (g 102), if_pos rfl, if_neg (g 108), if_pos rfl, if_neg (g 104), if_pos rfl, if_neg (show ¬ (0 : Int32) < 0 by decide), if_neg (g 122), if_pos rfl, if_neg (fun (q : a < n ∧ 0 < sortN (ch a)) => an q.1), if_neg (g 122)]
      rfl
  rw [l69_eq, if_neg one0]
  simp only [jn_eq]
  rw [hJ]
  by_cases c3 : v 0 11 = 3
  · have h2 : v 7 2 = 0 := by
      rcases hcond with h | h
      · exfalso
        rcases hM.2.2.2.2 with ⟨_, g, _⟩ | ⟨_, _, g, _⟩ | ⟨_, g, _⟩ | ⟨_, g⟩
        · omega
        · rw [c3] at g
          by_cases y : cls (ch a) = true
          · rw [if_pos y] at g; exact absurd g (by decide)
          · rw [if_neg y] at g; exact absurd g (by decide)
        · rw [c3] at g; exact absurd g (by decide)
        · rw [c3] at g; exact absurd g (by decide)
      · exact h
    rw [if_pos c3, k2, t2, if_pos h2]
  · rw [if_neg c3]
theorem l69_0 {N m : Nat} {v : SV} : F_X8_readShow_L69 N (m + 1) 0 v = some (0, v) := by
  rw [l69_eq, if_pos rfl]
  exact zr_zero
theorem noThing {N n a : Nat} (hN : 3000 ≤ N) {ch : Nat → Nat} {fl : Int32} {vT vD v : SV} (hn : n ≤ 120) (hch : ∀ i, i < n → ch i < 256) (hT : TcAt n ch fl vT a) (hM : TmAt n ch v a) (hs : ¬ (a < n ∧ 0 < sortN (ch a))) : F_X6_readThing N vT vD = some (0, up2 (up2 vT 0 3 1) 0 4 (vT 0 2), vD) ∧ FailR (up2 (up2 vT 0 3 1) 0 4 (vT 0 2)) (up2 v 0 14 1) := by
  have es := p_sort hN hn hch hM.2.2.1 hT
  rw [if_neg hs] at es
  refine ⟨?_, rfl, ?_⟩
  · unfold F_X6_readThing F_X6_flawed
    rw [es, bs]
    simp only [jn_eq]
    rw [if_pos m1lt, bs]
    exact zr_zero
  · show vT 0 2 = v 0 13
    rw [hT.2.1, hM.2.2.2.1]
theorem l_clauses {N n : Nat} (hN : 3000 ≤ N) {ch : Nat → Nat} {fl : Int32} (hn : n ≤ 120) (hch : ∀ i, i < n → ch i < 256) : ∀ d c n1 n2 vT vD v a S, n - a ≤ d → c ≤ a → TcAt n ch fl vT a → TmAt n ch v a → DInv v vD S → 0 < S.2.2.1 → d < n1 → d + 1 < n2 → ∃ r vT' vD' w, F_X6_readInto_L29 N n1 (nI c) vT vD = some (r, vT', vD') ∧ F_X8_readShow_L69 N n2 1 v = some (r, w) ∧ Oth v w ∧ ((r = 0 ∧ FailR vT' w) ∨ (r = 1 ∧ vT' 0 3 = fl ∧ ∃ S', RC vD' S' ∧ RM (w 7) S' ∧ SInv 999 S' ∧ 0 < S'.2.2.1)) := by
  have atEnd : ∀ c n1 n2 vT vD v a S, a = n → c ≤ a → TcAt n ch fl vT a → TmAt n ch v a → DInv v vD S → 0 < S.2.2.1 → 0 < n1 → 0 < n2 → ∃ r vT' vD' w, F_X6_readInto_L29 N n1 (nI c) vT vD = some (r, vT', vD') ∧ F_X8_readShow_L69 N n2 1 v = some (r, w) ∧ Oth v w ∧ ((r = 0 ∧ FailR vT' w) ∨ (r = 1 ∧ vT' 0 3 = fl ∧ ∃ S', RC vD' S' ∧ RM (w 7) S' ∧ SInv 999 S' ∧ 0 < S'.2.2.1)) := by
    intro c n1 n2 vT vD v a S ha hca hT hM hD hth hn1 hn2
    obtain ⟨n1, rfl⟩ : ∃ m, n1 = m + 1 := ⟨n1 - 1, by omega⟩
    obtain ⟨n2, rfl⟩ : ∃ m, n2 = m + 1 := ⟨n2 - 1, by omega⟩
    have h1 := hD.2.2.1.1
    refine ⟨1, vT, vD, v, ?_, ?_, ⟨fun _ _ _ => rfl, fun _ _ => rfl⟩, Or.inr ⟨rfl, hT.2.2.1, S, hD.1, hD.2.1, hD.2.2.1, hth⟩⟩
    · rw [F_X6_readInto_L29, hT.2.1, hT.1, if_neg (show ¬ nI a < nI n from nI_nlt (by omega) (by omega))]
      by_cases z : nI c < (120 : Int32)
      · rw [if_pos z]
      · rw [if_neg z]
    · have c3 : v 0 11 = 3 := by
        have hd : numL n ch a = 0 := by
          unfold numL
          rw [if_neg (fun q => by have := dg_t.mp q; omega)]
        rcases hM.2.2.2.2 with ⟨_, _, g⟩ | ⟨_, g, _⟩ | ⟨g, _⟩ | ⟨g, _⟩
        · exact g
        · omega
        · omega
        · omega
      rw [l69_eq, if_neg one0]
      simp only [jn_eq]
      rw [if_pos c3, k2, t2, hD.2.1.2.2.1, if_neg (nI_ne0 hth (by omega))]
      exact zr_one
  intro d
  induction d with
  | zero =>
    intro c n1 n2 vT vD v a S hd hca hT hM hD hth hn1 hn2
    have := hM.2.2.1
    exact atEnd c n1 n2 vT vD v a S (by omega) hca hT hM hD hth (by omega) (by omega)
  | succ d ih =>
    intro c n1 n2 vT vD v a S hd hca hT hM hD hth hn1 hn2
    have han := hM.2.2.1
    by_cases ha : a = n
    · exact atEnd c n1 n2 vT vD v a S ha hca hT hM hD hth (by omega) (by omega)
    have hlt : a < n := by omega
    have hcb := hch a hlt
    obtain ⟨n1, rfl⟩ : ∃ m, n1 = m + 1 := ⟨n1 - 1, by omega⟩
    obtain ⟨n2, rfl⟩ : ∃ m, n2 = m + 2 := ⟨n2 - 2, by omega⟩
    have e5 : F_X6_readInto_L29 N (n1 + 1) (nI c) vT vD = if ch a = 122 then ((F_X6_readSeat N vT vD).bind (fun q => if q.1 = (0 : Int32) then some (0, q.2.1, q.2.2) else F_X6_readInto_L29 N n1 (nI (c + 1)) (q.2.1) (q.2.2))) else ((F_X6_readThing N vT vD).bind (fun q => if q.1 = (0 : Int32) then some (0, q.2.1, q.2.2) else F_X6_readInto_L29 N n1 (nI (c + 1)) (q.2.1) (q.2.2))) := by
      have eh := p_here N hn han hT
      rw [if_pos hlt] at eh
      rw [F_X6_readInto_L29, if_pos (show nI c < (120 : Int32) from nI_lt (b := 120) (by omega) (by decide)), hT.2.1, hT.1, if_pos (nI_lt hlt (by omega)), eh, bs, nI_1]
      simp only [jn_eq]
      by_cases z : ch a = 122
      · rw [if_pos z, if_pos (show nI (ch a) = 122 by rw [z]; rfl)]
      · rw [if_neg z, if_neg (show ¬ nI (ch a) = 122 from fun q => z ((nI_eq (b := 122) (by omega) (by decide)).mp q))]
    have e8 := l69 (N := N) (m := n2 + 1) hch hM (Or.inl hlt)
    rw [e5, show n2 + 2 = n2 + 1 + 1 from rfl, e8]
    by_cases z : ch a = 122
    · have hs : ¬ (a < n ∧ 0 < sortN (ch a)) := fun q => by have := q.2; rw [z] at this; exact absurd this (by decide)
      rw [if_pos z, if_neg hs, if_pos (And.intro hlt z)]
      rcases p_seat hN hn hch hT hM hD hlt z hth with ⟨vT', vD', w, a1, a2, a3, a4⟩ | ⟨b, vT', vD', w, S', a1, a2, a3, a4, a5, a6, a7, a8⟩
      · exact ⟨0, vT', vD', w, by rw [a1]; rfl, by rw [a2, bs]; exact l69_0, a4, Or.inl ⟨rfl, a3⟩⟩
      · obtain ⟨r, vT2, vD2, w2, b1, b2, b3, b4⟩ := ih (c + 1) n1 (n2 + 1) vT' vD' w b S' (by omega) (by omega) a4 a5 a7 a8 (by omega) (by omega)
        exact ⟨r, vT2, vD2, w2, by rw [a1, bs, if_neg one0]; exact b1, by rw [a2, bs]; exact b2, Oth_tr a6 b3, b4⟩
    · rw [if_neg z]
      by_cases hs : a < n ∧ 0 < sortN (ch a)
      · rw [if_pos hs]
        rcases p_thing hN hn hch hT hM hD hlt hs.2 with ⟨vT', vD', w, a1, a2, a3, a4⟩ | ⟨b, vT', vD', w, S', a1, a2, a3, a4, a5, a6, a7, a8⟩
        · exact ⟨0, vT', vD', w, by rw [a1]; rfl, by rw [a2, bs]; exact l69_0, a4, Or.inl ⟨rfl, a3⟩⟩
        · obtain ⟨r, vT2, vD2, w2, b1, b2, b3, b4⟩ := ih (c + 1) n1 (n2 + 1) vT' vD' w b S' (by omega) (by omega) a4 a5 a7 a8 (by omega) (by omega)
          exact ⟨r, vT2, vD2, w2, by rw [a1, bs, if_neg one0]; exact b1, by rw [a2, bs]; exact b2, Oth_tr a6 b3, b4⟩
      · rw [if_neg hs, if_neg (fun q => z q.2)]
        obtain ⟨a1, a2⟩ := noThing (vD := vD) hN hn hch hT hM hs
        exact ⟨0, _, vD, up2 v 0 14 1, by rw [a1]; rfl, l69_0, Oth_14, Or.inl ⟨rfl, a2⟩⟩
theorem l_zero {N : Nat} : ∀ d s n v, s + d = 55 → d < n → ∃ f, (∀ K, F_X8_readShow_L7 N K n (nI s) v = K (upA v 7 f)) ∧ ∀ i, f i = if s ≤ i ∧ i < 55 then 0 else v 7 i := by
  intro d
  induction d with
  | zero =>
    intro s n v hs hn
    obtain ⟨n, rfl⟩ : ∃ m, n = m + 1 := ⟨n - 1, by omega⟩
    have e : s = 55 := by omega
    subst e
    refine ⟨v 7, fun K => ?_, fun i => by rw [if_neg (by omega)]⟩
    rw [F_X8_readShow_L7, if_neg (by decide), upA_self]
  | succ d ih =>
    intro s n v hs hn
    obtain ⟨n, rfl⟩ : ∃ m, n = m + 1 := ⟨n - 1, by omega⟩
    obtain ⟨f, f1, f2⟩ := ih (s + 1) n (up2 v 7 s 0) (by omega) (by omega)
    refine ⟨f, fun K => ?_, fun i => ?_⟩
    · rw [F_X8_readShow_L7, if_pos (show nI s < (55 : Int32) from nI_lt (b := 55) (by omega) (by decide)), chk_in (n := 55) (k := s) (by omega) (by decide), nI_clamp (n := s) (by omega), nI_1, f1]
      unfold up2
      rw [upA_upA]
    · rw [f2 i]
      show (if s + 1 ≤ i ∧ i < 55 then 0 else upd (v 7) s 0 i) = _
      by_cases q : s + 1 ≤ i ∧ i < 55
      · rw [if_pos q, if_pos (by omega)]
      · rw [if_neg q]
        by_cases e : i = s
        · subst e
          rw [if_pos (by omega), upd_s]
        · rw [if_neg (by omega), upd_n e]
theorem l_shcopy {N : Nat} : ∀ d s n v, s + d = 55 → d < n → ∃ f, (∀ K, F_X8_show_L32 N K n (nI s) v = K (upA v 4 f)) ∧ ∀ i, f i = if s ≤ i ∧ i < 55 then v 7 i else v 4 i := by
  intro d
  induction d with
  | zero =>
    intro s n v hs hn
    obtain ⟨n, rfl⟩ : ∃ m, n = m + 1 := ⟨n - 1, by omega⟩
    have e : s = 55 := by omega
    subst e
    refine ⟨v 4, fun K => ?_, fun i => by rw [if_neg (by omega)]⟩
    rw [F_X8_show_L32, if_neg (by decide), upA_self]
  | succ d ih =>
    intro s n v hs hn
    obtain ⟨n, rfl⟩ : ∃ m, n = m + 1 := ⟨n - 1, by omega⟩
    obtain ⟨f, f1, f2⟩ := ih (s + 1) n (up2 v 4 s (v 7 s)) (by omega) (by omega)
    refine ⟨f, fun K => ?_, fun i => ?_⟩
    · rw [F_X8_show_L32, if_pos (show nI s < (55 : Int32) from nI_lt (b := 55) (by omega) (by decide)), chk_in (n := 55) (k := s) (by omega) (by decide), chk_in (n := 55) (k := s) (by omega) (by decide), nI_clamp (n := s) (by omega), nI_1, f1]
      unfold up2
      rw [upA_upA]
    · rw [f2 i]
      show (if s + 1 ≤ i ∧ i < 55 then v 7 i else upd (v 4) s (v 7 s) i) = _
      by_cases q : s + 1 ≤ i ∧ i < 55
      · rw [if_pos q, if_pos (by omega)]
      · rw [if_neg q]
        by_cases e : i = s
        · subst e
          rw [if_pos (by omega), upd_s]
        · rw [if_neg (by omega), upd_n e]
theorem p_read {N n : Nat} (hN : 3000 ≤ N) {ch : Nat → Nat} {fl : Int32} {vT vD v : SV} (hn : n ≤ 120) (hch : ∀ i, i < n → ch i < 256) (h1 : vT 0 1 = nI n) (hb : ∀ i, i < n → vT 1 i = nI (ch i)) (h3 : vT 0 3 = fl) (m8 : v 0 8 = nI n) (m6 : ∀ i, i < n → v 6 i = nI (ch i)) : ∃ r vT' vD' w, F_X6_readInto N vT vD = some (r, vT', vD') ∧ F_X8_readShow N v = some (r, w) ∧ Oth v w ∧ ((r = 0 ∧ FailR vT' w) ∨ (r = 1 ∧ vT' 0 3 = fl ∧ ∃ S', RC vD' S' ∧ RM (w 7) S' ∧ SInv 999 S' ∧ 0 < S'.2.2.1)) := by
  obtain ⟨f, f1, f2⟩ := l_zero (N := N) 55 0 N (up2 v 0 10 0) (by omega) (by omega)
  have ov0 : Oth v (upA (up2 v 0 10 0) 7 f) := Oth_tr ⟨fun k h0 _ => up2_k h0, fun j hj => up2_j (by omega)⟩ Oth_7
  obtain ⟨w1, u1, u2, u3⟩ := p_tok (a := 0) hN hn hch (v := upA (up2 v 0 10 0) 7 f) m8 m6 rfl (by omega)
  have ov1 : Oth v w1 := Oth_tr ov0 (Oth_s u3)
  have hw17 : w1 7 = f := u3.1 7 (by decide)
  have hM1 : TmAt n ch w1 0 := ⟨(ov1.2 8 (by omega)).trans m8, fun i hi => by rw [ov1.1 6 (by decide) (by decide)]; exact m6 i hi, by omega, u2⟩
  have hT0 : TcAt n ch fl (up2 vT 0 2 0) 0 := ⟨h1, rfl, h3, hb⟩
  have eh := p_here N hn (by omega) hT0
  have pl := p_letter (N := N) (c := 114) hch u2 (by decide) (by decide)
  have wd : ∃ D0, F_X5_wipe N vD = some D0 ∧ D0 0 2 = 0 ∧ D0 0 3 = 0 ∧ D0 0 4 = 0 ∧ D0 0 5 = 0 ∧ D0 0 6 = 0 := ⟨_, rfl, rfl, rfl, rfl, rfl, rfl⟩
  obtain ⟨D0, wd0, wd2, wd3, wd4, wd5, wd6⟩ := wd
  unfold F_X6_readInto F_X8_readShow
  rw [wd0, bs, show ∀ K, F_X8_readShow_L7 N K N (0 : Int32) (up2 v 0 10 0) = K (upA (up2 v 0 10 0) 7 f) from f1, u1, bs]
  unfold F_X8_takes F_X8_faults
  rw [show F_X8_isLetter N w1 (114 : Int32) = _ from pl, bs]
  by_cases z : 0 < n ∧ ch 0 = 114
  case neg =>
    have el : F_X6_readLaw N (up2 vT 0 2 0) D0 = some (0, up2 (up2 (up2 vT 0 2 0) 0 3 1) 0 4 0, D0) := by
      unfold F_X6_readLaw F_X6_flawed
      rw [eh, bs, if_neg (fun q => by
        by_cases y : 0 < n
        · rw [if_pos y] at q
          have hcb := hch 0 y
          exact z ⟨y, (nI_eq (b := 114) (by omega) (by decide)).mp q⟩
        · rw [if_neg y] at q
          exact absurd q (by decide)), bs]
      exact zr_zero
    refine ⟨0, up2 (up2 (up2 vT 0 2 0) 0 3 1) 0 4 0, D0, up2 w1 0 14 1, ?_, ?_, Oth_tr ov1 Oth_14, Or.inl ⟨rfl, rfl, ?_⟩⟩
    · rw [el]; rfl
    · rw [if_neg z, if_pos rfl]; rfl
    · show (0 : Int32) = w1 0 13
      rw [u2.1]; rfl
  rw [if_pos z, if_neg one0]
  obtain ⟨w2, x1, x2, x3⟩ := p_tok (a := 1) hN hn hch (v := w1) hM1.1 hM1.2.1 (tk_adv u2 z.1 (by omega)) (by omega)
  have ov2 : Oth v w2 := Oth_tr ov1 (Oth_s x3)
  have hw27 : w2 7 = f := (x3.1 7 (by decide)).trans hw17
  have hM2 : TmAt n ch w2 1 := ⟨(ov2.2 8 (by omega)).trans m8, fun i hi => by rw [ov2.1 6 (by decide) (by decide)]; exact m6 i hi, by omega, x2⟩
  rw [x1, bs, bs, if_neg one0]
  have el : F_X6_readLaw N (up2 vT 0 2 0) D0 = (F_X6_readNumber N (up2 (up2 vT 0 2 0) 0 2 (nI 1)) (nI 0) (nI 60) (nI 44)).bind (fun q32 => if (q32.1) = (-1 : Int32) then (some ((0 : Int32), (q32.2), (up2 D0 0 0 (q32.1)))) else ((F_X6_readNumber N (q32.2) (nI 0) (nI 9) (nI 59)).bind (fun q55 => if (q55.1) = (-1 : Int32) then (some ((0 : Int32), (q55.2), (up2 (up2 D0 0 0 (q32.1)) 0 1 (q55.1)))) else (some ((1 : Int32), (q55.2), (up2 (up2 D0 0 0 (q32.1)) 0 1 (q55.1))))))) := by
    unfold F_X6_readLaw
    rw [eh, if_pos z.1, z.2, bs, if_pos (show nI 114 = 114 from rfl)]
    rfl
  rw [el]
  have hT1 : TcAt n ch fl (up2 (up2 vT 0 2 0) 0 2 (nI 1)) 1 := ⟨h1, rfl, h3, hb⟩
  rcases p_num (lo := 0) (hi := 60) (c := 44) (idx := 0) hN hn hch hT1 hM2 (by omega) (Or.inl rfl) (by omega) with ⟨vT1, w3, n1, n2, n3, n4⟩ | ⟨ro, b1, vT1, w3, ro0, ro60, ab1, bn1, n1, n2, nT1, nM1, n4, n7⟩
  · exact ⟨0, vT1, _, w3, by rw [n1]; rfl, by rw [show F_X8_takesNumber N w2 (0 : Int32) (60 : Int32) (0 : Int32) (44 : Int32) = _ from n2]; rfl, Oth_tr ov2 n4, Or.inl ⟨rfl, n3⟩⟩
  rw [n1, show F_X8_takesNumber N w2 (0 : Int32) (60 : Int32) (0 : Int32) (44 : Int32) = _ from n2, bs, bs, if_neg (nI_m1 (by omega)), if_neg one0]
  rcases p_num (lo := 0) (hi := 9) (c := 59) (idx := 1) hN hn hch nT1 nM1 (by omega) (Or.inr rfl) (by omega) with ⟨vT2, w4, o1, o2, o3, o4⟩ | ⟨ex, b2, vT2, w4, ex0, ex9, ab2, bn2, o1, o2, oT1, oM1, o4, o7⟩
  · exact ⟨0, vT2, _, w4, by rw [o1]; rfl, by rw [show F_X8_takesNumber N w3 (0 : Int32) (9 : Int32) (1 : Int32) (59 : Int32) = _ from o2]; rfl, Oth_tr ov2 (Oth_tr n4 o4), Or.inl ⟨rfl, o3⟩⟩
  rw [o1, show F_X8_takesNumber N w3 (0 : Int32) (9 : Int32) (1 : Int32) (59 : Int32) = _ from o2, bs, bs, if_neg (nI_m1 (by omega)), bs, if_neg one0, if_neg one0]
  have ov4 : Oth v w4 := Oth_tr ov2 (Oth_tr n4 o4)
  have hw47 : w4 7 = upd (upd f 0 (nI ro)) 1 (nI ex) := by rw [o7, n7, hw27]
  have fz : ∀ i, 2 ≤ i → i < 55 → w4 7 i = 0 := fun i hi2 hi55 => by
    rw [hw47, upd_n (by omega), upd_n (by omega), f2 i, if_pos (by omega)]
  have hD : DInv w4 (up2 (up2 D0 0 0 (nI ro)) 0 1 (nI ex)) (fun i => if i = 0 then nI ro else if i = 1 then nI ex else 0, fun _ _ => 0, 0, 0, []) := by
    refine ⟨⟨rfl, rfl, wd2, wd3, wd4, wd5, wd6, fun i hI => absurd hI (Nat.not_lt_zero i), fun i hI => absurd hI (Nat.not_lt_zero i), fun i hI => absurd hI (Nat.not_lt_zero i)⟩, ⟨?_, ?_, fz 2 (by omega) (by omega), fz 3 (by omega) (by omega), fz 6 (by omega) (by omega), fz 4 (by omega) (by omega), fz 5 (by omega) (by omega), fun i hI => absurd hI (Nat.not_lt_zero i), fun i hI => absurd hI (Nat.not_lt_zero i), fun i hI => absurd hI (Nat.not_lt_zero i)⟩, ⟨Nat.zero_le _, Nat.zero_le _, List.nodup_nil, fun x hx => absurd hx List.not_mem_nil, fun i hI => absurd hI (Nat.not_lt_zero i), fun i hI => absurd hI (Nat.not_lt_zero i), ⟨ro, ro60, rfl⟩, ⟨ex, ex9, rfl⟩, 0, 0, rfl, rfl, by decide, by decide⟩, rfl, fun s hs => fz (49 + s) (by omega) (by omega)⟩
    · show w4 7 0 = nI ro
      rw [hw47, upd_n (by omega), upd_s]
    · show w4 7 1 = nI ex
      rw [hw47, upd_s]
  generalize up2 (up2 D0 0 0 (nI ro)) 0 1 (nI ex) = D1 at hD
  have h72 : w4 7 2 = 0 := fz 2 (by omega) (by omega)
  obtain ⟨M, hMM⟩ : ∃ M, N = M + 2 := ⟨N - 2, by omega⟩
  have e8 := l69 (N := N) (m := M + 1) hch oM1 (Or.inr h72)
  rw [show F_X8_readShow_L69 N N (1 : Int32) w4 = F_X8_readShow_L69 N (M + 1 + 1) 1 w4 from by rw [show M + 1 + 1 = N from hMM.symm], e8]
  by_cases hs : b2 < n ∧ 0 < sortN (ch b2)
  · rw [if_pos hs]
    rcases p_thing hN hn hch oT1 oM1 hD hs.1 hs.2 with ⟨vT', vD', w, a1, a2, a3, a4⟩ | ⟨b, vT', vD', w, S', a1, a2, a3, a4, a5, a6, a7, a8⟩
    · exact ⟨0, vT', vD', w, by rw [a1]; rfl, by rw [a2, bs]; exact l69_0, Oth_tr ov4 a4, Or.inl ⟨rfl, a3⟩⟩
    · obtain ⟨r, vT3, vD3, w5, c1, c2, c3, c4⟩ := l_clauses hN hn hch 120 0 N (M + 1) vT' vD' w b S' (by omega) (by omega) a4 a5 a7 a8 (by omega) (by omega)
      exact ⟨r, vT3, vD3, w5, by rw [a1, bs, if_neg one0]; exact c1, by rw [a2, bs]; exact c2, Oth_tr ov4 (Oth_tr a6 c3), c4⟩
  · rw [if_neg hs]
    obtain ⟨a1, a2⟩ := noThing (vD := D1) hN hn hch oT1 oM1 hs
    refine ⟨0, _, D1, up2 w4 0 14 1, by rw [a1]; rfl, ?_, Oth_tr ov4 Oth_14, Or.inl ⟨rfl, a2⟩⟩
    by_cases y : b2 < n ∧ ch b2 = 122
    · have h73 : w4 7 3 = 0 := fz 3 (by omega) (by omega)
      have er : F_X8_readSeat N w4 = some (0, up2 w4 0 14 1) := by
        unfold F_X8_readSeat F_X8_faults
        simp only [jn_eq, k2, k3, t2, t3, h72, h73, bs, zr_zero]
        rw [if_neg (show ¬ (0 : Int32) = 6 by decide), if_pos trivial, if_pos trivial]
      rw [if_pos y, er, bs]
      exact l69_0
    · rw [if_neg y]
      exact l69_0
theorem st_show {N : Nat} (hN : 3000 ≤ N) : St_show N Rel := by
  intro vR vW vT vS vD vA vI vJ vE vF vP vQ vK vM gW gA gL hrel
  obtain ⟨hr, hs, ht, ⟨S, hc, hm, hi, hs4⟩, ha, hI, hk⟩ := hrel
  obtain ⟨f1, n, hn, f2, f3, f4⟩ := ht
  have hch : ∀ i, i < n → (vM 6 i).toNatClampNeg < 256 ∧ vM 6 i = nI (vM 6 i).toNatClampNeg := fun i hi2 => by
    obtain ⟨-, c, c1, c2⟩ := f4 i hi2
    rw [c2, nI_clamp (by omega)]
    exact ⟨c1, rfl⟩
  obtain ⟨r, vT', vD', w, a1, a2, a3, a4⟩ := p_read (N := N) (n := n) (ch := fun i => (vM 6 i).toNatClampNeg) (fl := vM 0 9) (vT := vT) (vD := vD) (v := vM) hN hn (fun i hi2 => (hch i hi2).1) f2 (fun i hi2 => (f4 i hi2).1.trans (hch i hi2).2) f1 f3 (fun i hi2 => (hch i hi2).2)
  obtain ⟨o1, o2⟩ := a3
  rcases a4 with ⟨rfl, q1, q2⟩ | ⟨rfl, q1, S', q2, q3, q4, q5⟩
  · refine ⟨(-1000100 - w 0 13, up2 vT' 0 1 0, vS, vD', vA), (-1000100 - w 0 13, up2 (up2 w 0 8 0) 0 9 (w 0 14)), ?_, ?_, rfl, ?_, ?_, ⟨q1, 0, by omega, rfl, rfl, fun i hi2 => absurd hi2 (by omega)⟩, ?_, ?_, ?_, ?_⟩
    · unfold F_X7_show F_X6_empty F_X6_faultPlace
      rw [a1, bs, bs, if_pos rfl, bs, show (up2 vT' 0 1 0) 0 4 = w 0 13 from q2]
    · unfold F_X8_show
      rw [a2, bs, if_pos rfl]
    · show RRow (vW 1) (vW 2) gW (w 1) (w 2) (w 3)
      rw [o1 1 (by decide) (by decide), o1 2 (by decide) (by decide), o1 3 (by decide) (by decide)]; exact hr
    · show vR 0 10 = w 0 3
      rw [o2 3 (by omega)]; exact hs
    · show RStg vS (w 0 4) (w 4)
      rw [o2 4 (by omega), o1 4 (by decide) (by decide)]; exact ⟨S, hc, hm, hi, hs4⟩
    · show RAct vA gA (w 0 17) (w 8)
      rw [o2 17 (by omega), o1 8 (by decide) (by decide)]; exact ha
    · show RIm vI (w 12 0) (fun i => w 13 i) ∧ RIm vJ (w 12 1) (fun i => w 13 (55 + i))
      rw [o1 12 (by decide) (by decide), o1 13 (by decide) (by decide)]; exact hI
    · show RAsk vK (w 0 24) (w 14) ∧ (w 0 4 = 0 → w 0 17 = 0 ∧ w 12 0 = 0 ∧ w 12 1 = 0)
      rw [o2 24 (by omega), o1 14 (by decide) (by decide), o2 4 (by omega), o2 17 (by omega), o1 12 (by decide) (by decide)]; exact hk
  · obtain ⟨g, g1, g2⟩ := l_shcopy (N := N) 55 0 N (up2 w 0 8 0) (by omega) (by omega)
    have hrm : RM g S' := rm_cg q3 q4 (fun i hi2 => by rw [g2 i, if_pos (by omega)]; rfl)
    obtain ⟨fc, kc, b1, b2, b3, -⟩ := ha
    refine ⟨(nI S'.2.2.1, up2 vT' 0 1 0, ovr vS vD', vD', up2 vA 0 2 0), (nI S'.2.2.1, up2 (up2 (upA (up2 w 0 8 0) 4 g) 0 4 1) 0 17 0), ?_, ?_, rfl, ?_, ?_, ⟨?_, 0, by omega, rfl, rfl, fun i hi2 => absurd hi2 (by omega)⟩, ⟨S', ovr_rc q2 q4, hrm, q4, Or.inr ⟨q5, rfl⟩⟩, ⟨fc, 0, b1, by omega, b3, rfl, rfl, fun j hj => absurd hj (by omega)⟩, ?_, ?_⟩
    · unfold F_X7_show F_X6_empty F_X0_forgetAll
      rw [a1, bs, bs, if_neg one0, p_over, bs, bs, show (ovr vS vD') 0 2 = nI S'.2.2.1 from (ovr_rc (v := vS) q2 q4).2.2.1]
    · unfold F_X8_show
      rw [a2, bs, if_neg one0, show ∀ K, F_X8_show_L32 N K N (0 : Int32) (up2 w 0 8 0) = K (upA (up2 w 0 8 0) 4 g) from g1, k2, t2, show (upA (up2 w 0 8 0) 4 g) 4 2 = nI S'.2.2.1 from hrm.2.2.1]
    · show RRow (vW 1) (vW 2) gW (w 1) (w 2) (w 3)
      rw [o1 1 (by decide) (by decide), o1 2 (by decide) (by decide), o1 3 (by decide) (by decide)]; exact hr
    · show vR 0 10 = w 0 3
      rw [o2 3 (by omega)]; exact hs
    · show vT' 0 3 = w 0 9
      rw [o2 9 (by omega)]; exact q1
    · show RIm vI (w 12 0) (fun i => w 13 i) ∧ RIm vJ (w 12 1) (fun i => w 13 (55 + i))
      rw [o1 12 (by decide) (by decide), o1 13 (by decide) (by decide)]; exact hI
    · show RAsk vK (w 0 24) (w 14) ∧ ((1 : Int32) = 0 → _)
      rw [o2 24 (by omega), o1 14 (by decide) (by decide)]
      exact ⟨hk.1, fun q => absurd q one0⟩
