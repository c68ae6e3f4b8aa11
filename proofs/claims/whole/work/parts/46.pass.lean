/-! a tap, in parts: time passes -/
def sP (S : Sh) (t c : Int32) (p h : Nat → Int32) : Sh := (fun i => if i = 2 then t else if i = 3 then c else S.1 i, fun k s => if k = 5 then p s else if k = 6 then h s else S.2.1 k s, S.2.2.1, S.2.2.2.1, S.2.2.2.2)
theorem rcP {v w : SV} {S : Sh} {t c : Int32} {p h : Nat → Int32} (hc : RC v S) (h0 : ∀ k, k < 5 → w 0 k = v 0 k) (h5 : w 0 5 = t) (h6 : w 0 6 = c) (hk : ∀ k, ¬ k = 0 → ¬ k = 6 → ¬ k = 7 → w k = v k) (hp : ∀ i, i < S.2.2.2.1 → w 6 i = p i ∧ w 7 i = h i) : RC w (sP S t c p h) := by
  obtain ⟨a0, a1, a2, a3, a4, a5, a6, a7, a8, a9⟩ := hc
  refine ⟨(h0 0 (by omega)).trans a0, (h0 1 (by omega)).trans a1, (h0 2 (by omega)).trans a2, (h0 3 (by omega)).trans a3, (h0 4 (by omega)).trans a4, h5, h6, fun i hi => ?_, fun i hi => ?_, fun i hi => ?_⟩
  · rw [hk 1 (by decide) (by decide) (by decide), hk 2 (by decide) (by decide) (by decide), hk 3 (by decide) (by decide) (by decide), hk 4 (by decide) (by decide) (by decide)]
    exact a7 i hi
  · obtain ⟨b1, b2, b3⟩ := a8 i hi
    obtain ⟨c1, c2⟩ := hp i hi
    exact ⟨by rw [hk 5 (by decide) (by decide) (by decide)]; exact b1, c1, c2⟩
  · rw [hk 8 (by decide) (by decide) (by decide)]
    exact a9 i hi
theorem rmP {m f : Nat → Int32} {S : Sh} {t c : Int32} {p h : Nat → Int32} (hm : RM m S) (h1 : S.2.2.1 ≤ 6) (h2 : S.2.2.2.2.length ≤ 6) (h3 : S.2.2.2.1 ≤ 6) (hk : ∀ i, ¬ i = 4 → ¬ i = 5 → i < 43 → f i = m i) (h4 : f 4 = t) (h5 : f 5 = c) (hp : ∀ i, i < S.2.2.2.1 → f (43 + i) = p i ∧ f (49 + i) = h i) : RM f (sP S t c p h) := by
  obtain ⟨a0, a1, a2, a3, a4, a5, a6, a7, a8, a9⟩ := hm
  refine ⟨(hk 0 (by omega) (by omega) (by omega)).trans a0, (hk 1 (by omega) (by omega) (by omega)).trans a1, (hk 2 (by omega) (by omega) (by omega)).trans a2, (hk 3 (by omega) (by omega) (by omega)).trans a3, (hk 6 (by omega) (by omega) (by omega)).trans a4, h4, h5, fun i hi => ?_, fun i hi => ?_, fun i hi => ?_⟩
  · have hi : i < S.2.2.1 := hi
    obtain ⟨b1, b2, b3, b4⟩ := a7 i hi
    exact ⟨(hk (7 + i) (by omega) (by omega) (by omega)).trans b1, (hk (13 + i) (by omega) (by omega) (by omega)).trans b2, (hk (19 + i) (by omega) (by omega) (by omega)).trans b3, (hk (25 + i) (by omega) (by omega) (by omega)).trans b4⟩
  · have hi : i < S.2.2.2.1 := hi
    obtain ⟨b1, b2, b3⟩ := a8 i hi
    obtain ⟨c1, c2⟩ := hp i hi
    exact ⟨(hk (37 + i) (by omega) (by omega) (by omega)).trans b1, c1, c2⟩
  · have hi : i < S.2.2.2.2.length := hi
    exact (hk (31 + i) (by omega) (by omega) (by omega)).trans (a9 i hi)
theorem siP {B B2 : Nat} {S : Sh} {t c : Int32} {p h : Nat → Int32} (hi : SInv B S) (ht : ∃ T C, t = nI T ∧ c = nI C ∧ T ≤ B2 ∧ C ≤ 54 * T) (hp : ∀ i, i < S.2.2.2.1 → (∃ k, k ≤ 99 ∧ p i = nI k) ∧ (∃ k, k ≤ 2 ∧ h i = nI k) ∧ (h i = 0 → ¬ p i = 0)) : SInv B2 (sP S t c p h) := by
  obtain ⟨a1, a2, a3, a4, a5, a6, a7, a8, a9⟩ := hi
  refine ⟨a1, a2, a3, a4, a5, fun i hI => ?_, a7, a8, ht⟩
  obtain ⟨b1, b2, b3, b4⟩ := a6 i hI
  obtain ⟨c1, c2, c3⟩ := hp i hI
  exact ⟨b1, c1, c2, c3⟩
def pPat (S : Sh) (s : Nat) : Int32 := if S.2.1 6 s = 0 then S.2.1 5 s - 1 else S.2.1 5 s
def pHow (S : Sh) (s : Nat) : Int32 := if S.2.1 6 s = 0 then (if S.2.1 5 s - 1 = 0 then 2 else 0) else S.2.1 6 s
def passS (S : Sh) : Sh := sP S (S.1 2 + 1) (S.1 3) (pPat S) (pHow S)
theorem ab6 {v : SV} {s q : Nat} {X Y : Int32} : (up2 (up2 v 6 s X) 7 s Y) 6 q = if q = s then X else v 6 q := by
  show upd (v 6) s X q = _
  by_cases w : q = s
  · rw [w, upd_s, if_pos rfl]
  · rw [upd_n w, if_neg w]
theorem ab7 {v : SV} {s q : Nat} {X Y : Int32} : (up2 (up2 v 6 s X) 7 s Y) 7 q = if q = s then Y else v 7 q := by
  show upd (v 7) s Y q = _
  by_cases w : q = s
  · rw [w, upd_s, if_pos rfl]
  · rw [upd_n w, if_neg w]
theorem pq43 {v : SV} {s q : Nat} {X Y : Int32} (hs : s < 6) (hq : q < 6) : (up2 (up2 v 4 (43 + s) X) 4 (49 + s) Y) 4 (43 + q) = if q = s then X else v 4 (43 + q) := by
  show upd (upd (v 4) (43 + s) X) (49 + s) Y (43 + q) = _
  by_cases w : q = s
  · rw [w, upd_n (by omega), upd_s, if_pos rfl]
  · rw [upd_n (by omega), upd_n (by omega), if_neg w]
theorem pq49 {v : SV} {s q : Nat} {X Y : Int32} (hs : s < 6) (hq : q < 6) : (up2 (up2 v 4 (43 + s) X) 4 (49 + s) Y) 4 (49 + q) = if q = s then Y else v 4 (49 + q) := by
  show upd (upd (v 4) (43 + s) X) (49 + s) Y (49 + q) = _
  by_cases w : q = s
  · rw [w, upd_s, if_pos rfl]
  · rw [upd_n (by omega), upd_n (by omega), if_neg w]
theorem stepP {s q T : Nat} {P : Prop} (w : ¬ q = s) : (s + 1 ≤ q ∧ q < T ∧ P) = (s ≤ q ∧ q < T ∧ P) := propext ⟨fun h => ⟨by have := h.1; omega, h.2⟩, fun h => ⟨by have := h.1; omega, h.2⟩⟩
theorem l_passC {N T : Nat} {K : SV → Option SV} (hT : T ≤ 6) : ∀ d s n v, s + d = T → v 0 3 = nI T → (∀ q, s ≤ q → q < T → v 7 q = 0 → ∃ k, 1 ≤ k ∧ k ≤ 99 ∧ v 6 q = nI k) → d < n → ∃ w, F_X5_passTime_L2 N K n (nI s) v = K w ∧ (∀ k, ¬ k = 6 → ¬ k = 7 → w k = v k) ∧ ∀ q, w 6 q = (if s ≤ q ∧ q < T ∧ v 7 q = 0 then v 6 q - 1 else v 6 q) ∧ w 7 q = (if s ≤ q ∧ q < T ∧ v 7 q = 0 then (if v 6 q - 1 = 0 then 2 else 0) else v 7 q) := by
  intro d
  induction d with
  | zero =>
    intro s n v hs h3 hq hn
    obtain ⟨n, rfl⟩ : ∃ m, n = m + 1 := ⟨n - 1, by omega⟩
    refine ⟨v, ?_, fun _ _ _ => rfl, fun q => ⟨(if_neg (fun z => by have := z.1; have := z.2.1; omega)).symm, (if_neg (fun z => by have := z.1; have := z.2.1; omega)).symm⟩⟩
    rw [F_X5_passTime_L2, h3, if_neg (nI_nlt (by omega) (by omega))]
  | succ d ih =>
    intro s n v hs h3 hq hn
    obtain ⟨n, rfl⟩ : ∃ m, n = m + 1 := ⟨n - 1, by omega⟩
    have hk1 : ∀ {β : Type} {o : Option β}, chk 6 (nI s) o = o := chk_in (by omega) (by decide)
    have c1 : (nI s).toNatClampNeg = s := nI_clamp (by omega)
    have e : F_X5_passTime_L2 N K (n + 1) (nI s) v = if v 7 s = 0 then (if 0 < v 6 s - 1 then F_X5_passTime_L2 N K n (nI (s + 1)) (up2 (up2 v 6 s (v 6 s - 1)) 7 s 0) else F_X5_passTime_L2 N K n (nI (s + 1)) (up2 (up2 v 6 s (v 6 s - 1)) 7 s 2)) else F_X5_passTime_L2 N K n (nI (s + 1)) v := by
      rw [F_X5_passTime_L2, h3, if_pos (nI_lt (by omega) (by omega)), nI_1]
      simp only [jn_eq, hk1, c1, upd_s]
    have hT2 : s < T := by omega
    by_cases z : v 7 s = 0
    · obtain ⟨k, k1, k2, k3⟩ := hq s (Nat.le_refl _) hT2 z
      have e2 : F_X5_passTime_L2 N K (n + 1) (nI s) v = F_X5_passTime_L2 N K n (nI (s + 1)) (up2 (up2 v 6 s (v 6 s - 1)) 7 s (if v 6 s - 1 = 0 then 2 else 0)) := by
        rw [e, if_pos z, k3, nI_s1 k1]
        by_cases h0 : k - 1 = 0
        · rw [h0, if_neg (by decide), if_pos (show nI 0 = 0 from rfl)]
        · rw [if_pos (show (0 : Int32) < nI (k - 1) from nI_lt (a := 0) (by omega) (by omega)), if_neg (nI_ne0 (by omega) (by omega))]
      obtain ⟨w, f1, f2, f3⟩ := ih (s + 1) n (up2 (up2 v 6 s (v 6 s - 1)) 7 s (if v 6 s - 1 = 0 then 2 else 0)) (by omega) h3 (fun q h1 h2 h4 => by
        rw [ab7, if_neg (by omega)] at h4
        rw [ab6, if_neg (by omega)]
        exact hq q (by omega) h2 h4) (by omega)
      refine ⟨w, by rw [e2, f1], fun k h6 h7 => by rw [f2 k h6 h7, up2_k h7, up2_k h6], fun q => ?_⟩
      obtain ⟨g1, g2⟩ := f3 q
      rw [g1, g2, ab6, ab7]
      by_cases w : q = s
      · subst w
        have hq1 : ¬ q + 1 ≤ q := by omega
        simp [z, hT2, hq1]
      · simp only [if_neg w, stepP w]
        exact ⟨trivial, trivial⟩
    · obtain ⟨w, f1, f2, f3⟩ := ih (s + 1) n v (by omega) h3 (fun q h1 h2 h4 => hq q (by omega) h2 h4) (by omega)
      refine ⟨w, by rw [e, if_neg z, f1], f2, fun q => ?_⟩
      obtain ⟨g1, g2⟩ := f3 q
      rw [g1, g2]
      by_cases w : q = s
      · subst w
        simp [z]
      · simp only [stepP w]
        exact ⟨trivial, trivial⟩
theorem l_passM {N T : Nat} {K : SV → Option SV} (hT : T ≤ 6) : ∀ d s n v, s + d = T → v 4 3 = nI T → d < n → ∃ f, F_X8_tapWith_L176 N K n (nI s) v = K (upA v 4 f) ∧ (∀ i, i < 43 → f i = v 4 i) ∧ ∀ q, q < 6 → f (43 + q) = (if s ≤ q ∧ q < T ∧ v 4 (49 + q) = 0 then v 4 (43 + q) - 1 else v 4 (43 + q)) ∧ f (49 + q) = (if s ≤ q ∧ q < T ∧ v 4 (49 + q) = 0 then (if v 4 (43 + q) - 1 = 0 then 2 else 0) else v 4 (49 + q)) := by
  intro d
  induction d with
  | zero =>
    intro s n v hs h3 hn
    obtain ⟨n, rfl⟩ : ∃ m, n = m + 1 := ⟨n - 1, by omega⟩
    refine ⟨v 4, ?_, fun _ _ => rfl, fun q _ => ⟨(if_neg (fun z => by have := z.1; have := z.2.1; omega)).symm, (if_neg (fun z => by have := z.1; have := z.2.1; omega)).symm⟩⟩
    rw [F_X8_tapWith_L176, k3, t3, h3, if_neg (nI_nlt (by omega) (by omega)), upA_self]
  | succ d ih =>
    intro s n v hs h3 hn
    obtain ⟨n, rfl⟩ : ∃ m, n = m + 1 := ⟨n - 1, by omega⟩
    have hk1 : ∀ {β : Type} {o : Option β}, chk 55 (nI (49 + s)) o = o := chk_in (by omega) (by decide)
    have hk2 : ∀ {β : Type} {o : Option β}, chk 55 (nI (43 + s)) o = o := chk_in (by omega) (by decide)
    have c1 : (nI (49 + s)).toNatClampNeg = 49 + s := nI_clamp (by omega)
    have c2 : (nI (43 + s)).toNatClampNeg = 43 + s := nI_clamp (by omega)
    have e : F_X8_tapWith_L176 N K (n + 1) (nI s) v = if v 4 (49 + s) = 0 then (if v 4 (43 + s) - 1 = 0 then F_X8_tapWith_L176 N K n (nI (s + 1)) (up2 (up2 v 4 (43 + s) (v 4 (43 + s) - 1)) 4 (49 + s) 2) else F_X8_tapWith_L176 N K n (nI (s + 1)) (up2 (up2 v 4 (43 + s) (v 4 (43 + s) - 1)) 4 (49 + s) 0)) else F_X8_tapWith_L176 N K n (nI (s + 1)) v := by
      rw [F_X8_tapWith_L176, k3, t3, h3, if_pos (nI_lt (by omega) (by omega)), show (49 : Int32) = nI 49 from rfl, show (43 : Int32) = nI 43 from rfl, nI_add, nI_add, nI_1]
      simp only [jn_eq, hk1, hk2, c1, c2, upd_s]
    have hT2 : s < T := by omega
    by_cases z : v 4 (49 + s) = 0
    · have e2 : F_X8_tapWith_L176 N K (n + 1) (nI s) v = F_X8_tapWith_L176 N K n (nI (s + 1)) (up2 (up2 v 4 (43 + s) (v 4 (43 + s) - 1)) 4 (49 + s) (if v 4 (43 + s) - 1 = 0 then 2 else 0)) := by
        rw [e, if_pos z]
        by_cases h0 : v 4 (43 + s) - 1 = 0
        · rw [if_pos h0, if_pos h0]
        · rw [if_neg h0, if_neg h0]
      obtain ⟨f, f1, f2, f3⟩ := ih (s + 1) n (up2 (up2 v 4 (43 + s) (v 4 (43 + s) - 1)) 4 (49 + s) (if v 4 (43 + s) - 1 = 0 then 2 else 0)) (by omega) (by
        show upd (upd (v 4) _ _) _ _ 3 = _
        rw [upd_n (by omega), upd_n (by omega)]
        exact h3) (by omega)
      refine ⟨f, ?_, fun i hi => ?_, fun q hq => ?_⟩
      · rw [e2, f1]
        unfold up2
        rw [upA_upA, upA_upA]
      · rw [f2 i hi]
        show upd (upd (v 4) _ _) _ _ i = _
        rw [upd_n (by omega), upd_n (by omega)]
      · obtain ⟨g1, g2⟩ := f3 q hq
        rw [g1, g2, pq43 (by omega) hq, pq49 (by omega) hq]
        by_cases w : q = s
        · subst w
          have hq1 : ¬ q + 1 ≤ q := by omega
          simp [z, hT2, hq1]
        · simp only [if_neg w, stepP w]
          exact ⟨trivial, trivial⟩
    · obtain ⟨f, f1, f2, f3⟩ := ih (s + 1) n v (by omega) h3 (by omega)
      refine ⟨f, by rw [e, if_neg z, f1], f2, fun q hq => ?_⟩
      obtain ⟨g1, g2⟩ := f3 q hq
      rw [g1, g2]
      by_cases w : q = s
      · subst w
        simp [z]
      · simp only [stepP w]
        exact ⟨trivial, trivial⟩
theorem pat_ok {B : Nat} {S : Sh} (hi : SInv B S) {q : Nat} (hq : q < S.2.2.2.1) (h0 : S.2.1 6 q = 0) : ∃ k, 1 ≤ k ∧ k ≤ 99 ∧ S.2.1 5 q = nI k := by
  obtain ⟨-, ⟨k, k1, k2⟩, -, h⟩ := hi.2.2.2.2.2.1 q hq
  refine ⟨k, ?_, k1, k2⟩
  have := h h0
  rw [k2] at this
  by_cases z : k = 0
  · subst z; exact absurd rfl this
  · omega
theorem p_passC {N : Nat} (hN : 3000 ≤ N) {v : SV} {S : Sh} {B : Nat} (hc : RC v S) (hi : SInv B S) : ∃ w, F_X5_passTime N v = some w ∧ RC w (passS S) ∧ w 0 7 = v 0 7 ∧ w 0 8 = v 0 8 ∧ w 0 9 = v 0 9 := by
  have h6 := hi.2.1
  have h8 := hc.2.2.2.2.2.2.2.2.1
  obtain ⟨w, f1, f2, f3⟩ := l_passC (N := N) (K := fun (v_55 : SV) => some (up2 v_55 0 5 ((v_55 0 5) + (1 : Int32)))) h6 S.2.2.2.1 0 N v (by omega) hc.2.2.2.1 (fun q _ h2 h3 => by
    obtain ⟨b1, b2, b3⟩ := h8 q h2
    rw [b3] at h3
    rw [b2]
    exact pat_ok hi h2 h3) (by omega)
  have w0 : w 0 = v 0 := f2 0 (by decide) (by decide)
  refine ⟨up2 w 0 5 (w 0 5 + 1), f1, rcP hc (fun k hk => ?_) ?_ ?_ (fun k h0 h6 h7 => ?_) (fun i hI => ?_), ?_, ?_, ?_⟩
  · rw [up2_j (by omega), w0]
  · rw [up2_s, w0, hc.2.2.2.2.2.1]
  · rw [up2_j (by omega), w0, hc.2.2.2.2.2.2.1]
  · rw [up2_k h0, f2 k h6 h7]
  · obtain ⟨b1, b2, b3⟩ := h8 i hI
    obtain ⟨g1, g2⟩ := f3 i
    show w 6 i = _ ∧ w 7 i = _
    rw [g1, g2, b2, b3]
    unfold pPat pHow
    by_cases z : S.2.1 6 i = 0
    · simp [z, hI]
    · simp [z]
  · rw [up2_j (by omega), w0]
  · rw [up2_j (by omega), w0]
  · rw [up2_j (by omega), w0]
theorem p_passM {N : Nat} (hN : 3000 ≤ N) {v : SV} {S : Sh} {B : Nat} (hm : RM (v 4) S) (hi : SInv B S) : ∃ f, F_X8_tapWith_L176 N (fun (v_243 : SV) => chk 55 (4 : Int32) (chk 55 (4 : Int32) (some (up2 v_243 4 ((4 : Int32).toNatClampNeg) (((v_243 4) ((4 : Int32).toNatClampNeg)) + (1 : Int32)))))) N (0 : Int32) v = some (upA v 4 f) ∧ RM f (passS S) := by
  have h6 := hi.2.1
  have h1 := hi.1
  have hl := len6 hi
  have h8 := hm.2.2.2.2.2.2.2.2.1
  obtain ⟨f, f1, f2, f3⟩ := l_passM (N := N) (K := fun (v_243 : SV) => chk 55 (4 : Int32) (chk 55 (4 : Int32) (some (up2 v_243 4 ((4 : Int32).toNatClampNeg) (((v_243 4) ((4 : Int32).toNatClampNeg)) + (1 : Int32)))))) h6 S.2.2.2.1 0 N v (by omega) hm.2.2.2.1 (by omega)
  refine ⟨upd f 4 (f 4 + 1), ?_, rmP hm h1 (by omega) h6 (fun i a b c => ?_) ?_ ?_ (fun i hI => ?_)⟩
  · rw [show F_X8_tapWith_L176 N _ N (0 : Int32) v = _ from f1, k4, k4, t4]
    unfold up2
    rw [upA_upA]
    rfl
  · rw [upd_n a, f2 i c]
  · rw [upd_s, f2 4 (by omega), hm.2.2.2.2.2.1]
  · rw [upd_n (by omega), f2 5 (by omega), hm.2.2.2.2.2.2.1]
  · obtain ⟨b1, b2, b3⟩ := h8 i hI
    obtain ⟨g1, g2⟩ := f3 i (by omega)
    rw [upd_n (by omega), upd_n (by omega), g1, g2, b2, b3]
    unfold pPat pHow
    by_cases z : S.2.1 6 i = 0
    · simp [z, hI]
    · simp [z]
theorem siPass {B T C : Nat} {S : Sh} (hi : SInv B S) (hT : S.1 2 = nI T) (hC : S.1 3 = nI C) (hTC : C ≤ 54 * (T + 1)) {B2 : Nat} (hB : T + 1 ≤ B2) : SInv B2 (passS S) := by
  refine siP hi ⟨T + 1, C, by rw [hT, nI_1], hC, hB, hTC⟩ (fun i hI => ?_)
  unfold pPat pHow
  by_cases z : S.2.1 6 i = 0
  · obtain ⟨k, k1, k2, k3⟩ := pat_ok hi hI z
    rw [if_pos z, if_pos z, k3, nI_s1 k1]
    refine ⟨⟨k - 1, by omega, rfl⟩, ?_, fun h => ?_⟩
    · by_cases q : nI (k - 1) = 0
      · rw [if_pos q]; exact ⟨2, by omega, rfl⟩
      · rw [if_neg q]; exact ⟨0, by omega, rfl⟩
    · by_cases q : nI (k - 1) = 0
      · rw [if_pos q] at h; exact absurd h (by decide)
      · exact q
  · obtain ⟨-, b2, b3, -⟩ := hi.2.2.2.2.2.1 i hI
    rw [if_neg z, if_neg z]
    exact ⟨b2, b3, fun h => absurd h z⟩
