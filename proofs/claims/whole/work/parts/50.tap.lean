/-! a tap: class and model in step -/
def nxI : Option Nat → Int32
  | none => -1000000
  | some j => nI j
def tapS (S : Sh) : Option Nat → Sh
  | none => passS S
  | some j => handS S j
def tapG (S : Sh) : Option Nat → Nat
  | none => 0
  | some j => bitN (gB S j) S.2.2.2.1
def tapA (S : Sh) : Option Nat → Nat
  | none => 0
  | some j => apN S j
theorem siMono {B B2 : Nat} {S : Sh} (hi : SInv B S) (h : B ≤ B2) : SInv B2 S := by
  obtain ⟨a1, a2, a3, a4, a5, a6, a7, a8, T, C, b1, b2, b3, b4⟩ := hi
  exact ⟨a1, a2, a3, a4, a5, a6, a7, a8, T, C, b1, b2, by omega, b4⟩
theorem siTap {B : Nat} {S : Sh} {o : Option Nat} (hi : SInv B S) (ho : ∀ j, o = some j → j ∈ S.2.2.2.2) : SInv (B + 1) (tapS S o) := by
  cases o with
  | none => exact siPs hi
  | some j => exact siHand hi (hi.2.2.2.1 j (ho j rfl))
theorem tap_th {S : Sh} {o : Option Nat} : (tapS S o).2.2.1 = S.2.2.1 ∧ (tapS S o).2.2.2.1 = S.2.2.2.1 := by
  cases o with
  | none => exact ⟨rfl, rfl⟩
  | some j => exact ⟨rfl, rfl⟩
theorem p_tap {N : Nat} (hN : 3000 ≤ N) {v vM : SV} {S : Sh} {B : Nat} (hc : RC v S) (hm : RM (vM 4) S) (hi : SInv B S) : ∃ o : Option Nat, (∀ j, o = some j → j ∈ S.2.2.2.2) ∧ F_X8_nextThing N vM = some (nxI o) ∧ (∃ w, F_X5_tapOnce N v = some w ∧ RC w (tapS S o) ∧ w 0 7 = nxI o ∧ w 0 8 = nI (tapG S o) ∧ w 0 9 = nI (tapA S o)) ∧ ∃ f, F_X8_oneTap N vM = some (upA vM 4 f) ∧ RM f (tapS S o) := by
  have h1 := hi.1
  obtain ⟨y, y1, y2, hy⟩ := p_next hN hc hm hi
  rcases hy with rfl | ⟨j, hj, rfl⟩
  · refine ⟨none, fun j h => absurd h (by simp), y2, ?_, ?_⟩
    · obtain ⟨w, w1, w2, w3, w4, w5⟩ := p_passC hN (v := up2 (up2 (up2 v 0 7 (-1000000 : Int32)) 0 8 (0 : Int32)) 0 9 (0 : Int32)) hc hi
      refine ⟨w, ?_, w2, w3, w4, w5⟩
      unfold F_X5_tapOnce
      rw [y1, bs]
      unfold F_X5_isThing
      rw [if_pos (by decide), bs, if_pos rfl, w1]
      rfl
    · obtain ⟨f, f1, f2⟩ := p_passM hN hm hi
      refine ⟨f, ?_, f2⟩
      unfold F_X8_oneTap
      rw [y2, bs]
      unfold F_X8_tapWith
      simp only [jn_eq]
      rw [if_pos (by decide), f1]
      rfl
  · have hjl := hi.2.2.2.1 j hj
    refine ⟨some j, fun k h => by rw [← Option.some.inj h]; exact hj, y2, ?_, ?_⟩
    · obtain ⟨w, w1, w2, w3, w4, w5⟩ := p_hand hN hc hi hjl
      refine ⟨w, ?_, w2, w3, w4, w5⟩
      unfold F_X5_tapOnce
      rw [y1, bs]
      unfold F_X5_isThing
      rw [hc.2.2.1, if_neg (nI_pos (by omega)), if_pos (nI_lt hjl (by omega)), bs, if_neg one0, w1]
      rfl
    · obtain ⟨f, f1, f2⟩ := p_tapM hN hm hi hj 1
      refine ⟨f, ?_, ?_⟩
      · unfold F_X8_oneTap
        rw [y2, bs, f1]
        rfl
      · have e : (if cbk S j = true ∧ ¬ (1 : Int32) = 0 then wo S.2.2.2.2 j ++ [j] else wo S.2.2.2.2 j) = lst S j := by
          unfold lst
          by_cases q : cbk S j = true
          · rw [if_pos (And.intro (q) (one0)), if_pos q]
          · rw [if_neg (fun z => q z.1), if_neg q]
        rw [e] at f2
        exact f2
def idle (S : Sh) : Prop := ∀ s, s < S.2.2.2.1 → ¬ S.2.1 6 s = 0
def sameA (S1 S2 : Sh) : Prop := S2.2.2.1 = S1.2.2.1 ∧ S2.2.2.2.1 = S1.2.2.2.1 ∧ S2.1 3 = S1.1 3 ∧ ∀ s, s < S1.2.2.2.1 → S2.2.1 6 s = S1.2.1 6 s
theorem sameA_tr {S1 S2 S3 : Sh} (a : sameA S1 S2) (b : sameA S2 S3) : sameA S1 S3 := ⟨b.1.trans a.1, b.2.1.trans a.2.1, b.2.2.1.trans a.2.2.1, fun s hs => (b.2.2.2 s (by rw [a.2.1]; exact hs)).trans (a.2.2.2 s hs)⟩
theorem idle_w {S : Sh} (h : idle S) (lab : Int32) : ∀ s, s < S.2.2.2.1 → wB S lab s = false := fun s hs => by
  unfold wB
  rw [decide_eq_false (h s hs)]
  rfl
theorem idle_g {S : Sh} (h : idle S) (j : Nat) : ∀ s, s < S.2.2.2.1 → gB S j s = false := fun s hs => by
  unfold gB
  by_cases hb : cbk S j = true
  · rw [if_pos hb]
  · rw [if_neg hb]
    by_cases k3 : S.2.1 0 j = 3
    · rw [if_pos k3]; exact idle_w h _ s hs
    · rw [if_neg k3]; unfold fstB; rw [idle_w h _ s hs]; rfl
theorem idle_tap {S : Sh} {o : Option Nat} (h : idle S) : sameA S (tapS S o) := by
  refine ⟨tap_th.1, tap_th.2, ?_, fun s hs => ?_⟩
  · cases o with
    | none => rfl
    | some j =>
      show S.1 3 + nI (apN S j) = S.1 3
      unfold apN
      rw [(cnt_false (p := gB S j) (n := S.2.2.2.1) (idle_g h j)).1, Nat.mul_zero]
      exact Int32.add_zero _
  · cases o with
    | none =>
      show pHow S s = _
      unfold pHow
      rw [if_neg (h s hs)]
    | some j =>
      show pHow (preS S j) s = _
      have e : (preS S j).2.1 6 s = S.2.1 6 s := by
        show h1S S j s = _
        unfold h1S
        rw [idle_g h j s hs]
        rfl
      unfold pHow
      rw [e, if_neg (h s hs)]
theorem idle_same {S1 S2 : Sh} (h : idle S1) (a : sameA S1 S2) : idle S2 := fun s hs => by
  rw [a.2.1] at hs
  rw [a.2.2.2 s hs]
  exact h s hs
theorem bit_zero {p : Nat → Bool} : ∀ {n : Nat}, bitN p n = 0 → ∀ i, i < n → p i = false
  | 0, _, i, hi => absurd hi (Nat.not_lt_zero i)
  | n + 1, h, i, hi => by
    rw [bitN] at h
    by_cases q : p n = true
    · rw [if_pos q] at h
      have := Nat.two_pow_pos n
      omega
    · rw [if_neg q] at h
      by_cases e : i = n
      · rw [e]; exact Bool.not_eq_true _ ▸ q
      · exact bit_zero (n := n) (by omega) i (by omega)
theorem p_tap1 {N : Nat} (hN : 3000 ≤ N) {vM : SV} {S : Sh} {B : Nat} (hm : RM (vM 4) S) (hi : SInv B S) : ∃ o f, (∀ j, o = some j → j ∈ S.2.2.2.2) ∧ F_X8_oneTap N vM = some (upA vM 4 f) ∧ RM f (tapS S o) := by
  obtain ⟨o, ho, -, -, f, f1, f2⟩ := p_tap hN (mkV_rc S) hm hi
  exact ⟨o, f, ho, f1, f2⟩
theorem l_goIdle {N n0 : Nat} (hN : 3000 ≤ N) (h60 : n0 ≤ 60) : ∀ d t n vM S B, t + d = n0 → RM (vM 4) S → SInv B S → idle S → d < n → ∃ f S2, F_X8_goOn_L2 N (nI n0) n (nI t) vM = some (upA vM 4 f) ∧ RM f S2 ∧ SInv (B + d) S2 ∧ sameA S S2 := by
  intro d
  induction d with
  | zero =>
    intro t n vM S B ht hm hi hx hn
    obtain ⟨n, rfl⟩ : ∃ m, n = m + 1 := ⟨n - 1, by omega⟩
    refine ⟨vM 4, S, ?_, hm, hi, rfl, rfl, rfl, fun _ _ => rfl⟩
    rw [F_X8_goOn_L2, if_neg (nI_nlt (by omega) (by omega)), upA_self]
  | succ d ih =>
    intro t n vM S B ht hm hi hx hn
    obtain ⟨n, rfl⟩ : ∃ m, n = m + 1 := ⟨n - 1, by omega⟩
    obtain ⟨o, f, ho, f1, f2⟩ := p_tap1 hN hm hi
    have hs := idle_tap (o := o) hx
    obtain ⟨g, S2, g1, g2, g3, g4⟩ := ih (t + 1) n (upA vM 4 f) (tapS S o) (B + 1) (by omega) f2 (siTap hi ho) (idle_same hx hs) (by omega)
    refine ⟨g, S2, ?_, g2, siMono g3 (by omega), sameA_tr hs g4⟩
    rw [F_X8_goOn_L2, if_pos (nI_lt (by omega) (by omega)), f1, bs, nI_1, g1, upA_upA]
theorem l_while {N n0 : Nat} (hN : 3000 ≤ N) (h60 : n0 ≤ 60) : ∀ d t n n2 v vM S B, t + d = n0 → RC v S → RM (vM 4) S → SInv B S → d < n → d < n2 → ∃ w S1 f S2, F_X5_tapWhileOneWaits_L2 N (nI n0) n (nI t) v = some w ∧ RC w S1 ∧ F_X8_goOn_L2 N (nI n0) n2 (nI t) vM = some (upA vM 4 f) ∧ RM f S2 ∧ SInv (B + d) S1 ∧ SInv (B + d) S2 ∧ sameA S1 S2 ∧ S1.2.2.1 = S.2.2.1 ∧ S1.2.2.2.1 = S.2.2.2.1 := by
  intro d
  induction d with
  | zero =>
    intro t n n2 v vM S B ht hc hm hi hn hn2
    obtain ⟨n, rfl⟩ : ∃ m, n = m + 1 := ⟨n - 1, by omega⟩
    obtain ⟨n2, rfl⟩ : ∃ m, n2 = m + 1 := ⟨n2 - 1, by omega⟩
    refine ⟨v, S, vM 4, S, ?_, hc, ?_, hm, hi, hi, ⟨rfl, rfl, rfl, fun _ _ => rfl⟩, rfl, rfl⟩
    · rw [F_X5_tapWhileOneWaits_L2, if_neg (nI_nlt (by omega) (by omega))]
    · rw [F_X8_goOn_L2, if_neg (nI_nlt (by omega) (by omega)), upA_self]
  | succ d ih =>
    intro t n n2 v vM S B ht hc hm hi hn hn2
    obtain ⟨n, rfl⟩ : ∃ m, n = m + 1 := ⟨n - 1, by omega⟩
    have h6 := hi.2.1
    have hb64 := bit64 (hB S 0) h6
    have hlt : nI t < nI n0 := nI_lt (by omega) (by omega)
    by_cases hz : bitN (hB S 0) S.2.2.2.1 = 0
    · have hx : idle S := fun s hs h0 => by
        have := bit_zero hz s hs
        unfold hB at this
        rw [decide_eq_true h0] at this
        exact absurd this (by decide)
      obtain ⟨f, S2, g1, g2, g3, g4⟩ := l_goIdle hN h60 (d + 1) t n2 vM S B ht hm hi hx hn2
      refine ⟨v, S, f, S2, ?_, hc, g1, g2, siMono hi (by omega), g3, g4, rfl, rfl⟩
      rw [F_X5_tapWhileOneWaits_L2, if_pos hlt, p_seatsThat hN hc h6, bs, hz, if_pos (show nI 0 = 0 from rfl)]
    · obtain ⟨n2, rfl⟩ : ∃ m, n2 = m + 1 := ⟨n2 - 1, by omega⟩
      obtain ⟨o, ho, -, ⟨w, w1, w2, -⟩, f, f1, f2⟩ := p_tap hN hc hm hi
      obtain ⟨w', S1, g, S2, a1, a2, a3, a4, a5, a6, a7, a8, a9⟩ := ih (t + 1) n n2 w (upA vM 4 f) (tapS S o) (B + 1) (by omega) w2 f2 (siTap hi ho) (by omega) (by omega)
      refine ⟨w', S1, g, S2, ?_, a2, ?_, a4, siMono a5 (by omega), siMono a6 (by omega), a7, a8.trans tap_th.1, a9.trans tap_th.2⟩
      · rw [F_X5_tapWhileOneWaits_L2, if_pos hlt, p_seatsThat hN hc h6, bs, if_neg (nI_ne0 (by omega) (by omega)), w1, bs, nI_1, a1]
      · rw [F_X8_goOn_L2, if_pos hlt, f1, bs, nI_1, a3, upA_upA]
theorem p_while {N : Nat} (hN : 3000 ≤ N) {n0 : Nat} (h60 : n0 ≤ 60) {v vM : SV} {S : Sh} {B : Nat} (hc : RC v S) (hm : RM (vM 4) S) (hi : SInv B S) : ∃ w S1 f S2, F_X5_tapWhileOneWaits N v (nI n0) = some w ∧ RC w S1 ∧ F_X8_goOn N vM (nI n0) = some (upA vM 4 f) ∧ RM f S2 ∧ SInv (B + n0) S1 ∧ SInv (B + n0) S2 ∧ sameA S1 S2 ∧ S1.2.2.1 = S.2.2.1 ∧ S1.2.2.2.1 = S.2.2.2.1 := l_while hN h60 n0 0 N N v vM S B (by omega) hc hm hi (by omega) (by omega)
def stdV (S : Sh) (w : Int32) : Int32 := if w = 3 then S.1 3 else nI (bitN (hB S w) S.2.2.2.1)
theorem std_same {S1 S2 : Sh} (h : sameA S1 S2) (w : Int32) : stdV S2 w = stdV S1 w := by
  unfold stdV
  rw [h.2.2.1, h.2.1, bitN_cg (p := hB S2 w) (q := hB S1 w) (fun i hi => by unfold hB; rw [h.2.2.2 i hi])]
theorem p_stdC {N : Nat} (hN : 3000 ≤ N) {v : SV} {S : Sh} (h : RC v S) (h6 : S.2.2.2.1 ≤ 6) (w : Int32) : F_X5_standing N v w = some (stdV S w) := by
  unfold F_X5_standing stdV
  by_cases e : w = 3
  · rw [if_pos e, if_pos e, h.2.2.2.2.2.2.1]
  · rw [if_neg e, if_neg e, p_seatsThat hN h h6]; rfl
theorem p_stdM {N : Nat} (hN : 3000 ≤ N) {v : SV} {S : Sh} (hm : RM (v 4) S) (h6 : S.2.2.2.1 ≤ 6) (w : Int32) : F_X8_standing N v w = some (stdV S w) := by
  unfold F_X8_standing stdV
  by_cases e : w = 3
  · rw [if_pos e, if_pos e, k5, t5, hm.2.2.2.2.2.2.1]
  · rw [if_neg e, if_neg e, p_seatsOf hN hm h6]; rfl
/-! set aside, taken back -/
theorem l_aside {N : Nat} : ∀ d s n v, s + d = 55 → d < n → ∃ f, F_X8_putAside_L2 N n (nI s) v = some (upA v 9 f) ∧ ∀ i, f i = if s ≤ i ∧ i < 55 then v 4 i else v 9 i := by
  intro d
  induction d with
  | zero =>
    intro s n v hs hn
    obtain ⟨n, rfl⟩ : ∃ m, n = m + 1 := ⟨n - 1, by omega⟩
    have e : s = 55 := by omega
    subst e
    refine ⟨v 9, ?_, fun i => by rw [if_neg (by omega)]⟩
    rw [F_X8_putAside_L2, if_neg (by decide), upA_self]
  | succ d ih =>
    intro s n v hs hn
    obtain ⟨n, rfl⟩ : ∃ m, n = m + 1 := ⟨n - 1, by omega⟩
    obtain ⟨f, f1, f2⟩ := ih (s + 1) n (up2 v 9 s (v 4 s)) (by omega) (by omega)
    refine ⟨f, ?_, fun i => ?_⟩
    · rw [F_X8_putAside_L2, if_pos (show nI s < (55 : Int32) from nI_lt (b := 55) (by omega) (by decide)), chk_in (n := 55) (k := s) (by omega) (by decide), chk_in (n := 55) (k := s) (by omega) (by decide), nI_clamp (n := s) (by omega), nI_1, f1]
      unfold up2
      rw [upA_upA]
    · rw [f2 i]
      show (if s + 1 ≤ i ∧ i < 55 then v 4 i else upd (v 9) s (v 4 s) i) = _
      by_cases q : s + 1 ≤ i ∧ i < 55
      · rw [if_pos q, if_pos (by omega)]
      · rw [if_neg q]
        by_cases e : i = s
        · subst e
          rw [if_pos (by omega), upd_s]
        · rw [if_neg (by omega), upd_n e]
theorem l_tback {N : Nat} : ∀ d s n v, s + d = 55 → d < n → ∃ f, F_X8_takeBack_L2 N n (nI s) v = some (upA v 4 f) ∧ ∀ i, f i = if s ≤ i ∧ i < 55 then v 9 i else v 4 i := by
  intro d
  induction d with
  | zero =>
    intro s n v hs hn
    obtain ⟨n, rfl⟩ : ∃ m, n = m + 1 := ⟨n - 1, by omega⟩
    have e : s = 55 := by omega
    subst e
    refine ⟨v 4, ?_, fun i => by rw [if_neg (by omega)]⟩
    rw [F_X8_takeBack_L2, if_neg (by decide), upA_self]
  | succ d ih =>
    intro s n v hs hn
    obtain ⟨n, rfl⟩ : ∃ m, n = m + 1 := ⟨n - 1, by omega⟩
    obtain ⟨f, f1, f2⟩ := ih (s + 1) n (up2 v 4 s (v 9 s)) (by omega) (by omega)
    refine ⟨f, ?_, fun i => ?_⟩
    · rw [F_X8_takeBack_L2, if_pos (show nI s < (55 : Int32) from nI_lt (b := 55) (by omega) (by decide)), chk_in (n := 55) (k := s) (by omega) (by decide), chk_in (n := 55) (k := s) (by omega) (by decide), nI_clamp (n := s) (by omega), nI_1, f1]
      unfold up2
      rw [upA_upA]
    · rw [f2 i]
      show (if s + 1 ≤ i ∧ i < 55 then v 9 i else upd (v 4) s (v 9 s) i) = _
      by_cases q : s + 1 ≤ i ∧ i < 55
      · rw [if_pos q, if_pos (by omega)]
      · rw [if_neg q]
        by_cases e : i = s
        · subst e
          rw [if_pos (by omega), upd_s]
        · rw [if_neg (by omega), upd_n e]
theorem p_aside {N : Nat} (hN : 3000 ≤ N) (v : SV) : ∃ f, F_X8_putAside N v = some (upA v 9 f) ∧ ∀ i, i < 55 → f i = v 4 i := by
  obtain ⟨f, f1, f2⟩ := l_aside (N := N) 55 0 N v (by omega) (by omega)
  exact ⟨f, f1, fun i hi => by rw [f2 i, if_pos (by omega)]⟩
theorem p_tback {N : Nat} (hN : 3000 ≤ N) (v : SV) : ∃ f, F_X8_takeBack N v = some (upA v 4 f) ∧ ∀ i, i < 55 → f i = v 9 i := by
  obtain ⟨f, f1, f2⟩ := l_tback (N := N) 55 0 N v (by omega) (by omega)
  exact ⟨f, f1, fun i hi => by rw [f2 i, if_pos (by omega)]⟩
theorem rel_fore {vR vW vT vS vD vA vI vJ vE vF vP vQ vK vM gW : SV} {gA gL : Nat → SV} (h : Rel vR vW vT vS vD vA vI vJ vE vF vP vQ vK vM gW gA gL) {a g : Nat → Int32} (hg : ∀ i, i < 55 → g i = vM 4 i) (vE' vF' vP' vQ' : SV) (gL' : Nat → SV) : Rel vR vW vT vS vD vA vI vJ vE' vF' vP' vQ' vK (upA (upA vM 9 a) 4 g) gW gA gL' := by
  obtain ⟨hr, hs, ht, ⟨S, hc, hm, hi, hs4⟩, ha, hI, hk⟩ := h
  exact ⟨hr, hs, ht, ⟨S, hc, rm_cg hm hi hg, hi, hs4⟩, ha, hI, hk⟩
