/-! a thing handed up: the class -/
def cbk (S : Sh) (j : Nat) : Bool := decide (S.2.1 0 j = 5) || (decide (S.2.1 0 j = 4) && decide (bitN (hB S 1) S.2.2.2.1 = 0))
def gB (S : Sh) (j s : Nat) : Bool := if cbk S j = true then false else if S.2.1 0 j = 3 then wB S (S.2.1 1 j) s else fstB (wB S (S.2.1 1 j)) s
def apN (S : Sh) (j : Nat) : Nat := (if S.2.1 0 j = 2 then 2 * (S.2.1 3 j).toNatClampNeg else (S.2.1 3 j).toNatClampNeg) * cntP (gB S j) S.2.2.2.1
def h1S (S : Sh) (j s : Nat) : Int32 := if gB S j s = true then 1 else S.2.1 6 s
def p1S (S : Sh) (j s : Nat) : Int32 := if S.2.1 0 j = 5 ∧ h1S S j s = 0 then mn99 (S.2.1 5 s) (S.1 1) else S.2.1 5 s
def preS (S : Sh) (j : Nat) : Sh := sP S (S.1 2) (S.1 3 + nI (apN S j)) (p1S S j) (h1S S j)
def lst (S : Sh) (j : Nat) : List Nat := if cbk S j = true then wo S.2.2.2.2 j ++ [j] else wo S.2.2.2.2 j
def handS (S : Sh) (j : Nat) : Sh := sL (passS (preS S j)) (lst S j)
theorem cnt_false {p : Nat → Bool} : ∀ {n : Nat}, (∀ i, i < n → p i = false) → cntP p n = 0 ∧ bitN p n = 0
  | 0, _ => ⟨rfl, rfl⟩
  | n + 1, h => by
    obtain ⟨a, b⟩ := cnt_false (n := n) (fun i hi => h i (by omega))
    rw [cntP, bitN, a, b, h n (by omega)]
    exact ⟨rfl, rfl⟩
theorem gB_cb {S : Sh} {j : Nat} (h : cbk S j = true) (s : Nat) : gB S j s = false := by unfold gB; rw [if_pos h]
theorem ap_cb {S : Sh} {j : Nat} (h : cbk S j = true) : apN S j = 0 ∧ bitN (gB S j) S.2.2.2.1 = 0 := by
  obtain ⟨a, b⟩ := cnt_false (p := gB S j) (n := S.2.2.2.1) (fun i _ => gB_cb h i)
  unfold apN
  rw [a, b]
  exact ⟨Nat.mul_zero _, rfl⟩
theorem h1_cb {S : Sh} {j : Nat} (h : cbk S j = true) (s : Nat) : h1S S j s = S.2.1 6 s := by
  unfold h1S
  rw [gB_cb h s]
  rfl
theorem ap_le {B : Nat} {S : Sh} (hi : SInv B S) {j : Nat} (hj : j < S.2.2.1) : apN S j ≤ 54 := by
  obtain ⟨-, -, -, y, y1, y2⟩ := hi.2.2.2.2.1 j hj
  have h6 := hi.2.1
  have hy : (S.2.1 3 j).toNatClampNeg = y := by rw [y2]; exact nI_clamp (by omega)
  have hc := cntP_le (gB S j) S.2.2.2.1
  unfold apN
  rw [hy]
  by_cases h2 : S.2.1 0 j = 2
  · rw [if_pos h2]
    have h1 : cntP (gB S j) S.2.2.2.1 ≤ 1 := by
      by_cases hb : cbk S j = true
      · rw [(cnt_false (p := gB S j) (n := S.2.2.2.1) (fun i _ => gB_cb hb i)).1]; omega
      · have e : ∀ i, i < S.2.2.2.1 → gB S j i = fstB (wB S (S.2.1 1 j)) i := fun i _ => by
          unfold gB
          rw [if_neg hb, if_neg (by rw [h2]; decide)]
        rw [cntP_cg e]
        exact (fst_le _).1
    calc 2 * y * cntP (gB S j) S.2.2.2.1 ≤ 18 * 1 := Nat.mul_le_mul (by omega) h1
      _ ≤ 54 := by omega
  · rw [if_neg h2]
    calc y * cntP (gB S j) S.2.2.2.1 ≤ 9 * 6 := Nat.mul_le_mul y1 (by omega)
      _ ≤ 54 := by omega
theorem siPre {B : Nat} {S : Sh} (hi : SInv B S) {j : Nat} (hj : j < S.2.2.1) : SInv (B + 2 ^ 32) (preS S j) := by
  obtain ⟨T, C, hT, hC, h1, h2⟩ := hi.2.2.2.2.2.2.2.2
  have ha := ap_le hi hj
  refine siP hi ⟨T + 2 ^ 32, C + apN S j, ?_, by rw [hC, nI_add], by omega, by omega⟩ (fun i hI => ?_)
  · rw [hT, ← nI_add, show nI (2 ^ 32) = 0 from by decide, Int32.add_zero]
  · obtain ⟨-, ⟨p, p1, p2⟩, b3, b4⟩ := hi.2.2.2.2.2.1 i hI
    obtain ⟨e, e1, e2⟩ := hi.2.2.2.2.2.2.2.1
    have hh : h1S S j i = 0 → S.2.1 6 i = 0 := fun h => by
      unfold h1S at h
      by_cases g : gB S j i = true
      · rw [if_pos g] at h; exact absurd h (by decide)
      · rw [if_neg g] at h; exact h
    have hb : ∃ k, k ≤ 99 ∧ mn99 (nI p) (nI e) = nI k ∧ (1 ≤ p → 1 ≤ k) := by
      unfold mn99
      rw [nI_add]
      by_cases q : 99 < p + e
      · rw [if_pos (show (99 : Int32) < nI (p + e) from nI_lt (a := 99) q (by omega))]
        exact ⟨99, by omega, rfl, fun _ => by omega⟩
      · rw [if_neg (show ¬ (99 : Int32) < nI (p + e) from nI_nlt (a := 99) (by omega) (by omega))]
        exact ⟨p + e, by omega, rfl, fun _ => by omega⟩
    refine ⟨?_, ?_, fun h => ?_⟩
    · unfold p1S
      by_cases q : S.2.1 0 j = 5 ∧ h1S S j i = 0
      · rw [if_pos q, p2, e2]
        obtain ⟨k, k1, k2, -⟩ := hb
        exact ⟨k, k1, k2⟩
      · rw [if_neg q]
        exact ⟨p, p1, p2⟩
    · unfold h1S
      by_cases g : gB S j i = true
      · rw [if_pos g]; exact ⟨1, by omega, rfl⟩
      · rw [if_neg g]; exact b3
    · have h0 := hh h
      obtain ⟨k0, k1, k2, k3⟩ := pat_ok hi hI h0
      have ek : p = k0 := (nI_eq (by omega) (by omega)).mp (p2.symm.trans k3)
      unfold p1S
      by_cases q : S.2.1 0 j = 5 ∧ h1S S j i = 0
      · rw [if_pos q, p2, e2]
        obtain ⟨k, g1, g2, g3⟩ := hb
        rw [g2]
        exact nI_ne0 (by have := g3 (by omega); omega) (by omega)
      · rw [if_neg q, k3]
        exact nI_ne0 (by omega) (by omega)
theorem siHand {B : Nat} {S : Sh} (hi : SInv B S) {j : Nat} (hj : j < S.2.2.1) : SInv (B + 1) (handS S j) := by
  obtain ⟨T, C, hT, hC, h1, h2⟩ := hi.2.2.2.2.2.2.2.2
  have ha := ap_le hi hj
  have hp : SInv (B + 1) (passS (preS S j)) := siPass (T := T) (C := C + apN S j) (siPre hi hj) hT (show S.1 3 + nI (apN S j) = _ by rw [hC, nI_add]) (by omega) (by omega)
  refine siL hp ?_ (fun x hx => ?_)
  · unfold lst
    by_cases q : cbk S j = true
    · rw [if_pos q]
      exact List.nodup_append.mpr ⟨wo_nd hi.2.2.1, List.nodup_cons.mpr ⟨List.not_mem_nil, List.nodup_nil⟩, fun a ha b hb => by
        rw [List.mem_singleton.mp hb]
        exact fun e => wo_not (e ▸ ha)⟩
    · rw [if_neg q]
      exact wo_nd hi.2.2.1
  · unfold lst at hx
    by_cases q : cbk S j = true
    · rw [if_pos q] at hx
      rcases List.mem_append.mp hx with z | z
      · exact hi.2.2.2.1 x (wo_in z)
      · rw [List.mem_singleton.mp z]; exact hj
    · rw [if_neg q] at hx
      exact hi.2.2.2.1 x (wo_in hx)
theorem siPs {B : Nat} {S : Sh} (hi : SInv B S) : SInv (B + 1) (passS S) := by
  obtain ⟨T, C, hT, hC, h1, h2⟩ := hi.2.2.2.2.2.2.2.2
  exact siPass hi hT hC (by omega) (by omega)
theorem p_glad {N : Nat} (hN : 3000 ≤ N) {u : SV} {S : Sh} {B : Nat} (hc : RC u S) (hi : SInv B S) {j : Nat} (hj : j < S.2.2.1) (h8 : u 0 8 = 0) (h9 : u 0 9 = 0) (hb : ¬ cbk S j = true) : ∃ w, F_X5_gladden N u (nI j) = some w ∧ (∀ k, ¬ k = 0 → ¬ k = 7 → w k = u k) ∧ (∀ k, k < 8 → w 0 k = u 0 k) ∧ w 0 8 = nI (bitN (gB S j) S.2.2.2.1) ∧ w 0 9 = nI (apN S j) ∧ ∀ q, q < S.2.2.2.1 → w 7 q = h1S S j q := by
  have h1 := hi.1
  have h6 := hi.2.1
  obtain ⟨b1, b2, b3, b4⟩ := hc.2.2.2.2.2.2.2.1 j hj
  obtain ⟨-, -, -, y, y1, y2⟩ := hi.2.2.2.2.1 j hj
  have hy : (S.2.1 3 j).toNatClampNeg = y := by rw [y2]; exact nI_clamp (by omega)
  have h7 := hc.2.2.2.2.2.2.2.2.1
  have hP : ∀ q, 0 ≤ q → q < S.2.2.2.1 → (wB S (S.2.1 1 j) q = true ↔ u 7 q = 0 ∧ u 5 q = u 2 j) := fun q _ hq => by
    obtain ⟨c1, c2, c3⟩ := h7 q hq
    rw [c1, c3, b2]
    unfold wB
    rw [Bool.and_eq_true, decide_eq_true_iff, decide_eq_true_iff]
  have e0 : F_X5_gladden N u (nI j) = F_X5_gladden_L30 N (nI j) (nI (if S.2.1 0 j = 2 then 2 * (S.2.1 3 j).toNatClampNeg else (S.2.1 3 j).toNatClampNeg)) N (nI 0) u := by
    have hk2 : ∀ {β : Type} {o : Option β}, chk 6 (nI j) o = o := chk_in (by omega) (by decide)
    have c2 : (nI j).toNatClampNeg = j := nI_clamp (by omega)
    unfold F_X5_gladden
    simp only [jn_eq, hk2, c2]
    rw [b1, b4, hy, y2]
    by_cases z : S.2.1 0 j = 2
    · rw [if_pos z, if_pos z, show (2 : Int32) = nI 2 from rfl, pk_mul]
      rfl
    · rw [if_neg z, if_neg z]
      rfl
  by_cases k3 : S.2.1 0 j = 3
  · obtain ⟨w, f1, f2, f3, f4, f5, f6⟩ := l_gladF (N := N) (j := j) (T := S.2.2.2.1) (e := if S.2.1 0 j = 2 then 2 * (S.2.1 3 j).toNatClampNeg else (S.2.1 3 j).toNatClampNeg) (P := wB S (S.2.1 1 j)) (by omega) h6 S.2.2.2.1 0 N u (by omega) hc.2.2.2.1 (by rw [b1, k3]) h8 h9 hP (by omega)
    have eG : gB S j = wB S (S.2.1 1 j) := by
      funext s
      unfold gB
      rw [if_neg hb, if_pos k3]
    refine ⟨w, by rw [e0, f1], f2, f3, by rw [eG]; exact f4, by unfold apN; rw [eG]; exact f5, fun q hq => ?_⟩
    rw [f6 q]
    unfold h1S
    rw [eG, (h7 q hq).2.2]
    by_cases z : wB S (S.2.1 1 j) q = true
    · rw [if_pos (And.intro (Nat.zero_le _) (And.intro (hq) (z))), if_pos z]
    · rw [if_neg (fun a => z a.2.2), if_neg z]
  · obtain ⟨w, f1, f2, f3, f4, f5, f6⟩ := l_gladP (N := N) (j := j) (T := S.2.2.2.1) (e := if S.2.1 0 j = 2 then 2 * (S.2.1 3 j).toNatClampNeg else (S.2.1 3 j).toNatClampNeg) (P := wB S (S.2.1 1 j)) (by omega) h6 S.2.2.2.1 0 N u (by omega) hc.2.2.2.1 (by rw [b1]; exact k3) h8 h9 rfl hP (by omega)
    have eG : gB S j = fstB (wB S (S.2.1 1 j)) := by
      funext s
      unfold gB
      rw [if_neg hb, if_neg k3]
    refine ⟨w, by rw [e0, f1], f2, f3, by rw [eG]; exact f4, by unfold apN; rw [eG]; exact f5, fun q hq => ?_⟩
    rw [f6 q]
    unfold h1S
    rw [eG, (h7 q hq).2.2]
    by_cases z : fstB (wB S (S.2.1 1 j)) q = true
    · rw [if_pos (And.intro (Nat.zero_le _) (And.intro (hq) (z))), if_pos z]
    · rw [if_neg (fun a => z a.2.2), if_neg z]
theorem p_hand {N : Nat} (hN : 3000 ≤ N) {v : SV} {S : Sh} {B : Nat} (hc : RC v S) (hi : SInv B S) {j : Nat} (hj : j < S.2.2.1) : ∃ w, F_X5_handUp N v (nI j) = some w ∧ RC w (handS S j) ∧ w 0 7 = nI j ∧ w 0 8 = nI (bitN (gB S j) S.2.2.2.1) ∧ w 0 9 = nI (apN S j) := by
  have h1 := hi.1
  have h6 := hi.2.1
  have hwl := wo_len hi hj
  have hc0 : RC (up2 (up2 (up2 v 0 7 (nI j)) 0 8 (0 : Int32)) 0 9 (0 : Int32)) S := hc
  obtain ⟨f, f1, f2⟩ := p_offC hN hc0 hi (j := j) (by omega)
  have hcu := rcL hc0 f2
  generalize hu : up2 (upA (up2 (up2 (up2 v 0 7 (nI j)) 0 8 (0 : Int32)) 0 9 (0 : Int32)) 8 f) 0 4 (nI (wo S.2.2.2.2 j).length) = u at f1 hcu
  have u7 : u 0 7 = nI j := by rw [← hu]; rfl
  have u8 : u 0 8 = 0 := by rw [← hu]; rfl
  have u9 : u 0 9 = 0 := by rw [← hu]; rfl
  have hk2 : ∀ {β : Type} {o : Option β}, chk 6 (nI j) o = o := chk_in (by omega) (by decide)
  have c2 : (nI j).toNatClampNeg = j := nI_clamp (by omega)
  have hsi : ∀ l, l.Nodup → (∀ x ∈ l, x < S.2.2.1) → SInv (B + 2 ^ 32) (sL (preS S j) l) := fun l a b => siL (siPre hi hj) a b
  have nd2 : (wo S.2.2.2.2 j ++ [j]).Nodup := List.nodup_append.mpr ⟨wo_nd hi.2.2.1, List.nodup_cons.mpr ⟨List.not_mem_nil, List.nodup_nil⟩, fun a ha b hb => by
        rw [List.mem_singleton.mp hb]
        exact fun e => wo_not (e ▸ ha)⟩
  have in2 : ∀ x ∈ wo S.2.2.2.2 j ++ [j], x < S.2.2.1 := fun x hx => by
      rcases List.mem_append.mp hx with z | z
      · exact hi.2.2.2.1 x (wo_in z)
      · rw [List.mem_singleton.mp z]; exact hj
  have fin : ∀ (u2 : SV) (l : List Nat), l = lst S j → l.Nodup → (∀ x ∈ l, x < S.2.2.1) → RC (up2 u2 0 6 (u2 0 6 + u2 0 9)) (sL (preS S j) l) → u2 0 7 = nI j → u2 0 8 = nI (bitN (gB S j) S.2.2.2.1) → u2 0 9 = nI (apN S j) → ∃ w, ((F_X5_passTime N (up2 u2 0 6 (u2 0 6 + u2 0 9))).bind (fun q84 => some q84)) = some w ∧ RC w (handS S j) ∧ w 0 7 = nI j ∧ w 0 8 = nI (bitN (gB S j) S.2.2.2.1) ∧ w 0 9 = nI (apN S j) := by
    intro u2 l hl a b c d e g
    subst hl
    obtain ⟨w, w1, w2, w3, w4, w5⟩ := p_passC hN c (hsi _ a b)
    refine ⟨w, by rw [w1]; rfl, w2, ?_, ?_, ?_⟩
    · rw [w3]; exact d
    · rw [w4]; exact e
    · rw [w5]; exact g
  have ek : u 1 j = S.2.1 0 j := (hcu.2.2.2.2.2.2.2.1 j hj).1
  have e0 : F_X5_handUp N v (nI j) = if S.2.1 0 j = 5 then ((F_X5_putLast N u (nI j)).bind (fun q34 => (F_X5_lendPatience N q34).bind (fun q38 => (F_X5_passTime N (up2 q38 0 6 ((q38 0 6) + (q38 0 9)))).bind (fun q84 => some q84)))) else if S.2.1 0 j = 4 then ((F_X5_seatsThat N u (1 : Int32)).bind (fun q51 => if q51 = (0 : Int32) then ((F_X5_putLast N u (nI j)).bind (fun q59 => (F_X5_passTime N (up2 q59 0 6 ((q59 0 6) + (q59 0 9)))).bind (fun q84 => some q84))) else ((F_X5_gladden N u (nI j)).bind (fun q67 => (F_X5_passTime N (up2 q67 0 6 ((q67 0 6) + (q67 0 9)))).bind (fun q84 => some q84))))) else ((F_X5_gladden N u (nI j)).bind (fun q67 => (F_X5_passTime N (up2 q67 0 6 ((q67 0 6) + (q67 0 9)))).bind (fun q84 => some q84))) := by
    unfold F_X5_handUp
    rw [f1, bs, hk2, c2, ek]
    simp only [jn_eq]
  have gl : ¬ cbk S j = true → ∃ w, ((F_X5_gladden N u (nI j)).bind (fun q67 => (F_X5_passTime N (up2 q67 0 6 ((q67 0 6) + (q67 0 9)))).bind (fun q84 => some q84))) = some w ∧ RC w (handS S j) ∧ w 0 7 = nI j ∧ w 0 8 = nI (bitN (gB S j) S.2.2.2.1) ∧ w 0 9 = nI (apN S j) := by
    intro hb
    obtain ⟨w, g1, g2, g3, g4, g5, g6⟩ := p_glad hN (S := sL S (wo S.2.2.2.2 j)) hcu (siL hi (wo_nd hi.2.2.1) (fun x hx => hi.2.2.2.1 x (wo_in hx))) hj u8 u9 hb
    rw [g1, bs]
    refine fin w (wo S.2.2.2.2 j) (by unfold lst; rw [if_neg hb]) (wo_nd hi.2.2.1) (fun x hx => hi.2.2.2.1 x (wo_in hx)) (rcP hcu (fun k hk => ?_) ?_ ?_ (fun k a b c => ?_) (fun i hI => ?_)) ?_ g4 g5
    · rw [up2_j (by omega), g3 k (by omega)]
    · rw [up2_j (by omega), g3 5 (by omega)]; exact hcu.2.2.2.2.2.1
    · rw [up2_s, g3 6 (by omega), g5, hcu.2.2.2.2.2.2.1]; rfl
    · rw [up2_k a, g2 k a c]
    · show w 6 i = _ ∧ w 7 i = _
      rw [g2 6 (by decide) (by decide), g6 i hI, (hcu.2.2.2.2.2.2.2.2.1 i hI).2.1]
      refine ⟨?_, rfl⟩
      unfold p1S
      rw [if_neg (fun a => hb (by unfold cbk; rw [decide_eq_true a.1]; rfl))]
      rfl
    · rw [g3 7 (by omega), u7]
  have pl : ∃ g, F_X5_putLast N u (nI j) = some (up2 (upA u 8 g) 0 4 (nI (wo S.2.2.2.2 j ++ [j]).length)) ∧ RC (up2 (upA u 8 g) 0 4 (nI (wo S.2.2.2.2 j ++ [j]).length)) (sL S (wo S.2.2.2.2 j ++ [j])) := by
    obtain ⟨g, g1, g2⟩ := p_lastC N (S := sL S (wo S.2.2.2.2 j)) hcu (show (wo S.2.2.2.2 j).length < 6 by omega) j
    exact ⟨g, g1, rcL (S := sL S (wo S.2.2.2.2 j)) hcu g2⟩
  obtain ⟨g, g1, g2⟩ := pl
  rw [e0]
  by_cases k5 : S.2.1 0 j = 5
  · have hb : cbk S j = true := by unfold cbk; rw [decide_eq_true k5]; rfl
    obtain ⟨a1, a2⟩ := ap_cb hb
    rw [if_pos k5, g1, bs]
    generalize hz : up2 (upA u 8 g) 0 4 (nI (wo S.2.2.2.2 j ++ [j]).length) = z at g2
    have z7 : z 0 7 = nI j := by rw [← hz]; exact u7
    have z8 : z 0 8 = 0 := by rw [← hz]; exact u8
    have z9 : z 0 9 = 0 := by rw [← hz]; exact u9
    obtain ⟨w, w1, w2, w3⟩ := l_lend (N := N) h6 S.2.2.2.1 0 N z (by omega) g2.2.2.2.1 (by omega)
    unfold F_X5_lendPatience
    rw [show F_X5_lendPatience_L2 N N (0 : Int32) z = some w from w1, bs]
    have w0 : w 0 = z 0 := w2 0 (by decide)
    refine fin w _ (by unfold lst; rw [if_pos hb]) nd2 in2 (rcP g2 (fun k hk => ?_) ?_ ?_ (fun k a b c => ?_) (fun i hI => ?_)) ?_ ?_ ?_
    · rw [up2_j (by omega), w0]
    · rw [up2_j (by omega), w0]; exact g2.2.2.2.2.2.1
    · rw [up2_s, w0, z9, a1, g2.2.2.2.2.2.2.1]; rfl
    · rw [up2_k a, w2 k b]
    · show w 6 i = _ ∧ w 7 i = _
      obtain ⟨c1, c2, c3⟩ := g2.2.2.2.2.2.2.2.2.1 i hI
      rw [w3 i, w2 7 (by decide), c2, c3, g2.2.1, h1_cb hb i]
      refine ⟨?_, rfl⟩
      unfold p1S
      rw [h1_cb hb i]
      have hI : i < S.2.2.2.1 := hI
      show (if 0 ≤ i ∧ i < S.2.2.2.1 ∧ S.2.1 6 i = 0 then mn99 (S.2.1 5 i) (S.1 1) else S.2.1 5 i) = _
      by_cases q : S.2.1 6 i = 0
      · rw [if_pos (And.intro (Nat.zero_le _) (And.intro (hI) (q))), if_pos (And.intro (k5) (q))]
      · rw [if_neg (fun a => q a.2.2), if_neg (fun a => q a.2)]
    · rw [w0, z7]
    · rw [w0, z8, a2]; rfl
    · rw [w0, z9, a1]; rfl
  · rw [if_neg k5]
    by_cases k4 : S.2.1 0 j = 4
    · rw [if_pos k4, show F_X5_seatsThat N u 1 = some (nI (bitN (hB S 1) S.2.2.2.1)) from p_seatsThat hN hcu h6 1, bs]
      by_cases hz : bitN (hB S 1) S.2.2.2.1 = 0
      · have hb : cbk S j = true := by unfold cbk; rw [decide_eq_true k4, decide_eq_true hz, Bool.or_eq_true]; exact Or.inr rfl
        obtain ⟨a1, a2⟩ := ap_cb hb
        rw [hz, if_pos (show nI 0 = 0 from rfl), g1, bs]
        generalize hz : up2 (upA u 8 g) 0 4 (nI (wo S.2.2.2.2 j ++ [j]).length) = z at g2
        have z7 : z 0 7 = nI j := by rw [← hz]; exact u7
        have z8 : z 0 8 = 0 := by rw [← hz]; exact u8
        have z9 : z 0 9 = 0 := by rw [← hz]; exact u9
        refine fin z _ (by unfold lst; rw [if_pos hb]) nd2 in2 (rcP g2 (fun k hk => ?_) ?_ ?_ (fun k a b c => ?_) (fun i hI => ?_)) z7 (by rw [z8, a2]; rfl) (by rw [z9, a1]; rfl)
        · rw [up2_j (by omega)]
        · rw [up2_j (by omega)]; exact g2.2.2.2.2.2.1
        · rw [up2_s, z9, a1, g2.2.2.2.2.2.2.1]; rfl
        · rw [up2_k a]
        · show z 6 i = _ ∧ z 7 i = _
          obtain ⟨c1, c2, c3⟩ := g2.2.2.2.2.2.2.2.2.1 i hI
          rw [c2, c3, h1_cb hb i]
          refine ⟨?_, rfl⟩
          unfold p1S
          rw [if_neg (fun a => k5 a.1)]
          rfl
      · have hb64 := bit64 (hB S 1) h6
        rw [if_neg (nI_ne0 (by omega) (by omega))]
        exact gl (fun h => by
          unfold cbk at h
          rw [decide_eq_false k5, decide_eq_false hz, Bool.and_false] at h
          exact absurd h (by decide))
    · rw [if_neg k4]
      exact gl (fun h => by
        unfold cbk at h
        rw [decide_eq_false k5, decide_eq_false k4, Bool.false_and] at h
        exact absurd h (by decide))
