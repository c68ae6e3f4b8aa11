/-! a thing handed up: the model -/
def mkV (S : Sh) : SV := fun k i => if k = 0 then (if i = 0 then S.1 0 else if i = 1 then S.1 1 else if i = 2 then nI S.2.2.1 else if i = 3 then nI S.2.2.2.1 else if i = 4 then nI S.2.2.2.2.length else if i = 5 then S.1 2 else S.1 3) else if k = 8 then nI (S.2.2.2.2.getD i 0) else S.2.1 (k - 1) i
theorem mkV_rc (S : Sh) : RC (mkV S) S := ⟨rfl, rfl, rfl, rfl, rfl, rfl, rfl, fun i _ => ⟨rfl, rfl, rfl, rfl⟩, fun i _ => ⟨rfl, rfl, rfl⟩, fun i _ => rfl⟩
theorem has_tab : ∀ m, m < 64 → ∀ s, s < 6 → ((((nI m) >>> (nI s &&& 31)) &&& (1 : Int32)) = 1 ↔ m.testBit s = true) := by decide +kernel
theorem p_has (N : Nat) {m s : Nat} (hm : m < 64) (hs : s < 6) : F_X8_has N (nI m) (nI s) = some (if m.testBit s = true then 1 else 0) := by
  unfold F_X8_has
  by_cases h : m.testBit s = true
  · rw [if_pos h, if_pos ((has_tab m hm s hs).mpr h)]
  · rw [if_neg h, if_neg (fun z => h ((has_tab m hm s hs).mp z))]
theorem bt_tab : ∀ b0 b1 b2 b3 b4 b5 : Bool, ∀ n, n < 7 → ∀ s, s < 6 → (bitN (p6 b0 b1 b2 b3 b4 b5) n).testBit s = (decide (s < n) && p6 b0 b1 b2 b3 b4 b5 s) := by decide +kernel
theorem bit_test (p : Nat → Bool) {n s : Nat} (hn : n ≤ 6) (hs : s < 6) : (bitN p n).testBit s = (decide (s < n) && p s) := by
  have e : ∀ i, i < n → p i = p6 (p 0) (p 1) (p 2) (p 3) (p 4) (p 5) i := fun i hi => p6_eq p i (by omega)
  rw [bitN_cg e, bt_tab _ _ _ _ _ _ n (by omega) s hs, ← p6_eq p s hs]
theorem low_tab : ∀ b0 b1 b2 b3 b4 b5 : Bool, ∀ n, n < 7 → nI (bitN (p6 b0 b1 b2 b3 b4 b5) n) &&& (-nI (bitN (p6 b0 b1 b2 b3 b4 b5) n)) = nI (bitN (fstB (p6 b0 b1 b2 b3 b4 b5)) n) := by decide +kernel
theorem low_bit (p : Nat → Bool) {n : Nat} (hn : n ≤ 6) : nI (bitN p n) &&& (-nI (bitN p n)) = nI (bitN (fstB p) n) := by
  have e : ∀ i, i < n → p i = p6 (p 0) (p 1) (p 2) (p 3) (p 4) (p 5) i := fun i hi => p6_eq p i (by omega)
  rw [bitN_cg e, bitN_cg (fstB_cg e)]
  exact low_tab _ _ _ _ _ _ n (by omega)
theorem p_cbM {N : Nat} (hN : 3000 ≤ N) {v : SV} {S : Sh} {B : Nat} (hm : RM (v 4) S) (hi : SInv B S) {j : Nat} (hj : j < S.2.2.1) : F_X8_isComingBack N v (nI j) = some (if cbk S j = true then 1 else 0) := by
  have h1 := hi.1
  have h6 := hi.2.1
  unfold F_X8_isComingBack
  rw [show (7 : Int32) = nI 7 from rfl, nI_add, chk_in (n := 55) (k := 7 + j) (by omega) (by decide), nI_clamp (n := 7 + j) (by omega), (hm.2.2.2.2.2.2.2.1 j hj).1, p_seatsOf hN hm h6 1]
  unfold cbk
  by_cases k5 : S.2.1 0 j = 5
  · rw [if_pos k5, decide_eq_true k5]
    rfl
  · rw [if_neg k5, decide_eq_false k5]
    by_cases k4 : S.2.1 0 j = 4
    · rw [if_pos k4, decide_eq_true k4, bs]
      have hb64 := bit64 (hB S 1) h6
      by_cases hz : bitN (hB S 1) S.2.2.2.1 = 0
      · rw [hz]; rfl
      · rw [decide_eq_false hz, if_neg (nI_ne0 (by omega) (by omega))]
        rfl
    · rw [if_neg k4, decide_eq_false k4]
      rfl
theorem p_plM {N : Nat} (hN : 3000 ≤ N) {v : SV} {S : Sh} {B : Nat} (hm : RM (v 4) S) (hi : SInv B S) {j : Nat} (hj : j < S.2.2.1) : F_X8_pleasedBy N v (nI j) = some (nI (bitN (gB S j) S.2.2.2.1)) := by
  have h1 := hi.1
  have h6 := hi.2.1
  obtain ⟨m1, m2, -, -⟩ := hm.2.2.2.2.2.2.2.1 j hj
  unfold F_X8_pleasedBy
  rw [p_cbM hN hm hi hj, bs]
  simp only [jn_eq]
  rw [show (7 : Int32) = nI 7 from rfl, show (13 : Int32) = nI 13 from rfl, nI_add, nI_add, chk_in (n := 55) (k := 13 + j) (by omega) (by decide), nI_clamp (n := 7 + j) (by omega), nI_clamp (n := 13 + j) (by omega), m1, m2, p_wantersOf hN hm h6, bs, chk_in (n := 55) (k := 7 + j) (by omega) (by decide), chk_in (n := 55) (k := 7 + j) (by omega) (by decide)]
  by_cases hb : cbk S j = true
  · rw [if_pos hb, if_neg one0, (ap_cb hb).2, if_neg (fun k3 => by
      unfold cbk at hb
      rw [k3, show decide ((3 : Int32) = 5) = false from rfl, show decide ((3 : Int32) = 4) = false from rfl, Bool.false_and] at hb
      exact absurd hb (by decide))]
    rfl
  · rw [if_neg hb, if_pos rfl]
    by_cases k3 : S.2.1 0 j = 3
    · have eG : gB S j = wB S (S.2.1 1 j) := by
        funext s
        unfold gB
        rw [if_neg hb, if_pos k3]
      rw [if_pos k3, eG]
    · have eG : gB S j = fstB (wB S (S.2.1 1 j)) := by
        funext s
        unfold gB
        rw [if_neg hb, if_neg k3]
      rw [if_neg k3, eG, low_bit _ h6]
theorem p_clM {N : Nat} (hN : 3000 ≤ N) {v : SV} {S : Sh} {B : Nat} (hm : RM (v 4) S) (hi : SInv B S) {j : Nat} (hj : j < S.2.2.1) : F_X8_clapsFor N v (nI j) (nI (bitN (gB S j) S.2.2.2.1)) = some (nI (apN S j)) := by
  have h1 := hi.1
  have h6 := hi.2.1
  obtain ⟨m1, -, -, m4⟩ := hm.2.2.2.2.2.2.2.1 j hj
  obtain ⟨-, -, -, y, y1, y2⟩ := hi.2.2.2.2.1 j hj
  have hy : (S.2.1 3 j).toNatClampNeg = y := by rw [y2]; exact nI_clamp (by omega)
  unfold F_X8_clapsFor apN
  rw [show (25 : Int32) = nI 25 from rfl, show (7 : Int32) = nI 7 from rfl, nI_add, nI_add, chk_in (n := 55) (k := 25 + j) (by omega) (by decide), nI_clamp (n := 25 + j) (by omega), nI_clamp (n := 7 + j) (by omega), m1, m4, hy, y2, p_ones hN (bit64 _ h6), bs, chk_in (n := 55) (k := 7 + j) (by omega) (by decide), popc_bit _ h6, pk_mul]
  by_cases k2 : S.2.1 0 j = 2
  · rw [if_pos k2, if_pos k2, show (2 : Int32) = nI 2 from rfl, pk_mul, Nat.mul_assoc]
  · rw [if_neg k2, if_neg k2]
def Hm (G : Nat → Bool) (v : SV) (q : Nat) : Int32 := if G q = true then 1 else v 4 (49 + q)
def Pm (G : Nat → Bool) (v : SV) (j q : Nat) : Int32 := if v 4 (7 + j) = 5 ∧ Hm G v q = 0 then mn99 (v 4 (43 + q)) (v 4 1) else v 4 (43 + q)
theorem rq43 {v : SV} {s q : Nat} {X Y : Int32} (hs : s < 6) (hq : q < 6) : (up2 (up2 v 4 (49 + s) X) 4 (43 + s) Y) 4 (43 + q) = if q = s then Y else v 4 (43 + q) := by
  show upd (upd (v 4) (49 + s) X) (43 + s) Y (43 + q) = _
  by_cases w : q = s
  · rw [w, upd_s, if_pos rfl]
  · rw [upd_n (by omega), upd_n (by omega), if_neg w]
theorem rq49 {v : SV} {s q : Nat} {X Y : Int32} (hs : s < 6) (hq : q < 6) : (up2 (up2 v 4 (49 + s) X) 4 (43 + s) Y) 4 (49 + q) = if q = s then X else v 4 (49 + q) := by
  show upd (upd (v 4) (49 + s) X) (43 + s) Y (49 + q) = _
  by_cases w : q = s
  · rw [w, upd_n (by omega), upd_s, if_pos rfl]
  · rw [upd_n (by omega), upd_n (by omega), if_neg w]
theorem rqn {v : SV} {s i : Nat} {X Y : Int32} (hi : i < 43) : (up2 (up2 v 4 (49 + s) X) 4 (43 + s) Y) 4 i = v 4 i := by
  show upd (upd (v 4) (49 + s) X) (43 + s) Y i = _
  rw [upd_n (by omega), upd_n (by omega)]
theorem stepQ {s q T : Nat} (w : ¬ q = s) : (s + 1 ≤ q ∧ q < T) = (s ≤ q ∧ q < T) := propext ⟨fun h => ⟨by omega, h.2⟩, fun h => ⟨by omega, h.2⟩⟩
theorem up_same {v : SV} {k j : Nat} : up2 v k j (v k j) = v := by
  funext a b
  unfold up2 upA upd
  by_cases h : a = k
  · rw [if_pos h]
    by_cases h2 : b = j
    · rw [if_pos h2, h, h2]
    · rw [if_neg h2, h]
  · rw [if_neg h]
theorem l_pre1 {N T j s n : Nat} {x2 x3 x4 : Int32} {G : Nat → Bool} {K : SV → Option SV} {v : SV} (hT : T ≤ 6) (hj : j < 6) (hs : s < T) (h3 : v 4 3 = nI T) (hG : F_X8_has N x4 (nI s) = some (if G s = true then 1 else 0)) : F_X8_tapWith_L36 N (nI j) x2 x3 x4 K (n + 1) (nI s) v = F_X8_tapWith_L36 N (nI j) x2 x3 x4 K n (nI (s + 1)) (up2 (up2 v 4 (49 + s) (Hm G v s)) 4 (43 + s) (Pm G v j s)) := by
  have hk1 : ∀ {β : Type} {o : Option β}, chk 55 (nI (49 + s)) o = o := chk_in (by omega) (by decide)
  have hk2 : ∀ {β : Type} {o : Option β}, chk 55 (nI (43 + s)) o = o := chk_in (by omega) (by decide)
  have hk3 : ∀ {β : Type} {o : Option β}, chk 55 (nI (7 + j)) o = o := chk_in (by omega) (by decide)
  have hk4 : ∀ {β : Type} {o : Option β}, chk 55 (1 : Int32) o = o := chk_dec (by decide)
  have c1 : (nI (49 + s)).toNatClampNeg = 49 + s := nI_clamp (by omega)
  have c2 : (nI (43 + s)).toNatClampNeg = 43 + s := nI_clamp (by omega)
  have c3 : (nI (7 + j)).toNatClampNeg = 7 + j := nI_clamp (by omega)
  have c4 : (1 : Int32).toNatClampNeg = 1 := rfl
  have u1 : ∀ x, upd (v 4) (49 + s) x (7 + j) = v 4 (7 + j) := fun x => upd_n (by omega)
  have u2 : ∀ x, upd (v 4) (49 + s) x (43 + s) = v 4 (43 + s) := fun x => upd_n (by omega)
  have u3 : ∀ x, upd (v 4) (49 + s) x 1 = v 4 1 := fun x => upd_n (by omega)
  have sm : ∀ x, up2 (up2 v 4 (49 + s) x) 4 (43 + s) (v 4 (43 + s)) = up2 v 4 (49 + s) x := fun x => by
    have h : (up2 v 4 (49 + s) x) 4 (43 + s) = v 4 (43 + s) := u2 x
    rw [← h]
    exact up_same
  rw [F_X8_tapWith_L36, k3, t3, h3, if_pos (nI_lt (by omega) (by omega)), show (49 : Int32) = nI 49 from rfl, show (43 : Int32) = nI 43 from rfl, show (7 : Int32) = nI 7 from rfl, nI_add, nI_add, nI_add, nI_1, hG, bs]
  simp only [jn_eq, hk1, hk2, hk3, hk4, c1, c2, c3, c4, u1, u2, u3, upd_s]
  unfold Pm Hm mn99
  by_cases g : G s = true
  · simp only [if_pos g, if_neg one0]
    rw [if_neg (fun (z : v 4 (7 + j) = 5 ∧ (1 : Int32) = 0) => one0 z.2), sm]
    by_cases k5 : v 4 (7 + j) = 5
    · rw [if_pos k5]
    · rw [if_neg k5]
  · simp only [if_neg g, if_true]
    by_cases k5 : v 4 (7 + j) = 5
    · rw [if_pos k5]
      by_cases h0 : v 4 (49 + s) = 0
      · rw [if_pos h0, if_pos (And.intro (k5) (h0))]
        by_cases h9 : 99 < v 4 (43 + s) + v 4 1
        · rw [if_pos h9, if_pos h9]
        · rw [if_neg h9, if_neg h9]
      · rw [if_neg h0, if_neg (fun z => h0 z.2), sm]
    · rw [if_neg k5, if_neg (fun z => k5 z.1), sm]
theorem l_preM {N T j : Nat} {x2 x3 x4 : Int32} {G : Nat → Bool} (hT : T ≤ 6) (hj : j < 6) (hG : ∀ s, s < T → F_X8_has N x4 (nI s) = some (if G s = true then 1 else 0)) : ∀ d s n v, s + d = T → v 4 3 = nI T → d < n → ∃ f, (∀ K, F_X8_tapWith_L36 N (nI j) x2 x3 x4 K n (nI s) v = K (upA v 4 f)) ∧ (∀ i, i < 43 → f i = v 4 i) ∧ ∀ q, q < 6 → f (49 + q) = (if s ≤ q ∧ q < T then Hm G v q else v 4 (49 + q)) ∧ f (43 + q) = (if s ≤ q ∧ q < T then Pm G v j q else v 4 (43 + q)) := by
  intro d
  induction d with
  | zero =>
    intro s n v hs h3 hn
    obtain ⟨n, rfl⟩ : ∃ m, n = m + 1 := ⟨n - 1, by omega⟩
    refine ⟨v 4, fun K => ?_, fun _ _ => rfl, fun q _ => ⟨(if_neg (by omega)).symm, (if_neg (by omega)).symm⟩⟩
    rw [F_X8_tapWith_L36, k3, t3, h3, if_neg (nI_nlt (by omega) (by omega)), upA_self]
  | succ d ih =>
    intro s n v hs h3 hn
    obtain ⟨n, rfl⟩ : ∃ m, n = m + 1 := ⟨n - 1, by omega⟩
    have hT2 : s < T := by omega
    obtain ⟨f, f1, f2, f3⟩ := ih (s + 1) n (up2 (up2 v 4 (49 + s) (Hm G v s)) 4 (43 + s) (Pm G v j s)) (by omega) (by rw [rqn (by omega)]; exact h3) (by omega)
    refine ⟨f, fun K => ?_, fun i hi => by rw [f2 i hi, rqn hi], fun q hq => ?_⟩
    · rw [l_pre1 hT hj hT2 h3 (hG s hT2), f1]
      unfold up2
      rw [upA_upA, upA_upA]
    · obtain ⟨g1, g2⟩ := f3 q hq
      rw [g1, g2]
      unfold Pm Hm
      rw [rq49 (by omega) hq, rq43 (by omega) hq, rqn (by omega), rqn (by omega)]
      by_cases w : q = s
      · subst w
        have hq1 : ¬ q + 1 ≤ q := by omega
        simp [hq1, hT2]
      · simp only [if_neg w, stepQ w]
        exact ⟨trivial, trivial⟩
theorem p_tapM {N : Nat} (hN : 3000 ≤ N) {v : SV} {S : Sh} {B : Nat} (hm : RM (v 4) S) (hi : SInv B S) {j : Nat} (hj : j ∈ S.2.2.2.2) (bk : Int32) : ∃ f, F_X8_tapWith N v (nI j) bk = some (upA v 4 f) ∧ RM f (sL (passS (preS S j)) (if cbk S j = true ∧ ¬ bk = 0 then wo S.2.2.2.2 j ++ [j] else wo S.2.2.2.2 j)) := by
  have h1 := hi.1
  have h6 := hi.2.1
  have hjl := hi.2.2.2.1 j hj
  have hlen := len6 hi
  have hwl := wo_len hi hjl
  have h8 := hm.2.2.2.2.2.2.2.2.1
  have nd2 : (wo S.2.2.2.2 j ++ [j]).Nodup := List.nodup_append.mpr ⟨wo_nd hi.2.2.1, List.nodup_cons.mpr ⟨List.not_mem_nil, List.nodup_nil⟩, fun a ha b hb => by
        rw [List.mem_singleton.mp hb]
        exact fun e => wo_not (e ▸ ha)⟩
  have in2 : ∀ x ∈ wo S.2.2.2.2 j ++ [j], x < S.2.2.1 := fun x hx => by
      rcases List.mem_append.mp hx with z | z
      · exact hi.2.2.2.1 x (wo_in z)
      · rw [List.mem_singleton.mp z]; exact hjl
  have hG : ∀ s, s < S.2.2.2.1 → F_X8_has N (nI (bitN (gB S j) S.2.2.2.1)) (nI s) = some (if gB S j s = true then 1 else 0) := fun s hs => by
    rw [p_has N (bit64 _ h6) (by omega), bit_test _ h6 (by omega), decide_eq_true hs, Bool.true_and]
  obtain ⟨f, f1, f2, f3⟩ := l_preM (N := N) (x2 := bk) (x3 := if cbk S j = true then 1 else 0) h6 (j := j) (by omega) hG S.2.2.2.1 0 N (up2 v 4 5 (v 4 5 + nI (apN S j))) (by omega) hm.2.2.2.1 (by omega)
  have rf : RM f (preS S j) := rmP hm h1 (by omega) h6 (fun i a b c => by
      rw [f2 i c]
      exact upd_n b) (by rw [f2 4 (by omega)]; exact hm.2.2.2.2.2.1) (by
      rw [f2 5 (by omega)]
      rw [hm.2.2.2.2.2.2.1]
      exact up2_s) (fun i hI => by
      obtain ⟨g1, g2⟩ := f3 i (by omega)
      obtain ⟨c1, c2, c3⟩ := h8 i hI
      have e7 : (up2 v 4 5 (v 4 5 + nI (apN S j))) 4 (7 + j) = S.2.1 0 j := by
        show upd (v 4) 5 _ (7 + j) = _
        rw [upd_n (by omega)]
        exact (hm.2.2.2.2.2.2.2.1 j hjl).1
      have e1 : (up2 v 4 5 (v 4 5 + nI (apN S j))) 4 1 = S.1 1 := hm.2.1
      have e43 : (up2 v 4 5 (v 4 5 + nI (apN S j))) 4 (43 + i) = S.2.1 5 i := by
        show upd (v 4) 5 _ (43 + i) = _
        rw [upd_n (by omega)]
        exact c2
      have e49 : (up2 v 4 5 (v 4 5 + nI (apN S j))) 4 (49 + i) = S.2.1 6 i := by
        show upd (v 4) 5 _ (49 + i) = _
        rw [upd_n (by omega)]
        exact c3
      rw [g1, g2, if_pos (And.intro (Nat.zero_le _) (hI)), if_pos (And.intro (Nat.zero_le _) (hI))]
      unfold Pm Hm
      rw [e7, e1, e43, e49]
      exact ⟨rfl, rfl⟩)
  obtain ⟨g, g1, g2⟩ := p_offM hN (v := upA (up2 v 4 5 (v 4 5 + nI (apN S j))) 4 f) (S := preS S j) (mkV_rc (preS S j)) rf (siPre hi hjl) (j := j) hj
  have e0 : F_X8_tapWith N v (nI j) bk = if (if cbk S j = true then (1 : Int32) else 0) = 0 then F_X8_tapWith_L176 N (fun (v_243 : SV) => chk 55 (4 : Int32) (chk 55 (4 : Int32) (some (up2 v_243 4 ((4 : Int32).toNatClampNeg) (((v_243 4) ((4 : Int32).toNatClampNeg)) + (1 : Int32)))))) N (0 : Int32) (upA v 4 g) else if bk = 0 then F_X8_tapWith_L176 N (fun (v_243 : SV) => chk 55 (4 : Int32) (chk 55 (4 : Int32) (some (up2 v_243 4 ((4 : Int32).toNatClampNeg) (((v_243 4) ((4 : Int32).toNatClampNeg)) + (1 : Int32)))))) N (0 : Int32) (upA v 4 g) else (F_X8_layBehind N (upA v 4 g) (nI j)).bind (fun q171 => F_X8_tapWith_L176 N (fun (v_243 : SV) => chk 55 (4 : Int32) (chk 55 (4 : Int32) (some (up2 v_243 4 ((4 : Int32).toNatClampNeg) (((v_243 4) ((4 : Int32).toNatClampNeg)) + (1 : Int32)))))) N (0 : Int32) q171) := by
    unfold F_X8_tapWith
    simp only [jn_eq]
    rw [if_neg (nI_pos (by omega)), p_cbM hN hm hi hjl, bs, p_plM hN hm hi hjl, bs, k5, p_clM hN hm hi hjl, bs, k5, t5]
    rw [show ∀ K, F_X8_tapWith_L36 N (nI j) bk (if cbk S j = true then 1 else 0) (nI (bitN (gB S j) S.2.2.2.1)) K N (0 : Int32) (up2 v 4 5 (v 4 5 + nI (apN S j))) = K (upA (up2 v 4 5 (v 4 5 + nI (apN S j))) 4 f) from f1, g1, bs]
    unfold up2
    rw [upA_upA, upA_upA]
  rw [e0]
  have plain : ∃ f', F_X8_tapWith_L176 N (fun (v_243 : SV) => chk 55 (4 : Int32) (chk 55 (4 : Int32) (some (up2 v_243 4 ((4 : Int32).toNatClampNeg) (((v_243 4) ((4 : Int32).toNatClampNeg)) + (1 : Int32)))))) N (0 : Int32) (upA v 4 g) = some (upA v 4 f') ∧ RM f' (sL (passS (preS S j)) (wo S.2.2.2.2 j)) := by
    obtain ⟨x, x1, x2⟩ := p_passM hN (v := upA v 4 g) (S := sL (preS S j) (wo S.2.2.2.2 j)) g2 (siL (siPre hi hjl) (wo_nd hi.2.2.1) (fun x hx => hi.2.2.2.1 x (wo_in hx)))
    exact ⟨x, by rw [x1, upA_upA], x2⟩
  by_cases hb : cbk S j = true
  · rw [if_pos hb, if_neg one0]
    by_cases b0 : bk = 0
    · rw [if_pos b0, if_neg (fun z => z.2 b0)]
      exact plain
    · rw [if_neg b0, if_pos (And.intro (hb) (b0))]
      obtain ⟨y, y1, y2⟩ := p_lastM N (v := upA v 4 g) (S := sL (preS S j) (wo S.2.2.2.2 j)) g2 h1 h6 (show (wo S.2.2.2.2 j).length < 6 by omega) j
      rw [y1, bs]
      obtain ⟨x, x1, x2⟩ := p_passM hN (v := upA (upA v 4 g) 4 y) (S := sL (preS S j) (wo S.2.2.2.2 j ++ [j])) y2 (siL (siPre hi hjl) nd2 in2)
      exact ⟨x, by rw [x1, upA_upA, upA_upA], x2⟩
  · rw [if_neg hb, if_pos rfl, if_neg (fun z => hb z.1)]
    exact plain
