/-! order -/
def hnd (S : Sh) (p : List Nat) : Sh := p.foldl handS S
def clO (S : Sh) (p : List Nat) : Int32 := (hnd S p).1 3
def plO (S : Sh) (p : List Nat) : Int32 := nI (bitN (hB (hnd S p) 1) (hnd S p).2.2.2.1)
def stp (S : Sh) (st : Int32 × Option (List Nat)) (p : List Nat) : Int32 × Option (List Nat) := if st.1 < clO S p then (clO S p, some p) else st
def goO (S : Sh) (pre : List Nat) (st : Int32 × Option (List Nat)) (P : List (List Nat)) : Int32 × Option (List Nat) := P.foldl (fun st p => stp S st (pre ++ p)) st
theorem hnd_th {S : Sh} : ∀ {p : List Nat}, (hnd S p).2.2.1 = S.2.2.1 ∧ (hnd S p).2.2.2.1 = S.2.2.2.1
  | [] => ⟨rfl, rfl⟩
  | j :: p => by
    obtain ⟨a, b⟩ := hnd_th (S := handS S j) (p := p)
    exact ⟨a, b⟩
theorem hnd_app {S : Sh} {p : List Nat} {t : Nat} : hnd S (p ++ [t]) = handS (hnd S p) t := by
  unfold hnd
  rw [List.foldl_append]
  rfl
theorem goO_app {S : Sh} {pre : List Nat} {st : Int32 × Option (List Nat)} {P Q : List (List Nat)} : goO S pre st (P ++ Q) = goO S pre (goO S pre st P) Q := by
  unfold goO
  rw [List.foldl_append]
theorem goO_map {S : Sh} {pre : List Nat} {t : Nat} (P : List (List Nat)) : ∀ (st : Int32 × Option (List Nat)), goO S pre st (P.map (fun p => t :: p)) = goO S (pre ++ [t]) st P := by
  induction P with
  | nil =>
    intro st
    unfold goO
    rw [List.map_nil, List.foldl_nil, List.foldl_nil]
  | cons p P ih =>
    intro st
    unfold goO at ih ⊢
    rw [List.map_cons, List.foldl_cons, List.foldl_cons, ih, List.append_assoc, List.singleton_append]
/-- the class's best so far -/
def Cst (S : Sh) (n : Nat) (vP : SV) (st : Int32 × Option (List Nat)) : Prop := vP 0 5 = st.1 ∧ ∀ p, st.2 = some p → vP 0 6 = plO S p ∧ ∀ i, i < n → vP 2 i = nI (gd p i)
theorem p_keepB {N n : Nat} (hN : 3000 ≤ N) (hn : n ≤ 6) {S : Sh} {B : Nat} {vP w : SV} {pre : List Nat} {st : Int32 × Option (List Nat)} (hw : RC w (hnd S pre)) (hi : SInv B (hnd S pre)) (hp : ∀ i, i < n → vP 1 i = nI (gd pre i)) (hc : Cst S n vP st) : ∃ vP', F_X2_keepIfBetter N vP w = some vP' ∧ Cst S n vP' (stp S st pre) ∧ vP' 1 = vP 1 ∧ vP' 0 4 = vP 0 4 := by
  unfold F_X2_keepIfBetter stp
  rw [hw.2.2.2.2.2.2.1, hc.1]
  by_cases z : st.1 < clO S pre
  · rw [if_pos z, if_pos (show st.1 < (hnd S pre).1 3 from z), p_seatsThat hN hw hi.2.1, bs, cpk6]
    refine ⟨_, rfl, ⟨rfl, fun p h => ?_⟩, rfl, rfl⟩
    have h := Option.some.inj h
    subst h
    refine ⟨rfl, fun i hi2 => ?_⟩
    exact (cpy6 (f := vP 1) (g := vP 2) (by omega)).trans (hp i hi2)
  · rw [if_neg z, if_neg (show ¬ st.1 < (hnd S pre).1 3 from z)]
    exact ⟨vP, rfl, hc, rfl, rfl⟩
theorem l_try {N n : Nat} (hN : 3000 ≤ N) (hn : n ≤ 6) {S : Sh} (hth : n ≤ S.2.2.1) : ∀ k left d pre vP gL st, popc left < k → left < 64 → (∀ q, q < 6 → left.testBit q = true → q < S.2.2.1) → pre.length = d → d + popc left = n → (∀ i, i < d → vP 1 i = nI (gd pre i)) → RC (gL d) (hnd S pre) → SInv (999 + d) (hnd S pre) → Cst S n vP st → ∃ vP' gL', F_X2_tryOrdersK N k vP gL (nI left) (nI d) = some (vP', gL') ∧ Cst S n vP' (goO S pre st (lexB k left)) ∧ (∀ i, i < d → vP' 1 i = vP 1 i) ∧ (∀ i, i ≤ d → gL' i = gL i) ∧ vP' 0 4 = vP 0 4 := by
  intro k
  induction k with
  | zero => intro left d pre vP gL st h; omega
  | succ k ih =>
    intro left d pre vP gL st hpk hl64 hlb hpl hdn hpath hrc hsi hcst
    show ∃ vP' gL', F_X2_tryOrders N (F_X2_tryOrdersK N k) vP gL (nI left) (nI d) = some (vP', gL') ∧ _
    unfold F_X2_tryOrders
    simp only [jn_eq]
    rw [lexB]
    by_cases z : left = 0
    · have hd : d = n := by
        have := (pop0 left hl64).mpr z
        omega
      obtain ⟨vP', a1, a2, a3, a4⟩ := p_keepB hN hn hrc hsi (fun i hi => hpath i (by omega)) hcst
      refine ⟨vP', gL, ?_, ?_, fun i hi => by rw [a3], fun _ _ => rfl, a4⟩
      · rw [z, if_pos (show nI 0 = 0 from rfl), chk_in (by omega) (by decide), nI_clamp (by omega), a1]
        rfl
      · rw [if_pos z]
        show Cst S n vP' (stp S st (pre ++ []))
        rw [List.append_nil]
        exact a2
    · have hpos : 0 < popc left := by
        have := pop0 left hl64
        omega
      have hd6 : d < 6 := by omega
      have hk7 : ∀ {β : Type} {o : Option β}, chk 7 (nI d) o = o := chk_in (by omega) (by decide)
      have hk6 : ∀ {β : Type} {o : Option β}, chk 6 (nI d) o = o := chk_in (by omega) (by decide)
      have cd : (nI d).toNatClampNeg = d := nI_clamp (by omega)
      have cd1 : (nI (d + 1)).toNatClampNeg = d + 1 := nI_clamp (by omega)
      have loop : ∀ e t m vP gL st, t + e = 6 → e < m → (∀ i, i < d → vP 1 i = nI (gd pre i)) → RC (gL d) (hnd S pre) → Cst S n vP st → ∃ vP' gL', F_X2_tryOrders_L33 N (F_X2_tryOrdersK N k) (nI left) (nI d) m (nI t) vP gL = some (vP', gL') ∧ Cst S n vP' (goO S pre st (flT (fun t => if left.testBit t = true then (lexB k (left - 2 ^ t)).map (fun p => t :: p) else []) t e)) ∧ (∀ i, i < d → vP' 1 i = vP 1 i) ∧ (∀ i, i ≤ d → gL' i = gL i) ∧ vP' 0 4 = vP 0 4 := by
        intro e
        induction e with
        | zero =>
          intro t m vP gL st ht hm hpath hrc hcst
          obtain ⟨m, rfl⟩ : ∃ q, m = q + 1 := ⟨m - 1, by omega⟩
          have et : t = 6 := by omega
          subst et
          exact ⟨vP, gL, by rw [F_X2_tryOrders_L33, if_neg (by decide)], hcst, fun _ _ => rfl, fun _ _ => rfl, rfl⟩
        | succ e ihe =>
          intro t m vP gL st ht hm hpath hrc hcst
          obtain ⟨m, rfl⟩ : ∃ q, m = q + 1 := ⟨m - 1, by omega⟩
          have hlt : nI t < (6 : Int32) := nI_lt (b := 6) (by omega) (by decide)
          rw [flT]
          by_cases y : left.testBit t = true
          · obtain ⟨r1, r2, r3, r4⟩ := rem_tab left hl64 t (by omega) y
            have htt := hlb t (by omega) y
            have hover := ovr_rc (v := gL (d + 1)) hrc hsi
            obtain ⟨w, w1, w2, -⟩ := p_hand hN hover hsi (j := t) (by rw [hnd_th.1]; exact htt)
            have hsi2 : SInv (999 + (d + 1)) (hnd S (pre ++ [t])) := by
              rw [hnd_app]
              exact siHand hsi (by rw [hnd_th.1]; exact htt)
            have lp : (pre ++ [t]).length = d + 1 := by rw [List.length_append, hpl]; rfl
            have hpath2 : ∀ i, i < d + 1 → (up2 vP 1 d (nI t)) 1 i = nI (gd (pre ++ [t]) i) := fun i hi => by
              show upd (vP 1) d (nI t) i = _
              unfold gd
              by_cases x : i = d
              · rw [x, upd_s, ← hpl, getD_end]
              · rw [upd_n x, getD_app (by omega)]
                exact hpath i (by omega)
            obtain ⟨vP1, gL1, b1, b2, b3, b4, b5⟩ := ih (left - 2 ^ t) (d + 1) (pre ++ [t]) (up2 vP 1 d (nI t)) (upF (upF gL (d + 1) (ovr (gL (d + 1)) (gL d))) (d + 1) w) st (by omega) r2 (fun q q6 qb => hlb q q6 (r4 q q6 qb)) lp (by omega) hpath2 (by rw [upF_s, hnd_app]; exact w2) hsi2 hcst
            have hp1 : ∀ i, i < d → vP1 1 i = vP 1 i := fun i hi => by
              rw [b3 i (by omega)]
              show upd (vP 1) d (nI t) i = _
              rw [upd_n (by omega)]
            have hg1 : ∀ i, i ≤ d → gL1 i = gL i := fun i hi => by rw [b4 i (by omega), upF_n (by omega), upF_n (by omega)]
            obtain ⟨vP2, gL2, c1, c2, c3, c4, c5⟩ := ihe (t + 1) m vP1 gL1 (goO S (pre ++ [t]) st (lexB k (left - 2 ^ t))) (by omega) (by omega) (fun i hi => by rw [hp1 i hi]; exact hpath i hi) (by rw [hg1 d (Nat.le_refl _)]; exact hrc) b2
            refine ⟨vP2, gL2, ?_, ?_, fun i hi => by rw [c3 i hi, hp1 i hi], fun i hi => by rw [c4 i hi, hg1 i hi], by rw [c5, b5]; rfl⟩
            · rw [F_X2_tryOrders_L33, if_pos hlt, nI_1, nI_1, cd, cd1]
              simp only [jn_eq]
              rw [if_pos ((bit_has hl64 (by omega)).mpr y), hk7]
              unfold nei
              rw [if_neg (by omega), p_over, bs, upF_s, w1, bs, hk6, r1, b1, bs]
              exact c1
            · rw [if_pos y, goO_app, goO_map]
              exact c2
          · obtain ⟨vP2, gL2, c1, c2, c3, c4, c5⟩ := ihe (t + 1) m vP gL st (by omega) (by omega) hpath hrc hcst
            refine ⟨vP2, gL2, ?_, ?_, c3, c4, c5⟩
            · rw [F_X2_tryOrders_L33, if_pos hlt, nI_1]
              simp only [jn_eq]
              rw [if_neg (fun q => y ((bit_has hl64 (by omega)).mp q))]
              exact c1
            · rw [if_neg y, goO_app]
              exact c2
      rw [if_neg (nI_ne0 (show 0 < left by omega) (by omega)), if_pos (show nI d < (6 : Int32) from nI_lt (b := 6) hd6 (by decide)), nI_1, chk_in (n := 7) (k := d + 1) (by omega) (by decide), if_neg z]
      exact loop 6 0 N vP gL st (by omega) (by omega) hpath hrc hcst
/-- the model's orders -/
def OM (vM : SV) (as : Nat → Int32) (w : SV) : Prop := w 9 = as ∧ ∀ k, ¬ k = 4 → ¬ k = 9 → ¬ k = 10 → ¬ k = 11 → w k = vM k
theorem OM4 {vM w : SV} {as f : Nat → Int32} (h : OM vM as w) : OM vM as (upA w 4 f) := ⟨h.1, fun k a b c d => by rw [upA_k a]; exact h.2 k a b c d⟩
theorem OM10 {vM w : SV} {as f : Nat → Int32} (h : OM vM as w) : OM vM as (upA w 10 f) := ⟨h.1, fun k a b c d => by rw [upA_k c]; exact h.2 k a b c d⟩
theorem OM11 {vM w : SV} {as f : Nat → Int32} (h : OM vM as w) : OM vM as (upA w 11 f) := ⟨h.1, fun k a b c d => by rw [upA_k d]; exact h.2 k a b c d⟩
theorem l77 {N n : Nat} (hN : 3000 ≤ N) (hn : n ≤ 6) {x1 x3 x4 : Int32} : ∀ (q : List Nat) i m w X l B, i + q.length = n → (∀ j, j < q.length → w 10 (i + j) = nI (q.getD j 0)) → RM (w 4) (sL X l) → SInv B (sL X l) → q.Nodup → (∀ x ∈ q, x ∈ l) → q.length < m → ∃ f l2, (∀ K, F_X8_order_L77 N x1 (nI n) x3 x4 K m (nI i) w = K (upA w 4 f)) ∧ RM f (sL (hnd X q) l2) ∧ SInv (B + q.length) (sL (hnd X q) l2)
  | [], i, m, w, X, l, B, hi, hw, hm, hs, hnd, hin, hfu => by
    obtain ⟨m, rfl⟩ : ∃ k, m = k + 1 := ⟨m - 1, by omega⟩
    have hi : i + 0 = n := hi
    exact ⟨w 4, l, fun K => by rw [F_X8_order_L77, if_neg (nI_nlt (by omega) (by omega)), upA_self], hm, hs⟩
  | j :: q, i, m, w, X, l, B, hi, hw, hm, hs, hnd, hin, hfu => by
    rw [List.length_cons] at hi hfu
    obtain ⟨m, rfl⟩ : ∃ k, m = k + 1 := ⟨m - 1, by omega⟩
    have hj : j ∈ l := hin j List.mem_cons_self
    have hw0 : w 10 i = nI j := hw 0 (by rw [List.length_cons]; omega)
    obtain ⟨f, f1, f2⟩ := p_tapM hN (v := w) hm hs (j := j) hj 0
    rw [if_neg (fun z => z.2 rfl)] at f2
    have hjl := hs.2.2.2.1 j hj
    have hs2 : SInv (B + 1) (sL (handS X j) (wo l j)) := show SInv (B + 1) (sL (handS (sL X l) j) (wo l j)) from siL (siHand hs hjl) (wo_nd hs.2.2.1) (fun x hx => hs.2.2.2.1 x (wo_in hx))
    have nd := List.nodup_cons.mp hnd
    obtain ⟨g, l2, g1, g2, g3⟩ := l77 hN hn (x1 := x1) (x3 := x3) (x4 := x4) q (i + 1) m (upA w 4 f) (handS X j) (wo l j) (B + 1) (by omega) (fun k hk => by
      show w 10 (i + 1 + k) = _
      have := hw (k + 1) (by rw [List.length_cons]; omega)
      rw [show i + 1 + k = i + (k + 1) from by omega]
      exact this) f2 hs2 nd.2 (fun x hx => List.mem_filter.mpr ⟨hin x (List.mem_cons_of_mem j hx), by
        simp
        intro e
        rw [e] at hx
        exact nd.1 hx⟩) (by omega)
    refine ⟨g, l2, fun K => ?_, g2, ?_⟩
    · rw [F_X8_order_L77, if_pos (nI_lt (by omega) (by omega)), chk_in (n := 6) (k := i) (by omega) (by decide), nI_clamp (by omega), hw0, f1, bs, nI_1, g1, upA_upA]
    · rw [List.length_cons, show B + (q.length + 1) = B + 1 + q.length from by omega]
      exact g3
theorem l128 {N n : Nat} (hn : n ≤ 6) {x1 x3 x4 : Int32} : ∀ d i m w, i + d = n → d < m → ∃ f, (∀ K, F_X8_order_L128 N x1 (nI n) x3 x4 K m (nI i) w = K (upA w 11 f)) ∧ ∀ k, f k = if i ≤ k ∧ k < n then w 10 k else w 11 k := by
  intro d
  induction d with
  | zero =>
    intro i m w hi hm
    obtain ⟨m, rfl⟩ : ∃ k, m = k + 1 := ⟨m - 1, by omega⟩
    exact ⟨w 11, fun K => by rw [F_X8_order_L128, if_neg (nI_nlt (by omega) (by omega)), upA_self], fun k => by rw [if_neg (by omega)]⟩
  | succ d ih =>
    intro i m w hi hm
    obtain ⟨m, rfl⟩ : ∃ k, m = k + 1 := ⟨m - 1, by omega⟩
    obtain ⟨f, f1, f2⟩ := ih (i + 1) m (up2 w 11 i (w 10 i)) (by omega) (by omega)
    refine ⟨f, fun K => ?_, fun k => ?_⟩
    · rw [F_X8_order_L128, if_pos (nI_lt (by omega) (by omega)), chk_in (n := 6) (k := i) (by omega) (by decide), chk_in (n := 6) (k := i) (by omega) (by decide), nI_clamp (by omega), nI_1, f1]
      unfold up2
      rw [upA_upA]
    · rw [f2 k]
      show (if i + 1 ≤ k ∧ k < n then w 10 k else upd (w 11) i (w 10 i) k) = _
      by_cases q : i + 1 ≤ k ∧ k < n
      · rw [if_pos q, if_pos (by omega)]
      · rw [if_neg q]
        by_cases e : k = i
        · subst e
          rw [if_pos (by omega), upd_s]
        · rw [if_neg (by omega), upd_n e]
def Mst (S : Sh) (n : Nat) (most who : Int32) (w : SV) (st : Int32 × Option (List Nat)) : Prop := most = st.1 ∧ ∀ p, st.2 = some p → who = plO S p ∧ ∀ i, i < n → w 11 i = nI (gd p i)
theorem l_orders {N n mm : Nat} (hN : 3000 ≤ N) (hn : n ≤ 6) {x1 : Int32} {vM : SV} {as : Nat → Int32} {S : Sh} (hm : RM (vM 4) S) (hi : SInv 999 S) (ha : ∀ i, i < 55 → as i = vM 4 i) (hbit : ∀ q, mm.testBit q = true → q ∈ S.2.2.2.2) : ∀ (P : List (List Nat)) p m most who w st, chkP n (p :: P) = true → (∀ q ∈ p :: P, okL mm n q = true) → (p :: P).length < m → (∀ i, i < n → w 10 i = nI (gd p i)) → OM vM as w → (∀ i, i < 55 → w 4 i = vM 4 i) → Mst S n most who w st → ∃ most' who' w', (∀ K, F_X8_order_L69 N x1 (nI n) K m most who 1 w = K most' who' w') ∧ OM vM as w' ∧ (∀ i, i < 55 → w' 4 i = vM 4 i) ∧ Mst S n most' who' w' (goO S [] st (p :: P)) := by
  have one : ∀ p m most who w st, okL mm n p = true → (∀ i, i < n → w 10 i = nI (gd p i)) → OM vM as w → (∀ i, i < 55 → w 4 i = vM 4 i) → Mst S n most who w st → ∃ most' who' w', (∀ K, F_X8_order_L69 N x1 (nI n) K (m + 1) most who 1 w = ((F_X8_isNext N w' (nI n)).bind (fun q160 => F_X8_order_L69 N x1 (nI n) K m most' who' (q160.1) (q160.2)))) ∧ OM vM as w' ∧ (∀ i, i < 55 → w' 4 i = vM 4 i) ∧ w' 10 = w 10 ∧ Mst S n most' who' w' (stp S st p) := by
    intro p m most who w st hok hw hom hw4 hst
    unfold okL at hok
    rw [Bool.and_eq_true, Bool.and_eq_true, decide_eq_true_iff, decide_eq_true_iff, List.all_eq_true] at hok
    obtain ⟨⟨hlen, hndp⟩, hall⟩ := hok
    obtain ⟨f, l2, f1, f2, f3⟩ := l77 hN hn (x1 := x1) (x3 := most) (x4 := who) p 0 N w S S.2.2.2.2 999 (by omega) (fun j hj => by rw [Nat.zero_add]; exact hw j (by omega)) (rm_cg hm hi hw4) hi hndp (fun x hx => by
      have := hall x hx
      rw [Bool.and_eq_true] at this
      exact hbit x this.2) (by omega)
    have h6 : (hnd S p).2.2.2.1 ≤ 6 := f3.2.1
    have e5 : (upA w 4 f) 4 5 = clO S p := f2.2.2.2.2.2.2.1
    have back : ∀ u, OM vM as u → ∃ g, F_X8_takeBack N u = some (upA u 4 g) ∧ ∀ i, i < 55 → g i = vM 4 i := fun u hu => by
      obtain ⟨g, g1, g2⟩ := p_tback hN u
      exact ⟨g, g1, fun i hi => by rw [g2 i hi, hu.1]; exact ha i hi⟩
    by_cases z : st.1 < clO S p
    · obtain ⟨h, h1, h2⟩ := l128 (N := N) hn (x1 := x1) (x3 := clO S p) (x4 := plO S p) n 0 N (upA w 4 f) (by omega) (by omega)
      obtain ⟨g, g1, g2⟩ := back (upA (upA w 4 f) 11 h) (OM11 (OM4 hom))
      refine ⟨clO S p, plO S p, upA (upA (upA w 4 f) 11 h) 4 g, fun K => ?_, OM4 (OM11 (OM4 hom)), g2, rfl, ?_⟩
      · rw [F_X8_order_L69, if_neg one0, show ∀ K, F_X8_order_L77 N x1 (nI n) most who K N (0 : Int32) w = K (upA w 4 f) from f1, k5, t5]
        simp only [jn_eq]
        rw [e5, hst.1, if_pos z, k5, show F_X8_seatsOf N (upA w 4 f) 1 = some (plO S p) from p_seatsOf hN (v := upA w 4 f) f2 h6 1, bs, show ∀ K, F_X8_order_L128 N x1 (nI n) (clO S p) (plO S p) K N (0 : Int32) (upA w 4 f) = K (upA (upA w 4 f) 11 h) from h1, g1, bs]
      · unfold stp
        rw [if_pos z]
        refine ⟨rfl, fun q hq => ?_⟩
        have hq := Option.some.inj hq
        subst hq
        refine ⟨rfl, fun i hi2 => ?_⟩
        show h i = _
        rw [h2 i, if_pos (by omega)]
        exact hw i hi2
    · obtain ⟨g, g1, g2⟩ := back (upA w 4 f) (OM4 hom)
      refine ⟨most, who, upA (upA w 4 f) 4 g, fun K => ?_, OM4 (OM4 hom), g2, rfl, ?_⟩
      · rw [F_X8_order_L69, if_neg one0, show ∀ K, F_X8_order_L77 N x1 (nI n) most who K N (0 : Int32) w = K (upA w 4 f) from f1, k5, t5]
        simp only [jn_eq]
        rw [e5, hst.1, if_neg z, g1, bs]
      · unfold stp
        rw [if_neg z]
        exact hst
  have bnd : ∀ p, okL mm n p = true → ∀ i, i < n → gd p i < 6 := fun p hok i hi2 => by
    unfold okL at hok
    rw [Bool.and_eq_true, Bool.and_eq_true, decide_eq_true_iff, decide_eq_true_iff, List.all_eq_true] at hok
    obtain ⟨⟨hlen, hndp⟩, hall⟩ := hok
    have := hall _ (getD_mem (l := p) (i := i) (by omega))
    rw [Bool.and_eq_true, decide_eq_true_iff] at this
    exact this.1
  intro P
  induction P with
  | nil =>
    intro p m most who w st hchk hok hfu hw hom hw4 hst
    obtain ⟨m, rfl⟩ : ∃ k, m = k + 2 := ⟨m - 2, by rw [List.length_cons] at hfu; omega⟩
    have hokp := hok p List.mem_cons_self
    obtain ⟨most', who', w', a1, a2, a3, a4, a5⟩ := one p (m + 1) most who w st hokp hw hom hw4 hst
    have el := p_last (N := N) (v := w') (p := p) hN hn (fun i hi2 => by rw [a4]; exact hw i hi2) (bnd p hokp) hchk
    refine ⟨most', who', w', fun K => ?_, a2, a3, a5⟩
    rw [show m + 2 = m + 1 + 1 from rfl, a1, el, bs, F_X8_order_L69, if_pos rfl]
  | cons q P ih =>
    intro p m most who w st hchk hok hfu hw hom hw4 hst
    rw [List.length_cons] at hfu
    obtain ⟨m, rfl⟩ : ∃ k, m = k + 1 := ⟨m - 1, by omega⟩
    have hokp := hok p List.mem_cons_self
    rw [chkP, Bool.and_eq_true] at hchk
    obtain ⟨most', who', w', a1, a2, a3, a4, a5⟩ := one p m most who w st hokp hw hom hw4 hst
    obtain ⟨f, f1, f2⟩ := p_nextP (N := N) (v := w') (p := p) (q := q) hN hn (fun i hi2 => by rw [a4]; exact hw i hi2) (bnd p hokp) hchk.1
    obtain ⟨most2, who2, w2, b1, b2, b3, b4⟩ := ih q m most' who' (upA w' 10 f) (stp S st p) hchk.2 (fun x hx => hok x (List.mem_cons_of_mem p hx)) (by omega) f2 (OM10 a2) a3 a5
    refine ⟨most2, who2, w2, fun K => ?_, b2, b3, b4⟩
    rw [a1, f1, bs, b1]
