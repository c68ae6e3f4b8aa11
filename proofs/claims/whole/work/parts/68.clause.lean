/-! show: things and seats -/
def sortN (c : Nat) : Nat := if c = 112 then 1 else if c = 98 then 2 else if c = 102 then 3 else if c = 108 then 4 else if c = 104 then 5 else 0
theorem sort_le (c : Nat) : sortN c ≤ 5 := by
  unfold sortN
  repeat' split
  all_goals omega
theorem sort_cls {c : Nat} (h : 0 < sortN c) : 97 ≤ c ∧ c ≤ 122 := by
  unfold sortN at h
  repeat' split at h
  all_goals omega
theorem eq8 : ∀ c, c < 256 → ((112 : Int32) = (nI c).toInt8.toInt32 ↔ c = 112) ∧ ((98 : Int32) = (nI c).toInt8.toInt32 ↔ c = 98) ∧ ((102 : Int32) = (nI c).toInt8.toInt32 ↔ c = 102) ∧ ((108 : Int32) = (nI c).toInt8.toInt32 ↔ c = 108) ∧ ((104 : Int32) = (nI c).toInt8.toInt32 ↔ c = 104) := by decide +kernel
theorem p_idx {N c : Nat} (hN : 3000 ≤ N) (hc : c < 256) : F_J0_indexOf_0f7a4 N (nI c) = some (if 0 < sortN c then nI (sortN c - 1) else -1) := by
  obtain ⟨M, rfl⟩ : ∃ k, N = k + 6 := ⟨N - 6, by omega⟩
  obtain ⟨q1, q2, q3, q4, q5⟩ := eq8 c hc
  have e : F_J0_indexOf_0f7a4 (M + 6) (nI c) = F_J1_indexOfChar_4cfef_L7 (M + 6) 5 ((nI c).toInt8.toInt32) (M + 6) 0 := by
    unfold F_J0_indexOf_0f7a4 F_J0_indexOf_7cf53
    rw [show F_J0_isLatin1_aae02 (M + 6) = some 1 from rfl, bs, if_neg one0, show F_J0_length_8abf5 (M + 6) = some 5 from rfl, bs]
    unfold F_J1_indexOf_4cfef F_J1_canEncode_9a6ad
    rw [if_neg (nI_pos (by omega)), if_neg (show ¬ (255 : Int32) < nI c from nI_nlt (a := 255) (by omega) (by decide)), bs, if_neg one0, if_pos (by decide)]
    unfold F_J1_indexOfChar_4cfef
    rw [show (if (5 : Int32) < 5 then (5 : Int32) else 5) = 5 from rfl, show (if (0 : Int32) < 0 then (0 : Int32) else 0) = 0 from rfl]
    cases F_J1_indexOfChar_4cfef_L7 (M + 6) 5 ((nI c).toInt8.toInt32) (M + 6) 0 <;> rfl
  rw [e]
  rw [F_J1_indexOfChar_4cfef_L7, if_pos (by decide), chk_dec (by decide), show tSorts ((0 : Int32).toNatClampNeg) = 112 from rfl]
  unfold sortN
  by_cases z1 : c = 112
  · rw [if_pos (q1.mpr z1), if_pos z1]; rfl
  rw [if_neg (fun q => z1 (q1.mp q)), if_neg z1, F_J1_indexOfChar_4cfef_L7, if_pos (by decide), chk_dec (by decide), show tSorts (((0 : Int32) + 1).toNatClampNeg) = 98 from rfl]
  by_cases z2 : c = 98
  · rw [if_pos (q2.mpr z2), if_pos z2]; rfl
  rw [if_neg (fun q => z2 (q2.mp q)), if_neg z2, F_J1_indexOfChar_4cfef_L7, if_pos (by decide), chk_dec (by decide), show tSorts (((0 : Int32) + 1 + 1).toNatClampNeg) = 102 from rfl]
  by_cases z3 : c = 102
  · rw [if_pos (q3.mpr z3), if_pos z3]; rfl
  rw [if_neg (fun q => z3 (q3.mp q)), if_neg z3, F_J1_indexOfChar_4cfef_L7, if_pos (by decide), chk_dec (by decide), show tSorts (((0 : Int32) + 1 + 1 + 1).toNatClampNeg) = 108 from rfl]
  by_cases z4 : c = 108
  · rw [if_pos (q4.mpr z4), if_pos z4]; rfl
  rw [if_neg (fun q => z4 (q4.mp q)), if_neg z4, F_J1_indexOfChar_4cfef_L7, if_pos (by decide), chk_dec (by decide), show tSorts (((0 : Int32) + 1 + 1 + 1 + 1).toNatClampNeg) = 104 from rfl]
  by_cases z5 : c = 104
  · rw [if_pos (q5.mpr z5), if_pos z5]; rfl
  rw [if_neg (fun q => z5 (q5.mp q)), if_neg z5, F_J1_indexOfChar_4cfef_L7, if_neg (by decide)]
  rfl
theorem p_sort {N n a : Nat} (hN : 3000 ≤ N) {ch : Nat → Nat} {fl : Int32} {vT : SV} (hn : n ≤ 120) (hch : ∀ i, i < n → ch i < 256) (ha : a ≤ n) (h : TcAt n ch fl vT a) : F_X6_sortHere N vT = some (if a < n ∧ 0 < sortN (ch a) then nI (sortN (ch a) - 1) else -1) := by
  unfold F_X6_sortHere
  rw [h.1, h.2.1]
  by_cases z : a < n
  · have hc := hch a z
    rw [if_pos (nI_lt z (by omega)), chk_in (by omega) (by decide), nI_clamp (by omega), h.2.2.2 a z, pk_char, pk_tn (by omega), Nat.mod_eq_of_lt (by omega), p_idx hN hc, bs]
    by_cases y : 0 < sortN (ch a)
    · rw [if_pos y, if_pos (And.intro z y)]
    · rw [if_neg y, if_neg (fun q => y q.2)]
  · rw [if_neg (nI_nlt (by omega) (by omega)), if_neg (fun q => z q.1)]
def addT (S : Sh) (kd lb wt jy : Int32) : Sh := (S.1, fun a s => if s = S.2.2.1 ∧ a < 4 then (if a = 0 then kd else if a = 1 then lb else if a = 2 then wt else jy) else S.2.1 a s, S.2.2.1 + 1, S.2.2.2.1, S.2.2.2.2 ++ [S.2.2.1])
def addS (S : Sh) (lb pt : Int32) : Sh := (S.1, fun a s => if s = S.2.2.2.1 ∧ 4 ≤ a then (if a = 4 then lb else if a = 5 then pt else 0) else S.2.1 a s, S.2.2.1, S.2.2.2.1 + 1, S.2.2.2.2)
theorem addT_n {S : Sh} {kd lb wt jy : Int32} {a s : Nat} (h : ¬ s = S.2.2.1 ∨ 4 ≤ a) : (addT S kd lb wt jy).2.1 a s = S.2.1 a s := if_neg (by omega)
theorem addT_s {S : Sh} {kd lb wt jy : Int32} {s : Nat} (h : s = S.2.2.1) : (addT S kd lb wt jy).2.1 0 s = kd ∧ (addT S kd lb wt jy).2.1 1 s = lb ∧ (addT S kd lb wt jy).2.1 2 s = wt ∧ (addT S kd lb wt jy).2.1 3 s = jy := ⟨if_pos (And.intro h (by omega)), if_pos (And.intro h (by omega)), if_pos (And.intro h (by omega)), if_pos (And.intro h (by omega))⟩
theorem addS_n {S : Sh} {lb pt : Int32} {a s : Nat} (h : ¬ s = S.2.2.2.1 ∨ a < 4) : (addS S lb pt).2.1 a s = S.2.1 a s := if_neg (by omega)
theorem addS_s {S : Sh} {lb pt : Int32} {s : Nat} (h : s = S.2.2.2.1) : (addS S lb pt).2.1 4 s = lb ∧ (addS S lb pt).2.1 5 s = pt ∧ (addS S lb pt).2.1 6 s = 0 := ⟨if_pos (And.intro h (by omega)), if_pos (And.intro h (by omega)), if_pos (And.intro h (by omega))⟩
theorem siT {S : Sh} {k l w y : Nat} (hi : SInv 999 S) (hl : S.2.2.2.2 = List.range S.2.2.1) (h6 : S.2.2.1 < 6) (hk : 1 ≤ k ∧ k ≤ 5) (hl9 : l ≤ 9) (hw : 1 ≤ w ∧ w ≤ 20) (hy : y ≤ 9) : SInv 999 (addT S (nI k) (nI l) (nI w) (nI y)) := by
  obtain ⟨a1, a2, a3, a4, a5, a6, a7, a8, a9⟩ := hi
  have hlist : S.2.2.2.2 ++ [S.2.2.1] = List.range (S.2.2.1 + 1) := by rw [hl, List.range_succ]
  refine ⟨by show S.2.2.1 + 1 ≤ 6; omega, a2, ?_, fun x hx => ?_, fun i hI => ?_, fun i hI => ?_, a7, a8, a9⟩
  · show (S.2.2.2.2 ++ [S.2.2.1]).Nodup
    rw [hlist]; exact List.nodup_range
  · have hx : x ∈ S.2.2.2.2 ++ [S.2.2.1] := hx
    rw [hlist] at hx
    exact List.mem_range.mp hx
  · by_cases e : i = S.2.2.1
    · obtain ⟨b1, b2, b3, b4⟩ := addT_s (kd := nI k) (lb := nI l) (wt := nI w) (jy := nI y) e
      rw [b1, b2, b3, b4]
      exact ⟨⟨k, hk.1, hk.2, rfl⟩, ⟨l, hl9, rfl⟩, ⟨w, hw.1, hw.2, rfl⟩, ⟨y, hy, rfl⟩⟩
    · have hI : i < S.2.2.1 + 1 := hI
      rw [addT_n (Or.inl e), addT_n (Or.inl e), addT_n (Or.inl e), addT_n (Or.inl e)]
      exact a5 i (by omega)
  · rw [addT_n (Or.inr (by omega)), addT_n (Or.inr (by omega)), addT_n (Or.inr (by omega))]
    exact a6 i hI
theorem siS {S : Sh} {l p : Nat} (hi : SInv 999 S) (h6 : S.2.2.2.1 < 6) (hl9 : l ≤ 9) (hp : 1 ≤ p ∧ p ≤ 20) : SInv 999 (addS S (nI l) (nI p)) := by
  obtain ⟨a1, a2, a3, a4, a5, a6, a7, a8, a9⟩ := hi
  refine ⟨a1, by show S.2.2.2.1 + 1 ≤ 6; omega, a3, a4, fun i hI => ?_, fun i hI => ?_, a7, a8, a9⟩
  · rw [addS_n (Or.inr (by omega)), addS_n (Or.inr (by omega)), addS_n (Or.inr (by omega)), addS_n (Or.inr (by omega))]
    exact a5 i hI
  · by_cases e : i = S.2.2.2.1
    · obtain ⟨b1, b2, b3⟩ := addS_s (lb := nI l) (pt := nI p) e
      rw [b1, b2, b3]
      exact ⟨⟨l, hl9, rfl⟩, ⟨p, by omega, rfl⟩, ⟨0, by omega, rfl⟩, fun _ => nI_ne0 (by omega) (by omega)⟩
    · have hI : i < S.2.2.2.1 + 1 := hI
      rw [addS_n (Or.inl e), addS_n (Or.inl e), addS_n (Or.inl e)]
      exact a6 i (by omega)
theorem p_addT (N : Nat) {v : SV} {S : Sh} (hc : RC v S) (hl : S.2.2.2.2.length = S.2.2.1) (h6 : S.2.2.1 < 6) (kd lb wt jy : Int32) : ∃ w, F_X5_addThing N v kd lb wt jy = some w ∧ RC w (addT S kd lb wt jy) := by
  have hk : ∀ {β : Type} {o : Option β}, chk 6 (nI S.2.2.1) o = o := chk_in h6 (by decide)
  have hlt : nI S.2.2.1 < (6 : Int32) := nI_lt (b := 6) h6 (by decide)
  have c1 : (nI S.2.2.1).toNatClampNeg = S.2.2.1 := nI_clamp (by omega)
  obtain ⟨a0, a1, a2, a3, a4, a5, a6, a7, a8, a9⟩ := hc
  have ll : (S.2.2.2.2 ++ [S.2.2.1]).length = S.2.2.1 + 1 := by rw [List.length_append, hl]; rfl
  refine ⟨up2 (up2 (up2 (up2 (up2 (up2 (up2 v 1 S.2.2.1 kd) 2 S.2.2.1 lb) 3 S.2.2.1 wt) 4 S.2.2.1 jy) 8 S.2.2.1 (nI S.2.2.1)) 0 4 (nI (S.2.2.1 + 1))) 0 2 (nI (S.2.2.1 + 1)), ?_, ?_⟩
  · unfold F_X5_addThing F_X5_putLast
    rw [a2, if_pos hlt, hk, hk, hk, hk, c1]
    have e4 : (up2 (up2 (up2 (up2 v 1 S.2.2.1 kd) 2 S.2.2.1 lb) 3 S.2.2.1 wt) 4 S.2.2.1 jy) 0 4 = nI S.2.2.1 := by
      show v 0 4 = _
      rw [a4, hl]
    rw [e4, if_pos hlt, hk, c1, bs, nI_1]
    show some (up2 _ 0 2 (v 0 2 + 1)) = _
    rw [a2, nI_1]
  · refine ⟨a0, a1, rfl, a3, ?_, a5, a6, fun i hI => ?_, fun i hI => ?_, fun i hI => ?_⟩
    · show nI (S.2.2.1 + 1) = nI (S.2.2.2.2 ++ [S.2.2.1]).length
      rw [ll]
    · have hI : i < S.2.2.1 + 1 := hI
      show upd (v 1) S.2.2.1 kd i = _ ∧ upd (v 2) S.2.2.1 lb i = _ ∧ upd (v 3) S.2.2.1 wt i = _ ∧ upd (v 4) S.2.2.1 jy i = _
      by_cases e : i = S.2.2.1
      · obtain ⟨b1, b2, b3, b4⟩ := addT_s (kd := kd) (lb := lb) (wt := wt) (jy := jy) e
        rw [b1, b2, b3, b4, e, upd_s, upd_s, upd_s, upd_s]
        exact ⟨rfl, rfl, rfl, rfl⟩
      · rw [addT_n (Or.inl e), addT_n (Or.inl e), addT_n (Or.inl e), addT_n (Or.inl e), upd_n e, upd_n e, upd_n e, upd_n e]
        exact a7 i (by omega)
    · rw [addT_n (Or.inr (by omega)), addT_n (Or.inr (by omega)), addT_n (Or.inr (by omega))]
      exact a8 i hI
    · have hI : i < (S.2.2.2.2 ++ [S.2.2.1]).length := hI
      show upd (v 8) S.2.2.1 (nI S.2.2.1) i = nI ((S.2.2.2.2 ++ [S.2.2.1]).getD i 0)
      by_cases e : i = S.2.2.1
      · rw [e, upd_s]
        have := getD_end (l := S.2.2.2.2) (j := S.2.2.1)
        rw [hl] at this
        rw [this]
      · rw [upd_n e, getD_app (by omega)]
        exact a9 i (by omega)
theorem p_addS (N : Nat) {v : SV} {S : Sh} (hc : RC v S) (h6 : S.2.2.2.1 < 6) (lb pt : Int32) : ∃ w, F_X5_addSeat N v lb pt = some w ∧ RC w (addS S lb pt) := by
  have hk : ∀ {β : Type} {o : Option β}, chk 6 (nI S.2.2.2.1) o = o := chk_in h6 (by decide)
  have hlt : nI S.2.2.2.1 < (6 : Int32) := nI_lt (b := 6) h6 (by decide)
  have c1 : (nI S.2.2.2.1).toNatClampNeg = S.2.2.2.1 := nI_clamp (by omega)
  obtain ⟨a0, a1, a2, a3, a4, a5, a6, a7, a8, a9⟩ := hc
  refine ⟨up2 (up2 (up2 (up2 v 5 S.2.2.2.1 lb) 6 S.2.2.2.1 pt) 7 S.2.2.2.1 0) 0 3 (nI (S.2.2.2.1 + 1)), ?_, ?_⟩
  · unfold F_X5_addSeat F_X5_takeAnew
    rw [a3, if_pos hlt, hk, hk, hk, c1, bs]
    show some (up2 _ 0 3 (v 0 3 + 1)) = _
    rw [a3, nI_1]
  · refine ⟨a0, a1, a2, rfl, a4, a5, a6, fun i hI => ?_, fun i hI => ?_, a9⟩
    · rw [addS_n (Or.inr (by omega)), addS_n (Or.inr (by omega)), addS_n (Or.inr (by omega)), addS_n (Or.inr (by omega))]
      exact a7 i hI
    · have hI : i < S.2.2.2.1 + 1 := hI
      show upd (v 5) S.2.2.2.1 lb i = _ ∧ upd (v 6) S.2.2.2.1 pt i = _ ∧ upd (v 7) S.2.2.2.1 0 i = _
      by_cases e : i = S.2.2.2.1
      · obtain ⟨b1, b2, b3⟩ := addS_s (lb := lb) (pt := pt) e
        rw [b1, b2, b3, e, upd_s, upd_s, upd_s]
        exact ⟨rfl, rfl, rfl⟩
      · rw [addS_n (Or.inl e), addS_n (Or.inl e), addS_n (Or.inl e), upd_n e, upd_n e, upd_n e]
        exact a8 i (by omega)
def thF (r : Nat → Int32) (t : Nat) (k lb wt jy : Int32) : Nat → Int32 := upd (upd (upd (upd (upd (upd (upd r (7 + t) k) (31 + t) (nI t)) 2 (nI (t + 1))) 6 (nI (t + 1))) (13 + t) lb) (19 + t) wt) (25 + t) jy
theorem thF_n {r : Nat → Int32} {t i : Nat} {k lb wt jy : Int32} (h : ¬ i = 7 + t ∧ ¬ i = 31 + t ∧ ¬ i = 2 ∧ ¬ i = 6 ∧ ¬ i = 13 + t ∧ ¬ i = 19 + t ∧ ¬ i = 25 + t) : thF r t k lb wt jy i = r i := by
  unfold thF
  rw [upd_n (by omega), upd_n (by omega), upd_n (by omega), upd_n (by omega), upd_n (by omega), upd_n (by omega), upd_n (by omega)]
theorem rm_addT {r : Nat → Int32} {S : Sh} {kd lb wt jy : Int32} (hm : RM r S) (hl : S.2.2.2.2.length = S.2.2.1) (h6 : S.2.2.1 < 6) (h7 : S.2.2.2.1 ≤ 6) : RM (thF r S.2.2.1 kd lb wt jy) (addT S kd lb wt jy) := by
  obtain ⟨a0, a1, a2, a3, a4, a5, a6, a7, a8, a9⟩ := hm
  have ll : (S.2.2.2.2 ++ [S.2.2.1]).length = S.2.2.1 + 1 := by rw [List.length_append, hl]; rfl
  refine ⟨by rw [thF_n (by omega)]; exact a0, by rw [thF_n (by omega)]; exact a1, ?_, by rw [thF_n (by omega)]; exact a3, ?_, by rw [thF_n (by omega)]; exact a5, by rw [thF_n (by omega)]; exact a6, fun i hI => ?_, fun i hI => ?_, fun i hI => ?_⟩
  · unfold thF
    rw [upd_n (by omega), upd_n (by omega), upd_n (by omega), upd_n (by omega), upd_s]
    rfl
  · unfold thF
    rw [upd_n (by omega), upd_n (by omega), upd_n (by omega), upd_s]
    show _ = nI (S.2.2.2.2 ++ [S.2.2.1]).length
    rw [ll]
  · have hI : i < S.2.2.1 + 1 := hI
    by_cases e : i = S.2.2.1
    · obtain ⟨b1, b2, b3, b4⟩ := addT_s (kd := kd) (lb := lb) (wt := wt) (jy := jy) e
      rw [b1, b2, b3, b4, e]
      unfold thF
      refine ⟨?_, ?_, ?_, ?_⟩
      · rw [upd_n (by omega), upd_n (by omega), upd_n (by omega), upd_n (by omega), upd_n (by omega), upd_n (by omega), upd_s]
      · rw [upd_n (by omega), upd_n (by omega), upd_s]
      · rw [upd_n (by omega), upd_s]
      · rw [upd_s]
    · rw [addT_n (Or.inl e), addT_n (Or.inl e), addT_n (Or.inl e), addT_n (Or.inl e), thF_n (by omega), thF_n (by omega), thF_n (by omega), thF_n (by omega)]
      exact a7 i (by omega)
  · have hI : i < S.2.2.2.1 := hI
    rw [addT_n (Or.inr (by omega)), addT_n (Or.inr (by omega)), addT_n (Or.inr (by omega)), thF_n (by omega), thF_n (by omega), thF_n (by omega)]
    exact a8 i hI
  · have hI : i < (S.2.2.2.2 ++ [S.2.2.1]).length := hI
    show _ = nI ((S.2.2.2.2 ++ [S.2.2.1]).getD i 0)
    by_cases e : i = S.2.2.1
    · have := getD_end (l := S.2.2.2.2) (j := S.2.2.1)
      rw [hl] at this
      rw [e, this]
      unfold thF
      rw [upd_n (by omega), upd_n (by omega), upd_n (by omega), upd_n (by omega), upd_n (by omega), upd_s]
    · rw [getD_app (by omega), thF_n (by omega)]
      exact a9 i (by omega)
def seF (r : Nat → Int32) (s : Nat) (lb pt : Int32) : Nat → Int32 := upd (upd (upd r 3 (nI (s + 1))) (37 + s) lb) (43 + s) pt
theorem seF_n {r : Nat → Int32} {s i : Nat} {lb pt : Int32} (h : ¬ i = 3 ∧ ¬ i = 37 + s ∧ ¬ i = 43 + s) : seF r s lb pt i = r i := by
  unfold seF
  rw [upd_n (by omega), upd_n (by omega), upd_n (by omega)]
theorem rm_addS {r : Nat → Int32} {S : Sh} {lb pt : Int32} (hm : RM r S) (hl : S.2.2.2.2.length ≤ 6) (h6 : S.2.2.1 ≤ 6) (h7 : S.2.2.2.1 < 6) (hz : r (49 + S.2.2.2.1) = 0) : RM (seF r S.2.2.2.1 lb pt) (addS S lb pt) := by
  obtain ⟨a0, a1, a2, a3, a4, a5, a6, a7, a8, a9⟩ := hm
  refine ⟨by rw [seF_n (by omega)]; exact a0, by rw [seF_n (by omega)]; exact a1, by rw [seF_n (by omega)]; exact a2, ?_, by rw [seF_n (by omega)]; exact a4, by rw [seF_n (by omega)]; exact a5, by rw [seF_n (by omega)]; exact a6, fun i hI => ?_, fun i hI => ?_, fun i hI => ?_⟩
  · unfold seF
    rw [upd_n (by omega), upd_n (by omega), upd_s]
    rfl
  · have hI : i < S.2.2.1 := hI
    rw [addS_n (Or.inr (by omega)), addS_n (Or.inr (by omega)), addS_n (Or.inr (by omega)), addS_n (Or.inr (by omega)), seF_n (by omega), seF_n (by omega), seF_n (by omega), seF_n (by omega)]
    exact a7 i hI
  · have hI : i < S.2.2.2.1 + 1 := hI
    by_cases e : i = S.2.2.2.1
    · obtain ⟨b1, b2, b3⟩ := addS_s (lb := lb) (pt := pt) e
      rw [b1, b2, b3, e, seF_n (i := 49 + S.2.2.2.1) (by omega)]
      unfold seF
      exact ⟨by rw [upd_n (by omega), upd_s], by rw [upd_s], hz⟩
    · rw [addS_n (Or.inl e), addS_n (Or.inl e), addS_n (Or.inl e), seF_n (by omega), seF_n (by omega), seF_n (by omega)]
      exact a8 i (by omega)
  · have hI : i < S.2.2.2.2.length := hI
    rw [seF_n (by omega)]
    exact a9 i hI
