/-! image, restore -/
theorem l_image {N k : Nat} (hk : k ≤ 1) : ∀ d s n v, s + d = 55 → d < n → ∃ f, (∀ K, F_X8_image_L25 N (nI k) K n (nI s) v = K (upA v 13 f)) ∧ ∀ i, f i = if 55 * k + s ≤ i ∧ i < 55 * k + 55 then v 4 (i - 55 * k) else v 13 i := by
  intro d
  induction d with
  | zero =>
    intro s n v hs hn
    obtain ⟨n, rfl⟩ : ∃ m, n = m + 1 := ⟨n - 1, by omega⟩
    have e : s = 55 := by omega
    subst e
    refine ⟨v 13, fun K => ?_, fun i => by rw [if_neg (by omega)]⟩
    rw [F_X8_image_L25, if_neg (by decide), upA_self]
  | succ d ih =>
    intro s n v hs hn
    obtain ⟨n, rfl⟩ : ∃ m, n = m + 1 := ⟨n - 1, by omega⟩
    obtain ⟨f, f1, f2⟩ := ih (s + 1) n (up2 v 13 (55 * k + s) (v 4 s)) (by omega) (by omega)
    refine ⟨f, fun K => ?_, fun i => ?_⟩
    · rw [F_X8_image_L25, if_pos (show nI s < (55 : Int32) from nI_lt (b := 55) (by omega) (by decide)), show (55 : Int32) = nI 55 from rfl, pk_mul, nI_add, chk_in (n := 55) (k := s) (by omega) (by decide), chk_in (n := 110) (k := 55 * k + s) (by omega) (by decide), nI_clamp (n := s) (by omega), nI_clamp (n := 55 * k + s) (by omega), nI_1, f1]
      unfold up2
      rw [upA_upA]
    · rw [f2 i]
      show (if 55 * k + (s + 1) ≤ i ∧ i < 55 * k + 55 then v 4 (i - 55 * k) else upd (v 13) (55 * k + s) (v 4 s) i) = _
      by_cases q : 55 * k + (s + 1) ≤ i ∧ i < 55 * k + 55
      · rw [if_pos q, if_pos (by omega)]
      · rw [if_neg q]
        by_cases e : i = 55 * k + s
        · subst e
          rw [if_pos (by omega), upd_s, show 55 * k + s - 55 * k = s from by omega]
        · rw [if_neg (by omega), upd_n e]
theorem l_restore {N k : Nat} (hk : k ≤ 1) : ∀ d s n v, s + d = 55 → d < n → ∃ f, (∀ K, F_X8_restore_L27 N (nI k) K n (nI s) v = K (upA v 4 f)) ∧ ∀ i, f i = if s ≤ i ∧ i < 55 then v 13 (55 * k + i) else v 4 i := by
  intro d
  induction d with
  | zero =>
    intro s n v hs hn
    obtain ⟨n, rfl⟩ : ∃ m, n = m + 1 := ⟨n - 1, by omega⟩
    have e : s = 55 := by omega
    subst e
    refine ⟨v 4, fun K => ?_, fun i => by rw [if_neg (by omega)]⟩
    rw [F_X8_restore_L27, if_neg (by decide), upA_self]
  | succ d ih =>
    intro s n v hs hn
    obtain ⟨n, rfl⟩ : ∃ m, n = m + 1 := ⟨n - 1, by omega⟩
    obtain ⟨f, f1, f2⟩ := ih (s + 1) n (up2 v 4 s (v 13 (55 * k + s))) (by omega) (by omega)
    refine ⟨f, fun K => ?_, fun i => ?_⟩
    · rw [F_X8_restore_L27, if_pos (show nI s < (55 : Int32) from nI_lt (b := 55) (by omega) (by decide)), show (55 : Int32) = nI 55 from rfl, pk_mul, nI_add, chk_in (n := 55) (k := s) (by omega) (by decide), chk_in (n := 110) (k := 55 * k + s) (by omega) (by decide), nI_clamp (n := s) (by omega), nI_clamp (n := 55 * k + s) (by omega), nI_1, f1]
      unfold up2
      rw [upA_upA]
    · rw [f2 i]
      show (if s + 1 ≤ i ∧ i < 55 then v 13 (55 * k + i) else upd (v 4) s (v 13 (55 * k + s)) i) = _
      by_cases q : s + 1 ≤ i ∧ i < 55
      · rw [if_pos q, if_pos (by omega)]
      · rw [if_neg q]
        by_cases e : i = s
        · subst e
          rw [if_pos (by omega), upd_s]
        · rw [if_neg (by omega), upd_n e]
theorem st_image {N : Nat} (hN : 3000 ≤ N) : St_image N Rel := by
  intro vR vW vT vS vD vA vI vJ vE vF vP vQ vK vM gW gA gL x1 hrel
  have keep := hrel
  obtain ⟨hr, hs, ht, ⟨S, hc, hm, hi, hs4⟩, ha, hI, hk⟩ := hrel
  rcases rg (N := N) (l := 0) (h := 1) 0 1 rfl rfl (b := 0) (c := 1) rfl rfl (by omega) (by omega) x1 with ⟨c, d⟩ | ⟨c, d, e⟩ | ⟨n, n1, n24, rfl, c, d, e⟩
  · exact ⟨(-1000001, vI, vJ), (-1000001, vM), by unfold F_X7_image; rw [if_pos c], by unfold F_X8_image; rw [d]; rfl, rfl, keep⟩
  · exact ⟨(-1000001, vI, vJ), (-1000001, vM), by unfold F_X7_image; rw [if_neg c, if_pos d], by unfold F_X8_image; rw [e]; rfl, rfl, keep⟩
  rcases no_show (N := N) (vR := vR) hc hi.1 hs4 with ⟨a, b⟩ | ⟨a, b, hp⟩
  · exact ⟨(-1000002, vI, vJ), (-1000002, vM), by unfold F_X7_image; rw [if_neg c, if_neg d, a]; rfl, by unfold F_X8_image; rw [e, bs, if_neg one0, b]; rfl, rfl, keep⟩
  obtain ⟨f, f1, f2⟩ := l_image (N := N) n24 55 0 N vM (by omega) (by omega)
  have e8 : F_X8_image N vM (nI n) = some (1, up2 (upA vM 13 f) 12 n 1) := by
    unfold F_X8_image
    rw [e, bs, if_neg one0, b, if_neg one0, show ∀ K, F_X8_image_L25 N (nI n) K N (0 : Int32) vM = K (upA vM 13 f) from f1, chk_in (by omega) (by decide), nI_clamp (by omega)]
  have hn : n = 0 ∨ n = 1 := by omega
  rcases hn with rfl | rfl
  · refine ⟨(1, ovr vI vS, vJ), _, ?_, e8, rfl, hr, hs, ht, ⟨S, hc, hm, hi, hs4⟩, ha, ⟨Or.inr ⟨rfl, S, ovr_rc hc hi, rm_cg hm hi (fun i h => ?_), hi, hp⟩, ?_⟩, hk.1, fun z => absurd (b.symm.trans z) one0⟩
    · unfold F_X7_image; rw [if_neg c, if_neg d, a, bs, if_pos rfl, if_pos (show nI 0 = 0 from rfl), p_over]; rfl
    · show f i = _
      rw [f2 i, if_pos (by omega)]
      rfl
    · have ef : (fun i => (up2 (upA vM 13 f) 12 0 1) 13 (55 + i)) = fun i => vM 13 (55 + i) := by
        funext i
        show f (55 + i) = _
        rw [f2, if_neg (by omega)]
      show RIm vJ (vM 12 1) (fun i => (up2 (upA vM 13 f) 12 0 1) 13 (55 + i))
      rw [ef]
      exact hI.2
  · refine ⟨(1, vI, ovr vJ vS), _, ?_, e8, rfl, hr, hs, ht, ⟨S, hc, hm, hi, hs4⟩, ha, ⟨?_, Or.inr ⟨rfl, S, ovr_rc hc hi, rm_cg hm hi (fun i h => ?_), hi, hp⟩⟩, hk.1, fun z => absurd (b.symm.trans z) one0⟩
    · unfold F_X7_image; rw [if_neg c, if_neg d, a, bs, if_pos rfl, if_neg (show ¬ nI 1 = 0 from one0), p_over]; rfl
    · show RIm vI (vM 12 0) (fun i => f i)
      rcases hI.1 with z | ⟨z1, U, u1, u2, u3, u4⟩
      · exact Or.inl z
      · refine Or.inr ⟨z1, U, u1, rm_cg u2 u3 (fun i h => ?_), u3, u4⟩
        show f i = _
        rw [f2 i, if_neg (by omega)]
    · show f (55 + i) = _
      rw [f2 (55 + i), if_pos (by omega)]
      congr 1
      omega
theorem st_restore {N : Nat} (hN : 3000 ≤ N) : St_restore N Rel := by
  intro vR vW vT vS vD vA vI vJ vE vF vP vQ vK vM gW gA gL x1 hrel
  have keep := hrel
  obtain ⟨hr, hs, ht, ⟨S, hc, hm, hi, hs4⟩, ha, hI, hk⟩ := hrel
  rcases rg (N := N) (l := 0) (h := 1) 0 1 rfl rfl (b := 0) (c := 1) rfl rfl (by omega) (by omega) x1 with ⟨c, d⟩ | ⟨c, d, e⟩ | ⟨n, n1, n24, rfl, c, d, e⟩
  · exact ⟨(-1000001, vS, vA), (-1000001, vM), by unfold F_X7_restore; rw [if_pos c], by unfold F_X8_restore; rw [d]; rfl, rfl, keep⟩
  · exact ⟨(-1000001, vS, vA), (-1000001, vM), by unfold F_X7_restore; rw [if_neg c, if_pos d], by unfold F_X8_restore; rw [e]; rfl, rfl, keep⟩
  obtain ⟨f, f1, f2⟩ := l_restore (N := N) n24 55 0 N vM (by omega) (by omega)
  have e8 : F_X8_restore N vM (nI n) = if vM 12 n = 0 then some (-1000002, vM) else some (1, up2 (upA vM 4 f) 0 17 0) := by
    unfold F_X8_restore
    rw [e, bs, if_neg one0, chk_in (by omega) (by decide), nI_clamp (by omega), show ∀ K, F_X8_restore_L27 N (nI n) K N (0 : Int32) vM = K (upA vM 4 f) from f1]
  obtain ⟨fc, kc, a1, a2, a3, a4, a5, a6⟩ := ha
  have hn : n = 0 ∨ n = 1 := by omega
  have fin : ∀ (u : SV) (b : Int32) (st : Nat → Int32), (∀ i, i < 55 → f i = st i) → (b = 0 → vM 0 4 = 0 ∨ True) → RIm u b st → ¬ b = 0 → vM 0 4 = 1 → Rel vR vW vT (ovr vS u) vD (up2 vA 0 2 0) vI vJ vE vF vP vQ vK (up2 (upA vM 4 f) 0 17 0) gW gA gL := by
    intro u b st hf _ hu hb h1
    rcases hu with ⟨z1, z2⟩ | ⟨z1, U, u1, u2, u3, u4⟩
    · exact absurd z2 hb
    · exact ⟨hr, hs, ht, ⟨U, ovr_rc u1 u3, rm_cg u2 u3 hf, u3, Or.inr ⟨u4, h1⟩⟩, ⟨fc, 0, a1, by omega, a3, rfl, rfl, fun j hj => absurd hj (by omega)⟩, hI, hk.1, fun z => absurd (h1.symm.trans z) one0⟩
  have hth : ∀ m, (m = 0 ∨ m = 1) → ¬ vM 12 m = 0 → vM 0 4 = 1 := fun m hm0 hne => by
    rcases hs4 with ⟨z1, z2, z3⟩ | z
    · obtain ⟨-, w1, w2⟩ := hk.2 z3
      rcases hm0 with rfl | rfl
      · exact absurd w1 hne
      · exact absurd w2 hne
    · exact z.2
  have im0 : ∀ {u : SV} {b : Int32} {st : Nat → Int32}, RIm u b st → (b = 0 ∧ u 0 2 = 0) ∨ (¬ b = 0 ∧ ¬ u 0 2 = 0) := fun h => by
    rcases h with ⟨z1, z2⟩ | ⟨z1, U, u1, u2, u3, u4⟩
    · exact Or.inl ⟨z2, z1⟩
    · refine Or.inr ⟨fun q => one0 (z1.symm.trans q), fun q => ?_⟩
      have := u3.1
      exact nI_ne0 u4 (by omega) (u1.2.2.1.symm.trans q)
  rw [e8]
  rcases hn with rfl | rfl
  · have e7 : F_X7_restore N vR vS vA vI vJ (nI 0) = if vI 0 2 = 0 then some (-1000002, vS, vA) else some (1, ovr vS vI, up2 vA 0 2 0) := by
      unfold F_X7_restore; rw [if_neg c, if_neg d, if_pos (show nI 0 = 0 from rfl), p_over]; rfl
    rw [e7]
    rcases im0 hI.1 with ⟨z1, z2⟩ | ⟨z1, z2⟩
    · exact ⟨_, _, if_pos z2, if_pos z1, rfl, keep⟩
    · refine ⟨_, _, if_neg z2, if_neg z1, rfl, fin vI _ _ (fun i h => ?_) (fun _ => Or.inr trivial) hI.1 z1 (hth 0 (Or.inl rfl) z1)⟩
      rw [f2 i, if_pos (by omega), Nat.mul_zero, Nat.zero_add]
  · have e7 : F_X7_restore N vR vS vA vI vJ (nI 1) = if vJ 0 2 = 0 then some (-1000002, vS, vA) else some (1, ovr vS vJ, up2 vA 0 2 0) := by
      unfold F_X7_restore; rw [if_neg c, if_neg d, if_neg (show ¬ nI 1 = 0 from one0), p_over]; rfl
    rw [e7]
    rcases im0 hI.2 with ⟨z1, z2⟩ | ⟨z1, z2⟩
    · exact ⟨_, _, if_pos z2, if_pos z1, rfl, keep⟩
    · refine ⟨_, _, if_neg z2, if_neg z1, rfl, fin vJ _ _ (fun i h => ?_) (fun _ => Or.inr trivial) hI.2 z1 (hth 1 (Or.inr rfl) z1)⟩
      rw [f2 i, if_pos (by omega), Nat.mul_one]
