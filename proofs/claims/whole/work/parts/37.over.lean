/-! takeOver: a show copied; seat, as -/
theorem cpk6 {β : Type} {o : Option β} : cpk 6 6 (0 : Int32) (0 : Int32) (6 : Int32) o = o := if_neg (by decide)
theorem cpy6 {f g : Nat → Int32} {i : Nat} (h : i < 6) : va_cpy f g ((0 : Int32).toNatClampNeg) ((0 : Int32).toNatClampNeg) ((6 : Int32).toNatClampNeg) i = f i := by
  have e0 : (0 : Int32).toNatClampNeg = 0 := rfl
  have e6 : (6 : Int32).toNatClampNeg = 6 := rfl
  rw [e0, e6, pk_cpy_in (Nat.zero_le i) (by omega)]
  congr 1
  omega
def ovr (v w : SV) : SV := (upA (upA (upA (upA (upA (upA (upA (upA (up2 (up2 (up2 (up2 (up2 (up2 (up2 v 0 0 (w 0 0)) 0 1 (w 0 1)) 0 2 (w 0 2)) 0 3 (w 0 3)) 0 4 (w 0 4)) 0 5 (w 0 5)) 0 6 (w 0 6)) 1 (va_cpy (w 1) (v 1) ((0 : Int32).toNatClampNeg) ((0 : Int32).toNatClampNeg) ((6 : Int32).toNatClampNeg))) 2 (va_cpy (w 2) (v 2) ((0 : Int32).toNatClampNeg) ((0 : Int32).toNatClampNeg) ((6 : Int32).toNatClampNeg))) 3 (va_cpy (w 3) (v 3) ((0 : Int32).toNatClampNeg) ((0 : Int32).toNatClampNeg) ((6 : Int32).toNatClampNeg))) 4 (va_cpy (w 4) (v 4) ((0 : Int32).toNatClampNeg) ((0 : Int32).toNatClampNeg) ((6 : Int32).toNatClampNeg))) 5 (va_cpy (w 5) (v 5) ((0 : Int32).toNatClampNeg) ((0 : Int32).toNatClampNeg) ((6 : Int32).toNatClampNeg))) 6 (va_cpy (w 6) (v 6) ((0 : Int32).toNatClampNeg) ((0 : Int32).toNatClampNeg) ((6 : Int32).toNatClampNeg))) 7 (va_cpy (w 7) (v 7) ((0 : Int32).toNatClampNeg) ((0 : Int32).toNatClampNeg) ((6 : Int32).toNatClampNeg))) 8 (va_cpy (w 8) (v 8) ((0 : Int32).toNatClampNeg) ((0 : Int32).toNatClampNeg) ((6 : Int32).toNatClampNeg)))
theorem p_over (N : Nat) (v w : SV) : F_X5_takeOver N v w = some (ovr v w) := by
  unfold F_X5_takeOver
  rw [cpk6, cpk6, cpk6, cpk6, cpk6, cpk6, cpk6, cpk6]
  rfl
theorem ovr_rc {B : Nat} {v w : SV} {S : Sh} (h : RC w S) (hi : SInv B S) : RC (ovr v w) S := by
  have h1 := hi.1
  have h2 := hi.2.1
  have h3 := len6 hi
  obtain ⟨a0, a1, a2, a3, a4, a5, a6, a7, a8, a9⟩ := h
  refine ⟨a0, a1, a2, a3, a4, a5, a6, fun i hI => ?_, fun i hI => ?_, fun i hI => ?_⟩
  · obtain ⟨b1, b2, b3, b4⟩ := a7 i hI
    exact ⟨(cpy6 (f := w 1) (g := v 1) (by omega)).trans b1, (cpy6 (f := w 2) (g := v 2) (by omega)).trans b2, (cpy6 (f := w 3) (g := v 3) (by omega)).trans b3, (cpy6 (f := w 4) (g := v 4) (by omega)).trans b4⟩
  · obtain ⟨b1, b2, b3⟩ := a8 i hI
    exact ⟨(cpy6 (f := w 5) (g := v 5) (by omega)).trans b1, (cpy6 (f := w 6) (g := v 6) (by omega)).trans b2, (cpy6 (f := w 7) (g := v 7) (by omega)).trans b3⟩
  · exact (cpy6 (f := w 8) (g := v 8) (by omega)).trans (a9 i hI)
theorem st_seat (N : Nat) : St_seat N Rel := by
  intro vR vW vT vS vD vA vI vJ vE vF vP vQ vK vM gW gA gL x1 x2 hrel
  obtain ⟨S, hc, hm, hi, hs⟩ := hrel.2.2.2.1
  have h7 := hi.2.1
  rcases seat_ix (N := N) hc hm h7 x1 with ⟨a, b⟩ | ⟨j, hj, rfl, a, b⟩
  · exact ⟨-1000001, -1000001, by unfold F_X7_seat; rw [a]; rfl, by unfold F_X8_seat; rw [b]; rfl, rfl, hrel⟩
  · have hcl : (nI j).toNatClampNeg = j := nI_clamp (by omega)
    obtain ⟨c1, c2, c3⟩ := hc.2.2.2.2.2.2.2.2.1 j hj
    obtain ⟨m1, m2, m3⟩ := hm.2.2.2.2.2.2.2.2.1 j hj
    have f7 : F_X7_seat N vR vS (nI j) x2 = if x2 = 0 then some (S.2.1 4 j) else if x2 = 1 then some (S.2.1 5 j) else if x2 = 2 then some (S.2.1 6 j) else some (-1000001) := by
      unfold F_X7_seat
      rw [a, bs, if_neg one0, chk_in (by omega) (by decide), chk_in (by omega) (by decide), chk_in (by omega) (by decide), hcl, c1, c2, c3]
    have hz : (0 : Int32).toInt = 0 := rfl
    have h1 : (1 : Int32).toInt = 1 := rfl
    have h2 : (2 : Int32).toInt = 2 := rfl
    have f8 : F_X8_seat N vM (nI j) x2 = (F_X8_in N x2.toInt64 0 2).bind (fun q14 => if q14 = 0 then some (-1000001) else if x2 = 0 then some (S.2.1 4 j) else if x2 = 1 then some (S.2.1 5 j) else some (S.2.1 6 j)) := by
      unfold F_X8_seat
      rw [b, bs, if_neg one0, show (37 : Int32) = nI 37 from rfl, show (43 : Int32) = nI 43 from rfl, show (49 : Int32) = nI 49 from rfl, nI_add, nI_add, nI_add, chk_in (n := 55) (k := 37 + j) (by omega) (by decide), chk_in (n := 55) (k := 43 + j) (by omega) (by decide), chk_in (n := 55) (k := 49 + j) (by omega) (by decide), nI_clamp (n := 37 + j) (by omega), nI_clamp (n := 43 + j) (by omega), nI_clamp (n := 49 + j) (by omega), m1, m2, m3]
    rw [f7, f8]
    by_cases q : 0 ≤ x2.toInt ∧ x2.toInt ≤ 2
    · rw [in_ok (B := 0) (C := 2) rfl rfl q, bs, if_neg one0]
      by_cases e0 : x2 = 0
      · exact ⟨_, _, if_pos e0, if_pos e0, rfl, hrel⟩
      rw [if_neg e0, if_neg e0]
      by_cases e1 : x2 = 1
      · exact ⟨_, _, if_pos e1, if_pos e1, rfl, hrel⟩
      rw [if_neg e1, if_neg e1]
      have e2 : x2 = 2 := Int32.toInt_inj.mp (by
        have n0 : ¬ x2.toInt = 0 := fun z => e0 (Int32.toInt_inj.mp (z.trans hz.symm))
        have n1 : ¬ x2.toInt = 1 := fun z => e1 (Int32.toInt_inj.mp (z.trans h1.symm))
        omega)
      exact ⟨_, _, if_pos e2, rfl, rfl, hrel⟩
    · rw [in_no (B := 0) (C := 2) rfl rfl q, bs, if_pos rfl]
      have n0 : ¬ x2 = 0 := fun z => q (by rw [z]; omega)
      have n1 : ¬ x2 = 1 := fun z => q (by rw [z]; omega)
      have n2 : ¬ x2 = 2 := fun z => q (by rw [z]; omega)
      exact ⟨-1000001, -1000001, by rw [if_neg n0, if_neg n1, if_neg n2], rfl, rfl, hrel⟩
