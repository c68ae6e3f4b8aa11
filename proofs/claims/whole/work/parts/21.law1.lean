theorem famJ2 {cs l fam r pre0 : List va_W} {J0 : List Nat} {p n : Nat} (h : cs = l ++ (fam ++ r)) (hp : l.length = p) (hf : fam.length = n) (h0 : J0.map (fun i => cs[i]?) = pre0.map some) : (J0 ++ (List.range n).map (fun k => p + k)).map (fun i => cs[i]?) = (pre0 ++ fam).map some := by
  rw [List.map_append, h0, List.map_append]
  congr 1
  subst hp
  subst hf
  subst h
  apply List.ext_getElem?
  intro k
  rw [List.getElem?_map, List.getElem?_map, List.getElem?_map]
  by_cases hk : k < fam.length
  · rw [List.getElem?_range hk, List.getElem?_eq_getElem hk]
    show some ((l ++ (fam ++ r))[l.length + k]?) = some (some fam[k])
    rw [List.getElem?_append_right (by omega), show l.length + k - l.length = k by omega, List.getElem?_append_left hk, List.getElem?_eq_getElem hk]
  · rw [List.getElem?_eq_none (by rw [List.length_range]; omega), List.getElem?_eq_none (by omega)]
    rfl
theorem putAt_fam2 (pre r : List va_W) : ∀ (done fam fam' : List va_W), fam'.length = fam.length → putAt ((List.range' done.length fam.length).map (fun k => pre.length + k)) fam' (pre ++ (done ++ (fam ++ r))) = pre ++ (done ++ (fam' ++ r))
  | done, [], [], _ => rfl
  | done, [], _ :: _, h => by simp at h
  | done, _ :: _, [], h => by simp at h
  | done, x :: fam, y :: fam', h => by
    rw [List.length_cons, List.range'_succ, List.map_cons]
    show putAt _ fam' ((pre ++ (done ++ (x :: fam ++ r))).set (pre.length + done.length) y) = _
    rw [← List.append_assoc, List.set_append_right _ _ (by rw [List.length_append]; omega), List.length_append, Nat.sub_self]
    have ih := putAt_fam2 pre r (done ++ [y]) fam fam' (by simpa using h)
    rw [List.length_append, List.length_singleton] at ih
    show putAt _ fam' (pre ++ done ++ (y :: (fam ++ r))) = _
    rw [List.append_assoc, List.append_assoc] at ih
    rw [List.append_assoc]
    exact ih
theorem famC2 {cs cs' l fam fam' r pre1 : List va_W} {J0 : List Nat} {p n : Nat} (h1 : J0.length = pre1.length) (h2 : putAt J0 pre1 cs = l ++ (fam ++ r)) (hp : l.length = p) (hf : fam.length = n) (hf' : fam'.length = n) (h3 : l ++ (fam' ++ r) = cs') : putAt (J0 ++ (List.range n).map (fun k => p + k)) (pre1 ++ fam') cs = cs' := by
  rw [putAt_app _ _ _ _ _ h1, h2, ← h3]
  have h := putAt_fam2 l r [] fam fam' (by omega)
  rw [hp, hf, List.length_nil, ← List.range_eq_range'] at h
  exact h
def WLw (t : Nat → ClassId) (ad : Nat → Nat → Nat) (a : Nat → Nat) (vR vW vT vS vD vA vI vJ vE vF vP vQ vK vM : SV) (gW : SV) (gA gL : Nat → SV) : List va_W := [wRL t ad vR, wRows t ad vW, wTape t ad vT, wStage t (ad 3) vS, wStage t (ad 4) vD, wActs t ad vA, wStage t (ad 6) vI, wStage t (ad 7) vJ, wSeer t ad vE, wStage t (ad 9) vF, wPlanner t ad vP, wStage t (ad 11) vQ, wAsker t ad vK, wModel t a vM] ++ (fRows t ad gW ++ (fRing t ad gA ++ fLev t ad gL))
abbrev RelT : Type := SV → SV → SV → SV → SV → SV → SV → SV → SV → SV → SV → SV → SV → SV → SV → (Nat → SV) → (Nat → SV) → Prop
/-- the script, that no cell of the world is -/
def SX (X : Cx) (b L : Nat) (xs0 : Nat → Int32) : Prop := match X with
  | (_, _, _, _, s, _, _, _, _, _, _, A, _, _, _) => va_X b L xs0 s s.heap ∧ b < s.heap.size ∧ ¬ A b
theorem G.sld {X : Cx} {t : Nat → ClassId} {R : Room} {cc : ByteArray} {nL : Nat} {own : String} {cs : List va_W} {pc : Nat} {lv : List (Nat × Value)} {st : List Value} (C : gX X t R cc nL own) {b L : Nat} {xs0 : Nat → Int32} (hS0 : SX X b L xs0) {ix : Int32} (p : Nat) (e : ix = nI p) (hp : p < L) (hL : L ≤ 384) (hd : decode cc pc = .ok (.iaload, 1)) (kk : G X cs (pc + 1) lv (.int (xs0 p) :: st)) : G X cs pc lv (.int ix :: .ref b :: st) := by
  obtain ⟨p0, l, e0, R0, s, m, args, below, meth, c, D, A, cells, slots, Q⟩ := X
  obtain ⟨hRR, hx, hb, hml, ho, hroom, hw, hK, hA, hSt⟩ := C
  intro H locs ls hP hD hS hl
  subst e
  refine va_sld hx hb hS0.1 hS0.2.1 hS0.2.2 hS (vp_in_nI hp (by omega)) hd ?_
  rw [nI_clamp (by omega)]
  exact kk H locs ls hP hD hS hl
theorem G.slen {X : Cx} {t : Nat → ClassId} {R : Room} {cc : ByteArray} {nL : Nat} {own : String} {cs : List va_W} {pc : Nat} {lv : List (Nat × Value)} {st : List Value} (C : gX X t R cc nL own) {b L : Nat} {xs0 : Nat → Int32} (hS0 : SX X b L xs0) (hd : decode cc pc = .ok (.arraylength, 1)) (kk : G X cs (pc + 1) lv (.int (nI L) :: st)) : G X cs pc lv (.ref b :: st) := by
  obtain ⟨p0, l, e0, R0, s, m, args, below, meth, c, D, A, cells, slots, Q⟩ := X
  obtain ⟨hRR, hx, hb, hml, ho, hroom, hw, hK, hA, hSt⟩ := C
  intro H locs ls hP hD hS hl
  exact va_slen hx hb hS0.1 hS0.2.1 hS0.2.2 hS hd (kk H locs ls hP hD hS hl)
theorem lgc (x : Int64) : lg_cmp x x = 0 := by unfold lg_cmp; simp
def St_row (N : Nat) (Rel : RelT) : Prop := ∀ (vR vW vT vS vD vA vI vJ vE vF vP vQ vK vM : SV) (gW : SV) (gA gL : Nat → SV) (x1 x2 x3 : Int32), Rel vR vW vT vS vD vA vI vJ vE vF vP vQ vK vM gW gA gL → ∃ (r : Int32 × SV × SV × SV) (m : Int32 × SV), F_X7_row N vR vW gW x1 x2 x3 = some r ∧ F_X8_row N vM x1 x2 x3 = some m ∧ (r.1) = (m.1) ∧ Rel (r.2.1) (r.2.2.1) vT vS vD vA vI vJ vE vF vP vQ vK (m.2) (r.2.2.2) gA gL
def St_set (N : Nat) (Rel : RelT) : Prop := ∀ (vR vW vT vS vD vA vI vJ vE vF vP vQ vK vM : SV) (gW : SV) (gA gL : Nat → SV) (x1 x2 x3 : Int32), Rel vR vW vT vS vD vA vI vJ vE vF vP vQ vK vM gW gA gL → ∃ (r : Int32 × SV × SV) (m : Int32 × SV), F_X7_set N vR vW gW x1 x2 x3 = some r ∧ F_X8_set N vM x1 x2 x3 = some m ∧ (r.1) = (m.1) ∧ Rel (r.2.1) vW vT vS vD vA vI vJ vE vF vP vQ vK (m.2) (r.2.2) gA gL
def St_copy (N : Nat) (Rel : RelT) : Prop := ∀ (vR vW vT vS vD vA vI vJ vE vF vP vQ vK vM : SV) (gW : SV) (gA gL : Nat → SV) (x1 x2 x3 x4 x5 : Int32), Rel vR vW vT vS vD vA vI vJ vE vF vP vQ vK vM gW gA gL → ∃ (r : Int32 × SV × SV) (m : Int32 × SV), F_X7_copy N vR vW gW x1 x2 x3 x4 x5 = some r ∧ F_X8_copy N vM x1 x2 x3 x4 x5 = some m ∧ (r.1) = (m.1) ∧ Rel (r.2.1) vW vT vS vD vA vI vJ vE vF vP vQ vK (m.2) (r.2.2) gA gL
def St_drop (N : Nat) (Rel : RelT) : Prop := ∀ (vR vW vT vS vD vA vI vJ vE vF vP vQ vK vM : SV) (gW : SV) (gA gL : Nat → SV) (x1 : Int32), Rel vR vW vT vS vD vA vI vJ vE vF vP vQ vK vM gW gA gL → ∃ (r : Int32 × SV × SV) (m : Int32 × SV), F_X7_drop N vR vW x1 = some r ∧ F_X8_drop N vM x1 = some m ∧ (r.1) = (m.1) ∧ Rel (r.2.1) (r.2.2) vT vS vD vA vI vJ vE vF vP vQ vK (m.2) gW gA gL
def St_feed (N : Nat) (Rel : RelT) : Prop := ∀ (vR vW vT vS vD vA vI vJ vE vF vP vQ vK vM : SV) (gW : SV) (gA gL : Nat → SV) (x1 : Int32), Rel vR vW vT vS vD vA vI vJ vE vF vP vQ vK vM gW gA gL → ∃ (r : Int32 × SV) (m : Int32 × SV), F_X7_feed N vR vT x1 = some r ∧ F_X8_feed N vM x1 = some m ∧ (r.1) = (m.1) ∧ Rel vR vW (r.2) vS vD vA vI vJ vE vF vP vQ vK (m.2) gW gA gL
def St_show (N : Nat) (Rel : RelT) : Prop := ∀ (vR vW vT vS vD vA vI vJ vE vF vP vQ vK vM : SV) (gW : SV) (gA gL : Nat → SV), Rel vR vW vT vS vD vA vI vJ vE vF vP vQ vK vM gW gA gL → ∃ (r : Int32 × SV × SV × SV × SV) (m : Int32 × SV), F_X7_show N vR vT vS vD vA = some r ∧ F_X8_show N vM = some m ∧ (r.1) = (m.1) ∧ Rel vR vW (r.2.1) (r.2.2.1) (r.2.2.2.1) (r.2.2.2.2) vI vJ vE vF vP vQ vK (m.2) gW gA gL
def St_fault (N : Nat) (Rel : RelT) : Prop := ∀ (vR vW vT vS vD vA vI vJ vE vF vP vQ vK vM : SV) (gW : SV) (gA gL : Nat → SV), Rel vR vW vT vS vD vA vI vJ vE vF vP vQ vK vM gW gA gL → ∃ (r : Int32) (m : Int32), F_X7_fault N vR vT = some r ∧ F_X8_fault N vM = some m ∧ r = m ∧ Rel vR vW vT vS vD vA vI vJ vE vF vP vQ vK vM gW gA gL
def St_undo (N : Nat) (Rel : RelT) : Prop := ∀ (vR vW vT vS vD vA vI vJ vE vF vP vQ vK vM : SV) (gW : SV) (gA gL : Nat → SV), Rel vR vW vT vS vD vA vI vJ vE vF vP vQ vK vM gW gA gL → ∃ (r : Int32 × SV × SV) (m : Int32 × SV), F_X7_undo N vR vS vA gA = some r ∧ F_X8_undo N vM = some m ∧ (r.1) = (m.1) ∧ Rel vR vW vT (r.2.1) vD (r.2.2) vI vJ vE vF vP vQ vK (m.2) gW gA gL
def St_taps (N : Nat) (Rel : RelT) : Prop := ∀ (vR vW vT vS vD vA vI vJ vE vF vP vQ vK vM : SV) (gW : SV) (gA gL : Nat → SV) (x1 : Int32), Rel vR vW vT vS vD vA vI vJ vE vF vP vQ vK vM gW gA gL → ∃ (r : Int32 × SV × SV × (Nat → SV)) (m : Int32 × SV), F_X7_taps N vR vS vA gA x1 = some r ∧ F_X8_taps N vM x1 = some m ∧ (r.1) = (m.1) ∧ Rel vR vW vT (r.2.1) vD (r.2.2.1) vI vJ vE vF vP vQ vK (m.2) gW (r.2.2.2) gL
def St_front (N : Nat) (Rel : RelT) : Prop := ∀ (vR vW vT vS vD vA vI vJ vE vF vP vQ vK vM : SV) (gW : SV) (gA gL : Nat → SV) (x1 : Int32), Rel vR vW vT vS vD vA vI vJ vE vF vP vQ vK vM gW gA gL → ∃ (r : Int32 × SV × SV × (Nat → SV)) (m : Int32 × SV), F_X7_front N vR vS vA gA x1 = some r ∧ F_X8_front N vM x1 = some m ∧ (r.1) = (m.1) ∧ Rel vR vW vT (r.2.1) vD (r.2.2.1) vI vJ vE vF vP vQ vK (m.2) gW (r.2.2.2) gL
def St_off (N : Nat) (Rel : RelT) : Prop := ∀ (vR vW vT vS vD vA vI vJ vE vF vP vQ vK vM : SV) (gW : SV) (gA gL : Nat → SV) (x1 : Int32), Rel vR vW vT vS vD vA vI vJ vE vF vP vQ vK vM gW gA gL → ∃ (r : Int32 × SV × SV × (Nat → SV)) (m : Int32 × SV), F_X7_off N vR vS vA gA x1 = some r ∧ F_X8_off N vM x1 = some m ∧ (r.1) = (m.1) ∧ Rel vR vW vT (r.2.1) vD (r.2.2.1) vI vJ vE vF vP vQ vK (m.2) gW (r.2.2.2) gL
def St_back (N : Nat) (Rel : RelT) : Prop := ∀ (vR vW vT vS vD vA vI vJ vE vF vP vQ vK vM : SV) (gW : SV) (gA gL : Nat → SV) (x1 : Int32), Rel vR vW vT vS vD vA vI vJ vE vF vP vQ vK vM gW gA gL → ∃ (r : Int32 × SV × SV × (Nat → SV)) (m : Int32 × SV), F_X7_back N vR vS vA gA x1 = some r ∧ F_X8_back N vM x1 = some m ∧ (r.1) = (m.1) ∧ Rel vR vW vT (r.2.1) vD (r.2.2.1) vI vJ vE vF vP vQ vK (m.2) gW (r.2.2.2) gL
def St_sit (N : Nat) (Rel : RelT) : Prop := ∀ (vR vW vT vS vD vA vI vJ vE vF vP vQ vK vM : SV) (gW : SV) (gA gL : Nat → SV) (x1 x2 x3 : Int32), Rel vR vW vT vS vD vA vI vJ vE vF vP vQ vK vM gW gA gL → ∃ (r : Int32 × SV × SV × (Nat → SV)) (m : Int32 × SV), F_X7_sit N vR vS vA gA x1 x2 x3 = some r ∧ F_X8_sit N vM x1 x2 x3 = some m ∧ (r.1) = (m.1) ∧ Rel vR vW vT (r.2.1) vD (r.2.2.1) vI vJ vE vF vP vQ vK (m.2) gW (r.2.2.2) gL
def St_thing (N : Nat) (Rel : RelT) : Prop := ∀ (vR vW vT vS vD vA vI vJ vE vF vP vQ vK vM : SV) (gW : SV) (gA gL : Nat → SV) (x1 x2 : Int32), Rel vR vW vT vS vD vA vI vJ vE vF vP vQ vK vM gW gA gL → ∃ (r : Int32) (m : Int32), F_X7_thing N vR vS x1 x2 = some r ∧ F_X8_thing N vM x1 x2 = some m ∧ r = m ∧ Rel vR vW vT vS vD vA vI vJ vE vF vP vQ vK vM gW gA gL
def St_seat (N : Nat) (Rel : RelT) : Prop := ∀ (vR vW vT vS vD vA vI vJ vE vF vP vQ vK vM : SV) (gW : SV) (gA gL : Nat → SV) (x1 x2 : Int32), Rel vR vW vT vS vD vA vI vJ vE vF vP vQ vK vM gW gA gL → ∃ (r : Int32) (m : Int32), F_X7_seat N vR vS x1 x2 = some r ∧ F_X8_seat N vM x1 x2 = some m ∧ r = m ∧ Rel vR vW vT vS vD vA vI vJ vE vF vP vQ vK vM gW gA gL
def St_list (N : Nat) (Rel : RelT) : Prop := ∀ (vR vW vT vS vD vA vI vJ vE vF vP vQ vK vM : SV) (gW : SV) (gA gL : Nat → SV) (x1 : Int32), Rel vR vW vT vS vD vA vI vJ vE vF vP vQ vK vM gW gA gL → ∃ (r : Int32) (m : Int32), F_X7_list N vR vS x1 = some r ∧ F_X8_list N vM x1 = some m ∧ r = m ∧ Rel vR vW vT vS vD vA vI vJ vE vF vP vQ vK vM gW gA gL
def St_stand (N : Nat) (Rel : RelT) : Prop := ∀ (vR vW vT vS vD vA vI vJ vE vF vP vQ vK vM : SV) (gW : SV) (gA gL : Nat → SV) (x1 : Int32), Rel vR vW vT vS vD vA vI vJ vE vF vP vQ vK vM gW gA gL → ∃ (r : Int32) (m : Int32), F_X7_stand N vR vS x1 = some r ∧ F_X8_stand N vM x1 = some m ∧ r = m ∧ Rel vR vW vT vS vD vA vI vJ vE vF vP vQ vK vM gW gA gL
def St_next (N : Nat) (Rel : RelT) : Prop := ∀ (vR vW vT vS vD vA vI vJ vE vF vP vQ vK vM : SV) (gW : SV) (gA gL : Nat → SV) (x1 : Int32), Rel vR vW vT vS vD vA vI vJ vE vF vP vQ vK vM gW gA gL → ∃ (r : Int32 × SV) (m : Int32), F_X7_next N vR vS vE vF x1 = some r ∧ F_X8_next N vM x1 = some m ∧ (r.1) = m ∧ Rel vR vW vT vS vD vA vI vJ vE (r.2) vP vQ vK vM gW gA gL
def St_ahead (N : Nat) (Rel : RelT) : Prop := ∀ (vR vW vT vS vD vA vI vJ vE vF vP vQ vK vM : SV) (gW : SV) (gA gL : Nat → SV) (x1 x2 : Int32), Rel vR vW vT vS vD vA vI vJ vE vF vP vQ vK vM gW gA gL → ∃ (r : Int32 × SV) (m : Int32 × SV), F_X7_ahead N vR vS vE vF x1 x2 = some r ∧ F_X8_ahead N vM x1 x2 = some m ∧ (r.1) = (m.1) ∧ Rel vR vW vT vS vD vA vI vJ vE (r.2) vP vQ vK (m.2) gW gA gL
def St_when (N : Nat) (Rel : RelT) : Prop := ∀ (vR vW vT vS vD vA vI vJ vE vF vP vQ vK vM : SV) (gW : SV) (gA gL : Nat → SV) (x1 x2 : Int32), Rel vR vW vT vS vD vA vI vJ vE vF vP vQ vK vM gW gA gL → ∃ (r : Int32 × SV) (m : Int32 × SV), F_X7_when N vR vS vE vF x1 x2 = some r ∧ F_X8_when N vM x1 x2 = some m ∧ (r.1) = (m.1) ∧ Rel vR vW vT vS vD vA vI vJ vE (r.2) vP vQ vK (m.2) gW gA gL
def St_comes (N : Nat) (Rel : RelT) : Prop := ∀ (vR vW vT vS vD vA vI vJ vE vF vP vQ vK vM : SV) (gW : SV) (gA gL : Nat → SV) (x1 : Int32), Rel vR vW vT vS vD vA vI vJ vE vF vP vQ vK vM gW gA gL → ∃ (r : Int32 × SV) (m : Int32 × SV), F_X7_comes N vR vS vE vF x1 = some r ∧ F_X8_comes N vM x1 = some m ∧ (r.1) = (m.1) ∧ Rel vR vW vT vS vD vA vI vJ vE (r.2) vP vQ vK (m.2) gW gA gL
def St_order (N : Nat) (Rel : RelT) : Prop := ∀ (vR vW vT vS vD vA vI vJ vE vF vP vQ vK vM : SV) (gW : SV) (gA gL : Nat → SV) (x1 : Int32), Rel vR vW vT vS vD vA vI vJ vE vF vP vQ vK vM gW gA gL → ∃ (r : Int32 × SV × (Nat → SV)) (m : Int32 × SV), F_X7_order N vR vS vP gL x1 = some r ∧ F_X8_order N vM x1 = some m ∧ (r.1) = (m.1) ∧ Rel vR vW vT vS vD vA vI vJ vE vF (r.2.1) vQ vK (m.2) gW gA (r.2.2)
def St_pack (N : Nat) (Rel : RelT) : Prop := ∀ (vR vW vT vS vD vA vI vJ vE vF vP vQ vK vM : SV) (gW : SV) (gA gL : Nat → SV) (x1 : Int32), Rel vR vW vT vS vD vA vI vJ vE vF vP vQ vK vM gW gA gL → ∃ (r : Int32) (m : Int32), F_X7_pack N vR vS vP x1 = some r ∧ F_X8_pack N vM x1 = some m ∧ r = m ∧ Rel vR vW vT vS vD vA vI vJ vE vF vP vQ vK vM gW gA gL
def St_match (N : Nat) (Rel : RelT) : Prop := ∀ (vR vW vT vS vD vA vI vJ vE vF vP vQ vK vM : SV) (gW : SV) (gA gL : Nat → SV), Rel vR vW vT vS vD vA vI vJ vE vF vP vQ vK vM gW gA gL → ∃ (r : Int32) (m : Int32), F_X7_match N vR vS = some r ∧ F_X8_match N vM = some m ∧ r = m ∧ Rel vR vW vT vS vD vA vI vJ vE vF vP vQ vK vM gW gA gL
def St_clear (N : Nat) (Rel : RelT) : Prop := ∀ (vR vW vT vS vD vA vI vJ vE vF vP vQ vK vM : SV) (gW : SV) (gA gL : Nat → SV) (x1 x2 x3 : Int32), Rel vR vW vT vS vD vA vI vJ vE vF vP vQ vK vM gW gA gL → ∃ (r : Int32 × SV) (m : Int32 × SV), F_X7_clear N vR vS vP vQ x1 x2 x3 = some r ∧ F_X8_clear N vM x1 x2 x3 = some m ∧ (r.1) = (m.1) ∧ Rel vR vW vT vS vD vA vI vJ vE vF vP (r.2) vK (m.2) gW gA gL
def St_bring (N : Nat) (Rel : RelT) : Prop := ∀ (vR vW vT vS vD vA vI vJ vE vF vP vQ vK vM : SV) (gW : SV) (gA gL : Nat → SV) (x1 x2 : Int32), Rel vR vW vT vS vD vA vI vJ vE vF vP vQ vK vM gW gA gL → ∃ (r : Int32 × SV) (m : Int32 × SV), F_X7_bring N vR vS vP vQ x1 x2 = some r ∧ F_X8_bring N vM x1 x2 = some m ∧ (r.1) = (m.1) ∧ Rel vR vW vT vS vD vA vI vJ vE vF vP (r.2) vK (m.2) gW gA gL
def St_lack (N : Nat) (Rel : RelT) : Prop := ∀ (vR vW vT vS vD vA vI vJ vE vF vP vQ vK vM : SV) (gW : SV) (gA gL : Nat → SV), Rel vR vW vT vS vD vA vI vJ vE vF vP vQ vK vM gW gA gL → ∃ (r : Int32) (m : Int32), F_X7_lack N vR vS = some r ∧ F_X8_lack N vM = some m ∧ r = m ∧ Rel vR vW vT vS vD vA vI vJ vE vF vP vQ vK vM gW gA gL
def St_who (N : Nat) (Rel : RelT) : Prop := ∀ (vR vW vT vS vD vA vI vJ vE vF vP vQ vK vM : SV) (gW : SV) (gA gL : Nat → SV) (x1 x2 x3 x4 x5 : Int32), Rel vR vW vT vS vD vA vI vJ vE vF vP vQ vK vM gW gA gL → ∃ (r : Int32 × SV × SV × SV) (m : Int32 × SV), F_X7_who N vR vW vS vE vF gW x1 x2 x3 x4 x5 = some r ∧ F_X8_who N vM x1 x2 x3 x4 x5 = some m ∧ (r.1) = (m.1) ∧ Rel (r.2.1) vW vT vS vD vA vI vJ (r.2.2.1) (r.2.2.2) vP vQ vK (m.2) gW gA gL
def St_wanted (N : Nat) (Rel : RelT) : Prop := ∀ (vR vW vT vS vD vA vI vJ vE vF vP vQ vK vM : SV) (gW : SV) (gA gL : Nat → SV) (x1 x2 x3 x4 x5 : Int32), Rel vR vW vT vS vD vA vI vJ vE vF vP vQ vK vM gW gA gL → ∃ (r : Int32 × SV × SV × SV) (m : Int32 × SV), F_X7_wanted N vR vW vS vE vF gW x1 x2 x3 x4 x5 = some r ∧ F_X8_wanted N vM x1 x2 x3 x4 x5 = some m ∧ (r.1) = (m.1) ∧ Rel (r.2.1) vW vT vS vD vA vI vJ (r.2.2.1) (r.2.2.2) vP vQ vK (m.2) gW gA gL
def St_wasOff (N : Nat) (Rel : RelT) : Prop := ∀ (vR vW vT vS vD vA vI vJ vE vF vP vQ vK vM : SV) (gW : SV) (gA gL : Nat → SV) (x1 x2 x3 : Int32), Rel vR vW vT vS vD vA vI vJ vE vF vP vQ vK vM gW gA gL → ∃ (r : Int32 × SV × SV × SV) (m : Int32 × SV), F_X7_wasOff N vR vW vS vE vF gW x1 x2 x3 = some r ∧ F_X8_wasOff N vM x1 x2 x3 = some m ∧ (r.1) = (m.1) ∧ Rel (r.2.1) vW vT vS vD vA vI vJ (r.2.2.1) (r.2.2.2) vP vQ vK (m.2) gW gA gL
def St_wander (N : Nat) (Rel : RelT) : Prop := ∀ (vR vW vT vS vD vA vI vJ vE vF vP vQ vK vM : SV) (gW : SV) (gA gL : Nat → SV) (x1 x2 x3 x4 : Int32), Rel vR vW vT vS vD vA vI vJ vE vF vP vQ vK vM gW gA gL → ∃ (r : Int64 × SV) (m : Int64 × SV), F_X7_wander N vR vS vE vF x1 x2 x3 x4 = some r ∧ F_X8_wander N vM x1 x2 x3 x4 = some m ∧ (r.1) = (m.1) ∧ Rel vR vW vT vS vD vA vI vJ vE (r.2) vP vQ vK (m.2) gW gA gL
def St_drawn (N : Nat) (Rel : RelT) : Prop := ∀ (vR vW vT vS vD vA vI vJ vE vF vP vQ vK vM : SV) (gW : SV) (gA gL : Nat → SV) (x1 x2 x3 : Int32), Rel vR vW vT vS vD vA vI vJ vE vF vP vQ vK vM gW gA gL → ∃ (r : Int32 × SV) (m : Int32 × SV), F_X7_drawn N vR vS vE vF x1 x2 x3 = some r ∧ F_X8_drawn N vM x1 x2 x3 = some m ∧ (r.1) = (m.1) ∧ Rel vR vW vT vS vD vA vI vJ vE (r.2) vP vQ vK (m.2) gW gA gL
def St_image (N : Nat) (Rel : RelT) : Prop := ∀ (vR vW vT vS vD vA vI vJ vE vF vP vQ vK vM : SV) (gW : SV) (gA gL : Nat → SV) (x1 : Int32), Rel vR vW vT vS vD vA vI vJ vE vF vP vQ vK vM gW gA gL → ∃ (r : Int32 × SV × SV) (m : Int32 × SV), F_X7_image N vR vS vI vJ x1 = some r ∧ F_X8_image N vM x1 = some m ∧ (r.1) = (m.1) ∧ Rel vR vW vT vS vD vA (r.2.1) (r.2.2) vE vF vP vQ vK (m.2) gW gA gL
def St_restore (N : Nat) (Rel : RelT) : Prop := ∀ (vR vW vT vS vD vA vI vJ vE vF vP vQ vK vM : SV) (gW : SV) (gA gL : Nat → SV) (x1 : Int32), Rel vR vW vT vS vD vA vI vJ vE vF vP vQ vK vM gW gA gL → ∃ (r : Int32 × SV × SV) (m : Int32 × SV), F_X7_restore N vR vS vA vI vJ x1 = some r ∧ F_X8_restore N vM x1 = some m ∧ (r.1) = (m.1) ∧ Rel vR vW vT (r.2.1) vD (r.2.2) vI vJ vE vF vP vQ vK (m.2) gW gA gL
def St_kind (N : Nat) (Rel : RelT) : Prop := ∀ (vR vW vT vS vD vA vI vJ vE vF vP vQ vK vM : SV) (gW : SV) (gA gL : Nat → SV) (x1 : Int32), Rel vR vW vT vS vD vA vI vJ vE vF vP vQ vK vM gW gA gL → ∃ (r : Int32) (m : Int32), F_X7_kind N vR vS x1 = some r ∧ F_X8_kind N vM x1 = some m ∧ r = m ∧ Rel vR vW vT vS vD vA vI vJ vE vF vP vQ vK vM gW gA gL
def St_as (N : Nat) (Rel : RelT) : Prop := ∀ (vR vW vT vS vD vA vI vJ vE vF vP vQ vK vM : SV) (gW : SV) (gA gL : Nat → SV) (x1 x2 : Int32), Rel vR vW vT vS vD vA vI vJ vE vF vP vQ vK vM gW gA gL → ∃ (r : Int32 × SV) (m : Int32 × SV), F_X7_as N vR vS x1 x2 = some r ∧ F_X8_as N vM x1 x2 = some m ∧ (r.1) = (m.1) ∧ Rel (r.2) vW vT vS vD vA vI vJ vE vF vP vQ vK (m.2) gW gA gL
def St_ask (N : Nat) (Rel : RelT) : Prop := ∀ (vR vW vT vS vD vA vI vJ vE vF vP vQ vK vM : SV) (gW : SV) (gA gL : Nat → SV) (x1 x2 : Int32), Rel vR vW vT vS vD vA vI vJ vE vF vP vQ vK vM gW gA gL → ∃ (r : Int32 × SV) (m : Int32 × SV), F_X7_ask N vR vS vK x1 x2 = some r ∧ F_X8_ask N vM x1 x2 = some m ∧ (r.1) = (m.1) ∧ Rel vR vW vT vS vD vA vI vJ vE vF vP vQ (r.2) (m.2) gW gA gL
def St_trace (N : Nat) (Rel : RelT) : Prop := ∀ (vR vW vT vS vD vA vI vJ vE vF vP vQ vK vM : SV) (gW : SV) (gA gL : Nat → SV) (x1 : Int32), Rel vR vW vT vS vD vA vI vJ vE vF vP vQ vK vM gW gA gL → ∃ (r : Int32) (m : Int32), F_X7_trace N vR vK x1 = some r ∧ F_X8_trace N vM x1 = some m ∧ r = m ∧ Rel vR vW vT vS vD vA vI vJ vE vF vP vQ vK vM gW gA gL
def St_count (N : Nat) (Rel : RelT) : Prop := ∀ (vR vW vT vS vD vA vI vJ vE vF vP vQ vK vM : SV) (gW : SV) (gA gL : Nat → SV) (x1 : Int32), Rel vR vW vT vS vD vA vI vJ vE vF vP vQ vK vM gW gA gL → ∃ (r : Int32) (m : Int32), F_X7_count N vR vW vT vS vA x1 = some r ∧ F_X8_count N vM x1 = some m ∧ r = m ∧ Rel vR vW vT vS vD vA vI vJ vE vF vP vQ vK vM gW gA gL
def St_status (N : Nat) (Rel : RelT) : Prop := ∀ (vR vW vT vS vD vA vI vJ vE vF vP vQ vK vM : SV) (gW : SV) (gA gL : Nat → SV), Rel vR vW vT vS vD vA vI vJ vE vF vP vQ vK vM gW gA gL → ∃ (r : Int32) (m : Int32), F_X7_status N vR = some r ∧ F_X8_status N vM = some m ∧ r = m ∧ Rel vR vW vT vS vD vA vI vJ vE vF vP vQ vK vM gW gA gL
theorem cal_X7_ahead : CalV yX7_ahead cX7_ahead 3 (some .int) 2 := ⟨k_752, k_753, k_76, k_754, by decide +kernel, by decide +kernel, by decide +kernel⟩
theorem cal_X7_as : CalV yX7_as cX7_as 3 (some .int) 2 := ⟨k_1002, k_1003, k_76, k_1004, by decide +kernel, by decide +kernel, by decide +kernel⟩
theorem cal_X7_ask : CalV yX7_ask cX7_ask 3 (some .int) 2 := ⟨k_1015, k_1016, k_76, k_1017, by decide +kernel, by decide +kernel, by decide +kernel⟩
theorem cal_X7_back : CalV yX7_back cX7_back 2 (some .int) 1 := ⟨k_702, k_703, k_76, k_704, by decide +kernel, by decide +kernel, by decide +kernel⟩
theorem cal_X7_bring : CalV yX7_bring cX7_bring 4 (some .int) 2 := ⟨k_871, k_872, k_76, k_873, by decide +kernel, by decide +kernel, by decide +kernel⟩
theorem cal_X7_clear : CalV yX7_clear cX7_clear 5 (some .int) 3 := ⟨k_852, k_853, k_76, k_854, by decide +kernel, by decide +kernel, by decide +kernel⟩
theorem cal_X7_comes : CalV yX7_comes cX7_comes 2 (some .int) 1 := ⟨k_774, k_775, k_76, k_776, by decide +kernel, by decide +kernel, by decide +kernel⟩
theorem cal_X7_copy : CalV yX7_copy cX7_copy 7 (some .int) 5 := ⟨k_404, k_405, k_76, k_406, by decide +kernel, by decide +kernel, by decide +kernel⟩
theorem cal_X7_count : CalV yX7_count cX7_count 2 (some .int) 1 := ⟨k_1048, k_1049, k_76, k_1050, by decide +kernel, by decide +kernel, by decide +kernel⟩
theorem cal_X7_drawn : CalV yX7_drawn cX7_drawn 4 (some .int) 3 := ⟨k_966, k_967, k_76, k_968, by decide +kernel, by decide +kernel, by decide +kernel⟩
theorem cal_X7_drop : CalV yX7_drop cX7_drop 2 (some .int) 1 := ⟨k_419, k_420, k_76, k_421, by decide +kernel, by decide +kernel, by decide +kernel⟩
theorem cal_X7_fault : CalV yX7_fault cX7_fault 1 (some .int) 0 := ⟨k_607, k_608, k_76, k_609, by decide +kernel, by decide +kernel, by decide +kernel⟩
theorem cal_X7_feed : CalV yX7_feed cX7_feed 2 (some .int) 1 := ⟨k_428, k_429, k_76, k_430, by decide +kernel, by decide +kernel, by decide +kernel⟩
theorem cal_X7_front : CalV yX7_front cX7_front 3 (some .int) 1 := ⟨k_684, k_685, k_76, k_686, by decide +kernel, by decide +kernel, by decide +kernel⟩
theorem cal_X7_image : CalV yX7_image cX7_image 2 (some .int) 1 := ⟨k_986, k_987, k_76, k_988, by decide +kernel, by decide +kernel, by decide +kernel⟩
theorem cal_X7_kind : CalV yX7_kind cX7_kind 2 (some .int) 1 := ⟨k_998, k_999, k_76, k_1000, by decide +kernel, by decide +kernel, by decide +kernel⟩
theorem cal_X7_lack : CalV yX7_lack cX7_lack 1 (some .int) 0 := ⟨k_885, k_886, k_76, k_887, by decide +kernel, by decide +kernel, by decide +kernel⟩
theorem cal_X7_list : CalV yX7_list cX7_list 2 (some .int) 1 := ⟨k_730, k_731, k_76, k_732, by decide +kernel, by decide +kernel, by decide +kernel⟩
theorem cal_X7_match : CalV yX7_match cX7_match 1 (some .int) 0 := ⟨k_836, k_837, k_76, k_838, by decide +kernel, by decide +kernel, by decide +kernel⟩
theorem cal_X7_next : CalV yX7_next cX7_next 2 (some .int) 1 := ⟨k_742, k_743, k_76, k_744, by decide +kernel, by decide +kernel, by decide +kernel⟩
theorem cal_X7_off : CalV yX7_off cX7_off 3 (some .int) 1 := ⟨k_697, k_698, k_76, k_699, by decide +kernel, by decide +kernel, by decide +kernel⟩
theorem cal_X7_order : CalV yX7_order cX7_order 2 (some .int) 1 := ⟨k_782, k_783, k_76, k_784, by decide +kernel, by decide +kernel, by decide +kernel⟩
theorem cal_X7_pack : CalV yX7_pack cX7_pack 3 (some .int) 1 := ⟨k_814, k_815, k_76, k_816, by decide +kernel, by decide +kernel, by decide +kernel⟩
theorem cal_X7_restore : CalV yX7_restore cX7_restore 3 (some .int) 1 := ⟨k_994, k_995, k_76, k_996, by decide +kernel, by decide +kernel, by decide +kernel⟩
theorem cal_X7_row : CalV yX7_row cX7_row 4 (some .int) 3 := ⟨k_360, k_361, k_76, k_362, by decide +kernel, by decide +kernel, by decide +kernel⟩
theorem cal_X7_seat : CalV yX7_seat cX7_seat 3 (some .int) 2 := ⟨k_726, k_727, k_76, k_728, by decide +kernel, by decide +kernel, by decide +kernel⟩
theorem cal_X7_set : CalV yX7_set cX7_set 5 (some .int) 3 := ⟨k_384, k_385, k_76, k_386, by decide +kernel, by decide +kernel, by decide +kernel⟩
theorem cal_X7_show : CalV yX7_show cX7_show 2 (some .int) 0 := ⟨k_441, k_442, k_76, k_443, by decide +kernel, by decide +kernel, by decide +kernel⟩
theorem cal_X7_sit : CalV yX7_sit cX7_sit 4 (some .int) 3 := ⟨k_707, k_708, k_76, k_709, by decide +kernel, by decide +kernel, by decide +kernel⟩
theorem cal_X7_stand : CalV yX7_stand cX7_stand 2 (some .int) 1 := ⟨k_734, k_735, k_76, k_736, by decide +kernel, by decide +kernel, by decide +kernel⟩
theorem cal_X7_status : CalV yX7_status cX7_status 1 (some .int) 0 := ⟨k_1060, k_1061, k_76, k_1062, by decide +kernel, by decide +kernel, by decide +kernel⟩
theorem cal_X7_taps : CalV yX7_taps cX7_taps 3 (some .int) 1 := ⟨k_629, k_630, k_76, k_631, by decide +kernel, by decide +kernel, by decide +kernel⟩
theorem cal_X7_thing : CalV yX7_thing cX7_thing 3 (some .int) 2 := ⟨k_717, k_718, k_76, k_719, by decide +kernel, by decide +kernel, by decide +kernel⟩
theorem cal_X7_trace : CalV yX7_trace cX7_trace 2 (some .int) 1 := ⟨k_1040, k_1041, k_76, k_1042, by decide +kernel, by decide +kernel, by decide +kernel⟩
theorem cal_X7_undo : CalV yX7_undo cX7_undo 1 (some .int) 0 := ⟨k_615, k_616, k_76, k_617, by decide +kernel, by decide +kernel, by decide +kernel⟩
theorem cal_X7_wander : CalV yX7_wander cX7_wander 13 (some .long) 4 := ⟨k_943, k_944, k_76, k_945, by decide +kernel, by decide +kernel, by decide +kernel⟩
theorem cal_X7_wanted : CalV yX7_wanted cX7_wanted 7 (some .int) 5 := ⟨k_922, k_923, k_76, k_924, by decide +kernel, by decide +kernel, by decide +kernel⟩
theorem cal_X7_wasOff : CalV yX7_wasOff cX7_wasOff 5 (some .int) 3 := ⟨k_934, k_935, k_76, k_936, by decide +kernel, by decide +kernel, by decide +kernel⟩
theorem cal_X7_when : CalV yX7_when cX7_when 3 (some .int) 2 := ⟨k_766, k_767, k_76, k_768, by decide +kernel, by decide +kernel, by decide +kernel⟩
theorem cal_X7_who : CalV yX7_who cX7_who 7 (some .int) 5 := ⟨k_893, k_894, k_76, k_895, by decide +kernel, by decide +kernel, by decide +kernel⟩
theorem cal_X8_ahead : CalV yX8_ahead cX8_ahead 4 (some .int) 2 := ⟨k_1363, k_1364, k_84, k_1365, by decide +kernel, by decide +kernel, by decide +kernel⟩
theorem cal_X8_as : CalV yX8_as cX8_as 3 (some .int) 2 := ⟨k_1485, k_1486, k_84, k_1487, by decide +kernel, by decide +kernel, by decide +kernel⟩
theorem cal_X8_ask : CalV yX8_ask cX8_ask 3 (some .int) 2 := ⟨k_1492, k_1493, k_84, k_1494, by decide +kernel, by decide +kernel, by decide +kernel⟩
theorem cal_X8_back : CalV yX8_back cX8_back 2 (some .int) 1 := ⟨k_1320, k_1321, k_84, k_1322, by decide +kernel, by decide +kernel, by decide +kernel⟩
theorem cal_X8_bring : CalV yX8_bring cX8_bring 6 (some .int) 2 := ⟨k_1424, k_1425, k_84, k_1426, by decide +kernel, by decide +kernel, by decide +kernel⟩
theorem cal_X8_clear : CalV yX8_clear cX8_clear 8 (some .int) 3 := ⟨k_1419, k_1420, k_84, k_1421, by decide +kernel, by decide +kernel, by decide +kernel⟩
theorem cal_X8_comes : CalV yX8_comes cX8_comes 4 (some .int) 1 := ⟨k_1384, k_1385, k_84, k_1386, by decide +kernel, by decide +kernel, by decide +kernel⟩
theorem cal_X8_copy : CalV yX8_copy cX8_copy 7 (some .int) 5 := ⟨k_1176, k_1177, k_84, k_1178, by decide +kernel, by decide +kernel, by decide +kernel⟩
theorem cal_X8_count : CalV yX8_count cX8_count 4 (some .int) 1 := ⟨k_1532, k_1533, k_84, k_1534, by decide +kernel, by decide +kernel, by decide +kernel⟩
theorem cal_X8_drawn : CalV yX8_drawn cX8_drawn 10 (some .int) 3 := ⟨k_1465, k_1466, k_84, k_1467, by decide +kernel, by decide +kernel, by decide +kernel⟩
theorem cal_X8_drop : CalV yX8_drop cX8_drop 3 (some .int) 1 := ⟨k_1180, k_1181, k_84, k_1182, by decide +kernel, by decide +kernel, by decide +kernel⟩
theorem cal_X8_fault : CalV yX8_fault cX8_fault 1 (some .int) 0 := ⟨k_1231, k_1232, k_84, k_1233, by decide +kernel, by decide +kernel, by decide +kernel⟩
theorem cal_X8_feed : CalV yX8_feed cX8_feed 2 (some .int) 1 := ⟨k_1184, k_1185, k_84, k_1186, by decide +kernel, by decide +kernel, by decide +kernel⟩
theorem cal_X8_front : CalV yX8_front cX8_front 3 (some .int) 1 := ⟨k_1304, k_1305, k_84, k_1306, by decide +kernel, by decide +kernel, by decide +kernel⟩
theorem cal_X8_image : CalV yX8_image cX8_image 3 (some .int) 1 := ⟨k_1473, k_1474, k_84, k_1475, by decide +kernel, by decide +kernel, by decide +kernel⟩
theorem cal_X8_kind : CalV yX8_kind cX8_kind 2 (some .int) 1 := ⟨k_1481, k_1482, k_84, k_1483, by decide +kernel, by decide +kernel, by decide +kernel⟩
theorem cal_X8_lack : CalV yX8_lack cX8_lack 3 (some .int) 0 := ⟨k_1428, k_1429, k_84, k_1430, by decide +kernel, by decide +kernel, by decide +kernel⟩
theorem cal_X8_list : CalV yX8_list cX8_list 2 (some .int) 1 := ⟨k_1346, k_1347, k_84, k_1348, by decide +kernel, by decide +kernel, by decide +kernel⟩
theorem cal_X8_match : CalV yX8_match cX8_match 5 (some .int) 0 := ⟨k_1411, k_1412, k_84, k_1413, by decide +kernel, by decide +kernel, by decide +kernel⟩
theorem cal_X8_next : CalV yX8_next cX8_next 4 (some .int) 1 := ⟨k_1359, k_1360, k_84, k_1361, by decide +kernel, by decide +kernel, by decide +kernel⟩
theorem cal_X8_off : CalV yX8_off cX8_off 3 (some .int) 1 := ⟨k_1316, k_1317, k_84, k_1318, by decide +kernel, by decide +kernel, by decide +kernel⟩
theorem cal_X8_order : CalV yX8_order cX8_order 7 (some .int) 1 := ⟨k_1388, k_1389, k_84, k_1390, by decide +kernel, by decide +kernel, by decide +kernel⟩
theorem cal_X8_pack : CalV yX8_pack cX8_pack 5 (some .int) 1 := ⟨k_1400, k_1401, k_84, k_1402, by decide +kernel, by decide +kernel, by decide +kernel⟩
theorem cal_X8_restore : CalV yX8_restore cX8_restore 3 (some .int) 1 := ⟨k_1477, k_1478, k_84, k_1479, by decide +kernel, by decide +kernel, by decide +kernel⟩
theorem cal_X8_row : CalV yX8_row cX8_row 5 (some .int) 3 := ⟨k_1147, k_1148, k_84, k_1149, by decide +kernel, by decide +kernel, by decide +kernel⟩
theorem cal_X8_seat : CalV yX8_seat cX8_seat 3 (some .int) 2 := ⟨k_1342, k_1343, k_84, k_1344, by decide +kernel, by decide +kernel, by decide +kernel⟩
theorem cal_X8_set : CalV yX8_set cX8_set 4 (some .int) 3 := ⟨k_1169, k_1170, k_84, k_1171, by decide +kernel, by decide +kernel, by decide +kernel⟩
theorem cal_X8_show : CalV yX8_show cX8_show 3 (some .int) 0 := ⟨k_1190, k_1191, k_84, k_1192, by decide +kernel, by decide +kernel, by decide +kernel⟩
theorem cal_X8_sit : CalV yX8_sit cX8_sit 4 (some .int) 3 := ⟨k_1324, k_1325, k_84, k_1326, by decide +kernel, by decide +kernel, by decide +kernel⟩
theorem cal_X8_stand : CalV yX8_stand cX8_stand 2 (some .int) 1 := ⟨k_1350, k_1351, k_84, k_1352, by decide +kernel, by decide +kernel, by decide +kernel⟩
theorem cal_X8_status : CalV yX8_status cX8_status 1 (some .int) 0 := ⟨k_1536, k_1537, k_84, k_1538, by decide +kernel, by decide +kernel, by decide +kernel⟩
theorem cal_X8_taps : CalV yX8_taps cX8_taps 3 (some .int) 1 := ⟨k_1240, k_1241, k_84, k_1242, by decide +kernel, by decide +kernel, by decide +kernel⟩
theorem cal_X8_thing : CalV yX8_thing cX8_thing 3 (some .int) 2 := ⟨k_1338, k_1339, k_84, k_1340, by decide +kernel, by decide +kernel, by decide +kernel⟩
theorem cal_X8_trace : CalV yX8_trace cX8_trace 2 (some .int) 1 := ⟨k_1528, k_1529, k_84, k_1530, by decide +kernel, by decide +kernel, by decide +kernel⟩
theorem cal_X8_undo : CalV yX8_undo cX8_undo 2 (some .int) 0 := ⟨k_1235, k_1236, k_84, k_1237, by decide +kernel, by decide +kernel, by decide +kernel⟩
theorem cal_X8_wander : CalV yX8_wander cX8_wander 16 (some .long) 4 := ⟨k_1457, k_1458, k_84, k_1459, by decide +kernel, by decide +kernel, by decide +kernel⟩
theorem cal_X8_wanted : CalV yX8_wanted cX8_wanted 9 (some .int) 5 := ⟨k_1449, k_1450, k_84, k_1451, by decide +kernel, by decide +kernel, by decide +kernel⟩
theorem cal_X8_wasOff : CalV yX8_wasOff cX8_wasOff 7 (some .int) 3 := ⟨k_1453, k_1454, k_84, k_1455, by decide +kernel, by decide +kernel, by decide +kernel⟩
theorem cal_X8_when : CalV yX8_when cX8_when 5 (some .int) 2 := ⟨k_1380, k_1381, k_84, k_1382, by decide +kernel, by decide +kernel, by decide +kernel⟩
theorem cal_X8_who : CalV yX8_who cX8_who 10 (some .int) 5 := ⟨k_1432, k_1433, k_84, k_1434, by decide +kernel, by decide +kernel, by decide +kernel⟩
