/-! rows of references, cells told otherwise, worlds in another order -/
section GB
variable {X : Cx} {t : Nat → ClassId} {R : Room} {cc : ByteArray} {nL : Nat} {own : String} {cs cs' : List va_W} {pc k n : Nat} {lv lv' : List (Nat × Value)} {st : List Value}
def zSV : SV := fun _ _ => 0
def rmN (d c s : Nat) : Room := { frames := d, cells := c, slots := s, locals := 40 * d }
theorem fit_rmN {a b c s c2 s2 ml : Nat} (h : a < b) (hm : ml ≤ 21) : FitN (rmN a c s) (rmN b c2 s2) ml c s := ⟨rfl, rfl, h, by show 8 + (ml + 11) + 40 * a ≤ 40 * b; omega⟩
theorem arr_sameS {D : va_G} {s : State} {cA : ClassId} (hK : va_K D vwCl (tysOf t) s) (h1 : va_K D vwCl (tysOf t ++ [(cA, .object "RabbitList$Stage")]) s) : cA = t 2 := by
  obtain ⟨-, -, -, -, -, a⟩ := (hK.2 2 (t 2, .object "RabbitList$Stage") rfl).2
  obtain ⟨-, -, -, -, -, b⟩ := (h1.2 (tysOf t).length (cA, .object "RabbitList$Stage") (by simp)).2
  exact Option.some.inj (b.symm.trans a)
theorem G.newq (C : gX (xs X k n) t R cc nL own) {x : Int32} {N index : Nat} (hcl : Cond.classLink own index "RabbitList$Stage" ∈ WS) (hn : ¬ x < 0) (hN : x.toNatClampNeg = N) (hby : N * 4 ≤ 536870912) (hr : k + 1 ≤ R.cells ∧ n + N ≤ R.slots) (hd : decode cc pc = .ok (.anewarray index, 3)) (kk : ∀ q : Nat, G (xs X (k + 1) (n + N)) (cs ++ [[(q, .inl (t 2, N, .inr (.inr (.inr (.inr (fun _ => none))))))]]) (pc + 3) lv (.ref q :: st)) : G (xs X k n) cs pc lv (.int x :: st) := by
  obtain ⟨p, l, e, R0, s, m, args, below, meth, c, D, A, cells, slots, Q⟩ := X
  obtain ⟨hRR, hx, hb, hml, ho, hroom, hw, hK, hA, hSt⟩ := C
  intro H locs ls hP hD hS hl
  subst hRR
  refine va_newq hx hb ho (hw _ hcl) hSt.2.2.2.2.2.2.2.2.2.2.2.2.1 hK hP hD hS hA hn hN hby hr.1 hr.2 hd (fun q cA H1 hK1 hP1 hD1 hS1 => ?_)
  have e := arr_sameS hK hK1
  subst e
  exact kk q H1 locs ls (by rw [List.flatten_append]; simpa using hP1) (by rw [List.flatten_append]; simpa using hD1) hS1 hl
theorem G.astS (C : gX X t R cc nL own) {i j a N i1 j1 v : Nat} {w w1 w2 : va_W} {f : Nat → Option Nat} {ix : Int32} {fs : List Value} (h1 : cs[i]? = some w) (h2 : w[j]? = some (a, .inl (t 2, N, .inr (.inr (.inr (.inr f)))))) (h3 : cs[i1]? = some w1) (h4 : w1[j1]? = some (v, .inr (5, fs))) (hin : vp_in ix N) (hd : decode cc pc = .ok (.aastore, 1)) (hw2 : w.set j (a, .inl (t 2, N, .inr (.inr (.inr (.inr (va_up f ix.toNatClampNeg (some v))))))) = w2) (hcs : cs.set i w2 = cs') (kk : G X cs' (pc + 1) lv st) : G X cs pc lv (.ref v :: .int ix :: .ref a :: st) := by
  obtain ⟨p, l, e, R0, s, m, args, below, meth, c, D, A, cells, slots, Q⟩ := X
  obtain ⟨hRR, hx, hb, hml, ho, hroom, hw, hK, hA, hSt⟩ := C
  intro H locs ls hP hD hS hl
  obtain ⟨q0, hq0, hset⟩ := fl_get h1 h2
  obtain ⟨q1, hq1, -⟩ := fl_get h3 h4
  refine va_astq hx hb hK hP hD hS q0 2 q1 5 (r := (RX5, TX5, 18)) hq0 rfl hq1 rfl hin hd (fun H1 locs1 hP1 hD1 hS1 => ?_)
  rw [hset, hw2, hcs] at hP1 hD1
  exact kk H1 locs1 ls hP1 hD1 hS1 hl
theorem cellq {c : ClassId} {N : Nat} {f f' : Nat → Option Nat} (h : ∀ j, j < N → f j = f' j) : vp_cell c (N, .inr (.inr (.inr (.inr f)))) = vp_cell c (N, .inr (.inr (.inr (.inr f')))) := by
  rw [vp_cell_q, vp_cell_q]
  unfold arrV
  congr 2
  funext j
  exact congrArg va_rf (h j.val j.isLt)
theorem G.cell {i j a N : Nat} {c0 : ClassId} {w : va_W} {f f' : Nat → Option Nat} (h1 : cs[i]? = some w) (h2 : w[j]? = some (a, .inl (c0, N, .inr (.inr (.inr (.inr f)))))) (hf : ∀ j, j < N → f j = f' j) (hcs : cs.set i (w.set j (a, .inl (c0, N, .inr (.inr (.inr (.inr f')))))) = cs') (kk : G X cs' pc lv st) : G X cs pc lv st := by
  obtain ⟨p, l, e, R0, s, m, args, below, meth, c, D, A, cells, slots, Q⟩ := X
  intro H locs ls hP hD hS hl
  obtain ⟨q0, hq0, hset⟩ := fl_get h1 h2
  have hP1 : va_P D vwCl (cs.flatten.set q0 (a, .inl (c0, N, .inr (.inr (.inr (.inr f')))))) H := hP.set hD hq0 (by
    show H[a]? = some (vp_cell _ _)
    rw [← cellq hf]
    exact hP q0 _ hq0) (fun _ _ => rfl)
  have hD1 := hD.set (e := .inl (c0, N, .inr (.inr (.inr (.inr f'))))) hq0
  rw [hset, hcs] at hP1 hD1
  exact kk H locs ls hP1 hD1 hS hl
theorem va_D_iff {A : Nat → Prop} {ws : va_W} : va_D A ws ↔ (ws.map Prod.fst).Nodup ∧ ∀ x ∈ ws, A x.1 := by
  constructor
  · intro h
    refine ⟨?_, fun x hx => ?_⟩
    · rw [List.nodup_iff_pairwise_ne, List.pairwise_iff_getElem]
      intro i j hi hj hij e
      rw [List.length_map] at hi hj
      rw [List.getElem_map, List.getElem_map] at e
      have := h.1 i j ws[i] ws[j] (List.getElem?_eq_getElem hi) (List.getElem?_eq_getElem hj) e
      omega
    · obtain ⟨i, hi⟩ := List.getElem?_of_mem hx
      exact h.2 i x hi
  · intro h
    refine ⟨fun i j x y hi hj e => ?_, fun i x hi => h.2 x (List.mem_of_getElem? hi)⟩
    have h1 := h.1
    rw [List.nodup_iff_pairwise_ne, List.pairwise_iff_getElem] at h1
    have li := (List.getElem?_eq_some_iff.mp hi)
    have lj := (List.getElem?_eq_some_iff.mp hj)
    obtain ⟨li, ei⟩ := li
    obtain ⟨lj, ej⟩ := lj
    rcases Nat.lt_trichotomy i j with hlt | rfl | hlt
    · exact absurd (by rw [List.getElem_map, List.getElem_map, ei, ej]; exact e) (h1 i j (by rw [List.length_map]; exact li) (by rw [List.length_map]; exact lj) hlt)
    · rfl
    · exact absurd (by rw [List.getElem_map, List.getElem_map, ei, ej]; exact e.symm) (h1 j i (by rw [List.length_map]; exact lj) (by rw [List.length_map]; exact li) hlt)
theorem G.perm (h : cs.Perm cs') (kk : G X cs' pc lv st) : G X cs pc lv st := by
  obtain ⟨p, l, e, R0, s, m, args, below, meth, c, D, A, cells, slots, Q⟩ := X
  intro H locs ls hP hD hS hl
  have hf : cs.flatten.Perm cs'.flatten := h.flatten
  refine kk H locs ls ?_ ?_ hS hl
  · rw [va_P_iff] at hP ⊢
    exact fun x hx => hP x (hf.mem_iff.mpr hx)
  · rw [va_D_iff] at hD ⊢
    exact ⟨(hf.map Prod.fst).nodup_iff.mp hD.1, fun x hx => hD.2 x (hf.mem_iff.mpr hx)⟩
end GB
