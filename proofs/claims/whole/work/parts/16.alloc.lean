/-! ALLOCATION: a context with cells and slots counted, rows that make cells, contracts of constructors -/
def xs (X : Cx) (k n : Nat) : Cx := (X.1, X.2.1, X.2.2.1, X.2.2.2.1, X.2.2.2.2.1, X.2.2.2.2.2.1, X.2.2.2.2.2.2.1, X.2.2.2.2.2.2.2.1, X.2.2.2.2.2.2.2.2.1, X.2.2.2.2.2.2.2.2.2.1, X.2.2.2.2.2.2.2.2.2.2.1, X.2.2.2.2.2.2.2.2.2.2.2.1, k, n, X.2.2.2.2.2.2.2.2.2.2.2.2.2.2)
def xmeth (X : Cx) : Method := X.2.2.2.2.2.2.2.2.1
section GA
variable {X : Cx} {t : Nat → ClassId} {R : Room} {cc : ByteArray} {nL : Nat} {own : String} {cs cs' : List va_W} {pc k n : Nat} {lv lv' : List (Nat × Value)} {st : List Value}
theorem gX.xs (C : gX X t R cc nL own) (h : k ≤ R.cells ∧ n ≤ R.slots) : gX (xs X k n) t R cc nL own := by
  obtain ⟨p, l, e, R0, s, m, args, below, meth, c, D, A, cells, slots, Q⟩ := X
  obtain ⟨hRR, hx, hb, hml, ho, hroom, hw, hK, hA, hSt⟩ := C
  subst hRR
  exact ⟨rfl, hx, hb, hml, ho, h, hw, hK, hA, hSt⟩
theorem G.fl (h : cs.flatten = cs'.flatten) (kk : G X cs' pc lv st) : G X cs pc lv st := by
  obtain ⟨p, l, e, R0, s, m, args, below, meth, c, D, A, cells, slots, Q⟩ := X
  intro H locs ls hP hD hS hl
  exact kk H locs ls (h ▸ hP) (h ▸ hD) hS hl
theorem G.new (C : gX (xs X k n) t R cc nL own) {Cn : String} {T : u_T} {N ci index : Nat} {fs : List Value} (hc : vwCl[ci]? = some (Cn, T, N)) (hcl : Cond.classLink own index Cn ∈ WS) (hin : Cond.instantiable Cn N ∈ WS) (hini : Cond.initialized Cn ∈ WS) (hfs : ∀ j, j < N → defaultValue (tyC ci j) = vp_V fs j) (hr : k + 1 ≤ R.cells ∧ n + N ≤ R.slots) (hd : decode cc pc = .ok (.new index, 3)) (kk : ∀ q : Nat, G (xs X (k + 1) (n + N)) (cs ++ [[(q, .inr (ci, fs))]]) (pc + 3) lv (.ref q :: st)) : G (xs X k n) cs pc lv st := by
  obtain ⟨p, l, e, R0, s, m, args, below, meth, c, D, A, cells, slots, Q⟩ := X
  obtain ⟨hRR, hx, hb, hml, ho, hroom, hw, hK, hA, hSt⟩ := C
  intro H locs ls hP hD hS hl
  subst hRR
  refine va_new hx hb hw (clIn hc) (tyC ci) (tyC_ok hc) ho (hw _ hcl) (hw _ hin) (hw _ hini) hK hP hD hS hA hc hfs hr.1 hr.2 hd (fun q H1 hP1 hD1 hS1 => ?_)
  exact kk q H1 locs ls (by rw [List.flatten_append]; simpa using hP1) (by rw [List.flatten_append]; simpa using hD1) hS1 hl
theorem arr_same {D : va_G} {s : State} {cA : ClassId} {ty : FieldType} {i : Nat} {c0 : ClassId} (hK : va_K D vwCl (tysOf t) s) (h0 : (tysOf t)[i]? = some (c0, ty)) (h1 : va_K D vwCl (tysOf t ++ [(cA, ty)]) s) (hp : ∀ C, ty ≠ .object C) : cA = c0 := by
  have a := (hK.2 i _ h0).2
  have b := (h1.2 (tysOf t).length (cA, ty) (by simp)).2
  unfold va_RA at a b
  cases ty with
  | object C => exact absurd rfl (hp C)
  | _ => exact Option.some.inj (b.symm.trans a)
theorem G.newi (C : gX (xs X k n) t R cc nL own) {x : Int32} {N : Nat} (harr : Cond.arrayClass .int ∈ WS) (hn : ¬ x < 0) (hN : x.toNatClampNeg = N) (hby : N * 4 ≤ 536870912) (hr : k + 1 ≤ R.cells ∧ n + N ≤ R.slots) (hd : decode cc pc = .ok (.newarray .int, 2)) (kk : ∀ q : Nat, G (xs X (k + 1) (n + N)) (cs ++ [[(q, .inl (t 0, N, .inl (fun _ => 0)))]]) (pc + 2) lv (.ref q :: st)) : G (xs X k n) cs pc lv (.int x :: st) := by
  obtain ⟨p, l, e, R0, s, m, args, below, meth, c, D, A, cells, slots, Q⟩ := X
  obtain ⟨hRR, hx, hb, hml, ho, hroom, hw, hK, hA, hSt⟩ := C
  intro H locs ls hP hD hS hl
  subst hRR
  refine va_newa (atype := .int) (ty := .int) (a0 := (N, .inl (fun _ => 0))) hx hb (hw _ harr) rfl hK hP hD hS hA (fun _ => rfl) hn hN hby hr.1 hr.2 hd (fun q cA H1 hK1 hP1 hD1 hS1 => ?_)
  have e := arr_same (i := 0) hK rfl hK1 (fun C h => by cases h)
  subst e
  exact kk q H1 locs ls (by rw [List.flatten_append]; simpa using hP1) (by rw [List.flatten_append]; simpa using hD1) hS1 hl
theorem G.newz (C : gX (xs X k n) t R cc nL own) {x : Int32} {N : Nat} (harr : Cond.arrayClass .boolean ∈ WS) (hn : ¬ x < 0) (hN : x.toNatClampNeg = N) (hby : N * 1 ≤ 536870912) (hr : k + 1 ≤ R.cells ∧ n + N ≤ R.slots) (hd : decode cc pc = .ok (.newarray .boolean, 2)) (kk : ∀ q : Nat, G (xs X (k + 1) (n + N)) (cs ++ [[(q, .inl (t 1, N, .inl (fun _ => 0)))]]) (pc + 2) lv (.ref q :: st)) : G (xs X k n) cs pc lv (.int x :: st) := by
  obtain ⟨p, l, e, R0, s, m, args, below, meth, c, D, A, cells, slots, Q⟩ := X
  obtain ⟨hRR, hx, hb, hml, ho, hroom, hw, hK, hA, hSt⟩ := C
  intro H locs ls hP hD hS hl
  subst hRR
  refine va_newa (atype := .boolean) (ty := .boolean) (a0 := (N, .inl (fun _ => 0))) hx hb (hw _ harr) rfl hK hP hD hS hA (fun _ => rfl) hn hN hby hr.1 hr.2 hd (fun q cA H1 hK1 hP1 hD1 hS1 => ?_)
  have e := arr_same (i := 1) hK rfl hK1 (fun C h => by cases h)
  subst e
  exact kk q H1 locs ls (by rw [List.flatten_append]; simpa using hP1) (by rw [List.flatten_append]; simpa using hD1) hS1 hl
theorem G.objInit (C : gX X t R cc nL own) {index a : Nat} (hlk : Cond.methodLink own index objectInit ∈ WS) (hin : Cond.instanceMethod objectInit ∈ WS) (hco : Cond.code objectInit ⟨#[0xb1]⟩ 1 none ∈ WS) (hfr : 1 ≤ R.frames) (hlo : (st.map fun v => v.category).sum + 12 ≤ R.locals) (hd : decode cc pc = .ok (.invokespecial index, 3)) (kk : G X cs (pc + 3) lv st) : G X cs pc lv (.ref a :: st) := by
  obtain ⟨p, l, e, R0, s, m, args, below, meth, c, D, A, cells, slots, Q⟩ := X
  obtain ⟨hRR, hx, hb, hml, ho, hroom, hw, hK, hA, hSt⟩ := C
  intro H locs ls hP hD hS hl
  subst hRR
  refine W.objInit hx hb ho (hw _ hlk) (hw _ hin) (hw _ hco) (g := F0 m pc ls (.ref a :: st)) rfl hl.1 rfl hd hfr (by show 2 * 0 + (st.map fun v => v.category).sum + 12 ≤ _; omega) ?_
  exact kk H locs ls hP hD hS hl
theorem G.putF (C : gX X t R cc nL own) (hin : (xmeth X).name = "<init>") {Cn : String} {T : u_T} {N ci index i j a : Nat} {w w2 : va_W} {fs : List Value} (h1 : cs[i]? = some w) (h2 : w[j]? = some (a, .inr (ci, fs))) (hc : vwCl[ci]? = some (Cn, T, N)) (k : Nat) (hk : k < N) (hlk : Cond.fieldLink own index own (T k).2.1 (T k).2.2.1 ∈ WS) (hsame : (T k).1 = own) (hfin : (T k).2.2.2 = true) {ty : FieldType} {v : Value} (hty : tyC ci k = ty) (hn : narrow ty v = v) (hfit : fits ty v = true) (hlen : k < fs.length) (hd : decode cc pc = .ok (.putfield index, 3)) (hw2 : w.set j (a, .inr (ci, fs.set k v)) = w2) (hcs : cs.set i w2 = cs') (kk : G X cs' (pc + 3) lv st) : G X cs pc lv (v :: .ref a :: st) := by
  obtain ⟨p, l, e, R0, s, m, args, below, meth, c, D, A, cells, slots, Q⟩ := X
  obtain ⟨hRR, hx, hb, hml, ho, hroom, hw, hK, hA, hSt⟩ := C
  intro H locs ls hP hD hS hl
  obtain ⟨q0, hq0, hset⟩ := fl_get h1 h2
  refine va_putF hx hb hw (clIn hc) (tyC ci) (tyC_ok hc) (nmC hc) ho hK hP hD hS q0 hq0 hc k hk (hw _ hlk) (fun x h => by rw [← hsame]; exact h) hfin hin hsame (by rw [← hty]; exact tyC_ok hc k hk) hn hfit hlen hd (fun H1 locs1 hP1 hD1 hS1 => ?_)
  rw [hset, hw2, hcs] at hP1 hD1
  exact kk H1 locs1 ls hP1 hD1 hS1 hl
/-- a constructor: over the fresh object it leaves some world of a kind; mc cells of ms slots are new -/
def CN (t : Nat → ClassId) (y : MethodName) (cd : ByteArray) (ml : Nat) (rc : Room) (av : List Value) (cs0 : List va_W) (P : List va_W → Prop) (mc ms : Nat) : Prop := ∀ (D : va_G) (l : Launch) (sz : Nat), Met l y (.code y cd ml none :: WS) rc (va_Pc av (preC D t cs0 sz)) (va_Qv P (fun cs1 U => posC D t cs0 cs1 sz () U) (va_A cs0.flatten sz)) mc ms (va_A cs0.flatten sz)
theorem CN.of {y : MethodName} {cd : ByteArray} {ml : Nat} {rc : Room} {av : List Value} {cs0 : List va_W} {P : List va_W → Prop} {mc ms : Nat} (hy : plainName y.cls = true) (hcl : y.cls = own) (hnm : y.name = "<init>") (hsl : (lg_sl av).length ≤ ml) (body : ∀ X : Cx, gX X t rc cd ml own → (xmeth X).name = "<init>" → (∀ cs1, P cs1 → RetV (xs X mc ms) cd cs1) → G (xs X 0 0) cs0 0 (lv_args 0 av) []) : CN t y cd ml rc av cs0 P mc ms := by
  intro D l sz
  refine Met.ofW (cc := cd) (maxL := ml) (ret := none) hy rfl ?_
  intro p e s m args below meth c s₁ B hml hv
  obtain ⟨rfl, hsz, hP, hK, hD0, hSt⟩ := hv
  subst hsz
  have hx := B.exec
  have hb := B.bytes
  have hr := B.returns
  have hts := atoms_spec (ws := Cond.code y cd ml none :: WS) B.pre
  have hown : s.vm.findClass own = some m.cls := by rw [← hcl]; exact findClass_of_methodNamed B.named
  have hlocks := B.notSynchronized
  have hin : meth.name = "<init>" := by rw [← hnm]; exact (name_of_methodNamed B.named B.method).1
  have C : gX (p, l, e, rc, s, m, av.toArray, below, meth, c, D, va_A cs0.flatten s.heap.size, 0, 0, MQ below (va_Qv P (fun cs1 U => posC D t cs0 cs1 s.heap.size () U) (va_A cs0.flatten s.heap.size)) av.toArray s mc ms (va_A cs0.flatten s.heap.size)) t rc cd ml own := ⟨rfl, hx, hb, hml, hown, ⟨Nat.zero_le _, Nat.zero_le _⟩, fun w hw => hts w (List.mem_cons_of_mem _ hw), hK, fun q h => Or.inr h, hSt⟩
  have h0 := body _ C hin (by
    intro cs1 hp pc lv hd H locs ls hP1 hD1 hS hl
    exact W.vret hx hb hr (fun u ht hW => ⟨⟨cs1, rfl, hp, by rw [ht]; exact hP1, va_K.moved hW.alike hK, hD1⟩, hS.F ht⟩) hS.2.2 hd) s.heap [] _ hP hD0.self va_S.rf (by show lv_has _ c.maxLocals _; rw [hml]; exact lv_entry av hsl)
  rw [lg_entry_eq]
  exact h0
def FitN (rc R : Room) (ml mc ms : Nat) : Prop := rc.cells = mc ∧ rc.slots = ms ∧ rc.frames + 1 ≤ R.frames ∧ 8 + (ml + 11) + rc.locals ≤ R.locals
def CalI (y : MethodName) (cd : ByteArray) (ml n : Nat) : Prop := Cond.instanceMethod y ∈ WS ∧ Cond.initialized y.cls ∈ WS ∧ Cond.code y cd ml none ∈ WS ∧ y.name = "<init>" ∧ y.cls ≠ "java/lang/invoke/MethodHandle" ∧ y.cls ≠ "java/lang/invoke/VarHandle" ∧ (parseMethodDescriptor y.desc).map (fun d => d.parameters.length) = some n
/-- a constructor's call over the object that was made last -/
theorem G.cinit (C : gX (xs X k n) t R cc nL own) {y : MethodName} {cd : ByteArray} {ml idx q mc ms : Nat} {rc : Room} {w0 : va_W} {P : List va_W → Prop} {pre : List va_W} (hM : CN t y cd ml rc [.ref q] [w0] P mc ms) (hcal : CalI y cd ml 0) (hlk : Cond.methodLink own idx y ∈ WS) (hfit : FitN rc R ml mc ms) (hr : k + mc ≤ R.cells ∧ n + ms ≤ R.slots) (hsum : (st.map fun v => v.category).sum ≤ 8) (hd : decode cc pc = .ok (.invokespecial idx, 3)) (kk : ∀ cs1, P cs1 → G (xs X (k + mc) (n + ms)) (pre ++ cs1) (pc + 3) lv st) : G (xs X k n) (pre ++ [w0]) pc lv (.ref q :: st) := by
  obtain ⟨p, l, e, R0, s, m, args, below, meth, c, D, A, cells, slots, Q⟩ := X
  obtain ⟨hRR, hx, hb, hml, ho, hroom, hw, hK, hA, hSt⟩ := C
  intro H locs ls hP hD hS hl
  subst hRR
  obtain ⟨c1, c2, c3, c4, c5⟩ := hcal
  have hfl : (pre ++ [w0]).flatten = pre.flatten ++ [w0].flatten := List.flatten_append
  rw [hfl] at hP hD
  have hPc : va_P D vwCl [w0].flatten H := fun a b hab => hP (pre.flatten.length + a) b (by rw [List.getElem?_append_right (by omega), show pre.flatten.length + a - pre.flatten.length = a by omega]; exact hab)
  have hDc : va_D A [w0].flatten := ⟨fun i j x y hi hj hxy => by
    have := hD.1 (pre.flatten.length + i) (pre.flatten.length + j) x y (by rw [List.getElem?_append_right (by omega), show pre.flatten.length + i - pre.flatten.length = i by omega]; exact hi) (by rw [List.getElem?_append_right (by omega), show pre.flatten.length + j - pre.flatten.length = j by omega]; exact hj) hxy
    omega, fun i x hi => hD.2 (pre.flatten.length + i) x (by rw [List.getElem?_append_right (by omega), show pre.flatten.length + i - pre.flatten.length = i by omega]; exact hi)⟩
  have hFc : ∀ z, va_A [w0].flatten H.size z → A z := by
    intro z h
    rcases h with ⟨a, b, h⟩ | h
    · exact hDc.2 a (z, b) h
    · exact hA z (Nat.le_trans hS.1 h)
  refine va_callv (va_runI (As := []) (rest := st) ⟨hx, hb, hml, ho, hw⟩ (hM D l H.size) (cwI 0 hw (ws_GI c3) rfl hfit.1 hfit.2.1 (hw _ c2) (hw _ hlk) (hw _ c1) c4 c5 hfit.2.2) ⟨preC.blind, fun U hU hW => ⟨rfl, by rw [hU], by rw [hU]; exact hPc, va_K.moved hW.alike hK, hDc.weaken (fun _ _ _ _ => trivial), by rw [hU]; exact hSt.at hW hS.2.1 hFc⟩⟩ rfl rfl (by rw [← hml]; exact hl.1) rfl (lv_room hsum) hd hr) hS (fun z _ h => hFc z h) hFc (fun cs1 t2 H1 locs1 ht hvm hpx hB hz1 hk1 hS1 => ?_)
  obtain ⟨hP1, -, hD1⟩ := hB
  rw [ht] at hP1
  have hpre : ∀ (i : Nat) (x : Nat × va_E), pre.flatten[i]? = some x → x.1 < H.size ∧ ¬ va_A [w0].flatten H.size x.1 := by
    intro i x hi
    have hli := (List.getElem?_eq_some_iff.mp hi).1
    have h1 : (pre.flatten ++ [w0].flatten)[i]? = some x := by rw [List.getElem?_append_left hli]; exact hi
    refine ⟨(hP i x h1).lt, fun h => ?_⟩
    rcases h with ⟨j, e9, h⟩ | h
    · have := hD.1 i (pre.flatten.length + j) x (x.1, e9) h1 (by rw [List.getElem?_append_right (by omega), show pre.flatten.length + j - pre.flatten.length = j by omega]; exact h) rfl
      omega
    · have := (hP i x h1).lt
      omega
  have hPp : va_P D vwCl pre.flatten H1 := fun i x hi => by
    have hli := (List.getElem?_eq_some_iff.mp hi).1
    exact (hP i x (by rw [List.getElem?_append_left hli]; exact hi)).kept (hk1 x.1 (hpre i x hi).1 (hpre i x hi).2)
  have hDp : va_D A pre.flatten := ⟨fun i j x y hi hj hxy => hD.1 i j x y (by rw [List.getElem?_append_left (List.getElem?_eq_some_iff.mp hi).1]; exact hi) (by rw [List.getElem?_append_left (List.getElem?_eq_some_iff.mp hj).1]; exact hj) hxy, fun i x hi => hD.2 i x (by rw [List.getElem?_append_left (List.getElem?_eq_some_iff.mp hi).1]; exact hi)⟩
  refine kk cs1 hpx H1 locs1 ls ?_ ?_ hS1 hl
  · rw [List.flatten_append]
    exact hPp.app hP1
  · rw [List.flatten_append]
    exact va_D.app hDp (hD1.weaken (fun i x _ h => hFc x.1 h)) (fun i j x y hx1 hy1 hxy => (hpre i x hx1).2 (by rw [hxy]; exact hD1.2 j y hy1))
end GA
