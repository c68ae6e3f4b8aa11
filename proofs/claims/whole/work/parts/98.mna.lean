/-! new int[8][40]: the cell of the rows with i of them in, a row, and the machine with i rows laid -/
def mn_o (cA : ClassId) (h i : Nat) : Cell := arrV cA 8 (fun j => va_rf (if j < i then some (h + 1 + j) else none))
def mn_i (cy : ClassId) : Cell := arrV cy 40 (fun _ => .int 0)
def mn_T (cA cy : ClassId) (T : State) : Nat → State
  | 0 => T.pushCell (mn_o cA T.heap.size 0)
  | i + 1 => ((mn_T cA cy T i).pushCell (mn_i cy)).setCell T.heap.size (mn_o cA T.heap.size (i + 1))
theorem mn_o_new (cA : ClassId) (h : Nat) : ({ cls := cA, slots := Array.replicate 8 .null, vm := .none } : Cell) = mn_o cA h 0 := arrV_new cA 8 .null
theorem mn_o_up (cA : ClassId) (h i : Nat) : (mn_o cA h i).setSlot i (.ref (h + 1 + i)) = mn_o cA h (i + 1) := by
  refine (arrV_store cA 8 i _ _).trans (congrArg (arrV cA 8) (funext fun j => ?_))
  show (if j = i then Value.ref (h + 1 + i) else va_rf (if j < i then some (h + 1 + j) else none)) = va_rf (if j < i + 1 then some (h + 1 + j) else none)
  rcases Nat.lt_trichotomy j i with q | q | q
  · rw [if_neg (by omega), if_pos q, if_pos (by omega)]
  · subst q
    rw [if_pos rfl, if_pos (by omega)]
    rfl
  · rw [if_neg (by omega), if_neg (by omega), if_neg (by omega)]
theorem mn_top (cA cy : ClassId) (T : State) (f : JFrame) (i : Nat) : mn_T cA cy (T.setTop f) i = (mn_T cA cy T i).setTop f := by
  induction i with
  | zero => rfl
  | succ i ih =>
    show ((mn_T cA cy (T.setTop f) i).pushCell _).setCell _ _ = _
    rw [ih, State.heap_setTop]
    rfl
section
variable {p : Program} {l : Launch} {e : Env} {R : Room} {s : State} {m : MethodId} {args : Array Value} {below : List Frame} {meth : Method} {c : Code} {T : State} {locs : List Loc} {cells slots : Nat}
/-- what is so when i rows are laid -/
def mn_At (p : Program) (l : Launch) (e : Env) (R : Room) (s : State) (m : MethodId) (args : Array Value) (below : List Frame) (meth : Method) (c : Code) (locs : List Loc) (cells slots : Nat) (cA cy : ClassId) (T U : State) (i : Nat) : Prop :=
  Stand p l e R s m args below meth c U locs (cells + 1 + i) (slots + 8 + i * 40) ∧ U.vm = T.vm ∧ U.heap.size = T.heap.size + 1 + i ∧ U.heap[T.heap.size]? = some (mn_o cA T.heap.size i) ∧ (∀ x, x < T.heap.size → U.heap[x]? = T.heap[x]?) ∧ ∀ j, j < i → U.heap[T.heap.size + 1 + j]? = some (mn_i cy)
theorem mn_at (X : Stand p l e R s m args below meth c T locs cells slots) (cA cy : ClassId) (i : Nat) : mn_At p l e R s m args below meth c locs cells slots cA cy T (mn_T cA cy T i) i := by
  induction i with
  | zero =>
    refine ⟨?_, rfl, ?_, State.heap_pushCell_size _ _, fun x hx => State.heap_pushCell_of_lt _ _ hx, fun j hj => absurd hj (Nat.not_lt_zero _)⟩
    · have h := X.pushed (mn_o cA T.heap.size 0)
      rw [show (mn_o cA T.heap.size 0).slots.size = 8 from arrV_size ..] at h
      exact h
    · simp [mn_T]
  | succ i ih =>
    obtain ⟨h1, h2, h3, h4, h5, h6⟩ := ih
    have g : ∀ x, x < T.heap.size + 1 + i → ((mn_T cA cy T i).pushCell (mn_i cy)).heap[x]? = (mn_T cA cy T i).heap[x]? := fun x hx => State.heap_pushCell_of_lt _ _ (by rw [h3]; exact hx)
    have g0 := (g T.heap.size (by omega)).trans h4
    refine ⟨?_, h2, ?_, State.heap_setCell_self g0, fun x hx => ?_, fun j hj => ?_⟩
    · have h := (h1.pushed (mn_i cy)).stored g0 i (.ref (T.heap.size + 1 + i))
      rw [mn_o_up, show (mn_i cy).slots.size = 40 from arrV_size ..] at h
      have h9 := h.dropFresh (fun x hx => by
        cases List.mem_singleton.mp hx
        exact X.heapGrown)
      rw [Nat.succ_mul]
      exact h9
    · show (((mn_T cA cy T i).pushCell (mn_i cy)).heap.setIfInBounds _ _).size = _
      simp [h3]
      omega
    · exact (State.heap_setCell_other (Nat.ne_of_gt hx)).trans ((g x (by omega)).trans (h5 x hx))
    · refine (State.heap_setCell_other (show T.heap.size ≠ T.heap.size + 1 + j by omega)).trans ?_
      rcases Nat.lt_or_ge j i with q | q
      · exact (g _ (by omega)).trans (h6 j q)
      · rw [show T.heap.size + 1 + j = (mn_T cA cy T i).heap.size by omega]
        exact State.heap_pushCell_size _ _
/-- one row more -/
theorem mn_row {E : CtlPost} {d : Bool} {acts : List Action} {cA cy cz : ClassId} {kA ky : Class} {i : Nat} {g : JFrame} (X : Stand p l e R s m args below meth c T locs cells slots) (hA : T.vm.classes[cA]? = some kA) (hAk : kA.kind = .array cy (.array .int)) (hy : T.vm.classes[cy]? = some ky) (hyk : ky.kind = .array cz .int) (hi : i < 8) (hc : cells + 9 ≤ R.cells) (hs : slots + 328 ≤ R.slots)
    {Q : ForInStep PUnit → Pre} (hq : ∀ d' acts', Q (.yield PUnit.unit) d' acts' ((mn_T cA cy T (i + 1)).setTop g)) :
    wp (do writeLoc T.heap.size i (.ref (← multianewarray.make cy [40])); Pure.pure (ForInStep.yield PUnit.unit)) Q E e d acts ((mn_T cA cy T i).setTop g) := by
  obtain ⟨Yo, Yv, Ys, Yu, -, -⟩ := mn_at X cA cy i
  have hv : ((mn_T cA cy T i).setTop g).vm = T.vm := Yv
  obtain ⟨r1, r2⟩ := Yo.roomAbove (a := 1) (b := 40) (by omega) (by omega)
  rw [multianewarray.make]
  simp only [wp_bind', Jvm.W.ite, show ¬ (40 : Int32) < 0 by decide, if_false, wp_pure', Jvm.W.theClass, hv, hy, hyk, Option.some.injEq, exists_eq_left']
  refine Jvm.W.newArray_of (by rw [hv]; exact hy) hyk (by rw [Launch.admits_arrayLengthLimit X.admits]; decide) (by rw [Launch.admits_maxHeapBytes X.admits]; decide) r1 r2 rfl (fun acts' => ?_)
  rw [show ({ cls := cy, slots := Array.replicate (40 : Int32).toNatClampNeg (defaultValue .int) } : Cell) = mn_i cy from arrV_new cy 40 (.int 0)]
  simp only [wp_bind', Jvm.W.writeLoc, wp_pure']
  refine ⟨mn_o cA T.heap.size i, ?_, ?_, ?_, ?_, ?_⟩
  · exact (State.heap_pushCell_of_lt _ _ (by have := Ys; show _ < (mn_T cA cy T i).heap.size; omega)).trans Yu
  · intro q
    cases q
  · rw [show (mn_o cA T.heap.size i).slots.size = 8 from arrV_size ..]
    exact hi
  · simp [State.fitsSlot, State.slotType?, mn_o, arrV, Yv, hA, hAk, fits]
  · rw [State.heap_setTop, Ys, mn_o_up]
    exact hq _ _
/-- the rows that are wanting -/
theorem mn_loop {E : CtlPost} {cA cy cz : ClassId} {kA ky : Class} {g : JFrame} (X : Stand p l e R s m args below meth c T locs cells slots) (hA : T.vm.classes[cA]? = some kA) (hAk : kA.kind = .array cy (.array .int)) (hy : T.vm.classes[cy]? = some ky) (hyk : ky.kind = .array cz .int) (hc : cells + 9 ≤ R.cells) (hs : slots + 328 ≤ R.slots)
    {Q : PUnit → Pre} (hq : ∀ d' acts', Q PUnit.unit d' acts' ((mn_T cA cy T 8).setTop g)) (k : Nat) : ∀ (i : Nat) (d : Bool) (acts : List Action), i + k = 8 →
    wp (forIn (List.range' i k) PUnit.unit (fun i _ => do writeLoc T.heap.size i (.ref (← multianewarray.make cy [40])); Pure.pure (ForInStep.yield PUnit.unit))) Q E e d acts ((mn_T cA cy T i).setTop g) := by
  induction k with
  | zero =>
    intro i d acts hi
    cases hi
    simp only [List.range'_zero, List.forIn_nil, wp_pure']
    exact hq d acts
  | succ k ih =>
    intro i d acts hi
    rw [List.range'_succ, List.forIn_cons, wp_bind']
    exact mn_row X hA hAk hy hyk (by omega) hc hs (fun d' acts' => ih (i + 1) d' acts' (by omega))
theorem mn_make {E : CtlPost} {d : Bool} {acts : List Action} {cA cy cz : ClassId} {kA ky : Class} {g : JFrame} (X : Stand p l e R s m args below meth c T locs cells slots) (hA : T.vm.classes[cA]? = some kA) (hAk : kA.kind = .array cy (.array .int)) (hy : T.vm.classes[cy]? = some ky) (hyk : ky.kind = .array cz .int) (hc : cells + 9 ≤ R.cells) (hs : slots + 328 ≤ R.slots)
    {Q : Addr → Pre} (hq : ∀ d' acts', Q T.heap.size d' acts' ((mn_T cA cy T 8).setTop g)) : wp (multianewarray.make cA [8, 40]) Q E e d acts (T.setTop g) := by
  obtain ⟨r1, r2⟩ := X.roomAbove (a := 1) (b := 8) (by omega) (by omega)
  rw [multianewarray.make]
  simp only [wp_bind', Jvm.W.ite, show ¬ (8 : Int32) < 0 by decide, if_false, wp_pure', Jvm.W.theClass, State.vm_setTop, hA, hAk, Option.some.injEq, exists_eq_left']
  refine Jvm.W.newArray_of (by rw [State.vm_setTop]; exact hA) hAk (by rw [Launch.admits_arrayLengthLimit X.admits]; decide) (by rw [Launch.admits_maxHeapBytes X.admits]; decide) r1 r2 rfl (fun acts' => ?_)
  rw [State.heap_setTop, show ({ cls := cA, slots := Array.replicate (8 : Int32).toNatClampNeg Value.null } : Cell) = mn_o cA T.heap.size 0 from mn_o_new ..]
  rw [show ([40].find? fun x : Int32 => decide (x < 0)) = none from rfl, show ((8 : Int32) == 0) = false from rfl, if_neg (by decide), Std.Legacy.Range.forIn_eq_forIn_range', wp_bind']
  exact mn_loop X hA hAk hy hyk hc hs hq 8 0 _ _ rfl
/-- the word 'a class of int[][] has been made': by the number of its component -/
theorem mn_over {a : Array Value} {s : State} {cy : ClassId} (h : (Cond.arrayOver (.array .int)).before a s = true) (hcy : s.vm.findClass (FieldType.array .int).toString = some cy) : ∃ (cA : ClassId) (kA : Class), s.vm.classes[cA]? = some kA ∧ kA.kind = .array cy (.array .int) ∧ s.vm.findClass ("[" ++ (FieldType.array .int).toString) = some cA := by
  simp only [Cond.before, Cond.holds, Cond.value, beq_iff_eq, hcy, Option.bind_some] at h
  obtain ⟨cA, h1, h2⟩ := Option.bind_eq_some_iff.mp h
  obtain ⟨kA, h3, h4⟩ := Option.map_eq_some_iff.mp h2
  obtain ⟨q, h5, -⟩ := Array.findIdx?_eq_some_iff_getElem.mp h1
  rw [(Array.getElem?_eq_some_iff.mp h3).2] at h5
  refine ⟨cA, kA, h3, ?_⟩
  generalize kA.kind = K at h4 h5 ⊢
  cases K <;> simp at h4 h5
  exact ⟨by rw [h5, h4.1], h4.2⟩
/-- **new int[8][40]**, where the walk stands -/
theorem mn_stands (X : Stand p l e R s m args below meth c T locs cells slots) (hexec : p.tables.exec = Jvm.exec) {own : String} {index : Nat} {cy : ClassId} (hown : s.vm.findClass own = some m.cls) (hlink : (Cond.classLink own index ("[" ++ (FieldType.array FieldType.int).toString)).before args s = true) (hover : (Cond.arrayOver (.array .int)).before #[] s = true) (harr : (Cond.arrayClass .int).before args s = true) (hcy : s.vm.findClass (FieldType.array FieldType.int).toString = some cy)
    (hc : cells + 9 ≤ R.cells) (hs : slots + 328 ≤ R.slots) {g : JFrame} (hg : g.method = m) (hd : decode c.code g.pc = .ok (.multianewarray index 2, 4)) {rest : List Value} (hst : g.stack = .int 40 :: .int 8 :: rest) :
    ∃ (vm : Vm) (cA : ClassId) (kA : Class), s.WarmedH vm ∧ s.vm.findClass ("[" ++ (FieldType.array .int).toString) = some cA ∧ s.vm.classes[cA]? = some kA ∧ kA.kind = .array cy (.array .int) ∧ mn_At p l e R s m args below meth c locs cells slots cA cy (T.setVm vm) (mn_T cA cy (T.setVm vm) 8) 8 ∧
      ∀ t, Steps p.tables e below ((mn_T cA cy (T.setVm vm) 8).setTop { g with pc := g.pc + 4, stack := .ref T.heap.size :: rest }) t → Steps p.tables e below (T.setTop g) t := by
  subst hg
  obtain ⟨cA, kA, hA, hAk, hAn⟩ := mn_over hover hcy
  obtain ⟨c1, ky, cz, h1, hy, hyk⟩ := Cond.arrayClass_spec harr
  cases h1.symm.trans hcy
  obtain ⟨c2, h2, hl⟩ := Cond.classLink_spec hown hlink e.platform (by rw [X.admits.platform])
  cases h2.symm.trans hAn
  obtain ⟨n1, n2, n3⟩ := State.classEntry (e := e) X.warmed hl
  generalize T.vm.noted g.method.cls index (.cls cA) = vm at n1 n2 n3
  obtain ⟨kA', hA', eA⟩ := n2.alike.2.2 _ _ hA
  obtain ⟨ky', hy', ey⟩ := n2.alike.2.2 _ _ hy
  have hAk' : kA'.kind = .array cy (.array .int) := by rw [eA]; exact hAk
  have hyk' : ky'.kind = .array cz .int := by rw [ey]; exact hyk
  have Y := X.noted n2
  have Z := mn_at Y cA cy 8
  refine ⟨vm, cA, kA, n2, hAn, hA, hAk, Z, fun t ht => ?_⟩
  jvm_step X.here [hexec, hd]
  rw [multianewarray.sem, wp_bind', Jvm.W.resolveClassAt_links (State.method?_setTop g X.here.top) n1]
  rw [wp_bind', show ((T.setTop g).setVm vm) = (T.setVm vm).setTop g from rfl]
  refine (Op.popN_top (args := [.int 8, .int 40]) (rest := rest) Y.here.top hst).mpr ?_
  simp only [List.mapM_cons, List.mapM_nil, wp_bind', wp_pure']
  refine mn_make Y hA' hAk' hy' hyk' hc hs (fun d' acts' => ?_)
  simp only [wp_bind', Jvm.W.mark, Jvm.W.pushRef, State.topJava?_setTop' _ Z.1.here.top, Option.some.injEq, exists_eq_left', State.setTop_setTop]
  intro acts9
  simp [jvm, Z.1.here.top]
  exact ht
end
/-- rows behind all that was there: addresses still apart -/
theorem mn_D {A : Nat → Prop} {B rows : va_W} {h : Nat} (hB : va_D A B) (hle : ∀ (k : Nat) (x : Nat × va_E), B[k]? = some x → x.1 ≤ h) (hr : ∀ (k : Nat) (x : Nat × va_E), rows[k]? = some x → x.1 = h + 1 + k) (hA : ∀ q, h ≤ q → A q) : va_D A (B ++ rows) := by
  have sp : ∀ (k : Nat) (x : Nat × va_E), (B ++ rows)[k]? = some x → (B[k]? = some x ∧ k < B.length) ∨ (x.1 = h + 1 + (k - B.length) ∧ B.length ≤ k) := fun k x hx => by
    rcases Nat.lt_or_ge k B.length with q | q
    · rw [List.getElem?_append_left q] at hx
      exact .inl ⟨hx, q⟩
    · rw [List.getElem?_append_right q] at hx
      exact .inr ⟨hr _ x hx, q⟩
  refine ⟨fun i j x y hi hj hxy => ?_, fun k x hx => ?_⟩
  · rcases sp i x hi with ⟨a1, b1⟩ | ⟨a1, b1⟩ <;> rcases sp j y hj with ⟨a2, b2⟩ | ⟨a2, b2⟩
    · exact hB.1 i j x y a1 a2 hxy
    · have := hle i x a1
      omega
    · have := hle j y a2
      omega
    · omega
  · rcases sp k x hx with ⟨a1, -⟩ | ⟨a1, -⟩
    · exact hB.2 k x a1
    · exact hA _ (by omega)
theorem v_mna : VMna := by
  intro p l e R s m args below meth c H locs cells slots Q pc ls rest D cl A tys H0 X cc own index cy hexec hb hown hlink hover harr hcy hK hP hD hS hA hc hs hd kk
  intro T hT Xs
  obtain ⟨vm, cA, kA, -, hAn, hkA, hAk, Z, st⟩ := mn_stands Xs hexec hown hlink hover harr hcy hc hs (g := F0 m pc ls (.int 40 :: .int 8 :: rest)) rfl (by rw [hb]; exact hd) rfl
  have hTh : (T.setVm vm).heap = H := hT
  generalize mn_T cA cy (T.setVm vm) 8 = U at Z st
  obtain ⟨z1, -, z3, z4, z5, z6⟩ := Z
  rw [hTh] at z3 z4 z5 z6
  rw [show cells + 1 + 8 = cells + 9 by omega, show slots + 8 + 8 * 40 = slots + 328 by omega] at z1
  have hP1 : va_P D cl (X ++ [(H.size, .inl (cA, 8, .inr (.inr (.inr (.inr (fun i => if i < 8 then some (H.size + 1 + i) else none))))))]) U.heap := (hP.kept (fun k x hx => z5 x.1 ((hP k x hx).lt))).app (fun k x hx => by
    cases k with
    | zero =>
      cases hx
      exact z4
    | succ k => cases hx)
  have hrow : ∀ (k : Nat) (x : Nat × va_E), ((List.range 8).map (fun i => ((H.size + 1 + i, .inl (cy, 40, .inl (fun _ => 0))) : Nat × va_E)))[k]? = some x → k < 8 ∧ x = (H.size + 1 + k, .inl (cy, 40, .inl (fun _ => 0))) := fun k x hx => by
    rw [List.getElem?_map] at hx
    obtain ⟨i, h1, h2⟩ := Option.map_eq_some_iff.mp hx
    obtain ⟨h3, h4⟩ := List.getElem?_eq_some_iff.mp h1
    rw [List.getElem_range] at h4
    subst h4
    exact ⟨by simpa using h3, h2.symm⟩
  have hP2 := hP1.app (fun k x hx => by
    obtain ⟨h1, h2⟩ := hrow k x hx
    subst h2
    exact z6 k h1)
  have hD1 := hD.push (e := .inl (cA, 8, .inr (.inr (.inr (.inr (fun i => if i < 8 then some (H.size + 1 + i) else none)))))) hP rfl (hA _ hS.1)
  have hle : ∀ (k : Nat) (x : Nat × va_E), (X ++ [((H.size, .inl (cA, 8, .inr (.inr (.inr (.inr (fun i => if i < 8 then some (H.size + 1 + i) else none)))))) : Nat × va_E)])[k]? = some x → x.1 ≤ H.size := fun k x hx => by
    rcases List.mem_append.mp (List.mem_of_getElem? hx) with q | q
    · obtain ⟨k9, hk9⟩ := List.mem_iff_getElem?.mp q
      exact Nat.le_of_lt ((hP k9 x hk9).lt)
    · cases List.mem_singleton.mp q
      exact Nat.le_refl _
  have hD2 := mn_D hD1 hle (fun k x hx => by rw [(hrow k x hx).2]) (fun q hq => hA q (Nat.le_trans hS.1 hq))
  have hK2 : va_K D cl (tys ++ [(cA, .array .int)]) s := ⟨hK.1, fun k x hx => by
    rcases List.mem_append.mp (List.mem_of_getElem? hx) with q | q
    · obtain ⟨k9, hk9⟩ := List.mem_iff_getElem?.mp q
      exact hK.2 k9 x hk9
    · cases List.mem_singleton.mp q
      exact ⟨fun N9 z9 => ⟨(fun q hq => by cases hq), kA, hkA, cy, hAk⟩, hAn⟩⟩
  obtain ⟨t, a1, b1⟩ := kk H.size (fun i => H.size + 1 + i) cA U.heap hK2 hP2 hD2 ⟨by rw [z3]; have := hS.1; omega, fun x h1 h2 => (z5 x (Nat.lt_of_lt_of_le h1 hS.1)).trans (hS.2.1 x h1 h2), hS.2.2⟩ U rfl z1
  refine ⟨t, st t ?_, b1⟩
  rw [show T.heap.size = H.size by rw [hT]]
  exact a1
