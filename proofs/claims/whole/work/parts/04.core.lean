/-! CORE: worlds as lists of components, and rows of the machine over them -/
abbrev SV : Type := Nat → Nat → Int32
def upA (v : SV) (k : Nat) (f : Nat → Int32) : SV := fun a => if a = k then f else v a
def up2 (v : SV) (k j : Nat) (x : Int32) : SV := upA v k (upd (v k) j x)
def rm (d : Nat) : Room := { frames := d, cells := 0, slots := 0, locals := 40 * d }
def tysOf (t : Nat → ClassId) : List (ClassId × FieldType) := [(t 0, .int), (t 1, .boolean), (t 2, .object "RabbitList$Stage"), (t 3, .array .int)]
abbrev Cx : Type := Program × Launch × Env × Room × State × MethodId × Array Value × List Frame × Method × Code × va_G × (Nat → Prop) × Nat × Nat × (State → Prop)
def tWider (j : Nat) : Int32 := match j with | 0 => -1 | 1 => 0 | 2 => 1 | 3 => 1 | 4 => 0 | _ => 4
def tSizeB (j : Nat) : Int32 := match j with | 0 => 10 | 1 => 11 | 2 => 12 | 3 => 11 | 4 => 13 | _ => 14
def tMarkB (j : Nat) : Int32 := match j with | 0 => 20 | 1 => 21 | 2 => 24 | 3 => 22 | 4 => 23 | _ => 23
def tSorts (j : Nat) : Int32 := match j with | 0 => 112 | 1 => 98 | 2 => 102 | 3 => 108 | _ => 104
theorem aoa_spec {u : State} {A : Array Value} (h : (Cond.arrayOver (.array .int)).before A u = true) : ∃ (comp c : ClassId) (k : Class), u.vm.findClass (FieldType.array FieldType.int).toString = some comp ∧ (u.vm.classes.findIdx? fun (x : Class) => match x.kind with | .array component _ => component == comp | _ => false) = some c ∧ u.vm.classes[c]? = some k ∧ k.kind = .array comp (.array .int) ∧ u.vm.findClass ("[" ++ (FieldType.array FieldType.int).toString) = some c := by
  simp only [Cond.before, Cond.holds, Cond.value, beq_iff_eq] at h
  cases hc : u.vm.findClass (FieldType.array FieldType.int).toString with
  | none => simp [hc] at h
  | some comp =>
    simp only [hc, Option.bind_some, Option.bind_eq_some_iff, Option.map_eq_some_iff] at h
    obtain ⟨c, hi, k, hk, hb⟩ := h
    have hi2 := hi
    rw [Array.findIdx?_eq_some_iff_getElem] at hi2
    obtain ⟨hlt, hp, -⟩ := hi2
    have hkk : u.vm.classes[c] = k := by
      rw [Array.getElem?_eq_getElem hlt] at hk
      exact Option.some.inj hk
    rw [hkk] at hp
    cases hkind : k.kind with
    | array cmp ty =>
      simp only [hkind, beq_iff_eq] at hp
      simp only [hkind, Bool.and_eq_true, decide_eq_true_eq] at hb
      exact ⟨comp, c, k, rfl, hi, hk, by rw [hkind, hp, hb.1], hb.2⟩
    | _ => simp [hkind] at hp
theorem aoa_moved {u U : State} {A : Array Value} (hvm : u.vm.Alike U.vm) (h : (Cond.arrayOver (.array .int)).before A u = true) : (Cond.arrayOver (.array .int)).before A U = true := by
  obtain ⟨comp, c, k, h1, h2, h3, h4, h5⟩ := aoa_spec h
  obtain ⟨k', hk', he⟩ := hvm.2.2 _ _ h3
  have hi : (U.vm.classes.findIdx? fun (x : Class) => match x.kind with | .array component _ => component == comp | _ => false) = some c := by
    have e0 := va_idx_bare U.vm comp
    have e1 := va_idx_bare u.vm comp
    first | rw [hvm.bare_eq] at e1 | rw [← hvm.bare_eq] at e1
    exact (e0.symm.trans e1).trans h2
  have hkind : k'.kind = .array comp (.array .int) := by rw [he]; exact h4
  have f1 : U.vm.findClass (FieldType.array FieldType.int).toString = some comp := by rw [hvm.findClass]; exact h1
  have f2 : U.vm.findClass ("[" ++ (FieldType.array FieldType.int).toString) = some c := by rw [hvm.findClass]; exact h5
  unfold Cond.before Cond.holds
  simp only [Cond.value]
  rw [f1, Option.bind_some]
  refine (congrArg (fun o : Option Nat => (o.bind (fun c => (U.vm.classes[c]?).map fun (k : Class) => match k.kind with | .array _ ty => decide (ty = FieldType.array FieldType.int) && decide (U.vm.findClass ("[" ++ (FieldType.array FieldType.int).toString) = some c) | _ => false) == some true)) hi).trans ?_
  simp [hk', hkind, f2]
/-- what the start says of the statics: three rows, one text; t 10 .. t 14 are their addresses -/
def Stat (t : Nat → ClassId) (A : Nat → Prop) (U : State) (H : Heap) : Prop :=
  va_Z "RabbitList$Asker" "WIDER" "[I" (.ref (t 10)) A U H ∧ va_T .int (t 10) 6 (fun j => .int (tWider j)) A U H ∧
  va_Z "RabbitList$Asker" "SIZE_BODIES" "[I" (.ref (t 11)) A U H ∧ va_T .int (t 11) 6 (fun j => .int (tSizeB j)) A U H ∧
  va_Z "RabbitList$Asker" "MARK_BODIES" "[I" (.ref (t 12)) A U H ∧ va_T .int (t 12) 6 (fun j => .int (tMarkB j)) A U H ∧
  vk_R "RabbitList$Tape" 79 "pbflh" (t 13) U ∧ va_O "java/lang/String" (t 13) A U H ∧ va_OF "java/lang/String" "coder" "B" (.int 0) (t 13) A U H ∧
  va_OF "java/lang/String" "value" "[B" (.ref (t 14)) (t 13) A U H ∧ va_T .byte (t 14) 5 (fun j => .int (tSorts j)) A U H ∧ va_Z "java/lang/String" "COMPACT_STRINGS" "Z" (.int 1) A U H ∧ va_AO "RabbitList$Stage" U ∧ (Cond.arrayOver (.array .int)).before #[] U = true
theorem Stat.at {t : Nat → ClassId} {A B : Nat → Prop} {s U : State} {H0 H : Heap} (h : Stat t A s H0) (hW : s.WarmedH U.vm) (hq : ∀ a : Nat, a < H0.size → ¬ A a → H[a]? = H0[a]?) (hAB : ∀ q, B q → A q) : Stat t B U H := by
  obtain ⟨h1, h2, h3, h4, h5, h6, h7, h8, h9, h10, h11, h12, h13, h14⟩ := h
  exact ⟨((h1.kept hq).narrow hAB).moved hW.alike, ((h2.kept hq).narrow hAB).moved hW.alike, ((h3.kept hq).narrow hAB).moved hW.alike, ((h4.kept hq).narrow hAB).moved hW.alike, ((h5.kept hq).narrow hAB).moved hW.alike, ((h6.kept hq).narrow hAB).moved hW.alike, h7.warm hW, ((h8.kept hq).narrow hAB).moved hW.alike, ((h9.kept hq).narrow hAB).moved hW.alike, ((h10.kept hq).narrow hAB).moved hW.alike, ((h11.kept hq).narrow hAB).moved hW.alike, ((h12.kept hq).narrow hAB).moved hW.alike, h13.moved hW.alike, aoa_moved hW.alike h14⟩
theorem Stat.blind {t : Nat → ClassId} {A : Nat → Prop} {U : State} (g : JFrame) (mk : MethodId) (a : Array Value) (h : Stat t A U U.heap) : Stat t A (U.calling g mk a) (U.calling g mk a).heap := by
  obtain ⟨h1, h2, h3, h4, h5, h6, h7, h8, h9, h10, h11, h12, h13, h14⟩ := h
  have r : U.vm.Alike (U.calling g mk a).vm := Vm.Alike.refl U.vm
  exact ⟨h1.moved r, h2.moved r, h3.moved r, h4.moved r, h5.moved r, h6.moved r, h7.same rfl, h8.moved r, h9.moved r, h10.moved r, h11.moved r, h12.moved r, h13.moved r, aoa_moved r h14⟩
def gX (X : Cx) (t : Nat → ClassId) (R : Room) (cc : ByteArray) (nL : Nat) (own : String) : Prop := match X with
  | (p, _, _, R0, s, m, args, _, _, c, D, A, cells, slots, _) => R0 = R ∧ p.tables.exec = Jvm.exec ∧ c.code = cc ∧ c.maxLocals = nL ∧ s.vm.findClass own = some m.cls ∧ (cells ≤ R0.cells ∧ slots ≤ R0.slots) ∧ (∀ w ∈ WS, w.before args s = true) ∧ va_K D vwCl (tysOf t) s ∧ (∀ q : Nat, s.heap.size ≤ q → A q) ∧ Stat t A s s.heap
def G (X : Cx) (cs : List va_W) (pc : Nat) (lv : List (Nat × Value)) (st : List Value) : Prop := match X with
  | (p, l, e, R, s, m, args, below, meth, c, D, A, cells, slots, Q) => ∀ (H : Heap) (locs : List Loc) (ls : Array Slot), va_P D vwCl cs.flatten H → va_D A cs.flatten → va_S A s.heap H locs → lv_has ls c.maxLocals lv → W p l e R s m args below meth c H locs cells slots Q (F0 m pc ls st)
-- options as the pure side of the walk
def chk {β : Type} (n : Nat) (i : Int32) (o : Option β) : Option β := if i < 0 ∨ n ≤ i.toNatClampNeg then none else o
def nz {β : Type} (y : Int32) (o : Option β) : Option β := if y = 0 then none else o
def nzl {β : Type} (y : Int64) (o : Option β) : Option β := if y = 0 then none else o
def zr {β : Type} (x : Int32) (o : Option β) : Option β := if x = 0 ∨ x = 1 then o else none
def jn {α β : Type} (f : α) (k : α → β) : β := k f
theorem chk_some {β : Type} {n : Nat} {i : Int32} {o : Option β} {r : β} (h : chk n i o = some r) : vp_in i n ∧ o = some r := by
  unfold chk at h
  split at h
  · cases h
  · exact ⟨by assumption, h⟩
theorem chk_lt {β : Type} {n : Nat} {i : Int32} {o : Option β} {r : β} (h : chk n i o = some r) : i.toNatClampNeg < n := Nat.not_le.mp fun q => (chk_some h).1 (Or.inr q)
theorem nz_some {β : Type} {y : Int32} {o : Option β} {r : β} (h : nz y o = some r) : ¬ y = 0 ∧ o = some r := by
  unfold nz at h
  split at h
  · cases h
  · exact ⟨by assumption, h⟩
theorem nzl_some {β : Type} {y : Int64} {o : Option β} {r : β} (h : nzl y o = some r) : ¬ y = 0 ∧ o = some r := by
  unfold nzl at h
  split at h
  · cases h
  · exact ⟨by assumption, h⟩
theorem zr_some {β : Type} {x : Int32} {o : Option β} {r : β} (h : zr x o = some r) : (x = 0 ∨ x = 1) ∧ o = some r := by
  unfold zr at h
  split at h
  · exact ⟨by assumption, h⟩
  · cases h
theorem bind_some' {α β : Type} {o : Option α} {K : α → Option β} {r : β} (h : o.bind K = some r) : ∃ q, o = some q ∧ K q = some r := by
  cases o with
  | none => cases h
  | some q => exact ⟨q, rfl, h⟩
-- places of a component's cell in the flat world
theorem fl_get : ∀ {cs : List va_W} {i j : Nat} {w : va_W} {x : Nat × va_E}, cs[i]? = some w → w[j]? = some x → ∃ k, cs.flatten[k]? = some x ∧ ∀ x', cs.flatten.set k x' = (cs.set i (w.set j x')).flatten
  | [], i, j, w, x, h, _ => by simp at h
  | u :: cs, 0, j, w, x, h, hx => by
    simp at h
    subst h
    have hj : j < u.length := (List.getElem?_eq_some_iff.mp hx).1
    refine ⟨j, ?_, fun x' => ?_⟩
    · rw [List.flatten_cons, List.getElem?_append_left hj]; exact hx
    · rw [List.flatten_cons, List.set_append_left _ _ hj]; rfl
  | u :: cs, i + 1, j, w, x, h, hx => by
    obtain ⟨k, h1, h2⟩ := fl_get (cs := cs) (i := i) (j := j) (w := w) (x := x) (by simpa using h) hx
    refine ⟨u.length + k, ?_, fun x' => ?_⟩
    · rw [List.flatten_cons, List.getElem?_append_right (by omega)]
      rw [show u.length + k - u.length = k by omega]; exact h1
    · rw [List.flatten_cons, List.set_append_right _ _ (by omega), show u.length + k - u.length = k by omega, h2 x']; rfl
theorem va_P_iff {D : va_G} {cl : List vw_C} {ws : va_W} {H : Heap} : va_P D cl ws H ↔ ∀ x ∈ ws, va_at D cl x H := by
  constructor
  · intro h x hx
    obtain ⟨i, hi⟩ := List.getElem?_of_mem hx
    exact h i x hi
  · intro h k q hk
    exact h q (List.mem_of_getElem? hk)
def ads (cs : List va_W) : List (List Nat) := cs.map (fun w => w.map Prod.fst)
theorem ads_flat (cs : List va_W) : (cs.flatten).map Prod.fst = (ads cs).flatten := by
  induction cs with
  | nil => rfl
  | cons u cs ih => simp only [List.flatten_cons, List.map_append, ads, List.map_cons] at ih ⊢; rw [ih]
/-- apartness is a matter of the addresses alone -/
theorem va_D_ads {A : Nat → Prop} {w1 w2 : va_W} (h : w1.map Prod.fst = w2.map Prod.fst) (hD : va_D A w1) : va_D A w2 := by
  have key : ∀ (k : Nat) (q : Nat × va_E), w2[k]? = some q → ∃ q0, w1[k]? = some q0 ∧ q0.1 = q.1 := by
    intro k q hk
    have h1 : (w2.map Prod.fst)[k]? = some q.1 := by rw [List.getElem?_map, hk]; rfl
    rw [← h, List.getElem?_map] at h1
    cases hq : w1[k]? with
    | none => rw [hq] at h1; cases h1
    | some q0 => rw [hq] at h1; exact ⟨q0, rfl, Option.some.inj h1⟩
  refine ⟨fun i j x y hi hj hxy => ?_, fun k q hk => ?_⟩
  · obtain ⟨x0, h1, h2⟩ := key i x hi
    obtain ⟨y0, h3, h4⟩ := key j y hj
    exact hD.1 i j x0 y0 h1 h3 (h2.trans (hxy.trans h4.symm))
  · obtain ⟨q0, h1, h2⟩ := key k q hk
    rw [← h2]
    exact hD.2 k q0 h1
/-- two cells of one address lie in one component -/
theorem fl_one : ∀ {A : Nat → Prop} {cs : List va_W} {i j : Nat} {w u : va_W} {x y : Nat × va_E}, va_D A cs.flatten → cs[i]? = some w → cs[j]? = some u → x ∈ w → y ∈ u → x.1 = y.1 → i = j := by
  intro A cs
  induction cs with
  | nil => intro i j w u x y _ h; simp at h
  | cons z cs ih =>
    intro i j w u x y hD h1 h2 hx hy e
    have tail : va_D A cs.flatten := by
      refine ⟨fun a b p q ha hb hpq => ?_, fun a q ha => ?_⟩
      · have := hD.1 (z.length + a) (z.length + b) p q (by rw [List.flatten_cons, List.getElem?_append_right (by omega), show z.length + a - z.length = a by omega]; exact ha) (by rw [List.flatten_cons, List.getElem?_append_right (by omega), show z.length + b - z.length = b by omega]; exact hb) hpq
        omega
      · exact hD.2 (z.length + a) q (by rw [List.flatten_cons, List.getElem?_append_right (by omega), show z.length + a - z.length = a by omega]; exact ha)
    have cross : ∀ (x y : Nat × va_E) (k : Nat) (v : va_W), x ∈ z → cs[k]? = some v → y ∈ v → x.1 = y.1 → False := by
      intro x y k v hx hv hy e
      obtain ⟨a, ha⟩ := List.getElem?_of_mem hx
      obtain ⟨b, hb⟩ := List.getElem?_of_mem hy
      obtain ⟨q, hq, -⟩ := fl_get hv hb
      have hl := (List.getElem?_eq_some_iff.mp ha).1
      have := hD.1 a (z.length + q) x y (by rw [List.flatten_cons, List.getElem?_append_left hl]; exact ha) (by rw [List.flatten_cons, List.getElem?_append_right (by omega), show z.length + q - z.length = q by omega]; exact hq) e
      omega
    cases i with
    | zero =>
      cases j with
      | zero => rfl
      | succ j =>
        simp at h1 h2
        subst h1
        exact absurd e (fun e => cross x y j u hx h2 hy e)
    | succ i =>
      simp at h1
      cases j with
      | zero =>
        simp at h2
        subst h2
        exact absurd e.symm (fun e => cross y x i w hy h1 hx e)
      | succ j =>
        simp at h2
        rw [ih tail h1 h2 hx hy e]
def putAt : List Nat → List va_W → List va_W → List va_W
  | j :: J, w :: ws, cs => putAt J ws (cs.set j w)
  | _, _, cs => cs
theorem putAt_get : ∀ (J : List Nat) (ws cs : List va_W) (i : Nat) (w : va_W), J.length = ws.length → (putAt J ws cs)[i]? = some w → w ∈ ws ∨ (i ∉ J ∧ cs[i]? = some w)
  | [], [], cs, i, w, _, h => Or.inr ⟨by simp, h⟩
  | [], _ :: _, cs, i, w, hl, h => by simp at hl
  | _ :: _, [], cs, i, w, hl, h => by simp at hl
  | j :: J, u :: ws, cs, i, w, hl, h => by
    rcases putAt_get J ws (cs.set j u) i w (by simpa using hl) h with h1 | ⟨h1, h2⟩
    · exact Or.inl (List.mem_cons_of_mem _ h1)
    · by_cases e : j = i
      · subst e
        by_cases hj : j < cs.length
        · rw [List.getElem?_set_self hj] at h2
          cases h2
          exact Or.inl List.mem_cons_self
        · rw [List.getElem?_eq_none (by rw [List.length_set]; omega)] at h2
          cases h2
      · rw [List.getElem?_set_ne e] at h2
        refine Or.inr ⟨fun hm => ?_, h2⟩
        rcases List.mem_cons.mp hm with rfl | hm
        · exact e rfl
        · exact h1 hm
theorem putAt_ads : ∀ (J : List Nat) (ws cs : List va_W), (∀ (k j : Nat) (u : va_W), J[k]? = some j → ws[k]? = some u → (ads cs)[j]? = some (u.map Prod.fst)) → ads (putAt J ws cs) = ads cs
  | [], ws, cs, _ => by cases ws <;> rfl
  | j :: J, [], cs, _ => rfl
  | j :: J, u :: ws, cs, h => by
    have e : ads (cs.set j u) = ads cs := by
      have h0 := h 0 j u rfl rfl
      unfold ads at h0 ⊢
      rw [List.map_set]
      apply List.ext_getElem?
      intro i
      by_cases hij : j = i
      · subst hij
        rw [List.getElem?_set_self (List.getElem?_eq_some_iff.mp h0).1, h0]
      · rw [List.getElem?_set_ne hij]
    show ads (putAt J ws (cs.set j u)) = ads cs
    rw [putAt_ads J ws (cs.set j u) (fun k j' u' h1 h2 => by rw [e]; exact h (k + 1) j' u' h1 h2), e]
theorem cut_get {J : List Nat} {cs cs0 : List va_W} (hJ : J.map (fun i => cs[i]?) = cs0.map some) {k : Nat} {w : va_W} (h : cs0[k]? = some w) : ∃ j, J[k]? = some j ∧ cs[j]? = some w := by
  have h1 : (J.map (fun i => cs[i]?))[k]? = some (some w) := by rw [hJ, List.getElem?_map, h]; rfl
  rw [List.getElem?_map] at h1
  cases hi : J[k]? with
  | none => rw [hi] at h1; cases h1
  | some j => rw [hi] at h1; exact ⟨j, rfl, Option.some.inj h1⟩
theorem cut_P {D : va_G} {cl : List vw_C} {J : List Nat} {cs cs0 : List va_W} {H : Heap} (hJ : J.map (fun i => cs[i]?) = cs0.map some) (hP : va_P D cl cs.flatten H) : va_P D cl cs0.flatten H := by
  rw [va_P_iff] at hP ⊢
  intro x hx
  obtain ⟨w, hw, hx⟩ := List.mem_flatten.mp hx
  obtain ⟨k, hk⟩ := List.getElem?_of_mem hw
  obtain ⟨j, -, hj⟩ := cut_get hJ hk
  exact hP x (List.mem_flatten.mpr ⟨w, List.mem_of_getElem? hj, hx⟩)
theorem mem_fl {cs : List va_W} {k : Nat} {q : Nat × va_E} : ∀ (_ : cs.flatten[k]? = some q), ∃ (i j : Nat) (w : va_W), cs[i]? = some w ∧ w[j]? = some q := by
  intro h
  obtain ⟨w, hw, hq⟩ := List.mem_flatten.mp (List.mem_of_getElem? h)
  obtain ⟨i, hi⟩ := List.getElem?_of_mem hw
  obtain ⟨j, hj⟩ := List.getElem?_of_mem hq
  exact ⟨i, j, w, hi, hj⟩
/-- a place of the flat world told by component and cell -/
theorem fl_split : ∀ {cs : List va_W} {k : Nat} {q : Nat × va_E}, cs.flatten[k]? = some q → ∃ (i j : Nat) (w : va_W), cs[i]? = some w ∧ w[j]? = some q ∧ k = ((cs.take i).flatten).length + j
  | [], k, q, h => by simp at h
  | u :: cs, k, q, h => by
    by_cases hl : k < u.length
    · rw [List.flatten_cons, List.getElem?_append_left hl] at h
      exact ⟨0, k, u, rfl, h, by simp⟩
    · rw [List.flatten_cons, List.getElem?_append_right (by omega)] at h
      obtain ⟨i, j, w, h1, h2, h3⟩ := fl_split h
      refine ⟨i + 1, j, w, by simpa using h1, h2, ?_⟩
      rw [List.take_succ_cons, List.flatten_cons, List.length_append]
      omega
theorem cut_D {A : Nat → Prop} {J : List Nat} {cs cs0 : List va_W} (hn : va_nd J = true) (hJ : J.map (fun i => cs[i]?) = cs0.map some) (hD : va_D A cs.flatten) : va_D A cs0.flatten := by
  refine ⟨fun a b x y ha hb hxy => ?_, fun a x ha => ?_⟩
  · obtain ⟨i, j, w, h1, h2, h3⟩ := fl_split ha
    obtain ⟨i', j', w', h1', h2', h3'⟩ := fl_split hb
    obtain ⟨p, hp, hp2⟩ := cut_get hJ h1
    obtain ⟨p', hp', hp2'⟩ := cut_get hJ h1'
    have e := fl_one hD hp2 hp2' (List.mem_of_getElem? h2) (List.mem_of_getElem? h2') hxy
    subst e
    have ei := va_nd_inj J hn i i' p hp hp'
    subst ei
    cases h1.symm.trans h1'
    obtain ⟨k, hk, -⟩ := fl_get hp2 h2
    have ej : j = j' := by
      -- within one component
      have inj : ∀ {cs : List va_W} {i : Nat} {w : va_W} {j j' : Nat} {x y : Nat × va_E}, va_D A cs.flatten → cs[i]? = some w → w[j]? = some x → w[j']? = some y → x.1 = y.1 → j = j' := by
        intro cs
        induction cs with
        | nil => intro i w j j' x y _ h; simp at h
        | cons z cs ih =>
          intro i w j j' x y hD h hj hj' e
          cases i with
          | zero =>
            simp at h
            subst h
            have l1 := (List.getElem?_eq_some_iff.mp hj).1
            have l2 := (List.getElem?_eq_some_iff.mp hj').1
            exact hD.1 j j' x y (by rw [List.flatten_cons, List.getElem?_append_left l1]; exact hj) (by rw [List.flatten_cons, List.getElem?_append_left l2]; exact hj') e
          | succ i =>
            refine ih (i := i) (w := w) ?_ (by simpa using h) hj hj' e
            refine ⟨fun a b p q ha hb hpq => ?_, fun a q ha => ?_⟩
            · have := hD.1 (z.length + a) (z.length + b) p q (by rw [List.flatten_cons, List.getElem?_append_right (by omega), show z.length + a - z.length = a by omega]; exact ha) (by rw [List.flatten_cons, List.getElem?_append_right (by omega), show z.length + b - z.length = b by omega]; exact hb) hpq
              omega
            · exact hD.2 (z.length + a) q (by rw [List.flatten_cons, List.getElem?_append_right (by omega), show z.length + a - z.length = a by omega]; exact ha)
      exact inj hD hp2 h2 h2' hxy
    omega
  · obtain ⟨i, j, w, h1, h2⟩ := mem_fl ha
    obtain ⟨p, -, hp⟩ := cut_get hJ h1
    obtain ⟨k, hk, -⟩ := fl_get hp h2
    exact hD.2 k x hk
theorem cut_A {A : Nat → Prop} {J : List Nat} {cs cs0 : List va_W} {sz H0 : Nat} (hJ : J.map (fun i => cs[i]?) = cs0.map some) (hD : va_D A cs.flatten) (hA : ∀ q : Nat, H0 ≤ q → A q) (hs : H0 ≤ sz) : ∀ q, va_A cs0.flatten sz q → A q := by
  intro q h
  rcases h with ⟨k, e, h⟩ | h
  · obtain ⟨i, j, w, h1, h2⟩ := mem_fl h
    obtain ⟨p, -, hp⟩ := cut_get hJ h1
    obtain ⟨k', hk', -⟩ := fl_get hp h2
    exact hD.2 k' (q, e) hk'
  · exact hA q (Nat.le_trans hs h)
/-- behind a call: the callee's components come back to their places -/
theorem cut_join {A : Nat → Prop} {D : va_G} {cl : List vw_C} {J : List Nat} {cs cs0 cs1 : List va_W} {H H1 : Heap} (hP : va_P D cl cs.flatten H) (hD : va_D A cs.flatten) (hJ : J.map (fun i => cs[i]?) = cs0.map some) (ha : ads cs1 = ads cs0)
    (hk : ∀ q : Nat, q < H.size → ¬ va_A cs0.flatten H.size q → H1[q]? = H[q]?) (hP1 : va_P D cl cs1.flatten H1) : va_P D cl (putAt J cs1 cs).flatten H1 ∧ va_D A (putAt J cs1 cs).flatten := by
  have hl0 : J.length = cs0.length := by have := congrArg List.length hJ; simpa using this
  have hl1 : cs1.length = cs0.length := by have := congrArg List.length ha; simpa [ads] using this
  constructor
  · rw [va_P_iff] at hP1 ⊢
    intro x hx
    obtain ⟨w, hw, hx⟩ := List.mem_flatten.mp hx
    obtain ⟨i, hi⟩ := List.getElem?_of_mem hw
    rcases putAt_get J cs1 cs i w (by omega) hi with h1 | ⟨h1, h2⟩
    · exact hP1 x (List.mem_flatten.mpr ⟨w, h1, hx⟩)
    · have hx0 : va_at D cl x H := (va_P_iff.mp hP) x (List.mem_flatten.mpr ⟨w, List.mem_of_getElem? h2, hx⟩)
      refine hx0.kept (hk x.1 hx0.lt (fun hA => ?_))
      rcases hA with ⟨k, e, hq⟩ | hq
      · obtain ⟨a, b, u, g1, g2⟩ := mem_fl hq
        obtain ⟨p, hp, hp2⟩ := cut_get hJ g1
        have := fl_one hD h2 hp2 hx (List.mem_of_getElem? g2) rfl
        subst this
        exact h1 (List.mem_of_getElem? hp)
      · have := hx0.lt
        omega
  · refine va_D_ads ?_ hD
    rw [ads_flat, ads_flat, putAt_ads]
    intro k j u h1 h2
    have h3 : (ads cs1)[k]? = some (u.map Prod.fst) := by unfold ads; rw [List.getElem?_map, h2]; rfl
    rw [ha] at h3
    unfold ads at h3
    rw [List.getElem?_map] at h3
    cases h4 : cs0[k]? with
    | none => rw [h4] at h3; cases h3
    | some w0 =>
      rw [h4] at h3
      obtain ⟨p, hp, hp2⟩ := cut_get hJ h4
      rw [h1] at hp
      cases hp
      unfold ads
      rw [List.getElem?_map, hp2]
      exact h3

section GR
variable {X : Cx} {t : Nat → ClassId} {R : Room} {cc : ByteArray} {nL : Nat} {own : String} {cs cs' : List va_W} {pc : Nat} {lv lv' : List (Nat × Value)} {st : List Value}
theorem G.iconst (C : gX X t R cc nL own) {n : Int} {v : Int32} (hd : decode cc pc = .ok (.iconst n, 1)) (hv : Int32.ofInt n = v) (k : G X cs (pc + 1) lv (.int v :: st)) : G X cs pc lv (st) := by
  obtain ⟨p, l, e, R0, s, m, args, below, meth, c, D, A, cells, slots, Q⟩ := X
  obtain ⟨hRR, hx, hb, hml, ho, hroom, hw, hK, hA, hSt⟩ := C
  intro H locs ls hP hD hS hl
  exact lv_iconst hx hb hd hv (k H locs ls hP hD hS hl)
theorem G.bipush (C : gX X t R cc nL own) {n : Int} {v : Int32} (hd : decode cc pc = .ok (.bipush n, 2)) (hv : (Int8.ofInt n).toInt32 = v) (k : G X cs (pc + 2) lv (.int v :: st)) : G X cs pc lv (st) := by
  obtain ⟨p, l, e, R0, s, m, args, below, meth, c, D, A, cells, slots, Q⟩ := X
  obtain ⟨hRR, hx, hb, hml, ho, hroom, hw, hK, hA, hSt⟩ := C
  intro H locs ls hP hD hS hl
  exact lv_bipush hx hb hd hv (k H locs ls hP hD hS hl)
theorem G.sipush (C : gX X t R cc nL own) {n : Int} {v : Int32} (hd : decode cc pc = .ok (.sipush n, 3)) (hv : (Int16.ofInt n).toInt32 = v) (k : G X cs (pc + 3) lv (.int v :: st)) : G X cs pc lv (st) := by
  obtain ⟨p, l, e, R0, s, m, args, below, meth, c, D, A, cells, slots, Q⟩ := X
  obtain ⟨hRR, hx, hb, hml, ho, hroom, hw, hK, hA, hSt⟩ := C
  intro H locs ls hP hD hS hl
  exact lv_sipush hx hb hd hv (k H locs ls hP hD hS hl)
theorem G.lconst (C : gX X t R cc nL own) {n : Fin 2} {v : Int64} (hd : decode cc pc = .ok (.lconst n, 1)) (hv : Int64.ofNat (n : Nat) = v) (k : G X cs (pc + 1) lv (.long v :: st)) : G X cs pc lv (st) := by
  obtain ⟨p, l, e, R0, s, m, args, below, meth, c, D, A, cells, slots, Q⟩ := X
  obtain ⟨hRR, hx, hb, hml, ho, hroom, hw, hK, hA, hSt⟩ := C
  intro H locs ls hP hD hS hl
  exact lv_lconst hx hb hd hv (k H locs ls hP hD hS hl)
theorem G.ldc (C : gX X t R cc nL own) {index : Nat} {v : Int32} (hk : Cond.constant own index v ∈ WS) (hd : decode cc pc = .ok (.ldc index, 2)) (k : G X cs (pc + 2) lv (.int v :: st)) : G X cs pc lv (st) := by
  obtain ⟨p, l, e, R0, s, m, args, below, meth, c, D, A, cells, slots, Q⟩ := X
  obtain ⟨hRR, hx, hb, hml, ho, hroom, hw, hK, hA, hSt⟩ := C
  intro H locs ls hP hD hS hl
  exact lv_ldc hx hb ho (hw _ hk) hd (k H locs ls hP hD hS hl)
theorem G.ldcw (C : gX X t R cc nL own) {index : Nat} {v : Int32} (hk : Cond.constant own index v ∈ WS) (hd : decode cc pc = .ok (.ldc_w index, 3)) (k : G X cs (pc + 3) lv (.int v :: st)) : G X cs pc lv (st) := by
  obtain ⟨p, l, e, R0, s, m, args, below, meth, c, D, A, cells, slots, Q⟩ := X
  obtain ⟨hRR, hx, hb, hml, ho, hroom, hw, hK, hA, hSt⟩ := C
  intro H locs ls hP hD hS hl
  exact lv_ldcw hx hb ho (hw _ hk) hd (k H locs ls hP hD hS hl)
theorem G.ldc2 (C : gX X t R cc nL own) {index : Nat} {v : Int64} (hk : Cond.constantLong own index v ∈ WS) (hd : decode cc pc = .ok (.ldc2_w index, 3)) (k : G X cs (pc + 3) lv (.long v :: st)) : G X cs pc lv (st) := by
  obtain ⟨p, l, e, R0, s, m, args, below, meth, c, D, A, cells, slots, Q⟩ := X
  obtain ⟨hRR, hx, hb, hml, ho, hroom, hw, hK, hA, hSt⟩ := C
  intro H locs ls hP hD hS hl
  exact lv_ldc2 hx hb ho (hw _ hk) hd (k H locs ls hP hD hS hl)
theorem G.iload_n (C : gX X t R cc nL own) {k : Fin 4} {x : Int32} (hd : decode cc pc = .ok (.iload_n k, 1)) (q : Nat) (hq : lv[q]? = some ((k : Nat), .int x)) (k : G X cs (pc + 1) lv (.int x :: st)) : G X cs pc lv (st) := by
  obtain ⟨p, l, e, R0, s, m, args, below, meth, c, D, A, cells, slots, Q⟩ := X
  obtain ⟨hRR, hx, hb, hml, ho, hroom, hw, hK, hA, hSt⟩ := C
  intro H locs ls hP hD hS hl
  exact lv_iload_n hx hb hd rfl (lv_at hl q hq) (k H locs ls hP hD hS hl)
theorem G.lload_n (C : gX X t R cc nL own) {k : Fin 4} {x : Int64} (hd : decode cc pc = .ok (.lload_n k, 1)) (q : Nat) (hq : lv[q]? = some ((k : Nat), .long x)) (k : G X cs (pc + 1) lv (.long x :: st)) : G X cs pc lv (st) := by
  obtain ⟨p, l, e, R0, s, m, args, below, meth, c, D, A, cells, slots, Q⟩ := X
  obtain ⟨hRR, hx, hb, hml, ho, hroom, hw, hK, hA, hSt⟩ := C
  intro H locs ls hP hD hS hl
  exact lv_lload_n hx hb hd rfl (lv_at hl q hq) (k H locs ls hP hD hS hl)
theorem G.aload_n (C : gX X t R cc nL own) {k : Fin 4} {x : Nat} (hd : decode cc pc = .ok (.aload_n k, 1)) (q : Nat) (hq : lv[q]? = some ((k : Nat), .ref x)) (k : G X cs (pc + 1) lv (.ref x :: st)) : G X cs pc lv (st) := by
  obtain ⟨p, l, e, R0, s, m, args, below, meth, c, D, A, cells, slots, Q⟩ := X
  obtain ⟨hRR, hx, hb, hml, ho, hroom, hw, hK, hA, hSt⟩ := C
  intro H locs ls hP hD hS hl
  exact lv_aload_n hx hb hd rfl (lv_at hl q hq) (k H locs ls hP hD hS hl)
theorem G.iload (C : gX X t R cc nL own) {i : Nat} {x : Int32} (hd : decode cc pc = .ok (.iload i, 2)) (q : Nat) (hq : lv[q]? = some (i, .int x)) (k : G X cs (pc + 2) lv (.int x :: st)) : G X cs pc lv (st) := by
  obtain ⟨p, l, e, R0, s, m, args, below, meth, c, D, A, cells, slots, Q⟩ := X
  obtain ⟨hRR, hx, hb, hml, ho, hroom, hw, hK, hA, hSt⟩ := C
  intro H locs ls hP hD hS hl
  exact lv_iload hx hb hd (lv_at hl q hq) (k H locs ls hP hD hS hl)
theorem G.lload (C : gX X t R cc nL own) {i : Nat} {x : Int64} (hd : decode cc pc = .ok (.lload i, 2)) (q : Nat) (hq : lv[q]? = some (i, .long x)) (k : G X cs (pc + 2) lv (.long x :: st)) : G X cs pc lv (st) := by
  obtain ⟨p, l, e, R0, s, m, args, below, meth, c, D, A, cells, slots, Q⟩ := X
  obtain ⟨hRR, hx, hb, hml, ho, hroom, hw, hK, hA, hSt⟩ := C
  intro H locs ls hP hD hS hl
  exact lv_lload hx hb hd (lv_at hl q hq) (k H locs ls hP hD hS hl)
theorem G.aload (C : gX X t R cc nL own) {i : Nat} {x : Nat} (hd : decode cc pc = .ok (.aload i, 2)) (q : Nat) (hq : lv[q]? = some (i, .ref x)) (k : G X cs (pc + 2) lv (.ref x :: st)) : G X cs pc lv (st) := by
  obtain ⟨p, l, e, R0, s, m, args, below, meth, c, D, A, cells, slots, Q⟩ := X
  obtain ⟨hRR, hx, hb, hml, ho, hroom, hw, hK, hA, hSt⟩ := C
  intro H locs ls hP hD hS hl
  exact lv_aload hx hb hd (lv_at hl q hq) (k H locs ls hP hD hS hl)
theorem G.istore_n (C : gX X t R cc nL own) {k : Fin 4} {x : Int32} (hd : decode cc pc = .ok (.istore_n k, 1)) (hn : (k : Nat) < nL) (hv : ((k : Nat), Value.int x) :: lv.filter (fun q => !(q.1 == (k : Nat)) && !(q.1 + 1 == (k : Nat) && q.2.category == 2)) = lv') (k2 : G X cs (pc + 1) lv' st) : G X cs pc lv (.int x :: st) := by
  obtain ⟨p, l, e, R0, s, m, args, below, meth, c, D, A, cells, slots, Q⟩ := X
  obtain ⟨hRR, hx, hb, hml, ho, hroom, hw, hK, hA, hSt⟩ := C
  intro H locs ls hP hD hS hl
  exact lv_istore_n hx hb hd rfl hl (by rw [hml]; exact hn) hv (fun ls2 h2 => k2 H locs ls2 hP hD hS h2)
theorem G.istore (C : gX X t R cc nL own) {i : Nat} {x : Int32} (hd : decode cc pc = .ok (.istore i, 2)) (hn : i < nL) (hv : (i, Value.int x) :: lv.filter (fun q => !(q.1 == i) && !(q.1 + 1 == i && q.2.category == 2)) = lv') (k2 : G X cs (pc + 2) lv' st) : G X cs pc lv (.int x :: st) := by
  obtain ⟨p, l, e, R0, s, m, args, below, meth, c, D, A, cells, slots, Q⟩ := X
  obtain ⟨hRR, hx, hb, hml, ho, hroom, hw, hK, hA, hSt⟩ := C
  intro H locs ls hP hD hS hl
  exact lv_istore hx hb hd hl (by rw [hml]; exact hn) hv (fun ls2 h2 => k2 H locs ls2 hP hD hS h2)
theorem G.lstore_n (C : gX X t R cc nL own) {k : Fin 4} {x : Int64} (hd : decode cc pc = .ok (.lstore_n k, 1)) (hn : (k : Nat) + 1 < nL) (hv : ((k : Nat), Value.long x) :: lv.filter (fun q => !(q.1 == (k : Nat)) && (!(q.1 == (k : Nat) + 1) && !(q.1 + 1 == (k : Nat) && q.2.category == 2))) = lv') (k2 : G X cs (pc + 1) lv' st) : G X cs pc lv (.long x :: st) := by
  obtain ⟨p, l, e, R0, s, m, args, below, meth, c, D, A, cells, slots, Q⟩ := X
  obtain ⟨hRR, hx, hb, hml, ho, hroom, hw, hK, hA, hSt⟩ := C
  intro H locs ls hP hD hS hl
  exact lv_lstore_n hx hb hd rfl hl (by rw [hml]; exact hn) hv (fun ls2 h2 => k2 H locs ls2 hP hD hS h2)
theorem G.lstore (C : gX X t R cc nL own) {i : Nat} {x : Int64} (hd : decode cc pc = .ok (.lstore i, 2)) (hn : i + 1 < nL) (hv : (i, Value.long x) :: lv.filter (fun q => !(q.1 == i) && (!(q.1 == i + 1) && !(q.1 + 1 == i && q.2.category == 2))) = lv') (k2 : G X cs (pc + 2) lv' st) : G X cs pc lv (.long x :: st) := by
  obtain ⟨p, l, e, R0, s, m, args, below, meth, c, D, A, cells, slots, Q⟩ := X
  obtain ⟨hRR, hx, hb, hml, ho, hroom, hw, hK, hA, hSt⟩ := C
  intro H locs ls hP hD hS hl
  exact lv_lstore hx hb hd hl (by rw [hml]; exact hn) hv (fun ls2 h2 => k2 H locs ls2 hP hD hS h2)
theorem G.astore_n (C : gX X t R cc nL own) {k : Fin 4} {x : Nat} (hd : decode cc pc = .ok (.astore_n k, 1)) (hn : (k : Nat) < nL) (hv : ((k : Nat), Value.ref x) :: lv.filter (fun q => !(q.1 == (k : Nat)) && !(q.1 + 1 == (k : Nat) && q.2.category == 2)) = lv') (k2 : G X cs (pc + 1) lv' st) : G X cs pc lv (.ref x :: st) := by
  obtain ⟨p, l, e, R0, s, m, args, below, meth, c, D, A, cells, slots, Q⟩ := X
  obtain ⟨hRR, hx, hb, hml, ho, hroom, hw, hK, hA, hSt⟩ := C
  intro H locs ls hP hD hS hl
  exact lv_astore_n hx hb hd rfl hl (by rw [hml]; exact hn) hv (fun ls2 h2 => k2 H locs ls2 hP hD hS h2)
theorem G.astore (C : gX X t R cc nL own) {i : Nat} {x : Nat} (hd : decode cc pc = .ok (.astore i, 2)) (hn : i < nL) (hv : (i, Value.ref x) :: lv.filter (fun q => !(q.1 == i) && !(q.1 + 1 == i && q.2.category == 2)) = lv') (k2 : G X cs (pc + 2) lv' st) : G X cs pc lv (.ref x :: st) := by
  obtain ⟨p, l, e, R0, s, m, args, below, meth, c, D, A, cells, slots, Q⟩ := X
  obtain ⟨hRR, hx, hb, hml, ho, hroom, hw, hK, hA, hSt⟩ := C
  intro H locs ls hP hD hS hl
  exact lv_astore hx hb hd hl (by rw [hml]; exact hn) hv (fun ls2 h2 => k2 H locs ls2 hP hD hS h2)
theorem G.iinc (C : gX X t R cc nL own) {i : Nat} {n : Int} {x v : Int32} (hd : decode cc pc = .ok (.iinc i n, 3)) (q : Nat) (hq : lv[q]? = some (i, .int x)) (hv : x + Int32.ofInt n = v) (hn : i < nL) (hv2 : (i, Value.int v) :: lv.filter (fun q => !(q.1 == i) && !(q.1 + 1 == i && q.2.category == 2)) = lv') (k : G X cs (pc + 3) lv' st) : G X cs pc lv st := by
  obtain ⟨p, l, e, R0, s, m, args, below, meth, c, D, A, cells, slots, Q⟩ := X
  obtain ⟨hRR, hx, hb, hml, ho, hroom, hw, hK, hA, hSt⟩ := C
  intro H locs ls hP hD hS hl
  exact lv_iinc hx hb hd hl hq hv (by rw [hml]; exact hn) hv2 (fun ls2 h2 => k H locs ls2 hP hD hS h2)
theorem G.iadd (C : gX X t R cc nL own) {x y : Int32} (hd : decode cc pc = .ok (.iadd, 1)) (k : G X cs (pc + 1) lv (.int (x + y) :: st)) : G X cs pc lv (.int y :: .int x :: st) := by
  obtain ⟨p, l, e, R0, s, m, args, below, meth, c, D, A, cells, slots, Q⟩ := X
  obtain ⟨hRR, hx, hb, hml, ho, hroom, hw, hK, hA, hSt⟩ := C
  intro H locs ls hP hD hS hl
  exact lv_iadd hx hb hd (k H locs ls hP hD hS hl)
theorem G.isub (C : gX X t R cc nL own) {x y : Int32} (hd : decode cc pc = .ok (.isub, 1)) (k : G X cs (pc + 1) lv (.int (x - y) :: st)) : G X cs pc lv (.int y :: .int x :: st) := by
  obtain ⟨p, l, e, R0, s, m, args, below, meth, c, D, A, cells, slots, Q⟩ := X
  obtain ⟨hRR, hx, hb, hml, ho, hroom, hw, hK, hA, hSt⟩ := C
  intro H locs ls hP hD hS hl
  exact lv_isub hx hb hd (k H locs ls hP hD hS hl)
theorem G.imul (C : gX X t R cc nL own) {x y : Int32} (hd : decode cc pc = .ok (.imul, 1)) (k : G X cs (pc + 1) lv (.int (x * y) :: st)) : G X cs pc lv (.int y :: .int x :: st) := by
  obtain ⟨p, l, e, R0, s, m, args, below, meth, c, D, A, cells, slots, Q⟩ := X
  obtain ⟨hRR, hx, hb, hml, ho, hroom, hw, hK, hA, hSt⟩ := C
  intro H locs ls hP hD hS hl
  exact lv_imul hx hb hd (k H locs ls hP hD hS hl)
theorem G.iand (C : gX X t R cc nL own) {x y : Int32} (hd : decode cc pc = .ok (.iand, 1)) (k : G X cs (pc + 1) lv (.int (x &&& y) :: st)) : G X cs pc lv (.int y :: .int x :: st) := by
  obtain ⟨p, l, e, R0, s, m, args, below, meth, c, D, A, cells, slots, Q⟩ := X
  obtain ⟨hRR, hx, hb, hml, ho, hroom, hw, hK, hA, hSt⟩ := C
  intro H locs ls hP hD hS hl
  exact lv_iand hx hb hd (k H locs ls hP hD hS hl)
theorem G.ior (C : gX X t R cc nL own) {x y : Int32} (hd : decode cc pc = .ok (.ior, 1)) (k : G X cs (pc + 1) lv (.int (x ||| y) :: st)) : G X cs pc lv (.int y :: .int x :: st) := by
  obtain ⟨p, l, e, R0, s, m, args, below, meth, c, D, A, cells, slots, Q⟩ := X
  obtain ⟨hRR, hx, hb, hml, ho, hroom, hw, hK, hA, hSt⟩ := C
  intro H locs ls hP hD hS hl
  exact lv_ior hx hb hd (k H locs ls hP hD hS hl)
theorem G.ixor (C : gX X t R cc nL own) {x y : Int32} (hd : decode cc pc = .ok (.ixor, 1)) (k : G X cs (pc + 1) lv (.int (x ^^^ y) :: st)) : G X cs pc lv (.int y :: .int x :: st) := by
  obtain ⟨p, l, e, R0, s, m, args, below, meth, c, D, A, cells, slots, Q⟩ := X
  obtain ⟨hRR, hx, hb, hml, ho, hroom, hw, hK, hA, hSt⟩ := C
  intro H locs ls hP hD hS hl
  exact lv_ixor hx hb hd (k H locs ls hP hD hS hl)
theorem G.ishl (C : gX X t R cc nL own) {x y : Int32} (hd : decode cc pc = .ok (.ishl, 1)) (k : G X cs (pc + 1) lv (.int (x <<< (y &&& 31)) :: st)) : G X cs pc lv (.int y :: .int x :: st) := by
  obtain ⟨p, l, e, R0, s, m, args, below, meth, c, D, A, cells, slots, Q⟩ := X
  obtain ⟨hRR, hx, hb, hml, ho, hroom, hw, hK, hA, hSt⟩ := C
  intro H locs ls hP hD hS hl
  exact lv_ishl hx hb hd (k H locs ls hP hD hS hl)
theorem G.ishr (C : gX X t R cc nL own) {x y : Int32} (hd : decode cc pc = .ok (.ishr, 1)) (k : G X cs (pc + 1) lv (.int (x >>> (y &&& 31)) :: st)) : G X cs pc lv (.int y :: .int x :: st) := by
  obtain ⟨p, l, e, R0, s, m, args, below, meth, c, D, A, cells, slots, Q⟩ := X
  obtain ⟨hRR, hx, hb, hml, ho, hroom, hw, hK, hA, hSt⟩ := C
  intro H locs ls hP hD hS hl
  exact lv_ishr hx hb hd (k H locs ls hP hD hS hl)
theorem G.iushr (C : gX X t R cc nL own) {x y : Int32} (hd : decode cc pc = .ok (.iushr, 1)) (k : G X cs (pc + 1) lv (.int ((x.toUInt32 >>> (y.toUInt32 &&& Int32.toUInt32 31)).toInt32) :: st)) : G X cs pc lv (.int y :: .int x :: st) := by
  obtain ⟨p, l, e, R0, s, m, args, below, meth, c, D, A, cells, slots, Q⟩ := X
  obtain ⟨hRR, hx, hb, hml, ho, hroom, hw, hK, hA, hSt⟩ := C
  intro H locs ls hP hD hS hl
  exact lv_iushr hx hb hd rfl (k H locs ls hP hD hS hl)
theorem G.ladd (C : gX X t R cc nL own) {x y : Int64} (hd : decode cc pc = .ok (.ladd, 1)) (k : G X cs (pc + 1) lv (.long (x + y) :: st)) : G X cs pc lv (.long y :: .long x :: st) := by
  obtain ⟨p, l, e, R0, s, m, args, below, meth, c, D, A, cells, slots, Q⟩ := X
  obtain ⟨hRR, hx, hb, hml, ho, hroom, hw, hK, hA, hSt⟩ := C
  intro H locs ls hP hD hS hl
  exact lv_ladd hx hb hd (k H locs ls hP hD hS hl)
theorem G.lsub (C : gX X t R cc nL own) {x y : Int64} (hd : decode cc pc = .ok (.lsub, 1)) (k : G X cs (pc + 1) lv (.long (x - y) :: st)) : G X cs pc lv (.long y :: .long x :: st) := by
  obtain ⟨p, l, e, R0, s, m, args, below, meth, c, D, A, cells, slots, Q⟩ := X
  obtain ⟨hRR, hx, hb, hml, ho, hroom, hw, hK, hA, hSt⟩ := C
  intro H locs ls hP hD hS hl
  exact lv_lsub hx hb hd (k H locs ls hP hD hS hl)
theorem G.lmul (C : gX X t R cc nL own) {x y : Int64} (hd : decode cc pc = .ok (.lmul, 1)) (k : G X cs (pc + 1) lv (.long (x * y) :: st)) : G X cs pc lv (.long y :: .long x :: st) := by
  obtain ⟨p, l, e, R0, s, m, args, below, meth, c, D, A, cells, slots, Q⟩ := X
  obtain ⟨hRR, hx, hb, hml, ho, hroom, hw, hK, hA, hSt⟩ := C
  intro H locs ls hP hD hS hl
  exact lv_lmul hx hb hd (k H locs ls hP hD hS hl)
theorem G.ineg (C : gX X t R cc nL own) {x : Int32} (hd : decode cc pc = .ok (.ineg, 1)) (k : G X cs (pc + 1) lv (.int (-x) :: st)) : G X cs pc lv (.int x :: st) := by
  obtain ⟨p, l, e, R0, s, m, args, below, meth, c, D, A, cells, slots, Q⟩ := X
  obtain ⟨hRR, hx, hb, hml, ho, hroom, hw, hK, hA, hSt⟩ := C
  intro H locs ls hP hD hS hl
  exact lv_ineg hx hb hd (k H locs ls hP hD hS hl)
theorem G.lcmp (C : gX X t R cc nL own) {x y : Int64} (hd : decode cc pc = .ok (.lcmp, 1)) (k : G X cs (pc + 1) lv (.int (lg_cmp x y) :: st)) : G X cs pc lv (.long y :: .long x :: st) := by
  obtain ⟨p, l, e, R0, s, m, args, below, meth, c, D, A, cells, slots, Q⟩ := X
  obtain ⟨hRR, hx, hb, hml, ho, hroom, hw, hK, hA, hSt⟩ := C
  intro H locs ls hP hD hS hl
  exact W.lcmp hx hb hd (k H locs ls hP hD hS hl)
theorem G.i2l (C : gX X t R cc nL own) {x : Int32} (hd : decode cc pc = .ok (.i2l, 1)) (k : G X cs (pc + 1) lv (.long x.toInt64 :: st)) : G X cs pc lv (.int x :: st) := by
  obtain ⟨p, l, e, R0, s, m, args, below, meth, c, D, A, cells, slots, Q⟩ := X
  obtain ⟨hRR, hx, hb, hml, ho, hroom, hw, hK, hA, hSt⟩ := C
  intro H locs ls hP hD hS hl
  exact lv_i2l hx hb hd rfl (k H locs ls hP hD hS hl)
theorem G.l2i (C : gX X t R cc nL own) {x : Int64} (hd : decode cc pc = .ok (.l2i, 1)) (k : G X cs (pc + 1) lv (.int x.toInt32 :: st)) : G X cs pc lv (.long x :: st) := by
  obtain ⟨p, l, e, R0, s, m, args, below, meth, c, D, A, cells, slots, Q⟩ := X
  obtain ⟨hRR, hx, hb, hml, ho, hroom, hw, hK, hA, hSt⟩ := C
  intro H locs ls hP hD hS hl
  exact lv_l2i hx hb hd rfl (k H locs ls hP hD hS hl)
theorem G.i2b (C : gX X t R cc nL own) {x : Int32} (hd : decode cc pc = .ok (.i2b, 1)) (k : G X cs (pc + 1) lv (.int x.toInt8.toInt32 :: st)) : G X cs pc lv (.int x :: st) := by
  obtain ⟨p, l, e, R0, s, m, args, below, meth, c, D, A, cells, slots, Q⟩ := X
  obtain ⟨hRR, hx, hb, hml, ho, hroom, hw, hK, hA, hSt⟩ := C
  intro H locs ls hP hD hS hl
  exact lv_i2b hx hb hd rfl (k H locs ls hP hD hS hl)
theorem G.i2s (C : gX X t R cc nL own) {x : Int32} (hd : decode cc pc = .ok (.i2s, 1)) (k : G X cs (pc + 1) lv (.int x.toInt16.toInt32 :: st)) : G X cs pc lv (.int x :: st) := by
  obtain ⟨p, l, e, R0, s, m, args, below, meth, c, D, A, cells, slots, Q⟩ := X
  obtain ⟨hRR, hx, hb, hml, ho, hroom, hw, hK, hA, hSt⟩ := C
  intro H locs ls hP hD hS hl
  exact lv_i2s hx hb hd rfl (k H locs ls hP hD hS hl)
theorem G.i2c (C : gX X t R cc nL own) {x : Int32} (hd : decode cc pc = .ok (.i2c, 1)) (k : G X cs (pc + 1) lv (.int (x.toUInt32 % 65536).toInt32 :: st)) : G X cs pc lv (.int x :: st) := by
  obtain ⟨p, l, e, R0, s, m, args, below, meth, c, D, A, cells, slots, Q⟩ := X
  obtain ⟨hRR, hx, hb, hml, ho, hroom, hw, hK, hA, hSt⟩ := C
  intro H locs ls hP hD hS hl
  exact lv_i2c hx hb hd rfl (k H locs ls hP hD hS hl)
theorem G.dup (C : gX X t R cc nL own) {va : Value} (hd : decode cc pc = .ok (.dup, 1)) (hva : va.category = 1) (k : G X cs (pc + 1) lv (va :: va :: st)) : G X cs pc lv (va :: st) := by
  obtain ⟨p, l, e, R0, s, m, args, below, meth, c, D, A, cells, slots, Q⟩ := X
  obtain ⟨hRR, hx, hb, hml, ho, hroom, hw, hK, hA, hSt⟩ := C
  intro H locs ls hP hD hS hl
  exact lv_dup hx hb hd hva (k H locs ls hP hD hS hl)
theorem G.pop (C : gX X t R cc nL own) {va : Value} (hd : decode cc pc = .ok (.pop, 1)) (hva : va.category = 1) (k : G X cs (pc + 1) lv (st)) : G X cs pc lv (va :: st) := by
  obtain ⟨p, l, e, R0, s, m, args, below, meth, c, D, A, cells, slots, Q⟩ := X
  obtain ⟨hRR, hx, hb, hml, ho, hroom, hw, hK, hA, hSt⟩ := C
  intro H locs ls hP hD hS hl
  exact lv_pop hx hb hd hva (k H locs ls hP hD hS hl)
theorem G.dup2 (C : gX X t R cc nL own) {va vb : Value} (hd : decode cc pc = .ok (.dup2, 1)) (hva : va.category = 1) (hvb : vb.category = 1) (k : G X cs (pc + 1) lv (va :: vb :: va :: vb :: st)) : G X cs pc lv (va :: vb :: st) := by
  obtain ⟨p, l, e, R0, s, m, args, below, meth, c, D, A, cells, slots, Q⟩ := X
  obtain ⟨hRR, hx, hb, hml, ho, hroom, hw, hK, hA, hSt⟩ := C
  intro H locs ls hP hD hS hl
  exact lv_dup2_11 hx hb hd hva hvb (k H locs ls hP hD hS hl)
theorem G.goto (C : gX X t R cc nL own) {off : Int} {tgt : Nat} (hd : decode cc pc = .ok (.goto off, 3)) (ht : (pc : Int) + off = (tgt : Int)) (k : G X cs tgt lv st) : G X cs pc lv st := by
  obtain ⟨p, l, e, R0, s, m, args, below, meth, c, D, A, cells, slots, Q⟩ := X
  obtain ⟨hRR, hx, hb, hml, ho, hroom, hw, hK, hA, hSt⟩ := C
  intro H locs ls hP hD hS hl
  exact lv_goto hx hb hd ht (k H locs ls hP hD hS hl)
theorem G.lvs (ks : List Nat) (hv : lv_pick lv ks = lv') (k : G X cs pc lv' st) : G X cs pc lv st := by
  obtain ⟨p, l, e, R0, s, m, args, below, meth, c, D, A, cells, slots, Q⟩ := X
  intro H locs ls hP hD hS hl
  exact k H locs ls hP hD hS (lv_sub hl ks hv)
theorem G.ceq (h : cs = cs') (k : G X cs' pc lv st) : G X cs pc lv st := h ▸ k
theorem G.if_eq (C : gX X t R cc nL own) {x : Int32} {off : Int} {tgt : Nat} (hd : decode cc pc = .ok (.ifCond .eq off, 3)) (ht : (pc : Int) + off = (tgt : Int)) {β : Type} {o1 o2 : Option β} {r : β} (h : (if x = 0 then o1 else o2) = some r) (kt : o1 = some r → G X cs tgt lv st) (kf : o2 = some r → G X cs (pc + 3) lv st) : G X cs pc lv (.int x :: st) := by
  obtain ⟨p, l, e, R0, s, m, args, below, meth, c, D, A, cells, slots, Q⟩ := X
  obtain ⟨hRR, hx, hb, hml, ho, hroom, hw, hK, hA, hSt⟩ := C
  intro H locs ls hP hD hS hl
  refine lv_if_eq hx hb hd ht (fun hc => kt ?_ H locs ls hP hD hS hl) (fun hc => kf ?_ H locs ls hP hD hS hl)
  · rwa [if_pos hc] at h
  · rwa [if_neg hc] at h
theorem G.if_ne (C : gX X t R cc nL own) {x : Int32} {off : Int} {tgt : Nat} (hd : decode cc pc = .ok (.ifCond .ne off, 3)) (ht : (pc : Int) + off = (tgt : Int)) {β : Type} {o1 o2 : Option β} {r : β} (h : (if x = 0 then o1 else o2) = some r) (kt : o2 = some r → G X cs tgt lv st) (kf : o1 = some r → G X cs (pc + 3) lv st) : G X cs pc lv (.int x :: st) := by
  obtain ⟨p, l, e, R0, s, m, args, below, meth, c, D, A, cells, slots, Q⟩ := X
  obtain ⟨hRR, hx, hb, hml, ho, hroom, hw, hK, hA, hSt⟩ := C
  intro H locs ls hP hD hS hl
  refine lv_if_ne hx hb hd ht (fun hc => kt ?_ H locs ls hP hD hS hl) (fun hc => kf ?_ H locs ls hP hD hS hl)
  · rwa [if_neg hc] at h
  · rwa [if_pos hc] at h
theorem G.if_lt (C : gX X t R cc nL own) {x : Int32} {off : Int} {tgt : Nat} (hd : decode cc pc = .ok (.ifCond .lt off, 3)) (ht : (pc : Int) + off = (tgt : Int)) {β : Type} {o1 o2 : Option β} {r : β} (h : (if x < 0 then o1 else o2) = some r) (kt : o1 = some r → G X cs tgt lv st) (kf : o2 = some r → G X cs (pc + 3) lv st) : G X cs pc lv (.int x :: st) := by
  obtain ⟨p, l, e, R0, s, m, args, below, meth, c, D, A, cells, slots, Q⟩ := X
  obtain ⟨hRR, hx, hb, hml, ho, hroom, hw, hK, hA, hSt⟩ := C
  intro H locs ls hP hD hS hl
  refine lv_if_lt hx hb hd ht (fun hc => kt ?_ H locs ls hP hD hS hl) (fun hc => kf ?_ H locs ls hP hD hS hl)
  · rwa [if_pos hc] at h
  · rwa [if_neg hc] at h
theorem G.if_ge (C : gX X t R cc nL own) {x : Int32} {off : Int} {tgt : Nat} (hd : decode cc pc = .ok (.ifCond .ge off, 3)) (ht : (pc : Int) + off = (tgt : Int)) {β : Type} {o1 o2 : Option β} {r : β} (h : (if x < 0 then o1 else o2) = some r) (kt : o2 = some r → G X cs tgt lv st) (kf : o1 = some r → G X cs (pc + 3) lv st) : G X cs pc lv (.int x :: st) := by
  obtain ⟨p, l, e, R0, s, m, args, below, meth, c, D, A, cells, slots, Q⟩ := X
  obtain ⟨hRR, hx, hb, hml, ho, hroom, hw, hK, hA, hSt⟩ := C
  intro H locs ls hP hD hS hl
  refine lv_if_ge hx hb hd ht (fun hc => kt ?_ H locs ls hP hD hS hl) (fun hc => kf ?_ H locs ls hP hD hS hl)
  · rwa [if_neg (Int32.not_lt.mpr hc)] at h
  · rwa [if_pos (Int32.not_le.mp hc)] at h
theorem G.if_gt (C : gX X t R cc nL own) {x : Int32} {off : Int} {tgt : Nat} (hd : decode cc pc = .ok (.ifCond .gt off, 3)) (ht : (pc : Int) + off = (tgt : Int)) {β : Type} {o1 o2 : Option β} {r : β} (h : (if 0 < x then o1 else o2) = some r) (kt : o1 = some r → G X cs tgt lv st) (kf : o2 = some r → G X cs (pc + 3) lv st) : G X cs pc lv (.int x :: st) := by
  obtain ⟨p, l, e, R0, s, m, args, below, meth, c, D, A, cells, slots, Q⟩ := X
  obtain ⟨hRR, hx, hb, hml, ho, hroom, hw, hK, hA, hSt⟩ := C
  intro H locs ls hP hD hS hl
  refine lv_if_gt hx hb hd ht (fun hc => kt ?_ H locs ls hP hD hS hl) (fun hc => kf ?_ H locs ls hP hD hS hl)
  · rwa [if_pos hc] at h
  · rwa [if_neg hc] at h
theorem G.if_le (C : gX X t R cc nL own) {x : Int32} {off : Int} {tgt : Nat} (hd : decode cc pc = .ok (.ifCond .le off, 3)) (ht : (pc : Int) + off = (tgt : Int)) {β : Type} {o1 o2 : Option β} {r : β} (h : (if 0 < x then o1 else o2) = some r) (kt : o2 = some r → G X cs tgt lv st) (kf : o1 = some r → G X cs (pc + 3) lv st) : G X cs pc lv (.int x :: st) := by
  obtain ⟨p, l, e, R0, s, m, args, below, meth, c, D, A, cells, slots, Q⟩ := X
  obtain ⟨hRR, hx, hb, hml, ho, hroom, hw, hK, hA, hSt⟩ := C
  intro H locs ls hP hD hS hl
  refine lv_if_le hx hb hd ht (fun hc => kt ?_ H locs ls hP hD hS hl) (fun hc => kf ?_ H locs ls hP hD hS hl)
  · rwa [if_neg (Int32.not_lt.mpr hc)] at h
  · rwa [if_pos (Int32.not_le.mp hc)] at h
theorem G.icmp_eq (C : gX X t R cc nL own) {x y : Int32} {off : Int} {tgt : Nat} (hd : decode cc pc = .ok (.if_icmp .eq off, 3)) (ht : (pc : Int) + off = (tgt : Int)) {β : Type} {o1 o2 : Option β} {r : β} (h : (if x = y then o1 else o2) = some r) (kt : o1 = some r → G X cs tgt lv st) (kf : o2 = some r → G X cs (pc + 3) lv st) : G X cs pc lv (.int y :: .int x :: st) := by
  obtain ⟨p, l, e, R0, s, m, args, below, meth, c, D, A, cells, slots, Q⟩ := X
  obtain ⟨hRR, hx, hb, hml, ho, hroom, hw, hK, hA, hSt⟩ := C
  intro H locs ls hP hD hS hl
  refine lv_icmp_eq hx hb hd ht (fun hc => kt ?_ H locs ls hP hD hS hl) (fun hc => kf ?_ H locs ls hP hD hS hl)
  · rwa [if_pos hc] at h
  · rwa [if_neg hc] at h
theorem G.icmp_ne (C : gX X t R cc nL own) {x y : Int32} {off : Int} {tgt : Nat} (hd : decode cc pc = .ok (.if_icmp .ne off, 3)) (ht : (pc : Int) + off = (tgt : Int)) {β : Type} {o1 o2 : Option β} {r : β} (h : (if x = y then o1 else o2) = some r) (kt : o2 = some r → G X cs tgt lv st) (kf : o1 = some r → G X cs (pc + 3) lv st) : G X cs pc lv (.int y :: .int x :: st) := by
  obtain ⟨p, l, e, R0, s, m, args, below, meth, c, D, A, cells, slots, Q⟩ := X
  obtain ⟨hRR, hx, hb, hml, ho, hroom, hw, hK, hA, hSt⟩ := C
  intro H locs ls hP hD hS hl
  refine lv_icmp_ne hx hb hd ht (fun hc => kt ?_ H locs ls hP hD hS hl) (fun hc => kf ?_ H locs ls hP hD hS hl)
  · rwa [if_neg hc] at h
  · rwa [if_pos hc] at h
theorem G.icmp_lt (C : gX X t R cc nL own) {x y : Int32} {off : Int} {tgt : Nat} (hd : decode cc pc = .ok (.if_icmp .lt off, 3)) (ht : (pc : Int) + off = (tgt : Int)) {β : Type} {o1 o2 : Option β} {r : β} (h : (if x < y then o1 else o2) = some r) (kt : o1 = some r → G X cs tgt lv st) (kf : o2 = some r → G X cs (pc + 3) lv st) : G X cs pc lv (.int y :: .int x :: st) := by
  obtain ⟨p, l, e, R0, s, m, args, below, meth, c, D, A, cells, slots, Q⟩ := X
  obtain ⟨hRR, hx, hb, hml, ho, hroom, hw, hK, hA, hSt⟩ := C
  intro H locs ls hP hD hS hl
  refine lv_icmp_lt hx hb hd ht (fun hc => kt ?_ H locs ls hP hD hS hl) (fun hc => kf ?_ H locs ls hP hD hS hl)
  · rwa [if_pos hc] at h
  · rwa [if_neg hc] at h
theorem G.icmp_ge (C : gX X t R cc nL own) {x y : Int32} {off : Int} {tgt : Nat} (hd : decode cc pc = .ok (.if_icmp .ge off, 3)) (ht : (pc : Int) + off = (tgt : Int)) {β : Type} {o1 o2 : Option β} {r : β} (h : (if x < y then o1 else o2) = some r) (kt : o2 = some r → G X cs tgt lv st) (kf : o1 = some r → G X cs (pc + 3) lv st) : G X cs pc lv (.int y :: .int x :: st) := by
  obtain ⟨p, l, e, R0, s, m, args, below, meth, c, D, A, cells, slots, Q⟩ := X
  obtain ⟨hRR, hx, hb, hml, ho, hroom, hw, hK, hA, hSt⟩ := C
  intro H locs ls hP hD hS hl
  refine lv_icmp_ge hx hb hd ht (fun hc => kt ?_ H locs ls hP hD hS hl) (fun hc => kf ?_ H locs ls hP hD hS hl)
  · rwa [if_neg (Int32.not_lt.mpr hc)] at h
  · rwa [if_pos (Int32.not_le.mp hc)] at h
theorem G.icmp_gt (C : gX X t R cc nL own) {x y : Int32} {off : Int} {tgt : Nat} (hd : decode cc pc = .ok (.if_icmp .gt off, 3)) (ht : (pc : Int) + off = (tgt : Int)) {β : Type} {o1 o2 : Option β} {r : β} (h : (if y < x then o1 else o2) = some r) (kt : o1 = some r → G X cs tgt lv st) (kf : o2 = some r → G X cs (pc + 3) lv st) : G X cs pc lv (.int y :: .int x :: st) := by
  obtain ⟨p, l, e, R0, s, m, args, below, meth, c, D, A, cells, slots, Q⟩ := X
  obtain ⟨hRR, hx, hb, hml, ho, hroom, hw, hK, hA, hSt⟩ := C
  intro H locs ls hP hD hS hl
  refine lv_icmp_gt hx hb hd ht (fun hc => kt ?_ H locs ls hP hD hS hl) (fun hc => kf ?_ H locs ls hP hD hS hl)
  · rwa [if_pos hc] at h
  · rwa [if_neg hc] at h
theorem G.icmp_le (C : gX X t R cc nL own) {x y : Int32} {off : Int} {tgt : Nat} (hd : decode cc pc = .ok (.if_icmp .le off, 3)) (ht : (pc : Int) + off = (tgt : Int)) {β : Type} {o1 o2 : Option β} {r : β} (h : (if y < x then o1 else o2) = some r) (kt : o2 = some r → G X cs tgt lv st) (kf : o1 = some r → G X cs (pc + 3) lv st) : G X cs pc lv (.int y :: .int x :: st) := by
  obtain ⟨p, l, e, R0, s, m, args, below, meth, c, D, A, cells, slots, Q⟩ := X
  obtain ⟨hRR, hx, hb, hml, ho, hroom, hw, hK, hA, hSt⟩ := C
  intro H locs ls hP hD hS hl
  refine lv_icmp_le hx hb hd ht (fun hc => kt ?_ H locs ls hP hD hS hl) (fun hc => kf ?_ H locs ls hP hD hS hl)
  · rwa [if_neg (Int32.not_lt.mpr hc)] at h
  · rwa [if_pos (Int32.not_le.mp hc)] at h
theorem G.tableIn (C : gX X t R cc nL own) {dflt lo hi : Int} {offs : Array Int} {len : Nat} {x : Int32} {off : Int} {tgt : Nat} (hd : decode cc pc = .ok (.tableswitch dflt lo hi offs, len)) (h1 : ¬ x.toInt < lo) (h2 : ¬ hi < x.toInt) (hf : offs[(x.toInt - lo).toNat]? = some off) (ht : (pc : Int) + off = (tgt : Int)) (k : G X cs tgt lv st) : G X cs pc lv (.int x :: st) := by
  obtain ⟨p, l, e, R0, s, m, args, below, meth, c, D, A, cells, slots, Q⟩ := X
  obtain ⟨hRR, hx, hb, hml, ho, hroom, hw, hK, hA, hSt⟩ := C
  intro H locs ls hP hD hS hl
  exact lv_tableIn hx hb hd h1 h2 hf ht (k H locs ls hP hD hS hl)
theorem G.tableOut (C : gX X t R cc nL own) {dflt lo hi : Int} {offs : Array Int} {len : Nat} {x : Int32} {tgt : Nat} (hd : decode cc pc = .ok (.tableswitch dflt lo hi offs, len)) (h1 : x.toInt < lo ∨ hi < x.toInt) (ht : (pc : Int) + dflt = (tgt : Int)) (k : G X cs tgt lv st) : G X cs pc lv (.int x :: st) := by
  obtain ⟨p, l, e, R0, s, m, args, below, meth, c, D, A, cells, slots, Q⟩ := X
  obtain ⟨hRR, hx, hb, hml, ho, hroom, hw, hK, hA, hSt⟩ := C
  intro H locs ls hP hD hS hl
  exact lv_tableOut hx hb hd h1 ht (k H locs ls hP hD hS hl)
theorem G.idiv (C : gX X t R cc nL own) {x y : Int32} (hd : decode cc pc = .ok (.idiv, 1)) {β : Type} {o : Option β} {r : β} (h : nz y o = some r) (k : o = some r → G X cs (pc + 1) lv (.int (x / y) :: st)) : G X cs pc lv (.int y :: .int x :: st) := by
  obtain ⟨p, l, e, R0, s, m, args, below, meth, c, D, A, cells, slots, Q⟩ := X
  obtain ⟨hRR, hx, hb, hml, ho, hroom, hw, hK, hA, hSt⟩ := C
  intro H locs ls hP hD hS hl
  exact lv_idiv hx hb hd (nz_some h).1 (k (nz_some h).2 H locs ls hP hD hS hl)
theorem G.idivc (C : gX X t R cc nL own) {x y : Int32} (hd : decode cc pc = .ok (.idiv, 1)) (hy : ¬ y = 0) (k : G X cs (pc + 1) lv (.int (x / y) :: st)) : G X cs pc lv (.int y :: .int x :: st) := by
  obtain ⟨p, l, e, R0, s, m, args, below, meth, c, D, A, cells, slots, Q⟩ := X
  obtain ⟨hRR, hx, hb, hml, ho, hroom, hw, hK, hA, hSt⟩ := C
  intro H locs ls hP hD hS hl
  exact lv_idiv hx hb hd hy (k H locs ls hP hD hS hl)
theorem G.irem (C : gX X t R cc nL own) {x y : Int32} (hd : decode cc pc = .ok (.irem, 1)) {β : Type} {o : Option β} {r : β} (h : nz y o = some r) (k : o = some r → G X cs (pc + 1) lv (.int (x - x / y * y) :: st)) : G X cs pc lv (.int y :: .int x :: st) := by
  obtain ⟨p, l, e, R0, s, m, args, below, meth, c, D, A, cells, slots, Q⟩ := X
  obtain ⟨hRR, hx, hb, hml, ho, hroom, hw, hK, hA, hSt⟩ := C
  intro H locs ls hP hD hS hl
  exact lv_irem hx hb hd (nz_some h).1 (k (nz_some h).2 H locs ls hP hD hS hl)
theorem G.iremc (C : gX X t R cc nL own) {x y : Int32} (hd : decode cc pc = .ok (.irem, 1)) (hy : ¬ y = 0) (k : G X cs (pc + 1) lv (.int (x - x / y * y) :: st)) : G X cs pc lv (.int y :: .int x :: st) := by
  obtain ⟨p, l, e, R0, s, m, args, below, meth, c, D, A, cells, slots, Q⟩ := X
  obtain ⟨hRR, hx, hb, hml, ho, hroom, hw, hK, hA, hSt⟩ := C
  intro H locs ls hP hD hS hl
  exact lv_irem hx hb hd hy (k H locs ls hP hD hS hl)
theorem G.ldiv (C : gX X t R cc nL own) {x y : Int64} (hd : decode cc pc = .ok (.ldiv, 1)) {β : Type} {o : Option β} {r : β} (h : nzl y o = some r) (k : o = some r → G X cs (pc + 1) lv (.long (x / y) :: st)) : G X cs pc lv (.long y :: .long x :: st) := by
  obtain ⟨p, l, e, R0, s, m, args, below, meth, c, D, A, cells, slots, Q⟩ := X
  obtain ⟨hRR, hx, hb, hml, ho, hroom, hw, hK, hA, hSt⟩ := C
  intro H locs ls hP hD hS hl
  exact lv_ldiv hx hb hd (nzl_some h).1 (k (nzl_some h).2 H locs ls hP hD hS hl)
theorem G.ldivc (C : gX X t R cc nL own) {x y : Int64} (hd : decode cc pc = .ok (.ldiv, 1)) (hy : ¬ y = 0) (k : G X cs (pc + 1) lv (.long (x / y) :: st)) : G X cs pc lv (.long y :: .long x :: st) := by
  obtain ⟨p, l, e, R0, s, m, args, below, meth, c, D, A, cells, slots, Q⟩ := X
  obtain ⟨hRR, hx, hb, hml, ho, hroom, hw, hK, hA, hSt⟩ := C
  intro H locs ls hP hD hS hl
  exact lv_ldiv hx hb hd hy (k H locs ls hP hD hS hl)
theorem G.lrem (C : gX X t R cc nL own) {x y : Int64} (hd : decode cc pc = .ok (.lrem, 1)) {β : Type} {o : Option β} {r : β} (h : nzl y o = some r) (k : o = some r → G X cs (pc + 1) lv (.long (x - x / y * y) :: st)) : G X cs pc lv (.long y :: .long x :: st) := by
  obtain ⟨p, l, e, R0, s, m, args, below, meth, c, D, A, cells, slots, Q⟩ := X
  obtain ⟨hRR, hx, hb, hml, ho, hroom, hw, hK, hA, hSt⟩ := C
  intro H locs ls hP hD hS hl
  exact lv_lrem hx hb hd (nzl_some h).1 (k (nzl_some h).2 H locs ls hP hD hS hl)
theorem G.lremc (C : gX X t R cc nL own) {x y : Int64} (hd : decode cc pc = .ok (.lrem, 1)) (hy : ¬ y = 0) (k : G X cs (pc + 1) lv (.long (x - x / y * y) :: st)) : G X cs pc lv (.long y :: .long x :: st) := by
  obtain ⟨p, l, e, R0, s, m, args, below, meth, c, D, A, cells, slots, Q⟩ := X
  obtain ⟨hRR, hx, hb, hml, ho, hroom, hw, hK, hA, hSt⟩ := C
  intro H locs ls hP hD hS hl
  exact lv_lrem hx hb hd hy (k H locs ls hP hD hS hl)
theorem G.get (C : gX X t R cc nL own) {ref Cn : String} {T : u_T} {N ci index i j a : Nat} {w : va_W} {fs : List Value} (h1 : cs[i]? = some w) (h2 : w[j]? = some (a, .inr (ci, fs))) (hc : vwCl[ci]? = some (Cn, T, N)) (k : Nat) (hk : k < N) (hlk : Cond.fieldLink own index ref (T k).2.1 (T k).2.2.1 ∈ WS) (hsame : (T k).1 = ref) {v : Value} (hv : fs[k]? = some v) (hd : decode cc pc = .ok (.getfield index, 3)) (kk : G X cs (pc + 3) lv (v :: st)) : G X cs pc lv (.ref a :: st) := by
  obtain ⟨p, l, e, R0, s, m, args, below, meth, c, D, A, cells, slots, Q⟩ := X
  obtain ⟨hRR, hx, hb, hml, ho, hroom, hw, hK, hA, hSt⟩ := C
  intro H locs ls hP hD hS hl
  obtain ⟨q0, hq0, -⟩ := fl_get h1 h2
  exact va_get hx hb hw (clIn hc) ho hK hP q0 hq0 hc k hk (hw _ hlk) (fun x h => by rw [← hsame]; exact h) hv hd (kk H locs ls hP hD hS hl)
theorem G.put (C : gX X t R cc nL own) {ref Cn : String} {T : u_T} {N ci index i j a : Nat} {w w2 : va_W} {fs : List Value} (h1 : cs[i]? = some w) (h2 : w[j]? = some (a, .inr (ci, fs))) (hc : vwCl[ci]? = some (Cn, T, N)) (k : Nat) (hk : k < N) (hlk : Cond.fieldLink own index ref (T k).2.1 (T k).2.2.1 ∈ WS) (hsame : (T k).1 = ref) (hfin : (T k).2.2.2 = false) {ty : FieldType} {v : Value} (hty : tyC ci k = ty) (hn : narrow ty v = v) (hfit : fits ty v = true) (hlen : k < fs.length) (hd : decode cc pc = .ok (.putfield index, 3)) (hw2 : w.set j (a, .inr (ci, fs.set k v)) = w2) (hcs : cs.set i w2 = cs') (kk : G X cs' (pc + 3) lv st) : G X cs pc lv (v :: .ref a :: st) := by
  obtain ⟨p, l, e, R0, s, m, args, below, meth, c, D, A, cells, slots, Q⟩ := X
  obtain ⟨hRR, hx, hb, hml, ho, hroom, hw, hK, hA, hSt⟩ := C
  intro H locs ls hP hD hS hl
  obtain ⟨q0, hq0, hset⟩ := fl_get h1 h2
  refine va_put hx hb hw (clIn hc) (tyC ci) (tyC_ok hc) (nmC hc) ho hK hP hD hS q0 hq0 hc k hk (hw _ hlk) (fun x h => by rw [← hsame]; exact h) hfin (by rw [← hty]; exact tyC_ok hc k hk) hn hfit hlen hd (fun H1 locs1 hP1 hD1 hS1 => ?_)
  rw [hset, hw2, hcs] at hP1 hD1
  exact kk H1 locs1 ls hP1 hD1 hS1 hl
theorem G.iald (C : gX X t R cc nL own) {i j a n : Nat} {w : va_W} {f : Nat → Int32} {ix : Int32} (h1 : cs[i]? = some w) (h2 : w[j]? = some (a, .inl (t 0, n, .inl f))) {β : Type} {o : Option β} {r : β} (h : chk n ix o = some r) (hd : decode cc pc = .ok (.iaload, 1)) (kk : o = some r → G X cs (pc + 1) lv (.int (f ix.toNatClampNeg) :: st)) : G X cs pc lv (.int ix :: .ref a :: st) := by
  obtain ⟨p, l, e, R0, s, m, args, below, meth, c, D, A, cells, slots, Q⟩ := X
  obtain ⟨hRR, hx, hb, hml, ho, hroom, hw, hK, hA, hSt⟩ := C
  intro H locs ls hP hD hS hl
  obtain ⟨q0, hq0, -⟩ := fl_get h1 h2
  exact va_iald hx hb hK hP q0 0 hq0 rfl (chk_some h).1 hd (kk (chk_some h).2 H locs ls hP hD hS hl)
theorem G.iast (C : gX X t R cc nL own) {i j a n : Nat} {w w2 : va_W} {f : Nat → Int32} {ix x : Int32} (h1 : cs[i]? = some w) (h2 : w[j]? = some (a, .inl (t 0, n, .inl f))) {β : Type} {o : Option β} {r : β} (h : chk n ix o = some r) (hd : decode cc pc = .ok (.iastore, 1)) (hw2 : w.set j (a, .inl (t 0, n, .inl (upd f ix.toNatClampNeg x))) = w2) (hcs : cs.set i w2 = cs') (kk : o = some r → G X cs' (pc + 1) lv st) : G X cs pc lv (.int x :: .int ix :: .ref a :: st) := by
  obtain ⟨p, l, e, R0, s, m, args, below, meth, c, D, A, cells, slots, Q⟩ := X
  obtain ⟨hRR, hx, hb, hml, ho, hroom, hw, hK, hA, hSt⟩ := C
  intro H locs ls hP hD hS hl
  obtain ⟨q0, hq0, hset⟩ := fl_get h1 h2
  refine va_iast hx hb hK hP hD hS q0 0 hq0 rfl (chk_some h).1 hd (fun H1 locs1 hP1 hD1 hS1 => ?_)
  rw [hset, hw2, hcs] at hP1 hD1
  exact kk (chk_some h).2 H1 locs1 ls hP1 hD1 hS1 hl
theorem G.zald (C : gX X t R cc nL own) {i j a n : Nat} {w : va_W} {f : Nat → Int32} {ix : Int32} (h1 : cs[i]? = some w) (h2 : w[j]? = some (a, .inl (t 1, n, .inl f))) {β : Type} {o : Option β} {r : β} (h : chk n ix o = some r) (hd : decode cc pc = .ok (.baload, 1)) (kk : o = some r → G X cs (pc + 1) lv (.int (f ix.toNatClampNeg) :: st)) : G X cs pc lv (.int ix :: .ref a :: st) := by
  obtain ⟨p, l, e, R0, s, m, args, below, meth, c, D, A, cells, slots, Q⟩ := X
  obtain ⟨hRR, hx, hb, hml, ho, hroom, hw, hK, hA, hSt⟩ := C
  intro H locs ls hP hD hS hl
  obtain ⟨q0, hq0, -⟩ := fl_get h1 h2
  exact va_zald hx hb hK hP q0 1 hq0 rfl (chk_some h).1 hd (kk (chk_some h).2 H locs ls hP hD hS hl)
theorem G.zast (C : gX X t R cc nL own) {i j a n : Nat} {w w2 : va_W} {f : Nat → Int32} {ix x : Int32} (h1 : cs[i]? = some w) (h2 : w[j]? = some (a, .inl (t 1, n, .inl f))) {β : Type} {o : Option β} {r : β} (h : chk n ix o = some r) (hd : decode cc pc = .ok (.bastore, 1)) (hx1 : vp_nar .boolean x = x) (hw2 : w.set j (a, .inl (t 1, n, .inl (upd f ix.toNatClampNeg x))) = w2) (hcs : cs.set i w2 = cs') (kk : o = some r → G X cs' (pc + 1) lv st) : G X cs pc lv (.int x :: .int ix :: .ref a :: st) := by
  obtain ⟨p, l, e, R0, s, m, args, below, meth, c, D, A, cells, slots, Q⟩ := X
  obtain ⟨hRR, hx, hb, hml, ho, hroom, hw, hK, hA, hSt⟩ := C
  intro H locs ls hP hD hS hl
  obtain ⟨q0, hq0, hset⟩ := fl_get h1 h2
  refine va_zast hx hb hK hP hD hS q0 1 hq0 rfl (chk_some h).1 hd (fun H1 locs1 hP1 hD1 hS1 => ?_)
  rw [hx1] at hP1 hD1
  rw [hset, hw2, hcs] at hP1 hD1
  exact kk (chk_some h).2 H1 locs1 ls hP1 hD1 hS1 hl
theorem G.alen (C : gX X t R cc nL own) {i j a n : Nat} {w : va_W} {f : Nat → Int32} {v : Int32} (h1 : cs[i]? = some w) (h2 : w[j]? = some (a, .inl (t 0, n, .inl f))) (hv : Int32.ofNat n = v) (hd : decode cc pc = .ok (.arraylength, 1)) (kk : G X cs (pc + 1) lv (.int v :: st)) : G X cs pc lv (.ref a :: st) := by
  obtain ⟨p, l, e, R0, s, m, args, below, meth, c, D, A, cells, slots, Q⟩ := X
  obtain ⟨hRR, hx, hb, hml, ho, hroom, hw, hK, hA, hSt⟩ := C
  intro H locs ls hP hD hS hl
  obtain ⟨q0, hq0, -⟩ := fl_get h1 h2
  exact va_alen hx hb hK hP q0 0 hq0 (ty := .int) rfl hv hd (kk H locs ls hP hD hS hl)
theorem G.aldS (C : gX X t R cc nL own) {i j a n b : Nat} {w : va_W} {f : Nat → Option Nat} {ix : Int32} (h1 : cs[i]? = some w) (h2 : w[j]? = some (a, .inl (t 2, n, .inr (.inr (.inr (.inr f)))))) {β : Type} {o : Option β} {r : β} (h : chk n ix o = some r) (hf : f ix.toNatClampNeg = some b) (hd : decode cc pc = .ok (.aaload, 1)) (kk : o = some r → G X cs (pc + 1) lv (.ref b :: st)) : G X cs pc lv (.int ix :: .ref a :: st) := by
  obtain ⟨p, l, e, R0, s, m, args, below, meth, c, D, A, cells, slots, Q⟩ := X
  obtain ⟨hRR, hx, hb, hml, ho, hroom, hw, hK, hA, hSt⟩ := C
  intro H locs ls hP hD hS hl
  obtain ⟨q0, hq0, -⟩ := fl_get h1 h2
  refine va_aldq hx hb hK hP q0 2 hq0 (C := "RabbitList$Stage") rfl (chk_some h).1 hd ?_
  rw [hf]
  exact kk (chk_some h).2 H locs ls hP hD hS hl
def cpk {β : Type} (n0 n1 : Nat) (sp dp n : Int32) (o : Option β) : Option β := if sp < 0 ∨ dp < 0 ∨ n < 0 ∨ n0 < sp.toNatClampNeg + n.toNatClampNeg ∨ n1 < dp.toNatClampNeg + n.toNatClampNeg then none else o
theorem cpk_some {β : Type} {n0 n1 : Nat} {sp dp n : Int32} {o : Option β} {r : β} (h : cpk n0 n1 sp dp n o = some r) : (¬ sp < 0 ∧ ¬ dp < 0 ∧ ¬ n < 0 ∧ sp.toNatClampNeg + n.toNatClampNeg ≤ n0 ∧ dp.toNatClampNeg + n.toNatClampNeg ≤ n1) ∧ o = some r := by
  unfold cpk at h
  split at h
  · cases h
  · rename_i hn
    simp only [not_or, Nat.not_lt] at hn
    exact ⟨hn, h⟩
theorem G.copy (C : gX X t R cc nL own) {index i0 j0 i1 j1 a0 a1 n0 n1 : Nat} {w0 w1 w2 : va_W} {f g : Nat → Int32} {sp dp n : Int32} (hlk : Cond.methodLink own index arraycopyName ∈ WS) (hnat : Cond.native arraycopyName ∈ WS) (hsta : Cond.static arraycopyName ∈ WS) (hini : Cond.initialized "java/lang/System" ∈ WS) (hfr : 1 ≤ R.frames) (hlo : (st.map fun v => v.category).sum + (nativeFrameWords "java/lang/System" "arraycopy" 5 + 11) ≤ R.locals) (h1 : cs[i0]? = some w0) (h2 : w0[j0]? = some (a0, .inl (t 0, n0, .inl f))) (h3 : cs[i1]? = some w1) (h4 : w1[j1]? = some (a1, .inl (t 0, n1, .inl g))) {β : Type} {o : Option β} {r : β} (h : cpk n0 n1 sp dp n o = some r) (hd : decode cc pc = .ok (.invokestatic index, 3)) (hw2 : w1.set j1 (a1, .inl (t 0, n1, .inl (va_cpy f g sp.toNatClampNeg dp.toNatClampNeg n.toNatClampNeg))) = w2) (hcs : cs.set i1 w2 = cs') (kk : o = some r → G X cs' (pc + 3) lv st) : G X cs pc lv (.int n :: .int dp :: .ref a1 :: .int sp :: .ref a0 :: st) := by
  obtain ⟨p, l, e, R0, s, m, args, below, meth, c, D, A, cells, slots, Q⟩ := X
  obtain ⟨hRR, hx, hb, hml, ho, hroom, hw, hK, hA, hSt⟩ := C
  intro H locs ls hP hD hS hl
  obtain ⟨q0, hq0, -⟩ := fl_get h1 h2
  obtain ⟨q1, hq1, hset⟩ := fl_get h3 h4
  obtain ⟨⟨g1, g2, g3, g4, g5⟩, hr⟩ := cpk_some h
  subst hRR
  refine va_copyi hx hb hl.1.symm ho (hw _ hlk) (hw _ hnat) (hw _ hsta) (hw _ hini) hK hP hD hS q0 q1 0 0 hq0 hq1 (ty := .int) rfl rfl rfl g1 g2 g3 g4 g5 (fun _ _ => rfl) hfr hlo hd (fun H1 locs1 hP1 hD1 hS1 => ?_)
  rw [hset, hw2, hcs] at hP1 hD1
  exact kk hr H1 locs1 ls hP1 hD1 hS1 hl
def RetI (X : Cx) (cc : ByteArray) (a : Int32) (cs : List va_W) : Prop := ∀ (pc : Nat) (lv : List (Nat × Value)), decode cc pc = .ok (.ireturn, 1) → G X cs pc lv [.int a]
def RetZ (X : Cx) (cc : ByteArray) (a : Int32) (cs : List va_W) : Prop := (a = 0 ∨ a = 1) → ∀ (pc : Nat) (lv : List (Nat × Value)), decode cc pc = .ok (.ireturn, 1) → G X cs pc lv [.int a]
def RetB (X : Cx) (cc : ByteArray) (a : Int32) (cs : List va_W) : Prop := narrow .byte (.int a) = .int a → ∀ (pc : Nat) (lv : List (Nat × Value)), decode cc pc = .ok (.ireturn, 1) → G X cs pc lv [.int a]
def RetL (X : Cx) (cc : ByteArray) (a : Int64) (cs : List va_W) : Prop := ∀ (pc : Nat) (lv : List (Nat × Value)), decode cc pc = .ok (.lreturn, 1) → G X cs pc lv [.long a]
def RetV (X : Cx) (cc : ByteArray) (cs : List va_W) : Prop := ∀ (pc : Nat) (lv : List (Nat × Value)), decode cc pc = .ok (.return_, 1) → G X cs pc lv []
-- contracts: called with av over cs0, it answers a, the world is cs1 then
def preC (D : va_G) (t : Nat → ClassId) (cs0 : List va_W) (sz : Nat) : State → Prop := fun U => U.heap.size = sz ∧ va_P D vwCl cs0.flatten U.heap ∧ va_K D vwCl (tysOf t) U ∧ va_D (fun _ => True) cs0.flatten ∧ Stat t (va_A cs0.flatten sz) U U.heap
def posC (D : va_G) (t : Nat → ClassId) (cs0 cs1 : List va_W) (sz : Nat) : Unit → State → Prop := fun _ U => va_P D vwCl cs1.flatten U.heap ∧ va_K D vwCl (tysOf t) U ∧ va_D (va_A cs0.flatten sz) cs1.flatten
def CI (t : Nat → ClassId) (y : MethodName) (cd : ByteArray) (ml : Nat) (ret : Option FieldType) (rc : Room) (av : List Value) (cs0 : List va_W) (a : Int32) (cs1 : List va_W) : Prop := ∀ (D : va_G) (l : Launch) (sz : Nat), Met l y (.code y cd ml ret :: WS) rc (va_Pc av (preC D t cs0 sz)) (va_Qi (fun (x : Int32) (_ : Unit) => x = a) (posC D t cs0 cs1 sz) (va_A cs0.flatten sz)) 0 0 (va_A cs0.flatten sz)
def CL (t : Nat → ClassId) (y : MethodName) (cd : ByteArray) (ml : Nat) (ret : Option FieldType) (rc : Room) (av : List Value) (cs0 : List va_W) (a : Int64) (cs1 : List va_W) : Prop := ∀ (D : va_G) (l : Launch) (sz : Nat), Met l y (.code y cd ml ret :: WS) rc (va_Pc av (preC D t cs0 sz)) (va_Ql (fun (x : Int64) (_ : Unit) => x = a) (posC D t cs0 cs1 sz) (va_A cs0.flatten sz)) 0 0 (va_A cs0.flatten sz)
def CV (t : Nat → ClassId) (y : MethodName) (cd : ByteArray) (ml : Nat) (ret : Option FieldType) (rc : Room) (av : List Value) (cs0 : List va_W) (cs1 : List va_W) : Prop := ∀ (D : va_G) (l : Launch) (sz : Nat), Met l y (.code y cd ml ret :: WS) rc (va_Pc av (preC D t cs0 sz)) (va_Qv (fun (_ : Unit) => True) (posC D t cs0 cs1 sz) (va_A cs0.flatten sz)) 0 0 (va_A cs0.flatten sz)
theorem preC.blind {D : va_G} {cs0 : List va_W} {sz : Nat} {av : List Value} : FrameBlind (va_Pc av (preC D t cs0 sz)) := fun a U g mk q => by
  obtain ⟨q0, q1, qP, qK, qD, qS⟩ := q
  exact ⟨q0, q1, qP, va_K.moved (u := U) (U := U.calling g mk a) (Vm.Alike.refl U.vm) qK, qD, qS.blind g mk a⟩
theorem CI.of {y : MethodName} {cd : ByteArray} {ml : Nat} {rc : Room} {av : List Value} {cs0 cs1 : List va_W} {a : Int32} (hy : plainName y.cls = true) (hcl : y.cls = own) (hsl : (lg_sl av).length ≤ ml) (body : ∀ X : Cx, gX X t rc cd ml own → RetI X cd a cs1 → G X cs0 0 (lv_args 0 av) []) : CI t y cd ml (some .int) rc av cs0 a cs1 := by
  intro D l sz
  refine Met.ofW (cc := cd) (maxL := ml) (ret := (some .int)) hy rfl ?_
  intro p e s m args below meth c s₁ B hml hv
  obtain ⟨rfl, hsz, hP, hK, hD0, hSt⟩ := hv
  subst hsz
  have hx := B.exec
  have hb := B.bytes
  have hr := B.returns
  have hts := atoms_spec (ws := Cond.code y cd ml (some .int) :: WS) B.pre
  have hown : s.vm.findClass own = some m.cls := by rw [← hcl]; exact findClass_of_methodNamed B.named
  have hlocks := B.notSynchronized
  have C : gX (p, l, e, rc, s, m, av.toArray, below, meth, c, D, va_A cs0.flatten s.heap.size, 0, 0, MQ below (va_Qi (fun (x : Int32) (_ : Unit) => x = a) (posC D t cs0 cs1 s.heap.size) (va_A cs0.flatten s.heap.size)) av.toArray s 0 0 (va_A cs0.flatten s.heap.size)) t rc cd ml own := ⟨rfl, hx, hb, hml, hown, ⟨Nat.zero_le _, Nat.zero_le _⟩, fun w hw => hts w (List.mem_cons_of_mem _ hw), hK, fun q h => Or.inr h, hSt⟩
  have h0 := body _ C (by
    intro pc lv hd H locs ls hP1 hD1 hS hl
    exact W.iret hx hb hr (fun u ht hW => ⟨⟨a, (), rfl, rfl, by rw [ht]; exact hP1, va_K.moved hW.alike hK, hD1⟩, hS.F ht⟩) hS.2.2 hd) s.heap [] _ hP hD0.self va_S.rf (by rw [hml]; exact lv_entry av hsl)
  rw [lg_entry_eq]
  exact h0
theorem CZ.of {y : MethodName} {cd : ByteArray} {ml : Nat} {rc : Room} {av : List Value} {cs0 cs1 : List va_W} {a : Int32} (hy : plainName y.cls = true) (hcl : y.cls = own) (hsl : (lg_sl av).length ≤ ml) (body : ∀ X : Cx, gX X t rc cd ml own → RetZ X cd a cs1 → G X cs0 0 (lv_args 0 av) []) : CI t y cd ml (some .boolean) rc av cs0 a cs1 := by
  intro D l sz
  refine Met.ofW (cc := cd) (maxL := ml) (ret := (some .boolean)) hy rfl ?_
  intro p e s m args below meth c s₁ B hml hv
  obtain ⟨rfl, hsz, hP, hK, hD0, hSt⟩ := hv
  subst hsz
  have hx := B.exec
  have hb := B.bytes
  have hr := B.returns
  have hts := atoms_spec (ws := Cond.code y cd ml (some .boolean) :: WS) B.pre
  have hown : s.vm.findClass own = some m.cls := by rw [← hcl]; exact findClass_of_methodNamed B.named
  have hlocks := B.notSynchronized
  have C : gX (p, l, e, rc, s, m, av.toArray, below, meth, c, D, va_A cs0.flatten s.heap.size, 0, 0, MQ below (va_Qi (fun (x : Int32) (_ : Unit) => x = a) (posC D t cs0 cs1 s.heap.size) (va_A cs0.flatten s.heap.size)) av.toArray s 0 0 (va_A cs0.flatten s.heap.size)) t rc cd ml own := ⟨rfl, hx, hb, hml, hown, ⟨Nat.zero_le _, Nat.zero_le _⟩, fun w hw => hts w (List.mem_cons_of_mem _ hw), hK, fun q h => Or.inr h, hSt⟩
  have h0 := body _ C (by
    intro hz pc lv hd H locs ls hP1 hD1 hS hl
    exact W.zret hx hb hr (by rcases hz with rfl | rfl <;> rfl) (fun u ht hW => ⟨⟨a, (), rfl, rfl, by rw [ht]; exact hP1, va_K.moved hW.alike hK, hD1⟩, hS.F ht⟩) hS.2.2 hd) s.heap [] _ hP hD0.self va_S.rf (by rw [hml]; exact lv_entry av hsl)
  rw [lg_entry_eq]
  exact h0
theorem CB.of {y : MethodName} {cd : ByteArray} {ml : Nat} {rc : Room} {av : List Value} {cs0 cs1 : List va_W} {a : Int32} (hy : plainName y.cls = true) (hcl : y.cls = own) (hsl : (lg_sl av).length ≤ ml) (body : ∀ X : Cx, gX X t rc cd ml own → RetB X cd a cs1 → G X cs0 0 (lv_args 0 av) []) : CI t y cd ml (some .byte) rc av cs0 a cs1 := by
  intro D l sz
  refine Met.ofW (cc := cd) (maxL := ml) (ret := (some .byte)) hy rfl ?_
  intro p e s m args below meth c s₁ B hml hv
  obtain ⟨rfl, hsz, hP, hK, hD0, hSt⟩ := hv
  subst hsz
  have hx := B.exec
  have hb := B.bytes
  have hr := B.returns
  have hts := atoms_spec (ws := Cond.code y cd ml (some .byte) :: WS) B.pre
  have hown : s.vm.findClass own = some m.cls := by rw [← hcl]; exact findClass_of_methodNamed B.named
  have hlocks := B.notSynchronized
  have C : gX (p, l, e, rc, s, m, av.toArray, below, meth, c, D, va_A cs0.flatten s.heap.size, 0, 0, MQ below (va_Qi (fun (x : Int32) (_ : Unit) => x = a) (posC D t cs0 cs1 s.heap.size) (va_A cs0.flatten s.heap.size)) av.toArray s 0 0 (va_A cs0.flatten s.heap.size)) t rc cd ml own := ⟨rfl, hx, hb, hml, hown, ⟨Nat.zero_le _, Nat.zero_le _⟩, fun w hw => hts w (List.mem_cons_of_mem _ hw), hK, fun q h => Or.inr h, hSt⟩
  have h0 := body _ C (by
    intro hz pc lv hd H locs ls hP1 hD1 hS hl
    exact W.zret hx hb hr hz (fun u ht hW => ⟨⟨a, (), rfl, rfl, by rw [ht]; exact hP1, va_K.moved hW.alike hK, hD1⟩, hS.F ht⟩) hS.2.2 hd) s.heap [] _ hP hD0.self va_S.rf (by rw [hml]; exact lv_entry av hsl)
  rw [lg_entry_eq]
  exact h0
theorem CL.of {y : MethodName} {cd : ByteArray} {ml : Nat} {rc : Room} {av : List Value} {cs0 cs1 : List va_W} {a : Int64} (hy : plainName y.cls = true) (hcl : y.cls = own) (hsl : (lg_sl av).length ≤ ml) (body : ∀ X : Cx, gX X t rc cd ml own → RetL X cd a cs1 → G X cs0 0 (lv_args 0 av) []) : CL t y cd ml (some .long) rc av cs0 a cs1 := by
  intro D l sz
  refine Met.ofW (cc := cd) (maxL := ml) (ret := (some .long)) hy rfl ?_
  intro p e s m args below meth c s₁ B hml hv
  obtain ⟨rfl, hsz, hP, hK, hD0, hSt⟩ := hv
  subst hsz
  have hx := B.exec
  have hb := B.bytes
  have hr := B.returns
  have hts := atoms_spec (ws := Cond.code y cd ml (some .long) :: WS) B.pre
  have hown : s.vm.findClass own = some m.cls := by rw [← hcl]; exact findClass_of_methodNamed B.named
  have hlocks := B.notSynchronized
  have C : gX (p, l, e, rc, s, m, av.toArray, below, meth, c, D, va_A cs0.flatten s.heap.size, 0, 0, MQ below (va_Ql (fun (x : Int64) (_ : Unit) => x = a) (posC D t cs0 cs1 s.heap.size) (va_A cs0.flatten s.heap.size)) av.toArray s 0 0 (va_A cs0.flatten s.heap.size)) t rc cd ml own := ⟨rfl, hx, hb, hml, hown, ⟨Nat.zero_le _, Nat.zero_le _⟩, fun w hw => hts w (List.mem_cons_of_mem _ hw), hK, fun q h => Or.inr h, hSt⟩
  have h0 := body _ C (by
    intro pc lv hd H locs ls hP1 hD1 hS hl
    exact W.lret hx hb hr (fun u ht hW => ⟨⟨a, (), rfl, rfl, by rw [ht]; exact hP1, va_K.moved hW.alike hK, hD1⟩, hS.F ht⟩) hS.2.2 hd) s.heap [] _ hP hD0.self va_S.rf (by rw [hml]; exact lv_entry av hsl)
  rw [lg_entry_eq]
  exact h0
theorem CV.of {y : MethodName} {cd : ByteArray} {ml : Nat} {rc : Room} {av : List Value} {cs0 cs1 : List va_W} (hy : plainName y.cls = true) (hcl : y.cls = own) (hsl : (lg_sl av).length ≤ ml) (body : ∀ X : Cx, gX X t rc cd ml own → RetV X cd cs1 → G X cs0 0 (lv_args 0 av) []) : CV t y cd ml none rc av cs0 cs1 := by
  intro D l sz
  refine Met.ofW (cc := cd) (maxL := ml) (ret := none) hy rfl ?_
  intro p e s m args below meth c s₁ B hml hv
  obtain ⟨rfl, hsz, hP, hK, hD0, hSt⟩ := hv
  subst hsz
  have hx := B.exec
  have hb := B.bytes
  have hr := B.returns
  have hts := atoms_spec (ws := Cond.code y cd ml none :: WS) B.pre
  have hown : s.vm.findClass own = some m.cls := by rw [← hcl]; exact findClass_of_methodNamed B.named
  have hlocks := B.notSynchronized
  have C : gX (p, l, e, rc, s, m, av.toArray, below, meth, c, D, va_A cs0.flatten s.heap.size, 0, 0, MQ below (va_Qv (fun (_ : Unit) => True) (posC D t cs0 cs1 s.heap.size) (va_A cs0.flatten s.heap.size)) av.toArray s 0 0 (va_A cs0.flatten s.heap.size)) t rc cd ml own := ⟨rfl, hx, hb, hml, hown, ⟨Nat.zero_le _, Nat.zero_le _⟩, fun w hw => hts w (List.mem_cons_of_mem _ hw), hK, fun q h => Or.inr h, hSt⟩
  have h0 := body _ C (by
    intro pc lv hd H locs ls hP1 hD1 hS hl
    exact W.vret hx hb hr (fun u ht hW => ⟨⟨(), rfl, trivial, by rw [ht]; exact hP1, va_K.moved hW.alike hK, hD1⟩, hS.F ht⟩) hS.2.2 hd) s.heap [] _ hP hD0.self va_S.rf (by rw [hml]; exact lv_entry av hsl)
  rw [lg_entry_eq]
  exact h0
/-- what the tables say of a callee -/
def CalV (y : MethodName) (cd : ByteArray) (ml : Nat) (ret : Option FieldType) (n : Nat) : Prop := Cond.instanceMethod y ∈ WS ∧ Cond.selects y.cls y y ∈ WS ∧ Cond.initialized y.cls ∈ WS ∧ Cond.code y cd ml ret ∈ WS ∧ y.cls ≠ "java/lang/invoke/MethodHandle" ∧ y.cls ≠ "java/lang/invoke/VarHandle" ∧ (parseMethodDescriptor y.desc).map (fun d => d.parameters.length) = some n
def CalS (y : MethodName) (cd : ByteArray) (ml : Nat) (ret : Option FieldType) (n : Nat) : Prop := Cond.static y ∈ WS ∧ Cond.initialized y.cls ∈ WS ∧ Cond.code y cd ml ret ∈ WS ∧ y.cls ≠ "java/lang/invoke/MethodHandle" ∧ y.cls ≠ "java/lang/invoke/VarHandle" ∧ (parseMethodDescriptor y.desc).map (fun d => d.parameters.length) = some n
theorem ws_GI {y : MethodName} {cd : ByteArray} {ml : Nat} {ret : Option FieldType} (h : Cond.code y cd ml ret ∈ WS) : GoodIn WS (Cond.code y cd ml ret :: WS) := by
  intro w hw
  rcases List.mem_cons.mp hw with rfl | hw
  · exact ⟨h, ws_good h⟩
  · exact ⟨hw, ws_good hw⟩
theorem ws_GV {y : MethodName} {cd : ByteArray} {ml n idx : Nat} {ret : Option FieldType} (h : CalV y cd ml ret n) (hl : Cond.methodLink own idx y ∈ WS) : GoodIn WS (wsV own idx y.cls y (Cond.code y cd ml ret :: WS)) := by
  obtain ⟨h1, h2, h3, h4, -⟩ := h
  intro w hw
  rcases List.mem_append.mp hw with hw | hw
  · have : w ∈ WS := by
      simp only [List.mem_cons, List.not_mem_nil, or_false] at hw
      rcases hw with rfl | rfl | rfl | rfl <;> assumption
    exact ⟨this, ws_good this⟩
  · exact ws_GI h4 w hw
theorem ws_GS {y : MethodName} {cd : ByteArray} {ml n idx : Nat} {ret : Option FieldType} (h : CalS y cd ml ret n) (hl : Cond.methodLink own idx y ∈ WS) : GoodIn WS (va_wsS own idx y (Cond.code y cd ml ret :: WS)) := by
  obtain ⟨h1, h2, h3, -⟩ := h
  intro w hw
  rcases List.mem_append.mp hw with hw | hw
  · have : w ∈ WS := by
      simp only [List.mem_cons, List.not_mem_nil, or_false] at hw
      rcases hw with rfl | rfl | rfl <;> assumption
    exact ⟨this, ws_good this⟩
  · exact ws_GI h3 w hw
def Fit (rc R : Room) (ml : Nat) : Prop := rc.cells = 0 ∧ rc.slots = 0 ∧ rc.frames + 1 ≤ R.frames ∧ 8 + (ml + 11) + rc.locals ≤ R.locals
theorem fit_rm {a b ml : Nat} (h : a < b) (hm : ml ≤ 21) : Fit (rm a) (rm b) ml := ⟨rfl, rfl, h, by show 8 + (ml + 11) + 40 * a ≤ 40 * b; omega⟩
theorem G.cvI (C : gX X t R cc nL own) {y : MethodName} {cd : ByteArray} {ml idx i0 j0 b ci N : Nat} {ret : Option FieldType} {rc : Room} {As stk : List Value} {cs0 cs1 : List va_W} {w0 : va_W} {fs : List Value} {T : u_T} {a : Int32} (hM : CI t y cd ml ret rc (.ref b :: As) cs0 a cs1) (J : List Nat) (hJ : J.map (fun i => cs[i]?) = cs0.map some) (hn : va_nd J = true) (ha : ads cs1 = ads cs0) (hcs : putAt J cs1 cs = cs') (h1 : cs[i0]? = some w0) (h2 : w0[j0]? = some (b, .inr (ci, fs))) (hc : vwCl[ci]? = some (y.cls, T, N)) (hlk : Cond.methodLink own idx y ∈ WS) (hcal : CalV y cd ml ret As.length) (hfit : Fit rc R ml) (hst : stk = As.reverse ++ .ref b :: st) (hsum : (st.map fun v => v.category).sum ≤ 8) (hd : decode cc pc = .ok (.invokevirtual idx, 3)) (kk : G X cs' (pc + 3) lv (.int a :: st)) : G X cs pc lv stk := by
  obtain ⟨p, l, e, R0, s, m, args, below, meth, c, D, A, cells, slots, Q⟩ := X
  obtain ⟨hRR, hx, hb, hml, ho, hroom, hw, hK, hA, hSt⟩ := C
  intro H locs ls hP hD hS hl
  obtain ⟨q0, hq0, -⟩ := fl_get h1 h2
  subst hRR
  have hc0 : (0 : Nat) ≤ R0.cells := Nat.zero_le _
  have hPc := cut_P hJ hP
  have hDc := cut_D hn hJ hD
  have hFc := cut_A hJ hD hA hS.1
  refine va_calli (va_runV (As := As) (rest := st) ⟨hx, hb, hml, ho, hw⟩ (hM D l H.size) (cwV As.length hw (ws_GV hcal hlk) rfl hfit.1 hfit.2.1 ⟨rfl, hcal.2.2.2.2⟩ hfit.2.2) ⟨preC.blind, va_recv hK hP hc hq0, fun U hU hW => ⟨rfl, by rw [hU], by rw [hU]; exact hPc, va_K.moved hW.alike hK, hDc.weaken (fun _ _ _ _ => trivial), by rw [hU]; exact hSt.at hW hS.2.1 hFc⟩⟩ rfl rfl (by rw [← hml]; exact hl.1) hst (lv_room hsum) hd hroom) hS (fun q _ h => hFc q h) hFc (fun x u t2 H1 locs1 ht hvm hpx hB hz1 hk1 hS1 => ?_)
  obtain ⟨hP1, -, -⟩ := hB
  rw [ht] at hP1
  subst hpx
  obtain ⟨hP2, hD2⟩ := cut_join hP hD hJ ha hk1 hP1
  rw [hcs] at hP2 hD2
  exact kk H1 locs1 ls hP2 hD2 hS1 hl
theorem G.csI (C : gX X t R cc nL own) {y : MethodName} {cd : ByteArray} {ml idx : Nat} {ret : Option FieldType} {rc : Room} {As stk : List Value} {cs0 cs1 : List va_W} {a : Int32} (hM : CI t y cd ml ret rc As cs0 a cs1) (J : List Nat) (hJ : J.map (fun i => cs[i]?) = cs0.map some) (hn : va_nd J = true) (ha : ads cs1 = ads cs0) (hcs : putAt J cs1 cs = cs') (hlk : Cond.methodLink own idx y ∈ WS) (hcal : CalS y cd ml ret As.length) (hfit : Fit rc R ml) (hst : stk = As.reverse ++ st) (hsum : (st.map fun v => v.category).sum ≤ 8) (hd : decode cc pc = .ok (.invokestatic idx, 3)) (kk : G X cs' (pc + 3) lv (.int a :: st)) : G X cs pc lv stk := by
  obtain ⟨p, l, e, R0, s, m, args, below, meth, c, D, A, cells, slots, Q⟩ := X
  obtain ⟨hRR, hx, hb, hml, ho, hroom, hw, hK, hA, hSt⟩ := C
  intro H locs ls hP hD hS hl
  subst hRR
  have hPc := cut_P hJ hP
  have hDc := cut_D hn hJ hD
  have hFc := cut_A hJ hD hA hS.1
  refine va_calli (va_runS (As := As) (rest := st) ⟨hx, hb, hml, ho, hw⟩ (hM D l H.size) (va_cwS As.length hw (ws_GS hcal hlk) rfl hfit.1 hfit.2.1 hcal.2.2.2 hfit.2.2) ⟨preC.blind, fun U hU hW => ⟨rfl, by rw [hU], by rw [hU]; exact hPc, va_K.moved hW.alike hK, hDc.weaken (fun _ _ _ _ => trivial), by rw [hU]; exact hSt.at hW hS.2.1 hFc⟩⟩ rfl rfl (by rw [← hml]; exact hl.1) hst (lv_room hsum) hd hroom) hS (fun q _ h => hFc q h) hFc (fun x u t2 H1 locs1 ht hvm hpx hB hz1 hk1 hS1 => ?_)
  obtain ⟨hP1, -, -⟩ := hB
  rw [ht] at hP1
  subst hpx
  obtain ⟨hP2, hD2⟩ := cut_join hP hD hJ ha hk1 hP1
  rw [hcs] at hP2 hD2
  exact kk H1 locs1 ls hP2 hD2 hS1 hl
theorem G.cvL (C : gX X t R cc nL own) {y : MethodName} {cd : ByteArray} {ml idx i0 j0 b ci N : Nat} {ret : Option FieldType} {rc : Room} {As stk : List Value} {cs0 cs1 : List va_W} {w0 : va_W} {fs : List Value} {T : u_T} {a : Int64} (hM : CL t y cd ml ret rc (.ref b :: As) cs0 a cs1) (J : List Nat) (hJ : J.map (fun i => cs[i]?) = cs0.map some) (hn : va_nd J = true) (ha : ads cs1 = ads cs0) (hcs : putAt J cs1 cs = cs') (h1 : cs[i0]? = some w0) (h2 : w0[j0]? = some (b, .inr (ci, fs))) (hc : vwCl[ci]? = some (y.cls, T, N)) (hlk : Cond.methodLink own idx y ∈ WS) (hcal : CalV y cd ml ret As.length) (hfit : Fit rc R ml) (hst : stk = As.reverse ++ .ref b :: st) (hsum : (st.map fun v => v.category).sum ≤ 8) (hd : decode cc pc = .ok (.invokevirtual idx, 3)) (kk : G X cs' (pc + 3) lv (.long a :: st)) : G X cs pc lv stk := by
  obtain ⟨p, l, e, R0, s, m, args, below, meth, c, D, A, cells, slots, Q⟩ := X
  obtain ⟨hRR, hx, hb, hml, ho, hroom, hw, hK, hA, hSt⟩ := C
  intro H locs ls hP hD hS hl
  obtain ⟨q0, hq0, -⟩ := fl_get h1 h2
  subst hRR
  have hc0 : (0 : Nat) ≤ R0.cells := Nat.zero_le _
  have hPc := cut_P hJ hP
  have hDc := cut_D hn hJ hD
  have hFc := cut_A hJ hD hA hS.1
  refine va_calll (va_runV (As := As) (rest := st) ⟨hx, hb, hml, ho, hw⟩ (hM D l H.size) (cwV As.length hw (ws_GV hcal hlk) rfl hfit.1 hfit.2.1 ⟨rfl, hcal.2.2.2.2⟩ hfit.2.2) ⟨preC.blind, va_recv hK hP hc hq0, fun U hU hW => ⟨rfl, by rw [hU], by rw [hU]; exact hPc, va_K.moved hW.alike hK, hDc.weaken (fun _ _ _ _ => trivial), by rw [hU]; exact hSt.at hW hS.2.1 hFc⟩⟩ rfl rfl (by rw [← hml]; exact hl.1) hst (lv_room hsum) hd hroom) hS (fun q _ h => hFc q h) hFc (fun x u t2 H1 locs1 ht hvm hpx hB hz1 hk1 hS1 => ?_)
  obtain ⟨hP1, -, -⟩ := hB
  rw [ht] at hP1
  subst hpx
  obtain ⟨hP2, hD2⟩ := cut_join hP hD hJ ha hk1 hP1
  rw [hcs] at hP2 hD2
  exact kk H1 locs1 ls hP2 hD2 hS1 hl
theorem G.csL (C : gX X t R cc nL own) {y : MethodName} {cd : ByteArray} {ml idx : Nat} {ret : Option FieldType} {rc : Room} {As stk : List Value} {cs0 cs1 : List va_W} {a : Int64} (hM : CL t y cd ml ret rc As cs0 a cs1) (J : List Nat) (hJ : J.map (fun i => cs[i]?) = cs0.map some) (hn : va_nd J = true) (ha : ads cs1 = ads cs0) (hcs : putAt J cs1 cs = cs') (hlk : Cond.methodLink own idx y ∈ WS) (hcal : CalS y cd ml ret As.length) (hfit : Fit rc R ml) (hst : stk = As.reverse ++ st) (hsum : (st.map fun v => v.category).sum ≤ 8) (hd : decode cc pc = .ok (.invokestatic idx, 3)) (kk : G X cs' (pc + 3) lv (.long a :: st)) : G X cs pc lv stk := by
  obtain ⟨p, l, e, R0, s, m, args, below, meth, c, D, A, cells, slots, Q⟩ := X
  obtain ⟨hRR, hx, hb, hml, ho, hroom, hw, hK, hA, hSt⟩ := C
  intro H locs ls hP hD hS hl
  subst hRR
  have hPc := cut_P hJ hP
  have hDc := cut_D hn hJ hD
  have hFc := cut_A hJ hD hA hS.1
  refine va_calll (va_runS (As := As) (rest := st) ⟨hx, hb, hml, ho, hw⟩ (hM D l H.size) (va_cwS As.length hw (ws_GS hcal hlk) rfl hfit.1 hfit.2.1 hcal.2.2.2 hfit.2.2) ⟨preC.blind, fun U hU hW => ⟨rfl, by rw [hU], by rw [hU]; exact hPc, va_K.moved hW.alike hK, hDc.weaken (fun _ _ _ _ => trivial), by rw [hU]; exact hSt.at hW hS.2.1 hFc⟩⟩ rfl rfl (by rw [← hml]; exact hl.1) hst (lv_room hsum) hd hroom) hS (fun q _ h => hFc q h) hFc (fun x u t2 H1 locs1 ht hvm hpx hB hz1 hk1 hS1 => ?_)
  obtain ⟨hP1, -, -⟩ := hB
  rw [ht] at hP1
  subst hpx
  obtain ⟨hP2, hD2⟩ := cut_join hP hD hJ ha hk1 hP1
  rw [hcs] at hP2 hD2
  exact kk H1 locs1 ls hP2 hD2 hS1 hl
theorem G.cvV (C : gX X t R cc nL own) {y : MethodName} {cd : ByteArray} {ml idx i0 j0 b ci N : Nat} {ret : Option FieldType} {rc : Room} {As stk : List Value} {cs0 cs1 : List va_W} {w0 : va_W} {fs : List Value} {T : u_T} (hM : CV t y cd ml ret rc (.ref b :: As) cs0 cs1) (J : List Nat) (hJ : J.map (fun i => cs[i]?) = cs0.map some) (hn : va_nd J = true) (ha : ads cs1 = ads cs0) (hcs : putAt J cs1 cs = cs') (h1 : cs[i0]? = some w0) (h2 : w0[j0]? = some (b, .inr (ci, fs))) (hc : vwCl[ci]? = some (y.cls, T, N)) (hlk : Cond.methodLink own idx y ∈ WS) (hcal : CalV y cd ml ret As.length) (hfit : Fit rc R ml) (hst : stk = As.reverse ++ .ref b :: st) (hsum : (st.map fun v => v.category).sum ≤ 8) (hd : decode cc pc = .ok (.invokevirtual idx, 3)) (kk : G X cs' (pc + 3) lv (st)) : G X cs pc lv stk := by
  obtain ⟨p, l, e, R0, s, m, args, below, meth, c, D, A, cells, slots, Q⟩ := X
  obtain ⟨hRR, hx, hb, hml, ho, hroom, hw, hK, hA, hSt⟩ := C
  intro H locs ls hP hD hS hl
  obtain ⟨q0, hq0, -⟩ := fl_get h1 h2
  subst hRR
  have hc0 : (0 : Nat) ≤ R0.cells := Nat.zero_le _
  have hPc := cut_P hJ hP
  have hDc := cut_D hn hJ hD
  have hFc := cut_A hJ hD hA hS.1
  refine va_callv (va_runV (As := As) (rest := st) ⟨hx, hb, hml, ho, hw⟩ (hM D l H.size) (cwV As.length hw (ws_GV hcal hlk) rfl hfit.1 hfit.2.1 ⟨rfl, hcal.2.2.2.2⟩ hfit.2.2) ⟨preC.blind, va_recv hK hP hc hq0, fun U hU hW => ⟨rfl, by rw [hU], by rw [hU]; exact hPc, va_K.moved hW.alike hK, hDc.weaken (fun _ _ _ _ => trivial), by rw [hU]; exact hSt.at hW hS.2.1 hFc⟩⟩ rfl rfl (by rw [← hml]; exact hl.1) hst (lv_room hsum) hd hroom) hS (fun q _ h => hFc q h) hFc (fun u t2 H1 locs1 ht hvm hpx hB hz1 hk1 hS1 => ?_)
  obtain ⟨hP1, -, -⟩ := hB
  rw [ht] at hP1
  obtain ⟨hP2, hD2⟩ := cut_join hP hD hJ ha hk1 hP1
  rw [hcs] at hP2 hD2
  exact kk H1 locs1 ls hP2 hD2 hS1 hl
theorem G.csV (C : gX X t R cc nL own) {y : MethodName} {cd : ByteArray} {ml idx : Nat} {ret : Option FieldType} {rc : Room} {As stk : List Value} {cs0 cs1 : List va_W} (hM : CV t y cd ml ret rc As cs0 cs1) (J : List Nat) (hJ : J.map (fun i => cs[i]?) = cs0.map some) (hn : va_nd J = true) (ha : ads cs1 = ads cs0) (hcs : putAt J cs1 cs = cs') (hlk : Cond.methodLink own idx y ∈ WS) (hcal : CalS y cd ml ret As.length) (hfit : Fit rc R ml) (hst : stk = As.reverse ++ st) (hsum : (st.map fun v => v.category).sum ≤ 8) (hd : decode cc pc = .ok (.invokestatic idx, 3)) (kk : G X cs' (pc + 3) lv (st)) : G X cs pc lv stk := by
  obtain ⟨p, l, e, R0, s, m, args, below, meth, c, D, A, cells, slots, Q⟩ := X
  obtain ⟨hRR, hx, hb, hml, ho, hroom, hw, hK, hA, hSt⟩ := C
  intro H locs ls hP hD hS hl
  subst hRR
  have hPc := cut_P hJ hP
  have hDc := cut_D hn hJ hD
  have hFc := cut_A hJ hD hA hS.1
  refine va_callv (va_runS (As := As) (rest := st) ⟨hx, hb, hml, ho, hw⟩ (hM D l H.size) (va_cwS As.length hw (ws_GS hcal hlk) rfl hfit.1 hfit.2.1 hcal.2.2.2 hfit.2.2) ⟨preC.blind, fun U hU hW => ⟨rfl, by rw [hU], by rw [hU]; exact hPc, va_K.moved hW.alike hK, hDc.weaken (fun _ _ _ _ => trivial), by rw [hU]; exact hSt.at hW hS.2.1 hFc⟩⟩ rfl rfl (by rw [← hml]; exact hl.1) hst (lv_room hsum) hd hroom) hS (fun q _ h => hFc q h) hFc (fun u t2 H1 locs1 ht hvm hpx hB hz1 hk1 hS1 => ?_)
  obtain ⟨hP1, -, -⟩ := hB
  rw [ht] at hP1
  obtain ⟨hP2, hD2⟩ := cut_join hP hD hJ ha hk1 hP1
  rw [hcs] at hP2 hD2
  exact kk H1 locs1 ls hP2 hD2 hS1 hl
theorem G.mmin (C : gX X t R cc nL own) {index : Nat} {x y : Int32} (hlk : Cond.methodLink own index Lib.Math.min.name ∈ WS) (hsta : Cond.static Lib.Math.min.name ∈ WS) (hini : Cond.initialized "java/lang/Math" ∈ WS) (hco : Cond.code Lib.Math.min.name Lib.Math.min.code 2 (some .int) ∈ WS) (hfr : 1 ≤ R.frames) (hlo : (st.map fun v => v.category).sum + 13 ≤ R.locals) (hd : decode cc pc = .ok (.invokestatic index, 3)) (kk : G X cs (pc + 3) lv (.int (if y < x then y else x) :: st)) : G X cs pc lv (.int y :: .int x :: st) := by
  obtain ⟨p, l, e, R0, s, m, args, below, meth, c, D, A, cells, slots, Q⟩ := X
  obtain ⟨hRR, hx, hb, hml, ho, hroom, hw, hK, hA, hSt⟩ := C
  intro H locs ls hP hD hS hl
  subst hRR
  exact va_mmin hx hb hl.1.symm ho (hw _ hlk) (hw _ hsta) (hw _ hini) (hw _ hco) hfr hlo hroom.1 hroom.2 hd (kk H locs ls hP hD hS hl)
theorem G.mmax (C : gX X t R cc nL own) {index : Nat} {x y : Int32} (hlk : Cond.methodLink own index Lib.Math.max.name ∈ WS) (hsta : Cond.static Lib.Math.max.name ∈ WS) (hini : Cond.initialized "java/lang/Math" ∈ WS) (hco : Cond.code Lib.Math.max.name Lib.Math.max.code 2 (some .int) ∈ WS) (hfr : 1 ≤ R.frames) (hlo : (st.map fun v => v.category).sum + 13 ≤ R.locals) (hd : decode cc pc = .ok (.invokestatic index, 3)) (kk : G X cs (pc + 3) lv (.int (if x < y then y else x) :: st)) : G X cs pc lv (.int y :: .int x :: st) := by
  obtain ⟨p, l, e, R0, s, m, args, below, meth, c, D, A, cells, slots, Q⟩ := X
  obtain ⟨hRR, hx, hb, hml, ho, hroom, hw, hK, hA, hSt⟩ := C
  intro H locs ls hP hD hS hl
  subst hRR
  exact va_mmax hx hb hl.1.symm ho (hw _ hlk) (hw _ hsta) (hw _ hini) (hw _ hco) hfr hlo hroom.1 hroom.2 hd (kk H locs ls hP hD hS hl)
theorem G.gets (C : gX X t R cc nL own) {Cn n d : String} {index : Nat} {v : Value} (hZ : ∀ {A : Nat → Prop} {U : State} {H : Heap}, Stat t A U H → va_Z Cn n d v A U H) (hlk : Cond.fieldLink own index Cn n d ∈ WS) (hd : decode cc pc = .ok (.getstatic index, 3)) (k : G X cs (pc + 3) lv (v :: st)) : G X cs pc lv st := by
  obtain ⟨p, l, e, R0, s, m, args, below, meth, c, D, A, cells, slots, Q⟩ := X
  obtain ⟨hRR, hx, hb, hml, ho, hroom, hw, hK, hA, hSt⟩ := C
  intro H locs ls hP hD hS hl
  exact va_gets hx hb (hZ hSt) hS ho (hw _ hlk) (fun x h => h) hd (k H locs ls hP hD hS hl)
theorem G.sti (C : gX X t R cc nL own) {q n : Nat} {f : Nat → Int32} {ix : Int32} (hT : ∀ {A : Nat → Prop} {U : State} {H : Heap}, Stat t A U H → va_T .int q n (fun j => .int (f j)) A U H) {β : Type} {o : Option β} {r : β} (h : chk n ix o = some r) (hd : decode cc pc = .ok (.iaload, 1)) (kk : o = some r → G X cs (pc + 1) lv (.int (f ix.toNatClampNeg) :: st)) : G X cs pc lv (.int ix :: .ref q :: st) := by
  obtain ⟨p, l, e, R0, s, m, args, below, meth, c, D, A, cells, slots, Q⟩ := X
  obtain ⟨hRR, hx, hb, hml, ho, hroom, hw, hK, hA, hSt⟩ := C
  intro H locs ls hP hD hS hl
  exact va_ti hx hb (hT hSt) hS (chk_some h).1 rfl hd (kk (chk_some h).2 H locs ls hP hD hS hl)
theorem G.stb (C : gX X t R cc nL own) {q n : Nat} {f : Nat → Int32} {ix : Int32} (hT : ∀ {A : Nat → Prop} {U : State} {H : Heap}, Stat t A U H → va_T .byte q n (fun j => .int (f j)) A U H) {β : Type} {o : Option β} {r : β} (h : chk n ix o = some r) (hd : decode cc pc = .ok (.baload, 1)) (kk : o = some r → G X cs (pc + 1) lv (.int (f ix.toNatClampNeg) :: st)) : G X cs pc lv (.int ix :: .ref q :: st) := by
  obtain ⟨p, l, e, R0, s, m, args, below, meth, c, D, A, cells, slots, Q⟩ := X
  obtain ⟨hRR, hx, hb, hml, ho, hroom, hw, hK, hA, hSt⟩ := C
  intro H locs ls hP hD hS hl
  exact va_tb hx hb (hT hSt) hS (chk_some h).1 rfl hd (kk (chk_some h).2 H locs ls hP hD hS hl)
theorem G.stlen (C : gX X t R cc nL own) {q n : Nat} {ty : FieldType} {f : Nat → Value} {v : Int32} (hT : ∀ {A : Nat → Prop} {U : State} {H : Heap}, Stat t A U H → va_T ty q n f A U H) (hv : Int32.ofNat n = v) (hd : decode cc pc = .ok (.arraylength, 1)) (kk : G X cs (pc + 1) lv (.int v :: st)) : G X cs pc lv (.ref q :: st) := by
  obtain ⟨p, l, e, R0, s, m, args, below, meth, c, D, A, cells, slots, Q⟩ := X
  obtain ⟨hRR, hx, hb, hml, ho, hroom, hw, hK, hA, hSt⟩ := C
  intro H locs ls hP hD hS hl
  exact va_tlen hx hb (hT hSt) hS hv hd (kk H locs ls hP hD hS hl)
theorem G.sgetf (C : gX X t R cc nL own) {q index : Nat} {o n d : String} {v : Value} (hE : ∀ {A : Nat → Prop} {U : State} {H : Heap}, Stat t A U H → va_OF o n d v q A U H) (hlk : Cond.fieldLink own index o n d ∈ WS) (hd : decode cc pc = .ok (.getfield index, 3)) (kk : G X cs (pc + 3) lv (v :: st)) : G X cs pc lv (.ref q :: st) := by
  obtain ⟨p, l, e, R0, s, m, args, below, meth, c, D, A, cells, slots, Q⟩ := X
  obtain ⟨hRR, hx, hb, hml, ho, hroom, hw, hK, hA, hSt⟩ := C
  intro H locs ls hP hD hS hl
  exact vk_getf hx hb (hE hSt) hS ho (hw _ hlk) (fun x h => h) hd (kk H locs ls hP hD hS hl)
theorem G.ldcS (C : gX X t R cc nL RX6) (hd : decode cc pc = .ok (.ldc 79, 2)) (kk : G X cs (pc + 2) lv (.ref (t 13) :: st)) : G X cs pc lv st := by
  obtain ⟨p, l, e, R0, s, m, args, below, meth, c, D, A, cells, slots, Q⟩ := X
  obtain ⟨hRR, hx, hb, hml, ho, hroom, hw, hK, hA, hSt⟩ := C
  intro H locs ls hP hD hS hl
  exact va_ldcS hx hb ho hSt.2.2.2.2.2.2.1 hd (kk H locs ls hP hD hS hl)
theorem G.aldR (C : gX X t R cc nL own) {i j a n b : Nat} {w : va_W} {f : Nat → Option Nat} {ix : Int32} (h1 : cs[i]? = some w) (h2 : w[j]? = some (a, .inl (t 3, n, .inr (.inr (.inr (.inr f)))))) {β : Type} {o : Option β} {r : β} (h : chk n ix o = some r) (hf : f ix.toNatClampNeg = some b) (hd : decode cc pc = .ok (.aaload, 1)) (kk : o = some r → G X cs (pc + 1) lv (.ref b :: st)) : G X cs pc lv (.int ix :: .ref a :: st) := by
  obtain ⟨p, l, e, R0, s, m, args, below, meth, c, D, A, cells, slots, Q⟩ := X
  obtain ⟨hRR, hx, hb, hml, ho, hroom, hw, hK, hA, hSt⟩ := C
  intro H locs ls hP hD hS hl
  obtain ⟨q0, hq0, -⟩ := fl_get h1 h2
  have hlt := chk_lt h
  refine W.aald (v := va_rf (f ix.toNatClampNeg)) (ty := .array .int) hx hb (hP q0 _ hq0) ((hK.2 3 (t 3, .array .int) rfl).1 n (fun j => va_rf (f j))) rfl (fun q => by cases q) (by show ¬ (ix < 0 ∨ (arrV _ _ _).slots.size ≤ _); rw [arrV_size]; exact (chk_some h).1) (by show (arrV _ _ _).slots[_]? = _; rw [arrV_read _ _ hlt]) rfl rfl hd ?_
  rw [hf]
  exact kk (chk_some h).2 H locs ls hP hD hS hl
/-- a call on the text -/
theorem G.cvT (C : gX X t R cc nL own) {y : MethodName} {cd : ByteArray} {ml idx : Nat} {ret : Option FieldType} {rc : Room} {As stk : List Value} {a : Int32} (hM : CI t y cd ml ret rc (.ref (t 13) :: As) [] a []) (hcl : y.cls = "java/lang/String") (hlk : Cond.methodLink own idx y ∈ WS) (hcal : CalV y cd ml ret As.length) (hfit : Fit rc R ml) (hst : stk = As.reverse ++ .ref (t 13) :: st) (hsum : (st.map fun v => v.category).sum ≤ 8) (hd : decode cc pc = .ok (.invokevirtual idx, 3)) (kk : G X cs (pc + 3) lv (.int a :: st)) : G X cs pc lv stk := by
  obtain ⟨p, l, e, R0, s, m, args, below, meth, c, D, A, cells, slots, Q⟩ := X
  obtain ⟨hRR, hx, hb, hml, ho, hroom, hw, hK, hA, hSt⟩ := C
  intro H locs ls hP hD hS hl
  subst hRR
  have hJ : ([] : List Nat).map (fun i => cs[i]?) = ([] : List va_W).map some := rfl
  have hPc := cut_P hJ hP
  have hDc := cut_D (J := []) rfl hJ hD
  have hFc := cut_A hJ hD hA hS.1
  obtain ⟨cell, c1, c2, c3, -⟩ := hSt.2.2.2.2.2.2.2.1.kept hS.2.1
  refine va_calli (va_runV (As := As) (rest := st) ⟨hx, hb, hml, ho, hw⟩ (hM D l H.size) (cwV As.length hw (ws_GV hcal hlk) rfl hfit.1 hfit.2.1 ⟨rfl, hcal.2.2.2.2⟩ hfit.2.2) ⟨preC.blind, ⟨cell, c1, c2, by rw [hcl]; exact c3⟩, fun U hU hW => ⟨rfl, by rw [hU], by rw [hU]; exact hPc, va_K.moved hW.alike hK, hDc.weaken (fun _ _ _ _ => trivial), by rw [hU]; exact hSt.at hW hS.2.1 hFc⟩⟩ rfl rfl (by rw [← hml]; exact hl.1) hst (lv_room hsum) hd hroom) hS (fun q _ h => hFc q h) hFc (fun x u t2 H1 locs1 ht hvm hpx hB hz1 hk1 hS1 => ?_)
  obtain ⟨hP1, -, -⟩ := hB
  rw [ht] at hP1
  subst hpx
  obtain ⟨hP2, hD2⟩ := cut_join hP hD hJ rfl hk1 hP1
  exact kk H1 locs1 ls hP2 hD2 hS1 hl
def RetR (X : Cx) (cc : ByteArray) (b : Nat) (cs : List va_W) : Prop := ∀ (pc : Nat) (lv : List (Nat × Value)), decode cc pc = .ok (.areturn, 1) → G X cs pc lv [.ref b]
def CR (t : Nat → ClassId) (y : MethodName) (cd : ByteArray) (ml : Nat) (ret : Option FieldType) (rc : Room) (av : List Value) (cs0 : List va_W) (b : Nat) (cs1 : List va_W) : Prop := ∀ (D : va_G) (l : Launch) (sz : Nat), Met l y (.code y cd ml ret :: WS) rc (va_Pc av (preC D t cs0 sz)) (va_Qr (fun (_ : Unit) => True) (fun _ x U => x = b ∧ posC D t cs0 cs1 sz () U) (va_A cs0.flatten sz)) 0 0 (va_A cs0.flatten sz)
theorem CR.of {y : MethodName} {cd : ByteArray} {ml : Nat} {rc : Room} {av : List Value} {cs0 cs1 : List va_W} {b : Nat} {cn : String} (hy : plainName y.cls = true) (hcl : y.cls = own) (hsl : (lg_sl av).length ≤ ml) (body : ∀ X : Cx, gX X t rc cd ml own → RetR X cd b cs1 → G X cs0 0 (lv_args 0 av) []) : CR t y cd ml (some (.object cn)) rc av cs0 b cs1 := by
  intro D l sz
  refine Met.ofW (cc := cd) (maxL := ml) (ret := some (.object cn)) hy rfl ?_
  intro p e s m args below meth c s₁ B hml hv
  obtain ⟨rfl, hsz, hP, hK, hD0, hSt⟩ := hv
  subst hsz
  have hx := B.exec
  have hb := B.bytes
  have hr := B.returns
  have hts := atoms_spec (ws := Cond.code y cd ml (some (.object cn)) :: WS) B.pre
  have hown : s.vm.findClass own = some m.cls := by rw [← hcl]; exact findClass_of_methodNamed B.named
  have hlocks := B.notSynchronized
  have C : gX (p, l, e, rc, s, m, av.toArray, below, meth, c, D, va_A cs0.flatten s.heap.size, 0, 0, MQ below (va_Qr (fun (_ : Unit) => True) (fun _ x U => x = b ∧ posC D t cs0 cs1 s.heap.size () U) (va_A cs0.flatten s.heap.size)) av.toArray s 0 0 (va_A cs0.flatten s.heap.size)) t rc cd ml own := ⟨rfl, hx, hb, hml, hown, ⟨Nat.zero_le _, Nat.zero_le _⟩, fun w hw => hts w (List.mem_cons_of_mem _ hw), hK, fun q h => Or.inr h, hSt⟩
  have h0 := body _ C (by
    intro pc lv hd H locs ls hP1 hD1 hS hl
    exact W.aret (v := .ref b) hx hb hr (Or.inl ⟨_, rfl⟩) (Or.inr ⟨_, rfl⟩) (fun u ht hW => ⟨⟨(), b, rfl, trivial, rfl, by rw [ht]; exact hP1, va_K.moved hW.alike hK, hD1⟩, hS.F ht⟩) hS.2.2 hd) s.heap [] _ hP hD0.self va_S.rf (by rw [hml]; exact lv_entry av hsl)
  rw [lg_entry_eq]
  exact h0
theorem G.cvR (C : gX X t R cc nL own) {y : MethodName} {cd : ByteArray} {ml idx i0 j0 b ci N a : Nat} {ret : Option FieldType} {rc : Room} {As stk : List Value} {cs0 cs1 : List va_W} {w0 : va_W} {fs : List Value} {T : u_T} (hM : CR t y cd ml ret rc (.ref b :: As) cs0 a cs1) (J : List Nat) (hJ : J.map (fun i => cs[i]?) = cs0.map some) (hn : va_nd J = true) (ha : ads cs1 = ads cs0) (hcs : putAt J cs1 cs = cs') (h1 : cs[i0]? = some w0) (h2 : w0[j0]? = some (b, .inr (ci, fs))) (hc : vwCl[ci]? = some (y.cls, T, N)) (hlk : Cond.methodLink own idx y ∈ WS) (hcal : CalV y cd ml ret As.length) (hfit : Fit rc R ml) (hst : stk = As.reverse ++ .ref b :: st) (hsum : (st.map fun v => v.category).sum ≤ 8) (hd : decode cc pc = .ok (.invokevirtual idx, 3)) (kk : G X cs' (pc + 3) lv (.ref a :: st)) : G X cs pc lv stk := by
  obtain ⟨p, l, e, R0, s, m, args, below, meth, c, D, A, cells, slots, Q⟩ := X
  obtain ⟨hRR, hx, hb, hml, ho, hroom, hw, hK, hA, hSt⟩ := C
  intro H locs ls hP hD hS hl
  obtain ⟨q0, hq0, -⟩ := fl_get h1 h2
  subst hRR
  have hPc := cut_P hJ hP
  have hDc := cut_D hn hJ hD
  have hFc := cut_A hJ hD hA hS.1
  refine va_callr (va_runV (As := As) (rest := st) ⟨hx, hb, hml, ho, hw⟩ (hM D l H.size) (cwV As.length hw (ws_GV hcal hlk) rfl hfit.1 hfit.2.1 ⟨rfl, hcal.2.2.2.2⟩ hfit.2.2) ⟨preC.blind, va_recv hK hP hc hq0, fun U hU hW => ⟨rfl, by rw [hU], by rw [hU]; exact hPc, va_K.moved hW.alike hK, hDc.weaken (fun _ _ _ _ => trivial), by rw [hU]; exact hSt.at hW hS.2.1 hFc⟩⟩ rfl rfl (by rw [← hml]; exact hl.1) hst (lv_room hsum) hd hroom) hS (fun q _ h => hFc q h) hFc (fun u ra t2 H1 locs1 ht hvm hpx hB hz1 hk1 hS1 => ?_)
  obtain ⟨rfl, hP1, -, -⟩ := hB
  rw [ht] at hP1
  obtain ⟨hP2, hD2⟩ := cut_join hP hD hJ ha hk1 hP1
  rw [hcs] at hP2 hD2
  exact kk H1 locs1 ls hP2 hD2 hS1 hl
def nei {β : Type} (i j : Nat) (o : Option β) : Option β := if i = j then none else o
theorem nei_some {β : Type} {i j : Nat} {o : Option β} {r : β} (h : nei i j o = some r) : ¬ i = j ∧ o = some r := by
  unfold nei at h
  split at h
  · cases h
  · exact ⟨by assumption, h⟩
theorem mj {cs ws : List va_W} {J : List Nat} {j : Nat} {w : va_W} (h : cs[j]? = some w) (ht : J.map (fun i => cs[i]?) = ws.map some) : (j :: J).map (fun i => cs[i]?) = (w :: ws).map some := by rw [List.map_cons, List.map_cons, h, ht]
theorem nd1 {i : Nat} : va_nd [i] = true := by simp [va_nd]
theorem nd2 {i j : Nat} (h : i ≠ j) : va_nd [i, j] = true := by simp [va_nd, h]

end GR
