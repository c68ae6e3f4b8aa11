/-! rows of rows: what the machine's row must give, and the row over worlds -/
def VMna : Prop := ∀ {p : Program} {l : Launch} {e : Env} {R : Room} {s : State} {m : MethodId} {args : Array Value} {below : List Frame} {meth : Method} {c : Code} {H : Heap} {locs : List Loc} {cells slots : Nat} {Q : State → Prop} {pc : Nat} {ls : Array Slot} {rest : List Value} {D : va_G} {cl : List vw_C} {A : Nat → Prop} {tys : List (ClassId × FieldType)} {H0 : Heap} {X : va_W} {cc : ByteArray} {own : String} {index : Nat} {cy : ClassId}, p.tables.exec = Jvm.exec → c.code = cc → s.vm.findClass own = some m.cls → (Cond.classLink own index ("[" ++ (FieldType.array FieldType.int).toString)).before args s = true → (Cond.arrayOver (.array .int)).before #[] s = true → (Cond.arrayClass .int).before args s = true → s.vm.findClass (FieldType.array FieldType.int).toString = some cy → va_K D cl tys s → va_P D cl X H → va_D A X → va_S A H0 H locs → (∀ q, H0.size ≤ q → A q) → cells + 9 ≤ R.cells → slots + 328 ≤ R.slots → decode cc pc = .ok (.multianewarray index 2, 4) → (∀ (q : Nat) (r : Nat → Nat) (cA : ClassId) (H1 : Heap), va_K D cl (tys ++ [(cA, .array .int)]) s → va_P D cl ((X ++ [(q, .inl (cA, 8, .inr (.inr (.inr (.inr (fun i => if i < 8 then some (r i) else none))))))]) ++ (List.range 8).map (fun i => (r i, .inl (cy, 40, .inl (fun _ => 0))))) H1 → va_D A ((X ++ [(q, .inl (cA, 8, .inr (.inr (.inr (.inr (fun i => if i < 8 then some (r i) else none))))))]) ++ (List.range 8).map (fun i => (r i, .inl (cy, 40, .inl (fun _ => 0))))) → va_S A H0 H1 locs → W p l e R s m args below meth c H1 locs (cells + 9) (slots + 328) Q (F0 m (pc + 4) ls (.ref q :: rest))) → W p l e R s m args below meth c H locs cells slots Q (F0 m pc ls (.int 40 :: .int 8 :: rest))
theorem fl_ones {α β : Type} (f : α → β) : ∀ l : List α, (l.map (fun i => [f i])).flatten = l.map f
  | [] => rfl
  | a :: l => by
    show [f a] ++ (l.map (fun i => [f i])).flatten = f a :: l.map f
    rw [fl_ones f l]
    rfl
theorem g_mna_of (hv : VMna) : GMna := by
  intro X t R cc nL own cs pc k n index lv st C hcl harr hr hd kk
  obtain ⟨p, l, e, R0, s, m, args, below, meth, c, D, A, cells, slots, Q⟩ := X
  obtain ⟨hRR, hx, hb, hml, ho, hroom, hw, hK, hA, hSt⟩ := C
  intro H locs ls hP hD hS hl
  subst hRR
  have hcy : s.vm.findClass (FieldType.array FieldType.int).toString = some (t 0) := (hK.2 0 (t 0, .int) rfl).2
  refine hv hx hb ho (hw _ hcl) hSt.2.2.2.2.2.2.2.2.2.2.2.2.2 (hw _ harr) hcy hK hP hD hS hA hr.1 hr.2 hd (fun q r cA H1 hK1 hP1 hD1 hS1 => ?_)
  have e := arr_same (i := 3) hK rfl hK1 (fun C h => by cases h)
  subst e
  have ef : (cs ++ ([([(q, .inl (t 3, 8, .inr (.inr (.inr (.inr (fun i => if i < 8 then some (r i) else none))))))] : va_W)] ++ (List.range 8).map (fun i => ([(r i, .inl (t 0, 40, .inl (fun _ => 0)))] : va_W)))).flatten = (cs.flatten ++ [(q, .inl (t 3, 8, .inr (.inr (.inr (.inr (fun i => if i < 8 then some (r i) else none))))))]) ++ (List.range 8).map (fun i => ((r i, .inl (t 0, 40, .inl (fun _ => 0))) : Nat × va_E)) := by
    rw [List.flatten_append, List.flatten_append, fl_ones (fun i => ((r i, .inl (t 0, 40, .inl (fun _ => 0))) : Nat × va_E)), List.append_assoc]
    rfl
  exact kk q r H1 locs ls (by rw [ef]; exact hP1) (by rw [ef]; exact hD1) hS1 hl
