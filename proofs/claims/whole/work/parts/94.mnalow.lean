def va_AOA (ty : FieldType) (s : State) : Prop := ∀ A : Array Value, (Cond.arrayOver (.array ty)).before A s = true
theorem va_AOA.use {ty : FieldType} {s : State} {A : Array Value} (h : va_AOA ty s) : (Cond.arrayOver (.array ty)).before A s = true := h A
/-- f, but v at every address of l -/
def vr_up {α : Type} (f : Nat → α) (l : List Nat) (v : α) : Nat → α := fun a => if a ∈ l then v else f a
theorem vr_up_in {α : Type} {f : Nat → α} {l : List Nat} {v : α} {a : Nat} (h : a ∈ l) : vr_up f l v a = v := if_pos h
theorem vr_up_ne {α : Type} {f : Nat → α} {l : List Nat} {v : α} {a : Nat} (h : a ∉ l) : vr_up f l v a = f a := if_neg h
theorem vr_rows {L l : List Nat} {f : Nat → va_E} {e : va_E} (h : ∀ a, a ∈ l → a ∉ L) : va_pl L f ++ l.map (fun a => (a, e)) = va_pl (L ++ l) (vr_up f l e) := by
  unfold va_pl
  rw [List.map_append]
  congr 1
  · apply List.map_congr_left
    intro a ha
    rw [vr_up_ne (fun q => h a q ha)]
  · apply List.map_congr_left
    intro a ha
    rw [vr_up_in ha]
theorem vr_lay {X rows : va_W} {x : Nat × va_E} {pl : va_W} {D : va_G} {cl : List vw_C} {H : Heap} (hP : va_P D cl (((X ++ pl) ++ [x]) ++ rows) H) : va_P D cl ((X ++ [x]) ++ (pl ++ rows)) H := by
  rw [List.append_assoc (X ++ pl)] at hP
  have h := va_P.swap hP
  rw [← List.append_assoc X] at h
  have h2 := va_P.swap h
  rw [List.append_assoc (X ++ [x])] at h2
  exact h2
theorem vr_layD {X rows : va_W} {x : Nat × va_E} {pl : va_W} {A : Nat → Prop} (hD : va_D A (((X ++ pl) ++ [x]) ++ rows)) : va_D A ((X ++ [x]) ++ (pl ++ rows)) := by
  rw [List.append_assoc (X ++ pl)] at hD
  have h := va_D.swap hD
  rw [← List.append_assoc X] at h
  have h2 := va_D.swap h
  rw [List.append_assoc (X ++ [x])] at h2
  exact h2

theorem vz_pl {f : Nat → va_E} {r : Nat → Nat} {x : va_E} : va_pl ([] ++ (List.range 8).map r) (vr_up f ((List.range 8).map r) x) = (List.range 8).map (fun i => (r i, x)) := by
  rw [← vr_rows (L := []) (l := (List.range 8).map r) (f := f) (e := x) (fun a _ h => by cases h)]
  show [] ++ _ = _
  rw [List.nil_append, List.map_map]
  rfl
theorem vz_cell (c : ClassId) : ({ cls := c, slots := Array.replicate 40 (Value.int 0), vm := .none } : Cell) = vp_cell c (40, .inl (fun _ => 0)) := by
  rw [arrV_new, vp_cell_i]
theorem vz_nil {X : va_W} (f : Nat → va_E) : X ++ va_pl [] f = X := List.append_nil X
