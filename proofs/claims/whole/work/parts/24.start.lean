/-! THE CLAIM OUT OF ONE WALK OF THE LAW'S BODY. Your part is whole_start (and what it stands on); all else here is the same for every law, but numbers. -/
def R_law : String := "RabbitListLaw"
def lw_P (b : Addr) (xs : List Int32) (args : Array Value) (s : State) : Prop := args = #[.ref b] ∧ s.IntsAt b xs ∧ xs.length ≤ 384 ∧ (Jvm.Cond.and given_1 narrow_1).before args s = true
def lw_Q (_ : Array Value) (s : State) (o : Outcome) (t : State) : Prop := o = .returned (some (.int 1)) ∧ Framed s o t [] 600000 7302249
def lw_Z (below : List Frame) (a : Array Value) (s : State) : State → Prop := fun t => ∃ o, t.status = .running ∧ Ended t below o ∧ lw_Q a s o t
/-- the law's own end, with 1 on the stack, nothing written that was there before, its room as the claim has it -/
theorem lw_ret {p : Program} {l : Launch} {e : Env} {s : State} {m : MethodId} {below : List Frame} {meth : Method} {c : Code} {b : Nat} (hx : p.tables.exec = Jvm.exec) (hb : c.code = code) (hr : meth.sig.returnType = ret) (hlocks : meth.locks = false) {pc : Nat} {H : Heap} {ls : Array Slot} (hdg : decode code pc = .ok (.ireturn, 1)) : W p l e room_1 s m #[Value.ref b] below meth c H [] 600000 7302249 (lw_Z below #[Value.ref b] s) (F0 m pc ls [.int 1]) := by
  intro T hT X
  obtain ⟨fs, hret, hrun, hended, hW, hframe⟩ := X.leave (v := some (.int 1)) (hlocks := hlocks) (fun h => by rw [hr] at h; cases h)
  have hmeth' : T.vm.method? m = some meth := X.method'
  refine ⟨T.setFrames fs, ?_, .returned (some (.int 1)), hrun, hended, rfl, ⟨_, rfl⟩, hW, hframe⟩
  jvm_step X.here [X.here.top, hx, hb, hdg, hmeth', hr, ret, narrow_b1]
  (try refine ⟨rfl, ?_⟩); (try refine ⟨rfl, ?_⟩)
  first | (intro acts; rw [hret _ acts rfl rfl rfl]) | rw [hret _ _ rfl rfl rfl]
  exact Steps.refl _
/-- what holds at the law's entry: the machine, the code, the tables' words (any of lw_tbl by 'hts w (by decide +kernel)'), the script of L ints xs at the cell b, what the Statement gives of the start (any of its parts by flat_of_before) -/
def lw_At (p : Program) (s : State) (m : MethodId) (meth : Method) (c : Code) (b L : Nat) (xs : Nat → Int32) : Prop :=
  p.tables.exec = Jvm.exec ∧ c.code = code ∧ meth.sig.returnType = ret ∧ c.maxLocals = 4 ∧ s.vm.findClass R_law = some m.cls ∧ (∀ w ∈ lw_tbl, w.before #[Value.ref b] s = true) ∧ va_X b L xs s s.heap ∧ b < s.heap.size ∧ meth.locks = false ∧ (Jvm.Cond.and given_1 narrow_1).before #[Value.ref b] s = true

theorem law_stat {p : Program} {s : State} {m : MethodId} {meth : Method} {c : Code} {b L : Nat} {xs0 : Nat → Int32} (C0 : lw_At p s m meth c b L xs0) : ∃ q : Nat → Nat, Stat q (fun q : Nat => s.heap.size ≤ q) s s.heap ∧ ∀ t : Nat → Nat, (∀ j, 10 ≤ j → t j = q j) → Stat t (fun q : Nat => s.heap.size ≤ q) s s.heap := by
  obtain ⟨hx, hb, hr, hml, hown, hts, hX, hbl, hlocks, hgv⟩ := C0
  have hs := flat_of_before _ hgv
  obtain ⟨q10, e10, T10⟩ := va_Tof (tm := (.static "RabbitList$Asker" "WIDER" "[I")) (ty := .int) (N := 6) (f := fun j => .int (tWider j)) (A := (fun q : Nat => s.heap.size ≤ q)) (by decide) (hs (.arrayOf (.static "RabbitList$Asker" "WIDER" "[I") .int) (by decide +kernel)) (va_eqt (hs (.eq (.length (.static "RabbitList$Asker" "WIDER" "[I")) (.int 6)) (by decide +kernel))) (fun j hj => by
    match j, hj with
    | 0, _ => exact va_eqt (hs (.eq (.elem (.static "RabbitList$Asker" "WIDER" "[I") (.int 0)) (.int (-1))) (by decide +kernel))
    | 1, _ => exact va_eqt (hs (.eq (.elem (.static "RabbitList$Asker" "WIDER" "[I") (.int 1)) (.int (0))) (by decide +kernel))
    | 2, _ => exact va_eqt (hs (.eq (.elem (.static "RabbitList$Asker" "WIDER" "[I") (.int 2)) (.int (1))) (by decide +kernel))
    | 3, _ => exact va_eqt (hs (.eq (.elem (.static "RabbitList$Asker" "WIDER" "[I") (.int 3)) (.int (1))) (by decide +kernel))
    | 4, _ => exact va_eqt (hs (.eq (.elem (.static "RabbitList$Asker" "WIDER" "[I") (.int 4)) (.int (0))) (by decide +kernel))
    | 5, _ => exact va_eqt (hs (.eq (.elem (.static "RabbitList$Asker" "WIDER" "[I") (.int 5)) (.int (4))) (by decide +kernel))
    | j + 6, h => omega) (fun a h => Nat.not_le.mpr h)
  have Z10 : va_Z "RabbitList$Asker" "WIDER" "[I" (.ref q10) (fun q : Nat => s.heap.size ≤ q) s s.heap := va_Zof (hts (.laysStatic "RabbitList$Asker" "WIDER" "[I") (List.mem_of_getElem? (i := 1009) (by decide +kernel))) (hts (.initialized "RabbitList$Asker") (List.mem_of_getElem? (i := 83) (by decide +kernel))) e10 (fun a h => Nat.not_le.mpr h)
  obtain ⟨q11, e11, T11⟩ := va_Tof (tm := (.static "RabbitList$Asker" "SIZE_BODIES" "[I")) (ty := .int) (N := 6) (f := fun j => .int (tSizeB j)) (A := (fun q : Nat => s.heap.size ≤ q)) (by decide) (hs (.arrayOf (.static "RabbitList$Asker" "SIZE_BODIES" "[I") .int) (by decide +kernel)) (va_eqt (hs (.eq (.length (.static "RabbitList$Asker" "SIZE_BODIES" "[I")) (.int 6)) (by decide +kernel))) (fun j hj => by
    match j, hj with
    | 0, _ => exact va_eqt (hs (.eq (.elem (.static "RabbitList$Asker" "SIZE_BODIES" "[I") (.int 0)) (.int (10))) (by decide +kernel))
    | 1, _ => exact va_eqt (hs (.eq (.elem (.static "RabbitList$Asker" "SIZE_BODIES" "[I") (.int 1)) (.int (11))) (by decide +kernel))
    | 2, _ => exact va_eqt (hs (.eq (.elem (.static "RabbitList$Asker" "SIZE_BODIES" "[I") (.int 2)) (.int (12))) (by decide +kernel))
    | 3, _ => exact va_eqt (hs (.eq (.elem (.static "RabbitList$Asker" "SIZE_BODIES" "[I") (.int 3)) (.int (11))) (by decide +kernel))
    | 4, _ => exact va_eqt (hs (.eq (.elem (.static "RabbitList$Asker" "SIZE_BODIES" "[I") (.int 4)) (.int (13))) (by decide +kernel))
    | 5, _ => exact va_eqt (hs (.eq (.elem (.static "RabbitList$Asker" "SIZE_BODIES" "[I") (.int 5)) (.int (14))) (by decide +kernel))
    | j + 6, h => omega) (fun a h => Nat.not_le.mpr h)
  have Z11 : va_Z "RabbitList$Asker" "SIZE_BODIES" "[I" (.ref q11) (fun q : Nat => s.heap.size ≤ q) s s.heap := va_Zof (hts (.laysStatic "RabbitList$Asker" "SIZE_BODIES" "[I") (List.mem_of_getElem? (i := 1027) (by decide +kernel))) (hts (.initialized "RabbitList$Asker") (List.mem_of_getElem? (i := 83) (by decide +kernel))) e11 (fun a h => Nat.not_le.mpr h)
  obtain ⟨q12, e12, T12⟩ := va_Tof (tm := (.static "RabbitList$Asker" "MARK_BODIES" "[I")) (ty := .int) (N := 6) (f := fun j => .int (tMarkB j)) (A := (fun q : Nat => s.heap.size ≤ q)) (by decide) (hs (.arrayOf (.static "RabbitList$Asker" "MARK_BODIES" "[I") .int) (by decide +kernel)) (va_eqt (hs (.eq (.length (.static "RabbitList$Asker" "MARK_BODIES" "[I")) (.int 6)) (by decide +kernel))) (fun j hj => by
    match j, hj with
    | 0, _ => exact va_eqt (hs (.eq (.elem (.static "RabbitList$Asker" "MARK_BODIES" "[I") (.int 0)) (.int (20))) (by decide +kernel))
    | 1, _ => exact va_eqt (hs (.eq (.elem (.static "RabbitList$Asker" "MARK_BODIES" "[I") (.int 1)) (.int (21))) (by decide +kernel))
    | 2, _ => exact va_eqt (hs (.eq (.elem (.static "RabbitList$Asker" "MARK_BODIES" "[I") (.int 2)) (.int (24))) (by decide +kernel))
    | 3, _ => exact va_eqt (hs (.eq (.elem (.static "RabbitList$Asker" "MARK_BODIES" "[I") (.int 3)) (.int (22))) (by decide +kernel))
    | 4, _ => exact va_eqt (hs (.eq (.elem (.static "RabbitList$Asker" "MARK_BODIES" "[I") (.int 4)) (.int (23))) (by decide +kernel))
    | 5, _ => exact va_eqt (hs (.eq (.elem (.static "RabbitList$Asker" "MARK_BODIES" "[I") (.int 5)) (.int (23))) (by decide +kernel))
    | j + 6, h => omega) (fun a h => Nat.not_le.mpr h)
  have Z12 : va_Z "RabbitList$Asker" "MARK_BODIES" "[I" (.ref q12) (fun q : Nat => s.heap.size ≤ q) s s.heap := va_Zof (hts (.laysStatic "RabbitList$Asker" "MARK_BODIES" "[I") (List.mem_of_getElem? (i := 1029) (by decide +kernel))) (hts (.initialized "RabbitList$Asker") (List.mem_of_getElem? (i := 83) (by decide +kernel))) e12 (fun a h => Nat.not_le.mpr h)
  have hSR : (Cond.stringRef "RabbitList$Tape" 79 "pbflh").before #[Value.ref b] s = true := hts _ (List.mem_of_getElem? (i := 480) (by decide +kernel))
  obtain ⟨adK, adV, hVS, hev⟩ := vk_Sof (args := #[Value.ref b]) (s := s) (N := 1) (tm := fun _ => (.string "RabbitList$Tape" 79)) (len := [5]) (byt := [[112, 98, 102, 108, 104]]) (A := (fun q : Nat => s.heap.size ≤ q)) (fun i hi => by match i, hi with | 0, _ => decide | j + 1, h => omega) (fun i hi => hs (.exactly (.string "RabbitList$Tape" 79) "java/lang/String") (by decide +kernel)) (fun i hi => hs (.eq (.field (.string "RabbitList$Tape" 79) "java/lang/String" "coder" "B") (.int 0)) (by decide +kernel)) (fun i hi => hs (.arrayOf (.field (.string "RabbitList$Tape" 79) "java/lang/String" "value" "[B") .byte) (by decide +kernel)) (fun i hi => by match i, hi with | 0, _ => exact hs (.eq (.length (.field (.string "RabbitList$Tape" 79) "java/lang/String" "value" "[B")) (.int 5)) (by decide +kernel) | j + 1, h => omega) (fun i hi j hj => by
    match i, hi, j, hj with
    | 0, _, 0, _ => exact hs (.eq (.elem (.field (.string "RabbitList$Tape" 79) "java/lang/String" "value" "[B") (.int 0)) (.int 112)) (by decide +kernel)
    | 0, _, 1, _ => exact hs (.eq (.elem (.field (.string "RabbitList$Tape" 79) "java/lang/String" "value" "[B") (.int 1)) (.int 98)) (by decide +kernel)
    | 0, _, 2, _ => exact hs (.eq (.elem (.field (.string "RabbitList$Tape" 79) "java/lang/String" "value" "[B") (.int 2)) (.int 102)) (by decide +kernel)
    | 0, _, 3, _ => exact hs (.eq (.elem (.field (.string "RabbitList$Tape" 79) "java/lang/String" "value" "[B") (.int 3)) (.int 108)) (by decide +kernel)
    | 0, _, 4, _ => exact hs (.eq (.elem (.field (.string "RabbitList$Tape" 79) "java/lang/String" "value" "[B") (.int 4)) (.int 104)) (by decide +kernel)
    | 0, _, j + 5, h => simp at h; omega
    | i + 1, h, _, _ => omega) (fun i j hi hj hne => absurd (by omega : i = j) hne) (fun a h => Nat.not_le.mpr h)
  obtain ⟨hO, hco, hva, hbt⟩ := hVS.1 0 (by decide)
  have hbt2 : va_T .byte (adV 0) 5 (fun j => .int (tSorts j)) (fun q : Nat => s.heap.size ≤ q) s s.heap := by
    obtain ⟨cell, h1, h2, h3, h4, h5, h6, h7⟩ := hbt
    refine ⟨cell, h1, h2, h3, h4, h5, fun j hj => ?_, h7⟩
    rw [h6 j hj]
    match j, hj with
    | 0, _ => rfl
    | 1, _ => rfl
    | 2, _ => rfl
    | 3, _ => rfl
    | 4, _ => rfl
    | j + 5, h => omega
  have hCS : va_Z "java/lang/String" "COMPACT_STRINGS" "Z" (.int 1) (fun q : Nat => s.heap.size ≤ q) s s.heap := va_Zof (hts (.laysStatic "java/lang/String" "COMPACT_STRINGS" "Z") (List.mem_of_getElem? (i := 494) (by decide +kernel))) (hts (.initialized "java/lang/String") (List.mem_of_getElem? (i := 86) (by decide +kernel))) (va_eqt (hs (.eq (.static "java/lang/String" "COMPACT_STRINGS" "Z") (.int 1)) (by decide +kernel))) (fun a h => Nat.not_le.mpr h)
  have hAO : va_AO "RabbitList$Stage" s := va_AO.of (hts (.arrayOver (.object "RabbitList$Stage")) (List.mem_of_getElem? (i := 252) (by decide +kernel)))
  have hAA : (Cond.arrayOver (.array .int)).before #[Value.ref b] s = true := hts _ (List.mem_of_getElem? (i := 108) (by decide +kernel))
  have key : ∀ t : Nat → Nat, t 10 = q10 → t 11 = q11 → t 12 = q12 → t 13 = adK 0 → t 14 = adV 0 → Stat t (fun q : Nat => s.heap.size ≤ q) s s.heap := by
    intro t h10 h11 h12 h13 h14
    unfold Stat
    rw [h10, h11, h12, h13, h14]
    exact ⟨Z10, T10, Z11, T11, Z12, T12, vk_R.of hSR (hev 0 (by decide)), hO, hco, hva, hbt2, hCS, hAO, hAA⟩
  exact ⟨fun k => match k with | 10 => q10 | 11 => q11 | 12 => q12 | 13 => adK 0 | _ => adV 0, key _ rfl rfl rfl rfl rfl, fun t ht => key t (ht 10 (by decide)) (ht 11 (by decide)) (ht 12 (by decide)) (ht 13 (by decide)) (ht 14 (by decide))⟩
theorem law_known {p : Program} {s : State} {m : MethodId} {meth : Method} {c : Code} {b L : Nat} {xs0 : Nat → Int32} (C0 : lw_At p s m meth c b L xs0) : ∃ (D : va_G) (t : Nat → ClassId), va_K D vwCl (tysOf t) s ∧ Stat t (fun q : Nat => s.heap.size ≤ q) s s.heap ∧ (∀ w ∈ WS, w.before #[Value.ref b] s = true) := by
  obtain ⟨q, -, hq⟩ := law_stat C0
  obtain ⟨hx, hb, hr, hml, hown, hts, hX, hbl, hlocks, hgv⟩ := C0
  have hw : ∀ w ∈ WS, w.before #[Value.ref b] s = true := fun w h => hts w (List.mem_filter.mp h).1
  obtain ⟨c0, iS0, hKn0⟩ := u_known (C := RX0) (T := TX0) (N := 3) (n := 3) hw cl_0 (hts (.instantiable RX0 3) (List.mem_of_getElem? (i := 246) (by decide +kernel)))
  obtain ⟨c1, iS1, hKn1⟩ := u_known (C := RX1) (T := TX1) (N := 2) (n := 2) hw cl_1 (hts (.instantiable RX1 2) (List.mem_of_getElem? (i := 313) (by decide +kernel)))
  obtain ⟨c2, iS2, hKn2⟩ := u_known (C := RX2) (T := TX2) (N := 7) (n := 7) hw cl_2 (hts (.instantiable RX2 7) (List.mem_of_getElem? (i := 283) (by decide +kernel)))
  obtain ⟨c3, iS3, hKn3⟩ := u_known (C := RX3) (T := TX3) (N := 3) (n := 3) hw cl_3 (hts (.instantiable RX3 3) (List.mem_of_getElem? (i := 102) (by decide +kernel)))
  obtain ⟨c4, iS4, hKn4⟩ := u_known (C := RX4) (T := TX4) (N := 3) (n := 3) hw cl_4 (hts (.instantiable RX4 3) (List.mem_of_getElem? (i := 265) (by decide +kernel)))
  obtain ⟨c5, iS5, hKn5⟩ := u_known (C := RX5) (T := TX5) (N := 18) (n := 18) hw cl_5 (hts (.instantiable RX5 18) (List.mem_of_getElem? (i := 143) (by decide +kernel)))
  obtain ⟨c6, iS6, hKn6⟩ := u_known (C := RX6) (T := TX6) (N := 5) (n := 5) hw cl_6 (hts (.instantiable RX6 5) (List.mem_of_getElem? (i := 121) (by decide +kernel)))
  obtain ⟨c7, iS7, hKn7⟩ := u_known (C := RX7) (T := TX7) (N := 11) (n := 11) hw cl_7 (hts (.instantiable RX7 11) (List.mem_of_getElem? (i := 94) (by decide +kernel)))
  obtain ⟨c8, iS8, hKn8⟩ := u_known (C := RX8) (T := TX8) (N := 25) (n := 25) hw cl_8 (hts (.instantiable RX8 25) (List.mem_of_getElem? (i := 1064) (by decide +kernel)))
  obtain ⟨cI, kI, pI, fI, gI, hI⟩ := Cond.arrayClass_spec (hw _ ka_int)
  obtain ⟨cZ, kZ, pZ, fZ, gZ, hZ⟩ := Cond.arrayClass_spec (hw _ ka_boolean)
  obtain ⟨pS, cS, kS, s1, s2, s3, s4, s5⟩ := Cond.arrayOver_spec (hts (.arrayOver (.object "RabbitList$Stage")) (List.mem_of_getElem? (i := 252) (by decide +kernel)))
  obtain ⟨pA, cA, kA, a1, a2, a3, a4, a5⟩ := aoa_spec (hts (.arrayOver (.array .int)) (List.mem_of_getElem? (i := 108) (by decide +kernel)))
  refine ⟨(fun k => if k = 0 then c0 else if k = 1 then c1 else if k = 2 then c2 else if k = 3 then c3 else if k = 4 then c4 else if k = 5 then c5 else if k = 6 then c6 else if k = 7 then c7 else c8, fun k => if k = 0 then iS0 else if k = 1 then iS1 else if k = 2 then iS2 else if k = 3 then iS3 else if k = 4 then iS4 else if k = 5 then iS5 else if k = 6 then iS6 else if k = 7 then iS7 else iS8), fun k => if k = 0 then cI else if k = 1 then cZ else if k = 2 then cS else if k = 3 then cA else q k, ⟨?_, ?_⟩, hq _ (fun j hj => by rw [if_neg (by omega), if_neg (by omega), if_neg (by omega), if_neg (by omega)]), hw⟩
  · intro k q hq
    match k, hq with
    | 0, hq => cases hq; exact hKn0
    | 1, hq => cases hq; exact hKn1
    | 2, hq => cases hq; exact hKn2
    | 3, hq => cases hq; exact hKn3
    | 4, hq => cases hq; exact hKn4
    | 5, hq => cases hq; exact hKn5
    | 6, hq => cases hq; exact hKn6
    | 7, hq => cases hq; exact hKn7
    | 8, hq => cases hq; exact hKn8
    | k + 9, hq => simp [vwCl] at hq
  · intro k q hq
    match k, hq with
    | 0, hq => cases hq; exact ⟨fun n z => ⟨fun k h => (by cases h), kI, gI, pI, hI⟩, fI⟩
    | 1, hq => cases hq; exact ⟨fun n z => ⟨fun k h => (by cases h), kZ, gZ, pZ, hZ⟩, fZ⟩
    | 2, hq => cases hq; exact ⟨fun n z => ⟨fun k h => (by cases h), kS, s3, pS, s4⟩, kS, pS, s3, s4, s1, s5⟩
    | 3, hq => cases hq; exact ⟨fun n z => ⟨fun k h => (by cases h), kA, a3, pA, a4⟩, a5⟩
    | k + 4, hq => simp [tysOf] at hq
set_option maxHeartbeats 4000000 in
set_option maxRecDepth 20000 in
theorem whole_open {N : Nat} {Rel : RelT} (hall : AllSt N Rel) (hinit : ∀ v vm : SV, (∀ j, j < 8 → v 1 j = -1 ∧ v 2 j = 0) → (∀ k j, ¬ k = 2 → vm k j = 0) → (∀ j, j < 8 → vm 2 j = -1) → Rel zSV v zSV zSV zSV zSV zSV zSV zSV zSV zSV zSV zSV vm zSV (fun _ => zSV) (fun _ => zSV)) (hRows : ∀ (t : Nat → ClassId) (q : Nat), CN t yX3_init cX3_init 2 (rmN 1 11 344) [.ref q] [[(q, .inr (3, [.null, .null, .null]))]] (fun cs1 => ∃ (ad : Nat → Nat → Nat) (v : SV), ad 1 0 = q ∧ (∀ j, j < 8 → v 1 j = -1 ∧ v 2 j = 0) ∧ cs1 = [wRows t ad v] ++ fRows t ad zSV) 11 344) {p : Program} {e : Env} {s : State} {m : MethodId} {below : List Frame} {meth : Method} {c : Code} (l : Launch) {b L : Nat} {xs0 : Nat → Int32} (hL : L ≤ 384) (C0 : lw_At p s m meth c b L xs0) : W p l e room_1 s m #[Value.ref b] below meth c s.heap [] 0 0 (lw_Z below #[Value.ref b] s) (entryFrame m ([Value.ref b] : List Value).toArray 4) := by
  obtain ⟨D, t, hK, hSt, hw⟩ := law_known C0
  obtain ⟨hx, hb, hr, hml, hown, hts, hX, hbl, hlocks, hgv⟩ := C0
  generalize hXe : ((p, l, e, room_1, s, m, #[Value.ref b], below, meth, c, D, (fun q : Nat => s.heap.size ≤ q), 0, 0, lw_Z below #[Value.ref b] s) : Cx) = X
  have C : gX X t room_1 cL_law 4 RL := by
    subst hXe
    exact ⟨rfl, hx, hb, hml, hown, ⟨Nat.zero_le _, Nat.zero_le _⟩, hw, hK, fun q h => h, hSt⟩
  have hS0 : ∀ k n, SX (xs X k n) b L xs0 := by
    intro k n
    subst hXe
    exact ⟨hX, hbl, Nat.not_le.mpr hbl⟩
  have hend : ∀ cs lv, G (xs X 373 5157) cs 1416 lv [.int 1] := by
    intro cs lv
    subst hXe
    intro H locs ls hP hD hS hl
    refine va_forget (fun q h => hS.2.2 q h) ?_
    refine W.widen (k := 600000) (n := 7302249) (Nat.le_of_ble_eq_true rfl) (Nat.le_of_ble_eq_true rfl) ?_
    exact lw_ret hx hb hr hlocks dL_law_1416
  have main : G (xs X 0 0) [] 0 [(0, .ref b)] [] := by
    refine G.new (T := TX7) (N := 11) (ci := 7) (fs := [.null, .null, .null, .null, .null, .null, .null, .null, .null, .null, .int 0]) (C.xs (k := 0) (n := 0) ⟨by decide, by decide⟩) rfl k_93 k_94 k_76 df_7 ⟨by decide, by decide⟩ dL_law_0 (fun q => ?_)
    show G (xs X 1 11) ([] ++ [[(q, .inr (7, [.null, .null, .null, .null, .null, .null, .null, .null, .null, .null, .int 0]))]]) 3 [(0, .ref b)] [.ref q]
    refine G.dup (C.xs (k := 1) (n := 11) ⟨by decide, by decide⟩) dL_law_3 rfl ?_
    refine G.cinit (st := [.ref q]) (pre := []) (C.xs (k := 1) (n := 11) ⟨by decide, by decide⟩) (c_X7_init (t := t) (hRows t) q) cai_X7 k_95 ⟨rfl, rfl, by decide, by decide⟩ ⟨by decide, by decide⟩ (Nat.le_of_ble_eq_true rfl) dL_law_4 (fun cs1 hcs1 => ?_)
    obtain ⟨ad, v, rfl, hv, rfl⟩ := hcs1
    show G (xs X 358 3011) ([wRL t ad zSV, wRows t ad v, wTape t ad zSV, wStage t (ad 3) zSV, wStage t (ad 4) zSV, wActs t ad zSV, wStage t (ad 6) zSV, wStage t (ad 7) zSV, wSeer t ad zSV, wStage t (ad 9) zSV, wPlanner t ad zSV, wStage t (ad 11) zSV, wAsker t ad zSV] ++ (fRows t ad zSV ++ (fRing t ad (fun _ => zSV) ++ fLev t ad (fun _ => zSV)))) 7 [(0, .ref b)] [.ref (ad 0 0)]
    refine G.astore_n (lv' := [(1, .ref (ad 0 0)), (0, .ref b)]) (C.xs (k := 358) (n := 3011) ⟨by decide, by decide⟩) dL_law_7 (by decide) rfl ?_
    refine G.new (T := TX8) (N := 25) (ci := 8) (fs := [.null, .null, .null, .int 0, .int 0, .null, .null, .null, .int 0, .int 0, .int 0, .int 0, .int 0, .int 0, .int 0, .null, .null, .int 0, .null, .null, .null, .null, .null, .null, .int 0]) (C.xs (k := 358) (n := 3011) ⟨by decide, by decide⟩) rfl k_1063 k_1064 k_84 df_8 ⟨by decide, by decide⟩ dL_law_8 (fun q => ?_)
    refine G.dup (C.xs (k := 359) (n := 3036) ⟨by decide, by decide⟩) dL_law_11 rfl ?_
    refine G.cinit (st := [.ref q]) (pre := [wRL t ad zSV, wRows t ad v, wTape t ad zSV, wStage t (ad 3) zSV, wStage t (ad 4) zSV, wActs t ad zSV, wStage t (ad 6) zSV, wStage t (ad 7) zSV, wSeer t ad zSV, wStage t (ad 9) zSV, wPlanner t ad zSV, wStage t (ad 11) zSV, wAsker t ad zSV] ++ (fRows t ad zSV ++ (fRing t ad (fun _ => zSV) ++ fLev t ad (fun _ => zSV)))) (C.xs (k := 359) (n := 3036) ⟨by decide, by decide⟩) (c_X8_init (t := t) q) cai_X8 k_1065 ⟨rfl, rfl, by decide, by decide⟩ ⟨by decide, by decide⟩ (Nat.le_of_ble_eq_true rfl) dL_law_12 (fun cs1 hcs1 => ?_)
    obtain ⟨a, vm, rfl, hm1, hm2, rfl⟩ := hcs1
    show G (xs X 373 5157) ([wRL t ad zSV, wRows t ad v, wTape t ad zSV, wStage t (ad 3) zSV, wStage t (ad 4) zSV, wActs t ad zSV, wStage t (ad 6) zSV, wStage t (ad 7) zSV, wSeer t ad zSV, wStage t (ad 9) zSV, wPlanner t ad zSV, wStage t (ad 11) zSV, wAsker t ad zSV] ++ (fRows t ad zSV ++ (fRing t ad (fun _ => zSV) ++ fLev t ad (fun _ => zSV))) ++ [wModel t a vm]) 15 [(1, .ref (ad 0 0)), (0, .ref b)] [.ref (a 0)]
    refine G.astore_n (lv' := [(2, .ref (a 0)), (1, .ref (ad 0 0)), (0, .ref b)]) (C.xs (k := 373) (n := 5157) ⟨by decide, by decide⟩) dL_law_15 (by decide) rfl ?_
    refine G.iconst (v := (0 : Int32)) (C.xs (k := 373) (n := 5157) ⟨by decide, by decide⟩) dL_law_16 (by decide) ?_
    refine G.istore_n (lv' := [(3, .int (nI 0)), (2, .ref (a 0)), (1, .ref (ad 0 0)), (0, .ref b)]) (C.xs (k := 373) (n := 5157) ⟨by decide, by decide⟩) dL_law_17 (by decide) rfl ?_
    have hp : ([wRL t ad zSV, wRows t ad v, wTape t ad zSV, wStage t (ad 3) zSV, wStage t (ad 4) zSV, wActs t ad zSV, wStage t (ad 6) zSV, wStage t (ad 7) zSV, wSeer t ad zSV, wStage t (ad 9) zSV, wPlanner t ad zSV, wStage t (ad 11) zSV, wAsker t ad zSV] ++ (fRows t ad zSV ++ (fRing t ad (fun _ => zSV) ++ fLev t ad (fun _ => zSV))) ++ [wModel t a vm]).Perm (WLw t ad a zSV v zSV zSV zSV zSV zSV zSV zSV zSV zSV zSV zSV vm zSV (fun _ => zSV) (fun _ => zSV)) := by
      have e1 : WLw t ad a zSV v zSV zSV zSV zSV zSV zSV zSV zSV zSV zSV zSV vm zSV (fun _ => zSV) (fun _ => zSV) = [wRL t ad zSV, wRows t ad v, wTape t ad zSV, wStage t (ad 3) zSV, wStage t (ad 4) zSV, wActs t ad zSV, wStage t (ad 6) zSV, wStage t (ad 7) zSV, wSeer t ad zSV, wStage t (ad 9) zSV, wPlanner t ad zSV, wStage t (ad 11) zSV, wAsker t ad zSV] ++ ([wModel t a vm] ++ (fRows t ad zSV ++ (fRing t ad (fun _ => zSV) ++ fLev t ad (fun _ => zSV)))) := rfl
      rw [e1, List.append_assoc]
      exact List.Perm.append_left _ List.perm_append_comm
    refine G.perm hp ?_
    exact law_loop (C.xs (k := 373) (n := 5157) ⟨by decide, by decide⟩) (hS0 _ _) hL hall hend 64 0 _ _ _ _ _ _ _ _ _ _ _ _ _ _ _ _ _ (by omega) (by omega) (hinit v vm hv hm1 hm2)
  have hl := lv_entry ([.ref b]) (n := 4) (Nat.le_of_ble_eq_true rfl)
  rw [lg_entry_eq]
  subst hXe
  exact main s.heap [] _ (fun k q h => by simp at h) ⟨fun i j p q h => by simp at h, fun k q h => by simp at h⟩ va_S.rf (by show lv_has _ c.maxLocals _; rw [hml]; exact hl)
