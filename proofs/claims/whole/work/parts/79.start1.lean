/-! WHAT HOLDS AT THE START -/
theorem st_w {args : Array Value} {s : State} (hts : ∀ w ∈ lw_tbl, w.before args s = true) (i : Nat) {w : Cond} (h : lw_tbl[i]? = some w) : w.before args s = true := hts w (List.mem_of_getElem? h)
theorem st_arr_int {args : Array Value} {s : State} (h : (Cond.arrayClass .int).before args s = true) : ∃ cA : ClassId, ArrOfT s cA .int ∧ s.vm.findClass ("[" ++ (FieldType.int).toString) = some cA := by
  obtain ⟨cA, kA, comp, h1, h2, h3⟩ := Cond.arrayClass_spec h
  exact ⟨cA, fun n z => ⟨fun k h => (by cases h), kA, h2, comp, h3⟩, h1⟩
theorem st_arr_boolean {args : Array Value} {s : State} (h : (Cond.arrayClass .boolean).before args s = true) : ∃ cA : ClassId, ArrOfT s cA .boolean ∧ s.vm.findClass ("[" ++ (FieldType.boolean).toString) = some cA := by
  obtain ⟨cA, kA, comp, h1, h2, h3⟩ := Cond.arrayClass_spec h
  exact ⟨cA, fun n z => ⟨fun k h => (by cases h), kA, h2, comp, h3⟩, h1⟩
theorem st_arr_long {args : Array Value} {s : State} (h : (Cond.arrayClass .long).before args s = true) : ∃ cA : ClassId, ArrOfT s cA .long ∧ s.vm.findClass ("[" ++ (FieldType.long).toString) = some cA := by
  obtain ⟨cA, kA, comp, h1, h2, h3⟩ := Cond.arrayClass_spec h
  exact ⟨cA, fun n z => ⟨fun k h => (by cases h), kA, h2, comp, h3⟩, h1⟩
theorem st_obj {args : Array Value} {s : State} {C : String} (h : (Cond.arrayOver (.object C)).before args s = true) : ∃ cA : ClassId, ArrOfT s cA (.object C) ∧ va_RA s cA (.object C) := by
  obtain ⟨comp, c, k, h1, h2, h3, h4, h5⟩ := Cond.arrayOver_spec h
  exact ⟨c, fun n z => ⟨fun k h => (by cases h), k, h3, comp, h4⟩, k, comp, h3, h4, h1, h5⟩
set_option maxRecDepth 100000 in
theorem st_K {args : Array Value} {s : State} (hts : ∀ w ∈ lw_tbl, w.before args s = true) : ∃ G : fl_G, fl_K G s := by
  obtain ⟨c0, i0, k0⟩ := u_known (C := RX0) (T := TX0) (N := 4) (n := 4) hts inX0 (st_w hts 81 (by decide +kernel))
  obtain ⟨c1, i1, k1⟩ := u_known (C := RX1) (T := TX1) (N := 3) (n := 3) hts inX1 (st_w hts 171 (by decide +kernel))
  obtain ⟨c2, i2, k2⟩ := u_known (C := RX2) (T := TX2) (N := 2) (n := 2) hts inX2 (st_w hts 61 (by decide +kernel))
  obtain ⟨c3, i3, k3⟩ := u_known (C := RX3) (T := TX3) (N := 6) (n := 6) hts inX3 (st_w hts 131 (by decide +kernel))
  obtain ⟨c4, i4, k4⟩ := u_known (C := RX4) (T := TX4) (N := 8) (n := 8) hts inX4 (st_w hts 87 (by decide +kernel))
  obtain ⟨c5, i5, k5⟩ := u_known (C := RX5) (T := TX5) (N := 6) (n := 6) hts inX5 (st_w hts 53 (by decide +kernel))
  obtain ⟨c6, i6, k6⟩ := u_known (C := RX6) (T := TX6) (N := 14) (n := 14) hts inX6 (st_w hts 771 (by decide +kernel))
  obtain ⟨D, hKc⟩ : ∃ D : va_G, ∀ (k : Nat) (q : vw_C), vwCl[k]? = some q → u_Kn s q.1 q.2.1 q.2.2 (D.1 k) (D.2 k) := by
    refine ⟨(fun k => if k = 0 then c0 else if k = 1 then c1 else if k = 2 then c2 else if k = 3 then c3 else if k = 4 then c4 else if k = 5 then c5 else c6, fun k => if k = 0 then i0 else if k = 1 then i1 else if k = 2 then i2 else if k = 3 then i3 else if k = 4 then i4 else if k = 5 then i5 else i6), ?_⟩
    intro k q hq
    match k, hq with
    | 0, hq => cases hq; exact k0
    | 1, hq => cases hq; exact k1
    | 2, hq => cases hq; exact k2
    | 3, hq => cases hq; exact k3
    | 4, hq => cases hq; exact k4
    | 5, hq => cases hq; exact k5
    | 6, hq => cases hq; exact k6
    | k + 7, hq => simp [vwCl] at hq
  obtain ⟨cI, a1, a2⟩ := st_arr_int (st_w hts 79 (by decide +kernel))
  obtain ⟨cB, b1, b2⟩ := st_arr_boolean (st_w hts 819 (by decide +kernel))
  obtain ⟨cL, l1, l2⟩ := st_arr_long (st_w hts 1069 (by decide +kernel))
  obtain ⟨cS, s1, s2⟩ := st_obj (C := "SongChoir$Song") (st_w hts 177 (by decide +kernel))
  refine ⟨(D, cI, cB, cL, cS), ⟨hKc, ?_⟩, ?_, va_Nw.of rfl (st_w hts 93 (by decide +kernel)), va_AO.of (st_w hts 177 (by decide +kernel))⟩
  · intro k q hq
    match k, hq with
    | 0, hq => cases hq; exact ⟨a1, a2⟩
    | 1, hq => cases hq; exact ⟨b1, b2⟩
    | 2, hq => cases hq; exact ⟨l1, l2⟩
    | 3, hq => cases hq; exact ⟨s1, s2⟩
    | k + 4, hq => simp [fl_T] at hq
  · exact List.forall_mem_cons.mpr ⟨va_Nw.of rfl (st_w hts 82 (by decide +kernel)), List.forall_mem_cons.mpr ⟨va_Nw.of rfl (st_w hts 88 (by decide +kernel)), List.forall_mem_cons.mpr ⟨va_Nw.of rfl (st_w hts 132 (by decide +kernel)), List.forall_mem_cons.mpr ⟨va_Nw.of rfl (st_w hts 172 (by decide +kernel)), List.forall_mem_cons.mpr ⟨va_Nw.of rfl (st_w hts 229 (by decide +kernel)), List.forall_mem_cons.mpr ⟨va_Nw.of rfl (st_w hts 232 (by decide +kernel)), List.forall_mem_cons.mpr ⟨va_Nw.of rfl (st_w hts 265 (by decide +kernel)), List.forall_mem_cons.mpr ⟨va_Nw.of rfl (st_w hts 278 (by decide +kernel)), List.forall_mem_cons.mpr ⟨va_Nw.of rfl (st_w hts 279 (by decide +kernel)), List.forall_mem_cons.mpr ⟨va_Nw.of rfl (st_w hts 292 (by decide +kernel)), List.forall_mem_cons.mpr ⟨va_Nw.of rfl (st_w hts 324 (by decide +kernel)), List.forall_mem_cons.mpr ⟨va_Nw.of rfl (st_w hts 337 (by decide +kernel)), List.forall_mem_cons.mpr ⟨va_Nw.of rfl (st_w hts 647 (by decide +kernel)), List.forall_mem_cons.mpr ⟨va_Nw.of rfl (st_w hts 756 (by decide +kernel)), fun _ h => absurd h List.not_mem_nil⟩⟩⟩⟩⟩⟩⟩⟩⟩⟩⟩⟩⟩⟩
def st_sa (s : State) (k : Nat) : Nat := match (Term.string RX5 k).eval #[] s none [] s with
  | some (.ref a) => a
  | _ => 0
theorem st_str {args : Array Value} {s : State} {k : Nat} {tx : String} (h : (Cond.stringRef RX5 k tx).before args s = true) : vk_R RX5 k tx (st_sa s k) s := by
  have h1 : (Cond.stringRef RX5 k tx).before #[] s = true := h
  have hcur : ∃ cur, s.vm.findClass RX5 = some cur := by
    have h1 := h1
    simp only [Cond.before, Cond.holds, Cond.value] at h1
    cases hc : s.vm.findClass RX5 with
    | none => simp [hc] at h1
    | some cur => exact ⟨cur, rfl⟩
  obtain ⟨cur, hcur⟩ := hcur
  obtain ⟨k1, cf, i, a, -, -, -, -, -, hev⟩ := Cond.stringRef_spec hcur h1
  have hev : (Term.string RX5 k).eval #[] s none [] s = some (.ref a) := hev
  have e : st_sa s k = a := by
    unfold st_sa
    rw [hev]
  rw [e]
  exact ⟨h1, hev⟩
set_option maxRecDepth 100000 in
theorem st_E {args : Array Value} {s : State} (hts : ∀ w ∈ lw_tbl, w.before args s = true) (hg : ∀ c ∈ flatC (Jvm.Cond.and given_1 narrow_1), c.before args s = true) : fl_E (st_sa s) s := by
  refine ⟨List.forall_mem_cons.mpr ⟨va_Nw.of rfl (st_w hts 391 (by decide +kernel)), List.forall_mem_cons.mpr ⟨va_Nw.of rfl (st_w hts 393 (by decide +kernel)), List.forall_mem_cons.mpr ⟨va_Nw.of rfl (st_w hts 395 (by decide +kernel)), fun _ h => absurd h List.not_mem_nil⟩⟩⟩, List.forall_mem_cons.mpr ⟨st_str (st_w hts 428 (by decide +kernel)), List.forall_mem_cons.mpr ⟨st_str (st_w hts 468 (by decide +kernel)), List.forall_mem_cons.mpr ⟨st_str (st_w hts 488 (by decide +kernel)), List.forall_mem_cons.mpr ⟨st_str (st_w hts 506 (by decide +kernel)), List.forall_mem_cons.mpr ⟨st_str (st_w hts 524 (by decide +kernel)), List.forall_mem_cons.mpr ⟨st_str (st_w hts 532 (by decide +kernel)), List.forall_mem_cons.mpr ⟨st_str (st_w hts 542 (by decide +kernel)), List.forall_mem_cons.mpr ⟨st_str (st_w hts 554 (by decide +kernel)), List.forall_mem_cons.mpr ⟨st_str (st_w hts 562 (by decide +kernel)), List.forall_mem_cons.mpr ⟨st_str (st_w hts 569 (by decide +kernel)), List.forall_mem_cons.mpr ⟨st_str (st_w hts 578 (by decide +kernel)), List.forall_mem_cons.mpr ⟨st_str (st_w hts 594 (by decide +kernel)), List.forall_mem_cons.mpr ⟨st_str (st_w hts 630 (by decide +kernel)), List.forall_mem_cons.mpr ⟨st_str (st_w hts 642 (by decide +kernel)), List.forall_mem_cons.mpr ⟨st_str (st_w hts 663 (by decide +kernel)), List.forall_mem_cons.mpr ⟨st_str (st_w hts 676 (by decide +kernel)), List.forall_mem_cons.mpr ⟨st_str (st_w hts 688 (by decide +kernel)), List.forall_mem_cons.mpr ⟨st_str (st_w hts 700 (by decide +kernel)), List.forall_mem_cons.mpr ⟨st_str (st_w hts 705 (by decide +kernel)), List.forall_mem_cons.mpr ⟨st_str (st_w hts 741 (by decide +kernel)), List.forall_mem_cons.mpr ⟨st_str (st_w hts 755 (by decide +kernel)), List.forall_mem_cons.mpr ⟨st_str (st_w hts 765 (by decide +kernel)), fun _ h => absurd h List.not_mem_nil⟩⟩⟩⟩⟩⟩⟩⟩⟩⟩⟩⟩⟩⟩⟩⟩⟩⟩⟩⟩⟩⟩, ?_, va_Nc.of (hg (Cond.not (.castable (fl_exn 2) (fl_exn 1))) (by decide +kernel)), va_Nc.of (hg (Cond.not (.castable (fl_exn 1) (fl_exn 3))) (by decide +kernel)), va_Nc.of (hg (Cond.not (.castable (fl_exn 2) (fl_exn 3))) (by decide +kernel))⟩
  rintro k (rfl | rfl | rfl)
  · exact va_Nw.of rfl (st_w hts 389 (by decide +kernel))
  · exact va_Nw.of rfl (st_w hts 461 (by decide +kernel))
  · exact va_Nw.of rfl (st_w hts 499 (by decide +kernel))
theorem st_Z {args : Array Value} {s : State} {A : Nat → Prop} (hts : ∀ w ∈ lw_tbl, w.before args s = true) (hg : ∀ c ∈ flatC (Jvm.Cond.and given_1 narrow_1), c.before args s = true) (hA : ∀ a : Nat, a < s.heap.size → ¬ A a) : fl_Z A s s.heap :=
  ⟨vx_Zqof (st_w hts 414 (by decide +kernel)) (st_w hts 45 (by decide +kernel)) (hg (Cond.isRef (.static Bundle.tN "UNASSIGNED_STACK" Bundle.steD)) (by decide +kernel)) hA, vx_Zqof (st_w hts 416 (by decide +kernel)) (st_w hts 45 (by decide +kernel)) (hg (Cond.isRef (.static Bundle.tN "SUPPRESSED_SENTINEL" Bundle.listD)) (by decide +kernel)) hA⟩
theorem st_J : ls_J ((fun _ => 0), 0) (((fun _ => 0), (fun _ => 0), 0, 0, 1, 0, 0, 0), (0, (fun _ => 0), (fun _ => 0), (fun _ => 0), (fun _ => 0), (fun _ => 0)), (fun _ => 0), (fun _ => 0)) 0 0 [] (fun _ => none) (fun _ => 0) 0 (upd (fun _ => 0) (2 : Int32).toNatClampNeg (1 : Int32)) (fun _ => 0) 0 (fun _ => 0) (fun _ => 0) := by
  refine ⟨⟨0, Nat.zero_le _, rfl, rfl, fun i hi => absurd hi (Nat.not_lt_zero _)⟩, ⟨0, 0, 1, (fun _ => 0), (fun _ => 0), ⟨⟨rfl, rfl, fun i hi => absurd hi (Nat.not_lt_zero _), fun i hi => absurd hi (Nat.not_lt_zero _)⟩, rfl, ⟨rfl, rfl, fun i hi => absurd hi (Nat.not_lt_zero _), fun i hi => absurd hi (Nat.not_lt_zero _)⟩, rfl, rfl, rfl, rfl⟩, ⟨Nat.zero_le _, rfl, fun v hv => absurd hv (Nat.not_lt_zero _), Nat.le_refl _, by decide⟩, ⟨⟨rfl, fun i hi => absurd hi (Nat.not_lt_zero _), fun i hi => absurd hi (Nat.not_lt_zero _), fun i hi => absurd hi (Nat.not_lt_zero _), fun i hi => absurd hi (Nat.not_lt_zero _)⟩, fun i hi => absurd hi (Nat.not_lt_zero _)⟩⟩, ⟨0, 0, by decide, by decide, rfl, rfl, rfl, Nat.le_refl _, Nat.zero_le _, Or.inl rfl, fun t ht => absurd ht (Nat.not_lt_zero _)⟩, fun j hj => Or.inl ⟨rfl, rfl⟩⟩
