noncomputable def P_cellOf (fN : Nat) (f : fl_A) (p1 : Int32) : Option Int32 := if p1 < 0 then some (0 : Int32) else if (nI fN) ≤ p1 then some (0 : Int32) else fl_ck p1 fN (some (f p1.toNatClampNeg))
set_option maxHeartbeats 4000000 in
set_option maxRecDepth 100000 in
theorem c_cellOf (l : Launch) (G : fl_G) (fN : Nat) (f0 : Nat) (f : fl_A) (p1 : Int32) {r : Int32} (hp0 : P_cellOf fN f p1 = some r) : fl_ro l yX5_cellOf wsX5_cellOf 0 0 G [.ref f0, .int p1] [(f0, .inl (G.2.1, fN, .inl f))] (.int r) := by
  refine fl_ro_in cX5_cellOf 2 .int RX5 (by decide) rfl rfl (Nat.le_of_ble_eq_true rfl) ?_
  intro p e s m args below meth c ls Q H locs C0 hK hP hS hl hfin
  have hA : ∀ q : Nat, s.heap.size ≤ q → va_A [] s.heap.size q := fl_hA _ _
  obtain ⟨hx, hb, hml, hown, hts⟩ := id C0
  have hl : lv_has ls 2 [(0, .ref f0), (1, .int p1)] := hl
  have hp := hp0
  unfold P_cellOf at hp
  refine lv_iload_n hx hb dX5_cellOf_0 rfl (lv_at hl 1 rfl) ?_
  refine lv_if_lt (tgt := 16) hx hb dX5_cellOf_1 (by decide) (fun hc => ?_) (fun hc => ?_)
  · replace hp := fl_t hc hp
    refine lv_iconst (v := (0 : Int32)) hx hb dX5_cellOf_16 (by decide) ?_
    obtain rfl := Option.some.inj hp
    exact hfin H locs _ ls hS dX5_cellOf_17 rfl
  · replace hp := fl_f hc hp
    refine lv_iload_n hx hb dX5_cellOf_4 rfl (lv_at hl 1 rfl) ?_
    refine lv_aload_n hx hb dX5_cellOf_5 rfl (lv_at hl 0 rfl) ?_
    refine va_alen (v := (nI fN)) hx hb hK.1 hP 0 0 rfl rfl rfl dX5_cellOf_6 ?_
    refine lv_icmp_ge (tgt := 16) hx hb dX5_cellOf_7 (by decide) (fun hc => ?_) (fun hc => ?_)
    · replace hp := fl_t hc hp
      refine lv_iconst (v := (0 : Int32)) hx hb dX5_cellOf_16 (by decide) ?_
      obtain rfl := Option.some.inj hp
      exact hfin H locs _ ls hS dX5_cellOf_17 rfl
    · replace hp := fl_f hc hp
      refine lv_aload_n hx hb dX5_cellOf_10 rfl (lv_at hl 0 rfl) ?_
      refine lv_iload_n hx hb dX5_cellOf_11 rfl (lv_at hl 1 rfl) ?_
      obtain ⟨hi, hp⟩ := fl_ck_of hp
      refine va_iald hx hb hK.1 hP 0 0 rfl rfl hi dX5_cellOf_12 ?_
      refine lv_goto (tgt := 17) hx hb dX5_cellOf_13 (by decide) ?_
      obtain rfl := Option.some.inj hp
      exact hfin H locs _ ls hS dX5_cellOf_17 rfl

noncomputable def P_isLetter (p0 : Int32) : Option Int32 := if p0 < (97 : Int32) then some (0 : Int32) else if (105 : Int32) ≤ p0 then some (0 : Int32) else some (1 : Int32)
set_option maxHeartbeats 4000000 in
set_option maxRecDepth 100000 in
theorem c_isLetter (l : Launch) (G : fl_G) (p0 : Int32) {r : Int32} (hp0 : P_isLetter p0 = some r) : fl_ro l yX5_isLetter wsX5_isLetter 0 0 G [.int p0] [] (.int r) := by
  refine fl_ro_in cX5_isLetter 1 .boolean RX5 (by decide) rfl rfl (Nat.le_of_ble_eq_true rfl) ?_
  intro p e s m args below meth c ls Q H locs C0 hK hP hS hl hfin
  have hA : ∀ q : Nat, s.heap.size ≤ q → va_A [] s.heap.size q := fl_hA _ _
  obtain ⟨hx, hb, hml, hown, hts⟩ := id C0
  have hl : lv_has ls 1 [(0, .int p0)] := hl
  have hp := hp0
  unfold P_isLetter at hp
  refine lv_iload_n hx hb dX5_isLetter_0 rfl (lv_at hl 0 rfl) ?_
  refine lv_bipush (v := (97 : Int32)) hx hb dX5_isLetter_1 (by decide) ?_
  refine lv_icmp_lt (tgt := 16) hx hb dX5_isLetter_3 (by decide) (fun hc => ?_) (fun hc => ?_)
  · replace hp := fl_t hc hp
    refine lv_iconst (v := (0 : Int32)) hx hb dX5_isLetter_16 (by decide) ?_
    obtain rfl := Option.some.inj hp
    exact hfin H locs _ ls hS dX5_isLetter_17 (show narrow .boolean (.int (0 : Int32)) = .int (0 : Int32) from rfl)
  · replace hp := fl_f hc hp
    refine lv_iload_n hx hb dX5_isLetter_6 rfl (lv_at hl 0 rfl) ?_
    refine lv_bipush (v := (105 : Int32)) hx hb dX5_isLetter_7 (by decide) ?_
    refine lv_icmp_ge (tgt := 16) hx hb dX5_isLetter_9 (by decide) (fun hc => ?_) (fun hc => ?_)
    · replace hp := fl_t hc hp
      refine lv_iconst (v := (0 : Int32)) hx hb dX5_isLetter_16 (by decide) ?_
      obtain rfl := Option.some.inj hp
      exact hfin H locs _ ls hS dX5_isLetter_17 (show narrow .boolean (.int (0 : Int32)) = .int (0 : Int32) from rfl)
    · replace hp := fl_f hc hp
      refine lv_iconst (v := (1 : Int32)) hx hb dX5_isLetter_12 (by decide) ?_
      refine lv_goto (tgt := 17) hx hb dX5_isLetter_13 (by decide) ?_
      obtain rfl := Option.some.inj hp
      exact hfin H locs _ ls hS dX5_isLetter_17 (show narrow .boolean (.int (1 : Int32)) = .int (1 : Int32) from rfl)

noncomputable def P_Ln_isFull (tN : Nat) (t : fl_Ln) : Option Int32 := if t.2 < (nI tN) then some (0 : Int32) else some (1 : Int32)
set_option maxHeartbeats 4000000 in
set_option maxRecDepth 100000 in
theorem c_Ln_isFull (l : Launch) (G : fl_G) (tN : Nat) (t0 t1 : Nat) (t : fl_Ln) {r : Int32} (hp0 : P_Ln_isFull tN t = some r) : fl_ro l yX2_isFull wsX2_isFull 0 0 G [.ref t0] [(t0, .inr (2, [.ref t1, .int t.2])), (t1, .inl (G.2.1, tN, .inl t.1))] (.int r) := by
  refine fl_ro_in cX2_isFull 1 .boolean RX2 (by decide) rfl rfl (Nat.le_of_ble_eq_true rfl) ?_
  intro p e s m args below meth c ls Q H locs C0 hK hP hS hl hfin
  have hA : ∀ q : Nat, s.heap.size ≤ q → va_A [] s.heap.size q := fl_hA _ _
  obtain ⟨hx, hb, hml, hown, hts⟩ := id C0
  have iX2 : ∀ w ∈ u_ws RX2 TX2 2, w ∈ wsX2_isFull := fun _ h => List.mem_cons_of_mem _ (List.mem_append_right _ h)
  have hl : lv_has ls 1 [(0, .ref t0)] := hl
  have hp := hp0
  unfold P_Ln_isFull at hp
  refine lv_aload_n hx hb dX2_isFull_0 rfl (lv_at hl 0 rfl) ?_
  refine va_get (D := G.1) (ci := 2) (v := .int t.2) (C := RX2) (T := TX2) (N := 2) hx hb hts iX2 hown hK.1 hP 0 rfl rfl 1 (by decide) (hts (.fieldLink RX2 9 "SongChoir$Line" "length" "I") (List.mem_of_getElem? (i := 1) rfl)) (fun _ h9 => h9) rfl dX2_isFull_1 ?_
  refine lv_aload_n hx hb dX2_isFull_4 rfl (lv_at hl 0 rfl) ?_
  refine va_get (D := G.1) (ci := 2) (v := .ref t1) (C := RX2) (T := TX2) (N := 2) hx hb hts iX2 hown hK.1 hP 0 rfl rfl 0 (by decide) (hts (.fieldLink RX2 21 "SongChoir$Line" "codes" "[I") (List.mem_of_getElem? (i := 2) rfl)) (fun _ h9 => h9) rfl dX2_isFull_5 ?_
  refine va_alen (v := (nI tN)) hx hb hK.1 hP 1 0 rfl rfl rfl dX2_isFull_8 ?_
  refine lv_icmp_lt (tgt := 16) hx hb dX2_isFull_9 (by decide) (fun hc => ?_) (fun hc => ?_)
  · replace hp := fl_t hc hp
    refine lv_iconst (v := (0 : Int32)) hx hb dX2_isFull_16 (by decide) ?_
    obtain rfl := Option.some.inj hp
    exact hfin H locs _ ls hS dX2_isFull_17 (show narrow .boolean (.int (0 : Int32)) = .int (0 : Int32) from rfl)
  · replace hp := fl_f hc hp
    refine lv_iconst (v := (1 : Int32)) hx hb dX2_isFull_12 (by decide) ?_
    refine lv_goto (tgt := 17) hx hb dX2_isFull_13 (by decide) ?_
    obtain rfl := Option.some.inj hp
    exact hfin H locs _ ls hS dX2_isFull_17 (show narrow .boolean (.int (1 : Int32)) = .int (1 : Int32) from rfl)

noncomputable def P_Ln_add (tN : Nat) (t : fl_Ln) (p0 : Int32) : Option fl_Ln := if t.2 < 0 then some t else if (nI tN) ≤ t.2 then some t else fl_ck t.2 tN (some ((upd t.1 t.2.toNatClampNeg p0), (t.2 + (1 : Int32))))
set_option maxHeartbeats 4000000 in
set_option maxRecDepth 100000 in
theorem c_Ln_add (l : Launch) (G : fl_G) (tN : Nat) (t0 t1 : Nat) (t : fl_Ln) (p0 : Int32) {r : fl_Ln} (hp0 : P_Ln_add tN t p0 = some r) : fl_mu l yX2_add wsX2_add 0 0 G [.ref t0, .int p0] [(t0, .inr (2, [.ref t1, .int t.2])), (t1, .inl (G.2.1, tN, .inl t.1))] none [(t0, .inr (2, [.ref t1, .int r.2])), (t1, .inl (G.2.1, tN, .inl r.1))] := by
  refine fl_muv_in cX2_add 2 RX2 (by decide) rfl rfl (Nat.le_of_ble_eq_true rfl) ?_
  intro p e s m args below meth c ls A Q H locs C0 hK hP hD hS hA hl hfin
  obtain ⟨hx, hb, hml, hown, hts⟩ := id C0
  have iX2 : ∀ w ∈ u_ws RX2 TX2 2, w ∈ wsX2_add := fun _ h => List.mem_cons_of_mem _ (List.mem_append_right _ h)
  have hl : lv_has ls 2 [(0, .ref t0), (1, .int p0)] := hl
  have hp := hp0
  unfold P_Ln_add at hp
  refine lv_aload_n hx hb dX2_add_0 rfl (lv_at hl 0 rfl) ?_
  refine va_get (D := G.1) (ci := 2) (v := .int t.2) (C := RX2) (T := TX2) (N := 2) hx hb hts iX2 hown hK.1 hP 0 rfl rfl 1 (by decide) (hts (.fieldLink RX2 9 "SongChoir$Line" "length" "I") (List.mem_of_getElem? (i := 1) rfl)) (fun _ h9 => h9) rfl dX2_add_1 ?_
  refine lv_if_lt (tgt := 39) hx hb dX2_add_4 (by decide) (fun hc => ?_) (fun hc => ?_)
  · replace hp := fl_t hc hp
    obtain rfl := Option.some.inj hp
    exact hfin H locs _ ls hP hD hS dX2_add_39
  · replace hp := fl_f hc hp
    refine lv_aload_n hx hb dX2_add_7 rfl (lv_at hl 0 rfl) ?_
    refine va_get (D := G.1) (ci := 2) (v := .int t.2) (C := RX2) (T := TX2) (N := 2) hx hb hts iX2 hown hK.1 hP 0 rfl rfl 1 (by decide) (hts (.fieldLink RX2 9 "SongChoir$Line" "length" "I") (List.mem_of_getElem? (i := 1) rfl)) (fun _ h9 => h9) rfl dX2_add_8 ?_
    refine lv_aload_n hx hb dX2_add_11 rfl (lv_at hl 0 rfl) ?_
    refine va_get (D := G.1) (ci := 2) (v := .ref t1) (C := RX2) (T := TX2) (N := 2) hx hb hts iX2 hown hK.1 hP 0 rfl rfl 0 (by decide) (hts (.fieldLink RX2 21 "SongChoir$Line" "codes" "[I") (List.mem_of_getElem? (i := 2) rfl)) (fun _ h9 => h9) rfl dX2_add_12 ?_
    refine va_alen (v := (nI tN)) hx hb hK.1 hP 1 0 rfl rfl rfl dX2_add_15 ?_
    refine lv_icmp_ge (tgt := 39) hx hb dX2_add_16 (by decide) (fun hc => ?_) (fun hc => ?_)
    · replace hp := fl_t hc hp
      obtain rfl := Option.some.inj hp
      exact hfin H locs _ ls hP hD hS dX2_add_39
    · replace hp := fl_f hc hp
      refine lv_aload_n hx hb dX2_add_19 rfl (lv_at hl 0 rfl) ?_
      refine va_get (D := G.1) (ci := 2) (v := .ref t1) (C := RX2) (T := TX2) (N := 2) hx hb hts iX2 hown hK.1 hP 0 rfl rfl 0 (by decide) (hts (.fieldLink RX2 21 "SongChoir$Line" "codes" "[I") (List.mem_of_getElem? (i := 2) rfl)) (fun _ h9 => h9) rfl dX2_add_20 ?_
      refine lv_aload_n hx hb dX2_add_23 rfl (lv_at hl 0 rfl) ?_
      refine va_get (D := G.1) (ci := 2) (v := .int t.2) (C := RX2) (T := TX2) (N := 2) hx hb hts iX2 hown hK.1 hP 0 rfl rfl 1 (by decide) (hts (.fieldLink RX2 9 "SongChoir$Line" "length" "I") (List.mem_of_getElem? (i := 1) rfl)) (fun _ h9 => h9) rfl dX2_add_24 ?_
      refine lv_iload_n hx hb dX2_add_27 rfl (lv_at hl 1 rfl) ?_
      obtain ⟨hi, hp⟩ := fl_ck_of hp
      refine va_iast hx hb hK.1 hP hD hS 1 0 rfl rfl hi dX2_add_28 (fun H locs hP hD hS => ?_)
      have hP : va_P G.1 vwCl [(t0, .inr (2, [.ref t1, .int t.2])), (t1, .inl (G.2.1, tN, .inl (upd t.1 t.2.toNatClampNeg p0)))] H := hP
      have hD : va_D A [(t0, .inr (2, [.ref t1, .int t.2])), (t1, .inl (G.2.1, tN, .inl (upd t.1 t.2.toNatClampNeg p0)))] := hD
      refine lv_aload_n hx hb dX2_add_29 rfl (lv_at hl 0 rfl) ?_
      refine lv_dup hx hb dX2_add_30 rfl ?_
      refine va_get (D := G.1) (ci := 2) (v := .int t.2) (C := RX2) (T := TX2) (N := 2) hx hb hts iX2 hown hK.1 hP 0 rfl rfl 1 (by decide) (hts (.fieldLink RX2 9 "SongChoir$Line" "length" "I") (List.mem_of_getElem? (i := 1) rfl)) (fun _ h9 => h9) rfl dX2_add_31 ?_
      refine lv_iconst (v := (1 : Int32)) hx hb dX2_add_34 (by decide) ?_
      refine lv_iadd hx hb dX2_add_35 ?_
      refine va_put (D := G.1) (ci := 2) (v := .int (t.2 + (1 : Int32))) (ty := .int) (C := RX2) (T := TX2) (N := 2) hx hb hts iX2 tyX2 tyX2_ok nmX2 hown hK.1 hP hD hS 0 rfl rfl 1 (by decide) (hts (.fieldLink RX2 9 "SongChoir$Line" "length" "I") (List.mem_of_getElem? (i := 1) rfl)) (fun _ h9 => h9) rfl (by decide +kernel) rfl rfl (Nat.le_of_ble_eq_true rfl) dX2_add_36 (fun H locs hP hD hS => ?_)
      have hP : va_P G.1 vwCl [(t0, .inr (2, [.ref t1, .int (t.2 + (1 : Int32))])), (t1, .inl (G.2.1, tN, .inl (upd t.1 t.2.toNatClampNeg p0)))] H := hP
      have hD : va_D A [(t0, .inr (2, [.ref t1, .int (t.2 + (1 : Int32))])), (t1, .inl (G.2.1, tN, .inl (upd t.1 t.2.toNatClampNeg p0)))] := hD
      obtain rfl := Option.some.inj hp
      exact hfin H locs _ ls hP hD hS dX2_add_39

noncomputable def P_Ln_empty (tN : Nat) (t : fl_Ln) : Option fl_Ln := some (t.1, (0 : Int32))
set_option maxHeartbeats 4000000 in
set_option maxRecDepth 100000 in
theorem c_Ln_empty (l : Launch) (G : fl_G) (tN : Nat) (t0 t1 : Nat) (t : fl_Ln) {r : fl_Ln} (hp0 : P_Ln_empty tN t = some r) : fl_mu l yX2_empty wsX2_empty 0 0 G [.ref t0] [(t0, .inr (2, [.ref t1, .int t.2])), (t1, .inl (G.2.1, tN, .inl t.1))] none [(t0, .inr (2, [.ref t1, .int r.2])), (t1, .inl (G.2.1, tN, .inl r.1))] := by
  refine fl_muv_in cX2_empty 1 RX2 (by decide) rfl rfl (Nat.le_of_ble_eq_true rfl) ?_
  intro p e s m args below meth c ls A Q H locs C0 hK hP hD hS hA hl hfin
  obtain ⟨hx, hb, hml, hown, hts⟩ := id C0
  have iX2 : ∀ w ∈ u_ws RX2 TX2 2, w ∈ wsX2_empty := fun _ h => List.mem_cons_of_mem _ (List.mem_append_right _ h)
  have hl : lv_has ls 1 [(0, .ref t0)] := hl
  have hp := hp0
  unfold P_Ln_empty at hp
  refine lv_aload_n hx hb dX2_empty_0 rfl (lv_at hl 0 rfl) ?_
  refine lv_iconst (v := (0 : Int32)) hx hb dX2_empty_1 (by decide) ?_
  refine va_put (D := G.1) (ci := 2) (v := .int (0 : Int32)) (ty := .int) (C := RX2) (T := TX2) (N := 2) hx hb hts iX2 tyX2 tyX2_ok nmX2 hown hK.1 hP hD hS 0 rfl rfl 1 (by decide) (hts (.fieldLink RX2 9 "SongChoir$Line" "length" "I") (List.mem_of_getElem? (i := 1) rfl)) (fun _ h9 => h9) rfl (by decide +kernel) rfl rfl (Nat.le_of_ble_eq_true rfl) dX2_empty_2 (fun H locs hP hD hS => ?_)
  have hP : va_P G.1 vwCl [(t0, .inr (2, [.ref t1, .int (0 : Int32)])), (t1, .inl (G.2.1, tN, .inl t.1))] H := hP
  have hD : va_D A [(t0, .inr (2, [.ref t1, .int (0 : Int32)])), (t1, .inl (G.2.1, tN, .inl t.1))] := hD
  obtain rfl := Option.some.inj hp
  exact hfin H locs _ ls hP hD hS dX2_empty_5

noncomputable def P_Ln_codeAt (tN : Nat) (t : fl_Ln) (p0 : Int32) : Option Int32 := fl_bd (P_cellOf tN t.1 p0) (fun q1 => some q1)
set_option maxHeartbeats 4000000 in
set_option maxRecDepth 100000 in
theorem c_Ln_codeAt (l : Launch) (G : fl_G) (tN : Nat) (t0 t1 : Nat) (t : fl_Ln) (p0 : Int32) {r : Int32} (hp0 : P_Ln_codeAt tN t p0 = some r) : fl_ro l yX2_codeAt wsX2_codeAt 1 21 G [.ref t0, .int p0] [(t0, .inr (2, [.ref t1, .int t.2])), (t1, .inl (G.2.1, tN, .inl t.1))] (.int r) := by
  refine fl_ro_in cX2_codeAt 2 .int RX2 (by decide) rfl rfl (Nat.le_of_ble_eq_true rfl) ?_
  intro p e s m args below meth c ls Q H locs C0 hK hP hS hl hfin
  have hA : ∀ q : Nat, s.heap.size ≤ q → va_A [] s.heap.size q := fl_hA _ _
  obtain ⟨hx, hb, hml, hown, hts⟩ := id C0
  have iX2 : ∀ w ∈ u_ws RX2 TX2 2, w ∈ wsX2_codeAt := fun _ h => List.mem_cons_of_mem _ (List.mem_append_right _ h)
  have hl : lv_has ls 2 [(0, .ref t0), (1, .int p0)] := hl
  have hp := hp0
  unfold P_Ln_codeAt at hp
  refine lv_aload_n hx hb dX2_codeAt_0 rfl (lv_at hl 0 rfl) ?_
  refine va_get (D := G.1) (ci := 2) (v := .ref t1) (C := RX2) (T := TX2) (N := 2) hx hb hts iX2 hown hK.1 hP 0 rfl rfl 0 (by decide) (hts (.fieldLink RX2 21 "SongChoir$Line" "codes" "[I") (List.mem_of_getElem? (i := 1) rfl)) (fun _ h9 => h9) rfl dX2_codeAt_1 ?_
  refine lv_iload_n hx hb dX2_codeAt_4 rfl (lv_at hl 1 rfl) ?_
  obtain ⟨q1, hq1, hp⟩ := fl_bd_of hp
  refine fl_roSN (As := [.ref t1, .int p0]) (rest := []) C0 (c_cellOf l G tN t1 t.1 p0 hq1) ⟨va_cnB 2 hts gX2_codeAt_X5_cellOf_n25 rfl rfl rfl (hK.nest 4 rfl) (hts (.initialized RX5) (List.mem_of_getElem? (i := 3) rfl)) (by decide +kernel) ⟨Nat.le_of_ble_eq_true rfl, Nat.le_of_ble_eq_true rfl⟩, (hts (.static yX5_cellOf) (List.mem_of_getElem? (i := 2) rfl)), trivial⟩ hK hP [1] rfl hS hA rfl hl.1 rfl (Nat.le_of_ble_eq_true rfl) dX2_codeAt_5 ⟨Nat.zero_le _, Nat.zero_le _⟩ (fun H locs hP hS => ?_)
  obtain rfl := Option.some.inj hp
  exact hfin H locs _ ls hS dX2_codeAt_8 rfl

noncomputable def P_Ln_firstError_J29 (tN : Nat) (t : fl_Ln) : Option Int32 := if t.2 = 0 then some (0 : Int32) else some (-1 : Int32)
noncomputable def P_Ln_firstError_L2 (tN : Nat) (t : fl_Ln) (z2 : Int32) : Option (Int32 ⊕ Int32) := if t.2 ≤ z2 then fl_up (P_Ln_firstError_J29 tN t) else fl_bd (P_Ln_codeAt tN t z2) (fun q1 => fl_bd (P_isLetter q1) (fun q2 => if q2 = 0 then some (.inr z2) else some (.inl (z2 + (1 : Int32)))))
noncomputable def P_Ln_firstError (tN : Nat) (t : fl_Ln) : Option Int32 := fl_loop (P_Ln_firstError_L2 tN t) (0 : Int32)
set_option maxHeartbeats 4000000 in
set_option maxRecDepth 100000 in
theorem c_Ln_firstError (l : Launch) (G : fl_G) (tN : Nat) (t0 t1 : Nat) (t : fl_Ln) {r : Int32} (hp0 : P_Ln_firstError tN t = some r) : fl_ro l yX2_firstError wsX2_firstError 2 42 G [.ref t0] [(t0, .inr (2, [.ref t1, .int t.2])), (t1, .inl (G.2.1, tN, .inl t.1))] (.int r) := by
  refine fl_ro_in cX2_firstError 2 .int RX2 (by decide) rfl rfl (Nat.le_of_ble_eq_true rfl) ?_
  intro p e s m args below meth c ls Q H locs C0 hK hP hS hl hfin
  have hA : ∀ q : Nat, s.heap.size ≤ q → va_A [] s.heap.size q := fl_hA _ _
  obtain ⟨hx, hb, hml, hown, hts⟩ := id C0
  have iX2 : ∀ w ∈ u_ws RX2 TX2 2, w ∈ wsX2_firstError := fun _ h => List.mem_cons_of_mem _ (List.mem_append_right _ h)
  have hl : lv_has ls 2 [(0, .ref t0)] := hl
  have KJ29 : ∀ (H : Heap) (locs : List Loc), va_P G.1 vwCl [(t0, .inr (2, [.ref t1, .int t.2])), (t1, .inl (G.2.1, tN, .inl t.1))] H → va_S (va_A [] s.heap.size) s.heap H locs → ∀ (ls : Array Slot), lv_has ls 2 [(0, .ref t0)] → P_Ln_firstError_J29 tN t = some r → W p l e (fl_rm 2 42) s m args below meth c H locs 0 0 Q (F0 m 29 ls []) := by
    intro H locs hP hS ls hl hp
    unfold P_Ln_firstError_J29 at hp
    refine lv_aload_n hx hb dX2_firstError_29 rfl (lv_at hl 0 rfl) ?_
    refine va_get (D := G.1) (ci := 2) (v := .int t.2) (C := RX2) (T := TX2) (N := 2) hx hb hts iX2 hown hK.1 hP 0 rfl rfl 1 (by decide) (hts (.fieldLink RX2 9 "SongChoir$Line" "length" "I") (List.mem_of_getElem? (i := 1) rfl)) (fun _ h9 => h9) rfl dX2_firstError_30 ?_
    refine lv_if_ne (tgt := 40) hx hb dX2_firstError_33 (by decide) (fun hc => ?_) (fun hc => ?_)
    · replace hp := fl_f hc hp
      refine lv_iconst (v := (-1 : Int32)) hx hb dX2_firstError_40 (by decide) ?_
      obtain rfl := Option.some.inj hp
      exact hfin H locs _ ls hS dX2_firstError_41 rfl
    · replace hp := fl_t hc hp
      refine lv_iconst (v := (0 : Int32)) hx hb dX2_firstError_36 (by decide) ?_
      refine lv_goto (tgt := 41) hx hb dX2_firstError_37 (by decide) ?_
      obtain rfl := Option.some.inj hp
      exact hfin H locs _ ls hS dX2_firstError_41 rfl
  have KL2 : ∀ (n0 : Nat) (z2 : Int32) (H : Heap) (locs : List Loc), va_P G.1 vwCl [(t0, .inr (2, [.ref t1, .int t.2])), (t1, .inl (G.2.1, tN, .inl t.1))] H → va_S (va_A [] s.heap.size) s.heap H locs → ∀ (ls : Array Slot), lv_has ls 2 [(0, .ref t0), (1, .int z2)] → fl_loopN (P_Ln_firstError_L2 tN t) n0 z2 = some r → W p l e (fl_rm 2 42) s m args below meth c H locs 0 0 Q (F0 m 2 ls []) := by
    intro n0
    induction n0 with
    | zero => intro z2 H locs hP hS ls hl hn; exact (fl_loopN_0 hn).elim
    | succ n0 ih2 =>
      intro z2 H locs hP hS ls hl hn
      obtain ⟨y2, hb2, hy2⟩ := fl_loopN_step hn
      clear hn
      have hp := hb2
      unfold P_Ln_firstError_L2 at hp
      refine lv_iload_n hx hb dX2_firstError_2 rfl (lv_at hl 1 rfl) ?_
      refine lv_aload_n hx hb dX2_firstError_3 rfl (lv_at hl 0 rfl) ?_
      refine va_get (D := G.1) (ci := 2) (v := .int t.2) (C := RX2) (T := TX2) (N := 2) hx hb hts iX2 hown hK.1 hP 0 rfl rfl 1 (by decide) (hts (.fieldLink RX2 9 "SongChoir$Line" "length" "I") (List.mem_of_getElem? (i := 1) rfl)) (fun _ h9 => h9) rfl dX2_firstError_4 ?_
      refine lv_icmp_ge (tgt := 29) hx hb dX2_firstError_7 (by decide) (fun hc => ?_) (fun hc => ?_)
      · replace hp := fl_t hc hp
        obtain ⟨_, hu0, rfl⟩ := fl_up_of hp
        obtain rfl := fl_cont_inr hy2
        exact KJ29 H locs hP hS ls (lv_sub hl [0] rfl) hu0
      · replace hp := fl_f hc hp
        refine lv_aload_n hx hb dX2_firstError_10 rfl (lv_at hl 0 rfl) ?_
        refine lv_iload_n hx hb dX2_firstError_11 rfl (lv_at hl 1 rfl) ?_
        obtain ⟨q1, hq1, hp⟩ := fl_bd_of hp
        refine fl_roV (As := [.int z2]) (rest := []) C0 (c_Ln_codeAt l G tN t0 t1 t z2 hq1) (cwV 1 hts gX2_firstError_X2_codeAt rfl rfl rfl (by decide +kernel) ⟨Nat.le_of_ble_eq_true rfl, Nat.le_of_ble_eq_true rfl⟩) hK hP [0, 1] rfl 0 2 rfl rfl rfl hS hA rfl hl.1 rfl (Nat.le_of_ble_eq_true rfl) dX2_firstError_12 ⟨Nat.zero_le _, Nat.zero_le _⟩ (fun H locs hP hS => ?_)
        obtain ⟨q2, hq2, hp⟩ := fl_bd_of hp
        refine fl_roSN (As := [.int q1]) (rest := []) C0 (c_isLetter l G q1 hq2) ⟨va_cnB 1 hts gX2_firstError_X5_isLetter_n33 rfl rfl rfl (hK.nest 5 rfl) (hts (.initialized RX5) (List.mem_of_getElem? (i := 9) rfl)) (by decide +kernel) ⟨Nat.le_of_ble_eq_true rfl, Nat.le_of_ble_eq_true rfl⟩, (hts (.static yX5_isLetter) (List.mem_of_getElem? (i := 11) rfl)), trivial⟩ hK hP [] rfl hS hA rfl hl.1 rfl (Nat.le_of_ble_eq_true rfl) dX2_firstError_15 ⟨Nat.zero_le _, Nat.zero_le _⟩ (fun H locs hP hS => ?_)
        refine lv_if_ne (tgt := 23) hx hb dX2_firstError_18 (by decide) (fun hc => ?_) (fun hc => ?_)
        · replace hp := fl_f hc hp
          refine lv_iinc (v := (z2 + (1 : Int32))) (lv' := [(1, .int (z2 + (1 : Int32))), (0, .ref t0)]) hx hb dX2_firstError_23 hl (k := 1) rfl rfl (by decide) rfl (fun ls hl => ?_)
          refine lv_goto (tgt := 2) hx hb dX2_firstError_26 (by decide) ?_
          obtain rfl := Option.some.inj hp
          exact ih2 (z2 + (1 : Int32)) H locs hP hS ls (lv_sub hl [1, 0] rfl) (fl_cont_inl hy2)
        · replace hp := fl_t hc hp
          refine lv_iload_n hx hb dX2_firstError_21 rfl (lv_at hl 1 rfl) ?_
          obtain rfl := Option.some.inj hp
          obtain rfl := fl_cont_inr hy2
          exact hfin H locs _ ls hS dX2_firstError_22 rfl
  have hp := hp0
  unfold P_Ln_firstError at hp
  refine lv_iconst (v := (0 : Int32)) hx hb dX2_firstError_0 (by decide) ?_
  refine lv_istore_n (lv' := [(1, .int (0 : Int32)), (0, .ref t0)]) hx hb dX2_firstError_1 rfl hl (by decide) rfl (fun ls hl => ?_)
  obtain ⟨n0, hn⟩ := fl_loop_ex hp
  exact KL2 n0 (0 : Int32) H locs hP hS ls (lv_sub hl [1, 0] rfl) hn

noncomputable def P_Ln_isPattern (tN : Nat) (t : fl_Ln) : Option Int32 := fl_bd (P_Ln_firstError tN t) (fun q1 => if q1 = (-1 : Int32) then some (1 : Int32) else some (0 : Int32))
set_option maxHeartbeats 4000000 in
set_option maxRecDepth 100000 in
theorem c_Ln_isPattern (l : Launch) (G : fl_G) (tN : Nat) (t0 t1 : Nat) (t : fl_Ln) {r : Int32} (hp0 : P_Ln_isPattern tN t = some r) : fl_ro l yX2_isPattern wsX2_isPattern 3 63 G [.ref t0] [(t0, .inr (2, [.ref t1, .int t.2])), (t1, .inl (G.2.1, tN, .inl t.1))] (.int r) := by
  refine fl_ro_in cX2_isPattern 1 .boolean RX2 (by decide) rfl rfl (Nat.le_of_ble_eq_true rfl) ?_
  intro p e s m args below meth c ls Q H locs C0 hK hP hS hl hfin
  have hA : ∀ q : Nat, s.heap.size ≤ q → va_A [] s.heap.size q := fl_hA _ _
  obtain ⟨hx, hb, hml, hown, hts⟩ := id C0
  have hl : lv_has ls 1 [(0, .ref t0)] := hl
  have hp := hp0
  unfold P_Ln_isPattern at hp
  refine lv_aload_n hx hb dX2_isPattern_0 rfl (lv_at hl 0 rfl) ?_
  obtain ⟨q1, hq1, hp⟩ := fl_bd_of hp
  refine fl_roV (As := []) (rest := []) C0 (c_Ln_firstError l G tN t0 t1 t hq1) (cwV 0 hts gX2_isPattern_X2_firstError rfl rfl rfl (by decide +kernel) ⟨Nat.le_of_ble_eq_true rfl, Nat.le_of_ble_eq_true rfl⟩) hK hP [0, 1] rfl 0 2 rfl rfl rfl hS hA rfl hl.1 rfl (Nat.le_of_ble_eq_true rfl) dX2_isPattern_1 ⟨Nat.zero_le _, Nat.zero_le _⟩ (fun H locs hP hS => ?_)
  refine lv_iconst (v := (-1 : Int32)) hx hb dX2_isPattern_4 (by decide) ?_
  refine lv_icmp_ne (tgt := 12) hx hb dX2_isPattern_5 (by decide) (fun hc => ?_) (fun hc => ?_)
  · replace hp := fl_f hc hp
    refine lv_iconst (v := (0 : Int32)) hx hb dX2_isPattern_12 (by decide) ?_
    obtain rfl := Option.some.inj hp
    exact hfin H locs _ ls hS dX2_isPattern_13 (show narrow .boolean (.int (0 : Int32)) = .int (0 : Int32) from rfl)
  · replace hp := fl_t hc hp
    refine lv_iconst (v := (1 : Int32)) hx hb dX2_isPattern_8 (by decide) ?_
    refine lv_goto (tgt := 13) hx hb dX2_isPattern_9 (by decide) ?_
    obtain rfl := Option.some.inj hp
    exact hfin H locs _ ls hS dX2_isPattern_13 (show narrow .boolean (.int (1 : Int32)) = .int (1 : Int32) from rfl)

noncomputable def P_Ln_fitsVerse (tN : Nat) (t : fl_Ln) : Option Int32 := if (12 : Int32) < t.2 then some (0 : Int32) else fl_bd (P_Ln_isPattern tN t) (fun q1 => if q1 = 0 then some (0 : Int32) else some (1 : Int32))
set_option maxHeartbeats 4000000 in
set_option maxRecDepth 100000 in
theorem c_Ln_fitsVerse (l : Launch) (G : fl_G) (tN : Nat) (t0 t1 : Nat) (t : fl_Ln) {r : Int32} (hp0 : P_Ln_fitsVerse tN t = some r) : fl_ro l yX2_fitsVerse wsX2_fitsVerse 4 83 G [.ref t0] [(t0, .inr (2, [.ref t1, .int t.2])), (t1, .inl (G.2.1, tN, .inl t.1))] (.int r) := by
  refine fl_ro_in cX2_fitsVerse 1 .boolean RX2 (by decide) rfl rfl (Nat.le_of_ble_eq_true rfl) ?_
  intro p e s m args below meth c ls Q H locs C0 hK hP hS hl hfin
  have hA : ∀ q : Nat, s.heap.size ≤ q → va_A [] s.heap.size q := fl_hA _ _
  obtain ⟨hx, hb, hml, hown, hts⟩ := id C0
  have iX2 : ∀ w ∈ u_ws RX2 TX2 2, w ∈ wsX2_fitsVerse := fun _ h => List.mem_cons_of_mem _ (List.mem_append_right _ h)
  have hl : lv_has ls 1 [(0, .ref t0)] := hl
  have hp := hp0
  unfold P_Ln_fitsVerse at hp
  refine lv_aload_n hx hb dX2_fitsVerse_0 rfl (lv_at hl 0 rfl) ?_
  refine va_get (D := G.1) (ci := 2) (v := .int t.2) (C := RX2) (T := TX2) (N := 2) hx hb hts iX2 hown hK.1 hP 0 rfl rfl 1 (by decide) (hts (.fieldLink RX2 9 "SongChoir$Line" "length" "I") (List.mem_of_getElem? (i := 1) rfl)) (fun _ h9 => h9) rfl dX2_fitsVerse_1 ?_
  refine lv_bipush (v := (12 : Int32)) hx hb dX2_fitsVerse_4 (by decide) ?_
  refine lv_icmp_gt (tgt := 20) hx hb dX2_fitsVerse_6 (by decide) (fun hc => ?_) (fun hc => ?_)
  · replace hp := fl_t hc hp
    refine lv_iconst (v := (0 : Int32)) hx hb dX2_fitsVerse_20 (by decide) ?_
    obtain rfl := Option.some.inj hp
    exact hfin H locs _ ls hS dX2_fitsVerse_21 (show narrow .boolean (.int (0 : Int32)) = .int (0 : Int32) from rfl)
  · replace hp := fl_f hc hp
    refine lv_aload_n hx hb dX2_fitsVerse_9 rfl (lv_at hl 0 rfl) ?_
    obtain ⟨q1, hq1, hp⟩ := fl_bd_of hp
    refine fl_roV (As := []) (rest := []) C0 (c_Ln_isPattern l G tN t0 t1 t hq1) (cwV 0 hts gX2_fitsVerse_X2_isPattern rfl rfl rfl (by decide +kernel) ⟨Nat.le_of_ble_eq_true rfl, Nat.le_of_ble_eq_true rfl⟩) hK hP [0, 1] rfl 0 2 rfl rfl rfl hS hA rfl hl.1 rfl (Nat.le_of_ble_eq_true rfl) dX2_fitsVerse_10 ⟨Nat.zero_le _, Nat.zero_le _⟩ (fun H locs hP hS => ?_)
    refine lv_if_eq (tgt := 20) hx hb dX2_fitsVerse_13 (by decide) (fun hc => ?_) (fun hc => ?_)
    · replace hp := fl_t hc hp
      refine lv_iconst (v := (0 : Int32)) hx hb dX2_fitsVerse_20 (by decide) ?_
      obtain rfl := Option.some.inj hp
      exact hfin H locs _ ls hS dX2_fitsVerse_21 (show narrow .boolean (.int (0 : Int32)) = .int (0 : Int32) from rfl)
    · replace hp := fl_f hc hp
      refine lv_iconst (v := (1 : Int32)) hx hb dX2_fitsVerse_16 (by decide) ?_
      refine lv_goto (tgt := 21) hx hb dX2_fitsVerse_17 (by decide) ?_
      obtain rfl := Option.some.inj hp
      exact hfin H locs _ ls hS dX2_fitsVerse_21 (show narrow .boolean (.int (1 : Int32)) = .int (1 : Int32) from rfl)

noncomputable def P_Sg_codeAt (sg : fl_Sg) (p0 : Int32) : Option Int32 := fl_bd (P_cellOf 48 sg.1 p0) (fun q1 => some q1)
set_option maxHeartbeats 4000000 in
set_option maxRecDepth 100000 in
theorem c_Sg_codeAt (l : Launch) (G : fl_G) (sg0 sg1 sg2 : Nat) (sg : fl_Sg) (p0 : Int32) {r : Int32} (hp0 : P_Sg_codeAt sg p0 = some r) : fl_ro l yX4_codeAt wsX4_codeAt 1 21 G [.ref sg0, .int p0] [(sg0, .inr (4, [.ref sg1, .ref sg2, .int sg.2.2.1, .int sg.2.2.2.1, .int sg.2.2.2.2.1, .int sg.2.2.2.2.2.1, .int sg.2.2.2.2.2.2.1, .int sg.2.2.2.2.2.2.2])), (sg1, .inl (G.2.1, 48, .inl sg.1)), (sg2, .inl (G.2.1, 48, .inl sg.2.1))] (.int r) := by
  refine fl_ro_in cX4_codeAt 2 .int RX4 (by decide) rfl rfl (Nat.le_of_ble_eq_true rfl) ?_
  intro p e s m args below meth c ls Q H locs C0 hK hP hS hl hfin
  have hA : ∀ q : Nat, s.heap.size ≤ q → va_A [] s.heap.size q := fl_hA _ _
  obtain ⟨hx, hb, hml, hown, hts⟩ := id C0
  have iX4 : ∀ w ∈ u_ws RX4 TX4 8, w ∈ wsX4_codeAt := fun _ h => List.mem_cons_of_mem _ (List.mem_append_right _ h)
  have hl : lv_has ls 2 [(0, .ref sg0), (1, .int p0)] := hl
  have hp := hp0
  unfold P_Sg_codeAt at hp
  refine lv_aload_n hx hb dX4_codeAt_0 rfl (lv_at hl 0 rfl) ?_
  refine va_get (D := G.1) (ci := 4) (v := .ref sg1) (C := RX4) (T := TX4) (N := 8) hx hb hts iX4 hown hK.1 hP 0 rfl rfl 0 (by decide) (hts (.fieldLink RX4 9 "SongChoir$Song" "codes" "[I") (List.mem_of_getElem? (i := 1) rfl)) (fun _ h9 => h9) rfl dX4_codeAt_1 ?_
  refine lv_iload_n hx hb dX4_codeAt_4 rfl (lv_at hl 1 rfl) ?_
  obtain ⟨q1, hq1, hp⟩ := fl_bd_of hp
  refine fl_roSN (As := [.ref sg1, .int p0]) (rest := []) C0 (c_cellOf l G 48 sg1 sg.1 p0 hq1) ⟨va_cnB 2 hts gX4_codeAt_X5_cellOf_n41 rfl rfl rfl (hK.nest 9 rfl) (hts (.initialized RX5) (List.mem_of_getElem? (i := 3) rfl)) (by decide +kernel) ⟨Nat.le_of_ble_eq_true rfl, Nat.le_of_ble_eq_true rfl⟩, (hts (.static yX5_cellOf) (List.mem_of_getElem? (i := 2) rfl)), trivial⟩ hK hP [1] rfl hS hA rfl hl.1 rfl (Nat.le_of_ble_eq_true rfl) dX4_codeAt_5 ⟨Nat.zero_le _, Nat.zero_le _⟩ (fun H locs hP hS => ?_)
  obtain rfl := Option.some.inj hp
  exact hfin H locs _ ls hS dX4_codeAt_8 rfl

noncomputable def P_Sg_hasVerse (sg : fl_Sg) (p0 : Int32) : Option Int32 := if p0 < 0 then some (0 : Int32) else if sg.2.2.2.1 ≤ p0 then some (0 : Int32) else some (1 : Int32)
set_option maxHeartbeats 4000000 in
set_option maxRecDepth 100000 in
theorem c_Sg_hasVerse (l : Launch) (G : fl_G) (sg0 sg1 sg2 : Nat) (sg : fl_Sg) (p0 : Int32) {r : Int32} (hp0 : P_Sg_hasVerse sg p0 = some r) : fl_ro l yX4_hasVerse wsX4_hasVerse 0 0 G [.ref sg0, .int p0] [(sg0, .inr (4, [.ref sg1, .ref sg2, .int sg.2.2.1, .int sg.2.2.2.1, .int sg.2.2.2.2.1, .int sg.2.2.2.2.2.1, .int sg.2.2.2.2.2.2.1, .int sg.2.2.2.2.2.2.2])), (sg1, .inl (G.2.1, 48, .inl sg.1)), (sg2, .inl (G.2.1, 48, .inl sg.2.1))] (.int r) := by
  refine fl_ro_in cX4_hasVerse 2 .boolean RX4 (by decide) rfl rfl (Nat.le_of_ble_eq_true rfl) ?_
  intro p e s m args below meth c ls Q H locs C0 hK hP hS hl hfin
  have hA : ∀ q : Nat, s.heap.size ≤ q → va_A [] s.heap.size q := fl_hA _ _
  obtain ⟨hx, hb, hml, hown, hts⟩ := id C0
  have iX4 : ∀ w ∈ u_ws RX4 TX4 8, w ∈ wsX4_hasVerse := fun _ h => List.mem_cons_of_mem _ (List.mem_append_right _ h)
  have hl : lv_has ls 2 [(0, .ref sg0), (1, .int p0)] := hl
  have hp := hp0
  unfold P_Sg_hasVerse at hp
  refine lv_iload_n hx hb dX4_hasVerse_0 rfl (lv_at hl 1 rfl) ?_
  refine lv_if_lt (tgt := 16) hx hb dX4_hasVerse_1 (by decide) (fun hc => ?_) (fun hc => ?_)
  · replace hp := fl_t hc hp
    refine lv_iconst (v := (0 : Int32)) hx hb dX4_hasVerse_16 (by decide) ?_
    obtain rfl := Option.some.inj hp
    exact hfin H locs _ ls hS dX4_hasVerse_17 (show narrow .boolean (.int (0 : Int32)) = .int (0 : Int32) from rfl)
  · replace hp := fl_f hc hp
    refine lv_iload_n hx hb dX4_hasVerse_4 rfl (lv_at hl 1 rfl) ?_
    refine lv_aload_n hx hb dX4_hasVerse_5 rfl (lv_at hl 0 rfl) ?_
    refine va_get (D := G.1) (ci := 4) (v := .int sg.2.2.2.1) (C := RX4) (T := TX4) (N := 8) hx hb hts iX4 hown hK.1 hP 0 rfl rfl 3 (by decide) (hts (.fieldLink RX4 22 "SongChoir$Song" "verses" "I") (List.mem_of_getElem? (i := 1) rfl)) (fun _ h9 => h9) rfl dX4_hasVerse_6 ?_
    refine lv_icmp_ge (tgt := 16) hx hb dX4_hasVerse_9 (by decide) (fun hc => ?_) (fun hc => ?_)
    · replace hp := fl_t hc hp
      refine lv_iconst (v := (0 : Int32)) hx hb dX4_hasVerse_16 (by decide) ?_
      obtain rfl := Option.some.inj hp
      exact hfin H locs _ ls hS dX4_hasVerse_17 (show narrow .boolean (.int (0 : Int32)) = .int (0 : Int32) from rfl)
    · replace hp := fl_f hc hp
      refine lv_iconst (v := (1 : Int32)) hx hb dX4_hasVerse_12 (by decide) ?_
      refine lv_goto (tgt := 17) hx hb dX4_hasVerse_13 (by decide) ?_
      obtain rfl := Option.some.inj hp
      exact hfin H locs _ ls hS dX4_hasVerse_17 (show narrow .boolean (.int (1 : Int32)) = .int (1 : Int32) from rfl)

noncomputable def P_Sg_lengthOf (sg : fl_Sg) (p0 : Int32) : Option Int32 := fl_bd (P_Sg_hasVerse sg p0) (fun q1 => if q1 = 0 then some (0 : Int32) else fl_bd (P_cellOf 48 sg.2.1 p0) (fun q2 => some q2))
set_option maxHeartbeats 4000000 in
set_option maxRecDepth 100000 in
theorem c_Sg_lengthOf (l : Launch) (G : fl_G) (sg0 sg1 sg2 : Nat) (sg : fl_Sg) (p0 : Int32) {r : Int32} (hp0 : P_Sg_lengthOf sg p0 = some r) : fl_ro l yX4_lengthOf wsX4_lengthOf 1 21 G [.ref sg0, .int p0] [(sg0, .inr (4, [.ref sg1, .ref sg2, .int sg.2.2.1, .int sg.2.2.2.1, .int sg.2.2.2.2.1, .int sg.2.2.2.2.2.1, .int sg.2.2.2.2.2.2.1, .int sg.2.2.2.2.2.2.2])), (sg1, .inl (G.2.1, 48, .inl sg.1)), (sg2, .inl (G.2.1, 48, .inl sg.2.1))] (.int r) := by
  refine fl_ro_in cX4_lengthOf 2 .int RX4 (by decide) rfl rfl (Nat.le_of_ble_eq_true rfl) ?_
  intro p e s m args below meth c ls Q H locs C0 hK hP hS hl hfin
  have hA : ∀ q : Nat, s.heap.size ≤ q → va_A [] s.heap.size q := fl_hA _ _
  obtain ⟨hx, hb, hml, hown, hts⟩ := id C0
  have iX4 : ∀ w ∈ u_ws RX4 TX4 8, w ∈ wsX4_lengthOf := fun _ h => List.mem_cons_of_mem _ (List.mem_append_right _ h)
  have hl : lv_has ls 2 [(0, .ref sg0), (1, .int p0)] := hl
  have hp := hp0
  unfold P_Sg_lengthOf at hp
  refine lv_aload_n hx hb dX4_lengthOf_0 rfl (lv_at hl 0 rfl) ?_
  refine lv_iload_n hx hb dX4_lengthOf_1 rfl (lv_at hl 1 rfl) ?_
  obtain ⟨q1, hq1, hp⟩ := fl_bd_of hp
  refine fl_roV (As := [.int p0]) (rest := []) C0 (c_Sg_hasVerse l G sg0 sg1 sg2 sg p0 hq1) (cwV 1 hts gX4_lengthOf_X4_hasVerse rfl rfl rfl (by decide +kernel) ⟨Nat.le_of_ble_eq_true rfl, Nat.le_of_ble_eq_true rfl⟩) hK hP [0, 1, 2] rfl 0 4 rfl rfl rfl hS hA rfl hl.1 rfl (Nat.le_of_ble_eq_true rfl) dX4_lengthOf_2 ⟨Nat.zero_le _, Nat.zero_le _⟩ (fun H locs hP hS => ?_)
  refine lv_if_eq (tgt := 19) hx hb dX4_lengthOf_5 (by decide) (fun hc => ?_) (fun hc => ?_)
  · replace hp := fl_t hc hp
    refine lv_iconst (v := (0 : Int32)) hx hb dX4_lengthOf_19 (by decide) ?_
    obtain rfl := Option.some.inj hp
    exact hfin H locs _ ls hS dX4_lengthOf_20 rfl
  · replace hp := fl_f hc hp
    refine lv_aload_n hx hb dX4_lengthOf_8 rfl (lv_at hl 0 rfl) ?_
    refine va_get (D := G.1) (ci := 4) (v := .ref sg2) (C := RX4) (T := TX4) (N := 8) hx hb hts iX4 hown hK.1 hP 0 rfl rfl 1 (by decide) (hts (.fieldLink RX4 15 "SongChoir$Song" "lengths" "[I") (List.mem_of_getElem? (i := 1) rfl)) (fun _ h9 => h9) rfl dX4_lengthOf_9 ?_
    refine lv_iload_n hx hb dX4_lengthOf_12 rfl (lv_at hl 1 rfl) ?_
    obtain ⟨q2, hq2, hp⟩ := fl_bd_of hp
    refine fl_roSN (As := [.ref sg2, .int p0]) (rest := []) C0 (c_cellOf l G 48 sg2 sg.2.1 p0 hq2) ⟨va_cnB 2 hts gX4_lengthOf_X5_cellOf_n41 rfl rfl rfl (hK.nest 9 rfl) (hts (.initialized RX5) (List.mem_of_getElem? (i := 9) rfl)) (by decide +kernel) ⟨Nat.le_of_ble_eq_true rfl, Nat.le_of_ble_eq_true rfl⟩, (hts (.static yX5_cellOf) (List.mem_of_getElem? (i := 8) rfl)), trivial⟩ hK hP [2] rfl hS hA rfl hl.1 rfl (Nat.le_of_ble_eq_true rfl) dX4_lengthOf_13 ⟨Nat.zero_le _, Nat.zero_le _⟩ (fun H locs hP hS => ?_)
    refine lv_goto (tgt := 20) hx hb dX4_lengthOf_16 (by decide) ?_
    obtain rfl := Option.some.inj hp
    exact hfin H locs _ ls hS dX4_lengthOf_20 rfl

noncomputable def P_Sg_startOf_L4 (sg : fl_Sg) (p0 : Int32) (z4 : (Int32 × Int32)) : Option ((Int32 × Int32) ⊕ Int32) := if p0 ≤ z4.2 then some (.inr z4.1) else if sg.2.2.2.1 ≤ z4.2 then some (.inr z4.1) else fl_bd (P_cellOf 48 sg.2.1 z4.2) (fun q1 => some (.inl ((z4.1 + q1), (z4.2 + (1 : Int32)))))
noncomputable def P_Sg_startOf (sg : fl_Sg) (p0 : Int32) : Option Int32 := fl_loop (P_Sg_startOf_L4 sg p0) ((0 : Int32), (0 : Int32))
set_option maxHeartbeats 4000000 in
set_option maxRecDepth 100000 in
theorem c_Sg_startOf (l : Launch) (G : fl_G) (sg0 sg1 sg2 : Nat) (sg : fl_Sg) (p0 : Int32) {r : Int32} (hp0 : P_Sg_startOf sg p0 = some r) : fl_ro l yX4_startOf wsX4_startOf 1 21 G [.ref sg0, .int p0] [(sg0, .inr (4, [.ref sg1, .ref sg2, .int sg.2.2.1, .int sg.2.2.2.1, .int sg.2.2.2.2.1, .int sg.2.2.2.2.2.1, .int sg.2.2.2.2.2.2.1, .int sg.2.2.2.2.2.2.2])), (sg1, .inl (G.2.1, 48, .inl sg.1)), (sg2, .inl (G.2.1, 48, .inl sg.2.1))] (.int r) := by
  refine fl_ro_in cX4_startOf 4 .int RX4 (by decide) rfl rfl (Nat.le_of_ble_eq_true rfl) ?_
  intro p e s m args below meth c ls Q H locs C0 hK hP hS hl hfin
  have hA : ∀ q : Nat, s.heap.size ≤ q → va_A [] s.heap.size q := fl_hA _ _
  obtain ⟨hx, hb, hml, hown, hts⟩ := id C0
  have iX4 : ∀ w ∈ u_ws RX4 TX4 8, w ∈ wsX4_startOf := fun _ h => List.mem_cons_of_mem _ (List.mem_append_right _ h)
  have hl : lv_has ls 4 [(0, .ref sg0), (1, .int p0)] := hl
  have KL4 : ∀ (n0 : Nat) (z4 : (Int32 × Int32)) (H : Heap) (locs : List Loc), va_P G.1 vwCl [(sg0, .inr (4, [.ref sg1, .ref sg2, .int sg.2.2.1, .int sg.2.2.2.1, .int sg.2.2.2.2.1, .int sg.2.2.2.2.2.1, .int sg.2.2.2.2.2.2.1, .int sg.2.2.2.2.2.2.2])), (sg1, .inl (G.2.1, 48, .inl sg.1)), (sg2, .inl (G.2.1, 48, .inl sg.2.1))] H → va_S (va_A [] s.heap.size) s.heap H locs → ∀ (ls : Array Slot), lv_has ls 4 [(0, .ref sg0), (1, .int p0), (2, .int z4.1), (3, .int z4.2)] → fl_loopN (P_Sg_startOf_L4 sg p0) n0 z4 = some r → W p l e (fl_rm 1 21) s m args below meth c H locs 0 0 Q (F0 m 4 ls []) := by
    intro n0
    induction n0 with
    | zero => intro z4 H locs hP hS ls hl hn; exact (fl_loopN_0 hn).elim
    | succ n0 ih4 =>
      intro z4 H locs hP hS ls hl hn
      obtain ⟨y4, hb4, hy4⟩ := fl_loopN_step hn
      clear hn
      have hp := hb4
      unfold P_Sg_startOf_L4 at hp
      refine lv_iload_n hx hb dX4_startOf_4 rfl (lv_at hl 3 rfl) ?_
      refine lv_iload_n hx hb dX4_startOf_5 rfl (lv_at hl 1 rfl) ?_
      refine lv_icmp_ge (tgt := 34) hx hb dX4_startOf_6 (by decide) (fun hc => ?_) (fun hc => ?_)
      · replace hp := fl_t hc hp
        refine lv_iload_n hx hb dX4_startOf_34 rfl (lv_at hl 2 rfl) ?_
        obtain rfl := Option.some.inj hp
        obtain rfl := fl_cont_inr hy4
        exact hfin H locs _ ls hS dX4_startOf_35 rfl
      · replace hp := fl_f hc hp
        refine lv_iload_n hx hb dX4_startOf_9 rfl (lv_at hl 3 rfl) ?_
        refine lv_aload_n hx hb dX4_startOf_10 rfl (lv_at hl 0 rfl) ?_
        refine va_get (D := G.1) (ci := 4) (v := .int sg.2.2.2.1) (C := RX4) (T := TX4) (N := 8) hx hb hts iX4 hown hK.1 hP 0 rfl rfl 3 (by decide) (hts (.fieldLink RX4 22 "SongChoir$Song" "verses" "I") (List.mem_of_getElem? (i := 1) rfl)) (fun _ h9 => h9) rfl dX4_startOf_11 ?_
        refine lv_icmp_ge (tgt := 34) hx hb dX4_startOf_14 (by decide) (fun hc => ?_) (fun hc => ?_)
        · replace hp := fl_t hc hp
          refine lv_iload_n hx hb dX4_startOf_34 rfl (lv_at hl 2 rfl) ?_
          obtain rfl := Option.some.inj hp
          obtain rfl := fl_cont_inr hy4
          exact hfin H locs _ ls hS dX4_startOf_35 rfl
        · replace hp := fl_f hc hp
          refine lv_iload_n hx hb dX4_startOf_17 rfl (lv_at hl 2 rfl) ?_
          refine lv_aload_n hx hb dX4_startOf_18 rfl (lv_at hl 0 rfl) ?_
          refine va_get (D := G.1) (ci := 4) (v := .ref sg2) (C := RX4) (T := TX4) (N := 8) hx hb hts iX4 hown hK.1 hP 0 rfl rfl 1 (by decide) (hts (.fieldLink RX4 15 "SongChoir$Song" "lengths" "[I") (List.mem_of_getElem? (i := 2) rfl)) (fun _ h9 => h9) rfl dX4_startOf_19 ?_
          refine lv_iload_n hx hb dX4_startOf_22 rfl (lv_at hl 3 rfl) ?_
          obtain ⟨q1, hq1, hp⟩ := fl_bd_of hp
          refine fl_roSN (As := [.ref sg2, .int z4.2]) (rest := [.int z4.1]) C0 (c_cellOf l G 48 sg2 sg.2.1 z4.2 hq1) ⟨va_cnB 2 hts gX4_startOf_X5_cellOf_n41 rfl rfl rfl (hK.nest 9 rfl) (hts (.initialized RX5) (List.mem_of_getElem? (i := 4) rfl)) (by decide +kernel) ⟨Nat.le_of_ble_eq_true rfl, Nat.le_of_ble_eq_true rfl⟩, (hts (.static yX5_cellOf) (List.mem_of_getElem? (i := 3) rfl)), trivial⟩ hK hP [2] rfl hS hA rfl hl.1 rfl (Nat.le_of_ble_eq_true rfl) dX4_startOf_23 ⟨Nat.zero_le _, Nat.zero_le _⟩ (fun H locs hP hS => ?_)
          refine lv_iadd hx hb dX4_startOf_26 ?_
          refine lv_istore_n (lv' := [(2, .int (z4.1 + q1)), (0, .ref sg0), (1, .int p0), (3, .int z4.2)]) hx hb dX4_startOf_27 rfl hl (by decide) rfl (fun ls hl => ?_)
          refine lv_iinc (v := (z4.2 + (1 : Int32))) (lv' := [(3, .int (z4.2 + (1 : Int32))), (2, .int (z4.1 + q1)), (0, .ref sg0), (1, .int p0)]) hx hb dX4_startOf_28 hl (k := 3) rfl rfl (by decide) rfl (fun ls hl => ?_)
          refine lv_goto (tgt := 4) hx hb dX4_startOf_31 (by decide) ?_
          obtain rfl := Option.some.inj hp
          exact ih4 ((z4.1 + q1), (z4.2 + (1 : Int32))) H locs hP hS ls (lv_sub hl [2, 3, 1, 0] rfl) (fl_cont_inl hy4)
  have hp := hp0
  unfold P_Sg_startOf at hp
  refine lv_iconst (v := (0 : Int32)) hx hb dX4_startOf_0 (by decide) ?_
  refine lv_istore_n (lv' := [(2, .int (0 : Int32)), (0, .ref sg0), (1, .int p0)]) hx hb dX4_startOf_1 rfl hl (by decide) rfl (fun ls hl => ?_)
  refine lv_iconst (v := (0 : Int32)) hx hb dX4_startOf_2 (by decide) ?_
  refine lv_istore_n (lv' := [(3, .int (0 : Int32)), (2, .int (0 : Int32)), (0, .ref sg0), (1, .int p0)]) hx hb dX4_startOf_3 rfl hl (by decide) rfl (fun ls hl => ?_)
  obtain ⟨n0, hn⟩ := fl_loop_ex hp
  exact KL4 n0 ((0 : Int32), (0 : Int32)) H locs hP hS ls (lv_sub hl [2, 3, 1, 0] rfl) hn

noncomputable def P_Sg_verseAt_L4 (sg : fl_Sg) (p0 : Int32) (z4 : (Int32 × Int32)) : Option ((Int32 × Int32) ⊕ Int32) := if sg.2.2.2.1 ≤ z4.2 then some (.inr (-1 : Int32)) else fl_bd (P_cellOf 48 sg.2.1 z4.2) (fun q1 => if (z4.1 + q1) ≤ p0 then some (.inl ((z4.1 + q1), (z4.2 + (1 : Int32)))) else some (.inr z4.2))
noncomputable def P_Sg_verseAt (sg : fl_Sg) (p0 : Int32) : Option Int32 := fl_loop (P_Sg_verseAt_L4 sg p0) ((0 : Int32), (0 : Int32))
set_option maxHeartbeats 4000000 in
set_option maxRecDepth 100000 in
theorem c_Sg_verseAt (l : Launch) (G : fl_G) (sg0 sg1 sg2 : Nat) (sg : fl_Sg) (p0 : Int32) {r : Int32} (hp0 : P_Sg_verseAt sg p0 = some r) : fl_ro l yX4_verseAt wsX4_verseAt 1 21 G [.ref sg0, .int p0] [(sg0, .inr (4, [.ref sg1, .ref sg2, .int sg.2.2.1, .int sg.2.2.2.1, .int sg.2.2.2.2.1, .int sg.2.2.2.2.2.1, .int sg.2.2.2.2.2.2.1, .int sg.2.2.2.2.2.2.2])), (sg1, .inl (G.2.1, 48, .inl sg.1)), (sg2, .inl (G.2.1, 48, .inl sg.2.1))] (.int r) := by
  refine fl_ro_in cX4_verseAt 4 .int RX4 (by decide) rfl rfl (Nat.le_of_ble_eq_true rfl) ?_
  intro p e s m args below meth c ls Q H locs C0 hK hP hS hl hfin
  have hA : ∀ q : Nat, s.heap.size ≤ q → va_A [] s.heap.size q := fl_hA _ _
  obtain ⟨hx, hb, hml, hown, hts⟩ := id C0
  have iX4 : ∀ w ∈ u_ws RX4 TX4 8, w ∈ wsX4_verseAt := fun _ h => List.mem_cons_of_mem _ (List.mem_append_right _ h)
  have hl : lv_has ls 4 [(0, .ref sg0), (1, .int p0)] := hl
  have KL4 : ∀ (n0 : Nat) (z4 : (Int32 × Int32)) (H : Heap) (locs : List Loc), va_P G.1 vwCl [(sg0, .inr (4, [.ref sg1, .ref sg2, .int sg.2.2.1, .int sg.2.2.2.1, .int sg.2.2.2.2.1, .int sg.2.2.2.2.2.1, .int sg.2.2.2.2.2.2.1, .int sg.2.2.2.2.2.2.2])), (sg1, .inl (G.2.1, 48, .inl sg.1)), (sg2, .inl (G.2.1, 48, .inl sg.2.1))] H → va_S (va_A [] s.heap.size) s.heap H locs → ∀ (ls : Array Slot), lv_has ls 4 [(0, .ref sg0), (1, .int p0), (2, .int z4.1), (3, .int z4.2)] → fl_loopN (P_Sg_verseAt_L4 sg p0) n0 z4 = some r → W p l e (fl_rm 1 21) s m args below meth c H locs 0 0 Q (F0 m 4 ls []) := by
    intro n0
    induction n0 with
    | zero => intro z4 H locs hP hS ls hl hn; exact (fl_loopN_0 hn).elim
    | succ n0 ih4 =>
      intro z4 H locs hP hS ls hl hn
      obtain ⟨y4, hb4, hy4⟩ := fl_loopN_step hn
      clear hn
      have hp := hb4
      unfold P_Sg_verseAt_L4 at hp
      refine lv_iload_n hx hb dX4_verseAt_4 rfl (lv_at hl 3 rfl) ?_
      refine lv_aload_n hx hb dX4_verseAt_5 rfl (lv_at hl 0 rfl) ?_
      refine va_get (D := G.1) (ci := 4) (v := .int sg.2.2.2.1) (C := RX4) (T := TX4) (N := 8) hx hb hts iX4 hown hK.1 hP 0 rfl rfl 3 (by decide) (hts (.fieldLink RX4 22 "SongChoir$Song" "verses" "I") (List.mem_of_getElem? (i := 1) rfl)) (fun _ h9 => h9) rfl dX4_verseAt_6 ?_
      refine lv_icmp_ge (tgt := 36) hx hb dX4_verseAt_9 (by decide) (fun hc => ?_) (fun hc => ?_)
      · replace hp := fl_t hc hp
        refine lv_iconst (v := (-1 : Int32)) hx hb dX4_verseAt_36 (by decide) ?_
        obtain rfl := Option.some.inj hp
        obtain rfl := fl_cont_inr hy4
        exact hfin H locs _ ls hS dX4_verseAt_37 rfl
      · replace hp := fl_f hc hp
        refine lv_iload_n hx hb dX4_verseAt_12 rfl (lv_at hl 2 rfl) ?_
        refine lv_aload_n hx hb dX4_verseAt_13 rfl (lv_at hl 0 rfl) ?_
        refine va_get (D := G.1) (ci := 4) (v := .ref sg2) (C := RX4) (T := TX4) (N := 8) hx hb hts iX4 hown hK.1 hP 0 rfl rfl 1 (by decide) (hts (.fieldLink RX4 15 "SongChoir$Song" "lengths" "[I") (List.mem_of_getElem? (i := 2) rfl)) (fun _ h9 => h9) rfl dX4_verseAt_14 ?_
        refine lv_iload_n hx hb dX4_verseAt_17 rfl (lv_at hl 3 rfl) ?_
        obtain ⟨q1, hq1, hp⟩ := fl_bd_of hp
        refine fl_roSN (As := [.ref sg2, .int z4.2]) (rest := [.int z4.1]) C0 (c_cellOf l G 48 sg2 sg.2.1 z4.2 hq1) ⟨va_cnB 2 hts gX4_verseAt_X5_cellOf_n41 rfl rfl rfl (hK.nest 9 rfl) (hts (.initialized RX5) (List.mem_of_getElem? (i := 4) rfl)) (by decide +kernel) ⟨Nat.le_of_ble_eq_true rfl, Nat.le_of_ble_eq_true rfl⟩, (hts (.static yX5_cellOf) (List.mem_of_getElem? (i := 3) rfl)), trivial⟩ hK hP [2] rfl hS hA rfl hl.1 rfl (Nat.le_of_ble_eq_true rfl) dX4_verseAt_18 ⟨Nat.zero_le _, Nat.zero_le _⟩ (fun H locs hP hS => ?_)
        refine lv_iadd hx hb dX4_verseAt_21 ?_
        refine lv_istore_n (lv' := [(2, .int (z4.1 + q1)), (0, .ref sg0), (1, .int p0), (3, .int z4.2)]) hx hb dX4_verseAt_22 rfl hl (by decide) rfl (fun ls hl => ?_)
        refine lv_iload_n hx hb dX4_verseAt_23 rfl (lv_at hl 2 rfl) ?_
        refine lv_iload_n hx hb dX4_verseAt_24 rfl (lv_at hl 0 rfl) ?_
        refine lv_icmp_ge (tgt := 30) hx hb dX4_verseAt_25 (by decide) (fun hc => ?_) (fun hc => ?_)
        · replace hp := fl_t hc hp
          refine lv_iinc (v := (z4.2 + (1 : Int32))) (lv' := [(3, .int (z4.2 + (1 : Int32))), (2, .int (z4.1 + q1)), (0, .ref sg0), (1, .int p0)]) hx hb dX4_verseAt_30 hl (k := 3) rfl rfl (by decide) rfl (fun ls hl => ?_)
          refine lv_goto (tgt := 4) hx hb dX4_verseAt_33 (by decide) ?_
          obtain rfl := Option.some.inj hp
          exact ih4 ((z4.1 + q1), (z4.2 + (1 : Int32))) H locs hP hS ls (lv_sub hl [2, 3, 1, 0] rfl) (fl_cont_inl hy4)
        · replace hp := fl_f hc hp
          refine lv_iload_n hx hb dX4_verseAt_28 rfl (lv_at hl 3 rfl) ?_
          obtain rfl := Option.some.inj hp
          obtain rfl := fl_cont_inr hy4
          exact hfin H locs _ ls hS dX4_verseAt_29 rfl
  have hp := hp0
  unfold P_Sg_verseAt at hp
  refine lv_iconst (v := (0 : Int32)) hx hb dX4_verseAt_0 (by decide) ?_
  refine lv_istore_n (lv' := [(2, .int (0 : Int32)), (0, .ref sg0), (1, .int p0)]) hx hb dX4_verseAt_1 rfl hl (by decide) rfl (fun ls hl => ?_)
  refine lv_iconst (v := (0 : Int32)) hx hb dX4_verseAt_2 (by decide) ?_
  refine lv_istore_n (lv' := [(3, .int (0 : Int32)), (2, .int (0 : Int32)), (0, .ref sg0), (1, .int p0)]) hx hb dX4_verseAt_3 rfl hl (by decide) rfl (fun ls hl => ?_)
  obtain ⟨n0, hn⟩ := fl_loop_ex hp
  exact KL4 n0 ((0 : Int32), (0 : Int32)) H locs hP hS ls (lv_sub hl [2, 3, 1, 0] rfl) hn

noncomputable def P_Sg_lowestRankOf (sg : fl_Sg) (p0 : Int32) : Option Int32 := if (1 : Int32) ≤ sg.2.2.2.2.1 then fl_nz sg.2.2.2.2.1 (some ((p0 * sg.2.2.1) / sg.2.2.2.2.1)) else some (0 : Int32)
set_option maxHeartbeats 4000000 in
set_option maxRecDepth 100000 in
theorem c_Sg_lowestRankOf (l : Launch) (G : fl_G) (sg0 sg1 sg2 : Nat) (sg : fl_Sg) (p0 : Int32) {r : Int32} (hp0 : P_Sg_lowestRankOf sg p0 = some r) : fl_ro l yX4_lowestRankOf wsX4_lowestRankOf 0 0 G [.ref sg0, .int p0] [(sg0, .inr (4, [.ref sg1, .ref sg2, .int sg.2.2.1, .int sg.2.2.2.1, .int sg.2.2.2.2.1, .int sg.2.2.2.2.2.1, .int sg.2.2.2.2.2.2.1, .int sg.2.2.2.2.2.2.2])), (sg1, .inl (G.2.1, 48, .inl sg.1)), (sg2, .inl (G.2.1, 48, .inl sg.2.1))] (.int r) := by
  refine fl_ro_in cX4_lowestRankOf 2 .int RX4 (by decide) rfl rfl (Nat.le_of_ble_eq_true rfl) ?_
  intro p e s m args below meth c ls Q H locs C0 hK hP hS hl hfin
  have hA : ∀ q : Nat, s.heap.size ≤ q → va_A [] s.heap.size q := fl_hA _ _
  obtain ⟨hx, hb, hml, hown, hts⟩ := id C0
  have iX4 : ∀ w ∈ u_ws RX4 TX4 8, w ∈ wsX4_lowestRankOf := fun _ h => List.mem_cons_of_mem _ (List.mem_append_right _ h)
  have hl : lv_has ls 2 [(0, .ref sg0), (1, .int p0)] := hl
  have hp := hp0
  unfold P_Sg_lowestRankOf at hp
  refine lv_aload_n hx hb dX4_lowestRankOf_0 rfl (lv_at hl 0 rfl) ?_
  refine va_get (D := G.1) (ci := 4) (v := .int sg.2.2.2.2.1) (C := RX4) (T := TX4) (N := 8) hx hb hts iX4 hown hK.1 hP 0 rfl rfl 4 (by decide) (hts (.fieldLink RX4 25 "SongChoir$Song" "singers" "I") (List.mem_of_getElem? (i := 1) rfl)) (fun _ h9 => h9) rfl dX4_lowestRankOf_1 ?_
  refine lv_iconst (v := (1 : Int32)) hx hb dX4_lowestRankOf_4 (by decide) ?_
  refine lv_icmp_ge (tgt := 12) hx hb dX4_lowestRankOf_5 (by decide) (fun hc => ?_) (fun hc => ?_)
  · replace hp := fl_t hc hp
    refine lv_iload_n hx hb dX4_lowestRankOf_12 rfl (lv_at hl 1 rfl) ?_
    refine lv_aload_n hx hb dX4_lowestRankOf_13 rfl (lv_at hl 0 rfl) ?_
    refine va_get (D := G.1) (ci := 4) (v := .int sg.2.2.1) (C := RX4) (T := TX4) (N := 8) hx hb hts iX4 hown hK.1 hP 0 rfl rfl 2 (by decide) (hts (.fieldLink RX4 18 "SongChoir$Song" "notes" "I") (List.mem_of_getElem? (i := 2) rfl)) (fun _ h9 => h9) rfl dX4_lowestRankOf_14 ?_
    refine lv_imul hx hb dX4_lowestRankOf_17 ?_
    refine lv_aload_n hx hb dX4_lowestRankOf_18 rfl (lv_at hl 0 rfl) ?_
    refine va_get (D := G.1) (ci := 4) (v := .int sg.2.2.2.2.1) (C := RX4) (T := TX4) (N := 8) hx hb hts iX4 hown hK.1 hP 0 rfl rfl 4 (by decide) (hts (.fieldLink RX4 25 "SongChoir$Song" "singers" "I") (List.mem_of_getElem? (i := 1) rfl)) (fun _ h9 => h9) rfl dX4_lowestRankOf_19 ?_
    obtain ⟨hne, hp⟩ := fl_nz_of hp
    refine lv_idiv hx hb dX4_lowestRankOf_22 hne ?_
    obtain rfl := Option.some.inj hp
    exact hfin H locs _ ls hS dX4_lowestRankOf_23 rfl
  · replace hp := fl_f hc hp
    refine lv_iconst (v := (0 : Int32)) hx hb dX4_lowestRankOf_8 (by decide) ?_
    refine lv_goto (tgt := 23) hx hb dX4_lowestRankOf_9 (by decide) ?_
    obtain rfl := Option.some.inj hp
    exact hfin H locs _ ls hS dX4_lowestRankOf_23 rfl

noncomputable def P_Sg_sharedFrom_L3 (sg : fl_Sg) (p0 : Int32) (p1 : Int32) (p2 : Int32) (z3 : Int32) : Option (Int32 ⊕ Int32) := if p2 ≤ z3 then some (.inr z3) else fl_bd (P_Sg_codeAt sg (p0 + z3)) (fun q1 => fl_bd (P_Sg_codeAt sg (p1 + z3)) (fun q2 => if q1 = q2 then some (.inl (z3 + (1 : Int32))) else some (.inr z3)))
noncomputable def P_Sg_sharedFrom (sg : fl_Sg) (p0 : Int32) (p1 : Int32) (p2 : Int32) : Option Int32 := fl_loop (P_Sg_sharedFrom_L3 sg p0 p1 p2) (0 : Int32)
set_option maxHeartbeats 4000000 in
set_option maxRecDepth 100000 in
theorem c_Sg_sharedFrom (l : Launch) (G : fl_G) (sg0 sg1 sg2 : Nat) (sg : fl_Sg) (p0 : Int32) (p1 : Int32) (p2 : Int32) {r : Int32} (hp0 : P_Sg_sharedFrom sg p0 p1 p2 = some r) : fl_ro l yX4_sharedFrom wsX4_sharedFrom 2 42 G [.ref sg0, .int p0, .int p1, .int p2] [(sg0, .inr (4, [.ref sg1, .ref sg2, .int sg.2.2.1, .int sg.2.2.2.1, .int sg.2.2.2.2.1, .int sg.2.2.2.2.2.1, .int sg.2.2.2.2.2.2.1, .int sg.2.2.2.2.2.2.2])), (sg1, .inl (G.2.1, 48, .inl sg.1)), (sg2, .inl (G.2.1, 48, .inl sg.2.1))] (.int r) := by
  refine fl_ro_in cX4_sharedFrom 5 .int RX4 (by decide) rfl rfl (Nat.le_of_ble_eq_true rfl) ?_
  intro p e s m args below meth c ls Q H locs C0 hK hP hS hl hfin
  have hA : ∀ q : Nat, s.heap.size ≤ q → va_A [] s.heap.size q := fl_hA _ _
  obtain ⟨hx, hb, hml, hown, hts⟩ := id C0
  have hl : lv_has ls 5 [(0, .ref sg0), (1, .int p0), (2, .int p1), (3, .int p2)] := hl
  have KL3 : ∀ (n0 : Nat) (z3 : Int32) (H : Heap) (locs : List Loc), va_P G.1 vwCl [(sg0, .inr (4, [.ref sg1, .ref sg2, .int sg.2.2.1, .int sg.2.2.2.1, .int sg.2.2.2.2.1, .int sg.2.2.2.2.2.1, .int sg.2.2.2.2.2.2.1, .int sg.2.2.2.2.2.2.2])), (sg1, .inl (G.2.1, 48, .inl sg.1)), (sg2, .inl (G.2.1, 48, .inl sg.2.1))] H → va_S (va_A [] s.heap.size) s.heap H locs → ∀ (ls : Array Slot), lv_has ls 5 [(0, .ref sg0), (1, .int p0), (2, .int p1), (3, .int p2), (4, .int z3)] → fl_loopN (P_Sg_sharedFrom_L3 sg p0 p1 p2) n0 z3 = some r → W p l e (fl_rm 2 42) s m args below meth c H locs 0 0 Q (F0 m 3 ls []) := by
    intro n0
    induction n0 with
    | zero => intro z3 H locs hP hS ls hl hn; exact (fl_loopN_0 hn).elim
    | succ n0 ih3 =>
      intro z3 H locs hP hS ls hl hn
      obtain ⟨y3, hb3, hy3⟩ := fl_loopN_step hn
      clear hn
      have hp := hb3
      unfold P_Sg_sharedFrom_L3 at hp
      refine lv_iload hx hb dX4_sharedFrom_3 (lv_at hl 4 rfl) ?_
      refine lv_iload_n hx hb dX4_sharedFrom_5 rfl (lv_at hl 3 rfl) ?_
      refine lv_icmp_ge (tgt := 34) hx hb dX4_sharedFrom_6 (by decide) (fun hc => ?_) (fun hc => ?_)
      · replace hp := fl_t hc hp
        refine lv_iload hx hb dX4_sharedFrom_34 (lv_at hl 4 rfl) ?_
        obtain rfl := Option.some.inj hp
        obtain rfl := fl_cont_inr hy3
        exact hfin H locs _ ls hS dX4_sharedFrom_36 rfl
      · replace hp := fl_f hc hp
        refine lv_aload_n hx hb dX4_sharedFrom_9 rfl (lv_at hl 0 rfl) ?_
        refine lv_iload_n hx hb dX4_sharedFrom_10 rfl (lv_at hl 1 rfl) ?_
        refine lv_iload hx hb dX4_sharedFrom_11 (lv_at hl 4 rfl) ?_
        refine lv_iadd hx hb dX4_sharedFrom_13 ?_
        obtain ⟨q1, hq1, hp⟩ := fl_bd_of hp
        refine fl_roV (As := [.int (p0 + z3)]) (rest := []) C0 (c_Sg_codeAt l G sg0 sg1 sg2 sg (p0 + z3) hq1) (cwV 1 hts gX4_sharedFrom_X4_codeAt rfl rfl rfl (by decide +kernel) ⟨Nat.le_of_ble_eq_true rfl, Nat.le_of_ble_eq_true rfl⟩) hK hP [0, 1, 2] rfl 0 4 rfl rfl rfl hS hA rfl hl.1 rfl (Nat.le_of_ble_eq_true rfl) dX4_sharedFrom_14 ⟨Nat.zero_le _, Nat.zero_le _⟩ (fun H locs hP hS => ?_)
        refine lv_aload_n hx hb dX4_sharedFrom_17 rfl (lv_at hl 0 rfl) ?_
        refine lv_iload_n hx hb dX4_sharedFrom_18 rfl (lv_at hl 2 rfl) ?_
        refine lv_iload hx hb dX4_sharedFrom_19 (lv_at hl 4 rfl) ?_
        refine lv_iadd hx hb dX4_sharedFrom_21 ?_
        obtain ⟨q2, hq2, hp⟩ := fl_bd_of hp
        refine fl_roV (As := [.int (p1 + z3)]) (rest := [.int q1]) C0 (c_Sg_codeAt l G sg0 sg1 sg2 sg (p1 + z3) hq2) (cwV 1 hts gX4_sharedFrom_X4_codeAt rfl rfl rfl (by decide +kernel) ⟨Nat.le_of_ble_eq_true rfl, Nat.le_of_ble_eq_true rfl⟩) hK hP [0, 1, 2] rfl 0 4 rfl rfl rfl hS hA rfl hl.1 rfl (Nat.le_of_ble_eq_true rfl) dX4_sharedFrom_22 ⟨Nat.zero_le _, Nat.zero_le _⟩ (fun H locs hP hS => ?_)
        refine lv_icmp_ne (tgt := 34) hx hb dX4_sharedFrom_25 (by decide) (fun hc => ?_) (fun hc => ?_)
        · replace hp := fl_f hc hp
          refine lv_iload hx hb dX4_sharedFrom_34 (lv_at hl 4 rfl) ?_
          obtain rfl := Option.some.inj hp
          obtain rfl := fl_cont_inr hy3
          exact hfin H locs _ ls hS dX4_sharedFrom_36 rfl
        · replace hp := fl_t hc hp
          refine lv_iinc (v := (z3 + (1 : Int32))) (lv' := [(4, .int (z3 + (1 : Int32))), (0, .ref sg0), (1, .int p0), (2, .int p1), (3, .int p2)]) hx hb dX4_sharedFrom_28 hl (k := 4) rfl rfl (by decide) rfl (fun ls hl => ?_)
          refine lv_goto (tgt := 3) hx hb dX4_sharedFrom_31 (by decide) ?_
          obtain rfl := Option.some.inj hp
          exact ih3 (z3 + (1 : Int32)) H locs hP hS ls (lv_sub hl [1, 2, 3, 4, 0] rfl) (fl_cont_inl hy3)
  have hp := hp0
  unfold P_Sg_sharedFrom at hp
  refine lv_iconst (v := (0 : Int32)) hx hb dX4_sharedFrom_0 (by decide) ?_
  refine lv_istore (lv' := [(4, .int (0 : Int32)), (0, .ref sg0), (1, .int p0), (2, .int p1), (3, .int p2)]) hx hb dX4_sharedFrom_1 hl (by decide) rfl (fun ls hl => ?_)
  obtain ⟨n0, hn⟩ := fl_loop_ex hp
  exact KL3 n0 (0 : Int32) H locs hP hS ls (lv_sub hl [1, 2, 3, 4, 0] rfl) hn

noncomputable def P_Sg_longestInBoth_J84 (sg : fl_Sg) (p0 : Int32) (p1 : Int32) (v3 : Int32) (v4 : Int32) (v5 : Int32) (v6 : Int32) : Option ((Int32 × Int32) ⊕ Int32) := some (.inl (v3, (v6 + (1 : Int32))))
noncomputable def P_Sg_longestInBoth_L29 (sg : fl_Sg) (p0 : Int32) (p1 : Int32) (v4 : Int32) (v5 : Int32) (v6 : Int32) (z29 : (Int32 × Int32)) : Option ((Int32 × Int32) ⊕ ((Int32 × Int32) ⊕ Int32)) := if v5 ≤ z29.2 then fl_up (P_Sg_longestInBoth_J84 sg p0 p1 z29.1 v4 v5 v6) else fl_bd (P_Sg_startOf sg p0) (fun q1 => fl_bd (P_Sg_startOf sg p1) (fun q2 => fl_bd (P_Sg_sharedFrom sg (q1 + v6) (q2 + z29.2) (fl_mn (v4 - v6) (v5 - z29.2))) (fun q3 => some (.inl ((fl_mx z29.1 q3), (z29.2 + (1 : Int32)))))))
noncomputable def P_Sg_longestInBoth_L19 (sg : fl_Sg) (p0 : Int32) (p1 : Int32) (v4 : Int32) (v5 : Int32) (z19 : (Int32 × Int32)) : Option ((Int32 × Int32) ⊕ Int32) := if v4 ≤ z19.2 then some (.inr z19.1) else fl_loop (P_Sg_longestInBoth_L29 sg p0 p1 v4 v5 z19.2) (z19.1, (0 : Int32))
noncomputable def P_Sg_longestInBoth (sg : fl_Sg) (p0 : Int32) (p1 : Int32) : Option Int32 := fl_bd (P_Sg_lengthOf sg p0) (fun q1 => fl_bd (P_Sg_lengthOf sg p1) (fun q2 => fl_loop (P_Sg_longestInBoth_L19 sg p0 p1 q1 q2) ((0 : Int32), (0 : Int32))))
set_option maxHeartbeats 4000000 in
set_option maxRecDepth 100000 in
theorem c_Sg_longestInBoth (l : Launch) (G : fl_G) (sg0 sg1 sg2 : Nat) (sg : fl_Sg) (p0 : Int32) (p1 : Int32) {r : Int32} (hp0 : P_Sg_longestInBoth sg p0 p1 = some r) : fl_ro l yX4_longestInBoth wsX4_longestInBoth 3 66 G [.ref sg0, .int p0, .int p1] [(sg0, .inr (4, [.ref sg1, .ref sg2, .int sg.2.2.1, .int sg.2.2.2.1, .int sg.2.2.2.2.1, .int sg.2.2.2.2.2.1, .int sg.2.2.2.2.2.2.1, .int sg.2.2.2.2.2.2.2])), (sg1, .inl (G.2.1, 48, .inl sg.1)), (sg2, .inl (G.2.1, 48, .inl sg.2.1))] (.int r) := by
  refine fl_ro_in cX4_longestInBoth 9 .int RX4 (by decide) rfl rfl (Nat.le_of_ble_eq_true rfl) ?_
  intro p e s m args below meth c ls Q H locs C0 hK hP hS hl hfin
  have hA : ∀ q : Nat, s.heap.size ≤ q → va_A [] s.heap.size q := fl_hA _ _
  obtain ⟨hx, hb, hml, hown, hts⟩ := id C0
  have hl : lv_has ls 9 [(0, .ref sg0), (1, .int p0), (2, .int p1)] := hl
  have KL19 : ∀ (v4 : Int32) (v5 : Int32) (n0 : Nat) (z19 : (Int32 × Int32)) (H : Heap) (locs : List Loc), va_P G.1 vwCl [(sg0, .inr (4, [.ref sg1, .ref sg2, .int sg.2.2.1, .int sg.2.2.2.1, .int sg.2.2.2.2.1, .int sg.2.2.2.2.2.1, .int sg.2.2.2.2.2.2.1, .int sg.2.2.2.2.2.2.2])), (sg1, .inl (G.2.1, 48, .inl sg.1)), (sg2, .inl (G.2.1, 48, .inl sg.2.1))] H → va_S (va_A [] s.heap.size) s.heap H locs → ∀ (ls : Array Slot), lv_has ls 9 [(0, .ref sg0), (1, .int p0), (2, .int p1), (3, .int z19.1), (4, .int v4), (5, .int v5), (6, .int z19.2)] → fl_loopN (P_Sg_longestInBoth_L19 sg p0 p1 v4 v5) n0 z19 = some r → W p l e (fl_rm 3 66) s m args below meth c H locs 0 0 Q (F0 m 19 ls []) := by
    intro v4 v5 n0
    induction n0 with
    | zero => intro z19 H locs hP hS ls hl hn; exact (fl_loopN_0 hn).elim
    | succ n0 ih19 =>
      intro z19 H locs hP hS ls hl hn
      obtain ⟨y19, hb19, hy19⟩ := fl_loopN_step hn
      clear hn
      have KJ84 : ∀ (v3 : Int32) (v6 : Int32) (H : Heap) (locs : List Loc), va_P G.1 vwCl [(sg0, .inr (4, [.ref sg1, .ref sg2, .int sg.2.2.1, .int sg.2.2.2.1, .int sg.2.2.2.2.1, .int sg.2.2.2.2.2.1, .int sg.2.2.2.2.2.2.1, .int sg.2.2.2.2.2.2.2])), (sg1, .inl (G.2.1, 48, .inl sg.1)), (sg2, .inl (G.2.1, 48, .inl sg.2.1))] H → va_S (va_A [] s.heap.size) s.heap H locs → ∀ (ls : Array Slot), lv_has ls 9 [(0, .ref sg0), (1, .int p0), (2, .int p1), (3, .int v3), (4, .int v4), (5, .int v5), (6, .int v6)] → P_Sg_longestInBoth_J84 sg p0 p1 v3 v4 v5 v6 = some y19 → W p l e (fl_rm 3 66) s m args below meth c H locs 0 0 Q (F0 m 84 ls []) := by
        intro v3 v6 H locs hP hS ls hl hp
        unfold P_Sg_longestInBoth_J84 at hp
        refine lv_iinc (v := (v6 + (1 : Int32))) (lv' := [(6, .int (v6 + (1 : Int32))), (0, .ref sg0), (1, .int p0), (2, .int p1), (3, .int v3), (4, .int v4), (5, .int v5)]) hx hb dX4_longestInBoth_84 hl (k := 6) rfl rfl (by decide) rfl (fun ls hl => ?_)
        refine lv_goto (tgt := 19) hx hb dX4_longestInBoth_87 (by decide) ?_
        obtain rfl := Option.some.inj hp
        exact ih19 (v3, (v6 + (1 : Int32))) H locs hP hS ls (lv_sub hl [1, 2, 3, 4, 5, 6, 0] rfl) (fl_cont_inl hy19)
      have KL29 : ∀ (v6 : Int32) (n0 : Nat) (z29 : (Int32 × Int32)) (H : Heap) (locs : List Loc), va_P G.1 vwCl [(sg0, .inr (4, [.ref sg1, .ref sg2, .int sg.2.2.1, .int sg.2.2.2.1, .int sg.2.2.2.2.1, .int sg.2.2.2.2.2.1, .int sg.2.2.2.2.2.2.1, .int sg.2.2.2.2.2.2.2])), (sg1, .inl (G.2.1, 48, .inl sg.1)), (sg2, .inl (G.2.1, 48, .inl sg.2.1))] H → va_S (va_A [] s.heap.size) s.heap H locs → ∀ (ls : Array Slot), lv_has ls 9 [(0, .ref sg0), (1, .int p0), (2, .int p1), (3, .int z29.1), (4, .int v4), (5, .int v5), (6, .int v6), (7, .int z29.2)] → fl_loopN (P_Sg_longestInBoth_L29 sg p0 p1 v4 v5 v6) n0 z29 = some y19 → W p l e (fl_rm 3 66) s m args below meth c H locs 0 0 Q (F0 m 29 ls []) := by
        intro v6 n0
        induction n0 with
        | zero => intro z29 H locs hP hS ls hl hn; exact (fl_loopN_0 hn).elim
        | succ n0 ih29 =>
          intro z29 H locs hP hS ls hl hn
          obtain ⟨y29, hb29, hy29⟩ := fl_loopN_step hn
          clear hn
          have hp := hb29
          unfold P_Sg_longestInBoth_L29 at hp
          refine lv_iload hx hb dX4_longestInBoth_29 (lv_at hl 7 rfl) ?_
          refine lv_iload hx hb dX4_longestInBoth_31 (lv_at hl 5 rfl) ?_
          refine lv_icmp_ge (tgt := 84) hx hb dX4_longestInBoth_33 (by decide) (fun hc => ?_) (fun hc => ?_)
          · replace hp := fl_t hc hp
            obtain ⟨_, hu0, rfl⟩ := fl_up_of hp
            obtain rfl := fl_cont_inr hy29
            exact KJ84 z29.1 v6 H locs hP hS ls (lv_sub hl [0, 1, 2, 3, 4, 5, 6] rfl) hu0
          · replace hp := fl_f hc hp
            refine lv_iload hx hb dX4_longestInBoth_36 (lv_at hl 4 rfl) ?_
            refine lv_iload hx hb dX4_longestInBoth_38 (lv_at hl 6 rfl) ?_
            refine lv_isub hx hb dX4_longestInBoth_40 ?_
            refine lv_iload hx hb dX4_longestInBoth_41 (lv_at hl 5 rfl) ?_
            refine lv_iload hx hb dX4_longestInBoth_43 (lv_at hl 7 rfl) ?_
            refine lv_isub hx hb dX4_longestInBoth_45 ?_
            refine va_mmin hx hb (hml.trans hl.1.symm) hown (hts (.methodLink RX4 53 Lib.Math.min.name) (List.mem_of_getElem? (i := 1) rfl)) (hts (.static Lib.Math.min.name) (List.mem_of_getElem? (i := 2) rfl)) (hts (.initialized "java/lang/Math") (List.mem_of_getElem? (i := 3) rfl)) (hts (.code Lib.Math.min.name Lib.Math.min.code 2 (some .int)) (List.mem_of_getElem? (i := 4) rfl)) (Nat.le_of_ble_eq_true rfl) (Nat.le_of_ble_eq_true rfl) (Nat.zero_le _) (Nat.zero_le _) dX4_longestInBoth_46 ?_
            refine lv_istore (lv' := [(8, .int (fl_mn (v4 - v6) (v5 - z29.2))), (0, .ref sg0), (1, .int p0), (2, .int p1), (3, .int z29.1), (4, .int v4), (5, .int v5), (6, .int v6), (7, .int z29.2)]) hx hb dX4_longestInBoth_49 hl (by decide) rfl (fun ls hl => ?_)
            refine lv_iload_n hx hb dX4_longestInBoth_51 rfl (lv_at hl 4 rfl) ?_
            refine lv_aload_n hx hb dX4_longestInBoth_52 rfl (lv_at hl 1 rfl) ?_
            refine lv_aload_n hx hb dX4_longestInBoth_53 rfl (lv_at hl 1 rfl) ?_
            refine lv_iload_n hx hb dX4_longestInBoth_54 rfl (lv_at hl 2 rfl) ?_
            obtain ⟨q1, hq1, hp⟩ := fl_bd_of hp
            refine fl_roV (As := [.int p0]) (rest := [.ref sg0, .int z29.1]) C0 (c_Sg_startOf l G sg0 sg1 sg2 sg p0 hq1) (cwV 1 hts gX4_longestInBoth_X4_startOf rfl rfl rfl (by decide +kernel) ⟨Nat.le_of_ble_eq_true rfl, Nat.le_of_ble_eq_true rfl⟩) hK hP [0, 1, 2] rfl 0 4 rfl rfl rfl hS hA rfl hl.1 rfl (Nat.le_of_ble_eq_true rfl) dX4_longestInBoth_55 ⟨Nat.zero_le _, Nat.zero_le _⟩ (fun H locs hP hS => ?_)
            refine lv_iload hx hb dX4_longestInBoth_58 (lv_at hl 7 rfl) ?_
            refine lv_iadd hx hb dX4_longestInBoth_60 ?_
            refine lv_aload_n hx hb dX4_longestInBoth_61 rfl (lv_at hl 1 rfl) ?_
            refine lv_iload_n hx hb dX4_longestInBoth_62 rfl (lv_at hl 3 rfl) ?_
            obtain ⟨q2, hq2, hp⟩ := fl_bd_of hp
            refine fl_roV (As := [.int p1]) (rest := [.int (q1 + v6), .ref sg0, .int z29.1]) C0 (c_Sg_startOf l G sg0 sg1 sg2 sg p1 hq2) (cwV 1 hts gX4_longestInBoth_X4_startOf rfl rfl rfl (by decide +kernel) ⟨Nat.le_of_ble_eq_true rfl, Nat.le_of_ble_eq_true rfl⟩) hK hP [0, 1, 2] rfl 0 4 rfl rfl rfl hS hA rfl hl.1 rfl (Nat.le_of_ble_eq_true rfl) dX4_longestInBoth_63 ⟨Nat.zero_le _, Nat.zero_le _⟩ (fun H locs hP hS => ?_)
            refine lv_iload hx hb dX4_longestInBoth_66 (lv_at hl 8 rfl) ?_
            refine lv_iadd hx hb dX4_longestInBoth_68 ?_
            refine lv_iload hx hb dX4_longestInBoth_69 (lv_at hl 0 rfl) ?_
            obtain ⟨q3, hq3, hp⟩ := fl_bd_of hp
            refine fl_roV (As := [.int (q1 + v6), .int (q2 + z29.2), .int (fl_mn (v4 - v6) (v5 - z29.2))]) (rest := [.int z29.1]) C0 (c_Sg_sharedFrom l G sg0 sg1 sg2 sg (q1 + v6) (q2 + z29.2) (fl_mn (v4 - v6) (v5 - z29.2)) hq3) (cwV 3 hts gX4_longestInBoth_X4_sharedFrom rfl rfl rfl (by decide +kernel) ⟨Nat.le_of_ble_eq_true rfl, Nat.le_of_ble_eq_true rfl⟩) hK hP [0, 1, 2] rfl 0 4 rfl rfl rfl hS hA rfl hl.1 rfl (Nat.le_of_ble_eq_true rfl) dX4_longestInBoth_71 ⟨Nat.zero_le _, Nat.zero_le _⟩ (fun H locs hP hS => ?_)
            refine va_mmax hx hb (hml.trans hl.1.symm) hown (hts (.methodLink RX4 66 Lib.Math.max.name) (List.mem_of_getElem? (i := 5) rfl)) (hts (.static Lib.Math.max.name) (List.mem_of_getElem? (i := 6) rfl)) (hts (.initialized "java/lang/Math") (List.mem_of_getElem? (i := 3) rfl)) (hts (.code Lib.Math.max.name Lib.Math.max.code 2 (some .int)) (List.mem_of_getElem? (i := 7) rfl)) (Nat.le_of_ble_eq_true rfl) (Nat.le_of_ble_eq_true rfl) (Nat.zero_le _) (Nat.zero_le _) dX4_longestInBoth_74 ?_
            refine lv_istore_n (lv' := [(3, .int (fl_mx z29.1 q3)), (8, .int (fl_mn (v4 - v6) (v5 - z29.2))), (0, .ref sg0), (1, .int p0), (2, .int p1), (4, .int v4), (5, .int v5), (6, .int v6), (7, .int z29.2)]) hx hb dX4_longestInBoth_77 rfl hl (by decide) rfl (fun ls hl => ?_)
            refine lv_iinc (v := (z29.2 + (1 : Int32))) (lv' := [(7, .int (z29.2 + (1 : Int32))), (3, .int (fl_mx z29.1 q3)), (8, .int (fl_mn (v4 - v6) (v5 - z29.2))), (0, .ref sg0), (1, .int p0), (2, .int p1), (4, .int v4), (5, .int v5), (6, .int v6)]) hx hb dX4_longestInBoth_78 hl (k := 8) rfl rfl (by decide) rfl (fun ls hl => ?_)
            refine lv_goto (tgt := 29) hx hb dX4_longestInBoth_81 (by decide) ?_
            obtain rfl := Option.some.inj hp
            exact ih29 ((fl_mx z29.1 q3), (z29.2 + (1 : Int32))) H locs hP hS ls (lv_sub hl [3, 4, 5, 1, 6, 7, 8, 0] rfl) (fl_cont_inl hy29)
      have hp := hb19
      unfold P_Sg_longestInBoth_L19 at hp
      refine lv_iload hx hb dX4_longestInBoth_19 (lv_at hl 6 rfl) ?_
      refine lv_iload hx hb dX4_longestInBoth_21 (lv_at hl 4 rfl) ?_
      refine lv_icmp_ge (tgt := 90) hx hb dX4_longestInBoth_23 (by decide) (fun hc => ?_) (fun hc => ?_)
      · replace hp := fl_t hc hp
        refine lv_iload_n hx hb dX4_longestInBoth_90 rfl (lv_at hl 3 rfl) ?_
        obtain rfl := Option.some.inj hp
        obtain rfl := fl_cont_inr hy19
        exact hfin H locs _ ls hS dX4_longestInBoth_91 rfl
      · replace hp := fl_f hc hp
        refine lv_iconst (v := (0 : Int32)) hx hb dX4_longestInBoth_26 (by decide) ?_
        refine lv_istore (lv' := [(7, .int (0 : Int32)), (0, .ref sg0), (1, .int p0), (2, .int p1), (3, .int z19.1), (4, .int v4), (5, .int v5), (6, .int z19.2)]) hx hb dX4_longestInBoth_27 hl (by decide) rfl (fun ls hl => ?_)
        obtain ⟨n0, hn⟩ := fl_loop_ex hp
        exact KL29 z19.2 n0 (z19.1, (0 : Int32)) H locs hP hS ls (lv_sub hl [1, 2, 3, 4, 5, 6, 7, 0] rfl) hn
  have hp := hp0
  unfold P_Sg_longestInBoth at hp
  refine lv_iconst (v := (0 : Int32)) hx hb dX4_longestInBoth_0 (by decide) ?_
  refine lv_istore_n (lv' := [(3, .int (0 : Int32)), (0, .ref sg0), (1, .int p0), (2, .int p1)]) hx hb dX4_longestInBoth_1 rfl hl (by decide) rfl (fun ls hl => ?_)
  refine lv_aload_n hx hb dX4_longestInBoth_2 rfl (lv_at hl 1 rfl) ?_
  refine lv_iload_n hx hb dX4_longestInBoth_3 rfl (lv_at hl 2 rfl) ?_
  obtain ⟨q1, hq1, hp⟩ := fl_bd_of hp
  refine fl_roV (As := [.int p0]) (rest := []) C0 (c_Sg_lengthOf l G sg0 sg1 sg2 sg p0 hq1) (cwV 1 hts gX4_longestInBoth_X4_lengthOf rfl rfl rfl (by decide +kernel) ⟨Nat.le_of_ble_eq_true rfl, Nat.le_of_ble_eq_true rfl⟩) hK hP [0, 1, 2] rfl 0 4 rfl rfl rfl hS hA rfl hl.1 rfl (Nat.le_of_ble_eq_true rfl) dX4_longestInBoth_4 ⟨Nat.zero_le _, Nat.zero_le _⟩ (fun H locs hP hS => ?_)
  refine lv_istore (lv' := [(4, .int q1), (3, .int (0 : Int32)), (0, .ref sg0), (1, .int p0), (2, .int p1)]) hx hb dX4_longestInBoth_7 hl (by decide) rfl (fun ls hl => ?_)
  refine lv_aload_n hx hb dX4_longestInBoth_9 rfl (lv_at hl 2 rfl) ?_
  refine lv_iload_n hx hb dX4_longestInBoth_10 rfl (lv_at hl 4 rfl) ?_
  obtain ⟨q2, hq2, hp⟩ := fl_bd_of hp
  refine fl_roV (As := [.int p1]) (rest := []) C0 (c_Sg_lengthOf l G sg0 sg1 sg2 sg p1 hq2) (cwV 1 hts gX4_longestInBoth_X4_lengthOf rfl rfl rfl (by decide +kernel) ⟨Nat.le_of_ble_eq_true rfl, Nat.le_of_ble_eq_true rfl⟩) hK hP [0, 1, 2] rfl 0 4 rfl rfl rfl hS hA rfl hl.1 rfl (Nat.le_of_ble_eq_true rfl) dX4_longestInBoth_11 ⟨Nat.zero_le _, Nat.zero_le _⟩ (fun H locs hP hS => ?_)
  refine lv_istore (lv' := [(5, .int q2), (4, .int q1), (3, .int (0 : Int32)), (0, .ref sg0), (1, .int p0), (2, .int p1)]) hx hb dX4_longestInBoth_14 hl (by decide) rfl (fun ls hl => ?_)
  refine lv_iconst (v := (0 : Int32)) hx hb dX4_longestInBoth_16 (by decide) ?_
  refine lv_istore (lv' := [(6, .int (0 : Int32)), (5, .int q2), (4, .int q1), (3, .int (0 : Int32)), (0, .ref sg0), (1, .int p0), (2, .int p1)]) hx hb dX4_longestInBoth_17 hl (by decide) rfl (fun ls hl => ?_)
  obtain ⟨n0, hn⟩ := fl_loop_ex hp
  exact KL19 q1 q2 n0 ((0 : Int32), (0 : Int32)) H locs hP hS ls (lv_sub hl [4, 5, 6, 3, 2, 1, 0] rfl) hn

noncomputable def P_Sg_dropVerse_J95 (sg : fl_Sg) (v1 : Int32) : Option fl_Sg := some (sg.1, sg.2.1, (sg.2.2.1 - v1), (sg.2.2.2.1 - (1 : Int32)), sg.2.2.2.2.1, (sg.2.2.2.2.2.1 + v1), sg.2.2.2.2.2.2.1, sg.2.2.2.2.2.2.2)
noncomputable def P_Sg_dropVerse_L54 (v1 : Int32) (z54 : (Int32 × fl_Sg)) : Option ((Int32 × fl_Sg) ⊕ fl_Sg) := if (z54.2.2.2.2.1 - (1 : Int32)) ≤ z54.1 then fl_up (P_Sg_dropVerse_J95 z54.2 v1) else if (nI 48) ≤ z54.1 then fl_up (P_Sg_dropVerse_J95 z54.2 v1) else fl_bd (P_cellOf 48 z54.2.2.1 (z54.1 + (1 : Int32))) (fun q1 => fl_ck z54.1 48 (some (.inl ((z54.1 + (1 : Int32)), (z54.2.1, (upd z54.2.2.1 z54.1.toNatClampNeg q1), z54.2.2.2.1, z54.2.2.2.2.1, z54.2.2.2.2.2.1, z54.2.2.2.2.2.2.1, z54.2.2.2.2.2.2.2.1, z54.2.2.2.2.2.2.2.2)))))
noncomputable def P_Sg_dropVerse_J52 (sg : fl_Sg) (v1 : Int32) : Option fl_Sg := fl_loop (P_Sg_dropVerse_L54 v1) ((0 : Int32), sg)
noncomputable def P_Sg_dropVerse_L11 (v1 : Int32) (z11 : (Int32 × fl_Sg)) : Option ((Int32 × fl_Sg) ⊕ fl_Sg) := if (z11.2.2.2.1 - v1) ≤ z11.1 then fl_up (P_Sg_dropVerse_J52 z11.2 v1) else if (nI 48) ≤ z11.1 then fl_up (P_Sg_dropVerse_J52 z11.2 v1) else fl_bd (P_cellOf 48 z11.2.1 (z11.1 + v1)) (fun q1 => fl_ck z11.1 48 (some (.inl ((z11.1 + (1 : Int32)), ((upd z11.2.1 z11.1.toNatClampNeg q1), z11.2.2.1, z11.2.2.2.1, z11.2.2.2.2.1, z11.2.2.2.2.2.1, z11.2.2.2.2.2.2.1, z11.2.2.2.2.2.2.2.1, z11.2.2.2.2.2.2.2.2)))))
noncomputable def P_Sg_dropVerse (sg : fl_Sg) : Option fl_Sg := fl_bd (P_cellOf 48 sg.2.1 (0 : Int32)) (fun q1 => fl_loop (P_Sg_dropVerse_L11 q1) ((0 : Int32), sg))
set_option maxHeartbeats 4000000 in
set_option maxRecDepth 100000 in
theorem c_Sg_dropVerse (l : Launch) (G : fl_G) (sg0 sg1 sg2 : Nat) (sg : fl_Sg) {r : fl_Sg} (hp0 : P_Sg_dropVerse sg = some r) : fl_mu l yX4_dropVerse wsX4_dropVerse 1 21 G [.ref sg0] [(sg0, .inr (4, [.ref sg1, .ref sg2, .int sg.2.2.1, .int sg.2.2.2.1, .int sg.2.2.2.2.1, .int sg.2.2.2.2.2.1, .int sg.2.2.2.2.2.2.1, .int sg.2.2.2.2.2.2.2])), (sg1, .inl (G.2.1, 48, .inl sg.1)), (sg2, .inl (G.2.1, 48, .inl sg.2.1))] none [(sg0, .inr (4, [.ref sg1, .ref sg2, .int r.2.2.1, .int r.2.2.2.1, .int r.2.2.2.2.1, .int r.2.2.2.2.2.1, .int r.2.2.2.2.2.2.1, .int r.2.2.2.2.2.2.2])), (sg1, .inl (G.2.1, 48, .inl r.1)), (sg2, .inl (G.2.1, 48, .inl r.2.1))] := by
  refine fl_muv_in cX4_dropVerse 3 RX4 (by decide) rfl rfl (Nat.le_of_ble_eq_true rfl) ?_
  intro p e s m args below meth c ls A Q H locs C0 hK hP hD hS hA hl hfin
  obtain ⟨hx, hb, hml, hown, hts⟩ := id C0
  have iX4 : ∀ w ∈ u_ws RX4 TX4 8, w ∈ wsX4_dropVerse := fun _ h => List.mem_cons_of_mem _ (List.mem_append_right _ h)
  have hl : lv_has ls 3 [(0, .ref sg0)] := hl
  have KJ95 : ∀ (sg : fl_Sg) (v1 : Int32) (H : Heap) (locs : List Loc), va_P G.1 vwCl [(sg0, .inr (4, [.ref sg1, .ref sg2, .int sg.2.2.1, .int sg.2.2.2.1, .int sg.2.2.2.2.1, .int sg.2.2.2.2.2.1, .int sg.2.2.2.2.2.2.1, .int sg.2.2.2.2.2.2.2])), (sg1, .inl (G.2.1, 48, .inl sg.1)), (sg2, .inl (G.2.1, 48, .inl sg.2.1))] H → va_D A [(sg0, .inr (4, [.ref sg1, .ref sg2, .int sg.2.2.1, .int sg.2.2.2.1, .int sg.2.2.2.2.1, .int sg.2.2.2.2.2.1, .int sg.2.2.2.2.2.2.1, .int sg.2.2.2.2.2.2.2])), (sg1, .inl (G.2.1, 48, .inl sg.1)), (sg2, .inl (G.2.1, 48, .inl sg.2.1))] → va_S A s.heap H locs → ∀ (ls : Array Slot), lv_has ls 3 [(0, .ref sg0), (1, .int v1)] → P_Sg_dropVerse_J95 sg v1 = some r → W p l e (fl_rm 1 21) s m args below meth c H locs 0 0 Q (F0 m 95 ls []) := by
    intro sg v1 H locs hP hD hS ls hl hp
    unfold P_Sg_dropVerse_J95 at hp
    refine lv_aload_n hx hb dX4_dropVerse_95 rfl (lv_at hl 0 rfl) ?_
    refine lv_dup hx hb dX4_dropVerse_96 rfl ?_
    refine va_get (D := G.1) (ci := 4) (v := .int sg.2.2.1) (C := RX4) (T := TX4) (N := 8) hx hb hts iX4 hown hK.1 hP 0 rfl rfl 2 (by decide) (hts (.fieldLink RX4 18 "SongChoir$Song" "notes" "I") (List.mem_of_getElem? (i := 2) rfl)) (fun _ h9 => h9) rfl dX4_dropVerse_97 ?_
    refine lv_iload_n hx hb dX4_dropVerse_100 rfl (lv_at hl 1 rfl) ?_
    refine lv_isub hx hb dX4_dropVerse_101 ?_
    refine va_put (D := G.1) (ci := 4) (v := .int (sg.2.2.1 - v1)) (ty := .int) (C := RX4) (T := TX4) (N := 8) hx hb hts iX4 tyX4 tyX4_ok nmX4 hown hK.1 hP hD hS 0 rfl rfl 2 (by decide) (hts (.fieldLink RX4 18 "SongChoir$Song" "notes" "I") (List.mem_of_getElem? (i := 2) rfl)) (fun _ h9 => h9) rfl (by decide +kernel) rfl rfl (Nat.le_of_ble_eq_true rfl) dX4_dropVerse_102 (fun H locs hP hD hS => ?_)
    have hP : va_P G.1 vwCl [(sg0, .inr (4, [.ref sg1, .ref sg2, .int (sg.2.2.1 - v1), .int sg.2.2.2.1, .int sg.2.2.2.2.1, .int sg.2.2.2.2.2.1, .int sg.2.2.2.2.2.2.1, .int sg.2.2.2.2.2.2.2])), (sg1, .inl (G.2.1, 48, .inl sg.1)), (sg2, .inl (G.2.1, 48, .inl sg.2.1))] H := hP
    have hD : va_D A [(sg0, .inr (4, [.ref sg1, .ref sg2, .int (sg.2.2.1 - v1), .int sg.2.2.2.1, .int sg.2.2.2.2.1, .int sg.2.2.2.2.2.1, .int sg.2.2.2.2.2.2.1, .int sg.2.2.2.2.2.2.2])), (sg1, .inl (G.2.1, 48, .inl sg.1)), (sg2, .inl (G.2.1, 48, .inl sg.2.1))] := hD
    refine lv_aload_n hx hb dX4_dropVerse_105 rfl (lv_at hl 0 rfl) ?_
    refine lv_dup hx hb dX4_dropVerse_106 rfl ?_
    refine va_get (D := G.1) (ci := 4) (v := .int sg.2.2.2.2.2.1) (C := RX4) (T := TX4) (N := 8) hx hb hts iX4 hown hK.1 hP 0 rfl rfl 5 (by decide) (hts (.fieldLink RX4 28 "SongChoir$Song" "age" "I") (List.mem_of_getElem? (i := 5) rfl)) (fun _ h9 => h9) rfl dX4_dropVerse_107 ?_
    refine lv_iload_n hx hb dX4_dropVerse_110 rfl (lv_at hl 1 rfl) ?_
    refine lv_iadd hx hb dX4_dropVerse_111 ?_
    refine va_put (D := G.1) (ci := 4) (v := .int (sg.2.2.2.2.2.1 + v1)) (ty := .int) (C := RX4) (T := TX4) (N := 8) hx hb hts iX4 tyX4 tyX4_ok nmX4 hown hK.1 hP hD hS 0 rfl rfl 5 (by decide) (hts (.fieldLink RX4 28 "SongChoir$Song" "age" "I") (List.mem_of_getElem? (i := 5) rfl)) (fun _ h9 => h9) rfl (by decide +kernel) rfl rfl (Nat.le_of_ble_eq_true rfl) dX4_dropVerse_112 (fun H locs hP hD hS => ?_)
    have hP : va_P G.1 vwCl [(sg0, .inr (4, [.ref sg1, .ref sg2, .int (sg.2.2.1 - v1), .int sg.2.2.2.1, .int sg.2.2.2.2.1, .int (sg.2.2.2.2.2.1 + v1), .int sg.2.2.2.2.2.2.1, .int sg.2.2.2.2.2.2.2])), (sg1, .inl (G.2.1, 48, .inl sg.1)), (sg2, .inl (G.2.1, 48, .inl sg.2.1))] H := hP
    have hD : va_D A [(sg0, .inr (4, [.ref sg1, .ref sg2, .int (sg.2.2.1 - v1), .int sg.2.2.2.1, .int sg.2.2.2.2.1, .int (sg.2.2.2.2.2.1 + v1), .int sg.2.2.2.2.2.2.1, .int sg.2.2.2.2.2.2.2])), (sg1, .inl (G.2.1, 48, .inl sg.1)), (sg2, .inl (G.2.1, 48, .inl sg.2.1))] := hD
    refine lv_aload_n hx hb dX4_dropVerse_115 rfl (lv_at hl 0 rfl) ?_
    refine lv_dup hx hb dX4_dropVerse_116 rfl ?_
    refine va_get (D := G.1) (ci := 4) (v := .int sg.2.2.2.1) (C := RX4) (T := TX4) (N := 8) hx hb hts iX4 hown hK.1 hP 0 rfl rfl 3 (by decide) (hts (.fieldLink RX4 22 "SongChoir$Song" "verses" "I") (List.mem_of_getElem? (i := 4) rfl)) (fun _ h9 => h9) rfl dX4_dropVerse_117 ?_
    refine lv_iconst (v := (1 : Int32)) hx hb dX4_dropVerse_120 (by decide) ?_
    refine lv_isub hx hb dX4_dropVerse_121 ?_
    refine va_put (D := G.1) (ci := 4) (v := .int (sg.2.2.2.1 - (1 : Int32))) (ty := .int) (C := RX4) (T := TX4) (N := 8) hx hb hts iX4 tyX4 tyX4_ok nmX4 hown hK.1 hP hD hS 0 rfl rfl 3 (by decide) (hts (.fieldLink RX4 22 "SongChoir$Song" "verses" "I") (List.mem_of_getElem? (i := 4) rfl)) (fun _ h9 => h9) rfl (by decide +kernel) rfl rfl (Nat.le_of_ble_eq_true rfl) dX4_dropVerse_122 (fun H locs hP hD hS => ?_)
    have hP : va_P G.1 vwCl [(sg0, .inr (4, [.ref sg1, .ref sg2, .int (sg.2.2.1 - v1), .int (sg.2.2.2.1 - (1 : Int32)), .int sg.2.2.2.2.1, .int (sg.2.2.2.2.2.1 + v1), .int sg.2.2.2.2.2.2.1, .int sg.2.2.2.2.2.2.2])), (sg1, .inl (G.2.1, 48, .inl sg.1)), (sg2, .inl (G.2.1, 48, .inl sg.2.1))] H := hP
    have hD : va_D A [(sg0, .inr (4, [.ref sg1, .ref sg2, .int (sg.2.2.1 - v1), .int (sg.2.2.2.1 - (1 : Int32)), .int sg.2.2.2.2.1, .int (sg.2.2.2.2.2.1 + v1), .int sg.2.2.2.2.2.2.1, .int sg.2.2.2.2.2.2.2])), (sg1, .inl (G.2.1, 48, .inl sg.1)), (sg2, .inl (G.2.1, 48, .inl sg.2.1))] := hD
    obtain rfl := Option.some.inj hp
    exact hfin H locs _ ls hP hD hS dX4_dropVerse_125
  have KL54 : ∀ (v1 : Int32) (n0 : Nat) (z54 : (Int32 × fl_Sg)) (H : Heap) (locs : List Loc), va_P G.1 vwCl [(sg0, .inr (4, [.ref sg1, .ref sg2, .int z54.2.2.2.1, .int z54.2.2.2.2.1, .int z54.2.2.2.2.2.1, .int z54.2.2.2.2.2.2.1, .int z54.2.2.2.2.2.2.2.1, .int z54.2.2.2.2.2.2.2.2])), (sg1, .inl (G.2.1, 48, .inl z54.2.1)), (sg2, .inl (G.2.1, 48, .inl z54.2.2.1))] H → va_D A [(sg0, .inr (4, [.ref sg1, .ref sg2, .int z54.2.2.2.1, .int z54.2.2.2.2.1, .int z54.2.2.2.2.2.1, .int z54.2.2.2.2.2.2.1, .int z54.2.2.2.2.2.2.2.1, .int z54.2.2.2.2.2.2.2.2])), (sg1, .inl (G.2.1, 48, .inl z54.2.1)), (sg2, .inl (G.2.1, 48, .inl z54.2.2.1))] → va_S A s.heap H locs → ∀ (ls : Array Slot), lv_has ls 3 [(0, .ref sg0), (1, .int v1), (2, .int z54.1)] → fl_loopN (P_Sg_dropVerse_L54 v1) n0 z54 = some r → W p l e (fl_rm 1 21) s m args below meth c H locs 0 0 Q (F0 m 54 ls []) := by
    intro v1 n0
    induction n0 with
    | zero => intro z54 H locs hP hD hS ls hl hn; exact (fl_loopN_0 hn).elim
    | succ n0 ih54 =>
      intro z54 H locs hP hD hS ls hl hn
      obtain ⟨y54, hb54, hy54⟩ := fl_loopN_step hn
      clear hn
      have hp := hb54
      unfold P_Sg_dropVerse_L54 at hp
      refine lv_iload_n hx hb dX4_dropVerse_54 rfl (lv_at hl 2 rfl) ?_
      refine lv_aload_n hx hb dX4_dropVerse_55 rfl (lv_at hl 0 rfl) ?_
      refine va_get (D := G.1) (ci := 4) (v := .int z54.2.2.2.2.1) (C := RX4) (T := TX4) (N := 8) hx hb hts iX4 hown hK.1 hP 0 rfl rfl 3 (by decide) (hts (.fieldLink RX4 22 "SongChoir$Song" "verses" "I") (List.mem_of_getElem? (i := 4) rfl)) (fun _ h9 => h9) rfl dX4_dropVerse_56 ?_
      refine lv_iconst (v := (1 : Int32)) hx hb dX4_dropVerse_59 (by decide) ?_
      refine lv_isub hx hb dX4_dropVerse_60 ?_
      refine lv_icmp_ge (tgt := 95) hx hb dX4_dropVerse_61 (by decide) (fun hc => ?_) (fun hc => ?_)
      · replace hp := fl_t hc hp
        obtain ⟨_, hu0, rfl⟩ := fl_up_of hp
        obtain rfl := fl_cont_inr hy54
        exact KJ95 z54.2 v1 H locs hP hD hS ls (lv_sub hl [0, 1] rfl) hu0
      · replace hp := fl_f hc hp
        refine lv_iload_n hx hb dX4_dropVerse_64 rfl (lv_at hl 2 rfl) ?_
        refine lv_aload_n hx hb dX4_dropVerse_65 rfl (lv_at hl 0 rfl) ?_
        refine va_get (D := G.1) (ci := 4) (v := .ref sg2) (C := RX4) (T := TX4) (N := 8) hx hb hts iX4 hown hK.1 hP 0 rfl rfl 1 (by decide) (hts (.fieldLink RX4 15 "SongChoir$Song" "lengths" "[I") (List.mem_of_getElem? (i := 1) rfl)) (fun _ h9 => h9) rfl dX4_dropVerse_66 ?_
        refine va_alen (v := (nI 48)) hx hb hK.1 hP 2 0 rfl rfl rfl dX4_dropVerse_69 ?_
        refine lv_icmp_ge (tgt := 95) hx hb dX4_dropVerse_70 (by decide) (fun hc => ?_) (fun hc => ?_)
        · replace hp := fl_t hc hp
          obtain ⟨_, hu0, rfl⟩ := fl_up_of hp
          obtain rfl := fl_cont_inr hy54
          exact KJ95 z54.2 v1 H locs hP hD hS ls (lv_sub hl [0, 1] rfl) hu0
        · replace hp := fl_f hc hp
          refine lv_aload_n hx hb dX4_dropVerse_73 rfl (lv_at hl 0 rfl) ?_
          refine va_get (D := G.1) (ci := 4) (v := .ref sg2) (C := RX4) (T := TX4) (N := 8) hx hb hts iX4 hown hK.1 hP 0 rfl rfl 1 (by decide) (hts (.fieldLink RX4 15 "SongChoir$Song" "lengths" "[I") (List.mem_of_getElem? (i := 1) rfl)) (fun _ h9 => h9) rfl dX4_dropVerse_74 ?_
          refine lv_iload_n hx hb dX4_dropVerse_77 rfl (lv_at hl 2 rfl) ?_
          refine lv_aload_n hx hb dX4_dropVerse_78 rfl (lv_at hl 0 rfl) ?_
          refine va_get (D := G.1) (ci := 4) (v := .ref sg2) (C := RX4) (T := TX4) (N := 8) hx hb hts iX4 hown hK.1 hP 0 rfl rfl 1 (by decide) (hts (.fieldLink RX4 15 "SongChoir$Song" "lengths" "[I") (List.mem_of_getElem? (i := 1) rfl)) (fun _ h9 => h9) rfl dX4_dropVerse_79 ?_
          refine lv_iload_n hx hb dX4_dropVerse_82 rfl (lv_at hl 2 rfl) ?_
          refine lv_iconst (v := (1 : Int32)) hx hb dX4_dropVerse_83 (by decide) ?_
          refine lv_iadd hx hb dX4_dropVerse_84 ?_
          obtain ⟨q1, hq1, hp⟩ := fl_bd_of hp
          refine fl_roSN (As := [.ref sg2, .int (z54.1 + (1 : Int32))]) (rest := [.int z54.1, .ref sg2]) C0 (c_cellOf l G 48 sg2 z54.2.2.1 (z54.1 + (1 : Int32)) hq1) ⟨va_cnB 2 hts gX4_dropVerse_X5_cellOf_n41 rfl rfl rfl (hK.nest 9 rfl) (hts (.initialized RX5) (List.mem_of_getElem? (i := 7) rfl)) (by decide +kernel) ⟨Nat.le_of_ble_eq_true rfl, Nat.le_of_ble_eq_true rfl⟩, (hts (.static yX5_cellOf) (List.mem_of_getElem? (i := 6) rfl)), trivial⟩ hK hP [2] rfl hS hA rfl hl.1 rfl (Nat.le_of_ble_eq_true rfl) dX4_dropVerse_85 ⟨Nat.zero_le _, Nat.zero_le _⟩ (fun H locs hP hS => ?_)
          obtain ⟨hi, hp⟩ := fl_ck_of hp
          refine va_iast hx hb hK.1 hP hD hS 2 0 rfl rfl hi dX4_dropVerse_88 (fun H locs hP hD hS => ?_)
          have hP : va_P G.1 vwCl [(sg0, .inr (4, [.ref sg1, .ref sg2, .int z54.2.2.2.1, .int z54.2.2.2.2.1, .int z54.2.2.2.2.2.1, .int z54.2.2.2.2.2.2.1, .int z54.2.2.2.2.2.2.2.1, .int z54.2.2.2.2.2.2.2.2])), (sg1, .inl (G.2.1, 48, .inl z54.2.1)), (sg2, .inl (G.2.1, 48, .inl (upd z54.2.2.1 z54.1.toNatClampNeg q1)))] H := hP
          have hD : va_D A [(sg0, .inr (4, [.ref sg1, .ref sg2, .int z54.2.2.2.1, .int z54.2.2.2.2.1, .int z54.2.2.2.2.2.1, .int z54.2.2.2.2.2.2.1, .int z54.2.2.2.2.2.2.2.1, .int z54.2.2.2.2.2.2.2.2])), (sg1, .inl (G.2.1, 48, .inl z54.2.1)), (sg2, .inl (G.2.1, 48, .inl (upd z54.2.2.1 z54.1.toNatClampNeg q1)))] := hD
          refine lv_iinc (v := (z54.1 + (1 : Int32))) (lv' := [(2, .int (z54.1 + (1 : Int32))), (0, .ref sg0), (1, .int v1)]) hx hb dX4_dropVerse_89 hl (k := 2) rfl rfl (by decide) rfl (fun ls hl => ?_)
          refine lv_goto (tgt := 54) hx hb dX4_dropVerse_92 (by decide) ?_
          obtain rfl := Option.some.inj hp
          exact ih54 ((z54.1 + (1 : Int32)), (z54.2.1, (upd z54.2.2.1 z54.1.toNatClampNeg q1), z54.2.2.2.1, z54.2.2.2.2.1, z54.2.2.2.2.2.1, z54.2.2.2.2.2.2.1, z54.2.2.2.2.2.2.2.1, z54.2.2.2.2.2.2.2.2)) H locs hP hD hS ls (lv_sub hl [1, 2, 0] rfl) (fl_cont_inl hy54)
  have KJ52 : ∀ (sg : fl_Sg) (v1 : Int32) (H : Heap) (locs : List Loc), va_P G.1 vwCl [(sg0, .inr (4, [.ref sg1, .ref sg2, .int sg.2.2.1, .int sg.2.2.2.1, .int sg.2.2.2.2.1, .int sg.2.2.2.2.2.1, .int sg.2.2.2.2.2.2.1, .int sg.2.2.2.2.2.2.2])), (sg1, .inl (G.2.1, 48, .inl sg.1)), (sg2, .inl (G.2.1, 48, .inl sg.2.1))] H → va_D A [(sg0, .inr (4, [.ref sg1, .ref sg2, .int sg.2.2.1, .int sg.2.2.2.1, .int sg.2.2.2.2.1, .int sg.2.2.2.2.2.1, .int sg.2.2.2.2.2.2.1, .int sg.2.2.2.2.2.2.2])), (sg1, .inl (G.2.1, 48, .inl sg.1)), (sg2, .inl (G.2.1, 48, .inl sg.2.1))] → va_S A s.heap H locs → ∀ (ls : Array Slot), lv_has ls 3 [(0, .ref sg0), (1, .int v1)] → P_Sg_dropVerse_J52 sg v1 = some r → W p l e (fl_rm 1 21) s m args below meth c H locs 0 0 Q (F0 m 52 ls []) := by
    intro sg v1 H locs hP hD hS ls hl hp
    unfold P_Sg_dropVerse_J52 at hp
    refine lv_iconst (v := (0 : Int32)) hx hb dX4_dropVerse_52 (by decide) ?_
    refine lv_istore_n (lv' := [(2, .int (0 : Int32)), (0, .ref sg0), (1, .int v1)]) hx hb dX4_dropVerse_53 rfl hl (by decide) rfl (fun ls hl => ?_)
    obtain ⟨n0, hn⟩ := fl_loop_ex hp
    exact KL54 v1 n0 ((0 : Int32), sg) H locs hP hD hS ls (lv_sub hl [1, 2, 0] rfl) hn
  have KL11 : ∀ (v1 : Int32) (n0 : Nat) (z11 : (Int32 × fl_Sg)) (H : Heap) (locs : List Loc), va_P G.1 vwCl [(sg0, .inr (4, [.ref sg1, .ref sg2, .int z11.2.2.2.1, .int z11.2.2.2.2.1, .int z11.2.2.2.2.2.1, .int z11.2.2.2.2.2.2.1, .int z11.2.2.2.2.2.2.2.1, .int z11.2.2.2.2.2.2.2.2])), (sg1, .inl (G.2.1, 48, .inl z11.2.1)), (sg2, .inl (G.2.1, 48, .inl z11.2.2.1))] H → va_D A [(sg0, .inr (4, [.ref sg1, .ref sg2, .int z11.2.2.2.1, .int z11.2.2.2.2.1, .int z11.2.2.2.2.2.1, .int z11.2.2.2.2.2.2.1, .int z11.2.2.2.2.2.2.2.1, .int z11.2.2.2.2.2.2.2.2])), (sg1, .inl (G.2.1, 48, .inl z11.2.1)), (sg2, .inl (G.2.1, 48, .inl z11.2.2.1))] → va_S A s.heap H locs → ∀ (ls : Array Slot), lv_has ls 3 [(0, .ref sg0), (1, .int v1), (2, .int z11.1)] → fl_loopN (P_Sg_dropVerse_L11 v1) n0 z11 = some r → W p l e (fl_rm 1 21) s m args below meth c H locs 0 0 Q (F0 m 11 ls []) := by
    intro v1 n0
    induction n0 with
    | zero => intro z11 H locs hP hD hS ls hl hn; exact (fl_loopN_0 hn).elim
    | succ n0 ih11 =>
      intro z11 H locs hP hD hS ls hl hn
      obtain ⟨y11, hb11, hy11⟩ := fl_loopN_step hn
      clear hn
      have hp := hb11
      unfold P_Sg_dropVerse_L11 at hp
      refine lv_iload_n hx hb dX4_dropVerse_11 rfl (lv_at hl 2 rfl) ?_
      refine lv_aload_n hx hb dX4_dropVerse_12 rfl (lv_at hl 0 rfl) ?_
      refine va_get (D := G.1) (ci := 4) (v := .int z11.2.2.2.1) (C := RX4) (T := TX4) (N := 8) hx hb hts iX4 hown hK.1 hP 0 rfl rfl 2 (by decide) (hts (.fieldLink RX4 18 "SongChoir$Song" "notes" "I") (List.mem_of_getElem? (i := 2) rfl)) (fun _ h9 => h9) rfl dX4_dropVerse_13 ?_
      refine lv_iload_n hx hb dX4_dropVerse_16 rfl (lv_at hl 1 rfl) ?_
      refine lv_isub hx hb dX4_dropVerse_17 ?_
      refine lv_icmp_ge (tgt := 52) hx hb dX4_dropVerse_18 (by decide) (fun hc => ?_) (fun hc => ?_)
      · replace hp := fl_t hc hp
        obtain ⟨_, hu0, rfl⟩ := fl_up_of hp
        obtain rfl := fl_cont_inr hy11
        exact KJ52 z11.2 v1 H locs hP hD hS ls (lv_sub hl [0, 1] rfl) hu0
      · replace hp := fl_f hc hp
        refine lv_iload_n hx hb dX4_dropVerse_21 rfl (lv_at hl 2 rfl) ?_
        refine lv_aload_n hx hb dX4_dropVerse_22 rfl (lv_at hl 0 rfl) ?_
        refine va_get (D := G.1) (ci := 4) (v := .ref sg1) (C := RX4) (T := TX4) (N := 8) hx hb hts iX4 hown hK.1 hP 0 rfl rfl 0 (by decide) (hts (.fieldLink RX4 9 "SongChoir$Song" "codes" "[I") (List.mem_of_getElem? (i := 3) rfl)) (fun _ h9 => h9) rfl dX4_dropVerse_23 ?_
        refine va_alen (v := (nI 48)) hx hb hK.1 hP 1 0 rfl rfl rfl dX4_dropVerse_26 ?_
        refine lv_icmp_ge (tgt := 52) hx hb dX4_dropVerse_27 (by decide) (fun hc => ?_) (fun hc => ?_)
        · replace hp := fl_t hc hp
          obtain ⟨_, hu0, rfl⟩ := fl_up_of hp
          obtain rfl := fl_cont_inr hy11
          exact KJ52 z11.2 v1 H locs hP hD hS ls (lv_sub hl [0, 1] rfl) hu0
        · replace hp := fl_f hc hp
          refine lv_aload_n hx hb dX4_dropVerse_30 rfl (lv_at hl 0 rfl) ?_
          refine va_get (D := G.1) (ci := 4) (v := .ref sg1) (C := RX4) (T := TX4) (N := 8) hx hb hts iX4 hown hK.1 hP 0 rfl rfl 0 (by decide) (hts (.fieldLink RX4 9 "SongChoir$Song" "codes" "[I") (List.mem_of_getElem? (i := 3) rfl)) (fun _ h9 => h9) rfl dX4_dropVerse_31 ?_
          refine lv_iload_n hx hb dX4_dropVerse_34 rfl (lv_at hl 2 rfl) ?_
          refine lv_aload_n hx hb dX4_dropVerse_35 rfl (lv_at hl 0 rfl) ?_
          refine va_get (D := G.1) (ci := 4) (v := .ref sg1) (C := RX4) (T := TX4) (N := 8) hx hb hts iX4 hown hK.1 hP 0 rfl rfl 0 (by decide) (hts (.fieldLink RX4 9 "SongChoir$Song" "codes" "[I") (List.mem_of_getElem? (i := 3) rfl)) (fun _ h9 => h9) rfl dX4_dropVerse_36 ?_
          refine lv_iload_n hx hb dX4_dropVerse_39 rfl (lv_at hl 2 rfl) ?_
          refine lv_iload_n hx hb dX4_dropVerse_40 rfl (lv_at hl 1 rfl) ?_
          refine lv_iadd hx hb dX4_dropVerse_41 ?_
          obtain ⟨q1, hq1, hp⟩ := fl_bd_of hp
          refine fl_roSN (As := [.ref sg1, .int (z11.1 + v1)]) (rest := [.int z11.1, .ref sg1]) C0 (c_cellOf l G 48 sg1 z11.2.1 (z11.1 + v1) hq1) ⟨va_cnB 2 hts gX4_dropVerse_X5_cellOf_n41 rfl rfl rfl (hK.nest 9 rfl) (hts (.initialized RX5) (List.mem_of_getElem? (i := 7) rfl)) (by decide +kernel) ⟨Nat.le_of_ble_eq_true rfl, Nat.le_of_ble_eq_true rfl⟩, (hts (.static yX5_cellOf) (List.mem_of_getElem? (i := 6) rfl)), trivial⟩ hK hP [1] rfl hS hA rfl hl.1 rfl (Nat.le_of_ble_eq_true rfl) dX4_dropVerse_42 ⟨Nat.zero_le _, Nat.zero_le _⟩ (fun H locs hP hS => ?_)
          obtain ⟨hi, hp⟩ := fl_ck_of hp
          refine va_iast hx hb hK.1 hP hD hS 1 0 rfl rfl hi dX4_dropVerse_45 (fun H locs hP hD hS => ?_)
          have hP : va_P G.1 vwCl [(sg0, .inr (4, [.ref sg1, .ref sg2, .int z11.2.2.2.1, .int z11.2.2.2.2.1, .int z11.2.2.2.2.2.1, .int z11.2.2.2.2.2.2.1, .int z11.2.2.2.2.2.2.2.1, .int z11.2.2.2.2.2.2.2.2])), (sg1, .inl (G.2.1, 48, .inl (upd z11.2.1 z11.1.toNatClampNeg q1))), (sg2, .inl (G.2.1, 48, .inl z11.2.2.1))] H := hP
          have hD : va_D A [(sg0, .inr (4, [.ref sg1, .ref sg2, .int z11.2.2.2.1, .int z11.2.2.2.2.1, .int z11.2.2.2.2.2.1, .int z11.2.2.2.2.2.2.1, .int z11.2.2.2.2.2.2.2.1, .int z11.2.2.2.2.2.2.2.2])), (sg1, .inl (G.2.1, 48, .inl (upd z11.2.1 z11.1.toNatClampNeg q1))), (sg2, .inl (G.2.1, 48, .inl z11.2.2.1))] := hD
          refine lv_iinc (v := (z11.1 + (1 : Int32))) (lv' := [(2, .int (z11.1 + (1 : Int32))), (0, .ref sg0), (1, .int v1)]) hx hb dX4_dropVerse_46 hl (k := 2) rfl rfl (by decide) rfl (fun ls hl => ?_)
          refine lv_goto (tgt := 11) hx hb dX4_dropVerse_49 (by decide) ?_
          obtain rfl := Option.some.inj hp
          exact ih11 ((z11.1 + (1 : Int32)), ((upd z11.2.1 z11.1.toNatClampNeg q1), z11.2.2.1, z11.2.2.2.1, z11.2.2.2.2.1, z11.2.2.2.2.2.1, z11.2.2.2.2.2.2.1, z11.2.2.2.2.2.2.2.1, z11.2.2.2.2.2.2.2.2)) H locs hP hD hS ls (lv_sub hl [1, 2, 0] rfl) (fl_cont_inl hy11)
  have hp := hp0
  unfold P_Sg_dropVerse at hp
  refine lv_aload_n hx hb dX4_dropVerse_0 rfl (lv_at hl 0 rfl) ?_
  refine va_get (D := G.1) (ci := 4) (v := .ref sg2) (C := RX4) (T := TX4) (N := 8) hx hb hts iX4 hown hK.1 hP 0 rfl rfl 1 (by decide) (hts (.fieldLink RX4 15 "SongChoir$Song" "lengths" "[I") (List.mem_of_getElem? (i := 1) rfl)) (fun _ h9 => h9) rfl dX4_dropVerse_1 ?_
  refine lv_iconst (v := (0 : Int32)) hx hb dX4_dropVerse_4 (by decide) ?_
  obtain ⟨q1, hq1, hp⟩ := fl_bd_of hp
  refine fl_roSN (As := [.ref sg2, .int (0 : Int32)]) (rest := []) C0 (c_cellOf l G 48 sg2 sg.2.1 (0 : Int32) hq1) ⟨va_cnB 2 hts gX4_dropVerse_X5_cellOf_n41 rfl rfl rfl (hK.nest 9 rfl) (hts (.initialized RX5) (List.mem_of_getElem? (i := 7) rfl)) (by decide +kernel) ⟨Nat.le_of_ble_eq_true rfl, Nat.le_of_ble_eq_true rfl⟩, (hts (.static yX5_cellOf) (List.mem_of_getElem? (i := 6) rfl)), trivial⟩ hK hP [2] rfl hS hA rfl hl.1 rfl (Nat.le_of_ble_eq_true rfl) dX4_dropVerse_5 ⟨Nat.zero_le _, Nat.zero_le _⟩ (fun H locs hP hS => ?_)
  refine lv_istore_n (lv' := [(1, .int q1), (0, .ref sg0)]) hx hb dX4_dropVerse_8 rfl hl (by decide) rfl (fun ls hl => ?_)
  refine lv_iconst (v := (0 : Int32)) hx hb dX4_dropVerse_9 (by decide) ?_
  refine lv_istore_n (lv' := [(2, .int (0 : Int32)), (1, .int q1), (0, .ref sg0)]) hx hb dX4_dropVerse_10 rfl hl (by decide) rfl (fun ls hl => ?_)
  obtain ⟨n0, hn⟩ := fl_loop_ex hp
  exact KL11 q1 n0 ((0 : Int32), sg) H locs hP hD hS ls (lv_sub hl [2, 1, 0] rfl) hn

noncomputable def P_Sg_makeRoomFor_L5 (p0 : Int32) (z5 : (Int32 × fl_Sg)) : Option ((Int32 × fl_Sg) ⊕ fl_Sg) := if z5.1 ≤ 0 then some (.inr z5.2) else if (z5.2.2.2.1 + p0) ≤ (48 : Int32) then some (.inr z5.2) else fl_bd (P_Sg_dropVerse z5.2) (fun q1 => some (.inl ((z5.1 + (-1 : Int32)), q1)))
noncomputable def P_Sg_makeRoomFor (sg : fl_Sg) (p0 : Int32) : Option fl_Sg := fl_loop (P_Sg_makeRoomFor_L5 p0) (sg.2.2.2.1, sg)
set_option maxHeartbeats 4000000 in
set_option maxRecDepth 100000 in
theorem c_Sg_makeRoomFor (l : Launch) (G : fl_G) (sg0 sg1 sg2 : Nat) (sg : fl_Sg) (p0 : Int32) {r : fl_Sg} (hp0 : P_Sg_makeRoomFor sg p0 = some r) : fl_mu l yX4_makeRoomFor wsX4_makeRoomFor 2 43 G [.ref sg0, .int p0] [(sg0, .inr (4, [.ref sg1, .ref sg2, .int sg.2.2.1, .int sg.2.2.2.1, .int sg.2.2.2.2.1, .int sg.2.2.2.2.2.1, .int sg.2.2.2.2.2.2.1, .int sg.2.2.2.2.2.2.2])), (sg1, .inl (G.2.1, 48, .inl sg.1)), (sg2, .inl (G.2.1, 48, .inl sg.2.1))] none [(sg0, .inr (4, [.ref sg1, .ref sg2, .int r.2.2.1, .int r.2.2.2.1, .int r.2.2.2.2.1, .int r.2.2.2.2.2.1, .int r.2.2.2.2.2.2.1, .int r.2.2.2.2.2.2.2])), (sg1, .inl (G.2.1, 48, .inl r.1)), (sg2, .inl (G.2.1, 48, .inl r.2.1))] := by
  refine fl_muv_in cX4_makeRoomFor 3 RX4 (by decide) rfl rfl (Nat.le_of_ble_eq_true rfl) ?_
  intro p e s m args below meth c ls A Q H locs C0 hK hP hD hS hA hl hfin
  obtain ⟨hx, hb, hml, hown, hts⟩ := id C0
  have iX4 : ∀ w ∈ u_ws RX4 TX4 8, w ∈ wsX4_makeRoomFor := fun _ h => List.mem_cons_of_mem _ (List.mem_append_right _ h)
  have hl : lv_has ls 3 [(0, .ref sg0), (1, .int p0)] := hl
  have KL5 : ∀ (n0 : Nat) (z5 : (Int32 × fl_Sg)) (H : Heap) (locs : List Loc), va_P G.1 vwCl [(sg0, .inr (4, [.ref sg1, .ref sg2, .int z5.2.2.2.1, .int z5.2.2.2.2.1, .int z5.2.2.2.2.2.1, .int z5.2.2.2.2.2.2.1, .int z5.2.2.2.2.2.2.2.1, .int z5.2.2.2.2.2.2.2.2])), (sg1, .inl (G.2.1, 48, .inl z5.2.1)), (sg2, .inl (G.2.1, 48, .inl z5.2.2.1))] H → va_D A [(sg0, .inr (4, [.ref sg1, .ref sg2, .int z5.2.2.2.1, .int z5.2.2.2.2.1, .int z5.2.2.2.2.2.1, .int z5.2.2.2.2.2.2.1, .int z5.2.2.2.2.2.2.2.1, .int z5.2.2.2.2.2.2.2.2])), (sg1, .inl (G.2.1, 48, .inl z5.2.1)), (sg2, .inl (G.2.1, 48, .inl z5.2.2.1))] → va_S A s.heap H locs → ∀ (ls : Array Slot), lv_has ls 3 [(0, .ref sg0), (1, .int p0), (2, .int z5.1)] → fl_loopN (P_Sg_makeRoomFor_L5 p0) n0 z5 = some r → W p l e (fl_rm 2 43) s m args below meth c H locs 0 0 Q (F0 m 5 ls []) := by
    intro n0
    induction n0 with
    | zero => intro z5 H locs hP hD hS ls hl hn; exact (fl_loopN_0 hn).elim
    | succ n0 ih5 =>
      intro z5 H locs hP hD hS ls hl hn
      obtain ⟨y5, hb5, hy5⟩ := fl_loopN_step hn
      clear hn
      have hp := hb5
      unfold P_Sg_makeRoomFor_L5 at hp
      refine lv_iload_n hx hb dX4_makeRoomFor_5 rfl (lv_at hl 2 rfl) ?_
      refine lv_if_le (tgt := 30) hx hb dX4_makeRoomFor_6 (by decide) (fun hc => ?_) (fun hc => ?_)
      · replace hp := fl_t hc hp
        obtain rfl := Option.some.inj hp
        obtain rfl := fl_cont_inr hy5
        exact hfin H locs _ ls hP hD hS dX4_makeRoomFor_30
      · replace hp := fl_f hc hp
        refine lv_aload_n hx hb dX4_makeRoomFor_9 rfl (lv_at hl 0 rfl) ?_
        refine va_get (D := G.1) (ci := 4) (v := .int z5.2.2.2.1) (C := RX4) (T := TX4) (N := 8) hx hb hts iX4 hown hK.1 hP 0 rfl rfl 2 (by decide) (hts (.fieldLink RX4 18 "SongChoir$Song" "notes" "I") (List.mem_of_getElem? (i := 2) rfl)) (fun _ h9 => h9) rfl dX4_makeRoomFor_10 ?_
        refine lv_iload_n hx hb dX4_makeRoomFor_13 rfl (lv_at hl 1 rfl) ?_
        refine lv_iadd hx hb dX4_makeRoomFor_14 ?_
        refine lv_bipush (v := (48 : Int32)) hx hb dX4_makeRoomFor_15 (by decide) ?_
        refine lv_icmp_le (tgt := 30) hx hb dX4_makeRoomFor_17 (by decide) (fun hc => ?_) (fun hc => ?_)
        · replace hp := fl_t hc hp
          obtain rfl := Option.some.inj hp
          obtain rfl := fl_cont_inr hy5
          exact hfin H locs _ ls hP hD hS dX4_makeRoomFor_30
        · replace hp := fl_f hc hp
          refine lv_aload_n hx hb dX4_makeRoomFor_20 rfl (lv_at hl 0 rfl) ?_
          obtain ⟨q1, hq1, hp⟩ := fl_bd_of hp
          refine fl_muV (As := []) (rest := []) [(sg0, .inr (4, [.ref sg1, .ref sg2, .int q1.2.2.1, .int q1.2.2.2.1, .int q1.2.2.2.2.1, .int q1.2.2.2.2.2.1, .int q1.2.2.2.2.2.2.1, .int q1.2.2.2.2.2.2.2])), (sg1, .inl (G.2.1, 48, .inl q1.1)), (sg2, .inl (G.2.1, 48, .inl q1.2.1))] C0 (c_Sg_dropVerse l G sg0 sg1 sg2 z5.2 hq1) (cwV 0 hts gX4_makeRoomFor_X4_dropVerse rfl rfl rfl (by decide +kernel) ⟨Nat.le_of_ble_eq_true rfl, Nat.le_of_ble_eq_true rfl⟩) hK hP hD [0, 1, 2] [] [0, 1, 2] rfl rfl (by decide) (by decide) rfl 0 4 rfl rfl rfl hS hA rfl hl.1 rfl (Nat.le_of_ble_eq_true rfl) dX4_makeRoomFor_21 ⟨Nat.zero_le _, Nat.zero_le _⟩ (fun H locs hP hD hS => ?_)
          refine lv_iinc (v := (z5.1 + (-1 : Int32))) (lv' := [(2, .int (z5.1 + (-1 : Int32))), (0, .ref sg0), (1, .int p0)]) hx hb dX4_makeRoomFor_24 hl (k := 2) rfl rfl (by decide) rfl (fun ls hl => ?_)
          refine lv_goto (tgt := 5) hx hb dX4_makeRoomFor_27 (by decide) ?_
          obtain rfl := Option.some.inj hp
          exact ih5 ((z5.1 + (-1 : Int32)), q1) H locs hP hD hS ls (lv_sub hl [1, 2, 0] rfl) (fl_cont_inl hy5)
  have hp := hp0
  unfold P_Sg_makeRoomFor at hp
  refine lv_aload_n hx hb dX4_makeRoomFor_0 rfl (lv_at hl 0 rfl) ?_
  refine va_get (D := G.1) (ci := 4) (v := .int sg.2.2.2.1) (C := RX4) (T := TX4) (N := 8) hx hb hts iX4 hown hK.1 hP 0 rfl rfl 3 (by decide) (hts (.fieldLink RX4 22 "SongChoir$Song" "verses" "I") (List.mem_of_getElem? (i := 1) rfl)) (fun _ h9 => h9) rfl dX4_makeRoomFor_1 ?_
  refine lv_istore_n (lv' := [(2, .int sg.2.2.2.1), (0, .ref sg0), (1, .int p0)]) hx hb dX4_makeRoomFor_4 rfl hl (by decide) rfl (fun ls hl => ?_)
  obtain ⟨n0, hn⟩ := fl_loop_ex hp
  exact KL5 n0 (sg.2.2.2.1, sg) H locs hP hD hS ls (lv_sub hl [1, 2, 0] rfl) hn

noncomputable def P_Ln_sharedWith_L2 (tN : Nat) (t : fl_Ln) (g : fl_Sg) (p1 : Int32) (z2 : Int32) : Option (Int32 ⊕ Int32) := if t.2 ≤ z2 then some (.inr z2) else if g.2.2.1 ≤ (p1 + z2) then some (.inr z2) else fl_bd (P_Ln_codeAt tN t z2) (fun q1 => fl_bd (P_Sg_codeAt g (p1 + z2)) (fun q2 => if q1 = q2 then some (.inl (z2 + (1 : Int32))) else some (.inr z2)))
noncomputable def P_Ln_sharedWith (tN : Nat) (t : fl_Ln) (g : fl_Sg) (p1 : Int32) : Option Int32 := fl_loop (P_Ln_sharedWith_L2 tN t g p1) (0 : Int32)
set_option maxHeartbeats 4000000 in
set_option maxRecDepth 100000 in
theorem c_Ln_sharedWith (l : Launch) (G : fl_G) (tN : Nat) (t0 t1 g0 g1 g2 : Nat) (t : fl_Ln) (g : fl_Sg) (p1 : Int32) {r : Int32} (hp0 : P_Ln_sharedWith tN t g p1 = some r) : fl_ro l yX2_sharedWith wsX2_sharedWith 2 42 G [.ref t0, .ref g0, .int p1] [(t0, .inr (2, [.ref t1, .int t.2])), (t1, .inl (G.2.1, tN, .inl t.1)), (g0, .inr (4, [.ref g1, .ref g2, .int g.2.2.1, .int g.2.2.2.1, .int g.2.2.2.2.1, .int g.2.2.2.2.2.1, .int g.2.2.2.2.2.2.1, .int g.2.2.2.2.2.2.2])), (g1, .inl (G.2.1, 48, .inl g.1)), (g2, .inl (G.2.1, 48, .inl g.2.1))] (.int r) := by
  refine fl_ro_in cX2_sharedWith 4 .int RX2 (by decide) rfl rfl (Nat.le_of_ble_eq_true rfl) ?_
  intro p e s m args below meth c ls Q H locs C0 hK hP hS hl hfin
  have hA : ∀ q : Nat, s.heap.size ≤ q → va_A [] s.heap.size q := fl_hA _ _
  obtain ⟨hx, hb, hml, hown, hts⟩ := id C0
  have iX2 : ∀ w ∈ u_ws RX2 TX2 2, w ∈ wsX2_sharedWith := fun _ h => List.mem_cons_of_mem _ (List.mem_append_left _ (List.mem_append_right _ h))
  have iX4 : ∀ w ∈ u_ws RX4 TX4 8, w ∈ wsX2_sharedWith := fun _ h => List.mem_cons_of_mem _ (List.mem_append_right _ h)
  have hl : lv_has ls 4 [(0, .ref t0), (1, .ref g0), (2, .int p1)] := hl
  have KL2 : ∀ (n0 : Nat) (z2 : Int32) (H : Heap) (locs : List Loc), va_P G.1 vwCl [(t0, .inr (2, [.ref t1, .int t.2])), (t1, .inl (G.2.1, tN, .inl t.1)), (g0, .inr (4, [.ref g1, .ref g2, .int g.2.2.1, .int g.2.2.2.1, .int g.2.2.2.2.1, .int g.2.2.2.2.2.1, .int g.2.2.2.2.2.2.1, .int g.2.2.2.2.2.2.2])), (g1, .inl (G.2.1, 48, .inl g.1)), (g2, .inl (G.2.1, 48, .inl g.2.1))] H → va_S (va_A [] s.heap.size) s.heap H locs → ∀ (ls : Array Slot), lv_has ls 4 [(0, .ref t0), (1, .ref g0), (2, .int p1), (3, .int z2)] → fl_loopN (P_Ln_sharedWith_L2 tN t g p1) n0 z2 = some r → W p l e (fl_rm 2 42) s m args below meth c H locs 0 0 Q (F0 m 2 ls []) := by
    intro n0
    induction n0 with
    | zero => intro z2 H locs hP hS ls hl hn; exact (fl_loopN_0 hn).elim
    | succ n0 ih2 =>
      intro z2 H locs hP hS ls hl hn
      obtain ⟨y2, hb2, hy2⟩ := fl_loopN_step hn
      clear hn
      have hp := hb2
      unfold P_Ln_sharedWith_L2 at hp
      refine lv_iload_n hx hb dX2_sharedWith_2 rfl (lv_at hl 3 rfl) ?_
      refine lv_aload_n hx hb dX2_sharedWith_3 rfl (lv_at hl 0 rfl) ?_
      refine va_get (D := G.1) (ci := 2) (v := .int t.2) (C := RX2) (T := TX2) (N := 2) hx hb hts iX2 hown hK.1 hP 0 rfl rfl 1 (by decide) (hts (.fieldLink RX2 9 "SongChoir$Line" "length" "I") (List.mem_of_getElem? (i := 1) rfl)) (fun _ h9 => h9) rfl dX2_sharedWith_4 ?_
      refine lv_icmp_ge (tgt := 41) hx hb dX2_sharedWith_7 (by decide) (fun hc => ?_) (fun hc => ?_)
      · replace hp := fl_t hc hp
        refine lv_iload_n hx hb dX2_sharedWith_41 rfl (lv_at hl 3 rfl) ?_
        obtain rfl := Option.some.inj hp
        obtain rfl := fl_cont_inr hy2
        exact hfin H locs _ ls hS dX2_sharedWith_42 rfl
      · replace hp := fl_f hc hp
        refine lv_iload_n hx hb dX2_sharedWith_10 rfl (lv_at hl 2 rfl) ?_
        refine lv_iload_n hx hb dX2_sharedWith_11 rfl (lv_at hl 3 rfl) ?_
        refine lv_iadd hx hb dX2_sharedWith_12 ?_
        refine lv_aload_n hx hb dX2_sharedWith_13 rfl (lv_at hl 1 rfl) ?_
        refine va_get (D := G.1) (ci := 4) (v := .int g.2.2.1) (C := RX4) (T := TX4) (N := 8) hx hb hts iX4 hown hK.1 hP 2 rfl rfl 2 (by decide) (hts (.fieldLink RX2 45 "SongChoir$Song" "notes" "I") (List.mem_of_getElem? (i := 2) rfl)) (fun _ h9 => h9) rfl dX2_sharedWith_14 ?_
        refine lv_icmp_ge (tgt := 41) hx hb dX2_sharedWith_17 (by decide) (fun hc => ?_) (fun hc => ?_)
        · replace hp := fl_t hc hp
          refine lv_iload_n hx hb dX2_sharedWith_41 rfl (lv_at hl 3 rfl) ?_
          obtain rfl := Option.some.inj hp
          obtain rfl := fl_cont_inr hy2
          exact hfin H locs _ ls hS dX2_sharedWith_42 rfl
        · replace hp := fl_f hc hp
          refine lv_aload_n hx hb dX2_sharedWith_20 rfl (lv_at hl 0 rfl) ?_
          refine lv_iload_n hx hb dX2_sharedWith_21 rfl (lv_at hl 3 rfl) ?_
          obtain ⟨q1, hq1, hp⟩ := fl_bd_of hp
          refine fl_roV (As := [.int z2]) (rest := []) C0 (c_Ln_codeAt l G tN t0 t1 t z2 hq1) (cwV 1 hts gX2_sharedWith_X2_codeAt rfl rfl rfl (by decide +kernel) ⟨Nat.le_of_ble_eq_true rfl, Nat.le_of_ble_eq_true rfl⟩) hK hP [0, 1] rfl 0 2 rfl rfl rfl hS hA rfl hl.1 rfl (Nat.le_of_ble_eq_true rfl) dX2_sharedWith_22 ⟨Nat.zero_le _, Nat.zero_le _⟩ (fun H locs hP hS => ?_)
          refine lv_aload_n hx hb dX2_sharedWith_25 rfl (lv_at hl 1 rfl) ?_
          refine lv_iload_n hx hb dX2_sharedWith_26 rfl (lv_at hl 2 rfl) ?_
          refine lv_iload_n hx hb dX2_sharedWith_27 rfl (lv_at hl 3 rfl) ?_
          refine lv_iadd hx hb dX2_sharedWith_28 ?_
          obtain ⟨q2, hq2, hp⟩ := fl_bd_of hp
          refine fl_roV (As := [.int (p1 + z2)]) (rest := [.int q1]) C0 (c_Sg_codeAt l G g0 g1 g2 g (p1 + z2) hq2) (cwV 1 hts gX2_sharedWith_X4_codeAt rfl rfl rfl (by decide +kernel) ⟨Nat.le_of_ble_eq_true rfl, Nat.le_of_ble_eq_true rfl⟩) hK hP [2, 3, 4] rfl 2 4 rfl rfl rfl hS hA rfl hl.1 rfl (Nat.le_of_ble_eq_true rfl) dX2_sharedWith_29 ⟨Nat.zero_le _, Nat.zero_le _⟩ (fun H locs hP hS => ?_)
          refine lv_icmp_ne (tgt := 41) hx hb dX2_sharedWith_32 (by decide) (fun hc => ?_) (fun hc => ?_)
          · replace hp := fl_f hc hp
            refine lv_iload_n hx hb dX2_sharedWith_41 rfl (lv_at hl 3 rfl) ?_
            obtain rfl := Option.some.inj hp
            obtain rfl := fl_cont_inr hy2
            exact hfin H locs _ ls hS dX2_sharedWith_42 rfl
          · replace hp := fl_t hc hp
            refine lv_iinc (v := (z2 + (1 : Int32))) (lv' := [(3, .int (z2 + (1 : Int32))), (0, .ref t0), (1, .ref g0), (2, .int p1)]) hx hb dX2_sharedWith_35 hl (k := 3) rfl rfl (by decide) rfl (fun ls hl => ?_)
            refine lv_goto (tgt := 2) hx hb dX2_sharedWith_38 (by decide) ?_
            obtain rfl := Option.some.inj hp
            exact ih2 (z2 + (1 : Int32)) H locs hP hS ls (lv_sub hl [1, 2, 3, 0] rfl) (fl_cont_inl hy2)
  have hp := hp0
  unfold P_Ln_sharedWith at hp
  refine lv_iconst (v := (0 : Int32)) hx hb dX2_sharedWith_0 (by decide) ?_
  refine lv_istore_n (lv' := [(3, .int (0 : Int32)), (0, .ref t0), (1, .ref g0), (2, .int p1)]) hx hb dX2_sharedWith_1 rfl hl (by decide) rfl (fun ls hl => ?_)
  obtain ⟨n0, hn⟩ := fl_loop_ex hp
  exact KL2 n0 (0 : Int32) H locs hP hS ls (lv_sub hl [1, 2, 3, 0] rfl) hn

noncomputable def P_Ln_takeLine_L6 (tN : Nat) (uN : Nat) (u : fl_Ln) (z6 : (Int32 × fl_Ln)) : Option ((Int32 × fl_Ln) ⊕ fl_Ln) := if u.2 ≤ z6.1 then some (.inr z6.2) else fl_bd (P_Ln_codeAt uN u z6.1) (fun q1 => fl_bd (P_Ln_add tN z6.2 q1) (fun q2 => some (.inl ((z6.1 + (1 : Int32)), q2))))
noncomputable def P_Ln_takeLine (tN : Nat) (uN : Nat) (t : fl_Ln) (u : fl_Ln) : Option fl_Ln := fl_bd (P_Ln_empty tN t) (fun q1 => fl_loop (P_Ln_takeLine_L6 tN uN u) ((0 : Int32), q1))
set_option maxHeartbeats 4000000 in
set_option maxRecDepth 100000 in
theorem c_Ln_takeLine (l : Launch) (G : fl_G) (tN : Nat) (uN : Nat) (t0 t1 u0 u1 : Nat) (t : fl_Ln) (u : fl_Ln) {r : fl_Ln} (hp0 : P_Ln_takeLine tN uN t u = some r) : fl_mu l yX2_takeLine wsX2_takeLine 2 42 G [.ref t0, .ref u0] [(t0, .inr (2, [.ref t1, .int t.2])), (t1, .inl (G.2.1, tN, .inl t.1)), (u0, .inr (2, [.ref u1, .int u.2])), (u1, .inl (G.2.1, uN, .inl u.1))] none [(t0, .inr (2, [.ref t1, .int r.2])), (t1, .inl (G.2.1, tN, .inl r.1)), (u0, .inr (2, [.ref u1, .int u.2])), (u1, .inl (G.2.1, uN, .inl u.1))] := by
  refine fl_muv_in cX2_takeLine 3 RX2 (by decide) rfl rfl (Nat.le_of_ble_eq_true rfl) ?_
  intro p e s m args below meth c ls A Q H locs C0 hK hP hD hS hA hl hfin
  obtain ⟨hx, hb, hml, hown, hts⟩ := id C0
  have iX2 : ∀ w ∈ u_ws RX2 TX2 2, w ∈ wsX2_takeLine := fun _ h => List.mem_cons_of_mem _ (List.mem_append_right _ h)
  have hl : lv_has ls 3 [(0, .ref t0), (1, .ref u0)] := hl
  have KL6 : ∀ (n0 : Nat) (z6 : (Int32 × fl_Ln)) (H : Heap) (locs : List Loc), va_P G.1 vwCl [(t0, .inr (2, [.ref t1, .int z6.2.2])), (t1, .inl (G.2.1, tN, .inl z6.2.1)), (u0, .inr (2, [.ref u1, .int u.2])), (u1, .inl (G.2.1, uN, .inl u.1))] H → va_D A [(t0, .inr (2, [.ref t1, .int z6.2.2])), (t1, .inl (G.2.1, tN, .inl z6.2.1)), (u0, .inr (2, [.ref u1, .int u.2])), (u1, .inl (G.2.1, uN, .inl u.1))] → va_S A s.heap H locs → ∀ (ls : Array Slot), lv_has ls 3 [(0, .ref t0), (1, .ref u0), (2, .int z6.1)] → fl_loopN (P_Ln_takeLine_L6 tN uN u) n0 z6 = some r → W p l e (fl_rm 2 42) s m args below meth c H locs 0 0 Q (F0 m 6 ls []) := by
    intro n0
    induction n0 with
    | zero => intro z6 H locs hP hD hS ls hl hn; exact (fl_loopN_0 hn).elim
    | succ n0 ih6 =>
      intro z6 H locs hP hD hS ls hl hn
      obtain ⟨y6, hb6, hy6⟩ := fl_loopN_step hn
      clear hn
      have hp := hb6
      unfold P_Ln_takeLine_L6 at hp
      refine lv_iload_n hx hb dX2_takeLine_6 rfl (lv_at hl 2 rfl) ?_
      refine lv_aload_n hx hb dX2_takeLine_7 rfl (lv_at hl 1 rfl) ?_
      refine va_get (D := G.1) (ci := 2) (v := .int u.2) (C := RX2) (T := TX2) (N := 2) hx hb hts iX2 hown hK.1 hP 2 rfl rfl 1 (by decide) (hts (.fieldLink RX2 9 "SongChoir$Line" "length" "I") (List.mem_of_getElem? (i := 1) rfl)) (fun _ h9 => h9) rfl dX2_takeLine_8 ?_
      refine lv_icmp_ge (tgt := 29) hx hb dX2_takeLine_11 (by decide) (fun hc => ?_) (fun hc => ?_)
      · replace hp := fl_t hc hp
        obtain rfl := Option.some.inj hp
        obtain rfl := fl_cont_inr hy6
        exact hfin H locs _ ls hP hD hS dX2_takeLine_29
      · replace hp := fl_f hc hp
        refine lv_aload_n hx hb dX2_takeLine_14 rfl (lv_at hl 0 rfl) ?_
        refine lv_aload_n hx hb dX2_takeLine_15 rfl (lv_at hl 1 rfl) ?_
        refine lv_iload_n hx hb dX2_takeLine_16 rfl (lv_at hl 2 rfl) ?_
        obtain ⟨q1, hq1, hp⟩ := fl_bd_of hp
        refine fl_roV (As := [.int z6.1]) (rest := [.ref t0]) C0 (c_Ln_codeAt l G uN u0 u1 u z6.1 hq1) (cwV 1 hts gX2_takeLine_X2_codeAt rfl rfl rfl (by decide +kernel) ⟨Nat.le_of_ble_eq_true rfl, Nat.le_of_ble_eq_true rfl⟩) hK hP [2, 3] rfl 2 2 rfl rfl rfl hS hA rfl hl.1 rfl (Nat.le_of_ble_eq_true rfl) dX2_takeLine_17 ⟨Nat.zero_le _, Nat.zero_le _⟩ (fun H locs hP hS => ?_)
        obtain ⟨q2, hq2, hp⟩ := fl_bd_of hp
        refine fl_muV (As := [.int q1]) (rest := []) [(t0, .inr (2, [.ref t1, .int q2.2])), (t1, .inl (G.2.1, tN, .inl q2.1)), (u0, .inr (2, [.ref u1, .int u.2])), (u1, .inl (G.2.1, uN, .inl u.1))] C0 (c_Ln_add l G tN t0 t1 z6.2 q1 hq2) (cwV 1 hts gX2_takeLine_X2_add rfl rfl rfl (by decide +kernel) ⟨Nat.le_of_ble_eq_true rfl, Nat.le_of_ble_eq_true rfl⟩) hK hP hD [0, 1] [2, 3] [2, 3, 0, 1] rfl rfl (by decide) (by decide) rfl 0 2 rfl rfl rfl hS hA rfl hl.1 rfl (Nat.le_of_ble_eq_true rfl) dX2_takeLine_20 ⟨Nat.zero_le _, Nat.zero_le _⟩ (fun H locs hP hD hS => ?_)
        refine lv_iinc (v := (z6.1 + (1 : Int32))) (lv' := [(2, .int (z6.1 + (1 : Int32))), (0, .ref t0), (1, .ref u0)]) hx hb dX2_takeLine_23 hl (k := 2) rfl rfl (by decide) rfl (fun ls hl => ?_)
        refine lv_goto (tgt := 6) hx hb dX2_takeLine_26 (by decide) ?_
        obtain rfl := Option.some.inj hp
        exact ih6 ((z6.1 + (1 : Int32)), q2) H locs hP hD hS ls (lv_sub hl [1, 2, 0] rfl) (fl_cont_inl hy6)
  have hp := hp0
  unfold P_Ln_takeLine at hp
  refine lv_aload_n hx hb dX2_takeLine_0 rfl (lv_at hl 0 rfl) ?_
  obtain ⟨q1, hq1, hp⟩ := fl_bd_of hp
  refine fl_muV (As := []) (rest := []) [(t0, .inr (2, [.ref t1, .int q1.2])), (t1, .inl (G.2.1, tN, .inl q1.1)), (u0, .inr (2, [.ref u1, .int u.2])), (u1, .inl (G.2.1, uN, .inl u.1))] C0 (c_Ln_empty l G tN t0 t1 t hq1) (cwV 0 hts gX2_takeLine_X2_empty rfl rfl rfl (by decide +kernel) ⟨Nat.le_of_ble_eq_true rfl, Nat.le_of_ble_eq_true rfl⟩) hK hP hD [0, 1] [2, 3] [2, 3, 0, 1] rfl rfl (by decide) (by decide) rfl 0 2 rfl rfl rfl hS hA rfl hl.1 rfl (Nat.le_of_ble_eq_true rfl) dX2_takeLine_1 ⟨Nat.zero_le _, Nat.zero_le _⟩ (fun H locs hP hD hS => ?_)
  refine lv_iconst (v := (0 : Int32)) hx hb dX2_takeLine_4 (by decide) ?_
  refine lv_istore_n (lv' := [(2, .int (0 : Int32)), (0, .ref t0), (1, .ref u0)]) hx hb dX2_takeLine_5 rfl hl (by decide) rfl (fun ls hl => ?_)
  obtain ⟨n0, hn⟩ := fl_loop_ex hp
  exact KL6 n0 ((0 : Int32), q1) H locs hP hD hS ls (lv_sub hl [1, 2, 0] rfl) hn

noncomputable def P_Ln_takeVerse_L22 (tN : Nat) (g : fl_Sg) (v4 : Int32) (z22 : (Int32 × fl_Ln)) : Option ((Int32 × fl_Ln) ⊕ fl_Ln) := if v4 ≤ z22.1 then some (.inr z22.2) else fl_bd (P_Sg_codeAt g z22.1) (fun q1 => fl_bd (P_Ln_add tN z22.2 q1) (fun q2 => some (.inl ((z22.1 + (1 : Int32)), q2))))
noncomputable def P_Ln_takeVerse (tN : Nat) (t : fl_Ln) (g : fl_Sg) (p1 : Int32) : Option fl_Ln := fl_bd (P_Ln_empty tN t) (fun q1 => fl_bd (P_Sg_startOf g p1) (fun q2 => fl_bd (P_Sg_lengthOf g p1) (fun q3 => fl_loop (P_Ln_takeVerse_L22 tN g (q2 + q3)) (q2, q1))))
set_option maxHeartbeats 4000000 in
set_option maxRecDepth 100000 in
theorem c_Ln_takeVerse (l : Launch) (G : fl_G) (tN : Nat) (t0 t1 g0 g1 g2 : Nat) (t : fl_Ln) (g : fl_Sg) (p1 : Int32) {r : fl_Ln} (hp0 : P_Ln_takeVerse tN t g p1 = some r) : fl_mu l yX2_takeVerse wsX2_takeVerse 2 44 G [.ref t0, .ref g0, .int p1] [(t0, .inr (2, [.ref t1, .int t.2])), (t1, .inl (G.2.1, tN, .inl t.1)), (g0, .inr (4, [.ref g1, .ref g2, .int g.2.2.1, .int g.2.2.2.1, .int g.2.2.2.2.1, .int g.2.2.2.2.2.1, .int g.2.2.2.2.2.2.1, .int g.2.2.2.2.2.2.2])), (g1, .inl (G.2.1, 48, .inl g.1)), (g2, .inl (G.2.1, 48, .inl g.2.1))] none [(t0, .inr (2, [.ref t1, .int r.2])), (t1, .inl (G.2.1, tN, .inl r.1)), (g0, .inr (4, [.ref g1, .ref g2, .int g.2.2.1, .int g.2.2.2.1, .int g.2.2.2.2.1, .int g.2.2.2.2.2.1, .int g.2.2.2.2.2.2.1, .int g.2.2.2.2.2.2.2])), (g1, .inl (G.2.1, 48, .inl g.1)), (g2, .inl (G.2.1, 48, .inl g.2.1))] := by
  refine fl_muv_in cX2_takeVerse 6 RX2 (by decide) rfl rfl (Nat.le_of_ble_eq_true rfl) ?_
  intro p e s m args below meth c ls A Q H locs C0 hK hP hD hS hA hl hfin
  obtain ⟨hx, hb, hml, hown, hts⟩ := id C0
  have hl : lv_has ls 6 [(0, .ref t0), (1, .ref g0), (2, .int p1)] := hl
  have KL22 : ∀ (v4 : Int32) (n0 : Nat) (z22 : (Int32 × fl_Ln)) (H : Heap) (locs : List Loc), va_P G.1 vwCl [(t0, .inr (2, [.ref t1, .int z22.2.2])), (t1, .inl (G.2.1, tN, .inl z22.2.1)), (g0, .inr (4, [.ref g1, .ref g2, .int g.2.2.1, .int g.2.2.2.1, .int g.2.2.2.2.1, .int g.2.2.2.2.2.1, .int g.2.2.2.2.2.2.1, .int g.2.2.2.2.2.2.2])), (g1, .inl (G.2.1, 48, .inl g.1)), (g2, .inl (G.2.1, 48, .inl g.2.1))] H → va_D A [(t0, .inr (2, [.ref t1, .int z22.2.2])), (t1, .inl (G.2.1, tN, .inl z22.2.1)), (g0, .inr (4, [.ref g1, .ref g2, .int g.2.2.1, .int g.2.2.2.1, .int g.2.2.2.2.1, .int g.2.2.2.2.2.1, .int g.2.2.2.2.2.2.1, .int g.2.2.2.2.2.2.2])), (g1, .inl (G.2.1, 48, .inl g.1)), (g2, .inl (G.2.1, 48, .inl g.2.1))] → va_S A s.heap H locs → ∀ (ls : Array Slot), lv_has ls 6 [(0, .ref t0), (1, .ref g0), (4, .int v4), (5, .int z22.1)] → fl_loopN (P_Ln_takeVerse_L22 tN g v4) n0 z22 = some r → W p l e (fl_rm 2 44) s m args below meth c H locs 0 0 Q (F0 m 22 ls []) := by
    intro v4 n0
    induction n0 with
    | zero => intro z22 H locs hP hD hS ls hl hn; exact (fl_loopN_0 hn).elim
    | succ n0 ih22 =>
      intro z22 H locs hP hD hS ls hl hn
      obtain ⟨y22, hb22, hy22⟩ := fl_loopN_step hn
      clear hn
      have hp := hb22
      unfold P_Ln_takeVerse_L22 at hp
      refine lv_iload hx hb dX2_takeVerse_22 (lv_at hl 3 rfl) ?_
      refine lv_iload hx hb dX2_takeVerse_24 (lv_at hl 2 rfl) ?_
      refine lv_icmp_ge (tgt := 45) hx hb dX2_takeVerse_26 (by decide) (fun hc => ?_) (fun hc => ?_)
      · replace hp := fl_t hc hp
        obtain rfl := Option.some.inj hp
        obtain rfl := fl_cont_inr hy22
        exact hfin H locs _ ls hP hD hS dX2_takeVerse_45
      · replace hp := fl_f hc hp
        refine lv_aload_n hx hb dX2_takeVerse_29 rfl (lv_at hl 0 rfl) ?_
        refine lv_aload_n hx hb dX2_takeVerse_30 rfl (lv_at hl 1 rfl) ?_
        refine lv_iload hx hb dX2_takeVerse_31 (lv_at hl 3 rfl) ?_
        obtain ⟨q1, hq1, hp⟩ := fl_bd_of hp
        refine fl_roV (As := [.int z22.1]) (rest := [.ref t0]) C0 (c_Sg_codeAt l G g0 g1 g2 g z22.1 hq1) (cwV 1 hts gX2_takeVerse_X4_codeAt rfl rfl rfl (by decide +kernel) ⟨Nat.le_of_ble_eq_true rfl, Nat.le_of_ble_eq_true rfl⟩) hK hP [2, 3, 4] rfl 2 4 rfl rfl rfl hS hA rfl hl.1 rfl (Nat.le_of_ble_eq_true rfl) dX2_takeVerse_33 ⟨Nat.zero_le _, Nat.zero_le _⟩ (fun H locs hP hS => ?_)
        obtain ⟨q2, hq2, hp⟩ := fl_bd_of hp
        refine fl_muV (As := [.int q1]) (rest := []) [(t0, .inr (2, [.ref t1, .int q2.2])), (t1, .inl (G.2.1, tN, .inl q2.1)), (g0, .inr (4, [.ref g1, .ref g2, .int g.2.2.1, .int g.2.2.2.1, .int g.2.2.2.2.1, .int g.2.2.2.2.2.1, .int g.2.2.2.2.2.2.1, .int g.2.2.2.2.2.2.2])), (g1, .inl (G.2.1, 48, .inl g.1)), (g2, .inl (G.2.1, 48, .inl g.2.1))] C0 (c_Ln_add l G tN t0 t1 z22.2 q1 hq2) (cwV 1 hts gX2_takeVerse_X2_add rfl rfl rfl (by decide +kernel) ⟨Nat.le_of_ble_eq_true rfl, Nat.le_of_ble_eq_true rfl⟩) hK hP hD [0, 1] [2, 3, 4] [3, 4, 0, 1, 2] rfl rfl (by decide) (by decide) rfl 0 2 rfl rfl rfl hS hA rfl hl.1 rfl (Nat.le_of_ble_eq_true rfl) dX2_takeVerse_36 ⟨Nat.zero_le _, Nat.zero_le _⟩ (fun H locs hP hD hS => ?_)
        refine lv_iinc (v := (z22.1 + (1 : Int32))) (lv' := [(5, .int (z22.1 + (1 : Int32))), (0, .ref t0), (1, .ref g0), (4, .int v4)]) hx hb dX2_takeVerse_39 hl (k := 3) rfl rfl (by decide) rfl (fun ls hl => ?_)
        refine lv_goto (tgt := 22) hx hb dX2_takeVerse_42 (by decide) ?_
        obtain rfl := Option.some.inj hp
        exact ih22 ((z22.1 + (1 : Int32)), q2) H locs hP hD hS ls (lv_sub hl [1, 2, 3, 0] rfl) (fl_cont_inl hy22)
  have hp := hp0
  unfold P_Ln_takeVerse at hp
  refine lv_aload_n hx hb dX2_takeVerse_0 rfl (lv_at hl 0 rfl) ?_
  obtain ⟨q1, hq1, hp⟩ := fl_bd_of hp
  refine fl_muV (As := []) (rest := []) [(t0, .inr (2, [.ref t1, .int q1.2])), (t1, .inl (G.2.1, tN, .inl q1.1)), (g0, .inr (4, [.ref g1, .ref g2, .int g.2.2.1, .int g.2.2.2.1, .int g.2.2.2.2.1, .int g.2.2.2.2.2.1, .int g.2.2.2.2.2.2.1, .int g.2.2.2.2.2.2.2])), (g1, .inl (G.2.1, 48, .inl g.1)), (g2, .inl (G.2.1, 48, .inl g.2.1))] C0 (c_Ln_empty l G tN t0 t1 t hq1) (cwV 0 hts gX2_takeVerse_X2_empty rfl rfl rfl (by decide +kernel) ⟨Nat.le_of_ble_eq_true rfl, Nat.le_of_ble_eq_true rfl⟩) hK hP hD [0, 1] [2, 3, 4] [3, 4, 0, 1, 2] rfl rfl (by decide) (by decide) rfl 0 2 rfl rfl rfl hS hA rfl hl.1 rfl (Nat.le_of_ble_eq_true rfl) dX2_takeVerse_1 ⟨Nat.zero_le _, Nat.zero_le _⟩ (fun H locs hP hD hS => ?_)
  refine lv_aload_n hx hb dX2_takeVerse_4 rfl (lv_at hl 1 rfl) ?_
  refine lv_iload_n hx hb dX2_takeVerse_5 rfl (lv_at hl 2 rfl) ?_
  obtain ⟨q2, hq2, hp⟩ := fl_bd_of hp
  refine fl_roV (As := [.int p1]) (rest := []) C0 (c_Sg_startOf l G g0 g1 g2 g p1 hq2) (cwV 1 hts gX2_takeVerse_X4_startOf rfl rfl rfl (by decide +kernel) ⟨Nat.le_of_ble_eq_true rfl, Nat.le_of_ble_eq_true rfl⟩) hK hP [2, 3, 4] rfl 2 4 rfl rfl rfl hS hA rfl hl.1 rfl (Nat.le_of_ble_eq_true rfl) dX2_takeVerse_6 ⟨Nat.zero_le _, Nat.zero_le _⟩ (fun H locs hP hS => ?_)
  refine lv_istore_n (lv' := [(3, .int q2), (0, .ref t0), (1, .ref g0), (2, .int p1)]) hx hb dX2_takeVerse_9 rfl hl (by decide) rfl (fun ls hl => ?_)
  refine lv_iload_n hx hb dX2_takeVerse_10 rfl (lv_at hl 0 rfl) ?_
  refine lv_aload_n hx hb dX2_takeVerse_11 rfl (lv_at hl 2 rfl) ?_
  refine lv_iload_n hx hb dX2_takeVerse_12 rfl (lv_at hl 3 rfl) ?_
  obtain ⟨q3, hq3, hp⟩ := fl_bd_of hp
  refine fl_roV (As := [.int p1]) (rest := [.int q2]) C0 (c_Sg_lengthOf l G g0 g1 g2 g p1 hq3) (cwV 1 hts gX2_takeVerse_X4_lengthOf rfl rfl rfl (by decide +kernel) ⟨Nat.le_of_ble_eq_true rfl, Nat.le_of_ble_eq_true rfl⟩) hK hP [2, 3, 4] rfl 2 4 rfl rfl rfl hS hA rfl hl.1 rfl (Nat.le_of_ble_eq_true rfl) dX2_takeVerse_13 ⟨Nat.zero_le _, Nat.zero_le _⟩ (fun H locs hP hS => ?_)
  refine lv_iadd hx hb dX2_takeVerse_16 ?_
  refine lv_istore (lv' := [(4, .int (q2 + q3)), (3, .int q2), (0, .ref t0), (1, .ref g0), (2, .int p1)]) hx hb dX2_takeVerse_17 hl (by decide) rfl (fun ls hl => ?_)
  refine lv_iload_n hx hb dX2_takeVerse_19 rfl (lv_at hl 1 rfl) ?_
  refine lv_istore (lv' := [(5, .int q2), (4, .int (q2 + q3)), (3, .int q2), (0, .ref t0), (1, .ref g0), (2, .int p1)]) hx hb dX2_takeVerse_20 hl (by decide) rfl (fun ls hl => ?_)
  obtain ⟨n0, hn⟩ := fl_loop_ex hp
  exact KL22 (q2 + q3) n0 (q2, q1) H locs hP hD hS ls (lv_sub hl [3, 4, 1, 0] rfl) hn

noncomputable def P_Ln_takeDigits_J77 (tN : Nat) (t : fl_Ln) : Option (Int32 × fl_Ln) := if t.2 ≤ 0 then some ((0 : Int32), t) else some ((1 : Int32), t)
noncomputable def P_Ln_takeDigits_J71 (tN : Nat) (t : fl_Ln) (v2 : Int32) (v3 : Int32) (v4 : Int32) : Option ((Int32 × Int32 × Int32 × fl_Ln) ⊕ (Int32 × fl_Ln)) := some (.inl (v2, v3, (v4 + (1 : Int32)), t))
noncomputable def P_Ln_takeDigits_J50 (tN : Nat) (t : fl_Ln) (v2 : Int32) (v3 : Int32) (v4 : Int32) (v5 : Int32) : Option ((Int32 × Int32 × Int32 × fl_Ln) ⊕ (Int32 × fl_Ln)) := if v5 = 0 then P_Ln_takeDigits_J71 tN t (1 : Int32) v3 v4 else fl_bd (P_Ln_add tN t (((97 : Int32) + v5) - (1 : Int32))) (fun q1 => P_Ln_takeDigits_J71 tN q1 v2 v3 v4)
noncomputable def P_Ln_takeDigits_L11 (tN : Nat) (z11 : (Int32 × Int32 × Int32 × fl_Ln)) : Option ((Int32 × Int32 × Int32 × fl_Ln) ⊕ (Int32 × fl_Ln)) := if (4 : Int32) ≤ z11.2.2.1 then fl_up (P_Ln_takeDigits_J77 tN z11.2.2.2) else if (8 : Int32) < ((z11.2.1 / (1000 : Int32)) - (z11.2.1 / (1000 : Int32)) / (10 : Int32) * (10 : Int32)) then some (.inr ((0 : Int32), z11.2.2.2)) else if ((z11.2.1 / (1000 : Int32)) - (z11.2.1 / (1000 : Int32)) / (10 : Int32) * (10 : Int32)) = 0 then P_Ln_takeDigits_J50 tN z11.2.2.2 z11.1 (z11.2.1 * (10 : Int32)) z11.2.2.1 ((z11.2.1 / (1000 : Int32)) - (z11.2.1 / (1000 : Int32)) / (10 : Int32) * (10 : Int32)) else if z11.1 = 0 then P_Ln_takeDigits_J50 tN z11.2.2.2 z11.1 (z11.2.1 * (10 : Int32)) z11.2.2.1 ((z11.2.1 / (1000 : Int32)) - (z11.2.1 / (1000 : Int32)) / (10 : Int32) * (10 : Int32)) else some (.inr ((0 : Int32), z11.2.2.2))
noncomputable def P_Ln_takeDigits (tN : Nat) (t : fl_Ln) (p0 : Int32) : Option (Int32 × fl_Ln) := fl_bd (P_Ln_empty tN t) (fun q1 => fl_loop (P_Ln_takeDigits_L11 tN) ((0 : Int32), p0, (0 : Int32), q1))
set_option maxHeartbeats 4000000 in
set_option maxRecDepth 100000 in
theorem c_Ln_takeDigits (l : Launch) (G : fl_G) (tN : Nat) (t0 t1 : Nat) (t : fl_Ln) (p0 : Int32) {r : (Int32 × fl_Ln)} (hp0 : P_Ln_takeDigits tN t p0 = some r) : fl_mu l yX2_takeDigits wsX2_takeDigits 1 21 G [.ref t0, .int p0] [(t0, .inr (2, [.ref t1, .int t.2])), (t1, .inl (G.2.1, tN, .inl t.1))] (some (.int r.1)) [(t0, .inr (2, [.ref t1, .int r.2.2])), (t1, .inl (G.2.1, tN, .inl r.2.1))] := by
  refine fl_mui_in cX2_takeDigits 6 .boolean RX2 (by decide) rfl rfl (Nat.le_of_ble_eq_true rfl) ?_
  intro p e s m args below meth c ls A Q H locs C0 hK hP hD hS hA hl hfin
  obtain ⟨hx, hb, hml, hown, hts⟩ := id C0
  have iX2 : ∀ w ∈ u_ws RX2 TX2 2, w ∈ wsX2_takeDigits := fun _ h => List.mem_cons_of_mem _ (List.mem_append_right _ h)
  have hl : lv_has ls 6 [(0, .ref t0), (1, .int p0)] := hl
  have KJ77 : ∀ (t : fl_Ln) (H : Heap) (locs : List Loc), va_P G.1 vwCl [(t0, .inr (2, [.ref t1, .int t.2])), (t1, .inl (G.2.1, tN, .inl t.1))] H → va_D A [(t0, .inr (2, [.ref t1, .int t.2])), (t1, .inl (G.2.1, tN, .inl t.1))] → va_S A s.heap H locs → ∀ (ls : Array Slot), lv_has ls 6 [(0, .ref t0)] → P_Ln_takeDigits_J77 tN t = some r → W p l e (fl_rm 1 21) s m args below meth c H locs 0 0 Q (F0 m 77 ls []) := by
    intro t H locs hP hD hS ls hl hp
    unfold P_Ln_takeDigits_J77 at hp
    refine lv_aload_n hx hb dX2_takeDigits_77 rfl (lv_at hl 0 rfl) ?_
    refine va_get (D := G.1) (ci := 2) (v := .int t.2) (C := RX2) (T := TX2) (N := 2) hx hb hts iX2 hown hK.1 hP 0 rfl rfl 1 (by decide) (hts (.fieldLink RX2 9 "SongChoir$Line" "length" "I") (List.mem_of_getElem? (i := 1) rfl)) (fun _ h9 => h9) rfl dX2_takeDigits_78 ?_
    refine lv_if_le (tgt := 88) hx hb dX2_takeDigits_81 (by decide) (fun hc => ?_) (fun hc => ?_)
    · replace hp := fl_t hc hp
      refine lv_iconst (v := (0 : Int32)) hx hb dX2_takeDigits_88 (by decide) ?_
      obtain rfl := Option.some.inj hp
      exact hfin H locs _ ls hP hD hS dX2_takeDigits_89 (show narrow .boolean (.int (0 : Int32)) = .int (0 : Int32) from rfl)
    · replace hp := fl_f hc hp
      refine lv_iconst (v := (1 : Int32)) hx hb dX2_takeDigits_84 (by decide) ?_
      refine lv_goto (tgt := 89) hx hb dX2_takeDigits_85 (by decide) ?_
      obtain rfl := Option.some.inj hp
      exact hfin H locs _ ls hP hD hS dX2_takeDigits_89 (show narrow .boolean (.int (1 : Int32)) = .int (1 : Int32) from rfl)
  have KL11 : ∀ (n0 : Nat) (z11 : (Int32 × Int32 × Int32 × fl_Ln)) (H : Heap) (locs : List Loc), va_P G.1 vwCl [(t0, .inr (2, [.ref t1, .int z11.2.2.2.2])), (t1, .inl (G.2.1, tN, .inl z11.2.2.2.1))] H → va_D A [(t0, .inr (2, [.ref t1, .int z11.2.2.2.2])), (t1, .inl (G.2.1, tN, .inl z11.2.2.2.1))] → va_S A s.heap H locs → ∀ (ls : Array Slot), lv_has ls 6 [(0, .ref t0), (2, .int z11.1), (3, .int z11.2.1), (4, .int z11.2.2.1)] → fl_loopN (P_Ln_takeDigits_L11 tN) n0 z11 = some r → W p l e (fl_rm 1 21) s m args below meth c H locs 0 0 Q (F0 m 11 ls []) := by
    intro n0
    induction n0 with
    | zero => intro z11 H locs hP hD hS ls hl hn; exact (fl_loopN_0 hn).elim
    | succ n0 ih11 =>
      intro z11 H locs hP hD hS ls hl hn
      obtain ⟨y11, hb11, hy11⟩ := fl_loopN_step hn
      clear hn
      have KJ71 : ∀ (t : fl_Ln) (v2 : Int32) (v3 : Int32) (v4 : Int32) (H : Heap) (locs : List Loc), va_P G.1 vwCl [(t0, .inr (2, [.ref t1, .int t.2])), (t1, .inl (G.2.1, tN, .inl t.1))] H → va_D A [(t0, .inr (2, [.ref t1, .int t.2])), (t1, .inl (G.2.1, tN, .inl t.1))] → va_S A s.heap H locs → ∀ (ls : Array Slot), lv_has ls 6 [(0, .ref t0), (2, .int v2), (3, .int v3), (4, .int v4)] → P_Ln_takeDigits_J71 tN t v2 v3 v4 = some y11 → W p l e (fl_rm 1 21) s m args below meth c H locs 0 0 Q (F0 m 71 ls []) := by
        intro t v2 v3 v4 H locs hP hD hS ls hl hp
        unfold P_Ln_takeDigits_J71 at hp
        refine lv_iinc (v := (v4 + (1 : Int32))) (lv' := [(4, .int (v4 + (1 : Int32))), (0, .ref t0), (2, .int v2), (3, .int v3)]) hx hb dX2_takeDigits_71 hl (k := 3) rfl rfl (by decide) rfl (fun ls hl => ?_)
        refine lv_goto (tgt := 11) hx hb dX2_takeDigits_74 (by decide) ?_
        obtain rfl := Option.some.inj hp
        exact ih11 (v2, v3, (v4 + (1 : Int32)), t) H locs hP hD hS ls (lv_sub hl [1, 2, 3, 0] rfl) (fl_cont_inl hy11)
      have KJ50 : ∀ (t : fl_Ln) (v2 : Int32) (v3 : Int32) (v4 : Int32) (v5 : Int32) (H : Heap) (locs : List Loc), va_P G.1 vwCl [(t0, .inr (2, [.ref t1, .int t.2])), (t1, .inl (G.2.1, tN, .inl t.1))] H → va_D A [(t0, .inr (2, [.ref t1, .int t.2])), (t1, .inl (G.2.1, tN, .inl t.1))] → va_S A s.heap H locs → ∀ (ls : Array Slot), lv_has ls 6 [(0, .ref t0), (2, .int v2), (3, .int v3), (4, .int v4), (5, .int v5)] → P_Ln_takeDigits_J50 tN t v2 v3 v4 v5 = some y11 → W p l e (fl_rm 1 21) s m args below meth c H locs 0 0 Q (F0 m 50 ls []) := by
        intro t v2 v3 v4 v5 H locs hP hD hS ls hl hp
        unfold P_Ln_takeDigits_J50 at hp
        refine lv_iload hx hb dX2_takeDigits_50 (lv_at hl 4 rfl) ?_
        refine lv_if_ne (tgt := 60) hx hb dX2_takeDigits_52 (by decide) (fun hc => ?_) (fun hc => ?_)
        · replace hp := fl_f hc hp
          refine lv_aload_n hx hb dX2_takeDigits_60 rfl (lv_at hl 0 rfl) ?_
          refine lv_bipush (v := (97 : Int32)) hx hb dX2_takeDigits_61 (by decide) ?_
          refine lv_iload hx hb dX2_takeDigits_63 (lv_at hl 4 rfl) ?_
          refine lv_iadd hx hb dX2_takeDigits_65 ?_
          refine lv_iconst (v := (1 : Int32)) hx hb dX2_takeDigits_66 (by decide) ?_
          refine lv_isub hx hb dX2_takeDigits_67 ?_
          obtain ⟨q1, hq1, hp⟩ := fl_bd_of hp
          refine fl_muV (As := [.int (((97 : Int32) + v5) - (1 : Int32))]) (rest := []) [(t0, .inr (2, [.ref t1, .int q1.2])), (t1, .inl (G.2.1, tN, .inl q1.1))] C0 (c_Ln_add l G tN t0 t1 t (((97 : Int32) + v5) - (1 : Int32)) hq1) (cwV 1 hts gX2_takeDigits_X2_add rfl rfl rfl (by decide +kernel) ⟨Nat.le_of_ble_eq_true rfl, Nat.le_of_ble_eq_true rfl⟩) hK hP hD [0, 1] [] [0, 1] rfl rfl (by decide) (by decide) rfl 0 2 rfl rfl rfl hS hA rfl hl.1 rfl (Nat.le_of_ble_eq_true rfl) dX2_takeDigits_68 ⟨Nat.zero_le _, Nat.zero_le _⟩ (fun H locs hP hD hS => ?_)
          exact KJ71 q1 v2 v3 v4 H locs hP hD hS ls (lv_sub hl [0, 1, 2, 3] rfl) hp
        · replace hp := fl_t hc hp
          refine lv_iconst (v := (1 : Int32)) hx hb dX2_takeDigits_55 (by decide) ?_
          refine lv_istore_n (lv' := [(2, .int (1 : Int32)), (0, .ref t0), (3, .int v3), (4, .int v4), (5, .int v5)]) hx hb dX2_takeDigits_56 rfl hl (by decide) rfl (fun ls hl => ?_)
          refine lv_goto (tgt := 71) hx hb dX2_takeDigits_57 (by decide) ?_
          exact KJ71 t (1 : Int32) v3 v4 H locs hP hD hS ls (lv_sub hl [1, 0, 2, 3] rfl) hp
      have hp := hb11
      unfold P_Ln_takeDigits_L11 at hp
      refine lv_iload hx hb dX2_takeDigits_11 (lv_at hl 3 rfl) ?_
      refine lv_iconst (v := (4 : Int32)) hx hb dX2_takeDigits_13 (by decide) ?_
      refine lv_icmp_ge (tgt := 77) hx hb dX2_takeDigits_14 (by decide) (fun hc => ?_) (fun hc => ?_)
      · replace hp := fl_t hc hp
        obtain ⟨_, hu0, rfl⟩ := fl_up_of hp
        obtain rfl := fl_cont_inr hy11
        exact KJ77 z11.2.2.2 H locs hP hD hS ls (lv_sub hl [0] rfl) hu0
      · replace hp := fl_f hc hp
        refine lv_iload_n hx hb dX2_takeDigits_17 rfl (lv_at hl 2 rfl) ?_
        refine lv_sipush (v := (1000 : Int32)) hx hb dX2_takeDigits_18 (by decide) ?_
        refine lv_idiv hx hb dX2_takeDigits_21 (by decide) ?_
        refine lv_bipush (v := (10 : Int32)) hx hb dX2_takeDigits_22 (by decide) ?_
        refine lv_irem hx hb dX2_takeDigits_24 (by decide) ?_
        refine lv_istore (lv' := [(5, .int ((z11.2.1 / (1000 : Int32)) - (z11.2.1 / (1000 : Int32)) / (10 : Int32) * (10 : Int32))), (0, .ref t0), (2, .int z11.1), (3, .int z11.2.1), (4, .int z11.2.2.1)]) hx hb dX2_takeDigits_25 hl (by decide) rfl (fun ls hl => ?_)
        refine lv_iload_n hx hb dX2_takeDigits_27 rfl (lv_at hl 3 rfl) ?_
        refine lv_bipush (v := (10 : Int32)) hx hb dX2_takeDigits_28 (by decide) ?_
        refine lv_imul hx hb dX2_takeDigits_30 ?_
        refine lv_istore_n (lv' := [(3, .int (z11.2.1 * (10 : Int32))), (5, .int ((z11.2.1 / (1000 : Int32)) - (z11.2.1 / (1000 : Int32)) / (10 : Int32) * (10 : Int32))), (0, .ref t0), (2, .int z11.1), (4, .int z11.2.2.1)]) hx hb dX2_takeDigits_31 rfl hl (by decide) rfl (fun ls hl => ?_)
        refine lv_iload hx hb dX2_takeDigits_32 (lv_at hl 1 rfl) ?_
        refine lv_bipush (v := (8 : Int32)) hx hb dX2_takeDigits_34 (by decide) ?_
        refine lv_icmp_gt (tgt := 48) hx hb dX2_takeDigits_36 (by decide) (fun hc => ?_) (fun hc => ?_)
        · replace hp := fl_t hc hp
          refine lv_iconst (v := (0 : Int32)) hx hb dX2_takeDigits_48 (by decide) ?_
          obtain rfl := Option.some.inj hp
          obtain rfl := fl_cont_inr hy11
          exact hfin H locs _ ls hP hD hS dX2_takeDigits_49 (show narrow .boolean (.int (0 : Int32)) = .int (0 : Int32) from rfl)
        · replace hp := fl_f hc hp
          refine lv_iload hx hb dX2_takeDigits_39 (lv_at hl 1 rfl) ?_
          refine lv_if_eq (tgt := 50) hx hb dX2_takeDigits_41 (by decide) (fun hc => ?_) (fun hc => ?_)
          · replace hp := fl_t hc hp
            exact KJ50 z11.2.2.2 z11.1 (z11.2.1 * (10 : Int32)) z11.2.2.1 ((z11.2.1 / (1000 : Int32)) - (z11.2.1 / (1000 : Int32)) / (10 : Int32) * (10 : Int32)) H locs hP hD hS ls (lv_sub hl [2, 3, 0, 4, 1] rfl) hp
          · replace hp := fl_f hc hp
            refine lv_iload_n hx hb dX2_takeDigits_44 rfl (lv_at hl 3 rfl) ?_
            refine lv_if_eq (tgt := 50) hx hb dX2_takeDigits_45 (by decide) (fun hc => ?_) (fun hc => ?_)
            · replace hp := fl_t hc hp
              exact KJ50 z11.2.2.2 z11.1 (z11.2.1 * (10 : Int32)) z11.2.2.1 ((z11.2.1 / (1000 : Int32)) - (z11.2.1 / (1000 : Int32)) / (10 : Int32) * (10 : Int32)) H locs hP hD hS ls (lv_sub hl [2, 3, 0, 4, 1] rfl) hp
            · replace hp := fl_f hc hp
              refine lv_iconst (v := (0 : Int32)) hx hb dX2_takeDigits_48 (by decide) ?_
              obtain rfl := Option.some.inj hp
              obtain rfl := fl_cont_inr hy11
              exact hfin H locs _ ls hP hD hS dX2_takeDigits_49 (show narrow .boolean (.int (0 : Int32)) = .int (0 : Int32) from rfl)
  have hp := hp0
  unfold P_Ln_takeDigits at hp
  refine lv_aload_n hx hb dX2_takeDigits_0 rfl (lv_at hl 0 rfl) ?_
  obtain ⟨q1, hq1, hp⟩ := fl_bd_of hp
  refine fl_muV (As := []) (rest := []) [(t0, .inr (2, [.ref t1, .int q1.2])), (t1, .inl (G.2.1, tN, .inl q1.1))] C0 (c_Ln_empty l G tN t0 t1 t hq1) (cwV 0 hts gX2_takeDigits_X2_empty rfl rfl rfl (by decide +kernel) ⟨Nat.le_of_ble_eq_true rfl, Nat.le_of_ble_eq_true rfl⟩) hK hP hD [0, 1] [] [0, 1] rfl rfl (by decide) (by decide) rfl 0 2 rfl rfl rfl hS hA rfl hl.1 rfl (Nat.le_of_ble_eq_true rfl) dX2_takeDigits_1 ⟨Nat.zero_le _, Nat.zero_le _⟩ (fun H locs hP hD hS => ?_)
  refine lv_iconst (v := (0 : Int32)) hx hb dX2_takeDigits_4 (by decide) ?_
  refine lv_istore_n (lv' := [(2, .int (0 : Int32)), (0, .ref t0), (1, .int p0)]) hx hb dX2_takeDigits_5 rfl hl (by decide) rfl (fun ls hl => ?_)
  refine lv_iload_n hx hb dX2_takeDigits_6 rfl (lv_at hl 2 rfl) ?_
  refine lv_istore_n (lv' := [(3, .int p0), (2, .int (0 : Int32)), (0, .ref t0), (1, .int p0)]) hx hb dX2_takeDigits_7 rfl hl (by decide) rfl (fun ls hl => ?_)
  refine lv_iconst (v := (0 : Int32)) hx hb dX2_takeDigits_8 (by decide) ?_
  refine lv_istore (lv' := [(4, .int (0 : Int32)), (3, .int p0), (2, .int (0 : Int32)), (0, .ref t0), (1, .int p0)]) hx hb dX2_takeDigits_9 hl (by decide) rfl (fun ls hl => ?_)
  obtain ⟨n0, hn⟩ := fl_loop_ex hp
  exact KL11 n0 ((0 : Int32), p0, (0 : Int32), q1) H locs hP hD hS ls (lv_sub hl [3, 2, 1, 0] rfl) hn

noncomputable def P_Sg_addVerse_L65 (uN : Nat) (u : fl_Ln) (z65 : (Int32 × fl_Sg)) : Option ((Int32 × fl_Sg) ⊕ fl_Sg) := if u.2 ≤ z65.1 then some (.inr z65.2) else if (nI 48) ≤ z65.2.2.2.1 then some (.inr z65.2) else fl_bd (P_Ln_codeAt uN u z65.1) (fun q1 => fl_ck z65.2.2.2.1 48 (some (.inl ((z65.1 + (1 : Int32)), ((upd z65.2.1 z65.2.2.2.1.toNatClampNeg q1), z65.2.2.1, (z65.2.2.2.1 + (1 : Int32)), z65.2.2.2.2.1, z65.2.2.2.2.2.1, z65.2.2.2.2.2.2.1, z65.2.2.2.2.2.2.2.1, z65.2.2.2.2.2.2.2.2)))))
noncomputable def P_Sg_addVerse (uN : Nat) (sg : fl_Sg) (u : fl_Ln) : Option fl_Sg := if (nI 48) ≤ sg.2.2.2.1 then some sg else if (sg.2.2.1 + u.2) ≤ (nI 48) then fl_ck sg.2.2.2.1 48 (fl_loop (P_Sg_addVerse_L65 uN u) ((0 : Int32), (sg.1, (upd sg.2.1 sg.2.2.2.1.toNatClampNeg u.2), sg.2.2.1, (sg.2.2.2.1 + (1 : Int32)), sg.2.2.2.2.1, sg.2.2.2.2.2.1, sg.2.2.2.2.2.2.1, (sg.2.2.2.2.2.2.2 + (1 : Int32))))) else some sg
set_option maxHeartbeats 4000000 in
set_option maxRecDepth 100000 in
theorem c_Sg_addVerse (l : Launch) (G : fl_G) (uN : Nat) (sg0 sg1 sg2 u0 u1 : Nat) (sg : fl_Sg) (u : fl_Ln) {r : fl_Sg} (hp0 : P_Sg_addVerse uN sg u = some r) : fl_mu l yX4_addVerse wsX4_addVerse 2 42 G [.ref sg0, .ref u0] [(sg0, .inr (4, [.ref sg1, .ref sg2, .int sg.2.2.1, .int sg.2.2.2.1, .int sg.2.2.2.2.1, .int sg.2.2.2.2.2.1, .int sg.2.2.2.2.2.2.1, .int sg.2.2.2.2.2.2.2])), (sg1, .inl (G.2.1, 48, .inl sg.1)), (sg2, .inl (G.2.1, 48, .inl sg.2.1)), (u0, .inr (2, [.ref u1, .int u.2])), (u1, .inl (G.2.1, uN, .inl u.1))] none [(sg0, .inr (4, [.ref sg1, .ref sg2, .int r.2.2.1, .int r.2.2.2.1, .int r.2.2.2.2.1, .int r.2.2.2.2.2.1, .int r.2.2.2.2.2.2.1, .int r.2.2.2.2.2.2.2])), (sg1, .inl (G.2.1, 48, .inl r.1)), (sg2, .inl (G.2.1, 48, .inl r.2.1)), (u0, .inr (2, [.ref u1, .int u.2])), (u1, .inl (G.2.1, uN, .inl u.1))] := by
  refine fl_muv_in cX4_addVerse 3 RX4 (by decide) rfl rfl (Nat.le_of_ble_eq_true rfl) ?_
  intro p e s m args below meth c ls A Q H locs C0 hK hP hD hS hA hl hfin
  obtain ⟨hx, hb, hml, hown, hts⟩ := id C0
  have iX2 : ∀ w ∈ u_ws RX2 TX2 2, w ∈ wsX4_addVerse := fun _ h => List.mem_cons_of_mem _ (List.mem_append_right _ h)
  have iX4 : ∀ w ∈ u_ws RX4 TX4 8, w ∈ wsX4_addVerse := fun _ h => List.mem_cons_of_mem _ (List.mem_append_left _ (List.mem_append_right _ h))
  have hl : lv_has ls 3 [(0, .ref sg0), (1, .ref u0)] := hl
  have KL65 : ∀ (n0 : Nat) (z65 : (Int32 × fl_Sg)) (H : Heap) (locs : List Loc), va_P G.1 vwCl [(sg0, .inr (4, [.ref sg1, .ref sg2, .int z65.2.2.2.1, .int z65.2.2.2.2.1, .int z65.2.2.2.2.2.1, .int z65.2.2.2.2.2.2.1, .int z65.2.2.2.2.2.2.2.1, .int z65.2.2.2.2.2.2.2.2])), (sg1, .inl (G.2.1, 48, .inl z65.2.1)), (sg2, .inl (G.2.1, 48, .inl z65.2.2.1)), (u0, .inr (2, [.ref u1, .int u.2])), (u1, .inl (G.2.1, uN, .inl u.1))] H → va_D A [(sg0, .inr (4, [.ref sg1, .ref sg2, .int z65.2.2.2.1, .int z65.2.2.2.2.1, .int z65.2.2.2.2.2.1, .int z65.2.2.2.2.2.2.1, .int z65.2.2.2.2.2.2.2.1, .int z65.2.2.2.2.2.2.2.2])), (sg1, .inl (G.2.1, 48, .inl z65.2.1)), (sg2, .inl (G.2.1, 48, .inl z65.2.2.1)), (u0, .inr (2, [.ref u1, .int u.2])), (u1, .inl (G.2.1, uN, .inl u.1))] → va_S A s.heap H locs → ∀ (ls : Array Slot), lv_has ls 3 [(0, .ref sg0), (1, .ref u0), (2, .int z65.1)] → fl_loopN (P_Sg_addVerse_L65 uN u) n0 z65 = some r → W p l e (fl_rm 2 42) s m args below meth c H locs 0 0 Q (F0 m 65 ls []) := by
    intro n0
    induction n0 with
    | zero => intro z65 H locs hP hD hS ls hl hn; exact (fl_loopN_0 hn).elim
    | succ n0 ih65 =>
      intro z65 H locs hP hD hS ls hl hn
      obtain ⟨y65, hb65, hy65⟩ := fl_loopN_step hn
      clear hn
      have hp := hb65
      unfold P_Sg_addVerse_L65 at hp
      refine lv_iload_n hx hb dX4_addVerse_65 rfl (lv_at hl 2 rfl) ?_
      refine lv_aload_n hx hb dX4_addVerse_66 rfl (lv_at hl 1 rfl) ?_
      refine va_get (D := G.1) (ci := 2) (v := .int u.2) (C := RX2) (T := TX2) (N := 2) hx hb hts iX2 hown hK.1 hP 3 rfl rfl 1 (by decide) (hts (.fieldLink RX4 75 "SongChoir$Line" "length" "I") (List.mem_of_getElem? (i := 4) rfl)) (fun _ h9 => h9) rfl dX4_addVerse_67 ?_
      refine lv_icmp_ge (tgt := 115) hx hb dX4_addVerse_70 (by decide) (fun hc => ?_) (fun hc => ?_)
      · replace hp := fl_t hc hp
        obtain rfl := Option.some.inj hp
        obtain rfl := fl_cont_inr hy65
        exact hfin H locs _ ls hP hD hS dX4_addVerse_115
      · replace hp := fl_f hc hp
        refine lv_aload_n hx hb dX4_addVerse_73 rfl (lv_at hl 0 rfl) ?_
        refine va_get (D := G.1) (ci := 4) (v := .int z65.2.2.2.1) (C := RX4) (T := TX4) (N := 8) hx hb hts iX4 hown hK.1 hP 0 rfl rfl 2 (by decide) (hts (.fieldLink RX4 18 "SongChoir$Song" "notes" "I") (List.mem_of_getElem? (i := 3) rfl)) (fun _ h9 => h9) rfl dX4_addVerse_74 ?_
        refine lv_aload_n hx hb dX4_addVerse_77 rfl (lv_at hl 0 rfl) ?_
        refine va_get (D := G.1) (ci := 4) (v := .ref sg1) (C := RX4) (T := TX4) (N := 8) hx hb hts iX4 hown hK.1 hP 0 rfl rfl 0 (by decide) (hts (.fieldLink RX4 9 "SongChoir$Song" "codes" "[I") (List.mem_of_getElem? (i := 5) rfl)) (fun _ h9 => h9) rfl dX4_addVerse_78 ?_
        refine va_alen (v := (nI 48)) hx hb hK.1 hP 1 0 rfl rfl rfl dX4_addVerse_81 ?_
        refine lv_icmp_ge (tgt := 115) hx hb dX4_addVerse_82 (by decide) (fun hc => ?_) (fun hc => ?_)
        · replace hp := fl_t hc hp
          obtain rfl := Option.some.inj hp
          obtain rfl := fl_cont_inr hy65
          exact hfin H locs _ ls hP hD hS dX4_addVerse_115
        · replace hp := fl_f hc hp
          refine lv_aload_n hx hb dX4_addVerse_85 rfl (lv_at hl 0 rfl) ?_
          refine va_get (D := G.1) (ci := 4) (v := .ref sg1) (C := RX4) (T := TX4) (N := 8) hx hb hts iX4 hown hK.1 hP 0 rfl rfl 0 (by decide) (hts (.fieldLink RX4 9 "SongChoir$Song" "codes" "[I") (List.mem_of_getElem? (i := 5) rfl)) (fun _ h9 => h9) rfl dX4_addVerse_86 ?_
          refine lv_aload_n hx hb dX4_addVerse_89 rfl (lv_at hl 0 rfl) ?_
          refine va_get (D := G.1) (ci := 4) (v := .int z65.2.2.2.1) (C := RX4) (T := TX4) (N := 8) hx hb hts iX4 hown hK.1 hP 0 rfl rfl 2 (by decide) (hts (.fieldLink RX4 18 "SongChoir$Song" "notes" "I") (List.mem_of_getElem? (i := 3) rfl)) (fun _ h9 => h9) rfl dX4_addVerse_90 ?_
          refine lv_aload_n hx hb dX4_addVerse_93 rfl (lv_at hl 1 rfl) ?_
          refine lv_iload_n hx hb dX4_addVerse_94 rfl (lv_at hl 2 rfl) ?_
          obtain ⟨q1, hq1, hp⟩ := fl_bd_of hp
          refine fl_roV (As := [.int z65.1]) (rest := [.int z65.2.2.2.1, .ref sg1]) C0 (c_Ln_codeAt l G uN u0 u1 u z65.1 hq1) (cwV 1 hts gX4_addVerse_X2_codeAt rfl rfl rfl (by decide +kernel) ⟨Nat.le_of_ble_eq_true rfl, Nat.le_of_ble_eq_true rfl⟩) hK hP [3, 4] rfl 3 2 rfl rfl rfl hS hA rfl hl.1 rfl (Nat.le_of_ble_eq_true rfl) dX4_addVerse_95 ⟨Nat.zero_le _, Nat.zero_le _⟩ (fun H locs hP hS => ?_)
          obtain ⟨hi, hp⟩ := fl_ck_of hp
          refine va_iast hx hb hK.1 hP hD hS 1 0 rfl rfl hi dX4_addVerse_98 (fun H locs hP hD hS => ?_)
          have hP : va_P G.1 vwCl [(sg0, .inr (4, [.ref sg1, .ref sg2, .int z65.2.2.2.1, .int z65.2.2.2.2.1, .int z65.2.2.2.2.2.1, .int z65.2.2.2.2.2.2.1, .int z65.2.2.2.2.2.2.2.1, .int z65.2.2.2.2.2.2.2.2])), (sg1, .inl (G.2.1, 48, .inl (upd z65.2.1 z65.2.2.2.1.toNatClampNeg q1))), (sg2, .inl (G.2.1, 48, .inl z65.2.2.1)), (u0, .inr (2, [.ref u1, .int u.2])), (u1, .inl (G.2.1, uN, .inl u.1))] H := hP
          have hD : va_D A [(sg0, .inr (4, [.ref sg1, .ref sg2, .int z65.2.2.2.1, .int z65.2.2.2.2.1, .int z65.2.2.2.2.2.1, .int z65.2.2.2.2.2.2.1, .int z65.2.2.2.2.2.2.2.1, .int z65.2.2.2.2.2.2.2.2])), (sg1, .inl (G.2.1, 48, .inl (upd z65.2.1 z65.2.2.2.1.toNatClampNeg q1))), (sg2, .inl (G.2.1, 48, .inl z65.2.2.1)), (u0, .inr (2, [.ref u1, .int u.2])), (u1, .inl (G.2.1, uN, .inl u.1))] := hD
          refine lv_aload_n hx hb dX4_addVerse_99 rfl (lv_at hl 0 rfl) ?_
          refine lv_dup hx hb dX4_addVerse_100 rfl ?_
          refine va_get (D := G.1) (ci := 4) (v := .int z65.2.2.2.1) (C := RX4) (T := TX4) (N := 8) hx hb hts iX4 hown hK.1 hP 0 rfl rfl 2 (by decide) (hts (.fieldLink RX4 18 "SongChoir$Song" "notes" "I") (List.mem_of_getElem? (i := 3) rfl)) (fun _ h9 => h9) rfl dX4_addVerse_101 ?_
          refine lv_iconst (v := (1 : Int32)) hx hb dX4_addVerse_104 (by decide) ?_
          refine lv_iadd hx hb dX4_addVerse_105 ?_
          refine va_put (D := G.1) (ci := 4) (v := .int (z65.2.2.2.1 + (1 : Int32))) (ty := .int) (C := RX4) (T := TX4) (N := 8) hx hb hts iX4 tyX4 tyX4_ok nmX4 hown hK.1 hP hD hS 0 rfl rfl 2 (by decide) (hts (.fieldLink RX4 18 "SongChoir$Song" "notes" "I") (List.mem_of_getElem? (i := 3) rfl)) (fun _ h9 => h9) rfl (by decide +kernel) rfl rfl (Nat.le_of_ble_eq_true rfl) dX4_addVerse_106 (fun H locs hP hD hS => ?_)
          have hP : va_P G.1 vwCl [(sg0, .inr (4, [.ref sg1, .ref sg2, .int (z65.2.2.2.1 + (1 : Int32)), .int z65.2.2.2.2.1, .int z65.2.2.2.2.2.1, .int z65.2.2.2.2.2.2.1, .int z65.2.2.2.2.2.2.2.1, .int z65.2.2.2.2.2.2.2.2])), (sg1, .inl (G.2.1, 48, .inl (upd z65.2.1 z65.2.2.2.1.toNatClampNeg q1))), (sg2, .inl (G.2.1, 48, .inl z65.2.2.1)), (u0, .inr (2, [.ref u1, .int u.2])), (u1, .inl (G.2.1, uN, .inl u.1))] H := hP
          have hD : va_D A [(sg0, .inr (4, [.ref sg1, .ref sg2, .int (z65.2.2.2.1 + (1 : Int32)), .int z65.2.2.2.2.1, .int z65.2.2.2.2.2.1, .int z65.2.2.2.2.2.2.1, .int z65.2.2.2.2.2.2.2.1, .int z65.2.2.2.2.2.2.2.2])), (sg1, .inl (G.2.1, 48, .inl (upd z65.2.1 z65.2.2.2.1.toNatClampNeg q1))), (sg2, .inl (G.2.1, 48, .inl z65.2.2.1)), (u0, .inr (2, [.ref u1, .int u.2])), (u1, .inl (G.2.1, uN, .inl u.1))] := hD
          refine lv_iinc (v := (z65.1 + (1 : Int32))) (lv' := [(2, .int (z65.1 + (1 : Int32))), (0, .ref sg0), (1, .ref u0)]) hx hb dX4_addVerse_109 hl (k := 2) rfl rfl (by decide) rfl (fun ls hl => ?_)
          refine lv_goto (tgt := 65) hx hb dX4_addVerse_112 (by decide) ?_
          obtain rfl := Option.some.inj hp
          exact ih65 ((z65.1 + (1 : Int32)), ((upd z65.2.1 z65.2.2.2.1.toNatClampNeg q1), z65.2.2.1, (z65.2.2.2.1 + (1 : Int32)), z65.2.2.2.2.1, z65.2.2.2.2.2.1, z65.2.2.2.2.2.2.1, z65.2.2.2.2.2.2.2.1, z65.2.2.2.2.2.2.2.2)) H locs hP hD hS ls (lv_sub hl [1, 2, 0] rfl) (fl_cont_inl hy65)
  have hp := hp0
  unfold P_Sg_addVerse at hp
  refine lv_aload_n hx hb dX4_addVerse_0 rfl (lv_at hl 0 rfl) ?_
  refine va_get (D := G.1) (ci := 4) (v := .int sg.2.2.2.1) (C := RX4) (T := TX4) (N := 8) hx hb hts iX4 hown hK.1 hP 0 rfl rfl 3 (by decide) (hts (.fieldLink RX4 22 "SongChoir$Song" "verses" "I") (List.mem_of_getElem? (i := 1) rfl)) (fun _ h9 => h9) rfl dX4_addVerse_1 ?_
  refine lv_aload_n hx hb dX4_addVerse_4 rfl (lv_at hl 0 rfl) ?_
  refine va_get (D := G.1) (ci := 4) (v := .ref sg2) (C := RX4) (T := TX4) (N := 8) hx hb hts iX4 hown hK.1 hP 0 rfl rfl 1 (by decide) (hts (.fieldLink RX4 15 "SongChoir$Song" "lengths" "[I") (List.mem_of_getElem? (i := 2) rfl)) (fun _ h9 => h9) rfl dX4_addVerse_5 ?_
  refine va_alen (v := (nI 48)) hx hb hK.1 hP 2 0 rfl rfl rfl dX4_addVerse_8 ?_
  refine lv_icmp_ge (tgt := 29) hx hb dX4_addVerse_9 (by decide) (fun hc => ?_) (fun hc => ?_)
  · replace hp := fl_t hc hp
    obtain rfl := Option.some.inj hp
    exact hfin H locs _ ls hP hD hS dX4_addVerse_29
  · replace hp := fl_f hc hp
    refine lv_aload_n hx hb dX4_addVerse_12 rfl (lv_at hl 0 rfl) ?_
    refine va_get (D := G.1) (ci := 4) (v := .int sg.2.2.1) (C := RX4) (T := TX4) (N := 8) hx hb hts iX4 hown hK.1 hP 0 rfl rfl 2 (by decide) (hts (.fieldLink RX4 18 "SongChoir$Song" "notes" "I") (List.mem_of_getElem? (i := 3) rfl)) (fun _ h9 => h9) rfl dX4_addVerse_13 ?_
    refine lv_aload_n hx hb dX4_addVerse_16 rfl (lv_at hl 1 rfl) ?_
    refine va_get (D := G.1) (ci := 2) (v := .int u.2) (C := RX2) (T := TX2) (N := 2) hx hb hts iX2 hown hK.1 hP 3 rfl rfl 1 (by decide) (hts (.fieldLink RX4 75 "SongChoir$Line" "length" "I") (List.mem_of_getElem? (i := 4) rfl)) (fun _ h9 => h9) rfl dX4_addVerse_17 ?_
    refine lv_iadd hx hb dX4_addVerse_20 ?_
    refine lv_aload_n hx hb dX4_addVerse_21 rfl (lv_at hl 0 rfl) ?_
    refine va_get (D := G.1) (ci := 4) (v := .ref sg1) (C := RX4) (T := TX4) (N := 8) hx hb hts iX4 hown hK.1 hP 0 rfl rfl 0 (by decide) (hts (.fieldLink RX4 9 "SongChoir$Song" "codes" "[I") (List.mem_of_getElem? (i := 5) rfl)) (fun _ h9 => h9) rfl dX4_addVerse_22 ?_
    refine va_alen (v := (nI 48)) hx hb hK.1 hP 1 0 rfl rfl rfl dX4_addVerse_25 ?_
    refine lv_icmp_le (tgt := 30) hx hb dX4_addVerse_26 (by decide) (fun hc => ?_) (fun hc => ?_)
    · replace hp := fl_t hc hp
      refine lv_aload_n hx hb dX4_addVerse_30 rfl (lv_at hl 0 rfl) ?_
      refine va_get (D := G.1) (ci := 4) (v := .ref sg2) (C := RX4) (T := TX4) (N := 8) hx hb hts iX4 hown hK.1 hP 0 rfl rfl 1 (by decide) (hts (.fieldLink RX4 15 "SongChoir$Song" "lengths" "[I") (List.mem_of_getElem? (i := 2) rfl)) (fun _ h9 => h9) rfl dX4_addVerse_31 ?_
      refine lv_aload_n hx hb dX4_addVerse_34 rfl (lv_at hl 0 rfl) ?_
      refine va_get (D := G.1) (ci := 4) (v := .int sg.2.2.2.1) (C := RX4) (T := TX4) (N := 8) hx hb hts iX4 hown hK.1 hP 0 rfl rfl 3 (by decide) (hts (.fieldLink RX4 22 "SongChoir$Song" "verses" "I") (List.mem_of_getElem? (i := 1) rfl)) (fun _ h9 => h9) rfl dX4_addVerse_35 ?_
      refine lv_aload_n hx hb dX4_addVerse_38 rfl (lv_at hl 1 rfl) ?_
      refine va_get (D := G.1) (ci := 2) (v := .int u.2) (C := RX2) (T := TX2) (N := 2) hx hb hts iX2 hown hK.1 hP 3 rfl rfl 1 (by decide) (hts (.fieldLink RX4 75 "SongChoir$Line" "length" "I") (List.mem_of_getElem? (i := 4) rfl)) (fun _ h9 => h9) rfl dX4_addVerse_39 ?_
      obtain ⟨hi, hp⟩ := fl_ck_of hp
      refine va_iast hx hb hK.1 hP hD hS 2 0 rfl rfl hi dX4_addVerse_42 (fun H locs hP hD hS => ?_)
      have hP : va_P G.1 vwCl [(sg0, .inr (4, [.ref sg1, .ref sg2, .int sg.2.2.1, .int sg.2.2.2.1, .int sg.2.2.2.2.1, .int sg.2.2.2.2.2.1, .int sg.2.2.2.2.2.2.1, .int sg.2.2.2.2.2.2.2])), (sg1, .inl (G.2.1, 48, .inl sg.1)), (sg2, .inl (G.2.1, 48, .inl (upd sg.2.1 sg.2.2.2.1.toNatClampNeg u.2))), (u0, .inr (2, [.ref u1, .int u.2])), (u1, .inl (G.2.1, uN, .inl u.1))] H := hP
      have hD : va_D A [(sg0, .inr (4, [.ref sg1, .ref sg2, .int sg.2.2.1, .int sg.2.2.2.1, .int sg.2.2.2.2.1, .int sg.2.2.2.2.2.1, .int sg.2.2.2.2.2.2.1, .int sg.2.2.2.2.2.2.2])), (sg1, .inl (G.2.1, 48, .inl sg.1)), (sg2, .inl (G.2.1, 48, .inl (upd sg.2.1 sg.2.2.2.1.toNatClampNeg u.2))), (u0, .inr (2, [.ref u1, .int u.2])), (u1, .inl (G.2.1, uN, .inl u.1))] := hD
      refine lv_aload_n hx hb dX4_addVerse_43 rfl (lv_at hl 0 rfl) ?_
      refine lv_dup hx hb dX4_addVerse_44 rfl ?_
      refine va_get (D := G.1) (ci := 4) (v := .int sg.2.2.2.1) (C := RX4) (T := TX4) (N := 8) hx hb hts iX4 hown hK.1 hP 0 rfl rfl 3 (by decide) (hts (.fieldLink RX4 22 "SongChoir$Song" "verses" "I") (List.mem_of_getElem? (i := 1) rfl)) (fun _ h9 => h9) rfl dX4_addVerse_45 ?_
      refine lv_iconst (v := (1 : Int32)) hx hb dX4_addVerse_48 (by decide) ?_
      refine lv_iadd hx hb dX4_addVerse_49 ?_
      refine va_put (D := G.1) (ci := 4) (v := .int (sg.2.2.2.1 + (1 : Int32))) (ty := .int) (C := RX4) (T := TX4) (N := 8) hx hb hts iX4 tyX4 tyX4_ok nmX4 hown hK.1 hP hD hS 0 rfl rfl 3 (by decide) (hts (.fieldLink RX4 22 "SongChoir$Song" "verses" "I") (List.mem_of_getElem? (i := 1) rfl)) (fun _ h9 => h9) rfl (by decide +kernel) rfl rfl (Nat.le_of_ble_eq_true rfl) dX4_addVerse_50 (fun H locs hP hD hS => ?_)
      have hP : va_P G.1 vwCl [(sg0, .inr (4, [.ref sg1, .ref sg2, .int sg.2.2.1, .int (sg.2.2.2.1 + (1 : Int32)), .int sg.2.2.2.2.1, .int sg.2.2.2.2.2.1, .int sg.2.2.2.2.2.2.1, .int sg.2.2.2.2.2.2.2])), (sg1, .inl (G.2.1, 48, .inl sg.1)), (sg2, .inl (G.2.1, 48, .inl (upd sg.2.1 sg.2.2.2.1.toNatClampNeg u.2))), (u0, .inr (2, [.ref u1, .int u.2])), (u1, .inl (G.2.1, uN, .inl u.1))] H := hP
      have hD : va_D A [(sg0, .inr (4, [.ref sg1, .ref sg2, .int sg.2.2.1, .int (sg.2.2.2.1 + (1 : Int32)), .int sg.2.2.2.2.1, .int sg.2.2.2.2.2.1, .int sg.2.2.2.2.2.2.1, .int sg.2.2.2.2.2.2.2])), (sg1, .inl (G.2.1, 48, .inl sg.1)), (sg2, .inl (G.2.1, 48, .inl (upd sg.2.1 sg.2.2.2.1.toNatClampNeg u.2))), (u0, .inr (2, [.ref u1, .int u.2])), (u1, .inl (G.2.1, uN, .inl u.1))] := hD
      refine lv_aload_n hx hb dX4_addVerse_53 rfl (lv_at hl 0 rfl) ?_
      refine lv_dup hx hb dX4_addVerse_54 rfl ?_
      refine va_get (D := G.1) (ci := 4) (v := .int sg.2.2.2.2.2.2.2) (C := RX4) (T := TX4) (N := 8) hx hb hts iX4 hown hK.1 hP 0 rfl rfl 7 (by decide) (hts (.fieldLink RX4 34 "SongChoir$Song" "sung" "I") (List.mem_of_getElem? (i := 6) rfl)) (fun _ h9 => h9) rfl dX4_addVerse_55 ?_
      refine lv_iconst (v := (1 : Int32)) hx hb dX4_addVerse_58 (by decide) ?_
      refine lv_iadd hx hb dX4_addVerse_59 ?_
      refine va_put (D := G.1) (ci := 4) (v := .int (sg.2.2.2.2.2.2.2 + (1 : Int32))) (ty := .int) (C := RX4) (T := TX4) (N := 8) hx hb hts iX4 tyX4 tyX4_ok nmX4 hown hK.1 hP hD hS 0 rfl rfl 7 (by decide) (hts (.fieldLink RX4 34 "SongChoir$Song" "sung" "I") (List.mem_of_getElem? (i := 6) rfl)) (fun _ h9 => h9) rfl (by decide +kernel) rfl rfl (Nat.le_of_ble_eq_true rfl) dX4_addVerse_60 (fun H locs hP hD hS => ?_)
      have hP : va_P G.1 vwCl [(sg0, .inr (4, [.ref sg1, .ref sg2, .int sg.2.2.1, .int (sg.2.2.2.1 + (1 : Int32)), .int sg.2.2.2.2.1, .int sg.2.2.2.2.2.1, .int sg.2.2.2.2.2.2.1, .int (sg.2.2.2.2.2.2.2 + (1 : Int32))])), (sg1, .inl (G.2.1, 48, .inl sg.1)), (sg2, .inl (G.2.1, 48, .inl (upd sg.2.1 sg.2.2.2.1.toNatClampNeg u.2))), (u0, .inr (2, [.ref u1, .int u.2])), (u1, .inl (G.2.1, uN, .inl u.1))] H := hP
      have hD : va_D A [(sg0, .inr (4, [.ref sg1, .ref sg2, .int sg.2.2.1, .int (sg.2.2.2.1 + (1 : Int32)), .int sg.2.2.2.2.1, .int sg.2.2.2.2.2.1, .int sg.2.2.2.2.2.2.1, .int (sg.2.2.2.2.2.2.2 + (1 : Int32))])), (sg1, .inl (G.2.1, 48, .inl sg.1)), (sg2, .inl (G.2.1, 48, .inl (upd sg.2.1 sg.2.2.2.1.toNatClampNeg u.2))), (u0, .inr (2, [.ref u1, .int u.2])), (u1, .inl (G.2.1, uN, .inl u.1))] := hD
      refine lv_iconst (v := (0 : Int32)) hx hb dX4_addVerse_63 (by decide) ?_
      refine lv_istore_n (lv' := [(2, .int (0 : Int32)), (0, .ref sg0), (1, .ref u0)]) hx hb dX4_addVerse_64 rfl hl (by decide) rfl (fun ls hl => ?_)
      obtain ⟨n0, hn⟩ := fl_loop_ex hp
      exact KL65 n0 ((0 : Int32), (sg.1, (upd sg.2.1 sg.2.2.2.1.toNatClampNeg u.2), sg.2.2.1, (sg.2.2.2.1 + (1 : Int32)), sg.2.2.2.2.1, sg.2.2.2.2.2.1, sg.2.2.2.2.2.2.1, (sg.2.2.2.2.2.2.2 + (1 : Int32)))) H locs hP hD hS ls (lv_sub hl [1, 2, 0] rfl) hn
    · replace hp := fl_f hc hp
      obtain rfl := Option.some.inj hp
      exact hfin H locs _ ls hP hD hS dX4_addVerse_29
