noncomputable def P_M_append_J31 (rf : Int32) (sc : fl_A) (ss : Int32) (p0 : Int32) (k0 : Int32) : Option (Int32 × Int32 × fl_A × Int32) := fl_bd (P_M_refused rf k0) (fun q1 => if q1.1 = 0 then fl_ck ss 40 (some ((ss + (1 : Int32)), q1.2, (upd sc ss.toNatClampNeg p0), (ss + (1 : Int32)))) else some ((0 : Int32), q1.2, sc, ss))
noncomputable def P_M_append (rf : Int32) (sc : fl_A) (ss : Int32) (p0 : Int32) : Option (Int32 × Int32 × fl_A × Int32) := fl_bd (P_M_in p0.toInt64 (0 : Int64) (255 : Int64)) (fun q1 => if q1 = 0 then P_M_append_J31 rf sc ss p0 (1 : Int32) else if ss = (40 : Int32) then P_M_append_J31 rf sc ss p0 (2 : Int32) else P_M_append_J31 rf sc ss p0 (0 : Int32))
set_option maxHeartbeats 4000000 in
set_option maxRecDepth 100000 in
theorem c_M_append (l : Launch) (G : fl_G) (mo a_sc a_nw a_tr a_di a_ke a_ik a_od a_rk a_be a_fr : Nat) (ac : Int32) (fs : Int32) (rf : Int32) (sc : fl_A) (ss : Int32) (p0 : Int32) {r : (Int32 × Int32 × fl_A × Int32)} (hp0 : P_M_append rf sc ss p0 = some r) : fl_mu l yX6_append wsX6_append 1 25 G [.ref mo, .int p0] [(mo, .inr (6, [.int rf, .ref a_sc, .int ss, .ref a_nw, .ref a_tr, .ref a_di, .int ac, .ref a_ke, .ref a_ik, .ref a_od, .ref a_rk, .ref a_be, .ref a_fr, .int fs])), (a_sc, .inl (G.2.1, 40, .inl sc))] (some (.int r.1)) [(mo, .inr (6, [.int r.2.1, .ref a_sc, .int r.2.2.2, .ref a_nw, .ref a_tr, .ref a_di, .int ac, .ref a_ke, .ref a_ik, .ref a_od, .ref a_rk, .ref a_be, .ref a_fr, .int fs])), (a_sc, .inl (G.2.1, 40, .inl r.2.2.1))] := by
  refine fl_mui_in cX6_append 2 .int RX6 (by decide) rfl rfl (Nat.le_of_ble_eq_true rfl) ?_
  intro p e s m args below meth c ls A Q H locs C0 hK hP hD hS hA hl hfin
  obtain ⟨hx, hb, hml, hown, hts⟩ := id C0
  have iX6 : ∀ w ∈ u_ws RX6 TX6 14, w ∈ wsX6_append := fun _ h => List.mem_cons_of_mem _ (List.mem_append_right _ h)
  have hl : lv_has ls 2 [(0, .ref mo), (1, .int p0)] := hl
  have KJ31 : ∀ (rf : Int32) (sc : fl_A) (ss : Int32) (k0 : Int32) (H : Heap) (locs : List Loc), va_P G.1 vwCl [(mo, .inr (6, [.int rf, .ref a_sc, .int ss, .ref a_nw, .ref a_tr, .ref a_di, .int ac, .ref a_ke, .ref a_ik, .ref a_od, .ref a_rk, .ref a_be, .ref a_fr, .int fs])), (a_sc, .inl (G.2.1, 40, .inl sc))] H → va_D A [(mo, .inr (6, [.int rf, .ref a_sc, .int ss, .ref a_nw, .ref a_tr, .ref a_di, .int ac, .ref a_ke, .ref a_ik, .ref a_od, .ref a_rk, .ref a_be, .ref a_fr, .int fs])), (a_sc, .inl (G.2.1, 40, .inl sc))] → va_S A s.heap H locs → ∀ (ls : Array Slot), lv_has ls 2 [(0, .ref mo), (1, .int p0)] → P_M_append_J31 rf sc ss p0 k0 = some r → W p l e (fl_rm 1 25) s m args below meth c H locs 0 0 Q (F0 m 31 ls [.int k0, .ref mo]) := by
    intro rf sc ss k0 H locs hP hD hS ls hl hp
    unfold P_M_append_J31 at hp
    obtain ⟨q1, hq1, hp⟩ := fl_bd_of hp
    refine fl_muV (As := [.int k0]) (rest := []) [(mo, .inr (6, [.int q1.2, .ref a_sc, .int ss, .ref a_nw, .ref a_tr, .ref a_di, .int ac, .ref a_ke, .ref a_ik, .ref a_od, .ref a_rk, .ref a_be, .ref a_fr, .int fs])), (a_sc, .inl (G.2.1, 40, .inl sc))] C0 (c_M_refused l G mo a_sc a_nw a_tr a_di a_ke a_ik a_od a_rk a_be a_fr ss ac fs rf k0 hq1) (cwV 1 hts gX6_append_X6_refused rfl rfl rfl (by decide +kernel) ⟨Nat.le_of_ble_eq_true rfl, Nat.le_of_ble_eq_true rfl⟩) hK hP hD [0] [1] [1, 0] rfl rfl (by decide) (by decide) rfl 0 6 rfl rfl rfl hS hA rfl hl.1 rfl (Nat.le_of_ble_eq_true rfl) dX6_append_31 ⟨Nat.zero_le _, Nat.zero_le _⟩ (fun H locs hP hD hS => ?_)
    refine lv_if_eq (tgt := 39) hx hb dX6_append_34 (by decide) (fun hc => ?_) (fun hc => ?_)
    · replace hp := fl_t hc hp
      refine lv_aload_n hx hb dX6_append_39 rfl (lv_at hl 0 rfl) ?_
      refine va_get (D := G.1) (ci := 6) (v := .ref a_sc) (C := RX6) (T := TX6) (N := 14) hx hb hts iX6 hown hK.1 hP 0 rfl rfl 1 (by decide) (hts (.fieldLink RX6 7 "SongChoirModel" "script" "[I") (List.mem_of_getElem? (i := 3) rfl)) (fun _ h9 => h9) rfl dX6_append_40 ?_
      refine lv_aload_n hx hb dX6_append_43 rfl (lv_at hl 0 rfl) ?_
      refine va_get (D := G.1) (ci := 6) (v := .int ss) (C := RX6) (T := TX6) (N := 14) hx hb hts iX6 hown hK.1 hP 0 rfl rfl 2 (by decide) (hts (.fieldLink RX6 107 "SongChoirModel" "scriptSize" "I") (List.mem_of_getElem? (i := 2) rfl)) (fun _ h9 => h9) rfl dX6_append_44 ?_
      refine lv_iload_n hx hb dX6_append_47 rfl (lv_at hl 1 rfl) ?_
      obtain ⟨hi, hp⟩ := fl_ck_of hp
      refine va_iast hx hb hK.1 hP hD hS 1 0 rfl rfl hi dX6_append_48 (fun H locs hP hD hS => ?_)
      have hP : va_P G.1 vwCl [(mo, .inr (6, [.int q1.2, .ref a_sc, .int ss, .ref a_nw, .ref a_tr, .ref a_di, .int ac, .ref a_ke, .ref a_ik, .ref a_od, .ref a_rk, .ref a_be, .ref a_fr, .int fs])), (a_sc, .inl (G.2.1, 40, .inl (upd sc ss.toNatClampNeg p0)))] H := hP
      have hD : va_D A [(mo, .inr (6, [.int q1.2, .ref a_sc, .int ss, .ref a_nw, .ref a_tr, .ref a_di, .int ac, .ref a_ke, .ref a_ik, .ref a_od, .ref a_rk, .ref a_be, .ref a_fr, .int fs])), (a_sc, .inl (G.2.1, 40, .inl (upd sc ss.toNatClampNeg p0)))] := hD
      refine lv_aload_n hx hb dX6_append_49 rfl (lv_at hl 0 rfl) ?_
      refine lv_dup hx hb dX6_append_50 rfl ?_
      refine va_get (D := G.1) (ci := 6) (v := .int ss) (C := RX6) (T := TX6) (N := 14) hx hb hts iX6 hown hK.1 hP 0 rfl rfl 2 (by decide) (hts (.fieldLink RX6 107 "SongChoirModel" "scriptSize" "I") (List.mem_of_getElem? (i := 2) rfl)) (fun _ h9 => h9) rfl dX6_append_51 ?_
      refine lv_iconst (v := (1 : Int32)) hx hb dX6_append_54 (by decide) ?_
      refine lv_iadd hx hb dX6_append_55 ?_
      refine va_put (D := G.1) (ci := 6) (v := .int (ss + (1 : Int32))) (ty := .int) (C := RX6) (T := TX6) (N := 14) hx hb hts iX6 tyX6 tyX6_ok nmX6 hown hK.1 hP hD hS 0 rfl rfl 2 (by decide) (hts (.fieldLink RX6 107 "SongChoirModel" "scriptSize" "I") (List.mem_of_getElem? (i := 2) rfl)) (fun _ h9 => h9) rfl (by decide +kernel) rfl rfl (Nat.le_of_ble_eq_true rfl) dX6_append_56 (fun H locs hP hD hS => ?_)
      have hP : va_P G.1 vwCl [(mo, .inr (6, [.int q1.2, .ref a_sc, .int (ss + (1 : Int32)), .ref a_nw, .ref a_tr, .ref a_di, .int ac, .ref a_ke, .ref a_ik, .ref a_od, .ref a_rk, .ref a_be, .ref a_fr, .int fs])), (a_sc, .inl (G.2.1, 40, .inl (upd sc ss.toNatClampNeg p0)))] H := hP
      have hD : va_D A [(mo, .inr (6, [.int q1.2, .ref a_sc, .int (ss + (1 : Int32)), .ref a_nw, .ref a_tr, .ref a_di, .int ac, .ref a_ke, .ref a_ik, .ref a_od, .ref a_rk, .ref a_be, .ref a_fr, .int fs])), (a_sc, .inl (G.2.1, 40, .inl (upd sc ss.toNatClampNeg p0)))] := hD
      refine lv_aload_n hx hb dX6_append_59 rfl (lv_at hl 0 rfl) ?_
      refine va_get (D := G.1) (ci := 6) (v := .int (ss + (1 : Int32))) (C := RX6) (T := TX6) (N := 14) hx hb hts iX6 hown hK.1 hP 0 rfl rfl 2 (by decide) (hts (.fieldLink RX6 107 "SongChoirModel" "scriptSize" "I") (List.mem_of_getElem? (i := 2) rfl)) (fun _ h9 => h9) rfl dX6_append_60 ?_
      obtain rfl := Option.some.inj hp
      exact hfin H locs _ ls hP hD hS dX6_append_63 rfl
    · replace hp := fl_f hc hp
      refine lv_iconst (v := (0 : Int32)) hx hb dX6_append_37 (by decide) ?_
      obtain rfl := Option.some.inj hp
      exact hfin H locs _ ls hP hD hS dX6_append_38 rfl
  have hp := hp0
  unfold P_M_append at hp
  refine lv_aload_n hx hb dX6_append_0 rfl (lv_at hl 0 rfl) ?_
  refine lv_iload_n hx hb dX6_append_1 rfl (lv_at hl 1 rfl) ?_
  refine lv_i2l (v := p0.toInt64) hx hb dX6_append_2 rfl ?_
  refine lv_lconst (v := (0 : Int64)) hx hb dX6_append_3 (by decide) ?_
  refine lv_ldc2 (v := (255 : Int64)) hx hb hown (hts (.constantLong RX6 101 (255)) (List.mem_of_getElem? (i := 1) rfl)) dX6_append_4 ?_
  obtain ⟨q1, hq1, hp⟩ := fl_bd_of hp
  refine fl_roS (As := [.long p0.toInt64, .long (0 : Int64), .long (255 : Int64)]) (rest := [.ref mo]) C0 (c_M_in l G p0.toInt64 (0 : Int64) (255 : Int64) hq1) (va_cwS 3 hts gX6_append_X6_in rfl rfl rfl (by decide +kernel) ⟨Nat.le_of_ble_eq_true rfl, Nat.le_of_ble_eq_true rfl⟩) hK hP [] rfl hS hA rfl hl.1 rfl (Nat.le_of_ble_eq_true rfl) dX6_append_7 ⟨Nat.zero_le _, Nat.zero_le _⟩ (fun H locs hP hS => ?_)
  refine lv_if_ne (tgt := 17) hx hb dX6_append_10 (by decide) (fun hc => ?_) (fun hc => ?_)
  · replace hp := fl_f hc hp
    refine lv_aload_n hx hb dX6_append_17 rfl (lv_at hl 0 rfl) ?_
    refine va_get (D := G.1) (ci := 6) (v := .int ss) (C := RX6) (T := TX6) (N := 14) hx hb hts iX6 hown hK.1 hP 0 rfl rfl 2 (by decide) (hts (.fieldLink RX6 107 "SongChoirModel" "scriptSize" "I") (List.mem_of_getElem? (i := 2) rfl)) (fun _ h9 => h9) rfl dX6_append_18 ?_
    refine lv_bipush (v := (40 : Int32)) hx hb dX6_append_21 (by decide) ?_
    refine lv_icmp_ne (tgt := 30) hx hb dX6_append_23 (by decide) (fun hc => ?_) (fun hc => ?_)
    · replace hp := fl_f hc hp
      refine lv_iconst (v := (0 : Int32)) hx hb dX6_append_30 (by decide) ?_
      exact KJ31 rf sc ss (0 : Int32) H locs hP hD hS ls (lv_sub hl [0, 1] rfl) hp
    · replace hp := fl_t hc hp
      refine lv_iconst (v := (2 : Int32)) hx hb dX6_append_26 (by decide) ?_
      refine lv_goto (tgt := 31) hx hb dX6_append_27 (by decide) ?_
      exact KJ31 rf sc ss (2 : Int32) H locs hP hD hS ls (lv_sub hl [0, 1] rfl) hp
  · replace hp := fl_t hc hp
    refine lv_iconst (v := (1 : Int32)) hx hb dX6_append_13 (by decide) ?_
    refine lv_goto (tgt := 31) hx hb dX6_append_14 (by decide) ?_
    exact KJ31 rf sc ss (1 : Int32) H locs hP hD hS ls (lv_sub hl [0, 1] rfl) hp

noncomputable def P_M_clearText (rf : Int32) (ss : Int32) : Option (Int32 × Int32 × Int32) := some (ss, (0 : Int32), (0 : Int32))
set_option maxHeartbeats 4000000 in
set_option maxRecDepth 100000 in
theorem c_M_clearText (l : Launch) (G : fl_G) (mo a_sc a_nw a_tr a_di a_ke a_ik a_od a_rk a_be a_fr : Nat) (ac : Int32) (fs : Int32) (rf : Int32) (ss : Int32) {r : (Int32 × Int32 × Int32)} (hp0 : P_M_clearText rf ss = some r) : fl_mu l yX6_clearText wsX6_clearText 0 0 G [.ref mo] [(mo, .inr (6, [.int rf, .ref a_sc, .int ss, .ref a_nw, .ref a_tr, .ref a_di, .int ac, .ref a_ke, .ref a_ik, .ref a_od, .ref a_rk, .ref a_be, .ref a_fr, .int fs]))] (some (.int r.1)) [(mo, .inr (6, [.int r.2.1, .ref a_sc, .int r.2.2, .ref a_nw, .ref a_tr, .ref a_di, .int ac, .ref a_ke, .ref a_ik, .ref a_od, .ref a_rk, .ref a_be, .ref a_fr, .int fs]))] := by
  refine fl_mui_in cX6_clearText 2 .int RX6 (by decide) rfl rfl (Nat.le_of_ble_eq_true rfl) ?_
  intro p e s m args below meth c ls A Q H locs C0 hK hP hD hS hA hl hfin
  obtain ⟨hx, hb, hml, hown, hts⟩ := id C0
  have iX6 : ∀ w ∈ u_ws RX6 TX6 14, w ∈ wsX6_clearText := fun _ h => List.mem_cons_of_mem _ (List.mem_append_right _ h)
  have hl : lv_has ls 2 [(0, .ref mo)] := hl
  have hp := hp0
  unfold P_M_clearText at hp
  refine lv_aload_n hx hb dX6_clearText_0 rfl (lv_at hl 0 rfl) ?_
  refine lv_iconst (v := (0 : Int32)) hx hb dX6_clearText_1 (by decide) ?_
  refine va_put (D := G.1) (ci := 6) (v := .int (0 : Int32)) (ty := .int) (C := RX6) (T := TX6) (N := 14) hx hb hts iX6 tyX6 tyX6_ok nmX6 hown hK.1 hP hD hS 0 rfl rfl 0 (by decide) (hts (.fieldLink RX6 41 "SongChoirModel" "refusal" "I") (List.mem_of_getElem? (i := 1) rfl)) (fun _ h9 => h9) rfl (by decide +kernel) rfl rfl (Nat.le_of_ble_eq_true rfl) dX6_clearText_2 (fun H locs hP hD hS => ?_)
  have hP : va_P G.1 vwCl [(mo, .inr (6, [.int (0 : Int32), .ref a_sc, .int ss, .ref a_nw, .ref a_tr, .ref a_di, .int ac, .ref a_ke, .ref a_ik, .ref a_od, .ref a_rk, .ref a_be, .ref a_fr, .int fs]))] H := hP
  have hD : va_D A [(mo, .inr (6, [.int (0 : Int32), .ref a_sc, .int ss, .ref a_nw, .ref a_tr, .ref a_di, .int ac, .ref a_ke, .ref a_ik, .ref a_od, .ref a_rk, .ref a_be, .ref a_fr, .int fs]))] := hD
  refine lv_aload_n hx hb dX6_clearText_5 rfl (lv_at hl 0 rfl) ?_
  refine va_get (D := G.1) (ci := 6) (v := .int ss) (C := RX6) (T := TX6) (N := 14) hx hb hts iX6 hown hK.1 hP 0 rfl rfl 2 (by decide) (hts (.fieldLink RX6 107 "SongChoirModel" "scriptSize" "I") (List.mem_of_getElem? (i := 2) rfl)) (fun _ h9 => h9) rfl dX6_clearText_6 ?_
  refine lv_istore_n (lv' := [(1, .int ss), (0, .ref mo)]) hx hb dX6_clearText_9 rfl hl (by decide) rfl (fun ls hl => ?_)
  refine lv_aload_n hx hb dX6_clearText_10 rfl (lv_at hl 1 rfl) ?_
  refine lv_iconst (v := (0 : Int32)) hx hb dX6_clearText_11 (by decide) ?_
  refine va_put (D := G.1) (ci := 6) (v := .int (0 : Int32)) (ty := .int) (C := RX6) (T := TX6) (N := 14) hx hb hts iX6 tyX6 tyX6_ok nmX6 hown hK.1 hP hD hS 0 rfl rfl 2 (by decide) (hts (.fieldLink RX6 107 "SongChoirModel" "scriptSize" "I") (List.mem_of_getElem? (i := 2) rfl)) (fun _ h9 => h9) rfl (by decide +kernel) rfl rfl (Nat.le_of_ble_eq_true rfl) dX6_clearText_12 (fun H locs hP hD hS => ?_)
  have hP : va_P G.1 vwCl [(mo, .inr (6, [.int (0 : Int32), .ref a_sc, .int (0 : Int32), .ref a_nw, .ref a_tr, .ref a_di, .int ac, .ref a_ke, .ref a_ik, .ref a_od, .ref a_rk, .ref a_be, .ref a_fr, .int fs]))] H := hP
  have hD : va_D A [(mo, .inr (6, [.int (0 : Int32), .ref a_sc, .int (0 : Int32), .ref a_nw, .ref a_tr, .ref a_di, .int ac, .ref a_ke, .ref a_ik, .ref a_od, .ref a_rk, .ref a_be, .ref a_fr, .int fs]))] := hD
  refine lv_iload_n hx hb dX6_clearText_15 rfl (lv_at hl 0 rfl) ?_
  obtain rfl := Option.some.inj hp
  exact hfin H locs _ ls hP hD hS dX6_clearText_16 rfl

noncomputable def P_M_fault_J37 (sc : fl_A) (ss : Int32) : Option Int32 := if ss = 0 then some (0 : Int32) else some (-1 : Int32)
noncomputable def P_M_fault_L2 (sc : fl_A) (ss : Int32) (z2 : Int32) : Option (Int32 ⊕ Int32) := if ss ≤ z2 then fl_up (P_M_fault_J37 sc ss) else fl_ck z2 40 (fl_bd (P_M_in ((sc z2.toNatClampNeg).toInt64) (97 : Int64) (104 : Int64)) (fun q1 => if q1 = 0 then some (.inr z2) else some (.inl (z2 + (1 : Int32)))))
noncomputable def P_M_fault (sc : fl_A) (ss : Int32) : Option Int32 := fl_loop (P_M_fault_L2 sc ss) (0 : Int32)
set_option maxHeartbeats 4000000 in
set_option maxRecDepth 100000 in
theorem c_M_fault (l : Launch) (G : fl_G) (mo a_sc a_nw a_tr a_di a_ke a_ik a_od a_rk a_be a_fr : Nat) (rf : Int32) (ac : Int32) (fs : Int32) (sc : fl_A) (ss : Int32) {r : Int32} (hp0 : P_M_fault sc ss = some r) : fl_ro l yX6_fault wsX6_fault 1 25 G [.ref mo] [(mo, .inr (6, [.int rf, .ref a_sc, .int ss, .ref a_nw, .ref a_tr, .ref a_di, .int ac, .ref a_ke, .ref a_ik, .ref a_od, .ref a_rk, .ref a_be, .ref a_fr, .int fs])), (a_sc, .inl (G.2.1, 40, .inl sc))] (.int r) := by
  refine fl_ro_in cX6_fault 2 .int RX6 (by decide) rfl rfl (Nat.le_of_ble_eq_true rfl) ?_
  intro p e s m args below meth c ls Q H locs C0 hK hP hS hl hfin
  have hA : ∀ q : Nat, s.heap.size ≤ q → va_A [] s.heap.size q := fl_hA _ _
  obtain ⟨hx, hb, hml, hown, hts⟩ := id C0
  have iX6 : ∀ w ∈ u_ws RX6 TX6 14, w ∈ wsX6_fault := fun _ h => List.mem_cons_of_mem _ (List.mem_append_right _ h)
  have hl : lv_has ls 2 [(0, .ref mo)] := hl
  have KJ37 : ∀ (H : Heap) (locs : List Loc), va_P G.1 vwCl [(mo, .inr (6, [.int rf, .ref a_sc, .int ss, .ref a_nw, .ref a_tr, .ref a_di, .int ac, .ref a_ke, .ref a_ik, .ref a_od, .ref a_rk, .ref a_be, .ref a_fr, .int fs])), (a_sc, .inl (G.2.1, 40, .inl sc))] H → va_S (va_A [] s.heap.size) s.heap H locs → ∀ (ls : Array Slot), lv_has ls 2 [(0, .ref mo)] → P_M_fault_J37 sc ss = some r → W p l e (fl_rm 1 25) s m args below meth c H locs 0 0 Q (F0 m 37 ls []) := by
    intro H locs hP hS ls hl hp
    unfold P_M_fault_J37 at hp
    refine lv_aload_n hx hb dX6_fault_37 rfl (lv_at hl 0 rfl) ?_
    refine va_get (D := G.1) (ci := 6) (v := .int ss) (C := RX6) (T := TX6) (N := 14) hx hb hts iX6 hown hK.1 hP 0 rfl rfl 2 (by decide) (hts (.fieldLink RX6 107 "SongChoirModel" "scriptSize" "I") (List.mem_of_getElem? (i := 1) rfl)) (fun _ h9 => h9) rfl dX6_fault_38 ?_
    refine lv_if_ne (tgt := 48) hx hb dX6_fault_41 (by decide) (fun hc => ?_) (fun hc => ?_)
    · replace hp := fl_f hc hp
      refine lv_iconst (v := (-1 : Int32)) hx hb dX6_fault_48 (by decide) ?_
      obtain rfl := Option.some.inj hp
      exact hfin H locs _ ls hS dX6_fault_49 rfl
    · replace hp := fl_t hc hp
      refine lv_iconst (v := (0 : Int32)) hx hb dX6_fault_44 (by decide) ?_
      refine lv_goto (tgt := 49) hx hb dX6_fault_45 (by decide) ?_
      obtain rfl := Option.some.inj hp
      exact hfin H locs _ ls hS dX6_fault_49 rfl
  have KL2 : ∀ (n0 : Nat) (z2 : Int32) (H : Heap) (locs : List Loc), va_P G.1 vwCl [(mo, .inr (6, [.int rf, .ref a_sc, .int ss, .ref a_nw, .ref a_tr, .ref a_di, .int ac, .ref a_ke, .ref a_ik, .ref a_od, .ref a_rk, .ref a_be, .ref a_fr, .int fs])), (a_sc, .inl (G.2.1, 40, .inl sc))] H → va_S (va_A [] s.heap.size) s.heap H locs → ∀ (ls : Array Slot), lv_has ls 2 [(0, .ref mo), (1, .int z2)] → fl_loopN (P_M_fault_L2 sc ss) n0 z2 = some r → W p l e (fl_rm 1 25) s m args below meth c H locs 0 0 Q (F0 m 2 ls []) := by
    intro n0
    induction n0 with
    | zero => intro z2 H locs hP hS ls hl hn; exact (fl_loopN_0 hn).elim
    | succ n0 ih2 =>
      intro z2 H locs hP hS ls hl hn
      obtain ⟨y2, hb2, hy2⟩ := fl_loopN_step hn
      clear hn
      have hp := hb2
      unfold P_M_fault_L2 at hp
      refine lv_iload_n hx hb dX6_fault_2 rfl (lv_at hl 1 rfl) ?_
      refine lv_aload_n hx hb dX6_fault_3 rfl (lv_at hl 0 rfl) ?_
      refine va_get (D := G.1) (ci := 6) (v := .int ss) (C := RX6) (T := TX6) (N := 14) hx hb hts iX6 hown hK.1 hP 0 rfl rfl 2 (by decide) (hts (.fieldLink RX6 107 "SongChoirModel" "scriptSize" "I") (List.mem_of_getElem? (i := 1) rfl)) (fun _ h9 => h9) rfl dX6_fault_4 ?_
      refine lv_icmp_ge (tgt := 37) hx hb dX6_fault_7 (by decide) (fun hc => ?_) (fun hc => ?_)
      · replace hp := fl_t hc hp
        obtain ⟨_, hu0, rfl⟩ := fl_up_of hp
        obtain rfl := fl_cont_inr hy2
        exact KJ37 H locs hP hS ls (lv_sub hl [0] rfl) hu0
      · replace hp := fl_f hc hp
        refine lv_aload_n hx hb dX6_fault_10 rfl (lv_at hl 0 rfl) ?_
        refine va_get (D := G.1) (ci := 6) (v := .ref a_sc) (C := RX6) (T := TX6) (N := 14) hx hb hts iX6 hown hK.1 hP 0 rfl rfl 1 (by decide) (hts (.fieldLink RX6 7 "SongChoirModel" "script" "[I") (List.mem_of_getElem? (i := 2) rfl)) (fun _ h9 => h9) rfl dX6_fault_11 ?_
        refine lv_iload_n hx hb dX6_fault_14 rfl (lv_at hl 1 rfl) ?_
        obtain ⟨hi, hp⟩ := fl_ck_of hp
        refine va_iald hx hb hK.1 hP 1 0 rfl rfl hi dX6_fault_15 ?_
        refine lv_i2l (v := (sc z2.toNatClampNeg).toInt64) hx hb dX6_fault_16 rfl ?_
        refine lv_ldc2 (v := (97 : Int64)) hx hb hown (hts (.constantLong RX6 114 (97)) (List.mem_of_getElem? (i := 3) rfl)) dX6_fault_17 ?_
        refine lv_ldc2 (v := (104 : Int64)) hx hb hown (hts (.constantLong RX6 116 (104)) (List.mem_of_getElem? (i := 4) rfl)) dX6_fault_20 ?_
        obtain ⟨q1, hq1, hp⟩ := fl_bd_of hp
        refine fl_roS (As := [.long ((sc z2.toNatClampNeg).toInt64), .long (97 : Int64), .long (104 : Int64)]) (rest := []) C0 (c_M_in l G ((sc z2.toNatClampNeg).toInt64) (97 : Int64) (104 : Int64) hq1) (va_cwS 3 hts gX6_fault_X6_in rfl rfl rfl (by decide +kernel) ⟨Nat.le_of_ble_eq_true rfl, Nat.le_of_ble_eq_true rfl⟩) hK hP [] rfl hS hA rfl hl.1 rfl (Nat.le_of_ble_eq_true rfl) dX6_fault_23 ⟨Nat.zero_le _, Nat.zero_le _⟩ (fun H locs hP hS => ?_)
        refine lv_if_ne (tgt := 31) hx hb dX6_fault_26 (by decide) (fun hc => ?_) (fun hc => ?_)
        · replace hp := fl_f hc hp
          refine lv_iinc (v := (z2 + (1 : Int32))) (lv' := [(1, .int (z2 + (1 : Int32))), (0, .ref mo)]) hx hb dX6_fault_31 hl (k := 1) rfl rfl (by decide) rfl (fun ls hl => ?_)
          refine lv_goto (tgt := 2) hx hb dX6_fault_34 (by decide) ?_
          obtain rfl := Option.some.inj hp
          exact ih2 (z2 + (1 : Int32)) H locs hP hS ls (lv_sub hl [1, 0] rfl) (fl_cont_inl hy2)
        · replace hp := fl_t hc hp
          refine lv_iload_n hx hb dX6_fault_29 rfl (lv_at hl 1 rfl) ?_
          obtain rfl := Option.some.inj hp
          obtain rfl := fl_cont_inr hy2
          exact hfin H locs _ ls hS dX6_fault_30 rfl
  have hp := hp0
  unfold P_M_fault at hp
  refine lv_iconst (v := (0 : Int32)) hx hb dX6_fault_0 (by decide) ?_
  refine lv_istore_n (lv' := [(1, .int (0 : Int32)), (0, .ref mo)]) hx hb dX6_fault_1 rfl hl (by decide) rfl (fun ls hl => ?_)
  obtain ⟨n0, hn⟩ := fl_loop_ex hp
  exact KL2 n0 (0 : Int32) H locs hP hS ls (lv_sub hl [1, 0] rfl) hn

noncomputable def P_M_errorPosition (rf : Int32) (sc : fl_A) (ss : Int32) : Option (Int32 × Int32) := fl_bd (P_M_fault sc ss) (fun q1 => some (q1, (0 : Int32)))
set_option maxHeartbeats 4000000 in
set_option maxRecDepth 100000 in
theorem c_M_errorPosition (l : Launch) (G : fl_G) (mo a_sc a_nw a_tr a_di a_ke a_ik a_od a_rk a_be a_fr : Nat) (ac : Int32) (fs : Int32) (rf : Int32) (sc : fl_A) (ss : Int32) {r : (Int32 × Int32)} (hp0 : P_M_errorPosition rf sc ss = some r) : fl_mu l yX6_errorPosition wsX6_errorPosition 2 46 G [.ref mo] [(mo, .inr (6, [.int rf, .ref a_sc, .int ss, .ref a_nw, .ref a_tr, .ref a_di, .int ac, .ref a_ke, .ref a_ik, .ref a_od, .ref a_rk, .ref a_be, .ref a_fr, .int fs])), (a_sc, .inl (G.2.1, 40, .inl sc))] (some (.int r.1)) [(mo, .inr (6, [.int r.2, .ref a_sc, .int ss, .ref a_nw, .ref a_tr, .ref a_di, .int ac, .ref a_ke, .ref a_ik, .ref a_od, .ref a_rk, .ref a_be, .ref a_fr, .int fs])), (a_sc, .inl (G.2.1, 40, .inl sc))] := by
  refine fl_mui_in cX6_errorPosition 1 .int RX6 (by decide) rfl rfl (Nat.le_of_ble_eq_true rfl) ?_
  intro p e s m args below meth c ls A Q H locs C0 hK hP hD hS hA hl hfin
  obtain ⟨hx, hb, hml, hown, hts⟩ := id C0
  have iX6 : ∀ w ∈ u_ws RX6 TX6 14, w ∈ wsX6_errorPosition := fun _ h => List.mem_cons_of_mem _ (List.mem_append_right _ h)
  have hl : lv_has ls 1 [(0, .ref mo)] := hl
  have hp := hp0
  unfold P_M_errorPosition at hp
  refine lv_aload_n hx hb dX6_errorPosition_0 rfl (lv_at hl 0 rfl) ?_
  refine lv_iconst (v := (0 : Int32)) hx hb dX6_errorPosition_1 (by decide) ?_
  refine va_put (D := G.1) (ci := 6) (v := .int (0 : Int32)) (ty := .int) (C := RX6) (T := TX6) (N := 14) hx hb hts iX6 tyX6 tyX6_ok nmX6 hown hK.1 hP hD hS 0 rfl rfl 0 (by decide) (hts (.fieldLink RX6 41 "SongChoirModel" "refusal" "I") (List.mem_of_getElem? (i := 1) rfl)) (fun _ h9 => h9) rfl (by decide +kernel) rfl rfl (Nat.le_of_ble_eq_true rfl) dX6_errorPosition_2 (fun H locs hP hD hS => ?_)
  have hP : va_P G.1 vwCl [(mo, .inr (6, [.int (0 : Int32), .ref a_sc, .int ss, .ref a_nw, .ref a_tr, .ref a_di, .int ac, .ref a_ke, .ref a_ik, .ref a_od, .ref a_rk, .ref a_be, .ref a_fr, .int fs])), (a_sc, .inl (G.2.1, 40, .inl sc))] H := hP
  have hD : va_D A [(mo, .inr (6, [.int (0 : Int32), .ref a_sc, .int ss, .ref a_nw, .ref a_tr, .ref a_di, .int ac, .ref a_ke, .ref a_ik, .ref a_od, .ref a_rk, .ref a_be, .ref a_fr, .int fs])), (a_sc, .inl (G.2.1, 40, .inl sc))] := hD
  refine lv_aload_n hx hb dX6_errorPosition_5 rfl (lv_at hl 0 rfl) ?_
  obtain ⟨q1, hq1, hp⟩ := fl_bd_of hp
  refine fl_roV (As := []) (rest := []) C0 (c_M_fault l G mo a_sc a_nw a_tr a_di a_ke a_ik a_od a_rk a_be a_fr (0 : Int32) ac fs sc ss hq1) (cwV 0 hts gX6_errorPosition_X6_fault rfl rfl rfl (by decide +kernel) ⟨Nat.le_of_ble_eq_true rfl, Nat.le_of_ble_eq_true rfl⟩) hK hP [0, 1] rfl 0 6 rfl rfl rfl hS hA rfl hl.1 rfl (Nat.le_of_ble_eq_true rfl) dX6_errorPosition_6 ⟨Nat.zero_le _, Nat.zero_le _⟩ (fun H locs hP hS => ?_)
  obtain rfl := Option.some.inj hp
  exact hfin H locs _ ls hP hD hS dX6_errorPosition_9 rfl

noncomputable def P_M_canSing (sc : fl_A) (ss : Int32) : Option Int32 := fl_bd (P_M_fault sc ss) (fun q1 => if q1 = (-1 : Int32) then if (12 : Int32) < ss then some (0 : Int32) else some (1 : Int32) else some (0 : Int32))
set_option maxHeartbeats 4000000 in
set_option maxRecDepth 100000 in
theorem c_M_canSing (l : Launch) (G : fl_G) (mo a_sc a_nw a_tr a_di a_ke a_ik a_od a_rk a_be a_fr : Nat) (rf : Int32) (ac : Int32) (fs : Int32) (sc : fl_A) (ss : Int32) {r : Int32} (hp0 : P_M_canSing sc ss = some r) : fl_ro l yX6_canSing wsX6_canSing 2 46 G [.ref mo] [(mo, .inr (6, [.int rf, .ref a_sc, .int ss, .ref a_nw, .ref a_tr, .ref a_di, .int ac, .ref a_ke, .ref a_ik, .ref a_od, .ref a_rk, .ref a_be, .ref a_fr, .int fs])), (a_sc, .inl (G.2.1, 40, .inl sc))] (.int r) := by
  refine fl_ro_in cX6_canSing 1 .boolean RX6 (by decide) rfl rfl (Nat.le_of_ble_eq_true rfl) ?_
  intro p e s m args below meth c ls Q H locs C0 hK hP hS hl hfin
  have hA : ∀ q : Nat, s.heap.size ≤ q → va_A [] s.heap.size q := fl_hA _ _
  obtain ⟨hx, hb, hml, hown, hts⟩ := id C0
  have iX6 : ∀ w ∈ u_ws RX6 TX6 14, w ∈ wsX6_canSing := fun _ h => List.mem_cons_of_mem _ (List.mem_append_right _ h)
  have hl : lv_has ls 1 [(0, .ref mo)] := hl
  have hp := hp0
  unfold P_M_canSing at hp
  refine lv_aload_n hx hb dX6_canSing_0 rfl (lv_at hl 0 rfl) ?_
  obtain ⟨q1, hq1, hp⟩ := fl_bd_of hp
  refine fl_roV (As := []) (rest := []) C0 (c_M_fault l G mo a_sc a_nw a_tr a_di a_ke a_ik a_od a_rk a_be a_fr rf ac fs sc ss hq1) (cwV 0 hts gX6_canSing_X6_fault rfl rfl rfl (by decide +kernel) ⟨Nat.le_of_ble_eq_true rfl, Nat.le_of_ble_eq_true rfl⟩) hK hP [0, 1] rfl 0 6 rfl rfl rfl hS hA rfl hl.1 rfl (Nat.le_of_ble_eq_true rfl) dX6_canSing_1 ⟨Nat.zero_le _, Nat.zero_le _⟩ (fun H locs hP hS => ?_)
  refine lv_iconst (v := (-1 : Int32)) hx hb dX6_canSing_4 (by decide) ?_
  refine lv_icmp_ne (tgt := 21) hx hb dX6_canSing_5 (by decide) (fun hc => ?_) (fun hc => ?_)
  · replace hp := fl_f hc hp
    refine lv_iconst (v := (0 : Int32)) hx hb dX6_canSing_21 (by decide) ?_
    obtain rfl := Option.some.inj hp
    exact hfin H locs _ ls hS dX6_canSing_22 (show narrow .boolean (.int (0 : Int32)) = .int (0 : Int32) from rfl)
  · replace hp := fl_t hc hp
    refine lv_aload_n hx hb dX6_canSing_8 rfl (lv_at hl 0 rfl) ?_
    refine va_get (D := G.1) (ci := 6) (v := .int ss) (C := RX6) (T := TX6) (N := 14) hx hb hts iX6 hown hK.1 hP 0 rfl rfl 2 (by decide) (hts (.fieldLink RX6 107 "SongChoirModel" "scriptSize" "I") (List.mem_of_getElem? (i := 1) rfl)) (fun _ h9 => h9) rfl dX6_canSing_9 ?_
    refine lv_bipush (v := (12 : Int32)) hx hb dX6_canSing_12 (by decide) ?_
    refine lv_icmp_gt (tgt := 21) hx hb dX6_canSing_14 (by decide) (fun hc => ?_) (fun hc => ?_)
    · replace hp := fl_t hc hp
      refine lv_iconst (v := (0 : Int32)) hx hb dX6_canSing_21 (by decide) ?_
      obtain rfl := Option.some.inj hp
      exact hfin H locs _ ls hS dX6_canSing_22 (show narrow .boolean (.int (0 : Int32)) = .int (0 : Int32) from rfl)
    · replace hp := fl_f hc hp
      refine lv_iconst (v := (1 : Int32)) hx hb dX6_canSing_17 (by decide) ?_
      refine lv_goto (tgt := 22) hx hb dX6_canSing_18 (by decide) ?_
      obtain rfl := Option.some.inj hp
      exact hfin H locs _ ls hS dX6_canSing_22 (show narrow .boolean (.int (1 : Int32)) = .int (1 : Int32) from rfl)

noncomputable def P_M_takeText (sc : fl_A) (ss : Int32) (fr : fl_A) (fs : Int32) : Option (fl_A × Int32) := fl_bd (P_M_copy 40 12 sc fr (0 : Int32) (0 : Int32) ss) (fun q1 => some (q1, ss))
set_option maxHeartbeats 4000000 in
set_option maxRecDepth 100000 in
theorem c_M_takeText (l : Launch) (G : fl_G) (mo a_sc a_nw a_tr a_di a_ke a_ik a_od a_rk a_be a_fr : Nat) (rf : Int32) (ac : Int32) (sc : fl_A) (ss : Int32) (fr : fl_A) (fs : Int32) {r : (fl_A × Int32)} (hp0 : P_M_takeText sc ss fr fs = some r) : fl_mu l yX6_takeText wsX6_takeText 1 25 G [.ref mo] [(mo, .inr (6, [.int rf, .ref a_sc, .int ss, .ref a_nw, .ref a_tr, .ref a_di, .int ac, .ref a_ke, .ref a_ik, .ref a_od, .ref a_rk, .ref a_be, .ref a_fr, .int fs])), (a_sc, .inl (G.2.1, 40, .inl sc)), (a_fr, .inl (G.2.1, 12, .inl fr))] none [(mo, .inr (6, [.int rf, .ref a_sc, .int ss, .ref a_nw, .ref a_tr, .ref a_di, .int ac, .ref a_ke, .ref a_ik, .ref a_od, .ref a_rk, .ref a_be, .ref a_fr, .int r.2])), (a_sc, .inl (G.2.1, 40, .inl sc)), (a_fr, .inl (G.2.1, 12, .inl r.1))] := by
  refine fl_muv_in cX6_takeText 1 RX6 (by decide) rfl rfl (Nat.le_of_ble_eq_true rfl) ?_
  intro p e s m args below meth c ls A Q H locs C0 hK hP hD hS hA hl hfin
  obtain ⟨hx, hb, hml, hown, hts⟩ := id C0
  have iX6 : ∀ w ∈ u_ws RX6 TX6 14, w ∈ wsX6_takeText := fun _ h => List.mem_cons_of_mem _ (List.mem_append_right _ h)
  have hl : lv_has ls 1 [(0, .ref mo)] := hl
  have hp := hp0
  unfold P_M_takeText at hp
  refine lv_aload_n hx hb dX6_takeText_0 rfl (lv_at hl 0 rfl) ?_
  refine lv_aload_n hx hb dX6_takeText_1 rfl (lv_at hl 0 rfl) ?_
  refine va_get (D := G.1) (ci := 6) (v := .int ss) (C := RX6) (T := TX6) (N := 14) hx hb hts iX6 hown hK.1 hP 0 rfl rfl 2 (by decide) (hts (.fieldLink RX6 107 "SongChoirModel" "scriptSize" "I") (List.mem_of_getElem? (i := 1) rfl)) (fun _ h9 => h9) rfl dX6_takeText_2 ?_
  refine va_put (D := G.1) (ci := 6) (v := .int ss) (ty := .int) (C := RX6) (T := TX6) (N := 14) hx hb hts iX6 tyX6 tyX6_ok nmX6 hown hK.1 hP hD hS 0 rfl rfl 13 (by decide) (hts (.fieldLink RX6 76 "SongChoirModel" "freshSize" "I") (List.mem_of_getElem? (i := 2) rfl)) (fun _ h9 => h9) rfl (by decide +kernel) rfl rfl (Nat.le_of_ble_eq_true rfl) dX6_takeText_5 (fun H locs hP hD hS => ?_)
  have hP : va_P G.1 vwCl [(mo, .inr (6, [.int rf, .ref a_sc, .int ss, .ref a_nw, .ref a_tr, .ref a_di, .int ac, .ref a_ke, .ref a_ik, .ref a_od, .ref a_rk, .ref a_be, .ref a_fr, .int ss])), (a_sc, .inl (G.2.1, 40, .inl sc)), (a_fr, .inl (G.2.1, 12, .inl fr))] H := hP
  have hD : va_D A [(mo, .inr (6, [.int rf, .ref a_sc, .int ss, .ref a_nw, .ref a_tr, .ref a_di, .int ac, .ref a_ke, .ref a_ik, .ref a_od, .ref a_rk, .ref a_be, .ref a_fr, .int ss])), (a_sc, .inl (G.2.1, 40, .inl sc)), (a_fr, .inl (G.2.1, 12, .inl fr))] := hD
  refine lv_aload_n hx hb dX6_takeText_8 rfl (lv_at hl 0 rfl) ?_
  refine va_get (D := G.1) (ci := 6) (v := .ref a_sc) (C := RX6) (T := TX6) (N := 14) hx hb hts iX6 hown hK.1 hP 0 rfl rfl 1 (by decide) (hts (.fieldLink RX6 7 "SongChoirModel" "script" "[I") (List.mem_of_getElem? (i := 3) rfl)) (fun _ h9 => h9) rfl dX6_takeText_9 ?_
  refine lv_iconst (v := (0 : Int32)) hx hb dX6_takeText_12 (by decide) ?_
  refine lv_aload_n hx hb dX6_takeText_13 rfl (lv_at hl 0 rfl) ?_
  refine va_get (D := G.1) (ci := 6) (v := .ref a_fr) (C := RX6) (T := TX6) (N := 14) hx hb hts iX6 hown hK.1 hP 0 rfl rfl 12 (by decide) (hts (.fieldLink RX6 38 "SongChoirModel" "fresh" "[I") (List.mem_of_getElem? (i := 4) rfl)) (fun _ h9 => h9) rfl dX6_takeText_14 ?_
  refine lv_iconst (v := (0 : Int32)) hx hb dX6_takeText_17 (by decide) ?_
  refine lv_aload_n hx hb dX6_takeText_18 rfl (lv_at hl 0 rfl) ?_
  refine va_get (D := G.1) (ci := 6) (v := .int ss) (C := RX6) (T := TX6) (N := 14) hx hb hts iX6 hown hK.1 hP 0 rfl rfl 13 (by decide) (hts (.fieldLink RX6 76 "SongChoirModel" "freshSize" "I") (List.mem_of_getElem? (i := 2) rfl)) (fun _ h9 => h9) rfl dX6_takeText_19 ?_
  obtain ⟨q1, hq1, hp⟩ := fl_bd_of hp
  refine fl_muS (As := [.ref a_sc, .int (0 : Int32), .ref a_fr, .int (0 : Int32), .int ss]) (rest := []) [(mo, .inr (6, [.int rf, .ref a_sc, .int ss, .ref a_nw, .ref a_tr, .ref a_di, .int ac, .ref a_ke, .ref a_ik, .ref a_od, .ref a_rk, .ref a_be, .ref a_fr, .int ss])), (a_sc, .inl (G.2.1, 40, .inl sc)), (a_fr, .inl (G.2.1, 12, .inl q1))] C0 (c_M_copy l G 40 12 a_sc a_fr sc fr (0 : Int32) (0 : Int32) ss hq1) (va_cwS 5 hts gX6_takeText_X6_copy rfl rfl rfl (by decide +kernel) ⟨Nat.le_of_ble_eq_true rfl, Nat.le_of_ble_eq_true rfl⟩) hK hP hD [1, 2] [0] [0, 1, 2] rfl rfl (by decide) (by decide) rfl hS hA rfl hl.1 rfl (Nat.le_of_ble_eq_true rfl) dX6_takeText_22 ⟨Nat.zero_le _, Nat.zero_le _⟩ (fun H locs hP hD hS => ?_)
  obtain rfl := Option.some.inj hp
  exact hfin H locs _ ls hP hD hS dX6_takeText_25

noncomputable def P_M_about_J18 (rf : Int32) (nw : fl_A) (od : fl_A) (rk : fl_A) (p0 : Int32) (k0 : Int32) : Option (Int32 × Int32 × fl_A × fl_A) := fl_bd (P_M_refused rf k0) (fun q1 => if q1.1 = 0 then if p0 = (4 : Int32) then fl_bd (P_M_pieces od rk nw) (fun q2 => some (q2.1, q1.2, q2.2.1, q2.2.2)) else if p0 = (5 : Int32) then fl_bd (P_M_longest od rk nw) (fun q3 => some (q3.1, q1.2, q3.2.1, q3.2.2)) else if p0 = (6 : Int32) then fl_bd (P_M_lowestRepeat nw od rk) (fun q4 => some (q4.1, q1.2, q4.2.1, q4.2.2)) else if p0 = (7 : Int32) then fl_ck (4 : Int32) 126 (some ((nw (4 : Int32).toNatClampNeg), q1.2, od, rk)) else if p0 = (8 : Int32) then fl_ck (5 : Int32) 126 (some ((nw (5 : Int32).toNatClampNeg), q1.2, od, rk)) else fl_ck p0 126 (some ((nw p0.toNatClampNeg), q1.2, od, rk)) else some ((0 : Int32), q1.2, od, rk))
noncomputable def P_M_about (rf : Int32) (nw : fl_A) (od : fl_A) (rk : fl_A) (p0 : Int32) : Option (Int32 × Int32 × fl_A × fl_A) := fl_bd (P_M_in p0.toInt64 (0 : Int64) (8 : Int64)) (fun q1 => if q1 = 0 then P_M_about_J18 rf nw od rk p0 (1 : Int32) else P_M_about_J18 rf nw od rk p0 (0 : Int32))
set_option maxHeartbeats 4000000 in
set_option maxRecDepth 100000 in
theorem c_M_about (l : Launch) (G : fl_G) (mo a_sc a_nw a_tr a_di a_ke a_ik a_od a_rk a_be a_fr : Nat) (ss : Int32) (ac : Int32) (fs : Int32) (rf : Int32) (nw : fl_A) (od : fl_A) (rk : fl_A) (p0 : Int32) {r : (Int32 × Int32 × fl_A × fl_A)} (hp0 : P_M_about rf nw od rk p0 = some r) : fl_mu l yX6_about wsX6_about 5 115 G [.ref mo, .int p0] [(mo, .inr (6, [.int rf, .ref a_sc, .int ss, .ref a_nw, .ref a_tr, .ref a_di, .int ac, .ref a_ke, .ref a_ik, .ref a_od, .ref a_rk, .ref a_be, .ref a_fr, .int fs])), (a_nw, .inl (G.2.1, 126, .inl nw)), (a_od, .inl (G.2.1, 60, .inl od)), (a_rk, .inl (G.2.1, 60, .inl rk))] (some (.int r.1)) [(mo, .inr (6, [.int r.2.1, .ref a_sc, .int ss, .ref a_nw, .ref a_tr, .ref a_di, .int ac, .ref a_ke, .ref a_ik, .ref a_od, .ref a_rk, .ref a_be, .ref a_fr, .int fs])), (a_nw, .inl (G.2.1, 126, .inl nw)), (a_od, .inl (G.2.1, 60, .inl r.2.2.1)), (a_rk, .inl (G.2.1, 60, .inl r.2.2.2))] := by
  refine fl_mui_in cX6_about 2 .int RX6 (by decide) rfl rfl (Nat.le_of_ble_eq_true rfl) ?_
  intro p e s m args below meth c ls A Q H locs C0 hK hP hD hS hA hl hfin
  obtain ⟨hx, hb, hml, hown, hts⟩ := id C0
  have iX6 : ∀ w ∈ u_ws RX6 TX6 14, w ∈ wsX6_about := fun _ h => List.mem_cons_of_mem _ (List.mem_append_right _ h)
  have hl : lv_has ls 2 [(0, .ref mo), (1, .int p0)] := hl
  have KJ18 : ∀ (rf : Int32) (od : fl_A) (rk : fl_A) (k0 : Int32) (H : Heap) (locs : List Loc), va_P G.1 vwCl [(mo, .inr (6, [.int rf, .ref a_sc, .int ss, .ref a_nw, .ref a_tr, .ref a_di, .int ac, .ref a_ke, .ref a_ik, .ref a_od, .ref a_rk, .ref a_be, .ref a_fr, .int fs])), (a_nw, .inl (G.2.1, 126, .inl nw)), (a_od, .inl (G.2.1, 60, .inl od)), (a_rk, .inl (G.2.1, 60, .inl rk))] H → va_D A [(mo, .inr (6, [.int rf, .ref a_sc, .int ss, .ref a_nw, .ref a_tr, .ref a_di, .int ac, .ref a_ke, .ref a_ik, .ref a_od, .ref a_rk, .ref a_be, .ref a_fr, .int fs])), (a_nw, .inl (G.2.1, 126, .inl nw)), (a_od, .inl (G.2.1, 60, .inl od)), (a_rk, .inl (G.2.1, 60, .inl rk))] → va_S A s.heap H locs → ∀ (ls : Array Slot), lv_has ls 2 [(0, .ref mo), (1, .int p0)] → P_M_about_J18 rf nw od rk p0 k0 = some r → W p l e (fl_rm 5 115) s m args below meth c H locs 0 0 Q (F0 m 18 ls [.int k0, .ref mo]) := by
    intro rf od rk k0 H locs hP hD hS ls hl hp
    unfold P_M_about_J18 at hp
    obtain ⟨q1, hq1, hp⟩ := fl_bd_of hp
    refine fl_muV (As := [.int k0]) (rest := []) [(mo, .inr (6, [.int q1.2, .ref a_sc, .int ss, .ref a_nw, .ref a_tr, .ref a_di, .int ac, .ref a_ke, .ref a_ik, .ref a_od, .ref a_rk, .ref a_be, .ref a_fr, .int fs])), (a_nw, .inl (G.2.1, 126, .inl nw)), (a_od, .inl (G.2.1, 60, .inl od)), (a_rk, .inl (G.2.1, 60, .inl rk))] C0 (c_M_refused l G mo a_sc a_nw a_tr a_di a_ke a_ik a_od a_rk a_be a_fr ss ac fs rf k0 hq1) (cwV 1 hts gX6_about_X6_refused rfl rfl rfl (by decide +kernel) ⟨Nat.le_of_ble_eq_true rfl, Nat.le_of_ble_eq_true rfl⟩) hK hP hD [0] [1, 2, 3] [3, 0, 1, 2] rfl rfl (by decide) (by decide) rfl 0 6 rfl rfl rfl hS hA rfl hl.1 rfl (Nat.le_of_ble_eq_true rfl) dX6_about_18 ⟨Nat.zero_le _, Nat.zero_le _⟩ (fun H locs hP hD hS => ?_)
    refine lv_if_eq (tgt := 26) hx hb dX6_about_21 (by decide) (fun hc => ?_) (fun hc => ?_)
    · replace hp := fl_t hc hp
      refine lv_iload_n hx hb dX6_about_26 rfl (lv_at hl 1 rfl) ?_
      rcases Decidable.em (p0 = (4 : Int32)) with hc0 | hc0
      · replace hp := fl_t hc0 hp
        refine lv_tableIn (off := 33) (tgt := 60) hx hb dX6_about_27 (by rw [hc0]; decide) (by rw [hc0]; decide) (by rw [hc0]; rfl) (by decide) ?_
        refine lv_aload_n hx hb dX6_about_60 rfl (lv_at hl 0 rfl) ?_
        refine lv_aload_n hx hb dX6_about_61 rfl (lv_at hl 0 rfl) ?_
        refine va_get (D := G.1) (ci := 6) (v := .ref a_nw) (C := RX6) (T := TX6) (N := 14) hx hb hts iX6 hown hK.1 hP 0 rfl rfl 3 (by decide) (hts (.fieldLink RX6 13 "SongChoirModel" "now" "[I") (List.mem_of_getElem? (i := 2) rfl)) (fun _ h9 => h9) rfl dX6_about_62 ?_
        obtain ⟨q2, hq2, hp⟩ := fl_bd_of hp
        refine fl_muV (As := [.ref a_nw]) (rest := []) [(mo, .inr (6, [.int q1.2, .ref a_sc, .int ss, .ref a_nw, .ref a_tr, .ref a_di, .int ac, .ref a_ke, .ref a_ik, .ref a_od, .ref a_rk, .ref a_be, .ref a_fr, .int fs])), (a_nw, .inl (G.2.1, 126, .inl nw)), (a_od, .inl (G.2.1, 60, .inl q2.2.1)), (a_rk, .inl (G.2.1, 60, .inl q2.2.2))] C0 (c_M_pieces l G mo a_sc a_nw a_tr a_di a_ke a_ik a_od a_rk a_be a_fr a_nw q1.2 ss ac fs od rk nw hq2) (cwV 1 hts gX6_about_X6_pieces rfl rfl rfl (by decide +kernel) ⟨Nat.le_of_ble_eq_true rfl, Nat.le_of_ble_eq_true rfl⟩) hK hP hD [0, 2, 3, 1] [] [0, 3, 1, 2] rfl rfl (by decide) (by decide) rfl 0 6 rfl rfl rfl hS hA rfl hl.1 rfl (Nat.le_of_ble_eq_true rfl) dX6_about_65 ⟨Nat.zero_le _, Nat.zero_le _⟩ (fun H locs hP hD hS => ?_)
        obtain rfl := Option.some.inj hp
        exact hfin H locs _ ls hP hD hS dX6_about_68 rfl
      replace hp := fl_f hc0 hp
      rcases Decidable.em (p0 = (5 : Int32)) with hc1 | hc1
      · replace hp := fl_t hc1 hp
        refine lv_tableIn (off := 42) (tgt := 69) hx hb dX6_about_27 (by rw [hc1]; decide) (by rw [hc1]; decide) (by rw [hc1]; rfl) (by decide) ?_
        refine lv_aload_n hx hb dX6_about_69 rfl (lv_at hl 0 rfl) ?_
        refine lv_aload_n hx hb dX6_about_70 rfl (lv_at hl 0 rfl) ?_
        refine va_get (D := G.1) (ci := 6) (v := .ref a_nw) (C := RX6) (T := TX6) (N := 14) hx hb hts iX6 hown hK.1 hP 0 rfl rfl 3 (by decide) (hts (.fieldLink RX6 13 "SongChoirModel" "now" "[I") (List.mem_of_getElem? (i := 2) rfl)) (fun _ h9 => h9) rfl dX6_about_71 ?_
        obtain ⟨q3, hq3, hp⟩ := fl_bd_of hp
        refine fl_muV (As := [.ref a_nw]) (rest := []) [(mo, .inr (6, [.int q1.2, .ref a_sc, .int ss, .ref a_nw, .ref a_tr, .ref a_di, .int ac, .ref a_ke, .ref a_ik, .ref a_od, .ref a_rk, .ref a_be, .ref a_fr, .int fs])), (a_nw, .inl (G.2.1, 126, .inl nw)), (a_od, .inl (G.2.1, 60, .inl q3.2.1)), (a_rk, .inl (G.2.1, 60, .inl q3.2.2))] C0 (c_M_longest l G mo a_sc a_nw a_tr a_di a_ke a_ik a_od a_rk a_be a_fr a_nw q1.2 ss ac fs od rk nw hq3) (cwV 1 hts gX6_about_X6_longest rfl rfl rfl (by decide +kernel) ⟨Nat.le_of_ble_eq_true rfl, Nat.le_of_ble_eq_true rfl⟩) hK hP hD [0, 2, 3, 1] [] [0, 3, 1, 2] rfl rfl (by decide) (by decide) rfl 0 6 rfl rfl rfl hS hA rfl hl.1 rfl (Nat.le_of_ble_eq_true rfl) dX6_about_74 ⟨Nat.zero_le _, Nat.zero_le _⟩ (fun H locs hP hD hS => ?_)
        obtain rfl := Option.some.inj hp
        exact hfin H locs _ ls hP hD hS dX6_about_77 rfl
      replace hp := fl_f hc1 hp
      rcases Decidable.em (p0 = (6 : Int32)) with hc2 | hc2
      · replace hp := fl_t hc2 hp
        refine lv_tableIn (off := 51) (tgt := 78) hx hb dX6_about_27 (by rw [hc2]; decide) (by rw [hc2]; decide) (by rw [hc2]; rfl) (by decide) ?_
        refine lv_aload_n hx hb dX6_about_78 rfl (lv_at hl 0 rfl) ?_
        obtain ⟨q4, hq4, hp⟩ := fl_bd_of hp
        refine fl_muV (As := []) (rest := []) [(mo, .inr (6, [.int q1.2, .ref a_sc, .int ss, .ref a_nw, .ref a_tr, .ref a_di, .int ac, .ref a_ke, .ref a_ik, .ref a_od, .ref a_rk, .ref a_be, .ref a_fr, .int fs])), (a_nw, .inl (G.2.1, 126, .inl nw)), (a_od, .inl (G.2.1, 60, .inl q4.2.1)), (a_rk, .inl (G.2.1, 60, .inl q4.2.2))] C0 (c_M_lowestRepeat l G mo a_sc a_nw a_tr a_di a_ke a_ik a_od a_rk a_be a_fr q1.2 ss ac fs nw od rk hq4) (cwV 0 hts gX6_about_X6_lowestRepeat rfl rfl rfl (by decide +kernel) ⟨Nat.le_of_ble_eq_true rfl, Nat.le_of_ble_eq_true rfl⟩) hK hP hD [0, 1, 2, 3] [] [0, 1, 2, 3] rfl rfl (by decide) (by decide) rfl 0 6 rfl rfl rfl hS hA rfl hl.1 rfl (Nat.le_of_ble_eq_true rfl) dX6_about_79 ⟨Nat.zero_le _, Nat.zero_le _⟩ (fun H locs hP hD hS => ?_)
        obtain rfl := Option.some.inj hp
        exact hfin H locs _ ls hP hD hS dX6_about_82 rfl
      replace hp := fl_f hc2 hp
      rcases Decidable.em (p0 = (7 : Int32)) with hc3 | hc3
      · replace hp := fl_t hc3 hp
        refine lv_tableIn (off := 56) (tgt := 83) hx hb dX6_about_27 (by rw [hc3]; decide) (by rw [hc3]; decide) (by rw [hc3]; rfl) (by decide) ?_
        refine lv_aload_n hx hb dX6_about_83 rfl (lv_at hl 0 rfl) ?_
        refine va_get (D := G.1) (ci := 6) (v := .ref a_nw) (C := RX6) (T := TX6) (N := 14) hx hb hts iX6 hown hK.1 hP 0 rfl rfl 3 (by decide) (hts (.fieldLink RX6 13 "SongChoirModel" "now" "[I") (List.mem_of_getElem? (i := 2) rfl)) (fun _ h9 => h9) rfl dX6_about_84 ?_
        refine lv_iconst (v := (4 : Int32)) hx hb dX6_about_87 (by decide) ?_
        obtain ⟨hi, hp⟩ := fl_ck_of hp
        refine va_iald hx hb hK.1 hP 1 0 rfl rfl hi dX6_about_88 ?_
        obtain rfl := Option.some.inj hp
        exact hfin H locs _ ls hP hD hS dX6_about_89 rfl
      replace hp := fl_f hc3 hp
      rcases Decidable.em (p0 = (8 : Int32)) with hc4 | hc4
      · replace hp := fl_t hc4 hp
        refine lv_tableIn (off := 63) (tgt := 90) hx hb dX6_about_27 (by rw [hc4]; decide) (by rw [hc4]; decide) (by rw [hc4]; rfl) (by decide) ?_
        refine lv_aload_n hx hb dX6_about_90 rfl (lv_at hl 0 rfl) ?_
        refine va_get (D := G.1) (ci := 6) (v := .ref a_nw) (C := RX6) (T := TX6) (N := 14) hx hb hts iX6 hown hK.1 hP 0 rfl rfl 3 (by decide) (hts (.fieldLink RX6 13 "SongChoirModel" "now" "[I") (List.mem_of_getElem? (i := 2) rfl)) (fun _ h9 => h9) rfl dX6_about_91 ?_
        refine lv_iconst (v := (5 : Int32)) hx hb dX6_about_94 (by decide) ?_
        obtain ⟨hi, hp⟩ := fl_ck_of hp
        refine va_iald hx hb hK.1 hP 1 0 rfl rfl hi dX6_about_95 ?_
        obtain rfl := Option.some.inj hp
        exact hfin H locs _ ls hP hD hS dX6_about_96 rfl
      replace hp := fl_f hc4 hp
      refine lv_tableOut (tgt := 97) hx hb dX6_about_27 (by have q0 := lv_neT hc0 (a := 4) (by decide); have q1 := lv_neT hc1 (a := 5) (by decide); have q2 := lv_neT hc2 (a := 6) (by decide); have q3 := lv_neT hc3 (a := 7) (by decide); have q4 := lv_neT hc4 (a := 8) (by decide); omega) (by decide) ?_
      refine lv_aload_n hx hb dX6_about_97 rfl (lv_at hl 0 rfl) ?_
      refine va_get (D := G.1) (ci := 6) (v := .ref a_nw) (C := RX6) (T := TX6) (N := 14) hx hb hts iX6 hown hK.1 hP 0 rfl rfl 3 (by decide) (hts (.fieldLink RX6 13 "SongChoirModel" "now" "[I") (List.mem_of_getElem? (i := 2) rfl)) (fun _ h9 => h9) rfl dX6_about_98 ?_
      refine lv_iload_n hx hb dX6_about_101 rfl (lv_at hl 1 rfl) ?_
      obtain ⟨hi, hp⟩ := fl_ck_of hp
      refine va_iald hx hb hK.1 hP 1 0 rfl rfl hi dX6_about_102 ?_
      obtain rfl := Option.some.inj hp
      exact hfin H locs _ ls hP hD hS dX6_about_103 rfl
    · replace hp := fl_f hc hp
      refine lv_iconst (v := (0 : Int32)) hx hb dX6_about_24 (by decide) ?_
      obtain rfl := Option.some.inj hp
      exact hfin H locs _ ls hP hD hS dX6_about_25 rfl
  have hp := hp0
  unfold P_M_about at hp
  refine lv_aload_n hx hb dX6_about_0 rfl (lv_at hl 0 rfl) ?_
  refine lv_iload_n hx hb dX6_about_1 rfl (lv_at hl 1 rfl) ?_
  refine lv_i2l (v := p0.toInt64) hx hb dX6_about_2 rfl ?_
  refine lv_lconst (v := (0 : Int64)) hx hb dX6_about_3 (by decide) ?_
  refine lv_ldc2 (v := (8 : Int64)) hx hb hown (hts (.constantLong RX6 122 (8)) (List.mem_of_getElem? (i := 1) rfl)) dX6_about_4 ?_
  obtain ⟨q1, hq1, hp⟩ := fl_bd_of hp
  refine fl_roS (As := [.long p0.toInt64, .long (0 : Int64), .long (8 : Int64)]) (rest := [.ref mo]) C0 (c_M_in l G p0.toInt64 (0 : Int64) (8 : Int64) hq1) (va_cwS 3 hts gX6_about_X6_in rfl rfl rfl (by decide +kernel) ⟨Nat.le_of_ble_eq_true rfl, Nat.le_of_ble_eq_true rfl⟩) hK hP [] rfl hS hA rfl hl.1 rfl (Nat.le_of_ble_eq_true rfl) dX6_about_7 ⟨Nat.zero_le _, Nat.zero_le _⟩ (fun H locs hP hS => ?_)
  refine lv_if_eq (tgt := 17) hx hb dX6_about_10 (by decide) (fun hc => ?_) (fun hc => ?_)
  · replace hp := fl_t hc hp
    refine lv_iconst (v := (1 : Int32)) hx hb dX6_about_17 (by decide) ?_
    exact KJ18 rf od rk (1 : Int32) H locs hP hD hS ls (lv_sub hl [0, 1] rfl) hp
  · replace hp := fl_f hc hp
    refine lv_iconst (v := (0 : Int32)) hx hb dX6_about_13 (by decide) ?_
    refine lv_goto (tgt := 18) hx hb dX6_about_14 (by decide) ?_
    exact KJ18 rf od rk (0 : Int32) H locs hP hD hS ls (lv_sub hl [0, 1] rfl) hp

noncomputable def P_M_verseAt_L2 (nw : fl_A) (p0 : Int32) (z2 : Int32) : Option (Int32 ⊕ Int32) := fl_bd (P_M_beginOf nw (z2 + (1 : Int32))) (fun q1 => if p0 < q1 then some (.inr z2) else some (.inl (z2 + (1 : Int32))))
noncomputable def P_M_verseAt (nw : fl_A) (p0 : Int32) : Option Int32 := fl_loop (P_M_verseAt_L2 nw p0) (0 : Int32)
set_option maxHeartbeats 4000000 in
set_option maxRecDepth 100000 in
theorem c_M_verseAt (l : Launch) (G : fl_G) (mo a_sc a_nw a_tr a_di a_ke a_ik a_od a_rk a_be a_fr : Nat) (rf : Int32) (ss : Int32) (ac : Int32) (fs : Int32) (nw : fl_A) (p0 : Int32) {r : Int32} (hp0 : P_M_verseAt nw p0 = some r) : fl_ro l yX6_verseAt wsX6_verseAt 1 23 G [.ref mo, .int p0] [(mo, .inr (6, [.int rf, .ref a_sc, .int ss, .ref a_nw, .ref a_tr, .ref a_di, .int ac, .ref a_ke, .ref a_ik, .ref a_od, .ref a_rk, .ref a_be, .ref a_fr, .int fs])), (a_nw, .inl (G.2.1, 126, .inl nw))] (.int r) := by
  refine fl_ro_in cX6_verseAt 3 .int RX6 (by decide) rfl rfl (Nat.le_of_ble_eq_true rfl) ?_
  intro p e s m args below meth c ls Q H locs C0 hK hP hS hl hfin
  have hA : ∀ q : Nat, s.heap.size ≤ q → va_A [] s.heap.size q := fl_hA _ _
  obtain ⟨hx, hb, hml, hown, hts⟩ := id C0
  have iX6 : ∀ w ∈ u_ws RX6 TX6 14, w ∈ wsX6_verseAt := fun _ h => List.mem_cons_of_mem _ (List.mem_append_right _ h)
  have hl : lv_has ls 3 [(0, .ref mo), (1, .int p0)] := hl
  have KL2 : ∀ (n0 : Nat) (z2 : Int32) (H : Heap) (locs : List Loc), va_P G.1 vwCl [(mo, .inr (6, [.int rf, .ref a_sc, .int ss, .ref a_nw, .ref a_tr, .ref a_di, .int ac, .ref a_ke, .ref a_ik, .ref a_od, .ref a_rk, .ref a_be, .ref a_fr, .int fs])), (a_nw, .inl (G.2.1, 126, .inl nw))] H → va_S (va_A [] s.heap.size) s.heap H locs → ∀ (ls : Array Slot), lv_has ls 3 [(0, .ref mo), (1, .int p0), (2, .int z2)] → fl_loopN (P_M_verseAt_L2 nw p0) n0 z2 = some r → W p l e (fl_rm 1 23) s m args below meth c H locs 0 0 Q (F0 m 2 ls []) := by
    intro n0
    induction n0 with
    | zero => intro z2 H locs hP hS ls hl hn; exact (fl_loopN_0 hn).elim
    | succ n0 ih2 =>
      intro z2 H locs hP hS ls hl hn
      obtain ⟨y2, hb2, hy2⟩ := fl_loopN_step hn
      clear hn
      have hp := hb2
      unfold P_M_verseAt_L2 at hp
      refine lv_aload_n hx hb dX6_verseAt_2 rfl (lv_at hl 0 rfl) ?_
      refine va_get (D := G.1) (ci := 6) (v := .ref a_nw) (C := RX6) (T := TX6) (N := 14) hx hb hts iX6 hown hK.1 hP 0 rfl rfl 3 (by decide) (hts (.fieldLink RX6 13 "SongChoirModel" "now" "[I") (List.mem_of_getElem? (i := 1) rfl)) (fun _ h9 => h9) rfl dX6_verseAt_3 ?_
      refine lv_iload_n hx hb dX6_verseAt_6 rfl (lv_at hl 2 rfl) ?_
      refine lv_iconst (v := (1 : Int32)) hx hb dX6_verseAt_7 (by decide) ?_
      refine lv_iadd hx hb dX6_verseAt_8 ?_
      obtain ⟨q1, hq1, hp⟩ := fl_bd_of hp
      refine fl_roS (As := [.ref a_nw, .int (z2 + (1 : Int32))]) (rest := []) C0 (c_M_beginOf l G a_nw nw (z2 + (1 : Int32)) hq1) (va_cwS 2 hts gX6_verseAt_X6_beginOf rfl rfl rfl (by decide +kernel) ⟨Nat.le_of_ble_eq_true rfl, Nat.le_of_ble_eq_true rfl⟩) hK hP [1] rfl hS hA rfl hl.1 rfl (Nat.le_of_ble_eq_true rfl) dX6_verseAt_9 ⟨Nat.zero_le _, Nat.zero_le _⟩ (fun H locs hP hS => ?_)
      refine lv_iload_n hx hb dX6_verseAt_12 rfl (lv_at hl 1 rfl) ?_
      refine lv_icmp_gt (tgt := 22) hx hb dX6_verseAt_13 (by decide) (fun hc => ?_) (fun hc => ?_)
      · replace hp := fl_t hc hp
        refine lv_iload_n hx hb dX6_verseAt_22 rfl (lv_at hl 2 rfl) ?_
        obtain rfl := Option.some.inj hp
        obtain rfl := fl_cont_inr hy2
        exact hfin H locs _ ls hS dX6_verseAt_23 rfl
      · replace hp := fl_f hc hp
        refine lv_iinc (v := (z2 + (1 : Int32))) (lv' := [(2, .int (z2 + (1 : Int32))), (0, .ref mo), (1, .int p0)]) hx hb dX6_verseAt_16 hl (k := 2) rfl rfl (by decide) rfl (fun ls hl => ?_)
        refine lv_goto (tgt := 2) hx hb dX6_verseAt_19 (by decide) ?_
        obtain rfl := Option.some.inj hp
        exact ih2 (z2 + (1 : Int32)) H locs hP hS ls (lv_sub hl [1, 2, 0] rfl) (fl_cont_inl hy2)
  have hp := hp0
  unfold P_M_verseAt at hp
  refine lv_iconst (v := (0 : Int32)) hx hb dX6_verseAt_0 (by decide) ?_
  refine lv_istore_n (lv' := [(2, .int (0 : Int32)), (0, .ref mo), (1, .int p0)]) hx hb dX6_verseAt_1 rfl hl (by decide) rfl (fun ls hl => ?_)
  obtain ⟨n0, hn⟩ := fl_loop_ex hp
  exact KL2 n0 (0 : Int32) H locs hP hS ls (lv_sub hl [1, 2, 0] rfl) hn

noncomputable def P_M_note_J40 (rf : Int32) (nw : fl_A) (od : fl_A) (rk : fl_A) (p0 : Int32) (p1 : Int32) (k0 : Int32) : Option (Int32 × Int32 × fl_A × fl_A) := fl_bd (P_M_refused rf k0) (fun q1 => if q1.1 = 0 then fl_bd (P_M_lay od rk nw) (fun q2 => fl_ck p0 60 (if p1 = (0 : Int32) then fl_ck ((66 : Int32) + p0) 126 (some ((nw ((66 : Int32) + p0).toNatClampNeg), q1.2, q2.1, q2.2)) else if p1 = (1 : Int32) then some ((q2.2 p0.toNatClampNeg), q1.2, q2.1, q2.2) else if p1 = (2 : Int32) then fl_bd (P_M_verseAt nw p0) (fun q3 => some (q3, q1.2, q2.1, q2.2)) else if p1 = (3 : Int32) then fl_bd (P_M_singerOf nw (q2.2 p0.toNatClampNeg)) (fun q4 => some (q4, q1.2, q2.1, q2.2)) else if (q2.2 p0.toNatClampNeg) = 0 then some ((0 : Int32), q1.2, q2.1, q2.2) else fl_ck ((q2.2 p0.toNatClampNeg) - (1 : Int32)) 60 (fl_bd (P_M_alike nw (q2.1 ((q2.2 p0.toNatClampNeg) - (1 : Int32)).toNatClampNeg) p0) (fun q5 => some (q5, q1.2, q2.1, q2.2))))) else some ((0 : Int32), q1.2, od, rk))
noncomputable def P_M_note (rf : Int32) (nw : fl_A) (od : fl_A) (rk : fl_A) (p0 : Int32) (p1 : Int32) : Option (Int32 × Int32 × fl_A × fl_A) := fl_ck (0 : Int32) 126 (fl_bd (P_M_in p0.toInt64 (0 : Int64) (((nw (0 : Int32).toNatClampNeg) - (1 : Int32)).toInt64)) (fun q1 => if q1 = 0 then P_M_note_J40 rf nw od rk p0 p1 (1 : Int32) else fl_bd (P_M_in p1.toInt64 (0 : Int64) (4 : Int64)) (fun q2 => if q2 = 0 then P_M_note_J40 rf nw od rk p0 p1 (2 : Int32) else P_M_note_J40 rf nw od rk p0 p1 (0 : Int32))))
set_option maxHeartbeats 4000000 in
set_option maxRecDepth 100000 in
theorem c_M_note (l : Launch) (G : fl_G) (mo a_sc a_nw a_tr a_di a_ke a_ik a_od a_rk a_be a_fr : Nat) (ss : Int32) (ac : Int32) (fs : Int32) (rf : Int32) (nw : fl_A) (od : fl_A) (rk : fl_A) (p0 : Int32) (p1 : Int32) {r : (Int32 × Int32 × fl_A × fl_A)} (hp0 : P_M_note rf nw od rk p0 p1 = some r) : fl_mu l yX6_note wsX6_note 3 69 G [.ref mo, .int p0, .int p1] [(mo, .inr (6, [.int rf, .ref a_sc, .int ss, .ref a_nw, .ref a_tr, .ref a_di, .int ac, .ref a_ke, .ref a_ik, .ref a_od, .ref a_rk, .ref a_be, .ref a_fr, .int fs])), (a_nw, .inl (G.2.1, 126, .inl nw)), (a_od, .inl (G.2.1, 60, .inl od)), (a_rk, .inl (G.2.1, 60, .inl rk))] (some (.int r.1)) [(mo, .inr (6, [.int r.2.1, .ref a_sc, .int ss, .ref a_nw, .ref a_tr, .ref a_di, .int ac, .ref a_ke, .ref a_ik, .ref a_od, .ref a_rk, .ref a_be, .ref a_fr, .int fs])), (a_nw, .inl (G.2.1, 126, .inl nw)), (a_od, .inl (G.2.1, 60, .inl r.2.2.1)), (a_rk, .inl (G.2.1, 60, .inl r.2.2.2))] := by
  refine fl_mui_in cX6_note 4 .int RX6 (by decide) rfl rfl (Nat.le_of_ble_eq_true rfl) ?_
  intro p e s m args below meth c ls A Q H locs C0 hK hP hD hS hA hl hfin
  obtain ⟨hx, hb, hml, hown, hts⟩ := id C0
  have iX6 : ∀ w ∈ u_ws RX6 TX6 14, w ∈ wsX6_note := fun _ h => List.mem_cons_of_mem _ (List.mem_append_right _ h)
  have hl : lv_has ls 4 [(0, .ref mo), (1, .int p0), (2, .int p1)] := hl
  have KJ40 : ∀ (rf : Int32) (od : fl_A) (rk : fl_A) (k0 : Int32) (H : Heap) (locs : List Loc), va_P G.1 vwCl [(mo, .inr (6, [.int rf, .ref a_sc, .int ss, .ref a_nw, .ref a_tr, .ref a_di, .int ac, .ref a_ke, .ref a_ik, .ref a_od, .ref a_rk, .ref a_be, .ref a_fr, .int fs])), (a_nw, .inl (G.2.1, 126, .inl nw)), (a_od, .inl (G.2.1, 60, .inl od)), (a_rk, .inl (G.2.1, 60, .inl rk))] H → va_D A [(mo, .inr (6, [.int rf, .ref a_sc, .int ss, .ref a_nw, .ref a_tr, .ref a_di, .int ac, .ref a_ke, .ref a_ik, .ref a_od, .ref a_rk, .ref a_be, .ref a_fr, .int fs])), (a_nw, .inl (G.2.1, 126, .inl nw)), (a_od, .inl (G.2.1, 60, .inl od)), (a_rk, .inl (G.2.1, 60, .inl rk))] → va_S A s.heap H locs → ∀ (ls : Array Slot), lv_has ls 4 [(0, .ref mo), (1, .int p0), (2, .int p1)] → P_M_note_J40 rf nw od rk p0 p1 k0 = some r → W p l e (fl_rm 3 69) s m args below meth c H locs 0 0 Q (F0 m 40 ls [.int k0, .ref mo]) := by
    intro rf od rk k0 H locs hP hD hS ls hl hp
    unfold P_M_note_J40 at hp
    obtain ⟨q1, hq1, hp⟩ := fl_bd_of hp
    refine fl_muV (As := [.int k0]) (rest := []) [(mo, .inr (6, [.int q1.2, .ref a_sc, .int ss, .ref a_nw, .ref a_tr, .ref a_di, .int ac, .ref a_ke, .ref a_ik, .ref a_od, .ref a_rk, .ref a_be, .ref a_fr, .int fs])), (a_nw, .inl (G.2.1, 126, .inl nw)), (a_od, .inl (G.2.1, 60, .inl od)), (a_rk, .inl (G.2.1, 60, .inl rk))] C0 (c_M_refused l G mo a_sc a_nw a_tr a_di a_ke a_ik a_od a_rk a_be a_fr ss ac fs rf k0 hq1) (cwV 1 hts gX6_note_X6_refused rfl rfl rfl (by decide +kernel) ⟨Nat.le_of_ble_eq_true rfl, Nat.le_of_ble_eq_true rfl⟩) hK hP hD [0] [1, 2, 3] [3, 0, 1, 2] rfl rfl (by decide) (by decide) rfl 0 6 rfl rfl rfl hS hA rfl hl.1 rfl (Nat.le_of_ble_eq_true rfl) dX6_note_40 ⟨Nat.zero_le _, Nat.zero_le _⟩ (fun H locs hP hD hS => ?_)
    refine lv_if_eq (tgt := 48) hx hb dX6_note_43 (by decide) (fun hc => ?_) (fun hc => ?_)
    · replace hp := fl_t hc hp
      refine lv_aload_n hx hb dX6_note_48 rfl (lv_at hl 0 rfl) ?_
      refine lv_aload_n hx hb dX6_note_49 rfl (lv_at hl 0 rfl) ?_
      refine va_get (D := G.1) (ci := 6) (v := .ref a_nw) (C := RX6) (T := TX6) (N := 14) hx hb hts iX6 hown hK.1 hP 0 rfl rfl 3 (by decide) (hts (.fieldLink RX6 13 "SongChoirModel" "now" "[I") (List.mem_of_getElem? (i := 1) rfl)) (fun _ h9 => h9) rfl dX6_note_50 ?_
      obtain ⟨q2, hq2, hp⟩ := fl_bd_of hp
      refine fl_muV (As := [.ref a_nw]) (rest := []) [(mo, .inr (6, [.int q1.2, .ref a_sc, .int ss, .ref a_nw, .ref a_tr, .ref a_di, .int ac, .ref a_ke, .ref a_ik, .ref a_od, .ref a_rk, .ref a_be, .ref a_fr, .int fs])), (a_nw, .inl (G.2.1, 126, .inl nw)), (a_od, .inl (G.2.1, 60, .inl q2.1)), (a_rk, .inl (G.2.1, 60, .inl q2.2))] C0 (c_M_lay l G mo a_sc a_nw a_tr a_di a_ke a_ik a_od a_rk a_be a_fr a_nw q1.2 ss ac fs od rk nw hq2) (cwV 1 hts gX6_note_X6_lay rfl rfl rfl (by decide +kernel) ⟨Nat.le_of_ble_eq_true rfl, Nat.le_of_ble_eq_true rfl⟩) hK hP hD [0, 2, 3, 1] [] [0, 3, 1, 2] rfl rfl (by decide) (by decide) rfl 0 6 rfl rfl rfl hS hA rfl hl.1 rfl (Nat.le_of_ble_eq_true rfl) dX6_note_53 ⟨Nat.zero_le _, Nat.zero_le _⟩ (fun H locs hP hD hS => ?_)
      refine lv_aload_n hx hb dX6_note_56 rfl (lv_at hl 0 rfl) ?_
      refine va_get (D := G.1) (ci := 6) (v := .ref a_rk) (C := RX6) (T := TX6) (N := 14) hx hb hts iX6 hown hK.1 hP 0 rfl rfl 10 (by decide) (hts (.fieldLink RX6 32 "SongChoirModel" "ranks" "[I") (List.mem_of_getElem? (i := 3) rfl)) (fun _ h9 => h9) rfl dX6_note_57 ?_
      refine lv_iload_n hx hb dX6_note_60 rfl (lv_at hl 1 rfl) ?_
      obtain ⟨hi, hp⟩ := fl_ck_of hp
      refine va_iald hx hb hK.1 hP 3 0 rfl rfl hi dX6_note_61 ?_
      refine lv_istore_n (lv' := [(3, .int (q2.2 p0.toNatClampNeg)), (0, .ref mo), (1, .int p0), (2, .int p1)]) hx hb dX6_note_62 rfl hl (by decide) rfl (fun ls hl => ?_)
      refine lv_iload_n hx hb dX6_note_63 rfl (lv_at hl 3 rfl) ?_
      rcases Decidable.em (p1 = (0 : Int32)) with hc0 | hc0
      · replace hp := fl_t hc0 hp
        refine lv_tableIn (off := 32) (tgt := 96) hx hb dX6_note_64 (by rw [hc0]; decide) (by rw [hc0]; decide) (by rw [hc0]; rfl) (by decide) ?_
        refine lv_aload_n hx hb dX6_note_96 rfl (lv_at hl 1 rfl) ?_
        refine va_get (D := G.1) (ci := 6) (v := .ref a_nw) (C := RX6) (T := TX6) (N := 14) hx hb hts iX6 hown hK.1 hP 0 rfl rfl 3 (by decide) (hts (.fieldLink RX6 13 "SongChoirModel" "now" "[I") (List.mem_of_getElem? (i := 1) rfl)) (fun _ h9 => h9) rfl dX6_note_97 ?_
        refine lv_bipush (v := (66 : Int32)) hx hb dX6_note_100 (by decide) ?_
        refine lv_iload_n hx hb dX6_note_102 rfl (lv_at hl 2 rfl) ?_
        refine lv_iadd hx hb dX6_note_103 ?_
        obtain ⟨hi, hp⟩ := fl_ck_of hp
        refine va_iald hx hb hK.1 hP 1 0 rfl rfl hi dX6_note_104 ?_
        obtain rfl := Option.some.inj hp
        exact hfin H locs _ ls hP hD hS dX6_note_105 rfl
      replace hp := fl_f hc0 hp
      rcases Decidable.em (p1 = (1 : Int32)) with hc1 | hc1
      · replace hp := fl_t hc1 hp
        refine lv_tableIn (off := 42) (tgt := 106) hx hb dX6_note_64 (by rw [hc1]; decide) (by rw [hc1]; decide) (by rw [hc1]; rfl) (by decide) ?_
        refine lv_iload_n hx hb dX6_note_106 rfl (lv_at hl 0 rfl) ?_
        obtain rfl := Option.some.inj hp
        exact hfin H locs _ ls hP hD hS dX6_note_107 rfl
      replace hp := fl_f hc1 hp
      rcases Decidable.em (p1 = (2 : Int32)) with hc2 | hc2
      · replace hp := fl_t hc2 hp
        refine lv_tableIn (off := 44) (tgt := 108) hx hb dX6_note_64 (by rw [hc2]; decide) (by rw [hc2]; decide) (by rw [hc2]; rfl) (by decide) ?_
        refine lv_aload_n hx hb dX6_note_108 rfl (lv_at hl 1 rfl) ?_
        refine lv_iload_n hx hb dX6_note_109 rfl (lv_at hl 2 rfl) ?_
        obtain ⟨q3, hq3, hp⟩ := fl_bd_of hp
        refine fl_roV (As := [.int p0]) (rest := []) C0 (c_M_verseAt l G mo a_sc a_nw a_tr a_di a_ke a_ik a_od a_rk a_be a_fr q1.2 ss ac fs nw p0 hq3) (cwV 1 hts gX6_note_X6_verseAt rfl rfl rfl (by decide +kernel) ⟨Nat.le_of_ble_eq_true rfl, Nat.le_of_ble_eq_true rfl⟩) hK hP [0, 1] rfl 0 6 rfl rfl rfl hS hA rfl hl.1 rfl (Nat.le_of_ble_eq_true rfl) dX6_note_110 ⟨Nat.zero_le _, Nat.zero_le _⟩ (fun H locs hP hS => ?_)
        obtain rfl := Option.some.inj hp
        exact hfin H locs _ ls hP hD hS dX6_note_113 rfl
      replace hp := fl_f hc2 hp
      rcases Decidable.em (p1 = (3 : Int32)) with hc3 | hc3
      · replace hp := fl_t hc3 hp
        refine lv_tableIn (off := 50) (tgt := 114) hx hb dX6_note_64 (by rw [hc3]; decide) (by rw [hc3]; decide) (by rw [hc3]; rfl) (by decide) ?_
        refine lv_aload_n hx hb dX6_note_114 rfl (lv_at hl 1 rfl) ?_
        refine va_get (D := G.1) (ci := 6) (v := .ref a_nw) (C := RX6) (T := TX6) (N := 14) hx hb hts iX6 hown hK.1 hP 0 rfl rfl 3 (by decide) (hts (.fieldLink RX6 13 "SongChoirModel" "now" "[I") (List.mem_of_getElem? (i := 1) rfl)) (fun _ h9 => h9) rfl dX6_note_115 ?_
        refine lv_iload_n hx hb dX6_note_118 rfl (lv_at hl 0 rfl) ?_
        obtain ⟨q4, hq4, hp⟩ := fl_bd_of hp
        refine fl_roS (As := [.ref a_nw, .int (q2.2 p0.toNatClampNeg)]) (rest := []) C0 (c_M_singerOf l G a_nw nw (q2.2 p0.toNatClampNeg) hq4) (va_cwS 2 hts gX6_note_X6_singerOf rfl rfl rfl (by decide +kernel) ⟨Nat.le_of_ble_eq_true rfl, Nat.le_of_ble_eq_true rfl⟩) hK hP [1] rfl hS hA rfl hl.1 rfl (Nat.le_of_ble_eq_true rfl) dX6_note_119 ⟨Nat.zero_le _, Nat.zero_le _⟩ (fun H locs hP hS => ?_)
        obtain rfl := Option.some.inj hp
        exact hfin H locs _ ls hP hD hS dX6_note_122 rfl
      replace hp := fl_f hc3 hp
      refine lv_tableOut (tgt := 123) hx hb dX6_note_64 (by have q0 := lv_neT hc0 (a := 0) (by decide); have q1 := lv_neT hc1 (a := 1) (by decide); have q2 := lv_neT hc2 (a := 2) (by decide); have q3 := lv_neT hc3 (a := 3) (by decide); omega) (by decide) ?_
      refine lv_iload_n hx hb dX6_note_123 rfl (lv_at hl 0 rfl) ?_
      refine lv_if_ne (tgt := 131) hx hb dX6_note_124 (by decide) (fun hc => ?_) (fun hc => ?_)
      · replace hp := fl_f hc hp
        refine lv_aload_n hx hb dX6_note_131 rfl (lv_at hl 1 rfl) ?_
        refine va_get (D := G.1) (ci := 6) (v := .ref a_nw) (C := RX6) (T := TX6) (N := 14) hx hb hts iX6 hown hK.1 hP 0 rfl rfl 3 (by decide) (hts (.fieldLink RX6 13 "SongChoirModel" "now" "[I") (List.mem_of_getElem? (i := 1) rfl)) (fun _ h9 => h9) rfl dX6_note_132 ?_
        refine lv_aload_n hx hb dX6_note_135 rfl (lv_at hl 1 rfl) ?_
        refine va_get (D := G.1) (ci := 6) (v := .ref a_od) (C := RX6) (T := TX6) (N := 14) hx hb hts iX6 hown hK.1 hP 0 rfl rfl 9 (by decide) (hts (.fieldLink RX6 29 "SongChoirModel" "order" "[I") (List.mem_of_getElem? (i := 4) rfl)) (fun _ h9 => h9) rfl dX6_note_136 ?_
        refine lv_iload_n hx hb dX6_note_139 rfl (lv_at hl 0 rfl) ?_
        refine lv_iconst (v := (1 : Int32)) hx hb dX6_note_140 (by decide) ?_
        refine lv_isub hx hb dX6_note_141 ?_
        obtain ⟨hi, hp⟩ := fl_ck_of hp
        refine va_iald hx hb hK.1 hP 2 0 rfl rfl hi dX6_note_142 ?_
        refine lv_iload_n hx hb dX6_note_143 rfl (lv_at hl 2 rfl) ?_
        obtain ⟨q5, hq5, hp⟩ := fl_bd_of hp
        refine fl_roS (As := [.ref a_nw, .int (q2.1 ((q2.2 p0.toNatClampNeg) - (1 : Int32)).toNatClampNeg), .int p0]) (rest := []) C0 (c_M_alike l G a_nw nw (q2.1 ((q2.2 p0.toNatClampNeg) - (1 : Int32)).toNatClampNeg) p0 hq5) (va_cwS 3 hts gX6_note_X6_alike rfl rfl rfl (by decide +kernel) ⟨Nat.le_of_ble_eq_true rfl, Nat.le_of_ble_eq_true rfl⟩) hK hP [1] rfl hS hA rfl hl.1 rfl (Nat.le_of_ble_eq_true rfl) dX6_note_144 ⟨Nat.zero_le _, Nat.zero_le _⟩ (fun H locs hP hS => ?_)
        obtain rfl := Option.some.inj hp
        exact hfin H locs _ ls hP hD hS dX6_note_147 rfl
      · replace hp := fl_t hc hp
        refine lv_iconst (v := (0 : Int32)) hx hb dX6_note_127 (by decide) ?_
        refine lv_goto (tgt := 147) hx hb dX6_note_128 (by decide) ?_
        obtain rfl := Option.some.inj hp
        exact hfin H locs _ ls hP hD hS dX6_note_147 rfl
    · replace hp := fl_f hc hp
      refine lv_iconst (v := (0 : Int32)) hx hb dX6_note_46 (by decide) ?_
      obtain rfl := Option.some.inj hp
      exact hfin H locs _ ls hP hD hS dX6_note_47 rfl
  have hp := hp0
  unfold P_M_note at hp
  refine lv_aload_n hx hb dX6_note_0 rfl (lv_at hl 0 rfl) ?_
  refine lv_iload_n hx hb dX6_note_1 rfl (lv_at hl 1 rfl) ?_
  refine lv_i2l (v := p0.toInt64) hx hb dX6_note_2 rfl ?_
  refine lv_lconst (v := (0 : Int64)) hx hb dX6_note_3 (by decide) ?_
  refine lv_aload_n hx hb dX6_note_4 rfl (lv_at hl 0 rfl) ?_
  refine va_get (D := G.1) (ci := 6) (v := .ref a_nw) (C := RX6) (T := TX6) (N := 14) hx hb hts iX6 hown hK.1 hP 0 rfl rfl 3 (by decide) (hts (.fieldLink RX6 13 "SongChoirModel" "now" "[I") (List.mem_of_getElem? (i := 1) rfl)) (fun _ h9 => h9) rfl dX6_note_5 ?_
  refine lv_iconst (v := (0 : Int32)) hx hb dX6_note_8 (by decide) ?_
  obtain ⟨hi, hp⟩ := fl_ck_of hp
  refine va_iald hx hb hK.1 hP 1 0 rfl rfl hi dX6_note_9 ?_
  refine lv_iconst (v := (1 : Int32)) hx hb dX6_note_10 (by decide) ?_
  refine lv_isub hx hb dX6_note_11 ?_
  refine lv_i2l (v := ((nw (0 : Int32).toNatClampNeg) - (1 : Int32)).toInt64) hx hb dX6_note_12 rfl ?_
  obtain ⟨q1, hq1, hp⟩ := fl_bd_of hp
  refine fl_roS (As := [.long p0.toInt64, .long (0 : Int64), .long (((nw (0 : Int32).toNatClampNeg) - (1 : Int32)).toInt64)]) (rest := [.ref mo]) C0 (c_M_in l G p0.toInt64 (0 : Int64) (((nw (0 : Int32).toNatClampNeg) - (1 : Int32)).toInt64) hq1) (va_cwS 3 hts gX6_note_X6_in rfl rfl rfl (by decide +kernel) ⟨Nat.le_of_ble_eq_true rfl, Nat.le_of_ble_eq_true rfl⟩) hK hP [] rfl hS hA rfl hl.1 rfl (Nat.le_of_ble_eq_true rfl) dX6_note_13 ⟨Nat.zero_le _, Nat.zero_le _⟩ (fun H locs hP hS => ?_)
  refine lv_if_ne (tgt := 23) hx hb dX6_note_16 (by decide) (fun hc => ?_) (fun hc => ?_)
  · replace hp := fl_f hc hp
    refine lv_iload_n hx hb dX6_note_23 rfl (lv_at hl 2 rfl) ?_
    refine lv_i2l (v := p1.toInt64) hx hb dX6_note_24 rfl ?_
    refine lv_lconst (v := (0 : Int64)) hx hb dX6_note_25 (by decide) ?_
    refine lv_ldc2 (v := (4 : Int64)) hx hb hown (hts (.constantLong RX6 130 (4)) (List.mem_of_getElem? (i := 2) rfl)) dX6_note_26 ?_
    obtain ⟨q2, hq2, hp⟩ := fl_bd_of hp
    refine fl_roS (As := [.long p1.toInt64, .long (0 : Int64), .long (4 : Int64)]) (rest := [.ref mo]) C0 (c_M_in l G p1.toInt64 (0 : Int64) (4 : Int64) hq2) (va_cwS 3 hts gX6_note_X6_in rfl rfl rfl (by decide +kernel) ⟨Nat.le_of_ble_eq_true rfl, Nat.le_of_ble_eq_true rfl⟩) hK hP [] rfl hS hA rfl hl.1 rfl (Nat.le_of_ble_eq_true rfl) dX6_note_29 ⟨Nat.zero_le _, Nat.zero_le _⟩ (fun H locs hP hS => ?_)
    refine lv_if_eq (tgt := 39) hx hb dX6_note_32 (by decide) (fun hc => ?_) (fun hc => ?_)
    · replace hp := fl_t hc hp
      refine lv_iconst (v := (2 : Int32)) hx hb dX6_note_39 (by decide) ?_
      exact KJ40 rf od rk (2 : Int32) H locs hP hD hS ls (lv_sub hl [0, 1, 2] rfl) hp
    · replace hp := fl_f hc hp
      refine lv_iconst (v := (0 : Int32)) hx hb dX6_note_35 (by decide) ?_
      refine lv_goto (tgt := 40) hx hb dX6_note_36 (by decide) ?_
      exact KJ40 rf od rk (0 : Int32) H locs hP hD hS ls (lv_sub hl [0, 1, 2] rfl) hp
  · replace hp := fl_t hc hp
    refine lv_iconst (v := (1 : Int32)) hx hb dX6_note_19 (by decide) ?_
    refine lv_goto (tgt := 40) hx hb dX6_note_20 (by decide) ?_
    exact KJ40 rf od rk (1 : Int32) H locs hP hD hS ls (lv_sub hl [0, 1, 2] rfl) hp

noncomputable def P_M_suffix_J10 (rf : Int32) (nw : fl_A) (od : fl_A) (rk : fl_A) (p0 : Int32) (k0 : Int32) : Option (Int32 × Int32 × fl_A × fl_A) := fl_bd (P_M_refused rf k0) (fun q1 => if q1.1 = 0 then fl_bd (P_M_lay od rk nw) (fun q2 => fl_ck (0 : Int32) 126 (if (nw (0 : Int32).toNatClampNeg) ≤ p0 then some ((-1 : Int32), q1.2, q2.1, q2.2) else fl_ck p0 60 (some ((q2.1 p0.toNatClampNeg), q1.2, q2.1, q2.2)))) else some ((0 : Int32), q1.2, od, rk))
noncomputable def P_M_suffix (rf : Int32) (nw : fl_A) (od : fl_A) (rk : fl_A) (p0 : Int32) : Option (Int32 × Int32 × fl_A × fl_A) := if 0 ≤ p0 then P_M_suffix_J10 rf nw od rk p0 (0 : Int32) else P_M_suffix_J10 rf nw od rk p0 (1 : Int32)
set_option maxHeartbeats 4000000 in
set_option maxRecDepth 100000 in
theorem c_M_suffix (l : Launch) (G : fl_G) (mo a_sc a_nw a_tr a_di a_ke a_ik a_od a_rk a_be a_fr : Nat) (ss : Int32) (ac : Int32) (fs : Int32) (rf : Int32) (nw : fl_A) (od : fl_A) (rk : fl_A) (p0 : Int32) {r : (Int32 × Int32 × fl_A × fl_A)} (hp0 : P_M_suffix rf nw od rk p0 = some r) : fl_mu l yX6_suffix wsX6_suffix 3 69 G [.ref mo, .int p0] [(mo, .inr (6, [.int rf, .ref a_sc, .int ss, .ref a_nw, .ref a_tr, .ref a_di, .int ac, .ref a_ke, .ref a_ik, .ref a_od, .ref a_rk, .ref a_be, .ref a_fr, .int fs])), (a_nw, .inl (G.2.1, 126, .inl nw)), (a_od, .inl (G.2.1, 60, .inl od)), (a_rk, .inl (G.2.1, 60, .inl rk))] (some (.int r.1)) [(mo, .inr (6, [.int r.2.1, .ref a_sc, .int ss, .ref a_nw, .ref a_tr, .ref a_di, .int ac, .ref a_ke, .ref a_ik, .ref a_od, .ref a_rk, .ref a_be, .ref a_fr, .int fs])), (a_nw, .inl (G.2.1, 126, .inl nw)), (a_od, .inl (G.2.1, 60, .inl r.2.2.1)), (a_rk, .inl (G.2.1, 60, .inl r.2.2.2))] := by
  refine fl_mui_in cX6_suffix 2 .int RX6 (by decide) rfl rfl (Nat.le_of_ble_eq_true rfl) ?_
  intro p e s m args below meth c ls A Q H locs C0 hK hP hD hS hA hl hfin
  obtain ⟨hx, hb, hml, hown, hts⟩ := id C0
  have iX6 : ∀ w ∈ u_ws RX6 TX6 14, w ∈ wsX6_suffix := fun _ h => List.mem_cons_of_mem _ (List.mem_append_right _ h)
  have hl : lv_has ls 2 [(0, .ref mo), (1, .int p0)] := hl
  have KJ10 : ∀ (rf : Int32) (od : fl_A) (rk : fl_A) (k0 : Int32) (H : Heap) (locs : List Loc), va_P G.1 vwCl [(mo, .inr (6, [.int rf, .ref a_sc, .int ss, .ref a_nw, .ref a_tr, .ref a_di, .int ac, .ref a_ke, .ref a_ik, .ref a_od, .ref a_rk, .ref a_be, .ref a_fr, .int fs])), (a_nw, .inl (G.2.1, 126, .inl nw)), (a_od, .inl (G.2.1, 60, .inl od)), (a_rk, .inl (G.2.1, 60, .inl rk))] H → va_D A [(mo, .inr (6, [.int rf, .ref a_sc, .int ss, .ref a_nw, .ref a_tr, .ref a_di, .int ac, .ref a_ke, .ref a_ik, .ref a_od, .ref a_rk, .ref a_be, .ref a_fr, .int fs])), (a_nw, .inl (G.2.1, 126, .inl nw)), (a_od, .inl (G.2.1, 60, .inl od)), (a_rk, .inl (G.2.1, 60, .inl rk))] → va_S A s.heap H locs → ∀ (ls : Array Slot), lv_has ls 2 [(0, .ref mo), (1, .int p0)] → P_M_suffix_J10 rf nw od rk p0 k0 = some r → W p l e (fl_rm 3 69) s m args below meth c H locs 0 0 Q (F0 m 10 ls [.int k0, .ref mo]) := by
    intro rf od rk k0 H locs hP hD hS ls hl hp
    unfold P_M_suffix_J10 at hp
    obtain ⟨q1, hq1, hp⟩ := fl_bd_of hp
    refine fl_muV (As := [.int k0]) (rest := []) [(mo, .inr (6, [.int q1.2, .ref a_sc, .int ss, .ref a_nw, .ref a_tr, .ref a_di, .int ac, .ref a_ke, .ref a_ik, .ref a_od, .ref a_rk, .ref a_be, .ref a_fr, .int fs])), (a_nw, .inl (G.2.1, 126, .inl nw)), (a_od, .inl (G.2.1, 60, .inl od)), (a_rk, .inl (G.2.1, 60, .inl rk))] C0 (c_M_refused l G mo a_sc a_nw a_tr a_di a_ke a_ik a_od a_rk a_be a_fr ss ac fs rf k0 hq1) (cwV 1 hts gX6_suffix_X6_refused rfl rfl rfl (by decide +kernel) ⟨Nat.le_of_ble_eq_true rfl, Nat.le_of_ble_eq_true rfl⟩) hK hP hD [0] [1, 2, 3] [3, 0, 1, 2] rfl rfl (by decide) (by decide) rfl 0 6 rfl rfl rfl hS hA rfl hl.1 rfl (Nat.le_of_ble_eq_true rfl) dX6_suffix_10 ⟨Nat.zero_le _, Nat.zero_le _⟩ (fun H locs hP hD hS => ?_)
    refine lv_if_eq (tgt := 18) hx hb dX6_suffix_13 (by decide) (fun hc => ?_) (fun hc => ?_)
    · replace hp := fl_t hc hp
      refine lv_aload_n hx hb dX6_suffix_18 rfl (lv_at hl 0 rfl) ?_
      refine lv_aload_n hx hb dX6_suffix_19 rfl (lv_at hl 0 rfl) ?_
      refine va_get (D := G.1) (ci := 6) (v := .ref a_nw) (C := RX6) (T := TX6) (N := 14) hx hb hts iX6 hown hK.1 hP 0 rfl rfl 3 (by decide) (hts (.fieldLink RX6 13 "SongChoirModel" "now" "[I") (List.mem_of_getElem? (i := 1) rfl)) (fun _ h9 => h9) rfl dX6_suffix_20 ?_
      obtain ⟨q2, hq2, hp⟩ := fl_bd_of hp
      refine fl_muV (As := [.ref a_nw]) (rest := []) [(mo, .inr (6, [.int q1.2, .ref a_sc, .int ss, .ref a_nw, .ref a_tr, .ref a_di, .int ac, .ref a_ke, .ref a_ik, .ref a_od, .ref a_rk, .ref a_be, .ref a_fr, .int fs])), (a_nw, .inl (G.2.1, 126, .inl nw)), (a_od, .inl (G.2.1, 60, .inl q2.1)), (a_rk, .inl (G.2.1, 60, .inl q2.2))] C0 (c_M_lay l G mo a_sc a_nw a_tr a_di a_ke a_ik a_od a_rk a_be a_fr a_nw q1.2 ss ac fs od rk nw hq2) (cwV 1 hts gX6_suffix_X6_lay rfl rfl rfl (by decide +kernel) ⟨Nat.le_of_ble_eq_true rfl, Nat.le_of_ble_eq_true rfl⟩) hK hP hD [0, 2, 3, 1] [] [0, 3, 1, 2] rfl rfl (by decide) (by decide) rfl 0 6 rfl rfl rfl hS hA rfl hl.1 rfl (Nat.le_of_ble_eq_true rfl) dX6_suffix_23 ⟨Nat.zero_le _, Nat.zero_le _⟩ (fun H locs hP hD hS => ?_)
      refine lv_iload_n hx hb dX6_suffix_26 rfl (lv_at hl 1 rfl) ?_
      refine lv_aload_n hx hb dX6_suffix_27 rfl (lv_at hl 0 rfl) ?_
      refine va_get (D := G.1) (ci := 6) (v := .ref a_nw) (C := RX6) (T := TX6) (N := 14) hx hb hts iX6 hown hK.1 hP 0 rfl rfl 3 (by decide) (hts (.fieldLink RX6 13 "SongChoirModel" "now" "[I") (List.mem_of_getElem? (i := 1) rfl)) (fun _ h9 => h9) rfl dX6_suffix_28 ?_
      refine lv_iconst (v := (0 : Int32)) hx hb dX6_suffix_31 (by decide) ?_
      obtain ⟨hi, hp⟩ := fl_ck_of hp
      refine va_iald hx hb hK.1 hP 1 0 rfl rfl hi dX6_suffix_32 ?_
      refine lv_icmp_ge (tgt := 45) hx hb dX6_suffix_33 (by decide) (fun hc => ?_) (fun hc => ?_)
      · replace hp := fl_t hc hp
        refine lv_iconst (v := (-1 : Int32)) hx hb dX6_suffix_45 (by decide) ?_
        obtain rfl := Option.some.inj hp
        exact hfin H locs _ ls hP hD hS dX6_suffix_46 rfl
      · replace hp := fl_f hc hp
        refine lv_aload_n hx hb dX6_suffix_36 rfl (lv_at hl 0 rfl) ?_
        refine va_get (D := G.1) (ci := 6) (v := .ref a_od) (C := RX6) (T := TX6) (N := 14) hx hb hts iX6 hown hK.1 hP 0 rfl rfl 9 (by decide) (hts (.fieldLink RX6 29 "SongChoirModel" "order" "[I") (List.mem_of_getElem? (i := 2) rfl)) (fun _ h9 => h9) rfl dX6_suffix_37 ?_
        refine lv_iload_n hx hb dX6_suffix_40 rfl (lv_at hl 1 rfl) ?_
        obtain ⟨hi, hp⟩ := fl_ck_of hp
        refine va_iald hx hb hK.1 hP 2 0 rfl rfl hi dX6_suffix_41 ?_
        refine lv_goto (tgt := 46) hx hb dX6_suffix_42 (by decide) ?_
        obtain rfl := Option.some.inj hp
        exact hfin H locs _ ls hP hD hS dX6_suffix_46 rfl
    · replace hp := fl_f hc hp
      refine lv_iconst (v := (0 : Int32)) hx hb dX6_suffix_16 (by decide) ?_
      obtain rfl := Option.some.inj hp
      exact hfin H locs _ ls hP hD hS dX6_suffix_17 rfl
  have hp := hp0
  unfold P_M_suffix at hp
  refine lv_aload_n hx hb dX6_suffix_0 rfl (lv_at hl 0 rfl) ?_
  refine lv_iload_n hx hb dX6_suffix_1 rfl (lv_at hl 1 rfl) ?_
  refine lv_if_ge (tgt := 9) hx hb dX6_suffix_2 (by decide) (fun hc => ?_) (fun hc => ?_)
  · replace hp := fl_t hc hp
    refine lv_iconst (v := (0 : Int32)) hx hb dX6_suffix_9 (by decide) ?_
    exact KJ10 rf od rk (0 : Int32) H locs hP hD hS ls (lv_sub hl [0, 1] rfl) hp
  · replace hp := fl_f hc hp
    refine lv_iconst (v := (1 : Int32)) hx hb dX6_suffix_5 (by decide) ?_
    refine lv_goto (tgt := 10) hx hb dX6_suffix_6 (by decide) ?_
    exact KJ10 rf od rk (1 : Int32) H locs hP hD hS ls (lv_sub hl [0, 1] rfl) hp

noncomputable def P_M_isVerse (nw : fl_A) (p0 : Int32) : Option Int32 := fl_ck (1 : Int32) 126 (fl_bd (P_M_in p0.toInt64 (0 : Int64) (((nw (1 : Int32).toNatClampNeg) - (1 : Int32)).toInt64)) (fun q1 => fl_bl q1 (some q1)))
set_option maxHeartbeats 4000000 in
set_option maxRecDepth 100000 in
theorem c_M_isVerse (l : Launch) (G : fl_G) (mo a_sc a_nw a_tr a_di a_ke a_ik a_od a_rk a_be a_fr : Nat) (rf : Int32) (ss : Int32) (ac : Int32) (fs : Int32) (nw : fl_A) (p0 : Int32) {r : Int32} (hp0 : P_M_isVerse nw p0 = some r) : fl_ro l yX6_isVerse wsX6_isVerse 1 25 G [.ref mo, .int p0] [(mo, .inr (6, [.int rf, .ref a_sc, .int ss, .ref a_nw, .ref a_tr, .ref a_di, .int ac, .ref a_ke, .ref a_ik, .ref a_od, .ref a_rk, .ref a_be, .ref a_fr, .int fs])), (a_nw, .inl (G.2.1, 126, .inl nw))] (.int r) := by
  refine fl_ro_in cX6_isVerse 2 .boolean RX6 (by decide) rfl rfl (Nat.le_of_ble_eq_true rfl) ?_
  intro p e s m args below meth c ls Q H locs C0 hK hP hS hl hfin
  have hA : ∀ q : Nat, s.heap.size ≤ q → va_A [] s.heap.size q := fl_hA _ _
  obtain ⟨hx, hb, hml, hown, hts⟩ := id C0
  have iX6 : ∀ w ∈ u_ws RX6 TX6 14, w ∈ wsX6_isVerse := fun _ h => List.mem_cons_of_mem _ (List.mem_append_right _ h)
  have hl : lv_has ls 2 [(0, .ref mo), (1, .int p0)] := hl
  have hp := hp0
  unfold P_M_isVerse at hp
  refine lv_iload_n hx hb dX6_isVerse_0 rfl (lv_at hl 1 rfl) ?_
  refine lv_i2l (v := p0.toInt64) hx hb dX6_isVerse_1 rfl ?_
  refine lv_lconst (v := (0 : Int64)) hx hb dX6_isVerse_2 (by decide) ?_
  refine lv_aload_n hx hb dX6_isVerse_3 rfl (lv_at hl 0 rfl) ?_
  refine va_get (D := G.1) (ci := 6) (v := .ref a_nw) (C := RX6) (T := TX6) (N := 14) hx hb hts iX6 hown hK.1 hP 0 rfl rfl 3 (by decide) (hts (.fieldLink RX6 13 "SongChoirModel" "now" "[I") (List.mem_of_getElem? (i := 1) rfl)) (fun _ h9 => h9) rfl dX6_isVerse_4 ?_
  refine lv_iconst (v := (1 : Int32)) hx hb dX6_isVerse_7 (by decide) ?_
  obtain ⟨hi, hp⟩ := fl_ck_of hp
  refine va_iald hx hb hK.1 hP 1 0 rfl rfl hi dX6_isVerse_8 ?_
  refine lv_iconst (v := (1 : Int32)) hx hb dX6_isVerse_9 (by decide) ?_
  refine lv_isub hx hb dX6_isVerse_10 ?_
  refine lv_i2l (v := ((nw (1 : Int32).toNatClampNeg) - (1 : Int32)).toInt64) hx hb dX6_isVerse_11 rfl ?_
  obtain ⟨q1, hq1, hp⟩ := fl_bd_of hp
  refine fl_roS (As := [.long p0.toInt64, .long (0 : Int64), .long (((nw (1 : Int32).toNatClampNeg) - (1 : Int32)).toInt64)]) (rest := []) C0 (c_M_in l G p0.toInt64 (0 : Int64) (((nw (1 : Int32).toNatClampNeg) - (1 : Int32)).toInt64) hq1) (va_cwS 3 hts gX6_isVerse_X6_in rfl rfl rfl (by decide +kernel) ⟨Nat.le_of_ble_eq_true rfl, Nat.le_of_ble_eq_true rfl⟩) hK hP [] rfl hS hA rfl hl.1 rfl (Nat.le_of_ble_eq_true rfl) dX6_isVerse_12 ⟨Nat.zero_le _, Nat.zero_le _⟩ (fun H locs hP hS => ?_)
  obtain ⟨hz, hp⟩ := fl_bl_of hp
  obtain rfl := Option.some.inj hp
  exact hfin H locs _ ls hS dX6_isVerse_15 hz

noncomputable def P_M_repeatIn_J78 (nw : fl_A) (v3 : Int32) (v5 : Int32) (k0 : Int32) : Option ((Int32 × Int32) ⊕ Int32) := some (.inl (k0, (v5 + (1 : Int32))))
noncomputable def P_M_repeatIn_J62 (nw : fl_A) (v3 : Int32) (v4 : Int32) (v5 : Int32) (k0 : Int32) : Option ((Int32 × Int32) ⊕ Int32) := if k0 ≤ v4 then P_M_repeatIn_J78 nw v3 v5 v4 else P_M_repeatIn_J78 nw v3 v5 k0
noncomputable def P_M_repeatIn_L27 (nw : fl_A) (v3 : Int32) (z27 : (Int32 × Int32)) : Option ((Int32 × Int32) ⊕ Int32) := if v3 ≤ z27.2 then some (.inr z27.1) else fl_bd (P_M_repeatAt nw z27.2) (fun q1 => if (v3 - z27.2) ≤ q1 then P_M_repeatIn_J62 nw v3 z27.1 z27.2 (v3 - z27.2) else P_M_repeatIn_J62 nw v3 z27.1 z27.2 q1)
noncomputable def P_M_repeatIn (nw : fl_A) (p0 : Int32) : Option Int32 := fl_bd (P_M_beginOf nw p0) (fun q1 => fl_ck ((6 : Int32) + p0) 126 (fl_loop (P_M_repeatIn_L27 nw (q1 + (nw ((6 : Int32) + p0).toNatClampNeg))) ((0 : Int32), q1)))
set_option maxHeartbeats 4000000 in
set_option maxRecDepth 100000 in
theorem c_M_repeatIn (l : Launch) (G : fl_G) (mo a_sc a_nw a_tr a_di a_ke a_ik a_od a_rk a_be a_fr : Nat) (rf : Int32) (ss : Int32) (ac : Int32) (fs : Int32) (nw : fl_A) (p0 : Int32) {r : Int32} (hp0 : P_M_repeatIn nw p0 = some r) : fl_ro l yX6_repeatIn wsX6_repeatIn 2 47 G [.ref mo, .int p0] [(mo, .inr (6, [.int rf, .ref a_sc, .int ss, .ref a_nw, .ref a_tr, .ref a_di, .int ac, .ref a_ke, .ref a_ik, .ref a_od, .ref a_rk, .ref a_be, .ref a_fr, .int fs])), (a_nw, .inl (G.2.1, 126, .inl nw))] (.int r) := by
  refine fl_ro_in cX6_repeatIn 7 .int RX6 (by decide) rfl rfl (Nat.le_of_ble_eq_true rfl) ?_
  intro p e s m args below meth c ls Q H locs C0 hK hP hS hl hfin
  have hA : ∀ q : Nat, s.heap.size ≤ q → va_A [] s.heap.size q := fl_hA _ _
  obtain ⟨hx, hb, hml, hown, hts⟩ := id C0
  have iX6 : ∀ w ∈ u_ws RX6 TX6 14, w ∈ wsX6_repeatIn := fun _ h => List.mem_cons_of_mem _ (List.mem_append_right _ h)
  have hl : lv_has ls 7 [(0, .ref mo), (1, .int p0)] := hl
  have KL27 : ∀ (v3 : Int32) (n0 : Nat) (z27 : (Int32 × Int32)) (H : Heap) (locs : List Loc), va_P G.1 vwCl [(mo, .inr (6, [.int rf, .ref a_sc, .int ss, .ref a_nw, .ref a_tr, .ref a_di, .int ac, .ref a_ke, .ref a_ik, .ref a_od, .ref a_rk, .ref a_be, .ref a_fr, .int fs])), (a_nw, .inl (G.2.1, 126, .inl nw))] H → va_S (va_A [] s.heap.size) s.heap H locs → ∀ (ls : Array Slot), lv_has ls 7 [(0, .ref mo), (3, .int v3), (4, .int z27.1), (5, .int z27.2)] → fl_loopN (P_M_repeatIn_L27 nw v3) n0 z27 = some r → W p l e (fl_rm 2 47) s m args below meth c H locs 0 0 Q (F0 m 27 ls []) := by
    intro v3 n0
    induction n0 with
    | zero => intro z27 H locs hP hS ls hl hn; exact (fl_loopN_0 hn).elim
    | succ n0 ih27 =>
      intro z27 H locs hP hS ls hl hn
      obtain ⟨y27, hb27, hy27⟩ := fl_loopN_step hn
      clear hn
      have KJ78 : ∀ (v5 : Int32) (k0 : Int32) (H : Heap) (locs : List Loc), va_P G.1 vwCl [(mo, .inr (6, [.int rf, .ref a_sc, .int ss, .ref a_nw, .ref a_tr, .ref a_di, .int ac, .ref a_ke, .ref a_ik, .ref a_od, .ref a_rk, .ref a_be, .ref a_fr, .int fs])), (a_nw, .inl (G.2.1, 126, .inl nw))] H → va_S (va_A [] s.heap.size) s.heap H locs → ∀ (ls : Array Slot), lv_has ls 7 [(0, .ref mo), (3, .int v3), (5, .int v5)] → P_M_repeatIn_J78 nw v3 v5 k0 = some y27 → W p l e (fl_rm 2 47) s m args below meth c H locs 0 0 Q (F0 m 78 ls [.int k0]) := by
        intro v5 k0 H locs hP hS ls hl hp
        unfold P_M_repeatIn_J78 at hp
        refine lv_istore (lv' := [(4, .int k0), (0, .ref mo), (3, .int v3), (5, .int v5)]) hx hb dX6_repeatIn_78 hl (by decide) rfl (fun ls hl => ?_)
        refine lv_iinc (v := (v5 + (1 : Int32))) (lv' := [(5, .int (v5 + (1 : Int32))), (4, .int k0), (0, .ref mo), (3, .int v3)]) hx hb dX6_repeatIn_80 hl (k := 3) rfl rfl (by decide) rfl (fun ls hl => ?_)
        refine lv_goto (tgt := 27) hx hb dX6_repeatIn_83 (by decide) ?_
        obtain rfl := Option.some.inj hp
        exact ih27 (k0, (v5 + (1 : Int32))) H locs hP hS ls (lv_sub hl [2, 3, 1, 0] rfl) (fl_cont_inl hy27)
      have KJ62 : ∀ (v4 : Int32) (v5 : Int32) (k0 : Int32) (H : Heap) (locs : List Loc), va_P G.1 vwCl [(mo, .inr (6, [.int rf, .ref a_sc, .int ss, .ref a_nw, .ref a_tr, .ref a_di, .int ac, .ref a_ke, .ref a_ik, .ref a_od, .ref a_rk, .ref a_be, .ref a_fr, .int fs])), (a_nw, .inl (G.2.1, 126, .inl nw))] H → va_S (va_A [] s.heap.size) s.heap H locs → ∀ (ls : Array Slot), lv_has ls 7 [(0, .ref mo), (3, .int v3), (4, .int v4), (5, .int v5)] → P_M_repeatIn_J62 nw v3 v4 v5 k0 = some y27 → W p l e (fl_rm 2 47) s m args below meth c H locs 0 0 Q (F0 m 62 ls [.int k0]) := by
        intro v4 v5 k0 H locs hP hS ls hl hp
        unfold P_M_repeatIn_J62 at hp
        refine lv_istore (lv' := [(6, .int k0), (0, .ref mo), (3, .int v3), (4, .int v4), (5, .int v5)]) hx hb dX6_repeatIn_62 hl (by decide) rfl (fun ls hl => ?_)
        refine lv_iload hx hb dX6_repeatIn_64 (lv_at hl 0 rfl) ?_
        refine lv_iload hx hb dX6_repeatIn_66 (lv_at hl 3 rfl) ?_
        refine lv_icmp_le (tgt := 76) hx hb dX6_repeatIn_68 (by decide) (fun hc => ?_) (fun hc => ?_)
        · replace hp := fl_t hc hp
          refine lv_iload hx hb dX6_repeatIn_76 (lv_at hl 3 rfl) ?_
          exact KJ78 v5 v4 H locs hP hS ls (lv_sub hl [1, 2, 4] rfl) hp
        · replace hp := fl_f hc hp
          refine lv_iload hx hb dX6_repeatIn_71 (lv_at hl 0 rfl) ?_
          refine lv_goto (tgt := 78) hx hb dX6_repeatIn_73 (by decide) ?_
          exact KJ78 v5 k0 H locs hP hS ls (lv_sub hl [1, 2, 4] rfl) hp
      have hp := hb27
      unfold P_M_repeatIn_L27 at hp
      refine lv_iload hx hb dX6_repeatIn_27 (lv_at hl 3 rfl) ?_
      refine lv_iload_n hx hb dX6_repeatIn_29 rfl (lv_at hl 1 rfl) ?_
      refine lv_icmp_ge (tgt := 86) hx hb dX6_repeatIn_30 (by decide) (fun hc => ?_) (fun hc => ?_)
      · replace hp := fl_t hc hp
        refine lv_iload hx hb dX6_repeatIn_86 (lv_at hl 2 rfl) ?_
        obtain rfl := Option.some.inj hp
        obtain rfl := fl_cont_inr hy27
        exact hfin H locs _ ls hS dX6_repeatIn_88 rfl
      · replace hp := fl_f hc hp
        refine lv_aload_n hx hb dX6_repeatIn_33 rfl (lv_at hl 0 rfl) ?_
        refine va_get (D := G.1) (ci := 6) (v := .ref a_nw) (C := RX6) (T := TX6) (N := 14) hx hb hts iX6 hown hK.1 hP 0 rfl rfl 3 (by decide) (hts (.fieldLink RX6 13 "SongChoirModel" "now" "[I") (List.mem_of_getElem? (i := 1) rfl)) (fun _ h9 => h9) rfl dX6_repeatIn_34 ?_
        refine lv_iload hx hb dX6_repeatIn_37 (lv_at hl 3 rfl) ?_
        obtain ⟨q1, hq1, hp⟩ := fl_bd_of hp
        refine fl_roS (As := [.ref a_nw, .int z27.2]) (rest := []) C0 (c_M_repeatAt l G a_nw nw z27.2 hq1) (va_cwS 2 hts gX6_repeatIn_X6_repeatAt rfl rfl rfl (by decide +kernel) ⟨Nat.le_of_ble_eq_true rfl, Nat.le_of_ble_eq_true rfl⟩) hK hP [1] rfl hS hA rfl hl.1 rfl (Nat.le_of_ble_eq_true rfl) dX6_repeatIn_39 ⟨Nat.zero_le _, Nat.zero_le _⟩ (fun H locs hP hS => ?_)
        refine lv_istore (lv' := [(6, .int q1), (0, .ref mo), (3, .int v3), (4, .int z27.1), (5, .int z27.2)]) hx hb dX6_repeatIn_42 hl (by decide) rfl (fun ls hl => ?_)
        refine lv_iload hx hb dX6_repeatIn_44 (lv_at hl 0 rfl) ?_
        refine lv_iload_n hx hb dX6_repeatIn_46 rfl (lv_at hl 2 rfl) ?_
        refine lv_iload hx hb dX6_repeatIn_47 (lv_at hl 4 rfl) ?_
        refine lv_isub hx hb dX6_repeatIn_49 ?_
        refine lv_icmp_ge (tgt := 58) hx hb dX6_repeatIn_50 (by decide) (fun hc => ?_) (fun hc => ?_)
        · replace hp := fl_t hc hp
          refine lv_iload_n hx hb dX6_repeatIn_58 rfl (lv_at hl 2 rfl) ?_
          refine lv_iload hx hb dX6_repeatIn_59 (lv_at hl 4 rfl) ?_
          refine lv_isub hx hb dX6_repeatIn_61 ?_
          exact KJ62 z27.1 z27.2 (v3 - z27.2) H locs hP hS ls (lv_sub hl [1, 2, 3, 4] rfl) hp
        · replace hp := fl_f hc hp
          refine lv_iload hx hb dX6_repeatIn_53 (lv_at hl 0 rfl) ?_
          refine lv_goto (tgt := 62) hx hb dX6_repeatIn_55 (by decide) ?_
          exact KJ62 z27.1 z27.2 q1 H locs hP hS ls (lv_sub hl [1, 2, 3, 4] rfl) hp
  have hp := hp0
  unfold P_M_repeatIn at hp
  refine lv_aload_n hx hb dX6_repeatIn_0 rfl (lv_at hl 0 rfl) ?_
  refine va_get (D := G.1) (ci := 6) (v := .ref a_nw) (C := RX6) (T := TX6) (N := 14) hx hb hts iX6 hown hK.1 hP 0 rfl rfl 3 (by decide) (hts (.fieldLink RX6 13 "SongChoirModel" "now" "[I") (List.mem_of_getElem? (i := 1) rfl)) (fun _ h9 => h9) rfl dX6_repeatIn_1 ?_
  refine lv_iload_n hx hb dX6_repeatIn_4 rfl (lv_at hl 1 rfl) ?_
  obtain ⟨q1, hq1, hp⟩ := fl_bd_of hp
  refine fl_roS (As := [.ref a_nw, .int p0]) (rest := []) C0 (c_M_beginOf l G a_nw nw p0 hq1) (va_cwS 2 hts gX6_repeatIn_X6_beginOf rfl rfl rfl (by decide +kernel) ⟨Nat.le_of_ble_eq_true rfl, Nat.le_of_ble_eq_true rfl⟩) hK hP [1] rfl hS hA rfl hl.1 rfl (Nat.le_of_ble_eq_true rfl) dX6_repeatIn_5 ⟨Nat.zero_le _, Nat.zero_le _⟩ (fun H locs hP hS => ?_)
  refine lv_istore_n (lv' := [(2, .int q1), (0, .ref mo), (1, .int p0)]) hx hb dX6_repeatIn_8 rfl hl (by decide) rfl (fun ls hl => ?_)
  refine lv_iload_n hx hb dX6_repeatIn_9 rfl (lv_at hl 0 rfl) ?_
  refine lv_aload_n hx hb dX6_repeatIn_10 rfl (lv_at hl 1 rfl) ?_
  refine va_get (D := G.1) (ci := 6) (v := .ref a_nw) (C := RX6) (T := TX6) (N := 14) hx hb hts iX6 hown hK.1 hP 0 rfl rfl 3 (by decide) (hts (.fieldLink RX6 13 "SongChoirModel" "now" "[I") (List.mem_of_getElem? (i := 1) rfl)) (fun _ h9 => h9) rfl dX6_repeatIn_11 ?_
  refine lv_bipush (v := (6 : Int32)) hx hb dX6_repeatIn_14 (by decide) ?_
  refine lv_iload_n hx hb dX6_repeatIn_16 rfl (lv_at hl 2 rfl) ?_
  refine lv_iadd hx hb dX6_repeatIn_17 ?_
  obtain ⟨hi, hp⟩ := fl_ck_of hp
  refine va_iald hx hb hK.1 hP 1 0 rfl rfl hi dX6_repeatIn_18 ?_
  refine lv_iadd hx hb dX6_repeatIn_19 ?_
  refine lv_istore_n (lv' := [(3, .int (q1 + (nw ((6 : Int32) + p0).toNatClampNeg))), (2, .int q1), (0, .ref mo), (1, .int p0)]) hx hb dX6_repeatIn_20 rfl hl (by decide) rfl (fun ls hl => ?_)
  refine lv_iconst (v := (0 : Int32)) hx hb dX6_repeatIn_21 (by decide) ?_
  refine lv_istore (lv' := [(4, .int (0 : Int32)), (3, .int (q1 + (nw ((6 : Int32) + p0).toNatClampNeg))), (2, .int q1), (0, .ref mo), (1, .int p0)]) hx hb dX6_repeatIn_22 hl (by decide) rfl (fun ls hl => ?_)
  refine lv_iload_n hx hb dX6_repeatIn_24 rfl (lv_at hl 2 rfl) ?_
  refine lv_istore (lv' := [(5, .int q1), (4, .int (0 : Int32)), (3, .int (q1 + (nw ((6 : Int32) + p0).toNatClampNeg))), (2, .int q1), (0, .ref mo), (1, .int p0)]) hx hb dX6_repeatIn_25 hl (by decide) rfl (fun ls hl => ?_)
  obtain ⟨n0, hn⟩ := fl_loop_ex hp
  exact KL27 (q1 + (nw ((6 : Int32) + p0).toNatClampNeg)) n0 ((0 : Int32), q1) H locs hP hS ls (lv_sub hl [4, 2, 1, 0] rfl) hn

noncomputable def P_M_verse_J30 (rf : Int32) (nw : fl_A) (p0 : Int32) (p1 : Int32) (k0 : Int32) : Option (Int32 × Int32) := fl_bd (P_M_refused rf k0) (fun q1 => if q1.1 = 0 then if p1 = 0 then fl_bd (P_M_beginOf nw p0) (fun q3 => some (q3, q1.2)) else if p1 = (1 : Int32) then fl_ck ((6 : Int32) + p0) 126 (some ((nw ((6 : Int32) + p0).toNatClampNeg), q1.2)) else fl_bd (P_M_repeatIn nw p0) (fun q2 => some (q2, q1.2)) else some ((0 : Int32), q1.2))
noncomputable def P_M_verse (rf : Int32) (nw : fl_A) (p0 : Int32) (p1 : Int32) : Option (Int32 × Int32) := fl_bd (P_M_isVerse nw p0) (fun q1 => if q1 = 0 then P_M_verse_J30 rf nw p0 p1 (1 : Int32) else fl_bd (P_M_in p1.toInt64 (0 : Int64) (2 : Int64)) (fun q2 => if q2 = 0 then P_M_verse_J30 rf nw p0 p1 (2 : Int32) else P_M_verse_J30 rf nw p0 p1 (0 : Int32)))
set_option maxHeartbeats 4000000 in
set_option maxRecDepth 100000 in
theorem c_M_verse (l : Launch) (G : fl_G) (mo a_sc a_nw a_tr a_di a_ke a_ik a_od a_rk a_be a_fr : Nat) (ss : Int32) (ac : Int32) (fs : Int32) (rf : Int32) (nw : fl_A) (p0 : Int32) (p1 : Int32) {r : (Int32 × Int32)} (hp0 : P_M_verse rf nw p0 p1 = some r) : fl_mu l yX6_verse wsX6_verse 3 73 G [.ref mo, .int p0, .int p1] [(mo, .inr (6, [.int rf, .ref a_sc, .int ss, .ref a_nw, .ref a_tr, .ref a_di, .int ac, .ref a_ke, .ref a_ik, .ref a_od, .ref a_rk, .ref a_be, .ref a_fr, .int fs])), (a_nw, .inl (G.2.1, 126, .inl nw))] (some (.int r.1)) [(mo, .inr (6, [.int r.2, .ref a_sc, .int ss, .ref a_nw, .ref a_tr, .ref a_di, .int ac, .ref a_ke, .ref a_ik, .ref a_od, .ref a_rk, .ref a_be, .ref a_fr, .int fs])), (a_nw, .inl (G.2.1, 126, .inl nw))] := by
  refine fl_mui_in cX6_verse 3 .int RX6 (by decide) rfl rfl (Nat.le_of_ble_eq_true rfl) ?_
  intro p e s m args below meth c ls A Q H locs C0 hK hP hD hS hA hl hfin
  obtain ⟨hx, hb, hml, hown, hts⟩ := id C0
  have iX6 : ∀ w ∈ u_ws RX6 TX6 14, w ∈ wsX6_verse := fun _ h => List.mem_cons_of_mem _ (List.mem_append_right _ h)
  have hl : lv_has ls 3 [(0, .ref mo), (1, .int p0), (2, .int p1)] := hl
  have KJ30 : ∀ (rf : Int32) (k0 : Int32) (H : Heap) (locs : List Loc), va_P G.1 vwCl [(mo, .inr (6, [.int rf, .ref a_sc, .int ss, .ref a_nw, .ref a_tr, .ref a_di, .int ac, .ref a_ke, .ref a_ik, .ref a_od, .ref a_rk, .ref a_be, .ref a_fr, .int fs])), (a_nw, .inl (G.2.1, 126, .inl nw))] H → va_D A [(mo, .inr (6, [.int rf, .ref a_sc, .int ss, .ref a_nw, .ref a_tr, .ref a_di, .int ac, .ref a_ke, .ref a_ik, .ref a_od, .ref a_rk, .ref a_be, .ref a_fr, .int fs])), (a_nw, .inl (G.2.1, 126, .inl nw))] → va_S A s.heap H locs → ∀ (ls : Array Slot), lv_has ls 3 [(0, .ref mo), (1, .int p0), (2, .int p1)] → P_M_verse_J30 rf nw p0 p1 k0 = some r → W p l e (fl_rm 3 73) s m args below meth c H locs 0 0 Q (F0 m 30 ls [.int k0, .ref mo]) := by
    intro rf k0 H locs hP hD hS ls hl hp
    unfold P_M_verse_J30 at hp
    obtain ⟨q1, hq1, hp⟩ := fl_bd_of hp
    refine fl_muV (As := [.int k0]) (rest := []) [(mo, .inr (6, [.int q1.2, .ref a_sc, .int ss, .ref a_nw, .ref a_tr, .ref a_di, .int ac, .ref a_ke, .ref a_ik, .ref a_od, .ref a_rk, .ref a_be, .ref a_fr, .int fs])), (a_nw, .inl (G.2.1, 126, .inl nw))] C0 (c_M_refused l G mo a_sc a_nw a_tr a_di a_ke a_ik a_od a_rk a_be a_fr ss ac fs rf k0 hq1) (cwV 1 hts gX6_verse_X6_refused rfl rfl rfl (by decide +kernel) ⟨Nat.le_of_ble_eq_true rfl, Nat.le_of_ble_eq_true rfl⟩) hK hP hD [0] [1] [1, 0] rfl rfl (by decide) (by decide) rfl 0 6 rfl rfl rfl hS hA rfl hl.1 rfl (Nat.le_of_ble_eq_true rfl) dX6_verse_30 ⟨Nat.zero_le _, Nat.zero_le _⟩ (fun H locs hP hD hS => ?_)
    refine lv_if_eq (tgt := 38) hx hb dX6_verse_33 (by decide) (fun hc => ?_) (fun hc => ?_)
    · replace hp := fl_t hc hp
      refine lv_iload_n hx hb dX6_verse_38 rfl (lv_at hl 2 rfl) ?_
      refine lv_if_ne (tgt := 53) hx hb dX6_verse_39 (by decide) (fun hc => ?_) (fun hc => ?_)
      · replace hp := fl_f hc hp
        refine lv_iload_n hx hb dX6_verse_53 rfl (lv_at hl 2 rfl) ?_
        refine lv_iconst (v := (1 : Int32)) hx hb dX6_verse_54 (by decide) ?_
        refine lv_icmp_ne (tgt := 70) hx hb dX6_verse_55 (by decide) (fun hc => ?_) (fun hc => ?_)
        · replace hp := fl_f hc hp
          refine lv_aload_n hx hb dX6_verse_70 rfl (lv_at hl 0 rfl) ?_
          refine lv_iload_n hx hb dX6_verse_71 rfl (lv_at hl 1 rfl) ?_
          obtain ⟨q2, hq2, hp⟩ := fl_bd_of hp
          refine fl_roV (As := [.int p0]) (rest := []) C0 (c_M_repeatIn l G mo a_sc a_nw a_tr a_di a_ke a_ik a_od a_rk a_be a_fr q1.2 ss ac fs nw p0 hq2) (cwV 1 hts gX6_verse_X6_repeatIn rfl rfl rfl (by decide +kernel) ⟨Nat.le_of_ble_eq_true rfl, Nat.le_of_ble_eq_true rfl⟩) hK hP [0, 1] rfl 0 6 rfl rfl rfl hS hA rfl hl.1 rfl (Nat.le_of_ble_eq_true rfl) dX6_verse_72 ⟨Nat.zero_le _, Nat.zero_le _⟩ (fun H locs hP hS => ?_)
          obtain rfl := Option.some.inj hp
          exact hfin H locs _ ls hP hD hS dX6_verse_75 rfl
        · replace hp := fl_t hc hp
          refine lv_aload_n hx hb dX6_verse_58 rfl (lv_at hl 0 rfl) ?_
          refine va_get (D := G.1) (ci := 6) (v := .ref a_nw) (C := RX6) (T := TX6) (N := 14) hx hb hts iX6 hown hK.1 hP 0 rfl rfl 3 (by decide) (hts (.fieldLink RX6 13 "SongChoirModel" "now" "[I") (List.mem_of_getElem? (i := 2) rfl)) (fun _ h9 => h9) rfl dX6_verse_59 ?_
          refine lv_bipush (v := (6 : Int32)) hx hb dX6_verse_62 (by decide) ?_
          refine lv_iload_n hx hb dX6_verse_64 rfl (lv_at hl 1 rfl) ?_
          refine lv_iadd hx hb dX6_verse_65 ?_
          obtain ⟨hi, hp⟩ := fl_ck_of hp
          refine va_iald hx hb hK.1 hP 1 0 rfl rfl hi dX6_verse_66 ?_
          refine lv_goto (tgt := 75) hx hb dX6_verse_67 (by decide) ?_
          obtain rfl := Option.some.inj hp
          exact hfin H locs _ ls hP hD hS dX6_verse_75 rfl
      · replace hp := fl_t hc hp
        refine lv_aload_n hx hb dX6_verse_42 rfl (lv_at hl 0 rfl) ?_
        refine va_get (D := G.1) (ci := 6) (v := .ref a_nw) (C := RX6) (T := TX6) (N := 14) hx hb hts iX6 hown hK.1 hP 0 rfl rfl 3 (by decide) (hts (.fieldLink RX6 13 "SongChoirModel" "now" "[I") (List.mem_of_getElem? (i := 2) rfl)) (fun _ h9 => h9) rfl dX6_verse_43 ?_
        refine lv_iload_n hx hb dX6_verse_46 rfl (lv_at hl 1 rfl) ?_
        obtain ⟨q3, hq3, hp⟩ := fl_bd_of hp
        refine fl_roS (As := [.ref a_nw, .int p0]) (rest := []) C0 (c_M_beginOf l G a_nw nw p0 hq3) (va_cwS 2 hts gX6_verse_X6_beginOf rfl rfl rfl (by decide +kernel) ⟨Nat.le_of_ble_eq_true rfl, Nat.le_of_ble_eq_true rfl⟩) hK hP [1] rfl hS hA rfl hl.1 rfl (Nat.le_of_ble_eq_true rfl) dX6_verse_47 ⟨Nat.zero_le _, Nat.zero_le _⟩ (fun H locs hP hS => ?_)
        refine lv_goto (tgt := 75) hx hb dX6_verse_50 (by decide) ?_
        obtain rfl := Option.some.inj hp
        exact hfin H locs _ ls hP hD hS dX6_verse_75 rfl
    · replace hp := fl_f hc hp
      refine lv_iconst (v := (0 : Int32)) hx hb dX6_verse_36 (by decide) ?_
      obtain rfl := Option.some.inj hp
      exact hfin H locs _ ls hP hD hS dX6_verse_37 rfl
  have hp := hp0
  unfold P_M_verse at hp
  refine lv_aload_n hx hb dX6_verse_0 rfl (lv_at hl 0 rfl) ?_
  refine lv_aload_n hx hb dX6_verse_1 rfl (lv_at hl 0 rfl) ?_
  refine lv_iload_n hx hb dX6_verse_2 rfl (lv_at hl 1 rfl) ?_
  obtain ⟨q1, hq1, hp⟩ := fl_bd_of hp
  refine fl_roV (As := [.int p0]) (rest := [.ref mo]) C0 (c_M_isVerse l G mo a_sc a_nw a_tr a_di a_ke a_ik a_od a_rk a_be a_fr rf ss ac fs nw p0 hq1) (cwV 1 hts gX6_verse_X6_isVerse rfl rfl rfl (by decide +kernel) ⟨Nat.le_of_ble_eq_true rfl, Nat.le_of_ble_eq_true rfl⟩) hK hP [0, 1] rfl 0 6 rfl rfl rfl hS hA rfl hl.1 rfl (Nat.le_of_ble_eq_true rfl) dX6_verse_3 ⟨Nat.zero_le _, Nat.zero_le _⟩ (fun H locs hP hS => ?_)
  refine lv_if_ne (tgt := 13) hx hb dX6_verse_6 (by decide) (fun hc => ?_) (fun hc => ?_)
  · replace hp := fl_f hc hp
    refine lv_iload_n hx hb dX6_verse_13 rfl (lv_at hl 2 rfl) ?_
    refine lv_i2l (v := p1.toInt64) hx hb dX6_verse_14 rfl ?_
    refine lv_lconst (v := (0 : Int64)) hx hb dX6_verse_15 (by decide) ?_
    refine lv_ldc2 (v := (2 : Int64)) hx hb hown (hts (.constantLong RX6 139 (2)) (List.mem_of_getElem? (i := 1) rfl)) dX6_verse_16 ?_
    obtain ⟨q2, hq2, hp⟩ := fl_bd_of hp
    refine fl_roS (As := [.long p1.toInt64, .long (0 : Int64), .long (2 : Int64)]) (rest := [.ref mo]) C0 (c_M_in l G p1.toInt64 (0 : Int64) (2 : Int64) hq2) (va_cwS 3 hts gX6_verse_X6_in rfl rfl rfl (by decide +kernel) ⟨Nat.le_of_ble_eq_true rfl, Nat.le_of_ble_eq_true rfl⟩) hK hP [] rfl hS hA rfl hl.1 rfl (Nat.le_of_ble_eq_true rfl) dX6_verse_19 ⟨Nat.zero_le _, Nat.zero_le _⟩ (fun H locs hP hS => ?_)
    refine lv_if_eq (tgt := 29) hx hb dX6_verse_22 (by decide) (fun hc => ?_) (fun hc => ?_)
    · replace hp := fl_t hc hp
      refine lv_iconst (v := (2 : Int32)) hx hb dX6_verse_29 (by decide) ?_
      exact KJ30 rf (2 : Int32) H locs hP hD hS ls (lv_sub hl [0, 1, 2] rfl) hp
    · replace hp := fl_f hc hp
      refine lv_iconst (v := (0 : Int32)) hx hb dX6_verse_25 (by decide) ?_
      refine lv_goto (tgt := 30) hx hb dX6_verse_26 (by decide) ?_
      exact KJ30 rf (0 : Int32) H locs hP hD hS ls (lv_sub hl [0, 1, 2] rfl) hp
  · replace hp := fl_t hc hp
    refine lv_iconst (v := (1 : Int32)) hx hb dX6_verse_9 (by decide) ?_
    refine lv_goto (tgt := 30) hx hb dX6_verse_10 (by decide) ?_
    exact KJ30 rf (1 : Int32) H locs hP hD hS ls (lv_sub hl [0, 1, 2] rfl) hp

noncomputable def P_M_singer_J40 (rf : Int32) (nw : fl_A) (od : fl_A) (rk : fl_A) (p0 : Int32) (p1 : Int32) (k0 : Int32) : Option (Int32 × Int32 × fl_A × fl_A) := fl_bd (P_M_refused rf k0) (fun q1 => if q1.1 = 0 then fl_bd (P_M_firstOf nw p0) (fun q2 => fl_bd (P_M_firstOf nw (p0 + (1 : Int32))) (fun q3 => if (2 : Int32) ≤ p1 then fl_bd (P_M_lay od rk nw) (fun q4 => if (q3 - q2) = 0 then some ((0 : Int32), q1.2, q4.1, q4.2) else fl_ck q2 60 (fl_ck ((q2 + (q3 - q2)) - (1 : Int32)) 60 (fl_bd (P_M_alike nw (q4.1 q2.toNatClampNeg) (q4.1 ((q2 + (q3 - q2)) - (1 : Int32)).toNatClampNeg)) (fun q5 => some (q5, q1.2, q4.1, q4.2))))) else if p1 = 0 then some (q2, q1.2, od, rk) else some ((q3 - q2), q1.2, od, rk))) else some ((0 : Int32), q1.2, od, rk))
noncomputable def P_M_singer (rf : Int32) (nw : fl_A) (od : fl_A) (rk : fl_A) (p0 : Int32) (p1 : Int32) : Option (Int32 × Int32 × fl_A × fl_A) := fl_ck (2 : Int32) 126 (fl_bd (P_M_in p0.toInt64 (0 : Int64) (((nw (2 : Int32).toNatClampNeg) - (1 : Int32)).toInt64)) (fun q1 => if q1 = 0 then P_M_singer_J40 rf nw od rk p0 p1 (1 : Int32) else fl_bd (P_M_in p1.toInt64 (0 : Int64) (2 : Int64)) (fun q2 => if q2 = 0 then P_M_singer_J40 rf nw od rk p0 p1 (2 : Int32) else P_M_singer_J40 rf nw od rk p0 p1 (0 : Int32))))
set_option maxHeartbeats 4000000 in
set_option maxRecDepth 100000 in
theorem c_M_singer (l : Launch) (G : fl_G) (mo a_sc a_nw a_tr a_di a_ke a_ik a_od a_rk a_be a_fr : Nat) (ss : Int32) (ac : Int32) (fs : Int32) (rf : Int32) (nw : fl_A) (od : fl_A) (rk : fl_A) (p0 : Int32) (p1 : Int32) {r : (Int32 × Int32 × fl_A × fl_A)} (hp0 : P_M_singer rf nw od rk p0 p1 = some r) : fl_mu l yX6_singer wsX6_singer 3 69 G [.ref mo, .int p0, .int p1] [(mo, .inr (6, [.int rf, .ref a_sc, .int ss, .ref a_nw, .ref a_tr, .ref a_di, .int ac, .ref a_ke, .ref a_ik, .ref a_od, .ref a_rk, .ref a_be, .ref a_fr, .int fs])), (a_nw, .inl (G.2.1, 126, .inl nw)), (a_od, .inl (G.2.1, 60, .inl od)), (a_rk, .inl (G.2.1, 60, .inl rk))] (some (.int r.1)) [(mo, .inr (6, [.int r.2.1, .ref a_sc, .int ss, .ref a_nw, .ref a_tr, .ref a_di, .int ac, .ref a_ke, .ref a_ik, .ref a_od, .ref a_rk, .ref a_be, .ref a_fr, .int fs])), (a_nw, .inl (G.2.1, 126, .inl nw)), (a_od, .inl (G.2.1, 60, .inl r.2.2.1)), (a_rk, .inl (G.2.1, 60, .inl r.2.2.2))] := by
  refine fl_mui_in cX6_singer 5 .int RX6 (by decide) rfl rfl (Nat.le_of_ble_eq_true rfl) ?_
  intro p e s m args below meth c ls A Q H locs C0 hK hP hD hS hA hl hfin
  obtain ⟨hx, hb, hml, hown, hts⟩ := id C0
  have iX6 : ∀ w ∈ u_ws RX6 TX6 14, w ∈ wsX6_singer := fun _ h => List.mem_cons_of_mem _ (List.mem_append_right _ h)
  have hl : lv_has ls 5 [(0, .ref mo), (1, .int p0), (2, .int p1)] := hl
  have KJ40 : ∀ (rf : Int32) (od : fl_A) (rk : fl_A) (k0 : Int32) (H : Heap) (locs : List Loc), va_P G.1 vwCl [(mo, .inr (6, [.int rf, .ref a_sc, .int ss, .ref a_nw, .ref a_tr, .ref a_di, .int ac, .ref a_ke, .ref a_ik, .ref a_od, .ref a_rk, .ref a_be, .ref a_fr, .int fs])), (a_nw, .inl (G.2.1, 126, .inl nw)), (a_od, .inl (G.2.1, 60, .inl od)), (a_rk, .inl (G.2.1, 60, .inl rk))] H → va_D A [(mo, .inr (6, [.int rf, .ref a_sc, .int ss, .ref a_nw, .ref a_tr, .ref a_di, .int ac, .ref a_ke, .ref a_ik, .ref a_od, .ref a_rk, .ref a_be, .ref a_fr, .int fs])), (a_nw, .inl (G.2.1, 126, .inl nw)), (a_od, .inl (G.2.1, 60, .inl od)), (a_rk, .inl (G.2.1, 60, .inl rk))] → va_S A s.heap H locs → ∀ (ls : Array Slot), lv_has ls 5 [(0, .ref mo), (1, .int p0), (2, .int p1)] → P_M_singer_J40 rf nw od rk p0 p1 k0 = some r → W p l e (fl_rm 3 69) s m args below meth c H locs 0 0 Q (F0 m 40 ls [.int k0, .ref mo]) := by
    intro rf od rk k0 H locs hP hD hS ls hl hp
    unfold P_M_singer_J40 at hp
    obtain ⟨q1, hq1, hp⟩ := fl_bd_of hp
    refine fl_muV (As := [.int k0]) (rest := []) [(mo, .inr (6, [.int q1.2, .ref a_sc, .int ss, .ref a_nw, .ref a_tr, .ref a_di, .int ac, .ref a_ke, .ref a_ik, .ref a_od, .ref a_rk, .ref a_be, .ref a_fr, .int fs])), (a_nw, .inl (G.2.1, 126, .inl nw)), (a_od, .inl (G.2.1, 60, .inl od)), (a_rk, .inl (G.2.1, 60, .inl rk))] C0 (c_M_refused l G mo a_sc a_nw a_tr a_di a_ke a_ik a_od a_rk a_be a_fr ss ac fs rf k0 hq1) (cwV 1 hts gX6_singer_X6_refused rfl rfl rfl (by decide +kernel) ⟨Nat.le_of_ble_eq_true rfl, Nat.le_of_ble_eq_true rfl⟩) hK hP hD [0] [1, 2, 3] [3, 0, 1, 2] rfl rfl (by decide) (by decide) rfl 0 6 rfl rfl rfl hS hA rfl hl.1 rfl (Nat.le_of_ble_eq_true rfl) dX6_singer_40 ⟨Nat.zero_le _, Nat.zero_le _⟩ (fun H locs hP hD hS => ?_)
    refine lv_if_eq (tgt := 48) hx hb dX6_singer_43 (by decide) (fun hc => ?_) (fun hc => ?_)
    · replace hp := fl_t hc hp
      refine lv_aload_n hx hb dX6_singer_48 rfl (lv_at hl 0 rfl) ?_
      refine va_get (D := G.1) (ci := 6) (v := .ref a_nw) (C := RX6) (T := TX6) (N := 14) hx hb hts iX6 hown hK.1 hP 0 rfl rfl 3 (by decide) (hts (.fieldLink RX6 13 "SongChoirModel" "now" "[I") (List.mem_of_getElem? (i := 1) rfl)) (fun _ h9 => h9) rfl dX6_singer_49 ?_
      refine lv_iload_n hx hb dX6_singer_52 rfl (lv_at hl 1 rfl) ?_
      obtain ⟨q2, hq2, hp⟩ := fl_bd_of hp
      refine fl_roS (As := [.ref a_nw, .int p0]) (rest := []) C0 (c_M_firstOf l G a_nw nw p0 hq2) (va_cwS 2 hts gX6_singer_X6_firstOf rfl rfl rfl (by decide +kernel) ⟨Nat.le_of_ble_eq_true rfl, Nat.le_of_ble_eq_true rfl⟩) hK hP [1] rfl hS hA rfl hl.1 rfl (Nat.le_of_ble_eq_true rfl) dX6_singer_53 ⟨Nat.zero_le _, Nat.zero_le _⟩ (fun H locs hP hS => ?_)
      refine lv_istore_n (lv' := [(3, .int q2), (0, .ref mo), (1, .int p0), (2, .int p1)]) hx hb dX6_singer_56 rfl hl (by decide) rfl (fun ls hl => ?_)
      refine lv_aload_n hx hb dX6_singer_57 rfl (lv_at hl 1 rfl) ?_
      refine va_get (D := G.1) (ci := 6) (v := .ref a_nw) (C := RX6) (T := TX6) (N := 14) hx hb hts iX6 hown hK.1 hP 0 rfl rfl 3 (by decide) (hts (.fieldLink RX6 13 "SongChoirModel" "now" "[I") (List.mem_of_getElem? (i := 1) rfl)) (fun _ h9 => h9) rfl dX6_singer_58 ?_
      refine lv_iload_n hx hb dX6_singer_61 rfl (lv_at hl 2 rfl) ?_
      refine lv_iconst (v := (1 : Int32)) hx hb dX6_singer_62 (by decide) ?_
      refine lv_iadd hx hb dX6_singer_63 ?_
      obtain ⟨q3, hq3, hp⟩ := fl_bd_of hp
      refine fl_roS (As := [.ref a_nw, .int (p0 + (1 : Int32))]) (rest := []) C0 (c_M_firstOf l G a_nw nw (p0 + (1 : Int32)) hq3) (va_cwS 2 hts gX6_singer_X6_firstOf rfl rfl rfl (by decide +kernel) ⟨Nat.le_of_ble_eq_true rfl, Nat.le_of_ble_eq_true rfl⟩) hK hP [1] rfl hS hA rfl hl.1 rfl (Nat.le_of_ble_eq_true rfl) dX6_singer_64 ⟨Nat.zero_le _, Nat.zero_le _⟩ (fun H locs hP hS => ?_)
      refine lv_iload_n hx hb dX6_singer_67 rfl (lv_at hl 0 rfl) ?_
      refine lv_isub hx hb dX6_singer_68 ?_
      refine lv_istore (lv' := [(4, .int (q3 - q2)), (3, .int q2), (0, .ref mo), (1, .int p0), (2, .int p1)]) hx hb dX6_singer_69 hl (by decide) rfl (fun ls hl => ?_)
      refine lv_iload_n hx hb dX6_singer_71 rfl (lv_at hl 4 rfl) ?_
      refine lv_iconst (v := (2 : Int32)) hx hb dX6_singer_72 (by decide) ?_
      refine lv_icmp_ge (tgt := 87) hx hb dX6_singer_73 (by decide) (fun hc => ?_) (fun hc => ?_)
      · replace hp := fl_t hc hp
        refine lv_aload_n hx hb dX6_singer_87 rfl (lv_at hl 2 rfl) ?_
        refine lv_aload_n hx hb dX6_singer_88 rfl (lv_at hl 2 rfl) ?_
        refine va_get (D := G.1) (ci := 6) (v := .ref a_nw) (C := RX6) (T := TX6) (N := 14) hx hb hts iX6 hown hK.1 hP 0 rfl rfl 3 (by decide) (hts (.fieldLink RX6 13 "SongChoirModel" "now" "[I") (List.mem_of_getElem? (i := 1) rfl)) (fun _ h9 => h9) rfl dX6_singer_89 ?_
        obtain ⟨q4, hq4, hp⟩ := fl_bd_of hp
        refine fl_muV (As := [.ref a_nw]) (rest := []) [(mo, .inr (6, [.int q1.2, .ref a_sc, .int ss, .ref a_nw, .ref a_tr, .ref a_di, .int ac, .ref a_ke, .ref a_ik, .ref a_od, .ref a_rk, .ref a_be, .ref a_fr, .int fs])), (a_nw, .inl (G.2.1, 126, .inl nw)), (a_od, .inl (G.2.1, 60, .inl q4.1)), (a_rk, .inl (G.2.1, 60, .inl q4.2))] C0 (c_M_lay l G mo a_sc a_nw a_tr a_di a_ke a_ik a_od a_rk a_be a_fr a_nw q1.2 ss ac fs od rk nw hq4) (cwV 1 hts gX6_singer_X6_lay rfl rfl rfl (by decide +kernel) ⟨Nat.le_of_ble_eq_true rfl, Nat.le_of_ble_eq_true rfl⟩) hK hP hD [0, 2, 3, 1] [] [0, 3, 1, 2] rfl rfl (by decide) (by decide) rfl 0 6 rfl rfl rfl hS hA rfl hl.1 rfl (Nat.le_of_ble_eq_true rfl) dX6_singer_92 ⟨Nat.zero_le _, Nat.zero_le _⟩ (fun H locs hP hD hS => ?_)
        refine lv_iload hx hb dX6_singer_95 (lv_at hl 0 rfl) ?_
        refine lv_if_ne (tgt := 104) hx hb dX6_singer_97 (by decide) (fun hc => ?_) (fun hc => ?_)
        · replace hp := fl_f hc hp
          refine lv_aload_n hx hb dX6_singer_104 rfl (lv_at hl 2 rfl) ?_
          refine va_get (D := G.1) (ci := 6) (v := .ref a_nw) (C := RX6) (T := TX6) (N := 14) hx hb hts iX6 hown hK.1 hP 0 rfl rfl 3 (by decide) (hts (.fieldLink RX6 13 "SongChoirModel" "now" "[I") (List.mem_of_getElem? (i := 1) rfl)) (fun _ h9 => h9) rfl dX6_singer_105 ?_
          refine lv_aload_n hx hb dX6_singer_108 rfl (lv_at hl 2 rfl) ?_
          refine va_get (D := G.1) (ci := 6) (v := .ref a_od) (C := RX6) (T := TX6) (N := 14) hx hb hts iX6 hown hK.1 hP 0 rfl rfl 9 (by decide) (hts (.fieldLink RX6 29 "SongChoirModel" "order" "[I") (List.mem_of_getElem? (i := 3) rfl)) (fun _ h9 => h9) rfl dX6_singer_109 ?_
          refine lv_iload_n hx hb dX6_singer_112 rfl (lv_at hl 1 rfl) ?_
          obtain ⟨hi, hp⟩ := fl_ck_of hp
          refine va_iald hx hb hK.1 hP 2 0 rfl rfl hi dX6_singer_113 ?_
          refine lv_aload_n hx hb dX6_singer_114 rfl (lv_at hl 2 rfl) ?_
          refine va_get (D := G.1) (ci := 6) (v := .ref a_od) (C := RX6) (T := TX6) (N := 14) hx hb hts iX6 hown hK.1 hP 0 rfl rfl 9 (by decide) (hts (.fieldLink RX6 29 "SongChoirModel" "order" "[I") (List.mem_of_getElem? (i := 3) rfl)) (fun _ h9 => h9) rfl dX6_singer_115 ?_
          refine lv_iload_n hx hb dX6_singer_118 rfl (lv_at hl 1 rfl) ?_
          refine lv_iload hx hb dX6_singer_119 (lv_at hl 0 rfl) ?_
          refine lv_iadd hx hb dX6_singer_121 ?_
          refine lv_iconst (v := (1 : Int32)) hx hb dX6_singer_122 (by decide) ?_
          refine lv_isub hx hb dX6_singer_123 ?_
          obtain ⟨hi, hp⟩ := fl_ck_of hp
          refine va_iald hx hb hK.1 hP 2 0 rfl rfl hi dX6_singer_124 ?_
          obtain ⟨q5, hq5, hp⟩ := fl_bd_of hp
          refine fl_roS (As := [.ref a_nw, .int (q4.1 q2.toNatClampNeg), .int (q4.1 ((q2 + (q3 - q2)) - (1 : Int32)).toNatClampNeg)]) (rest := []) C0 (c_M_alike l G a_nw nw (q4.1 q2.toNatClampNeg) (q4.1 ((q2 + (q3 - q2)) - (1 : Int32)).toNatClampNeg) hq5) (va_cwS 3 hts gX6_singer_X6_alike rfl rfl rfl (by decide +kernel) ⟨Nat.le_of_ble_eq_true rfl, Nat.le_of_ble_eq_true rfl⟩) hK hP [1] rfl hS hA rfl hl.1 rfl (Nat.le_of_ble_eq_true rfl) dX6_singer_125 ⟨Nat.zero_le _, Nat.zero_le _⟩ (fun H locs hP hS => ?_)
          obtain rfl := Option.some.inj hp
          exact hfin H locs _ ls hP hD hS dX6_singer_128 rfl
        · replace hp := fl_t hc hp
          refine lv_iconst (v := (0 : Int32)) hx hb dX6_singer_100 (by decide) ?_
          refine lv_goto (tgt := 128) hx hb dX6_singer_101 (by decide) ?_
          obtain rfl := Option.some.inj hp
          exact hfin H locs _ ls hP hD hS dX6_singer_128 rfl
      · replace hp := fl_f hc hp
        refine lv_iload_n hx hb dX6_singer_76 rfl (lv_at hl 4 rfl) ?_
        refine lv_if_ne (tgt := 84) hx hb dX6_singer_77 (by decide) (fun hc => ?_) (fun hc => ?_)
        · replace hp := fl_f hc hp
          refine lv_iload hx hb dX6_singer_84 (lv_at hl 0 rfl) ?_
          obtain rfl := Option.some.inj hp
          exact hfin H locs _ ls hP hD hS dX6_singer_86 rfl
        · replace hp := fl_t hc hp
          refine lv_iload_n hx hb dX6_singer_80 rfl (lv_at hl 1 rfl) ?_
          refine lv_goto (tgt := 86) hx hb dX6_singer_81 (by decide) ?_
          obtain rfl := Option.some.inj hp
          exact hfin H locs _ ls hP hD hS dX6_singer_86 rfl
    · replace hp := fl_f hc hp
      refine lv_iconst (v := (0 : Int32)) hx hb dX6_singer_46 (by decide) ?_
      obtain rfl := Option.some.inj hp
      exact hfin H locs _ ls hP hD hS dX6_singer_47 rfl
  have hp := hp0
  unfold P_M_singer at hp
  refine lv_aload_n hx hb dX6_singer_0 rfl (lv_at hl 0 rfl) ?_
  refine lv_iload_n hx hb dX6_singer_1 rfl (lv_at hl 1 rfl) ?_
  refine lv_i2l (v := p0.toInt64) hx hb dX6_singer_2 rfl ?_
  refine lv_lconst (v := (0 : Int64)) hx hb dX6_singer_3 (by decide) ?_
  refine lv_aload_n hx hb dX6_singer_4 rfl (lv_at hl 0 rfl) ?_
  refine va_get (D := G.1) (ci := 6) (v := .ref a_nw) (C := RX6) (T := TX6) (N := 14) hx hb hts iX6 hown hK.1 hP 0 rfl rfl 3 (by decide) (hts (.fieldLink RX6 13 "SongChoirModel" "now" "[I") (List.mem_of_getElem? (i := 1) rfl)) (fun _ h9 => h9) rfl dX6_singer_5 ?_
  refine lv_iconst (v := (2 : Int32)) hx hb dX6_singer_8 (by decide) ?_
  obtain ⟨hi, hp⟩ := fl_ck_of hp
  refine va_iald hx hb hK.1 hP 1 0 rfl rfl hi dX6_singer_9 ?_
  refine lv_iconst (v := (1 : Int32)) hx hb dX6_singer_10 (by decide) ?_
  refine lv_isub hx hb dX6_singer_11 ?_
  refine lv_i2l (v := ((nw (2 : Int32).toNatClampNeg) - (1 : Int32)).toInt64) hx hb dX6_singer_12 rfl ?_
  obtain ⟨q1, hq1, hp⟩ := fl_bd_of hp
  refine fl_roS (As := [.long p0.toInt64, .long (0 : Int64), .long (((nw (2 : Int32).toNatClampNeg) - (1 : Int32)).toInt64)]) (rest := [.ref mo]) C0 (c_M_in l G p0.toInt64 (0 : Int64) (((nw (2 : Int32).toNatClampNeg) - (1 : Int32)).toInt64) hq1) (va_cwS 3 hts gX6_singer_X6_in rfl rfl rfl (by decide +kernel) ⟨Nat.le_of_ble_eq_true rfl, Nat.le_of_ble_eq_true rfl⟩) hK hP [] rfl hS hA rfl hl.1 rfl (Nat.le_of_ble_eq_true rfl) dX6_singer_13 ⟨Nat.zero_le _, Nat.zero_le _⟩ (fun H locs hP hS => ?_)
  refine lv_if_ne (tgt := 23) hx hb dX6_singer_16 (by decide) (fun hc => ?_) (fun hc => ?_)
  · replace hp := fl_f hc hp
    refine lv_iload_n hx hb dX6_singer_23 rfl (lv_at hl 2 rfl) ?_
    refine lv_i2l (v := p1.toInt64) hx hb dX6_singer_24 rfl ?_
    refine lv_lconst (v := (0 : Int64)) hx hb dX6_singer_25 (by decide) ?_
    refine lv_ldc2 (v := (2 : Int64)) hx hb hown (hts (.constantLong RX6 139 (2)) (List.mem_of_getElem? (i := 2) rfl)) dX6_singer_26 ?_
    obtain ⟨q2, hq2, hp⟩ := fl_bd_of hp
    refine fl_roS (As := [.long p1.toInt64, .long (0 : Int64), .long (2 : Int64)]) (rest := [.ref mo]) C0 (c_M_in l G p1.toInt64 (0 : Int64) (2 : Int64) hq2) (va_cwS 3 hts gX6_singer_X6_in rfl rfl rfl (by decide +kernel) ⟨Nat.le_of_ble_eq_true rfl, Nat.le_of_ble_eq_true rfl⟩) hK hP [] rfl hS hA rfl hl.1 rfl (Nat.le_of_ble_eq_true rfl) dX6_singer_29 ⟨Nat.zero_le _, Nat.zero_le _⟩ (fun H locs hP hS => ?_)
    refine lv_if_eq (tgt := 39) hx hb dX6_singer_32 (by decide) (fun hc => ?_) (fun hc => ?_)
    · replace hp := fl_t hc hp
      refine lv_iconst (v := (2 : Int32)) hx hb dX6_singer_39 (by decide) ?_
      exact KJ40 rf od rk (2 : Int32) H locs hP hD hS ls (lv_sub hl [0, 1, 2] rfl) hp
    · replace hp := fl_f hc hp
      refine lv_iconst (v := (0 : Int32)) hx hb dX6_singer_35 (by decide) ?_
      refine lv_goto (tgt := 40) hx hb dX6_singer_36 (by decide) ?_
      exact KJ40 rf od rk (0 : Int32) H locs hP hD hS ls (lv_sub hl [0, 1, 2] rfl) hp
  · replace hp := fl_t hc hp
    refine lv_iconst (v := (1 : Int32)) hx hb dX6_singer_19 (by decide) ?_
    refine lv_goto (tgt := 40) hx hb dX6_singer_20 (by decide) ?_
    exact KJ40 rf od rk (1 : Int32) H locs hP hD hS ls (lv_sub hl [0, 1, 2] rfl) hp

noncomputable def P_M_sungAt_L2 (sc : fl_A) (ss : Int32) (nw : fl_A) (p0 : Int32) (z2 : Int32) : Option (Int32 ⊕ Int32) := if ss ≤ z2 then some (.inr z2) else fl_ck (0 : Int32) 126 (if (nw (0 : Int32).toNatClampNeg) ≤ (p0 + z2) then some (.inr z2) else fl_ck (((66 : Int32) + p0) + z2) 126 (fl_ck z2 40 (if (nw (((66 : Int32) + p0) + z2).toNatClampNeg) = (sc z2.toNatClampNeg) then some (.inl (z2 + (1 : Int32))) else some (.inr z2))))
noncomputable def P_M_sungAt (sc : fl_A) (ss : Int32) (nw : fl_A) (p0 : Int32) : Option Int32 := fl_loop (P_M_sungAt_L2 sc ss nw p0) (0 : Int32)
set_option maxHeartbeats 4000000 in
set_option maxRecDepth 100000 in
theorem c_M_sungAt (l : Launch) (G : fl_G) (mo a_sc a_nw a_tr a_di a_ke a_ik a_od a_rk a_be a_fr : Nat) (rf : Int32) (ac : Int32) (fs : Int32) (sc : fl_A) (ss : Int32) (nw : fl_A) (p0 : Int32) {r : Int32} (hp0 : P_M_sungAt sc ss nw p0 = some r) : fl_ro l yX6_sungAt wsX6_sungAt 0 0 G [.ref mo, .int p0] [(mo, .inr (6, [.int rf, .ref a_sc, .int ss, .ref a_nw, .ref a_tr, .ref a_di, .int ac, .ref a_ke, .ref a_ik, .ref a_od, .ref a_rk, .ref a_be, .ref a_fr, .int fs])), (a_sc, .inl (G.2.1, 40, .inl sc)), (a_nw, .inl (G.2.1, 126, .inl nw))] (.int r) := by
  refine fl_ro_in cX6_sungAt 3 .int RX6 (by decide) rfl rfl (Nat.le_of_ble_eq_true rfl) ?_
  intro p e s m args below meth c ls Q H locs C0 hK hP hS hl hfin
  have hA : ∀ q : Nat, s.heap.size ≤ q → va_A [] s.heap.size q := fl_hA _ _
  obtain ⟨hx, hb, hml, hown, hts⟩ := id C0
  have iX6 : ∀ w ∈ u_ws RX6 TX6 14, w ∈ wsX6_sungAt := fun _ h => List.mem_cons_of_mem _ (List.mem_append_right _ h)
  have hl : lv_has ls 3 [(0, .ref mo), (1, .int p0)] := hl
  have KL2 : ∀ (n0 : Nat) (z2 : Int32) (H : Heap) (locs : List Loc), va_P G.1 vwCl [(mo, .inr (6, [.int rf, .ref a_sc, .int ss, .ref a_nw, .ref a_tr, .ref a_di, .int ac, .ref a_ke, .ref a_ik, .ref a_od, .ref a_rk, .ref a_be, .ref a_fr, .int fs])), (a_sc, .inl (G.2.1, 40, .inl sc)), (a_nw, .inl (G.2.1, 126, .inl nw))] H → va_S (va_A [] s.heap.size) s.heap H locs → ∀ (ls : Array Slot), lv_has ls 3 [(0, .ref mo), (1, .int p0), (2, .int z2)] → fl_loopN (P_M_sungAt_L2 sc ss nw p0) n0 z2 = some r → W p l e (fl_rm 0 0) s m args below meth c H locs 0 0 Q (F0 m 2 ls []) := by
    intro n0
    induction n0 with
    | zero => intro z2 H locs hP hS ls hl hn; exact (fl_loopN_0 hn).elim
    | succ n0 ih2 =>
      intro z2 H locs hP hS ls hl hn
      obtain ⟨y2, hb2, hy2⟩ := fl_loopN_step hn
      clear hn
      have hp := hb2
      unfold P_M_sungAt_L2 at hp
      refine lv_iload_n hx hb dX6_sungAt_2 rfl (lv_at hl 2 rfl) ?_
      refine lv_aload_n hx hb dX6_sungAt_3 rfl (lv_at hl 0 rfl) ?_
      refine va_get (D := G.1) (ci := 6) (v := .int ss) (C := RX6) (T := TX6) (N := 14) hx hb hts iX6 hown hK.1 hP 0 rfl rfl 2 (by decide) (hts (.fieldLink RX6 107 "SongChoirModel" "scriptSize" "I") (List.mem_of_getElem? (i := 1) rfl)) (fun _ h9 => h9) rfl dX6_sungAt_4 ?_
      refine lv_icmp_ge (tgt := 48) hx hb dX6_sungAt_7 (by decide) (fun hc => ?_) (fun hc => ?_)
      · replace hp := fl_t hc hp
        refine lv_iload_n hx hb dX6_sungAt_48 rfl (lv_at hl 2 rfl) ?_
        obtain rfl := Option.some.inj hp
        obtain rfl := fl_cont_inr hy2
        exact hfin H locs _ ls hS dX6_sungAt_49 rfl
      · replace hp := fl_f hc hp
        refine lv_iload_n hx hb dX6_sungAt_10 rfl (lv_at hl 1 rfl) ?_
        refine lv_iload_n hx hb dX6_sungAt_11 rfl (lv_at hl 2 rfl) ?_
        refine lv_iadd hx hb dX6_sungAt_12 ?_
        refine lv_aload_n hx hb dX6_sungAt_13 rfl (lv_at hl 0 rfl) ?_
        refine va_get (D := G.1) (ci := 6) (v := .ref a_nw) (C := RX6) (T := TX6) (N := 14) hx hb hts iX6 hown hK.1 hP 0 rfl rfl 3 (by decide) (hts (.fieldLink RX6 13 "SongChoirModel" "now" "[I") (List.mem_of_getElem? (i := 2) rfl)) (fun _ h9 => h9) rfl dX6_sungAt_14 ?_
        refine lv_iconst (v := (0 : Int32)) hx hb dX6_sungAt_17 (by decide) ?_
        obtain ⟨hi, hp⟩ := fl_ck_of hp
        refine va_iald hx hb hK.1 hP 2 0 rfl rfl hi dX6_sungAt_18 ?_
        refine lv_icmp_ge (tgt := 48) hx hb dX6_sungAt_19 (by decide) (fun hc => ?_) (fun hc => ?_)
        · replace hp := fl_t hc hp
          refine lv_iload_n hx hb dX6_sungAt_48 rfl (lv_at hl 2 rfl) ?_
          obtain rfl := Option.some.inj hp
          obtain rfl := fl_cont_inr hy2
          exact hfin H locs _ ls hS dX6_sungAt_49 rfl
        · replace hp := fl_f hc hp
          refine lv_aload_n hx hb dX6_sungAt_22 rfl (lv_at hl 0 rfl) ?_
          refine va_get (D := G.1) (ci := 6) (v := .ref a_nw) (C := RX6) (T := TX6) (N := 14) hx hb hts iX6 hown hK.1 hP 0 rfl rfl 3 (by decide) (hts (.fieldLink RX6 13 "SongChoirModel" "now" "[I") (List.mem_of_getElem? (i := 2) rfl)) (fun _ h9 => h9) rfl dX6_sungAt_23 ?_
          refine lv_bipush (v := (66 : Int32)) hx hb dX6_sungAt_26 (by decide) ?_
          refine lv_iload_n hx hb dX6_sungAt_28 rfl (lv_at hl 1 rfl) ?_
          refine lv_iadd hx hb dX6_sungAt_29 ?_
          refine lv_iload_n hx hb dX6_sungAt_30 rfl (lv_at hl 2 rfl) ?_
          refine lv_iadd hx hb dX6_sungAt_31 ?_
          obtain ⟨hi, hp⟩ := fl_ck_of hp
          refine va_iald hx hb hK.1 hP 2 0 rfl rfl hi dX6_sungAt_32 ?_
          refine lv_aload_n hx hb dX6_sungAt_33 rfl (lv_at hl 0 rfl) ?_
          refine va_get (D := G.1) (ci := 6) (v := .ref a_sc) (C := RX6) (T := TX6) (N := 14) hx hb hts iX6 hown hK.1 hP 0 rfl rfl 1 (by decide) (hts (.fieldLink RX6 7 "SongChoirModel" "script" "[I") (List.mem_of_getElem? (i := 3) rfl)) (fun _ h9 => h9) rfl dX6_sungAt_34 ?_
          refine lv_iload_n hx hb dX6_sungAt_37 rfl (lv_at hl 2 rfl) ?_
          obtain ⟨hi, hp⟩ := fl_ck_of hp
          refine va_iald hx hb hK.1 hP 1 0 rfl rfl hi dX6_sungAt_38 ?_
          refine lv_icmp_ne (tgt := 48) hx hb dX6_sungAt_39 (by decide) (fun hc => ?_) (fun hc => ?_)
          · replace hp := fl_f hc hp
            refine lv_iload_n hx hb dX6_sungAt_48 rfl (lv_at hl 2 rfl) ?_
            obtain rfl := Option.some.inj hp
            obtain rfl := fl_cont_inr hy2
            exact hfin H locs _ ls hS dX6_sungAt_49 rfl
          · replace hp := fl_t hc hp
            refine lv_iinc (v := (z2 + (1 : Int32))) (lv' := [(2, .int (z2 + (1 : Int32))), (0, .ref mo), (1, .int p0)]) hx hb dX6_sungAt_42 hl (k := 2) rfl rfl (by decide) rfl (fun ls hl => ?_)
            refine lv_goto (tgt := 2) hx hb dX6_sungAt_45 (by decide) ?_
            obtain rfl := Option.some.inj hp
            exact ih2 (z2 + (1 : Int32)) H locs hP hS ls (lv_sub hl [1, 2, 0] rfl) (fl_cont_inl hy2)
  have hp := hp0
  unfold P_M_sungAt at hp
  refine lv_iconst (v := (0 : Int32)) hx hb dX6_sungAt_0 (by decide) ?_
  refine lv_istore_n (lv' := [(2, .int (0 : Int32)), (0, .ref mo), (1, .int p0)]) hx hb dX6_sungAt_1 rfl hl (by decide) rfl (fun ls hl => ?_)
  obtain ⟨n0, hn⟩ := fl_loop_ex hp
  exact KL2 n0 (0 : Int32) H locs hP hS ls (lv_sub hl [1, 2, 0] rfl) hn

noncomputable def P_M_count_J54 (rf : Int32) (sc : fl_A) (ss : Int32) (nw : fl_A) (v2 : Int32) (k0 : Int32) (k1 : Int32) : Option ((Int32 × Int32) ⊕ (Int32 × Int32)) := some (.inl ((k1 + k0), (v2 + (1 : Int32))))
noncomputable def P_M_count_L26 (rf : Int32) (sc : fl_A) (ss : Int32) (nw : fl_A) (z26 : (Int32 × Int32)) : Option ((Int32 × Int32) ⊕ (Int32 × Int32)) := fl_ck (0 : Int32) 126 (if (nw (0 : Int32).toNatClampNeg) ≤ z26.2 then some (.inr (z26.1, rf)) else fl_bd (P_M_sungAt sc ss nw z26.2) (fun q1 => if q1 = ss then P_M_count_J54 rf sc ss nw z26.2 (1 : Int32) z26.1 else P_M_count_J54 rf sc ss nw z26.2 (0 : Int32) z26.1))
noncomputable def P_M_count_J14 (rf : Int32) (sc : fl_A) (ss : Int32) (nw : fl_A) (k0 : Int32) : Option (Int32 × Int32) := fl_bd (P_M_refused rf k0) (fun q1 => if q1.1 = 0 then fl_loop (P_M_count_L26 q1.2 sc ss nw) ((0 : Int32), (0 : Int32)) else some ((0 : Int32), q1.2))
noncomputable def P_M_count (rf : Int32) (sc : fl_A) (ss : Int32) (nw : fl_A) : Option (Int32 × Int32) := fl_bd (P_M_fault sc ss) (fun q1 => if q1 = (-1 : Int32) then P_M_count_J14 rf sc ss nw (0 : Int32) else P_M_count_J14 rf sc ss nw (1 : Int32))
set_option maxHeartbeats 4000000 in
set_option maxRecDepth 100000 in
theorem c_M_count (l : Launch) (G : fl_G) (mo a_sc a_nw a_tr a_di a_ke a_ik a_od a_rk a_be a_fr : Nat) (ac : Int32) (fs : Int32) (rf : Int32) (sc : fl_A) (ss : Int32) (nw : fl_A) {r : (Int32 × Int32)} (hp0 : P_M_count rf sc ss nw = some r) : fl_mu l yX6_count wsX6_count 2 46 G [.ref mo] [(mo, .inr (6, [.int rf, .ref a_sc, .int ss, .ref a_nw, .ref a_tr, .ref a_di, .int ac, .ref a_ke, .ref a_ik, .ref a_od, .ref a_rk, .ref a_be, .ref a_fr, .int fs])), (a_sc, .inl (G.2.1, 40, .inl sc)), (a_nw, .inl (G.2.1, 126, .inl nw))] (some (.int r.1)) [(mo, .inr (6, [.int r.2, .ref a_sc, .int ss, .ref a_nw, .ref a_tr, .ref a_di, .int ac, .ref a_ke, .ref a_ik, .ref a_od, .ref a_rk, .ref a_be, .ref a_fr, .int fs])), (a_sc, .inl (G.2.1, 40, .inl sc)), (a_nw, .inl (G.2.1, 126, .inl nw))] := by
  refine fl_mui_in cX6_count 3 .int RX6 (by decide) rfl rfl (Nat.le_of_ble_eq_true rfl) ?_
  intro p e s m args below meth c ls A Q H locs C0 hK hP hD hS hA hl hfin
  obtain ⟨hx, hb, hml, hown, hts⟩ := id C0
  have iX6 : ∀ w ∈ u_ws RX6 TX6 14, w ∈ wsX6_count := fun _ h => List.mem_cons_of_mem _ (List.mem_append_right _ h)
  have hl : lv_has ls 3 [(0, .ref mo)] := hl
  have KL26 : ∀ (rf : Int32) (n0 : Nat) (z26 : (Int32 × Int32)) (H : Heap) (locs : List Loc), va_P G.1 vwCl [(mo, .inr (6, [.int rf, .ref a_sc, .int ss, .ref a_nw, .ref a_tr, .ref a_di, .int ac, .ref a_ke, .ref a_ik, .ref a_od, .ref a_rk, .ref a_be, .ref a_fr, .int fs])), (a_sc, .inl (G.2.1, 40, .inl sc)), (a_nw, .inl (G.2.1, 126, .inl nw))] H → va_D A [(mo, .inr (6, [.int rf, .ref a_sc, .int ss, .ref a_nw, .ref a_tr, .ref a_di, .int ac, .ref a_ke, .ref a_ik, .ref a_od, .ref a_rk, .ref a_be, .ref a_fr, .int fs])), (a_sc, .inl (G.2.1, 40, .inl sc)), (a_nw, .inl (G.2.1, 126, .inl nw))] → va_S A s.heap H locs → ∀ (ls : Array Slot), lv_has ls 3 [(0, .ref mo), (1, .int z26.1), (2, .int z26.2)] → fl_loopN (P_M_count_L26 rf sc ss nw) n0 z26 = some r → W p l e (fl_rm 2 46) s m args below meth c H locs 0 0 Q (F0 m 26 ls []) := by
    intro rf n0
    induction n0 with
    | zero => intro z26 H locs hP hD hS ls hl hn; exact (fl_loopN_0 hn).elim
    | succ n0 ih26 =>
      intro z26 H locs hP hD hS ls hl hn
      obtain ⟨y26, hb26, hy26⟩ := fl_loopN_step hn
      clear hn
      have KJ54 : ∀ (v2 : Int32) (k0 : Int32) (k1 : Int32) (H : Heap) (locs : List Loc), va_P G.1 vwCl [(mo, .inr (6, [.int rf, .ref a_sc, .int ss, .ref a_nw, .ref a_tr, .ref a_di, .int ac, .ref a_ke, .ref a_ik, .ref a_od, .ref a_rk, .ref a_be, .ref a_fr, .int fs])), (a_sc, .inl (G.2.1, 40, .inl sc)), (a_nw, .inl (G.2.1, 126, .inl nw))] H → va_D A [(mo, .inr (6, [.int rf, .ref a_sc, .int ss, .ref a_nw, .ref a_tr, .ref a_di, .int ac, .ref a_ke, .ref a_ik, .ref a_od, .ref a_rk, .ref a_be, .ref a_fr, .int fs])), (a_sc, .inl (G.2.1, 40, .inl sc)), (a_nw, .inl (G.2.1, 126, .inl nw))] → va_S A s.heap H locs → ∀ (ls : Array Slot), lv_has ls 3 [(0, .ref mo), (2, .int v2)] → P_M_count_J54 rf sc ss nw v2 k0 k1 = some y26 → W p l e (fl_rm 2 46) s m args below meth c H locs 0 0 Q (F0 m 54 ls [.int k0, .int k1]) := by
        intro v2 k0 k1 H locs hP hD hS ls hl hp
        unfold P_M_count_J54 at hp
        refine lv_iadd hx hb dX6_count_54 ?_
        refine lv_istore_n (lv' := [(1, .int (k1 + k0)), (0, .ref mo), (2, .int v2)]) hx hb dX6_count_55 rfl hl (by decide) rfl (fun ls hl => ?_)
        refine lv_iinc (v := (v2 + (1 : Int32))) (lv' := [(2, .int (v2 + (1 : Int32))), (1, .int (k1 + k0)), (0, .ref mo)]) hx hb dX6_count_56 hl (k := 2) rfl rfl (by decide) rfl (fun ls hl => ?_)
        refine lv_goto (tgt := 26) hx hb dX6_count_59 (by decide) ?_
        obtain rfl := Option.some.inj hp
        exact ih26 ((k1 + k0), (v2 + (1 : Int32))) H locs hP hD hS ls (lv_sub hl [2, 1, 0] rfl) (fl_cont_inl hy26)
      have hp := hb26
      unfold P_M_count_L26 at hp
      refine lv_iload_n hx hb dX6_count_26 rfl (lv_at hl 2 rfl) ?_
      refine lv_aload_n hx hb dX6_count_27 rfl (lv_at hl 0 rfl) ?_
      refine va_get (D := G.1) (ci := 6) (v := .ref a_nw) (C := RX6) (T := TX6) (N := 14) hx hb hts iX6 hown hK.1 hP 0 rfl rfl 3 (by decide) (hts (.fieldLink RX6 13 "SongChoirModel" "now" "[I") (List.mem_of_getElem? (i := 1) rfl)) (fun _ h9 => h9) rfl dX6_count_28 ?_
      refine lv_iconst (v := (0 : Int32)) hx hb dX6_count_31 (by decide) ?_
      obtain ⟨hi, hp⟩ := fl_ck_of hp
      refine va_iald hx hb hK.1 hP 2 0 rfl rfl hi dX6_count_32 ?_
      refine lv_icmp_ge (tgt := 62) hx hb dX6_count_33 (by decide) (fun hc => ?_) (fun hc => ?_)
      · replace hp := fl_t hc hp
        refine lv_iload_n hx hb dX6_count_62 rfl (lv_at hl 1 rfl) ?_
        obtain rfl := Option.some.inj hp
        obtain rfl := fl_cont_inr hy26
        exact hfin H locs _ ls hP hD hS dX6_count_63 rfl
      · replace hp := fl_f hc hp
        refine lv_iload_n hx hb dX6_count_36 rfl (lv_at hl 1 rfl) ?_
        refine lv_aload_n hx hb dX6_count_37 rfl (lv_at hl 0 rfl) ?_
        refine lv_iload_n hx hb dX6_count_38 rfl (lv_at hl 2 rfl) ?_
        obtain ⟨q1, hq1, hp⟩ := fl_bd_of hp
        refine fl_roV (As := [.int z26.2]) (rest := [.int z26.1]) C0 (c_M_sungAt l G mo a_sc a_nw a_tr a_di a_ke a_ik a_od a_rk a_be a_fr rf ac fs sc ss nw z26.2 hq1) (cwV 1 hts gX6_count_X6_sungAt rfl rfl rfl (by decide +kernel) ⟨Nat.le_of_ble_eq_true rfl, Nat.le_of_ble_eq_true rfl⟩) hK hP [0, 1, 2] rfl 0 6 rfl rfl rfl hS hA rfl hl.1 rfl (Nat.le_of_ble_eq_true rfl) dX6_count_39 ⟨Nat.zero_le _, Nat.zero_le _⟩ (fun H locs hP hS => ?_)
        refine lv_aload_n hx hb dX6_count_42 rfl (lv_at hl 0 rfl) ?_
        refine va_get (D := G.1) (ci := 6) (v := .int ss) (C := RX6) (T := TX6) (N := 14) hx hb hts iX6 hown hK.1 hP 0 rfl rfl 2 (by decide) (hts (.fieldLink RX6 107 "SongChoirModel" "scriptSize" "I") (List.mem_of_getElem? (i := 2) rfl)) (fun _ h9 => h9) rfl dX6_count_43 ?_
        refine lv_icmp_ne (tgt := 53) hx hb dX6_count_46 (by decide) (fun hc => ?_) (fun hc => ?_)
        · replace hp := fl_f hc hp
          refine lv_iconst (v := (0 : Int32)) hx hb dX6_count_53 (by decide) ?_
          exact KJ54 z26.2 (0 : Int32) z26.1 H locs hP hD hS ls (lv_sub hl [0, 2] rfl) hp
        · replace hp := fl_t hc hp
          refine lv_iconst (v := (1 : Int32)) hx hb dX6_count_49 (by decide) ?_
          refine lv_goto (tgt := 54) hx hb dX6_count_50 (by decide) ?_
          exact KJ54 z26.2 (1 : Int32) z26.1 H locs hP hD hS ls (lv_sub hl [0, 2] rfl) hp
  have KJ14 : ∀ (rf : Int32) (k0 : Int32) (H : Heap) (locs : List Loc), va_P G.1 vwCl [(mo, .inr (6, [.int rf, .ref a_sc, .int ss, .ref a_nw, .ref a_tr, .ref a_di, .int ac, .ref a_ke, .ref a_ik, .ref a_od, .ref a_rk, .ref a_be, .ref a_fr, .int fs])), (a_sc, .inl (G.2.1, 40, .inl sc)), (a_nw, .inl (G.2.1, 126, .inl nw))] H → va_D A [(mo, .inr (6, [.int rf, .ref a_sc, .int ss, .ref a_nw, .ref a_tr, .ref a_di, .int ac, .ref a_ke, .ref a_ik, .ref a_od, .ref a_rk, .ref a_be, .ref a_fr, .int fs])), (a_sc, .inl (G.2.1, 40, .inl sc)), (a_nw, .inl (G.2.1, 126, .inl nw))] → va_S A s.heap H locs → ∀ (ls : Array Slot), lv_has ls 3 [(0, .ref mo)] → P_M_count_J14 rf sc ss nw k0 = some r → W p l e (fl_rm 2 46) s m args below meth c H locs 0 0 Q (F0 m 14 ls [.int k0, .ref mo]) := by
    intro rf k0 H locs hP hD hS ls hl hp
    unfold P_M_count_J14 at hp
    obtain ⟨q1, hq1, hp⟩ := fl_bd_of hp
    refine fl_muV (As := [.int k0]) (rest := []) [(mo, .inr (6, [.int q1.2, .ref a_sc, .int ss, .ref a_nw, .ref a_tr, .ref a_di, .int ac, .ref a_ke, .ref a_ik, .ref a_od, .ref a_rk, .ref a_be, .ref a_fr, .int fs])), (a_sc, .inl (G.2.1, 40, .inl sc)), (a_nw, .inl (G.2.1, 126, .inl nw))] C0 (c_M_refused l G mo a_sc a_nw a_tr a_di a_ke a_ik a_od a_rk a_be a_fr ss ac fs rf k0 hq1) (cwV 1 hts gX6_count_X6_refused rfl rfl rfl (by decide +kernel) ⟨Nat.le_of_ble_eq_true rfl, Nat.le_of_ble_eq_true rfl⟩) hK hP hD [0] [1, 2] [2, 0, 1] rfl rfl (by decide) (by decide) rfl 0 6 rfl rfl rfl hS hA rfl hl.1 rfl (Nat.le_of_ble_eq_true rfl) dX6_count_14 ⟨Nat.zero_le _, Nat.zero_le _⟩ (fun H locs hP hD hS => ?_)
    refine lv_if_eq (tgt := 22) hx hb dX6_count_17 (by decide) (fun hc => ?_) (fun hc => ?_)
    · replace hp := fl_t hc hp
      refine lv_iconst (v := (0 : Int32)) hx hb dX6_count_22 (by decide) ?_
      refine lv_istore_n (lv' := [(1, .int (0 : Int32)), (0, .ref mo)]) hx hb dX6_count_23 rfl hl (by decide) rfl (fun ls hl => ?_)
      refine lv_iconst (v := (0 : Int32)) hx hb dX6_count_24 (by decide) ?_
      refine lv_istore_n (lv' := [(2, .int (0 : Int32)), (1, .int (0 : Int32)), (0, .ref mo)]) hx hb dX6_count_25 rfl hl (by decide) rfl (fun ls hl => ?_)
      obtain ⟨n0, hn⟩ := fl_loop_ex hp
      exact KL26 q1.2 n0 ((0 : Int32), (0 : Int32)) H locs hP hD hS ls (lv_sub hl [2, 1, 0] rfl) hn
    · replace hp := fl_f hc hp
      refine lv_iconst (v := (0 : Int32)) hx hb dX6_count_20 (by decide) ?_
      obtain rfl := Option.some.inj hp
      exact hfin H locs _ ls hP hD hS dX6_count_21 rfl
  have hp := hp0
  unfold P_M_count at hp
  refine lv_aload_n hx hb dX6_count_0 rfl (lv_at hl 0 rfl) ?_
  refine lv_aload_n hx hb dX6_count_1 rfl (lv_at hl 0 rfl) ?_
  obtain ⟨q1, hq1, hp⟩ := fl_bd_of hp
  refine fl_roV (As := []) (rest := [.ref mo]) C0 (c_M_fault l G mo a_sc a_nw a_tr a_di a_ke a_ik a_od a_rk a_be a_fr rf ac fs sc ss hq1) (cwV 0 hts gX6_count_X6_fault rfl rfl rfl (by decide +kernel) ⟨Nat.le_of_ble_eq_true rfl, Nat.le_of_ble_eq_true rfl⟩) hK hP [0, 1] rfl 0 6 rfl rfl rfl hS hA rfl hl.1 rfl (Nat.le_of_ble_eq_true rfl) dX6_count_2 ⟨Nat.zero_le _, Nat.zero_le _⟩ (fun H locs hP hS => ?_)
  refine lv_iconst (v := (-1 : Int32)) hx hb dX6_count_5 (by decide) ?_
  refine lv_icmp_ne (tgt := 13) hx hb dX6_count_6 (by decide) (fun hc => ?_) (fun hc => ?_)
  · replace hp := fl_f hc hp
    refine lv_iconst (v := (1 : Int32)) hx hb dX6_count_13 (by decide) ?_
    exact KJ14 rf (1 : Int32) H locs hP hD hS ls (lv_sub hl [0] rfl) hp
  · replace hp := fl_t hc hp
    refine lv_iconst (v := (0 : Int32)) hx hb dX6_count_9 (by decide) ?_
    refine lv_goto (tgt := 14) hx hb dX6_count_10 (by decide) ?_
    exact KJ14 rf (0 : Int32) H locs hP hD hS ls (lv_sub hl [0] rfl) hp

noncomputable def P_M_placeOf_J65 (rf : Int32) (sc : fl_A) (ss : Int32) (nw : fl_A) (v2 : Int32) (v3 : Int32) : Option ((Int32 × Int32) ⊕ (Int32 × Int32)) := some (.inl (v2, (v3 + (1 : Int32))))
noncomputable def P_M_placeOf_L34 (rf : Int32) (sc : fl_A) (ss : Int32) (nw : fl_A) (z34 : (Int32 × Int32)) : Option ((Int32 × Int32) ⊕ (Int32 × Int32)) := fl_ck (0 : Int32) 126 (if (nw (0 : Int32).toNatClampNeg) ≤ z34.2 then some (.inr ((-1 : Int32), rf)) else fl_bd (P_M_sungAt sc ss nw z34.2) (fun q1 => if q1 = ss then if z34.1 = 0 then some (.inr (z34.2, rf)) else P_M_placeOf_J65 rf sc ss nw (z34.1 + (-1 : Int32)) z34.2 else P_M_placeOf_J65 rf sc ss nw z34.1 z34.2))
noncomputable def P_M_placeOf_J22 (rf : Int32) (sc : fl_A) (ss : Int32) (nw : fl_A) (p0 : Int32) (k0 : Int32) : Option (Int32 × Int32) := fl_bd (P_M_refused rf k0) (fun q1 => if q1.1 = 0 then fl_loop (P_M_placeOf_L34 q1.2 sc ss nw) (p0, (0 : Int32)) else some ((0 : Int32), q1.2))
noncomputable def P_M_placeOf (rf : Int32) (sc : fl_A) (ss : Int32) (nw : fl_A) (p0 : Int32) : Option (Int32 × Int32) := if 0 ≤ p0 then fl_bd (P_M_fault sc ss) (fun q1 => if q1 = (-1 : Int32) then P_M_placeOf_J22 rf sc ss nw p0 (0 : Int32) else P_M_placeOf_J22 rf sc ss nw p0 (2 : Int32)) else P_M_placeOf_J22 rf sc ss nw p0 (1 : Int32)
set_option maxHeartbeats 4000000 in
set_option maxRecDepth 100000 in
theorem c_M_placeOf (l : Launch) (G : fl_G) (mo a_sc a_nw a_tr a_di a_ke a_ik a_od a_rk a_be a_fr : Nat) (ac : Int32) (fs : Int32) (rf : Int32) (sc : fl_A) (ss : Int32) (nw : fl_A) (p0 : Int32) {r : (Int32 × Int32)} (hp0 : P_M_placeOf rf sc ss nw p0 = some r) : fl_mu l yX6_placeOf wsX6_placeOf 2 46 G [.ref mo, .int p0] [(mo, .inr (6, [.int rf, .ref a_sc, .int ss, .ref a_nw, .ref a_tr, .ref a_di, .int ac, .ref a_ke, .ref a_ik, .ref a_od, .ref a_rk, .ref a_be, .ref a_fr, .int fs])), (a_sc, .inl (G.2.1, 40, .inl sc)), (a_nw, .inl (G.2.1, 126, .inl nw))] (some (.int r.1)) [(mo, .inr (6, [.int r.2, .ref a_sc, .int ss, .ref a_nw, .ref a_tr, .ref a_di, .int ac, .ref a_ke, .ref a_ik, .ref a_od, .ref a_rk, .ref a_be, .ref a_fr, .int fs])), (a_sc, .inl (G.2.1, 40, .inl sc)), (a_nw, .inl (G.2.1, 126, .inl nw))] := by
  refine fl_mui_in cX6_placeOf 4 .int RX6 (by decide) rfl rfl (Nat.le_of_ble_eq_true rfl) ?_
  intro p e s m args below meth c ls A Q H locs C0 hK hP hD hS hA hl hfin
  obtain ⟨hx, hb, hml, hown, hts⟩ := id C0
  have iX6 : ∀ w ∈ u_ws RX6 TX6 14, w ∈ wsX6_placeOf := fun _ h => List.mem_cons_of_mem _ (List.mem_append_right _ h)
  have hl : lv_has ls 4 [(0, .ref mo), (1, .int p0)] := hl
  have KL34 : ∀ (rf : Int32) (n0 : Nat) (z34 : (Int32 × Int32)) (H : Heap) (locs : List Loc), va_P G.1 vwCl [(mo, .inr (6, [.int rf, .ref a_sc, .int ss, .ref a_nw, .ref a_tr, .ref a_di, .int ac, .ref a_ke, .ref a_ik, .ref a_od, .ref a_rk, .ref a_be, .ref a_fr, .int fs])), (a_sc, .inl (G.2.1, 40, .inl sc)), (a_nw, .inl (G.2.1, 126, .inl nw))] H → va_D A [(mo, .inr (6, [.int rf, .ref a_sc, .int ss, .ref a_nw, .ref a_tr, .ref a_di, .int ac, .ref a_ke, .ref a_ik, .ref a_od, .ref a_rk, .ref a_be, .ref a_fr, .int fs])), (a_sc, .inl (G.2.1, 40, .inl sc)), (a_nw, .inl (G.2.1, 126, .inl nw))] → va_S A s.heap H locs → ∀ (ls : Array Slot), lv_has ls 4 [(0, .ref mo), (2, .int z34.1), (3, .int z34.2)] → fl_loopN (P_M_placeOf_L34 rf sc ss nw) n0 z34 = some r → W p l e (fl_rm 2 46) s m args below meth c H locs 0 0 Q (F0 m 34 ls []) := by
    intro rf n0
    induction n0 with
    | zero => intro z34 H locs hP hD hS ls hl hn; exact (fl_loopN_0 hn).elim
    | succ n0 ih34 =>
      intro z34 H locs hP hD hS ls hl hn
      obtain ⟨y34, hb34, hy34⟩ := fl_loopN_step hn
      clear hn
      have KJ65 : ∀ (v2 : Int32) (v3 : Int32) (H : Heap) (locs : List Loc), va_P G.1 vwCl [(mo, .inr (6, [.int rf, .ref a_sc, .int ss, .ref a_nw, .ref a_tr, .ref a_di, .int ac, .ref a_ke, .ref a_ik, .ref a_od, .ref a_rk, .ref a_be, .ref a_fr, .int fs])), (a_sc, .inl (G.2.1, 40, .inl sc)), (a_nw, .inl (G.2.1, 126, .inl nw))] H → va_D A [(mo, .inr (6, [.int rf, .ref a_sc, .int ss, .ref a_nw, .ref a_tr, .ref a_di, .int ac, .ref a_ke, .ref a_ik, .ref a_od, .ref a_rk, .ref a_be, .ref a_fr, .int fs])), (a_sc, .inl (G.2.1, 40, .inl sc)), (a_nw, .inl (G.2.1, 126, .inl nw))] → va_S A s.heap H locs → ∀ (ls : Array Slot), lv_has ls 4 [(0, .ref mo), (2, .int v2), (3, .int v3)] → P_M_placeOf_J65 rf sc ss nw v2 v3 = some y34 → W p l e (fl_rm 2 46) s m args below meth c H locs 0 0 Q (F0 m 65 ls []) := by
        intro v2 v3 H locs hP hD hS ls hl hp
        unfold P_M_placeOf_J65 at hp
        refine lv_iinc (v := (v3 + (1 : Int32))) (lv' := [(3, .int (v3 + (1 : Int32))), (0, .ref mo), (2, .int v2)]) hx hb dX6_placeOf_65 hl (k := 2) rfl rfl (by decide) rfl (fun ls hl => ?_)
        refine lv_goto (tgt := 34) hx hb dX6_placeOf_68 (by decide) ?_
        obtain rfl := Option.some.inj hp
        exact ih34 (v2, (v3 + (1 : Int32))) H locs hP hD hS ls (lv_sub hl [1, 2, 0] rfl) (fl_cont_inl hy34)
      have hp := hb34
      unfold P_M_placeOf_L34 at hp
      refine lv_iload_n hx hb dX6_placeOf_34 rfl (lv_at hl 2 rfl) ?_
      refine lv_aload_n hx hb dX6_placeOf_35 rfl (lv_at hl 0 rfl) ?_
      refine va_get (D := G.1) (ci := 6) (v := .ref a_nw) (C := RX6) (T := TX6) (N := 14) hx hb hts iX6 hown hK.1 hP 0 rfl rfl 3 (by decide) (hts (.fieldLink RX6 13 "SongChoirModel" "now" "[I") (List.mem_of_getElem? (i := 1) rfl)) (fun _ h9 => h9) rfl dX6_placeOf_36 ?_
      refine lv_iconst (v := (0 : Int32)) hx hb dX6_placeOf_39 (by decide) ?_
      obtain ⟨hi, hp⟩ := fl_ck_of hp
      refine va_iald hx hb hK.1 hP 2 0 rfl rfl hi dX6_placeOf_40 ?_
      refine lv_icmp_ge (tgt := 71) hx hb dX6_placeOf_41 (by decide) (fun hc => ?_) (fun hc => ?_)
      · replace hp := fl_t hc hp
        refine lv_iconst (v := (-1 : Int32)) hx hb dX6_placeOf_71 (by decide) ?_
        obtain rfl := Option.some.inj hp
        obtain rfl := fl_cont_inr hy34
        exact hfin H locs _ ls hP hD hS dX6_placeOf_72 rfl
      · replace hp := fl_f hc hp
        refine lv_aload_n hx hb dX6_placeOf_44 rfl (lv_at hl 0 rfl) ?_
        refine lv_iload_n hx hb dX6_placeOf_45 rfl (lv_at hl 2 rfl) ?_
        obtain ⟨q1, hq1, hp⟩ := fl_bd_of hp
        refine fl_roV (As := [.int z34.2]) (rest := []) C0 (c_M_sungAt l G mo a_sc a_nw a_tr a_di a_ke a_ik a_od a_rk a_be a_fr rf ac fs sc ss nw z34.2 hq1) (cwV 1 hts gX6_placeOf_X6_sungAt rfl rfl rfl (by decide +kernel) ⟨Nat.le_of_ble_eq_true rfl, Nat.le_of_ble_eq_true rfl⟩) hK hP [0, 1, 2] rfl 0 6 rfl rfl rfl hS hA rfl hl.1 rfl (Nat.le_of_ble_eq_true rfl) dX6_placeOf_46 ⟨Nat.zero_le _, Nat.zero_le _⟩ (fun H locs hP hS => ?_)
        refine lv_aload_n hx hb dX6_placeOf_49 rfl (lv_at hl 0 rfl) ?_
        refine va_get (D := G.1) (ci := 6) (v := .int ss) (C := RX6) (T := TX6) (N := 14) hx hb hts iX6 hown hK.1 hP 0 rfl rfl 2 (by decide) (hts (.fieldLink RX6 107 "SongChoirModel" "scriptSize" "I") (List.mem_of_getElem? (i := 2) rfl)) (fun _ h9 => h9) rfl dX6_placeOf_50 ?_
        refine lv_icmp_ne (tgt := 65) hx hb dX6_placeOf_53 (by decide) (fun hc => ?_) (fun hc => ?_)
        · replace hp := fl_f hc hp
          exact KJ65 z34.1 z34.2 H locs hP hD hS ls (lv_sub hl [0, 1, 2] rfl) hp
        · replace hp := fl_t hc hp
          refine lv_iload_n hx hb dX6_placeOf_56 rfl (lv_at hl 1 rfl) ?_
          refine lv_if_ne (tgt := 62) hx hb dX6_placeOf_57 (by decide) (fun hc => ?_) (fun hc => ?_)
          · replace hp := fl_f hc hp
            refine lv_iinc (v := (z34.1 + (-1 : Int32))) (lv' := [(2, .int (z34.1 + (-1 : Int32))), (0, .ref mo), (3, .int z34.2)]) hx hb dX6_placeOf_62 hl (k := 1) rfl rfl (by decide) rfl (fun ls hl => ?_)
            exact KJ65 (z34.1 + (-1 : Int32)) z34.2 H locs hP hD hS ls (lv_sub hl [1, 0, 2] rfl) hp
          · replace hp := fl_t hc hp
            refine lv_iload_n hx hb dX6_placeOf_60 rfl (lv_at hl 2 rfl) ?_
            obtain rfl := Option.some.inj hp
            obtain rfl := fl_cont_inr hy34
            exact hfin H locs _ ls hP hD hS dX6_placeOf_61 rfl
  have KJ22 : ∀ (rf : Int32) (k0 : Int32) (H : Heap) (locs : List Loc), va_P G.1 vwCl [(mo, .inr (6, [.int rf, .ref a_sc, .int ss, .ref a_nw, .ref a_tr, .ref a_di, .int ac, .ref a_ke, .ref a_ik, .ref a_od, .ref a_rk, .ref a_be, .ref a_fr, .int fs])), (a_sc, .inl (G.2.1, 40, .inl sc)), (a_nw, .inl (G.2.1, 126, .inl nw))] H → va_D A [(mo, .inr (6, [.int rf, .ref a_sc, .int ss, .ref a_nw, .ref a_tr, .ref a_di, .int ac, .ref a_ke, .ref a_ik, .ref a_od, .ref a_rk, .ref a_be, .ref a_fr, .int fs])), (a_sc, .inl (G.2.1, 40, .inl sc)), (a_nw, .inl (G.2.1, 126, .inl nw))] → va_S A s.heap H locs → ∀ (ls : Array Slot), lv_has ls 4 [(0, .ref mo), (1, .int p0)] → P_M_placeOf_J22 rf sc ss nw p0 k0 = some r → W p l e (fl_rm 2 46) s m args below meth c H locs 0 0 Q (F0 m 22 ls [.int k0, .ref mo]) := by
    intro rf k0 H locs hP hD hS ls hl hp
    unfold P_M_placeOf_J22 at hp
    obtain ⟨q1, hq1, hp⟩ := fl_bd_of hp
    refine fl_muV (As := [.int k0]) (rest := []) [(mo, .inr (6, [.int q1.2, .ref a_sc, .int ss, .ref a_nw, .ref a_tr, .ref a_di, .int ac, .ref a_ke, .ref a_ik, .ref a_od, .ref a_rk, .ref a_be, .ref a_fr, .int fs])), (a_sc, .inl (G.2.1, 40, .inl sc)), (a_nw, .inl (G.2.1, 126, .inl nw))] C0 (c_M_refused l G mo a_sc a_nw a_tr a_di a_ke a_ik a_od a_rk a_be a_fr ss ac fs rf k0 hq1) (cwV 1 hts gX6_placeOf_X6_refused rfl rfl rfl (by decide +kernel) ⟨Nat.le_of_ble_eq_true rfl, Nat.le_of_ble_eq_true rfl⟩) hK hP hD [0] [1, 2] [2, 0, 1] rfl rfl (by decide) (by decide) rfl 0 6 rfl rfl rfl hS hA rfl hl.1 rfl (Nat.le_of_ble_eq_true rfl) dX6_placeOf_22 ⟨Nat.zero_le _, Nat.zero_le _⟩ (fun H locs hP hD hS => ?_)
    refine lv_if_eq (tgt := 30) hx hb dX6_placeOf_25 (by decide) (fun hc => ?_) (fun hc => ?_)
    · replace hp := fl_t hc hp
      refine lv_iload_n hx hb dX6_placeOf_30 rfl (lv_at hl 1 rfl) ?_
      refine lv_istore_n (lv' := [(2, .int p0), (0, .ref mo), (1, .int p0)]) hx hb dX6_placeOf_31 rfl hl (by decide) rfl (fun ls hl => ?_)
      refine lv_iconst (v := (0 : Int32)) hx hb dX6_placeOf_32 (by decide) ?_
      refine lv_istore_n (lv' := [(3, .int (0 : Int32)), (2, .int p0), (0, .ref mo), (1, .int p0)]) hx hb dX6_placeOf_33 rfl hl (by decide) rfl (fun ls hl => ?_)
      obtain ⟨n0, hn⟩ := fl_loop_ex hp
      exact KL34 q1.2 n0 (p0, (0 : Int32)) H locs hP hD hS ls (lv_sub hl [2, 1, 0] rfl) hn
    · replace hp := fl_f hc hp
      refine lv_iconst (v := (0 : Int32)) hx hb dX6_placeOf_28 (by decide) ?_
      obtain rfl := Option.some.inj hp
      exact hfin H locs _ ls hP hD hS dX6_placeOf_29 rfl
  have hp := hp0
  unfold P_M_placeOf at hp
  refine lv_aload_n hx hb dX6_placeOf_0 rfl (lv_at hl 0 rfl) ?_
  refine lv_iload_n hx hb dX6_placeOf_1 rfl (lv_at hl 1 rfl) ?_
  refine lv_if_ge (tgt := 9) hx hb dX6_placeOf_2 (by decide) (fun hc => ?_) (fun hc => ?_)
  · replace hp := fl_t hc hp
    refine lv_aload_n hx hb dX6_placeOf_9 rfl (lv_at hl 0 rfl) ?_
    obtain ⟨q1, hq1, hp⟩ := fl_bd_of hp
    refine fl_roV (As := []) (rest := [.ref mo]) C0 (c_M_fault l G mo a_sc a_nw a_tr a_di a_ke a_ik a_od a_rk a_be a_fr rf ac fs sc ss hq1) (cwV 0 hts gX6_placeOf_X6_fault rfl rfl rfl (by decide +kernel) ⟨Nat.le_of_ble_eq_true rfl, Nat.le_of_ble_eq_true rfl⟩) hK hP [0, 1] rfl 0 6 rfl rfl rfl hS hA rfl hl.1 rfl (Nat.le_of_ble_eq_true rfl) dX6_placeOf_10 ⟨Nat.zero_le _, Nat.zero_le _⟩ (fun H locs hP hS => ?_)
    refine lv_iconst (v := (-1 : Int32)) hx hb dX6_placeOf_13 (by decide) ?_
    refine lv_icmp_ne (tgt := 21) hx hb dX6_placeOf_14 (by decide) (fun hc => ?_) (fun hc => ?_)
    · replace hp := fl_f hc hp
      refine lv_iconst (v := (2 : Int32)) hx hb dX6_placeOf_21 (by decide) ?_
      exact KJ22 rf (2 : Int32) H locs hP hD hS ls (lv_sub hl [0, 1] rfl) hp
    · replace hp := fl_t hc hp
      refine lv_iconst (v := (0 : Int32)) hx hb dX6_placeOf_17 (by decide) ?_
      refine lv_goto (tgt := 22) hx hb dX6_placeOf_18 (by decide) ?_
      exact KJ22 rf (0 : Int32) H locs hP hD hS ls (lv_sub hl [0, 1] rfl) hp
  · replace hp := fl_f hc hp
    refine lv_iconst (v := (1 : Int32)) hx hb dX6_placeOf_5 (by decide) ?_
    refine lv_goto (tgt := 22) hx hb dX6_placeOf_6 (by decide) ?_
    exact KJ22 rf (1 : Int32) H locs hP hD hS ls (lv_sub hl [0, 1] rfl) hp

noncomputable def P_M_known_J54 (rf : Int32) (sc : fl_A) (ss : Int32) (nw : fl_A) (v2 : Int32) (k0 : Int32) : Option ((Int32 × Int32) ⊕ (Int32 × Int32)) := some (.inl (k0, (v2 + (1 : Int32))))
noncomputable def P_M_known_L26 (rf : Int32) (sc : fl_A) (ss : Int32) (nw : fl_A) (z26 : (Int32 × Int32)) : Option ((Int32 × Int32) ⊕ (Int32 × Int32)) := fl_ck (0 : Int32) 126 (if (nw (0 : Int32).toNatClampNeg) ≤ z26.2 then some (.inr (z26.1, rf)) else fl_bd (P_M_sungAt sc ss nw z26.2) (fun q1 => if q1 ≤ z26.1 then P_M_known_J54 rf sc ss nw z26.2 z26.1 else fl_bd (P_M_sungAt sc ss nw z26.2) (fun q2 => P_M_known_J54 rf sc ss nw z26.2 q2)))
noncomputable def P_M_known_J14 (rf : Int32) (sc : fl_A) (ss : Int32) (nw : fl_A) (k0 : Int32) : Option (Int32 × Int32) := fl_bd (P_M_refused rf k0) (fun q1 => if q1.1 = 0 then fl_loop (P_M_known_L26 q1.2 sc ss nw) ((0 : Int32), (0 : Int32)) else some ((0 : Int32), q1.2))
noncomputable def P_M_known (rf : Int32) (sc : fl_A) (ss : Int32) (nw : fl_A) : Option (Int32 × Int32) := fl_bd (P_M_fault sc ss) (fun q1 => if q1 = (-1 : Int32) then P_M_known_J14 rf sc ss nw (0 : Int32) else P_M_known_J14 rf sc ss nw (1 : Int32))
set_option maxHeartbeats 4000000 in
set_option maxRecDepth 100000 in
theorem c_M_known (l : Launch) (G : fl_G) (mo a_sc a_nw a_tr a_di a_ke a_ik a_od a_rk a_be a_fr : Nat) (ac : Int32) (fs : Int32) (rf : Int32) (sc : fl_A) (ss : Int32) (nw : fl_A) {r : (Int32 × Int32)} (hp0 : P_M_known rf sc ss nw = some r) : fl_mu l yX6_known wsX6_known 2 46 G [.ref mo] [(mo, .inr (6, [.int rf, .ref a_sc, .int ss, .ref a_nw, .ref a_tr, .ref a_di, .int ac, .ref a_ke, .ref a_ik, .ref a_od, .ref a_rk, .ref a_be, .ref a_fr, .int fs])), (a_sc, .inl (G.2.1, 40, .inl sc)), (a_nw, .inl (G.2.1, 126, .inl nw))] (some (.int r.1)) [(mo, .inr (6, [.int r.2, .ref a_sc, .int ss, .ref a_nw, .ref a_tr, .ref a_di, .int ac, .ref a_ke, .ref a_ik, .ref a_od, .ref a_rk, .ref a_be, .ref a_fr, .int fs])), (a_sc, .inl (G.2.1, 40, .inl sc)), (a_nw, .inl (G.2.1, 126, .inl nw))] := by
  refine fl_mui_in cX6_known 3 .int RX6 (by decide) rfl rfl (Nat.le_of_ble_eq_true rfl) ?_
  intro p e s m args below meth c ls A Q H locs C0 hK hP hD hS hA hl hfin
  obtain ⟨hx, hb, hml, hown, hts⟩ := id C0
  have iX6 : ∀ w ∈ u_ws RX6 TX6 14, w ∈ wsX6_known := fun _ h => List.mem_cons_of_mem _ (List.mem_append_right _ h)
  have hl : lv_has ls 3 [(0, .ref mo)] := hl
  have KL26 : ∀ (rf : Int32) (n0 : Nat) (z26 : (Int32 × Int32)) (H : Heap) (locs : List Loc), va_P G.1 vwCl [(mo, .inr (6, [.int rf, .ref a_sc, .int ss, .ref a_nw, .ref a_tr, .ref a_di, .int ac, .ref a_ke, .ref a_ik, .ref a_od, .ref a_rk, .ref a_be, .ref a_fr, .int fs])), (a_sc, .inl (G.2.1, 40, .inl sc)), (a_nw, .inl (G.2.1, 126, .inl nw))] H → va_D A [(mo, .inr (6, [.int rf, .ref a_sc, .int ss, .ref a_nw, .ref a_tr, .ref a_di, .int ac, .ref a_ke, .ref a_ik, .ref a_od, .ref a_rk, .ref a_be, .ref a_fr, .int fs])), (a_sc, .inl (G.2.1, 40, .inl sc)), (a_nw, .inl (G.2.1, 126, .inl nw))] → va_S A s.heap H locs → ∀ (ls : Array Slot), lv_has ls 3 [(0, .ref mo), (1, .int z26.1), (2, .int z26.2)] → fl_loopN (P_M_known_L26 rf sc ss nw) n0 z26 = some r → W p l e (fl_rm 2 46) s m args below meth c H locs 0 0 Q (F0 m 26 ls []) := by
    intro rf n0
    induction n0 with
    | zero => intro z26 H locs hP hD hS ls hl hn; exact (fl_loopN_0 hn).elim
    | succ n0 ih26 =>
      intro z26 H locs hP hD hS ls hl hn
      obtain ⟨y26, hb26, hy26⟩ := fl_loopN_step hn
      clear hn
      have KJ54 : ∀ (v2 : Int32) (k0 : Int32) (H : Heap) (locs : List Loc), va_P G.1 vwCl [(mo, .inr (6, [.int rf, .ref a_sc, .int ss, .ref a_nw, .ref a_tr, .ref a_di, .int ac, .ref a_ke, .ref a_ik, .ref a_od, .ref a_rk, .ref a_be, .ref a_fr, .int fs])), (a_sc, .inl (G.2.1, 40, .inl sc)), (a_nw, .inl (G.2.1, 126, .inl nw))] H → va_D A [(mo, .inr (6, [.int rf, .ref a_sc, .int ss, .ref a_nw, .ref a_tr, .ref a_di, .int ac, .ref a_ke, .ref a_ik, .ref a_od, .ref a_rk, .ref a_be, .ref a_fr, .int fs])), (a_sc, .inl (G.2.1, 40, .inl sc)), (a_nw, .inl (G.2.1, 126, .inl nw))] → va_S A s.heap H locs → ∀ (ls : Array Slot), lv_has ls 3 [(0, .ref mo), (2, .int v2)] → P_M_known_J54 rf sc ss nw v2 k0 = some y26 → W p l e (fl_rm 2 46) s m args below meth c H locs 0 0 Q (F0 m 54 ls [.int k0]) := by
        intro v2 k0 H locs hP hD hS ls hl hp
        unfold P_M_known_J54 at hp
        refine lv_istore_n (lv' := [(1, .int k0), (0, .ref mo), (2, .int v2)]) hx hb dX6_known_54 rfl hl (by decide) rfl (fun ls hl => ?_)
        refine lv_iinc (v := (v2 + (1 : Int32))) (lv' := [(2, .int (v2 + (1 : Int32))), (1, .int k0), (0, .ref mo)]) hx hb dX6_known_55 hl (k := 2) rfl rfl (by decide) rfl (fun ls hl => ?_)
        refine lv_goto (tgt := 26) hx hb dX6_known_58 (by decide) ?_
        obtain rfl := Option.some.inj hp
        exact ih26 (k0, (v2 + (1 : Int32))) H locs hP hD hS ls (lv_sub hl [2, 1, 0] rfl) (fl_cont_inl hy26)
      have hp := hb26
      unfold P_M_known_L26 at hp
      refine lv_iload_n hx hb dX6_known_26 rfl (lv_at hl 2 rfl) ?_
      refine lv_aload_n hx hb dX6_known_27 rfl (lv_at hl 0 rfl) ?_
      refine va_get (D := G.1) (ci := 6) (v := .ref a_nw) (C := RX6) (T := TX6) (N := 14) hx hb hts iX6 hown hK.1 hP 0 rfl rfl 3 (by decide) (hts (.fieldLink RX6 13 "SongChoirModel" "now" "[I") (List.mem_of_getElem? (i := 1) rfl)) (fun _ h9 => h9) rfl dX6_known_28 ?_
      refine lv_iconst (v := (0 : Int32)) hx hb dX6_known_31 (by decide) ?_
      obtain ⟨hi, hp⟩ := fl_ck_of hp
      refine va_iald hx hb hK.1 hP 2 0 rfl rfl hi dX6_known_32 ?_
      refine lv_icmp_ge (tgt := 61) hx hb dX6_known_33 (by decide) (fun hc => ?_) (fun hc => ?_)
      · replace hp := fl_t hc hp
        refine lv_iload_n hx hb dX6_known_61 rfl (lv_at hl 1 rfl) ?_
        obtain rfl := Option.some.inj hp
        obtain rfl := fl_cont_inr hy26
        exact hfin H locs _ ls hP hD hS dX6_known_62 rfl
      · replace hp := fl_f hc hp
        refine lv_aload_n hx hb dX6_known_36 rfl (lv_at hl 0 rfl) ?_
        refine lv_iload_n hx hb dX6_known_37 rfl (lv_at hl 2 rfl) ?_
        obtain ⟨q1, hq1, hp⟩ := fl_bd_of hp
        refine fl_roV (As := [.int z26.2]) (rest := []) C0 (c_M_sungAt l G mo a_sc a_nw a_tr a_di a_ke a_ik a_od a_rk a_be a_fr rf ac fs sc ss nw z26.2 hq1) (cwV 1 hts gX6_known_X6_sungAt rfl rfl rfl (by decide +kernel) ⟨Nat.le_of_ble_eq_true rfl, Nat.le_of_ble_eq_true rfl⟩) hK hP [0, 1, 2] rfl 0 6 rfl rfl rfl hS hA rfl hl.1 rfl (Nat.le_of_ble_eq_true rfl) dX6_known_38 ⟨Nat.zero_le _, Nat.zero_le _⟩ (fun H locs hP hS => ?_)
        refine lv_iload_n hx hb dX6_known_41 rfl (lv_at hl 1 rfl) ?_
        refine lv_icmp_le (tgt := 53) hx hb dX6_known_42 (by decide) (fun hc => ?_) (fun hc => ?_)
        · replace hp := fl_t hc hp
          refine lv_iload_n hx hb dX6_known_53 rfl (lv_at hl 1 rfl) ?_
          exact KJ54 z26.2 z26.1 H locs hP hD hS ls (lv_sub hl [0, 2] rfl) hp
        · replace hp := fl_f hc hp
          refine lv_aload_n hx hb dX6_known_45 rfl (lv_at hl 0 rfl) ?_
          refine lv_iload_n hx hb dX6_known_46 rfl (lv_at hl 2 rfl) ?_
          obtain ⟨q2, hq2, hp⟩ := fl_bd_of hp
          refine fl_roV (As := [.int z26.2]) (rest := []) C0 (c_M_sungAt l G mo a_sc a_nw a_tr a_di a_ke a_ik a_od a_rk a_be a_fr rf ac fs sc ss nw z26.2 hq2) (cwV 1 hts gX6_known_X6_sungAt rfl rfl rfl (by decide +kernel) ⟨Nat.le_of_ble_eq_true rfl, Nat.le_of_ble_eq_true rfl⟩) hK hP [0, 1, 2] rfl 0 6 rfl rfl rfl hS hA rfl hl.1 rfl (Nat.le_of_ble_eq_true rfl) dX6_known_47 ⟨Nat.zero_le _, Nat.zero_le _⟩ (fun H locs hP hS => ?_)
          refine lv_goto (tgt := 54) hx hb dX6_known_50 (by decide) ?_
          exact KJ54 z26.2 q2 H locs hP hD hS ls (lv_sub hl [0, 2] rfl) hp
  have KJ14 : ∀ (rf : Int32) (k0 : Int32) (H : Heap) (locs : List Loc), va_P G.1 vwCl [(mo, .inr (6, [.int rf, .ref a_sc, .int ss, .ref a_nw, .ref a_tr, .ref a_di, .int ac, .ref a_ke, .ref a_ik, .ref a_od, .ref a_rk, .ref a_be, .ref a_fr, .int fs])), (a_sc, .inl (G.2.1, 40, .inl sc)), (a_nw, .inl (G.2.1, 126, .inl nw))] H → va_D A [(mo, .inr (6, [.int rf, .ref a_sc, .int ss, .ref a_nw, .ref a_tr, .ref a_di, .int ac, .ref a_ke, .ref a_ik, .ref a_od, .ref a_rk, .ref a_be, .ref a_fr, .int fs])), (a_sc, .inl (G.2.1, 40, .inl sc)), (a_nw, .inl (G.2.1, 126, .inl nw))] → va_S A s.heap H locs → ∀ (ls : Array Slot), lv_has ls 3 [(0, .ref mo)] → P_M_known_J14 rf sc ss nw k0 = some r → W p l e (fl_rm 2 46) s m args below meth c H locs 0 0 Q (F0 m 14 ls [.int k0, .ref mo]) := by
    intro rf k0 H locs hP hD hS ls hl hp
    unfold P_M_known_J14 at hp
    obtain ⟨q1, hq1, hp⟩ := fl_bd_of hp
    refine fl_muV (As := [.int k0]) (rest := []) [(mo, .inr (6, [.int q1.2, .ref a_sc, .int ss, .ref a_nw, .ref a_tr, .ref a_di, .int ac, .ref a_ke, .ref a_ik, .ref a_od, .ref a_rk, .ref a_be, .ref a_fr, .int fs])), (a_sc, .inl (G.2.1, 40, .inl sc)), (a_nw, .inl (G.2.1, 126, .inl nw))] C0 (c_M_refused l G mo a_sc a_nw a_tr a_di a_ke a_ik a_od a_rk a_be a_fr ss ac fs rf k0 hq1) (cwV 1 hts gX6_known_X6_refused rfl rfl rfl (by decide +kernel) ⟨Nat.le_of_ble_eq_true rfl, Nat.le_of_ble_eq_true rfl⟩) hK hP hD [0] [1, 2] [2, 0, 1] rfl rfl (by decide) (by decide) rfl 0 6 rfl rfl rfl hS hA rfl hl.1 rfl (Nat.le_of_ble_eq_true rfl) dX6_known_14 ⟨Nat.zero_le _, Nat.zero_le _⟩ (fun H locs hP hD hS => ?_)
    refine lv_if_eq (tgt := 22) hx hb dX6_known_17 (by decide) (fun hc => ?_) (fun hc => ?_)
    · replace hp := fl_t hc hp
      refine lv_iconst (v := (0 : Int32)) hx hb dX6_known_22 (by decide) ?_
      refine lv_istore_n (lv' := [(1, .int (0 : Int32)), (0, .ref mo)]) hx hb dX6_known_23 rfl hl (by decide) rfl (fun ls hl => ?_)
      refine lv_iconst (v := (0 : Int32)) hx hb dX6_known_24 (by decide) ?_
      refine lv_istore_n (lv' := [(2, .int (0 : Int32)), (1, .int (0 : Int32)), (0, .ref mo)]) hx hb dX6_known_25 rfl hl (by decide) rfl (fun ls hl => ?_)
      obtain ⟨n0, hn⟩ := fl_loop_ex hp
      exact KL26 q1.2 n0 ((0 : Int32), (0 : Int32)) H locs hP hD hS ls (lv_sub hl [2, 1, 0] rfl) hn
    · replace hp := fl_f hc hp
      refine lv_iconst (v := (0 : Int32)) hx hb dX6_known_20 (by decide) ?_
      obtain rfl := Option.some.inj hp
      exact hfin H locs _ ls hP hD hS dX6_known_21 rfl
  have hp := hp0
  unfold P_M_known at hp
  refine lv_aload_n hx hb dX6_known_0 rfl (lv_at hl 0 rfl) ?_
  refine lv_aload_n hx hb dX6_known_1 rfl (lv_at hl 0 rfl) ?_
  obtain ⟨q1, hq1, hp⟩ := fl_bd_of hp
  refine fl_roV (As := []) (rest := [.ref mo]) C0 (c_M_fault l G mo a_sc a_nw a_tr a_di a_ke a_ik a_od a_rk a_be a_fr rf ac fs sc ss hq1) (cwV 0 hts gX6_known_X6_fault rfl rfl rfl (by decide +kernel) ⟨Nat.le_of_ble_eq_true rfl, Nat.le_of_ble_eq_true rfl⟩) hK hP [0, 1] rfl 0 6 rfl rfl rfl hS hA rfl hl.1 rfl (Nat.le_of_ble_eq_true rfl) dX6_known_2 ⟨Nat.zero_le _, Nat.zero_le _⟩ (fun H locs hP hS => ?_)
  refine lv_iconst (v := (-1 : Int32)) hx hb dX6_known_5 (by decide) ?_
  refine lv_icmp_ne (tgt := 13) hx hb dX6_known_6 (by decide) (fun hc => ?_) (fun hc => ?_)
  · replace hp := fl_f hc hp
    refine lv_iconst (v := (1 : Int32)) hx hb dX6_known_13 (by decide) ?_
    exact KJ14 rf (1 : Int32) H locs hP hD hS ls (lv_sub hl [0] rfl) hp
  · replace hp := fl_t hc hp
    refine lv_iconst (v := (0 : Int32)) hx hb dX6_known_9 (by decide) ?_
    refine lv_goto (tgt := 14) hx hb dX6_known_10 (by decide) ?_
    exact KJ14 rf (0 : Int32) H locs hP hD hS ls (lv_sub hl [0] rfl) hp

noncomputable def P_M_common_J198 (rf : Int32) (nw : fl_A) (p0 : Int32) (p1 : Int32) (v3 : Int32) (v4 : Int32) (v5 : Int32) (v6 : Int32) : Option ((Int32 × Int32) ⊕ (Int32 × Int32)) := some (.inl (v5, (v6 + (1 : Int32))))
noncomputable def P_M_common_J190 (rf : Int32) (nw : fl_A) (p0 : Int32) (p1 : Int32) (v3 : Int32) (v4 : Int32) (v6 : Int32) (v7 : Int32) (k0 : Int32) : Option ((Int32 × Int32) ⊕ ((Int32 × Int32) ⊕ (Int32 × Int32))) := some (.inl (k0, (v7 + (1 : Int32))))
noncomputable def P_M_common_J174 (rf : Int32) (nw : fl_A) (p0 : Int32) (p1 : Int32) (v3 : Int32) (v4 : Int32) (v5 : Int32) (v6 : Int32) (v7 : Int32) (k0 : Int32) : Option ((Int32 × Int32) ⊕ ((Int32 × Int32) ⊕ (Int32 × Int32))) := if k0 ≤ v5 then P_M_common_J190 rf nw p0 p1 v3 v4 v6 v7 v5 else P_M_common_J190 rf nw p0 p1 v3 v4 v6 v7 k0
noncomputable def P_M_common_J158 (rf : Int32) (nw : fl_A) (p0 : Int32) (p1 : Int32) (v3 : Int32) (v4 : Int32) (v5 : Int32) (v6 : Int32) (v7 : Int32) (v8 : Int32) (k0 : Int32) : Option ((Int32 × Int32) ⊕ ((Int32 × Int32) ⊕ (Int32 × Int32))) := if k0 ≤ v8 then P_M_common_J174 rf nw p0 p1 v3 v4 v5 v6 v7 k0 else P_M_common_J174 rf nw p0 p1 v3 v4 v5 v6 v7 v8
noncomputable def P_M_common_L72 (rf : Int32) (nw : fl_A) (p0 : Int32) (p1 : Int32) (v3 : Int32) (v4 : Int32) (v6 : Int32) (z72 : (Int32 × Int32)) : Option ((Int32 × Int32) ⊕ ((Int32 × Int32) ⊕ (Int32 × Int32))) := fl_ck ((6 : Int32) + p1) 126 (if (nw ((6 : Int32) + p1).toNatClampNeg) ≤ z72.2 then fl_up (P_M_common_J198 rf nw p0 p1 v3 v4 z72.1 v6) else fl_bd (P_M_alike nw (v3 + v6) (v4 + z72.2)) (fun q1 => fl_ck ((6 : Int32) + p0) 126 (fl_ck ((6 : Int32) + p1) 126 (if ((nw ((6 : Int32) + p1).toNatClampNeg) - z72.2) ≤ ((nw ((6 : Int32) + p0).toNatClampNeg) - v6) then fl_ck ((6 : Int32) + p1) 126 (P_M_common_J158 rf nw p0 p1 v3 v4 z72.1 v6 z72.2 q1 ((nw ((6 : Int32) + p1).toNatClampNeg) - z72.2)) else fl_ck ((6 : Int32) + p0) 126 (P_M_common_J158 rf nw p0 p1 v3 v4 z72.1 v6 z72.2 q1 ((nw ((6 : Int32) + p0).toNatClampNeg) - v6))))))
noncomputable def P_M_common_L55 (rf : Int32) (nw : fl_A) (p0 : Int32) (p1 : Int32) (v3 : Int32) (v4 : Int32) (z55 : (Int32 × Int32)) : Option ((Int32 × Int32) ⊕ (Int32 × Int32)) := fl_ck ((6 : Int32) + p0) 126 (if (nw ((6 : Int32) + p0).toNatClampNeg) ≤ z55.2 then some (.inr (z55.1, rf)) else fl_loop (P_M_common_L72 rf nw p0 p1 v3 v4 z55.2) (z55.1, (0 : Int32)))
noncomputable def P_M_common_J22 (rf : Int32) (nw : fl_A) (p0 : Int32) (p1 : Int32) (k0 : Int32) : Option (Int32 × Int32) := fl_bd (P_M_refused rf k0) (fun q1 => if q1.1 = 0 then fl_bd (P_M_beginOf nw p0) (fun q2 => fl_bd (P_M_beginOf nw p1) (fun q3 => fl_loop (P_M_common_L55 q1.2 nw p0 p1 q2 q3) ((0 : Int32), (0 : Int32)))) else some ((0 : Int32), q1.2))
noncomputable def P_M_common_J21 (rf : Int32) (nw : fl_A) (p0 : Int32) (p1 : Int32) : Option (Int32 × Int32) := P_M_common_J22 rf nw p0 p1 (1 : Int32)
noncomputable def P_M_common (rf : Int32) (nw : fl_A) (p0 : Int32) (p1 : Int32) : Option (Int32 × Int32) := fl_bd (P_M_isVerse nw p0) (fun q1 => if q1 = 0 then P_M_common_J21 rf nw p0 p1 else fl_bd (P_M_isVerse nw p1) (fun q2 => if q2 = 0 then P_M_common_J21 rf nw p0 p1 else P_M_common_J22 rf nw p0 p1 (0 : Int32)))
set_option maxHeartbeats 4000000 in
set_option maxRecDepth 100000 in
theorem c_M_common (l : Launch) (G : fl_G) (mo a_sc a_nw a_tr a_di a_ke a_ik a_od a_rk a_be a_fr : Nat) (ss : Int32) (ac : Int32) (fs : Int32) (rf : Int32) (nw : fl_A) (p0 : Int32) (p1 : Int32) {r : (Int32 × Int32)} (hp0 : P_M_common rf nw p0 p1 = some r) : fl_mu l yX6_common wsX6_common 2 46 G [.ref mo, .int p0, .int p1] [(mo, .inr (6, [.int rf, .ref a_sc, .int ss, .ref a_nw, .ref a_tr, .ref a_di, .int ac, .ref a_ke, .ref a_ik, .ref a_od, .ref a_rk, .ref a_be, .ref a_fr, .int fs])), (a_nw, .inl (G.2.1, 126, .inl nw))] (some (.int r.1)) [(mo, .inr (6, [.int r.2, .ref a_sc, .int ss, .ref a_nw, .ref a_tr, .ref a_di, .int ac, .ref a_ke, .ref a_ik, .ref a_od, .ref a_rk, .ref a_be, .ref a_fr, .int fs])), (a_nw, .inl (G.2.1, 126, .inl nw))] := by
  refine fl_mui_in cX6_common 10 .int RX6 (by decide) rfl rfl (Nat.le_of_ble_eq_true rfl) ?_
  intro p e s m args below meth c ls A Q H locs C0 hK hP hD hS hA hl hfin
  obtain ⟨hx, hb, hml, hown, hts⟩ := id C0
  have iX6 : ∀ w ∈ u_ws RX6 TX6 14, w ∈ wsX6_common := fun _ h => List.mem_cons_of_mem _ (List.mem_append_right _ h)
  have hl : lv_has ls 10 [(0, .ref mo), (1, .int p0), (2, .int p1)] := hl
  have KL55 : ∀ (rf : Int32) (v3 : Int32) (v4 : Int32) (n0 : Nat) (z55 : (Int32 × Int32)) (H : Heap) (locs : List Loc), va_P G.1 vwCl [(mo, .inr (6, [.int rf, .ref a_sc, .int ss, .ref a_nw, .ref a_tr, .ref a_di, .int ac, .ref a_ke, .ref a_ik, .ref a_od, .ref a_rk, .ref a_be, .ref a_fr, .int fs])), (a_nw, .inl (G.2.1, 126, .inl nw))] H → va_D A [(mo, .inr (6, [.int rf, .ref a_sc, .int ss, .ref a_nw, .ref a_tr, .ref a_di, .int ac, .ref a_ke, .ref a_ik, .ref a_od, .ref a_rk, .ref a_be, .ref a_fr, .int fs])), (a_nw, .inl (G.2.1, 126, .inl nw))] → va_S A s.heap H locs → ∀ (ls : Array Slot), lv_has ls 10 [(0, .ref mo), (1, .int p0), (2, .int p1), (3, .int v3), (4, .int v4), (5, .int z55.1), (6, .int z55.2)] → fl_loopN (P_M_common_L55 rf nw p0 p1 v3 v4) n0 z55 = some r → W p l e (fl_rm 2 46) s m args below meth c H locs 0 0 Q (F0 m 55 ls []) := by
    intro rf v3 v4 n0
    induction n0 with
    | zero => intro z55 H locs hP hD hS ls hl hn; exact (fl_loopN_0 hn).elim
    | succ n0 ih55 =>
      intro z55 H locs hP hD hS ls hl hn
      obtain ⟨y55, hb55, hy55⟩ := fl_loopN_step hn
      clear hn
      have KJ198 : ∀ (v5 : Int32) (v6 : Int32) (H : Heap) (locs : List Loc), va_P G.1 vwCl [(mo, .inr (6, [.int rf, .ref a_sc, .int ss, .ref a_nw, .ref a_tr, .ref a_di, .int ac, .ref a_ke, .ref a_ik, .ref a_od, .ref a_rk, .ref a_be, .ref a_fr, .int fs])), (a_nw, .inl (G.2.1, 126, .inl nw))] H → va_D A [(mo, .inr (6, [.int rf, .ref a_sc, .int ss, .ref a_nw, .ref a_tr, .ref a_di, .int ac, .ref a_ke, .ref a_ik, .ref a_od, .ref a_rk, .ref a_be, .ref a_fr, .int fs])), (a_nw, .inl (G.2.1, 126, .inl nw))] → va_S A s.heap H locs → ∀ (ls : Array Slot), lv_has ls 10 [(0, .ref mo), (1, .int p0), (2, .int p1), (3, .int v3), (4, .int v4), (5, .int v5), (6, .int v6)] → P_M_common_J198 rf nw p0 p1 v3 v4 v5 v6 = some y55 → W p l e (fl_rm 2 46) s m args below meth c H locs 0 0 Q (F0 m 198 ls []) := by
        intro v5 v6 H locs hP hD hS ls hl hp
        unfold P_M_common_J198 at hp
        refine lv_iinc (v := (v6 + (1 : Int32))) (lv' := [(6, .int (v6 + (1 : Int32))), (0, .ref mo), (1, .int p0), (2, .int p1), (3, .int v3), (4, .int v4), (5, .int v5)]) hx hb dX6_common_198 hl (k := 6) rfl rfl (by decide) rfl (fun ls hl => ?_)
        refine lv_goto (tgt := 55) hx hb dX6_common_201 (by decide) ?_
        obtain rfl := Option.some.inj hp
        exact ih55 (v5, (v6 + (1 : Int32))) H locs hP hD hS ls (lv_sub hl [1, 2, 3, 4, 5, 6, 0] rfl) (fl_cont_inl hy55)
      have KL72 : ∀ (v6 : Int32) (n0 : Nat) (z72 : (Int32 × Int32)) (H : Heap) (locs : List Loc), va_P G.1 vwCl [(mo, .inr (6, [.int rf, .ref a_sc, .int ss, .ref a_nw, .ref a_tr, .ref a_di, .int ac, .ref a_ke, .ref a_ik, .ref a_od, .ref a_rk, .ref a_be, .ref a_fr, .int fs])), (a_nw, .inl (G.2.1, 126, .inl nw))] H → va_D A [(mo, .inr (6, [.int rf, .ref a_sc, .int ss, .ref a_nw, .ref a_tr, .ref a_di, .int ac, .ref a_ke, .ref a_ik, .ref a_od, .ref a_rk, .ref a_be, .ref a_fr, .int fs])), (a_nw, .inl (G.2.1, 126, .inl nw))] → va_S A s.heap H locs → ∀ (ls : Array Slot), lv_has ls 10 [(0, .ref mo), (1, .int p0), (2, .int p1), (3, .int v3), (4, .int v4), (5, .int z72.1), (6, .int v6), (7, .int z72.2)] → fl_loopN (P_M_common_L72 rf nw p0 p1 v3 v4 v6) n0 z72 = some y55 → W p l e (fl_rm 2 46) s m args below meth c H locs 0 0 Q (F0 m 72 ls []) := by
        intro v6 n0
        induction n0 with
        | zero => intro z72 H locs hP hD hS ls hl hn; exact (fl_loopN_0 hn).elim
        | succ n0 ih72 =>
          intro z72 H locs hP hD hS ls hl hn
          obtain ⟨y72, hb72, hy72⟩ := fl_loopN_step hn
          clear hn
          have KJ190 : ∀ (v7 : Int32) (k0 : Int32) (H : Heap) (locs : List Loc), va_P G.1 vwCl [(mo, .inr (6, [.int rf, .ref a_sc, .int ss, .ref a_nw, .ref a_tr, .ref a_di, .int ac, .ref a_ke, .ref a_ik, .ref a_od, .ref a_rk, .ref a_be, .ref a_fr, .int fs])), (a_nw, .inl (G.2.1, 126, .inl nw))] H → va_D A [(mo, .inr (6, [.int rf, .ref a_sc, .int ss, .ref a_nw, .ref a_tr, .ref a_di, .int ac, .ref a_ke, .ref a_ik, .ref a_od, .ref a_rk, .ref a_be, .ref a_fr, .int fs])), (a_nw, .inl (G.2.1, 126, .inl nw))] → va_S A s.heap H locs → ∀ (ls : Array Slot), lv_has ls 10 [(0, .ref mo), (1, .int p0), (2, .int p1), (3, .int v3), (4, .int v4), (6, .int v6), (7, .int v7)] → P_M_common_J190 rf nw p0 p1 v3 v4 v6 v7 k0 = some y72 → W p l e (fl_rm 2 46) s m args below meth c H locs 0 0 Q (F0 m 190 ls [.int k0]) := by
            intro v7 k0 H locs hP hD hS ls hl hp
            unfold P_M_common_J190 at hp
            refine lv_istore (lv' := [(5, .int k0), (0, .ref mo), (1, .int p0), (2, .int p1), (3, .int v3), (4, .int v4), (6, .int v6), (7, .int v7)]) hx hb dX6_common_190 hl (by decide) rfl (fun ls hl => ?_)
            refine lv_iinc (v := (v7 + (1 : Int32))) (lv' := [(7, .int (v7 + (1 : Int32))), (5, .int k0), (0, .ref mo), (1, .int p0), (2, .int p1), (3, .int v3), (4, .int v4), (6, .int v6)]) hx hb dX6_common_192 hl (k := 7) rfl rfl (by decide) rfl (fun ls hl => ?_)
            refine lv_goto (tgt := 72) hx hb dX6_common_195 (by decide) ?_
            obtain rfl := Option.some.inj hp
            exact ih72 (k0, (v7 + (1 : Int32))) H locs hP hD hS ls (lv_sub hl [2, 3, 4, 5, 6, 1, 7, 0] rfl) (fl_cont_inl hy72)
          have KJ174 : ∀ (v5 : Int32) (v7 : Int32) (k0 : Int32) (H : Heap) (locs : List Loc), va_P G.1 vwCl [(mo, .inr (6, [.int rf, .ref a_sc, .int ss, .ref a_nw, .ref a_tr, .ref a_di, .int ac, .ref a_ke, .ref a_ik, .ref a_od, .ref a_rk, .ref a_be, .ref a_fr, .int fs])), (a_nw, .inl (G.2.1, 126, .inl nw))] H → va_D A [(mo, .inr (6, [.int rf, .ref a_sc, .int ss, .ref a_nw, .ref a_tr, .ref a_di, .int ac, .ref a_ke, .ref a_ik, .ref a_od, .ref a_rk, .ref a_be, .ref a_fr, .int fs])), (a_nw, .inl (G.2.1, 126, .inl nw))] → va_S A s.heap H locs → ∀ (ls : Array Slot), lv_has ls 10 [(0, .ref mo), (1, .int p0), (2, .int p1), (3, .int v3), (4, .int v4), (5, .int v5), (6, .int v6), (7, .int v7)] → P_M_common_J174 rf nw p0 p1 v3 v4 v5 v6 v7 k0 = some y72 → W p l e (fl_rm 2 46) s m args below meth c H locs 0 0 Q (F0 m 174 ls [.int k0]) := by
            intro v5 v7 k0 H locs hP hD hS ls hl hp
            unfold P_M_common_J174 at hp
            refine lv_istore (lv' := [(8, .int k0), (0, .ref mo), (1, .int p0), (2, .int p1), (3, .int v3), (4, .int v4), (5, .int v5), (6, .int v6), (7, .int v7)]) hx hb dX6_common_174 hl (by decide) rfl (fun ls hl => ?_)
            refine lv_iload hx hb dX6_common_176 (lv_at hl 0 rfl) ?_
            refine lv_iload hx hb dX6_common_178 (lv_at hl 6 rfl) ?_
            refine lv_icmp_le (tgt := 188) hx hb dX6_common_180 (by decide) (fun hc => ?_) (fun hc => ?_)
            · replace hp := fl_t hc hp
              refine lv_iload hx hb dX6_common_188 (lv_at hl 6 rfl) ?_
              exact KJ190 v7 v5 H locs hP hD hS ls (lv_sub hl [1, 2, 3, 4, 5, 7, 8] rfl) hp
            · replace hp := fl_f hc hp
              refine lv_iload hx hb dX6_common_183 (lv_at hl 0 rfl) ?_
              refine lv_goto (tgt := 190) hx hb dX6_common_185 (by decide) ?_
              exact KJ190 v7 k0 H locs hP hD hS ls (lv_sub hl [1, 2, 3, 4, 5, 7, 8] rfl) hp
          have KJ158 : ∀ (v5 : Int32) (v7 : Int32) (v8 : Int32) (k0 : Int32) (H : Heap) (locs : List Loc), va_P G.1 vwCl [(mo, .inr (6, [.int rf, .ref a_sc, .int ss, .ref a_nw, .ref a_tr, .ref a_di, .int ac, .ref a_ke, .ref a_ik, .ref a_od, .ref a_rk, .ref a_be, .ref a_fr, .int fs])), (a_nw, .inl (G.2.1, 126, .inl nw))] H → va_D A [(mo, .inr (6, [.int rf, .ref a_sc, .int ss, .ref a_nw, .ref a_tr, .ref a_di, .int ac, .ref a_ke, .ref a_ik, .ref a_od, .ref a_rk, .ref a_be, .ref a_fr, .int fs])), (a_nw, .inl (G.2.1, 126, .inl nw))] → va_S A s.heap H locs → ∀ (ls : Array Slot), lv_has ls 10 [(0, .ref mo), (1, .int p0), (2, .int p1), (3, .int v3), (4, .int v4), (5, .int v5), (6, .int v6), (7, .int v7), (8, .int v8)] → P_M_common_J158 rf nw p0 p1 v3 v4 v5 v6 v7 v8 k0 = some y72 → W p l e (fl_rm 2 46) s m args below meth c H locs 0 0 Q (F0 m 158 ls [.int k0]) := by
            intro v5 v7 v8 k0 H locs hP hD hS ls hl hp
            unfold P_M_common_J158 at hp
            refine lv_istore (lv' := [(9, .int k0), (0, .ref mo), (1, .int p0), (2, .int p1), (3, .int v3), (4, .int v4), (5, .int v5), (6, .int v6), (7, .int v7), (8, .int v8)]) hx hb dX6_common_158 hl (by decide) rfl (fun ls hl => ?_)
            refine lv_iload hx hb dX6_common_160 (lv_at hl 9 rfl) ?_
            refine lv_iload hx hb dX6_common_162 (lv_at hl 0 rfl) ?_
            refine lv_icmp_ge (tgt := 172) hx hb dX6_common_164 (by decide) (fun hc => ?_) (fun hc => ?_)
            · replace hp := fl_t hc hp
              refine lv_iload hx hb dX6_common_172 (lv_at hl 0 rfl) ?_
              exact KJ174 v5 v7 k0 H locs hP hD hS ls (lv_sub hl [1, 2, 3, 4, 5, 6, 7, 8] rfl) hp
            · replace hp := fl_f hc hp
              refine lv_iload hx hb dX6_common_167 (lv_at hl 9 rfl) ?_
              refine lv_goto (tgt := 174) hx hb dX6_common_169 (by decide) ?_
              exact KJ174 v5 v7 v8 H locs hP hD hS ls (lv_sub hl [1, 2, 3, 4, 5, 6, 7, 8] rfl) hp
          have hp := hb72
          unfold P_M_common_L72 at hp
          refine lv_iload hx hb dX6_common_72 (lv_at hl 7 rfl) ?_
          refine lv_aload_n hx hb dX6_common_74 rfl (lv_at hl 0 rfl) ?_
          refine va_get (D := G.1) (ci := 6) (v := .ref a_nw) (C := RX6) (T := TX6) (N := 14) hx hb hts iX6 hown hK.1 hP 0 rfl rfl 3 (by decide) (hts (.fieldLink RX6 13 "SongChoirModel" "now" "[I") (List.mem_of_getElem? (i := 1) rfl)) (fun _ h9 => h9) rfl dX6_common_75 ?_
          refine lv_bipush (v := (6 : Int32)) hx hb dX6_common_78 (by decide) ?_
          refine lv_iload_n hx hb dX6_common_80 rfl (lv_at hl 2 rfl) ?_
          refine lv_iadd hx hb dX6_common_81 ?_
          obtain ⟨hi, hp⟩ := fl_ck_of hp
          refine va_iald hx hb hK.1 hP 1 0 rfl rfl hi dX6_common_82 ?_
          refine lv_icmp_ge (tgt := 198) hx hb dX6_common_83 (by decide) (fun hc => ?_) (fun hc => ?_)
          · replace hp := fl_t hc hp
            obtain ⟨_, hu0, rfl⟩ := fl_up_of hp
            obtain rfl := fl_cont_inr hy72
            exact KJ198 z72.1 v6 H locs hP hD hS ls (lv_sub hl [0, 1, 2, 3, 4, 5, 6] rfl) hu0
          · replace hp := fl_f hc hp
            refine lv_aload_n hx hb dX6_common_86 rfl (lv_at hl 0 rfl) ?_
            refine va_get (D := G.1) (ci := 6) (v := .ref a_nw) (C := RX6) (T := TX6) (N := 14) hx hb hts iX6 hown hK.1 hP 0 rfl rfl 3 (by decide) (hts (.fieldLink RX6 13 "SongChoirModel" "now" "[I") (List.mem_of_getElem? (i := 1) rfl)) (fun _ h9 => h9) rfl dX6_common_87 ?_
            refine lv_iload_n hx hb dX6_common_90 rfl (lv_at hl 3 rfl) ?_
            refine lv_iload hx hb dX6_common_91 (lv_at hl 6 rfl) ?_
            refine lv_iadd hx hb dX6_common_93 ?_
            refine lv_iload hx hb dX6_common_94 (lv_at hl 4 rfl) ?_
            refine lv_iload hx hb dX6_common_96 (lv_at hl 7 rfl) ?_
            refine lv_iadd hx hb dX6_common_98 ?_
            obtain ⟨q1, hq1, hp⟩ := fl_bd_of hp
            refine fl_roS (As := [.ref a_nw, .int (v3 + v6), .int (v4 + z72.2)]) (rest := []) C0 (c_M_alike l G a_nw nw (v3 + v6) (v4 + z72.2) hq1) (va_cwS 3 hts gX6_common_X6_alike rfl rfl rfl (by decide +kernel) ⟨Nat.le_of_ble_eq_true rfl, Nat.le_of_ble_eq_true rfl⟩) hK hP [1] rfl hS hA rfl hl.1 rfl (Nat.le_of_ble_eq_true rfl) dX6_common_99 ⟨Nat.zero_le _, Nat.zero_le _⟩ (fun H locs hP hS => ?_)
            refine lv_istore (lv' := [(8, .int q1), (0, .ref mo), (1, .int p0), (2, .int p1), (3, .int v3), (4, .int v4), (5, .int z72.1), (6, .int v6), (7, .int z72.2)]) hx hb dX6_common_102 hl (by decide) rfl (fun ls hl => ?_)
            refine lv_aload_n hx hb dX6_common_104 rfl (lv_at hl 1 rfl) ?_
            refine va_get (D := G.1) (ci := 6) (v := .ref a_nw) (C := RX6) (T := TX6) (N := 14) hx hb hts iX6 hown hK.1 hP 0 rfl rfl 3 (by decide) (hts (.fieldLink RX6 13 "SongChoirModel" "now" "[I") (List.mem_of_getElem? (i := 1) rfl)) (fun _ h9 => h9) rfl dX6_common_105 ?_
            refine lv_bipush (v := (6 : Int32)) hx hb dX6_common_108 (by decide) ?_
            refine lv_iload_n hx hb dX6_common_110 rfl (lv_at hl 2 rfl) ?_
            refine lv_iadd hx hb dX6_common_111 ?_
            obtain ⟨hi, hp⟩ := fl_ck_of hp
            refine va_iald hx hb hK.1 hP 1 0 rfl rfl hi dX6_common_112 ?_
            refine lv_iload hx hb dX6_common_113 (lv_at hl 7 rfl) ?_
            refine lv_isub hx hb dX6_common_115 ?_
            refine lv_aload_n hx hb dX6_common_116 rfl (lv_at hl 1 rfl) ?_
            refine va_get (D := G.1) (ci := 6) (v := .ref a_nw) (C := RX6) (T := TX6) (N := 14) hx hb hts iX6 hown hK.1 hP 0 rfl rfl 3 (by decide) (hts (.fieldLink RX6 13 "SongChoirModel" "now" "[I") (List.mem_of_getElem? (i := 1) rfl)) (fun _ h9 => h9) rfl dX6_common_117 ?_
            refine lv_bipush (v := (6 : Int32)) hx hb dX6_common_120 (by decide) ?_
            refine lv_iload_n hx hb dX6_common_122 rfl (lv_at hl 3 rfl) ?_
            refine lv_iadd hx hb dX6_common_123 ?_
            obtain ⟨hi, hp⟩ := fl_ck_of hp
            refine va_iald hx hb hK.1 hP 1 0 rfl rfl hi dX6_common_124 ?_
            refine lv_iload hx hb dX6_common_125 (lv_at hl 8 rfl) ?_
            refine lv_isub hx hb dX6_common_127 ?_
            refine lv_icmp_ge (tgt := 146) hx hb dX6_common_128 (by decide) (fun hc => ?_) (fun hc => ?_)
            · replace hp := fl_t hc hp
              refine lv_aload_n hx hb dX6_common_146 rfl (lv_at hl 1 rfl) ?_
              refine va_get (D := G.1) (ci := 6) (v := .ref a_nw) (C := RX6) (T := TX6) (N := 14) hx hb hts iX6 hown hK.1 hP 0 rfl rfl 3 (by decide) (hts (.fieldLink RX6 13 "SongChoirModel" "now" "[I") (List.mem_of_getElem? (i := 1) rfl)) (fun _ h9 => h9) rfl dX6_common_147 ?_
              refine lv_bipush (v := (6 : Int32)) hx hb dX6_common_150 (by decide) ?_
              refine lv_iload_n hx hb dX6_common_152 rfl (lv_at hl 3 rfl) ?_
              refine lv_iadd hx hb dX6_common_153 ?_
              obtain ⟨hi, hp⟩ := fl_ck_of hp
              refine va_iald hx hb hK.1 hP 1 0 rfl rfl hi dX6_common_154 ?_
              refine lv_iload hx hb dX6_common_155 (lv_at hl 8 rfl) ?_
              refine lv_isub hx hb dX6_common_157 ?_
              exact KJ158 z72.1 z72.2 q1 ((nw ((6 : Int32) + p1).toNatClampNeg) - z72.2) H locs hP hD hS ls (lv_sub hl [1, 2, 3, 4, 5, 6, 7, 8, 0] rfl) hp
            · replace hp := fl_f hc hp
              refine lv_aload_n hx hb dX6_common_131 rfl (lv_at hl 1 rfl) ?_
              refine va_get (D := G.1) (ci := 6) (v := .ref a_nw) (C := RX6) (T := TX6) (N := 14) hx hb hts iX6 hown hK.1 hP 0 rfl rfl 3 (by decide) (hts (.fieldLink RX6 13 "SongChoirModel" "now" "[I") (List.mem_of_getElem? (i := 1) rfl)) (fun _ h9 => h9) rfl dX6_common_132 ?_
              refine lv_bipush (v := (6 : Int32)) hx hb dX6_common_135 (by decide) ?_
              refine lv_iload_n hx hb dX6_common_137 rfl (lv_at hl 2 rfl) ?_
              refine lv_iadd hx hb dX6_common_138 ?_
              obtain ⟨hi, hp⟩ := fl_ck_of hp
              refine va_iald hx hb hK.1 hP 1 0 rfl rfl hi dX6_common_139 ?_
              refine lv_iload hx hb dX6_common_140 (lv_at hl 7 rfl) ?_
              refine lv_isub hx hb dX6_common_142 ?_
              refine lv_goto (tgt := 158) hx hb dX6_common_143 (by decide) ?_
              exact KJ158 z72.1 z72.2 q1 ((nw ((6 : Int32) + p0).toNatClampNeg) - v6) H locs hP hD hS ls (lv_sub hl [1, 2, 3, 4, 5, 6, 7, 8, 0] rfl) hp
      have hp := hb55
      unfold P_M_common_L55 at hp
      refine lv_iload hx hb dX6_common_55 (lv_at hl 6 rfl) ?_
      refine lv_aload_n hx hb dX6_common_57 rfl (lv_at hl 0 rfl) ?_
      refine va_get (D := G.1) (ci := 6) (v := .ref a_nw) (C := RX6) (T := TX6) (N := 14) hx hb hts iX6 hown hK.1 hP 0 rfl rfl 3 (by decide) (hts (.fieldLink RX6 13 "SongChoirModel" "now" "[I") (List.mem_of_getElem? (i := 1) rfl)) (fun _ h9 => h9) rfl dX6_common_58 ?_
      refine lv_bipush (v := (6 : Int32)) hx hb dX6_common_61 (by decide) ?_
      refine lv_iload_n hx hb dX6_common_63 rfl (lv_at hl 1 rfl) ?_
      refine lv_iadd hx hb dX6_common_64 ?_
      obtain ⟨hi, hp⟩ := fl_ck_of hp
      refine va_iald hx hb hK.1 hP 1 0 rfl rfl hi dX6_common_65 ?_
      refine lv_icmp_ge (tgt := 204) hx hb dX6_common_66 (by decide) (fun hc => ?_) (fun hc => ?_)
      · replace hp := fl_t hc hp
        refine lv_iload hx hb dX6_common_204 (lv_at hl 5 rfl) ?_
        obtain rfl := Option.some.inj hp
        obtain rfl := fl_cont_inr hy55
        exact hfin H locs _ ls hP hD hS dX6_common_206 rfl
      · replace hp := fl_f hc hp
        refine lv_iconst (v := (0 : Int32)) hx hb dX6_common_69 (by decide) ?_
        refine lv_istore (lv' := [(7, .int (0 : Int32)), (0, .ref mo), (1, .int p0), (2, .int p1), (3, .int v3), (4, .int v4), (5, .int z55.1), (6, .int z55.2)]) hx hb dX6_common_70 hl (by decide) rfl (fun ls hl => ?_)
        obtain ⟨n0, hn⟩ := fl_loop_ex hp
        exact KL72 z55.2 n0 (z55.1, (0 : Int32)) H locs hP hD hS ls (lv_sub hl [1, 2, 3, 4, 5, 6, 7, 0] rfl) hn
  have KJ22 : ∀ (rf : Int32) (k0 : Int32) (H : Heap) (locs : List Loc), va_P G.1 vwCl [(mo, .inr (6, [.int rf, .ref a_sc, .int ss, .ref a_nw, .ref a_tr, .ref a_di, .int ac, .ref a_ke, .ref a_ik, .ref a_od, .ref a_rk, .ref a_be, .ref a_fr, .int fs])), (a_nw, .inl (G.2.1, 126, .inl nw))] H → va_D A [(mo, .inr (6, [.int rf, .ref a_sc, .int ss, .ref a_nw, .ref a_tr, .ref a_di, .int ac, .ref a_ke, .ref a_ik, .ref a_od, .ref a_rk, .ref a_be, .ref a_fr, .int fs])), (a_nw, .inl (G.2.1, 126, .inl nw))] → va_S A s.heap H locs → ∀ (ls : Array Slot), lv_has ls 10 [(0, .ref mo), (1, .int p0), (2, .int p1)] → P_M_common_J22 rf nw p0 p1 k0 = some r → W p l e (fl_rm 2 46) s m args below meth c H locs 0 0 Q (F0 m 22 ls [.int k0, .ref mo]) := by
    intro rf k0 H locs hP hD hS ls hl hp
    unfold P_M_common_J22 at hp
    obtain ⟨q1, hq1, hp⟩ := fl_bd_of hp
    refine fl_muV (As := [.int k0]) (rest := []) [(mo, .inr (6, [.int q1.2, .ref a_sc, .int ss, .ref a_nw, .ref a_tr, .ref a_di, .int ac, .ref a_ke, .ref a_ik, .ref a_od, .ref a_rk, .ref a_be, .ref a_fr, .int fs])), (a_nw, .inl (G.2.1, 126, .inl nw))] C0 (c_M_refused l G mo a_sc a_nw a_tr a_di a_ke a_ik a_od a_rk a_be a_fr ss ac fs rf k0 hq1) (cwV 1 hts gX6_common_X6_refused rfl rfl rfl (by decide +kernel) ⟨Nat.le_of_ble_eq_true rfl, Nat.le_of_ble_eq_true rfl⟩) hK hP hD [0] [1] [1, 0] rfl rfl (by decide) (by decide) rfl 0 6 rfl rfl rfl hS hA rfl hl.1 rfl (Nat.le_of_ble_eq_true rfl) dX6_common_22 ⟨Nat.zero_le _, Nat.zero_le _⟩ (fun H locs hP hD hS => ?_)
    refine lv_if_eq (tgt := 30) hx hb dX6_common_25 (by decide) (fun hc => ?_) (fun hc => ?_)
    · replace hp := fl_t hc hp
      refine lv_aload_n hx hb dX6_common_30 rfl (lv_at hl 0 rfl) ?_
      refine va_get (D := G.1) (ci := 6) (v := .ref a_nw) (C := RX6) (T := TX6) (N := 14) hx hb hts iX6 hown hK.1 hP 0 rfl rfl 3 (by decide) (hts (.fieldLink RX6 13 "SongChoirModel" "now" "[I") (List.mem_of_getElem? (i := 1) rfl)) (fun _ h9 => h9) rfl dX6_common_31 ?_
      refine lv_iload_n hx hb dX6_common_34 rfl (lv_at hl 1 rfl) ?_
      obtain ⟨q2, hq2, hp⟩ := fl_bd_of hp
      refine fl_roS (As := [.ref a_nw, .int p0]) (rest := []) C0 (c_M_beginOf l G a_nw nw p0 hq2) (va_cwS 2 hts gX6_common_X6_beginOf rfl rfl rfl (by decide +kernel) ⟨Nat.le_of_ble_eq_true rfl, Nat.le_of_ble_eq_true rfl⟩) hK hP [1] rfl hS hA rfl hl.1 rfl (Nat.le_of_ble_eq_true rfl) dX6_common_35 ⟨Nat.zero_le _, Nat.zero_le _⟩ (fun H locs hP hS => ?_)
      refine lv_istore_n (lv' := [(3, .int q2), (0, .ref mo), (1, .int p0), (2, .int p1)]) hx hb dX6_common_38 rfl hl (by decide) rfl (fun ls hl => ?_)
      refine lv_aload_n hx hb dX6_common_39 rfl (lv_at hl 1 rfl) ?_
      refine va_get (D := G.1) (ci := 6) (v := .ref a_nw) (C := RX6) (T := TX6) (N := 14) hx hb hts iX6 hown hK.1 hP 0 rfl rfl 3 (by decide) (hts (.fieldLink RX6 13 "SongChoirModel" "now" "[I") (List.mem_of_getElem? (i := 1) rfl)) (fun _ h9 => h9) rfl dX6_common_40 ?_
      refine lv_iload_n hx hb dX6_common_43 rfl (lv_at hl 3 rfl) ?_
      obtain ⟨q3, hq3, hp⟩ := fl_bd_of hp
      refine fl_roS (As := [.ref a_nw, .int p1]) (rest := []) C0 (c_M_beginOf l G a_nw nw p1 hq3) (va_cwS 2 hts gX6_common_X6_beginOf rfl rfl rfl (by decide +kernel) ⟨Nat.le_of_ble_eq_true rfl, Nat.le_of_ble_eq_true rfl⟩) hK hP [1] rfl hS hA rfl hl.1 rfl (Nat.le_of_ble_eq_true rfl) dX6_common_44 ⟨Nat.zero_le _, Nat.zero_le _⟩ (fun H locs hP hS => ?_)
      refine lv_istore (lv' := [(4, .int q3), (3, .int q2), (0, .ref mo), (1, .int p0), (2, .int p1)]) hx hb dX6_common_47 hl (by decide) rfl (fun ls hl => ?_)
      refine lv_iconst (v := (0 : Int32)) hx hb dX6_common_49 (by decide) ?_
      refine lv_istore (lv' := [(5, .int (0 : Int32)), (4, .int q3), (3, .int q2), (0, .ref mo), (1, .int p0), (2, .int p1)]) hx hb dX6_common_50 hl (by decide) rfl (fun ls hl => ?_)
      refine lv_iconst (v := (0 : Int32)) hx hb dX6_common_52 (by decide) ?_
      refine lv_istore (lv' := [(6, .int (0 : Int32)), (5, .int (0 : Int32)), (4, .int q3), (3, .int q2), (0, .ref mo), (1, .int p0), (2, .int p1)]) hx hb dX6_common_53 hl (by decide) rfl (fun ls hl => ?_)
      obtain ⟨n0, hn⟩ := fl_loop_ex hp
      exact KL55 q1.2 q2 q3 n0 ((0 : Int32), (0 : Int32)) H locs hP hD hS ls (lv_sub hl [4, 5, 6, 3, 2, 1, 0] rfl) hn
    · replace hp := fl_f hc hp
      refine lv_iconst (v := (0 : Int32)) hx hb dX6_common_28 (by decide) ?_
      obtain rfl := Option.some.inj hp
      exact hfin H locs _ ls hP hD hS dX6_common_29 rfl
  have KJ21 : ∀ (rf : Int32) (H : Heap) (locs : List Loc), va_P G.1 vwCl [(mo, .inr (6, [.int rf, .ref a_sc, .int ss, .ref a_nw, .ref a_tr, .ref a_di, .int ac, .ref a_ke, .ref a_ik, .ref a_od, .ref a_rk, .ref a_be, .ref a_fr, .int fs])), (a_nw, .inl (G.2.1, 126, .inl nw))] H → va_D A [(mo, .inr (6, [.int rf, .ref a_sc, .int ss, .ref a_nw, .ref a_tr, .ref a_di, .int ac, .ref a_ke, .ref a_ik, .ref a_od, .ref a_rk, .ref a_be, .ref a_fr, .int fs])), (a_nw, .inl (G.2.1, 126, .inl nw))] → va_S A s.heap H locs → ∀ (ls : Array Slot), lv_has ls 10 [(0, .ref mo), (1, .int p0), (2, .int p1)] → P_M_common_J21 rf nw p0 p1 = some r → W p l e (fl_rm 2 46) s m args below meth c H locs 0 0 Q (F0 m 21 ls [.ref mo]) := by
    intro rf H locs hP hD hS ls hl hp
    unfold P_M_common_J21 at hp
    refine lv_iconst (v := (1 : Int32)) hx hb dX6_common_21 (by decide) ?_
    exact KJ22 rf (1 : Int32) H locs hP hD hS ls (lv_sub hl [0, 1, 2] rfl) hp
  have hp := hp0
  unfold P_M_common at hp
  refine lv_aload_n hx hb dX6_common_0 rfl (lv_at hl 0 rfl) ?_
  refine lv_aload_n hx hb dX6_common_1 rfl (lv_at hl 0 rfl) ?_
  refine lv_iload_n hx hb dX6_common_2 rfl (lv_at hl 1 rfl) ?_
  obtain ⟨q1, hq1, hp⟩ := fl_bd_of hp
  refine fl_roV (As := [.int p0]) (rest := [.ref mo]) C0 (c_M_isVerse l G mo a_sc a_nw a_tr a_di a_ke a_ik a_od a_rk a_be a_fr rf ss ac fs nw p0 hq1) (cwV 1 hts gX6_common_X6_isVerse rfl rfl rfl (by decide +kernel) ⟨Nat.le_of_ble_eq_true rfl, Nat.le_of_ble_eq_true rfl⟩) hK hP [0, 1] rfl 0 6 rfl rfl rfl hS hA rfl hl.1 rfl (Nat.le_of_ble_eq_true rfl) dX6_common_3 ⟨Nat.zero_le _, Nat.zero_le _⟩ (fun H locs hP hS => ?_)
  refine lv_if_eq (tgt := 21) hx hb dX6_common_6 (by decide) (fun hc => ?_) (fun hc => ?_)
  · replace hp := fl_t hc hp
    exact KJ21 rf H locs hP hD hS ls (lv_sub hl [0, 1, 2] rfl) hp
  · replace hp := fl_f hc hp
    refine lv_aload_n hx hb dX6_common_9 rfl (lv_at hl 0 rfl) ?_
    refine lv_iload_n hx hb dX6_common_10 rfl (lv_at hl 2 rfl) ?_
    obtain ⟨q2, hq2, hp⟩ := fl_bd_of hp
    refine fl_roV (As := [.int p1]) (rest := [.ref mo]) C0 (c_M_isVerse l G mo a_sc a_nw a_tr a_di a_ke a_ik a_od a_rk a_be a_fr rf ss ac fs nw p1 hq2) (cwV 1 hts gX6_common_X6_isVerse rfl rfl rfl (by decide +kernel) ⟨Nat.le_of_ble_eq_true rfl, Nat.le_of_ble_eq_true rfl⟩) hK hP [0, 1] rfl 0 6 rfl rfl rfl hS hA rfl hl.1 rfl (Nat.le_of_ble_eq_true rfl) dX6_common_11 ⟨Nat.zero_le _, Nat.zero_le _⟩ (fun H locs hP hS => ?_)
    refine lv_if_eq (tgt := 21) hx hb dX6_common_14 (by decide) (fun hc => ?_) (fun hc => ?_)
    · replace hp := fl_t hc hp
      exact KJ21 rf H locs hP hD hS ls (lv_sub hl [0, 1, 2] rfl) hp
    · replace hp := fl_f hc hp
      refine lv_iconst (v := (0 : Int32)) hx hb dX6_common_17 (by decide) ?_
      refine lv_goto (tgt := 22) hx hb dX6_common_18 (by decide) ?_
      exact KJ22 rf (0 : Int32) H locs hP hD hS ls (lv_sub hl [0, 1, 2] rfl) hp

noncomputable def P_M_most_J140 (rf : Int32) (nw : fl_A) (p0 : Int32) (v3 : Int32) (v5 : Int32) (k0 : Int32) : Option ((Int32 × Int32) ⊕ (Int32 × Int32)) := some (.inl (k0, (v5 + (1 : Int32))))
noncomputable def P_M_most_J138 (rf : Int32) (nw : fl_A) (p0 : Int32) (v3 : Int32) (v4 : Int32) (v5 : Int32) : Option ((Int32 × Int32) ⊕ (Int32 × Int32)) := P_M_most_J140 rf nw p0 v3 v5 v4
noncomputable def P_M_most_J121 (rf : Int32) (nw : fl_A) (p0 : Int32) (v3 : Int32) (v4 : Int32) (v5 : Int32) (v6 : Int32) (k0 : Int32) : Option ((Int32 × Int32) ⊕ (Int32 × Int32)) := if v6 = 0 then P_M_most_J138 rf nw p0 v3 v4 v5 else if k0 = 0 then P_M_most_J138 rf nw p0 v3 v4 v5 else P_M_most_J140 rf nw p0 v3 v5 v5
noncomputable def P_M_most_J120 (rf : Int32) (nw : fl_A) (p0 : Int32) (v3 : Int32) (v4 : Int32) (v5 : Int32) (v6 : Int32) : Option ((Int32 × Int32) ⊕ (Int32 × Int32)) := P_M_most_J121 rf nw p0 v3 v4 v5 v6 (0 : Int32)
noncomputable def P_M_most_J116 (rf : Int32) (nw : fl_A) (p0 : Int32) (v3 : Int32) (v4 : Int32) (v5 : Int32) (v6 : Int32) : Option ((Int32 × Int32) ⊕ (Int32 × Int32)) := P_M_most_J121 rf nw p0 v3 v4 v5 v6 (1 : Int32)
noncomputable def P_M_most_J79 (rf : Int32) (nw : fl_A) (p0 : Int32) (v3 : Int32) (v4 : Int32) (v5 : Int32) (k0 : Int32) : Option ((Int32 × Int32) ⊕ (Int32 × Int32)) := if v4 = (-1 : Int32) then P_M_most_J116 rf nw p0 v3 v4 v5 k0 else fl_bd (P_M_alike nw v5 v4) (fun q1 => if p0 ≤ q1 then P_M_most_J120 rf nw p0 v3 v4 v5 k0 else fl_bd (P_M_isAhead nw v5 v4) (fun q2 => if q2 = 0 then P_M_most_J120 rf nw p0 v3 v4 v5 k0 else P_M_most_J116 rf nw p0 v3 v4 v5 k0))
noncomputable def P_M_most_L47 (rf : Int32) (nw : fl_A) (p0 : Int32) (v3 : Int32) (z47 : (Int32 × Int32)) : Option ((Int32 × Int32) ⊕ (Int32 × Int32)) := fl_ck (0 : Int32) 126 (if (nw (0 : Int32).toNatClampNeg) < (z47.2 + p0) then some (.inr (z47.1, rf)) else fl_bd (P_M_times nw z47.2 p0) (fun q1 => if q1 = v3 then P_M_most_J79 rf nw p0 v3 z47.1 z47.2 (1 : Int32) else P_M_most_J79 rf nw p0 v3 z47.1 z47.2 (0 : Int32)))
noncomputable def P_M_most_J18 (rf : Int32) (nw : fl_A) (p0 : Int32) (p1 : Int32) (k0 : Int32) : Option (Int32 × Int32) := fl_bd (P_M_refused rf k0) (fun q1 => if q1.1 = 0 then fl_bd (P_M_mostTimes nw p0) (fun q2 => if p1 = 0 then fl_loop (P_M_most_L47 q1.2 nw p0 q2) ((-1 : Int32), (0 : Int32)) else some (q2, q1.2)) else some ((0 : Int32), q1.2))
noncomputable def P_M_most (rf : Int32) (nw : fl_A) (p0 : Int32) (p1 : Int32) : Option (Int32 × Int32) := fl_bd (P_M_in p0.toInt64 (1 : Int64) (12 : Int64)) (fun q1 => if q1 = 0 then P_M_most_J18 rf nw p0 p1 (1 : Int32) else P_M_most_J18 rf nw p0 p1 (0 : Int32))
set_option maxHeartbeats 4000000 in
set_option maxRecDepth 100000 in
theorem c_M_most (l : Launch) (G : fl_G) (mo a_sc a_nw a_tr a_di a_ke a_ik a_od a_rk a_be a_fr : Nat) (ss : Int32) (ac : Int32) (fs : Int32) (rf : Int32) (nw : fl_A) (p0 : Int32) (p1 : Int32) {r : (Int32 × Int32)} (hp0 : P_M_most rf nw p0 p1 = some r) : fl_mu l yX6_most wsX6_most 3 71 G [.ref mo, .int p0, .int p1] [(mo, .inr (6, [.int rf, .ref a_sc, .int ss, .ref a_nw, .ref a_tr, .ref a_di, .int ac, .ref a_ke, .ref a_ik, .ref a_od, .ref a_rk, .ref a_be, .ref a_fr, .int fs])), (a_nw, .inl (G.2.1, 126, .inl nw))] (some (.int r.1)) [(mo, .inr (6, [.int r.2, .ref a_sc, .int ss, .ref a_nw, .ref a_tr, .ref a_di, .int ac, .ref a_ke, .ref a_ik, .ref a_od, .ref a_rk, .ref a_be, .ref a_fr, .int fs])), (a_nw, .inl (G.2.1, 126, .inl nw))] := by
  refine fl_mui_in cX6_most 8 .int RX6 (by decide) rfl rfl (Nat.le_of_ble_eq_true rfl) ?_
  intro p e s m args below meth c ls A Q H locs C0 hK hP hD hS hA hl hfin
  obtain ⟨hx, hb, hml, hown, hts⟩ := id C0
  have iX6 : ∀ w ∈ u_ws RX6 TX6 14, w ∈ wsX6_most := fun _ h => List.mem_cons_of_mem _ (List.mem_append_right _ h)
  have hl : lv_has ls 8 [(0, .ref mo), (1, .int p0), (2, .int p1)] := hl
  have KL47 : ∀ (rf : Int32) (v3 : Int32) (n0 : Nat) (z47 : (Int32 × Int32)) (H : Heap) (locs : List Loc), va_P G.1 vwCl [(mo, .inr (6, [.int rf, .ref a_sc, .int ss, .ref a_nw, .ref a_tr, .ref a_di, .int ac, .ref a_ke, .ref a_ik, .ref a_od, .ref a_rk, .ref a_be, .ref a_fr, .int fs])), (a_nw, .inl (G.2.1, 126, .inl nw))] H → va_D A [(mo, .inr (6, [.int rf, .ref a_sc, .int ss, .ref a_nw, .ref a_tr, .ref a_di, .int ac, .ref a_ke, .ref a_ik, .ref a_od, .ref a_rk, .ref a_be, .ref a_fr, .int fs])), (a_nw, .inl (G.2.1, 126, .inl nw))] → va_S A s.heap H locs → ∀ (ls : Array Slot), lv_has ls 8 [(0, .ref mo), (1, .int p0), (3, .int v3), (4, .int z47.1), (5, .int z47.2)] → fl_loopN (P_M_most_L47 rf nw p0 v3) n0 z47 = some r → W p l e (fl_rm 3 71) s m args below meth c H locs 0 0 Q (F0 m 47 ls []) := by
    intro rf v3 n0
    induction n0 with
    | zero => intro z47 H locs hP hD hS ls hl hn; exact (fl_loopN_0 hn).elim
    | succ n0 ih47 =>
      intro z47 H locs hP hD hS ls hl hn
      obtain ⟨y47, hb47, hy47⟩ := fl_loopN_step hn
      clear hn
      have KJ140 : ∀ (v5 : Int32) (k0 : Int32) (H : Heap) (locs : List Loc), va_P G.1 vwCl [(mo, .inr (6, [.int rf, .ref a_sc, .int ss, .ref a_nw, .ref a_tr, .ref a_di, .int ac, .ref a_ke, .ref a_ik, .ref a_od, .ref a_rk, .ref a_be, .ref a_fr, .int fs])), (a_nw, .inl (G.2.1, 126, .inl nw))] H → va_D A [(mo, .inr (6, [.int rf, .ref a_sc, .int ss, .ref a_nw, .ref a_tr, .ref a_di, .int ac, .ref a_ke, .ref a_ik, .ref a_od, .ref a_rk, .ref a_be, .ref a_fr, .int fs])), (a_nw, .inl (G.2.1, 126, .inl nw))] → va_S A s.heap H locs → ∀ (ls : Array Slot), lv_has ls 8 [(0, .ref mo), (1, .int p0), (3, .int v3), (5, .int v5)] → P_M_most_J140 rf nw p0 v3 v5 k0 = some y47 → W p l e (fl_rm 3 71) s m args below meth c H locs 0 0 Q (F0 m 140 ls [.int k0]) := by
        intro v5 k0 H locs hP hD hS ls hl hp
        unfold P_M_most_J140 at hp
        refine lv_istore (lv' := [(4, .int k0), (0, .ref mo), (1, .int p0), (3, .int v3), (5, .int v5)]) hx hb dX6_most_140 hl (by decide) rfl (fun ls hl => ?_)
        refine lv_iinc (v := (v5 + (1 : Int32))) (lv' := [(5, .int (v5 + (1 : Int32))), (4, .int k0), (0, .ref mo), (1, .int p0), (3, .int v3)]) hx hb dX6_most_142 hl (k := 4) rfl rfl (by decide) rfl (fun ls hl => ?_)
        refine lv_goto (tgt := 47) hx hb dX6_most_145 (by decide) ?_
        obtain rfl := Option.some.inj hp
        exact ih47 (k0, (v5 + (1 : Int32))) H locs hP hD hS ls (lv_sub hl [2, 3, 4, 1, 0] rfl) (fl_cont_inl hy47)
      have KJ138 : ∀ (v4 : Int32) (v5 : Int32) (H : Heap) (locs : List Loc), va_P G.1 vwCl [(mo, .inr (6, [.int rf, .ref a_sc, .int ss, .ref a_nw, .ref a_tr, .ref a_di, .int ac, .ref a_ke, .ref a_ik, .ref a_od, .ref a_rk, .ref a_be, .ref a_fr, .int fs])), (a_nw, .inl (G.2.1, 126, .inl nw))] H → va_D A [(mo, .inr (6, [.int rf, .ref a_sc, .int ss, .ref a_nw, .ref a_tr, .ref a_di, .int ac, .ref a_ke, .ref a_ik, .ref a_od, .ref a_rk, .ref a_be, .ref a_fr, .int fs])), (a_nw, .inl (G.2.1, 126, .inl nw))] → va_S A s.heap H locs → ∀ (ls : Array Slot), lv_has ls 8 [(0, .ref mo), (1, .int p0), (3, .int v3), (4, .int v4), (5, .int v5)] → P_M_most_J138 rf nw p0 v3 v4 v5 = some y47 → W p l e (fl_rm 3 71) s m args below meth c H locs 0 0 Q (F0 m 138 ls []) := by
        intro v4 v5 H locs hP hD hS ls hl hp
        unfold P_M_most_J138 at hp
        refine lv_iload hx hb dX6_most_138 (lv_at hl 3 rfl) ?_
        exact KJ140 v5 v4 H locs hP hD hS ls (lv_sub hl [0, 1, 2, 4] rfl) hp
      have KJ121 : ∀ (v4 : Int32) (v5 : Int32) (v6 : Int32) (k0 : Int32) (H : Heap) (locs : List Loc), va_P G.1 vwCl [(mo, .inr (6, [.int rf, .ref a_sc, .int ss, .ref a_nw, .ref a_tr, .ref a_di, .int ac, .ref a_ke, .ref a_ik, .ref a_od, .ref a_rk, .ref a_be, .ref a_fr, .int fs])), (a_nw, .inl (G.2.1, 126, .inl nw))] H → va_D A [(mo, .inr (6, [.int rf, .ref a_sc, .int ss, .ref a_nw, .ref a_tr, .ref a_di, .int ac, .ref a_ke, .ref a_ik, .ref a_od, .ref a_rk, .ref a_be, .ref a_fr, .int fs])), (a_nw, .inl (G.2.1, 126, .inl nw))] → va_S A s.heap H locs → ∀ (ls : Array Slot), lv_has ls 8 [(0, .ref mo), (1, .int p0), (3, .int v3), (4, .int v4), (5, .int v5), (6, .int v6)] → P_M_most_J121 rf nw p0 v3 v4 v5 v6 k0 = some y47 → W p l e (fl_rm 3 71) s m args below meth c H locs 0 0 Q (F0 m 121 ls [.int k0]) := by
        intro v4 v5 v6 k0 H locs hP hD hS ls hl hp
        unfold P_M_most_J121 at hp
        refine lv_istore (lv' := [(7, .int k0), (0, .ref mo), (1, .int p0), (3, .int v3), (4, .int v4), (5, .int v5), (6, .int v6)]) hx hb dX6_most_121 hl (by decide) rfl (fun ls hl => ?_)
        refine lv_iload hx hb dX6_most_123 (lv_at hl 6 rfl) ?_
        refine lv_if_eq (tgt := 138) hx hb dX6_most_125 (by decide) (fun hc => ?_) (fun hc => ?_)
        · replace hp := fl_t hc hp
          exact KJ138 v4 v5 H locs hP hD hS ls (lv_sub hl [1, 2, 3, 4, 5] rfl) hp
        · replace hp := fl_f hc hp
          refine lv_iload hx hb dX6_most_128 (lv_at hl 0 rfl) ?_
          refine lv_if_eq (tgt := 138) hx hb dX6_most_130 (by decide) (fun hc => ?_) (fun hc => ?_)
          · replace hp := fl_t hc hp
            exact KJ138 v4 v5 H locs hP hD hS ls (lv_sub hl [1, 2, 3, 4, 5] rfl) hp
          · replace hp := fl_f hc hp
            refine lv_iload hx hb dX6_most_133 (lv_at hl 5 rfl) ?_
            refine lv_goto (tgt := 140) hx hb dX6_most_135 (by decide) ?_
            exact KJ140 v5 v5 H locs hP hD hS ls (lv_sub hl [1, 2, 3, 5] rfl) hp
      have KJ120 : ∀ (v4 : Int32) (v5 : Int32) (v6 : Int32) (H : Heap) (locs : List Loc), va_P G.1 vwCl [(mo, .inr (6, [.int rf, .ref a_sc, .int ss, .ref a_nw, .ref a_tr, .ref a_di, .int ac, .ref a_ke, .ref a_ik, .ref a_od, .ref a_rk, .ref a_be, .ref a_fr, .int fs])), (a_nw, .inl (G.2.1, 126, .inl nw))] H → va_D A [(mo, .inr (6, [.int rf, .ref a_sc, .int ss, .ref a_nw, .ref a_tr, .ref a_di, .int ac, .ref a_ke, .ref a_ik, .ref a_od, .ref a_rk, .ref a_be, .ref a_fr, .int fs])), (a_nw, .inl (G.2.1, 126, .inl nw))] → va_S A s.heap H locs → ∀ (ls : Array Slot), lv_has ls 8 [(0, .ref mo), (1, .int p0), (3, .int v3), (4, .int v4), (5, .int v5), (6, .int v6)] → P_M_most_J120 rf nw p0 v3 v4 v5 v6 = some y47 → W p l e (fl_rm 3 71) s m args below meth c H locs 0 0 Q (F0 m 120 ls []) := by
        intro v4 v5 v6 H locs hP hD hS ls hl hp
        unfold P_M_most_J120 at hp
        refine lv_iconst (v := (0 : Int32)) hx hb dX6_most_120 (by decide) ?_
        exact KJ121 v4 v5 v6 (0 : Int32) H locs hP hD hS ls (lv_sub hl [0, 1, 2, 3, 4, 5] rfl) hp
      have KJ116 : ∀ (v4 : Int32) (v5 : Int32) (v6 : Int32) (H : Heap) (locs : List Loc), va_P G.1 vwCl [(mo, .inr (6, [.int rf, .ref a_sc, .int ss, .ref a_nw, .ref a_tr, .ref a_di, .int ac, .ref a_ke, .ref a_ik, .ref a_od, .ref a_rk, .ref a_be, .ref a_fr, .int fs])), (a_nw, .inl (G.2.1, 126, .inl nw))] H → va_D A [(mo, .inr (6, [.int rf, .ref a_sc, .int ss, .ref a_nw, .ref a_tr, .ref a_di, .int ac, .ref a_ke, .ref a_ik, .ref a_od, .ref a_rk, .ref a_be, .ref a_fr, .int fs])), (a_nw, .inl (G.2.1, 126, .inl nw))] → va_S A s.heap H locs → ∀ (ls : Array Slot), lv_has ls 8 [(0, .ref mo), (1, .int p0), (3, .int v3), (4, .int v4), (5, .int v5), (6, .int v6)] → P_M_most_J116 rf nw p0 v3 v4 v5 v6 = some y47 → W p l e (fl_rm 3 71) s m args below meth c H locs 0 0 Q (F0 m 116 ls []) := by
        intro v4 v5 v6 H locs hP hD hS ls hl hp
        unfold P_M_most_J116 at hp
        refine lv_iconst (v := (1 : Int32)) hx hb dX6_most_116 (by decide) ?_
        refine lv_goto (tgt := 121) hx hb dX6_most_117 (by decide) ?_
        exact KJ121 v4 v5 v6 (1 : Int32) H locs hP hD hS ls (lv_sub hl [0, 1, 2, 3, 4, 5] rfl) hp
      have KJ79 : ∀ (v4 : Int32) (v5 : Int32) (k0 : Int32) (H : Heap) (locs : List Loc), va_P G.1 vwCl [(mo, .inr (6, [.int rf, .ref a_sc, .int ss, .ref a_nw, .ref a_tr, .ref a_di, .int ac, .ref a_ke, .ref a_ik, .ref a_od, .ref a_rk, .ref a_be, .ref a_fr, .int fs])), (a_nw, .inl (G.2.1, 126, .inl nw))] H → va_D A [(mo, .inr (6, [.int rf, .ref a_sc, .int ss, .ref a_nw, .ref a_tr, .ref a_di, .int ac, .ref a_ke, .ref a_ik, .ref a_od, .ref a_rk, .ref a_be, .ref a_fr, .int fs])), (a_nw, .inl (G.2.1, 126, .inl nw))] → va_S A s.heap H locs → ∀ (ls : Array Slot), lv_has ls 8 [(0, .ref mo), (1, .int p0), (3, .int v3), (4, .int v4), (5, .int v5)] → P_M_most_J79 rf nw p0 v3 v4 v5 k0 = some y47 → W p l e (fl_rm 3 71) s m args below meth c H locs 0 0 Q (F0 m 79 ls [.int k0]) := by
        intro v4 v5 k0 H locs hP hD hS ls hl hp
        unfold P_M_most_J79 at hp
        refine lv_istore (lv' := [(6, .int k0), (0, .ref mo), (1, .int p0), (3, .int v3), (4, .int v4), (5, .int v5)]) hx hb dX6_most_79 hl (by decide) rfl (fun ls hl => ?_)
        refine lv_iload hx hb dX6_most_81 (lv_at hl 4 rfl) ?_
        refine lv_iconst (v := (-1 : Int32)) hx hb dX6_most_83 (by decide) ?_
        refine lv_icmp_eq (tgt := 116) hx hb dX6_most_84 (by decide) (fun hc => ?_) (fun hc => ?_)
        · replace hp := fl_t hc hp
          exact KJ116 v4 v5 k0 H locs hP hD hS ls (lv_sub hl [1, 2, 3, 4, 5, 0] rfl) hp
        · replace hp := fl_f hc hp
          refine lv_aload_n hx hb dX6_most_87 rfl (lv_at hl 1 rfl) ?_
          refine va_get (D := G.1) (ci := 6) (v := .ref a_nw) (C := RX6) (T := TX6) (N := 14) hx hb hts iX6 hown hK.1 hP 0 rfl rfl 3 (by decide) (hts (.fieldLink RX6 13 "SongChoirModel" "now" "[I") (List.mem_of_getElem? (i := 2) rfl)) (fun _ h9 => h9) rfl dX6_most_88 ?_
          refine lv_iload hx hb dX6_most_91 (lv_at hl 5 rfl) ?_
          refine lv_iload hx hb dX6_most_93 (lv_at hl 4 rfl) ?_
          obtain ⟨q1, hq1, hp⟩ := fl_bd_of hp
          refine fl_roS (As := [.ref a_nw, .int v5, .int v4]) (rest := []) C0 (c_M_alike l G a_nw nw v5 v4 hq1) (va_cwS 3 hts gX6_most_X6_alike rfl rfl rfl (by decide +kernel) ⟨Nat.le_of_ble_eq_true rfl, Nat.le_of_ble_eq_true rfl⟩) hK hP [1] rfl hS hA rfl hl.1 rfl (Nat.le_of_ble_eq_true rfl) dX6_most_95 ⟨Nat.zero_le _, Nat.zero_le _⟩ (fun H locs hP hS => ?_)
          refine lv_iload_n hx hb dX6_most_98 rfl (lv_at hl 2 rfl) ?_
          refine lv_icmp_ge (tgt := 120) hx hb dX6_most_99 (by decide) (fun hc => ?_) (fun hc => ?_)
          · replace hp := fl_t hc hp
            exact KJ120 v4 v5 k0 H locs hP hD hS ls (lv_sub hl [1, 2, 3, 4, 5, 0] rfl) hp
          · replace hp := fl_f hc hp
            refine lv_aload_n hx hb dX6_most_102 rfl (lv_at hl 1 rfl) ?_
            refine va_get (D := G.1) (ci := 6) (v := .ref a_nw) (C := RX6) (T := TX6) (N := 14) hx hb hts iX6 hown hK.1 hP 0 rfl rfl 3 (by decide) (hts (.fieldLink RX6 13 "SongChoirModel" "now" "[I") (List.mem_of_getElem? (i := 2) rfl)) (fun _ h9 => h9) rfl dX6_most_103 ?_
            refine lv_iload hx hb dX6_most_106 (lv_at hl 5 rfl) ?_
            refine lv_iload hx hb dX6_most_108 (lv_at hl 4 rfl) ?_
            obtain ⟨q2, hq2, hp⟩ := fl_bd_of hp
            refine fl_roS (As := [.ref a_nw, .int v5, .int v4]) (rest := []) C0 (c_M_isAhead l G a_nw nw v5 v4 hq2) (va_cwS 3 hts gX6_most_X6_isAhead rfl rfl rfl (by decide +kernel) ⟨Nat.le_of_ble_eq_true rfl, Nat.le_of_ble_eq_true rfl⟩) hK hP [1] rfl hS hA rfl hl.1 rfl (Nat.le_of_ble_eq_true rfl) dX6_most_110 ⟨Nat.zero_le _, Nat.zero_le _⟩ (fun H locs hP hS => ?_)
            refine lv_if_eq (tgt := 120) hx hb dX6_most_113 (by decide) (fun hc => ?_) (fun hc => ?_)
            · replace hp := fl_t hc hp
              exact KJ120 v4 v5 k0 H locs hP hD hS ls (lv_sub hl [1, 2, 3, 4, 5, 0] rfl) hp
            · replace hp := fl_f hc hp
              exact KJ116 v4 v5 k0 H locs hP hD hS ls (lv_sub hl [1, 2, 3, 4, 5, 0] rfl) hp
      have hp := hb47
      unfold P_M_most_L47 at hp
      refine lv_iload hx hb dX6_most_47 (lv_at hl 4 rfl) ?_
      refine lv_iload_n hx hb dX6_most_49 rfl (lv_at hl 1 rfl) ?_
      refine lv_iadd hx hb dX6_most_50 ?_
      refine lv_aload_n hx hb dX6_most_51 rfl (lv_at hl 0 rfl) ?_
      refine va_get (D := G.1) (ci := 6) (v := .ref a_nw) (C := RX6) (T := TX6) (N := 14) hx hb hts iX6 hown hK.1 hP 0 rfl rfl 3 (by decide) (hts (.fieldLink RX6 13 "SongChoirModel" "now" "[I") (List.mem_of_getElem? (i := 2) rfl)) (fun _ h9 => h9) rfl dX6_most_52 ?_
      refine lv_iconst (v := (0 : Int32)) hx hb dX6_most_55 (by decide) ?_
      obtain ⟨hi, hp⟩ := fl_ck_of hp
      refine va_iald hx hb hK.1 hP 1 0 rfl rfl hi dX6_most_56 ?_
      refine lv_icmp_gt (tgt := 148) hx hb dX6_most_57 (by decide) (fun hc => ?_) (fun hc => ?_)
      · replace hp := fl_t hc hp
        refine lv_iload hx hb dX6_most_148 (lv_at hl 3 rfl) ?_
        obtain rfl := Option.some.inj hp
        obtain rfl := fl_cont_inr hy47
        exact hfin H locs _ ls hP hD hS dX6_most_150 rfl
      · replace hp := fl_f hc hp
        refine lv_aload_n hx hb dX6_most_60 rfl (lv_at hl 0 rfl) ?_
        refine va_get (D := G.1) (ci := 6) (v := .ref a_nw) (C := RX6) (T := TX6) (N := 14) hx hb hts iX6 hown hK.1 hP 0 rfl rfl 3 (by decide) (hts (.fieldLink RX6 13 "SongChoirModel" "now" "[I") (List.mem_of_getElem? (i := 2) rfl)) (fun _ h9 => h9) rfl dX6_most_61 ?_
        refine lv_iload hx hb dX6_most_64 (lv_at hl 4 rfl) ?_
        refine lv_iload_n hx hb dX6_most_66 rfl (lv_at hl 1 rfl) ?_
        obtain ⟨q1, hq1, hp⟩ := fl_bd_of hp
        refine fl_roS (As := [.ref a_nw, .int z47.2, .int p0]) (rest := []) C0 (c_M_times l G a_nw nw z47.2 p0 hq1) (va_cwS 3 hts gX6_most_X6_times rfl rfl rfl (by decide +kernel) ⟨Nat.le_of_ble_eq_true rfl, Nat.le_of_ble_eq_true rfl⟩) hK hP [1] rfl hS hA rfl hl.1 rfl (Nat.le_of_ble_eq_true rfl) dX6_most_67 ⟨Nat.zero_le _, Nat.zero_le _⟩ (fun H locs hP hS => ?_)
        refine lv_iload_n hx hb dX6_most_70 rfl (lv_at hl 2 rfl) ?_
        refine lv_icmp_ne (tgt := 78) hx hb dX6_most_71 (by decide) (fun hc => ?_) (fun hc => ?_)
        · replace hp := fl_f hc hp
          refine lv_iconst (v := (0 : Int32)) hx hb dX6_most_78 (by decide) ?_
          exact KJ79 z47.1 z47.2 (0 : Int32) H locs hP hD hS ls (lv_sub hl [0, 1, 2, 3, 4] rfl) hp
        · replace hp := fl_t hc hp
          refine lv_iconst (v := (1 : Int32)) hx hb dX6_most_74 (by decide) ?_
          refine lv_goto (tgt := 79) hx hb dX6_most_75 (by decide) ?_
          exact KJ79 z47.1 z47.2 (1 : Int32) H locs hP hD hS ls (lv_sub hl [0, 1, 2, 3, 4] rfl) hp
  have KJ18 : ∀ (rf : Int32) (k0 : Int32) (H : Heap) (locs : List Loc), va_P G.1 vwCl [(mo, .inr (6, [.int rf, .ref a_sc, .int ss, .ref a_nw, .ref a_tr, .ref a_di, .int ac, .ref a_ke, .ref a_ik, .ref a_od, .ref a_rk, .ref a_be, .ref a_fr, .int fs])), (a_nw, .inl (G.2.1, 126, .inl nw))] H → va_D A [(mo, .inr (6, [.int rf, .ref a_sc, .int ss, .ref a_nw, .ref a_tr, .ref a_di, .int ac, .ref a_ke, .ref a_ik, .ref a_od, .ref a_rk, .ref a_be, .ref a_fr, .int fs])), (a_nw, .inl (G.2.1, 126, .inl nw))] → va_S A s.heap H locs → ∀ (ls : Array Slot), lv_has ls 8 [(0, .ref mo), (1, .int p0), (2, .int p1)] → P_M_most_J18 rf nw p0 p1 k0 = some r → W p l e (fl_rm 3 71) s m args below meth c H locs 0 0 Q (F0 m 18 ls [.int k0, .ref mo]) := by
    intro rf k0 H locs hP hD hS ls hl hp
    unfold P_M_most_J18 at hp
    obtain ⟨q1, hq1, hp⟩ := fl_bd_of hp
    refine fl_muV (As := [.int k0]) (rest := []) [(mo, .inr (6, [.int q1.2, .ref a_sc, .int ss, .ref a_nw, .ref a_tr, .ref a_di, .int ac, .ref a_ke, .ref a_ik, .ref a_od, .ref a_rk, .ref a_be, .ref a_fr, .int fs])), (a_nw, .inl (G.2.1, 126, .inl nw))] C0 (c_M_refused l G mo a_sc a_nw a_tr a_di a_ke a_ik a_od a_rk a_be a_fr ss ac fs rf k0 hq1) (cwV 1 hts gX6_most_X6_refused rfl rfl rfl (by decide +kernel) ⟨Nat.le_of_ble_eq_true rfl, Nat.le_of_ble_eq_true rfl⟩) hK hP hD [0] [1] [1, 0] rfl rfl (by decide) (by decide) rfl 0 6 rfl rfl rfl hS hA rfl hl.1 rfl (Nat.le_of_ble_eq_true rfl) dX6_most_18 ⟨Nat.zero_le _, Nat.zero_le _⟩ (fun H locs hP hD hS => ?_)
    refine lv_if_eq (tgt := 26) hx hb dX6_most_21 (by decide) (fun hc => ?_) (fun hc => ?_)
    · replace hp := fl_t hc hp
      refine lv_aload_n hx hb dX6_most_26 rfl (lv_at hl 0 rfl) ?_
      refine va_get (D := G.1) (ci := 6) (v := .ref a_nw) (C := RX6) (T := TX6) (N := 14) hx hb hts iX6 hown hK.1 hP 0 rfl rfl 3 (by decide) (hts (.fieldLink RX6 13 "SongChoirModel" "now" "[I") (List.mem_of_getElem? (i := 2) rfl)) (fun _ h9 => h9) rfl dX6_most_27 ?_
      refine lv_iload_n hx hb dX6_most_30 rfl (lv_at hl 1 rfl) ?_
      obtain ⟨q2, hq2, hp⟩ := fl_bd_of hp
      refine fl_roS (As := [.ref a_nw, .int p0]) (rest := []) C0 (c_M_mostTimes l G a_nw nw p0 hq2) (va_cwS 2 hts gX6_most_X6_mostTimes rfl rfl rfl (by decide +kernel) ⟨Nat.le_of_ble_eq_true rfl, Nat.le_of_ble_eq_true rfl⟩) hK hP [1] rfl hS hA rfl hl.1 rfl (Nat.le_of_ble_eq_true rfl) dX6_most_31 ⟨Nat.zero_le _, Nat.zero_le _⟩ (fun H locs hP hS => ?_)
      refine lv_istore_n (lv' := [(3, .int q2), (0, .ref mo), (1, .int p0), (2, .int p1)]) hx hb dX6_most_34 rfl hl (by decide) rfl (fun ls hl => ?_)
      refine lv_iload_n hx hb dX6_most_35 rfl (lv_at hl 3 rfl) ?_
      refine lv_if_eq (tgt := 41) hx hb dX6_most_36 (by decide) (fun hc => ?_) (fun hc => ?_)
      · replace hp := fl_t hc hp
        refine lv_iconst (v := (-1 : Int32)) hx hb dX6_most_41 (by decide) ?_
        refine lv_istore (lv' := [(4, .int (-1 : Int32)), (3, .int q2), (0, .ref mo), (1, .int p0), (2, .int p1)]) hx hb dX6_most_42 hl (by decide) rfl (fun ls hl => ?_)
        refine lv_iconst (v := (0 : Int32)) hx hb dX6_most_44 (by decide) ?_
        refine lv_istore (lv' := [(5, .int (0 : Int32)), (4, .int (-1 : Int32)), (3, .int q2), (0, .ref mo), (1, .int p0), (2, .int p1)]) hx hb dX6_most_45 hl (by decide) rfl (fun ls hl => ?_)
        obtain ⟨n0, hn⟩ := fl_loop_ex hp
        exact KL47 q1.2 q2 n0 ((-1 : Int32), (0 : Int32)) H locs hP hD hS ls (lv_sub hl [3, 4, 2, 1, 0] rfl) hn
      · replace hp := fl_f hc hp
        refine lv_iload_n hx hb dX6_most_39 rfl (lv_at hl 0 rfl) ?_
        obtain rfl := Option.some.inj hp
        exact hfin H locs _ ls hP hD hS dX6_most_40 rfl
    · replace hp := fl_f hc hp
      refine lv_iconst (v := (0 : Int32)) hx hb dX6_most_24 (by decide) ?_
      obtain rfl := Option.some.inj hp
      exact hfin H locs _ ls hP hD hS dX6_most_25 rfl
  have hp := hp0
  unfold P_M_most at hp
  refine lv_aload_n hx hb dX6_most_0 rfl (lv_at hl 0 rfl) ?_
  refine lv_iload_n hx hb dX6_most_1 rfl (lv_at hl 1 rfl) ?_
  refine lv_i2l (v := p0.toInt64) hx hb dX6_most_2 rfl ?_
  refine lv_lconst (v := (1 : Int64)) hx hb dX6_most_3 (by decide) ?_
  refine lv_ldc2 (v := (12 : Int64)) hx hb hown (hts (.constantLong RX6 147 (12)) (List.mem_of_getElem? (i := 1) rfl)) dX6_most_4 ?_
  obtain ⟨q1, hq1, hp⟩ := fl_bd_of hp
  refine fl_roS (As := [.long p0.toInt64, .long (1 : Int64), .long (12 : Int64)]) (rest := [.ref mo]) C0 (c_M_in l G p0.toInt64 (1 : Int64) (12 : Int64) hq1) (va_cwS 3 hts gX6_most_X6_in rfl rfl rfl (by decide +kernel) ⟨Nat.le_of_ble_eq_true rfl, Nat.le_of_ble_eq_true rfl⟩) hK hP [] rfl hS hA rfl hl.1 rfl (Nat.le_of_ble_eq_true rfl) dX6_most_7 ⟨Nat.zero_le _, Nat.zero_le _⟩ (fun H locs hP hS => ?_)
  refine lv_if_eq (tgt := 17) hx hb dX6_most_10 (by decide) (fun hc => ?_) (fun hc => ?_)
  · replace hp := fl_t hc hp
    refine lv_iconst (v := (1 : Int32)) hx hb dX6_most_17 (by decide) ?_
    exact KJ18 rf (1 : Int32) H locs hP hD hS ls (lv_sub hl [0, 1, 2] rfl) hp
  · replace hp := fl_f hc hp
    refine lv_iconst (v := (0 : Int32)) hx hb dX6_most_13 (by decide) ?_
    refine lv_goto (tgt := 18) hx hb dX6_most_14 (by decide) ?_
    exact KJ18 rf (0 : Int32) H locs hP hD hS ls (lv_sub hl [0, 1, 2] rfl) hp

noncomputable def P_M_sing_J13 (rf : Int32) (sc : fl_A) (ss : Int32) (nw : fl_A) (di : fl_A) (ac : Int32) (od : fl_A) (rk : fl_A) (be : fl_A) (fr : fl_A) (fs : Int32) (k0 : Int32) : Option (Int32 × Int32 × fl_A × fl_A × Int32 × fl_A × fl_A × fl_A × fl_A × Int32) := fl_bd (P_M_refused rf k0) (fun q1 => if q1.1 = 0 then fl_bd (P_M_remember nw di ac) (fun q2 => fl_bd (P_M_takeText sc ss fr fs) (fun q3 => fl_bd (P_M_singIn od rk be q3.1 q3.2 nw) (fun q4 => some (q4.1, q1.2, q4.2.2.2.2, q2.1, q2.2, q4.2.1, q4.2.2.1, q4.2.2.2.1, q3.1, q3.2)))) else some ((0 : Int32), q1.2, nw, di, ac, od, rk, be, fr, fs))
noncomputable def P_M_sing (rf : Int32) (sc : fl_A) (ss : Int32) (nw : fl_A) (di : fl_A) (ac : Int32) (od : fl_A) (rk : fl_A) (be : fl_A) (fr : fl_A) (fs : Int32) : Option (Int32 × Int32 × fl_A × fl_A × Int32 × fl_A × fl_A × fl_A × fl_A × Int32) := fl_bd (P_M_canSing sc ss) (fun q1 => if q1 = 0 then P_M_sing_J13 rf sc ss nw di ac od rk be fr fs (1 : Int32) else P_M_sing_J13 rf sc ss nw di ac od rk be fr fs (0 : Int32))
set_option maxHeartbeats 4000000 in
set_option maxRecDepth 100000 in
theorem c_M_sing (l : Launch) (G : fl_G) (mo a_sc a_nw a_tr a_di a_ke a_ik a_od a_rk a_be a_fr : Nat) (rf : Int32) (sc : fl_A) (ss : Int32) (nw : fl_A) (di : fl_A) (ac : Int32) (od : fl_A) (rk : fl_A) (be : fl_A) (fr : fl_A) (fs : Int32) {r : (Int32 × Int32 × fl_A × fl_A × Int32 × fl_A × fl_A × fl_A × fl_A × Int32)} (hp0 : P_M_sing rf sc ss nw di ac od rk be fr fs = some r) : fl_mu l yX6_sing wsX6_sing 5 118 G [.ref mo] [(mo, .inr (6, [.int rf, .ref a_sc, .int ss, .ref a_nw, .ref a_tr, .ref a_di, .int ac, .ref a_ke, .ref a_ik, .ref a_od, .ref a_rk, .ref a_be, .ref a_fr, .int fs])), (a_sc, .inl (G.2.1, 40, .inl sc)), (a_nw, .inl (G.2.1, 126, .inl nw)), (a_di, .inl (G.2.1, 1764, .inl di)), (a_od, .inl (G.2.1, 60, .inl od)), (a_rk, .inl (G.2.1, 60, .inl rk)), (a_be, .inl (G.2.1, 60, .inl be)), (a_fr, .inl (G.2.1, 12, .inl fr))] (some (.int r.1)) [(mo, .inr (6, [.int r.2.1, .ref a_sc, .int ss, .ref a_nw, .ref a_tr, .ref a_di, .int r.2.2.2.2.1, .ref a_ke, .ref a_ik, .ref a_od, .ref a_rk, .ref a_be, .ref a_fr, .int r.2.2.2.2.2.2.2.2.2])), (a_sc, .inl (G.2.1, 40, .inl sc)), (a_nw, .inl (G.2.1, 126, .inl r.2.2.1)), (a_di, .inl (G.2.1, 1764, .inl r.2.2.2.1)), (a_od, .inl (G.2.1, 60, .inl r.2.2.2.2.2.1)), (a_rk, .inl (G.2.1, 60, .inl r.2.2.2.2.2.2.1)), (a_be, .inl (G.2.1, 60, .inl r.2.2.2.2.2.2.2.1)), (a_fr, .inl (G.2.1, 12, .inl r.2.2.2.2.2.2.2.2.1))] := by
  refine fl_mui_in cX6_sing 1 .int RX6 (by decide) rfl rfl (Nat.le_of_ble_eq_true rfl) ?_
  intro p e s m args below meth c ls A Q H locs C0 hK hP hD hS hA hl hfin
  obtain ⟨hx, hb, hml, hown, hts⟩ := id C0
  have iX6 : ∀ w ∈ u_ws RX6 TX6 14, w ∈ wsX6_sing := fun _ h => List.mem_cons_of_mem _ (List.mem_append_right _ h)
  have hl : lv_has ls 1 [(0, .ref mo)] := hl
  have KJ13 : ∀ (rf : Int32) (nw : fl_A) (di : fl_A) (ac : Int32) (od : fl_A) (rk : fl_A) (be : fl_A) (fr : fl_A) (fs : Int32) (k0 : Int32) (H : Heap) (locs : List Loc), va_P G.1 vwCl [(mo, .inr (6, [.int rf, .ref a_sc, .int ss, .ref a_nw, .ref a_tr, .ref a_di, .int ac, .ref a_ke, .ref a_ik, .ref a_od, .ref a_rk, .ref a_be, .ref a_fr, .int fs])), (a_sc, .inl (G.2.1, 40, .inl sc)), (a_nw, .inl (G.2.1, 126, .inl nw)), (a_di, .inl (G.2.1, 1764, .inl di)), (a_od, .inl (G.2.1, 60, .inl od)), (a_rk, .inl (G.2.1, 60, .inl rk)), (a_be, .inl (G.2.1, 60, .inl be)), (a_fr, .inl (G.2.1, 12, .inl fr))] H → va_D A [(mo, .inr (6, [.int rf, .ref a_sc, .int ss, .ref a_nw, .ref a_tr, .ref a_di, .int ac, .ref a_ke, .ref a_ik, .ref a_od, .ref a_rk, .ref a_be, .ref a_fr, .int fs])), (a_sc, .inl (G.2.1, 40, .inl sc)), (a_nw, .inl (G.2.1, 126, .inl nw)), (a_di, .inl (G.2.1, 1764, .inl di)), (a_od, .inl (G.2.1, 60, .inl od)), (a_rk, .inl (G.2.1, 60, .inl rk)), (a_be, .inl (G.2.1, 60, .inl be)), (a_fr, .inl (G.2.1, 12, .inl fr))] → va_S A s.heap H locs → ∀ (ls : Array Slot), lv_has ls 1 [(0, .ref mo)] → P_M_sing_J13 rf sc ss nw di ac od rk be fr fs k0 = some r → W p l e (fl_rm 5 118) s m args below meth c H locs 0 0 Q (F0 m 13 ls [.int k0, .ref mo]) := by
    intro rf nw di ac od rk be fr fs k0 H locs hP hD hS ls hl hp
    unfold P_M_sing_J13 at hp
    obtain ⟨q1, hq1, hp⟩ := fl_bd_of hp
    refine fl_muV (As := [.int k0]) (rest := []) [(mo, .inr (6, [.int q1.2, .ref a_sc, .int ss, .ref a_nw, .ref a_tr, .ref a_di, .int ac, .ref a_ke, .ref a_ik, .ref a_od, .ref a_rk, .ref a_be, .ref a_fr, .int fs])), (a_sc, .inl (G.2.1, 40, .inl sc)), (a_nw, .inl (G.2.1, 126, .inl nw)), (a_di, .inl (G.2.1, 1764, .inl di)), (a_od, .inl (G.2.1, 60, .inl od)), (a_rk, .inl (G.2.1, 60, .inl rk)), (a_be, .inl (G.2.1, 60, .inl be)), (a_fr, .inl (G.2.1, 12, .inl fr))] C0 (c_M_refused l G mo a_sc a_nw a_tr a_di a_ke a_ik a_od a_rk a_be a_fr ss ac fs rf k0 hq1) (cwV 1 hts gX6_sing_X6_refused rfl rfl rfl (by decide +kernel) ⟨Nat.le_of_ble_eq_true rfl, Nat.le_of_ble_eq_true rfl⟩) hK hP hD [0] [1, 2, 3, 4, 5, 6, 7] [7, 0, 1, 2, 3, 4, 5, 6] rfl rfl (by decide) (by decide) rfl 0 6 rfl rfl rfl hS hA rfl hl.1 rfl (Nat.le_of_ble_eq_true rfl) dX6_sing_13 ⟨Nat.zero_le _, Nat.zero_le _⟩ (fun H locs hP hD hS => ?_)
    refine lv_if_eq (tgt := 21) hx hb dX6_sing_16 (by decide) (fun hc => ?_) (fun hc => ?_)
    · replace hp := fl_t hc hp
      refine lv_aload_n hx hb dX6_sing_21 rfl (lv_at hl 0 rfl) ?_
      obtain ⟨q2, hq2, hp⟩ := fl_bd_of hp
      refine fl_muV (As := []) (rest := []) [(mo, .inr (6, [.int q1.2, .ref a_sc, .int ss, .ref a_nw, .ref a_tr, .ref a_di, .int q2.2, .ref a_ke, .ref a_ik, .ref a_od, .ref a_rk, .ref a_be, .ref a_fr, .int fs])), (a_sc, .inl (G.2.1, 40, .inl sc)), (a_nw, .inl (G.2.1, 126, .inl nw)), (a_di, .inl (G.2.1, 1764, .inl q2.1)), (a_od, .inl (G.2.1, 60, .inl od)), (a_rk, .inl (G.2.1, 60, .inl rk)), (a_be, .inl (G.2.1, 60, .inl be)), (a_fr, .inl (G.2.1, 12, .inl fr))] C0 (c_M_remember l G mo a_sc a_nw a_tr a_di a_ke a_ik a_od a_rk a_be a_fr q1.2 ss fs nw di ac hq2) (cwV 0 hts gX6_sing_X6_remember rfl rfl rfl (by decide +kernel) ⟨Nat.le_of_ble_eq_true rfl, Nat.le_of_ble_eq_true rfl⟩) hK hP hD [0, 2, 3] [1, 4, 5, 6, 7] [5, 0, 6, 7, 1, 2, 3, 4] rfl rfl (by decide) (by decide) rfl 0 6 rfl rfl rfl hS hA rfl hl.1 rfl (Nat.le_of_ble_eq_true rfl) dX6_sing_22 ⟨Nat.zero_le _, Nat.zero_le _⟩ (fun H locs hP hD hS => ?_)
      refine lv_aload_n hx hb dX6_sing_25 rfl (lv_at hl 0 rfl) ?_
      obtain ⟨q3, hq3, hp⟩ := fl_bd_of hp
      refine fl_muV (As := []) (rest := []) [(mo, .inr (6, [.int q1.2, .ref a_sc, .int ss, .ref a_nw, .ref a_tr, .ref a_di, .int q2.2, .ref a_ke, .ref a_ik, .ref a_od, .ref a_rk, .ref a_be, .ref a_fr, .int q3.2])), (a_sc, .inl (G.2.1, 40, .inl sc)), (a_nw, .inl (G.2.1, 126, .inl nw)), (a_di, .inl (G.2.1, 1764, .inl q2.1)), (a_od, .inl (G.2.1, 60, .inl od)), (a_rk, .inl (G.2.1, 60, .inl rk)), (a_be, .inl (G.2.1, 60, .inl be)), (a_fr, .inl (G.2.1, 12, .inl q3.1))] C0 (c_M_takeText l G mo a_sc a_nw a_tr a_di a_ke a_ik a_od a_rk a_be a_fr q1.2 q2.2 sc ss fr fs hq3) (cwV 0 hts gX6_sing_X6_takeText rfl rfl rfl (by decide +kernel) ⟨Nat.le_of_ble_eq_true rfl, Nat.le_of_ble_eq_true rfl⟩) hK hP hD [0, 1, 7] [2, 3, 4, 5, 6] [5, 6, 0, 1, 2, 3, 4, 7] rfl rfl (by decide) (by decide) rfl 0 6 rfl rfl rfl hS hA rfl hl.1 rfl (Nat.le_of_ble_eq_true rfl) dX6_sing_26 ⟨Nat.zero_le _, Nat.zero_le _⟩ (fun H locs hP hD hS => ?_)
      refine lv_aload_n hx hb dX6_sing_29 rfl (lv_at hl 0 rfl) ?_
      refine lv_aload_n hx hb dX6_sing_30 rfl (lv_at hl 0 rfl) ?_
      refine va_get (D := G.1) (ci := 6) (v := .ref a_nw) (C := RX6) (T := TX6) (N := 14) hx hb hts iX6 hown hK.1 hP 0 rfl rfl 3 (by decide) (hts (.fieldLink RX6 13 "SongChoirModel" "now" "[I") (List.mem_of_getElem? (i := 1) rfl)) (fun _ h9 => h9) rfl dX6_sing_31 ?_
      obtain ⟨q4, hq4, hp⟩ := fl_bd_of hp
      refine fl_muV (As := [.ref a_nw]) (rest := []) [(mo, .inr (6, [.int q1.2, .ref a_sc, .int ss, .ref a_nw, .ref a_tr, .ref a_di, .int q2.2, .ref a_ke, .ref a_ik, .ref a_od, .ref a_rk, .ref a_be, .ref a_fr, .int q3.2])), (a_sc, .inl (G.2.1, 40, .inl sc)), (a_nw, .inl (G.2.1, 126, .inl q4.2.2.2.2)), (a_di, .inl (G.2.1, 1764, .inl q2.1)), (a_od, .inl (G.2.1, 60, .inl q4.2.1)), (a_rk, .inl (G.2.1, 60, .inl q4.2.2.1)), (a_be, .inl (G.2.1, 60, .inl q4.2.2.2.1)), (a_fr, .inl (G.2.1, 12, .inl q3.1))] C0 (c_M_singIn l G mo a_sc a_nw a_tr a_di a_ke a_ik a_od a_rk a_be a_fr a_nw q1.2 ss q2.2 od rk be q3.1 q3.2 nw hq4) (cwV 1 hts gX6_sing_X6_singIn rfl rfl rfl (by decide +kernel) ⟨Nat.le_of_ble_eq_true rfl, Nat.le_of_ble_eq_true rfl⟩) hK hP hD [0, 4, 5, 6, 7, 2] [1, 3] [2, 0, 7, 1, 3, 4, 5, 6] rfl rfl (by decide) (by decide) rfl 0 6 rfl rfl rfl hS hA rfl hl.1 rfl (Nat.le_of_ble_eq_true rfl) dX6_sing_34 ⟨Nat.zero_le _, Nat.zero_le _⟩ (fun H locs hP hD hS => ?_)
      obtain rfl := Option.some.inj hp
      exact hfin H locs _ ls hP hD hS dX6_sing_37 rfl
    · replace hp := fl_f hc hp
      refine lv_iconst (v := (0 : Int32)) hx hb dX6_sing_19 (by decide) ?_
      obtain rfl := Option.some.inj hp
      exact hfin H locs _ ls hP hD hS dX6_sing_20 rfl
  have hp := hp0
  unfold P_M_sing at hp
  refine lv_aload_n hx hb dX6_sing_0 rfl (lv_at hl 0 rfl) ?_
  refine lv_aload_n hx hb dX6_sing_1 rfl (lv_at hl 0 rfl) ?_
  obtain ⟨q1, hq1, hp⟩ := fl_bd_of hp
  refine fl_roV (As := []) (rest := [.ref mo]) C0 (c_M_canSing l G mo a_sc a_nw a_tr a_di a_ke a_ik a_od a_rk a_be a_fr rf ac fs sc ss hq1) (cwV 0 hts gX6_sing_X6_canSing rfl rfl rfl (by decide +kernel) ⟨Nat.le_of_ble_eq_true rfl, Nat.le_of_ble_eq_true rfl⟩) hK hP [0, 1] rfl 0 6 rfl rfl rfl hS hA rfl hl.1 rfl (Nat.le_of_ble_eq_true rfl) dX6_sing_2 ⟨Nat.zero_le _, Nat.zero_le _⟩ (fun H locs hP hS => ?_)
  refine lv_if_eq (tgt := 12) hx hb dX6_sing_5 (by decide) (fun hc => ?_) (fun hc => ?_)
  · replace hp := fl_t hc hp
    refine lv_iconst (v := (1 : Int32)) hx hb dX6_sing_12 (by decide) ?_
    exact KJ13 rf nw di ac od rk be fr fs (1 : Int32) H locs hP hD hS ls (lv_sub hl [0] rfl) hp
  · replace hp := fl_f hc hp
    refine lv_iconst (v := (0 : Int32)) hx hb dX6_sing_8 (by decide) ?_
    refine lv_goto (tgt := 13) hx hb dX6_sing_9 (by decide) ?_
    exact KJ13 rf nw di ac od rk be fr fs (0 : Int32) H locs hP hD hS ls (lv_sub hl [0] rfl) hp

noncomputable def P_M_again_J14 (rf : Int32) (nw : fl_A) (di : fl_A) (ac : Int32) (od : fl_A) (rk : fl_A) (be : fl_A) (fr : fl_A) (fs : Int32) (p0 : Int32) (k0 : Int32) : Option (Int32 × Int32 × fl_A × fl_A × Int32 × fl_A × fl_A × fl_A × fl_A × Int32) := fl_bd (P_M_refused rf k0) (fun q1 => if q1.1 = 0 then fl_bd (P_M_remember nw di ac) (fun q2 => fl_bd (P_M_againIn od rk be fr fs nw p0) (fun q3 => some (q3.1, q1.2, q3.2.2.2.2.2.2, q2.1, q2.2, q3.2.1, q3.2.2.1, q3.2.2.2.1, q3.2.2.2.2.1, q3.2.2.2.2.2.1))) else some ((0 : Int32), q1.2, nw, di, ac, od, rk, be, fr, fs))
noncomputable def P_M_again (rf : Int32) (nw : fl_A) (di : fl_A) (ac : Int32) (od : fl_A) (rk : fl_A) (be : fl_A) (fr : fl_A) (fs : Int32) (p0 : Int32) : Option (Int32 × Int32 × fl_A × fl_A × Int32 × fl_A × fl_A × fl_A × fl_A × Int32) := fl_bd (P_M_isVerse nw p0) (fun q1 => if q1 = 0 then P_M_again_J14 rf nw di ac od rk be fr fs p0 (1 : Int32) else P_M_again_J14 rf nw di ac od rk be fr fs p0 (0 : Int32))
set_option maxHeartbeats 4000000 in
set_option maxRecDepth 100000 in
theorem c_M_again (l : Launch) (G : fl_G) (mo a_sc a_nw a_tr a_di a_ke a_ik a_od a_rk a_be a_fr : Nat) (ss : Int32) (rf : Int32) (nw : fl_A) (di : fl_A) (ac : Int32) (od : fl_A) (rk : fl_A) (be : fl_A) (fr : fl_A) (fs : Int32) (p0 : Int32) {r : (Int32 × Int32 × fl_A × fl_A × Int32 × fl_A × fl_A × fl_A × fl_A × Int32)} (hp0 : P_M_again rf nw di ac od rk be fr fs p0 = some r) : fl_mu l yX6_again wsX6_again 6 140 G [.ref mo, .int p0] [(mo, .inr (6, [.int rf, .ref a_sc, .int ss, .ref a_nw, .ref a_tr, .ref a_di, .int ac, .ref a_ke, .ref a_ik, .ref a_od, .ref a_rk, .ref a_be, .ref a_fr, .int fs])), (a_nw, .inl (G.2.1, 126, .inl nw)), (a_di, .inl (G.2.1, 1764, .inl di)), (a_od, .inl (G.2.1, 60, .inl od)), (a_rk, .inl (G.2.1, 60, .inl rk)), (a_be, .inl (G.2.1, 60, .inl be)), (a_fr, .inl (G.2.1, 12, .inl fr))] (some (.int r.1)) [(mo, .inr (6, [.int r.2.1, .ref a_sc, .int ss, .ref a_nw, .ref a_tr, .ref a_di, .int r.2.2.2.2.1, .ref a_ke, .ref a_ik, .ref a_od, .ref a_rk, .ref a_be, .ref a_fr, .int r.2.2.2.2.2.2.2.2.2])), (a_nw, .inl (G.2.1, 126, .inl r.2.2.1)), (a_di, .inl (G.2.1, 1764, .inl r.2.2.2.1)), (a_od, .inl (G.2.1, 60, .inl r.2.2.2.2.2.1)), (a_rk, .inl (G.2.1, 60, .inl r.2.2.2.2.2.2.1)), (a_be, .inl (G.2.1, 60, .inl r.2.2.2.2.2.2.2.1)), (a_fr, .inl (G.2.1, 12, .inl r.2.2.2.2.2.2.2.2.1))] := by
  refine fl_mui_in cX6_again 2 .int RX6 (by decide) rfl rfl (Nat.le_of_ble_eq_true rfl) ?_
  intro p e s m args below meth c ls A Q H locs C0 hK hP hD hS hA hl hfin
  obtain ⟨hx, hb, hml, hown, hts⟩ := id C0
  have iX6 : ∀ w ∈ u_ws RX6 TX6 14, w ∈ wsX6_again := fun _ h => List.mem_cons_of_mem _ (List.mem_append_right _ h)
  have hl : lv_has ls 2 [(0, .ref mo), (1, .int p0)] := hl
  have KJ14 : ∀ (rf : Int32) (nw : fl_A) (di : fl_A) (ac : Int32) (od : fl_A) (rk : fl_A) (be : fl_A) (fr : fl_A) (fs : Int32) (k0 : Int32) (H : Heap) (locs : List Loc), va_P G.1 vwCl [(mo, .inr (6, [.int rf, .ref a_sc, .int ss, .ref a_nw, .ref a_tr, .ref a_di, .int ac, .ref a_ke, .ref a_ik, .ref a_od, .ref a_rk, .ref a_be, .ref a_fr, .int fs])), (a_nw, .inl (G.2.1, 126, .inl nw)), (a_di, .inl (G.2.1, 1764, .inl di)), (a_od, .inl (G.2.1, 60, .inl od)), (a_rk, .inl (G.2.1, 60, .inl rk)), (a_be, .inl (G.2.1, 60, .inl be)), (a_fr, .inl (G.2.1, 12, .inl fr))] H → va_D A [(mo, .inr (6, [.int rf, .ref a_sc, .int ss, .ref a_nw, .ref a_tr, .ref a_di, .int ac, .ref a_ke, .ref a_ik, .ref a_od, .ref a_rk, .ref a_be, .ref a_fr, .int fs])), (a_nw, .inl (G.2.1, 126, .inl nw)), (a_di, .inl (G.2.1, 1764, .inl di)), (a_od, .inl (G.2.1, 60, .inl od)), (a_rk, .inl (G.2.1, 60, .inl rk)), (a_be, .inl (G.2.1, 60, .inl be)), (a_fr, .inl (G.2.1, 12, .inl fr))] → va_S A s.heap H locs → ∀ (ls : Array Slot), lv_has ls 2 [(0, .ref mo), (1, .int p0)] → P_M_again_J14 rf nw di ac od rk be fr fs p0 k0 = some r → W p l e (fl_rm 6 140) s m args below meth c H locs 0 0 Q (F0 m 14 ls [.int k0, .ref mo]) := by
    intro rf nw di ac od rk be fr fs k0 H locs hP hD hS ls hl hp
    unfold P_M_again_J14 at hp
    obtain ⟨q1, hq1, hp⟩ := fl_bd_of hp
    refine fl_muV (As := [.int k0]) (rest := []) [(mo, .inr (6, [.int q1.2, .ref a_sc, .int ss, .ref a_nw, .ref a_tr, .ref a_di, .int ac, .ref a_ke, .ref a_ik, .ref a_od, .ref a_rk, .ref a_be, .ref a_fr, .int fs])), (a_nw, .inl (G.2.1, 126, .inl nw)), (a_di, .inl (G.2.1, 1764, .inl di)), (a_od, .inl (G.2.1, 60, .inl od)), (a_rk, .inl (G.2.1, 60, .inl rk)), (a_be, .inl (G.2.1, 60, .inl be)), (a_fr, .inl (G.2.1, 12, .inl fr))] C0 (c_M_refused l G mo a_sc a_nw a_tr a_di a_ke a_ik a_od a_rk a_be a_fr ss ac fs rf k0 hq1) (cwV 1 hts gX6_again_X6_refused rfl rfl rfl (by decide +kernel) ⟨Nat.le_of_ble_eq_true rfl, Nat.le_of_ble_eq_true rfl⟩) hK hP hD [0] [1, 2, 3, 4, 5, 6] [6, 0, 1, 2, 3, 4, 5] rfl rfl (by decide) (by decide) rfl 0 6 rfl rfl rfl hS hA rfl hl.1 rfl (Nat.le_of_ble_eq_true rfl) dX6_again_14 ⟨Nat.zero_le _, Nat.zero_le _⟩ (fun H locs hP hD hS => ?_)
    refine lv_if_eq (tgt := 22) hx hb dX6_again_17 (by decide) (fun hc => ?_) (fun hc => ?_)
    · replace hp := fl_t hc hp
      refine lv_aload_n hx hb dX6_again_22 rfl (lv_at hl 0 rfl) ?_
      obtain ⟨q2, hq2, hp⟩ := fl_bd_of hp
      refine fl_muV (As := []) (rest := []) [(mo, .inr (6, [.int q1.2, .ref a_sc, .int ss, .ref a_nw, .ref a_tr, .ref a_di, .int q2.2, .ref a_ke, .ref a_ik, .ref a_od, .ref a_rk, .ref a_be, .ref a_fr, .int fs])), (a_nw, .inl (G.2.1, 126, .inl nw)), (a_di, .inl (G.2.1, 1764, .inl q2.1)), (a_od, .inl (G.2.1, 60, .inl od)), (a_rk, .inl (G.2.1, 60, .inl rk)), (a_be, .inl (G.2.1, 60, .inl be)), (a_fr, .inl (G.2.1, 12, .inl fr))] C0 (c_M_remember l G mo a_sc a_nw a_tr a_di a_ke a_ik a_od a_rk a_be a_fr q1.2 ss fs nw di ac hq2) (cwV 0 hts gX6_again_X6_remember rfl rfl rfl (by decide +kernel) ⟨Nat.le_of_ble_eq_true rfl, Nat.le_of_ble_eq_true rfl⟩) hK hP hD [0, 1, 2] [3, 4, 5, 6] [4, 5, 6, 0, 1, 2, 3] rfl rfl (by decide) (by decide) rfl 0 6 rfl rfl rfl hS hA rfl hl.1 rfl (Nat.le_of_ble_eq_true rfl) dX6_again_23 ⟨Nat.zero_le _, Nat.zero_le _⟩ (fun H locs hP hD hS => ?_)
      refine lv_aload_n hx hb dX6_again_26 rfl (lv_at hl 0 rfl) ?_
      refine lv_aload_n hx hb dX6_again_27 rfl (lv_at hl 0 rfl) ?_
      refine va_get (D := G.1) (ci := 6) (v := .ref a_nw) (C := RX6) (T := TX6) (N := 14) hx hb hts iX6 hown hK.1 hP 0 rfl rfl 3 (by decide) (hts (.fieldLink RX6 13 "SongChoirModel" "now" "[I") (List.mem_of_getElem? (i := 1) rfl)) (fun _ h9 => h9) rfl dX6_again_28 ?_
      refine lv_iload_n hx hb dX6_again_31 rfl (lv_at hl 1 rfl) ?_
      obtain ⟨q3, hq3, hp⟩ := fl_bd_of hp
      refine fl_muV (As := [.ref a_nw, .int p0]) (rest := []) [(mo, .inr (6, [.int q1.2, .ref a_sc, .int ss, .ref a_nw, .ref a_tr, .ref a_di, .int q2.2, .ref a_ke, .ref a_ik, .ref a_od, .ref a_rk, .ref a_be, .ref a_fr, .int q3.2.2.2.2.2.1])), (a_nw, .inl (G.2.1, 126, .inl q3.2.2.2.2.2.2)), (a_di, .inl (G.2.1, 1764, .inl q2.1)), (a_od, .inl (G.2.1, 60, .inl q3.2.1)), (a_rk, .inl (G.2.1, 60, .inl q3.2.2.1)), (a_be, .inl (G.2.1, 60, .inl q3.2.2.2.1)), (a_fr, .inl (G.2.1, 12, .inl q3.2.2.2.2.1))] C0 (c_M_againIn l G mo a_sc a_nw a_tr a_di a_ke a_ik a_od a_rk a_be a_fr a_nw q1.2 ss q2.2 od rk be fr fs nw p0 hq3) (cwV 2 hts gX6_again_X6_againIn rfl rfl rfl (by decide +kernel) ⟨Nat.le_of_ble_eq_true rfl, Nat.le_of_ble_eq_true rfl⟩) hK hP hD [0, 3, 4, 5, 6, 1] [2] [1, 6, 0, 2, 3, 4, 5] rfl rfl (by decide) (by decide) rfl 0 6 rfl rfl rfl hS hA rfl hl.1 rfl (Nat.le_of_ble_eq_true rfl) dX6_again_32 ⟨Nat.zero_le _, Nat.zero_le _⟩ (fun H locs hP hD hS => ?_)
      obtain rfl := Option.some.inj hp
      exact hfin H locs _ ls hP hD hS dX6_again_35 rfl
    · replace hp := fl_f hc hp
      refine lv_iconst (v := (0 : Int32)) hx hb dX6_again_20 (by decide) ?_
      obtain rfl := Option.some.inj hp
      exact hfin H locs _ ls hP hD hS dX6_again_21 rfl
  have hp := hp0
  unfold P_M_again at hp
  refine lv_aload_n hx hb dX6_again_0 rfl (lv_at hl 0 rfl) ?_
  refine lv_aload_n hx hb dX6_again_1 rfl (lv_at hl 0 rfl) ?_
  refine lv_iload_n hx hb dX6_again_2 rfl (lv_at hl 1 rfl) ?_
  obtain ⟨q1, hq1, hp⟩ := fl_bd_of hp
  refine fl_roV (As := [.int p0]) (rest := [.ref mo]) C0 (c_M_isVerse l G mo a_sc a_nw a_tr a_di a_ke a_ik a_od a_rk a_be a_fr rf ss ac fs nw p0 hq1) (cwV 1 hts gX6_again_X6_isVerse rfl rfl rfl (by decide +kernel) ⟨Nat.le_of_ble_eq_true rfl, Nat.le_of_ble_eq_true rfl⟩) hK hP [0, 1] rfl 0 6 rfl rfl rfl hS hA rfl hl.1 rfl (Nat.le_of_ble_eq_true rfl) dX6_again_3 ⟨Nat.zero_le _, Nat.zero_le _⟩ (fun H locs hP hS => ?_)
  refine lv_if_eq (tgt := 13) hx hb dX6_again_6 (by decide) (fun hc => ?_) (fun hc => ?_)
  · replace hp := fl_t hc hp
    refine lv_iconst (v := (1 : Int32)) hx hb dX6_again_13 (by decide) ?_
    exact KJ14 rf nw di ac od rk be fr fs (1 : Int32) H locs hP hD hS ls (lv_sub hl [0, 1] rfl) hp
  · replace hp := fl_f hc hp
    refine lv_iconst (v := (0 : Int32)) hx hb dX6_again_9 (by decide) ?_
    refine lv_goto (tgt := 14) hx hb dX6_again_10 (by decide) ?_
    exact KJ14 rf nw di ac od rk be fr fs (0 : Int32) H locs hP hD hS ls (lv_sub hl [0, 1] rfl) hp

noncomputable def P_M_forget_J15 (rf : Int32) (nw : fl_A) (di : fl_A) (ac : Int32) (od : fl_A) (rk : fl_A) (be : fl_A) (k0 : Int32) : Option (Int32 × Int32 × fl_A × fl_A × Int32 × fl_A × fl_A × fl_A) := fl_bd (P_M_refused rf k0) (fun q1 => if q1.1 = 0 then fl_bd (P_M_remember nw di ac) (fun q2 => fl_bd (P_M_forgetIn od rk be nw) (fun q3 => some (q3.1, q1.2, q3.2.2.2.2, q2.1, q2.2, q3.2.1, q3.2.2.1, q3.2.2.2.1))) else some ((0 : Int32), q1.2, nw, di, ac, od, rk, be))
noncomputable def P_M_forget (rf : Int32) (nw : fl_A) (di : fl_A) (ac : Int32) (od : fl_A) (rk : fl_A) (be : fl_A) : Option (Int32 × Int32 × fl_A × fl_A × Int32 × fl_A × fl_A × fl_A) := fl_ck (1 : Int32) 126 (if (nw (1 : Int32).toNatClampNeg) = 0 then P_M_forget_J15 rf nw di ac od rk be (1 : Int32) else P_M_forget_J15 rf nw di ac od rk be (0 : Int32))
set_option maxHeartbeats 4000000 in
set_option maxRecDepth 100000 in
theorem c_M_forget (l : Launch) (G : fl_G) (mo a_sc a_nw a_tr a_di a_ke a_ik a_od a_rk a_be a_fr : Nat) (ss : Int32) (fs : Int32) (rf : Int32) (nw : fl_A) (di : fl_A) (ac : Int32) (od : fl_A) (rk : fl_A) (be : fl_A) {r : (Int32 × Int32 × fl_A × fl_A × Int32 × fl_A × fl_A × fl_A)} (hp0 : P_M_forget rf nw di ac od rk be = some r) : fl_mu l yX6_forget wsX6_forget 5 118 G [.ref mo] [(mo, .inr (6, [.int rf, .ref a_sc, .int ss, .ref a_nw, .ref a_tr, .ref a_di, .int ac, .ref a_ke, .ref a_ik, .ref a_od, .ref a_rk, .ref a_be, .ref a_fr, .int fs])), (a_nw, .inl (G.2.1, 126, .inl nw)), (a_di, .inl (G.2.1, 1764, .inl di)), (a_od, .inl (G.2.1, 60, .inl od)), (a_rk, .inl (G.2.1, 60, .inl rk)), (a_be, .inl (G.2.1, 60, .inl be))] (some (.int r.1)) [(mo, .inr (6, [.int r.2.1, .ref a_sc, .int ss, .ref a_nw, .ref a_tr, .ref a_di, .int r.2.2.2.2.1, .ref a_ke, .ref a_ik, .ref a_od, .ref a_rk, .ref a_be, .ref a_fr, .int fs])), (a_nw, .inl (G.2.1, 126, .inl r.2.2.1)), (a_di, .inl (G.2.1, 1764, .inl r.2.2.2.1)), (a_od, .inl (G.2.1, 60, .inl r.2.2.2.2.2.1)), (a_rk, .inl (G.2.1, 60, .inl r.2.2.2.2.2.2.1)), (a_be, .inl (G.2.1, 60, .inl r.2.2.2.2.2.2.2))] := by
  refine fl_mui_in cX6_forget 1 .int RX6 (by decide) rfl rfl (Nat.le_of_ble_eq_true rfl) ?_
  intro p e s m args below meth c ls A Q H locs C0 hK hP hD hS hA hl hfin
  obtain ⟨hx, hb, hml, hown, hts⟩ := id C0
  have iX6 : ∀ w ∈ u_ws RX6 TX6 14, w ∈ wsX6_forget := fun _ h => List.mem_cons_of_mem _ (List.mem_append_right _ h)
  have hl : lv_has ls 1 [(0, .ref mo)] := hl
  have KJ15 : ∀ (rf : Int32) (nw : fl_A) (di : fl_A) (ac : Int32) (od : fl_A) (rk : fl_A) (be : fl_A) (k0 : Int32) (H : Heap) (locs : List Loc), va_P G.1 vwCl [(mo, .inr (6, [.int rf, .ref a_sc, .int ss, .ref a_nw, .ref a_tr, .ref a_di, .int ac, .ref a_ke, .ref a_ik, .ref a_od, .ref a_rk, .ref a_be, .ref a_fr, .int fs])), (a_nw, .inl (G.2.1, 126, .inl nw)), (a_di, .inl (G.2.1, 1764, .inl di)), (a_od, .inl (G.2.1, 60, .inl od)), (a_rk, .inl (G.2.1, 60, .inl rk)), (a_be, .inl (G.2.1, 60, .inl be))] H → va_D A [(mo, .inr (6, [.int rf, .ref a_sc, .int ss, .ref a_nw, .ref a_tr, .ref a_di, .int ac, .ref a_ke, .ref a_ik, .ref a_od, .ref a_rk, .ref a_be, .ref a_fr, .int fs])), (a_nw, .inl (G.2.1, 126, .inl nw)), (a_di, .inl (G.2.1, 1764, .inl di)), (a_od, .inl (G.2.1, 60, .inl od)), (a_rk, .inl (G.2.1, 60, .inl rk)), (a_be, .inl (G.2.1, 60, .inl be))] → va_S A s.heap H locs → ∀ (ls : Array Slot), lv_has ls 1 [(0, .ref mo)] → P_M_forget_J15 rf nw di ac od rk be k0 = some r → W p l e (fl_rm 5 118) s m args below meth c H locs 0 0 Q (F0 m 15 ls [.int k0, .ref mo]) := by
    intro rf nw di ac od rk be k0 H locs hP hD hS ls hl hp
    unfold P_M_forget_J15 at hp
    obtain ⟨q1, hq1, hp⟩ := fl_bd_of hp
    refine fl_muV (As := [.int k0]) (rest := []) [(mo, .inr (6, [.int q1.2, .ref a_sc, .int ss, .ref a_nw, .ref a_tr, .ref a_di, .int ac, .ref a_ke, .ref a_ik, .ref a_od, .ref a_rk, .ref a_be, .ref a_fr, .int fs])), (a_nw, .inl (G.2.1, 126, .inl nw)), (a_di, .inl (G.2.1, 1764, .inl di)), (a_od, .inl (G.2.1, 60, .inl od)), (a_rk, .inl (G.2.1, 60, .inl rk)), (a_be, .inl (G.2.1, 60, .inl be))] C0 (c_M_refused l G mo a_sc a_nw a_tr a_di a_ke a_ik a_od a_rk a_be a_fr ss ac fs rf k0 hq1) (cwV 1 hts gX6_forget_X6_refused rfl rfl rfl (by decide +kernel) ⟨Nat.le_of_ble_eq_true rfl, Nat.le_of_ble_eq_true rfl⟩) hK hP hD [0] [1, 2, 3, 4, 5] [5, 0, 1, 2, 3, 4] rfl rfl (by decide) (by decide) rfl 0 6 rfl rfl rfl hS hA rfl hl.1 rfl (Nat.le_of_ble_eq_true rfl) dX6_forget_15 ⟨Nat.zero_le _, Nat.zero_le _⟩ (fun H locs hP hD hS => ?_)
    refine lv_if_eq (tgt := 23) hx hb dX6_forget_18 (by decide) (fun hc => ?_) (fun hc => ?_)
    · replace hp := fl_t hc hp
      refine lv_aload_n hx hb dX6_forget_23 rfl (lv_at hl 0 rfl) ?_
      obtain ⟨q2, hq2, hp⟩ := fl_bd_of hp
      refine fl_muV (As := []) (rest := []) [(mo, .inr (6, [.int q1.2, .ref a_sc, .int ss, .ref a_nw, .ref a_tr, .ref a_di, .int q2.2, .ref a_ke, .ref a_ik, .ref a_od, .ref a_rk, .ref a_be, .ref a_fr, .int fs])), (a_nw, .inl (G.2.1, 126, .inl nw)), (a_di, .inl (G.2.1, 1764, .inl q2.1)), (a_od, .inl (G.2.1, 60, .inl od)), (a_rk, .inl (G.2.1, 60, .inl rk)), (a_be, .inl (G.2.1, 60, .inl be))] C0 (c_M_remember l G mo a_sc a_nw a_tr a_di a_ke a_ik a_od a_rk a_be a_fr q1.2 ss fs nw di ac hq2) (cwV 0 hts gX6_forget_X6_remember rfl rfl rfl (by decide +kernel) ⟨Nat.le_of_ble_eq_true rfl, Nat.le_of_ble_eq_true rfl⟩) hK hP hD [0, 1, 2] [3, 4, 5] [3, 4, 5, 0, 1, 2] rfl rfl (by decide) (by decide) rfl 0 6 rfl rfl rfl hS hA rfl hl.1 rfl (Nat.le_of_ble_eq_true rfl) dX6_forget_24 ⟨Nat.zero_le _, Nat.zero_le _⟩ (fun H locs hP hD hS => ?_)
      refine lv_aload_n hx hb dX6_forget_27 rfl (lv_at hl 0 rfl) ?_
      refine lv_aload_n hx hb dX6_forget_28 rfl (lv_at hl 0 rfl) ?_
      refine va_get (D := G.1) (ci := 6) (v := .ref a_nw) (C := RX6) (T := TX6) (N := 14) hx hb hts iX6 hown hK.1 hP 0 rfl rfl 3 (by decide) (hts (.fieldLink RX6 13 "SongChoirModel" "now" "[I") (List.mem_of_getElem? (i := 1) rfl)) (fun _ h9 => h9) rfl dX6_forget_29 ?_
      obtain ⟨q3, hq3, hp⟩ := fl_bd_of hp
      refine fl_muV (As := [.ref a_nw]) (rest := []) [(mo, .inr (6, [.int q1.2, .ref a_sc, .int ss, .ref a_nw, .ref a_tr, .ref a_di, .int q2.2, .ref a_ke, .ref a_ik, .ref a_od, .ref a_rk, .ref a_be, .ref a_fr, .int fs])), (a_nw, .inl (G.2.1, 126, .inl q3.2.2.2.2)), (a_di, .inl (G.2.1, 1764, .inl q2.1)), (a_od, .inl (G.2.1, 60, .inl q3.2.1)), (a_rk, .inl (G.2.1, 60, .inl q3.2.2.1)), (a_be, .inl (G.2.1, 60, .inl q3.2.2.2.1))] C0 (c_M_forgetIn l G mo a_sc a_nw a_tr a_di a_ke a_ik a_od a_rk a_be a_fr a_nw q1.2 ss q2.2 fs od rk be nw hq3) (cwV 1 hts gX6_forget_X6_forgetIn rfl rfl rfl (by decide +kernel) ⟨Nat.le_of_ble_eq_true rfl, Nat.le_of_ble_eq_true rfl⟩) hK hP hD [0, 3, 4, 5, 1] [2] [1, 5, 0, 2, 3, 4] rfl rfl (by decide) (by decide) rfl 0 6 rfl rfl rfl hS hA rfl hl.1 rfl (Nat.le_of_ble_eq_true rfl) dX6_forget_32 ⟨Nat.zero_le _, Nat.zero_le _⟩ (fun H locs hP hD hS => ?_)
      obtain rfl := Option.some.inj hp
      exact hfin H locs _ ls hP hD hS dX6_forget_35 rfl
    · replace hp := fl_f hc hp
      refine lv_iconst (v := (0 : Int32)) hx hb dX6_forget_21 (by decide) ?_
      obtain rfl := Option.some.inj hp
      exact hfin H locs _ ls hP hD hS dX6_forget_22 rfl
  have hp := hp0
  unfold P_M_forget at hp
  refine lv_aload_n hx hb dX6_forget_0 rfl (lv_at hl 0 rfl) ?_
  refine lv_aload_n hx hb dX6_forget_1 rfl (lv_at hl 0 rfl) ?_
  refine va_get (D := G.1) (ci := 6) (v := .ref a_nw) (C := RX6) (T := TX6) (N := 14) hx hb hts iX6 hown hK.1 hP 0 rfl rfl 3 (by decide) (hts (.fieldLink RX6 13 "SongChoirModel" "now" "[I") (List.mem_of_getElem? (i := 1) rfl)) (fun _ h9 => h9) rfl dX6_forget_2 ?_
  refine lv_iconst (v := (1 : Int32)) hx hb dX6_forget_5 (by decide) ?_
  obtain ⟨hi, hp⟩ := fl_ck_of hp
  refine va_iald hx hb hK.1 hP 1 0 rfl rfl hi dX6_forget_6 ?_
  refine lv_if_ne (tgt := 14) hx hb dX6_forget_7 (by decide) (fun hc => ?_) (fun hc => ?_)
  · replace hp := fl_f hc hp
    refine lv_iconst (v := (0 : Int32)) hx hb dX6_forget_14 (by decide) ?_
    exact KJ15 rf nw di ac od rk be (0 : Int32) H locs hP hD hS ls (lv_sub hl [0] rfl) hp
  · replace hp := fl_t hc hp
    refine lv_iconst (v := (1 : Int32)) hx hb dX6_forget_10 (by decide) ?_
    refine lv_goto (tgt := 15) hx hb dX6_forget_11 (by decide) ?_
    exact KJ15 rf nw di ac od rk be (1 : Int32) H locs hP hD hS ls (lv_sub hl [0] rfl) hp

noncomputable def P_M_isChoir (p0 : Int32) : Option Int32 := fl_bd (P_M_in p0.toInt64 (1 : Int64) (8 : Int64)) (fun q1 => fl_bl q1 (some q1))
set_option maxHeartbeats 4000000 in
set_option maxRecDepth 100000 in
theorem c_M_isChoir (l : Launch) (G : fl_G) (p0 : Int32) {r : Int32} (hp0 : P_M_isChoir p0 = some r) : fl_ro l yX6_isChoir wsX6_isChoir 1 25 G [.int p0] [] (.int r) := by
  refine fl_ro_in cX6_isChoir 1 .boolean RX6 (by decide) rfl rfl (Nat.le_of_ble_eq_true rfl) ?_
  intro p e s m args below meth c ls Q H locs C0 hK hP hS hl hfin
  have hA : ∀ q : Nat, s.heap.size ≤ q → va_A [] s.heap.size q := fl_hA _ _
  obtain ⟨hx, hb, hml, hown, hts⟩ := id C0
  have hl : lv_has ls 1 [(0, .int p0)] := hl
  have hp := hp0
  unfold P_M_isChoir at hp
  refine lv_iload_n hx hb dX6_isChoir_0 rfl (lv_at hl 0 rfl) ?_
  refine lv_i2l (v := p0.toInt64) hx hb dX6_isChoir_1 rfl ?_
  refine lv_lconst (v := (1 : Int64)) hx hb dX6_isChoir_2 (by decide) ?_
  refine lv_ldc2 (v := (8 : Int64)) hx hb hown (hts (.constantLong RX6 122 (8)) (List.mem_of_getElem? (i := 1) rfl)) dX6_isChoir_3 ?_
  obtain ⟨q1, hq1, hp⟩ := fl_bd_of hp
  refine fl_roS (As := [.long p0.toInt64, .long (1 : Int64), .long (8 : Int64)]) (rest := []) C0 (c_M_in l G p0.toInt64 (1 : Int64) (8 : Int64) hq1) (va_cwS 3 hts gX6_isChoir_X6_in rfl rfl rfl (by decide +kernel) ⟨Nat.le_of_ble_eq_true rfl, Nat.le_of_ble_eq_true rfl⟩) hK hP [] rfl hS hA rfl hl.1 rfl (Nat.le_of_ble_eq_true rfl) dX6_isChoir_6 ⟨Nat.zero_le _, Nat.zero_le _⟩ (fun H locs hP hS => ?_)
  obtain ⟨hz, hp⟩ := fl_bl_of hp
  obtain rfl := Option.some.inj hp
  exact hfin H locs _ ls hS dX6_isChoir_9 hz

noncomputable def P_M_setSingers_J13 (rf : Int32) (nw : fl_A) (di : fl_A) (ac : Int32) (od : fl_A) (rk : fl_A) (be : fl_A) (p0 : Int32) (k0 : Int32) : Option (Int32 × Int32 × fl_A × fl_A × Int32 × fl_A × fl_A × fl_A) := fl_bd (P_M_refused rf k0) (fun q1 => if q1.1 = 0 then fl_bd (P_M_remember nw di ac) (fun q2 => fl_bd (P_M_setSingersIn od rk be nw p0) (fun q3 => some (q3.1, q1.2, q3.2.2.2.2, q2.1, q2.2, q3.2.1, q3.2.2.1, q3.2.2.2.1))) else some ((0 : Int32), q1.2, nw, di, ac, od, rk, be))
noncomputable def P_M_setSingers (rf : Int32) (nw : fl_A) (di : fl_A) (ac : Int32) (od : fl_A) (rk : fl_A) (be : fl_A) (p0 : Int32) : Option (Int32 × Int32 × fl_A × fl_A × Int32 × fl_A × fl_A × fl_A) := fl_bd (P_M_isChoir p0) (fun q1 => if q1 = 0 then P_M_setSingers_J13 rf nw di ac od rk be p0 (1 : Int32) else P_M_setSingers_J13 rf nw di ac od rk be p0 (0 : Int32))
set_option maxHeartbeats 4000000 in
set_option maxRecDepth 100000 in
theorem c_M_setSingers (l : Launch) (G : fl_G) (mo a_sc a_nw a_tr a_di a_ke a_ik a_od a_rk a_be a_fr : Nat) (ss : Int32) (fs : Int32) (rf : Int32) (nw : fl_A) (di : fl_A) (ac : Int32) (od : fl_A) (rk : fl_A) (be : fl_A) (p0 : Int32) {r : (Int32 × Int32 × fl_A × fl_A × Int32 × fl_A × fl_A × fl_A)} (hp0 : P_M_setSingers rf nw di ac od rk be p0 = some r) : fl_mu l yX6_setSingers wsX6_setSingers 5 117 G [.ref mo, .int p0] [(mo, .inr (6, [.int rf, .ref a_sc, .int ss, .ref a_nw, .ref a_tr, .ref a_di, .int ac, .ref a_ke, .ref a_ik, .ref a_od, .ref a_rk, .ref a_be, .ref a_fr, .int fs])), (a_nw, .inl (G.2.1, 126, .inl nw)), (a_di, .inl (G.2.1, 1764, .inl di)), (a_od, .inl (G.2.1, 60, .inl od)), (a_rk, .inl (G.2.1, 60, .inl rk)), (a_be, .inl (G.2.1, 60, .inl be))] (some (.int r.1)) [(mo, .inr (6, [.int r.2.1, .ref a_sc, .int ss, .ref a_nw, .ref a_tr, .ref a_di, .int r.2.2.2.2.1, .ref a_ke, .ref a_ik, .ref a_od, .ref a_rk, .ref a_be, .ref a_fr, .int fs])), (a_nw, .inl (G.2.1, 126, .inl r.2.2.1)), (a_di, .inl (G.2.1, 1764, .inl r.2.2.2.1)), (a_od, .inl (G.2.1, 60, .inl r.2.2.2.2.2.1)), (a_rk, .inl (G.2.1, 60, .inl r.2.2.2.2.2.2.1)), (a_be, .inl (G.2.1, 60, .inl r.2.2.2.2.2.2.2))] := by
  refine fl_mui_in cX6_setSingers 2 .int RX6 (by decide) rfl rfl (Nat.le_of_ble_eq_true rfl) ?_
  intro p e s m args below meth c ls A Q H locs C0 hK hP hD hS hA hl hfin
  obtain ⟨hx, hb, hml, hown, hts⟩ := id C0
  have iX6 : ∀ w ∈ u_ws RX6 TX6 14, w ∈ wsX6_setSingers := fun _ h => List.mem_cons_of_mem _ (List.mem_append_right _ h)
  have hl : lv_has ls 2 [(0, .ref mo), (1, .int p0)] := hl
  have KJ13 : ∀ (rf : Int32) (nw : fl_A) (di : fl_A) (ac : Int32) (od : fl_A) (rk : fl_A) (be : fl_A) (k0 : Int32) (H : Heap) (locs : List Loc), va_P G.1 vwCl [(mo, .inr (6, [.int rf, .ref a_sc, .int ss, .ref a_nw, .ref a_tr, .ref a_di, .int ac, .ref a_ke, .ref a_ik, .ref a_od, .ref a_rk, .ref a_be, .ref a_fr, .int fs])), (a_nw, .inl (G.2.1, 126, .inl nw)), (a_di, .inl (G.2.1, 1764, .inl di)), (a_od, .inl (G.2.1, 60, .inl od)), (a_rk, .inl (G.2.1, 60, .inl rk)), (a_be, .inl (G.2.1, 60, .inl be))] H → va_D A [(mo, .inr (6, [.int rf, .ref a_sc, .int ss, .ref a_nw, .ref a_tr, .ref a_di, .int ac, .ref a_ke, .ref a_ik, .ref a_od, .ref a_rk, .ref a_be, .ref a_fr, .int fs])), (a_nw, .inl (G.2.1, 126, .inl nw)), (a_di, .inl (G.2.1, 1764, .inl di)), (a_od, .inl (G.2.1, 60, .inl od)), (a_rk, .inl (G.2.1, 60, .inl rk)), (a_be, .inl (G.2.1, 60, .inl be))] → va_S A s.heap H locs → ∀ (ls : Array Slot), lv_has ls 2 [(0, .ref mo), (1, .int p0)] → P_M_setSingers_J13 rf nw di ac od rk be p0 k0 = some r → W p l e (fl_rm 5 117) s m args below meth c H locs 0 0 Q (F0 m 13 ls [.int k0, .ref mo]) := by
    intro rf nw di ac od rk be k0 H locs hP hD hS ls hl hp
    unfold P_M_setSingers_J13 at hp
    obtain ⟨q1, hq1, hp⟩ := fl_bd_of hp
    refine fl_muV (As := [.int k0]) (rest := []) [(mo, .inr (6, [.int q1.2, .ref a_sc, .int ss, .ref a_nw, .ref a_tr, .ref a_di, .int ac, .ref a_ke, .ref a_ik, .ref a_od, .ref a_rk, .ref a_be, .ref a_fr, .int fs])), (a_nw, .inl (G.2.1, 126, .inl nw)), (a_di, .inl (G.2.1, 1764, .inl di)), (a_od, .inl (G.2.1, 60, .inl od)), (a_rk, .inl (G.2.1, 60, .inl rk)), (a_be, .inl (G.2.1, 60, .inl be))] C0 (c_M_refused l G mo a_sc a_nw a_tr a_di a_ke a_ik a_od a_rk a_be a_fr ss ac fs rf k0 hq1) (cwV 1 hts gX6_setSingers_X6_refused rfl rfl rfl (by decide +kernel) ⟨Nat.le_of_ble_eq_true rfl, Nat.le_of_ble_eq_true rfl⟩) hK hP hD [0] [1, 2, 3, 4, 5] [5, 0, 1, 2, 3, 4] rfl rfl (by decide) (by decide) rfl 0 6 rfl rfl rfl hS hA rfl hl.1 rfl (Nat.le_of_ble_eq_true rfl) dX6_setSingers_13 ⟨Nat.zero_le _, Nat.zero_le _⟩ (fun H locs hP hD hS => ?_)
    refine lv_if_eq (tgt := 21) hx hb dX6_setSingers_16 (by decide) (fun hc => ?_) (fun hc => ?_)
    · replace hp := fl_t hc hp
      refine lv_aload_n hx hb dX6_setSingers_21 rfl (lv_at hl 0 rfl) ?_
      obtain ⟨q2, hq2, hp⟩ := fl_bd_of hp
      refine fl_muV (As := []) (rest := []) [(mo, .inr (6, [.int q1.2, .ref a_sc, .int ss, .ref a_nw, .ref a_tr, .ref a_di, .int q2.2, .ref a_ke, .ref a_ik, .ref a_od, .ref a_rk, .ref a_be, .ref a_fr, .int fs])), (a_nw, .inl (G.2.1, 126, .inl nw)), (a_di, .inl (G.2.1, 1764, .inl q2.1)), (a_od, .inl (G.2.1, 60, .inl od)), (a_rk, .inl (G.2.1, 60, .inl rk)), (a_be, .inl (G.2.1, 60, .inl be))] C0 (c_M_remember l G mo a_sc a_nw a_tr a_di a_ke a_ik a_od a_rk a_be a_fr q1.2 ss fs nw di ac hq2) (cwV 0 hts gX6_setSingers_X6_remember rfl rfl rfl (by decide +kernel) ⟨Nat.le_of_ble_eq_true rfl, Nat.le_of_ble_eq_true rfl⟩) hK hP hD [0, 1, 2] [3, 4, 5] [3, 4, 5, 0, 1, 2] rfl rfl (by decide) (by decide) rfl 0 6 rfl rfl rfl hS hA rfl hl.1 rfl (Nat.le_of_ble_eq_true rfl) dX6_setSingers_22 ⟨Nat.zero_le _, Nat.zero_le _⟩ (fun H locs hP hD hS => ?_)
      refine lv_aload_n hx hb dX6_setSingers_25 rfl (lv_at hl 0 rfl) ?_
      refine lv_aload_n hx hb dX6_setSingers_26 rfl (lv_at hl 0 rfl) ?_
      refine va_get (D := G.1) (ci := 6) (v := .ref a_nw) (C := RX6) (T := TX6) (N := 14) hx hb hts iX6 hown hK.1 hP 0 rfl rfl 3 (by decide) (hts (.fieldLink RX6 13 "SongChoirModel" "now" "[I") (List.mem_of_getElem? (i := 1) rfl)) (fun _ h9 => h9) rfl dX6_setSingers_27 ?_
      refine lv_iload_n hx hb dX6_setSingers_30 rfl (lv_at hl 1 rfl) ?_
      obtain ⟨q3, hq3, hp⟩ := fl_bd_of hp
      refine fl_muV (As := [.ref a_nw, .int p0]) (rest := []) [(mo, .inr (6, [.int q1.2, .ref a_sc, .int ss, .ref a_nw, .ref a_tr, .ref a_di, .int q2.2, .ref a_ke, .ref a_ik, .ref a_od, .ref a_rk, .ref a_be, .ref a_fr, .int fs])), (a_nw, .inl (G.2.1, 126, .inl q3.2.2.2.2)), (a_di, .inl (G.2.1, 1764, .inl q2.1)), (a_od, .inl (G.2.1, 60, .inl q3.2.1)), (a_rk, .inl (G.2.1, 60, .inl q3.2.2.1)), (a_be, .inl (G.2.1, 60, .inl q3.2.2.2.1))] C0 (c_M_setSingersIn l G mo a_sc a_nw a_tr a_di a_ke a_ik a_od a_rk a_be a_fr a_nw q1.2 ss q2.2 fs od rk be nw p0 hq3) (cwV 2 hts gX6_setSingers_X6_setSingersIn rfl rfl rfl (by decide +kernel) ⟨Nat.le_of_ble_eq_true rfl, Nat.le_of_ble_eq_true rfl⟩) hK hP hD [0, 3, 4, 5, 1] [2] [1, 5, 0, 2, 3, 4] rfl rfl (by decide) (by decide) rfl 0 6 rfl rfl rfl hS hA rfl hl.1 rfl (Nat.le_of_ble_eq_true rfl) dX6_setSingers_31 ⟨Nat.zero_le _, Nat.zero_le _⟩ (fun H locs hP hD hS => ?_)
      obtain rfl := Option.some.inj hp
      exact hfin H locs _ ls hP hD hS dX6_setSingers_34 rfl
    · replace hp := fl_f hc hp
      refine lv_iconst (v := (0 : Int32)) hx hb dX6_setSingers_19 (by decide) ?_
      obtain rfl := Option.some.inj hp
      exact hfin H locs _ ls hP hD hS dX6_setSingers_20 rfl
  have hp := hp0
  unfold P_M_setSingers at hp
  refine lv_aload_n hx hb dX6_setSingers_0 rfl (lv_at hl 0 rfl) ?_
  refine lv_iload_n hx hb dX6_setSingers_1 rfl (lv_at hl 1 rfl) ?_
  obtain ⟨q1, hq1, hp⟩ := fl_bd_of hp
  refine fl_roS (As := [.int p0]) (rest := [.ref mo]) C0 (c_M_isChoir l G p0 hq1) (va_cwS 1 hts gX6_setSingers_X6_isChoir rfl rfl rfl (by decide +kernel) ⟨Nat.le_of_ble_eq_true rfl, Nat.le_of_ble_eq_true rfl⟩) hK hP [] rfl hS hA rfl hl.1 rfl (Nat.le_of_ble_eq_true rfl) dX6_setSingers_2 ⟨Nat.zero_le _, Nat.zero_le _⟩ (fun H locs hP hS => ?_)
  refine lv_if_eq (tgt := 12) hx hb dX6_setSingers_5 (by decide) (fun hc => ?_) (fun hc => ?_)
  · replace hp := fl_t hc hp
    refine lv_iconst (v := (1 : Int32)) hx hb dX6_setSingers_12 (by decide) ?_
    exact KJ13 rf nw di ac od rk be (1 : Int32) H locs hP hD hS ls (lv_sub hl [0, 1] rfl) hp
  · replace hp := fl_f hc hp
    refine lv_iconst (v := (0 : Int32)) hx hb dX6_setSingers_8 (by decide) ?_
    refine lv_goto (tgt := 13) hx hb dX6_setSingers_9 (by decide) ?_
    exact KJ13 rf nw di ac od rk be (0 : Int32) H locs hP hD hS ls (lv_sub hl [0, 1] rfl) hp

noncomputable def P_M_undo_J13 (rf : Int32) (nw : fl_A) (di : fl_A) (ac : Int32) (k0 : Int32) : Option (Int32 × Int32 × fl_A × Int32) := fl_bd (P_M_refused rf k0) (fun q1 => if q1.1 = 0 then fl_bd (P_M_copy 1764 126 di nw ((126 : Int32) * (ac - (1 : Int32))) (0 : Int32) (126 : Int32)) (fun q2 => some ((ac - (1 : Int32)), q1.2, q2, (ac - (1 : Int32)))) else some ((0 : Int32), q1.2, nw, ac))
noncomputable def P_M_undo (rf : Int32) (nw : fl_A) (di : fl_A) (ac : Int32) : Option (Int32 × Int32 × fl_A × Int32) := if ac = 0 then P_M_undo_J13 rf nw di ac (1 : Int32) else P_M_undo_J13 rf nw di ac (0 : Int32)
set_option maxHeartbeats 4000000 in
set_option maxRecDepth 100000 in
theorem c_M_undo (l : Launch) (G : fl_G) (mo a_sc a_nw a_tr a_di a_ke a_ik a_od a_rk a_be a_fr : Nat) (ss : Int32) (fs : Int32) (rf : Int32) (nw : fl_A) (di : fl_A) (ac : Int32) {r : (Int32 × Int32 × fl_A × Int32)} (hp0 : P_M_undo rf nw di ac = some r) : fl_mu l yX6_undo wsX6_undo 1 25 G [.ref mo] [(mo, .inr (6, [.int rf, .ref a_sc, .int ss, .ref a_nw, .ref a_tr, .ref a_di, .int ac, .ref a_ke, .ref a_ik, .ref a_od, .ref a_rk, .ref a_be, .ref a_fr, .int fs])), (a_nw, .inl (G.2.1, 126, .inl nw)), (a_di, .inl (G.2.1, 1764, .inl di))] (some (.int r.1)) [(mo, .inr (6, [.int r.2.1, .ref a_sc, .int ss, .ref a_nw, .ref a_tr, .ref a_di, .int r.2.2.2, .ref a_ke, .ref a_ik, .ref a_od, .ref a_rk, .ref a_be, .ref a_fr, .int fs])), (a_nw, .inl (G.2.1, 126, .inl r.2.2.1)), (a_di, .inl (G.2.1, 1764, .inl di))] := by
  refine fl_mui_in cX6_undo 1 .int RX6 (by decide) rfl rfl (Nat.le_of_ble_eq_true rfl) ?_
  intro p e s m args below meth c ls A Q H locs C0 hK hP hD hS hA hl hfin
  obtain ⟨hx, hb, hml, hown, hts⟩ := id C0
  have iX6 : ∀ w ∈ u_ws RX6 TX6 14, w ∈ wsX6_undo := fun _ h => List.mem_cons_of_mem _ (List.mem_append_right _ h)
  have hl : lv_has ls 1 [(0, .ref mo)] := hl
  have KJ13 : ∀ (rf : Int32) (nw : fl_A) (ac : Int32) (k0 : Int32) (H : Heap) (locs : List Loc), va_P G.1 vwCl [(mo, .inr (6, [.int rf, .ref a_sc, .int ss, .ref a_nw, .ref a_tr, .ref a_di, .int ac, .ref a_ke, .ref a_ik, .ref a_od, .ref a_rk, .ref a_be, .ref a_fr, .int fs])), (a_nw, .inl (G.2.1, 126, .inl nw)), (a_di, .inl (G.2.1, 1764, .inl di))] H → va_D A [(mo, .inr (6, [.int rf, .ref a_sc, .int ss, .ref a_nw, .ref a_tr, .ref a_di, .int ac, .ref a_ke, .ref a_ik, .ref a_od, .ref a_rk, .ref a_be, .ref a_fr, .int fs])), (a_nw, .inl (G.2.1, 126, .inl nw)), (a_di, .inl (G.2.1, 1764, .inl di))] → va_S A s.heap H locs → ∀ (ls : Array Slot), lv_has ls 1 [(0, .ref mo)] → P_M_undo_J13 rf nw di ac k0 = some r → W p l e (fl_rm 1 25) s m args below meth c H locs 0 0 Q (F0 m 13 ls [.int k0, .ref mo]) := by
    intro rf nw ac k0 H locs hP hD hS ls hl hp
    unfold P_M_undo_J13 at hp
    obtain ⟨q1, hq1, hp⟩ := fl_bd_of hp
    refine fl_muV (As := [.int k0]) (rest := []) [(mo, .inr (6, [.int q1.2, .ref a_sc, .int ss, .ref a_nw, .ref a_tr, .ref a_di, .int ac, .ref a_ke, .ref a_ik, .ref a_od, .ref a_rk, .ref a_be, .ref a_fr, .int fs])), (a_nw, .inl (G.2.1, 126, .inl nw)), (a_di, .inl (G.2.1, 1764, .inl di))] C0 (c_M_refused l G mo a_sc a_nw a_tr a_di a_ke a_ik a_od a_rk a_be a_fr ss ac fs rf k0 hq1) (cwV 1 hts gX6_undo_X6_refused rfl rfl rfl (by decide +kernel) ⟨Nat.le_of_ble_eq_true rfl, Nat.le_of_ble_eq_true rfl⟩) hK hP hD [0] [1, 2] [2, 0, 1] rfl rfl (by decide) (by decide) rfl 0 6 rfl rfl rfl hS hA rfl hl.1 rfl (Nat.le_of_ble_eq_true rfl) dX6_undo_13 ⟨Nat.zero_le _, Nat.zero_le _⟩ (fun H locs hP hD hS => ?_)
    refine lv_if_eq (tgt := 21) hx hb dX6_undo_16 (by decide) (fun hc => ?_) (fun hc => ?_)
    · replace hp := fl_t hc hp
      refine lv_aload_n hx hb dX6_undo_21 rfl (lv_at hl 0 rfl) ?_
      refine lv_dup hx hb dX6_undo_22 rfl ?_
      refine va_get (D := G.1) (ci := 6) (v := .int ac) (C := RX6) (T := TX6) (N := 14) hx hb hts iX6 hown hK.1 hP 0 rfl rfl 6 (by decide) (hts (.fieldLink RX6 47 "SongChoirModel" "acts" "I") (List.mem_of_getElem? (i := 1) rfl)) (fun _ h9 => h9) rfl dX6_undo_23 ?_
      refine lv_iconst (v := (1 : Int32)) hx hb dX6_undo_26 (by decide) ?_
      refine lv_isub hx hb dX6_undo_27 ?_
      refine va_put (D := G.1) (ci := 6) (v := .int (ac - (1 : Int32))) (ty := .int) (C := RX6) (T := TX6) (N := 14) hx hb hts iX6 tyX6 tyX6_ok nmX6 hown hK.1 hP hD hS 0 rfl rfl 6 (by decide) (hts (.fieldLink RX6 47 "SongChoirModel" "acts" "I") (List.mem_of_getElem? (i := 1) rfl)) (fun _ h9 => h9) rfl (by decide +kernel) rfl rfl (Nat.le_of_ble_eq_true rfl) dX6_undo_28 (fun H locs hP hD hS => ?_)
      have hP : va_P G.1 vwCl [(mo, .inr (6, [.int q1.2, .ref a_sc, .int ss, .ref a_nw, .ref a_tr, .ref a_di, .int (ac - (1 : Int32)), .ref a_ke, .ref a_ik, .ref a_od, .ref a_rk, .ref a_be, .ref a_fr, .int fs])), (a_nw, .inl (G.2.1, 126, .inl nw)), (a_di, .inl (G.2.1, 1764, .inl di))] H := hP
      have hD : va_D A [(mo, .inr (6, [.int q1.2, .ref a_sc, .int ss, .ref a_nw, .ref a_tr, .ref a_di, .int (ac - (1 : Int32)), .ref a_ke, .ref a_ik, .ref a_od, .ref a_rk, .ref a_be, .ref a_fr, .int fs])), (a_nw, .inl (G.2.1, 126, .inl nw)), (a_di, .inl (G.2.1, 1764, .inl di))] := hD
      refine lv_aload_n hx hb dX6_undo_31 rfl (lv_at hl 0 rfl) ?_
      refine va_get (D := G.1) (ci := 6) (v := .ref a_di) (C := RX6) (T := TX6) (N := 14) hx hb hts iX6 hown hK.1 hP 0 rfl rfl 5 (by decide) (hts (.fieldLink RX6 19 "SongChoirModel" "diary" "[I") (List.mem_of_getElem? (i := 2) rfl)) (fun _ h9 => h9) rfl dX6_undo_32 ?_
      refine lv_bipush (v := (126 : Int32)) hx hb dX6_undo_35 (by decide) ?_
      refine lv_aload_n hx hb dX6_undo_37 rfl (lv_at hl 0 rfl) ?_
      refine va_get (D := G.1) (ci := 6) (v := .int (ac - (1 : Int32))) (C := RX6) (T := TX6) (N := 14) hx hb hts iX6 hown hK.1 hP 0 rfl rfl 6 (by decide) (hts (.fieldLink RX6 47 "SongChoirModel" "acts" "I") (List.mem_of_getElem? (i := 1) rfl)) (fun _ h9 => h9) rfl dX6_undo_38 ?_
      refine lv_imul hx hb dX6_undo_41 ?_
      refine lv_aload_n hx hb dX6_undo_42 rfl (lv_at hl 0 rfl) ?_
      refine va_get (D := G.1) (ci := 6) (v := .ref a_nw) (C := RX6) (T := TX6) (N := 14) hx hb hts iX6 hown hK.1 hP 0 rfl rfl 3 (by decide) (hts (.fieldLink RX6 13 "SongChoirModel" "now" "[I") (List.mem_of_getElem? (i := 3) rfl)) (fun _ h9 => h9) rfl dX6_undo_43 ?_
      refine lv_iconst (v := (0 : Int32)) hx hb dX6_undo_46 (by decide) ?_
      refine lv_bipush (v := (126 : Int32)) hx hb dX6_undo_47 (by decide) ?_
      obtain ⟨q2, hq2, hp⟩ := fl_bd_of hp
      refine fl_muS (As := [.ref a_di, .int ((126 : Int32) * (ac - (1 : Int32))), .ref a_nw, .int (0 : Int32), .int (126 : Int32)]) (rest := []) [(mo, .inr (6, [.int q1.2, .ref a_sc, .int ss, .ref a_nw, .ref a_tr, .ref a_di, .int (ac - (1 : Int32)), .ref a_ke, .ref a_ik, .ref a_od, .ref a_rk, .ref a_be, .ref a_fr, .int fs])), (a_nw, .inl (G.2.1, 126, .inl q2)), (a_di, .inl (G.2.1, 1764, .inl di))] C0 (c_M_copy l G 1764 126 a_di a_nw di nw ((126 : Int32) * (ac - (1 : Int32))) (0 : Int32) (126 : Int32) hq2) (va_cwS 5 hts gX6_undo_X6_copy rfl rfl rfl (by decide +kernel) ⟨Nat.le_of_ble_eq_true rfl, Nat.le_of_ble_eq_true rfl⟩) hK hP hD [2, 1] [0] [0, 2, 1] rfl rfl (by decide) (by decide) rfl hS hA rfl hl.1 rfl (Nat.le_of_ble_eq_true rfl) dX6_undo_49 ⟨Nat.zero_le _, Nat.zero_le _⟩ (fun H locs hP hD hS => ?_)
      refine lv_aload_n hx hb dX6_undo_52 rfl (lv_at hl 0 rfl) ?_
      refine va_get (D := G.1) (ci := 6) (v := .int (ac - (1 : Int32))) (C := RX6) (T := TX6) (N := 14) hx hb hts iX6 hown hK.1 hP 0 rfl rfl 6 (by decide) (hts (.fieldLink RX6 47 "SongChoirModel" "acts" "I") (List.mem_of_getElem? (i := 1) rfl)) (fun _ h9 => h9) rfl dX6_undo_53 ?_
      obtain rfl := Option.some.inj hp
      exact hfin H locs _ ls hP hD hS dX6_undo_56 rfl
    · replace hp := fl_f hc hp
      refine lv_iconst (v := (0 : Int32)) hx hb dX6_undo_19 (by decide) ?_
      obtain rfl := Option.some.inj hp
      exact hfin H locs _ ls hP hD hS dX6_undo_20 rfl
  have hp := hp0
  unfold P_M_undo at hp
  refine lv_aload_n hx hb dX6_undo_0 rfl (lv_at hl 0 rfl) ?_
  refine lv_aload_n hx hb dX6_undo_1 rfl (lv_at hl 0 rfl) ?_
  refine va_get (D := G.1) (ci := 6) (v := .int ac) (C := RX6) (T := TX6) (N := 14) hx hb hts iX6 hown hK.1 hP 0 rfl rfl 6 (by decide) (hts (.fieldLink RX6 47 "SongChoirModel" "acts" "I") (List.mem_of_getElem? (i := 1) rfl)) (fun _ h9 => h9) rfl dX6_undo_2 ?_
  refine lv_if_ne (tgt := 12) hx hb dX6_undo_5 (by decide) (fun hc => ?_) (fun hc => ?_)
  · replace hp := fl_f hc hp
    refine lv_iconst (v := (0 : Int32)) hx hb dX6_undo_12 (by decide) ?_
    exact KJ13 rf nw ac (0 : Int32) H locs hP hD hS ls (lv_sub hl [0] rfl) hp
  · replace hp := fl_t hc hp
    refine lv_iconst (v := (1 : Int32)) hx hb dX6_undo_8 (by decide) ?_
    refine lv_goto (tgt := 13) hx hb dX6_undo_9 (by decide) ?_
    exact KJ13 rf nw ac (1 : Int32) H locs hP hD hS ls (lv_sub hl [0] rfl) hp

noncomputable def P_M_wouldRepeat (rf : Int32) (sc : fl_A) (ss : Int32) (nw : fl_A) (tr : fl_A) (od : fl_A) (rk : fl_A) (be : fl_A) (fr : fl_A) (fs : Int32) : Option (Int32 × Int32 × fl_A × fl_A × fl_A × fl_A × fl_A × Int32) := fl_bd (P_M_canSing sc ss) (fun q1 => if q1 = 0 then some ((-1 : Int32), (0 : Int32), tr, od, rk, be, fr, fs) else fl_bd (P_M_begin nw tr) (fun q2 => fl_bd (P_M_takeText sc ss fr fs) (fun q3 => fl_bd (P_M_singIn od rk be q3.1 q3.2 q2) (fun q4 => fl_bd (P_M_longest q4.2.1 q4.2.2.1 q4.2.2.2.2) (fun q5 => some (q5.1, (0 : Int32), q4.2.2.2.2, q5.2.1, q5.2.2, q4.2.2.2.1, q3.1, q3.2))))))
set_option maxHeartbeats 4000000 in
set_option maxRecDepth 100000 in
theorem c_M_wouldRepeat (l : Launch) (G : fl_G) (mo a_sc a_nw a_tr a_di a_ke a_ik a_od a_rk a_be a_fr : Nat) (ac : Int32) (rf : Int32) (sc : fl_A) (ss : Int32) (nw : fl_A) (tr : fl_A) (od : fl_A) (rk : fl_A) (be : fl_A) (fr : fl_A) (fs : Int32) {r : (Int32 × Int32 × fl_A × fl_A × fl_A × fl_A × fl_A × Int32)} (hp0 : P_M_wouldRepeat rf sc ss nw tr od rk be fr fs = some r) : fl_mu l yX6_wouldRepeat wsX6_wouldRepeat 5 118 G [.ref mo] [(mo, .inr (6, [.int rf, .ref a_sc, .int ss, .ref a_nw, .ref a_tr, .ref a_di, .int ac, .ref a_ke, .ref a_ik, .ref a_od, .ref a_rk, .ref a_be, .ref a_fr, .int fs])), (a_sc, .inl (G.2.1, 40, .inl sc)), (a_nw, .inl (G.2.1, 126, .inl nw)), (a_tr, .inl (G.2.1, 126, .inl tr)), (a_od, .inl (G.2.1, 60, .inl od)), (a_rk, .inl (G.2.1, 60, .inl rk)), (a_be, .inl (G.2.1, 60, .inl be)), (a_fr, .inl (G.2.1, 12, .inl fr))] (some (.int r.1)) [(mo, .inr (6, [.int r.2.1, .ref a_sc, .int ss, .ref a_nw, .ref a_tr, .ref a_di, .int ac, .ref a_ke, .ref a_ik, .ref a_od, .ref a_rk, .ref a_be, .ref a_fr, .int r.2.2.2.2.2.2.2])), (a_sc, .inl (G.2.1, 40, .inl sc)), (a_nw, .inl (G.2.1, 126, .inl nw)), (a_tr, .inl (G.2.1, 126, .inl r.2.2.1)), (a_od, .inl (G.2.1, 60, .inl r.2.2.2.1)), (a_rk, .inl (G.2.1, 60, .inl r.2.2.2.2.1)), (a_be, .inl (G.2.1, 60, .inl r.2.2.2.2.2.1)), (a_fr, .inl (G.2.1, 12, .inl r.2.2.2.2.2.2.1))] := by
  refine fl_mui_in cX6_wouldRepeat 1 .int RX6 (by decide) rfl rfl (Nat.le_of_ble_eq_true rfl) ?_
  intro p e s m args below meth c ls A Q H locs C0 hK hP hD hS hA hl hfin
  obtain ⟨hx, hb, hml, hown, hts⟩ := id C0
  have iX6 : ∀ w ∈ u_ws RX6 TX6 14, w ∈ wsX6_wouldRepeat := fun _ h => List.mem_cons_of_mem _ (List.mem_append_right _ h)
  have hl : lv_has ls 1 [(0, .ref mo)] := hl
  have hp := hp0
  unfold P_M_wouldRepeat at hp
  refine lv_aload_n hx hb dX6_wouldRepeat_0 rfl (lv_at hl 0 rfl) ?_
  refine lv_iconst (v := (0 : Int32)) hx hb dX6_wouldRepeat_1 (by decide) ?_
  refine va_put (D := G.1) (ci := 6) (v := .int (0 : Int32)) (ty := .int) (C := RX6) (T := TX6) (N := 14) hx hb hts iX6 tyX6 tyX6_ok nmX6 hown hK.1 hP hD hS 0 rfl rfl 0 (by decide) (hts (.fieldLink RX6 41 "SongChoirModel" "refusal" "I") (List.mem_of_getElem? (i := 1) rfl)) (fun _ h9 => h9) rfl (by decide +kernel) rfl rfl (Nat.le_of_ble_eq_true rfl) dX6_wouldRepeat_2 (fun H locs hP hD hS => ?_)
  have hP : va_P G.1 vwCl [(mo, .inr (6, [.int (0 : Int32), .ref a_sc, .int ss, .ref a_nw, .ref a_tr, .ref a_di, .int ac, .ref a_ke, .ref a_ik, .ref a_od, .ref a_rk, .ref a_be, .ref a_fr, .int fs])), (a_sc, .inl (G.2.1, 40, .inl sc)), (a_nw, .inl (G.2.1, 126, .inl nw)), (a_tr, .inl (G.2.1, 126, .inl tr)), (a_od, .inl (G.2.1, 60, .inl od)), (a_rk, .inl (G.2.1, 60, .inl rk)), (a_be, .inl (G.2.1, 60, .inl be)), (a_fr, .inl (G.2.1, 12, .inl fr))] H := hP
  have hD : va_D A [(mo, .inr (6, [.int (0 : Int32), .ref a_sc, .int ss, .ref a_nw, .ref a_tr, .ref a_di, .int ac, .ref a_ke, .ref a_ik, .ref a_od, .ref a_rk, .ref a_be, .ref a_fr, .int fs])), (a_sc, .inl (G.2.1, 40, .inl sc)), (a_nw, .inl (G.2.1, 126, .inl nw)), (a_tr, .inl (G.2.1, 126, .inl tr)), (a_od, .inl (G.2.1, 60, .inl od)), (a_rk, .inl (G.2.1, 60, .inl rk)), (a_be, .inl (G.2.1, 60, .inl be)), (a_fr, .inl (G.2.1, 12, .inl fr))] := hD
  refine lv_aload_n hx hb dX6_wouldRepeat_5 rfl (lv_at hl 0 rfl) ?_
  obtain ⟨q1, hq1, hp⟩ := fl_bd_of hp
  refine fl_roV (As := []) (rest := []) C0 (c_M_canSing l G mo a_sc a_nw a_tr a_di a_ke a_ik a_od a_rk a_be a_fr (0 : Int32) ac fs sc ss hq1) (cwV 0 hts gX6_wouldRepeat_X6_canSing rfl rfl rfl (by decide +kernel) ⟨Nat.le_of_ble_eq_true rfl, Nat.le_of_ble_eq_true rfl⟩) hK hP [0, 1] rfl 0 6 rfl rfl rfl hS hA rfl hl.1 rfl (Nat.le_of_ble_eq_true rfl) dX6_wouldRepeat_6 ⟨Nat.zero_le _, Nat.zero_le _⟩ (fun H locs hP hS => ?_)
  refine lv_if_ne (tgt := 14) hx hb dX6_wouldRepeat_9 (by decide) (fun hc => ?_) (fun hc => ?_)
  · replace hp := fl_f hc hp
    refine lv_aload_n hx hb dX6_wouldRepeat_14 rfl (lv_at hl 0 rfl) ?_
    obtain ⟨q2, hq2, hp⟩ := fl_bd_of hp
    refine fl_muV (As := []) (rest := []) [(mo, .inr (6, [.int (0 : Int32), .ref a_sc, .int ss, .ref a_nw, .ref a_tr, .ref a_di, .int ac, .ref a_ke, .ref a_ik, .ref a_od, .ref a_rk, .ref a_be, .ref a_fr, .int fs])), (a_sc, .inl (G.2.1, 40, .inl sc)), (a_nw, .inl (G.2.1, 126, .inl nw)), (a_tr, .inl (G.2.1, 126, .inl q2)), (a_od, .inl (G.2.1, 60, .inl od)), (a_rk, .inl (G.2.1, 60, .inl rk)), (a_be, .inl (G.2.1, 60, .inl be)), (a_fr, .inl (G.2.1, 12, .inl fr))] C0 (c_M_begin l G mo a_sc a_nw a_tr a_di a_ke a_ik a_od a_rk a_be a_fr (0 : Int32) ss ac fs nw tr hq2) (cwV 0 hts gX6_wouldRepeat_X6_begin rfl rfl rfl (by decide +kernel) ⟨Nat.le_of_ble_eq_true rfl, Nat.le_of_ble_eq_true rfl⟩) hK hP hD [0, 2, 3] [1, 4, 5, 6, 7] [5, 0, 6, 7, 1, 2, 3, 4] rfl rfl (by decide) (by decide) rfl 0 6 rfl rfl rfl hS hA rfl hl.1 rfl (Nat.le_of_ble_eq_true rfl) dX6_wouldRepeat_15 ⟨Nat.zero_le _, Nat.zero_le _⟩ (fun H locs hP hD hS => ?_)
    refine lv_aload_n hx hb dX6_wouldRepeat_18 rfl (lv_at hl 0 rfl) ?_
    obtain ⟨q3, hq3, hp⟩ := fl_bd_of hp
    refine fl_muV (As := []) (rest := []) [(mo, .inr (6, [.int (0 : Int32), .ref a_sc, .int ss, .ref a_nw, .ref a_tr, .ref a_di, .int ac, .ref a_ke, .ref a_ik, .ref a_od, .ref a_rk, .ref a_be, .ref a_fr, .int q3.2])), (a_sc, .inl (G.2.1, 40, .inl sc)), (a_nw, .inl (G.2.1, 126, .inl nw)), (a_tr, .inl (G.2.1, 126, .inl q2)), (a_od, .inl (G.2.1, 60, .inl od)), (a_rk, .inl (G.2.1, 60, .inl rk)), (a_be, .inl (G.2.1, 60, .inl be)), (a_fr, .inl (G.2.1, 12, .inl q3.1))] C0 (c_M_takeText l G mo a_sc a_nw a_tr a_di a_ke a_ik a_od a_rk a_be a_fr (0 : Int32) ac sc ss fr fs hq3) (cwV 0 hts gX6_wouldRepeat_X6_takeText rfl rfl rfl (by decide +kernel) ⟨Nat.le_of_ble_eq_true rfl, Nat.le_of_ble_eq_true rfl⟩) hK hP hD [0, 1, 7] [2, 3, 4, 5, 6] [5, 6, 0, 1, 2, 3, 4, 7] rfl rfl (by decide) (by decide) rfl 0 6 rfl rfl rfl hS hA rfl hl.1 rfl (Nat.le_of_ble_eq_true rfl) dX6_wouldRepeat_19 ⟨Nat.zero_le _, Nat.zero_le _⟩ (fun H locs hP hD hS => ?_)
    refine lv_aload_n hx hb dX6_wouldRepeat_22 rfl (lv_at hl 0 rfl) ?_
    refine lv_aload_n hx hb dX6_wouldRepeat_23 rfl (lv_at hl 0 rfl) ?_
    refine va_get (D := G.1) (ci := 6) (v := .ref a_tr) (C := RX6) (T := TX6) (N := 14) hx hb hts iX6 hown hK.1 hP 0 rfl rfl 4 (by decide) (hts (.fieldLink RX6 16 "SongChoirModel" "trial" "[I") (List.mem_of_getElem? (i := 2) rfl)) (fun _ h9 => h9) rfl dX6_wouldRepeat_24 ?_
    obtain ⟨q4, hq4, hp⟩ := fl_bd_of hp
    refine fl_muV (As := [.ref a_tr]) (rest := []) [(mo, .inr (6, [.int (0 : Int32), .ref a_sc, .int ss, .ref a_nw, .ref a_tr, .ref a_di, .int ac, .ref a_ke, .ref a_ik, .ref a_od, .ref a_rk, .ref a_be, .ref a_fr, .int q3.2])), (a_sc, .inl (G.2.1, 40, .inl sc)), (a_nw, .inl (G.2.1, 126, .inl nw)), (a_tr, .inl (G.2.1, 126, .inl q4.2.2.2.2)), (a_od, .inl (G.2.1, 60, .inl q4.2.1)), (a_rk, .inl (G.2.1, 60, .inl q4.2.2.1)), (a_be, .inl (G.2.1, 60, .inl q4.2.2.2.1)), (a_fr, .inl (G.2.1, 12, .inl q3.1))] C0 (c_M_singIn l G mo a_sc a_nw a_tr a_di a_ke a_ik a_od a_rk a_be a_fr a_tr (0 : Int32) ss ac od rk be q3.1 q3.2 q2 hq4) (cwV 1 hts gX6_wouldRepeat_X6_singIn rfl rfl rfl (by decide +kernel) ⟨Nat.le_of_ble_eq_true rfl, Nat.le_of_ble_eq_true rfl⟩) hK hP hD [0, 4, 5, 6, 7, 3] [1, 2] [2, 0, 1, 7, 3, 4, 5, 6] rfl rfl (by decide) (by decide) rfl 0 6 rfl rfl rfl hS hA rfl hl.1 rfl (Nat.le_of_ble_eq_true rfl) dX6_wouldRepeat_27 ⟨Nat.zero_le _, Nat.zero_le _⟩ (fun H locs hP hD hS => ?_)
    refine lv_pop hx hb dX6_wouldRepeat_30 rfl ?_
    refine lv_aload_n hx hb dX6_wouldRepeat_31 rfl (lv_at hl 0 rfl) ?_
    refine lv_aload_n hx hb dX6_wouldRepeat_32 rfl (lv_at hl 0 rfl) ?_
    refine va_get (D := G.1) (ci := 6) (v := .ref a_tr) (C := RX6) (T := TX6) (N := 14) hx hb hts iX6 hown hK.1 hP 0 rfl rfl 4 (by decide) (hts (.fieldLink RX6 16 "SongChoirModel" "trial" "[I") (List.mem_of_getElem? (i := 2) rfl)) (fun _ h9 => h9) rfl dX6_wouldRepeat_33 ?_
    obtain ⟨q5, hq5, hp⟩ := fl_bd_of hp
    refine fl_muV (As := [.ref a_tr]) (rest := []) [(mo, .inr (6, [.int (0 : Int32), .ref a_sc, .int ss, .ref a_nw, .ref a_tr, .ref a_di, .int ac, .ref a_ke, .ref a_ik, .ref a_od, .ref a_rk, .ref a_be, .ref a_fr, .int q3.2])), (a_sc, .inl (G.2.1, 40, .inl sc)), (a_nw, .inl (G.2.1, 126, .inl nw)), (a_tr, .inl (G.2.1, 126, .inl q4.2.2.2.2)), (a_od, .inl (G.2.1, 60, .inl q5.2.1)), (a_rk, .inl (G.2.1, 60, .inl q5.2.2)), (a_be, .inl (G.2.1, 60, .inl q4.2.2.2.1)), (a_fr, .inl (G.2.1, 12, .inl q3.1))] C0 (c_M_longest l G mo a_sc a_nw a_tr a_di a_ke a_ik a_od a_rk a_be a_fr a_tr (0 : Int32) ss ac q3.2 q4.2.1 q4.2.2.1 q4.2.2.2.2 hq5) (cwV 1 hts gX6_wouldRepeat_X6_longest rfl rfl rfl (by decide +kernel) ⟨Nat.le_of_ble_eq_true rfl, Nat.le_of_ble_eq_true rfl⟩) hK hP hD [0, 4, 5, 3] [1, 2, 6, 7] [4, 0, 1, 7, 5, 6, 2, 3] rfl rfl (by decide) (by decide) rfl 0 6 rfl rfl rfl hS hA rfl hl.1 rfl (Nat.le_of_ble_eq_true rfl) dX6_wouldRepeat_36 ⟨Nat.zero_le _, Nat.zero_le _⟩ (fun H locs hP hD hS => ?_)
    obtain rfl := Option.some.inj hp
    exact hfin H locs _ ls hP hD hS dX6_wouldRepeat_39 rfl
  · replace hp := fl_t hc hp
    refine lv_iconst (v := (-1 : Int32)) hx hb dX6_wouldRepeat_12 (by decide) ?_
    obtain rfl := Option.some.inj hp
    exact hfin H locs _ ls hP hD hS dX6_wouldRepeat_13 rfl

noncomputable def P_M_bestSingers_J65 (rf : Int32) (sc : fl_A) (ss : Int32) (nw : fl_A) (tr : fl_A) (od : fl_A) (rk : fl_A) (be : fl_A) (fr : fl_A) (fs : Int32) (v1 : Int32) (v2 : Int32) (v3 : Int32) : Option ((Int32 × Int32 × Int32 × fl_A × fl_A × fl_A × fl_A × fl_A × Int32) ⊕ (Int32 × Int32 × fl_A × fl_A × fl_A × fl_A × fl_A × Int32)) := some (.inl (v1, v2, (v3 + (1 : Int32)), tr, od, rk, be, fr, fs))
noncomputable def P_M_bestSingers_J60 (rf : Int32) (sc : fl_A) (ss : Int32) (nw : fl_A) (tr : fl_A) (od : fl_A) (rk : fl_A) (be : fl_A) (fr : fl_A) (fs : Int32) (v3 : Int32) (v4 : Int32) : Option ((Int32 × Int32 × Int32 × fl_A × fl_A × fl_A × fl_A × fl_A × Int32) ⊕ (Int32 × Int32 × fl_A × fl_A × fl_A × fl_A × fl_A × Int32)) := P_M_bestSingers_J65 rf sc ss nw tr od rk be fr fs v3 v4 v3
noncomputable def P_M_bestSingers_L11 (rf : Int32) (sc : fl_A) (ss : Int32) (nw : fl_A) (z11 : (Int32 × Int32 × Int32 × fl_A × fl_A × fl_A × fl_A × fl_A × Int32)) : Option ((Int32 × Int32 × Int32 × fl_A × fl_A × fl_A × fl_A × fl_A × Int32) ⊕ (Int32 × Int32 × fl_A × fl_A × fl_A × fl_A × fl_A × Int32)) := if (8 : Int32) < z11.2.2.1 then some (.inr (z11.1, rf, z11.2.2.2.1, z11.2.2.2.2.1, z11.2.2.2.2.2.1, z11.2.2.2.2.2.2.1, z11.2.2.2.2.2.2.2.1, z11.2.2.2.2.2.2.2.2)) else fl_bd (P_M_canSing sc ss) (fun q1 => if q1 = 0 then some (.inr (z11.1, rf, z11.2.2.2.1, z11.2.2.2.2.1, z11.2.2.2.2.2.1, z11.2.2.2.2.2.2.1, z11.2.2.2.2.2.2.2.1, z11.2.2.2.2.2.2.2.2)) else fl_bd (P_M_begin nw z11.2.2.2.1) (fun q2 => fl_ck (2 : Int32) 126 (fl_bd (P_M_takeText sc ss z11.2.2.2.2.2.2.2.1 z11.2.2.2.2.2.2.2.2) (fun q3 => fl_bd (P_M_singIn z11.2.2.2.2.1 z11.2.2.2.2.2.1 z11.2.2.2.2.2.2.1 q3.1 q3.2 (upd q2 (2 : Int32).toNatClampNeg z11.2.2.1)) (fun q4 => if z11.1 = (-1 : Int32) then P_M_bestSingers_J60 rf sc ss nw q4.2.2.2.2 q4.2.1 q4.2.2.1 q4.2.2.2.1 q3.1 q3.2 z11.2.2.1 q4.1 else if z11.2.1 < q4.1 then P_M_bestSingers_J65 rf sc ss nw q4.2.2.2.2 q4.2.1 q4.2.2.1 q4.2.2.2.1 q3.1 q3.2 z11.1 z11.2.1 z11.2.2.1 else P_M_bestSingers_J60 rf sc ss nw q4.2.2.2.2 q4.2.1 q4.2.2.1 q4.2.2.2.1 q3.1 q3.2 z11.2.2.1 q4.1)))))
noncomputable def P_M_bestSingers (rf : Int32) (sc : fl_A) (ss : Int32) (nw : fl_A) (tr : fl_A) (od : fl_A) (rk : fl_A) (be : fl_A) (fr : fl_A) (fs : Int32) : Option (Int32 × Int32 × fl_A × fl_A × fl_A × fl_A × fl_A × Int32) := fl_loop (P_M_bestSingers_L11 (0 : Int32) sc ss nw) ((-1 : Int32), (0 : Int32), (1 : Int32), tr, od, rk, be, fr, fs)
set_option maxHeartbeats 4000000 in
set_option maxRecDepth 100000 in
theorem c_M_bestSingers (l : Launch) (G : fl_G) (mo a_sc a_nw a_tr a_di a_ke a_ik a_od a_rk a_be a_fr : Nat) (ac : Int32) (rf : Int32) (sc : fl_A) (ss : Int32) (nw : fl_A) (tr : fl_A) (od : fl_A) (rk : fl_A) (be : fl_A) (fr : fl_A) (fs : Int32) {r : (Int32 × Int32 × fl_A × fl_A × fl_A × fl_A × fl_A × Int32)} (hp0 : P_M_bestSingers rf sc ss nw tr od rk be fr fs = some r) : fl_mu l yX6_bestSingers wsX6_bestSingers 5 118 G [.ref mo] [(mo, .inr (6, [.int rf, .ref a_sc, .int ss, .ref a_nw, .ref a_tr, .ref a_di, .int ac, .ref a_ke, .ref a_ik, .ref a_od, .ref a_rk, .ref a_be, .ref a_fr, .int fs])), (a_sc, .inl (G.2.1, 40, .inl sc)), (a_nw, .inl (G.2.1, 126, .inl nw)), (a_tr, .inl (G.2.1, 126, .inl tr)), (a_od, .inl (G.2.1, 60, .inl od)), (a_rk, .inl (G.2.1, 60, .inl rk)), (a_be, .inl (G.2.1, 60, .inl be)), (a_fr, .inl (G.2.1, 12, .inl fr))] (some (.int r.1)) [(mo, .inr (6, [.int r.2.1, .ref a_sc, .int ss, .ref a_nw, .ref a_tr, .ref a_di, .int ac, .ref a_ke, .ref a_ik, .ref a_od, .ref a_rk, .ref a_be, .ref a_fr, .int r.2.2.2.2.2.2.2])), (a_sc, .inl (G.2.1, 40, .inl sc)), (a_nw, .inl (G.2.1, 126, .inl nw)), (a_tr, .inl (G.2.1, 126, .inl r.2.2.1)), (a_od, .inl (G.2.1, 60, .inl r.2.2.2.1)), (a_rk, .inl (G.2.1, 60, .inl r.2.2.2.2.1)), (a_be, .inl (G.2.1, 60, .inl r.2.2.2.2.2.1)), (a_fr, .inl (G.2.1, 12, .inl r.2.2.2.2.2.2.1))] := by
  refine fl_mui_in cX6_bestSingers 5 .int RX6 (by decide) rfl rfl (Nat.le_of_ble_eq_true rfl) ?_
  intro p e s m args below meth c ls A Q H locs C0 hK hP hD hS hA hl hfin
  obtain ⟨hx, hb, hml, hown, hts⟩ := id C0
  have iX6 : ∀ w ∈ u_ws RX6 TX6 14, w ∈ wsX6_bestSingers := fun _ h => List.mem_cons_of_mem _ (List.mem_append_right _ h)
  have hl : lv_has ls 5 [(0, .ref mo)] := hl
  have KL11 : ∀ (rf : Int32) (n0 : Nat) (z11 : (Int32 × Int32 × Int32 × fl_A × fl_A × fl_A × fl_A × fl_A × Int32)) (H : Heap) (locs : List Loc), va_P G.1 vwCl [(mo, .inr (6, [.int rf, .ref a_sc, .int ss, .ref a_nw, .ref a_tr, .ref a_di, .int ac, .ref a_ke, .ref a_ik, .ref a_od, .ref a_rk, .ref a_be, .ref a_fr, .int z11.2.2.2.2.2.2.2.2])), (a_sc, .inl (G.2.1, 40, .inl sc)), (a_nw, .inl (G.2.1, 126, .inl nw)), (a_tr, .inl (G.2.1, 126, .inl z11.2.2.2.1)), (a_od, .inl (G.2.1, 60, .inl z11.2.2.2.2.1)), (a_rk, .inl (G.2.1, 60, .inl z11.2.2.2.2.2.1)), (a_be, .inl (G.2.1, 60, .inl z11.2.2.2.2.2.2.1)), (a_fr, .inl (G.2.1, 12, .inl z11.2.2.2.2.2.2.2.1))] H → va_D A [(mo, .inr (6, [.int rf, .ref a_sc, .int ss, .ref a_nw, .ref a_tr, .ref a_di, .int ac, .ref a_ke, .ref a_ik, .ref a_od, .ref a_rk, .ref a_be, .ref a_fr, .int z11.2.2.2.2.2.2.2.2])), (a_sc, .inl (G.2.1, 40, .inl sc)), (a_nw, .inl (G.2.1, 126, .inl nw)), (a_tr, .inl (G.2.1, 126, .inl z11.2.2.2.1)), (a_od, .inl (G.2.1, 60, .inl z11.2.2.2.2.1)), (a_rk, .inl (G.2.1, 60, .inl z11.2.2.2.2.2.1)), (a_be, .inl (G.2.1, 60, .inl z11.2.2.2.2.2.2.1)), (a_fr, .inl (G.2.1, 12, .inl z11.2.2.2.2.2.2.2.1))] → va_S A s.heap H locs → ∀ (ls : Array Slot), lv_has ls 5 [(0, .ref mo), (1, .int z11.1), (2, .int z11.2.1), (3, .int z11.2.2.1)] → fl_loopN (P_M_bestSingers_L11 rf sc ss nw) n0 z11 = some r → W p l e (fl_rm 5 118) s m args below meth c H locs 0 0 Q (F0 m 11 ls []) := by
    intro rf n0
    induction n0 with
    | zero => intro z11 H locs hP hD hS ls hl hn; exact (fl_loopN_0 hn).elim
    | succ n0 ih11 =>
      intro z11 H locs hP hD hS ls hl hn
      obtain ⟨y11, hb11, hy11⟩ := fl_loopN_step hn
      clear hn
      have KJ65 : ∀ (tr : fl_A) (od : fl_A) (rk : fl_A) (be : fl_A) (fr : fl_A) (fs : Int32) (v1 : Int32) (v2 : Int32) (v3 : Int32) (H : Heap) (locs : List Loc), va_P G.1 vwCl [(mo, .inr (6, [.int rf, .ref a_sc, .int ss, .ref a_nw, .ref a_tr, .ref a_di, .int ac, .ref a_ke, .ref a_ik, .ref a_od, .ref a_rk, .ref a_be, .ref a_fr, .int fs])), (a_sc, .inl (G.2.1, 40, .inl sc)), (a_nw, .inl (G.2.1, 126, .inl nw)), (a_tr, .inl (G.2.1, 126, .inl tr)), (a_od, .inl (G.2.1, 60, .inl od)), (a_rk, .inl (G.2.1, 60, .inl rk)), (a_be, .inl (G.2.1, 60, .inl be)), (a_fr, .inl (G.2.1, 12, .inl fr))] H → va_D A [(mo, .inr (6, [.int rf, .ref a_sc, .int ss, .ref a_nw, .ref a_tr, .ref a_di, .int ac, .ref a_ke, .ref a_ik, .ref a_od, .ref a_rk, .ref a_be, .ref a_fr, .int fs])), (a_sc, .inl (G.2.1, 40, .inl sc)), (a_nw, .inl (G.2.1, 126, .inl nw)), (a_tr, .inl (G.2.1, 126, .inl tr)), (a_od, .inl (G.2.1, 60, .inl od)), (a_rk, .inl (G.2.1, 60, .inl rk)), (a_be, .inl (G.2.1, 60, .inl be)), (a_fr, .inl (G.2.1, 12, .inl fr))] → va_S A s.heap H locs → ∀ (ls : Array Slot), lv_has ls 5 [(0, .ref mo), (1, .int v1), (2, .int v2), (3, .int v3)] → P_M_bestSingers_J65 rf sc ss nw tr od rk be fr fs v1 v2 v3 = some y11 → W p l e (fl_rm 5 118) s m args below meth c H locs 0 0 Q (F0 m 65 ls []) := by
        intro tr od rk be fr fs v1 v2 v3 H locs hP hD hS ls hl hp
        unfold P_M_bestSingers_J65 at hp
        refine lv_iinc (v := (v3 + (1 : Int32))) (lv' := [(3, .int (v3 + (1 : Int32))), (0, .ref mo), (1, .int v1), (2, .int v2)]) hx hb dX6_bestSingers_65 hl (k := 3) rfl rfl (by decide) rfl (fun ls hl => ?_)
        refine lv_goto (tgt := 11) hx hb dX6_bestSingers_68 (by decide) ?_
        obtain rfl := Option.some.inj hp
        exact ih11 (v1, v2, (v3 + (1 : Int32)), tr, od, rk, be, fr, fs) H locs hP hD hS ls (lv_sub hl [1, 2, 3, 0] rfl) (fl_cont_inl hy11)
      have KJ60 : ∀ (tr : fl_A) (od : fl_A) (rk : fl_A) (be : fl_A) (fr : fl_A) (fs : Int32) (v3 : Int32) (v4 : Int32) (H : Heap) (locs : List Loc), va_P G.1 vwCl [(mo, .inr (6, [.int rf, .ref a_sc, .int ss, .ref a_nw, .ref a_tr, .ref a_di, .int ac, .ref a_ke, .ref a_ik, .ref a_od, .ref a_rk, .ref a_be, .ref a_fr, .int fs])), (a_sc, .inl (G.2.1, 40, .inl sc)), (a_nw, .inl (G.2.1, 126, .inl nw)), (a_tr, .inl (G.2.1, 126, .inl tr)), (a_od, .inl (G.2.1, 60, .inl od)), (a_rk, .inl (G.2.1, 60, .inl rk)), (a_be, .inl (G.2.1, 60, .inl be)), (a_fr, .inl (G.2.1, 12, .inl fr))] H → va_D A [(mo, .inr (6, [.int rf, .ref a_sc, .int ss, .ref a_nw, .ref a_tr, .ref a_di, .int ac, .ref a_ke, .ref a_ik, .ref a_od, .ref a_rk, .ref a_be, .ref a_fr, .int fs])), (a_sc, .inl (G.2.1, 40, .inl sc)), (a_nw, .inl (G.2.1, 126, .inl nw)), (a_tr, .inl (G.2.1, 126, .inl tr)), (a_od, .inl (G.2.1, 60, .inl od)), (a_rk, .inl (G.2.1, 60, .inl rk)), (a_be, .inl (G.2.1, 60, .inl be)), (a_fr, .inl (G.2.1, 12, .inl fr))] → va_S A s.heap H locs → ∀ (ls : Array Slot), lv_has ls 5 [(0, .ref mo), (3, .int v3), (4, .int v4)] → P_M_bestSingers_J60 rf sc ss nw tr od rk be fr fs v3 v4 = some y11 → W p l e (fl_rm 5 118) s m args below meth c H locs 0 0 Q (F0 m 60 ls []) := by
        intro tr od rk be fr fs v3 v4 H locs hP hD hS ls hl hp
        unfold P_M_bestSingers_J60 at hp
        refine lv_iload_n hx hb dX6_bestSingers_60 rfl (lv_at hl 1 rfl) ?_
        refine lv_istore_n (lv' := [(1, .int v3), (0, .ref mo), (3, .int v3), (4, .int v4)]) hx hb dX6_bestSingers_61 rfl hl (by decide) rfl (fun ls hl => ?_)
        refine lv_iload hx hb dX6_bestSingers_62 (lv_at hl 3 rfl) ?_
        refine lv_istore_n (lv' := [(2, .int v4), (1, .int v3), (0, .ref mo), (3, .int v3), (4, .int v4)]) hx hb dX6_bestSingers_64 rfl hl (by decide) rfl (fun ls hl => ?_)
        exact KJ65 tr od rk be fr fs v3 v4 v3 H locs hP hD hS ls (lv_sub hl [2, 1, 0, 3] rfl) hp
      have hp := hb11
      unfold P_M_bestSingers_L11 at hp
      refine lv_iload_n hx hb dX6_bestSingers_11 rfl (lv_at hl 3 rfl) ?_
      refine lv_bipush (v := (8 : Int32)) hx hb dX6_bestSingers_12 (by decide) ?_
      refine lv_icmp_gt (tgt := 71) hx hb dX6_bestSingers_14 (by decide) (fun hc => ?_) (fun hc => ?_)
      · replace hp := fl_t hc hp
        refine lv_iload_n hx hb dX6_bestSingers_71 rfl (lv_at hl 1 rfl) ?_
        obtain rfl := Option.some.inj hp
        obtain rfl := fl_cont_inr hy11
        exact hfin H locs _ ls hP hD hS dX6_bestSingers_72 rfl
      · replace hp := fl_f hc hp
        refine lv_aload_n hx hb dX6_bestSingers_17 rfl (lv_at hl 0 rfl) ?_
        obtain ⟨q1, hq1, hp⟩ := fl_bd_of hp
        refine fl_roV (As := []) (rest := []) C0 (c_M_canSing l G mo a_sc a_nw a_tr a_di a_ke a_ik a_od a_rk a_be a_fr rf ac z11.2.2.2.2.2.2.2.2 sc ss hq1) (cwV 0 hts gX6_bestSingers_X6_canSing rfl rfl rfl (by decide +kernel) ⟨Nat.le_of_ble_eq_true rfl, Nat.le_of_ble_eq_true rfl⟩) hK hP [0, 1] rfl 0 6 rfl rfl rfl hS hA rfl hl.1 rfl (Nat.le_of_ble_eq_true rfl) dX6_bestSingers_18 ⟨Nat.zero_le _, Nat.zero_le _⟩ (fun H locs hP hS => ?_)
        refine lv_if_eq (tgt := 71) hx hb dX6_bestSingers_21 (by decide) (fun hc => ?_) (fun hc => ?_)
        · replace hp := fl_t hc hp
          refine lv_iload_n hx hb dX6_bestSingers_71 rfl (lv_at hl 1 rfl) ?_
          obtain rfl := Option.some.inj hp
          obtain rfl := fl_cont_inr hy11
          exact hfin H locs _ ls hP hD hS dX6_bestSingers_72 rfl
        · replace hp := fl_f hc hp
          refine lv_aload_n hx hb dX6_bestSingers_24 rfl (lv_at hl 0 rfl) ?_
          obtain ⟨q2, hq2, hp⟩ := fl_bd_of hp
          refine fl_muV (As := []) (rest := []) [(mo, .inr (6, [.int rf, .ref a_sc, .int ss, .ref a_nw, .ref a_tr, .ref a_di, .int ac, .ref a_ke, .ref a_ik, .ref a_od, .ref a_rk, .ref a_be, .ref a_fr, .int z11.2.2.2.2.2.2.2.2])), (a_sc, .inl (G.2.1, 40, .inl sc)), (a_nw, .inl (G.2.1, 126, .inl nw)), (a_tr, .inl (G.2.1, 126, .inl q2)), (a_od, .inl (G.2.1, 60, .inl z11.2.2.2.2.1)), (a_rk, .inl (G.2.1, 60, .inl z11.2.2.2.2.2.1)), (a_be, .inl (G.2.1, 60, .inl z11.2.2.2.2.2.2.1)), (a_fr, .inl (G.2.1, 12, .inl z11.2.2.2.2.2.2.2.1))] C0 (c_M_begin l G mo a_sc a_nw a_tr a_di a_ke a_ik a_od a_rk a_be a_fr rf ss ac z11.2.2.2.2.2.2.2.2 nw z11.2.2.2.1 hq2) (cwV 0 hts gX6_bestSingers_X6_begin rfl rfl rfl (by decide +kernel) ⟨Nat.le_of_ble_eq_true rfl, Nat.le_of_ble_eq_true rfl⟩) hK hP hD [0, 2, 3] [1, 4, 5, 6, 7] [5, 0, 6, 7, 1, 2, 3, 4] rfl rfl (by decide) (by decide) rfl 0 6 rfl rfl rfl hS hA rfl hl.1 rfl (Nat.le_of_ble_eq_true rfl) dX6_bestSingers_25 ⟨Nat.zero_le _, Nat.zero_le _⟩ (fun H locs hP hD hS => ?_)
          refine lv_aload_n hx hb dX6_bestSingers_28 rfl (lv_at hl 0 rfl) ?_
          refine va_get (D := G.1) (ci := 6) (v := .ref a_tr) (C := RX6) (T := TX6) (N := 14) hx hb hts iX6 hown hK.1 hP 0 rfl rfl 4 (by decide) (hts (.fieldLink RX6 16 "SongChoirModel" "trial" "[I") (List.mem_of_getElem? (i := 2) rfl)) (fun _ h9 => h9) rfl dX6_bestSingers_29 ?_
          refine lv_iconst (v := (2 : Int32)) hx hb dX6_bestSingers_32 (by decide) ?_
          refine lv_iload_n hx hb dX6_bestSingers_33 rfl (lv_at hl 3 rfl) ?_
          obtain ⟨hi, hp⟩ := fl_ck_of hp
          refine va_iast hx hb hK.1 hP hD hS 3 0 rfl rfl hi dX6_bestSingers_34 (fun H locs hP hD hS => ?_)
          have hP : va_P G.1 vwCl [(mo, .inr (6, [.int rf, .ref a_sc, .int ss, .ref a_nw, .ref a_tr, .ref a_di, .int ac, .ref a_ke, .ref a_ik, .ref a_od, .ref a_rk, .ref a_be, .ref a_fr, .int z11.2.2.2.2.2.2.2.2])), (a_sc, .inl (G.2.1, 40, .inl sc)), (a_nw, .inl (G.2.1, 126, .inl nw)), (a_tr, .inl (G.2.1, 126, .inl (upd q2 (2 : Int32).toNatClampNeg z11.2.2.1))), (a_od, .inl (G.2.1, 60, .inl z11.2.2.2.2.1)), (a_rk, .inl (G.2.1, 60, .inl z11.2.2.2.2.2.1)), (a_be, .inl (G.2.1, 60, .inl z11.2.2.2.2.2.2.1)), (a_fr, .inl (G.2.1, 12, .inl z11.2.2.2.2.2.2.2.1))] H := hP
          have hD : va_D A [(mo, .inr (6, [.int rf, .ref a_sc, .int ss, .ref a_nw, .ref a_tr, .ref a_di, .int ac, .ref a_ke, .ref a_ik, .ref a_od, .ref a_rk, .ref a_be, .ref a_fr, .int z11.2.2.2.2.2.2.2.2])), (a_sc, .inl (G.2.1, 40, .inl sc)), (a_nw, .inl (G.2.1, 126, .inl nw)), (a_tr, .inl (G.2.1, 126, .inl (upd q2 (2 : Int32).toNatClampNeg z11.2.2.1))), (a_od, .inl (G.2.1, 60, .inl z11.2.2.2.2.1)), (a_rk, .inl (G.2.1, 60, .inl z11.2.2.2.2.2.1)), (a_be, .inl (G.2.1, 60, .inl z11.2.2.2.2.2.2.1)), (a_fr, .inl (G.2.1, 12, .inl z11.2.2.2.2.2.2.2.1))] := hD
          refine lv_aload_n hx hb dX6_bestSingers_35 rfl (lv_at hl 0 rfl) ?_
          obtain ⟨q3, hq3, hp⟩ := fl_bd_of hp
          refine fl_muV (As := []) (rest := []) [(mo, .inr (6, [.int rf, .ref a_sc, .int ss, .ref a_nw, .ref a_tr, .ref a_di, .int ac, .ref a_ke, .ref a_ik, .ref a_od, .ref a_rk, .ref a_be, .ref a_fr, .int q3.2])), (a_sc, .inl (G.2.1, 40, .inl sc)), (a_nw, .inl (G.2.1, 126, .inl nw)), (a_tr, .inl (G.2.1, 126, .inl (upd q2 (2 : Int32).toNatClampNeg z11.2.2.1))), (a_od, .inl (G.2.1, 60, .inl z11.2.2.2.2.1)), (a_rk, .inl (G.2.1, 60, .inl z11.2.2.2.2.2.1)), (a_be, .inl (G.2.1, 60, .inl z11.2.2.2.2.2.2.1)), (a_fr, .inl (G.2.1, 12, .inl q3.1))] C0 (c_M_takeText l G mo a_sc a_nw a_tr a_di a_ke a_ik a_od a_rk a_be a_fr rf ac sc ss z11.2.2.2.2.2.2.2.1 z11.2.2.2.2.2.2.2.2 hq3) (cwV 0 hts gX6_bestSingers_X6_takeText rfl rfl rfl (by decide +kernel) ⟨Nat.le_of_ble_eq_true rfl, Nat.le_of_ble_eq_true rfl⟩) hK hP hD [0, 1, 7] [2, 3, 4, 5, 6] [5, 6, 0, 1, 2, 3, 4, 7] rfl rfl (by decide) (by decide) rfl 0 6 rfl rfl rfl hS hA rfl hl.1 rfl (Nat.le_of_ble_eq_true rfl) dX6_bestSingers_36 ⟨Nat.zero_le _, Nat.zero_le _⟩ (fun H locs hP hD hS => ?_)
          refine lv_aload_n hx hb dX6_bestSingers_39 rfl (lv_at hl 0 rfl) ?_
          refine lv_aload_n hx hb dX6_bestSingers_40 rfl (lv_at hl 0 rfl) ?_
          refine va_get (D := G.1) (ci := 6) (v := .ref a_tr) (C := RX6) (T := TX6) (N := 14) hx hb hts iX6 hown hK.1 hP 0 rfl rfl 4 (by decide) (hts (.fieldLink RX6 16 "SongChoirModel" "trial" "[I") (List.mem_of_getElem? (i := 2) rfl)) (fun _ h9 => h9) rfl dX6_bestSingers_41 ?_
          obtain ⟨q4, hq4, hp⟩ := fl_bd_of hp
          refine fl_muV (As := [.ref a_tr]) (rest := []) [(mo, .inr (6, [.int rf, .ref a_sc, .int ss, .ref a_nw, .ref a_tr, .ref a_di, .int ac, .ref a_ke, .ref a_ik, .ref a_od, .ref a_rk, .ref a_be, .ref a_fr, .int q3.2])), (a_sc, .inl (G.2.1, 40, .inl sc)), (a_nw, .inl (G.2.1, 126, .inl nw)), (a_tr, .inl (G.2.1, 126, .inl q4.2.2.2.2)), (a_od, .inl (G.2.1, 60, .inl q4.2.1)), (a_rk, .inl (G.2.1, 60, .inl q4.2.2.1)), (a_be, .inl (G.2.1, 60, .inl q4.2.2.2.1)), (a_fr, .inl (G.2.1, 12, .inl q3.1))] C0 (c_M_singIn l G mo a_sc a_nw a_tr a_di a_ke a_ik a_od a_rk a_be a_fr a_tr rf ss ac z11.2.2.2.2.1 z11.2.2.2.2.2.1 z11.2.2.2.2.2.2.1 q3.1 q3.2 (upd q2 (2 : Int32).toNatClampNeg z11.2.2.1) hq4) (cwV 1 hts gX6_bestSingers_X6_singIn rfl rfl rfl (by decide +kernel) ⟨Nat.le_of_ble_eq_true rfl, Nat.le_of_ble_eq_true rfl⟩) hK hP hD [0, 4, 5, 6, 7, 3] [1, 2] [2, 0, 1, 7, 3, 4, 5, 6] rfl rfl (by decide) (by decide) rfl 0 6 rfl rfl rfl hS hA rfl hl.1 rfl (Nat.le_of_ble_eq_true rfl) dX6_bestSingers_44 ⟨Nat.zero_le _, Nat.zero_le _⟩ (fun H locs hP hD hS => ?_)
          refine lv_istore (lv' := [(4, .int q4.1), (0, .ref mo), (1, .int z11.1), (2, .int z11.2.1), (3, .int z11.2.2.1)]) hx hb dX6_bestSingers_47 hl (by decide) rfl (fun ls hl => ?_)
          refine lv_iload_n hx hb dX6_bestSingers_49 rfl (lv_at hl 2 rfl) ?_
          refine lv_iconst (v := (-1 : Int32)) hx hb dX6_bestSingers_50 (by decide) ?_
          refine lv_icmp_eq (tgt := 60) hx hb dX6_bestSingers_51 (by decide) (fun hc => ?_) (fun hc => ?_)
          · replace hp := fl_t hc hp
            exact KJ60 q4.2.2.2.2 q4.2.1 q4.2.2.1 q4.2.2.2.1 q3.1 q3.2 z11.2.2.1 q4.1 H locs hP hD hS ls (lv_sub hl [1, 4, 0] rfl) hp
          · replace hp := fl_f hc hp
            refine lv_iload hx hb dX6_bestSingers_54 (lv_at hl 0 rfl) ?_
            refine lv_iload_n hx hb dX6_bestSingers_56 rfl (lv_at hl 3 rfl) ?_
            refine lv_icmp_gt (tgt := 65) hx hb dX6_bestSingers_57 (by decide) (fun hc => ?_) (fun hc => ?_)
            · replace hp := fl_t hc hp
              exact KJ65 q4.2.2.2.2 q4.2.1 q4.2.2.1 q4.2.2.2.1 q3.1 q3.2 z11.1 z11.2.1 z11.2.2.1 H locs hP hD hS ls (lv_sub hl [1, 2, 3, 4] rfl) hp
            · replace hp := fl_f hc hp
              exact KJ60 q4.2.2.2.2 q4.2.1 q4.2.2.1 q4.2.2.2.1 q3.1 q3.2 z11.2.2.1 q4.1 H locs hP hD hS ls (lv_sub hl [1, 4, 0] rfl) hp
  have hp := hp0
  unfold P_M_bestSingers at hp
  refine lv_aload_n hx hb dX6_bestSingers_0 rfl (lv_at hl 0 rfl) ?_
  refine lv_iconst (v := (0 : Int32)) hx hb dX6_bestSingers_1 (by decide) ?_
  refine va_put (D := G.1) (ci := 6) (v := .int (0 : Int32)) (ty := .int) (C := RX6) (T := TX6) (N := 14) hx hb hts iX6 tyX6 tyX6_ok nmX6 hown hK.1 hP hD hS 0 rfl rfl 0 (by decide) (hts (.fieldLink RX6 41 "SongChoirModel" "refusal" "I") (List.mem_of_getElem? (i := 1) rfl)) (fun _ h9 => h9) rfl (by decide +kernel) rfl rfl (Nat.le_of_ble_eq_true rfl) dX6_bestSingers_2 (fun H locs hP hD hS => ?_)
  have hP : va_P G.1 vwCl [(mo, .inr (6, [.int (0 : Int32), .ref a_sc, .int ss, .ref a_nw, .ref a_tr, .ref a_di, .int ac, .ref a_ke, .ref a_ik, .ref a_od, .ref a_rk, .ref a_be, .ref a_fr, .int fs])), (a_sc, .inl (G.2.1, 40, .inl sc)), (a_nw, .inl (G.2.1, 126, .inl nw)), (a_tr, .inl (G.2.1, 126, .inl tr)), (a_od, .inl (G.2.1, 60, .inl od)), (a_rk, .inl (G.2.1, 60, .inl rk)), (a_be, .inl (G.2.1, 60, .inl be)), (a_fr, .inl (G.2.1, 12, .inl fr))] H := hP
  have hD : va_D A [(mo, .inr (6, [.int (0 : Int32), .ref a_sc, .int ss, .ref a_nw, .ref a_tr, .ref a_di, .int ac, .ref a_ke, .ref a_ik, .ref a_od, .ref a_rk, .ref a_be, .ref a_fr, .int fs])), (a_sc, .inl (G.2.1, 40, .inl sc)), (a_nw, .inl (G.2.1, 126, .inl nw)), (a_tr, .inl (G.2.1, 126, .inl tr)), (a_od, .inl (G.2.1, 60, .inl od)), (a_rk, .inl (G.2.1, 60, .inl rk)), (a_be, .inl (G.2.1, 60, .inl be)), (a_fr, .inl (G.2.1, 12, .inl fr))] := hD
  refine lv_iconst (v := (-1 : Int32)) hx hb dX6_bestSingers_5 (by decide) ?_
  refine lv_istore_n (lv' := [(1, .int (-1 : Int32)), (0, .ref mo)]) hx hb dX6_bestSingers_6 rfl hl (by decide) rfl (fun ls hl => ?_)
  refine lv_iconst (v := (0 : Int32)) hx hb dX6_bestSingers_7 (by decide) ?_
  refine lv_istore_n (lv' := [(2, .int (0 : Int32)), (1, .int (-1 : Int32)), (0, .ref mo)]) hx hb dX6_bestSingers_8 rfl hl (by decide) rfl (fun ls hl => ?_)
  refine lv_iconst (v := (1 : Int32)) hx hb dX6_bestSingers_9 (by decide) ?_
  refine lv_istore_n (lv' := [(3, .int (1 : Int32)), (2, .int (0 : Int32)), (1, .int (-1 : Int32)), (0, .ref mo)]) hx hb dX6_bestSingers_10 rfl hl (by decide) rfl (fun ls hl => ?_)
  obtain ⟨n0, hn⟩ := fl_loop_ex hp
  exact KL11 (0 : Int32) n0 ((-1 : Int32), (0 : Int32), (1 : Int32), tr, od, rk, be, fr, fs) H locs hP hD hS ls (lv_sub hl [3, 2, 1, 0] rfl) hn

noncomputable def P_M_bestAgain_J61 (rf : Int32) (nw : fl_A) (tr : fl_A) (od : fl_A) (rk : fl_A) (be : fl_A) (fr : fl_A) (fs : Int32) (v1 : Int32) (v2 : Int32) (v3 : Int32) : Option ((Int32 × Int32 × Int32 × fl_A × fl_A × fl_A × fl_A × fl_A × Int32) ⊕ (Int32 × Int32 × fl_A × fl_A × fl_A × fl_A × fl_A × Int32)) := some (.inl (v1, v2, (v3 + (1 : Int32)), tr, od, rk, be, fr, fs))
noncomputable def P_M_bestAgain_J56 (rf : Int32) (nw : fl_A) (tr : fl_A) (od : fl_A) (rk : fl_A) (be : fl_A) (fr : fl_A) (fs : Int32) (v3 : Int32) (v4 : Int32) : Option ((Int32 × Int32 × Int32 × fl_A × fl_A × fl_A × fl_A × fl_A × Int32) ⊕ (Int32 × Int32 × fl_A × fl_A × fl_A × fl_A × fl_A × Int32)) := P_M_bestAgain_J61 rf nw tr od rk be fr fs v3 v4 v3
noncomputable def P_M_bestAgain_L11 (rf : Int32) (nw : fl_A) (z11 : (Int32 × Int32 × Int32 × fl_A × fl_A × fl_A × fl_A × fl_A × Int32)) : Option ((Int32 × Int32 × Int32 × fl_A × fl_A × fl_A × fl_A × fl_A × Int32) ⊕ (Int32 × Int32 × fl_A × fl_A × fl_A × fl_A × fl_A × Int32)) := fl_ck (1 : Int32) 126 (if (nw (1 : Int32).toNatClampNeg) ≤ z11.2.2.1 then some (.inr (z11.1, rf, z11.2.2.2.1, z11.2.2.2.2.1, z11.2.2.2.2.2.1, z11.2.2.2.2.2.2.1, z11.2.2.2.2.2.2.2.1, z11.2.2.2.2.2.2.2.2)) else fl_bd (P_M_begin nw z11.2.2.2.1) (fun q1 => fl_bd (P_M_againIn z11.2.2.2.2.1 z11.2.2.2.2.2.1 z11.2.2.2.2.2.2.1 z11.2.2.2.2.2.2.2.1 z11.2.2.2.2.2.2.2.2 q1 z11.2.2.1) (fun q2 => fl_bd (P_M_pieces q2.2.1 q2.2.2.1 q2.2.2.2.2.2.2) (fun q3 => if z11.1 = (-1 : Int32) then P_M_bestAgain_J56 rf nw q2.2.2.2.2.2.2 q3.2.1 q3.2.2 q2.2.2.2.1 q2.2.2.2.2.1 q2.2.2.2.2.2.1 z11.2.2.1 q3.1 else if q3.1 ≤ z11.2.1 then P_M_bestAgain_J61 rf nw q2.2.2.2.2.2.2 q3.2.1 q3.2.2 q2.2.2.2.1 q2.2.2.2.2.1 q2.2.2.2.2.2.1 z11.1 z11.2.1 z11.2.2.1 else P_M_bestAgain_J56 rf nw q2.2.2.2.2.2.2 q3.2.1 q3.2.2 q2.2.2.2.1 q2.2.2.2.2.1 q2.2.2.2.2.2.1 z11.2.2.1 q3.1))))
noncomputable def P_M_bestAgain (rf : Int32) (nw : fl_A) (tr : fl_A) (od : fl_A) (rk : fl_A) (be : fl_A) (fr : fl_A) (fs : Int32) : Option (Int32 × Int32 × fl_A × fl_A × fl_A × fl_A × fl_A × Int32) := fl_loop (P_M_bestAgain_L11 (0 : Int32) nw) ((-1 : Int32), (0 : Int32), (0 : Int32), tr, od, rk, be, fr, fs)
set_option maxHeartbeats 4000000 in
set_option maxRecDepth 100000 in
theorem c_M_bestAgain (l : Launch) (G : fl_G) (mo a_sc a_nw a_tr a_di a_ke a_ik a_od a_rk a_be a_fr : Nat) (ss : Int32) (ac : Int32) (rf : Int32) (nw : fl_A) (tr : fl_A) (od : fl_A) (rk : fl_A) (be : fl_A) (fr : fl_A) (fs : Int32) {r : (Int32 × Int32 × fl_A × fl_A × fl_A × fl_A × fl_A × Int32)} (hp0 : P_M_bestAgain rf nw tr od rk be fr fs = some r) : fl_mu l yX6_bestAgain wsX6_bestAgain 6 140 G [.ref mo] [(mo, .inr (6, [.int rf, .ref a_sc, .int ss, .ref a_nw, .ref a_tr, .ref a_di, .int ac, .ref a_ke, .ref a_ik, .ref a_od, .ref a_rk, .ref a_be, .ref a_fr, .int fs])), (a_nw, .inl (G.2.1, 126, .inl nw)), (a_tr, .inl (G.2.1, 126, .inl tr)), (a_od, .inl (G.2.1, 60, .inl od)), (a_rk, .inl (G.2.1, 60, .inl rk)), (a_be, .inl (G.2.1, 60, .inl be)), (a_fr, .inl (G.2.1, 12, .inl fr))] (some (.int r.1)) [(mo, .inr (6, [.int r.2.1, .ref a_sc, .int ss, .ref a_nw, .ref a_tr, .ref a_di, .int ac, .ref a_ke, .ref a_ik, .ref a_od, .ref a_rk, .ref a_be, .ref a_fr, .int r.2.2.2.2.2.2.2])), (a_nw, .inl (G.2.1, 126, .inl nw)), (a_tr, .inl (G.2.1, 126, .inl r.2.2.1)), (a_od, .inl (G.2.1, 60, .inl r.2.2.2.1)), (a_rk, .inl (G.2.1, 60, .inl r.2.2.2.2.1)), (a_be, .inl (G.2.1, 60, .inl r.2.2.2.2.2.1)), (a_fr, .inl (G.2.1, 12, .inl r.2.2.2.2.2.2.1))] := by
  refine fl_mui_in cX6_bestAgain 5 .int RX6 (by decide) rfl rfl (Nat.le_of_ble_eq_true rfl) ?_
  intro p e s m args below meth c ls A Q H locs C0 hK hP hD hS hA hl hfin
  obtain ⟨hx, hb, hml, hown, hts⟩ := id C0
  have iX6 : ∀ w ∈ u_ws RX6 TX6 14, w ∈ wsX6_bestAgain := fun _ h => List.mem_cons_of_mem _ (List.mem_append_right _ h)
  have hl : lv_has ls 5 [(0, .ref mo)] := hl
  have KL11 : ∀ (rf : Int32) (n0 : Nat) (z11 : (Int32 × Int32 × Int32 × fl_A × fl_A × fl_A × fl_A × fl_A × Int32)) (H : Heap) (locs : List Loc), va_P G.1 vwCl [(mo, .inr (6, [.int rf, .ref a_sc, .int ss, .ref a_nw, .ref a_tr, .ref a_di, .int ac, .ref a_ke, .ref a_ik, .ref a_od, .ref a_rk, .ref a_be, .ref a_fr, .int z11.2.2.2.2.2.2.2.2])), (a_nw, .inl (G.2.1, 126, .inl nw)), (a_tr, .inl (G.2.1, 126, .inl z11.2.2.2.1)), (a_od, .inl (G.2.1, 60, .inl z11.2.2.2.2.1)), (a_rk, .inl (G.2.1, 60, .inl z11.2.2.2.2.2.1)), (a_be, .inl (G.2.1, 60, .inl z11.2.2.2.2.2.2.1)), (a_fr, .inl (G.2.1, 12, .inl z11.2.2.2.2.2.2.2.1))] H → va_D A [(mo, .inr (6, [.int rf, .ref a_sc, .int ss, .ref a_nw, .ref a_tr, .ref a_di, .int ac, .ref a_ke, .ref a_ik, .ref a_od, .ref a_rk, .ref a_be, .ref a_fr, .int z11.2.2.2.2.2.2.2.2])), (a_nw, .inl (G.2.1, 126, .inl nw)), (a_tr, .inl (G.2.1, 126, .inl z11.2.2.2.1)), (a_od, .inl (G.2.1, 60, .inl z11.2.2.2.2.1)), (a_rk, .inl (G.2.1, 60, .inl z11.2.2.2.2.2.1)), (a_be, .inl (G.2.1, 60, .inl z11.2.2.2.2.2.2.1)), (a_fr, .inl (G.2.1, 12, .inl z11.2.2.2.2.2.2.2.1))] → va_S A s.heap H locs → ∀ (ls : Array Slot), lv_has ls 5 [(0, .ref mo), (1, .int z11.1), (2, .int z11.2.1), (3, .int z11.2.2.1)] → fl_loopN (P_M_bestAgain_L11 rf nw) n0 z11 = some r → W p l e (fl_rm 6 140) s m args below meth c H locs 0 0 Q (F0 m 11 ls []) := by
    intro rf n0
    induction n0 with
    | zero => intro z11 H locs hP hD hS ls hl hn; exact (fl_loopN_0 hn).elim
    | succ n0 ih11 =>
      intro z11 H locs hP hD hS ls hl hn
      obtain ⟨y11, hb11, hy11⟩ := fl_loopN_step hn
      clear hn
      have KJ61 : ∀ (tr : fl_A) (od : fl_A) (rk : fl_A) (be : fl_A) (fr : fl_A) (fs : Int32) (v1 : Int32) (v2 : Int32) (v3 : Int32) (H : Heap) (locs : List Loc), va_P G.1 vwCl [(mo, .inr (6, [.int rf, .ref a_sc, .int ss, .ref a_nw, .ref a_tr, .ref a_di, .int ac, .ref a_ke, .ref a_ik, .ref a_od, .ref a_rk, .ref a_be, .ref a_fr, .int fs])), (a_nw, .inl (G.2.1, 126, .inl nw)), (a_tr, .inl (G.2.1, 126, .inl tr)), (a_od, .inl (G.2.1, 60, .inl od)), (a_rk, .inl (G.2.1, 60, .inl rk)), (a_be, .inl (G.2.1, 60, .inl be)), (a_fr, .inl (G.2.1, 12, .inl fr))] H → va_D A [(mo, .inr (6, [.int rf, .ref a_sc, .int ss, .ref a_nw, .ref a_tr, .ref a_di, .int ac, .ref a_ke, .ref a_ik, .ref a_od, .ref a_rk, .ref a_be, .ref a_fr, .int fs])), (a_nw, .inl (G.2.1, 126, .inl nw)), (a_tr, .inl (G.2.1, 126, .inl tr)), (a_od, .inl (G.2.1, 60, .inl od)), (a_rk, .inl (G.2.1, 60, .inl rk)), (a_be, .inl (G.2.1, 60, .inl be)), (a_fr, .inl (G.2.1, 12, .inl fr))] → va_S A s.heap H locs → ∀ (ls : Array Slot), lv_has ls 5 [(0, .ref mo), (1, .int v1), (2, .int v2), (3, .int v3)] → P_M_bestAgain_J61 rf nw tr od rk be fr fs v1 v2 v3 = some y11 → W p l e (fl_rm 6 140) s m args below meth c H locs 0 0 Q (F0 m 61 ls []) := by
        intro tr od rk be fr fs v1 v2 v3 H locs hP hD hS ls hl hp
        unfold P_M_bestAgain_J61 at hp
        refine lv_iinc (v := (v3 + (1 : Int32))) (lv' := [(3, .int (v3 + (1 : Int32))), (0, .ref mo), (1, .int v1), (2, .int v2)]) hx hb dX6_bestAgain_61 hl (k := 3) rfl rfl (by decide) rfl (fun ls hl => ?_)
        refine lv_goto (tgt := 11) hx hb dX6_bestAgain_64 (by decide) ?_
        obtain rfl := Option.some.inj hp
        exact ih11 (v1, v2, (v3 + (1 : Int32)), tr, od, rk, be, fr, fs) H locs hP hD hS ls (lv_sub hl [1, 2, 3, 0] rfl) (fl_cont_inl hy11)
      have KJ56 : ∀ (tr : fl_A) (od : fl_A) (rk : fl_A) (be : fl_A) (fr : fl_A) (fs : Int32) (v3 : Int32) (v4 : Int32) (H : Heap) (locs : List Loc), va_P G.1 vwCl [(mo, .inr (6, [.int rf, .ref a_sc, .int ss, .ref a_nw, .ref a_tr, .ref a_di, .int ac, .ref a_ke, .ref a_ik, .ref a_od, .ref a_rk, .ref a_be, .ref a_fr, .int fs])), (a_nw, .inl (G.2.1, 126, .inl nw)), (a_tr, .inl (G.2.1, 126, .inl tr)), (a_od, .inl (G.2.1, 60, .inl od)), (a_rk, .inl (G.2.1, 60, .inl rk)), (a_be, .inl (G.2.1, 60, .inl be)), (a_fr, .inl (G.2.1, 12, .inl fr))] H → va_D A [(mo, .inr (6, [.int rf, .ref a_sc, .int ss, .ref a_nw, .ref a_tr, .ref a_di, .int ac, .ref a_ke, .ref a_ik, .ref a_od, .ref a_rk, .ref a_be, .ref a_fr, .int fs])), (a_nw, .inl (G.2.1, 126, .inl nw)), (a_tr, .inl (G.2.1, 126, .inl tr)), (a_od, .inl (G.2.1, 60, .inl od)), (a_rk, .inl (G.2.1, 60, .inl rk)), (a_be, .inl (G.2.1, 60, .inl be)), (a_fr, .inl (G.2.1, 12, .inl fr))] → va_S A s.heap H locs → ∀ (ls : Array Slot), lv_has ls 5 [(0, .ref mo), (3, .int v3), (4, .int v4)] → P_M_bestAgain_J56 rf nw tr od rk be fr fs v3 v4 = some y11 → W p l e (fl_rm 6 140) s m args below meth c H locs 0 0 Q (F0 m 56 ls []) := by
        intro tr od rk be fr fs v3 v4 H locs hP hD hS ls hl hp
        unfold P_M_bestAgain_J56 at hp
        refine lv_iload_n hx hb dX6_bestAgain_56 rfl (lv_at hl 1 rfl) ?_
        refine lv_istore_n (lv' := [(1, .int v3), (0, .ref mo), (3, .int v3), (4, .int v4)]) hx hb dX6_bestAgain_57 rfl hl (by decide) rfl (fun ls hl => ?_)
        refine lv_iload hx hb dX6_bestAgain_58 (lv_at hl 3 rfl) ?_
        refine lv_istore_n (lv' := [(2, .int v4), (1, .int v3), (0, .ref mo), (3, .int v3), (4, .int v4)]) hx hb dX6_bestAgain_60 rfl hl (by decide) rfl (fun ls hl => ?_)
        exact KJ61 tr od rk be fr fs v3 v4 v3 H locs hP hD hS ls (lv_sub hl [2, 1, 0, 3] rfl) hp
      have hp := hb11
      unfold P_M_bestAgain_L11 at hp
      refine lv_iload_n hx hb dX6_bestAgain_11 rfl (lv_at hl 3 rfl) ?_
      refine lv_aload_n hx hb dX6_bestAgain_12 rfl (lv_at hl 0 rfl) ?_
      refine va_get (D := G.1) (ci := 6) (v := .ref a_nw) (C := RX6) (T := TX6) (N := 14) hx hb hts iX6 hown hK.1 hP 0 rfl rfl 3 (by decide) (hts (.fieldLink RX6 13 "SongChoirModel" "now" "[I") (List.mem_of_getElem? (i := 2) rfl)) (fun _ h9 => h9) rfl dX6_bestAgain_13 ?_
      refine lv_iconst (v := (1 : Int32)) hx hb dX6_bestAgain_16 (by decide) ?_
      obtain ⟨hi, hp⟩ := fl_ck_of hp
      refine va_iald hx hb hK.1 hP 1 0 rfl rfl hi dX6_bestAgain_17 ?_
      refine lv_icmp_ge (tgt := 67) hx hb dX6_bestAgain_18 (by decide) (fun hc => ?_) (fun hc => ?_)
      · replace hp := fl_t hc hp
        refine lv_iload_n hx hb dX6_bestAgain_67 rfl (lv_at hl 1 rfl) ?_
        obtain rfl := Option.some.inj hp
        obtain rfl := fl_cont_inr hy11
        exact hfin H locs _ ls hP hD hS dX6_bestAgain_68 rfl
      · replace hp := fl_f hc hp
        refine lv_aload_n hx hb dX6_bestAgain_21 rfl (lv_at hl 0 rfl) ?_
        obtain ⟨q1, hq1, hp⟩ := fl_bd_of hp
        refine fl_muV (As := []) (rest := []) [(mo, .inr (6, [.int rf, .ref a_sc, .int ss, .ref a_nw, .ref a_tr, .ref a_di, .int ac, .ref a_ke, .ref a_ik, .ref a_od, .ref a_rk, .ref a_be, .ref a_fr, .int z11.2.2.2.2.2.2.2.2])), (a_nw, .inl (G.2.1, 126, .inl nw)), (a_tr, .inl (G.2.1, 126, .inl q1)), (a_od, .inl (G.2.1, 60, .inl z11.2.2.2.2.1)), (a_rk, .inl (G.2.1, 60, .inl z11.2.2.2.2.2.1)), (a_be, .inl (G.2.1, 60, .inl z11.2.2.2.2.2.2.1)), (a_fr, .inl (G.2.1, 12, .inl z11.2.2.2.2.2.2.2.1))] C0 (c_M_begin l G mo a_sc a_nw a_tr a_di a_ke a_ik a_od a_rk a_be a_fr rf ss ac z11.2.2.2.2.2.2.2.2 nw z11.2.2.2.1 hq1) (cwV 0 hts gX6_bestAgain_X6_begin rfl rfl rfl (by decide +kernel) ⟨Nat.le_of_ble_eq_true rfl, Nat.le_of_ble_eq_true rfl⟩) hK hP hD [0, 1, 2] [3, 4, 5, 6] [4, 5, 6, 0, 1, 2, 3] rfl rfl (by decide) (by decide) rfl 0 6 rfl rfl rfl hS hA rfl hl.1 rfl (Nat.le_of_ble_eq_true rfl) dX6_bestAgain_22 ⟨Nat.zero_le _, Nat.zero_le _⟩ (fun H locs hP hD hS => ?_)
        refine lv_aload_n hx hb dX6_bestAgain_25 rfl (lv_at hl 0 rfl) ?_
        refine lv_aload_n hx hb dX6_bestAgain_26 rfl (lv_at hl 0 rfl) ?_
        refine va_get (D := G.1) (ci := 6) (v := .ref a_tr) (C := RX6) (T := TX6) (N := 14) hx hb hts iX6 hown hK.1 hP 0 rfl rfl 4 (by decide) (hts (.fieldLink RX6 16 "SongChoirModel" "trial" "[I") (List.mem_of_getElem? (i := 3) rfl)) (fun _ h9 => h9) rfl dX6_bestAgain_27 ?_
        refine lv_iload_n hx hb dX6_bestAgain_30 rfl (lv_at hl 3 rfl) ?_
        obtain ⟨q2, hq2, hp⟩ := fl_bd_of hp
        refine fl_muV (As := [.ref a_tr, .int z11.2.2.1]) (rest := []) [(mo, .inr (6, [.int rf, .ref a_sc, .int ss, .ref a_nw, .ref a_tr, .ref a_di, .int ac, .ref a_ke, .ref a_ik, .ref a_od, .ref a_rk, .ref a_be, .ref a_fr, .int q2.2.2.2.2.2.1])), (a_nw, .inl (G.2.1, 126, .inl nw)), (a_tr, .inl (G.2.1, 126, .inl q2.2.2.2.2.2.2)), (a_od, .inl (G.2.1, 60, .inl q2.2.1)), (a_rk, .inl (G.2.1, 60, .inl q2.2.2.1)), (a_be, .inl (G.2.1, 60, .inl q2.2.2.2.1)), (a_fr, .inl (G.2.1, 12, .inl q2.2.2.2.2.1))] C0 (c_M_againIn l G mo a_sc a_nw a_tr a_di a_ke a_ik a_od a_rk a_be a_fr a_tr rf ss ac z11.2.2.2.2.1 z11.2.2.2.2.2.1 z11.2.2.2.2.2.2.1 z11.2.2.2.2.2.2.2.1 z11.2.2.2.2.2.2.2.2 q1 z11.2.2.1 hq2) (cwV 2 hts gX6_bestAgain_X6_againIn rfl rfl rfl (by decide +kernel) ⟨Nat.le_of_ble_eq_true rfl, Nat.le_of_ble_eq_true rfl⟩) hK hP hD [0, 3, 4, 5, 6, 2] [1] [1, 0, 6, 2, 3, 4, 5] rfl rfl (by decide) (by decide) rfl 0 6 rfl rfl rfl hS hA rfl hl.1 rfl (Nat.le_of_ble_eq_true rfl) dX6_bestAgain_31 ⟨Nat.zero_le _, Nat.zero_le _⟩ (fun H locs hP hD hS => ?_)
        refine lv_pop hx hb dX6_bestAgain_34 rfl ?_
        refine lv_aload_n hx hb dX6_bestAgain_35 rfl (lv_at hl 0 rfl) ?_
        refine lv_aload_n hx hb dX6_bestAgain_36 rfl (lv_at hl 0 rfl) ?_
        refine va_get (D := G.1) (ci := 6) (v := .ref a_tr) (C := RX6) (T := TX6) (N := 14) hx hb hts iX6 hown hK.1 hP 0 rfl rfl 4 (by decide) (hts (.fieldLink RX6 16 "SongChoirModel" "trial" "[I") (List.mem_of_getElem? (i := 3) rfl)) (fun _ h9 => h9) rfl dX6_bestAgain_37 ?_
        obtain ⟨q3, hq3, hp⟩ := fl_bd_of hp
        refine fl_muV (As := [.ref a_tr]) (rest := []) [(mo, .inr (6, [.int rf, .ref a_sc, .int ss, .ref a_nw, .ref a_tr, .ref a_di, .int ac, .ref a_ke, .ref a_ik, .ref a_od, .ref a_rk, .ref a_be, .ref a_fr, .int q2.2.2.2.2.2.1])), (a_nw, .inl (G.2.1, 126, .inl nw)), (a_tr, .inl (G.2.1, 126, .inl q2.2.2.2.2.2.2)), (a_od, .inl (G.2.1, 60, .inl q3.2.1)), (a_rk, .inl (G.2.1, 60, .inl q3.2.2)), (a_be, .inl (G.2.1, 60, .inl q2.2.2.2.1)), (a_fr, .inl (G.2.1, 12, .inl q2.2.2.2.2.1))] C0 (c_M_pieces l G mo a_sc a_nw a_tr a_di a_ke a_ik a_od a_rk a_be a_fr a_tr rf ss ac q2.2.2.2.2.2.1 q2.2.1 q2.2.2.1 q2.2.2.2.2.2.2 hq3) (cwV 1 hts gX6_bestAgain_X6_pieces rfl rfl rfl (by decide +kernel) ⟨Nat.le_of_ble_eq_true rfl, Nat.le_of_ble_eq_true rfl⟩) hK hP hD [0, 3, 4, 2] [1, 5, 6] [3, 0, 6, 4, 5, 1, 2] rfl rfl (by decide) (by decide) rfl 0 6 rfl rfl rfl hS hA rfl hl.1 rfl (Nat.le_of_ble_eq_true rfl) dX6_bestAgain_40 ⟨Nat.zero_le _, Nat.zero_le _⟩ (fun H locs hP hD hS => ?_)
        refine lv_istore (lv' := [(4, .int q3.1), (0, .ref mo), (1, .int z11.1), (2, .int z11.2.1), (3, .int z11.2.2.1)]) hx hb dX6_bestAgain_43 hl (by decide) rfl (fun ls hl => ?_)
        refine lv_iload_n hx hb dX6_bestAgain_45 rfl (lv_at hl 2 rfl) ?_
        refine lv_iconst (v := (-1 : Int32)) hx hb dX6_bestAgain_46 (by decide) ?_
        refine lv_icmp_eq (tgt := 56) hx hb dX6_bestAgain_47 (by decide) (fun hc => ?_) (fun hc => ?_)
        · replace hp := fl_t hc hp
          exact KJ56 q2.2.2.2.2.2.2 q3.2.1 q3.2.2 q2.2.2.2.1 q2.2.2.2.2.1 q2.2.2.2.2.2.1 z11.2.2.1 q3.1 H locs hP hD hS ls (lv_sub hl [1, 4, 0] rfl) hp
        · replace hp := fl_f hc hp
          refine lv_iload hx hb dX6_bestAgain_50 (lv_at hl 0 rfl) ?_
          refine lv_iload_n hx hb dX6_bestAgain_52 rfl (lv_at hl 3 rfl) ?_
          refine lv_icmp_le (tgt := 61) hx hb dX6_bestAgain_53 (by decide) (fun hc => ?_) (fun hc => ?_)
          · replace hp := fl_t hc hp
            exact KJ61 q2.2.2.2.2.2.2 q3.2.1 q3.2.2 q2.2.2.2.1 q2.2.2.2.2.1 q2.2.2.2.2.2.1 z11.1 z11.2.1 z11.2.2.1 H locs hP hD hS ls (lv_sub hl [1, 2, 3, 4] rfl) hp
          · replace hp := fl_f hc hp
            exact KJ56 q2.2.2.2.2.2.2 q3.2.1 q3.2.2 q2.2.2.2.1 q2.2.2.2.2.1 q2.2.2.2.2.2.1 z11.2.2.1 q3.1 H locs hP hD hS ls (lv_sub hl [1, 4, 0] rfl) hp
  have hp := hp0
  unfold P_M_bestAgain at hp
  refine lv_aload_n hx hb dX6_bestAgain_0 rfl (lv_at hl 0 rfl) ?_
  refine lv_iconst (v := (0 : Int32)) hx hb dX6_bestAgain_1 (by decide) ?_
  refine va_put (D := G.1) (ci := 6) (v := .int (0 : Int32)) (ty := .int) (C := RX6) (T := TX6) (N := 14) hx hb hts iX6 tyX6 tyX6_ok nmX6 hown hK.1 hP hD hS 0 rfl rfl 0 (by decide) (hts (.fieldLink RX6 41 "SongChoirModel" "refusal" "I") (List.mem_of_getElem? (i := 1) rfl)) (fun _ h9 => h9) rfl (by decide +kernel) rfl rfl (Nat.le_of_ble_eq_true rfl) dX6_bestAgain_2 (fun H locs hP hD hS => ?_)
  have hP : va_P G.1 vwCl [(mo, .inr (6, [.int (0 : Int32), .ref a_sc, .int ss, .ref a_nw, .ref a_tr, .ref a_di, .int ac, .ref a_ke, .ref a_ik, .ref a_od, .ref a_rk, .ref a_be, .ref a_fr, .int fs])), (a_nw, .inl (G.2.1, 126, .inl nw)), (a_tr, .inl (G.2.1, 126, .inl tr)), (a_od, .inl (G.2.1, 60, .inl od)), (a_rk, .inl (G.2.1, 60, .inl rk)), (a_be, .inl (G.2.1, 60, .inl be)), (a_fr, .inl (G.2.1, 12, .inl fr))] H := hP
  have hD : va_D A [(mo, .inr (6, [.int (0 : Int32), .ref a_sc, .int ss, .ref a_nw, .ref a_tr, .ref a_di, .int ac, .ref a_ke, .ref a_ik, .ref a_od, .ref a_rk, .ref a_be, .ref a_fr, .int fs])), (a_nw, .inl (G.2.1, 126, .inl nw)), (a_tr, .inl (G.2.1, 126, .inl tr)), (a_od, .inl (G.2.1, 60, .inl od)), (a_rk, .inl (G.2.1, 60, .inl rk)), (a_be, .inl (G.2.1, 60, .inl be)), (a_fr, .inl (G.2.1, 12, .inl fr))] := hD
  refine lv_iconst (v := (-1 : Int32)) hx hb dX6_bestAgain_5 (by decide) ?_
  refine lv_istore_n (lv' := [(1, .int (-1 : Int32)), (0, .ref mo)]) hx hb dX6_bestAgain_6 rfl hl (by decide) rfl (fun ls hl => ?_)
  refine lv_iconst (v := (0 : Int32)) hx hb dX6_bestAgain_7 (by decide) ?_
  refine lv_istore_n (lv' := [(2, .int (0 : Int32)), (1, .int (-1 : Int32)), (0, .ref mo)]) hx hb dX6_bestAgain_8 rfl hl (by decide) rfl (fun ls hl => ?_)
  refine lv_iconst (v := (0 : Int32)) hx hb dX6_bestAgain_9 (by decide) ?_
  refine lv_istore_n (lv' := [(3, .int (0 : Int32)), (2, .int (0 : Int32)), (1, .int (-1 : Int32)), (0, .ref mo)]) hx hb dX6_bestAgain_10 rfl hl (by decide) rfl (fun ls hl => ?_)
  obtain ⟨n0, hn⟩ := fl_loop_ex hp
  exact KL11 (0 : Int32) n0 ((-1 : Int32), (0 : Int32), (0 : Int32), tr, od, rk, be, fr, fs) H locs hP hD hS ls (lv_sub hl [3, 2, 1, 0] rfl) hn

noncomputable def P_M_takeDigits_J118 (fr : fl_A) (fs : Int32) (v2 : Int32) (v3 : Int32) (v4 : Int32) (v5 : Int32) (v6 : Int32) : Option ((Int32 × Int32 × Int32 × Int32 × fl_A × Int32) ⊕ (Int32 × fl_A × Int32)) := some (.inl (v2, v3, (v5 / (10 : Int32)), (v6 + (1 : Int32)), fr, fs))
noncomputable def P_M_takeDigits_J87 (fr : fl_A) (fs : Int32) (v3 : Int32) (v4 : Int32) (v5 : Int32) (v6 : Int32) (v7 : Int32) (k0 : Int32) : Option ((Int32 × Int32 × Int32 × Int32 × fl_A × Int32) ⊕ (Int32 × fl_A × Int32)) := if v3 = 0 then fl_ck fs 12 (P_M_takeDigits_J118 (upd fr fs.toNatClampNeg (((97 : Int32) + v7) - (1 : Int32))) (fs + (1 : Int32)) k0 v3 v4 v5 v6) else P_M_takeDigits_J118 fr fs k0 v3 v4 v5 v6
noncomputable def P_M_takeDigits_J86 (fr : fl_A) (fs : Int32) (v3 : Int32) (v4 : Int32) (v5 : Int32) (v6 : Int32) (v7 : Int32) : Option ((Int32 × Int32 × Int32 × Int32 × fl_A × Int32) ⊕ (Int32 × fl_A × Int32)) := P_M_takeDigits_J87 fr fs v3 v4 v5 v6 v7 (0 : Int32)
noncomputable def P_M_takeDigits_J82 (fr : fl_A) (fs : Int32) (v3 : Int32) (v4 : Int32) (v5 : Int32) (v6 : Int32) (v7 : Int32) : Option ((Int32 × Int32 × Int32 × Int32 × fl_A × Int32) ⊕ (Int32 × fl_A × Int32)) := P_M_takeDigits_J87 fr fs v3 v4 v5 v6 v7 (1 : Int32)
noncomputable def P_M_takeDigits_J61 (fr : fl_A) (fs : Int32) (v2 : Int32) (v4 : Int32) (v5 : Int32) (v6 : Int32) (v7 : Int32) (k0 : Int32) : Option ((Int32 × Int32 × Int32 × Int32 × fl_A × Int32) ⊕ (Int32 × fl_A × Int32)) := if v2 = 0 then P_M_takeDigits_J86 fr fs k0 v4 v5 v6 v7 else if (9 : Int32) ≤ v7 then P_M_takeDigits_J86 fr fs k0 v4 v5 v6 v7 else if k0 = 0 then P_M_takeDigits_J82 fr fs k0 v4 v5 v6 v7 else if v7 = 0 then P_M_takeDigits_J82 fr fs k0 v4 v5 v6 v7 else P_M_takeDigits_J86 fr fs k0 v4 v5 v6 v7
noncomputable def P_M_takeDigits_J56 (fr : fl_A) (fs : Int32) (v2 : Int32) (v4 : Int32) (v5 : Int32) (v6 : Int32) (v7 : Int32) : Option ((Int32 × Int32 × Int32 × Int32 × fl_A × Int32) ⊕ (Int32 × fl_A × Int32)) := P_M_takeDigits_J61 fr fs v2 v4 v5 v6 v7 (1 : Int32)
noncomputable def P_M_takeDigits_L31 (v4 : Int32) (z31 : (Int32 × Int32 × Int32 × Int32 × fl_A × Int32)) : Option ((Int32 × Int32 × Int32 × Int32 × fl_A × Int32) ⊕ (Int32 × fl_A × Int32)) := if (4 : Int32) ≤ z31.2.2.2.1 then fl_bl z31.1 (some (.inr (z31.1, z31.2.2.2.2.1, z31.2.2.2.2.2))) else fl_nz z31.2.2.1 (if z31.2.1 = 0 then if ((v4 / z31.2.2.1) - (v4 / z31.2.2.1) / (10 : Int32) * (10 : Int32)) = 0 then P_M_takeDigits_J56 z31.2.2.2.2.1 z31.2.2.2.2.2 z31.1 v4 z31.2.2.1 z31.2.2.2.1 ((v4 / z31.2.2.1) - (v4 / z31.2.2.1) / (10 : Int32) * (10 : Int32)) else P_M_takeDigits_J61 z31.2.2.2.2.1 z31.2.2.2.2.2 z31.1 v4 z31.2.2.1 z31.2.2.2.1 ((v4 / z31.2.2.1) - (v4 / z31.2.2.1) / (10 : Int32) * (10 : Int32)) (0 : Int32) else P_M_takeDigits_J56 z31.2.2.2.2.1 z31.2.2.2.2.2 z31.1 v4 z31.2.2.1 z31.2.2.2.1 ((v4 / z31.2.2.1) - (v4 / z31.2.2.1) / (10 : Int32) * (10 : Int32)))
noncomputable def P_M_takeDigits_J17 (fr : fl_A) (fs : Int32) (p0 : Int32) (k0 : Int32) : Option (Int32 × fl_A × Int32) := fl_loop (P_M_takeDigits_L31 p0) (k0, (0 : Int32), (1000 : Int32), (0 : Int32), fr, fs)
noncomputable def P_M_takeDigits (fr : fl_A) (fs : Int32) (p0 : Int32) : Option (Int32 × fl_A × Int32) := if p0 ≤ (999 : Int32) then P_M_takeDigits_J17 fr (0 : Int32) p0 (0 : Int32) else P_M_takeDigits_J17 fr (0 : Int32) p0 (1 : Int32)
set_option maxHeartbeats 4000000 in
set_option maxRecDepth 100000 in
theorem c_M_takeDigits (l : Launch) (G : fl_G) (mo a_sc a_nw a_tr a_di a_ke a_ik a_od a_rk a_be a_fr : Nat) (rf : Int32) (ss : Int32) (ac : Int32) (fr : fl_A) (fs : Int32) (p0 : Int32) {r : (Int32 × fl_A × Int32)} (hp0 : P_M_takeDigits fr fs p0 = some r) : fl_mu l yX6_takeDigits wsX6_takeDigits 0 0 G [.ref mo, .int p0] [(mo, .inr (6, [.int rf, .ref a_sc, .int ss, .ref a_nw, .ref a_tr, .ref a_di, .int ac, .ref a_ke, .ref a_ik, .ref a_od, .ref a_rk, .ref a_be, .ref a_fr, .int fs])), (a_fr, .inl (G.2.1, 12, .inl fr))] (some (.int r.1)) [(mo, .inr (6, [.int rf, .ref a_sc, .int ss, .ref a_nw, .ref a_tr, .ref a_di, .int ac, .ref a_ke, .ref a_ik, .ref a_od, .ref a_rk, .ref a_be, .ref a_fr, .int r.2.2])), (a_fr, .inl (G.2.1, 12, .inl r.2.1))] := by
  refine fl_mui_in cX6_takeDigits 8 .boolean RX6 (by decide) rfl rfl (Nat.le_of_ble_eq_true rfl) ?_
  intro p e s m args below meth c ls A Q H locs C0 hK hP hD hS hA hl hfin
  obtain ⟨hx, hb, hml, hown, hts⟩ := id C0
  have iX6 : ∀ w ∈ u_ws RX6 TX6 14, w ∈ wsX6_takeDigits := fun _ h => List.mem_cons_of_mem _ (List.mem_append_right _ h)
  have hl : lv_has ls 8 [(0, .ref mo), (1, .int p0)] := hl
  have KL31 : ∀ (v4 : Int32) (n0 : Nat) (z31 : (Int32 × Int32 × Int32 × Int32 × fl_A × Int32)) (H : Heap) (locs : List Loc), va_P G.1 vwCl [(mo, .inr (6, [.int rf, .ref a_sc, .int ss, .ref a_nw, .ref a_tr, .ref a_di, .int ac, .ref a_ke, .ref a_ik, .ref a_od, .ref a_rk, .ref a_be, .ref a_fr, .int z31.2.2.2.2.2])), (a_fr, .inl (G.2.1, 12, .inl z31.2.2.2.2.1))] H → va_D A [(mo, .inr (6, [.int rf, .ref a_sc, .int ss, .ref a_nw, .ref a_tr, .ref a_di, .int ac, .ref a_ke, .ref a_ik, .ref a_od, .ref a_rk, .ref a_be, .ref a_fr, .int z31.2.2.2.2.2])), (a_fr, .inl (G.2.1, 12, .inl z31.2.2.2.2.1))] → va_S A s.heap H locs → ∀ (ls : Array Slot), lv_has ls 8 [(0, .ref mo), (2, .int z31.1), (3, .int z31.2.1), (4, .int v4), (5, .int z31.2.2.1), (6, .int z31.2.2.2.1)] → fl_loopN (P_M_takeDigits_L31 v4) n0 z31 = some r → W p l e (fl_rm 0 0) s m args below meth c H locs 0 0 Q (F0 m 31 ls []) := by
    intro v4 n0
    induction n0 with
    | zero => intro z31 H locs hP hD hS ls hl hn; exact (fl_loopN_0 hn).elim
    | succ n0 ih31 =>
      intro z31 H locs hP hD hS ls hl hn
      obtain ⟨y31, hb31, hy31⟩ := fl_loopN_step hn
      clear hn
      have KJ118 : ∀ (fr : fl_A) (fs : Int32) (v2 : Int32) (v3 : Int32) (v5 : Int32) (v6 : Int32) (H : Heap) (locs : List Loc), va_P G.1 vwCl [(mo, .inr (6, [.int rf, .ref a_sc, .int ss, .ref a_nw, .ref a_tr, .ref a_di, .int ac, .ref a_ke, .ref a_ik, .ref a_od, .ref a_rk, .ref a_be, .ref a_fr, .int fs])), (a_fr, .inl (G.2.1, 12, .inl fr))] H → va_D A [(mo, .inr (6, [.int rf, .ref a_sc, .int ss, .ref a_nw, .ref a_tr, .ref a_di, .int ac, .ref a_ke, .ref a_ik, .ref a_od, .ref a_rk, .ref a_be, .ref a_fr, .int fs])), (a_fr, .inl (G.2.1, 12, .inl fr))] → va_S A s.heap H locs → ∀ (ls : Array Slot), lv_has ls 8 [(0, .ref mo), (2, .int v2), (3, .int v3), (4, .int v4), (5, .int v5), (6, .int v6)] → P_M_takeDigits_J118 fr fs v2 v3 v4 v5 v6 = some y31 → W p l e (fl_rm 0 0) s m args below meth c H locs 0 0 Q (F0 m 118 ls []) := by
        intro fr fs v2 v3 v5 v6 H locs hP hD hS ls hl hp
        unfold P_M_takeDigits_J118 at hp
        refine lv_iload hx hb dX6_takeDigits_118 (lv_at hl 4 rfl) ?_
        refine lv_bipush (v := (10 : Int32)) hx hb dX6_takeDigits_120 (by decide) ?_
        refine lv_idiv hx hb dX6_takeDigits_122 (by decide) ?_
        refine lv_istore (lv' := [(5, .int (v5 / (10 : Int32))), (0, .ref mo), (2, .int v2), (3, .int v3), (4, .int v4), (6, .int v6)]) hx hb dX6_takeDigits_123 hl (by decide) rfl (fun ls hl => ?_)
        refine lv_iinc (v := (v6 + (1 : Int32))) (lv' := [(6, .int (v6 + (1 : Int32))), (5, .int (v5 / (10 : Int32))), (0, .ref mo), (2, .int v2), (3, .int v3), (4, .int v4)]) hx hb dX6_takeDigits_125 hl (k := 5) rfl rfl (by decide) rfl (fun ls hl => ?_)
        refine lv_goto (tgt := 31) hx hb dX6_takeDigits_128 (by decide) ?_
        obtain rfl := Option.some.inj hp
        exact ih31 (v2, v3, (v5 / (10 : Int32)), (v6 + (1 : Int32)), fr, fs) H locs hP hD hS ls (lv_sub hl [2, 3, 4, 5, 1, 0] rfl) (fl_cont_inl hy31)
      have KJ87 : ∀ (fr : fl_A) (fs : Int32) (v3 : Int32) (v5 : Int32) (v6 : Int32) (v7 : Int32) (k0 : Int32) (H : Heap) (locs : List Loc), va_P G.1 vwCl [(mo, .inr (6, [.int rf, .ref a_sc, .int ss, .ref a_nw, .ref a_tr, .ref a_di, .int ac, .ref a_ke, .ref a_ik, .ref a_od, .ref a_rk, .ref a_be, .ref a_fr, .int fs])), (a_fr, .inl (G.2.1, 12, .inl fr))] H → va_D A [(mo, .inr (6, [.int rf, .ref a_sc, .int ss, .ref a_nw, .ref a_tr, .ref a_di, .int ac, .ref a_ke, .ref a_ik, .ref a_od, .ref a_rk, .ref a_be, .ref a_fr, .int fs])), (a_fr, .inl (G.2.1, 12, .inl fr))] → va_S A s.heap H locs → ∀ (ls : Array Slot), lv_has ls 8 [(0, .ref mo), (3, .int v3), (4, .int v4), (5, .int v5), (6, .int v6), (7, .int v7)] → P_M_takeDigits_J87 fr fs v3 v4 v5 v6 v7 k0 = some y31 → W p l e (fl_rm 0 0) s m args below meth c H locs 0 0 Q (F0 m 87 ls [.int k0]) := by
        intro fr fs v3 v5 v6 v7 k0 H locs hP hD hS ls hl hp
        unfold P_M_takeDigits_J87 at hp
        refine lv_istore_n (lv' := [(2, .int k0), (0, .ref mo), (3, .int v3), (4, .int v4), (5, .int v5), (6, .int v6), (7, .int v7)]) hx hb dX6_takeDigits_87 rfl hl (by decide) rfl (fun ls hl => ?_)
        refine lv_iload_n hx hb dX6_takeDigits_88 rfl (lv_at hl 2 rfl) ?_
        refine lv_if_ne (tgt := 118) hx hb dX6_takeDigits_89 (by decide) (fun hc => ?_) (fun hc => ?_)
        · replace hp := fl_f hc hp
          exact KJ118 fr fs k0 v3 v5 v6 H locs hP hD hS ls (lv_sub hl [1, 0, 2, 3, 4, 5] rfl) hp
        · replace hp := fl_t hc hp
          refine lv_aload_n hx hb dX6_takeDigits_92 rfl (lv_at hl 1 rfl) ?_
          refine va_get (D := G.1) (ci := 6) (v := .ref a_fr) (C := RX6) (T := TX6) (N := 14) hx hb hts iX6 hown hK.1 hP 0 rfl rfl 12 (by decide) (hts (.fieldLink RX6 38 "SongChoirModel" "fresh" "[I") (List.mem_of_getElem? (i := 2) rfl)) (fun _ h9 => h9) rfl dX6_takeDigits_93 ?_
          refine lv_aload_n hx hb dX6_takeDigits_96 rfl (lv_at hl 1 rfl) ?_
          refine va_get (D := G.1) (ci := 6) (v := .int fs) (C := RX6) (T := TX6) (N := 14) hx hb hts iX6 hown hK.1 hP 0 rfl rfl 13 (by decide) (hts (.fieldLink RX6 76 "SongChoirModel" "freshSize" "I") (List.mem_of_getElem? (i := 1) rfl)) (fun _ h9 => h9) rfl dX6_takeDigits_97 ?_
          refine lv_bipush (v := (97 : Int32)) hx hb dX6_takeDigits_100 (by decide) ?_
          refine lv_iload hx hb dX6_takeDigits_102 (lv_at hl 6 rfl) ?_
          refine lv_iadd hx hb dX6_takeDigits_104 ?_
          refine lv_iconst (v := (1 : Int32)) hx hb dX6_takeDigits_105 (by decide) ?_
          refine lv_isub hx hb dX6_takeDigits_106 ?_
          obtain ⟨hi, hp⟩ := fl_ck_of hp
          refine va_iast hx hb hK.1 hP hD hS 1 0 rfl rfl hi dX6_takeDigits_107 (fun H locs hP hD hS => ?_)
          have hP : va_P G.1 vwCl [(mo, .inr (6, [.int rf, .ref a_sc, .int ss, .ref a_nw, .ref a_tr, .ref a_di, .int ac, .ref a_ke, .ref a_ik, .ref a_od, .ref a_rk, .ref a_be, .ref a_fr, .int fs])), (a_fr, .inl (G.2.1, 12, .inl (upd fr fs.toNatClampNeg (((97 : Int32) + v7) - (1 : Int32)))))] H := hP
          have hD : va_D A [(mo, .inr (6, [.int rf, .ref a_sc, .int ss, .ref a_nw, .ref a_tr, .ref a_di, .int ac, .ref a_ke, .ref a_ik, .ref a_od, .ref a_rk, .ref a_be, .ref a_fr, .int fs])), (a_fr, .inl (G.2.1, 12, .inl (upd fr fs.toNatClampNeg (((97 : Int32) + v7) - (1 : Int32)))))] := hD
          refine lv_aload_n hx hb dX6_takeDigits_108 rfl (lv_at hl 1 rfl) ?_
          refine lv_dup hx hb dX6_takeDigits_109 rfl ?_
          refine va_get (D := G.1) (ci := 6) (v := .int fs) (C := RX6) (T := TX6) (N := 14) hx hb hts iX6 hown hK.1 hP 0 rfl rfl 13 (by decide) (hts (.fieldLink RX6 76 "SongChoirModel" "freshSize" "I") (List.mem_of_getElem? (i := 1) rfl)) (fun _ h9 => h9) rfl dX6_takeDigits_110 ?_
          refine lv_iconst (v := (1 : Int32)) hx hb dX6_takeDigits_113 (by decide) ?_
          refine lv_iadd hx hb dX6_takeDigits_114 ?_
          refine va_put (D := G.1) (ci := 6) (v := .int (fs + (1 : Int32))) (ty := .int) (C := RX6) (T := TX6) (N := 14) hx hb hts iX6 tyX6 tyX6_ok nmX6 hown hK.1 hP hD hS 0 rfl rfl 13 (by decide) (hts (.fieldLink RX6 76 "SongChoirModel" "freshSize" "I") (List.mem_of_getElem? (i := 1) rfl)) (fun _ h9 => h9) rfl (by decide +kernel) rfl rfl (Nat.le_of_ble_eq_true rfl) dX6_takeDigits_115 (fun H locs hP hD hS => ?_)
          have hP : va_P G.1 vwCl [(mo, .inr (6, [.int rf, .ref a_sc, .int ss, .ref a_nw, .ref a_tr, .ref a_di, .int ac, .ref a_ke, .ref a_ik, .ref a_od, .ref a_rk, .ref a_be, .ref a_fr, .int (fs + (1 : Int32))])), (a_fr, .inl (G.2.1, 12, .inl (upd fr fs.toNatClampNeg (((97 : Int32) + v7) - (1 : Int32)))))] H := hP
          have hD : va_D A [(mo, .inr (6, [.int rf, .ref a_sc, .int ss, .ref a_nw, .ref a_tr, .ref a_di, .int ac, .ref a_ke, .ref a_ik, .ref a_od, .ref a_rk, .ref a_be, .ref a_fr, .int (fs + (1 : Int32))])), (a_fr, .inl (G.2.1, 12, .inl (upd fr fs.toNatClampNeg (((97 : Int32) + v7) - (1 : Int32)))))] := hD
          exact KJ118 (upd fr fs.toNatClampNeg (((97 : Int32) + v7) - (1 : Int32))) (fs + (1 : Int32)) k0 v3 v5 v6 H locs hP hD hS ls (lv_sub hl [1, 0, 2, 3, 4, 5] rfl) hp
      have KJ86 : ∀ (fr : fl_A) (fs : Int32) (v3 : Int32) (v5 : Int32) (v6 : Int32) (v7 : Int32) (H : Heap) (locs : List Loc), va_P G.1 vwCl [(mo, .inr (6, [.int rf, .ref a_sc, .int ss, .ref a_nw, .ref a_tr, .ref a_di, .int ac, .ref a_ke, .ref a_ik, .ref a_od, .ref a_rk, .ref a_be, .ref a_fr, .int fs])), (a_fr, .inl (G.2.1, 12, .inl fr))] H → va_D A [(mo, .inr (6, [.int rf, .ref a_sc, .int ss, .ref a_nw, .ref a_tr, .ref a_di, .int ac, .ref a_ke, .ref a_ik, .ref a_od, .ref a_rk, .ref a_be, .ref a_fr, .int fs])), (a_fr, .inl (G.2.1, 12, .inl fr))] → va_S A s.heap H locs → ∀ (ls : Array Slot), lv_has ls 8 [(0, .ref mo), (3, .int v3), (4, .int v4), (5, .int v5), (6, .int v6), (7, .int v7)] → P_M_takeDigits_J86 fr fs v3 v4 v5 v6 v7 = some y31 → W p l e (fl_rm 0 0) s m args below meth c H locs 0 0 Q (F0 m 86 ls []) := by
        intro fr fs v3 v5 v6 v7 H locs hP hD hS ls hl hp
        unfold P_M_takeDigits_J86 at hp
        refine lv_iconst (v := (0 : Int32)) hx hb dX6_takeDigits_86 (by decide) ?_
        exact KJ87 fr fs v3 v5 v6 v7 (0 : Int32) H locs hP hD hS ls (lv_sub hl [0, 1, 2, 3, 4, 5] rfl) hp
      have KJ82 : ∀ (fr : fl_A) (fs : Int32) (v3 : Int32) (v5 : Int32) (v6 : Int32) (v7 : Int32) (H : Heap) (locs : List Loc), va_P G.1 vwCl [(mo, .inr (6, [.int rf, .ref a_sc, .int ss, .ref a_nw, .ref a_tr, .ref a_di, .int ac, .ref a_ke, .ref a_ik, .ref a_od, .ref a_rk, .ref a_be, .ref a_fr, .int fs])), (a_fr, .inl (G.2.1, 12, .inl fr))] H → va_D A [(mo, .inr (6, [.int rf, .ref a_sc, .int ss, .ref a_nw, .ref a_tr, .ref a_di, .int ac, .ref a_ke, .ref a_ik, .ref a_od, .ref a_rk, .ref a_be, .ref a_fr, .int fs])), (a_fr, .inl (G.2.1, 12, .inl fr))] → va_S A s.heap H locs → ∀ (ls : Array Slot), lv_has ls 8 [(0, .ref mo), (3, .int v3), (4, .int v4), (5, .int v5), (6, .int v6), (7, .int v7)] → P_M_takeDigits_J82 fr fs v3 v4 v5 v6 v7 = some y31 → W p l e (fl_rm 0 0) s m args below meth c H locs 0 0 Q (F0 m 82 ls []) := by
        intro fr fs v3 v5 v6 v7 H locs hP hD hS ls hl hp
        unfold P_M_takeDigits_J82 at hp
        refine lv_iconst (v := (1 : Int32)) hx hb dX6_takeDigits_82 (by decide) ?_
        refine lv_goto (tgt := 87) hx hb dX6_takeDigits_83 (by decide) ?_
        exact KJ87 fr fs v3 v5 v6 v7 (1 : Int32) H locs hP hD hS ls (lv_sub hl [0, 1, 2, 3, 4, 5] rfl) hp
      have KJ61 : ∀ (fr : fl_A) (fs : Int32) (v2 : Int32) (v5 : Int32) (v6 : Int32) (v7 : Int32) (k0 : Int32) (H : Heap) (locs : List Loc), va_P G.1 vwCl [(mo, .inr (6, [.int rf, .ref a_sc, .int ss, .ref a_nw, .ref a_tr, .ref a_di, .int ac, .ref a_ke, .ref a_ik, .ref a_od, .ref a_rk, .ref a_be, .ref a_fr, .int fs])), (a_fr, .inl (G.2.1, 12, .inl fr))] H → va_D A [(mo, .inr (6, [.int rf, .ref a_sc, .int ss, .ref a_nw, .ref a_tr, .ref a_di, .int ac, .ref a_ke, .ref a_ik, .ref a_od, .ref a_rk, .ref a_be, .ref a_fr, .int fs])), (a_fr, .inl (G.2.1, 12, .inl fr))] → va_S A s.heap H locs → ∀ (ls : Array Slot), lv_has ls 8 [(0, .ref mo), (2, .int v2), (4, .int v4), (5, .int v5), (6, .int v6), (7, .int v7)] → P_M_takeDigits_J61 fr fs v2 v4 v5 v6 v7 k0 = some y31 → W p l e (fl_rm 0 0) s m args below meth c H locs 0 0 Q (F0 m 61 ls [.int k0]) := by
        intro fr fs v2 v5 v6 v7 k0 H locs hP hD hS ls hl hp
        unfold P_M_takeDigits_J61 at hp
        refine lv_istore_n (lv' := [(3, .int k0), (0, .ref mo), (2, .int v2), (4, .int v4), (5, .int v5), (6, .int v6), (7, .int v7)]) hx hb dX6_takeDigits_61 rfl hl (by decide) rfl (fun ls hl => ?_)
        refine lv_iload_n hx hb dX6_takeDigits_62 rfl (lv_at hl 2 rfl) ?_
        refine lv_if_eq (tgt := 86) hx hb dX6_takeDigits_63 (by decide) (fun hc => ?_) (fun hc => ?_)
        · replace hp := fl_t hc hp
          exact KJ86 fr fs k0 v5 v6 v7 H locs hP hD hS ls (lv_sub hl [1, 0, 3, 4, 5, 6] rfl) hp
        · replace hp := fl_f hc hp
          refine lv_iload hx hb dX6_takeDigits_66 (lv_at hl 6 rfl) ?_
          refine lv_bipush (v := (9 : Int32)) hx hb dX6_takeDigits_68 (by decide) ?_
          refine lv_icmp_ge (tgt := 86) hx hb dX6_takeDigits_70 (by decide) (fun hc => ?_) (fun hc => ?_)
          · replace hp := fl_t hc hp
            exact KJ86 fr fs k0 v5 v6 v7 H locs hP hD hS ls (lv_sub hl [1, 0, 3, 4, 5, 6] rfl) hp
          · replace hp := fl_f hc hp
            refine lv_iload_n hx hb dX6_takeDigits_73 rfl (lv_at hl 0 rfl) ?_
            refine lv_if_eq (tgt := 82) hx hb dX6_takeDigits_74 (by decide) (fun hc => ?_) (fun hc => ?_)
            · replace hp := fl_t hc hp
              exact KJ82 fr fs k0 v5 v6 v7 H locs hP hD hS ls (lv_sub hl [1, 0, 3, 4, 5, 6] rfl) hp
            · replace hp := fl_f hc hp
              refine lv_iload hx hb dX6_takeDigits_77 (lv_at hl 6 rfl) ?_
              refine lv_if_ne (tgt := 86) hx hb dX6_takeDigits_79 (by decide) (fun hc => ?_) (fun hc => ?_)
              · replace hp := fl_f hc hp
                exact KJ86 fr fs k0 v5 v6 v7 H locs hP hD hS ls (lv_sub hl [1, 0, 3, 4, 5, 6] rfl) hp
              · replace hp := fl_t hc hp
                exact KJ82 fr fs k0 v5 v6 v7 H locs hP hD hS ls (lv_sub hl [1, 0, 3, 4, 5, 6] rfl) hp
      have KJ56 : ∀ (fr : fl_A) (fs : Int32) (v2 : Int32) (v5 : Int32) (v6 : Int32) (v7 : Int32) (H : Heap) (locs : List Loc), va_P G.1 vwCl [(mo, .inr (6, [.int rf, .ref a_sc, .int ss, .ref a_nw, .ref a_tr, .ref a_di, .int ac, .ref a_ke, .ref a_ik, .ref a_od, .ref a_rk, .ref a_be, .ref a_fr, .int fs])), (a_fr, .inl (G.2.1, 12, .inl fr))] H → va_D A [(mo, .inr (6, [.int rf, .ref a_sc, .int ss, .ref a_nw, .ref a_tr, .ref a_di, .int ac, .ref a_ke, .ref a_ik, .ref a_od, .ref a_rk, .ref a_be, .ref a_fr, .int fs])), (a_fr, .inl (G.2.1, 12, .inl fr))] → va_S A s.heap H locs → ∀ (ls : Array Slot), lv_has ls 8 [(0, .ref mo), (2, .int v2), (4, .int v4), (5, .int v5), (6, .int v6), (7, .int v7)] → P_M_takeDigits_J56 fr fs v2 v4 v5 v6 v7 = some y31 → W p l e (fl_rm 0 0) s m args below meth c H locs 0 0 Q (F0 m 56 ls []) := by
        intro fr fs v2 v5 v6 v7 H locs hP hD hS ls hl hp
        unfold P_M_takeDigits_J56 at hp
        refine lv_iconst (v := (1 : Int32)) hx hb dX6_takeDigits_56 (by decide) ?_
        refine lv_goto (tgt := 61) hx hb dX6_takeDigits_57 (by decide) ?_
        exact KJ61 fr fs v2 v5 v6 v7 (1 : Int32) H locs hP hD hS ls (lv_sub hl [0, 1, 2, 3, 4, 5] rfl) hp
      have hp := hb31
      unfold P_M_takeDigits_L31 at hp
      refine lv_iload hx hb dX6_takeDigits_31 (lv_at hl 5 rfl) ?_
      refine lv_iconst (v := (4 : Int32)) hx hb dX6_takeDigits_33 (by decide) ?_
      refine lv_icmp_ge (tgt := 131) hx hb dX6_takeDigits_34 (by decide) (fun hc => ?_) (fun hc => ?_)
      · replace hp := fl_t hc hp
        refine lv_iload_n hx hb dX6_takeDigits_131 rfl (lv_at hl 1 rfl) ?_
        obtain ⟨hz, hp⟩ := fl_bl_of hp
        obtain rfl := Option.some.inj hp
        obtain rfl := fl_cont_inr hy31
        exact hfin H locs _ ls hP hD hS dX6_takeDigits_132 hz
      · replace hp := fl_f hc hp
        refine lv_iload hx hb dX6_takeDigits_37 (lv_at hl 3 rfl) ?_
        refine lv_iload hx hb dX6_takeDigits_39 (lv_at hl 4 rfl) ?_
        obtain ⟨hne, hp⟩ := fl_nz_of hp
        refine lv_idiv hx hb dX6_takeDigits_41 hne ?_
        refine lv_bipush (v := (10 : Int32)) hx hb dX6_takeDigits_42 (by decide) ?_
        refine lv_irem hx hb dX6_takeDigits_44 (by decide) ?_
        refine lv_istore (lv' := [(7, .int ((v4 / z31.2.2.1) - (v4 / z31.2.2.1) / (10 : Int32) * (10 : Int32))), (0, .ref mo), (2, .int z31.1), (3, .int z31.2.1), (4, .int v4), (5, .int z31.2.2.1), (6, .int z31.2.2.2.1)]) hx hb dX6_takeDigits_45 hl (by decide) rfl (fun ls hl => ?_)
        refine lv_iload_n hx hb dX6_takeDigits_47 rfl (lv_at hl 3 rfl) ?_
        refine lv_if_ne (tgt := 56) hx hb dX6_takeDigits_48 (by decide) (fun hc => ?_) (fun hc => ?_)
        · replace hp := fl_f hc hp
          exact KJ56 z31.2.2.2.2.1 z31.2.2.2.2.2 z31.1 z31.2.2.1 z31.2.2.2.1 ((v4 / z31.2.2.1) - (v4 / z31.2.2.1) / (10 : Int32) * (10 : Int32)) H locs hP hD hS ls (lv_sub hl [1, 2, 4, 5, 6, 0] rfl) hp
        · replace hp := fl_t hc hp
          refine lv_iload hx hb dX6_takeDigits_51 (lv_at hl 0 rfl) ?_
          refine lv_if_ne (tgt := 60) hx hb dX6_takeDigits_53 (by decide) (fun hc => ?_) (fun hc => ?_)
          · replace hp := fl_f hc hp
            refine lv_iconst (v := (0 : Int32)) hx hb dX6_takeDigits_60 (by decide) ?_
            exact KJ61 z31.2.2.2.2.1 z31.2.2.2.2.2 z31.1 z31.2.2.1 z31.2.2.2.1 ((v4 / z31.2.2.1) - (v4 / z31.2.2.1) / (10 : Int32) * (10 : Int32)) (0 : Int32) H locs hP hD hS ls (lv_sub hl [1, 2, 4, 5, 6, 0] rfl) hp
          · replace hp := fl_t hc hp
            exact KJ56 z31.2.2.2.2.1 z31.2.2.2.2.2 z31.1 z31.2.2.1 z31.2.2.2.1 ((v4 / z31.2.2.1) - (v4 / z31.2.2.1) / (10 : Int32) * (10 : Int32)) H locs hP hD hS ls (lv_sub hl [1, 2, 4, 5, 6, 0] rfl) hp
  have KJ17 : ∀ (fr : fl_A) (fs : Int32) (k0 : Int32) (H : Heap) (locs : List Loc), va_P G.1 vwCl [(mo, .inr (6, [.int rf, .ref a_sc, .int ss, .ref a_nw, .ref a_tr, .ref a_di, .int ac, .ref a_ke, .ref a_ik, .ref a_od, .ref a_rk, .ref a_be, .ref a_fr, .int fs])), (a_fr, .inl (G.2.1, 12, .inl fr))] H → va_D A [(mo, .inr (6, [.int rf, .ref a_sc, .int ss, .ref a_nw, .ref a_tr, .ref a_di, .int ac, .ref a_ke, .ref a_ik, .ref a_od, .ref a_rk, .ref a_be, .ref a_fr, .int fs])), (a_fr, .inl (G.2.1, 12, .inl fr))] → va_S A s.heap H locs → ∀ (ls : Array Slot), lv_has ls 8 [(0, .ref mo), (1, .int p0)] → P_M_takeDigits_J17 fr fs p0 k0 = some r → W p l e (fl_rm 0 0) s m args below meth c H locs 0 0 Q (F0 m 17 ls [.int k0]) := by
    intro fr fs k0 H locs hP hD hS ls hl hp
    unfold P_M_takeDigits_J17 at hp
    refine lv_istore_n (lv' := [(2, .int k0), (0, .ref mo), (1, .int p0)]) hx hb dX6_takeDigits_17 rfl hl (by decide) rfl (fun ls hl => ?_)
    refine lv_iconst (v := (0 : Int32)) hx hb dX6_takeDigits_18 (by decide) ?_
    refine lv_istore_n (lv' := [(3, .int (0 : Int32)), (2, .int k0), (0, .ref mo), (1, .int p0)]) hx hb dX6_takeDigits_19 rfl hl (by decide) rfl (fun ls hl => ?_)
    refine lv_iload_n hx hb dX6_takeDigits_20 rfl (lv_at hl 3 rfl) ?_
    refine lv_istore (lv' := [(4, .int p0), (3, .int (0 : Int32)), (2, .int k0), (0, .ref mo), (1, .int p0)]) hx hb dX6_takeDigits_21 hl (by decide) rfl (fun ls hl => ?_)
    refine lv_sipush (v := (1000 : Int32)) hx hb dX6_takeDigits_23 (by decide) ?_
    refine lv_istore (lv' := [(5, .int (1000 : Int32)), (4, .int p0), (3, .int (0 : Int32)), (2, .int k0), (0, .ref mo), (1, .int p0)]) hx hb dX6_takeDigits_26 hl (by decide) rfl (fun ls hl => ?_)
    refine lv_iconst (v := (0 : Int32)) hx hb dX6_takeDigits_28 (by decide) ?_
    refine lv_istore (lv' := [(6, .int (0 : Int32)), (5, .int (1000 : Int32)), (4, .int p0), (3, .int (0 : Int32)), (2, .int k0), (0, .ref mo), (1, .int p0)]) hx hb dX6_takeDigits_29 hl (by decide) rfl (fun ls hl => ?_)
    obtain ⟨n0, hn⟩ := fl_loop_ex hp
    exact KL31 p0 n0 (k0, (0 : Int32), (1000 : Int32), (0 : Int32), fr, fs) H locs hP hD hS ls (lv_sub hl [5, 4, 3, 2, 1, 0] rfl) hn
  have hp := hp0
  unfold P_M_takeDigits at hp
  refine lv_aload_n hx hb dX6_takeDigits_0 rfl (lv_at hl 0 rfl) ?_
  refine lv_iconst (v := (0 : Int32)) hx hb dX6_takeDigits_1 (by decide) ?_
  refine va_put (D := G.1) (ci := 6) (v := .int (0 : Int32)) (ty := .int) (C := RX6) (T := TX6) (N := 14) hx hb hts iX6 tyX6 tyX6_ok nmX6 hown hK.1 hP hD hS 0 rfl rfl 13 (by decide) (hts (.fieldLink RX6 76 "SongChoirModel" "freshSize" "I") (List.mem_of_getElem? (i := 1) rfl)) (fun _ h9 => h9) rfl (by decide +kernel) rfl rfl (Nat.le_of_ble_eq_true rfl) dX6_takeDigits_2 (fun H locs hP hD hS => ?_)
  have hP : va_P G.1 vwCl [(mo, .inr (6, [.int rf, .ref a_sc, .int ss, .ref a_nw, .ref a_tr, .ref a_di, .int ac, .ref a_ke, .ref a_ik, .ref a_od, .ref a_rk, .ref a_be, .ref a_fr, .int (0 : Int32)])), (a_fr, .inl (G.2.1, 12, .inl fr))] H := hP
  have hD : va_D A [(mo, .inr (6, [.int rf, .ref a_sc, .int ss, .ref a_nw, .ref a_tr, .ref a_di, .int ac, .ref a_ke, .ref a_ik, .ref a_od, .ref a_rk, .ref a_be, .ref a_fr, .int (0 : Int32)])), (a_fr, .inl (G.2.1, 12, .inl fr))] := hD
  refine lv_iload_n hx hb dX6_takeDigits_5 rfl (lv_at hl 1 rfl) ?_
  refine lv_sipush (v := (999 : Int32)) hx hb dX6_takeDigits_6 (by decide) ?_
  refine lv_icmp_le (tgt := 16) hx hb dX6_takeDigits_9 (by decide) (fun hc => ?_) (fun hc => ?_)
  · replace hp := fl_t hc hp
    refine lv_iconst (v := (0 : Int32)) hx hb dX6_takeDigits_16 (by decide) ?_
    exact KJ17 fr (0 : Int32) (0 : Int32) H locs hP hD hS ls (lv_sub hl [0, 1] rfl) hp
  · replace hp := fl_f hc hp
    refine lv_iconst (v := (1 : Int32)) hx hb dX6_takeDigits_12 (by decide) ?_
    refine lv_goto (tgt := 17) hx hb dX6_takeDigits_13 (by decide) ?_
    exact KJ17 fr (0 : Int32) (1 : Int32) H locs hP hD hS ls (lv_sub hl [0, 1] rfl) hp

noncomputable def P_M_does_J43 (tr : fl_A) (od : fl_A) (rk : fl_A) (be : fl_A) (fr : fl_A) (fs : Int32) (p0 : Int32) (v2 : Int32) (v3 : Int32) (v4 : Int32) (v5 : Int32) (k0 : Int32) : Option (Int32 × fl_A × fl_A × fl_A × fl_A × fl_A × Int32) := if v2 = (1 : Int32) then fl_ck (1 : Int32) 126 (if (tr (1 : Int32).toNatClampNeg) ≤ v3 then some ((0 : Int32), tr, od, rk, be, fr, fs) else if v4 = 0 then fl_bd (P_M_againIn od rk be fr fs tr v3) (fun q1 => some ((1 : Int32), q1.2.2.2.2.2.2, q1.2.1, q1.2.2.1, q1.2.2.2.1, q1.2.2.2.2.1, q1.2.2.2.2.2.1)) else some ((0 : Int32), tr, od, rk, be, fr, fs)) else if v2 = (2 : Int32) then if (p0 - p0 / (10000 : Int32) * (10000 : Int32)) = 0 then fl_ck (1 : Int32) 126 (if (tr (1 : Int32).toNatClampNeg) = 0 then some ((0 : Int32), tr, od, rk, be, fr, fs) else fl_bd (P_M_forgetIn od rk be tr) (fun q2 => some ((1 : Int32), q2.2.2.2.2, q2.2.1, q2.2.2.1, q2.2.2.2.1, fr, fs))) else some ((0 : Int32), tr, od, rk, be, fr, fs) else if v2 = (3 : Int32) then if v5 = 0 then fl_bd (P_M_isChoir ((p0 / (1000 : Int32)) - (p0 / (1000 : Int32)) / (10 : Int32) * (10 : Int32))) (fun q3 => if q3 = 0 then some ((0 : Int32), tr, od, rk, be, fr, fs) else fl_bd (P_M_setSingersIn od rk be tr ((p0 / (1000 : Int32)) - (p0 / (1000 : Int32)) / (10 : Int32) * (10 : Int32))) (fun q4 => some ((1 : Int32), q4.2.2.2.2, q4.2.1, q4.2.2.1, q4.2.2.2.1, fr, fs))) else some ((0 : Int32), tr, od, rk, be, fr, fs) else if v2 = (4 : Int32) then fl_bd (P_M_takeDigits fr fs (p0 - p0 / (10000 : Int32) * (10000 : Int32))) (fun q5 => if q5.1 = 0 then some ((0 : Int32), tr, od, rk, be, q5.2.1, q5.2.2) else fl_bd (P_M_singIn od rk be q5.2.1 q5.2.2 tr) (fun q6 => some ((1 : Int32), q6.2.2.2.2, q6.2.1, q6.2.2.1, q6.2.2.2.1, q5.2.1, q5.2.2))) else if v2 = (5 : Int32) then if v3 = 0 then fl_bd (P_M_longest od rk tr) (fun q7 => if q7.1 < v4 then some ((0 : Int32), tr, q7.2.1, q7.2.2, be, fr, fs) else some ((1 : Int32), tr, q7.2.1, q7.2.2, be, fr, fs)) else some ((0 : Int32), tr, od, rk, be, fr, fs) else if v2 = (6 : Int32) then if k0 = 0 then some ((0 : Int32), tr, od, rk, be, fr, fs) else fl_bd (P_M_pieces od rk tr) (fun q8 => if q8.1 < v5 then some ((0 : Int32), tr, q8.2.1, q8.2.2, be, fr, fs) else some ((1 : Int32), tr, q8.2.1, q8.2.2, be, fr, fs)) else if v2 = (7 : Int32) then if v3 = 0 then fl_ck (0 : Int32) 126 (if (tr (0 : Int32).toNatClampNeg) < v4 then some ((0 : Int32), tr, od, rk, be, fr, fs) else some ((1 : Int32), tr, od, rk, be, fr, fs)) else some ((0 : Int32), tr, od, rk, be, fr, fs) else if v2 = (8 : Int32) then fl_bd (P_M_in v3.toInt64 (1 : Int64) (12 : Int64)) (fun q9 => if q9 = 0 then some ((0 : Int32), tr, od, rk, be, fr, fs) else fl_bd (P_M_mostTimes tr v3) (fun q10 => if q10 < v4 then some ((0 : Int32), tr, od, rk, be, fr, fs) else some ((1 : Int32), tr, od, rk, be, fr, fs))) else if v2 = (9 : Int32) then if k0 = 0 then some ((0 : Int32), tr, od, rk, be, fr, fs) else fl_ck (4 : Int32) 126 (if v5 < (tr (4 : Int32).toNatClampNeg) then some ((0 : Int32), tr, od, rk, be, fr, fs) else some ((1 : Int32), tr, od, rk, be, fr, fs)) else some ((0 : Int32), tr, od, rk, be, fr, fs)
noncomputable def P_M_does (tr : fl_A) (od : fl_A) (rk : fl_A) (be : fl_A) (fr : fl_A) (fs : Int32) (p0 : Int32) : Option (Int32 × fl_A × fl_A × fl_A × fl_A × fl_A × Int32) := if ((p0 / (1000 : Int32)) - (p0 / (1000 : Int32)) / (10 : Int32) * (10 : Int32)) = 0 then P_M_does_J43 tr od rk be fr fs p0 (p0 / (10000 : Int32)) ((p0 / (100 : Int32)) - (p0 / (100 : Int32)) / (100 : Int32) * (100 : Int32)) (p0 - p0 / (100 : Int32) * (100 : Int32)) (p0 - p0 / (1000 : Int32) * (1000 : Int32)) (1 : Int32) else P_M_does_J43 tr od rk be fr fs p0 (p0 / (10000 : Int32)) ((p0 / (100 : Int32)) - (p0 / (100 : Int32)) / (100 : Int32) * (100 : Int32)) (p0 - p0 / (100 : Int32) * (100 : Int32)) (p0 - p0 / (1000 : Int32) * (1000 : Int32)) (0 : Int32)
set_option maxHeartbeats 4000000 in
set_option maxRecDepth 100000 in
theorem c_M_does (l : Launch) (G : fl_G) (mo a_sc a_nw a_tr a_di a_ke a_ik a_od a_rk a_be a_fr : Nat) (rf : Int32) (ss : Int32) (ac : Int32) (tr : fl_A) (od : fl_A) (rk : fl_A) (be : fl_A) (fr : fl_A) (fs : Int32) (p0 : Int32) {r : (Int32 × fl_A × fl_A × fl_A × fl_A × fl_A × Int32)} (hp0 : P_M_does tr od rk be fr fs p0 = some r) : fl_mu l yX6_does wsX6_does 6 140 G [.ref mo, .int p0] [(mo, .inr (6, [.int rf, .ref a_sc, .int ss, .ref a_nw, .ref a_tr, .ref a_di, .int ac, .ref a_ke, .ref a_ik, .ref a_od, .ref a_rk, .ref a_be, .ref a_fr, .int fs])), (a_tr, .inl (G.2.1, 126, .inl tr)), (a_od, .inl (G.2.1, 60, .inl od)), (a_rk, .inl (G.2.1, 60, .inl rk)), (a_be, .inl (G.2.1, 60, .inl be)), (a_fr, .inl (G.2.1, 12, .inl fr))] (some (.int r.1)) [(mo, .inr (6, [.int rf, .ref a_sc, .int ss, .ref a_nw, .ref a_tr, .ref a_di, .int ac, .ref a_ke, .ref a_ik, .ref a_od, .ref a_rk, .ref a_be, .ref a_fr, .int r.2.2.2.2.2.2])), (a_tr, .inl (G.2.1, 126, .inl r.2.1)), (a_od, .inl (G.2.1, 60, .inl r.2.2.1)), (a_rk, .inl (G.2.1, 60, .inl r.2.2.2.1)), (a_be, .inl (G.2.1, 60, .inl r.2.2.2.2.1)), (a_fr, .inl (G.2.1, 12, .inl r.2.2.2.2.2.1))] := by
  refine fl_mui_in cX6_does 7 .boolean RX6 (by decide) rfl rfl (Nat.le_of_ble_eq_true rfl) ?_
  intro p e s m args below meth c ls A Q H locs C0 hK hP hD hS hA hl hfin
  obtain ⟨hx, hb, hml, hown, hts⟩ := id C0
  have iX6 : ∀ w ∈ u_ws RX6 TX6 14, w ∈ wsX6_does := fun _ h => List.mem_cons_of_mem _ (List.mem_append_right _ h)
  have hl : lv_has ls 7 [(0, .ref mo), (1, .int p0)] := hl
  have KJ43 : ∀ (tr : fl_A) (od : fl_A) (rk : fl_A) (be : fl_A) (fr : fl_A) (fs : Int32) (v2 : Int32) (v3 : Int32) (v4 : Int32) (v5 : Int32) (k0 : Int32) (H : Heap) (locs : List Loc), va_P G.1 vwCl [(mo, .inr (6, [.int rf, .ref a_sc, .int ss, .ref a_nw, .ref a_tr, .ref a_di, .int ac, .ref a_ke, .ref a_ik, .ref a_od, .ref a_rk, .ref a_be, .ref a_fr, .int fs])), (a_tr, .inl (G.2.1, 126, .inl tr)), (a_od, .inl (G.2.1, 60, .inl od)), (a_rk, .inl (G.2.1, 60, .inl rk)), (a_be, .inl (G.2.1, 60, .inl be)), (a_fr, .inl (G.2.1, 12, .inl fr))] H → va_D A [(mo, .inr (6, [.int rf, .ref a_sc, .int ss, .ref a_nw, .ref a_tr, .ref a_di, .int ac, .ref a_ke, .ref a_ik, .ref a_od, .ref a_rk, .ref a_be, .ref a_fr, .int fs])), (a_tr, .inl (G.2.1, 126, .inl tr)), (a_od, .inl (G.2.1, 60, .inl od)), (a_rk, .inl (G.2.1, 60, .inl rk)), (a_be, .inl (G.2.1, 60, .inl be)), (a_fr, .inl (G.2.1, 12, .inl fr))] → va_S A s.heap H locs → ∀ (ls : Array Slot), lv_has ls 7 [(0, .ref mo), (1, .int p0), (2, .int v2), (3, .int v3), (4, .int v4), (5, .int v5)] → P_M_does_J43 tr od rk be fr fs p0 v2 v3 v4 v5 k0 = some r → W p l e (fl_rm 6 140) s m args below meth c H locs 0 0 Q (F0 m 43 ls [.int k0]) := by
    intro tr od rk be fr fs v2 v3 v4 v5 k0 H locs hP hD hS ls hl hp
    unfold P_M_does_J43 at hp
    refine lv_istore (lv' := [(6, .int k0), (0, .ref mo), (1, .int p0), (2, .int v2), (3, .int v3), (4, .int v4), (5, .int v5)]) hx hb dX6_does_43 hl (by decide) rfl (fun ls hl => ?_)
    refine lv_iload_n hx hb dX6_does_45 rfl (lv_at hl 3 rfl) ?_
    rcases Decidable.em (v2 = (1 : Int32)) with hc0 | hc0
    · replace hp := fl_t hc0 hp
      refine lv_tableIn (off := 50) (tgt := 96) hx hb dX6_does_46 (by rw [hc0]; decide) (by rw [hc0]; decide) (by rw [hc0]; rfl) (by decide) ?_
      refine lv_iload_n hx hb dX6_does_96 rfl (lv_at hl 4 rfl) ?_
      refine lv_aload_n hx hb dX6_does_97 rfl (lv_at hl 1 rfl) ?_
      refine va_get (D := G.1) (ci := 6) (v := .ref a_tr) (C := RX6) (T := TX6) (N := 14) hx hb hts iX6 hown hK.1 hP 0 rfl rfl 4 (by decide) (hts (.fieldLink RX6 16 "SongChoirModel" "trial" "[I") (List.mem_of_getElem? (i := 1) rfl)) (fun _ h9 => h9) rfl dX6_does_98 ?_
      refine lv_iconst (v := (1 : Int32)) hx hb dX6_does_101 (by decide) ?_
      obtain ⟨hi, hp⟩ := fl_ck_of hp
      refine va_iald hx hb hK.1 hP 1 0 rfl rfl hi dX6_does_102 ?_
      refine lv_icmp_ge (tgt := 111) hx hb dX6_does_103 (by decide) (fun hc => ?_) (fun hc => ?_)
      · replace hp := fl_t hc hp
        refine lv_iconst (v := (0 : Int32)) hx hb dX6_does_111 (by decide) ?_
        obtain rfl := Option.some.inj hp
        exact hfin H locs _ ls hP hD hS dX6_does_112 (show narrow .boolean (.int (0 : Int32)) = .int (0 : Int32) from rfl)
      · replace hp := fl_f hc hp
        refine lv_iload hx hb dX6_does_106 (lv_at hl 5 rfl) ?_
        refine lv_if_eq (tgt := 113) hx hb dX6_does_108 (by decide) (fun hc => ?_) (fun hc => ?_)
        · replace hp := fl_t hc hp
          refine lv_aload_n hx hb dX6_does_113 rfl (lv_at hl 1 rfl) ?_
          refine lv_aload_n hx hb dX6_does_114 rfl (lv_at hl 1 rfl) ?_
          refine va_get (D := G.1) (ci := 6) (v := .ref a_tr) (C := RX6) (T := TX6) (N := 14) hx hb hts iX6 hown hK.1 hP 0 rfl rfl 4 (by decide) (hts (.fieldLink RX6 16 "SongChoirModel" "trial" "[I") (List.mem_of_getElem? (i := 1) rfl)) (fun _ h9 => h9) rfl dX6_does_115 ?_
          refine lv_iload_n hx hb dX6_does_118 rfl (lv_at hl 4 rfl) ?_
          obtain ⟨q1, hq1, hp⟩ := fl_bd_of hp
          refine fl_muV (As := [.ref a_tr, .int v3]) (rest := []) [(mo, .inr (6, [.int rf, .ref a_sc, .int ss, .ref a_nw, .ref a_tr, .ref a_di, .int ac, .ref a_ke, .ref a_ik, .ref a_od, .ref a_rk, .ref a_be, .ref a_fr, .int q1.2.2.2.2.2.1])), (a_tr, .inl (G.2.1, 126, .inl q1.2.2.2.2.2.2)), (a_od, .inl (G.2.1, 60, .inl q1.2.1)), (a_rk, .inl (G.2.1, 60, .inl q1.2.2.1)), (a_be, .inl (G.2.1, 60, .inl q1.2.2.2.1)), (a_fr, .inl (G.2.1, 12, .inl q1.2.2.2.2.1))] C0 (c_M_againIn l G mo a_sc a_nw a_tr a_di a_ke a_ik a_od a_rk a_be a_fr a_tr rf ss ac od rk be fr fs tr v3 hq1) (cwV 2 hts gX6_does_X6_againIn rfl rfl rfl (by decide +kernel) ⟨Nat.le_of_ble_eq_true rfl, Nat.le_of_ble_eq_true rfl⟩) hK hP hD [0, 2, 3, 4, 5, 1] [] [0, 5, 1, 2, 3, 4] rfl rfl (by decide) (by decide) rfl 0 6 rfl rfl rfl hS hA rfl hl.1 rfl (Nat.le_of_ble_eq_true rfl) dX6_does_119 ⟨Nat.zero_le _, Nat.zero_le _⟩ (fun H locs hP hD hS => ?_)
          refine lv_pop hx hb dX6_does_122 rfl ?_
          refine lv_iconst (v := (1 : Int32)) hx hb dX6_does_123 (by decide) ?_
          obtain rfl := Option.some.inj hp
          exact hfin H locs _ ls hP hD hS dX6_does_124 (show narrow .boolean (.int (1 : Int32)) = .int (1 : Int32) from rfl)
        · replace hp := fl_f hc hp
          refine lv_iconst (v := (0 : Int32)) hx hb dX6_does_111 (by decide) ?_
          obtain rfl := Option.some.inj hp
          exact hfin H locs _ ls hP hD hS dX6_does_112 (show narrow .boolean (.int (0 : Int32)) = .int (0 : Int32) from rfl)
    replace hp := fl_f hc0 hp
    rcases Decidable.em (v2 = (2 : Int32)) with hc1 | hc1
    · replace hp := fl_t hc1 hp
      refine lv_tableIn (off := 79) (tgt := 125) hx hb dX6_does_46 (by rw [hc1]; decide) (by rw [hc1]; decide) (by rw [hc1]; rfl) (by decide) ?_
      refine lv_iload_n hx hb dX6_does_125 rfl (lv_at hl 2 rfl) ?_
      refine lv_sipush (v := (10000 : Int32)) hx hb dX6_does_126 (by decide) ?_
      refine lv_irem hx hb dX6_does_129 (by decide) ?_
      refine lv_if_ne (tgt := 142) hx hb dX6_does_130 (by decide) (fun hc => ?_) (fun hc => ?_)
      · replace hp := fl_f hc hp
        refine lv_iconst (v := (0 : Int32)) hx hb dX6_does_142 (by decide) ?_
        obtain rfl := Option.some.inj hp
        exact hfin H locs _ ls hP hD hS dX6_does_143 (show narrow .boolean (.int (0 : Int32)) = .int (0 : Int32) from rfl)
      · replace hp := fl_t hc hp
        refine lv_aload_n hx hb dX6_does_133 rfl (lv_at hl 1 rfl) ?_
        refine va_get (D := G.1) (ci := 6) (v := .ref a_tr) (C := RX6) (T := TX6) (N := 14) hx hb hts iX6 hown hK.1 hP 0 rfl rfl 4 (by decide) (hts (.fieldLink RX6 16 "SongChoirModel" "trial" "[I") (List.mem_of_getElem? (i := 1) rfl)) (fun _ h9 => h9) rfl dX6_does_134 ?_
        refine lv_iconst (v := (1 : Int32)) hx hb dX6_does_137 (by decide) ?_
        obtain ⟨hi, hp⟩ := fl_ck_of hp
        refine va_iald hx hb hK.1 hP 1 0 rfl rfl hi dX6_does_138 ?_
        refine lv_if_ne (tgt := 144) hx hb dX6_does_139 (by decide) (fun hc => ?_) (fun hc => ?_)
        · replace hp := fl_f hc hp
          refine lv_aload_n hx hb dX6_does_144 rfl (lv_at hl 1 rfl) ?_
          refine lv_aload_n hx hb dX6_does_145 rfl (lv_at hl 1 rfl) ?_
          refine va_get (D := G.1) (ci := 6) (v := .ref a_tr) (C := RX6) (T := TX6) (N := 14) hx hb hts iX6 hown hK.1 hP 0 rfl rfl 4 (by decide) (hts (.fieldLink RX6 16 "SongChoirModel" "trial" "[I") (List.mem_of_getElem? (i := 1) rfl)) (fun _ h9 => h9) rfl dX6_does_146 ?_
          obtain ⟨q2, hq2, hp⟩ := fl_bd_of hp
          refine fl_muV (As := [.ref a_tr]) (rest := []) [(mo, .inr (6, [.int rf, .ref a_sc, .int ss, .ref a_nw, .ref a_tr, .ref a_di, .int ac, .ref a_ke, .ref a_ik, .ref a_od, .ref a_rk, .ref a_be, .ref a_fr, .int fs])), (a_tr, .inl (G.2.1, 126, .inl q2.2.2.2.2)), (a_od, .inl (G.2.1, 60, .inl q2.2.1)), (a_rk, .inl (G.2.1, 60, .inl q2.2.2.1)), (a_be, .inl (G.2.1, 60, .inl q2.2.2.2.1)), (a_fr, .inl (G.2.1, 12, .inl fr))] C0 (c_M_forgetIn l G mo a_sc a_nw a_tr a_di a_ke a_ik a_od a_rk a_be a_fr a_tr rf ss ac fs od rk be tr hq2) (cwV 1 hts gX6_does_X6_forgetIn rfl rfl rfl (by decide +kernel) ⟨Nat.le_of_ble_eq_true rfl, Nat.le_of_ble_eq_true rfl⟩) hK hP hD [0, 2, 3, 4, 1] [5] [1, 5, 2, 3, 4, 0] rfl rfl (by decide) (by decide) rfl 0 6 rfl rfl rfl hS hA rfl hl.1 rfl (Nat.le_of_ble_eq_true rfl) dX6_does_149 ⟨Nat.zero_le _, Nat.zero_le _⟩ (fun H locs hP hD hS => ?_)
          refine lv_pop hx hb dX6_does_152 rfl ?_
          refine lv_iconst (v := (1 : Int32)) hx hb dX6_does_153 (by decide) ?_
          obtain rfl := Option.some.inj hp
          exact hfin H locs _ ls hP hD hS dX6_does_154 (show narrow .boolean (.int (1 : Int32)) = .int (1 : Int32) from rfl)
        · replace hp := fl_t hc hp
          refine lv_iconst (v := (0 : Int32)) hx hb dX6_does_142 (by decide) ?_
          obtain rfl := Option.some.inj hp
          exact hfin H locs _ ls hP hD hS dX6_does_143 (show narrow .boolean (.int (0 : Int32)) = .int (0 : Int32) from rfl)
    replace hp := fl_f hc1 hp
    rcases Decidable.em (v2 = (3 : Int32)) with hc2 | hc2
    · replace hp := fl_t hc2 hp
      refine lv_tableIn (off := 109) (tgt := 155) hx hb dX6_does_46 (by rw [hc2]; decide) (by rw [hc2]; decide) (by rw [hc2]; rfl) (by decide) ?_
      refine lv_iload hx hb dX6_does_155 (lv_at hl 6 rfl) ?_
      refine lv_if_ne (tgt := 174) hx hb dX6_does_157 (by decide) (fun hc => ?_) (fun hc => ?_)
      · replace hp := fl_f hc hp
        refine lv_iconst (v := (0 : Int32)) hx hb dX6_does_174 (by decide) ?_
        obtain rfl := Option.some.inj hp
        exact hfin H locs _ ls hP hD hS dX6_does_175 (show narrow .boolean (.int (0 : Int32)) = .int (0 : Int32) from rfl)
      · replace hp := fl_t hc hp
        refine lv_iload_n hx hb dX6_does_160 rfl (lv_at hl 2 rfl) ?_
        refine lv_sipush (v := (1000 : Int32)) hx hb dX6_does_161 (by decide) ?_
        refine lv_idiv hx hb dX6_does_164 (by decide) ?_
        refine lv_bipush (v := (10 : Int32)) hx hb dX6_does_165 (by decide) ?_
        refine lv_irem hx hb dX6_does_167 (by decide) ?_
        obtain ⟨q3, hq3, hp⟩ := fl_bd_of hp
        refine fl_roS (As := [.int ((p0 / (1000 : Int32)) - (p0 / (1000 : Int32)) / (10 : Int32) * (10 : Int32))]) (rest := []) C0 (c_M_isChoir l G ((p0 / (1000 : Int32)) - (p0 / (1000 : Int32)) / (10 : Int32) * (10 : Int32)) hq3) (va_cwS 1 hts gX6_does_X6_isChoir rfl rfl rfl (by decide +kernel) ⟨Nat.le_of_ble_eq_true rfl, Nat.le_of_ble_eq_true rfl⟩) hK hP [] rfl hS hA rfl hl.1 rfl (Nat.le_of_ble_eq_true rfl) dX6_does_168 ⟨Nat.zero_le _, Nat.zero_le _⟩ (fun H locs hP hS => ?_)
        refine lv_if_ne (tgt := 176) hx hb dX6_does_171 (by decide) (fun hc => ?_) (fun hc => ?_)
        · replace hp := fl_f hc hp
          refine lv_aload_n hx hb dX6_does_176 rfl (lv_at hl 1 rfl) ?_
          refine lv_aload_n hx hb dX6_does_177 rfl (lv_at hl 1 rfl) ?_
          refine va_get (D := G.1) (ci := 6) (v := .ref a_tr) (C := RX6) (T := TX6) (N := 14) hx hb hts iX6 hown hK.1 hP 0 rfl rfl 4 (by decide) (hts (.fieldLink RX6 16 "SongChoirModel" "trial" "[I") (List.mem_of_getElem? (i := 1) rfl)) (fun _ h9 => h9) rfl dX6_does_178 ?_
          refine lv_iload_n hx hb dX6_does_181 rfl (lv_at hl 2 rfl) ?_
          refine lv_sipush (v := (1000 : Int32)) hx hb dX6_does_182 (by decide) ?_
          refine lv_idiv hx hb dX6_does_185 (by decide) ?_
          refine lv_bipush (v := (10 : Int32)) hx hb dX6_does_186 (by decide) ?_
          refine lv_irem hx hb dX6_does_188 (by decide) ?_
          obtain ⟨q4, hq4, hp⟩ := fl_bd_of hp
          refine fl_muV (As := [.ref a_tr, .int ((p0 / (1000 : Int32)) - (p0 / (1000 : Int32)) / (10 : Int32) * (10 : Int32))]) (rest := []) [(mo, .inr (6, [.int rf, .ref a_sc, .int ss, .ref a_nw, .ref a_tr, .ref a_di, .int ac, .ref a_ke, .ref a_ik, .ref a_od, .ref a_rk, .ref a_be, .ref a_fr, .int fs])), (a_tr, .inl (G.2.1, 126, .inl q4.2.2.2.2)), (a_od, .inl (G.2.1, 60, .inl q4.2.1)), (a_rk, .inl (G.2.1, 60, .inl q4.2.2.1)), (a_be, .inl (G.2.1, 60, .inl q4.2.2.2.1)), (a_fr, .inl (G.2.1, 12, .inl fr))] C0 (c_M_setSingersIn l G mo a_sc a_nw a_tr a_di a_ke a_ik a_od a_rk a_be a_fr a_tr rf ss ac fs od rk be tr ((p0 / (1000 : Int32)) - (p0 / (1000 : Int32)) / (10 : Int32) * (10 : Int32)) hq4) (cwV 2 hts gX6_does_X6_setSingersIn rfl rfl rfl (by decide +kernel) ⟨Nat.le_of_ble_eq_true rfl, Nat.le_of_ble_eq_true rfl⟩) hK hP hD [0, 2, 3, 4, 1] [5] [1, 5, 2, 3, 4, 0] rfl rfl (by decide) (by decide) rfl 0 6 rfl rfl rfl hS hA rfl hl.1 rfl (Nat.le_of_ble_eq_true rfl) dX6_does_189 ⟨Nat.zero_le _, Nat.zero_le _⟩ (fun H locs hP hD hS => ?_)
          refine lv_pop hx hb dX6_does_192 rfl ?_
          refine lv_iconst (v := (1 : Int32)) hx hb dX6_does_193 (by decide) ?_
          obtain rfl := Option.some.inj hp
          exact hfin H locs _ ls hP hD hS dX6_does_194 (show narrow .boolean (.int (1 : Int32)) = .int (1 : Int32) from rfl)
        · replace hp := fl_t hc hp
          refine lv_iconst (v := (0 : Int32)) hx hb dX6_does_174 (by decide) ?_
          obtain rfl := Option.some.inj hp
          exact hfin H locs _ ls hP hD hS dX6_does_175 (show narrow .boolean (.int (0 : Int32)) = .int (0 : Int32) from rfl)
    replace hp := fl_f hc2 hp
    rcases Decidable.em (v2 = (4 : Int32)) with hc3 | hc3
    · replace hp := fl_t hc3 hp
      refine lv_tableIn (off := 149) (tgt := 195) hx hb dX6_does_46 (by rw [hc3]; decide) (by rw [hc3]; decide) (by rw [hc3]; rfl) (by decide) ?_
      refine lv_aload_n hx hb dX6_does_195 rfl (lv_at hl 1 rfl) ?_
      refine lv_iload_n hx hb dX6_does_196 rfl (lv_at hl 2 rfl) ?_
      refine lv_sipush (v := (10000 : Int32)) hx hb dX6_does_197 (by decide) ?_
      refine lv_irem hx hb dX6_does_200 (by decide) ?_
      obtain ⟨q5, hq5, hp⟩ := fl_bd_of hp
      refine fl_muV (As := [.int (p0 - p0 / (10000 : Int32) * (10000 : Int32))]) (rest := []) [(mo, .inr (6, [.int rf, .ref a_sc, .int ss, .ref a_nw, .ref a_tr, .ref a_di, .int ac, .ref a_ke, .ref a_ik, .ref a_od, .ref a_rk, .ref a_be, .ref a_fr, .int q5.2.2])), (a_tr, .inl (G.2.1, 126, .inl tr)), (a_od, .inl (G.2.1, 60, .inl od)), (a_rk, .inl (G.2.1, 60, .inl rk)), (a_be, .inl (G.2.1, 60, .inl be)), (a_fr, .inl (G.2.1, 12, .inl q5.2.1))] C0 (c_M_takeDigits l G mo a_sc a_nw a_tr a_di a_ke a_ik a_od a_rk a_be a_fr rf ss ac fr fs (p0 - p0 / (10000 : Int32) * (10000 : Int32)) hq5) (cwV 1 hts gX6_does_X6_takeDigits rfl rfl rfl (by decide +kernel) ⟨Nat.le_of_ble_eq_true rfl, Nat.le_of_ble_eq_true rfl⟩) hK hP hD [0, 5] [1, 2, 3, 4] [4, 0, 1, 2, 3, 5] rfl rfl (by decide) (by decide) rfl 0 6 rfl rfl rfl hS hA rfl hl.1 rfl (Nat.le_of_ble_eq_true rfl) dX6_does_201 ⟨Nat.zero_le _, Nat.zero_le _⟩ (fun H locs hP hD hS => ?_)
      refine lv_if_ne (tgt := 209) hx hb dX6_does_204 (by decide) (fun hc => ?_) (fun hc => ?_)
      · replace hp := fl_f hc hp
        refine lv_aload_n hx hb dX6_does_209 rfl (lv_at hl 1 rfl) ?_
        refine lv_aload_n hx hb dX6_does_210 rfl (lv_at hl 1 rfl) ?_
        refine va_get (D := G.1) (ci := 6) (v := .ref a_tr) (C := RX6) (T := TX6) (N := 14) hx hb hts iX6 hown hK.1 hP 0 rfl rfl 4 (by decide) (hts (.fieldLink RX6 16 "SongChoirModel" "trial" "[I") (List.mem_of_getElem? (i := 1) rfl)) (fun _ h9 => h9) rfl dX6_does_211 ?_
        obtain ⟨q6, hq6, hp⟩ := fl_bd_of hp
        refine fl_muV (As := [.ref a_tr]) (rest := []) [(mo, .inr (6, [.int rf, .ref a_sc, .int ss, .ref a_nw, .ref a_tr, .ref a_di, .int ac, .ref a_ke, .ref a_ik, .ref a_od, .ref a_rk, .ref a_be, .ref a_fr, .int q5.2.2])), (a_tr, .inl (G.2.1, 126, .inl q6.2.2.2.2)), (a_od, .inl (G.2.1, 60, .inl q6.2.1)), (a_rk, .inl (G.2.1, 60, .inl q6.2.2.1)), (a_be, .inl (G.2.1, 60, .inl q6.2.2.2.1)), (a_fr, .inl (G.2.1, 12, .inl q5.2.1))] C0 (c_M_singIn l G mo a_sc a_nw a_tr a_di a_ke a_ik a_od a_rk a_be a_fr a_tr rf ss ac od rk be q5.2.1 q5.2.2 tr hq6) (cwV 1 hts gX6_does_X6_singIn rfl rfl rfl (by decide +kernel) ⟨Nat.le_of_ble_eq_true rfl, Nat.le_of_ble_eq_true rfl⟩) hK hP hD [0, 2, 3, 4, 5, 1] [] [0, 5, 1, 2, 3, 4] rfl rfl (by decide) (by decide) rfl 0 6 rfl rfl rfl hS hA rfl hl.1 rfl (Nat.le_of_ble_eq_true rfl) dX6_does_214 ⟨Nat.zero_le _, Nat.zero_le _⟩ (fun H locs hP hD hS => ?_)
        refine lv_pop hx hb dX6_does_217 rfl ?_
        refine lv_iconst (v := (1 : Int32)) hx hb dX6_does_218 (by decide) ?_
        obtain rfl := Option.some.inj hp
        exact hfin H locs _ ls hP hD hS dX6_does_219 (show narrow .boolean (.int (1 : Int32)) = .int (1 : Int32) from rfl)
      · replace hp := fl_t hc hp
        refine lv_iconst (v := (0 : Int32)) hx hb dX6_does_207 (by decide) ?_
        obtain rfl := Option.some.inj hp
        exact hfin H locs _ ls hP hD hS dX6_does_208 (show narrow .boolean (.int (0 : Int32)) = .int (0 : Int32) from rfl)
    replace hp := fl_f hc3 hp
    rcases Decidable.em (v2 = (5 : Int32)) with hc4 | hc4
    · replace hp := fl_t hc4 hp
      refine lv_tableIn (off := 174) (tgt := 220) hx hb dX6_does_46 (by rw [hc4]; decide) (by rw [hc4]; decide) (by rw [hc4]; rfl) (by decide) ?_
      refine lv_iload_n hx hb dX6_does_220 rfl (lv_at hl 4 rfl) ?_
      refine lv_if_ne (tgt := 241) hx hb dX6_does_221 (by decide) (fun hc => ?_) (fun hc => ?_)
      · replace hp := fl_f hc hp
        refine lv_iconst (v := (0 : Int32)) hx hb dX6_does_241 (by decide) ?_
        obtain rfl := Option.some.inj hp
        exact hfin H locs _ ls hP hD hS dX6_does_242 (show narrow .boolean (.int (0 : Int32)) = .int (0 : Int32) from rfl)
      · replace hp := fl_t hc hp
        refine lv_aload_n hx hb dX6_does_224 rfl (lv_at hl 1 rfl) ?_
        refine lv_aload_n hx hb dX6_does_225 rfl (lv_at hl 1 rfl) ?_
        refine va_get (D := G.1) (ci := 6) (v := .ref a_tr) (C := RX6) (T := TX6) (N := 14) hx hb hts iX6 hown hK.1 hP 0 rfl rfl 4 (by decide) (hts (.fieldLink RX6 16 "SongChoirModel" "trial" "[I") (List.mem_of_getElem? (i := 1) rfl)) (fun _ h9 => h9) rfl dX6_does_226 ?_
        obtain ⟨q7, hq7, hp⟩ := fl_bd_of hp
        refine fl_muV (As := [.ref a_tr]) (rest := []) [(mo, .inr (6, [.int rf, .ref a_sc, .int ss, .ref a_nw, .ref a_tr, .ref a_di, .int ac, .ref a_ke, .ref a_ik, .ref a_od, .ref a_rk, .ref a_be, .ref a_fr, .int fs])), (a_tr, .inl (G.2.1, 126, .inl tr)), (a_od, .inl (G.2.1, 60, .inl q7.2.1)), (a_rk, .inl (G.2.1, 60, .inl q7.2.2)), (a_be, .inl (G.2.1, 60, .inl be)), (a_fr, .inl (G.2.1, 12, .inl fr))] C0 (c_M_longest l G mo a_sc a_nw a_tr a_di a_ke a_ik a_od a_rk a_be a_fr a_tr rf ss ac fs od rk tr hq7) (cwV 1 hts gX6_does_X6_longest rfl rfl rfl (by decide +kernel) ⟨Nat.le_of_ble_eq_true rfl, Nat.le_of_ble_eq_true rfl⟩) hK hP hD [0, 2, 3, 1] [4, 5] [2, 5, 3, 4, 0, 1] rfl rfl (by decide) (by decide) rfl 0 6 rfl rfl rfl hS hA rfl hl.1 rfl (Nat.le_of_ble_eq_true rfl) dX6_does_229 ⟨Nat.zero_le _, Nat.zero_le _⟩ (fun H locs hP hD hS => ?_)
        refine lv_iload hx hb dX6_does_232 (lv_at hl 5 rfl) ?_
        refine lv_icmp_lt (tgt := 241) hx hb dX6_does_234 (by decide) (fun hc => ?_) (fun hc => ?_)
        · replace hp := fl_t hc hp
          refine lv_iconst (v := (0 : Int32)) hx hb dX6_does_241 (by decide) ?_
          obtain rfl := Option.some.inj hp
          exact hfin H locs _ ls hP hD hS dX6_does_242 (show narrow .boolean (.int (0 : Int32)) = .int (0 : Int32) from rfl)
        · replace hp := fl_f hc hp
          refine lv_iconst (v := (1 : Int32)) hx hb dX6_does_237 (by decide) ?_
          refine lv_goto (tgt := 242) hx hb dX6_does_238 (by decide) ?_
          obtain rfl := Option.some.inj hp
          exact hfin H locs _ ls hP hD hS dX6_does_242 (show narrow .boolean (.int (1 : Int32)) = .int (1 : Int32) from rfl)
    replace hp := fl_f hc4 hp
    rcases Decidable.em (v2 = (6 : Int32)) with hc5 | hc5
    · replace hp := fl_t hc5 hp
      refine lv_tableIn (off := 197) (tgt := 243) hx hb dX6_does_46 (by rw [hc5]; decide) (by rw [hc5]; decide) (by rw [hc5]; rfl) (by decide) ?_
      refine lv_iload hx hb dX6_does_243 (lv_at hl 0 rfl) ?_
      refine lv_if_eq (tgt := 265) hx hb dX6_does_245 (by decide) (fun hc => ?_) (fun hc => ?_)
      · replace hp := fl_t hc hp
        refine lv_iconst (v := (0 : Int32)) hx hb dX6_does_265 (by decide) ?_
        obtain rfl := Option.some.inj hp
        exact hfin H locs _ ls hP hD hS dX6_does_266 (show narrow .boolean (.int (0 : Int32)) = .int (0 : Int32) from rfl)
      · replace hp := fl_f hc hp
        refine lv_aload_n hx hb dX6_does_248 rfl (lv_at hl 1 rfl) ?_
        refine lv_aload_n hx hb dX6_does_249 rfl (lv_at hl 1 rfl) ?_
        refine va_get (D := G.1) (ci := 6) (v := .ref a_tr) (C := RX6) (T := TX6) (N := 14) hx hb hts iX6 hown hK.1 hP 0 rfl rfl 4 (by decide) (hts (.fieldLink RX6 16 "SongChoirModel" "trial" "[I") (List.mem_of_getElem? (i := 1) rfl)) (fun _ h9 => h9) rfl dX6_does_250 ?_
        obtain ⟨q8, hq8, hp⟩ := fl_bd_of hp
        refine fl_muV (As := [.ref a_tr]) (rest := []) [(mo, .inr (6, [.int rf, .ref a_sc, .int ss, .ref a_nw, .ref a_tr, .ref a_di, .int ac, .ref a_ke, .ref a_ik, .ref a_od, .ref a_rk, .ref a_be, .ref a_fr, .int fs])), (a_tr, .inl (G.2.1, 126, .inl tr)), (a_od, .inl (G.2.1, 60, .inl q8.2.1)), (a_rk, .inl (G.2.1, 60, .inl q8.2.2)), (a_be, .inl (G.2.1, 60, .inl be)), (a_fr, .inl (G.2.1, 12, .inl fr))] C0 (c_M_pieces l G mo a_sc a_nw a_tr a_di a_ke a_ik a_od a_rk a_be a_fr a_tr rf ss ac fs od rk tr hq8) (cwV 1 hts gX6_does_X6_pieces rfl rfl rfl (by decide +kernel) ⟨Nat.le_of_ble_eq_true rfl, Nat.le_of_ble_eq_true rfl⟩) hK hP hD [0, 2, 3, 1] [4, 5] [2, 5, 3, 4, 0, 1] rfl rfl (by decide) (by decide) rfl 0 6 rfl rfl rfl hS hA rfl hl.1 rfl (Nat.le_of_ble_eq_true rfl) dX6_does_253 ⟨Nat.zero_le _, Nat.zero_le _⟩ (fun H locs hP hD hS => ?_)
        refine lv_iload hx hb dX6_does_256 (lv_at hl 6 rfl) ?_
        refine lv_icmp_lt (tgt := 265) hx hb dX6_does_258 (by decide) (fun hc => ?_) (fun hc => ?_)
        · replace hp := fl_t hc hp
          refine lv_iconst (v := (0 : Int32)) hx hb dX6_does_265 (by decide) ?_
          obtain rfl := Option.some.inj hp
          exact hfin H locs _ ls hP hD hS dX6_does_266 (show narrow .boolean (.int (0 : Int32)) = .int (0 : Int32) from rfl)
        · replace hp := fl_f hc hp
          refine lv_iconst (v := (1 : Int32)) hx hb dX6_does_261 (by decide) ?_
          refine lv_goto (tgt := 266) hx hb dX6_does_262 (by decide) ?_
          obtain rfl := Option.some.inj hp
          exact hfin H locs _ ls hP hD hS dX6_does_266 (show narrow .boolean (.int (1 : Int32)) = .int (1 : Int32) from rfl)
    replace hp := fl_f hc5 hp
    rcases Decidable.em (v2 = (7 : Int32)) with hc6 | hc6
    · replace hp := fl_t hc6 hp
      refine lv_tableIn (off := 221) (tgt := 267) hx hb dX6_does_46 (by rw [hc6]; decide) (by rw [hc6]; decide) (by rw [hc6]; rfl) (by decide) ?_
      refine lv_iload_n hx hb dX6_does_267 rfl (lv_at hl 4 rfl) ?_
      refine lv_if_ne (tgt := 286) hx hb dX6_does_268 (by decide) (fun hc => ?_) (fun hc => ?_)
      · replace hp := fl_f hc hp
        refine lv_iconst (v := (0 : Int32)) hx hb dX6_does_286 (by decide) ?_
        obtain rfl := Option.some.inj hp
        exact hfin H locs _ ls hP hD hS dX6_does_287 (show narrow .boolean (.int (0 : Int32)) = .int (0 : Int32) from rfl)
      · replace hp := fl_t hc hp
        refine lv_aload_n hx hb dX6_does_271 rfl (lv_at hl 1 rfl) ?_
        refine va_get (D := G.1) (ci := 6) (v := .ref a_tr) (C := RX6) (T := TX6) (N := 14) hx hb hts iX6 hown hK.1 hP 0 rfl rfl 4 (by decide) (hts (.fieldLink RX6 16 "SongChoirModel" "trial" "[I") (List.mem_of_getElem? (i := 1) rfl)) (fun _ h9 => h9) rfl dX6_does_272 ?_
        refine lv_iconst (v := (0 : Int32)) hx hb dX6_does_275 (by decide) ?_
        obtain ⟨hi, hp⟩ := fl_ck_of hp
        refine va_iald hx hb hK.1 hP 1 0 rfl rfl hi dX6_does_276 ?_
        refine lv_iload hx hb dX6_does_277 (lv_at hl 5 rfl) ?_
        refine lv_icmp_lt (tgt := 286) hx hb dX6_does_279 (by decide) (fun hc => ?_) (fun hc => ?_)
        · replace hp := fl_t hc hp
          refine lv_iconst (v := (0 : Int32)) hx hb dX6_does_286 (by decide) ?_
          obtain rfl := Option.some.inj hp
          exact hfin H locs _ ls hP hD hS dX6_does_287 (show narrow .boolean (.int (0 : Int32)) = .int (0 : Int32) from rfl)
        · replace hp := fl_f hc hp
          refine lv_iconst (v := (1 : Int32)) hx hb dX6_does_282 (by decide) ?_
          refine lv_goto (tgt := 287) hx hb dX6_does_283 (by decide) ?_
          obtain rfl := Option.some.inj hp
          exact hfin H locs _ ls hP hD hS dX6_does_287 (show narrow .boolean (.int (1 : Int32)) = .int (1 : Int32) from rfl)
    replace hp := fl_f hc6 hp
    rcases Decidable.em (v2 = (8 : Int32)) with hc7 | hc7
    · replace hp := fl_t hc7 hp
      refine lv_tableIn (off := 242) (tgt := 288) hx hb dX6_does_46 (by rw [hc7]; decide) (by rw [hc7]; decide) (by rw [hc7]; rfl) (by decide) ?_
      refine lv_iload_n hx hb dX6_does_288 rfl (lv_at hl 4 rfl) ?_
      refine lv_i2l (v := v3.toInt64) hx hb dX6_does_289 rfl ?_
      refine lv_lconst (v := (1 : Int64)) hx hb dX6_does_290 (by decide) ?_
      refine lv_ldc2 (v := (12 : Int64)) hx hb hown (hts (.constantLong RX6 147 (12)) (List.mem_of_getElem? (i := 2) rfl)) dX6_does_291 ?_
      obtain ⟨q9, hq9, hp⟩ := fl_bd_of hp
      refine fl_roS (As := [.long v3.toInt64, .long (1 : Int64), .long (12 : Int64)]) (rest := []) C0 (c_M_in l G v3.toInt64 (1 : Int64) (12 : Int64) hq9) (va_cwS 3 hts gX6_does_X6_in rfl rfl rfl (by decide +kernel) ⟨Nat.le_of_ble_eq_true rfl, Nat.le_of_ble_eq_true rfl⟩) hK hP [] rfl hS hA rfl hl.1 rfl (Nat.le_of_ble_eq_true rfl) dX6_does_294 ⟨Nat.zero_le _, Nat.zero_le _⟩ (fun H locs hP hS => ?_)
      refine lv_if_eq (tgt := 317) hx hb dX6_does_297 (by decide) (fun hc => ?_) (fun hc => ?_)
      · replace hp := fl_t hc hp
        refine lv_iconst (v := (0 : Int32)) hx hb dX6_does_317 (by decide) ?_
        obtain rfl := Option.some.inj hp
        exact hfin H locs _ ls hP hD hS dX6_does_318 (show narrow .boolean (.int (0 : Int32)) = .int (0 : Int32) from rfl)
      · replace hp := fl_f hc hp
        refine lv_aload_n hx hb dX6_does_300 rfl (lv_at hl 1 rfl) ?_
        refine va_get (D := G.1) (ci := 6) (v := .ref a_tr) (C := RX6) (T := TX6) (N := 14) hx hb hts iX6 hown hK.1 hP 0 rfl rfl 4 (by decide) (hts (.fieldLink RX6 16 "SongChoirModel" "trial" "[I") (List.mem_of_getElem? (i := 1) rfl)) (fun _ h9 => h9) rfl dX6_does_301 ?_
        refine lv_iload_n hx hb dX6_does_304 rfl (lv_at hl 4 rfl) ?_
        obtain ⟨q10, hq10, hp⟩ := fl_bd_of hp
        refine fl_roS (As := [.ref a_tr, .int v3]) (rest := []) C0 (c_M_mostTimes l G a_tr tr v3 hq10) (va_cwS 2 hts gX6_does_X6_mostTimes rfl rfl rfl (by decide +kernel) ⟨Nat.le_of_ble_eq_true rfl, Nat.le_of_ble_eq_true rfl⟩) hK hP [1] rfl hS hA rfl hl.1 rfl (Nat.le_of_ble_eq_true rfl) dX6_does_305 ⟨Nat.zero_le _, Nat.zero_le _⟩ (fun H locs hP hS => ?_)
        refine lv_iload hx hb dX6_does_308 (lv_at hl 5 rfl) ?_
        refine lv_icmp_lt (tgt := 317) hx hb dX6_does_310 (by decide) (fun hc => ?_) (fun hc => ?_)
        · replace hp := fl_t hc hp
          refine lv_iconst (v := (0 : Int32)) hx hb dX6_does_317 (by decide) ?_
          obtain rfl := Option.some.inj hp
          exact hfin H locs _ ls hP hD hS dX6_does_318 (show narrow .boolean (.int (0 : Int32)) = .int (0 : Int32) from rfl)
        · replace hp := fl_f hc hp
          refine lv_iconst (v := (1 : Int32)) hx hb dX6_does_313 (by decide) ?_
          refine lv_goto (tgt := 318) hx hb dX6_does_314 (by decide) ?_
          obtain rfl := Option.some.inj hp
          exact hfin H locs _ ls hP hD hS dX6_does_318 (show narrow .boolean (.int (1 : Int32)) = .int (1 : Int32) from rfl)
    replace hp := fl_f hc7 hp
    rcases Decidable.em (v2 = (9 : Int32)) with hc8 | hc8
    · replace hp := fl_t hc8 hp
      refine lv_tableIn (off := 273) (tgt := 319) hx hb dX6_does_46 (by rw [hc8]; decide) (by rw [hc8]; decide) (by rw [hc8]; rfl) (by decide) ?_
      refine lv_iload hx hb dX6_does_319 (lv_at hl 0 rfl) ?_
      refine lv_if_eq (tgt := 339) hx hb dX6_does_321 (by decide) (fun hc => ?_) (fun hc => ?_)
      · replace hp := fl_t hc hp
        refine lv_iconst (v := (0 : Int32)) hx hb dX6_does_339 (by decide) ?_
        obtain rfl := Option.some.inj hp
        exact hfin H locs _ ls hP hD hS dX6_does_340 (show narrow .boolean (.int (0 : Int32)) = .int (0 : Int32) from rfl)
      · replace hp := fl_f hc hp
        refine lv_aload_n hx hb dX6_does_324 rfl (lv_at hl 1 rfl) ?_
        refine va_get (D := G.1) (ci := 6) (v := .ref a_tr) (C := RX6) (T := TX6) (N := 14) hx hb hts iX6 hown hK.1 hP 0 rfl rfl 4 (by decide) (hts (.fieldLink RX6 16 "SongChoirModel" "trial" "[I") (List.mem_of_getElem? (i := 1) rfl)) (fun _ h9 => h9) rfl dX6_does_325 ?_
        refine lv_iconst (v := (4 : Int32)) hx hb dX6_does_328 (by decide) ?_
        obtain ⟨hi, hp⟩ := fl_ck_of hp
        refine va_iald hx hb hK.1 hP 1 0 rfl rfl hi dX6_does_329 ?_
        refine lv_iload hx hb dX6_does_330 (lv_at hl 6 rfl) ?_
        refine lv_icmp_gt (tgt := 339) hx hb dX6_does_332 (by decide) (fun hc => ?_) (fun hc => ?_)
        · replace hp := fl_t hc hp
          refine lv_iconst (v := (0 : Int32)) hx hb dX6_does_339 (by decide) ?_
          obtain rfl := Option.some.inj hp
          exact hfin H locs _ ls hP hD hS dX6_does_340 (show narrow .boolean (.int (0 : Int32)) = .int (0 : Int32) from rfl)
        · replace hp := fl_f hc hp
          refine lv_iconst (v := (1 : Int32)) hx hb dX6_does_335 (by decide) ?_
          refine lv_goto (tgt := 340) hx hb dX6_does_336 (by decide) ?_
          obtain rfl := Option.some.inj hp
          exact hfin H locs _ ls hP hD hS dX6_does_340 (show narrow .boolean (.int (1 : Int32)) = .int (1 : Int32) from rfl)
    replace hp := fl_f hc8 hp
    refine lv_tableOut (tgt := 341) hx hb dX6_does_46 (by have q0 := lv_neT hc0 (a := 1) (by decide); have q1 := lv_neT hc1 (a := 2) (by decide); have q2 := lv_neT hc2 (a := 3) (by decide); have q3 := lv_neT hc3 (a := 4) (by decide); have q4 := lv_neT hc4 (a := 5) (by decide); have q5 := lv_neT hc5 (a := 6) (by decide); have q6 := lv_neT hc6 (a := 7) (by decide); have q7 := lv_neT hc7 (a := 8) (by decide); have q8 := lv_neT hc8 (a := 9) (by decide); omega) (by decide) ?_
    refine lv_iconst (v := (0 : Int32)) hx hb dX6_does_341 (by decide) ?_
    obtain rfl := Option.some.inj hp
    exact hfin H locs _ ls hP hD hS dX6_does_342 (show narrow .boolean (.int (0 : Int32)) = .int (0 : Int32) from rfl)
  have hp := hp0
  unfold P_M_does at hp
  refine lv_iload_n hx hb dX6_does_0 rfl (lv_at hl 1 rfl) ?_
  refine lv_sipush (v := (10000 : Int32)) hx hb dX6_does_1 (by decide) ?_
  refine lv_idiv hx hb dX6_does_4 (by decide) ?_
  refine lv_istore_n (lv' := [(2, .int (p0 / (10000 : Int32))), (0, .ref mo), (1, .int p0)]) hx hb dX6_does_5 rfl hl (by decide) rfl (fun ls hl => ?_)
  refine lv_iload_n hx hb dX6_does_6 rfl (lv_at hl 2 rfl) ?_
  refine lv_bipush (v := (100 : Int32)) hx hb dX6_does_7 (by decide) ?_
  refine lv_idiv hx hb dX6_does_9 (by decide) ?_
  refine lv_bipush (v := (100 : Int32)) hx hb dX6_does_10 (by decide) ?_
  refine lv_irem hx hb dX6_does_12 (by decide) ?_
  refine lv_istore_n (lv' := [(3, .int ((p0 / (100 : Int32)) - (p0 / (100 : Int32)) / (100 : Int32) * (100 : Int32))), (2, .int (p0 / (10000 : Int32))), (0, .ref mo), (1, .int p0)]) hx hb dX6_does_13 rfl hl (by decide) rfl (fun ls hl => ?_)
  refine lv_iload_n hx hb dX6_does_14 rfl (lv_at hl 3 rfl) ?_
  refine lv_bipush (v := (100 : Int32)) hx hb dX6_does_15 (by decide) ?_
  refine lv_irem hx hb dX6_does_17 (by decide) ?_
  refine lv_istore (lv' := [(4, .int (p0 - p0 / (100 : Int32) * (100 : Int32))), (3, .int ((p0 / (100 : Int32)) - (p0 / (100 : Int32)) / (100 : Int32) * (100 : Int32))), (2, .int (p0 / (10000 : Int32))), (0, .ref mo), (1, .int p0)]) hx hb dX6_does_18 hl (by decide) rfl (fun ls hl => ?_)
  refine lv_iload_n hx hb dX6_does_20 rfl (lv_at hl 4 rfl) ?_
  refine lv_sipush (v := (1000 : Int32)) hx hb dX6_does_21 (by decide) ?_
  refine lv_irem hx hb dX6_does_24 (by decide) ?_
  refine lv_istore (lv' := [(5, .int (p0 - p0 / (1000 : Int32) * (1000 : Int32))), (4, .int (p0 - p0 / (100 : Int32) * (100 : Int32))), (3, .int ((p0 / (100 : Int32)) - (p0 / (100 : Int32)) / (100 : Int32) * (100 : Int32))), (2, .int (p0 / (10000 : Int32))), (0, .ref mo), (1, .int p0)]) hx hb dX6_does_25 hl (by decide) rfl (fun ls hl => ?_)
  refine lv_iload_n hx hb dX6_does_27 rfl (lv_at hl 5 rfl) ?_
  refine lv_sipush (v := (1000 : Int32)) hx hb dX6_does_28 (by decide) ?_
  refine lv_idiv hx hb dX6_does_31 (by decide) ?_
  refine lv_bipush (v := (10 : Int32)) hx hb dX6_does_32 (by decide) ?_
  refine lv_irem hx hb dX6_does_34 (by decide) ?_
  refine lv_if_ne (tgt := 42) hx hb dX6_does_35 (by decide) (fun hc => ?_) (fun hc => ?_)
  · replace hp := fl_f hc hp
    refine lv_iconst (v := (0 : Int32)) hx hb dX6_does_42 (by decide) ?_
    exact KJ43 tr od rk be fr fs (p0 / (10000 : Int32)) ((p0 / (100 : Int32)) - (p0 / (100 : Int32)) / (100 : Int32) * (100 : Int32)) (p0 - p0 / (100 : Int32) * (100 : Int32)) (p0 - p0 / (1000 : Int32) * (1000 : Int32)) (0 : Int32) H locs hP hD hS ls (lv_sub hl [4, 5, 3, 2, 1, 0] rfl) hp
  · replace hp := fl_t hc hp
    refine lv_iconst (v := (1 : Int32)) hx hb dX6_does_38 (by decide) ?_
    refine lv_goto (tgt := 43) hx hb dX6_does_39 (by decide) ?_
    exact KJ43 tr od rk be fr fs (p0 / (10000 : Int32)) ((p0 / (100 : Int32)) - (p0 / (100 : Int32)) / (100 : Int32) * (100 : Int32)) (p0 - p0 / (100 : Int32) * (100 : Int32)) (p0 - p0 / (1000 : Int32) * (1000 : Int32)) (1 : Int32) H locs hP hD hS ls (lv_sub hl [4, 5, 3, 2, 1, 0] rfl) hp

noncomputable def P_M_runScript_L62 (rf : Int32) (nw : fl_A) (p0 : Int32) (p1 : Int64) (z62 : (Int32 × fl_A × fl_A × fl_A × fl_A × fl_A × Int32)) : Option ((Int32 × fl_A × fl_A × fl_A × fl_A × fl_A × Int32) ⊕ (Int32 × Int32 × fl_A × fl_A × fl_A × fl_A × fl_A × Int32)) := if p0 ≤ z62.1 then some (.inr ((-1 : Int32), rf, z62.2.1, z62.2.2.1, z62.2.2.2.1, z62.2.2.2.2.1, z62.2.2.2.2.2.1, z62.2.2.2.2.2.2)) else fl_bd (P_M_tenTo ((5 : Int32) * ((p0 - (1 : Int32)) - z62.1))) (fun q1 => fl_nzl q1 (fl_bd (P_M_does z62.2.1 z62.2.2.1 z62.2.2.2.1 z62.2.2.2.2.1 z62.2.2.2.2.2.1 z62.2.2.2.2.2.2 (((p1 / q1) - (p1 / q1) / (100000 : Int64) * (100000 : Int64)).toInt32)) (fun q2 => if q2.1 = 0 then some (.inr (z62.1, rf, q2.2.1, q2.2.2.1, q2.2.2.2.1, q2.2.2.2.2.1, q2.2.2.2.2.2.1, q2.2.2.2.2.2.2)) else some (.inl ((z62.1 + (1 : Int32)), q2.2.1, q2.2.2.1, q2.2.2.2.1, q2.2.2.2.2.1, q2.2.2.2.2.2.1, q2.2.2.2.2.2.2)))))
noncomputable def P_M_runScript_J47 (rf : Int32) (nw : fl_A) (tr : fl_A) (od : fl_A) (rk : fl_A) (be : fl_A) (fr : fl_A) (fs : Int32) (p0 : Int32) (p1 : Int64) (k0 : Int32) : Option (Int32 × Int32 × fl_A × fl_A × fl_A × fl_A × fl_A × Int32) := fl_bd (P_M_refused rf k0) (fun q1 => if q1.1 = 0 then fl_bd (P_M_begin nw tr) (fun q2 => fl_loop (P_M_runScript_L62 q1.2 nw p0 p1) ((0 : Int32), q2, od, rk, be, fr, fs)) else some ((0 : Int32), q1.2, tr, od, rk, be, fr, fs))
noncomputable def P_M_runScript_J46 (rf : Int32) (nw : fl_A) (tr : fl_A) (od : fl_A) (rk : fl_A) (be : fl_A) (fr : fl_A) (fs : Int32) (p0 : Int32) (p1 : Int64) : Option (Int32 × Int32 × fl_A × fl_A × fl_A × fl_A × fl_A × Int32) := P_M_runScript_J47 rf nw tr od rk be fr fs p0 p1 (1 : Int32)
noncomputable def P_M_runScript_J31 (rf : Int32) (nw : fl_A) (tr : fl_A) (od : fl_A) (rk : fl_A) (be : fl_A) (fr : fl_A) (fs : Int32) (p0 : Int32) (p1 : Int64) (k0 : Int32) (k1 : Int64) (k2 : Int64) : Option (Int32 × Int32 × fl_A × fl_A × fl_A × fl_A × fl_A × Int32) := fl_bd (P_M_tenTo k0) (fun q1 => fl_bd (P_M_in k2 k1 (q1 - (1 : Int64))) (fun q2 => if q2 = 0 then P_M_runScript_J46 rf nw tr od rk be fr fs p0 p1 else P_M_runScript_J47 rf nw tr od rk be fr fs p0 p1 (0 : Int32)))
noncomputable def P_M_runScript (rf : Int32) (nw : fl_A) (tr : fl_A) (od : fl_A) (rk : fl_A) (be : fl_A) (fr : fl_A) (fs : Int32) (p0 : Int32) (p1 : Int64) : Option (Int32 × Int32 × fl_A × fl_A × fl_A × fl_A × fl_A × Int32) := fl_bd (P_M_in p0.toInt64 (1 : Int64) (3 : Int64)) (fun q1 => if q1 = 0 then P_M_runScript_J46 rf nw tr od rk be fr fs p0 p1 else if q1 = 0 then P_M_runScript_J31 rf nw tr od rk be fr fs p0 p1 (0 : Int32) (0 : Int64) p1 else P_M_runScript_J31 rf nw tr od rk be fr fs p0 p1 ((5 : Int32) * p0) (0 : Int64) p1)
set_option maxHeartbeats 4000000 in
set_option maxRecDepth 100000 in
theorem c_M_runScript (l : Launch) (G : fl_G) (mo a_sc a_nw a_tr a_di a_ke a_ik a_od a_rk a_be a_fr : Nat) (ss : Int32) (ac : Int32) (rf : Int32) (nw : fl_A) (tr : fl_A) (od : fl_A) (rk : fl_A) (be : fl_A) (fr : fl_A) (fs : Int32) (p0 : Int32) (p1 : Int64) {r : (Int32 × Int32 × fl_A × fl_A × fl_A × fl_A × fl_A × Int32)} (hp0 : P_M_runScript rf nw tr od rk be fr fs p0 p1 = some r) : fl_mu l yX6_runScript wsX6_runScript 7 166 G [.ref mo, .int p0, .long p1] [(mo, .inr (6, [.int rf, .ref a_sc, .int ss, .ref a_nw, .ref a_tr, .ref a_di, .int ac, .ref a_ke, .ref a_ik, .ref a_od, .ref a_rk, .ref a_be, .ref a_fr, .int fs])), (a_nw, .inl (G.2.1, 126, .inl nw)), (a_tr, .inl (G.2.1, 126, .inl tr)), (a_od, .inl (G.2.1, 60, .inl od)), (a_rk, .inl (G.2.1, 60, .inl rk)), (a_be, .inl (G.2.1, 60, .inl be)), (a_fr, .inl (G.2.1, 12, .inl fr))] (some (.int r.1)) [(mo, .inr (6, [.int r.2.1, .ref a_sc, .int ss, .ref a_nw, .ref a_tr, .ref a_di, .int ac, .ref a_ke, .ref a_ik, .ref a_od, .ref a_rk, .ref a_be, .ref a_fr, .int r.2.2.2.2.2.2.2])), (a_nw, .inl (G.2.1, 126, .inl nw)), (a_tr, .inl (G.2.1, 126, .inl r.2.2.1)), (a_od, .inl (G.2.1, 60, .inl r.2.2.2.1)), (a_rk, .inl (G.2.1, 60, .inl r.2.2.2.2.1)), (a_be, .inl (G.2.1, 60, .inl r.2.2.2.2.2.1)), (a_fr, .inl (G.2.1, 12, .inl r.2.2.2.2.2.2.1))] := by
  refine fl_mui_in cX6_runScript 6 .int RX6 (by decide) rfl rfl (Nat.le_of_ble_eq_true rfl) ?_
  intro p e s m args below meth c ls A Q H locs C0 hK hP hD hS hA hl hfin
  obtain ⟨hx, hb, hml, hown, hts⟩ := id C0
  have hl : lv_has ls 6 [(0, .ref mo), (1, .int p0), (2, .long p1)] := hl
  have KL62 : ∀ (rf : Int32) (n0 : Nat) (z62 : (Int32 × fl_A × fl_A × fl_A × fl_A × fl_A × Int32)) (H : Heap) (locs : List Loc), va_P G.1 vwCl [(mo, .inr (6, [.int rf, .ref a_sc, .int ss, .ref a_nw, .ref a_tr, .ref a_di, .int ac, .ref a_ke, .ref a_ik, .ref a_od, .ref a_rk, .ref a_be, .ref a_fr, .int z62.2.2.2.2.2.2])), (a_nw, .inl (G.2.1, 126, .inl nw)), (a_tr, .inl (G.2.1, 126, .inl z62.2.1)), (a_od, .inl (G.2.1, 60, .inl z62.2.2.1)), (a_rk, .inl (G.2.1, 60, .inl z62.2.2.2.1)), (a_be, .inl (G.2.1, 60, .inl z62.2.2.2.2.1)), (a_fr, .inl (G.2.1, 12, .inl z62.2.2.2.2.2.1))] H → va_D A [(mo, .inr (6, [.int rf, .ref a_sc, .int ss, .ref a_nw, .ref a_tr, .ref a_di, .int ac, .ref a_ke, .ref a_ik, .ref a_od, .ref a_rk, .ref a_be, .ref a_fr, .int z62.2.2.2.2.2.2])), (a_nw, .inl (G.2.1, 126, .inl nw)), (a_tr, .inl (G.2.1, 126, .inl z62.2.1)), (a_od, .inl (G.2.1, 60, .inl z62.2.2.1)), (a_rk, .inl (G.2.1, 60, .inl z62.2.2.2.1)), (a_be, .inl (G.2.1, 60, .inl z62.2.2.2.2.1)), (a_fr, .inl (G.2.1, 12, .inl z62.2.2.2.2.2.1))] → va_S A s.heap H locs → ∀ (ls : Array Slot), lv_has ls 6 [(0, .ref mo), (1, .int p0), (2, .long p1), (5, .int z62.1)] → fl_loopN (P_M_runScript_L62 rf nw p0 p1) n0 z62 = some r → W p l e (fl_rm 7 166) s m args below meth c H locs 0 0 Q (F0 m 62 ls []) := by
    intro rf n0
    induction n0 with
    | zero => intro z62 H locs hP hD hS ls hl hn; exact (fl_loopN_0 hn).elim
    | succ n0 ih62 =>
      intro z62 H locs hP hD hS ls hl hn
      obtain ⟨y62, hb62, hy62⟩ := fl_loopN_step hn
      clear hn
      have hp := hb62
      unfold P_M_runScript_L62 at hp
      refine lv_iload hx hb dX6_runScript_62 (lv_at hl 3 rfl) ?_
      refine lv_iload_n hx hb dX6_runScript_64 rfl (lv_at hl 1 rfl) ?_
      refine lv_icmp_ge (tgt := 102) hx hb dX6_runScript_65 (by decide) (fun hc => ?_) (fun hc => ?_)
      · replace hp := fl_t hc hp
        refine lv_iconst (v := (-1 : Int32)) hx hb dX6_runScript_102 (by decide) ?_
        obtain rfl := Option.some.inj hp
        obtain rfl := fl_cont_inr hy62
        exact hfin H locs _ ls hP hD hS dX6_runScript_103 rfl
      · replace hp := fl_f hc hp
        refine lv_aload_n hx hb dX6_runScript_68 rfl (lv_at hl 0 rfl) ?_
        refine lv_lload_n hx hb dX6_runScript_69 rfl (lv_at hl 2 rfl) ?_
        refine lv_iconst (v := (5 : Int32)) hx hb dX6_runScript_70 (by decide) ?_
        refine lv_iload_n hx hb dX6_runScript_71 rfl (lv_at hl 1 rfl) ?_
        refine lv_iconst (v := (1 : Int32)) hx hb dX6_runScript_72 (by decide) ?_
        refine lv_isub hx hb dX6_runScript_73 ?_
        refine lv_iload hx hb dX6_runScript_74 (lv_at hl 3 rfl) ?_
        refine lv_isub hx hb dX6_runScript_76 ?_
        refine lv_imul hx hb dX6_runScript_77 ?_
        obtain ⟨q1, hq1, hp⟩ := fl_bd_of hp
        refine fl_roS (As := [.int ((5 : Int32) * ((p0 - (1 : Int32)) - z62.1))]) (rest := [.long p1, .ref mo]) C0 (c_M_tenTo l G ((5 : Int32) * ((p0 - (1 : Int32)) - z62.1)) hq1) (va_cwS 1 hts gX6_runScript_X6_tenTo rfl rfl rfl (by decide +kernel) ⟨Nat.le_of_ble_eq_true rfl, Nat.le_of_ble_eq_true rfl⟩) hK hP [] rfl hS hA rfl hl.1 rfl (Nat.le_of_ble_eq_true rfl) dX6_runScript_78 ⟨Nat.zero_le _, Nat.zero_le _⟩ (fun H locs hP hS => ?_)
        obtain ⟨hne, hp⟩ := fl_nzl_of hp
        refine lv_ldiv hx hb dX6_runScript_81 hne ?_
        refine lv_ldc2 (v := (100000 : Int64)) hx hb hown (hts (.constantLong RX6 186 (100000)) (List.mem_of_getElem? (i := 2) rfl)) dX6_runScript_82 ?_
        refine lv_lrem hx hb dX6_runScript_85 (by decide) ?_
        refine lv_l2i (v := ((p1 / q1) - (p1 / q1) / (100000 : Int64) * (100000 : Int64)).toInt32) hx hb dX6_runScript_86 rfl ?_
        obtain ⟨q2, hq2, hp⟩ := fl_bd_of hp
        refine fl_muV (As := [.int (((p1 / q1) - (p1 / q1) / (100000 : Int64) * (100000 : Int64)).toInt32)]) (rest := []) [(mo, .inr (6, [.int rf, .ref a_sc, .int ss, .ref a_nw, .ref a_tr, .ref a_di, .int ac, .ref a_ke, .ref a_ik, .ref a_od, .ref a_rk, .ref a_be, .ref a_fr, .int q2.2.2.2.2.2.2])), (a_nw, .inl (G.2.1, 126, .inl nw)), (a_tr, .inl (G.2.1, 126, .inl q2.2.1)), (a_od, .inl (G.2.1, 60, .inl q2.2.2.1)), (a_rk, .inl (G.2.1, 60, .inl q2.2.2.2.1)), (a_be, .inl (G.2.1, 60, .inl q2.2.2.2.2.1)), (a_fr, .inl (G.2.1, 12, .inl q2.2.2.2.2.2.1))] C0 (c_M_does l G mo a_sc a_nw a_tr a_di a_ke a_ik a_od a_rk a_be a_fr rf ss ac z62.2.1 z62.2.2.1 z62.2.2.2.1 z62.2.2.2.2.1 z62.2.2.2.2.2.1 z62.2.2.2.2.2.2 (((p1 / q1) - (p1 / q1) / (100000 : Int64) * (100000 : Int64)).toInt32) hq2) (cwV 1 hts gX6_runScript_X6_does rfl rfl rfl (by decide +kernel) ⟨Nat.le_of_ble_eq_true rfl, Nat.le_of_ble_eq_true rfl⟩) hK hP hD [0, 2, 3, 4, 5, 6] [1] [1, 0, 2, 3, 4, 5, 6] rfl rfl (by decide) (by decide) rfl 0 6 rfl rfl rfl hS hA rfl hl.1 rfl (Nat.le_of_ble_eq_true rfl) dX6_runScript_87 ⟨Nat.zero_le _, Nat.zero_le _⟩ (fun H locs hP hD hS => ?_)
        refine lv_if_ne (tgt := 96) hx hb dX6_runScript_90 (by decide) (fun hc => ?_) (fun hc => ?_)
        · replace hp := fl_f hc hp
          refine lv_iinc (v := (z62.1 + (1 : Int32))) (lv' := [(5, .int (z62.1 + (1 : Int32))), (0, .ref mo), (1, .int p0), (2, .long p1)]) hx hb dX6_runScript_96 hl (k := 3) rfl rfl (by decide) rfl (fun ls hl => ?_)
          refine lv_goto (tgt := 62) hx hb dX6_runScript_99 (by decide) ?_
          obtain rfl := Option.some.inj hp
          exact ih62 ((z62.1 + (1 : Int32)), q2.2.1, q2.2.2.1, q2.2.2.2.1, q2.2.2.2.2.1, q2.2.2.2.2.2.1, q2.2.2.2.2.2.2) H locs hP hD hS ls (lv_sub hl [1, 2, 3, 0] rfl) (fl_cont_inl hy62)
        · replace hp := fl_t hc hp
          refine lv_iload hx hb dX6_runScript_93 (lv_at hl 3 rfl) ?_
          obtain rfl := Option.some.inj hp
          obtain rfl := fl_cont_inr hy62
          exact hfin H locs _ ls hP hD hS dX6_runScript_95 rfl
  have KJ47 : ∀ (rf : Int32) (tr : fl_A) (od : fl_A) (rk : fl_A) (be : fl_A) (fr : fl_A) (fs : Int32) (k0 : Int32) (H : Heap) (locs : List Loc), va_P G.1 vwCl [(mo, .inr (6, [.int rf, .ref a_sc, .int ss, .ref a_nw, .ref a_tr, .ref a_di, .int ac, .ref a_ke, .ref a_ik, .ref a_od, .ref a_rk, .ref a_be, .ref a_fr, .int fs])), (a_nw, .inl (G.2.1, 126, .inl nw)), (a_tr, .inl (G.2.1, 126, .inl tr)), (a_od, .inl (G.2.1, 60, .inl od)), (a_rk, .inl (G.2.1, 60, .inl rk)), (a_be, .inl (G.2.1, 60, .inl be)), (a_fr, .inl (G.2.1, 12, .inl fr))] H → va_D A [(mo, .inr (6, [.int rf, .ref a_sc, .int ss, .ref a_nw, .ref a_tr, .ref a_di, .int ac, .ref a_ke, .ref a_ik, .ref a_od, .ref a_rk, .ref a_be, .ref a_fr, .int fs])), (a_nw, .inl (G.2.1, 126, .inl nw)), (a_tr, .inl (G.2.1, 126, .inl tr)), (a_od, .inl (G.2.1, 60, .inl od)), (a_rk, .inl (G.2.1, 60, .inl rk)), (a_be, .inl (G.2.1, 60, .inl be)), (a_fr, .inl (G.2.1, 12, .inl fr))] → va_S A s.heap H locs → ∀ (ls : Array Slot), lv_has ls 6 [(0, .ref mo), (1, .int p0), (2, .long p1)] → P_M_runScript_J47 rf nw tr od rk be fr fs p0 p1 k0 = some r → W p l e (fl_rm 7 166) s m args below meth c H locs 0 0 Q (F0 m 47 ls [.int k0, .ref mo]) := by
    intro rf tr od rk be fr fs k0 H locs hP hD hS ls hl hp
    unfold P_M_runScript_J47 at hp
    obtain ⟨q1, hq1, hp⟩ := fl_bd_of hp
    refine fl_muV (As := [.int k0]) (rest := []) [(mo, .inr (6, [.int q1.2, .ref a_sc, .int ss, .ref a_nw, .ref a_tr, .ref a_di, .int ac, .ref a_ke, .ref a_ik, .ref a_od, .ref a_rk, .ref a_be, .ref a_fr, .int fs])), (a_nw, .inl (G.2.1, 126, .inl nw)), (a_tr, .inl (G.2.1, 126, .inl tr)), (a_od, .inl (G.2.1, 60, .inl od)), (a_rk, .inl (G.2.1, 60, .inl rk)), (a_be, .inl (G.2.1, 60, .inl be)), (a_fr, .inl (G.2.1, 12, .inl fr))] C0 (c_M_refused l G mo a_sc a_nw a_tr a_di a_ke a_ik a_od a_rk a_be a_fr ss ac fs rf k0 hq1) (cwV 1 hts gX6_runScript_X6_refused rfl rfl rfl (by decide +kernel) ⟨Nat.le_of_ble_eq_true rfl, Nat.le_of_ble_eq_true rfl⟩) hK hP hD [0] [1, 2, 3, 4, 5, 6] [6, 0, 1, 2, 3, 4, 5] rfl rfl (by decide) (by decide) rfl 0 6 rfl rfl rfl hS hA rfl hl.1 rfl (Nat.le_of_ble_eq_true rfl) dX6_runScript_47 ⟨Nat.zero_le _, Nat.zero_le _⟩ (fun H locs hP hD hS => ?_)
    refine lv_if_eq (tgt := 55) hx hb dX6_runScript_50 (by decide) (fun hc => ?_) (fun hc => ?_)
    · replace hp := fl_t hc hp
      refine lv_aload_n hx hb dX6_runScript_55 rfl (lv_at hl 0 rfl) ?_
      obtain ⟨q2, hq2, hp⟩ := fl_bd_of hp
      refine fl_muV (As := []) (rest := []) [(mo, .inr (6, [.int q1.2, .ref a_sc, .int ss, .ref a_nw, .ref a_tr, .ref a_di, .int ac, .ref a_ke, .ref a_ik, .ref a_od, .ref a_rk, .ref a_be, .ref a_fr, .int fs])), (a_nw, .inl (G.2.1, 126, .inl nw)), (a_tr, .inl (G.2.1, 126, .inl q2)), (a_od, .inl (G.2.1, 60, .inl od)), (a_rk, .inl (G.2.1, 60, .inl rk)), (a_be, .inl (G.2.1, 60, .inl be)), (a_fr, .inl (G.2.1, 12, .inl fr))] C0 (c_M_begin l G mo a_sc a_nw a_tr a_di a_ke a_ik a_od a_rk a_be a_fr q1.2 ss ac fs nw tr hq2) (cwV 0 hts gX6_runScript_X6_begin rfl rfl rfl (by decide +kernel) ⟨Nat.le_of_ble_eq_true rfl, Nat.le_of_ble_eq_true rfl⟩) hK hP hD [0, 1, 2] [3, 4, 5, 6] [4, 5, 6, 0, 1, 2, 3] rfl rfl (by decide) (by decide) rfl 0 6 rfl rfl rfl hS hA rfl hl.1 rfl (Nat.le_of_ble_eq_true rfl) dX6_runScript_56 ⟨Nat.zero_le _, Nat.zero_le _⟩ (fun H locs hP hD hS => ?_)
      refine lv_iconst (v := (0 : Int32)) hx hb dX6_runScript_59 (by decide) ?_
      refine lv_istore (lv' := [(5, .int (0 : Int32)), (0, .ref mo), (1, .int p0), (2, .long p1)]) hx hb dX6_runScript_60 hl (by decide) rfl (fun ls hl => ?_)
      obtain ⟨n0, hn⟩ := fl_loop_ex hp
      exact KL62 q1.2 n0 ((0 : Int32), q2, od, rk, be, fr, fs) H locs hP hD hS ls (lv_sub hl [1, 2, 3, 0] rfl) hn
    · replace hp := fl_f hc hp
      refine lv_iconst (v := (0 : Int32)) hx hb dX6_runScript_53 (by decide) ?_
      obtain rfl := Option.some.inj hp
      exact hfin H locs _ ls hP hD hS dX6_runScript_54 rfl
  have KJ46 : ∀ (rf : Int32) (tr : fl_A) (od : fl_A) (rk : fl_A) (be : fl_A) (fr : fl_A) (fs : Int32) (H : Heap) (locs : List Loc), va_P G.1 vwCl [(mo, .inr (6, [.int rf, .ref a_sc, .int ss, .ref a_nw, .ref a_tr, .ref a_di, .int ac, .ref a_ke, .ref a_ik, .ref a_od, .ref a_rk, .ref a_be, .ref a_fr, .int fs])), (a_nw, .inl (G.2.1, 126, .inl nw)), (a_tr, .inl (G.2.1, 126, .inl tr)), (a_od, .inl (G.2.1, 60, .inl od)), (a_rk, .inl (G.2.1, 60, .inl rk)), (a_be, .inl (G.2.1, 60, .inl be)), (a_fr, .inl (G.2.1, 12, .inl fr))] H → va_D A [(mo, .inr (6, [.int rf, .ref a_sc, .int ss, .ref a_nw, .ref a_tr, .ref a_di, .int ac, .ref a_ke, .ref a_ik, .ref a_od, .ref a_rk, .ref a_be, .ref a_fr, .int fs])), (a_nw, .inl (G.2.1, 126, .inl nw)), (a_tr, .inl (G.2.1, 126, .inl tr)), (a_od, .inl (G.2.1, 60, .inl od)), (a_rk, .inl (G.2.1, 60, .inl rk)), (a_be, .inl (G.2.1, 60, .inl be)), (a_fr, .inl (G.2.1, 12, .inl fr))] → va_S A s.heap H locs → ∀ (ls : Array Slot), lv_has ls 6 [(0, .ref mo), (1, .int p0), (2, .long p1)] → P_M_runScript_J46 rf nw tr od rk be fr fs p0 p1 = some r → W p l e (fl_rm 7 166) s m args below meth c H locs 0 0 Q (F0 m 46 ls [.ref mo]) := by
    intro rf tr od rk be fr fs H locs hP hD hS ls hl hp
    unfold P_M_runScript_J46 at hp
    refine lv_iconst (v := (1 : Int32)) hx hb dX6_runScript_46 (by decide) ?_
    exact KJ47 rf tr od rk be fr fs (1 : Int32) H locs hP hD hS ls (lv_sub hl [0, 1, 2] rfl) hp
  have KJ31 : ∀ (rf : Int32) (tr : fl_A) (od : fl_A) (rk : fl_A) (be : fl_A) (fr : fl_A) (fs : Int32) (k0 : Int32) (k1 : Int64) (k2 : Int64) (H : Heap) (locs : List Loc), va_P G.1 vwCl [(mo, .inr (6, [.int rf, .ref a_sc, .int ss, .ref a_nw, .ref a_tr, .ref a_di, .int ac, .ref a_ke, .ref a_ik, .ref a_od, .ref a_rk, .ref a_be, .ref a_fr, .int fs])), (a_nw, .inl (G.2.1, 126, .inl nw)), (a_tr, .inl (G.2.1, 126, .inl tr)), (a_od, .inl (G.2.1, 60, .inl od)), (a_rk, .inl (G.2.1, 60, .inl rk)), (a_be, .inl (G.2.1, 60, .inl be)), (a_fr, .inl (G.2.1, 12, .inl fr))] H → va_D A [(mo, .inr (6, [.int rf, .ref a_sc, .int ss, .ref a_nw, .ref a_tr, .ref a_di, .int ac, .ref a_ke, .ref a_ik, .ref a_od, .ref a_rk, .ref a_be, .ref a_fr, .int fs])), (a_nw, .inl (G.2.1, 126, .inl nw)), (a_tr, .inl (G.2.1, 126, .inl tr)), (a_od, .inl (G.2.1, 60, .inl od)), (a_rk, .inl (G.2.1, 60, .inl rk)), (a_be, .inl (G.2.1, 60, .inl be)), (a_fr, .inl (G.2.1, 12, .inl fr))] → va_S A s.heap H locs → ∀ (ls : Array Slot), lv_has ls 6 [(0, .ref mo), (1, .int p0), (2, .long p1)] → P_M_runScript_J31 rf nw tr od rk be fr fs p0 p1 k0 k1 k2 = some r → W p l e (fl_rm 7 166) s m args below meth c H locs 0 0 Q (F0 m 31 ls [.int k0, .long k1, .long k2, .ref mo]) := by
    intro rf tr od rk be fr fs k0 k1 k2 H locs hP hD hS ls hl hp
    unfold P_M_runScript_J31 at hp
    obtain ⟨q1, hq1, hp⟩ := fl_bd_of hp
    refine fl_roS (As := [.int k0]) (rest := [.long k1, .long k2, .ref mo]) C0 (c_M_tenTo l G k0 hq1) (va_cwS 1 hts gX6_runScript_X6_tenTo rfl rfl rfl (by decide +kernel) ⟨Nat.le_of_ble_eq_true rfl, Nat.le_of_ble_eq_true rfl⟩) hK hP [] rfl hS hA rfl hl.1 rfl (Nat.le_of_ble_eq_true rfl) dX6_runScript_31 ⟨Nat.zero_le _, Nat.zero_le _⟩ (fun H locs hP hS => ?_)
    refine lv_lconst (v := (1 : Int64)) hx hb dX6_runScript_34 (by decide) ?_
    refine lv_lsub hx hb dX6_runScript_35 ?_
    obtain ⟨q2, hq2, hp⟩ := fl_bd_of hp
    refine fl_roS (As := [.long k2, .long k1, .long (q1 - (1 : Int64))]) (rest := [.ref mo]) C0 (c_M_in l G k2 k1 (q1 - (1 : Int64)) hq2) (va_cwS 3 hts gX6_runScript_X6_in rfl rfl rfl (by decide +kernel) ⟨Nat.le_of_ble_eq_true rfl, Nat.le_of_ble_eq_true rfl⟩) hK hP [] rfl hS hA rfl hl.1 rfl (Nat.le_of_ble_eq_true rfl) dX6_runScript_36 ⟨Nat.zero_le _, Nat.zero_le _⟩ (fun H locs hP hS => ?_)
    refine lv_if_eq (tgt := 46) hx hb dX6_runScript_39 (by decide) (fun hc => ?_) (fun hc => ?_)
    · replace hp := fl_t hc hp
      exact KJ46 rf tr od rk be fr fs H locs hP hD hS ls (lv_sub hl [0, 1, 2] rfl) hp
    · replace hp := fl_f hc hp
      refine lv_iconst (v := (0 : Int32)) hx hb dX6_runScript_42 (by decide) ?_
      refine lv_goto (tgt := 47) hx hb dX6_runScript_43 (by decide) ?_
      exact KJ47 rf tr od rk be fr fs (0 : Int32) H locs hP hD hS ls (lv_sub hl [0, 1, 2] rfl) hp
  have hp := hp0
  unfold P_M_runScript at hp
  refine lv_iload_n hx hb dX6_runScript_0 rfl (lv_at hl 1 rfl) ?_
  refine lv_i2l (v := p0.toInt64) hx hb dX6_runScript_1 rfl ?_
  refine lv_lconst (v := (1 : Int64)) hx hb dX6_runScript_2 (by decide) ?_
  refine lv_ldc2 (v := (3 : Int64)) hx hb hown (hts (.constantLong RX6 180 (3)) (List.mem_of_getElem? (i := 1) rfl)) dX6_runScript_3 ?_
  obtain ⟨q1, hq1, hp⟩ := fl_bd_of hp
  refine fl_roS (As := [.long p0.toInt64, .long (1 : Int64), .long (3 : Int64)]) (rest := []) C0 (c_M_in l G p0.toInt64 (1 : Int64) (3 : Int64) hq1) (va_cwS 3 hts gX6_runScript_X6_in rfl rfl rfl (by decide +kernel) ⟨Nat.le_of_ble_eq_true rfl, Nat.le_of_ble_eq_true rfl⟩) hK hP [] rfl hS hA rfl hl.1 rfl (Nat.le_of_ble_eq_true rfl) dX6_runScript_6 ⟨Nat.zero_le _, Nat.zero_le _⟩ (fun H locs hP hS => ?_)
  refine lv_istore (lv' := [(4, .int q1), (0, .ref mo), (1, .int p0), (2, .long p1)]) hx hb dX6_runScript_9 hl (by decide) rfl (fun ls hl => ?_)
  refine lv_aload_n hx hb dX6_runScript_11 rfl (lv_at hl 1 rfl) ?_
  refine lv_iload hx hb dX6_runScript_12 (lv_at hl 0 rfl) ?_
  refine lv_if_eq (tgt := 46) hx hb dX6_runScript_14 (by decide) (fun hc => ?_) (fun hc => ?_)
  · replace hp := fl_t hc hp
    exact KJ46 rf tr od rk be fr fs H locs hP hD hS ls (lv_sub hl [1, 2, 3] rfl) hp
  · replace hp := fl_f hc hp
    refine lv_lload_n hx hb dX6_runScript_17 rfl (lv_at hl 3 rfl) ?_
    refine lv_lconst (v := (0 : Int64)) hx hb dX6_runScript_18 (by decide) ?_
    refine lv_iload hx hb dX6_runScript_19 (lv_at hl 0 rfl) ?_
    refine lv_if_eq (tgt := 30) hx hb dX6_runScript_21 (by decide) (fun hc => ?_) (fun hc => ?_)
    · replace hp := fl_t hc hp
      refine lv_iconst (v := (0 : Int32)) hx hb dX6_runScript_30 (by decide) ?_
      exact KJ31 rf tr od rk be fr fs (0 : Int32) (0 : Int64) p1 H locs hP hD hS ls (lv_sub hl [1, 2, 3] rfl) hp
    · replace hp := fl_f hc hp
      refine lv_iconst (v := (5 : Int32)) hx hb dX6_runScript_24 (by decide) ?_
      refine lv_iload_n hx hb dX6_runScript_25 rfl (lv_at hl 2 rfl) ?_
      refine lv_imul hx hb dX6_runScript_26 ?_
      refine lv_goto (tgt := 31) hx hb dX6_runScript_27 (by decide) ?_
      exact KJ31 rf tr od rk be fr fs ((5 : Int32) * p0) (0 : Int64) p1 H locs hP hD hS ls (lv_sub hl [1, 2, 3] rfl) hp

noncomputable def P_M_stir_J32 (tr : fl_A) (od : fl_A) (rk : fl_A) (be : fl_A) (fr : fl_A) (fs : Int32) (p0 : Int32) : Option (Int32 × fl_A × fl_A × fl_A × fl_A × fl_A × Int32) := fl_ck (0 : Int32) 12 (fl_ck (1 : Int32) 12 (fl_ck (2 : Int32) 12 (fl_ck (3 : Int32) 12 (fl_bd (P_M_singIn od rk be (upd (upd (upd (upd fr (0 : Int32).toNatClampNeg ((97 : Int32) + ((p0 / (64 : Int32)) - (p0 / (64 : Int32)) / (3 : Int32) * (3 : Int32)))) (1 : Int32).toNatClampNeg ((97 : Int32) + ((p0 / (256 : Int32)) - (p0 / (256 : Int32)) / (3 : Int32) * (3 : Int32)))) (2 : Int32).toNatClampNeg ((97 : Int32) + ((p0 / (1024 : Int32)) - (p0 / (1024 : Int32)) / (3 : Int32) * (3 : Int32)))) (3 : Int32).toNatClampNeg ((97 : Int32) + ((p0 / (4096 : Int32)) - (p0 / (4096 : Int32)) / (3 : Int32) * (3 : Int32)))) ((1 : Int32) + ((p0 / (8 : Int32)) - (p0 / (8 : Int32)) / (4 : Int32) * (4 : Int32))) tr) (fun q1 => some (q1.1, q1.2.2.2.2, q1.2.1, q1.2.2.1, q1.2.2.2.1, (upd (upd (upd (upd fr (0 : Int32).toNatClampNeg ((97 : Int32) + ((p0 / (64 : Int32)) - (p0 / (64 : Int32)) / (3 : Int32) * (3 : Int32)))) (1 : Int32).toNatClampNeg ((97 : Int32) + ((p0 / (256 : Int32)) - (p0 / (256 : Int32)) / (3 : Int32) * (3 : Int32)))) (2 : Int32).toNatClampNeg ((97 : Int32) + ((p0 / (1024 : Int32)) - (p0 / (1024 : Int32)) / (3 : Int32) * (3 : Int32)))) (3 : Int32).toNatClampNeg ((97 : Int32) + ((p0 / (4096 : Int32)) - (p0 / (4096 : Int32)) / (3 : Int32) * (3 : Int32)))), ((1 : Int32) + ((p0 / (8 : Int32)) - (p0 / (8 : Int32)) / (4 : Int32) * (4 : Int32)))))))))
noncomputable def P_M_stir (tr : fl_A) (od : fl_A) (rk : fl_A) (be : fl_A) (fr : fl_A) (fs : Int32) (p0 : Int32) : Option (Int32 × fl_A × fl_A × fl_A × fl_A × fl_A × Int32) := fl_ck (1 : Int32) 126 (if (p0 - p0 / (4 : Int32) * (4 : Int32)) = 0 then if (tr (1 : Int32).toNatClampNeg) ≤ 0 then P_M_stir_J32 tr od rk be fr fs p0 else fl_nz (tr (1 : Int32).toNatClampNeg) (fl_bd (P_M_againIn od rk be fr fs tr ((p0 / (8 : Int32)) - (p0 / (8 : Int32)) / (tr (1 : Int32).toNatClampNeg) * (tr (1 : Int32).toNatClampNeg))) (fun q1 => some (q1.1, q1.2.2.2.2.2.2, q1.2.1, q1.2.2.1, q1.2.2.2.1, q1.2.2.2.2.1, q1.2.2.2.2.2.1))) else P_M_stir_J32 tr od rk be fr fs p0)
set_option maxHeartbeats 4000000 in
set_option maxRecDepth 100000 in
theorem c_M_stir (l : Launch) (G : fl_G) (mo a_sc a_nw a_tr a_di a_ke a_ik a_od a_rk a_be a_fr : Nat) (rf : Int32) (ss : Int32) (ac : Int32) (tr : fl_A) (od : fl_A) (rk : fl_A) (be : fl_A) (fr : fl_A) (fs : Int32) (p0 : Int32) {r : (Int32 × fl_A × fl_A × fl_A × fl_A × fl_A × Int32)} (hp0 : P_M_stir tr od rk be fr fs p0 = some r) : fl_mu l yX6_stir wsX6_stir 6 140 G [.ref mo, .int p0] [(mo, .inr (6, [.int rf, .ref a_sc, .int ss, .ref a_nw, .ref a_tr, .ref a_di, .int ac, .ref a_ke, .ref a_ik, .ref a_od, .ref a_rk, .ref a_be, .ref a_fr, .int fs])), (a_tr, .inl (G.2.1, 126, .inl tr)), (a_od, .inl (G.2.1, 60, .inl od)), (a_rk, .inl (G.2.1, 60, .inl rk)), (a_be, .inl (G.2.1, 60, .inl be)), (a_fr, .inl (G.2.1, 12, .inl fr))] (some (.int r.1)) [(mo, .inr (6, [.int rf, .ref a_sc, .int ss, .ref a_nw, .ref a_tr, .ref a_di, .int ac, .ref a_ke, .ref a_ik, .ref a_od, .ref a_rk, .ref a_be, .ref a_fr, .int r.2.2.2.2.2.2])), (a_tr, .inl (G.2.1, 126, .inl r.2.1)), (a_od, .inl (G.2.1, 60, .inl r.2.2.1)), (a_rk, .inl (G.2.1, 60, .inl r.2.2.2.1)), (a_be, .inl (G.2.1, 60, .inl r.2.2.2.2.1)), (a_fr, .inl (G.2.1, 12, .inl r.2.2.2.2.2.1))] := by
  refine fl_mui_in cX6_stir 3 .int RX6 (by decide) rfl rfl (Nat.le_of_ble_eq_true rfl) ?_
  intro p e s m args below meth c ls A Q H locs C0 hK hP hD hS hA hl hfin
  obtain ⟨hx, hb, hml, hown, hts⟩ := id C0
  have iX6 : ∀ w ∈ u_ws RX6 TX6 14, w ∈ wsX6_stir := fun _ h => List.mem_cons_of_mem _ (List.mem_append_right _ h)
  have hl : lv_has ls 3 [(0, .ref mo), (1, .int p0)] := hl
  have KJ32 : ∀ (tr : fl_A) (od : fl_A) (rk : fl_A) (be : fl_A) (fr : fl_A) (fs : Int32) (H : Heap) (locs : List Loc), va_P G.1 vwCl [(mo, .inr (6, [.int rf, .ref a_sc, .int ss, .ref a_nw, .ref a_tr, .ref a_di, .int ac, .ref a_ke, .ref a_ik, .ref a_od, .ref a_rk, .ref a_be, .ref a_fr, .int fs])), (a_tr, .inl (G.2.1, 126, .inl tr)), (a_od, .inl (G.2.1, 60, .inl od)), (a_rk, .inl (G.2.1, 60, .inl rk)), (a_be, .inl (G.2.1, 60, .inl be)), (a_fr, .inl (G.2.1, 12, .inl fr))] H → va_D A [(mo, .inr (6, [.int rf, .ref a_sc, .int ss, .ref a_nw, .ref a_tr, .ref a_di, .int ac, .ref a_ke, .ref a_ik, .ref a_od, .ref a_rk, .ref a_be, .ref a_fr, .int fs])), (a_tr, .inl (G.2.1, 126, .inl tr)), (a_od, .inl (G.2.1, 60, .inl od)), (a_rk, .inl (G.2.1, 60, .inl rk)), (a_be, .inl (G.2.1, 60, .inl be)), (a_fr, .inl (G.2.1, 12, .inl fr))] → va_S A s.heap H locs → ∀ (ls : Array Slot), lv_has ls 3 [(0, .ref mo), (1, .int p0)] → P_M_stir_J32 tr od rk be fr fs p0 = some r → W p l e (fl_rm 6 140) s m args below meth c H locs 0 0 Q (F0 m 32 ls []) := by
    intro tr od rk be fr fs H locs hP hD hS ls hl hp
    unfold P_M_stir_J32 at hp
    refine lv_aload_n hx hb dX6_stir_32 rfl (lv_at hl 0 rfl) ?_
    refine lv_iconst (v := (1 : Int32)) hx hb dX6_stir_33 (by decide) ?_
    refine lv_iload_n hx hb dX6_stir_34 rfl (lv_at hl 1 rfl) ?_
    refine lv_bipush (v := (8 : Int32)) hx hb dX6_stir_35 (by decide) ?_
    refine lv_idiv hx hb dX6_stir_37 (by decide) ?_
    refine lv_iconst (v := (4 : Int32)) hx hb dX6_stir_38 (by decide) ?_
    refine lv_irem hx hb dX6_stir_39 (by decide) ?_
    refine lv_iadd hx hb dX6_stir_40 ?_
    refine va_put (D := G.1) (ci := 6) (v := .int ((1 : Int32) + ((p0 / (8 : Int32)) - (p0 / (8 : Int32)) / (4 : Int32) * (4 : Int32)))) (ty := .int) (C := RX6) (T := TX6) (N := 14) hx hb hts iX6 tyX6 tyX6_ok nmX6 hown hK.1 hP hD hS 0 rfl rfl 13 (by decide) (hts (.fieldLink RX6 76 "SongChoirModel" "freshSize" "I") (List.mem_of_getElem? (i := 2) rfl)) (fun _ h9 => h9) rfl (by decide +kernel) rfl rfl (Nat.le_of_ble_eq_true rfl) dX6_stir_41 (fun H locs hP hD hS => ?_)
    have hP : va_P G.1 vwCl [(mo, .inr (6, [.int rf, .ref a_sc, .int ss, .ref a_nw, .ref a_tr, .ref a_di, .int ac, .ref a_ke, .ref a_ik, .ref a_od, .ref a_rk, .ref a_be, .ref a_fr, .int ((1 : Int32) + ((p0 / (8 : Int32)) - (p0 / (8 : Int32)) / (4 : Int32) * (4 : Int32)))])), (a_tr, .inl (G.2.1, 126, .inl tr)), (a_od, .inl (G.2.1, 60, .inl od)), (a_rk, .inl (G.2.1, 60, .inl rk)), (a_be, .inl (G.2.1, 60, .inl be)), (a_fr, .inl (G.2.1, 12, .inl fr))] H := hP
    have hD : va_D A [(mo, .inr (6, [.int rf, .ref a_sc, .int ss, .ref a_nw, .ref a_tr, .ref a_di, .int ac, .ref a_ke, .ref a_ik, .ref a_od, .ref a_rk, .ref a_be, .ref a_fr, .int ((1 : Int32) + ((p0 / (8 : Int32)) - (p0 / (8 : Int32)) / (4 : Int32) * (4 : Int32)))])), (a_tr, .inl (G.2.1, 126, .inl tr)), (a_od, .inl (G.2.1, 60, .inl od)), (a_rk, .inl (G.2.1, 60, .inl rk)), (a_be, .inl (G.2.1, 60, .inl be)), (a_fr, .inl (G.2.1, 12, .inl fr))] := hD
    refine lv_aload_n hx hb dX6_stir_44 rfl (lv_at hl 0 rfl) ?_
    refine va_get (D := G.1) (ci := 6) (v := .ref a_fr) (C := RX6) (T := TX6) (N := 14) hx hb hts iX6 hown hK.1 hP 0 rfl rfl 12 (by decide) (hts (.fieldLink RX6 38 "SongChoirModel" "fresh" "[I") (List.mem_of_getElem? (i := 3) rfl)) (fun _ h9 => h9) rfl dX6_stir_45 ?_
    refine lv_iconst (v := (0 : Int32)) hx hb dX6_stir_48 (by decide) ?_
    refine lv_bipush (v := (97 : Int32)) hx hb dX6_stir_49 (by decide) ?_
    refine lv_iload_n hx hb dX6_stir_51 rfl (lv_at hl 1 rfl) ?_
    refine lv_bipush (v := (64 : Int32)) hx hb dX6_stir_52 (by decide) ?_
    refine lv_idiv hx hb dX6_stir_54 (by decide) ?_
    refine lv_iconst (v := (3 : Int32)) hx hb dX6_stir_55 (by decide) ?_
    refine lv_irem hx hb dX6_stir_56 (by decide) ?_
    refine lv_iadd hx hb dX6_stir_57 ?_
    obtain ⟨hi, hp⟩ := fl_ck_of hp
    refine va_iast hx hb hK.1 hP hD hS 5 0 rfl rfl hi dX6_stir_58 (fun H locs hP hD hS => ?_)
    have hP : va_P G.1 vwCl [(mo, .inr (6, [.int rf, .ref a_sc, .int ss, .ref a_nw, .ref a_tr, .ref a_di, .int ac, .ref a_ke, .ref a_ik, .ref a_od, .ref a_rk, .ref a_be, .ref a_fr, .int ((1 : Int32) + ((p0 / (8 : Int32)) - (p0 / (8 : Int32)) / (4 : Int32) * (4 : Int32)))])), (a_tr, .inl (G.2.1, 126, .inl tr)), (a_od, .inl (G.2.1, 60, .inl od)), (a_rk, .inl (G.2.1, 60, .inl rk)), (a_be, .inl (G.2.1, 60, .inl be)), (a_fr, .inl (G.2.1, 12, .inl (upd fr (0 : Int32).toNatClampNeg ((97 : Int32) + ((p0 / (64 : Int32)) - (p0 / (64 : Int32)) / (3 : Int32) * (3 : Int32))))))] H := hP
    have hD : va_D A [(mo, .inr (6, [.int rf, .ref a_sc, .int ss, .ref a_nw, .ref a_tr, .ref a_di, .int ac, .ref a_ke, .ref a_ik, .ref a_od, .ref a_rk, .ref a_be, .ref a_fr, .int ((1 : Int32) + ((p0 / (8 : Int32)) - (p0 / (8 : Int32)) / (4 : Int32) * (4 : Int32)))])), (a_tr, .inl (G.2.1, 126, .inl tr)), (a_od, .inl (G.2.1, 60, .inl od)), (a_rk, .inl (G.2.1, 60, .inl rk)), (a_be, .inl (G.2.1, 60, .inl be)), (a_fr, .inl (G.2.1, 12, .inl (upd fr (0 : Int32).toNatClampNeg ((97 : Int32) + ((p0 / (64 : Int32)) - (p0 / (64 : Int32)) / (3 : Int32) * (3 : Int32))))))] := hD
    refine lv_aload_n hx hb dX6_stir_59 rfl (lv_at hl 0 rfl) ?_
    refine va_get (D := G.1) (ci := 6) (v := .ref a_fr) (C := RX6) (T := TX6) (N := 14) hx hb hts iX6 hown hK.1 hP 0 rfl rfl 12 (by decide) (hts (.fieldLink RX6 38 "SongChoirModel" "fresh" "[I") (List.mem_of_getElem? (i := 3) rfl)) (fun _ h9 => h9) rfl dX6_stir_60 ?_
    refine lv_iconst (v := (1 : Int32)) hx hb dX6_stir_63 (by decide) ?_
    refine lv_bipush (v := (97 : Int32)) hx hb dX6_stir_64 (by decide) ?_
    refine lv_iload_n hx hb dX6_stir_66 rfl (lv_at hl 1 rfl) ?_
    refine lv_sipush (v := (256 : Int32)) hx hb dX6_stir_67 (by decide) ?_
    refine lv_idiv hx hb dX6_stir_70 (by decide) ?_
    refine lv_iconst (v := (3 : Int32)) hx hb dX6_stir_71 (by decide) ?_
    refine lv_irem hx hb dX6_stir_72 (by decide) ?_
    refine lv_iadd hx hb dX6_stir_73 ?_
    obtain ⟨hi, hp⟩ := fl_ck_of hp
    refine va_iast hx hb hK.1 hP hD hS 5 0 rfl rfl hi dX6_stir_74 (fun H locs hP hD hS => ?_)
    have hP : va_P G.1 vwCl [(mo, .inr (6, [.int rf, .ref a_sc, .int ss, .ref a_nw, .ref a_tr, .ref a_di, .int ac, .ref a_ke, .ref a_ik, .ref a_od, .ref a_rk, .ref a_be, .ref a_fr, .int ((1 : Int32) + ((p0 / (8 : Int32)) - (p0 / (8 : Int32)) / (4 : Int32) * (4 : Int32)))])), (a_tr, .inl (G.2.1, 126, .inl tr)), (a_od, .inl (G.2.1, 60, .inl od)), (a_rk, .inl (G.2.1, 60, .inl rk)), (a_be, .inl (G.2.1, 60, .inl be)), (a_fr, .inl (G.2.1, 12, .inl (upd (upd fr (0 : Int32).toNatClampNeg ((97 : Int32) + ((p0 / (64 : Int32)) - (p0 / (64 : Int32)) / (3 : Int32) * (3 : Int32)))) (1 : Int32).toNatClampNeg ((97 : Int32) + ((p0 / (256 : Int32)) - (p0 / (256 : Int32)) / (3 : Int32) * (3 : Int32))))))] H := hP
    have hD : va_D A [(mo, .inr (6, [.int rf, .ref a_sc, .int ss, .ref a_nw, .ref a_tr, .ref a_di, .int ac, .ref a_ke, .ref a_ik, .ref a_od, .ref a_rk, .ref a_be, .ref a_fr, .int ((1 : Int32) + ((p0 / (8 : Int32)) - (p0 / (8 : Int32)) / (4 : Int32) * (4 : Int32)))])), (a_tr, .inl (G.2.1, 126, .inl tr)), (a_od, .inl (G.2.1, 60, .inl od)), (a_rk, .inl (G.2.1, 60, .inl rk)), (a_be, .inl (G.2.1, 60, .inl be)), (a_fr, .inl (G.2.1, 12, .inl (upd (upd fr (0 : Int32).toNatClampNeg ((97 : Int32) + ((p0 / (64 : Int32)) - (p0 / (64 : Int32)) / (3 : Int32) * (3 : Int32)))) (1 : Int32).toNatClampNeg ((97 : Int32) + ((p0 / (256 : Int32)) - (p0 / (256 : Int32)) / (3 : Int32) * (3 : Int32))))))] := hD
    refine lv_aload_n hx hb dX6_stir_75 rfl (lv_at hl 0 rfl) ?_
    refine va_get (D := G.1) (ci := 6) (v := .ref a_fr) (C := RX6) (T := TX6) (N := 14) hx hb hts iX6 hown hK.1 hP 0 rfl rfl 12 (by decide) (hts (.fieldLink RX6 38 "SongChoirModel" "fresh" "[I") (List.mem_of_getElem? (i := 3) rfl)) (fun _ h9 => h9) rfl dX6_stir_76 ?_
    refine lv_iconst (v := (2 : Int32)) hx hb dX6_stir_79 (by decide) ?_
    refine lv_bipush (v := (97 : Int32)) hx hb dX6_stir_80 (by decide) ?_
    refine lv_iload_n hx hb dX6_stir_82 rfl (lv_at hl 1 rfl) ?_
    refine lv_sipush (v := (1024 : Int32)) hx hb dX6_stir_83 (by decide) ?_
    refine lv_idiv hx hb dX6_stir_86 (by decide) ?_
    refine lv_iconst (v := (3 : Int32)) hx hb dX6_stir_87 (by decide) ?_
    refine lv_irem hx hb dX6_stir_88 (by decide) ?_
    refine lv_iadd hx hb dX6_stir_89 ?_
    obtain ⟨hi, hp⟩ := fl_ck_of hp
    refine va_iast hx hb hK.1 hP hD hS 5 0 rfl rfl hi dX6_stir_90 (fun H locs hP hD hS => ?_)
    have hP : va_P G.1 vwCl [(mo, .inr (6, [.int rf, .ref a_sc, .int ss, .ref a_nw, .ref a_tr, .ref a_di, .int ac, .ref a_ke, .ref a_ik, .ref a_od, .ref a_rk, .ref a_be, .ref a_fr, .int ((1 : Int32) + ((p0 / (8 : Int32)) - (p0 / (8 : Int32)) / (4 : Int32) * (4 : Int32)))])), (a_tr, .inl (G.2.1, 126, .inl tr)), (a_od, .inl (G.2.1, 60, .inl od)), (a_rk, .inl (G.2.1, 60, .inl rk)), (a_be, .inl (G.2.1, 60, .inl be)), (a_fr, .inl (G.2.1, 12, .inl (upd (upd (upd fr (0 : Int32).toNatClampNeg ((97 : Int32) + ((p0 / (64 : Int32)) - (p0 / (64 : Int32)) / (3 : Int32) * (3 : Int32)))) (1 : Int32).toNatClampNeg ((97 : Int32) + ((p0 / (256 : Int32)) - (p0 / (256 : Int32)) / (3 : Int32) * (3 : Int32)))) (2 : Int32).toNatClampNeg ((97 : Int32) + ((p0 / (1024 : Int32)) - (p0 / (1024 : Int32)) / (3 : Int32) * (3 : Int32))))))] H := hP
    have hD : va_D A [(mo, .inr (6, [.int rf, .ref a_sc, .int ss, .ref a_nw, .ref a_tr, .ref a_di, .int ac, .ref a_ke, .ref a_ik, .ref a_od, .ref a_rk, .ref a_be, .ref a_fr, .int ((1 : Int32) + ((p0 / (8 : Int32)) - (p0 / (8 : Int32)) / (4 : Int32) * (4 : Int32)))])), (a_tr, .inl (G.2.1, 126, .inl tr)), (a_od, .inl (G.2.1, 60, .inl od)), (a_rk, .inl (G.2.1, 60, .inl rk)), (a_be, .inl (G.2.1, 60, .inl be)), (a_fr, .inl (G.2.1, 12, .inl (upd (upd (upd fr (0 : Int32).toNatClampNeg ((97 : Int32) + ((p0 / (64 : Int32)) - (p0 / (64 : Int32)) / (3 : Int32) * (3 : Int32)))) (1 : Int32).toNatClampNeg ((97 : Int32) + ((p0 / (256 : Int32)) - (p0 / (256 : Int32)) / (3 : Int32) * (3 : Int32)))) (2 : Int32).toNatClampNeg ((97 : Int32) + ((p0 / (1024 : Int32)) - (p0 / (1024 : Int32)) / (3 : Int32) * (3 : Int32))))))] := hD
    refine lv_aload_n hx hb dX6_stir_91 rfl (lv_at hl 0 rfl) ?_
    refine va_get (D := G.1) (ci := 6) (v := .ref a_fr) (C := RX6) (T := TX6) (N := 14) hx hb hts iX6 hown hK.1 hP 0 rfl rfl 12 (by decide) (hts (.fieldLink RX6 38 "SongChoirModel" "fresh" "[I") (List.mem_of_getElem? (i := 3) rfl)) (fun _ h9 => h9) rfl dX6_stir_92 ?_
    refine lv_iconst (v := (3 : Int32)) hx hb dX6_stir_95 (by decide) ?_
    refine lv_bipush (v := (97 : Int32)) hx hb dX6_stir_96 (by decide) ?_
    refine lv_iload_n hx hb dX6_stir_98 rfl (lv_at hl 1 rfl) ?_
    refine lv_sipush (v := (4096 : Int32)) hx hb dX6_stir_99 (by decide) ?_
    refine lv_idiv hx hb dX6_stir_102 (by decide) ?_
    refine lv_iconst (v := (3 : Int32)) hx hb dX6_stir_103 (by decide) ?_
    refine lv_irem hx hb dX6_stir_104 (by decide) ?_
    refine lv_iadd hx hb dX6_stir_105 ?_
    obtain ⟨hi, hp⟩ := fl_ck_of hp
    refine va_iast hx hb hK.1 hP hD hS 5 0 rfl rfl hi dX6_stir_106 (fun H locs hP hD hS => ?_)
    have hP : va_P G.1 vwCl [(mo, .inr (6, [.int rf, .ref a_sc, .int ss, .ref a_nw, .ref a_tr, .ref a_di, .int ac, .ref a_ke, .ref a_ik, .ref a_od, .ref a_rk, .ref a_be, .ref a_fr, .int ((1 : Int32) + ((p0 / (8 : Int32)) - (p0 / (8 : Int32)) / (4 : Int32) * (4 : Int32)))])), (a_tr, .inl (G.2.1, 126, .inl tr)), (a_od, .inl (G.2.1, 60, .inl od)), (a_rk, .inl (G.2.1, 60, .inl rk)), (a_be, .inl (G.2.1, 60, .inl be)), (a_fr, .inl (G.2.1, 12, .inl (upd (upd (upd (upd fr (0 : Int32).toNatClampNeg ((97 : Int32) + ((p0 / (64 : Int32)) - (p0 / (64 : Int32)) / (3 : Int32) * (3 : Int32)))) (1 : Int32).toNatClampNeg ((97 : Int32) + ((p0 / (256 : Int32)) - (p0 / (256 : Int32)) / (3 : Int32) * (3 : Int32)))) (2 : Int32).toNatClampNeg ((97 : Int32) + ((p0 / (1024 : Int32)) - (p0 / (1024 : Int32)) / (3 : Int32) * (3 : Int32)))) (3 : Int32).toNatClampNeg ((97 : Int32) + ((p0 / (4096 : Int32)) - (p0 / (4096 : Int32)) / (3 : Int32) * (3 : Int32))))))] H := hP
    have hD : va_D A [(mo, .inr (6, [.int rf, .ref a_sc, .int ss, .ref a_nw, .ref a_tr, .ref a_di, .int ac, .ref a_ke, .ref a_ik, .ref a_od, .ref a_rk, .ref a_be, .ref a_fr, .int ((1 : Int32) + ((p0 / (8 : Int32)) - (p0 / (8 : Int32)) / (4 : Int32) * (4 : Int32)))])), (a_tr, .inl (G.2.1, 126, .inl tr)), (a_od, .inl (G.2.1, 60, .inl od)), (a_rk, .inl (G.2.1, 60, .inl rk)), (a_be, .inl (G.2.1, 60, .inl be)), (a_fr, .inl (G.2.1, 12, .inl (upd (upd (upd (upd fr (0 : Int32).toNatClampNeg ((97 : Int32) + ((p0 / (64 : Int32)) - (p0 / (64 : Int32)) / (3 : Int32) * (3 : Int32)))) (1 : Int32).toNatClampNeg ((97 : Int32) + ((p0 / (256 : Int32)) - (p0 / (256 : Int32)) / (3 : Int32) * (3 : Int32)))) (2 : Int32).toNatClampNeg ((97 : Int32) + ((p0 / (1024 : Int32)) - (p0 / (1024 : Int32)) / (3 : Int32) * (3 : Int32)))) (3 : Int32).toNatClampNeg ((97 : Int32) + ((p0 / (4096 : Int32)) - (p0 / (4096 : Int32)) / (3 : Int32) * (3 : Int32))))))] := hD
    refine lv_aload_n hx hb dX6_stir_107 rfl (lv_at hl 0 rfl) ?_
    refine lv_aload_n hx hb dX6_stir_108 rfl (lv_at hl 0 rfl) ?_
    refine va_get (D := G.1) (ci := 6) (v := .ref a_tr) (C := RX6) (T := TX6) (N := 14) hx hb hts iX6 hown hK.1 hP 0 rfl rfl 4 (by decide) (hts (.fieldLink RX6 16 "SongChoirModel" "trial" "[I") (List.mem_of_getElem? (i := 1) rfl)) (fun _ h9 => h9) rfl dX6_stir_109 ?_
    obtain ⟨q1, hq1, hp⟩ := fl_bd_of hp
    refine fl_muV (As := [.ref a_tr]) (rest := []) [(mo, .inr (6, [.int rf, .ref a_sc, .int ss, .ref a_nw, .ref a_tr, .ref a_di, .int ac, .ref a_ke, .ref a_ik, .ref a_od, .ref a_rk, .ref a_be, .ref a_fr, .int ((1 : Int32) + ((p0 / (8 : Int32)) - (p0 / (8 : Int32)) / (4 : Int32) * (4 : Int32)))])), (a_tr, .inl (G.2.1, 126, .inl q1.2.2.2.2)), (a_od, .inl (G.2.1, 60, .inl q1.2.1)), (a_rk, .inl (G.2.1, 60, .inl q1.2.2.1)), (a_be, .inl (G.2.1, 60, .inl q1.2.2.2.1)), (a_fr, .inl (G.2.1, 12, .inl (upd (upd (upd (upd fr (0 : Int32).toNatClampNeg ((97 : Int32) + ((p0 / (64 : Int32)) - (p0 / (64 : Int32)) / (3 : Int32) * (3 : Int32)))) (1 : Int32).toNatClampNeg ((97 : Int32) + ((p0 / (256 : Int32)) - (p0 / (256 : Int32)) / (3 : Int32) * (3 : Int32)))) (2 : Int32).toNatClampNeg ((97 : Int32) + ((p0 / (1024 : Int32)) - (p0 / (1024 : Int32)) / (3 : Int32) * (3 : Int32)))) (3 : Int32).toNatClampNeg ((97 : Int32) + ((p0 / (4096 : Int32)) - (p0 / (4096 : Int32)) / (3 : Int32) * (3 : Int32))))))] C0 (c_M_singIn l G mo a_sc a_nw a_tr a_di a_ke a_ik a_od a_rk a_be a_fr a_tr rf ss ac od rk be (upd (upd (upd (upd fr (0 : Int32).toNatClampNeg ((97 : Int32) + ((p0 / (64 : Int32)) - (p0 / (64 : Int32)) / (3 : Int32) * (3 : Int32)))) (1 : Int32).toNatClampNeg ((97 : Int32) + ((p0 / (256 : Int32)) - (p0 / (256 : Int32)) / (3 : Int32) * (3 : Int32)))) (2 : Int32).toNatClampNeg ((97 : Int32) + ((p0 / (1024 : Int32)) - (p0 / (1024 : Int32)) / (3 : Int32) * (3 : Int32)))) (3 : Int32).toNatClampNeg ((97 : Int32) + ((p0 / (4096 : Int32)) - (p0 / (4096 : Int32)) / (3 : Int32) * (3 : Int32)))) ((1 : Int32) + ((p0 / (8 : Int32)) - (p0 / (8 : Int32)) / (4 : Int32) * (4 : Int32))) tr hq1) (cwV 1 hts gX6_stir_X6_singIn rfl rfl rfl (by decide +kernel) ⟨Nat.le_of_ble_eq_true rfl, Nat.le_of_ble_eq_true rfl⟩) hK hP hD [0, 2, 3, 4, 5, 1] [] [0, 5, 1, 2, 3, 4] rfl rfl (by decide) (by decide) rfl 0 6 rfl rfl rfl hS hA rfl hl.1 rfl (Nat.le_of_ble_eq_true rfl) dX6_stir_112 ⟨Nat.zero_le _, Nat.zero_le _⟩ (fun H locs hP hD hS => ?_)
    obtain rfl := Option.some.inj hp
    exact hfin H locs _ ls hP hD hS dX6_stir_115 rfl
  have hp := hp0
  unfold P_M_stir at hp
  refine lv_aload_n hx hb dX6_stir_0 rfl (lv_at hl 0 rfl) ?_
  refine va_get (D := G.1) (ci := 6) (v := .ref a_tr) (C := RX6) (T := TX6) (N := 14) hx hb hts iX6 hown hK.1 hP 0 rfl rfl 4 (by decide) (hts (.fieldLink RX6 16 "SongChoirModel" "trial" "[I") (List.mem_of_getElem? (i := 1) rfl)) (fun _ h9 => h9) rfl dX6_stir_1 ?_
  refine lv_iconst (v := (1 : Int32)) hx hb dX6_stir_4 (by decide) ?_
  obtain ⟨hi, hp⟩ := fl_ck_of hp
  refine va_iald hx hb hK.1 hP 1 0 rfl rfl hi dX6_stir_5 ?_
  refine lv_istore_n (lv' := [(2, .int (tr (1 : Int32).toNatClampNeg)), (0, .ref mo), (1, .int p0)]) hx hb dX6_stir_6 rfl hl (by decide) rfl (fun ls hl => ?_)
  refine lv_iload_n hx hb dX6_stir_7 rfl (lv_at hl 2 rfl) ?_
  refine lv_iconst (v := (4 : Int32)) hx hb dX6_stir_8 (by decide) ?_
  refine lv_irem hx hb dX6_stir_9 (by decide) ?_
  refine lv_if_ne (tgt := 32) hx hb dX6_stir_10 (by decide) (fun hc => ?_) (fun hc => ?_)
  · replace hp := fl_f hc hp
    exact KJ32 tr od rk be fr fs H locs hP hD hS ls (lv_sub hl [1, 2] rfl) hp
  · replace hp := fl_t hc hp
    refine lv_iload_n hx hb dX6_stir_13 rfl (lv_at hl 0 rfl) ?_
    refine lv_if_le (tgt := 32) hx hb dX6_stir_14 (by decide) (fun hc => ?_) (fun hc => ?_)
    · replace hp := fl_t hc hp
      exact KJ32 tr od rk be fr fs H locs hP hD hS ls (lv_sub hl [1, 2] rfl) hp
    · replace hp := fl_f hc hp
      refine lv_aload_n hx hb dX6_stir_17 rfl (lv_at hl 1 rfl) ?_
      refine lv_aload_n hx hb dX6_stir_18 rfl (lv_at hl 1 rfl) ?_
      refine va_get (D := G.1) (ci := 6) (v := .ref a_tr) (C := RX6) (T := TX6) (N := 14) hx hb hts iX6 hown hK.1 hP 0 rfl rfl 4 (by decide) (hts (.fieldLink RX6 16 "SongChoirModel" "trial" "[I") (List.mem_of_getElem? (i := 1) rfl)) (fun _ h9 => h9) rfl dX6_stir_19 ?_
      refine lv_iload_n hx hb dX6_stir_22 rfl (lv_at hl 2 rfl) ?_
      refine lv_bipush (v := (8 : Int32)) hx hb dX6_stir_23 (by decide) ?_
      refine lv_idiv hx hb dX6_stir_25 (by decide) ?_
      refine lv_iload_n hx hb dX6_stir_26 rfl (lv_at hl 0 rfl) ?_
      obtain ⟨hne, hp⟩ := fl_nz_of hp
      refine lv_irem hx hb dX6_stir_27 hne ?_
      obtain ⟨q1, hq1, hp⟩ := fl_bd_of hp
      refine fl_muV (As := [.ref a_tr, .int ((p0 / (8 : Int32)) - (p0 / (8 : Int32)) / (tr (1 : Int32).toNatClampNeg) * (tr (1 : Int32).toNatClampNeg))]) (rest := []) [(mo, .inr (6, [.int rf, .ref a_sc, .int ss, .ref a_nw, .ref a_tr, .ref a_di, .int ac, .ref a_ke, .ref a_ik, .ref a_od, .ref a_rk, .ref a_be, .ref a_fr, .int q1.2.2.2.2.2.1])), (a_tr, .inl (G.2.1, 126, .inl q1.2.2.2.2.2.2)), (a_od, .inl (G.2.1, 60, .inl q1.2.1)), (a_rk, .inl (G.2.1, 60, .inl q1.2.2.1)), (a_be, .inl (G.2.1, 60, .inl q1.2.2.2.1)), (a_fr, .inl (G.2.1, 12, .inl q1.2.2.2.2.1))] C0 (c_M_againIn l G mo a_sc a_nw a_tr a_di a_ke a_ik a_od a_rk a_be a_fr a_tr rf ss ac od rk be fr fs tr ((p0 / (8 : Int32)) - (p0 / (8 : Int32)) / (tr (1 : Int32).toNatClampNeg) * (tr (1 : Int32).toNatClampNeg)) hq1) (cwV 2 hts gX6_stir_X6_againIn rfl rfl rfl (by decide +kernel) ⟨Nat.le_of_ble_eq_true rfl, Nat.le_of_ble_eq_true rfl⟩) hK hP hD [0, 2, 3, 4, 5, 1] [] [0, 5, 1, 2, 3, 4] rfl rfl (by decide) (by decide) rfl 0 6 rfl rfl rfl hS hA rfl hl.1 rfl (Nat.le_of_ble_eq_true rfl) dX6_stir_28 ⟨Nat.zero_le _, Nat.zero_le _⟩ (fun H locs hP hD hS => ?_)
      obtain rfl := Option.some.inj hp
      exact hfin H locs _ ls hP hD hS dX6_stir_31 rfl

noncomputable def P_M_simulate_J78 (rf : Int32) (nw : fl_A) (tr : fl_A) (od : fl_A) (rk : fl_A) (be : fl_A) (fr : fl_A) (fs : Int32) (v6 : Int32) : Option (Int32 × Int32 × fl_A × fl_A × fl_A × fl_A × fl_A × Int32) := fl_bd (P_M_longest od rk tr) (fun q1 => if v6 ≤ (999 : Int32) then some ((((1000 : Int32) * q1.1) + v6), rf, tr, q1.2.1, q1.2.2, be, fr, fs) else some ((((1000 : Int32) * q1.1) + (999 : Int32)), rf, tr, q1.2.1, q1.2.2, be, fr, fs))
noncomputable def P_M_simulate_L39 (rf : Int32) (nw : fl_A) (p1 : Int32) (z39 : (Int64 × Int32 × Int32 × fl_A × fl_A × fl_A × fl_A × fl_A × Int32)) : Option ((Int64 × Int32 × Int32 × fl_A × fl_A × fl_A × fl_A × fl_A × Int32) ⊕ (Int32 × Int32 × fl_A × fl_A × fl_A × fl_A × fl_A × Int32)) := if p1 ≤ z39.2.2.1 then fl_up (P_M_simulate_J78 rf nw z39.2.2.2.1 z39.2.2.2.2.1 z39.2.2.2.2.2.1 z39.2.2.2.2.2.2.1 z39.2.2.2.2.2.2.2.1 z39.2.2.2.2.2.2.2.2 z39.2.1) else fl_bd (P_M_stir z39.2.2.2.1 z39.2.2.2.2.1 z39.2.2.2.2.2.1 z39.2.2.2.2.2.2.1 z39.2.2.2.2.2.2.2.1 z39.2.2.2.2.2.2.2.2 (((((z39.1 * (6364136223846793005 : Int64)) + (1442695040888963407 : Int64)).toUInt64 >>> ((33 : Int32).toInt64.toUInt64 &&& Int64.toUInt64 63)).toInt64).toInt32)) (fun q1 => some (.inl (((z39.1 * (6364136223846793005 : Int64)) + (1442695040888963407 : Int64)), (z39.2.1 + q1.1), (z39.2.2.1 + (1 : Int32)), q1.2.1, q1.2.2.1, q1.2.2.2.1, q1.2.2.2.2.1, q1.2.2.2.2.2.1, q1.2.2.2.2.2.2)))
noncomputable def P_M_simulate_J18 (rf : Int32) (nw : fl_A) (tr : fl_A) (od : fl_A) (rk : fl_A) (be : fl_A) (fr : fl_A) (fs : Int32) (p0 : Int64) (p1 : Int32) (k0 : Int32) : Option (Int32 × Int32 × fl_A × fl_A × fl_A × fl_A × fl_A × Int32) := fl_bd (P_M_refused rf k0) (fun q1 => if q1.1 = 0 then fl_bd (P_M_begin nw tr) (fun q2 => fl_loop (P_M_simulate_L39 q1.2 nw p1) (p0, (0 : Int32), (0 : Int32), q2, od, rk, be, fr, fs)) else some ((0 : Int32), q1.2, tr, od, rk, be, fr, fs))
noncomputable def P_M_simulate (rf : Int32) (nw : fl_A) (tr : fl_A) (od : fl_A) (rk : fl_A) (be : fl_A) (fr : fl_A) (fs : Int32) (p0 : Int64) (p1 : Int32) : Option (Int32 × Int32 × fl_A × fl_A × fl_A × fl_A × fl_A × Int32) := fl_bd (P_M_in p1.toInt64 (1 : Int64) (20 : Int64)) (fun q1 => if q1 = 0 then P_M_simulate_J18 rf nw tr od rk be fr fs p0 p1 (1 : Int32) else P_M_simulate_J18 rf nw tr od rk be fr fs p0 p1 (0 : Int32))
set_option maxHeartbeats 4000000 in
set_option maxRecDepth 100000 in
theorem c_M_simulate (l : Launch) (G : fl_G) (mo a_sc a_nw a_tr a_di a_ke a_ik a_od a_rk a_be a_fr : Nat) (ss : Int32) (ac : Int32) (rf : Int32) (nw : fl_A) (tr : fl_A) (od : fl_A) (rk : fl_A) (be : fl_A) (fr : fl_A) (fs : Int32) (p0 : Int64) (p1 : Int32) {r : (Int32 × Int32 × fl_A × fl_A × fl_A × fl_A × fl_A × Int32)} (hp0 : P_M_simulate rf nw tr od rk be fr fs p0 p1 = some r) : fl_mu l yX6_simulate wsX6_simulate 7 162 G [.ref mo, .long p0, .int p1] [(mo, .inr (6, [.int rf, .ref a_sc, .int ss, .ref a_nw, .ref a_tr, .ref a_di, .int ac, .ref a_ke, .ref a_ik, .ref a_od, .ref a_rk, .ref a_be, .ref a_fr, .int fs])), (a_nw, .inl (G.2.1, 126, .inl nw)), (a_tr, .inl (G.2.1, 126, .inl tr)), (a_od, .inl (G.2.1, 60, .inl od)), (a_rk, .inl (G.2.1, 60, .inl rk)), (a_be, .inl (G.2.1, 60, .inl be)), (a_fr, .inl (G.2.1, 12, .inl fr))] (some (.int r.1)) [(mo, .inr (6, [.int r.2.1, .ref a_sc, .int ss, .ref a_nw, .ref a_tr, .ref a_di, .int ac, .ref a_ke, .ref a_ik, .ref a_od, .ref a_rk, .ref a_be, .ref a_fr, .int r.2.2.2.2.2.2.2])), (a_nw, .inl (G.2.1, 126, .inl nw)), (a_tr, .inl (G.2.1, 126, .inl r.2.2.1)), (a_od, .inl (G.2.1, 60, .inl r.2.2.2.1)), (a_rk, .inl (G.2.1, 60, .inl r.2.2.2.2.1)), (a_be, .inl (G.2.1, 60, .inl r.2.2.2.2.2.1)), (a_fr, .inl (G.2.1, 12, .inl r.2.2.2.2.2.2.1))] := by
  refine fl_mui_in cX6_simulate 8 .int RX6 (by decide) rfl rfl (Nat.le_of_ble_eq_true rfl) ?_
  intro p e s m args below meth c ls A Q H locs C0 hK hP hD hS hA hl hfin
  obtain ⟨hx, hb, hml, hown, hts⟩ := id C0
  have iX6 : ∀ w ∈ u_ws RX6 TX6 14, w ∈ wsX6_simulate := fun _ h => List.mem_cons_of_mem _ (List.mem_append_right _ h)
  have hl : lv_has ls 8 [(0, .ref mo), (1, .long p0), (3, .int p1)] := hl
  have KJ78 : ∀ (rf : Int32) (tr : fl_A) (od : fl_A) (rk : fl_A) (be : fl_A) (fr : fl_A) (fs : Int32) (v6 : Int32) (H : Heap) (locs : List Loc), va_P G.1 vwCl [(mo, .inr (6, [.int rf, .ref a_sc, .int ss, .ref a_nw, .ref a_tr, .ref a_di, .int ac, .ref a_ke, .ref a_ik, .ref a_od, .ref a_rk, .ref a_be, .ref a_fr, .int fs])), (a_nw, .inl (G.2.1, 126, .inl nw)), (a_tr, .inl (G.2.1, 126, .inl tr)), (a_od, .inl (G.2.1, 60, .inl od)), (a_rk, .inl (G.2.1, 60, .inl rk)), (a_be, .inl (G.2.1, 60, .inl be)), (a_fr, .inl (G.2.1, 12, .inl fr))] H → va_D A [(mo, .inr (6, [.int rf, .ref a_sc, .int ss, .ref a_nw, .ref a_tr, .ref a_di, .int ac, .ref a_ke, .ref a_ik, .ref a_od, .ref a_rk, .ref a_be, .ref a_fr, .int fs])), (a_nw, .inl (G.2.1, 126, .inl nw)), (a_tr, .inl (G.2.1, 126, .inl tr)), (a_od, .inl (G.2.1, 60, .inl od)), (a_rk, .inl (G.2.1, 60, .inl rk)), (a_be, .inl (G.2.1, 60, .inl be)), (a_fr, .inl (G.2.1, 12, .inl fr))] → va_S A s.heap H locs → ∀ (ls : Array Slot), lv_has ls 8 [(0, .ref mo), (6, .int v6)] → P_M_simulate_J78 rf nw tr od rk be fr fs v6 = some r → W p l e (fl_rm 7 162) s m args below meth c H locs 0 0 Q (F0 m 78 ls []) := by
    intro rf tr od rk be fr fs v6 H locs hP hD hS ls hl hp
    unfold P_M_simulate_J78 at hp
    refine lv_sipush (v := (1000 : Int32)) hx hb dX6_simulate_78 (by decide) ?_
    refine lv_aload_n hx hb dX6_simulate_81 rfl (lv_at hl 0 rfl) ?_
    refine lv_aload_n hx hb dX6_simulate_82 rfl (lv_at hl 0 rfl) ?_
    refine va_get (D := G.1) (ci := 6) (v := .ref a_tr) (C := RX6) (T := TX6) (N := 14) hx hb hts iX6 hown hK.1 hP 0 rfl rfl 4 (by decide) (hts (.fieldLink RX6 16 "SongChoirModel" "trial" "[I") (List.mem_of_getElem? (i := 4) rfl)) (fun _ h9 => h9) rfl dX6_simulate_83 ?_
    obtain ⟨q1, hq1, hp⟩ := fl_bd_of hp
    refine fl_muV (As := [.ref a_tr]) (rest := [.int (1000 : Int32)]) [(mo, .inr (6, [.int rf, .ref a_sc, .int ss, .ref a_nw, .ref a_tr, .ref a_di, .int ac, .ref a_ke, .ref a_ik, .ref a_od, .ref a_rk, .ref a_be, .ref a_fr, .int fs])), (a_nw, .inl (G.2.1, 126, .inl nw)), (a_tr, .inl (G.2.1, 126, .inl tr)), (a_od, .inl (G.2.1, 60, .inl q1.2.1)), (a_rk, .inl (G.2.1, 60, .inl q1.2.2)), (a_be, .inl (G.2.1, 60, .inl be)), (a_fr, .inl (G.2.1, 12, .inl fr))] C0 (c_M_longest l G mo a_sc a_nw a_tr a_di a_ke a_ik a_od a_rk a_be a_fr a_tr rf ss ac fs od rk tr hq1) (cwV 1 hts gX6_simulate_X6_longest rfl rfl rfl (by decide +kernel) ⟨Nat.le_of_ble_eq_true rfl, Nat.le_of_ble_eq_true rfl⟩) hK hP hD [0, 3, 4, 2] [1, 5, 6] [3, 0, 6, 4, 5, 1, 2] rfl rfl (by decide) (by decide) rfl 0 6 rfl rfl rfl hS hA rfl hl.1 rfl (Nat.le_of_ble_eq_true rfl) dX6_simulate_86 ⟨Nat.zero_le _, Nat.zero_le _⟩ (fun H locs hP hD hS => ?_)
    refine lv_imul hx hb dX6_simulate_89 ?_
    refine lv_iload hx hb dX6_simulate_90 (lv_at hl 1 rfl) ?_
    refine lv_sipush (v := (999 : Int32)) hx hb dX6_simulate_92 (by decide) ?_
    refine lv_icmp_le (tgt := 104) hx hb dX6_simulate_95 (by decide) (fun hc => ?_) (fun hc => ?_)
    · replace hp := fl_t hc hp
      refine lv_iload hx hb dX6_simulate_104 (lv_at hl 1 rfl) ?_
      refine lv_iadd hx hb dX6_simulate_106 ?_
      obtain rfl := Option.some.inj hp
      exact hfin H locs _ ls hP hD hS dX6_simulate_107 rfl
    · replace hp := fl_f hc hp
      refine lv_sipush (v := (999 : Int32)) hx hb dX6_simulate_98 (by decide) ?_
      refine lv_goto (tgt := 106) hx hb dX6_simulate_101 (by decide) ?_
      refine lv_iadd hx hb dX6_simulate_106 ?_
      obtain rfl := Option.some.inj hp
      exact hfin H locs _ ls hP hD hS dX6_simulate_107 rfl
  have KL39 : ∀ (rf : Int32) (n0 : Nat) (z39 : (Int64 × Int32 × Int32 × fl_A × fl_A × fl_A × fl_A × fl_A × Int32)) (H : Heap) (locs : List Loc), va_P G.1 vwCl [(mo, .inr (6, [.int rf, .ref a_sc, .int ss, .ref a_nw, .ref a_tr, .ref a_di, .int ac, .ref a_ke, .ref a_ik, .ref a_od, .ref a_rk, .ref a_be, .ref a_fr, .int z39.2.2.2.2.2.2.2.2])), (a_nw, .inl (G.2.1, 126, .inl nw)), (a_tr, .inl (G.2.1, 126, .inl z39.2.2.2.1)), (a_od, .inl (G.2.1, 60, .inl z39.2.2.2.2.1)), (a_rk, .inl (G.2.1, 60, .inl z39.2.2.2.2.2.1)), (a_be, .inl (G.2.1, 60, .inl z39.2.2.2.2.2.2.1)), (a_fr, .inl (G.2.1, 12, .inl z39.2.2.2.2.2.2.2.1))] H → va_D A [(mo, .inr (6, [.int rf, .ref a_sc, .int ss, .ref a_nw, .ref a_tr, .ref a_di, .int ac, .ref a_ke, .ref a_ik, .ref a_od, .ref a_rk, .ref a_be, .ref a_fr, .int z39.2.2.2.2.2.2.2.2])), (a_nw, .inl (G.2.1, 126, .inl nw)), (a_tr, .inl (G.2.1, 126, .inl z39.2.2.2.1)), (a_od, .inl (G.2.1, 60, .inl z39.2.2.2.2.1)), (a_rk, .inl (G.2.1, 60, .inl z39.2.2.2.2.2.1)), (a_be, .inl (G.2.1, 60, .inl z39.2.2.2.2.2.2.1)), (a_fr, .inl (G.2.1, 12, .inl z39.2.2.2.2.2.2.2.1))] → va_S A s.heap H locs → ∀ (ls : Array Slot), lv_has ls 8 [(0, .ref mo), (3, .int p1), (4, .long z39.1), (6, .int z39.2.1), (7, .int z39.2.2.1)] → fl_loopN (P_M_simulate_L39 rf nw p1) n0 z39 = some r → W p l e (fl_rm 7 162) s m args below meth c H locs 0 0 Q (F0 m 39 ls []) := by
    intro rf n0
    induction n0 with
    | zero => intro z39 H locs hP hD hS ls hl hn; exact (fl_loopN_0 hn).elim
    | succ n0 ih39 =>
      intro z39 H locs hP hD hS ls hl hn
      obtain ⟨y39, hb39, hy39⟩ := fl_loopN_step hn
      clear hn
      have hp := hb39
      unfold P_M_simulate_L39 at hp
      refine lv_iload hx hb dX6_simulate_39 (lv_at hl 4 rfl) ?_
      refine lv_iload_n hx hb dX6_simulate_41 rfl (lv_at hl 1 rfl) ?_
      refine lv_icmp_ge (tgt := 78) hx hb dX6_simulate_42 (by decide) (fun hc => ?_) (fun hc => ?_)
      · replace hp := fl_t hc hp
        obtain ⟨_, hu0, rfl⟩ := fl_up_of hp
        obtain rfl := fl_cont_inr hy39
        exact KJ78 rf z39.2.2.2.1 z39.2.2.2.2.1 z39.2.2.2.2.2.1 z39.2.2.2.2.2.2.1 z39.2.2.2.2.2.2.2.1 z39.2.2.2.2.2.2.2.2 z39.2.1 H locs hP hD hS ls (lv_sub hl [0, 3] rfl) hu0
      · replace hp := fl_f hc hp
        refine lv_lload hx hb dX6_simulate_45 (lv_at hl 2 rfl) ?_
        refine lv_ldc2 (v := (6364136223846793005 : Int64)) hx hb hown (hts (.constantLong RX6 193 (6364136223846793005)) (List.mem_of_getElem? (i := 2) rfl)) dX6_simulate_47 ?_
        refine lv_lmul hx hb dX6_simulate_50 ?_
        refine lv_ldc2 (v := (1442695040888963407 : Int64)) hx hb hown (hts (.constantLong RX6 195 (1442695040888963407)) (List.mem_of_getElem? (i := 3) rfl)) dX6_simulate_51 ?_
        refine lv_ladd hx hb dX6_simulate_54 ?_
        refine lv_lstore (lv' := [(4, .long ((z39.1 * (6364136223846793005 : Int64)) + (1442695040888963407 : Int64))), (0, .ref mo), (3, .int p1), (6, .int z39.2.1), (7, .int z39.2.2.1)]) hx hb dX6_simulate_55 hl (by decide) rfl (fun ls hl => ?_)
        refine lv_iload hx hb dX6_simulate_57 (lv_at hl 3 rfl) ?_
        refine lv_aload_n hx hb dX6_simulate_59 rfl (lv_at hl 1 rfl) ?_
        refine lv_lload hx hb dX6_simulate_60 (lv_at hl 0 rfl) ?_
        refine lv_bipush (v := (33 : Int32)) hx hb dX6_simulate_62 (by decide) ?_
        refine lv_lushr (v := (((z39.1 * (6364136223846793005 : Int64)) + (1442695040888963407 : Int64)).toUInt64 >>> ((33 : Int32).toInt64.toUInt64 &&& Int64.toUInt64 63)).toInt64) hx hb dX6_simulate_64 rfl ?_
        refine lv_l2i (v := ((((z39.1 * (6364136223846793005 : Int64)) + (1442695040888963407 : Int64)).toUInt64 >>> ((33 : Int32).toInt64.toUInt64 &&& Int64.toUInt64 63)).toInt64).toInt32) hx hb dX6_simulate_65 rfl ?_
        obtain ⟨q1, hq1, hp⟩ := fl_bd_of hp
        refine fl_muV (As := [.int (((((z39.1 * (6364136223846793005 : Int64)) + (1442695040888963407 : Int64)).toUInt64 >>> ((33 : Int32).toInt64.toUInt64 &&& Int64.toUInt64 63)).toInt64).toInt32)]) (rest := [.int z39.2.1]) [(mo, .inr (6, [.int rf, .ref a_sc, .int ss, .ref a_nw, .ref a_tr, .ref a_di, .int ac, .ref a_ke, .ref a_ik, .ref a_od, .ref a_rk, .ref a_be, .ref a_fr, .int q1.2.2.2.2.2.2])), (a_nw, .inl (G.2.1, 126, .inl nw)), (a_tr, .inl (G.2.1, 126, .inl q1.2.1)), (a_od, .inl (G.2.1, 60, .inl q1.2.2.1)), (a_rk, .inl (G.2.1, 60, .inl q1.2.2.2.1)), (a_be, .inl (G.2.1, 60, .inl q1.2.2.2.2.1)), (a_fr, .inl (G.2.1, 12, .inl q1.2.2.2.2.2.1))] C0 (c_M_stir l G mo a_sc a_nw a_tr a_di a_ke a_ik a_od a_rk a_be a_fr rf ss ac z39.2.2.2.1 z39.2.2.2.2.1 z39.2.2.2.2.2.1 z39.2.2.2.2.2.2.1 z39.2.2.2.2.2.2.2.1 z39.2.2.2.2.2.2.2.2 (((((z39.1 * (6364136223846793005 : Int64)) + (1442695040888963407 : Int64)).toUInt64 >>> ((33 : Int32).toInt64.toUInt64 &&& Int64.toUInt64 63)).toInt64).toInt32) hq1) (cwV 1 hts gX6_simulate_X6_stir rfl rfl rfl (by decide +kernel) ⟨Nat.le_of_ble_eq_true rfl, Nat.le_of_ble_eq_true rfl⟩) hK hP hD [0, 2, 3, 4, 5, 6] [1] [1, 0, 2, 3, 4, 5, 6] rfl rfl (by decide) (by decide) rfl 0 6 rfl rfl rfl hS hA rfl hl.1 rfl (Nat.le_of_ble_eq_true rfl) dX6_simulate_66 ⟨Nat.zero_le _, Nat.zero_le _⟩ (fun H locs hP hD hS => ?_)
        refine lv_iadd hx hb dX6_simulate_69 ?_
        refine lv_istore (lv' := [(6, .int (z39.2.1 + q1.1)), (4, .long ((z39.1 * (6364136223846793005 : Int64)) + (1442695040888963407 : Int64))), (0, .ref mo), (3, .int p1), (7, .int z39.2.2.1)]) hx hb dX6_simulate_70 hl (by decide) rfl (fun ls hl => ?_)
        refine lv_iinc (v := (z39.2.2.1 + (1 : Int32))) (lv' := [(7, .int (z39.2.2.1 + (1 : Int32))), (6, .int (z39.2.1 + q1.1)), (4, .long ((z39.1 * (6364136223846793005 : Int64)) + (1442695040888963407 : Int64))), (0, .ref mo), (3, .int p1)]) hx hb dX6_simulate_72 hl (k := 4) rfl rfl (by decide) rfl (fun ls hl => ?_)
        refine lv_goto (tgt := 39) hx hb dX6_simulate_75 (by decide) ?_
        obtain rfl := Option.some.inj hp
        exact ih39 (((z39.1 * (6364136223846793005 : Int64)) + (1442695040888963407 : Int64)), (z39.2.1 + q1.1), (z39.2.2.1 + (1 : Int32)), q1.2.1, q1.2.2.1, q1.2.2.2.1, q1.2.2.2.2.1, q1.2.2.2.2.2.1, q1.2.2.2.2.2.2) H locs hP hD hS ls (lv_sub hl [3, 4, 2, 1, 0] rfl) (fl_cont_inl hy39)
  have KJ18 : ∀ (rf : Int32) (tr : fl_A) (od : fl_A) (rk : fl_A) (be : fl_A) (fr : fl_A) (fs : Int32) (k0 : Int32) (H : Heap) (locs : List Loc), va_P G.1 vwCl [(mo, .inr (6, [.int rf, .ref a_sc, .int ss, .ref a_nw, .ref a_tr, .ref a_di, .int ac, .ref a_ke, .ref a_ik, .ref a_od, .ref a_rk, .ref a_be, .ref a_fr, .int fs])), (a_nw, .inl (G.2.1, 126, .inl nw)), (a_tr, .inl (G.2.1, 126, .inl tr)), (a_od, .inl (G.2.1, 60, .inl od)), (a_rk, .inl (G.2.1, 60, .inl rk)), (a_be, .inl (G.2.1, 60, .inl be)), (a_fr, .inl (G.2.1, 12, .inl fr))] H → va_D A [(mo, .inr (6, [.int rf, .ref a_sc, .int ss, .ref a_nw, .ref a_tr, .ref a_di, .int ac, .ref a_ke, .ref a_ik, .ref a_od, .ref a_rk, .ref a_be, .ref a_fr, .int fs])), (a_nw, .inl (G.2.1, 126, .inl nw)), (a_tr, .inl (G.2.1, 126, .inl tr)), (a_od, .inl (G.2.1, 60, .inl od)), (a_rk, .inl (G.2.1, 60, .inl rk)), (a_be, .inl (G.2.1, 60, .inl be)), (a_fr, .inl (G.2.1, 12, .inl fr))] → va_S A s.heap H locs → ∀ (ls : Array Slot), lv_has ls 8 [(0, .ref mo), (1, .long p0), (3, .int p1)] → P_M_simulate_J18 rf nw tr od rk be fr fs p0 p1 k0 = some r → W p l e (fl_rm 7 162) s m args below meth c H locs 0 0 Q (F0 m 18 ls [.int k0, .ref mo]) := by
    intro rf tr od rk be fr fs k0 H locs hP hD hS ls hl hp
    unfold P_M_simulate_J18 at hp
    obtain ⟨q1, hq1, hp⟩ := fl_bd_of hp
    refine fl_muV (As := [.int k0]) (rest := []) [(mo, .inr (6, [.int q1.2, .ref a_sc, .int ss, .ref a_nw, .ref a_tr, .ref a_di, .int ac, .ref a_ke, .ref a_ik, .ref a_od, .ref a_rk, .ref a_be, .ref a_fr, .int fs])), (a_nw, .inl (G.2.1, 126, .inl nw)), (a_tr, .inl (G.2.1, 126, .inl tr)), (a_od, .inl (G.2.1, 60, .inl od)), (a_rk, .inl (G.2.1, 60, .inl rk)), (a_be, .inl (G.2.1, 60, .inl be)), (a_fr, .inl (G.2.1, 12, .inl fr))] C0 (c_M_refused l G mo a_sc a_nw a_tr a_di a_ke a_ik a_od a_rk a_be a_fr ss ac fs rf k0 hq1) (cwV 1 hts gX6_simulate_X6_refused rfl rfl rfl (by decide +kernel) ⟨Nat.le_of_ble_eq_true rfl, Nat.le_of_ble_eq_true rfl⟩) hK hP hD [0] [1, 2, 3, 4, 5, 6] [6, 0, 1, 2, 3, 4, 5] rfl rfl (by decide) (by decide) rfl 0 6 rfl rfl rfl hS hA rfl hl.1 rfl (Nat.le_of_ble_eq_true rfl) dX6_simulate_18 ⟨Nat.zero_le _, Nat.zero_le _⟩ (fun H locs hP hD hS => ?_)
    refine lv_if_eq (tgt := 26) hx hb dX6_simulate_21 (by decide) (fun hc => ?_) (fun hc => ?_)
    · replace hp := fl_t hc hp
      refine lv_aload_n hx hb dX6_simulate_26 rfl (lv_at hl 0 rfl) ?_
      obtain ⟨q2, hq2, hp⟩ := fl_bd_of hp
      refine fl_muV (As := []) (rest := []) [(mo, .inr (6, [.int q1.2, .ref a_sc, .int ss, .ref a_nw, .ref a_tr, .ref a_di, .int ac, .ref a_ke, .ref a_ik, .ref a_od, .ref a_rk, .ref a_be, .ref a_fr, .int fs])), (a_nw, .inl (G.2.1, 126, .inl nw)), (a_tr, .inl (G.2.1, 126, .inl q2)), (a_od, .inl (G.2.1, 60, .inl od)), (a_rk, .inl (G.2.1, 60, .inl rk)), (a_be, .inl (G.2.1, 60, .inl be)), (a_fr, .inl (G.2.1, 12, .inl fr))] C0 (c_M_begin l G mo a_sc a_nw a_tr a_di a_ke a_ik a_od a_rk a_be a_fr q1.2 ss ac fs nw tr hq2) (cwV 0 hts gX6_simulate_X6_begin rfl rfl rfl (by decide +kernel) ⟨Nat.le_of_ble_eq_true rfl, Nat.le_of_ble_eq_true rfl⟩) hK hP hD [0, 1, 2] [3, 4, 5, 6] [4, 5, 6, 0, 1, 2, 3] rfl rfl (by decide) (by decide) rfl 0 6 rfl rfl rfl hS hA rfl hl.1 rfl (Nat.le_of_ble_eq_true rfl) dX6_simulate_27 ⟨Nat.zero_le _, Nat.zero_le _⟩ (fun H locs hP hD hS => ?_)
      refine lv_lload_n hx hb dX6_simulate_30 rfl (lv_at hl 1 rfl) ?_
      refine lv_lstore (lv' := [(4, .long p0), (0, .ref mo), (1, .long p0), (3, .int p1)]) hx hb dX6_simulate_31 hl (by decide) rfl (fun ls hl => ?_)
      refine lv_iconst (v := (0 : Int32)) hx hb dX6_simulate_33 (by decide) ?_
      refine lv_istore (lv' := [(6, .int (0 : Int32)), (4, .long p0), (0, .ref mo), (1, .long p0), (3, .int p1)]) hx hb dX6_simulate_34 hl (by decide) rfl (fun ls hl => ?_)
      refine lv_iconst (v := (0 : Int32)) hx hb dX6_simulate_36 (by decide) ?_
      refine lv_istore (lv' := [(7, .int (0 : Int32)), (6, .int (0 : Int32)), (4, .long p0), (0, .ref mo), (1, .long p0), (3, .int p1)]) hx hb dX6_simulate_37 hl (by decide) rfl (fun ls hl => ?_)
      obtain ⟨n0, hn⟩ := fl_loop_ex hp
      exact KL39 q1.2 n0 (p0, (0 : Int32), (0 : Int32), q2, od, rk, be, fr, fs) H locs hP hD hS ls (lv_sub hl [3, 5, 2, 1, 0] rfl) hn
    · replace hp := fl_f hc hp
      refine lv_iconst (v := (0 : Int32)) hx hb dX6_simulate_24 (by decide) ?_
      obtain rfl := Option.some.inj hp
      exact hfin H locs _ ls hP hD hS dX6_simulate_25 rfl
  have hp := hp0
  unfold P_M_simulate at hp
  refine lv_aload_n hx hb dX6_simulate_0 rfl (lv_at hl 0 rfl) ?_
  refine lv_iload_n hx hb dX6_simulate_1 rfl (lv_at hl 2 rfl) ?_
  refine lv_i2l (v := p1.toInt64) hx hb dX6_simulate_2 rfl ?_
  refine lv_lconst (v := (1 : Int64)) hx hb dX6_simulate_3 (by decide) ?_
  refine lv_ldc2 (v := (20 : Int64)) hx hb hown (hts (.constantLong RX6 191 (20)) (List.mem_of_getElem? (i := 1) rfl)) dX6_simulate_4 ?_
  obtain ⟨q1, hq1, hp⟩ := fl_bd_of hp
  refine fl_roS (As := [.long p1.toInt64, .long (1 : Int64), .long (20 : Int64)]) (rest := [.ref mo]) C0 (c_M_in l G p1.toInt64 (1 : Int64) (20 : Int64) hq1) (va_cwS 3 hts gX6_simulate_X6_in rfl rfl rfl (by decide +kernel) ⟨Nat.le_of_ble_eq_true rfl, Nat.le_of_ble_eq_true rfl⟩) hK hP [] rfl hS hA rfl hl.1 rfl (Nat.le_of_ble_eq_true rfl) dX6_simulate_7 ⟨Nat.zero_le _, Nat.zero_le _⟩ (fun H locs hP hS => ?_)
  refine lv_if_eq (tgt := 17) hx hb dX6_simulate_10 (by decide) (fun hc => ?_) (fun hc => ?_)
  · replace hp := fl_t hc hp
    refine lv_iconst (v := (1 : Int32)) hx hb dX6_simulate_17 (by decide) ?_
    exact KJ18 rf tr od rk be fr fs (1 : Int32) H locs hP hD hS ls (lv_sub hl [0, 1, 2] rfl) hp
  · replace hp := fl_f hc hp
    refine lv_iconst (v := (0 : Int32)) hx hb dX6_simulate_13 (by decide) ?_
    refine lv_goto (tgt := 18) hx hb dX6_simulate_14 (by decide) ?_
    exact KJ18 rf tr od rk be fr fs (0 : Int32) H locs hP hD hS ls (lv_sub hl [0, 1, 2] rfl) hp

noncomputable def P_M_save_J16 (rf : Int32) (nw : fl_A) (ke : fl_A) (ik : fl_A) (p0 : Int32) (k0 : Int32) : Option (Int32 × Int32 × fl_A × fl_A) := fl_bd (P_M_refused rf k0) (fun q1 => if q1.1 = 0 then fl_bd (P_M_copy 126 252 nw ke (0 : Int32) ((126 : Int32) * p0) (126 : Int32)) (fun q2 => fl_ck p0 2 (fl_ck (0 : Int32) 126 (some ((nw (0 : Int32).toNatClampNeg), q1.2, q2, (upd ik p0.toNatClampNeg (vp_nar .boolean (1 : Int32))))))) else some ((0 : Int32), q1.2, ke, ik))
noncomputable def P_M_save (rf : Int32) (nw : fl_A) (ke : fl_A) (ik : fl_A) (p0 : Int32) : Option (Int32 × Int32 × fl_A × fl_A) := fl_bd (P_M_in p0.toInt64 (0 : Int64) (1 : Int64)) (fun q1 => if q1 = 0 then P_M_save_J16 rf nw ke ik p0 (1 : Int32) else P_M_save_J16 rf nw ke ik p0 (0 : Int32))
set_option maxHeartbeats 4000000 in
set_option maxRecDepth 100000 in
theorem c_M_save (l : Launch) (G : fl_G) (mo a_sc a_nw a_tr a_di a_ke a_ik a_od a_rk a_be a_fr : Nat) (ss : Int32) (ac : Int32) (fs : Int32) (rf : Int32) (nw : fl_A) (ke : fl_A) (ik : fl_A) (p0 : Int32) {r : (Int32 × Int32 × fl_A × fl_A)} (hp0 : P_M_save rf nw ke ik p0 = some r) : fl_mu l yX6_save wsX6_save 1 25 G [.ref mo, .int p0] [(mo, .inr (6, [.int rf, .ref a_sc, .int ss, .ref a_nw, .ref a_tr, .ref a_di, .int ac, .ref a_ke, .ref a_ik, .ref a_od, .ref a_rk, .ref a_be, .ref a_fr, .int fs])), (a_nw, .inl (G.2.1, 126, .inl nw)), (a_ke, .inl (G.2.1, 252, .inl ke)), (a_ik, .inl (G.2.2.1, 2, .inl ik))] (some (.int r.1)) [(mo, .inr (6, [.int r.2.1, .ref a_sc, .int ss, .ref a_nw, .ref a_tr, .ref a_di, .int ac, .ref a_ke, .ref a_ik, .ref a_od, .ref a_rk, .ref a_be, .ref a_fr, .int fs])), (a_nw, .inl (G.2.1, 126, .inl nw)), (a_ke, .inl (G.2.1, 252, .inl r.2.2.1)), (a_ik, .inl (G.2.2.1, 2, .inl r.2.2.2))] := by
  refine fl_mui_in cX6_save 2 .int RX6 (by decide) rfl rfl (Nat.le_of_ble_eq_true rfl) ?_
  intro p e s m args below meth c ls A Q H locs C0 hK hP hD hS hA hl hfin
  obtain ⟨hx, hb, hml, hown, hts⟩ := id C0
  have iX6 : ∀ w ∈ u_ws RX6 TX6 14, w ∈ wsX6_save := fun _ h => List.mem_cons_of_mem _ (List.mem_append_right _ h)
  have hl : lv_has ls 2 [(0, .ref mo), (1, .int p0)] := hl
  have KJ16 : ∀ (rf : Int32) (ke : fl_A) (ik : fl_A) (k0 : Int32) (H : Heap) (locs : List Loc), va_P G.1 vwCl [(mo, .inr (6, [.int rf, .ref a_sc, .int ss, .ref a_nw, .ref a_tr, .ref a_di, .int ac, .ref a_ke, .ref a_ik, .ref a_od, .ref a_rk, .ref a_be, .ref a_fr, .int fs])), (a_nw, .inl (G.2.1, 126, .inl nw)), (a_ke, .inl (G.2.1, 252, .inl ke)), (a_ik, .inl (G.2.2.1, 2, .inl ik))] H → va_D A [(mo, .inr (6, [.int rf, .ref a_sc, .int ss, .ref a_nw, .ref a_tr, .ref a_di, .int ac, .ref a_ke, .ref a_ik, .ref a_od, .ref a_rk, .ref a_be, .ref a_fr, .int fs])), (a_nw, .inl (G.2.1, 126, .inl nw)), (a_ke, .inl (G.2.1, 252, .inl ke)), (a_ik, .inl (G.2.2.1, 2, .inl ik))] → va_S A s.heap H locs → ∀ (ls : Array Slot), lv_has ls 2 [(0, .ref mo), (1, .int p0)] → P_M_save_J16 rf nw ke ik p0 k0 = some r → W p l e (fl_rm 1 25) s m args below meth c H locs 0 0 Q (F0 m 16 ls [.int k0, .ref mo]) := by
    intro rf ke ik k0 H locs hP hD hS ls hl hp
    unfold P_M_save_J16 at hp
    obtain ⟨q1, hq1, hp⟩ := fl_bd_of hp
    refine fl_muV (As := [.int k0]) (rest := []) [(mo, .inr (6, [.int q1.2, .ref a_sc, .int ss, .ref a_nw, .ref a_tr, .ref a_di, .int ac, .ref a_ke, .ref a_ik, .ref a_od, .ref a_rk, .ref a_be, .ref a_fr, .int fs])), (a_nw, .inl (G.2.1, 126, .inl nw)), (a_ke, .inl (G.2.1, 252, .inl ke)), (a_ik, .inl (G.2.2.1, 2, .inl ik))] C0 (c_M_refused l G mo a_sc a_nw a_tr a_di a_ke a_ik a_od a_rk a_be a_fr ss ac fs rf k0 hq1) (cwV 1 hts gX6_save_X6_refused rfl rfl rfl (by decide +kernel) ⟨Nat.le_of_ble_eq_true rfl, Nat.le_of_ble_eq_true rfl⟩) hK hP hD [0] [1, 2, 3] [3, 0, 1, 2] rfl rfl (by decide) (by decide) rfl 0 6 rfl rfl rfl hS hA rfl hl.1 rfl (Nat.le_of_ble_eq_true rfl) dX6_save_16 ⟨Nat.zero_le _, Nat.zero_le _⟩ (fun H locs hP hD hS => ?_)
    refine lv_if_eq (tgt := 24) hx hb dX6_save_19 (by decide) (fun hc => ?_) (fun hc => ?_)
    · replace hp := fl_t hc hp
      refine lv_aload_n hx hb dX6_save_24 rfl (lv_at hl 0 rfl) ?_
      refine va_get (D := G.1) (ci := 6) (v := .ref a_nw) (C := RX6) (T := TX6) (N := 14) hx hb hts iX6 hown hK.1 hP 0 rfl rfl 3 (by decide) (hts (.fieldLink RX6 13 "SongChoirModel" "now" "[I") (List.mem_of_getElem? (i := 1) rfl)) (fun _ h9 => h9) rfl dX6_save_25 ?_
      refine lv_iconst (v := (0 : Int32)) hx hb dX6_save_28 (by decide) ?_
      refine lv_aload_n hx hb dX6_save_29 rfl (lv_at hl 0 rfl) ?_
      refine va_get (D := G.1) (ci := 6) (v := .ref a_ke) (C := RX6) (T := TX6) (N := 14) hx hb hts iX6 hown hK.1 hP 0 rfl rfl 7 (by decide) (hts (.fieldLink RX6 22 "SongChoirModel" "kept" "[I") (List.mem_of_getElem? (i := 2) rfl)) (fun _ h9 => h9) rfl dX6_save_30 ?_
      refine lv_bipush (v := (126 : Int32)) hx hb dX6_save_33 (by decide) ?_
      refine lv_iload_n hx hb dX6_save_35 rfl (lv_at hl 1 rfl) ?_
      refine lv_imul hx hb dX6_save_36 ?_
      refine lv_bipush (v := (126 : Int32)) hx hb dX6_save_37 (by decide) ?_
      obtain ⟨q2, hq2, hp⟩ := fl_bd_of hp
      refine fl_muS (As := [.ref a_nw, .int (0 : Int32), .ref a_ke, .int ((126 : Int32) * p0), .int (126 : Int32)]) (rest := []) [(mo, .inr (6, [.int q1.2, .ref a_sc, .int ss, .ref a_nw, .ref a_tr, .ref a_di, .int ac, .ref a_ke, .ref a_ik, .ref a_od, .ref a_rk, .ref a_be, .ref a_fr, .int fs])), (a_nw, .inl (G.2.1, 126, .inl nw)), (a_ke, .inl (G.2.1, 252, .inl q2)), (a_ik, .inl (G.2.2.1, 2, .inl ik))] C0 (c_M_copy l G 126 252 a_nw a_ke nw ke (0 : Int32) ((126 : Int32) * p0) (126 : Int32) hq2) (va_cwS 5 hts gX6_save_X6_copy rfl rfl rfl (by decide +kernel) ⟨Nat.le_of_ble_eq_true rfl, Nat.le_of_ble_eq_true rfl⟩) hK hP hD [1, 2] [0, 3] [0, 2, 3, 1] rfl rfl (by decide) (by decide) rfl hS hA rfl hl.1 rfl (Nat.le_of_ble_eq_true rfl) dX6_save_39 ⟨Nat.zero_le _, Nat.zero_le _⟩ (fun H locs hP hD hS => ?_)
      refine lv_aload_n hx hb dX6_save_42 rfl (lv_at hl 0 rfl) ?_
      refine va_get (D := G.1) (ci := 6) (v := .ref a_ik) (C := RX6) (T := TX6) (N := 14) hx hb hts iX6 hown hK.1 hP 0 rfl rfl 8 (by decide) (hts (.fieldLink RX6 25 "SongChoirModel" "isKept" "[Z") (List.mem_of_getElem? (i := 3) rfl)) (fun _ h9 => h9) rfl dX6_save_43 ?_
      refine lv_iload_n hx hb dX6_save_46 rfl (lv_at hl 1 rfl) ?_
      refine lv_iconst (v := (1 : Int32)) hx hb dX6_save_47 (by decide) ?_
      obtain ⟨hi, hp⟩ := fl_ck_of hp
      refine va_zast hx hb hK.1 hP hD hS 3 1 rfl rfl hi dX6_save_48 (fun H locs hP hD hS => ?_)
      have hP : va_P G.1 vwCl [(mo, .inr (6, [.int q1.2, .ref a_sc, .int ss, .ref a_nw, .ref a_tr, .ref a_di, .int ac, .ref a_ke, .ref a_ik, .ref a_od, .ref a_rk, .ref a_be, .ref a_fr, .int fs])), (a_nw, .inl (G.2.1, 126, .inl nw)), (a_ke, .inl (G.2.1, 252, .inl q2)), (a_ik, .inl (G.2.2.1, 2, .inl (upd ik p0.toNatClampNeg (vp_nar .boolean (1 : Int32)))))] H := hP
      have hD : va_D A [(mo, .inr (6, [.int q1.2, .ref a_sc, .int ss, .ref a_nw, .ref a_tr, .ref a_di, .int ac, .ref a_ke, .ref a_ik, .ref a_od, .ref a_rk, .ref a_be, .ref a_fr, .int fs])), (a_nw, .inl (G.2.1, 126, .inl nw)), (a_ke, .inl (G.2.1, 252, .inl q2)), (a_ik, .inl (G.2.2.1, 2, .inl (upd ik p0.toNatClampNeg (vp_nar .boolean (1 : Int32)))))] := hD
      refine lv_aload_n hx hb dX6_save_49 rfl (lv_at hl 0 rfl) ?_
      refine va_get (D := G.1) (ci := 6) (v := .ref a_nw) (C := RX6) (T := TX6) (N := 14) hx hb hts iX6 hown hK.1 hP 0 rfl rfl 3 (by decide) (hts (.fieldLink RX6 13 "SongChoirModel" "now" "[I") (List.mem_of_getElem? (i := 1) rfl)) (fun _ h9 => h9) rfl dX6_save_50 ?_
      refine lv_iconst (v := (0 : Int32)) hx hb dX6_save_53 (by decide) ?_
      obtain ⟨hi, hp⟩ := fl_ck_of hp
      refine va_iald hx hb hK.1 hP 1 0 rfl rfl hi dX6_save_54 ?_
      obtain rfl := Option.some.inj hp
      exact hfin H locs _ ls hP hD hS dX6_save_55 rfl
    · replace hp := fl_f hc hp
      refine lv_iconst (v := (0 : Int32)) hx hb dX6_save_22 (by decide) ?_
      obtain rfl := Option.some.inj hp
      exact hfin H locs _ ls hP hD hS dX6_save_23 rfl
  have hp := hp0
  unfold P_M_save at hp
  refine lv_aload_n hx hb dX6_save_0 rfl (lv_at hl 0 rfl) ?_
  refine lv_iload_n hx hb dX6_save_1 rfl (lv_at hl 1 rfl) ?_
  refine lv_i2l (v := p0.toInt64) hx hb dX6_save_2 rfl ?_
  refine lv_lconst (v := (0 : Int64)) hx hb dX6_save_3 (by decide) ?_
  refine lv_lconst (v := (1 : Int64)) hx hb dX6_save_4 (by decide) ?_
  obtain ⟨q1, hq1, hp⟩ := fl_bd_of hp
  refine fl_roS (As := [.long p0.toInt64, .long (0 : Int64), .long (1 : Int64)]) (rest := [.ref mo]) C0 (c_M_in l G p0.toInt64 (0 : Int64) (1 : Int64) hq1) (va_cwS 3 hts gX6_save_X6_in rfl rfl rfl (by decide +kernel) ⟨Nat.le_of_ble_eq_true rfl, Nat.le_of_ble_eq_true rfl⟩) hK hP [] rfl hS hA rfl hl.1 rfl (Nat.le_of_ble_eq_true rfl) dX6_save_5 ⟨Nat.zero_le _, Nat.zero_le _⟩ (fun H locs hP hS => ?_)
  refine lv_if_eq (tgt := 15) hx hb dX6_save_8 (by decide) (fun hc => ?_) (fun hc => ?_)
  · replace hp := fl_t hc hp
    refine lv_iconst (v := (1 : Int32)) hx hb dX6_save_15 (by decide) ?_
    exact KJ16 rf ke ik (1 : Int32) H locs hP hD hS ls (lv_sub hl [0, 1] rfl) hp
  · replace hp := fl_f hc hp
    refine lv_iconst (v := (0 : Int32)) hx hb dX6_save_11 (by decide) ?_
    refine lv_goto (tgt := 16) hx hb dX6_save_12 (by decide) ?_
    exact KJ16 rf ke ik (0 : Int32) H locs hP hD hS ls (lv_sub hl [0, 1] rfl) hp

noncomputable def P_M_restore_J29 (rf : Int32) (nw : fl_A) (ac : Int32) (ke : fl_A) (ik : fl_A) (p0 : Int32) (k0 : Int32) : Option (Int32 × Int32 × fl_A × Int32) := fl_bd (P_M_refused rf k0) (fun q1 => if q1.1 = 0 then fl_bd (P_M_copy 252 126 ke nw ((126 : Int32) * p0) (0 : Int32) (126 : Int32)) (fun q2 => fl_ck (0 : Int32) 126 (some ((q2 (0 : Int32).toNatClampNeg), q1.2, q2, (0 : Int32)))) else some ((0 : Int32), q1.2, nw, ac))
noncomputable def P_M_restore (rf : Int32) (nw : fl_A) (ac : Int32) (ke : fl_A) (ik : fl_A) (p0 : Int32) : Option (Int32 × Int32 × fl_A × Int32) := fl_bd (P_M_in p0.toInt64 (0 : Int64) (1 : Int64)) (fun q1 => if q1 = 0 then P_M_restore_J29 rf nw ac ke ik p0 (1 : Int32) else fl_ck p0 2 (if (ik p0.toNatClampNeg) = 0 then P_M_restore_J29 rf nw ac ke ik p0 (2 : Int32) else P_M_restore_J29 rf nw ac ke ik p0 (0 : Int32)))
set_option maxHeartbeats 4000000 in
set_option maxRecDepth 100000 in
theorem c_M_restore (l : Launch) (G : fl_G) (mo a_sc a_nw a_tr a_di a_ke a_ik a_od a_rk a_be a_fr : Nat) (ss : Int32) (fs : Int32) (rf : Int32) (nw : fl_A) (ac : Int32) (ke : fl_A) (ik : fl_A) (p0 : Int32) {r : (Int32 × Int32 × fl_A × Int32)} (hp0 : P_M_restore rf nw ac ke ik p0 = some r) : fl_mu l yX6_restore wsX6_restore 1 25 G [.ref mo, .int p0] [(mo, .inr (6, [.int rf, .ref a_sc, .int ss, .ref a_nw, .ref a_tr, .ref a_di, .int ac, .ref a_ke, .ref a_ik, .ref a_od, .ref a_rk, .ref a_be, .ref a_fr, .int fs])), (a_nw, .inl (G.2.1, 126, .inl nw)), (a_ke, .inl (G.2.1, 252, .inl ke)), (a_ik, .inl (G.2.2.1, 2, .inl ik))] (some (.int r.1)) [(mo, .inr (6, [.int r.2.1, .ref a_sc, .int ss, .ref a_nw, .ref a_tr, .ref a_di, .int r.2.2.2, .ref a_ke, .ref a_ik, .ref a_od, .ref a_rk, .ref a_be, .ref a_fr, .int fs])), (a_nw, .inl (G.2.1, 126, .inl r.2.2.1)), (a_ke, .inl (G.2.1, 252, .inl ke)), (a_ik, .inl (G.2.2.1, 2, .inl ik))] := by
  refine fl_mui_in cX6_restore 2 .int RX6 (by decide) rfl rfl (Nat.le_of_ble_eq_true rfl) ?_
  intro p e s m args below meth c ls A Q H locs C0 hK hP hD hS hA hl hfin
  obtain ⟨hx, hb, hml, hown, hts⟩ := id C0
  have iX6 : ∀ w ∈ u_ws RX6 TX6 14, w ∈ wsX6_restore := fun _ h => List.mem_cons_of_mem _ (List.mem_append_right _ h)
  have hl : lv_has ls 2 [(0, .ref mo), (1, .int p0)] := hl
  have KJ29 : ∀ (rf : Int32) (nw : fl_A) (ac : Int32) (k0 : Int32) (H : Heap) (locs : List Loc), va_P G.1 vwCl [(mo, .inr (6, [.int rf, .ref a_sc, .int ss, .ref a_nw, .ref a_tr, .ref a_di, .int ac, .ref a_ke, .ref a_ik, .ref a_od, .ref a_rk, .ref a_be, .ref a_fr, .int fs])), (a_nw, .inl (G.2.1, 126, .inl nw)), (a_ke, .inl (G.2.1, 252, .inl ke)), (a_ik, .inl (G.2.2.1, 2, .inl ik))] H → va_D A [(mo, .inr (6, [.int rf, .ref a_sc, .int ss, .ref a_nw, .ref a_tr, .ref a_di, .int ac, .ref a_ke, .ref a_ik, .ref a_od, .ref a_rk, .ref a_be, .ref a_fr, .int fs])), (a_nw, .inl (G.2.1, 126, .inl nw)), (a_ke, .inl (G.2.1, 252, .inl ke)), (a_ik, .inl (G.2.2.1, 2, .inl ik))] → va_S A s.heap H locs → ∀ (ls : Array Slot), lv_has ls 2 [(0, .ref mo), (1, .int p0)] → P_M_restore_J29 rf nw ac ke ik p0 k0 = some r → W p l e (fl_rm 1 25) s m args below meth c H locs 0 0 Q (F0 m 29 ls [.int k0, .ref mo]) := by
    intro rf nw ac k0 H locs hP hD hS ls hl hp
    unfold P_M_restore_J29 at hp
    obtain ⟨q1, hq1, hp⟩ := fl_bd_of hp
    refine fl_muV (As := [.int k0]) (rest := []) [(mo, .inr (6, [.int q1.2, .ref a_sc, .int ss, .ref a_nw, .ref a_tr, .ref a_di, .int ac, .ref a_ke, .ref a_ik, .ref a_od, .ref a_rk, .ref a_be, .ref a_fr, .int fs])), (a_nw, .inl (G.2.1, 126, .inl nw)), (a_ke, .inl (G.2.1, 252, .inl ke)), (a_ik, .inl (G.2.2.1, 2, .inl ik))] C0 (c_M_refused l G mo a_sc a_nw a_tr a_di a_ke a_ik a_od a_rk a_be a_fr ss ac fs rf k0 hq1) (cwV 1 hts gX6_restore_X6_refused rfl rfl rfl (by decide +kernel) ⟨Nat.le_of_ble_eq_true rfl, Nat.le_of_ble_eq_true rfl⟩) hK hP hD [0] [1, 2, 3] [3, 0, 1, 2] rfl rfl (by decide) (by decide) rfl 0 6 rfl rfl rfl hS hA rfl hl.1 rfl (Nat.le_of_ble_eq_true rfl) dX6_restore_29 ⟨Nat.zero_le _, Nat.zero_le _⟩ (fun H locs hP hD hS => ?_)
    refine lv_if_eq (tgt := 37) hx hb dX6_restore_32 (by decide) (fun hc => ?_) (fun hc => ?_)
    · replace hp := fl_t hc hp
      refine lv_aload_n hx hb dX6_restore_37 rfl (lv_at hl 0 rfl) ?_
      refine va_get (D := G.1) (ci := 6) (v := .ref a_ke) (C := RX6) (T := TX6) (N := 14) hx hb hts iX6 hown hK.1 hP 0 rfl rfl 7 (by decide) (hts (.fieldLink RX6 22 "SongChoirModel" "kept" "[I") (List.mem_of_getElem? (i := 2) rfl)) (fun _ h9 => h9) rfl dX6_restore_38 ?_
      refine lv_bipush (v := (126 : Int32)) hx hb dX6_restore_41 (by decide) ?_
      refine lv_iload_n hx hb dX6_restore_43 rfl (lv_at hl 1 rfl) ?_
      refine lv_imul hx hb dX6_restore_44 ?_
      refine lv_aload_n hx hb dX6_restore_45 rfl (lv_at hl 0 rfl) ?_
      refine va_get (D := G.1) (ci := 6) (v := .ref a_nw) (C := RX6) (T := TX6) (N := 14) hx hb hts iX6 hown hK.1 hP 0 rfl rfl 3 (by decide) (hts (.fieldLink RX6 13 "SongChoirModel" "now" "[I") (List.mem_of_getElem? (i := 3) rfl)) (fun _ h9 => h9) rfl dX6_restore_46 ?_
      refine lv_iconst (v := (0 : Int32)) hx hb dX6_restore_49 (by decide) ?_
      refine lv_bipush (v := (126 : Int32)) hx hb dX6_restore_50 (by decide) ?_
      obtain ⟨q2, hq2, hp⟩ := fl_bd_of hp
      refine fl_muS (As := [.ref a_ke, .int ((126 : Int32) * p0), .ref a_nw, .int (0 : Int32), .int (126 : Int32)]) (rest := []) [(mo, .inr (6, [.int q1.2, .ref a_sc, .int ss, .ref a_nw, .ref a_tr, .ref a_di, .int ac, .ref a_ke, .ref a_ik, .ref a_od, .ref a_rk, .ref a_be, .ref a_fr, .int fs])), (a_nw, .inl (G.2.1, 126, .inl q2)), (a_ke, .inl (G.2.1, 252, .inl ke)), (a_ik, .inl (G.2.2.1, 2, .inl ik))] C0 (c_M_copy l G 252 126 a_ke a_nw ke nw ((126 : Int32) * p0) (0 : Int32) (126 : Int32) hq2) (va_cwS 5 hts gX6_restore_X6_copy rfl rfl rfl (by decide +kernel) ⟨Nat.le_of_ble_eq_true rfl, Nat.le_of_ble_eq_true rfl⟩) hK hP hD [2, 1] [0, 3] [0, 3, 2, 1] rfl rfl (by decide) (by decide) rfl hS hA rfl hl.1 rfl (Nat.le_of_ble_eq_true rfl) dX6_restore_52 ⟨Nat.zero_le _, Nat.zero_le _⟩ (fun H locs hP hD hS => ?_)
      refine lv_aload_n hx hb dX6_restore_55 rfl (lv_at hl 0 rfl) ?_
      refine lv_iconst (v := (0 : Int32)) hx hb dX6_restore_56 (by decide) ?_
      refine va_put (D := G.1) (ci := 6) (v := .int (0 : Int32)) (ty := .int) (C := RX6) (T := TX6) (N := 14) hx hb hts iX6 tyX6 tyX6_ok nmX6 hown hK.1 hP hD hS 0 rfl rfl 6 (by decide) (hts (.fieldLink RX6 47 "SongChoirModel" "acts" "I") (List.mem_of_getElem? (i := 4) rfl)) (fun _ h9 => h9) rfl (by decide +kernel) rfl rfl (Nat.le_of_ble_eq_true rfl) dX6_restore_57 (fun H locs hP hD hS => ?_)
      have hP : va_P G.1 vwCl [(mo, .inr (6, [.int q1.2, .ref a_sc, .int ss, .ref a_nw, .ref a_tr, .ref a_di, .int (0 : Int32), .ref a_ke, .ref a_ik, .ref a_od, .ref a_rk, .ref a_be, .ref a_fr, .int fs])), (a_nw, .inl (G.2.1, 126, .inl q2)), (a_ke, .inl (G.2.1, 252, .inl ke)), (a_ik, .inl (G.2.2.1, 2, .inl ik))] H := hP
      have hD : va_D A [(mo, .inr (6, [.int q1.2, .ref a_sc, .int ss, .ref a_nw, .ref a_tr, .ref a_di, .int (0 : Int32), .ref a_ke, .ref a_ik, .ref a_od, .ref a_rk, .ref a_be, .ref a_fr, .int fs])), (a_nw, .inl (G.2.1, 126, .inl q2)), (a_ke, .inl (G.2.1, 252, .inl ke)), (a_ik, .inl (G.2.2.1, 2, .inl ik))] := hD
      refine lv_aload_n hx hb dX6_restore_60 rfl (lv_at hl 0 rfl) ?_
      refine va_get (D := G.1) (ci := 6) (v := .ref a_nw) (C := RX6) (T := TX6) (N := 14) hx hb hts iX6 hown hK.1 hP 0 rfl rfl 3 (by decide) (hts (.fieldLink RX6 13 "SongChoirModel" "now" "[I") (List.mem_of_getElem? (i := 3) rfl)) (fun _ h9 => h9) rfl dX6_restore_61 ?_
      refine lv_iconst (v := (0 : Int32)) hx hb dX6_restore_64 (by decide) ?_
      obtain ⟨hi, hp⟩ := fl_ck_of hp
      refine va_iald hx hb hK.1 hP 1 0 rfl rfl hi dX6_restore_65 ?_
      obtain rfl := Option.some.inj hp
      exact hfin H locs _ ls hP hD hS dX6_restore_66 rfl
    · replace hp := fl_f hc hp
      refine lv_iconst (v := (0 : Int32)) hx hb dX6_restore_35 (by decide) ?_
      obtain rfl := Option.some.inj hp
      exact hfin H locs _ ls hP hD hS dX6_restore_36 rfl
  have hp := hp0
  unfold P_M_restore at hp
  refine lv_aload_n hx hb dX6_restore_0 rfl (lv_at hl 0 rfl) ?_
  refine lv_iload_n hx hb dX6_restore_1 rfl (lv_at hl 1 rfl) ?_
  refine lv_i2l (v := p0.toInt64) hx hb dX6_restore_2 rfl ?_
  refine lv_lconst (v := (0 : Int64)) hx hb dX6_restore_3 (by decide) ?_
  refine lv_lconst (v := (1 : Int64)) hx hb dX6_restore_4 (by decide) ?_
  obtain ⟨q1, hq1, hp⟩ := fl_bd_of hp
  refine fl_roS (As := [.long p0.toInt64, .long (0 : Int64), .long (1 : Int64)]) (rest := [.ref mo]) C0 (c_M_in l G p0.toInt64 (0 : Int64) (1 : Int64) hq1) (va_cwS 3 hts gX6_restore_X6_in rfl rfl rfl (by decide +kernel) ⟨Nat.le_of_ble_eq_true rfl, Nat.le_of_ble_eq_true rfl⟩) hK hP [] rfl hS hA rfl hl.1 rfl (Nat.le_of_ble_eq_true rfl) dX6_restore_5 ⟨Nat.zero_le _, Nat.zero_le _⟩ (fun H locs hP hS => ?_)
  refine lv_if_ne (tgt := 15) hx hb dX6_restore_8 (by decide) (fun hc => ?_) (fun hc => ?_)
  · replace hp := fl_f hc hp
    refine lv_aload_n hx hb dX6_restore_15 rfl (lv_at hl 0 rfl) ?_
    refine va_get (D := G.1) (ci := 6) (v := .ref a_ik) (C := RX6) (T := TX6) (N := 14) hx hb hts iX6 hown hK.1 hP 0 rfl rfl 8 (by decide) (hts (.fieldLink RX6 25 "SongChoirModel" "isKept" "[Z") (List.mem_of_getElem? (i := 1) rfl)) (fun _ h9 => h9) rfl dX6_restore_16 ?_
    refine lv_iload_n hx hb dX6_restore_19 rfl (lv_at hl 1 rfl) ?_
    obtain ⟨hi, hp⟩ := fl_ck_of hp
    refine va_zald hx hb hK.1 hP 3 1 rfl rfl hi dX6_restore_20 ?_
    refine lv_if_eq (tgt := 28) hx hb dX6_restore_21 (by decide) (fun hc => ?_) (fun hc => ?_)
    · replace hp := fl_t hc hp
      refine lv_iconst (v := (2 : Int32)) hx hb dX6_restore_28 (by decide) ?_
      exact KJ29 rf nw ac (2 : Int32) H locs hP hD hS ls (lv_sub hl [0, 1] rfl) hp
    · replace hp := fl_f hc hp
      refine lv_iconst (v := (0 : Int32)) hx hb dX6_restore_24 (by decide) ?_
      refine lv_goto (tgt := 29) hx hb dX6_restore_25 (by decide) ?_
      exact KJ29 rf nw ac (0 : Int32) H locs hP hD hS ls (lv_sub hl [0, 1] rfl) hp
  · replace hp := fl_t hc hp
    refine lv_iconst (v := (1 : Int32)) hx hb dX6_restore_11 (by decide) ?_
    refine lv_goto (tgt := 29) hx hb dX6_restore_12 (by decide) ?_
    exact KJ29 rf nw ac (1 : Int32) H locs hP hD hS ls (lv_sub hl [0, 1] rfl) hp
