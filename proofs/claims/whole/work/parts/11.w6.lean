noncomputable def P_SC_isSungAt (tx : fl_Ln) (pn : fl_Ch) (p0 : Int32) : Option Int32 := fl_bd (P_Ln_sharedWith 40 tx pn.1 p0) (fun q1 => if q1 = tx.2 then some (1 : Int32) else some (0 : Int32))
set_option maxHeartbeats 4000000 in
set_option maxRecDepth 100000 in
theorem c_SC_isSungAt (l : Launch) (G : fl_G) (sc tx0 tx1 pnh pns0 pns1 pns2 pno0 pno1 pno2 pno3 pno4 pno5 pnk pnb tl0 fh0 hi sl : Nat) (tx : fl_Ln) (pn : fl_Ch) (p0 : Int32) {r : Int32} (hp0 : P_SC_isSungAt tx pn p0 = some r) : fl_ro l yX5_isSungAt wsX5_isSungAt 3 65 G [.ref sc, .int p0] [(sc, .inr (5, [.ref tx0, .ref pnh, .ref tl0, .ref fh0, .ref hi, .ref sl])), (tx0, .inr (2, [.ref tx1, .int tx.2])), (tx1, .inl (G.2.1, 40, .inl tx.1)), (pnh, .inr (0, [.ref pns0, .ref pno0, .ref pnk, .ref pnb])), (pns0, .inr (4, [.ref pns1, .ref pns2, .int pn.1.2.2.1, .int pn.1.2.2.2.1, .int pn.1.2.2.2.2.1, .int pn.1.2.2.2.2.2.1, .int pn.1.2.2.2.2.2.2.1, .int pn.1.2.2.2.2.2.2.2])), (pns1, .inl (G.2.1, 48, .inl pn.1.1)), (pns2, .inl (G.2.1, 48, .inl pn.1.2.1)), (pno0, .inr (3, [.int pn.2.1.1, .ref pno1, .ref pno2, .ref pno3, .ref pno4, .ref pno5])), (pno1, .inl (G.2.1, 48, .inl pn.2.1.2.1)), (pno2, .inl (G.2.1, 48, .inl pn.2.1.2.2.1)), (pno3, .inl (G.2.1, 48, .inl pn.2.1.2.2.2.1)), (pno4, .inl (G.2.1, 48, .inl pn.2.1.2.2.2.2.1)), (pno5, .inl (G.2.1, 49, .inl pn.2.1.2.2.2.2.2)), (pnk, .inl (G.2.1, 48, .inl pn.2.2.1)), (pnb, .inl (G.2.1, 48, .inl pn.2.2.2))] (.int r) := by
  refine fl_ro_in cX5_isSungAt 2 .boolean RX5 (by decide) rfl rfl (Nat.le_of_ble_eq_true rfl) ?_
  intro p e s m args below meth c ls Q H locs C0 hK hP hS hl hfin
  have hA : ∀ q : Nat, s.heap.size ≤ q → va_A [] s.heap.size q := fl_hA _ _
  obtain ⟨hx, hb, hml, hown, hts⟩ := id C0
  have iX0 : ∀ w ∈ u_ws RX0 TX0 4, w ∈ wsX5_isSungAt := fun _ h => List.mem_cons_of_mem _ (List.mem_append_left _ (List.mem_append_left _ (List.mem_append_right _ h)))
  have iX2 : ∀ w ∈ u_ws RX2 TX2 2, w ∈ wsX5_isSungAt := fun _ h => List.mem_cons_of_mem _ (List.mem_append_left _ (List.mem_append_right _ h))
  have iX5 : ∀ w ∈ u_ws RX5 TX5 6, w ∈ wsX5_isSungAt := fun _ h => List.mem_cons_of_mem _ (List.mem_append_left _ (List.mem_append_left _ (List.mem_append_left _ (List.mem_append_right _ h))))
  have hl : lv_has ls 2 [(0, .ref sc), (1, .int p0)] := hl
  have hp := hp0
  unfold P_SC_isSungAt at hp
  refine lv_aload_n hx hb dX5_isSungAt_0 rfl (lv_at hl 0 rfl) ?_
  refine va_get (D := G.1) (ci := 5) (v := .ref tx0) (C := RX5) (T := TX5) (N := 6) hx hb hts iX5 hown hK.1 hP 0 rfl rfl 0 (by decide) (hts (.fieldLink RX5 14 "SongChoir" "text" "LSongChoir$Line;") (List.mem_of_getElem? (i := 1) rfl)) (fun _ h9 => h9) rfl dX5_isSungAt_1 ?_
  refine lv_aload_n hx hb dX5_isSungAt_4 rfl (lv_at hl 0 rfl) ?_
  refine va_get (D := G.1) (ci := 5) (v := .ref pnh) (C := RX5) (T := TX5) (N := 6) hx hb hts iX5 hown hK.1 hP 0 rfl rfl 1 (by decide) (hts (.fieldLink RX5 21 "SongChoir" "present" "LSongChoir$Choir;") (List.mem_of_getElem? (i := 2) rfl)) (fun _ h9 => h9) rfl dX5_isSungAt_5 ?_
  refine va_get (D := G.1) (ci := 0) (v := .ref pns0) (C := RX0) (T := TX0) (N := 4) hx hb hts iX0 hown hK.1 hP 3 rfl rfl 0 (by decide) (hts (.fieldLink RX5 74 "SongChoir$Choir" "song" "LSongChoir$Song;") (List.mem_of_getElem? (i := 3) rfl)) (fun _ h9 => h9) rfl dX5_isSungAt_8 ?_
  refine lv_iload_n hx hb dX5_isSungAt_11 rfl (lv_at hl 1 rfl) ?_
  obtain ⟨q1, hq1, hp⟩ := fl_bd_of hp
  refine fl_roV (As := [.ref pns0, .int p0]) (rest := []) C0 (c_Ln_sharedWith l G 40 tx0 tx1 pns0 pns1 pns2 tx pn.1 p0 hq1) (cwV 2 hts gX5_isSungAt_X2_sharedWith rfl rfl rfl (by decide +kernel) ⟨Nat.le_of_ble_eq_true rfl, Nat.le_of_ble_eq_true rfl⟩) hK hP [1, 2, 4, 5, 6] rfl 1 2 rfl rfl rfl hS hA rfl hl.1 rfl (Nat.le_of_ble_eq_true rfl) dX5_isSungAt_12 ⟨Nat.zero_le _, Nat.zero_le _⟩ (fun H locs hP hS => ?_)
  refine lv_aload_n hx hb dX5_isSungAt_15 rfl (lv_at hl 0 rfl) ?_
  refine va_get (D := G.1) (ci := 5) (v := .ref tx0) (C := RX5) (T := TX5) (N := 6) hx hb hts iX5 hown hK.1 hP 0 rfl rfl 0 (by decide) (hts (.fieldLink RX5 14 "SongChoir" "text" "LSongChoir$Line;") (List.mem_of_getElem? (i := 1) rfl)) (fun _ h9 => h9) rfl dX5_isSungAt_16 ?_
  refine va_get (D := G.1) (ci := 2) (v := .int tx.2) (C := RX2) (T := TX2) (N := 2) hx hb hts iX2 hown hK.1 hP 1 rfl rfl 1 (by decide) (hts (.fieldLink RX5 63 "SongChoir$Line" "length" "I") (List.mem_of_getElem? (i := 4) rfl)) (fun _ h9 => h9) rfl dX5_isSungAt_19 ?_
  refine lv_icmp_ne (tgt := 29) hx hb dX5_isSungAt_22 (by decide) (fun hc => ?_) (fun hc => ?_)
  · replace hp := fl_f hc hp
    refine lv_iconst (v := (0 : Int32)) hx hb dX5_isSungAt_29 (by decide) ?_
    obtain rfl := Option.some.inj hp
    exact hfin H locs _ ls hS dX5_isSungAt_30 (show narrow .boolean (.int (0 : Int32)) = .int (0 : Int32) from rfl)
  · replace hp := fl_t hc hp
    refine lv_iconst (v := (1 : Int32)) hx hb dX5_isSungAt_25 (by decide) ?_
    refine lv_goto (tgt := 30) hx hb dX5_isSungAt_26 (by decide) ?_
    obtain rfl := Option.some.inj hp
    exact hfin H locs _ ls hS dX5_isSungAt_30 (show narrow .boolean (.int (1 : Int32)) = .int (1 : Int32) from rfl)

noncomputable def P_SC_clearText (tx : fl_Ln) : Option (Int32 × fl_Ln) := fl_bd (P_Ln_empty 40 tx) (fun q1 => some (tx.2, q1))
set_option maxHeartbeats 4000000 in
set_option maxRecDepth 100000 in
theorem c_SC_clearText (l : Launch) (G : fl_G) (sc tx0 tx1 pn0 tl0 fh0 hi sl : Nat) (tx : fl_Ln) {r : (Int32 × fl_Ln)} (hp0 : P_SC_clearText tx = some r) : fl_mu l yX5_clearText wsX5_clearText 1 20 G [.ref sc] [(sc, .inr (5, [.ref tx0, .ref pn0, .ref tl0, .ref fh0, .ref hi, .ref sl])), (tx0, .inr (2, [.ref tx1, .int tx.2])), (tx1, .inl (G.2.1, 40, .inl tx.1))] (some (.int r.1)) [(sc, .inr (5, [.ref tx0, .ref pn0, .ref tl0, .ref fh0, .ref hi, .ref sl])), (tx0, .inr (2, [.ref tx1, .int r.2.2])), (tx1, .inl (G.2.1, 40, .inl r.2.1))] := by
  refine fl_mui_in cX5_clearText 2 .int RX5 (by decide) rfl rfl (Nat.le_of_ble_eq_true rfl) ?_
  intro p e s m args below meth c ls A Q H locs C0 hK hP hD hS hA hl hfin
  obtain ⟨hx, hb, hml, hown, hts⟩ := id C0
  have iX2 : ∀ w ∈ u_ws RX2 TX2 2, w ∈ wsX5_clearText := fun _ h => List.mem_cons_of_mem _ (List.mem_append_right _ h)
  have iX5 : ∀ w ∈ u_ws RX5 TX5 6, w ∈ wsX5_clearText := fun _ h => List.mem_cons_of_mem _ (List.mem_append_left _ (List.mem_append_right _ h))
  have hl : lv_has ls 2 [(0, .ref sc)] := hl
  have hp := hp0
  unfold P_SC_clearText at hp
  refine lv_aload_n hx hb dX5_clearText_0 rfl (lv_at hl 0 rfl) ?_
  refine va_get (D := G.1) (ci := 5) (v := .ref tx0) (C := RX5) (T := TX5) (N := 6) hx hb hts iX5 hown hK.1 hP 0 rfl rfl 0 (by decide) (hts (.fieldLink RX5 14 "SongChoir" "text" "LSongChoir$Line;") (List.mem_of_getElem? (i := 1) rfl)) (fun _ h9 => h9) rfl dX5_clearText_1 ?_
  refine va_get (D := G.1) (ci := 2) (v := .int tx.2) (C := RX2) (T := TX2) (N := 2) hx hb hts iX2 hown hK.1 hP 1 rfl rfl 1 (by decide) (hts (.fieldLink RX5 63 "SongChoir$Line" "length" "I") (List.mem_of_getElem? (i := 2) rfl)) (fun _ h9 => h9) rfl dX5_clearText_4 ?_
  refine lv_istore_n (lv' := [(1, .int tx.2), (0, .ref sc)]) hx hb dX5_clearText_7 rfl hl (by decide) rfl (fun ls hl => ?_)
  refine lv_aload_n hx hb dX5_clearText_8 rfl (lv_at hl 1 rfl) ?_
  refine va_get (D := G.1) (ci := 5) (v := .ref tx0) (C := RX5) (T := TX5) (N := 6) hx hb hts iX5 hown hK.1 hP 0 rfl rfl 0 (by decide) (hts (.fieldLink RX5 14 "SongChoir" "text" "LSongChoir$Line;") (List.mem_of_getElem? (i := 1) rfl)) (fun _ h9 => h9) rfl dX5_clearText_9 ?_
  obtain ⟨q1, hq1, hp⟩ := fl_bd_of hp
  refine fl_muV (As := []) (rest := []) [(sc, .inr (5, [.ref tx0, .ref pn0, .ref tl0, .ref fh0, .ref hi, .ref sl])), (tx0, .inr (2, [.ref tx1, .int q1.2])), (tx1, .inl (G.2.1, 40, .inl q1.1))] C0 (c_Ln_empty l G 40 tx0 tx1 tx hq1) (cwV 0 hts gX5_clearText_X2_empty rfl rfl rfl (by decide +kernel) ⟨Nat.le_of_ble_eq_true rfl, Nat.le_of_ble_eq_true rfl⟩) hK hP hD [1, 2] [0] [0, 1, 2] rfl rfl (by decide) (by decide) rfl 1 2 rfl rfl rfl hS hA rfl hl.1 rfl (Nat.le_of_ble_eq_true rfl) dX5_clearText_12 ⟨Nat.zero_le _, Nat.zero_le _⟩ (fun H locs hP hD hS => ?_)
  refine lv_iload_n hx hb dX5_clearText_15 rfl (lv_at hl 0 rfl) ?_
  obtain rfl := Option.some.inj hp
  exact hfin H locs _ ls hP hD hS dX5_clearText_16 rfl

noncomputable def P_SC_errorPosition (tx : fl_Ln) : Option Int32 := fl_bd (P_Ln_firstError 40 tx) (fun q1 => some q1)
set_option maxHeartbeats 4000000 in
set_option maxRecDepth 100000 in
theorem c_SC_errorPosition (l : Launch) (G : fl_G) (sc tx0 tx1 pn0 tl0 fh0 hi sl : Nat) (tx : fl_Ln) {r : Int32} (hp0 : P_SC_errorPosition tx = some r) : fl_ro l yX5_errorPosition wsX5_errorPosition 3 63 G [.ref sc] [(sc, .inr (5, [.ref tx0, .ref pn0, .ref tl0, .ref fh0, .ref hi, .ref sl])), (tx0, .inr (2, [.ref tx1, .int tx.2])), (tx1, .inl (G.2.1, 40, .inl tx.1))] (.int r) := by
  refine fl_ro_in cX5_errorPosition 1 .int RX5 (by decide) rfl rfl (Nat.le_of_ble_eq_true rfl) ?_
  intro p e s m args below meth c ls Q H locs C0 hK hP hS hl hfin
  have hA : ∀ q : Nat, s.heap.size ≤ q → va_A [] s.heap.size q := fl_hA _ _
  obtain ⟨hx, hb, hml, hown, hts⟩ := id C0
  have iX5 : ∀ w ∈ u_ws RX5 TX5 6, w ∈ wsX5_errorPosition := fun _ h => List.mem_cons_of_mem _ (List.mem_append_left _ (List.mem_append_right _ h))
  have hl : lv_has ls 1 [(0, .ref sc)] := hl
  have hp := hp0
  unfold P_SC_errorPosition at hp
  refine lv_aload_n hx hb dX5_errorPosition_0 rfl (lv_at hl 0 rfl) ?_
  refine va_get (D := G.1) (ci := 5) (v := .ref tx0) (C := RX5) (T := TX5) (N := 6) hx hb hts iX5 hown hK.1 hP 0 rfl rfl 0 (by decide) (hts (.fieldLink RX5 14 "SongChoir" "text" "LSongChoir$Line;") (List.mem_of_getElem? (i := 1) rfl)) (fun _ h9 => h9) rfl dX5_errorPosition_1 ?_
  obtain ⟨q1, hq1, hp⟩ := fl_bd_of hp
  refine fl_roV (As := []) (rest := []) C0 (c_Ln_firstError l G 40 tx0 tx1 tx hq1) (cwV 0 hts gX5_errorPosition_X2_firstError rfl rfl rfl (by decide +kernel) ⟨Nat.le_of_ble_eq_true rfl, Nat.le_of_ble_eq_true rfl⟩) hK hP [1, 2] rfl 1 2 rfl rfl rfl hS hA rfl hl.1 rfl (Nat.le_of_ble_eq_true rfl) dX5_errorPosition_4 ⟨Nat.zero_le _, Nat.zero_le _⟩ (fun H locs hP hS => ?_)
  obtain rfl := Option.some.inj hp
  exact hfin H locs _ ls hS dX5_errorPosition_7 rfl

noncomputable def P_SC_wouldRepeat (tx : fl_Ln) (pn : fl_Ch) (tl : fl_Ch) (fh : fl_Ln) : Option (Int32 × fl_Ch × fl_Ln) := fl_bd (P_Ln_fitsVerse 40 tx) (fun q1 => if q1 = 0 then some ((-1 : Int32), tl, fh) else fl_bd (P_Ln_takeLine 12 40 fh tx) (fun q2 => fl_bd (P_Ch_becomeChoir tl pn) (fun q3 => fl_bd (P_Ch_addVerse 12 q3 q2) (fun q4 => fl_bd (P_Or_longestRepeat q4.2.2.1) (fun q5 => some (q5, q4.2, q2))))))
set_option maxHeartbeats 4000000 in
set_option maxRecDepth 100000 in
theorem c_SC_wouldRepeat (l : Launch) (G : fl_G) (sc tx0 tx1 pnh pns0 pns1 pns2 pno0 pno1 pno2 pno3 pno4 pno5 pnk pnb tlh tls0 tls1 tls2 tlo0 tlo1 tlo2 tlo3 tlo4 tlo5 tlk tlb fh0 fh1 hi sl : Nat) (tx : fl_Ln) (pn : fl_Ch) (tl : fl_Ch) (fh : fl_Ln) {r : (Int32 × fl_Ch × fl_Ln)} (hp0 : P_SC_wouldRepeat tx pn tl fh = some r) : fl_mu l yX5_wouldRepeat wsX5_wouldRepeat 5 103 G [.ref sc] [(sc, .inr (5, [.ref tx0, .ref pnh, .ref tlh, .ref fh0, .ref hi, .ref sl])), (tx0, .inr (2, [.ref tx1, .int tx.2])), (tx1, .inl (G.2.1, 40, .inl tx.1)), (pnh, .inr (0, [.ref pns0, .ref pno0, .ref pnk, .ref pnb])), (pns0, .inr (4, [.ref pns1, .ref pns2, .int pn.1.2.2.1, .int pn.1.2.2.2.1, .int pn.1.2.2.2.2.1, .int pn.1.2.2.2.2.2.1, .int pn.1.2.2.2.2.2.2.1, .int pn.1.2.2.2.2.2.2.2])), (pns1, .inl (G.2.1, 48, .inl pn.1.1)), (pns2, .inl (G.2.1, 48, .inl pn.1.2.1)), (pno0, .inr (3, [.int pn.2.1.1, .ref pno1, .ref pno2, .ref pno3, .ref pno4, .ref pno5])), (pno1, .inl (G.2.1, 48, .inl pn.2.1.2.1)), (pno2, .inl (G.2.1, 48, .inl pn.2.1.2.2.1)), (pno3, .inl (G.2.1, 48, .inl pn.2.1.2.2.2.1)), (pno4, .inl (G.2.1, 48, .inl pn.2.1.2.2.2.2.1)), (pno5, .inl (G.2.1, 49, .inl pn.2.1.2.2.2.2.2)), (pnk, .inl (G.2.1, 48, .inl pn.2.2.1)), (pnb, .inl (G.2.1, 48, .inl pn.2.2.2)), (tlh, .inr (0, [.ref tls0, .ref tlo0, .ref tlk, .ref tlb])), (tls0, .inr (4, [.ref tls1, .ref tls2, .int tl.1.2.2.1, .int tl.1.2.2.2.1, .int tl.1.2.2.2.2.1, .int tl.1.2.2.2.2.2.1, .int tl.1.2.2.2.2.2.2.1, .int tl.1.2.2.2.2.2.2.2])), (tls1, .inl (G.2.1, 48, .inl tl.1.1)), (tls2, .inl (G.2.1, 48, .inl tl.1.2.1)), (tlo0, .inr (3, [.int tl.2.1.1, .ref tlo1, .ref tlo2, .ref tlo3, .ref tlo4, .ref tlo5])), (tlo1, .inl (G.2.1, 48, .inl tl.2.1.2.1)), (tlo2, .inl (G.2.1, 48, .inl tl.2.1.2.2.1)), (tlo3, .inl (G.2.1, 48, .inl tl.2.1.2.2.2.1)), (tlo4, .inl (G.2.1, 48, .inl tl.2.1.2.2.2.2.1)), (tlo5, .inl (G.2.1, 49, .inl tl.2.1.2.2.2.2.2)), (tlk, .inl (G.2.1, 48, .inl tl.2.2.1)), (tlb, .inl (G.2.1, 48, .inl tl.2.2.2)), (fh0, .inr (2, [.ref fh1, .int fh.2])), (fh1, .inl (G.2.1, 12, .inl fh.1))] (some (.int r.1)) [(sc, .inr (5, [.ref tx0, .ref pnh, .ref tlh, .ref fh0, .ref hi, .ref sl])), (tx0, .inr (2, [.ref tx1, .int tx.2])), (tx1, .inl (G.2.1, 40, .inl tx.1)), (pnh, .inr (0, [.ref pns0, .ref pno0, .ref pnk, .ref pnb])), (pns0, .inr (4, [.ref pns1, .ref pns2, .int pn.1.2.2.1, .int pn.1.2.2.2.1, .int pn.1.2.2.2.2.1, .int pn.1.2.2.2.2.2.1, .int pn.1.2.2.2.2.2.2.1, .int pn.1.2.2.2.2.2.2.2])), (pns1, .inl (G.2.1, 48, .inl pn.1.1)), (pns2, .inl (G.2.1, 48, .inl pn.1.2.1)), (pno0, .inr (3, [.int pn.2.1.1, .ref pno1, .ref pno2, .ref pno3, .ref pno4, .ref pno5])), (pno1, .inl (G.2.1, 48, .inl pn.2.1.2.1)), (pno2, .inl (G.2.1, 48, .inl pn.2.1.2.2.1)), (pno3, .inl (G.2.1, 48, .inl pn.2.1.2.2.2.1)), (pno4, .inl (G.2.1, 48, .inl pn.2.1.2.2.2.2.1)), (pno5, .inl (G.2.1, 49, .inl pn.2.1.2.2.2.2.2)), (pnk, .inl (G.2.1, 48, .inl pn.2.2.1)), (pnb, .inl (G.2.1, 48, .inl pn.2.2.2)), (tlh, .inr (0, [.ref tls0, .ref tlo0, .ref tlk, .ref tlb])), (tls0, .inr (4, [.ref tls1, .ref tls2, .int r.2.1.1.2.2.1, .int r.2.1.1.2.2.2.1, .int r.2.1.1.2.2.2.2.1, .int r.2.1.1.2.2.2.2.2.1, .int r.2.1.1.2.2.2.2.2.2.1, .int r.2.1.1.2.2.2.2.2.2.2])), (tls1, .inl (G.2.1, 48, .inl r.2.1.1.1)), (tls2, .inl (G.2.1, 48, .inl r.2.1.1.2.1)), (tlo0, .inr (3, [.int r.2.1.2.1.1, .ref tlo1, .ref tlo2, .ref tlo3, .ref tlo4, .ref tlo5])), (tlo1, .inl (G.2.1, 48, .inl r.2.1.2.1.2.1)), (tlo2, .inl (G.2.1, 48, .inl r.2.1.2.1.2.2.1)), (tlo3, .inl (G.2.1, 48, .inl r.2.1.2.1.2.2.2.1)), (tlo4, .inl (G.2.1, 48, .inl r.2.1.2.1.2.2.2.2.1)), (tlo5, .inl (G.2.1, 49, .inl r.2.1.2.1.2.2.2.2.2)), (tlk, .inl (G.2.1, 48, .inl r.2.1.2.2.1)), (tlb, .inl (G.2.1, 48, .inl r.2.1.2.2.2)), (fh0, .inr (2, [.ref fh1, .int r.2.2.2])), (fh1, .inl (G.2.1, 12, .inl r.2.2.1))] := by
  refine fl_mui_in cX5_wouldRepeat 1 .int RX5 (by decide) rfl rfl (Nat.le_of_ble_eq_true rfl) ?_
  intro p e s m args below meth c ls A Q H locs C0 hK hP hD hS hA hl hfin
  obtain ⟨hx, hb, hml, hown, hts⟩ := id C0
  have iX0 : ∀ w ∈ u_ws RX0 TX0 4, w ∈ wsX5_wouldRepeat := fun _ h => List.mem_cons_of_mem _ (List.mem_append_left _ (List.mem_append_left _ (List.mem_append_left _ (List.mem_append_right _ h))))
  have iX5 : ∀ w ∈ u_ws RX5 TX5 6, w ∈ wsX5_wouldRepeat := fun _ h => List.mem_cons_of_mem _ (List.mem_append_left _ (List.mem_append_left _ (List.mem_append_left _ (List.mem_append_left _ (List.mem_append_right _ h)))))
  have hl : lv_has ls 1 [(0, .ref sc)] := hl
  have hp := hp0
  unfold P_SC_wouldRepeat at hp
  refine lv_aload_n hx hb dX5_wouldRepeat_0 rfl (lv_at hl 0 rfl) ?_
  refine va_get (D := G.1) (ci := 5) (v := .ref tx0) (C := RX5) (T := TX5) (N := 6) hx hb hts iX5 hown hK.1 hP 0 rfl rfl 0 (by decide) (hts (.fieldLink RX5 14 "SongChoir" "text" "LSongChoir$Line;") (List.mem_of_getElem? (i := 1) rfl)) (fun _ h9 => h9) rfl dX5_wouldRepeat_1 ?_
  obtain ⟨q1, hq1, hp⟩ := fl_bd_of hp
  refine fl_roV (As := []) (rest := []) C0 (c_Ln_fitsVerse l G 40 tx0 tx1 tx hq1) (cwV 0 hts gX5_wouldRepeat_X2_fitsVerse rfl rfl rfl (by decide +kernel) ⟨Nat.le_of_ble_eq_true rfl, Nat.le_of_ble_eq_true rfl⟩) hK hP [1, 2] rfl 1 2 rfl rfl rfl hS hA rfl hl.1 rfl (Nat.le_of_ble_eq_true rfl) dX5_wouldRepeat_4 ⟨Nat.zero_le _, Nat.zero_le _⟩ (fun H locs hP hS => ?_)
  refine lv_if_ne (tgt := 12) hx hb dX5_wouldRepeat_7 (by decide) (fun hc => ?_) (fun hc => ?_)
  · replace hp := fl_f hc hp
    refine lv_aload_n hx hb dX5_wouldRepeat_12 rfl (lv_at hl 0 rfl) ?_
    refine va_get (D := G.1) (ci := 5) (v := .ref fh0) (C := RX5) (T := TX5) (N := 6) hx hb hts iX5 hown hK.1 hP 0 rfl rfl 3 (by decide) (hts (.fieldLink RX5 28 "SongChoir" "fresh" "LSongChoir$Line;") (List.mem_of_getElem? (i := 2) rfl)) (fun _ h9 => h9) rfl dX5_wouldRepeat_13 ?_
    refine lv_aload_n hx hb dX5_wouldRepeat_16 rfl (lv_at hl 0 rfl) ?_
    refine va_get (D := G.1) (ci := 5) (v := .ref tx0) (C := RX5) (T := TX5) (N := 6) hx hb hts iX5 hown hK.1 hP 0 rfl rfl 0 (by decide) (hts (.fieldLink RX5 14 "SongChoir" "text" "LSongChoir$Line;") (List.mem_of_getElem? (i := 1) rfl)) (fun _ h9 => h9) rfl dX5_wouldRepeat_17 ?_
    obtain ⟨q2, hq2, hp⟩ := fl_bd_of hp
    refine fl_muV (As := [.ref tx0]) (rest := []) [(sc, .inr (5, [.ref tx0, .ref pnh, .ref tlh, .ref fh0, .ref hi, .ref sl])), (tx0, .inr (2, [.ref tx1, .int tx.2])), (tx1, .inl (G.2.1, 40, .inl tx.1)), (pnh, .inr (0, [.ref pns0, .ref pno0, .ref pnk, .ref pnb])), (pns0, .inr (4, [.ref pns1, .ref pns2, .int pn.1.2.2.1, .int pn.1.2.2.2.1, .int pn.1.2.2.2.2.1, .int pn.1.2.2.2.2.2.1, .int pn.1.2.2.2.2.2.2.1, .int pn.1.2.2.2.2.2.2.2])), (pns1, .inl (G.2.1, 48, .inl pn.1.1)), (pns2, .inl (G.2.1, 48, .inl pn.1.2.1)), (pno0, .inr (3, [.int pn.2.1.1, .ref pno1, .ref pno2, .ref pno3, .ref pno4, .ref pno5])), (pno1, .inl (G.2.1, 48, .inl pn.2.1.2.1)), (pno2, .inl (G.2.1, 48, .inl pn.2.1.2.2.1)), (pno3, .inl (G.2.1, 48, .inl pn.2.1.2.2.2.1)), (pno4, .inl (G.2.1, 48, .inl pn.2.1.2.2.2.2.1)), (pno5, .inl (G.2.1, 49, .inl pn.2.1.2.2.2.2.2)), (pnk, .inl (G.2.1, 48, .inl pn.2.2.1)), (pnb, .inl (G.2.1, 48, .inl pn.2.2.2)), (tlh, .inr (0, [.ref tls0, .ref tlo0, .ref tlk, .ref tlb])), (tls0, .inr (4, [.ref tls1, .ref tls2, .int tl.1.2.2.1, .int tl.1.2.2.2.1, .int tl.1.2.2.2.2.1, .int tl.1.2.2.2.2.2.1, .int tl.1.2.2.2.2.2.2.1, .int tl.1.2.2.2.2.2.2.2])), (tls1, .inl (G.2.1, 48, .inl tl.1.1)), (tls2, .inl (G.2.1, 48, .inl tl.1.2.1)), (tlo0, .inr (3, [.int tl.2.1.1, .ref tlo1, .ref tlo2, .ref tlo3, .ref tlo4, .ref tlo5])), (tlo1, .inl (G.2.1, 48, .inl tl.2.1.2.1)), (tlo2, .inl (G.2.1, 48, .inl tl.2.1.2.2.1)), (tlo3, .inl (G.2.1, 48, .inl tl.2.1.2.2.2.1)), (tlo4, .inl (G.2.1, 48, .inl tl.2.1.2.2.2.2.1)), (tlo5, .inl (G.2.1, 49, .inl tl.2.1.2.2.2.2.2)), (tlk, .inl (G.2.1, 48, .inl tl.2.2.1)), (tlb, .inl (G.2.1, 48, .inl tl.2.2.2)), (fh0, .inr (2, [.ref fh1, .int q2.2])), (fh1, .inl (G.2.1, 12, .inl q2.1))] C0 (c_Ln_takeLine l G 12 40 fh0 fh1 tx0 tx1 fh tx hq2) (cwV 1 hts gX5_wouldRepeat_X2_takeLine rfl rfl rfl (by decide +kernel) ⟨Nat.le_of_ble_eq_true rfl, Nat.le_of_ble_eq_true rfl⟩) hK hP hD [27, 28, 1, 2] [0, 3, 4, 5, 6, 7, 8, 9, 10, 11, 12, 13, 14, 15, 16, 17, 18, 19, 20, 21, 22, 23, 24, 25, 26] [0, 27, 28, 1, 2, 3, 4, 5, 6, 7, 8, 9, 10, 11, 12, 13, 14, 15, 16, 17, 18, 19, 20, 21, 22, 23, 24, 25, 26] rfl rfl (by decide) (by decide) rfl 27 2 rfl rfl rfl hS hA rfl hl.1 rfl (Nat.le_of_ble_eq_true rfl) dX5_wouldRepeat_20 ⟨Nat.zero_le _, Nat.zero_le _⟩ (fun H locs hP hD hS => ?_)
    refine lv_aload_n hx hb dX5_wouldRepeat_23 rfl (lv_at hl 0 rfl) ?_
    refine va_get (D := G.1) (ci := 5) (v := .ref tlh) (C := RX5) (T := TX5) (N := 6) hx hb hts iX5 hown hK.1 hP 0 rfl rfl 2 (by decide) (hts (.fieldLink RX5 25 "SongChoir" "trial" "LSongChoir$Choir;") (List.mem_of_getElem? (i := 3) rfl)) (fun _ h9 => h9) rfl dX5_wouldRepeat_24 ?_
    refine lv_aload_n hx hb dX5_wouldRepeat_27 rfl (lv_at hl 0 rfl) ?_
    refine va_get (D := G.1) (ci := 5) (v := .ref pnh) (C := RX5) (T := TX5) (N := 6) hx hb hts iX5 hown hK.1 hP 0 rfl rfl 1 (by decide) (hts (.fieldLink RX5 21 "SongChoir" "present" "LSongChoir$Choir;") (List.mem_of_getElem? (i := 4) rfl)) (fun _ h9 => h9) rfl dX5_wouldRepeat_28 ?_
    obtain ⟨q3, hq3, hp⟩ := fl_bd_of hp
    refine fl_muV (As := [.ref pnh]) (rest := []) [(sc, .inr (5, [.ref tx0, .ref pnh, .ref tlh, .ref fh0, .ref hi, .ref sl])), (tx0, .inr (2, [.ref tx1, .int tx.2])), (tx1, .inl (G.2.1, 40, .inl tx.1)), (pnh, .inr (0, [.ref pns0, .ref pno0, .ref pnk, .ref pnb])), (pns0, .inr (4, [.ref pns1, .ref pns2, .int pn.1.2.2.1, .int pn.1.2.2.2.1, .int pn.1.2.2.2.2.1, .int pn.1.2.2.2.2.2.1, .int pn.1.2.2.2.2.2.2.1, .int pn.1.2.2.2.2.2.2.2])), (pns1, .inl (G.2.1, 48, .inl pn.1.1)), (pns2, .inl (G.2.1, 48, .inl pn.1.2.1)), (pno0, .inr (3, [.int pn.2.1.1, .ref pno1, .ref pno2, .ref pno3, .ref pno4, .ref pno5])), (pno1, .inl (G.2.1, 48, .inl pn.2.1.2.1)), (pno2, .inl (G.2.1, 48, .inl pn.2.1.2.2.1)), (pno3, .inl (G.2.1, 48, .inl pn.2.1.2.2.2.1)), (pno4, .inl (G.2.1, 48, .inl pn.2.1.2.2.2.2.1)), (pno5, .inl (G.2.1, 49, .inl pn.2.1.2.2.2.2.2)), (pnk, .inl (G.2.1, 48, .inl pn.2.2.1)), (pnb, .inl (G.2.1, 48, .inl pn.2.2.2)), (tlh, .inr (0, [.ref tls0, .ref tlo0, .ref tlk, .ref tlb])), (tls0, .inr (4, [.ref tls1, .ref tls2, .int q3.1.2.2.1, .int q3.1.2.2.2.1, .int q3.1.2.2.2.2.1, .int q3.1.2.2.2.2.2.1, .int q3.1.2.2.2.2.2.2.1, .int q3.1.2.2.2.2.2.2.2])), (tls1, .inl (G.2.1, 48, .inl q3.1.1)), (tls2, .inl (G.2.1, 48, .inl q3.1.2.1)), (tlo0, .inr (3, [.int q3.2.1.1, .ref tlo1, .ref tlo2, .ref tlo3, .ref tlo4, .ref tlo5])), (tlo1, .inl (G.2.1, 48, .inl q3.2.1.2.1)), (tlo2, .inl (G.2.1, 48, .inl q3.2.1.2.2.1)), (tlo3, .inl (G.2.1, 48, .inl q3.2.1.2.2.2.1)), (tlo4, .inl (G.2.1, 48, .inl q3.2.1.2.2.2.2.1)), (tlo5, .inl (G.2.1, 49, .inl q3.2.1.2.2.2.2.2)), (tlk, .inl (G.2.1, 48, .inl q3.2.2.1)), (tlb, .inl (G.2.1, 48, .inl q3.2.2.2)), (fh0, .inr (2, [.ref fh1, .int q2.2])), (fh1, .inl (G.2.1, 12, .inl q2.1))] C0 (c_Ch_becomeChoir l G tlh tls0 tls1 tls2 tlo0 tlo1 tlo2 tlo3 tlo4 tlo5 tlk tlb pnh pns0 pns1 pns2 pno0 pno1 pno2 pno3 pno4 pno5 pnk pnb tl pn hq3) (cwV 1 hts gX5_wouldRepeat_X0_becomeChoir rfl rfl rfl (by decide +kernel) ⟨Nat.le_of_ble_eq_true rfl, Nat.le_of_ble_eq_true rfl⟩) hK hP hD [15, 16, 17, 18, 19, 20, 21, 22, 23, 24, 25, 26, 3, 4, 5, 6, 7, 8, 9, 10, 11, 12, 13, 14] [0, 1, 2, 27, 28] [0, 1, 2, 17, 18, 19, 20, 21, 22, 23, 24, 25, 26, 27, 28, 5, 6, 7, 8, 9, 10, 11, 12, 13, 14, 15, 16, 3, 4] rfl rfl (by decide) (by decide) rfl 15 0 rfl rfl rfl hS hA rfl hl.1 rfl (Nat.le_of_ble_eq_true rfl) dX5_wouldRepeat_31 ⟨Nat.zero_le _, Nat.zero_le _⟩ (fun H locs hP hD hS => ?_)
    refine lv_aload_n hx hb dX5_wouldRepeat_34 rfl (lv_at hl 0 rfl) ?_
    refine va_get (D := G.1) (ci := 5) (v := .ref tlh) (C := RX5) (T := TX5) (N := 6) hx hb hts iX5 hown hK.1 hP 0 rfl rfl 2 (by decide) (hts (.fieldLink RX5 25 "SongChoir" "trial" "LSongChoir$Choir;") (List.mem_of_getElem? (i := 3) rfl)) (fun _ h9 => h9) rfl dX5_wouldRepeat_35 ?_
    refine lv_aload_n hx hb dX5_wouldRepeat_38 rfl (lv_at hl 0 rfl) ?_
    refine va_get (D := G.1) (ci := 5) (v := .ref fh0) (C := RX5) (T := TX5) (N := 6) hx hb hts iX5 hown hK.1 hP 0 rfl rfl 3 (by decide) (hts (.fieldLink RX5 28 "SongChoir" "fresh" "LSongChoir$Line;") (List.mem_of_getElem? (i := 2) rfl)) (fun _ h9 => h9) rfl dX5_wouldRepeat_39 ?_
    obtain ⟨q4, hq4, hp⟩ := fl_bd_of hp
    refine fl_muV (As := [.ref fh0]) (rest := []) [(sc, .inr (5, [.ref tx0, .ref pnh, .ref tlh, .ref fh0, .ref hi, .ref sl])), (tx0, .inr (2, [.ref tx1, .int tx.2])), (tx1, .inl (G.2.1, 40, .inl tx.1)), (pnh, .inr (0, [.ref pns0, .ref pno0, .ref pnk, .ref pnb])), (pns0, .inr (4, [.ref pns1, .ref pns2, .int pn.1.2.2.1, .int pn.1.2.2.2.1, .int pn.1.2.2.2.2.1, .int pn.1.2.2.2.2.2.1, .int pn.1.2.2.2.2.2.2.1, .int pn.1.2.2.2.2.2.2.2])), (pns1, .inl (G.2.1, 48, .inl pn.1.1)), (pns2, .inl (G.2.1, 48, .inl pn.1.2.1)), (pno0, .inr (3, [.int pn.2.1.1, .ref pno1, .ref pno2, .ref pno3, .ref pno4, .ref pno5])), (pno1, .inl (G.2.1, 48, .inl pn.2.1.2.1)), (pno2, .inl (G.2.1, 48, .inl pn.2.1.2.2.1)), (pno3, .inl (G.2.1, 48, .inl pn.2.1.2.2.2.1)), (pno4, .inl (G.2.1, 48, .inl pn.2.1.2.2.2.2.1)), (pno5, .inl (G.2.1, 49, .inl pn.2.1.2.2.2.2.2)), (pnk, .inl (G.2.1, 48, .inl pn.2.2.1)), (pnb, .inl (G.2.1, 48, .inl pn.2.2.2)), (tlh, .inr (0, [.ref tls0, .ref tlo0, .ref tlk, .ref tlb])), (tls0, .inr (4, [.ref tls1, .ref tls2, .int q4.2.1.2.2.1, .int q4.2.1.2.2.2.1, .int q4.2.1.2.2.2.2.1, .int q4.2.1.2.2.2.2.2.1, .int q4.2.1.2.2.2.2.2.2.1, .int q4.2.1.2.2.2.2.2.2.2])), (tls1, .inl (G.2.1, 48, .inl q4.2.1.1)), (tls2, .inl (G.2.1, 48, .inl q4.2.1.2.1)), (tlo0, .inr (3, [.int q4.2.2.1.1, .ref tlo1, .ref tlo2, .ref tlo3, .ref tlo4, .ref tlo5])), (tlo1, .inl (G.2.1, 48, .inl q4.2.2.1.2.1)), (tlo2, .inl (G.2.1, 48, .inl q4.2.2.1.2.2.1)), (tlo3, .inl (G.2.1, 48, .inl q4.2.2.1.2.2.2.1)), (tlo4, .inl (G.2.1, 48, .inl q4.2.2.1.2.2.2.2.1)), (tlo5, .inl (G.2.1, 49, .inl q4.2.2.1.2.2.2.2.2)), (tlk, .inl (G.2.1, 48, .inl q4.2.2.2.1)), (tlb, .inl (G.2.1, 48, .inl q4.2.2.2.2)), (fh0, .inr (2, [.ref fh1, .int q2.2])), (fh1, .inl (G.2.1, 12, .inl q2.1))] C0 (c_Ch_addVerse l G 12 tlh tls0 tls1 tls2 tlo0 tlo1 tlo2 tlo3 tlo4 tlo5 tlk tlb fh0 fh1 q3 q2 hq4) (cwV 1 hts gX5_wouldRepeat_X0_addVerse rfl rfl rfl (by decide +kernel) ⟨Nat.le_of_ble_eq_true rfl, Nat.le_of_ble_eq_true rfl⟩) hK hP hD [15, 16, 17, 18, 19, 20, 21, 22, 23, 24, 25, 26, 27, 28] [0, 1, 2, 3, 4, 5, 6, 7, 8, 9, 10, 11, 12, 13, 14] [0, 1, 2, 3, 4, 5, 6, 7, 8, 9, 10, 11, 12, 13, 14, 15, 16, 17, 18, 19, 20, 21, 22, 23, 24, 25, 26, 27, 28] rfl rfl (by decide) (by decide) rfl 15 0 rfl rfl rfl hS hA rfl hl.1 rfl (Nat.le_of_ble_eq_true rfl) dX5_wouldRepeat_42 ⟨Nat.zero_le _, Nat.zero_le _⟩ (fun H locs hP hD hS => ?_)
    refine lv_pop hx hb dX5_wouldRepeat_45 rfl ?_
    refine lv_aload_n hx hb dX5_wouldRepeat_46 rfl (lv_at hl 0 rfl) ?_
    refine va_get (D := G.1) (ci := 5) (v := .ref tlh) (C := RX5) (T := TX5) (N := 6) hx hb hts iX5 hown hK.1 hP 0 rfl rfl 2 (by decide) (hts (.fieldLink RX5 25 "SongChoir" "trial" "LSongChoir$Choir;") (List.mem_of_getElem? (i := 3) rfl)) (fun _ h9 => h9) rfl dX5_wouldRepeat_47 ?_
    refine va_get (D := G.1) (ci := 0) (v := .ref tlo0) (C := RX0) (T := TX0) (N := 4) hx hb hts iX0 hown hK.1 hP 15 rfl rfl 1 (by decide) (hts (.fieldLink RX5 90 "SongChoir$Choir" "order" "LSongChoir$Order;") (List.mem_of_getElem? (i := 5) rfl)) (fun _ h9 => h9) rfl dX5_wouldRepeat_50 ?_
    obtain ⟨q5, hq5, hp⟩ := fl_bd_of hp
    refine fl_roV (As := []) (rest := []) C0 (c_Or_longestRepeat l G tlo0 tlo1 tlo2 tlo3 tlo4 tlo5 q4.2.2.1 hq5) (cwV 0 hts gX5_wouldRepeat_X3_longestRepeat rfl rfl rfl (by decide +kernel) ⟨Nat.le_of_ble_eq_true rfl, Nat.le_of_ble_eq_true rfl⟩) hK hP [19, 20, 21, 22, 23, 24] rfl 19 3 rfl rfl rfl hS hA rfl hl.1 rfl (Nat.le_of_ble_eq_true rfl) dX5_wouldRepeat_53 ⟨Nat.zero_le _, Nat.zero_le _⟩ (fun H locs hP hS => ?_)
    obtain rfl := Option.some.inj hp
    exact hfin H locs _ ls hP hD hS dX5_wouldRepeat_56 rfl
  · replace hp := fl_t hc hp
    refine lv_iconst (v := (-1 : Int32)) hx hb dX5_wouldRepeat_10 (by decide) ?_
    obtain rfl := Option.some.inj hp
    exact hfin H locs _ ls hP hD hS dX5_wouldRepeat_11 rfl

noncomputable def P_SC_bestSingers_J80 (tx : fl_Ln) (pn : fl_Ch) (tl : fl_Ch) (fh : fl_Ln) (v1 : Int32) (v2 : Int32) (v3 : Int32) : Option ((Int32 × Int32 × Int32 × fl_Ch) ⊕ (Int32 × fl_Ch × fl_Ln)) := some (.inl (v1, v2, (v3 + (1 : Int32)), tl))
noncomputable def P_SC_bestSingers_L30 (tx : fl_Ln) (pn : fl_Ch) (fh : fl_Ln) (z30 : (Int32 × Int32 × Int32 × fl_Ch)) : Option ((Int32 × Int32 × Int32 × fl_Ch) ⊕ (Int32 × fl_Ch × fl_Ln)) := if (8 : Int32) < z30.2.2.1 then some (.inr (z30.1, z30.2.2.2, fh)) else fl_bd (P_Ch_becomeChoir z30.2.2.2 pn) (fun q1 => fl_bd (P_Ch_changeSingers q1 z30.2.2.1) (fun q2 => fl_bd (P_Ch_addVerse 12 q2.2 fh) (fun q3 => if z30.2.1 < q3.1 then P_SC_bestSingers_J80 tx pn q3.2 fh z30.1 z30.2.1 z30.2.2.1 else P_SC_bestSingers_J80 tx pn q3.2 fh z30.2.2.1 q3.1 z30.2.2.1)))
noncomputable def P_SC_bestSingers (tx : fl_Ln) (pn : fl_Ch) (tl : fl_Ch) (fh : fl_Ln) : Option (Int32 × fl_Ch × fl_Ln) := fl_bd (P_Ln_fitsVerse 40 tx) (fun q1 => if q1 = 0 then some ((-1 : Int32), tl, fh) else fl_bd (P_Ln_takeLine 12 40 fh tx) (fun q2 => fl_loop (P_SC_bestSingers_L30 tx pn q2) ((-1 : Int32), (48 : Int32), (1 : Int32), tl)))
set_option maxHeartbeats 4000000 in
set_option maxRecDepth 100000 in
theorem c_SC_bestSingers (l : Launch) (G : fl_G) (sc tx0 tx1 pnh pns0 pns1 pns2 pno0 pno1 pno2 pno3 pno4 pno5 pnk pnb tlh tls0 tls1 tls2 tlo0 tlo1 tlo2 tlo3 tlo4 tlo5 tlk tlb fh0 fh1 hi sl : Nat) (tx : fl_Ln) (pn : fl_Ch) (tl : fl_Ch) (fh : fl_Ln) {r : (Int32 × fl_Ch × fl_Ln)} (hp0 : P_SC_bestSingers tx pn tl fh = some r) : fl_mu l yX5_bestSingers wsX5_bestSingers 5 103 G [.ref sc] [(sc, .inr (5, [.ref tx0, .ref pnh, .ref tlh, .ref fh0, .ref hi, .ref sl])), (tx0, .inr (2, [.ref tx1, .int tx.2])), (tx1, .inl (G.2.1, 40, .inl tx.1)), (pnh, .inr (0, [.ref pns0, .ref pno0, .ref pnk, .ref pnb])), (pns0, .inr (4, [.ref pns1, .ref pns2, .int pn.1.2.2.1, .int pn.1.2.2.2.1, .int pn.1.2.2.2.2.1, .int pn.1.2.2.2.2.2.1, .int pn.1.2.2.2.2.2.2.1, .int pn.1.2.2.2.2.2.2.2])), (pns1, .inl (G.2.1, 48, .inl pn.1.1)), (pns2, .inl (G.2.1, 48, .inl pn.1.2.1)), (pno0, .inr (3, [.int pn.2.1.1, .ref pno1, .ref pno2, .ref pno3, .ref pno4, .ref pno5])), (pno1, .inl (G.2.1, 48, .inl pn.2.1.2.1)), (pno2, .inl (G.2.1, 48, .inl pn.2.1.2.2.1)), (pno3, .inl (G.2.1, 48, .inl pn.2.1.2.2.2.1)), (pno4, .inl (G.2.1, 48, .inl pn.2.1.2.2.2.2.1)), (pno5, .inl (G.2.1, 49, .inl pn.2.1.2.2.2.2.2)), (pnk, .inl (G.2.1, 48, .inl pn.2.2.1)), (pnb, .inl (G.2.1, 48, .inl pn.2.2.2)), (tlh, .inr (0, [.ref tls0, .ref tlo0, .ref tlk, .ref tlb])), (tls0, .inr (4, [.ref tls1, .ref tls2, .int tl.1.2.2.1, .int tl.1.2.2.2.1, .int tl.1.2.2.2.2.1, .int tl.1.2.2.2.2.2.1, .int tl.1.2.2.2.2.2.2.1, .int tl.1.2.2.2.2.2.2.2])), (tls1, .inl (G.2.1, 48, .inl tl.1.1)), (tls2, .inl (G.2.1, 48, .inl tl.1.2.1)), (tlo0, .inr (3, [.int tl.2.1.1, .ref tlo1, .ref tlo2, .ref tlo3, .ref tlo4, .ref tlo5])), (tlo1, .inl (G.2.1, 48, .inl tl.2.1.2.1)), (tlo2, .inl (G.2.1, 48, .inl tl.2.1.2.2.1)), (tlo3, .inl (G.2.1, 48, .inl tl.2.1.2.2.2.1)), (tlo4, .inl (G.2.1, 48, .inl tl.2.1.2.2.2.2.1)), (tlo5, .inl (G.2.1, 49, .inl tl.2.1.2.2.2.2.2)), (tlk, .inl (G.2.1, 48, .inl tl.2.2.1)), (tlb, .inl (G.2.1, 48, .inl tl.2.2.2)), (fh0, .inr (2, [.ref fh1, .int fh.2])), (fh1, .inl (G.2.1, 12, .inl fh.1))] (some (.int r.1)) [(sc, .inr (5, [.ref tx0, .ref pnh, .ref tlh, .ref fh0, .ref hi, .ref sl])), (tx0, .inr (2, [.ref tx1, .int tx.2])), (tx1, .inl (G.2.1, 40, .inl tx.1)), (pnh, .inr (0, [.ref pns0, .ref pno0, .ref pnk, .ref pnb])), (pns0, .inr (4, [.ref pns1, .ref pns2, .int pn.1.2.2.1, .int pn.1.2.2.2.1, .int pn.1.2.2.2.2.1, .int pn.1.2.2.2.2.2.1, .int pn.1.2.2.2.2.2.2.1, .int pn.1.2.2.2.2.2.2.2])), (pns1, .inl (G.2.1, 48, .inl pn.1.1)), (pns2, .inl (G.2.1, 48, .inl pn.1.2.1)), (pno0, .inr (3, [.int pn.2.1.1, .ref pno1, .ref pno2, .ref pno3, .ref pno4, .ref pno5])), (pno1, .inl (G.2.1, 48, .inl pn.2.1.2.1)), (pno2, .inl (G.2.1, 48, .inl pn.2.1.2.2.1)), (pno3, .inl (G.2.1, 48, .inl pn.2.1.2.2.2.1)), (pno4, .inl (G.2.1, 48, .inl pn.2.1.2.2.2.2.1)), (pno5, .inl (G.2.1, 49, .inl pn.2.1.2.2.2.2.2)), (pnk, .inl (G.2.1, 48, .inl pn.2.2.1)), (pnb, .inl (G.2.1, 48, .inl pn.2.2.2)), (tlh, .inr (0, [.ref tls0, .ref tlo0, .ref tlk, .ref tlb])), (tls0, .inr (4, [.ref tls1, .ref tls2, .int r.2.1.1.2.2.1, .int r.2.1.1.2.2.2.1, .int r.2.1.1.2.2.2.2.1, .int r.2.1.1.2.2.2.2.2.1, .int r.2.1.1.2.2.2.2.2.2.1, .int r.2.1.1.2.2.2.2.2.2.2])), (tls1, .inl (G.2.1, 48, .inl r.2.1.1.1)), (tls2, .inl (G.2.1, 48, .inl r.2.1.1.2.1)), (tlo0, .inr (3, [.int r.2.1.2.1.1, .ref tlo1, .ref tlo2, .ref tlo3, .ref tlo4, .ref tlo5])), (tlo1, .inl (G.2.1, 48, .inl r.2.1.2.1.2.1)), (tlo2, .inl (G.2.1, 48, .inl r.2.1.2.1.2.2.1)), (tlo3, .inl (G.2.1, 48, .inl r.2.1.2.1.2.2.2.1)), (tlo4, .inl (G.2.1, 48, .inl r.2.1.2.1.2.2.2.2.1)), (tlo5, .inl (G.2.1, 49, .inl r.2.1.2.1.2.2.2.2.2)), (tlk, .inl (G.2.1, 48, .inl r.2.1.2.2.1)), (tlb, .inl (G.2.1, 48, .inl r.2.1.2.2.2)), (fh0, .inr (2, [.ref fh1, .int r.2.2.2])), (fh1, .inl (G.2.1, 12, .inl r.2.2.1))] := by
  refine fl_mui_in cX5_bestSingers 5 .int RX5 (by decide) rfl rfl (Nat.le_of_ble_eq_true rfl) ?_
  intro p e s m args below meth c ls A Q H locs C0 hK hP hD hS hA hl hfin
  obtain ⟨hx, hb, hml, hown, hts⟩ := id C0
  have iX5 : ∀ w ∈ u_ws RX5 TX5 6, w ∈ wsX5_bestSingers := fun _ h => List.mem_cons_of_mem _ (List.mem_append_left _ (List.mem_append_left _ (List.mem_append_left _ (List.mem_append_left _ (List.mem_append_right _ h)))))
  have hl : lv_has ls 5 [(0, .ref sc)] := hl
  have KL30 : ∀ (fh : fl_Ln) (n0 : Nat) (z30 : (Int32 × Int32 × Int32 × fl_Ch)) (H : Heap) (locs : List Loc), va_P G.1 vwCl [(sc, .inr (5, [.ref tx0, .ref pnh, .ref tlh, .ref fh0, .ref hi, .ref sl])), (tx0, .inr (2, [.ref tx1, .int tx.2])), (tx1, .inl (G.2.1, 40, .inl tx.1)), (pnh, .inr (0, [.ref pns0, .ref pno0, .ref pnk, .ref pnb])), (pns0, .inr (4, [.ref pns1, .ref pns2, .int pn.1.2.2.1, .int pn.1.2.2.2.1, .int pn.1.2.2.2.2.1, .int pn.1.2.2.2.2.2.1, .int pn.1.2.2.2.2.2.2.1, .int pn.1.2.2.2.2.2.2.2])), (pns1, .inl (G.2.1, 48, .inl pn.1.1)), (pns2, .inl (G.2.1, 48, .inl pn.1.2.1)), (pno0, .inr (3, [.int pn.2.1.1, .ref pno1, .ref pno2, .ref pno3, .ref pno4, .ref pno5])), (pno1, .inl (G.2.1, 48, .inl pn.2.1.2.1)), (pno2, .inl (G.2.1, 48, .inl pn.2.1.2.2.1)), (pno3, .inl (G.2.1, 48, .inl pn.2.1.2.2.2.1)), (pno4, .inl (G.2.1, 48, .inl pn.2.1.2.2.2.2.1)), (pno5, .inl (G.2.1, 49, .inl pn.2.1.2.2.2.2.2)), (pnk, .inl (G.2.1, 48, .inl pn.2.2.1)), (pnb, .inl (G.2.1, 48, .inl pn.2.2.2)), (tlh, .inr (0, [.ref tls0, .ref tlo0, .ref tlk, .ref tlb])), (tls0, .inr (4, [.ref tls1, .ref tls2, .int z30.2.2.2.1.2.2.1, .int z30.2.2.2.1.2.2.2.1, .int z30.2.2.2.1.2.2.2.2.1, .int z30.2.2.2.1.2.2.2.2.2.1, .int z30.2.2.2.1.2.2.2.2.2.2.1, .int z30.2.2.2.1.2.2.2.2.2.2.2])), (tls1, .inl (G.2.1, 48, .inl z30.2.2.2.1.1)), (tls2, .inl (G.2.1, 48, .inl z30.2.2.2.1.2.1)), (tlo0, .inr (3, [.int z30.2.2.2.2.1.1, .ref tlo1, .ref tlo2, .ref tlo3, .ref tlo4, .ref tlo5])), (tlo1, .inl (G.2.1, 48, .inl z30.2.2.2.2.1.2.1)), (tlo2, .inl (G.2.1, 48, .inl z30.2.2.2.2.1.2.2.1)), (tlo3, .inl (G.2.1, 48, .inl z30.2.2.2.2.1.2.2.2.1)), (tlo4, .inl (G.2.1, 48, .inl z30.2.2.2.2.1.2.2.2.2.1)), (tlo5, .inl (G.2.1, 49, .inl z30.2.2.2.2.1.2.2.2.2.2)), (tlk, .inl (G.2.1, 48, .inl z30.2.2.2.2.2.1)), (tlb, .inl (G.2.1, 48, .inl z30.2.2.2.2.2.2)), (fh0, .inr (2, [.ref fh1, .int fh.2])), (fh1, .inl (G.2.1, 12, .inl fh.1))] H → va_D A [(sc, .inr (5, [.ref tx0, .ref pnh, .ref tlh, .ref fh0, .ref hi, .ref sl])), (tx0, .inr (2, [.ref tx1, .int tx.2])), (tx1, .inl (G.2.1, 40, .inl tx.1)), (pnh, .inr (0, [.ref pns0, .ref pno0, .ref pnk, .ref pnb])), (pns0, .inr (4, [.ref pns1, .ref pns2, .int pn.1.2.2.1, .int pn.1.2.2.2.1, .int pn.1.2.2.2.2.1, .int pn.1.2.2.2.2.2.1, .int pn.1.2.2.2.2.2.2.1, .int pn.1.2.2.2.2.2.2.2])), (pns1, .inl (G.2.1, 48, .inl pn.1.1)), (pns2, .inl (G.2.1, 48, .inl pn.1.2.1)), (pno0, .inr (3, [.int pn.2.1.1, .ref pno1, .ref pno2, .ref pno3, .ref pno4, .ref pno5])), (pno1, .inl (G.2.1, 48, .inl pn.2.1.2.1)), (pno2, .inl (G.2.1, 48, .inl pn.2.1.2.2.1)), (pno3, .inl (G.2.1, 48, .inl pn.2.1.2.2.2.1)), (pno4, .inl (G.2.1, 48, .inl pn.2.1.2.2.2.2.1)), (pno5, .inl (G.2.1, 49, .inl pn.2.1.2.2.2.2.2)), (pnk, .inl (G.2.1, 48, .inl pn.2.2.1)), (pnb, .inl (G.2.1, 48, .inl pn.2.2.2)), (tlh, .inr (0, [.ref tls0, .ref tlo0, .ref tlk, .ref tlb])), (tls0, .inr (4, [.ref tls1, .ref tls2, .int z30.2.2.2.1.2.2.1, .int z30.2.2.2.1.2.2.2.1, .int z30.2.2.2.1.2.2.2.2.1, .int z30.2.2.2.1.2.2.2.2.2.1, .int z30.2.2.2.1.2.2.2.2.2.2.1, .int z30.2.2.2.1.2.2.2.2.2.2.2])), (tls1, .inl (G.2.1, 48, .inl z30.2.2.2.1.1)), (tls2, .inl (G.2.1, 48, .inl z30.2.2.2.1.2.1)), (tlo0, .inr (3, [.int z30.2.2.2.2.1.1, .ref tlo1, .ref tlo2, .ref tlo3, .ref tlo4, .ref tlo5])), (tlo1, .inl (G.2.1, 48, .inl z30.2.2.2.2.1.2.1)), (tlo2, .inl (G.2.1, 48, .inl z30.2.2.2.2.1.2.2.1)), (tlo3, .inl (G.2.1, 48, .inl z30.2.2.2.2.1.2.2.2.1)), (tlo4, .inl (G.2.1, 48, .inl z30.2.2.2.2.1.2.2.2.2.1)), (tlo5, .inl (G.2.1, 49, .inl z30.2.2.2.2.1.2.2.2.2.2)), (tlk, .inl (G.2.1, 48, .inl z30.2.2.2.2.2.1)), (tlb, .inl (G.2.1, 48, .inl z30.2.2.2.2.2.2)), (fh0, .inr (2, [.ref fh1, .int fh.2])), (fh1, .inl (G.2.1, 12, .inl fh.1))] → va_S A s.heap H locs → ∀ (ls : Array Slot), lv_has ls 5 [(0, .ref sc), (1, .int z30.1), (2, .int z30.2.1), (3, .int z30.2.2.1)] → fl_loopN (P_SC_bestSingers_L30 tx pn fh) n0 z30 = some r → W p l e (fl_rm 5 103) s m args below meth c H locs 0 0 Q (F0 m 30 ls []) := by
    intro fh n0
    induction n0 with
    | zero => intro z30 H locs hP hD hS ls hl hn; exact (fl_loopN_0 hn).elim
    | succ n0 ih30 =>
      intro z30 H locs hP hD hS ls hl hn
      obtain ⟨y30, hb30, hy30⟩ := fl_loopN_step hn
      clear hn
      have KJ80 : ∀ (tl : fl_Ch) (v1 : Int32) (v2 : Int32) (v3 : Int32) (H : Heap) (locs : List Loc), va_P G.1 vwCl [(sc, .inr (5, [.ref tx0, .ref pnh, .ref tlh, .ref fh0, .ref hi, .ref sl])), (tx0, .inr (2, [.ref tx1, .int tx.2])), (tx1, .inl (G.2.1, 40, .inl tx.1)), (pnh, .inr (0, [.ref pns0, .ref pno0, .ref pnk, .ref pnb])), (pns0, .inr (4, [.ref pns1, .ref pns2, .int pn.1.2.2.1, .int pn.1.2.2.2.1, .int pn.1.2.2.2.2.1, .int pn.1.2.2.2.2.2.1, .int pn.1.2.2.2.2.2.2.1, .int pn.1.2.2.2.2.2.2.2])), (pns1, .inl (G.2.1, 48, .inl pn.1.1)), (pns2, .inl (G.2.1, 48, .inl pn.1.2.1)), (pno0, .inr (3, [.int pn.2.1.1, .ref pno1, .ref pno2, .ref pno3, .ref pno4, .ref pno5])), (pno1, .inl (G.2.1, 48, .inl pn.2.1.2.1)), (pno2, .inl (G.2.1, 48, .inl pn.2.1.2.2.1)), (pno3, .inl (G.2.1, 48, .inl pn.2.1.2.2.2.1)), (pno4, .inl (G.2.1, 48, .inl pn.2.1.2.2.2.2.1)), (pno5, .inl (G.2.1, 49, .inl pn.2.1.2.2.2.2.2)), (pnk, .inl (G.2.1, 48, .inl pn.2.2.1)), (pnb, .inl (G.2.1, 48, .inl pn.2.2.2)), (tlh, .inr (0, [.ref tls0, .ref tlo0, .ref tlk, .ref tlb])), (tls0, .inr (4, [.ref tls1, .ref tls2, .int tl.1.2.2.1, .int tl.1.2.2.2.1, .int tl.1.2.2.2.2.1, .int tl.1.2.2.2.2.2.1, .int tl.1.2.2.2.2.2.2.1, .int tl.1.2.2.2.2.2.2.2])), (tls1, .inl (G.2.1, 48, .inl tl.1.1)), (tls2, .inl (G.2.1, 48, .inl tl.1.2.1)), (tlo0, .inr (3, [.int tl.2.1.1, .ref tlo1, .ref tlo2, .ref tlo3, .ref tlo4, .ref tlo5])), (tlo1, .inl (G.2.1, 48, .inl tl.2.1.2.1)), (tlo2, .inl (G.2.1, 48, .inl tl.2.1.2.2.1)), (tlo3, .inl (G.2.1, 48, .inl tl.2.1.2.2.2.1)), (tlo4, .inl (G.2.1, 48, .inl tl.2.1.2.2.2.2.1)), (tlo5, .inl (G.2.1, 49, .inl tl.2.1.2.2.2.2.2)), (tlk, .inl (G.2.1, 48, .inl tl.2.2.1)), (tlb, .inl (G.2.1, 48, .inl tl.2.2.2)), (fh0, .inr (2, [.ref fh1, .int fh.2])), (fh1, .inl (G.2.1, 12, .inl fh.1))] H → va_D A [(sc, .inr (5, [.ref tx0, .ref pnh, .ref tlh, .ref fh0, .ref hi, .ref sl])), (tx0, .inr (2, [.ref tx1, .int tx.2])), (tx1, .inl (G.2.1, 40, .inl tx.1)), (pnh, .inr (0, [.ref pns0, .ref pno0, .ref pnk, .ref pnb])), (pns0, .inr (4, [.ref pns1, .ref pns2, .int pn.1.2.2.1, .int pn.1.2.2.2.1, .int pn.1.2.2.2.2.1, .int pn.1.2.2.2.2.2.1, .int pn.1.2.2.2.2.2.2.1, .int pn.1.2.2.2.2.2.2.2])), (pns1, .inl (G.2.1, 48, .inl pn.1.1)), (pns2, .inl (G.2.1, 48, .inl pn.1.2.1)), (pno0, .inr (3, [.int pn.2.1.1, .ref pno1, .ref pno2, .ref pno3, .ref pno4, .ref pno5])), (pno1, .inl (G.2.1, 48, .inl pn.2.1.2.1)), (pno2, .inl (G.2.1, 48, .inl pn.2.1.2.2.1)), (pno3, .inl (G.2.1, 48, .inl pn.2.1.2.2.2.1)), (pno4, .inl (G.2.1, 48, .inl pn.2.1.2.2.2.2.1)), (pno5, .inl (G.2.1, 49, .inl pn.2.1.2.2.2.2.2)), (pnk, .inl (G.2.1, 48, .inl pn.2.2.1)), (pnb, .inl (G.2.1, 48, .inl pn.2.2.2)), (tlh, .inr (0, [.ref tls0, .ref tlo0, .ref tlk, .ref tlb])), (tls0, .inr (4, [.ref tls1, .ref tls2, .int tl.1.2.2.1, .int tl.1.2.2.2.1, .int tl.1.2.2.2.2.1, .int tl.1.2.2.2.2.2.1, .int tl.1.2.2.2.2.2.2.1, .int tl.1.2.2.2.2.2.2.2])), (tls1, .inl (G.2.1, 48, .inl tl.1.1)), (tls2, .inl (G.2.1, 48, .inl tl.1.2.1)), (tlo0, .inr (3, [.int tl.2.1.1, .ref tlo1, .ref tlo2, .ref tlo3, .ref tlo4, .ref tlo5])), (tlo1, .inl (G.2.1, 48, .inl tl.2.1.2.1)), (tlo2, .inl (G.2.1, 48, .inl tl.2.1.2.2.1)), (tlo3, .inl (G.2.1, 48, .inl tl.2.1.2.2.2.1)), (tlo4, .inl (G.2.1, 48, .inl tl.2.1.2.2.2.2.1)), (tlo5, .inl (G.2.1, 49, .inl tl.2.1.2.2.2.2.2)), (tlk, .inl (G.2.1, 48, .inl tl.2.2.1)), (tlb, .inl (G.2.1, 48, .inl tl.2.2.2)), (fh0, .inr (2, [.ref fh1, .int fh.2])), (fh1, .inl (G.2.1, 12, .inl fh.1))] → va_S A s.heap H locs → ∀ (ls : Array Slot), lv_has ls 5 [(0, .ref sc), (1, .int v1), (2, .int v2), (3, .int v3)] → P_SC_bestSingers_J80 tx pn tl fh v1 v2 v3 = some y30 → W p l e (fl_rm 5 103) s m args below meth c H locs 0 0 Q (F0 m 80 ls []) := by
        intro tl v1 v2 v3 H locs hP hD hS ls hl hp
        unfold P_SC_bestSingers_J80 at hp
        refine lv_iinc (v := (v3 + (1 : Int32))) (lv' := [(3, .int (v3 + (1 : Int32))), (0, .ref sc), (1, .int v1), (2, .int v2)]) hx hb dX5_bestSingers_80 hl (k := 3) rfl rfl (by decide) rfl (fun ls hl => ?_)
        refine lv_goto (tgt := 30) hx hb dX5_bestSingers_83 (by decide) ?_
        obtain rfl := Option.some.inj hp
        exact ih30 (v1, v2, (v3 + (1 : Int32)), tl) H locs hP hD hS ls (lv_sub hl [1, 2, 3, 0] rfl) (fl_cont_inl hy30)
      have hp := hb30
      unfold P_SC_bestSingers_L30 at hp
      refine lv_iload_n hx hb dX5_bestSingers_30 rfl (lv_at hl 3 rfl) ?_
      refine lv_bipush (v := (8 : Int32)) hx hb dX5_bestSingers_31 (by decide) ?_
      refine lv_icmp_gt (tgt := 86) hx hb dX5_bestSingers_33 (by decide) (fun hc => ?_) (fun hc => ?_)
      · replace hp := fl_t hc hp
        refine lv_iload_n hx hb dX5_bestSingers_86 rfl (lv_at hl 1 rfl) ?_
        obtain rfl := Option.some.inj hp
        obtain rfl := fl_cont_inr hy30
        exact hfin H locs _ ls hP hD hS dX5_bestSingers_87 rfl
      · replace hp := fl_f hc hp
        refine lv_aload_n hx hb dX5_bestSingers_36 rfl (lv_at hl 0 rfl) ?_
        refine va_get (D := G.1) (ci := 5) (v := .ref tlh) (C := RX5) (T := TX5) (N := 6) hx hb hts iX5 hown hK.1 hP 0 rfl rfl 2 (by decide) (hts (.fieldLink RX5 25 "SongChoir" "trial" "LSongChoir$Choir;") (List.mem_of_getElem? (i := 3) rfl)) (fun _ h9 => h9) rfl dX5_bestSingers_37 ?_
        refine lv_aload_n hx hb dX5_bestSingers_40 rfl (lv_at hl 0 rfl) ?_
        refine va_get (D := G.1) (ci := 5) (v := .ref pnh) (C := RX5) (T := TX5) (N := 6) hx hb hts iX5 hown hK.1 hP 0 rfl rfl 1 (by decide) (hts (.fieldLink RX5 21 "SongChoir" "present" "LSongChoir$Choir;") (List.mem_of_getElem? (i := 4) rfl)) (fun _ h9 => h9) rfl dX5_bestSingers_41 ?_
        obtain ⟨q1, hq1, hp⟩ := fl_bd_of hp
        refine fl_muV (As := [.ref pnh]) (rest := []) [(sc, .inr (5, [.ref tx0, .ref pnh, .ref tlh, .ref fh0, .ref hi, .ref sl])), (tx0, .inr (2, [.ref tx1, .int tx.2])), (tx1, .inl (G.2.1, 40, .inl tx.1)), (pnh, .inr (0, [.ref pns0, .ref pno0, .ref pnk, .ref pnb])), (pns0, .inr (4, [.ref pns1, .ref pns2, .int pn.1.2.2.1, .int pn.1.2.2.2.1, .int pn.1.2.2.2.2.1, .int pn.1.2.2.2.2.2.1, .int pn.1.2.2.2.2.2.2.1, .int pn.1.2.2.2.2.2.2.2])), (pns1, .inl (G.2.1, 48, .inl pn.1.1)), (pns2, .inl (G.2.1, 48, .inl pn.1.2.1)), (pno0, .inr (3, [.int pn.2.1.1, .ref pno1, .ref pno2, .ref pno3, .ref pno4, .ref pno5])), (pno1, .inl (G.2.1, 48, .inl pn.2.1.2.1)), (pno2, .inl (G.2.1, 48, .inl pn.2.1.2.2.1)), (pno3, .inl (G.2.1, 48, .inl pn.2.1.2.2.2.1)), (pno4, .inl (G.2.1, 48, .inl pn.2.1.2.2.2.2.1)), (pno5, .inl (G.2.1, 49, .inl pn.2.1.2.2.2.2.2)), (pnk, .inl (G.2.1, 48, .inl pn.2.2.1)), (pnb, .inl (G.2.1, 48, .inl pn.2.2.2)), (tlh, .inr (0, [.ref tls0, .ref tlo0, .ref tlk, .ref tlb])), (tls0, .inr (4, [.ref tls1, .ref tls2, .int q1.1.2.2.1, .int q1.1.2.2.2.1, .int q1.1.2.2.2.2.1, .int q1.1.2.2.2.2.2.1, .int q1.1.2.2.2.2.2.2.1, .int q1.1.2.2.2.2.2.2.2])), (tls1, .inl (G.2.1, 48, .inl q1.1.1)), (tls2, .inl (G.2.1, 48, .inl q1.1.2.1)), (tlo0, .inr (3, [.int q1.2.1.1, .ref tlo1, .ref tlo2, .ref tlo3, .ref tlo4, .ref tlo5])), (tlo1, .inl (G.2.1, 48, .inl q1.2.1.2.1)), (tlo2, .inl (G.2.1, 48, .inl q1.2.1.2.2.1)), (tlo3, .inl (G.2.1, 48, .inl q1.2.1.2.2.2.1)), (tlo4, .inl (G.2.1, 48, .inl q1.2.1.2.2.2.2.1)), (tlo5, .inl (G.2.1, 49, .inl q1.2.1.2.2.2.2.2)), (tlk, .inl (G.2.1, 48, .inl q1.2.2.1)), (tlb, .inl (G.2.1, 48, .inl q1.2.2.2)), (fh0, .inr (2, [.ref fh1, .int fh.2])), (fh1, .inl (G.2.1, 12, .inl fh.1))] C0 (c_Ch_becomeChoir l G tlh tls0 tls1 tls2 tlo0 tlo1 tlo2 tlo3 tlo4 tlo5 tlk tlb pnh pns0 pns1 pns2 pno0 pno1 pno2 pno3 pno4 pno5 pnk pnb z30.2.2.2 pn hq1) (cwV 1 hts gX5_bestSingers_X0_becomeChoir rfl rfl rfl (by decide +kernel) ⟨Nat.le_of_ble_eq_true rfl, Nat.le_of_ble_eq_true rfl⟩) hK hP hD [15, 16, 17, 18, 19, 20, 21, 22, 23, 24, 25, 26, 3, 4, 5, 6, 7, 8, 9, 10, 11, 12, 13, 14] [0, 1, 2, 27, 28] [0, 1, 2, 17, 18, 19, 20, 21, 22, 23, 24, 25, 26, 27, 28, 5, 6, 7, 8, 9, 10, 11, 12, 13, 14, 15, 16, 3, 4] rfl rfl (by decide) (by decide) rfl 15 0 rfl rfl rfl hS hA rfl hl.1 rfl (Nat.le_of_ble_eq_true rfl) dX5_bestSingers_44 ⟨Nat.zero_le _, Nat.zero_le _⟩ (fun H locs hP hD hS => ?_)
        refine lv_aload_n hx hb dX5_bestSingers_47 rfl (lv_at hl 0 rfl) ?_
        refine va_get (D := G.1) (ci := 5) (v := .ref tlh) (C := RX5) (T := TX5) (N := 6) hx hb hts iX5 hown hK.1 hP 0 rfl rfl 2 (by decide) (hts (.fieldLink RX5 25 "SongChoir" "trial" "LSongChoir$Choir;") (List.mem_of_getElem? (i := 3) rfl)) (fun _ h9 => h9) rfl dX5_bestSingers_48 ?_
        refine lv_iload_n hx hb dX5_bestSingers_51 rfl (lv_at hl 3 rfl) ?_
        obtain ⟨q2, hq2, hp⟩ := fl_bd_of hp
        refine fl_muV (As := [.int z30.2.2.1]) (rest := []) [(sc, .inr (5, [.ref tx0, .ref pnh, .ref tlh, .ref fh0, .ref hi, .ref sl])), (tx0, .inr (2, [.ref tx1, .int tx.2])), (tx1, .inl (G.2.1, 40, .inl tx.1)), (pnh, .inr (0, [.ref pns0, .ref pno0, .ref pnk, .ref pnb])), (pns0, .inr (4, [.ref pns1, .ref pns2, .int pn.1.2.2.1, .int pn.1.2.2.2.1, .int pn.1.2.2.2.2.1, .int pn.1.2.2.2.2.2.1, .int pn.1.2.2.2.2.2.2.1, .int pn.1.2.2.2.2.2.2.2])), (pns1, .inl (G.2.1, 48, .inl pn.1.1)), (pns2, .inl (G.2.1, 48, .inl pn.1.2.1)), (pno0, .inr (3, [.int pn.2.1.1, .ref pno1, .ref pno2, .ref pno3, .ref pno4, .ref pno5])), (pno1, .inl (G.2.1, 48, .inl pn.2.1.2.1)), (pno2, .inl (G.2.1, 48, .inl pn.2.1.2.2.1)), (pno3, .inl (G.2.1, 48, .inl pn.2.1.2.2.2.1)), (pno4, .inl (G.2.1, 48, .inl pn.2.1.2.2.2.2.1)), (pno5, .inl (G.2.1, 49, .inl pn.2.1.2.2.2.2.2)), (pnk, .inl (G.2.1, 48, .inl pn.2.2.1)), (pnb, .inl (G.2.1, 48, .inl pn.2.2.2)), (tlh, .inr (0, [.ref tls0, .ref tlo0, .ref tlk, .ref tlb])), (tls0, .inr (4, [.ref tls1, .ref tls2, .int q2.2.1.2.2.1, .int q2.2.1.2.2.2.1, .int q2.2.1.2.2.2.2.1, .int q2.2.1.2.2.2.2.2.1, .int q2.2.1.2.2.2.2.2.2.1, .int q2.2.1.2.2.2.2.2.2.2])), (tls1, .inl (G.2.1, 48, .inl q2.2.1.1)), (tls2, .inl (G.2.1, 48, .inl q2.2.1.2.1)), (tlo0, .inr (3, [.int q2.2.2.1.1, .ref tlo1, .ref tlo2, .ref tlo3, .ref tlo4, .ref tlo5])), (tlo1, .inl (G.2.1, 48, .inl q2.2.2.1.2.1)), (tlo2, .inl (G.2.1, 48, .inl q2.2.2.1.2.2.1)), (tlo3, .inl (G.2.1, 48, .inl q2.2.2.1.2.2.2.1)), (tlo4, .inl (G.2.1, 48, .inl q2.2.2.1.2.2.2.2.1)), (tlo5, .inl (G.2.1, 49, .inl q2.2.2.1.2.2.2.2.2)), (tlk, .inl (G.2.1, 48, .inl q2.2.2.2.1)), (tlb, .inl (G.2.1, 48, .inl q2.2.2.2.2)), (fh0, .inr (2, [.ref fh1, .int fh.2])), (fh1, .inl (G.2.1, 12, .inl fh.1))] C0 (c_Ch_changeSingers l G tlh tls0 tls1 tls2 tlo0 tlo1 tlo2 tlo3 tlo4 tlo5 tlk tlb q1 z30.2.2.1 hq2) (cwV 1 hts gX5_bestSingers_X0_changeSingers rfl rfl rfl (by decide +kernel) ⟨Nat.le_of_ble_eq_true rfl, Nat.le_of_ble_eq_true rfl⟩) hK hP hD [15, 16, 17, 18, 19, 20, 21, 22, 23, 24, 25, 26] [0, 1, 2, 3, 4, 5, 6, 7, 8, 9, 10, 11, 12, 13, 14, 27, 28] [0, 1, 2, 3, 4, 5, 6, 7, 8, 9, 10, 11, 12, 13, 14, 17, 18, 19, 20, 21, 22, 23, 24, 25, 26, 27, 28, 15, 16] rfl rfl (by decide) (by decide) rfl 15 0 rfl rfl rfl hS hA rfl hl.1 rfl (Nat.le_of_ble_eq_true rfl) dX5_bestSingers_52 ⟨Nat.zero_le _, Nat.zero_le _⟩ (fun H locs hP hD hS => ?_)
        refine lv_pop hx hb dX5_bestSingers_55 rfl ?_
        refine lv_aload_n hx hb dX5_bestSingers_56 rfl (lv_at hl 0 rfl) ?_
        refine va_get (D := G.1) (ci := 5) (v := .ref tlh) (C := RX5) (T := TX5) (N := 6) hx hb hts iX5 hown hK.1 hP 0 rfl rfl 2 (by decide) (hts (.fieldLink RX5 25 "SongChoir" "trial" "LSongChoir$Choir;") (List.mem_of_getElem? (i := 3) rfl)) (fun _ h9 => h9) rfl dX5_bestSingers_57 ?_
        refine lv_aload_n hx hb dX5_bestSingers_60 rfl (lv_at hl 0 rfl) ?_
        refine va_get (D := G.1) (ci := 5) (v := .ref fh0) (C := RX5) (T := TX5) (N := 6) hx hb hts iX5 hown hK.1 hP 0 rfl rfl 3 (by decide) (hts (.fieldLink RX5 28 "SongChoir" "fresh" "LSongChoir$Line;") (List.mem_of_getElem? (i := 2) rfl)) (fun _ h9 => h9) rfl dX5_bestSingers_61 ?_
        obtain ⟨q3, hq3, hp⟩ := fl_bd_of hp
        refine fl_muV (As := [.ref fh0]) (rest := []) [(sc, .inr (5, [.ref tx0, .ref pnh, .ref tlh, .ref fh0, .ref hi, .ref sl])), (tx0, .inr (2, [.ref tx1, .int tx.2])), (tx1, .inl (G.2.1, 40, .inl tx.1)), (pnh, .inr (0, [.ref pns0, .ref pno0, .ref pnk, .ref pnb])), (pns0, .inr (4, [.ref pns1, .ref pns2, .int pn.1.2.2.1, .int pn.1.2.2.2.1, .int pn.1.2.2.2.2.1, .int pn.1.2.2.2.2.2.1, .int pn.1.2.2.2.2.2.2.1, .int pn.1.2.2.2.2.2.2.2])), (pns1, .inl (G.2.1, 48, .inl pn.1.1)), (pns2, .inl (G.2.1, 48, .inl pn.1.2.1)), (pno0, .inr (3, [.int pn.2.1.1, .ref pno1, .ref pno2, .ref pno3, .ref pno4, .ref pno5])), (pno1, .inl (G.2.1, 48, .inl pn.2.1.2.1)), (pno2, .inl (G.2.1, 48, .inl pn.2.1.2.2.1)), (pno3, .inl (G.2.1, 48, .inl pn.2.1.2.2.2.1)), (pno4, .inl (G.2.1, 48, .inl pn.2.1.2.2.2.2.1)), (pno5, .inl (G.2.1, 49, .inl pn.2.1.2.2.2.2.2)), (pnk, .inl (G.2.1, 48, .inl pn.2.2.1)), (pnb, .inl (G.2.1, 48, .inl pn.2.2.2)), (tlh, .inr (0, [.ref tls0, .ref tlo0, .ref tlk, .ref tlb])), (tls0, .inr (4, [.ref tls1, .ref tls2, .int q3.2.1.2.2.1, .int q3.2.1.2.2.2.1, .int q3.2.1.2.2.2.2.1, .int q3.2.1.2.2.2.2.2.1, .int q3.2.1.2.2.2.2.2.2.1, .int q3.2.1.2.2.2.2.2.2.2])), (tls1, .inl (G.2.1, 48, .inl q3.2.1.1)), (tls2, .inl (G.2.1, 48, .inl q3.2.1.2.1)), (tlo0, .inr (3, [.int q3.2.2.1.1, .ref tlo1, .ref tlo2, .ref tlo3, .ref tlo4, .ref tlo5])), (tlo1, .inl (G.2.1, 48, .inl q3.2.2.1.2.1)), (tlo2, .inl (G.2.1, 48, .inl q3.2.2.1.2.2.1)), (tlo3, .inl (G.2.1, 48, .inl q3.2.2.1.2.2.2.1)), (tlo4, .inl (G.2.1, 48, .inl q3.2.2.1.2.2.2.2.1)), (tlo5, .inl (G.2.1, 49, .inl q3.2.2.1.2.2.2.2.2)), (tlk, .inl (G.2.1, 48, .inl q3.2.2.2.1)), (tlb, .inl (G.2.1, 48, .inl q3.2.2.2.2)), (fh0, .inr (2, [.ref fh1, .int fh.2])), (fh1, .inl (G.2.1, 12, .inl fh.1))] C0 (c_Ch_addVerse l G 12 tlh tls0 tls1 tls2 tlo0 tlo1 tlo2 tlo3 tlo4 tlo5 tlk tlb fh0 fh1 q2.2 fh hq3) (cwV 1 hts gX5_bestSingers_X0_addVerse rfl rfl rfl (by decide +kernel) ⟨Nat.le_of_ble_eq_true rfl, Nat.le_of_ble_eq_true rfl⟩) hK hP hD [15, 16, 17, 18, 19, 20, 21, 22, 23, 24, 25, 26, 27, 28] [0, 1, 2, 3, 4, 5, 6, 7, 8, 9, 10, 11, 12, 13, 14] [0, 1, 2, 3, 4, 5, 6, 7, 8, 9, 10, 11, 12, 13, 14, 15, 16, 17, 18, 19, 20, 21, 22, 23, 24, 25, 26, 27, 28] rfl rfl (by decide) (by decide) rfl 15 0 rfl rfl rfl hS hA rfl hl.1 rfl (Nat.le_of_ble_eq_true rfl) dX5_bestSingers_64 ⟨Nat.zero_le _, Nat.zero_le _⟩ (fun H locs hP hD hS => ?_)
        refine lv_istore (lv' := [(4, .int q3.1), (0, .ref sc), (1, .int z30.1), (2, .int z30.2.1), (3, .int z30.2.2.1)]) hx hb dX5_bestSingers_67 hl (by decide) rfl (fun ls hl => ?_)
        refine lv_iload hx hb dX5_bestSingers_69 (lv_at hl 0 rfl) ?_
        refine lv_iload_n hx hb dX5_bestSingers_71 rfl (lv_at hl 3 rfl) ?_
        refine lv_icmp_gt (tgt := 80) hx hb dX5_bestSingers_72 (by decide) (fun hc => ?_) (fun hc => ?_)
        · replace hp := fl_t hc hp
          exact KJ80 q3.2 z30.1 z30.2.1 z30.2.2.1 H locs hP hD hS ls (lv_sub hl [1, 2, 3, 4] rfl) hp
        · replace hp := fl_f hc hp
          refine lv_iload hx hb dX5_bestSingers_75 (lv_at hl 0 rfl) ?_
          refine lv_istore_n (lv' := [(2, .int q3.1), (4, .int q3.1), (0, .ref sc), (1, .int z30.1), (3, .int z30.2.2.1)]) hx hb dX5_bestSingers_77 rfl hl (by decide) rfl (fun ls hl => ?_)
          refine lv_iload_n hx hb dX5_bestSingers_78 rfl (lv_at hl 4 rfl) ?_
          refine lv_istore_n (lv' := [(1, .int z30.2.2.1), (2, .int q3.1), (4, .int q3.1), (0, .ref sc), (3, .int z30.2.2.1)]) hx hb dX5_bestSingers_79 rfl hl (by decide) rfl (fun ls hl => ?_)
          exact KJ80 q3.2 z30.2.2.1 q3.1 z30.2.2.1 H locs hP hD hS ls (lv_sub hl [3, 0, 1, 4] rfl) hp
  have hp := hp0
  unfold P_SC_bestSingers at hp
  refine lv_aload_n hx hb dX5_bestSingers_0 rfl (lv_at hl 0 rfl) ?_
  refine va_get (D := G.1) (ci := 5) (v := .ref tx0) (C := RX5) (T := TX5) (N := 6) hx hb hts iX5 hown hK.1 hP 0 rfl rfl 0 (by decide) (hts (.fieldLink RX5 14 "SongChoir" "text" "LSongChoir$Line;") (List.mem_of_getElem? (i := 1) rfl)) (fun _ h9 => h9) rfl dX5_bestSingers_1 ?_
  obtain ⟨q1, hq1, hp⟩ := fl_bd_of hp
  refine fl_roV (As := []) (rest := []) C0 (c_Ln_fitsVerse l G 40 tx0 tx1 tx hq1) (cwV 0 hts gX5_bestSingers_X2_fitsVerse rfl rfl rfl (by decide +kernel) ⟨Nat.le_of_ble_eq_true rfl, Nat.le_of_ble_eq_true rfl⟩) hK hP [1, 2] rfl 1 2 rfl rfl rfl hS hA rfl hl.1 rfl (Nat.le_of_ble_eq_true rfl) dX5_bestSingers_4 ⟨Nat.zero_le _, Nat.zero_le _⟩ (fun H locs hP hS => ?_)
  refine lv_if_ne (tgt := 12) hx hb dX5_bestSingers_7 (by decide) (fun hc => ?_) (fun hc => ?_)
  · replace hp := fl_f hc hp
    refine lv_aload_n hx hb dX5_bestSingers_12 rfl (lv_at hl 0 rfl) ?_
    refine va_get (D := G.1) (ci := 5) (v := .ref fh0) (C := RX5) (T := TX5) (N := 6) hx hb hts iX5 hown hK.1 hP 0 rfl rfl 3 (by decide) (hts (.fieldLink RX5 28 "SongChoir" "fresh" "LSongChoir$Line;") (List.mem_of_getElem? (i := 2) rfl)) (fun _ h9 => h9) rfl dX5_bestSingers_13 ?_
    refine lv_aload_n hx hb dX5_bestSingers_16 rfl (lv_at hl 0 rfl) ?_
    refine va_get (D := G.1) (ci := 5) (v := .ref tx0) (C := RX5) (T := TX5) (N := 6) hx hb hts iX5 hown hK.1 hP 0 rfl rfl 0 (by decide) (hts (.fieldLink RX5 14 "SongChoir" "text" "LSongChoir$Line;") (List.mem_of_getElem? (i := 1) rfl)) (fun _ h9 => h9) rfl dX5_bestSingers_17 ?_
    obtain ⟨q2, hq2, hp⟩ := fl_bd_of hp
    refine fl_muV (As := [.ref tx0]) (rest := []) [(sc, .inr (5, [.ref tx0, .ref pnh, .ref tlh, .ref fh0, .ref hi, .ref sl])), (tx0, .inr (2, [.ref tx1, .int tx.2])), (tx1, .inl (G.2.1, 40, .inl tx.1)), (pnh, .inr (0, [.ref pns0, .ref pno0, .ref pnk, .ref pnb])), (pns0, .inr (4, [.ref pns1, .ref pns2, .int pn.1.2.2.1, .int pn.1.2.2.2.1, .int pn.1.2.2.2.2.1, .int pn.1.2.2.2.2.2.1, .int pn.1.2.2.2.2.2.2.1, .int pn.1.2.2.2.2.2.2.2])), (pns1, .inl (G.2.1, 48, .inl pn.1.1)), (pns2, .inl (G.2.1, 48, .inl pn.1.2.1)), (pno0, .inr (3, [.int pn.2.1.1, .ref pno1, .ref pno2, .ref pno3, .ref pno4, .ref pno5])), (pno1, .inl (G.2.1, 48, .inl pn.2.1.2.1)), (pno2, .inl (G.2.1, 48, .inl pn.2.1.2.2.1)), (pno3, .inl (G.2.1, 48, .inl pn.2.1.2.2.2.1)), (pno4, .inl (G.2.1, 48, .inl pn.2.1.2.2.2.2.1)), (pno5, .inl (G.2.1, 49, .inl pn.2.1.2.2.2.2.2)), (pnk, .inl (G.2.1, 48, .inl pn.2.2.1)), (pnb, .inl (G.2.1, 48, .inl pn.2.2.2)), (tlh, .inr (0, [.ref tls0, .ref tlo0, .ref tlk, .ref tlb])), (tls0, .inr (4, [.ref tls1, .ref tls2, .int tl.1.2.2.1, .int tl.1.2.2.2.1, .int tl.1.2.2.2.2.1, .int tl.1.2.2.2.2.2.1, .int tl.1.2.2.2.2.2.2.1, .int tl.1.2.2.2.2.2.2.2])), (tls1, .inl (G.2.1, 48, .inl tl.1.1)), (tls2, .inl (G.2.1, 48, .inl tl.1.2.1)), (tlo0, .inr (3, [.int tl.2.1.1, .ref tlo1, .ref tlo2, .ref tlo3, .ref tlo4, .ref tlo5])), (tlo1, .inl (G.2.1, 48, .inl tl.2.1.2.1)), (tlo2, .inl (G.2.1, 48, .inl tl.2.1.2.2.1)), (tlo3, .inl (G.2.1, 48, .inl tl.2.1.2.2.2.1)), (tlo4, .inl (G.2.1, 48, .inl tl.2.1.2.2.2.2.1)), (tlo5, .inl (G.2.1, 49, .inl tl.2.1.2.2.2.2.2)), (tlk, .inl (G.2.1, 48, .inl tl.2.2.1)), (tlb, .inl (G.2.1, 48, .inl tl.2.2.2)), (fh0, .inr (2, [.ref fh1, .int q2.2])), (fh1, .inl (G.2.1, 12, .inl q2.1))] C0 (c_Ln_takeLine l G 12 40 fh0 fh1 tx0 tx1 fh tx hq2) (cwV 1 hts gX5_bestSingers_X2_takeLine rfl rfl rfl (by decide +kernel) ⟨Nat.le_of_ble_eq_true rfl, Nat.le_of_ble_eq_true rfl⟩) hK hP hD [27, 28, 1, 2] [0, 3, 4, 5, 6, 7, 8, 9, 10, 11, 12, 13, 14, 15, 16, 17, 18, 19, 20, 21, 22, 23, 24, 25, 26] [0, 27, 28, 1, 2, 3, 4, 5, 6, 7, 8, 9, 10, 11, 12, 13, 14, 15, 16, 17, 18, 19, 20, 21, 22, 23, 24, 25, 26] rfl rfl (by decide) (by decide) rfl 27 2 rfl rfl rfl hS hA rfl hl.1 rfl (Nat.le_of_ble_eq_true rfl) dX5_bestSingers_20 ⟨Nat.zero_le _, Nat.zero_le _⟩ (fun H locs hP hD hS => ?_)
    refine lv_iconst (v := (-1 : Int32)) hx hb dX5_bestSingers_23 (by decide) ?_
    refine lv_istore_n (lv' := [(1, .int (-1 : Int32)), (0, .ref sc)]) hx hb dX5_bestSingers_24 rfl hl (by decide) rfl (fun ls hl => ?_)
    refine lv_bipush (v := (48 : Int32)) hx hb dX5_bestSingers_25 (by decide) ?_
    refine lv_istore_n (lv' := [(2, .int (48 : Int32)), (1, .int (-1 : Int32)), (0, .ref sc)]) hx hb dX5_bestSingers_27 rfl hl (by decide) rfl (fun ls hl => ?_)
    refine lv_iconst (v := (1 : Int32)) hx hb dX5_bestSingers_28 (by decide) ?_
    refine lv_istore_n (lv' := [(3, .int (1 : Int32)), (2, .int (48 : Int32)), (1, .int (-1 : Int32)), (0, .ref sc)]) hx hb dX5_bestSingers_29 rfl hl (by decide) rfl (fun ls hl => ?_)
    obtain ⟨n0, hn⟩ := fl_loop_ex hp
    exact KL30 q2 n0 ((-1 : Int32), (48 : Int32), (1 : Int32), tl) H locs hP hD hS ls (lv_sub hl [3, 2, 1, 0] rfl) hn
  · replace hp := fl_t hc hp
    refine lv_iconst (v := (-1 : Int32)) hx hb dX5_bestSingers_10 (by decide) ?_
    obtain rfl := Option.some.inj hp
    exact hfin H locs _ ls hP hD hS dX5_bestSingers_11 rfl

noncomputable def P_SC_bestAgain_J81 (pn : fl_Ch) (tl : fl_Ch) (fh : fl_Ln) (v1 : Int32) (v2 : Int32) (v3 : Int32) : Option ((Int32 × Int32 × Int32 × fl_Ch × fl_Ln) ⊕ (Int32 × fl_Ch × fl_Ln)) := some (.inl (v1, v2, (v3 + (1 : Int32)), tl, fh))
noncomputable def P_SC_bestAgain_L6 (pn : fl_Ch) (z6 : (Int32 × Int32 × Int32 × fl_Ch × fl_Ln)) : Option ((Int32 × Int32 × Int32 × fl_Ch × fl_Ln) ⊕ (Int32 × fl_Ch × fl_Ln)) := if pn.1.2.2.2.1 ≤ z6.2.2.1 then some (.inr (z6.1, z6.2.2.2.1, z6.2.2.2.2)) else fl_bd (P_Ln_takeVerse 12 z6.2.2.2.2 pn.1 z6.2.2.1) (fun q1 => fl_bd (P_Ch_becomeChoir z6.2.2.2.1 pn) (fun q2 => fl_bd (P_Ch_addVerse 12 q2 q1) (fun q3 => fl_bd (P_Or_pieces q3.2.2.1) (fun q4 => if q4 ≤ z6.2.1 then P_SC_bestAgain_J81 pn q3.2 q1 z6.1 z6.2.1 z6.2.2.1 else P_SC_bestAgain_J81 pn q3.2 q1 z6.2.2.1 q4 z6.2.2.1))))
noncomputable def P_SC_bestAgain (pn : fl_Ch) (tl : fl_Ch) (fh : fl_Ln) : Option (Int32 × fl_Ch × fl_Ln) := fl_loop (P_SC_bestAgain_L6 pn) ((-1 : Int32), (0 : Int32), (0 : Int32), tl, fh)
set_option maxHeartbeats 4000000 in
set_option maxRecDepth 100000 in
theorem c_SC_bestAgain (l : Launch) (G : fl_G) (sc tx0 pnh pns0 pns1 pns2 pno0 pno1 pno2 pno3 pno4 pno5 pnk pnb tlh tls0 tls1 tls2 tlo0 tlo1 tlo2 tlo3 tlo4 tlo5 tlk tlb fh0 fh1 hi sl : Nat) (pn : fl_Ch) (tl : fl_Ch) (fh : fl_Ln) {r : (Int32 × fl_Ch × fl_Ln)} (hp0 : P_SC_bestAgain pn tl fh = some r) : fl_mu l yX5_bestAgain wsX5_bestAgain 4 94 G [.ref sc] [(sc, .inr (5, [.ref tx0, .ref pnh, .ref tlh, .ref fh0, .ref hi, .ref sl])), (pnh, .inr (0, [.ref pns0, .ref pno0, .ref pnk, .ref pnb])), (pns0, .inr (4, [.ref pns1, .ref pns2, .int pn.1.2.2.1, .int pn.1.2.2.2.1, .int pn.1.2.2.2.2.1, .int pn.1.2.2.2.2.2.1, .int pn.1.2.2.2.2.2.2.1, .int pn.1.2.2.2.2.2.2.2])), (pns1, .inl (G.2.1, 48, .inl pn.1.1)), (pns2, .inl (G.2.1, 48, .inl pn.1.2.1)), (pno0, .inr (3, [.int pn.2.1.1, .ref pno1, .ref pno2, .ref pno3, .ref pno4, .ref pno5])), (pno1, .inl (G.2.1, 48, .inl pn.2.1.2.1)), (pno2, .inl (G.2.1, 48, .inl pn.2.1.2.2.1)), (pno3, .inl (G.2.1, 48, .inl pn.2.1.2.2.2.1)), (pno4, .inl (G.2.1, 48, .inl pn.2.1.2.2.2.2.1)), (pno5, .inl (G.2.1, 49, .inl pn.2.1.2.2.2.2.2)), (pnk, .inl (G.2.1, 48, .inl pn.2.2.1)), (pnb, .inl (G.2.1, 48, .inl pn.2.2.2)), (tlh, .inr (0, [.ref tls0, .ref tlo0, .ref tlk, .ref tlb])), (tls0, .inr (4, [.ref tls1, .ref tls2, .int tl.1.2.2.1, .int tl.1.2.2.2.1, .int tl.1.2.2.2.2.1, .int tl.1.2.2.2.2.2.1, .int tl.1.2.2.2.2.2.2.1, .int tl.1.2.2.2.2.2.2.2])), (tls1, .inl (G.2.1, 48, .inl tl.1.1)), (tls2, .inl (G.2.1, 48, .inl tl.1.2.1)), (tlo0, .inr (3, [.int tl.2.1.1, .ref tlo1, .ref tlo2, .ref tlo3, .ref tlo4, .ref tlo5])), (tlo1, .inl (G.2.1, 48, .inl tl.2.1.2.1)), (tlo2, .inl (G.2.1, 48, .inl tl.2.1.2.2.1)), (tlo3, .inl (G.2.1, 48, .inl tl.2.1.2.2.2.1)), (tlo4, .inl (G.2.1, 48, .inl tl.2.1.2.2.2.2.1)), (tlo5, .inl (G.2.1, 49, .inl tl.2.1.2.2.2.2.2)), (tlk, .inl (G.2.1, 48, .inl tl.2.2.1)), (tlb, .inl (G.2.1, 48, .inl tl.2.2.2)), (fh0, .inr (2, [.ref fh1, .int fh.2])), (fh1, .inl (G.2.1, 12, .inl fh.1))] (some (.int r.1)) [(sc, .inr (5, [.ref tx0, .ref pnh, .ref tlh, .ref fh0, .ref hi, .ref sl])), (pnh, .inr (0, [.ref pns0, .ref pno0, .ref pnk, .ref pnb])), (pns0, .inr (4, [.ref pns1, .ref pns2, .int pn.1.2.2.1, .int pn.1.2.2.2.1, .int pn.1.2.2.2.2.1, .int pn.1.2.2.2.2.2.1, .int pn.1.2.2.2.2.2.2.1, .int pn.1.2.2.2.2.2.2.2])), (pns1, .inl (G.2.1, 48, .inl pn.1.1)), (pns2, .inl (G.2.1, 48, .inl pn.1.2.1)), (pno0, .inr (3, [.int pn.2.1.1, .ref pno1, .ref pno2, .ref pno3, .ref pno4, .ref pno5])), (pno1, .inl (G.2.1, 48, .inl pn.2.1.2.1)), (pno2, .inl (G.2.1, 48, .inl pn.2.1.2.2.1)), (pno3, .inl (G.2.1, 48, .inl pn.2.1.2.2.2.1)), (pno4, .inl (G.2.1, 48, .inl pn.2.1.2.2.2.2.1)), (pno5, .inl (G.2.1, 49, .inl pn.2.1.2.2.2.2.2)), (pnk, .inl (G.2.1, 48, .inl pn.2.2.1)), (pnb, .inl (G.2.1, 48, .inl pn.2.2.2)), (tlh, .inr (0, [.ref tls0, .ref tlo0, .ref tlk, .ref tlb])), (tls0, .inr (4, [.ref tls1, .ref tls2, .int r.2.1.1.2.2.1, .int r.2.1.1.2.2.2.1, .int r.2.1.1.2.2.2.2.1, .int r.2.1.1.2.2.2.2.2.1, .int r.2.1.1.2.2.2.2.2.2.1, .int r.2.1.1.2.2.2.2.2.2.2])), (tls1, .inl (G.2.1, 48, .inl r.2.1.1.1)), (tls2, .inl (G.2.1, 48, .inl r.2.1.1.2.1)), (tlo0, .inr (3, [.int r.2.1.2.1.1, .ref tlo1, .ref tlo2, .ref tlo3, .ref tlo4, .ref tlo5])), (tlo1, .inl (G.2.1, 48, .inl r.2.1.2.1.2.1)), (tlo2, .inl (G.2.1, 48, .inl r.2.1.2.1.2.2.1)), (tlo3, .inl (G.2.1, 48, .inl r.2.1.2.1.2.2.2.1)), (tlo4, .inl (G.2.1, 48, .inl r.2.1.2.1.2.2.2.2.1)), (tlo5, .inl (G.2.1, 49, .inl r.2.1.2.1.2.2.2.2.2)), (tlk, .inl (G.2.1, 48, .inl r.2.1.2.2.1)), (tlb, .inl (G.2.1, 48, .inl r.2.1.2.2.2)), (fh0, .inr (2, [.ref fh1, .int r.2.2.2])), (fh1, .inl (G.2.1, 12, .inl r.2.2.1))] := by
  refine fl_mui_in cX5_bestAgain 5 .int RX5 (by decide) rfl rfl (Nat.le_of_ble_eq_true rfl) ?_
  intro p e s m args below meth c ls A Q H locs C0 hK hP hD hS hA hl hfin
  obtain ⟨hx, hb, hml, hown, hts⟩ := id C0
  have iX0 : ∀ w ∈ u_ws RX0 TX0 4, w ∈ wsX5_bestAgain := fun _ h => List.mem_cons_of_mem _ (List.mem_append_left _ (List.mem_append_left _ (List.mem_append_left _ (List.mem_append_right _ h))))
  have iX4 : ∀ w ∈ u_ws RX4 TX4 8, w ∈ wsX5_bestAgain := fun _ h => List.mem_cons_of_mem _ (List.mem_append_left _ (List.mem_append_left _ (List.mem_append_right _ h)))
  have iX5 : ∀ w ∈ u_ws RX5 TX5 6, w ∈ wsX5_bestAgain := fun _ h => List.mem_cons_of_mem _ (List.mem_append_left _ (List.mem_append_left _ (List.mem_append_left _ (List.mem_append_left _ (List.mem_append_right _ h)))))
  have hl : lv_has ls 5 [(0, .ref sc)] := hl
  have KL6 : ∀ (n0 : Nat) (z6 : (Int32 × Int32 × Int32 × fl_Ch × fl_Ln)) (H : Heap) (locs : List Loc), va_P G.1 vwCl [(sc, .inr (5, [.ref tx0, .ref pnh, .ref tlh, .ref fh0, .ref hi, .ref sl])), (pnh, .inr (0, [.ref pns0, .ref pno0, .ref pnk, .ref pnb])), (pns0, .inr (4, [.ref pns1, .ref pns2, .int pn.1.2.2.1, .int pn.1.2.2.2.1, .int pn.1.2.2.2.2.1, .int pn.1.2.2.2.2.2.1, .int pn.1.2.2.2.2.2.2.1, .int pn.1.2.2.2.2.2.2.2])), (pns1, .inl (G.2.1, 48, .inl pn.1.1)), (pns2, .inl (G.2.1, 48, .inl pn.1.2.1)), (pno0, .inr (3, [.int pn.2.1.1, .ref pno1, .ref pno2, .ref pno3, .ref pno4, .ref pno5])), (pno1, .inl (G.2.1, 48, .inl pn.2.1.2.1)), (pno2, .inl (G.2.1, 48, .inl pn.2.1.2.2.1)), (pno3, .inl (G.2.1, 48, .inl pn.2.1.2.2.2.1)), (pno4, .inl (G.2.1, 48, .inl pn.2.1.2.2.2.2.1)), (pno5, .inl (G.2.1, 49, .inl pn.2.1.2.2.2.2.2)), (pnk, .inl (G.2.1, 48, .inl pn.2.2.1)), (pnb, .inl (G.2.1, 48, .inl pn.2.2.2)), (tlh, .inr (0, [.ref tls0, .ref tlo0, .ref tlk, .ref tlb])), (tls0, .inr (4, [.ref tls1, .ref tls2, .int z6.2.2.2.1.1.2.2.1, .int z6.2.2.2.1.1.2.2.2.1, .int z6.2.2.2.1.1.2.2.2.2.1, .int z6.2.2.2.1.1.2.2.2.2.2.1, .int z6.2.2.2.1.1.2.2.2.2.2.2.1, .int z6.2.2.2.1.1.2.2.2.2.2.2.2])), (tls1, .inl (G.2.1, 48, .inl z6.2.2.2.1.1.1)), (tls2, .inl (G.2.1, 48, .inl z6.2.2.2.1.1.2.1)), (tlo0, .inr (3, [.int z6.2.2.2.1.2.1.1, .ref tlo1, .ref tlo2, .ref tlo3, .ref tlo4, .ref tlo5])), (tlo1, .inl (G.2.1, 48, .inl z6.2.2.2.1.2.1.2.1)), (tlo2, .inl (G.2.1, 48, .inl z6.2.2.2.1.2.1.2.2.1)), (tlo3, .inl (G.2.1, 48, .inl z6.2.2.2.1.2.1.2.2.2.1)), (tlo4, .inl (G.2.1, 48, .inl z6.2.2.2.1.2.1.2.2.2.2.1)), (tlo5, .inl (G.2.1, 49, .inl z6.2.2.2.1.2.1.2.2.2.2.2)), (tlk, .inl (G.2.1, 48, .inl z6.2.2.2.1.2.2.1)), (tlb, .inl (G.2.1, 48, .inl z6.2.2.2.1.2.2.2)), (fh0, .inr (2, [.ref fh1, .int z6.2.2.2.2.2])), (fh1, .inl (G.2.1, 12, .inl z6.2.2.2.2.1))] H → va_D A [(sc, .inr (5, [.ref tx0, .ref pnh, .ref tlh, .ref fh0, .ref hi, .ref sl])), (pnh, .inr (0, [.ref pns0, .ref pno0, .ref pnk, .ref pnb])), (pns0, .inr (4, [.ref pns1, .ref pns2, .int pn.1.2.2.1, .int pn.1.2.2.2.1, .int pn.1.2.2.2.2.1, .int pn.1.2.2.2.2.2.1, .int pn.1.2.2.2.2.2.2.1, .int pn.1.2.2.2.2.2.2.2])), (pns1, .inl (G.2.1, 48, .inl pn.1.1)), (pns2, .inl (G.2.1, 48, .inl pn.1.2.1)), (pno0, .inr (3, [.int pn.2.1.1, .ref pno1, .ref pno2, .ref pno3, .ref pno4, .ref pno5])), (pno1, .inl (G.2.1, 48, .inl pn.2.1.2.1)), (pno2, .inl (G.2.1, 48, .inl pn.2.1.2.2.1)), (pno3, .inl (G.2.1, 48, .inl pn.2.1.2.2.2.1)), (pno4, .inl (G.2.1, 48, .inl pn.2.1.2.2.2.2.1)), (pno5, .inl (G.2.1, 49, .inl pn.2.1.2.2.2.2.2)), (pnk, .inl (G.2.1, 48, .inl pn.2.2.1)), (pnb, .inl (G.2.1, 48, .inl pn.2.2.2)), (tlh, .inr (0, [.ref tls0, .ref tlo0, .ref tlk, .ref tlb])), (tls0, .inr (4, [.ref tls1, .ref tls2, .int z6.2.2.2.1.1.2.2.1, .int z6.2.2.2.1.1.2.2.2.1, .int z6.2.2.2.1.1.2.2.2.2.1, .int z6.2.2.2.1.1.2.2.2.2.2.1, .int z6.2.2.2.1.1.2.2.2.2.2.2.1, .int z6.2.2.2.1.1.2.2.2.2.2.2.2])), (tls1, .inl (G.2.1, 48, .inl z6.2.2.2.1.1.1)), (tls2, .inl (G.2.1, 48, .inl z6.2.2.2.1.1.2.1)), (tlo0, .inr (3, [.int z6.2.2.2.1.2.1.1, .ref tlo1, .ref tlo2, .ref tlo3, .ref tlo4, .ref tlo5])), (tlo1, .inl (G.2.1, 48, .inl z6.2.2.2.1.2.1.2.1)), (tlo2, .inl (G.2.1, 48, .inl z6.2.2.2.1.2.1.2.2.1)), (tlo3, .inl (G.2.1, 48, .inl z6.2.2.2.1.2.1.2.2.2.1)), (tlo4, .inl (G.2.1, 48, .inl z6.2.2.2.1.2.1.2.2.2.2.1)), (tlo5, .inl (G.2.1, 49, .inl z6.2.2.2.1.2.1.2.2.2.2.2)), (tlk, .inl (G.2.1, 48, .inl z6.2.2.2.1.2.2.1)), (tlb, .inl (G.2.1, 48, .inl z6.2.2.2.1.2.2.2)), (fh0, .inr (2, [.ref fh1, .int z6.2.2.2.2.2])), (fh1, .inl (G.2.1, 12, .inl z6.2.2.2.2.1))] → va_S A s.heap H locs → ∀ (ls : Array Slot), lv_has ls 5 [(0, .ref sc), (1, .int z6.1), (2, .int z6.2.1), (3, .int z6.2.2.1)] → fl_loopN (P_SC_bestAgain_L6 pn) n0 z6 = some r → W p l e (fl_rm 4 94) s m args below meth c H locs 0 0 Q (F0 m 6 ls []) := by
    intro n0
    induction n0 with
    | zero => intro z6 H locs hP hD hS ls hl hn; exact (fl_loopN_0 hn).elim
    | succ n0 ih6 =>
      intro z6 H locs hP hD hS ls hl hn
      obtain ⟨y6, hb6, hy6⟩ := fl_loopN_step hn
      clear hn
      have KJ81 : ∀ (tl : fl_Ch) (fh : fl_Ln) (v1 : Int32) (v2 : Int32) (v3 : Int32) (H : Heap) (locs : List Loc), va_P G.1 vwCl [(sc, .inr (5, [.ref tx0, .ref pnh, .ref tlh, .ref fh0, .ref hi, .ref sl])), (pnh, .inr (0, [.ref pns0, .ref pno0, .ref pnk, .ref pnb])), (pns0, .inr (4, [.ref pns1, .ref pns2, .int pn.1.2.2.1, .int pn.1.2.2.2.1, .int pn.1.2.2.2.2.1, .int pn.1.2.2.2.2.2.1, .int pn.1.2.2.2.2.2.2.1, .int pn.1.2.2.2.2.2.2.2])), (pns1, .inl (G.2.1, 48, .inl pn.1.1)), (pns2, .inl (G.2.1, 48, .inl pn.1.2.1)), (pno0, .inr (3, [.int pn.2.1.1, .ref pno1, .ref pno2, .ref pno3, .ref pno4, .ref pno5])), (pno1, .inl (G.2.1, 48, .inl pn.2.1.2.1)), (pno2, .inl (G.2.1, 48, .inl pn.2.1.2.2.1)), (pno3, .inl (G.2.1, 48, .inl pn.2.1.2.2.2.1)), (pno4, .inl (G.2.1, 48, .inl pn.2.1.2.2.2.2.1)), (pno5, .inl (G.2.1, 49, .inl pn.2.1.2.2.2.2.2)), (pnk, .inl (G.2.1, 48, .inl pn.2.2.1)), (pnb, .inl (G.2.1, 48, .inl pn.2.2.2)), (tlh, .inr (0, [.ref tls0, .ref tlo0, .ref tlk, .ref tlb])), (tls0, .inr (4, [.ref tls1, .ref tls2, .int tl.1.2.2.1, .int tl.1.2.2.2.1, .int tl.1.2.2.2.2.1, .int tl.1.2.2.2.2.2.1, .int tl.1.2.2.2.2.2.2.1, .int tl.1.2.2.2.2.2.2.2])), (tls1, .inl (G.2.1, 48, .inl tl.1.1)), (tls2, .inl (G.2.1, 48, .inl tl.1.2.1)), (tlo0, .inr (3, [.int tl.2.1.1, .ref tlo1, .ref tlo2, .ref tlo3, .ref tlo4, .ref tlo5])), (tlo1, .inl (G.2.1, 48, .inl tl.2.1.2.1)), (tlo2, .inl (G.2.1, 48, .inl tl.2.1.2.2.1)), (tlo3, .inl (G.2.1, 48, .inl tl.2.1.2.2.2.1)), (tlo4, .inl (G.2.1, 48, .inl tl.2.1.2.2.2.2.1)), (tlo5, .inl (G.2.1, 49, .inl tl.2.1.2.2.2.2.2)), (tlk, .inl (G.2.1, 48, .inl tl.2.2.1)), (tlb, .inl (G.2.1, 48, .inl tl.2.2.2)), (fh0, .inr (2, [.ref fh1, .int fh.2])), (fh1, .inl (G.2.1, 12, .inl fh.1))] H → va_D A [(sc, .inr (5, [.ref tx0, .ref pnh, .ref tlh, .ref fh0, .ref hi, .ref sl])), (pnh, .inr (0, [.ref pns0, .ref pno0, .ref pnk, .ref pnb])), (pns0, .inr (4, [.ref pns1, .ref pns2, .int pn.1.2.2.1, .int pn.1.2.2.2.1, .int pn.1.2.2.2.2.1, .int pn.1.2.2.2.2.2.1, .int pn.1.2.2.2.2.2.2.1, .int pn.1.2.2.2.2.2.2.2])), (pns1, .inl (G.2.1, 48, .inl pn.1.1)), (pns2, .inl (G.2.1, 48, .inl pn.1.2.1)), (pno0, .inr (3, [.int pn.2.1.1, .ref pno1, .ref pno2, .ref pno3, .ref pno4, .ref pno5])), (pno1, .inl (G.2.1, 48, .inl pn.2.1.2.1)), (pno2, .inl (G.2.1, 48, .inl pn.2.1.2.2.1)), (pno3, .inl (G.2.1, 48, .inl pn.2.1.2.2.2.1)), (pno4, .inl (G.2.1, 48, .inl pn.2.1.2.2.2.2.1)), (pno5, .inl (G.2.1, 49, .inl pn.2.1.2.2.2.2.2)), (pnk, .inl (G.2.1, 48, .inl pn.2.2.1)), (pnb, .inl (G.2.1, 48, .inl pn.2.2.2)), (tlh, .inr (0, [.ref tls0, .ref tlo0, .ref tlk, .ref tlb])), (tls0, .inr (4, [.ref tls1, .ref tls2, .int tl.1.2.2.1, .int tl.1.2.2.2.1, .int tl.1.2.2.2.2.1, .int tl.1.2.2.2.2.2.1, .int tl.1.2.2.2.2.2.2.1, .int tl.1.2.2.2.2.2.2.2])), (tls1, .inl (G.2.1, 48, .inl tl.1.1)), (tls2, .inl (G.2.1, 48, .inl tl.1.2.1)), (tlo0, .inr (3, [.int tl.2.1.1, .ref tlo1, .ref tlo2, .ref tlo3, .ref tlo4, .ref tlo5])), (tlo1, .inl (G.2.1, 48, .inl tl.2.1.2.1)), (tlo2, .inl (G.2.1, 48, .inl tl.2.1.2.2.1)), (tlo3, .inl (G.2.1, 48, .inl tl.2.1.2.2.2.1)), (tlo4, .inl (G.2.1, 48, .inl tl.2.1.2.2.2.2.1)), (tlo5, .inl (G.2.1, 49, .inl tl.2.1.2.2.2.2.2)), (tlk, .inl (G.2.1, 48, .inl tl.2.2.1)), (tlb, .inl (G.2.1, 48, .inl tl.2.2.2)), (fh0, .inr (2, [.ref fh1, .int fh.2])), (fh1, .inl (G.2.1, 12, .inl fh.1))] → va_S A s.heap H locs → ∀ (ls : Array Slot), lv_has ls 5 [(0, .ref sc), (1, .int v1), (2, .int v2), (3, .int v3)] → P_SC_bestAgain_J81 pn tl fh v1 v2 v3 = some y6 → W p l e (fl_rm 4 94) s m args below meth c H locs 0 0 Q (F0 m 81 ls []) := by
        intro tl fh v1 v2 v3 H locs hP hD hS ls hl hp
        unfold P_SC_bestAgain_J81 at hp
        refine lv_iinc (v := (v3 + (1 : Int32))) (lv' := [(3, .int (v3 + (1 : Int32))), (0, .ref sc), (1, .int v1), (2, .int v2)]) hx hb dX5_bestAgain_81 hl (k := 3) rfl rfl (by decide) rfl (fun ls hl => ?_)
        refine lv_goto (tgt := 6) hx hb dX5_bestAgain_84 (by decide) ?_
        obtain rfl := Option.some.inj hp
        exact ih6 (v1, v2, (v3 + (1 : Int32)), tl, fh) H locs hP hD hS ls (lv_sub hl [1, 2, 3, 0] rfl) (fl_cont_inl hy6)
      have hp := hb6
      unfold P_SC_bestAgain_L6 at hp
      refine lv_iload_n hx hb dX5_bestAgain_6 rfl (lv_at hl 3 rfl) ?_
      refine lv_aload_n hx hb dX5_bestAgain_7 rfl (lv_at hl 0 rfl) ?_
      refine va_get (D := G.1) (ci := 5) (v := .ref pnh) (C := RX5) (T := TX5) (N := 6) hx hb hts iX5 hown hK.1 hP 0 rfl rfl 1 (by decide) (hts (.fieldLink RX5 21 "SongChoir" "present" "LSongChoir$Choir;") (List.mem_of_getElem? (i := 1) rfl)) (fun _ h9 => h9) rfl dX5_bestAgain_8 ?_
      refine va_get (D := G.1) (ci := 0) (v := .ref pns0) (C := RX0) (T := TX0) (N := 4) hx hb hts iX0 hown hK.1 hP 1 rfl rfl 0 (by decide) (hts (.fieldLink RX5 74 "SongChoir$Choir" "song" "LSongChoir$Song;") (List.mem_of_getElem? (i := 2) rfl)) (fun _ h9 => h9) rfl dX5_bestAgain_11 ?_
      refine va_get (D := G.1) (ci := 4) (v := .int pn.1.2.2.2.1) (C := RX4) (T := TX4) (N := 8) hx hb hts iX4 hown hK.1 hP 2 rfl rfl 3 (by decide) (hts (.fieldLink RX5 81 "SongChoir$Song" "verses" "I") (List.mem_of_getElem? (i := 3) rfl)) (fun _ h9 => h9) rfl dX5_bestAgain_14 ?_
      refine lv_icmp_ge (tgt := 87) hx hb dX5_bestAgain_17 (by decide) (fun hc => ?_) (fun hc => ?_)
      · replace hp := fl_t hc hp
        refine lv_iload_n hx hb dX5_bestAgain_87 rfl (lv_at hl 1 rfl) ?_
        obtain rfl := Option.some.inj hp
        obtain rfl := fl_cont_inr hy6
        exact hfin H locs _ ls hP hD hS dX5_bestAgain_88 rfl
      · replace hp := fl_f hc hp
        refine lv_aload_n hx hb dX5_bestAgain_20 rfl (lv_at hl 0 rfl) ?_
        refine va_get (D := G.1) (ci := 5) (v := .ref fh0) (C := RX5) (T := TX5) (N := 6) hx hb hts iX5 hown hK.1 hP 0 rfl rfl 3 (by decide) (hts (.fieldLink RX5 28 "SongChoir" "fresh" "LSongChoir$Line;") (List.mem_of_getElem? (i := 4) rfl)) (fun _ h9 => h9) rfl dX5_bestAgain_21 ?_
        refine lv_aload_n hx hb dX5_bestAgain_24 rfl (lv_at hl 0 rfl) ?_
        refine va_get (D := G.1) (ci := 5) (v := .ref pnh) (C := RX5) (T := TX5) (N := 6) hx hb hts iX5 hown hK.1 hP 0 rfl rfl 1 (by decide) (hts (.fieldLink RX5 21 "SongChoir" "present" "LSongChoir$Choir;") (List.mem_of_getElem? (i := 1) rfl)) (fun _ h9 => h9) rfl dX5_bestAgain_25 ?_
        refine va_get (D := G.1) (ci := 0) (v := .ref pns0) (C := RX0) (T := TX0) (N := 4) hx hb hts iX0 hown hK.1 hP 1 rfl rfl 0 (by decide) (hts (.fieldLink RX5 74 "SongChoir$Choir" "song" "LSongChoir$Song;") (List.mem_of_getElem? (i := 2) rfl)) (fun _ h9 => h9) rfl dX5_bestAgain_28 ?_
        refine lv_iload_n hx hb dX5_bestAgain_31 rfl (lv_at hl 3 rfl) ?_
        obtain ⟨q1, hq1, hp⟩ := fl_bd_of hp
        refine fl_muV (As := [.ref pns0, .int z6.2.2.1]) (rest := []) [(sc, .inr (5, [.ref tx0, .ref pnh, .ref tlh, .ref fh0, .ref hi, .ref sl])), (pnh, .inr (0, [.ref pns0, .ref pno0, .ref pnk, .ref pnb])), (pns0, .inr (4, [.ref pns1, .ref pns2, .int pn.1.2.2.1, .int pn.1.2.2.2.1, .int pn.1.2.2.2.2.1, .int pn.1.2.2.2.2.2.1, .int pn.1.2.2.2.2.2.2.1, .int pn.1.2.2.2.2.2.2.2])), (pns1, .inl (G.2.1, 48, .inl pn.1.1)), (pns2, .inl (G.2.1, 48, .inl pn.1.2.1)), (pno0, .inr (3, [.int pn.2.1.1, .ref pno1, .ref pno2, .ref pno3, .ref pno4, .ref pno5])), (pno1, .inl (G.2.1, 48, .inl pn.2.1.2.1)), (pno2, .inl (G.2.1, 48, .inl pn.2.1.2.2.1)), (pno3, .inl (G.2.1, 48, .inl pn.2.1.2.2.2.1)), (pno4, .inl (G.2.1, 48, .inl pn.2.1.2.2.2.2.1)), (pno5, .inl (G.2.1, 49, .inl pn.2.1.2.2.2.2.2)), (pnk, .inl (G.2.1, 48, .inl pn.2.2.1)), (pnb, .inl (G.2.1, 48, .inl pn.2.2.2)), (tlh, .inr (0, [.ref tls0, .ref tlo0, .ref tlk, .ref tlb])), (tls0, .inr (4, [.ref tls1, .ref tls2, .int z6.2.2.2.1.1.2.2.1, .int z6.2.2.2.1.1.2.2.2.1, .int z6.2.2.2.1.1.2.2.2.2.1, .int z6.2.2.2.1.1.2.2.2.2.2.1, .int z6.2.2.2.1.1.2.2.2.2.2.2.1, .int z6.2.2.2.1.1.2.2.2.2.2.2.2])), (tls1, .inl (G.2.1, 48, .inl z6.2.2.2.1.1.1)), (tls2, .inl (G.2.1, 48, .inl z6.2.2.2.1.1.2.1)), (tlo0, .inr (3, [.int z6.2.2.2.1.2.1.1, .ref tlo1, .ref tlo2, .ref tlo3, .ref tlo4, .ref tlo5])), (tlo1, .inl (G.2.1, 48, .inl z6.2.2.2.1.2.1.2.1)), (tlo2, .inl (G.2.1, 48, .inl z6.2.2.2.1.2.1.2.2.1)), (tlo3, .inl (G.2.1, 48, .inl z6.2.2.2.1.2.1.2.2.2.1)), (tlo4, .inl (G.2.1, 48, .inl z6.2.2.2.1.2.1.2.2.2.2.1)), (tlo5, .inl (G.2.1, 49, .inl z6.2.2.2.1.2.1.2.2.2.2.2)), (tlk, .inl (G.2.1, 48, .inl z6.2.2.2.1.2.2.1)), (tlb, .inl (G.2.1, 48, .inl z6.2.2.2.1.2.2.2)), (fh0, .inr (2, [.ref fh1, .int q1.2])), (fh1, .inl (G.2.1, 12, .inl q1.1))] C0 (c_Ln_takeVerse l G 12 fh0 fh1 pns0 pns1 pns2 z6.2.2.2.2 pn.1 z6.2.2.1 hq1) (cwV 2 hts gX5_bestAgain_X2_takeVerse rfl rfl rfl (by decide +kernel) ⟨Nat.le_of_ble_eq_true rfl, Nat.le_of_ble_eq_true rfl⟩) hK hP hD [25, 26, 2, 3, 4] [0, 1, 5, 6, 7, 8, 9, 10, 11, 12, 13, 14, 15, 16, 17, 18, 19, 20, 21, 22, 23, 24] [0, 1, 24, 25, 26, 2, 3, 4, 5, 6, 7, 8, 9, 10, 11, 12, 13, 14, 15, 16, 17, 18, 19, 20, 21, 22, 23] rfl rfl (by decide) (by decide) rfl 25 2 rfl rfl rfl hS hA rfl hl.1 rfl (Nat.le_of_ble_eq_true rfl) dX5_bestAgain_32 ⟨Nat.zero_le _, Nat.zero_le _⟩ (fun H locs hP hD hS => ?_)
        refine lv_aload_n hx hb dX5_bestAgain_35 rfl (lv_at hl 0 rfl) ?_
        refine va_get (D := G.1) (ci := 5) (v := .ref tlh) (C := RX5) (T := TX5) (N := 6) hx hb hts iX5 hown hK.1 hP 0 rfl rfl 2 (by decide) (hts (.fieldLink RX5 25 "SongChoir" "trial" "LSongChoir$Choir;") (List.mem_of_getElem? (i := 5) rfl)) (fun _ h9 => h9) rfl dX5_bestAgain_36 ?_
        refine lv_aload_n hx hb dX5_bestAgain_39 rfl (lv_at hl 0 rfl) ?_
        refine va_get (D := G.1) (ci := 5) (v := .ref pnh) (C := RX5) (T := TX5) (N := 6) hx hb hts iX5 hown hK.1 hP 0 rfl rfl 1 (by decide) (hts (.fieldLink RX5 21 "SongChoir" "present" "LSongChoir$Choir;") (List.mem_of_getElem? (i := 1) rfl)) (fun _ h9 => h9) rfl dX5_bestAgain_40 ?_
        obtain ⟨q2, hq2, hp⟩ := fl_bd_of hp
        refine fl_muV (As := [.ref pnh]) (rest := []) [(sc, .inr (5, [.ref tx0, .ref pnh, .ref tlh, .ref fh0, .ref hi, .ref sl])), (pnh, .inr (0, [.ref pns0, .ref pno0, .ref pnk, .ref pnb])), (pns0, .inr (4, [.ref pns1, .ref pns2, .int pn.1.2.2.1, .int pn.1.2.2.2.1, .int pn.1.2.2.2.2.1, .int pn.1.2.2.2.2.2.1, .int pn.1.2.2.2.2.2.2.1, .int pn.1.2.2.2.2.2.2.2])), (pns1, .inl (G.2.1, 48, .inl pn.1.1)), (pns2, .inl (G.2.1, 48, .inl pn.1.2.1)), (pno0, .inr (3, [.int pn.2.1.1, .ref pno1, .ref pno2, .ref pno3, .ref pno4, .ref pno5])), (pno1, .inl (G.2.1, 48, .inl pn.2.1.2.1)), (pno2, .inl (G.2.1, 48, .inl pn.2.1.2.2.1)), (pno3, .inl (G.2.1, 48, .inl pn.2.1.2.2.2.1)), (pno4, .inl (G.2.1, 48, .inl pn.2.1.2.2.2.2.1)), (pno5, .inl (G.2.1, 49, .inl pn.2.1.2.2.2.2.2)), (pnk, .inl (G.2.1, 48, .inl pn.2.2.1)), (pnb, .inl (G.2.1, 48, .inl pn.2.2.2)), (tlh, .inr (0, [.ref tls0, .ref tlo0, .ref tlk, .ref tlb])), (tls0, .inr (4, [.ref tls1, .ref tls2, .int q2.1.2.2.1, .int q2.1.2.2.2.1, .int q2.1.2.2.2.2.1, .int q2.1.2.2.2.2.2.1, .int q2.1.2.2.2.2.2.2.1, .int q2.1.2.2.2.2.2.2.2])), (tls1, .inl (G.2.1, 48, .inl q2.1.1)), (tls2, .inl (G.2.1, 48, .inl q2.1.2.1)), (tlo0, .inr (3, [.int q2.2.1.1, .ref tlo1, .ref tlo2, .ref tlo3, .ref tlo4, .ref tlo5])), (tlo1, .inl (G.2.1, 48, .inl q2.2.1.2.1)), (tlo2, .inl (G.2.1, 48, .inl q2.2.1.2.2.1)), (tlo3, .inl (G.2.1, 48, .inl q2.2.1.2.2.2.1)), (tlo4, .inl (G.2.1, 48, .inl q2.2.1.2.2.2.2.1)), (tlo5, .inl (G.2.1, 49, .inl q2.2.1.2.2.2.2.2)), (tlk, .inl (G.2.1, 48, .inl q2.2.2.1)), (tlb, .inl (G.2.1, 48, .inl q2.2.2.2)), (fh0, .inr (2, [.ref fh1, .int q1.2])), (fh1, .inl (G.2.1, 12, .inl q1.1))] C0 (c_Ch_becomeChoir l G tlh tls0 tls1 tls2 tlo0 tlo1 tlo2 tlo3 tlo4 tlo5 tlk tlb pnh pns0 pns1 pns2 pno0 pno1 pno2 pno3 pno4 pno5 pnk pnb z6.2.2.2.1 pn hq2) (cwV 1 hts gX5_bestAgain_X0_becomeChoir rfl rfl rfl (by decide +kernel) ⟨Nat.le_of_ble_eq_true rfl, Nat.le_of_ble_eq_true rfl⟩) hK hP hD [13, 14, 15, 16, 17, 18, 19, 20, 21, 22, 23, 24, 1, 2, 3, 4, 5, 6, 7, 8, 9, 10, 11, 12] [0, 25, 26] [0, 15, 16, 17, 18, 19, 20, 21, 22, 23, 24, 25, 26, 3, 4, 5, 6, 7, 8, 9, 10, 11, 12, 13, 14, 1, 2] rfl rfl (by decide) (by decide) rfl 13 0 rfl rfl rfl hS hA rfl hl.1 rfl (Nat.le_of_ble_eq_true rfl) dX5_bestAgain_43 ⟨Nat.zero_le _, Nat.zero_le _⟩ (fun H locs hP hD hS => ?_)
        refine lv_aload_n hx hb dX5_bestAgain_46 rfl (lv_at hl 0 rfl) ?_
        refine va_get (D := G.1) (ci := 5) (v := .ref tlh) (C := RX5) (T := TX5) (N := 6) hx hb hts iX5 hown hK.1 hP 0 rfl rfl 2 (by decide) (hts (.fieldLink RX5 25 "SongChoir" "trial" "LSongChoir$Choir;") (List.mem_of_getElem? (i := 5) rfl)) (fun _ h9 => h9) rfl dX5_bestAgain_47 ?_
        refine lv_aload_n hx hb dX5_bestAgain_50 rfl (lv_at hl 0 rfl) ?_
        refine va_get (D := G.1) (ci := 5) (v := .ref fh0) (C := RX5) (T := TX5) (N := 6) hx hb hts iX5 hown hK.1 hP 0 rfl rfl 3 (by decide) (hts (.fieldLink RX5 28 "SongChoir" "fresh" "LSongChoir$Line;") (List.mem_of_getElem? (i := 4) rfl)) (fun _ h9 => h9) rfl dX5_bestAgain_51 ?_
        obtain ⟨q3, hq3, hp⟩ := fl_bd_of hp
        refine fl_muV (As := [.ref fh0]) (rest := []) [(sc, .inr (5, [.ref tx0, .ref pnh, .ref tlh, .ref fh0, .ref hi, .ref sl])), (pnh, .inr (0, [.ref pns0, .ref pno0, .ref pnk, .ref pnb])), (pns0, .inr (4, [.ref pns1, .ref pns2, .int pn.1.2.2.1, .int pn.1.2.2.2.1, .int pn.1.2.2.2.2.1, .int pn.1.2.2.2.2.2.1, .int pn.1.2.2.2.2.2.2.1, .int pn.1.2.2.2.2.2.2.2])), (pns1, .inl (G.2.1, 48, .inl pn.1.1)), (pns2, .inl (G.2.1, 48, .inl pn.1.2.1)), (pno0, .inr (3, [.int pn.2.1.1, .ref pno1, .ref pno2, .ref pno3, .ref pno4, .ref pno5])), (pno1, .inl (G.2.1, 48, .inl pn.2.1.2.1)), (pno2, .inl (G.2.1, 48, .inl pn.2.1.2.2.1)), (pno3, .inl (G.2.1, 48, .inl pn.2.1.2.2.2.1)), (pno4, .inl (G.2.1, 48, .inl pn.2.1.2.2.2.2.1)), (pno5, .inl (G.2.1, 49, .inl pn.2.1.2.2.2.2.2)), (pnk, .inl (G.2.1, 48, .inl pn.2.2.1)), (pnb, .inl (G.2.1, 48, .inl pn.2.2.2)), (tlh, .inr (0, [.ref tls0, .ref tlo0, .ref tlk, .ref tlb])), (tls0, .inr (4, [.ref tls1, .ref tls2, .int q3.2.1.2.2.1, .int q3.2.1.2.2.2.1, .int q3.2.1.2.2.2.2.1, .int q3.2.1.2.2.2.2.2.1, .int q3.2.1.2.2.2.2.2.2.1, .int q3.2.1.2.2.2.2.2.2.2])), (tls1, .inl (G.2.1, 48, .inl q3.2.1.1)), (tls2, .inl (G.2.1, 48, .inl q3.2.1.2.1)), (tlo0, .inr (3, [.int q3.2.2.1.1, .ref tlo1, .ref tlo2, .ref tlo3, .ref tlo4, .ref tlo5])), (tlo1, .inl (G.2.1, 48, .inl q3.2.2.1.2.1)), (tlo2, .inl (G.2.1, 48, .inl q3.2.2.1.2.2.1)), (tlo3, .inl (G.2.1, 48, .inl q3.2.2.1.2.2.2.1)), (tlo4, .inl (G.2.1, 48, .inl q3.2.2.1.2.2.2.2.1)), (tlo5, .inl (G.2.1, 49, .inl q3.2.2.1.2.2.2.2.2)), (tlk, .inl (G.2.1, 48, .inl q3.2.2.2.1)), (tlb, .inl (G.2.1, 48, .inl q3.2.2.2.2)), (fh0, .inr (2, [.ref fh1, .int q1.2])), (fh1, .inl (G.2.1, 12, .inl q1.1))] C0 (c_Ch_addVerse l G 12 tlh tls0 tls1 tls2 tlo0 tlo1 tlo2 tlo3 tlo4 tlo5 tlk tlb fh0 fh1 q2 q1 hq3) (cwV 1 hts gX5_bestAgain_X0_addVerse rfl rfl rfl (by decide +kernel) ⟨Nat.le_of_ble_eq_true rfl, Nat.le_of_ble_eq_true rfl⟩) hK hP hD [13, 14, 15, 16, 17, 18, 19, 20, 21, 22, 23, 24, 25, 26] [0, 1, 2, 3, 4, 5, 6, 7, 8, 9, 10, 11, 12] [0, 1, 2, 3, 4, 5, 6, 7, 8, 9, 10, 11, 12, 13, 14, 15, 16, 17, 18, 19, 20, 21, 22, 23, 24, 25, 26] rfl rfl (by decide) (by decide) rfl 13 0 rfl rfl rfl hS hA rfl hl.1 rfl (Nat.le_of_ble_eq_true rfl) dX5_bestAgain_54 ⟨Nat.zero_le _, Nat.zero_le _⟩ (fun H locs hP hD hS => ?_)
        refine lv_pop hx hb dX5_bestAgain_57 rfl ?_
        refine lv_aload_n hx hb dX5_bestAgain_58 rfl (lv_at hl 0 rfl) ?_
        refine va_get (D := G.1) (ci := 5) (v := .ref tlh) (C := RX5) (T := TX5) (N := 6) hx hb hts iX5 hown hK.1 hP 0 rfl rfl 2 (by decide) (hts (.fieldLink RX5 25 "SongChoir" "trial" "LSongChoir$Choir;") (List.mem_of_getElem? (i := 5) rfl)) (fun _ h9 => h9) rfl dX5_bestAgain_59 ?_
        refine va_get (D := G.1) (ci := 0) (v := .ref tlo0) (C := RX0) (T := TX0) (N := 4) hx hb hts iX0 hown hK.1 hP 13 rfl rfl 1 (by decide) (hts (.fieldLink RX5 90 "SongChoir$Choir" "order" "LSongChoir$Order;") (List.mem_of_getElem? (i := 6) rfl)) (fun _ h9 => h9) rfl dX5_bestAgain_62 ?_
        obtain ⟨q4, hq4, hp⟩ := fl_bd_of hp
        refine fl_roV (As := []) (rest := []) C0 (c_Or_pieces l G tlo0 tlo1 tlo2 tlo3 tlo4 tlo5 q3.2.2.1 hq4) (cwV 0 hts gX5_bestAgain_X3_pieces rfl rfl rfl (by decide +kernel) ⟨Nat.le_of_ble_eq_true rfl, Nat.le_of_ble_eq_true rfl⟩) hK hP [17, 18, 19, 20, 21, 22] rfl 17 3 rfl rfl rfl hS hA rfl hl.1 rfl (Nat.le_of_ble_eq_true rfl) dX5_bestAgain_65 ⟨Nat.zero_le _, Nat.zero_le _⟩ (fun H locs hP hS => ?_)
        refine lv_istore (lv' := [(4, .int q4), (0, .ref sc), (1, .int z6.1), (2, .int z6.2.1), (3, .int z6.2.2.1)]) hx hb dX5_bestAgain_68 hl (by decide) rfl (fun ls hl => ?_)
        refine lv_iload hx hb dX5_bestAgain_70 (lv_at hl 0 rfl) ?_
        refine lv_iload_n hx hb dX5_bestAgain_72 rfl (lv_at hl 3 rfl) ?_
        refine lv_icmp_le (tgt := 81) hx hb dX5_bestAgain_73 (by decide) (fun hc => ?_) (fun hc => ?_)
        · replace hp := fl_t hc hp
          exact KJ81 q3.2 q1 z6.1 z6.2.1 z6.2.2.1 H locs hP hD hS ls (lv_sub hl [1, 2, 3, 4] rfl) hp
        · replace hp := fl_f hc hp
          refine lv_iload hx hb dX5_bestAgain_76 (lv_at hl 0 rfl) ?_
          refine lv_istore_n (lv' := [(2, .int q4), (4, .int q4), (0, .ref sc), (1, .int z6.1), (3, .int z6.2.2.1)]) hx hb dX5_bestAgain_78 rfl hl (by decide) rfl (fun ls hl => ?_)
          refine lv_iload_n hx hb dX5_bestAgain_79 rfl (lv_at hl 4 rfl) ?_
          refine lv_istore_n (lv' := [(1, .int z6.2.2.1), (2, .int q4), (4, .int q4), (0, .ref sc), (3, .int z6.2.2.1)]) hx hb dX5_bestAgain_80 rfl hl (by decide) rfl (fun ls hl => ?_)
          exact KJ81 q3.2 q1 z6.2.2.1 q4 z6.2.2.1 H locs hP hD hS ls (lv_sub hl [3, 0, 1, 4] rfl) hp
  have hp := hp0
  unfold P_SC_bestAgain at hp
  refine lv_iconst (v := (-1 : Int32)) hx hb dX5_bestAgain_0 (by decide) ?_
  refine lv_istore_n (lv' := [(1, .int (-1 : Int32)), (0, .ref sc)]) hx hb dX5_bestAgain_1 rfl hl (by decide) rfl (fun ls hl => ?_)
  refine lv_iconst (v := (0 : Int32)) hx hb dX5_bestAgain_2 (by decide) ?_
  refine lv_istore_n (lv' := [(2, .int (0 : Int32)), (1, .int (-1 : Int32)), (0, .ref sc)]) hx hb dX5_bestAgain_3 rfl hl (by decide) rfl (fun ls hl => ?_)
  refine lv_iconst (v := (0 : Int32)) hx hb dX5_bestAgain_4 (by decide) ?_
  refine lv_istore_n (lv' := [(3, .int (0 : Int32)), (2, .int (0 : Int32)), (1, .int (-1 : Int32)), (0, .ref sc)]) hx hb dX5_bestAgain_5 rfl hl (by decide) rfl (fun ls hl => ?_)
  obtain ⟨n0, hn⟩ := fl_loop_ex hp
  exact KL6 n0 ((-1 : Int32), (0 : Int32), (0 : Int32), tl, fh) H locs hP hD hS ls (lv_sub hl [3, 2, 1, 0] rfl) hn

noncomputable def P_SC_groupsFrom_L5 (p1 : Int32) (z5 : (Int64 × Int32)) : Option ((Int64 × Int32) ⊕ Int64) := if p1 ≤ z5.2 then some (.inr z5.1) else some (.inl ((z5.1 / (100000 : Int64)), (z5.2 + (1 : Int32))))
noncomputable def P_SC_groupsFrom (p0 : Int64) (p1 : Int32) : Option Int64 := fl_loop (P_SC_groupsFrom_L5 p1) (p0, (0 : Int32))
set_option maxHeartbeats 4000000 in
set_option maxRecDepth 100000 in
theorem c_SC_groupsFrom (l : Launch) (G : fl_G) (p0 : Int64) (p1 : Int32) {r : Int64} (hp0 : P_SC_groupsFrom p0 p1 = some r) : fl_ro l yX5_groupsFrom wsX5_groupsFrom 0 0 G [.long p0, .int p1] [] (.long r) := by
  refine fl_rol_in cX5_groupsFrom 6 RX5 (by decide) rfl rfl (Nat.le_of_ble_eq_true rfl) ?_
  intro p e s m args below meth c ls Q H locs C0 hK hP hS hl hfin
  have hA : ∀ q : Nat, s.heap.size ≤ q → va_A [] s.heap.size q := fl_hA _ _
  obtain ⟨hx, hb, hml, hown, hts⟩ := id C0
  have hl : lv_has ls 6 [(0, .long p0), (2, .int p1)] := hl
  have KL5 : ∀ (n0 : Nat) (z5 : (Int64 × Int32)) (H : Heap) (locs : List Loc), va_P G.1 vwCl [] H → va_S (va_A [] s.heap.size) s.heap H locs → ∀ (ls : Array Slot), lv_has ls 6 [(2, .int p1), (3, .long z5.1), (5, .int z5.2)] → fl_loopN (P_SC_groupsFrom_L5 p1) n0 z5 = some r → W p l e (fl_rm 0 0) s m args below meth c H locs 0 0 Q (F0 m 5 ls []) := by
    intro n0
    induction n0 with
    | zero => intro z5 H locs hP hS ls hl hn; exact (fl_loopN_0 hn).elim
    | succ n0 ih5 =>
      intro z5 H locs hP hS ls hl hn
      obtain ⟨y5, hb5, hy5⟩ := fl_loopN_step hn
      clear hn
      have hp := hb5
      unfold P_SC_groupsFrom_L5 at hp
      refine lv_iload hx hb dX5_groupsFrom_5 (lv_at hl 2 rfl) ?_
      refine lv_iload_n hx hb dX5_groupsFrom_7 rfl (lv_at hl 0 rfl) ?_
      refine lv_icmp_ge (tgt := 23) hx hb dX5_groupsFrom_8 (by decide) (fun hc => ?_) (fun hc => ?_)
      · replace hp := fl_t hc hp
        refine lv_lload_n hx hb dX5_groupsFrom_23 rfl (lv_at hl 1 rfl) ?_
        obtain rfl := Option.some.inj hp
        obtain rfl := fl_cont_inr hy5
        exact hfin H locs _ ls hS dX5_groupsFrom_24
      · replace hp := fl_f hc hp
        refine lv_lload_n hx hb dX5_groupsFrom_11 rfl (lv_at hl 1 rfl) ?_
        refine lv_ldc2 (v := (100000 : Int64)) hx hb hown (hts (.constantLong RX5 252 (100000)) (List.mem_of_getElem? (i := 1) rfl)) dX5_groupsFrom_12 ?_
        refine lv_ldiv hx hb dX5_groupsFrom_15 (by decide) ?_
        refine lv_lstore_n (lv' := [(3, .long (z5.1 / (100000 : Int64))), (2, .int p1), (5, .int z5.2)]) hx hb dX5_groupsFrom_16 rfl hl (by decide) rfl (fun ls hl => ?_)
        refine lv_iinc (v := (z5.2 + (1 : Int32))) (lv' := [(5, .int (z5.2 + (1 : Int32))), (3, .long (z5.1 / (100000 : Int64))), (2, .int p1)]) hx hb dX5_groupsFrom_17 hl (k := 2) rfl rfl (by decide) rfl (fun ls hl => ?_)
        refine lv_goto (tgt := 5) hx hb dX5_groupsFrom_20 (by decide) ?_
        obtain rfl := Option.some.inj hp
        exact ih5 ((z5.1 / (100000 : Int64)), (z5.2 + (1 : Int32))) H locs hP hS ls (lv_sub hl [2, 1, 0] rfl) (fl_cont_inl hy5)
  have hp := hp0
  unfold P_SC_groupsFrom at hp
  refine lv_lload_n hx hb dX5_groupsFrom_0 rfl (lv_at hl 0 rfl) ?_
  refine lv_lstore_n (lv' := [(3, .long p0), (0, .long p0), (2, .int p1)]) hx hb dX5_groupsFrom_1 rfl hl (by decide) rfl (fun ls hl => ?_)
  refine lv_iconst (v := (0 : Int32)) hx hb dX5_groupsFrom_2 (by decide) ?_
  refine lv_istore (lv' := [(5, .int (0 : Int32)), (3, .long p0), (0, .long p0), (2, .int p1)]) hx hb dX5_groupsFrom_3 hl (by decide) rfl (fun ls hl => ?_)
  obtain ⟨n0, hn⟩ := fl_loop_ex hp
  exact KL5 n0 (p0, (0 : Int32)) H locs hP hS ls (lv_sub hl [3, 1, 0] rfl) hn

noncomputable def P_SC_isSungOften (tl : fl_Ch) (p0 : Int32) (p1 : Int32) : Option Int32 := if p0 < (1 : Int32) then some (0 : Int32) else if (12 : Int32) < p0 then some (0 : Int32) else fl_bd (P_Or_mostSung tl.2.1 p0 (1 : Int32)) (fun q1 => if q1 < p1 then some (0 : Int32) else some (1 : Int32))
set_option maxHeartbeats 4000000 in
set_option maxRecDepth 100000 in
theorem c_SC_isSungOften (l : Launch) (G : fl_G) (sc tx0 pn0 tlh tls0 tls1 tls2 tlo0 tlo1 tlo2 tlo3 tlo4 tlo5 tlk tlb fh0 hi sl : Nat) (tl : fl_Ch) (p0 : Int32) (p1 : Int32) {r : Int32} (hp0 : P_SC_isSungOften tl p0 p1 = some r) : fl_ro l yX5_isSungOften wsX5_isSungOften 3 71 G [.ref sc, .int p0, .int p1] [(sc, .inr (5, [.ref tx0, .ref pn0, .ref tlh, .ref fh0, .ref hi, .ref sl])), (tlh, .inr (0, [.ref tls0, .ref tlo0, .ref tlk, .ref tlb])), (tls0, .inr (4, [.ref tls1, .ref tls2, .int tl.1.2.2.1, .int tl.1.2.2.2.1, .int tl.1.2.2.2.2.1, .int tl.1.2.2.2.2.2.1, .int tl.1.2.2.2.2.2.2.1, .int tl.1.2.2.2.2.2.2.2])), (tls1, .inl (G.2.1, 48, .inl tl.1.1)), (tls2, .inl (G.2.1, 48, .inl tl.1.2.1)), (tlo0, .inr (3, [.int tl.2.1.1, .ref tlo1, .ref tlo2, .ref tlo3, .ref tlo4, .ref tlo5])), (tlo1, .inl (G.2.1, 48, .inl tl.2.1.2.1)), (tlo2, .inl (G.2.1, 48, .inl tl.2.1.2.2.1)), (tlo3, .inl (G.2.1, 48, .inl tl.2.1.2.2.2.1)), (tlo4, .inl (G.2.1, 48, .inl tl.2.1.2.2.2.2.1)), (tlo5, .inl (G.2.1, 49, .inl tl.2.1.2.2.2.2.2)), (tlk, .inl (G.2.1, 48, .inl tl.2.2.1)), (tlb, .inl (G.2.1, 48, .inl tl.2.2.2))] (.int r) := by
  refine fl_ro_in cX5_isSungOften 3 .boolean RX5 (by decide) rfl rfl (Nat.le_of_ble_eq_true rfl) ?_
  intro p e s m args below meth c ls Q H locs C0 hK hP hS hl hfin
  have hA : ∀ q : Nat, s.heap.size ≤ q → va_A [] s.heap.size q := fl_hA _ _
  obtain ⟨hx, hb, hml, hown, hts⟩ := id C0
  have iX0 : ∀ w ∈ u_ws RX0 TX0 4, w ∈ wsX5_isSungOften := fun _ h => List.mem_cons_of_mem _ (List.mem_append_left _ (List.mem_append_right _ h))
  have iX5 : ∀ w ∈ u_ws RX5 TX5 6, w ∈ wsX5_isSungOften := fun _ h => List.mem_cons_of_mem _ (List.mem_append_left _ (List.mem_append_left _ (List.mem_append_right _ h)))
  have hl : lv_has ls 3 [(0, .ref sc), (1, .int p0), (2, .int p1)] := hl
  have hp := hp0
  unfold P_SC_isSungOften at hp
  refine lv_iload_n hx hb dX5_isSungOften_0 rfl (lv_at hl 1 rfl) ?_
  refine lv_iconst (v := (1 : Int32)) hx hb dX5_isSungOften_1 (by decide) ?_
  refine lv_icmp_lt (tgt := 31) hx hb dX5_isSungOften_2 (by decide) (fun hc => ?_) (fun hc => ?_)
  · replace hp := fl_t hc hp
    refine lv_iconst (v := (0 : Int32)) hx hb dX5_isSungOften_31 (by decide) ?_
    obtain rfl := Option.some.inj hp
    exact hfin H locs _ ls hS dX5_isSungOften_32 (show narrow .boolean (.int (0 : Int32)) = .int (0 : Int32) from rfl)
  · replace hp := fl_f hc hp
    refine lv_iload_n hx hb dX5_isSungOften_5 rfl (lv_at hl 1 rfl) ?_
    refine lv_bipush (v := (12 : Int32)) hx hb dX5_isSungOften_6 (by decide) ?_
    refine lv_icmp_gt (tgt := 31) hx hb dX5_isSungOften_8 (by decide) (fun hc => ?_) (fun hc => ?_)
    · replace hp := fl_t hc hp
      refine lv_iconst (v := (0 : Int32)) hx hb dX5_isSungOften_31 (by decide) ?_
      obtain rfl := Option.some.inj hp
      exact hfin H locs _ ls hS dX5_isSungOften_32 (show narrow .boolean (.int (0 : Int32)) = .int (0 : Int32) from rfl)
    · replace hp := fl_f hc hp
      refine lv_aload_n hx hb dX5_isSungOften_11 rfl (lv_at hl 0 rfl) ?_
      refine va_get (D := G.1) (ci := 5) (v := .ref tlh) (C := RX5) (T := TX5) (N := 6) hx hb hts iX5 hown hK.1 hP 0 rfl rfl 2 (by decide) (hts (.fieldLink RX5 25 "SongChoir" "trial" "LSongChoir$Choir;") (List.mem_of_getElem? (i := 1) rfl)) (fun _ h9 => h9) rfl dX5_isSungOften_12 ?_
      refine va_get (D := G.1) (ci := 0) (v := .ref tlo0) (C := RX0) (T := TX0) (N := 4) hx hb hts iX0 hown hK.1 hP 1 rfl rfl 1 (by decide) (hts (.fieldLink RX5 90 "SongChoir$Choir" "order" "LSongChoir$Order;") (List.mem_of_getElem? (i := 2) rfl)) (fun _ h9 => h9) rfl dX5_isSungOften_15 ?_
      refine lv_iload_n hx hb dX5_isSungOften_18 rfl (lv_at hl 1 rfl) ?_
      refine lv_iconst (v := (1 : Int32)) hx hb dX5_isSungOften_19 (by decide) ?_
      obtain ⟨q1, hq1, hp⟩ := fl_bd_of hp
      refine fl_roV (As := [.int p0, .int (1 : Int32)]) (rest := []) C0 (c_Or_mostSung l G tlo0 tlo1 tlo2 tlo3 tlo4 tlo5 tl.2.1 p0 (1 : Int32) hq1) (cwV 2 hts gX5_isSungOften_X3_mostSung rfl rfl rfl (by decide +kernel) ⟨Nat.le_of_ble_eq_true rfl, Nat.le_of_ble_eq_true rfl⟩) hK hP [5, 6, 7, 8, 9, 10] rfl 5 3 rfl rfl rfl hS hA rfl hl.1 rfl (Nat.le_of_ble_eq_true rfl) dX5_isSungOften_20 ⟨Nat.zero_le _, Nat.zero_le _⟩ (fun H locs hP hS => ?_)
      refine lv_iload_n hx hb dX5_isSungOften_23 rfl (lv_at hl 2 rfl) ?_
      refine lv_icmp_lt (tgt := 31) hx hb dX5_isSungOften_24 (by decide) (fun hc => ?_) (fun hc => ?_)
      · replace hp := fl_t hc hp
        refine lv_iconst (v := (0 : Int32)) hx hb dX5_isSungOften_31 (by decide) ?_
        obtain rfl := Option.some.inj hp
        exact hfin H locs _ ls hS dX5_isSungOften_32 (show narrow .boolean (.int (0 : Int32)) = .int (0 : Int32) from rfl)
      · replace hp := fl_f hc hp
        refine lv_iconst (v := (1 : Int32)) hx hb dX5_isSungOften_27 (by decide) ?_
        refine lv_goto (tgt := 32) hx hb dX5_isSungOften_28 (by decide) ?_
        obtain rfl := Option.some.inj hp
        exact hfin H locs _ ls hS dX5_isSungOften_32 (show narrow .boolean (.int (1 : Int32)) = .int (1 : Int32) from rfl)

noncomputable def P_SC_tryVerse (tl : fl_Ch) (fh : fl_Ln) (p0 : Int32) : Option (Int32 × fl_Ch × fl_Ln) := fl_bd (P_Sg_hasVerse tl.1 p0) (fun q1 => if q1 = 0 then some ((0 : Int32), tl, fh) else fl_bd (P_Ln_takeVerse 12 fh tl.1 p0) (fun q2 => fl_bd (P_Ch_addVerse 12 tl q2) (fun q3 => some ((1 : Int32), q3.2, q2))))
set_option maxHeartbeats 4000000 in
set_option maxRecDepth 100000 in
theorem c_SC_tryVerse (l : Launch) (G : fl_G) (sc tx0 pn0 tlh tls0 tls1 tls2 tlo0 tlo1 tlo2 tlo3 tlo4 tlo5 tlk tlb fh0 fh1 hi sl : Nat) (tl : fl_Ch) (fh : fl_Ln) (p0 : Int32) {r : (Int32 × fl_Ch × fl_Ln)} (hp0 : P_SC_tryVerse tl fh p0 = some r) : fl_mu l yX5_tryVerse wsX5_tryVerse 4 94 G [.ref sc, .int p0] [(sc, .inr (5, [.ref tx0, .ref pn0, .ref tlh, .ref fh0, .ref hi, .ref sl])), (tlh, .inr (0, [.ref tls0, .ref tlo0, .ref tlk, .ref tlb])), (tls0, .inr (4, [.ref tls1, .ref tls2, .int tl.1.2.2.1, .int tl.1.2.2.2.1, .int tl.1.2.2.2.2.1, .int tl.1.2.2.2.2.2.1, .int tl.1.2.2.2.2.2.2.1, .int tl.1.2.2.2.2.2.2.2])), (tls1, .inl (G.2.1, 48, .inl tl.1.1)), (tls2, .inl (G.2.1, 48, .inl tl.1.2.1)), (tlo0, .inr (3, [.int tl.2.1.1, .ref tlo1, .ref tlo2, .ref tlo3, .ref tlo4, .ref tlo5])), (tlo1, .inl (G.2.1, 48, .inl tl.2.1.2.1)), (tlo2, .inl (G.2.1, 48, .inl tl.2.1.2.2.1)), (tlo3, .inl (G.2.1, 48, .inl tl.2.1.2.2.2.1)), (tlo4, .inl (G.2.1, 48, .inl tl.2.1.2.2.2.2.1)), (tlo5, .inl (G.2.1, 49, .inl tl.2.1.2.2.2.2.2)), (tlk, .inl (G.2.1, 48, .inl tl.2.2.1)), (tlb, .inl (G.2.1, 48, .inl tl.2.2.2)), (fh0, .inr (2, [.ref fh1, .int fh.2])), (fh1, .inl (G.2.1, 12, .inl fh.1))] (some (.int r.1)) [(sc, .inr (5, [.ref tx0, .ref pn0, .ref tlh, .ref fh0, .ref hi, .ref sl])), (tlh, .inr (0, [.ref tls0, .ref tlo0, .ref tlk, .ref tlb])), (tls0, .inr (4, [.ref tls1, .ref tls2, .int r.2.1.1.2.2.1, .int r.2.1.1.2.2.2.1, .int r.2.1.1.2.2.2.2.1, .int r.2.1.1.2.2.2.2.2.1, .int r.2.1.1.2.2.2.2.2.2.1, .int r.2.1.1.2.2.2.2.2.2.2])), (tls1, .inl (G.2.1, 48, .inl r.2.1.1.1)), (tls2, .inl (G.2.1, 48, .inl r.2.1.1.2.1)), (tlo0, .inr (3, [.int r.2.1.2.1.1, .ref tlo1, .ref tlo2, .ref tlo3, .ref tlo4, .ref tlo5])), (tlo1, .inl (G.2.1, 48, .inl r.2.1.2.1.2.1)), (tlo2, .inl (G.2.1, 48, .inl r.2.1.2.1.2.2.1)), (tlo3, .inl (G.2.1, 48, .inl r.2.1.2.1.2.2.2.1)), (tlo4, .inl (G.2.1, 48, .inl r.2.1.2.1.2.2.2.2.1)), (tlo5, .inl (G.2.1, 49, .inl r.2.1.2.1.2.2.2.2.2)), (tlk, .inl (G.2.1, 48, .inl r.2.1.2.2.1)), (tlb, .inl (G.2.1, 48, .inl r.2.1.2.2.2)), (fh0, .inr (2, [.ref fh1, .int r.2.2.2])), (fh1, .inl (G.2.1, 12, .inl r.2.2.1))] := by
  refine fl_mui_in cX5_tryVerse 2 .boolean RX5 (by decide) rfl rfl (Nat.le_of_ble_eq_true rfl) ?_
  intro p e s m args below meth c ls A Q H locs C0 hK hP hD hS hA hl hfin
  obtain ⟨hx, hb, hml, hown, hts⟩ := id C0
  have iX0 : ∀ w ∈ u_ws RX0 TX0 4, w ∈ wsX5_tryVerse := fun _ h => List.mem_cons_of_mem _ (List.mem_append_left _ (List.mem_append_left _ (List.mem_append_left _ (List.mem_append_right _ h))))
  have iX5 : ∀ w ∈ u_ws RX5 TX5 6, w ∈ wsX5_tryVerse := fun _ h => List.mem_cons_of_mem _ (List.mem_append_left _ (List.mem_append_left _ (List.mem_append_left _ (List.mem_append_left _ (List.mem_append_right _ h)))))
  have hl : lv_has ls 2 [(0, .ref sc), (1, .int p0)] := hl
  have hp := hp0
  unfold P_SC_tryVerse at hp
  refine lv_aload_n hx hb dX5_tryVerse_0 rfl (lv_at hl 0 rfl) ?_
  refine va_get (D := G.1) (ci := 5) (v := .ref tlh) (C := RX5) (T := TX5) (N := 6) hx hb hts iX5 hown hK.1 hP 0 rfl rfl 2 (by decide) (hts (.fieldLink RX5 25 "SongChoir" "trial" "LSongChoir$Choir;") (List.mem_of_getElem? (i := 1) rfl)) (fun _ h9 => h9) rfl dX5_tryVerse_1 ?_
  refine va_get (D := G.1) (ci := 0) (v := .ref tls0) (C := RX0) (T := TX0) (N := 4) hx hb hts iX0 hown hK.1 hP 1 rfl rfl 0 (by decide) (hts (.fieldLink RX5 74 "SongChoir$Choir" "song" "LSongChoir$Song;") (List.mem_of_getElem? (i := 2) rfl)) (fun _ h9 => h9) rfl dX5_tryVerse_4 ?_
  refine lv_iload_n hx hb dX5_tryVerse_7 rfl (lv_at hl 1 rfl) ?_
  obtain ⟨q1, hq1, hp⟩ := fl_bd_of hp
  refine fl_roV (As := [.int p0]) (rest := []) C0 (c_Sg_hasVerse l G tls0 tls1 tls2 tl.1 p0 hq1) (cwV 1 hts gX5_tryVerse_X4_hasVerse rfl rfl rfl (by decide +kernel) ⟨Nat.le_of_ble_eq_true rfl, Nat.le_of_ble_eq_true rfl⟩) hK hP [2, 3, 4] rfl 2 4 rfl rfl rfl hS hA rfl hl.1 rfl (Nat.le_of_ble_eq_true rfl) dX5_tryVerse_8 ⟨Nat.zero_le _, Nat.zero_le _⟩ (fun H locs hP hS => ?_)
  refine lv_if_ne (tgt := 16) hx hb dX5_tryVerse_11 (by decide) (fun hc => ?_) (fun hc => ?_)
  · replace hp := fl_f hc hp
    refine lv_aload_n hx hb dX5_tryVerse_16 rfl (lv_at hl 0 rfl) ?_
    refine va_get (D := G.1) (ci := 5) (v := .ref fh0) (C := RX5) (T := TX5) (N := 6) hx hb hts iX5 hown hK.1 hP 0 rfl rfl 3 (by decide) (hts (.fieldLink RX5 28 "SongChoir" "fresh" "LSongChoir$Line;") (List.mem_of_getElem? (i := 3) rfl)) (fun _ h9 => h9) rfl dX5_tryVerse_17 ?_
    refine lv_aload_n hx hb dX5_tryVerse_20 rfl (lv_at hl 0 rfl) ?_
    refine va_get (D := G.1) (ci := 5) (v := .ref tlh) (C := RX5) (T := TX5) (N := 6) hx hb hts iX5 hown hK.1 hP 0 rfl rfl 2 (by decide) (hts (.fieldLink RX5 25 "SongChoir" "trial" "LSongChoir$Choir;") (List.mem_of_getElem? (i := 1) rfl)) (fun _ h9 => h9) rfl dX5_tryVerse_21 ?_
    refine va_get (D := G.1) (ci := 0) (v := .ref tls0) (C := RX0) (T := TX0) (N := 4) hx hb hts iX0 hown hK.1 hP 1 rfl rfl 0 (by decide) (hts (.fieldLink RX5 74 "SongChoir$Choir" "song" "LSongChoir$Song;") (List.mem_of_getElem? (i := 2) rfl)) (fun _ h9 => h9) rfl dX5_tryVerse_24 ?_
    refine lv_iload_n hx hb dX5_tryVerse_27 rfl (lv_at hl 1 rfl) ?_
    obtain ⟨q2, hq2, hp⟩ := fl_bd_of hp
    refine fl_muV (As := [.ref tls0, .int p0]) (rest := []) [(sc, .inr (5, [.ref tx0, .ref pn0, .ref tlh, .ref fh0, .ref hi, .ref sl])), (tlh, .inr (0, [.ref tls0, .ref tlo0, .ref tlk, .ref tlb])), (tls0, .inr (4, [.ref tls1, .ref tls2, .int tl.1.2.2.1, .int tl.1.2.2.2.1, .int tl.1.2.2.2.2.1, .int tl.1.2.2.2.2.2.1, .int tl.1.2.2.2.2.2.2.1, .int tl.1.2.2.2.2.2.2.2])), (tls1, .inl (G.2.1, 48, .inl tl.1.1)), (tls2, .inl (G.2.1, 48, .inl tl.1.2.1)), (tlo0, .inr (3, [.int tl.2.1.1, .ref tlo1, .ref tlo2, .ref tlo3, .ref tlo4, .ref tlo5])), (tlo1, .inl (G.2.1, 48, .inl tl.2.1.2.1)), (tlo2, .inl (G.2.1, 48, .inl tl.2.1.2.2.1)), (tlo3, .inl (G.2.1, 48, .inl tl.2.1.2.2.2.1)), (tlo4, .inl (G.2.1, 48, .inl tl.2.1.2.2.2.2.1)), (tlo5, .inl (G.2.1, 49, .inl tl.2.1.2.2.2.2.2)), (tlk, .inl (G.2.1, 48, .inl tl.2.2.1)), (tlb, .inl (G.2.1, 48, .inl tl.2.2.2)), (fh0, .inr (2, [.ref fh1, .int q2.2])), (fh1, .inl (G.2.1, 12, .inl q2.1))] C0 (c_Ln_takeVerse l G 12 fh0 fh1 tls0 tls1 tls2 fh tl.1 p0 hq2) (cwV 2 hts gX5_tryVerse_X2_takeVerse rfl rfl rfl (by decide +kernel) ⟨Nat.le_of_ble_eq_true rfl, Nat.le_of_ble_eq_true rfl⟩) hK hP hD [13, 14, 2, 3, 4] [0, 1, 5, 6, 7, 8, 9, 10, 11, 12] [0, 1, 12, 13, 14, 2, 3, 4, 5, 6, 7, 8, 9, 10, 11] rfl rfl (by decide) (by decide) rfl 13 2 rfl rfl rfl hS hA rfl hl.1 rfl (Nat.le_of_ble_eq_true rfl) dX5_tryVerse_28 ⟨Nat.zero_le _, Nat.zero_le _⟩ (fun H locs hP hD hS => ?_)
    refine lv_aload_n hx hb dX5_tryVerse_31 rfl (lv_at hl 0 rfl) ?_
    refine va_get (D := G.1) (ci := 5) (v := .ref tlh) (C := RX5) (T := TX5) (N := 6) hx hb hts iX5 hown hK.1 hP 0 rfl rfl 2 (by decide) (hts (.fieldLink RX5 25 "SongChoir" "trial" "LSongChoir$Choir;") (List.mem_of_getElem? (i := 1) rfl)) (fun _ h9 => h9) rfl dX5_tryVerse_32 ?_
    refine lv_aload_n hx hb dX5_tryVerse_35 rfl (lv_at hl 0 rfl) ?_
    refine va_get (D := G.1) (ci := 5) (v := .ref fh0) (C := RX5) (T := TX5) (N := 6) hx hb hts iX5 hown hK.1 hP 0 rfl rfl 3 (by decide) (hts (.fieldLink RX5 28 "SongChoir" "fresh" "LSongChoir$Line;") (List.mem_of_getElem? (i := 3) rfl)) (fun _ h9 => h9) rfl dX5_tryVerse_36 ?_
    obtain ⟨q3, hq3, hp⟩ := fl_bd_of hp
    refine fl_muV (As := [.ref fh0]) (rest := []) [(sc, .inr (5, [.ref tx0, .ref pn0, .ref tlh, .ref fh0, .ref hi, .ref sl])), (tlh, .inr (0, [.ref tls0, .ref tlo0, .ref tlk, .ref tlb])), (tls0, .inr (4, [.ref tls1, .ref tls2, .int q3.2.1.2.2.1, .int q3.2.1.2.2.2.1, .int q3.2.1.2.2.2.2.1, .int q3.2.1.2.2.2.2.2.1, .int q3.2.1.2.2.2.2.2.2.1, .int q3.2.1.2.2.2.2.2.2.2])), (tls1, .inl (G.2.1, 48, .inl q3.2.1.1)), (tls2, .inl (G.2.1, 48, .inl q3.2.1.2.1)), (tlo0, .inr (3, [.int q3.2.2.1.1, .ref tlo1, .ref tlo2, .ref tlo3, .ref tlo4, .ref tlo5])), (tlo1, .inl (G.2.1, 48, .inl q3.2.2.1.2.1)), (tlo2, .inl (G.2.1, 48, .inl q3.2.2.1.2.2.1)), (tlo3, .inl (G.2.1, 48, .inl q3.2.2.1.2.2.2.1)), (tlo4, .inl (G.2.1, 48, .inl q3.2.2.1.2.2.2.2.1)), (tlo5, .inl (G.2.1, 49, .inl q3.2.2.1.2.2.2.2.2)), (tlk, .inl (G.2.1, 48, .inl q3.2.2.2.1)), (tlb, .inl (G.2.1, 48, .inl q3.2.2.2.2)), (fh0, .inr (2, [.ref fh1, .int q2.2])), (fh1, .inl (G.2.1, 12, .inl q2.1))] C0 (c_Ch_addVerse l G 12 tlh tls0 tls1 tls2 tlo0 tlo1 tlo2 tlo3 tlo4 tlo5 tlk tlb fh0 fh1 tl q2 hq3) (cwV 1 hts gX5_tryVerse_X0_addVerse rfl rfl rfl (by decide +kernel) ⟨Nat.le_of_ble_eq_true rfl, Nat.le_of_ble_eq_true rfl⟩) hK hP hD [1, 2, 3, 4, 5, 6, 7, 8, 9, 10, 11, 12, 13, 14] [0] [0, 1, 2, 3, 4, 5, 6, 7, 8, 9, 10, 11, 12, 13, 14] rfl rfl (by decide) (by decide) rfl 1 0 rfl rfl rfl hS hA rfl hl.1 rfl (Nat.le_of_ble_eq_true rfl) dX5_tryVerse_39 ⟨Nat.zero_le _, Nat.zero_le _⟩ (fun H locs hP hD hS => ?_)
    refine lv_pop hx hb dX5_tryVerse_42 rfl ?_
    refine lv_iconst (v := (1 : Int32)) hx hb dX5_tryVerse_43 (by decide) ?_
    obtain rfl := Option.some.inj hp
    exact hfin H locs _ ls hP hD hS dX5_tryVerse_44 (show narrow .boolean (.int (1 : Int32)) = .int (1 : Int32) from rfl)
  · replace hp := fl_t hc hp
    refine lv_iconst (v := (0 : Int32)) hx hb dX5_tryVerse_14 (by decide) ?_
    obtain rfl := Option.some.inj hp
    exact hfin H locs _ ls hP hD hS dX5_tryVerse_15 (show narrow .boolean (.int (0 : Int32)) = .int (0 : Int32) from rfl)

noncomputable def P_SC_tryForgetting (tl : fl_Ch) : Option (Int32 × fl_Ch) := if tl.1.2.2.2.1 = 0 then some ((0 : Int32), tl) else fl_bd (P_Ch_dropOldest tl) (fun q1 => some ((1 : Int32), q1.2))
set_option maxHeartbeats 4000000 in
set_option maxRecDepth 100000 in
theorem c_SC_tryForgetting (l : Launch) (G : fl_G) (sc tx0 pn0 tlh tls0 tls1 tls2 tlo0 tlo1 tlo2 tlo3 tlo4 tlo5 tlk tlb fh0 hi sl : Nat) (tl : fl_Ch) {r : (Int32 × fl_Ch)} (hp0 : P_SC_tryForgetting tl = some r) : fl_mu l yX5_tryForgetting wsX5_tryForgetting 4 93 G [.ref sc] [(sc, .inr (5, [.ref tx0, .ref pn0, .ref tlh, .ref fh0, .ref hi, .ref sl])), (tlh, .inr (0, [.ref tls0, .ref tlo0, .ref tlk, .ref tlb])), (tls0, .inr (4, [.ref tls1, .ref tls2, .int tl.1.2.2.1, .int tl.1.2.2.2.1, .int tl.1.2.2.2.2.1, .int tl.1.2.2.2.2.2.1, .int tl.1.2.2.2.2.2.2.1, .int tl.1.2.2.2.2.2.2.2])), (tls1, .inl (G.2.1, 48, .inl tl.1.1)), (tls2, .inl (G.2.1, 48, .inl tl.1.2.1)), (tlo0, .inr (3, [.int tl.2.1.1, .ref tlo1, .ref tlo2, .ref tlo3, .ref tlo4, .ref tlo5])), (tlo1, .inl (G.2.1, 48, .inl tl.2.1.2.1)), (tlo2, .inl (G.2.1, 48, .inl tl.2.1.2.2.1)), (tlo3, .inl (G.2.1, 48, .inl tl.2.1.2.2.2.1)), (tlo4, .inl (G.2.1, 48, .inl tl.2.1.2.2.2.2.1)), (tlo5, .inl (G.2.1, 49, .inl tl.2.1.2.2.2.2.2)), (tlk, .inl (G.2.1, 48, .inl tl.2.2.1)), (tlb, .inl (G.2.1, 48, .inl tl.2.2.2))] (some (.int r.1)) [(sc, .inr (5, [.ref tx0, .ref pn0, .ref tlh, .ref fh0, .ref hi, .ref sl])), (tlh, .inr (0, [.ref tls0, .ref tlo0, .ref tlk, .ref tlb])), (tls0, .inr (4, [.ref tls1, .ref tls2, .int r.2.1.2.2.1, .int r.2.1.2.2.2.1, .int r.2.1.2.2.2.2.1, .int r.2.1.2.2.2.2.2.1, .int r.2.1.2.2.2.2.2.2.1, .int r.2.1.2.2.2.2.2.2.2])), (tls1, .inl (G.2.1, 48, .inl r.2.1.1)), (tls2, .inl (G.2.1, 48, .inl r.2.1.2.1)), (tlo0, .inr (3, [.int r.2.2.1.1, .ref tlo1, .ref tlo2, .ref tlo3, .ref tlo4, .ref tlo5])), (tlo1, .inl (G.2.1, 48, .inl r.2.2.1.2.1)), (tlo2, .inl (G.2.1, 48, .inl r.2.2.1.2.2.1)), (tlo3, .inl (G.2.1, 48, .inl r.2.2.1.2.2.2.1)), (tlo4, .inl (G.2.1, 48, .inl r.2.2.1.2.2.2.2.1)), (tlo5, .inl (G.2.1, 49, .inl r.2.2.1.2.2.2.2.2)), (tlk, .inl (G.2.1, 48, .inl r.2.2.2.1)), (tlb, .inl (G.2.1, 48, .inl r.2.2.2.2))] := by
  refine fl_mui_in cX5_tryForgetting 1 .boolean RX5 (by decide) rfl rfl (Nat.le_of_ble_eq_true rfl) ?_
  intro p e s m args below meth c ls A Q H locs C0 hK hP hD hS hA hl hfin
  obtain ⟨hx, hb, hml, hown, hts⟩ := id C0
  have iX0 : ∀ w ∈ u_ws RX0 TX0 4, w ∈ wsX5_tryForgetting := fun _ h => List.mem_cons_of_mem _ (List.mem_append_left _ (List.mem_append_left _ (List.mem_append_right _ h)))
  have iX4 : ∀ w ∈ u_ws RX4 TX4 8, w ∈ wsX5_tryForgetting := fun _ h => List.mem_cons_of_mem _ (List.mem_append_left _ (List.mem_append_right _ h))
  have iX5 : ∀ w ∈ u_ws RX5 TX5 6, w ∈ wsX5_tryForgetting := fun _ h => List.mem_cons_of_mem _ (List.mem_append_left _ (List.mem_append_left _ (List.mem_append_left _ (List.mem_append_right _ h))))
  have hl : lv_has ls 1 [(0, .ref sc)] := hl
  have hp := hp0
  unfold P_SC_tryForgetting at hp
  refine lv_aload_n hx hb dX5_tryForgetting_0 rfl (lv_at hl 0 rfl) ?_
  refine va_get (D := G.1) (ci := 5) (v := .ref tlh) (C := RX5) (T := TX5) (N := 6) hx hb hts iX5 hown hK.1 hP 0 rfl rfl 2 (by decide) (hts (.fieldLink RX5 25 "SongChoir" "trial" "LSongChoir$Choir;") (List.mem_of_getElem? (i := 1) rfl)) (fun _ h9 => h9) rfl dX5_tryForgetting_1 ?_
  refine va_get (D := G.1) (ci := 0) (v := .ref tls0) (C := RX0) (T := TX0) (N := 4) hx hb hts iX0 hown hK.1 hP 1 rfl rfl 0 (by decide) (hts (.fieldLink RX5 74 "SongChoir$Choir" "song" "LSongChoir$Song;") (List.mem_of_getElem? (i := 2) rfl)) (fun _ h9 => h9) rfl dX5_tryForgetting_4 ?_
  refine va_get (D := G.1) (ci := 4) (v := .int tl.1.2.2.2.1) (C := RX4) (T := TX4) (N := 8) hx hb hts iX4 hown hK.1 hP 2 rfl rfl 3 (by decide) (hts (.fieldLink RX5 81 "SongChoir$Song" "verses" "I") (List.mem_of_getElem? (i := 3) rfl)) (fun _ h9 => h9) rfl dX5_tryForgetting_7 ?_
  refine lv_if_ne (tgt := 15) hx hb dX5_tryForgetting_10 (by decide) (fun hc => ?_) (fun hc => ?_)
  · replace hp := fl_f hc hp
    refine lv_aload_n hx hb dX5_tryForgetting_15 rfl (lv_at hl 0 rfl) ?_
    refine va_get (D := G.1) (ci := 5) (v := .ref tlh) (C := RX5) (T := TX5) (N := 6) hx hb hts iX5 hown hK.1 hP 0 rfl rfl 2 (by decide) (hts (.fieldLink RX5 25 "SongChoir" "trial" "LSongChoir$Choir;") (List.mem_of_getElem? (i := 1) rfl)) (fun _ h9 => h9) rfl dX5_tryForgetting_16 ?_
    obtain ⟨q1, hq1, hp⟩ := fl_bd_of hp
    refine fl_muV (As := []) (rest := []) [(sc, .inr (5, [.ref tx0, .ref pn0, .ref tlh, .ref fh0, .ref hi, .ref sl])), (tlh, .inr (0, [.ref tls0, .ref tlo0, .ref tlk, .ref tlb])), (tls0, .inr (4, [.ref tls1, .ref tls2, .int q1.2.1.2.2.1, .int q1.2.1.2.2.2.1, .int q1.2.1.2.2.2.2.1, .int q1.2.1.2.2.2.2.2.1, .int q1.2.1.2.2.2.2.2.2.1, .int q1.2.1.2.2.2.2.2.2.2])), (tls1, .inl (G.2.1, 48, .inl q1.2.1.1)), (tls2, .inl (G.2.1, 48, .inl q1.2.1.2.1)), (tlo0, .inr (3, [.int q1.2.2.1.1, .ref tlo1, .ref tlo2, .ref tlo3, .ref tlo4, .ref tlo5])), (tlo1, .inl (G.2.1, 48, .inl q1.2.2.1.2.1)), (tlo2, .inl (G.2.1, 48, .inl q1.2.2.1.2.2.1)), (tlo3, .inl (G.2.1, 48, .inl q1.2.2.1.2.2.2.1)), (tlo4, .inl (G.2.1, 48, .inl q1.2.2.1.2.2.2.2.1)), (tlo5, .inl (G.2.1, 49, .inl q1.2.2.1.2.2.2.2.2)), (tlk, .inl (G.2.1, 48, .inl q1.2.2.2.1)), (tlb, .inl (G.2.1, 48, .inl q1.2.2.2.2))] C0 (c_Ch_dropOldest l G tlh tls0 tls1 tls2 tlo0 tlo1 tlo2 tlo3 tlo4 tlo5 tlk tlb tl hq1) (cwV 0 hts gX5_tryForgetting_X0_dropOldest rfl rfl rfl (by decide +kernel) ⟨Nat.le_of_ble_eq_true rfl, Nat.le_of_ble_eq_true rfl⟩) hK hP hD [1, 2, 3, 4, 5, 6, 7, 8, 9, 10, 11, 12] [0] [0, 1, 2, 3, 4, 5, 6, 7, 8, 9, 10, 11, 12] rfl rfl (by decide) (by decide) rfl 1 0 rfl rfl rfl hS hA rfl hl.1 rfl (Nat.le_of_ble_eq_true rfl) dX5_tryForgetting_19 ⟨Nat.zero_le _, Nat.zero_le _⟩ (fun H locs hP hD hS => ?_)
    refine lv_pop hx hb dX5_tryForgetting_22 rfl ?_
    refine lv_iconst (v := (1 : Int32)) hx hb dX5_tryForgetting_23 (by decide) ?_
    obtain rfl := Option.some.inj hp
    exact hfin H locs _ ls hP hD hS dX5_tryForgetting_24 (show narrow .boolean (.int (1 : Int32)) = .int (1 : Int32) from rfl)
  · replace hp := fl_t hc hp
    refine lv_iconst (v := (0 : Int32)) hx hb dX5_tryForgetting_13 (by decide) ?_
    obtain rfl := Option.some.inj hp
    exact hfin H locs _ ls hP hD hS dX5_tryForgetting_14 (show narrow .boolean (.int (0 : Int32)) = .int (0 : Int32) from rfl)

noncomputable def P_SC_trySingers (tl : fl_Ch) (p0 : Int32) : Option (Int32 × fl_Ch) := if p0 < (1 : Int32) then some ((0 : Int32), tl) else if p0 ≤ (8 : Int32) then fl_bd (P_Ch_changeSingers tl p0) (fun q1 => some ((1 : Int32), q1.2)) else some ((0 : Int32), tl)
set_option maxHeartbeats 4000000 in
set_option maxRecDepth 100000 in
theorem c_SC_trySingers (l : Launch) (G : fl_G) (sc tx0 pn0 tlh tls0 tls1 tls2 tlo0 tlo1 tlo2 tlo3 tlo4 tlo5 tlk tlb fh0 hi sl : Nat) (tl : fl_Ch) (p0 : Int32) {r : (Int32 × fl_Ch)} (hp0 : P_SC_trySingers tl p0 = some r) : fl_mu l yX5_trySingers wsX5_trySingers 4 92 G [.ref sc, .int p0] [(sc, .inr (5, [.ref tx0, .ref pn0, .ref tlh, .ref fh0, .ref hi, .ref sl])), (tlh, .inr (0, [.ref tls0, .ref tlo0, .ref tlk, .ref tlb])), (tls0, .inr (4, [.ref tls1, .ref tls2, .int tl.1.2.2.1, .int tl.1.2.2.2.1, .int tl.1.2.2.2.2.1, .int tl.1.2.2.2.2.2.1, .int tl.1.2.2.2.2.2.2.1, .int tl.1.2.2.2.2.2.2.2])), (tls1, .inl (G.2.1, 48, .inl tl.1.1)), (tls2, .inl (G.2.1, 48, .inl tl.1.2.1)), (tlo0, .inr (3, [.int tl.2.1.1, .ref tlo1, .ref tlo2, .ref tlo3, .ref tlo4, .ref tlo5])), (tlo1, .inl (G.2.1, 48, .inl tl.2.1.2.1)), (tlo2, .inl (G.2.1, 48, .inl tl.2.1.2.2.1)), (tlo3, .inl (G.2.1, 48, .inl tl.2.1.2.2.2.1)), (tlo4, .inl (G.2.1, 48, .inl tl.2.1.2.2.2.2.1)), (tlo5, .inl (G.2.1, 49, .inl tl.2.1.2.2.2.2.2)), (tlk, .inl (G.2.1, 48, .inl tl.2.2.1)), (tlb, .inl (G.2.1, 48, .inl tl.2.2.2))] (some (.int r.1)) [(sc, .inr (5, [.ref tx0, .ref pn0, .ref tlh, .ref fh0, .ref hi, .ref sl])), (tlh, .inr (0, [.ref tls0, .ref tlo0, .ref tlk, .ref tlb])), (tls0, .inr (4, [.ref tls1, .ref tls2, .int r.2.1.2.2.1, .int r.2.1.2.2.2.1, .int r.2.1.2.2.2.2.1, .int r.2.1.2.2.2.2.2.1, .int r.2.1.2.2.2.2.2.2.1, .int r.2.1.2.2.2.2.2.2.2])), (tls1, .inl (G.2.1, 48, .inl r.2.1.1)), (tls2, .inl (G.2.1, 48, .inl r.2.1.2.1)), (tlo0, .inr (3, [.int r.2.2.1.1, .ref tlo1, .ref tlo2, .ref tlo3, .ref tlo4, .ref tlo5])), (tlo1, .inl (G.2.1, 48, .inl r.2.2.1.2.1)), (tlo2, .inl (G.2.1, 48, .inl r.2.2.1.2.2.1)), (tlo3, .inl (G.2.1, 48, .inl r.2.2.1.2.2.2.1)), (tlo4, .inl (G.2.1, 48, .inl r.2.2.1.2.2.2.2.1)), (tlo5, .inl (G.2.1, 49, .inl r.2.2.1.2.2.2.2.2)), (tlk, .inl (G.2.1, 48, .inl r.2.2.2.1)), (tlb, .inl (G.2.1, 48, .inl r.2.2.2.2))] := by
  refine fl_mui_in cX5_trySingers 2 .boolean RX5 (by decide) rfl rfl (Nat.le_of_ble_eq_true rfl) ?_
  intro p e s m args below meth c ls A Q H locs C0 hK hP hD hS hA hl hfin
  obtain ⟨hx, hb, hml, hown, hts⟩ := id C0
  have iX5 : ∀ w ∈ u_ws RX5 TX5 6, w ∈ wsX5_trySingers := fun _ h => List.mem_cons_of_mem _ (List.mem_append_left _ (List.mem_append_left _ (List.mem_append_left _ (List.mem_append_right _ h))))
  have hl : lv_has ls 2 [(0, .ref sc), (1, .int p0)] := hl
  have hp := hp0
  unfold P_SC_trySingers at hp
  refine lv_iload_n hx hb dX5_trySingers_0 rfl (lv_at hl 1 rfl) ?_
  refine lv_iconst (v := (1 : Int32)) hx hb dX5_trySingers_1 (by decide) ?_
  refine lv_icmp_lt (tgt := 11) hx hb dX5_trySingers_2 (by decide) (fun hc => ?_) (fun hc => ?_)
  · replace hp := fl_t hc hp
    refine lv_iconst (v := (0 : Int32)) hx hb dX5_trySingers_11 (by decide) ?_
    obtain rfl := Option.some.inj hp
    exact hfin H locs _ ls hP hD hS dX5_trySingers_12 (show narrow .boolean (.int (0 : Int32)) = .int (0 : Int32) from rfl)
  · replace hp := fl_f hc hp
    refine lv_iload_n hx hb dX5_trySingers_5 rfl (lv_at hl 1 rfl) ?_
    refine lv_bipush (v := (8 : Int32)) hx hb dX5_trySingers_6 (by decide) ?_
    refine lv_icmp_le (tgt := 13) hx hb dX5_trySingers_8 (by decide) (fun hc => ?_) (fun hc => ?_)
    · replace hp := fl_t hc hp
      refine lv_aload_n hx hb dX5_trySingers_13 rfl (lv_at hl 0 rfl) ?_
      refine va_get (D := G.1) (ci := 5) (v := .ref tlh) (C := RX5) (T := TX5) (N := 6) hx hb hts iX5 hown hK.1 hP 0 rfl rfl 2 (by decide) (hts (.fieldLink RX5 25 "SongChoir" "trial" "LSongChoir$Choir;") (List.mem_of_getElem? (i := 1) rfl)) (fun _ h9 => h9) rfl dX5_trySingers_14 ?_
      refine lv_iload_n hx hb dX5_trySingers_17 rfl (lv_at hl 1 rfl) ?_
      obtain ⟨q1, hq1, hp⟩ := fl_bd_of hp
      refine fl_muV (As := [.int p0]) (rest := []) [(sc, .inr (5, [.ref tx0, .ref pn0, .ref tlh, .ref fh0, .ref hi, .ref sl])), (tlh, .inr (0, [.ref tls0, .ref tlo0, .ref tlk, .ref tlb])), (tls0, .inr (4, [.ref tls1, .ref tls2, .int q1.2.1.2.2.1, .int q1.2.1.2.2.2.1, .int q1.2.1.2.2.2.2.1, .int q1.2.1.2.2.2.2.2.1, .int q1.2.1.2.2.2.2.2.2.1, .int q1.2.1.2.2.2.2.2.2.2])), (tls1, .inl (G.2.1, 48, .inl q1.2.1.1)), (tls2, .inl (G.2.1, 48, .inl q1.2.1.2.1)), (tlo0, .inr (3, [.int q1.2.2.1.1, .ref tlo1, .ref tlo2, .ref tlo3, .ref tlo4, .ref tlo5])), (tlo1, .inl (G.2.1, 48, .inl q1.2.2.1.2.1)), (tlo2, .inl (G.2.1, 48, .inl q1.2.2.1.2.2.1)), (tlo3, .inl (G.2.1, 48, .inl q1.2.2.1.2.2.2.1)), (tlo4, .inl (G.2.1, 48, .inl q1.2.2.1.2.2.2.2.1)), (tlo5, .inl (G.2.1, 49, .inl q1.2.2.1.2.2.2.2.2)), (tlk, .inl (G.2.1, 48, .inl q1.2.2.2.1)), (tlb, .inl (G.2.1, 48, .inl q1.2.2.2.2))] C0 (c_Ch_changeSingers l G tlh tls0 tls1 tls2 tlo0 tlo1 tlo2 tlo3 tlo4 tlo5 tlk tlb tl p0 hq1) (cwV 1 hts gX5_trySingers_X0_changeSingers rfl rfl rfl (by decide +kernel) ⟨Nat.le_of_ble_eq_true rfl, Nat.le_of_ble_eq_true rfl⟩) hK hP hD [1, 2, 3, 4, 5, 6, 7, 8, 9, 10, 11, 12] [0] [0, 1, 2, 3, 4, 5, 6, 7, 8, 9, 10, 11, 12] rfl rfl (by decide) (by decide) rfl 1 0 rfl rfl rfl hS hA rfl hl.1 rfl (Nat.le_of_ble_eq_true rfl) dX5_trySingers_18 ⟨Nat.zero_le _, Nat.zero_le _⟩ (fun H locs hP hD hS => ?_)
      refine lv_pop hx hb dX5_trySingers_21 rfl ?_
      refine lv_iconst (v := (1 : Int32)) hx hb dX5_trySingers_22 (by decide) ?_
      obtain rfl := Option.some.inj hp
      exact hfin H locs _ ls hP hD hS dX5_trySingers_23 (show narrow .boolean (.int (1 : Int32)) = .int (1 : Int32) from rfl)
    · replace hp := fl_f hc hp
      refine lv_iconst (v := (0 : Int32)) hx hb dX5_trySingers_11 (by decide) ?_
      obtain rfl := Option.some.inj hp
      exact hfin H locs _ ls hP hD hS dX5_trySingers_12 (show narrow .boolean (.int (0 : Int32)) = .int (0 : Int32) from rfl)

noncomputable def P_SC_tryLetters (tl : fl_Ch) (fh : fl_Ln) (p0 : Int32) : Option (Int32 × fl_Ch × fl_Ln) := fl_bd (P_Ln_takeDigits 12 fh p0) (fun q1 => if q1.1 = 0 then some ((0 : Int32), tl, q1.2) else fl_bd (P_Ch_addVerse 12 tl q1.2) (fun q2 => some ((1 : Int32), q2.2, q1.2)))
set_option maxHeartbeats 4000000 in
set_option maxRecDepth 100000 in
theorem c_SC_tryLetters (l : Launch) (G : fl_G) (sc tx0 pn0 tlh tls0 tls1 tls2 tlo0 tlo1 tlo2 tlo3 tlo4 tlo5 tlk tlb fh0 fh1 hi sl : Nat) (tl : fl_Ch) (fh : fl_Ln) (p0 : Int32) {r : (Int32 × fl_Ch × fl_Ln)} (hp0 : P_SC_tryLetters tl fh p0 = some r) : fl_mu l yX5_tryLetters wsX5_tryLetters 4 94 G [.ref sc, .int p0] [(sc, .inr (5, [.ref tx0, .ref pn0, .ref tlh, .ref fh0, .ref hi, .ref sl])), (tlh, .inr (0, [.ref tls0, .ref tlo0, .ref tlk, .ref tlb])), (tls0, .inr (4, [.ref tls1, .ref tls2, .int tl.1.2.2.1, .int tl.1.2.2.2.1, .int tl.1.2.2.2.2.1, .int tl.1.2.2.2.2.2.1, .int tl.1.2.2.2.2.2.2.1, .int tl.1.2.2.2.2.2.2.2])), (tls1, .inl (G.2.1, 48, .inl tl.1.1)), (tls2, .inl (G.2.1, 48, .inl tl.1.2.1)), (tlo0, .inr (3, [.int tl.2.1.1, .ref tlo1, .ref tlo2, .ref tlo3, .ref tlo4, .ref tlo5])), (tlo1, .inl (G.2.1, 48, .inl tl.2.1.2.1)), (tlo2, .inl (G.2.1, 48, .inl tl.2.1.2.2.1)), (tlo3, .inl (G.2.1, 48, .inl tl.2.1.2.2.2.1)), (tlo4, .inl (G.2.1, 48, .inl tl.2.1.2.2.2.2.1)), (tlo5, .inl (G.2.1, 49, .inl tl.2.1.2.2.2.2.2)), (tlk, .inl (G.2.1, 48, .inl tl.2.2.1)), (tlb, .inl (G.2.1, 48, .inl tl.2.2.2)), (fh0, .inr (2, [.ref fh1, .int fh.2])), (fh1, .inl (G.2.1, 12, .inl fh.1))] (some (.int r.1)) [(sc, .inr (5, [.ref tx0, .ref pn0, .ref tlh, .ref fh0, .ref hi, .ref sl])), (tlh, .inr (0, [.ref tls0, .ref tlo0, .ref tlk, .ref tlb])), (tls0, .inr (4, [.ref tls1, .ref tls2, .int r.2.1.1.2.2.1, .int r.2.1.1.2.2.2.1, .int r.2.1.1.2.2.2.2.1, .int r.2.1.1.2.2.2.2.2.1, .int r.2.1.1.2.2.2.2.2.2.1, .int r.2.1.1.2.2.2.2.2.2.2])), (tls1, .inl (G.2.1, 48, .inl r.2.1.1.1)), (tls2, .inl (G.2.1, 48, .inl r.2.1.1.2.1)), (tlo0, .inr (3, [.int r.2.1.2.1.1, .ref tlo1, .ref tlo2, .ref tlo3, .ref tlo4, .ref tlo5])), (tlo1, .inl (G.2.1, 48, .inl r.2.1.2.1.2.1)), (tlo2, .inl (G.2.1, 48, .inl r.2.1.2.1.2.2.1)), (tlo3, .inl (G.2.1, 48, .inl r.2.1.2.1.2.2.2.1)), (tlo4, .inl (G.2.1, 48, .inl r.2.1.2.1.2.2.2.2.1)), (tlo5, .inl (G.2.1, 49, .inl r.2.1.2.1.2.2.2.2.2)), (tlk, .inl (G.2.1, 48, .inl r.2.1.2.2.1)), (tlb, .inl (G.2.1, 48, .inl r.2.1.2.2.2)), (fh0, .inr (2, [.ref fh1, .int r.2.2.2])), (fh1, .inl (G.2.1, 12, .inl r.2.2.1))] := by
  refine fl_mui_in cX5_tryLetters 2 .boolean RX5 (by decide) rfl rfl (Nat.le_of_ble_eq_true rfl) ?_
  intro p e s m args below meth c ls A Q H locs C0 hK hP hD hS hA hl hfin
  obtain ⟨hx, hb, hml, hown, hts⟩ := id C0
  have iX5 : ∀ w ∈ u_ws RX5 TX5 6, w ∈ wsX5_tryLetters := fun _ h => List.mem_cons_of_mem _ (List.mem_append_left _ (List.mem_append_left _ (List.mem_append_left _ (List.mem_append_left _ (List.mem_append_right _ h)))))
  have hl : lv_has ls 2 [(0, .ref sc), (1, .int p0)] := hl
  have hp := hp0
  unfold P_SC_tryLetters at hp
  refine lv_aload_n hx hb dX5_tryLetters_0 rfl (lv_at hl 0 rfl) ?_
  refine va_get (D := G.1) (ci := 5) (v := .ref fh0) (C := RX5) (T := TX5) (N := 6) hx hb hts iX5 hown hK.1 hP 0 rfl rfl 3 (by decide) (hts (.fieldLink RX5 28 "SongChoir" "fresh" "LSongChoir$Line;") (List.mem_of_getElem? (i := 1) rfl)) (fun _ h9 => h9) rfl dX5_tryLetters_1 ?_
  refine lv_iload_n hx hb dX5_tryLetters_4 rfl (lv_at hl 1 rfl) ?_
  obtain ⟨q1, hq1, hp⟩ := fl_bd_of hp
  refine fl_muV (As := [.int p0]) (rest := []) [(sc, .inr (5, [.ref tx0, .ref pn0, .ref tlh, .ref fh0, .ref hi, .ref sl])), (tlh, .inr (0, [.ref tls0, .ref tlo0, .ref tlk, .ref tlb])), (tls0, .inr (4, [.ref tls1, .ref tls2, .int tl.1.2.2.1, .int tl.1.2.2.2.1, .int tl.1.2.2.2.2.1, .int tl.1.2.2.2.2.2.1, .int tl.1.2.2.2.2.2.2.1, .int tl.1.2.2.2.2.2.2.2])), (tls1, .inl (G.2.1, 48, .inl tl.1.1)), (tls2, .inl (G.2.1, 48, .inl tl.1.2.1)), (tlo0, .inr (3, [.int tl.2.1.1, .ref tlo1, .ref tlo2, .ref tlo3, .ref tlo4, .ref tlo5])), (tlo1, .inl (G.2.1, 48, .inl tl.2.1.2.1)), (tlo2, .inl (G.2.1, 48, .inl tl.2.1.2.2.1)), (tlo3, .inl (G.2.1, 48, .inl tl.2.1.2.2.2.1)), (tlo4, .inl (G.2.1, 48, .inl tl.2.1.2.2.2.2.1)), (tlo5, .inl (G.2.1, 49, .inl tl.2.1.2.2.2.2.2)), (tlk, .inl (G.2.1, 48, .inl tl.2.2.1)), (tlb, .inl (G.2.1, 48, .inl tl.2.2.2)), (fh0, .inr (2, [.ref fh1, .int q1.2.2])), (fh1, .inl (G.2.1, 12, .inl q1.2.1))] C0 (c_Ln_takeDigits l G 12 fh0 fh1 fh p0 hq1) (cwV 1 hts gX5_tryLetters_X2_takeDigits rfl rfl rfl (by decide +kernel) ⟨Nat.le_of_ble_eq_true rfl, Nat.le_of_ble_eq_true rfl⟩) hK hP hD [13, 14] [0, 1, 2, 3, 4, 5, 6, 7, 8, 9, 10, 11, 12] [0, 1, 2, 3, 4, 5, 6, 7, 8, 9, 10, 11, 12, 13, 14] rfl rfl (by decide) (by decide) rfl 13 2 rfl rfl rfl hS hA rfl hl.1 rfl (Nat.le_of_ble_eq_true rfl) dX5_tryLetters_5 ⟨Nat.zero_le _, Nat.zero_le _⟩ (fun H locs hP hD hS => ?_)
  refine lv_if_ne (tgt := 13) hx hb dX5_tryLetters_8 (by decide) (fun hc => ?_) (fun hc => ?_)
  · replace hp := fl_f hc hp
    refine lv_aload_n hx hb dX5_tryLetters_13 rfl (lv_at hl 0 rfl) ?_
    refine va_get (D := G.1) (ci := 5) (v := .ref tlh) (C := RX5) (T := TX5) (N := 6) hx hb hts iX5 hown hK.1 hP 0 rfl rfl 2 (by decide) (hts (.fieldLink RX5 25 "SongChoir" "trial" "LSongChoir$Choir;") (List.mem_of_getElem? (i := 2) rfl)) (fun _ h9 => h9) rfl dX5_tryLetters_14 ?_
    refine lv_aload_n hx hb dX5_tryLetters_17 rfl (lv_at hl 0 rfl) ?_
    refine va_get (D := G.1) (ci := 5) (v := .ref fh0) (C := RX5) (T := TX5) (N := 6) hx hb hts iX5 hown hK.1 hP 0 rfl rfl 3 (by decide) (hts (.fieldLink RX5 28 "SongChoir" "fresh" "LSongChoir$Line;") (List.mem_of_getElem? (i := 1) rfl)) (fun _ h9 => h9) rfl dX5_tryLetters_18 ?_
    obtain ⟨q2, hq2, hp⟩ := fl_bd_of hp
    refine fl_muV (As := [.ref fh0]) (rest := []) [(sc, .inr (5, [.ref tx0, .ref pn0, .ref tlh, .ref fh0, .ref hi, .ref sl])), (tlh, .inr (0, [.ref tls0, .ref tlo0, .ref tlk, .ref tlb])), (tls0, .inr (4, [.ref tls1, .ref tls2, .int q2.2.1.2.2.1, .int q2.2.1.2.2.2.1, .int q2.2.1.2.2.2.2.1, .int q2.2.1.2.2.2.2.2.1, .int q2.2.1.2.2.2.2.2.2.1, .int q2.2.1.2.2.2.2.2.2.2])), (tls1, .inl (G.2.1, 48, .inl q2.2.1.1)), (tls2, .inl (G.2.1, 48, .inl q2.2.1.2.1)), (tlo0, .inr (3, [.int q2.2.2.1.1, .ref tlo1, .ref tlo2, .ref tlo3, .ref tlo4, .ref tlo5])), (tlo1, .inl (G.2.1, 48, .inl q2.2.2.1.2.1)), (tlo2, .inl (G.2.1, 48, .inl q2.2.2.1.2.2.1)), (tlo3, .inl (G.2.1, 48, .inl q2.2.2.1.2.2.2.1)), (tlo4, .inl (G.2.1, 48, .inl q2.2.2.1.2.2.2.2.1)), (tlo5, .inl (G.2.1, 49, .inl q2.2.2.1.2.2.2.2.2)), (tlk, .inl (G.2.1, 48, .inl q2.2.2.2.1)), (tlb, .inl (G.2.1, 48, .inl q2.2.2.2.2)), (fh0, .inr (2, [.ref fh1, .int q1.2.2])), (fh1, .inl (G.2.1, 12, .inl q1.2.1))] C0 (c_Ch_addVerse l G 12 tlh tls0 tls1 tls2 tlo0 tlo1 tlo2 tlo3 tlo4 tlo5 tlk tlb fh0 fh1 tl q1.2 hq2) (cwV 1 hts gX5_tryLetters_X0_addVerse rfl rfl rfl (by decide +kernel) ⟨Nat.le_of_ble_eq_true rfl, Nat.le_of_ble_eq_true rfl⟩) hK hP hD [1, 2, 3, 4, 5, 6, 7, 8, 9, 10, 11, 12, 13, 14] [0] [0, 1, 2, 3, 4, 5, 6, 7, 8, 9, 10, 11, 12, 13, 14] rfl rfl (by decide) (by decide) rfl 1 0 rfl rfl rfl hS hA rfl hl.1 rfl (Nat.le_of_ble_eq_true rfl) dX5_tryLetters_21 ⟨Nat.zero_le _, Nat.zero_le _⟩ (fun H locs hP hD hS => ?_)
    refine lv_pop hx hb dX5_tryLetters_24 rfl ?_
    refine lv_iconst (v := (1 : Int32)) hx hb dX5_tryLetters_25 (by decide) ?_
    obtain rfl := Option.some.inj hp
    exact hfin H locs _ ls hP hD hS dX5_tryLetters_26 (show narrow .boolean (.int (1 : Int32)) = .int (1 : Int32) from rfl)
  · replace hp := fl_t hc hp
    refine lv_iconst (v := (0 : Int32)) hx hb dX5_tryLetters_11 (by decide) ?_
    obtain rfl := Option.some.inj hp
    exact hfin H locs _ ls hP hD hS dX5_tryLetters_12 (show narrow .boolean (.int (0 : Int32)) = .int (0 : Int32) from rfl)

noncomputable def P_SC_runCommand (tl : fl_Ch) (fh : fl_Ln) (p0 : Int32) (p1 : Int32) : Option (Int32 × fl_Ch × fl_Ln) := if p0 = (1 : Int32) then if (p1 - p1 / (100 : Int32) * (100 : Int32)) = 0 then fl_bd (P_SC_tryVerse tl fh (p1 / (100 : Int32))) (fun q1 => if q1.1 = 0 then some ((0 : Int32), q1.2.1, q1.2.2) else some ((1 : Int32), q1.2.1, q1.2.2)) else some ((0 : Int32), tl, fh) else if p0 = (2 : Int32) then if p1 = 0 then fl_bd (P_SC_tryForgetting tl) (fun q2 => if q2.1 = 0 then some ((0 : Int32), q2.2, fh) else some ((1 : Int32), q2.2, fh)) else some ((0 : Int32), tl, fh) else if p0 = (3 : Int32) then if (p1 - p1 / (1000 : Int32) * (1000 : Int32)) = 0 then fl_bd (P_SC_trySingers tl (p1 / (1000 : Int32))) (fun q3 => if q3.1 = 0 then some ((0 : Int32), q3.2, fh) else some ((1 : Int32), q3.2, fh)) else some ((0 : Int32), tl, fh) else if p0 = (4 : Int32) then fl_bd (P_SC_tryLetters tl fh p1) (fun q4 => fl_bl q4.1 (some (q4.1, q4.2.1, q4.2.2))) else if p0 = (5 : Int32) then if (100 : Int32) ≤ p1 then some ((0 : Int32), tl, fh) else fl_bd (P_Or_longestRepeat tl.2.1) (fun q5 => if q5 < p1 then some ((0 : Int32), tl, fh) else some ((1 : Int32), tl, fh)) else if p0 = (6 : Int32) then if (1000 : Int32) ≤ p1 then some ((0 : Int32), tl, fh) else fl_bd (P_Or_pieces tl.2.1) (fun q6 => if q6 < p1 then some ((0 : Int32), tl, fh) else some ((1 : Int32), tl, fh)) else if p0 = (7 : Int32) then if (100 : Int32) ≤ p1 then some ((0 : Int32), tl, fh) else if tl.1.2.2.1 < p1 then some ((0 : Int32), tl, fh) else some ((1 : Int32), tl, fh) else if p0 = (8 : Int32) then fl_bd (P_SC_isSungOften tl (p1 / (100 : Int32)) (p1 - p1 / (100 : Int32) * (100 : Int32))) (fun q7 => fl_bl q7 (some (q7, tl, fh))) else if p0 = (9 : Int32) then if (1000 : Int32) ≤ p1 then some ((0 : Int32), tl, fh) else if p1 < tl.1.2.2.2.2.2.2.1 then some ((0 : Int32), tl, fh) else some ((1 : Int32), tl, fh) else some ((0 : Int32), tl, fh)
set_option maxHeartbeats 4000000 in
set_option maxRecDepth 100000 in
theorem c_SC_runCommand (l : Launch) (G : fl_G) (sc tx0 pn0 tlh tls0 tls1 tls2 tlo0 tlo1 tlo2 tlo3 tlo4 tlo5 tlk tlb fh0 fh1 hi sl : Nat) (tl : fl_Ch) (fh : fl_Ln) (p0 : Int32) (p1 : Int32) {r : (Int32 × fl_Ch × fl_Ln)} (hp0 : P_SC_runCommand tl fh p0 p1 = some r) : fl_mu l yX5_runCommand wsX5_runCommand 5 115 G [.ref sc, .int p0, .int p1] [(sc, .inr (5, [.ref tx0, .ref pn0, .ref tlh, .ref fh0, .ref hi, .ref sl])), (tlh, .inr (0, [.ref tls0, .ref tlo0, .ref tlk, .ref tlb])), (tls0, .inr (4, [.ref tls1, .ref tls2, .int tl.1.2.2.1, .int tl.1.2.2.2.1, .int tl.1.2.2.2.2.1, .int tl.1.2.2.2.2.2.1, .int tl.1.2.2.2.2.2.2.1, .int tl.1.2.2.2.2.2.2.2])), (tls1, .inl (G.2.1, 48, .inl tl.1.1)), (tls2, .inl (G.2.1, 48, .inl tl.1.2.1)), (tlo0, .inr (3, [.int tl.2.1.1, .ref tlo1, .ref tlo2, .ref tlo3, .ref tlo4, .ref tlo5])), (tlo1, .inl (G.2.1, 48, .inl tl.2.1.2.1)), (tlo2, .inl (G.2.1, 48, .inl tl.2.1.2.2.1)), (tlo3, .inl (G.2.1, 48, .inl tl.2.1.2.2.2.1)), (tlo4, .inl (G.2.1, 48, .inl tl.2.1.2.2.2.2.1)), (tlo5, .inl (G.2.1, 49, .inl tl.2.1.2.2.2.2.2)), (tlk, .inl (G.2.1, 48, .inl tl.2.2.1)), (tlb, .inl (G.2.1, 48, .inl tl.2.2.2)), (fh0, .inr (2, [.ref fh1, .int fh.2])), (fh1, .inl (G.2.1, 12, .inl fh.1))] (some (.int r.1)) [(sc, .inr (5, [.ref tx0, .ref pn0, .ref tlh, .ref fh0, .ref hi, .ref sl])), (tlh, .inr (0, [.ref tls0, .ref tlo0, .ref tlk, .ref tlb])), (tls0, .inr (4, [.ref tls1, .ref tls2, .int r.2.1.1.2.2.1, .int r.2.1.1.2.2.2.1, .int r.2.1.1.2.2.2.2.1, .int r.2.1.1.2.2.2.2.2.1, .int r.2.1.1.2.2.2.2.2.2.1, .int r.2.1.1.2.2.2.2.2.2.2])), (tls1, .inl (G.2.1, 48, .inl r.2.1.1.1)), (tls2, .inl (G.2.1, 48, .inl r.2.1.1.2.1)), (tlo0, .inr (3, [.int r.2.1.2.1.1, .ref tlo1, .ref tlo2, .ref tlo3, .ref tlo4, .ref tlo5])), (tlo1, .inl (G.2.1, 48, .inl r.2.1.2.1.2.1)), (tlo2, .inl (G.2.1, 48, .inl r.2.1.2.1.2.2.1)), (tlo3, .inl (G.2.1, 48, .inl r.2.1.2.1.2.2.2.1)), (tlo4, .inl (G.2.1, 48, .inl r.2.1.2.1.2.2.2.2.1)), (tlo5, .inl (G.2.1, 49, .inl r.2.1.2.1.2.2.2.2.2)), (tlk, .inl (G.2.1, 48, .inl r.2.1.2.2.1)), (tlb, .inl (G.2.1, 48, .inl r.2.1.2.2.2)), (fh0, .inr (2, [.ref fh1, .int r.2.2.2])), (fh1, .inl (G.2.1, 12, .inl r.2.2.1))] := by
  refine fl_mui_in cX5_runCommand 3 .boolean RX5 (by decide) rfl rfl (Nat.le_of_ble_eq_true rfl) ?_
  intro p e s m args below meth c ls A Q H locs C0 hK hP hD hS hA hl hfin
  obtain ⟨hx, hb, hml, hown, hts⟩ := id C0
  have iX0 : ∀ w ∈ u_ws RX0 TX0 4, w ∈ wsX5_runCommand := fun _ h => List.mem_cons_of_mem _ (List.mem_append_left _ (List.mem_append_left _ (List.mem_append_left _ (List.mem_append_right _ h))))
  have iX4 : ∀ w ∈ u_ws RX4 TX4 8, w ∈ wsX5_runCommand := fun _ h => List.mem_cons_of_mem _ (List.mem_append_left _ (List.mem_append_left _ (List.mem_append_right _ h)))
  have iX5 : ∀ w ∈ u_ws RX5 TX5 6, w ∈ wsX5_runCommand := fun _ h => List.mem_cons_of_mem _ (List.mem_append_left _ (List.mem_append_left _ (List.mem_append_left _ (List.mem_append_left _ (List.mem_append_right _ h)))))
  have hl : lv_has ls 3 [(0, .ref sc), (1, .int p0), (2, .int p1)] := hl
  have hp := hp0
  unfold P_SC_runCommand at hp
  refine lv_iload_n hx hb dX5_runCommand_0 rfl (lv_at hl 1 rfl) ?_
  rcases Decidable.em (p0 = (1 : Int32)) with hc0 | hc0
  · replace hp := fl_t hc0 hp
    refine lv_tableIn (off := 51) (tgt := 52) hx hb dX5_runCommand_1 (by rw [hc0]; decide) (by rw [hc0]; decide) (by rw [hc0]; rfl) (by decide) ?_
    refine lv_iload_n hx hb dX5_runCommand_52 rfl (lv_at hl 2 rfl) ?_
    refine lv_bipush (v := (100 : Int32)) hx hb dX5_runCommand_53 (by decide) ?_
    refine lv_irem hx hb dX5_runCommand_55 (by decide) ?_
    refine lv_if_ne (tgt := 74) hx hb dX5_runCommand_56 (by decide) (fun hc => ?_) (fun hc => ?_)
    · replace hp := fl_f hc hp
      refine lv_iconst (v := (0 : Int32)) hx hb dX5_runCommand_74 (by decide) ?_
      obtain rfl := Option.some.inj hp
      exact hfin H locs _ ls hP hD hS dX5_runCommand_75 (show narrow .boolean (.int (0 : Int32)) = .int (0 : Int32) from rfl)
    · replace hp := fl_t hc hp
      refine lv_aload_n hx hb dX5_runCommand_59 rfl (lv_at hl 0 rfl) ?_
      refine lv_iload_n hx hb dX5_runCommand_60 rfl (lv_at hl 2 rfl) ?_
      refine lv_bipush (v := (100 : Int32)) hx hb dX5_runCommand_61 (by decide) ?_
      refine lv_idiv hx hb dX5_runCommand_63 (by decide) ?_
      obtain ⟨q1, hq1, hp⟩ := fl_bd_of hp
      refine fl_muV (As := [.int (p1 / (100 : Int32))]) (rest := []) [(sc, .inr (5, [.ref tx0, .ref pn0, .ref tlh, .ref fh0, .ref hi, .ref sl])), (tlh, .inr (0, [.ref tls0, .ref tlo0, .ref tlk, .ref tlb])), (tls0, .inr (4, [.ref tls1, .ref tls2, .int q1.2.1.1.2.2.1, .int q1.2.1.1.2.2.2.1, .int q1.2.1.1.2.2.2.2.1, .int q1.2.1.1.2.2.2.2.2.1, .int q1.2.1.1.2.2.2.2.2.2.1, .int q1.2.1.1.2.2.2.2.2.2.2])), (tls1, .inl (G.2.1, 48, .inl q1.2.1.1.1)), (tls2, .inl (G.2.1, 48, .inl q1.2.1.1.2.1)), (tlo0, .inr (3, [.int q1.2.1.2.1.1, .ref tlo1, .ref tlo2, .ref tlo3, .ref tlo4, .ref tlo5])), (tlo1, .inl (G.2.1, 48, .inl q1.2.1.2.1.2.1)), (tlo2, .inl (G.2.1, 48, .inl q1.2.1.2.1.2.2.1)), (tlo3, .inl (G.2.1, 48, .inl q1.2.1.2.1.2.2.2.1)), (tlo4, .inl (G.2.1, 48, .inl q1.2.1.2.1.2.2.2.2.1)), (tlo5, .inl (G.2.1, 49, .inl q1.2.1.2.1.2.2.2.2.2)), (tlk, .inl (G.2.1, 48, .inl q1.2.1.2.2.1)), (tlb, .inl (G.2.1, 48, .inl q1.2.1.2.2.2)), (fh0, .inr (2, [.ref fh1, .int q1.2.2.2])), (fh1, .inl (G.2.1, 12, .inl q1.2.2.1))] C0 (c_SC_tryVerse l G sc tx0 pn0 tlh tls0 tls1 tls2 tlo0 tlo1 tlo2 tlo3 tlo4 tlo5 tlk tlb fh0 fh1 hi sl tl fh (p1 / (100 : Int32)) hq1) (cwV 1 hts gX5_runCommand_X5_tryVerse rfl rfl rfl (by decide +kernel) ⟨Nat.le_of_ble_eq_true rfl, Nat.le_of_ble_eq_true rfl⟩) hK hP hD [0, 1, 2, 3, 4, 5, 6, 7, 8, 9, 10, 11, 12, 13, 14] [] [0, 1, 2, 3, 4, 5, 6, 7, 8, 9, 10, 11, 12, 13, 14] rfl rfl (by decide) (by decide) rfl 0 5 rfl rfl rfl hS hA rfl hl.1 rfl (Nat.le_of_ble_eq_true rfl) dX5_runCommand_64 ⟨Nat.zero_le _, Nat.zero_le _⟩ (fun H locs hP hD hS => ?_)
      refine lv_if_eq (tgt := 74) hx hb dX5_runCommand_67 (by decide) (fun hc => ?_) (fun hc => ?_)
      · replace hp := fl_t hc hp
        refine lv_iconst (v := (0 : Int32)) hx hb dX5_runCommand_74 (by decide) ?_
        obtain rfl := Option.some.inj hp
        exact hfin H locs _ ls hP hD hS dX5_runCommand_75 (show narrow .boolean (.int (0 : Int32)) = .int (0 : Int32) from rfl)
      · replace hp := fl_f hc hp
        refine lv_iconst (v := (1 : Int32)) hx hb dX5_runCommand_70 (by decide) ?_
        refine lv_goto (tgt := 75) hx hb dX5_runCommand_71 (by decide) ?_
        obtain rfl := Option.some.inj hp
        exact hfin H locs _ ls hP hD hS dX5_runCommand_75 (show narrow .boolean (.int (1 : Int32)) = .int (1 : Int32) from rfl)
  replace hp := fl_f hc0 hp
  rcases Decidable.em (p0 = (2 : Int32)) with hc1 | hc1
  · replace hp := fl_t hc1 hp
    refine lv_tableIn (off := 75) (tgt := 76) hx hb dX5_runCommand_1 (by rw [hc1]; decide) (by rw [hc1]; decide) (by rw [hc1]; rfl) (by decide) ?_
    refine lv_iload_n hx hb dX5_runCommand_76 rfl (lv_at hl 2 rfl) ?_
    refine lv_if_ne (tgt := 91) hx hb dX5_runCommand_77 (by decide) (fun hc => ?_) (fun hc => ?_)
    · replace hp := fl_f hc hp
      refine lv_iconst (v := (0 : Int32)) hx hb dX5_runCommand_91 (by decide) ?_
      obtain rfl := Option.some.inj hp
      exact hfin H locs _ ls hP hD hS dX5_runCommand_92 (show narrow .boolean (.int (0 : Int32)) = .int (0 : Int32) from rfl)
    · replace hp := fl_t hc hp
      refine lv_aload_n hx hb dX5_runCommand_80 rfl (lv_at hl 0 rfl) ?_
      obtain ⟨q2, hq2, hp⟩ := fl_bd_of hp
      refine fl_muV (As := []) (rest := []) [(sc, .inr (5, [.ref tx0, .ref pn0, .ref tlh, .ref fh0, .ref hi, .ref sl])), (tlh, .inr (0, [.ref tls0, .ref tlo0, .ref tlk, .ref tlb])), (tls0, .inr (4, [.ref tls1, .ref tls2, .int q2.2.1.2.2.1, .int q2.2.1.2.2.2.1, .int q2.2.1.2.2.2.2.1, .int q2.2.1.2.2.2.2.2.1, .int q2.2.1.2.2.2.2.2.2.1, .int q2.2.1.2.2.2.2.2.2.2])), (tls1, .inl (G.2.1, 48, .inl q2.2.1.1)), (tls2, .inl (G.2.1, 48, .inl q2.2.1.2.1)), (tlo0, .inr (3, [.int q2.2.2.1.1, .ref tlo1, .ref tlo2, .ref tlo3, .ref tlo4, .ref tlo5])), (tlo1, .inl (G.2.1, 48, .inl q2.2.2.1.2.1)), (tlo2, .inl (G.2.1, 48, .inl q2.2.2.1.2.2.1)), (tlo3, .inl (G.2.1, 48, .inl q2.2.2.1.2.2.2.1)), (tlo4, .inl (G.2.1, 48, .inl q2.2.2.1.2.2.2.2.1)), (tlo5, .inl (G.2.1, 49, .inl q2.2.2.1.2.2.2.2.2)), (tlk, .inl (G.2.1, 48, .inl q2.2.2.2.1)), (tlb, .inl (G.2.1, 48, .inl q2.2.2.2.2)), (fh0, .inr (2, [.ref fh1, .int fh.2])), (fh1, .inl (G.2.1, 12, .inl fh.1))] C0 (c_SC_tryForgetting l G sc tx0 pn0 tlh tls0 tls1 tls2 tlo0 tlo1 tlo2 tlo3 tlo4 tlo5 tlk tlb fh0 hi sl tl hq2) (cwV 0 hts gX5_runCommand_X5_tryForgetting rfl rfl rfl (by decide +kernel) ⟨Nat.le_of_ble_eq_true rfl, Nat.le_of_ble_eq_true rfl⟩) hK hP hD [0, 1, 2, 3, 4, 5, 6, 7, 8, 9, 10, 11, 12] [13, 14] [2, 3, 4, 5, 6, 7, 8, 9, 10, 11, 12, 13, 14, 0, 1] rfl rfl (by decide) (by decide) rfl 0 5 rfl rfl rfl hS hA rfl hl.1 rfl (Nat.le_of_ble_eq_true rfl) dX5_runCommand_81 ⟨Nat.zero_le _, Nat.zero_le _⟩ (fun H locs hP hD hS => ?_)
      refine lv_if_eq (tgt := 91) hx hb dX5_runCommand_84 (by decide) (fun hc => ?_) (fun hc => ?_)
      · replace hp := fl_t hc hp
        refine lv_iconst (v := (0 : Int32)) hx hb dX5_runCommand_91 (by decide) ?_
        obtain rfl := Option.some.inj hp
        exact hfin H locs _ ls hP hD hS dX5_runCommand_92 (show narrow .boolean (.int (0 : Int32)) = .int (0 : Int32) from rfl)
      · replace hp := fl_f hc hp
        refine lv_iconst (v := (1 : Int32)) hx hb dX5_runCommand_87 (by decide) ?_
        refine lv_goto (tgt := 92) hx hb dX5_runCommand_88 (by decide) ?_
        obtain rfl := Option.some.inj hp
        exact hfin H locs _ ls hP hD hS dX5_runCommand_92 (show narrow .boolean (.int (1 : Int32)) = .int (1 : Int32) from rfl)
  replace hp := fl_f hc1 hp
  rcases Decidable.em (p0 = (3 : Int32)) with hc2 | hc2
  · replace hp := fl_t hc2 hp
    refine lv_tableIn (off := 92) (tgt := 93) hx hb dX5_runCommand_1 (by rw [hc2]; decide) (by rw [hc2]; decide) (by rw [hc2]; rfl) (by decide) ?_
    refine lv_iload_n hx hb dX5_runCommand_93 rfl (lv_at hl 2 rfl) ?_
    refine lv_sipush (v := (1000 : Int32)) hx hb dX5_runCommand_94 (by decide) ?_
    refine lv_irem hx hb dX5_runCommand_97 (by decide) ?_
    refine lv_if_ne (tgt := 117) hx hb dX5_runCommand_98 (by decide) (fun hc => ?_) (fun hc => ?_)
    · replace hp := fl_f hc hp
      refine lv_iconst (v := (0 : Int32)) hx hb dX5_runCommand_117 (by decide) ?_
      obtain rfl := Option.some.inj hp
      exact hfin H locs _ ls hP hD hS dX5_runCommand_118 (show narrow .boolean (.int (0 : Int32)) = .int (0 : Int32) from rfl)
    · replace hp := fl_t hc hp
      refine lv_aload_n hx hb dX5_runCommand_101 rfl (lv_at hl 0 rfl) ?_
      refine lv_iload_n hx hb dX5_runCommand_102 rfl (lv_at hl 2 rfl) ?_
      refine lv_sipush (v := (1000 : Int32)) hx hb dX5_runCommand_103 (by decide) ?_
      refine lv_idiv hx hb dX5_runCommand_106 (by decide) ?_
      obtain ⟨q3, hq3, hp⟩ := fl_bd_of hp
      refine fl_muV (As := [.int (p1 / (1000 : Int32))]) (rest := []) [(sc, .inr (5, [.ref tx0, .ref pn0, .ref tlh, .ref fh0, .ref hi, .ref sl])), (tlh, .inr (0, [.ref tls0, .ref tlo0, .ref tlk, .ref tlb])), (tls0, .inr (4, [.ref tls1, .ref tls2, .int q3.2.1.2.2.1, .int q3.2.1.2.2.2.1, .int q3.2.1.2.2.2.2.1, .int q3.2.1.2.2.2.2.2.1, .int q3.2.1.2.2.2.2.2.2.1, .int q3.2.1.2.2.2.2.2.2.2])), (tls1, .inl (G.2.1, 48, .inl q3.2.1.1)), (tls2, .inl (G.2.1, 48, .inl q3.2.1.2.1)), (tlo0, .inr (3, [.int q3.2.2.1.1, .ref tlo1, .ref tlo2, .ref tlo3, .ref tlo4, .ref tlo5])), (tlo1, .inl (G.2.1, 48, .inl q3.2.2.1.2.1)), (tlo2, .inl (G.2.1, 48, .inl q3.2.2.1.2.2.1)), (tlo3, .inl (G.2.1, 48, .inl q3.2.2.1.2.2.2.1)), (tlo4, .inl (G.2.1, 48, .inl q3.2.2.1.2.2.2.2.1)), (tlo5, .inl (G.2.1, 49, .inl q3.2.2.1.2.2.2.2.2)), (tlk, .inl (G.2.1, 48, .inl q3.2.2.2.1)), (tlb, .inl (G.2.1, 48, .inl q3.2.2.2.2)), (fh0, .inr (2, [.ref fh1, .int fh.2])), (fh1, .inl (G.2.1, 12, .inl fh.1))] C0 (c_SC_trySingers l G sc tx0 pn0 tlh tls0 tls1 tls2 tlo0 tlo1 tlo2 tlo3 tlo4 tlo5 tlk tlb fh0 hi sl tl (p1 / (1000 : Int32)) hq3) (cwV 1 hts gX5_runCommand_X5_trySingers rfl rfl rfl (by decide +kernel) ⟨Nat.le_of_ble_eq_true rfl, Nat.le_of_ble_eq_true rfl⟩) hK hP hD [0, 1, 2, 3, 4, 5, 6, 7, 8, 9, 10, 11, 12] [13, 14] [2, 3, 4, 5, 6, 7, 8, 9, 10, 11, 12, 13, 14, 0, 1] rfl rfl (by decide) (by decide) rfl 0 5 rfl rfl rfl hS hA rfl hl.1 rfl (Nat.le_of_ble_eq_true rfl) dX5_runCommand_107 ⟨Nat.zero_le _, Nat.zero_le _⟩ (fun H locs hP hD hS => ?_)
      refine lv_if_eq (tgt := 117) hx hb dX5_runCommand_110 (by decide) (fun hc => ?_) (fun hc => ?_)
      · replace hp := fl_t hc hp
        refine lv_iconst (v := (0 : Int32)) hx hb dX5_runCommand_117 (by decide) ?_
        obtain rfl := Option.some.inj hp
        exact hfin H locs _ ls hP hD hS dX5_runCommand_118 (show narrow .boolean (.int (0 : Int32)) = .int (0 : Int32) from rfl)
      · replace hp := fl_f hc hp
        refine lv_iconst (v := (1 : Int32)) hx hb dX5_runCommand_113 (by decide) ?_
        refine lv_goto (tgt := 118) hx hb dX5_runCommand_114 (by decide) ?_
        obtain rfl := Option.some.inj hp
        exact hfin H locs _ ls hP hD hS dX5_runCommand_118 (show narrow .boolean (.int (1 : Int32)) = .int (1 : Int32) from rfl)
  replace hp := fl_f hc2 hp
  rcases Decidable.em (p0 = (4 : Int32)) with hc3 | hc3
  · replace hp := fl_t hc3 hp
    refine lv_tableIn (off := 118) (tgt := 119) hx hb dX5_runCommand_1 (by rw [hc3]; decide) (by rw [hc3]; decide) (by rw [hc3]; rfl) (by decide) ?_
    refine lv_aload_n hx hb dX5_runCommand_119 rfl (lv_at hl 0 rfl) ?_
    refine lv_iload_n hx hb dX5_runCommand_120 rfl (lv_at hl 2 rfl) ?_
    obtain ⟨q4, hq4, hp⟩ := fl_bd_of hp
    refine fl_muV (As := [.int p1]) (rest := []) [(sc, .inr (5, [.ref tx0, .ref pn0, .ref tlh, .ref fh0, .ref hi, .ref sl])), (tlh, .inr (0, [.ref tls0, .ref tlo0, .ref tlk, .ref tlb])), (tls0, .inr (4, [.ref tls1, .ref tls2, .int q4.2.1.1.2.2.1, .int q4.2.1.1.2.2.2.1, .int q4.2.1.1.2.2.2.2.1, .int q4.2.1.1.2.2.2.2.2.1, .int q4.2.1.1.2.2.2.2.2.2.1, .int q4.2.1.1.2.2.2.2.2.2.2])), (tls1, .inl (G.2.1, 48, .inl q4.2.1.1.1)), (tls2, .inl (G.2.1, 48, .inl q4.2.1.1.2.1)), (tlo0, .inr (3, [.int q4.2.1.2.1.1, .ref tlo1, .ref tlo2, .ref tlo3, .ref tlo4, .ref tlo5])), (tlo1, .inl (G.2.1, 48, .inl q4.2.1.2.1.2.1)), (tlo2, .inl (G.2.1, 48, .inl q4.2.1.2.1.2.2.1)), (tlo3, .inl (G.2.1, 48, .inl q4.2.1.2.1.2.2.2.1)), (tlo4, .inl (G.2.1, 48, .inl q4.2.1.2.1.2.2.2.2.1)), (tlo5, .inl (G.2.1, 49, .inl q4.2.1.2.1.2.2.2.2.2)), (tlk, .inl (G.2.1, 48, .inl q4.2.1.2.2.1)), (tlb, .inl (G.2.1, 48, .inl q4.2.1.2.2.2)), (fh0, .inr (2, [.ref fh1, .int q4.2.2.2])), (fh1, .inl (G.2.1, 12, .inl q4.2.2.1))] C0 (c_SC_tryLetters l G sc tx0 pn0 tlh tls0 tls1 tls2 tlo0 tlo1 tlo2 tlo3 tlo4 tlo5 tlk tlb fh0 fh1 hi sl tl fh p1 hq4) (cwV 1 hts gX5_runCommand_X5_tryLetters rfl rfl rfl (by decide +kernel) ⟨Nat.le_of_ble_eq_true rfl, Nat.le_of_ble_eq_true rfl⟩) hK hP hD [0, 1, 2, 3, 4, 5, 6, 7, 8, 9, 10, 11, 12, 13, 14] [] [0, 1, 2, 3, 4, 5, 6, 7, 8, 9, 10, 11, 12, 13, 14] rfl rfl (by decide) (by decide) rfl 0 5 rfl rfl rfl hS hA rfl hl.1 rfl (Nat.le_of_ble_eq_true rfl) dX5_runCommand_121 ⟨Nat.zero_le _, Nat.zero_le _⟩ (fun H locs hP hD hS => ?_)
    obtain ⟨hz, hp⟩ := fl_bl_of hp
    obtain rfl := Option.some.inj hp
    exact hfin H locs _ ls hP hD hS dX5_runCommand_124 hz
  replace hp := fl_f hc3 hp
  rcases Decidable.em (p0 = (5 : Int32)) with hc4 | hc4
  · replace hp := fl_t hc4 hp
    refine lv_tableIn (off := 124) (tgt := 125) hx hb dX5_runCommand_1 (by rw [hc4]; decide) (by rw [hc4]; decide) (by rw [hc4]; rfl) (by decide) ?_
    refine lv_iload_n hx hb dX5_runCommand_125 rfl (lv_at hl 2 rfl) ?_
    refine lv_bipush (v := (100 : Int32)) hx hb dX5_runCommand_126 (by decide) ?_
    refine lv_icmp_ge (tgt := 149) hx hb dX5_runCommand_128 (by decide) (fun hc => ?_) (fun hc => ?_)
    · replace hp := fl_t hc hp
      refine lv_iconst (v := (0 : Int32)) hx hb dX5_runCommand_149 (by decide) ?_
      obtain rfl := Option.some.inj hp
      exact hfin H locs _ ls hP hD hS dX5_runCommand_150 (show narrow .boolean (.int (0 : Int32)) = .int (0 : Int32) from rfl)
    · replace hp := fl_f hc hp
      refine lv_aload_n hx hb dX5_runCommand_131 rfl (lv_at hl 0 rfl) ?_
      refine va_get (D := G.1) (ci := 5) (v := .ref tlh) (C := RX5) (T := TX5) (N := 6) hx hb hts iX5 hown hK.1 hP 0 rfl rfl 2 (by decide) (hts (.fieldLink RX5 25 "SongChoir" "trial" "LSongChoir$Choir;") (List.mem_of_getElem? (i := 1) rfl)) (fun _ h9 => h9) rfl dX5_runCommand_132 ?_
      refine va_get (D := G.1) (ci := 0) (v := .ref tlo0) (C := RX0) (T := TX0) (N := 4) hx hb hts iX0 hown hK.1 hP 1 rfl rfl 1 (by decide) (hts (.fieldLink RX5 90 "SongChoir$Choir" "order" "LSongChoir$Order;") (List.mem_of_getElem? (i := 2) rfl)) (fun _ h9 => h9) rfl dX5_runCommand_135 ?_
      obtain ⟨q5, hq5, hp⟩ := fl_bd_of hp
      refine fl_roV (As := []) (rest := []) C0 (c_Or_longestRepeat l G tlo0 tlo1 tlo2 tlo3 tlo4 tlo5 tl.2.1 hq5) (cwV 0 hts gX5_runCommand_X3_longestRepeat rfl rfl rfl (by decide +kernel) ⟨Nat.le_of_ble_eq_true rfl, Nat.le_of_ble_eq_true rfl⟩) hK hP [5, 6, 7, 8, 9, 10] rfl 5 3 rfl rfl rfl hS hA rfl hl.1 rfl (Nat.le_of_ble_eq_true rfl) dX5_runCommand_138 ⟨Nat.zero_le _, Nat.zero_le _⟩ (fun H locs hP hS => ?_)
      refine lv_iload_n hx hb dX5_runCommand_141 rfl (lv_at hl 2 rfl) ?_
      refine lv_icmp_lt (tgt := 149) hx hb dX5_runCommand_142 (by decide) (fun hc => ?_) (fun hc => ?_)
      · replace hp := fl_t hc hp
        refine lv_iconst (v := (0 : Int32)) hx hb dX5_runCommand_149 (by decide) ?_
        obtain rfl := Option.some.inj hp
        exact hfin H locs _ ls hP hD hS dX5_runCommand_150 (show narrow .boolean (.int (0 : Int32)) = .int (0 : Int32) from rfl)
      · replace hp := fl_f hc hp
        refine lv_iconst (v := (1 : Int32)) hx hb dX5_runCommand_145 (by decide) ?_
        refine lv_goto (tgt := 150) hx hb dX5_runCommand_146 (by decide) ?_
        obtain rfl := Option.some.inj hp
        exact hfin H locs _ ls hP hD hS dX5_runCommand_150 (show narrow .boolean (.int (1 : Int32)) = .int (1 : Int32) from rfl)
  replace hp := fl_f hc4 hp
  rcases Decidable.em (p0 = (6 : Int32)) with hc5 | hc5
  · replace hp := fl_t hc5 hp
    refine lv_tableIn (off := 150) (tgt := 151) hx hb dX5_runCommand_1 (by rw [hc5]; decide) (by rw [hc5]; decide) (by rw [hc5]; rfl) (by decide) ?_
    refine lv_iload_n hx hb dX5_runCommand_151 rfl (lv_at hl 2 rfl) ?_
    refine lv_sipush (v := (1000 : Int32)) hx hb dX5_runCommand_152 (by decide) ?_
    refine lv_icmp_ge (tgt := 176) hx hb dX5_runCommand_155 (by decide) (fun hc => ?_) (fun hc => ?_)
    · replace hp := fl_t hc hp
      refine lv_iconst (v := (0 : Int32)) hx hb dX5_runCommand_176 (by decide) ?_
      obtain rfl := Option.some.inj hp
      exact hfin H locs _ ls hP hD hS dX5_runCommand_177 (show narrow .boolean (.int (0 : Int32)) = .int (0 : Int32) from rfl)
    · replace hp := fl_f hc hp
      refine lv_aload_n hx hb dX5_runCommand_158 rfl (lv_at hl 0 rfl) ?_
      refine va_get (D := G.1) (ci := 5) (v := .ref tlh) (C := RX5) (T := TX5) (N := 6) hx hb hts iX5 hown hK.1 hP 0 rfl rfl 2 (by decide) (hts (.fieldLink RX5 25 "SongChoir" "trial" "LSongChoir$Choir;") (List.mem_of_getElem? (i := 1) rfl)) (fun _ h9 => h9) rfl dX5_runCommand_159 ?_
      refine va_get (D := G.1) (ci := 0) (v := .ref tlo0) (C := RX0) (T := TX0) (N := 4) hx hb hts iX0 hown hK.1 hP 1 rfl rfl 1 (by decide) (hts (.fieldLink RX5 90 "SongChoir$Choir" "order" "LSongChoir$Order;") (List.mem_of_getElem? (i := 2) rfl)) (fun _ h9 => h9) rfl dX5_runCommand_162 ?_
      obtain ⟨q6, hq6, hp⟩ := fl_bd_of hp
      refine fl_roV (As := []) (rest := []) C0 (c_Or_pieces l G tlo0 tlo1 tlo2 tlo3 tlo4 tlo5 tl.2.1 hq6) (cwV 0 hts gX5_runCommand_X3_pieces rfl rfl rfl (by decide +kernel) ⟨Nat.le_of_ble_eq_true rfl, Nat.le_of_ble_eq_true rfl⟩) hK hP [5, 6, 7, 8, 9, 10] rfl 5 3 rfl rfl rfl hS hA rfl hl.1 rfl (Nat.le_of_ble_eq_true rfl) dX5_runCommand_165 ⟨Nat.zero_le _, Nat.zero_le _⟩ (fun H locs hP hS => ?_)
      refine lv_iload_n hx hb dX5_runCommand_168 rfl (lv_at hl 2 rfl) ?_
      refine lv_icmp_lt (tgt := 176) hx hb dX5_runCommand_169 (by decide) (fun hc => ?_) (fun hc => ?_)
      · replace hp := fl_t hc hp
        refine lv_iconst (v := (0 : Int32)) hx hb dX5_runCommand_176 (by decide) ?_
        obtain rfl := Option.some.inj hp
        exact hfin H locs _ ls hP hD hS dX5_runCommand_177 (show narrow .boolean (.int (0 : Int32)) = .int (0 : Int32) from rfl)
      · replace hp := fl_f hc hp
        refine lv_iconst (v := (1 : Int32)) hx hb dX5_runCommand_172 (by decide) ?_
        refine lv_goto (tgt := 177) hx hb dX5_runCommand_173 (by decide) ?_
        obtain rfl := Option.some.inj hp
        exact hfin H locs _ ls hP hD hS dX5_runCommand_177 (show narrow .boolean (.int (1 : Int32)) = .int (1 : Int32) from rfl)
  replace hp := fl_f hc5 hp
  rcases Decidable.em (p0 = (7 : Int32)) with hc6 | hc6
  · replace hp := fl_t hc6 hp
    refine lv_tableIn (off := 177) (tgt := 178) hx hb dX5_runCommand_1 (by rw [hc6]; decide) (by rw [hc6]; decide) (by rw [hc6]; rfl) (by decide) ?_
    refine lv_iload_n hx hb dX5_runCommand_178 rfl (lv_at hl 2 rfl) ?_
    refine lv_bipush (v := (100 : Int32)) hx hb dX5_runCommand_179 (by decide) ?_
    refine lv_icmp_ge (tgt := 202) hx hb dX5_runCommand_181 (by decide) (fun hc => ?_) (fun hc => ?_)
    · replace hp := fl_t hc hp
      refine lv_iconst (v := (0 : Int32)) hx hb dX5_runCommand_202 (by decide) ?_
      obtain rfl := Option.some.inj hp
      exact hfin H locs _ ls hP hD hS dX5_runCommand_203 (show narrow .boolean (.int (0 : Int32)) = .int (0 : Int32) from rfl)
    · replace hp := fl_f hc hp
      refine lv_aload_n hx hb dX5_runCommand_184 rfl (lv_at hl 0 rfl) ?_
      refine va_get (D := G.1) (ci := 5) (v := .ref tlh) (C := RX5) (T := TX5) (N := 6) hx hb hts iX5 hown hK.1 hP 0 rfl rfl 2 (by decide) (hts (.fieldLink RX5 25 "SongChoir" "trial" "LSongChoir$Choir;") (List.mem_of_getElem? (i := 1) rfl)) (fun _ h9 => h9) rfl dX5_runCommand_185 ?_
      refine va_get (D := G.1) (ci := 0) (v := .ref tls0) (C := RX0) (T := TX0) (N := 4) hx hb hts iX0 hown hK.1 hP 1 rfl rfl 0 (by decide) (hts (.fieldLink RX5 74 "SongChoir$Choir" "song" "LSongChoir$Song;") (List.mem_of_getElem? (i := 3) rfl)) (fun _ h9 => h9) rfl dX5_runCommand_188 ?_
      refine va_get (D := G.1) (ci := 4) (v := .int tl.1.2.2.1) (C := RX4) (T := TX4) (N := 8) hx hb hts iX4 hown hK.1 hP 2 rfl rfl 2 (by decide) (hts (.fieldLink RX5 78 "SongChoir$Song" "notes" "I") (List.mem_of_getElem? (i := 4) rfl)) (fun _ h9 => h9) rfl dX5_runCommand_191 ?_
      refine lv_iload_n hx hb dX5_runCommand_194 rfl (lv_at hl 2 rfl) ?_
      refine lv_icmp_lt (tgt := 202) hx hb dX5_runCommand_195 (by decide) (fun hc => ?_) (fun hc => ?_)
      · replace hp := fl_t hc hp
        refine lv_iconst (v := (0 : Int32)) hx hb dX5_runCommand_202 (by decide) ?_
        obtain rfl := Option.some.inj hp
        exact hfin H locs _ ls hP hD hS dX5_runCommand_203 (show narrow .boolean (.int (0 : Int32)) = .int (0 : Int32) from rfl)
      · replace hp := fl_f hc hp
        refine lv_iconst (v := (1 : Int32)) hx hb dX5_runCommand_198 (by decide) ?_
        refine lv_goto (tgt := 203) hx hb dX5_runCommand_199 (by decide) ?_
        obtain rfl := Option.some.inj hp
        exact hfin H locs _ ls hP hD hS dX5_runCommand_203 (show narrow .boolean (.int (1 : Int32)) = .int (1 : Int32) from rfl)
  replace hp := fl_f hc6 hp
  rcases Decidable.em (p0 = (8 : Int32)) with hc7 | hc7
  · replace hp := fl_t hc7 hp
    refine lv_tableIn (off := 203) (tgt := 204) hx hb dX5_runCommand_1 (by rw [hc7]; decide) (by rw [hc7]; decide) (by rw [hc7]; rfl) (by decide) ?_
    refine lv_aload_n hx hb dX5_runCommand_204 rfl (lv_at hl 0 rfl) ?_
    refine lv_iload_n hx hb dX5_runCommand_205 rfl (lv_at hl 2 rfl) ?_
    refine lv_bipush (v := (100 : Int32)) hx hb dX5_runCommand_206 (by decide) ?_
    refine lv_idiv hx hb dX5_runCommand_208 (by decide) ?_
    refine lv_iload_n hx hb dX5_runCommand_209 rfl (lv_at hl 2 rfl) ?_
    refine lv_bipush (v := (100 : Int32)) hx hb dX5_runCommand_210 (by decide) ?_
    refine lv_irem hx hb dX5_runCommand_212 (by decide) ?_
    obtain ⟨q7, hq7, hp⟩ := fl_bd_of hp
    refine fl_roV (As := [.int (p1 / (100 : Int32)), .int (p1 - p1 / (100 : Int32) * (100 : Int32))]) (rest := []) C0 (c_SC_isSungOften l G sc tx0 pn0 tlh tls0 tls1 tls2 tlo0 tlo1 tlo2 tlo3 tlo4 tlo5 tlk tlb fh0 hi sl tl (p1 / (100 : Int32)) (p1 - p1 / (100 : Int32) * (100 : Int32)) hq7) (cwV 2 hts gX5_runCommand_X5_isSungOften rfl rfl rfl (by decide +kernel) ⟨Nat.le_of_ble_eq_true rfl, Nat.le_of_ble_eq_true rfl⟩) hK hP [0, 1, 2, 3, 4, 5, 6, 7, 8, 9, 10, 11, 12] rfl 0 5 rfl rfl rfl hS hA rfl hl.1 rfl (Nat.le_of_ble_eq_true rfl) dX5_runCommand_213 ⟨Nat.zero_le _, Nat.zero_le _⟩ (fun H locs hP hS => ?_)
    obtain ⟨hz, hp⟩ := fl_bl_of hp
    obtain rfl := Option.some.inj hp
    exact hfin H locs _ ls hP hD hS dX5_runCommand_216 hz
  replace hp := fl_f hc7 hp
  rcases Decidable.em (p0 = (9 : Int32)) with hc8 | hc8
  · replace hp := fl_t hc8 hp
    refine lv_tableIn (off := 216) (tgt := 217) hx hb dX5_runCommand_1 (by rw [hc8]; decide) (by rw [hc8]; decide) (by rw [hc8]; rfl) (by decide) ?_
    refine lv_iload_n hx hb dX5_runCommand_217 rfl (lv_at hl 2 rfl) ?_
    refine lv_sipush (v := (1000 : Int32)) hx hb dX5_runCommand_218 (by decide) ?_
    refine lv_icmp_ge (tgt := 242) hx hb dX5_runCommand_221 (by decide) (fun hc => ?_) (fun hc => ?_)
    · replace hp := fl_t hc hp
      refine lv_iconst (v := (0 : Int32)) hx hb dX5_runCommand_242 (by decide) ?_
      obtain rfl := Option.some.inj hp
      exact hfin H locs _ ls hP hD hS dX5_runCommand_243 (show narrow .boolean (.int (0 : Int32)) = .int (0 : Int32) from rfl)
    · replace hp := fl_f hc hp
      refine lv_aload_n hx hb dX5_runCommand_224 rfl (lv_at hl 0 rfl) ?_
      refine va_get (D := G.1) (ci := 5) (v := .ref tlh) (C := RX5) (T := TX5) (N := 6) hx hb hts iX5 hown hK.1 hP 0 rfl rfl 2 (by decide) (hts (.fieldLink RX5 25 "SongChoir" "trial" "LSongChoir$Choir;") (List.mem_of_getElem? (i := 1) rfl)) (fun _ h9 => h9) rfl dX5_runCommand_225 ?_
      refine va_get (D := G.1) (ci := 0) (v := .ref tls0) (C := RX0) (T := TX0) (N := 4) hx hb hts iX0 hown hK.1 hP 1 rfl rfl 0 (by decide) (hts (.fieldLink RX5 74 "SongChoir$Choir" "song" "LSongChoir$Song;") (List.mem_of_getElem? (i := 3) rfl)) (fun _ h9 => h9) rfl dX5_runCommand_228 ?_
      refine va_get (D := G.1) (ci := 4) (v := .int tl.1.2.2.2.2.2.2.1) (C := RX4) (T := TX4) (N := 8) hx hb hts iX4 hown hK.1 hP 2 rfl rfl 6 (by decide) (hts (.fieldLink RX5 105 "SongChoir$Song" "handed" "I") (List.mem_of_getElem? (i := 5) rfl)) (fun _ h9 => h9) rfl dX5_runCommand_231 ?_
      refine lv_iload_n hx hb dX5_runCommand_234 rfl (lv_at hl 2 rfl) ?_
      refine lv_icmp_gt (tgt := 242) hx hb dX5_runCommand_235 (by decide) (fun hc => ?_) (fun hc => ?_)
      · replace hp := fl_t hc hp
        refine lv_iconst (v := (0 : Int32)) hx hb dX5_runCommand_242 (by decide) ?_
        obtain rfl := Option.some.inj hp
        exact hfin H locs _ ls hP hD hS dX5_runCommand_243 (show narrow .boolean (.int (0 : Int32)) = .int (0 : Int32) from rfl)
      · replace hp := fl_f hc hp
        refine lv_iconst (v := (1 : Int32)) hx hb dX5_runCommand_238 (by decide) ?_
        refine lv_goto (tgt := 243) hx hb dX5_runCommand_239 (by decide) ?_
        obtain rfl := Option.some.inj hp
        exact hfin H locs _ ls hP hD hS dX5_runCommand_243 (show narrow .boolean (.int (1 : Int32)) = .int (1 : Int32) from rfl)
  replace hp := fl_f hc8 hp
  refine lv_tableOut (tgt := 244) hx hb dX5_runCommand_1 (by have q0 := lv_neT hc0 (a := 1) (by decide); have q1 := lv_neT hc1 (a := 2) (by decide); have q2 := lv_neT hc2 (a := 3) (by decide); have q3 := lv_neT hc3 (a := 4) (by decide); have q4 := lv_neT hc4 (a := 5) (by decide); have q5 := lv_neT hc5 (a := 6) (by decide); have q6 := lv_neT hc6 (a := 7) (by decide); have q7 := lv_neT hc7 (a := 8) (by decide); have q8 := lv_neT hc8 (a := 9) (by decide); omega) (by decide) ?_
  refine lv_iconst (v := (0 : Int32)) hx hb dX5_runCommand_244 (by decide) ?_
  obtain rfl := Option.some.inj hp
  exact hfin H locs _ ls hP hD hS dX5_runCommand_245 (show narrow .boolean (.int (0 : Int32)) = .int (0 : Int32) from rfl)

noncomputable def P_SC_takeSimulated_L67 (tl : fl_Ch) (v3 : Int32) (z67 : (Int32 × Int32 × fl_Ln)) : Option ((Int32 × Int32 × fl_Ln) ⊕ fl_Ln) := if v3 ≤ z67.2.1 then some (.inr z67.2.2) else fl_bd (P_Ln_add 12 z67.2.2 ((97 : Int32) + (z67.1 - z67.1 / (3 : Int32) * (3 : Int32)))) (fun q1 => some (.inl ((z67.1 / (4 : Int32)), (z67.2.1 + (1 : Int32)), q1)))
noncomputable def P_SC_takeSimulated_J42 (tl : fl_Ch) (fh : fl_Ln) (p0 : Int32) : Option fl_Ln := fl_bd (P_Ln_empty 12 fh) (fun q1 => fl_loop (P_SC_takeSimulated_L67 tl ((1 : Int32) + ((p0 / (8 : Int32)) - (p0 / (8 : Int32)) / (4 : Int32) * (4 : Int32)))) ((p0 / (64 : Int32)), (0 : Int32), q1))
noncomputable def P_SC_takeSimulated (tl : fl_Ch) (fh : fl_Ln) (p0 : Int32) : Option fl_Ln := if (p0 - p0 / (4 : Int32) * (4 : Int32)) = 0 then if tl.1.2.2.2.1 ≤ 0 then P_SC_takeSimulated_J42 tl fh p0 else fl_nz tl.1.2.2.2.1 (fl_bd (P_Ln_takeVerse 12 fh tl.1 ((p0 / (8 : Int32)) - (p0 / (8 : Int32)) / tl.1.2.2.2.1 * tl.1.2.2.2.1)) (fun q1 => some q1)) else P_SC_takeSimulated_J42 tl fh p0
set_option maxHeartbeats 4000000 in
set_option maxRecDepth 100000 in
theorem c_SC_takeSimulated (l : Launch) (G : fl_G) (sc tx0 pn0 tlh tls0 tls1 tls2 tlo0 tlo1 tlo2 tlo3 tlo4 tlo5 tlk tlb fh0 fh1 hi sl : Nat) (tl : fl_Ch) (fh : fl_Ln) (p0 : Int32) {r : fl_Ln} (hp0 : P_SC_takeSimulated tl fh p0 = some r) : fl_mu l yX5_takeSimulated wsX5_takeSimulated 3 69 G [.ref sc, .int p0] [(sc, .inr (5, [.ref tx0, .ref pn0, .ref tlh, .ref fh0, .ref hi, .ref sl])), (tlh, .inr (0, [.ref tls0, .ref tlo0, .ref tlk, .ref tlb])), (tls0, .inr (4, [.ref tls1, .ref tls2, .int tl.1.2.2.1, .int tl.1.2.2.2.1, .int tl.1.2.2.2.2.1, .int tl.1.2.2.2.2.2.1, .int tl.1.2.2.2.2.2.2.1, .int tl.1.2.2.2.2.2.2.2])), (tls1, .inl (G.2.1, 48, .inl tl.1.1)), (tls2, .inl (G.2.1, 48, .inl tl.1.2.1)), (tlo0, .inr (3, [.int tl.2.1.1, .ref tlo1, .ref tlo2, .ref tlo3, .ref tlo4, .ref tlo5])), (tlo1, .inl (G.2.1, 48, .inl tl.2.1.2.1)), (tlo2, .inl (G.2.1, 48, .inl tl.2.1.2.2.1)), (tlo3, .inl (G.2.1, 48, .inl tl.2.1.2.2.2.1)), (tlo4, .inl (G.2.1, 48, .inl tl.2.1.2.2.2.2.1)), (tlo5, .inl (G.2.1, 49, .inl tl.2.1.2.2.2.2.2)), (tlk, .inl (G.2.1, 48, .inl tl.2.2.1)), (tlb, .inl (G.2.1, 48, .inl tl.2.2.2)), (fh0, .inr (2, [.ref fh1, .int fh.2])), (fh1, .inl (G.2.1, 12, .inl fh.1))] none [(sc, .inr (5, [.ref tx0, .ref pn0, .ref tlh, .ref fh0, .ref hi, .ref sl])), (tlh, .inr (0, [.ref tls0, .ref tlo0, .ref tlk, .ref tlb])), (tls0, .inr (4, [.ref tls1, .ref tls2, .int tl.1.2.2.1, .int tl.1.2.2.2.1, .int tl.1.2.2.2.2.1, .int tl.1.2.2.2.2.2.1, .int tl.1.2.2.2.2.2.2.1, .int tl.1.2.2.2.2.2.2.2])), (tls1, .inl (G.2.1, 48, .inl tl.1.1)), (tls2, .inl (G.2.1, 48, .inl tl.1.2.1)), (tlo0, .inr (3, [.int tl.2.1.1, .ref tlo1, .ref tlo2, .ref tlo3, .ref tlo4, .ref tlo5])), (tlo1, .inl (G.2.1, 48, .inl tl.2.1.2.1)), (tlo2, .inl (G.2.1, 48, .inl tl.2.1.2.2.1)), (tlo3, .inl (G.2.1, 48, .inl tl.2.1.2.2.2.1)), (tlo4, .inl (G.2.1, 48, .inl tl.2.1.2.2.2.2.1)), (tlo5, .inl (G.2.1, 49, .inl tl.2.1.2.2.2.2.2)), (tlk, .inl (G.2.1, 48, .inl tl.2.2.1)), (tlb, .inl (G.2.1, 48, .inl tl.2.2.2)), (fh0, .inr (2, [.ref fh1, .int r.2])), (fh1, .inl (G.2.1, 12, .inl r.1))] := by
  refine fl_muv_in cX5_takeSimulated 6 RX5 (by decide) rfl rfl (Nat.le_of_ble_eq_true rfl) ?_
  intro p e s m args below meth c ls A Q H locs C0 hK hP hD hS hA hl hfin
  obtain ⟨hx, hb, hml, hown, hts⟩ := id C0
  have iX0 : ∀ w ∈ u_ws RX0 TX0 4, w ∈ wsX5_takeSimulated := fun _ h => List.mem_cons_of_mem _ (List.mem_append_left _ (List.mem_append_left _ (List.mem_append_right _ h)))
  have iX4 : ∀ w ∈ u_ws RX4 TX4 8, w ∈ wsX5_takeSimulated := fun _ h => List.mem_cons_of_mem _ (List.mem_append_left _ (List.mem_append_right _ h))
  have iX5 : ∀ w ∈ u_ws RX5 TX5 6, w ∈ wsX5_takeSimulated := fun _ h => List.mem_cons_of_mem _ (List.mem_append_left _ (List.mem_append_left _ (List.mem_append_left _ (List.mem_append_right _ h))))
  have hl : lv_has ls 6 [(0, .ref sc), (1, .int p0)] := hl
  have KL67 : ∀ (v3 : Int32) (n0 : Nat) (z67 : (Int32 × Int32 × fl_Ln)) (H : Heap) (locs : List Loc), va_P G.1 vwCl [(sc, .inr (5, [.ref tx0, .ref pn0, .ref tlh, .ref fh0, .ref hi, .ref sl])), (tlh, .inr (0, [.ref tls0, .ref tlo0, .ref tlk, .ref tlb])), (tls0, .inr (4, [.ref tls1, .ref tls2, .int tl.1.2.2.1, .int tl.1.2.2.2.1, .int tl.1.2.2.2.2.1, .int tl.1.2.2.2.2.2.1, .int tl.1.2.2.2.2.2.2.1, .int tl.1.2.2.2.2.2.2.2])), (tls1, .inl (G.2.1, 48, .inl tl.1.1)), (tls2, .inl (G.2.1, 48, .inl tl.1.2.1)), (tlo0, .inr (3, [.int tl.2.1.1, .ref tlo1, .ref tlo2, .ref tlo3, .ref tlo4, .ref tlo5])), (tlo1, .inl (G.2.1, 48, .inl tl.2.1.2.1)), (tlo2, .inl (G.2.1, 48, .inl tl.2.1.2.2.1)), (tlo3, .inl (G.2.1, 48, .inl tl.2.1.2.2.2.1)), (tlo4, .inl (G.2.1, 48, .inl tl.2.1.2.2.2.2.1)), (tlo5, .inl (G.2.1, 49, .inl tl.2.1.2.2.2.2.2)), (tlk, .inl (G.2.1, 48, .inl tl.2.2.1)), (tlb, .inl (G.2.1, 48, .inl tl.2.2.2)), (fh0, .inr (2, [.ref fh1, .int z67.2.2.2])), (fh1, .inl (G.2.1, 12, .inl z67.2.2.1))] H → va_D A [(sc, .inr (5, [.ref tx0, .ref pn0, .ref tlh, .ref fh0, .ref hi, .ref sl])), (tlh, .inr (0, [.ref tls0, .ref tlo0, .ref tlk, .ref tlb])), (tls0, .inr (4, [.ref tls1, .ref tls2, .int tl.1.2.2.1, .int tl.1.2.2.2.1, .int tl.1.2.2.2.2.1, .int tl.1.2.2.2.2.2.1, .int tl.1.2.2.2.2.2.2.1, .int tl.1.2.2.2.2.2.2.2])), (tls1, .inl (G.2.1, 48, .inl tl.1.1)), (tls2, .inl (G.2.1, 48, .inl tl.1.2.1)), (tlo0, .inr (3, [.int tl.2.1.1, .ref tlo1, .ref tlo2, .ref tlo3, .ref tlo4, .ref tlo5])), (tlo1, .inl (G.2.1, 48, .inl tl.2.1.2.1)), (tlo2, .inl (G.2.1, 48, .inl tl.2.1.2.2.1)), (tlo3, .inl (G.2.1, 48, .inl tl.2.1.2.2.2.1)), (tlo4, .inl (G.2.1, 48, .inl tl.2.1.2.2.2.2.1)), (tlo5, .inl (G.2.1, 49, .inl tl.2.1.2.2.2.2.2)), (tlk, .inl (G.2.1, 48, .inl tl.2.2.1)), (tlb, .inl (G.2.1, 48, .inl tl.2.2.2)), (fh0, .inr (2, [.ref fh1, .int z67.2.2.2])), (fh1, .inl (G.2.1, 12, .inl z67.2.2.1))] → va_S A s.heap H locs → ∀ (ls : Array Slot), lv_has ls 6 [(0, .ref sc), (3, .int v3), (4, .int z67.1), (5, .int z67.2.1)] → fl_loopN (P_SC_takeSimulated_L67 tl v3) n0 z67 = some r → W p l e (fl_rm 3 69) s m args below meth c H locs 0 0 Q (F0 m 67 ls []) := by
    intro v3 n0
    induction n0 with
    | zero => intro z67 H locs hP hD hS ls hl hn; exact (fl_loopN_0 hn).elim
    | succ n0 ih67 =>
      intro z67 H locs hP hD hS ls hl hn
      obtain ⟨y67, hb67, hy67⟩ := fl_loopN_step hn
      clear hn
      have hp := hb67
      unfold P_SC_takeSimulated_L67 at hp
      refine lv_iload hx hb dX5_takeSimulated_67 (lv_at hl 3 rfl) ?_
      refine lv_iload_n hx hb dX5_takeSimulated_69 rfl (lv_at hl 1 rfl) ?_
      refine lv_icmp_ge (tgt := 99) hx hb dX5_takeSimulated_70 (by decide) (fun hc => ?_) (fun hc => ?_)
      · replace hp := fl_t hc hp
        obtain rfl := Option.some.inj hp
        obtain rfl := fl_cont_inr hy67
        exact hfin H locs _ ls hP hD hS dX5_takeSimulated_99
      · replace hp := fl_f hc hp
        refine lv_aload_n hx hb dX5_takeSimulated_73 rfl (lv_at hl 0 rfl) ?_
        refine va_get (D := G.1) (ci := 5) (v := .ref fh0) (C := RX5) (T := TX5) (N := 6) hx hb hts iX5 hown hK.1 hP 0 rfl rfl 3 (by decide) (hts (.fieldLink RX5 28 "SongChoir" "fresh" "LSongChoir$Line;") (List.mem_of_getElem? (i := 4) rfl)) (fun _ h9 => h9) rfl dX5_takeSimulated_74 ?_
        refine lv_bipush (v := (97 : Int32)) hx hb dX5_takeSimulated_77 (by decide) ?_
        refine lv_iload hx hb dX5_takeSimulated_79 (lv_at hl 2 rfl) ?_
        refine lv_iconst (v := (3 : Int32)) hx hb dX5_takeSimulated_81 (by decide) ?_
        refine lv_irem hx hb dX5_takeSimulated_82 (by decide) ?_
        refine lv_iadd hx hb dX5_takeSimulated_83 ?_
        obtain ⟨q1, hq1, hp⟩ := fl_bd_of hp
        refine fl_muV (As := [.int ((97 : Int32) + (z67.1 - z67.1 / (3 : Int32) * (3 : Int32)))]) (rest := []) [(sc, .inr (5, [.ref tx0, .ref pn0, .ref tlh, .ref fh0, .ref hi, .ref sl])), (tlh, .inr (0, [.ref tls0, .ref tlo0, .ref tlk, .ref tlb])), (tls0, .inr (4, [.ref tls1, .ref tls2, .int tl.1.2.2.1, .int tl.1.2.2.2.1, .int tl.1.2.2.2.2.1, .int tl.1.2.2.2.2.2.1, .int tl.1.2.2.2.2.2.2.1, .int tl.1.2.2.2.2.2.2.2])), (tls1, .inl (G.2.1, 48, .inl tl.1.1)), (tls2, .inl (G.2.1, 48, .inl tl.1.2.1)), (tlo0, .inr (3, [.int tl.2.1.1, .ref tlo1, .ref tlo2, .ref tlo3, .ref tlo4, .ref tlo5])), (tlo1, .inl (G.2.1, 48, .inl tl.2.1.2.1)), (tlo2, .inl (G.2.1, 48, .inl tl.2.1.2.2.1)), (tlo3, .inl (G.2.1, 48, .inl tl.2.1.2.2.2.1)), (tlo4, .inl (G.2.1, 48, .inl tl.2.1.2.2.2.2.1)), (tlo5, .inl (G.2.1, 49, .inl tl.2.1.2.2.2.2.2)), (tlk, .inl (G.2.1, 48, .inl tl.2.2.1)), (tlb, .inl (G.2.1, 48, .inl tl.2.2.2)), (fh0, .inr (2, [.ref fh1, .int q1.2])), (fh1, .inl (G.2.1, 12, .inl q1.1))] C0 (c_Ln_add l G 12 fh0 fh1 z67.2.2 ((97 : Int32) + (z67.1 - z67.1 / (3 : Int32) * (3 : Int32))) hq1) (cwV 1 hts gX5_takeSimulated_X2_add rfl rfl rfl (by decide +kernel) ⟨Nat.le_of_ble_eq_true rfl, Nat.le_of_ble_eq_true rfl⟩) hK hP hD [13, 14] [0, 1, 2, 3, 4, 5, 6, 7, 8, 9, 10, 11, 12] [0, 1, 2, 3, 4, 5, 6, 7, 8, 9, 10, 11, 12, 13, 14] rfl rfl (by decide) (by decide) rfl 13 2 rfl rfl rfl hS hA rfl hl.1 rfl (Nat.le_of_ble_eq_true rfl) dX5_takeSimulated_84 ⟨Nat.zero_le _, Nat.zero_le _⟩ (fun H locs hP hD hS => ?_)
        refine lv_iload hx hb dX5_takeSimulated_87 (lv_at hl 2 rfl) ?_
        refine lv_iconst (v := (4 : Int32)) hx hb dX5_takeSimulated_89 (by decide) ?_
        refine lv_idiv hx hb dX5_takeSimulated_90 (by decide) ?_
        refine lv_istore (lv' := [(4, .int (z67.1 / (4 : Int32))), (0, .ref sc), (3, .int v3), (5, .int z67.2.1)]) hx hb dX5_takeSimulated_91 hl (by decide) rfl (fun ls hl => ?_)
        refine lv_iinc (v := (z67.2.1 + (1 : Int32))) (lv' := [(5, .int (z67.2.1 + (1 : Int32))), (4, .int (z67.1 / (4 : Int32))), (0, .ref sc), (3, .int v3)]) hx hb dX5_takeSimulated_93 hl (k := 3) rfl rfl (by decide) rfl (fun ls hl => ?_)
        refine lv_goto (tgt := 67) hx hb dX5_takeSimulated_96 (by decide) ?_
        obtain rfl := Option.some.inj hp
        exact ih67 ((z67.1 / (4 : Int32)), (z67.2.1 + (1 : Int32)), q1) H locs hP hD hS ls (lv_sub hl [2, 3, 1, 0] rfl) (fl_cont_inl hy67)
  have KJ42 : ∀ (fh : fl_Ln) (H : Heap) (locs : List Loc), va_P G.1 vwCl [(sc, .inr (5, [.ref tx0, .ref pn0, .ref tlh, .ref fh0, .ref hi, .ref sl])), (tlh, .inr (0, [.ref tls0, .ref tlo0, .ref tlk, .ref tlb])), (tls0, .inr (4, [.ref tls1, .ref tls2, .int tl.1.2.2.1, .int tl.1.2.2.2.1, .int tl.1.2.2.2.2.1, .int tl.1.2.2.2.2.2.1, .int tl.1.2.2.2.2.2.2.1, .int tl.1.2.2.2.2.2.2.2])), (tls1, .inl (G.2.1, 48, .inl tl.1.1)), (tls2, .inl (G.2.1, 48, .inl tl.1.2.1)), (tlo0, .inr (3, [.int tl.2.1.1, .ref tlo1, .ref tlo2, .ref tlo3, .ref tlo4, .ref tlo5])), (tlo1, .inl (G.2.1, 48, .inl tl.2.1.2.1)), (tlo2, .inl (G.2.1, 48, .inl tl.2.1.2.2.1)), (tlo3, .inl (G.2.1, 48, .inl tl.2.1.2.2.2.1)), (tlo4, .inl (G.2.1, 48, .inl tl.2.1.2.2.2.2.1)), (tlo5, .inl (G.2.1, 49, .inl tl.2.1.2.2.2.2.2)), (tlk, .inl (G.2.1, 48, .inl tl.2.2.1)), (tlb, .inl (G.2.1, 48, .inl tl.2.2.2)), (fh0, .inr (2, [.ref fh1, .int fh.2])), (fh1, .inl (G.2.1, 12, .inl fh.1))] H → va_D A [(sc, .inr (5, [.ref tx0, .ref pn0, .ref tlh, .ref fh0, .ref hi, .ref sl])), (tlh, .inr (0, [.ref tls0, .ref tlo0, .ref tlk, .ref tlb])), (tls0, .inr (4, [.ref tls1, .ref tls2, .int tl.1.2.2.1, .int tl.1.2.2.2.1, .int tl.1.2.2.2.2.1, .int tl.1.2.2.2.2.2.1, .int tl.1.2.2.2.2.2.2.1, .int tl.1.2.2.2.2.2.2.2])), (tls1, .inl (G.2.1, 48, .inl tl.1.1)), (tls2, .inl (G.2.1, 48, .inl tl.1.2.1)), (tlo0, .inr (3, [.int tl.2.1.1, .ref tlo1, .ref tlo2, .ref tlo3, .ref tlo4, .ref tlo5])), (tlo1, .inl (G.2.1, 48, .inl tl.2.1.2.1)), (tlo2, .inl (G.2.1, 48, .inl tl.2.1.2.2.1)), (tlo3, .inl (G.2.1, 48, .inl tl.2.1.2.2.2.1)), (tlo4, .inl (G.2.1, 48, .inl tl.2.1.2.2.2.2.1)), (tlo5, .inl (G.2.1, 49, .inl tl.2.1.2.2.2.2.2)), (tlk, .inl (G.2.1, 48, .inl tl.2.2.1)), (tlb, .inl (G.2.1, 48, .inl tl.2.2.2)), (fh0, .inr (2, [.ref fh1, .int fh.2])), (fh1, .inl (G.2.1, 12, .inl fh.1))] → va_S A s.heap H locs → ∀ (ls : Array Slot), lv_has ls 6 [(0, .ref sc), (1, .int p0)] → P_SC_takeSimulated_J42 tl fh p0 = some r → W p l e (fl_rm 3 69) s m args below meth c H locs 0 0 Q (F0 m 42 ls []) := by
    intro fh H locs hP hD hS ls hl hp
    unfold P_SC_takeSimulated_J42 at hp
    refine lv_aload_n hx hb dX5_takeSimulated_42 rfl (lv_at hl 0 rfl) ?_
    refine va_get (D := G.1) (ci := 5) (v := .ref fh0) (C := RX5) (T := TX5) (N := 6) hx hb hts iX5 hown hK.1 hP 0 rfl rfl 3 (by decide) (hts (.fieldLink RX5 28 "SongChoir" "fresh" "LSongChoir$Line;") (List.mem_of_getElem? (i := 4) rfl)) (fun _ h9 => h9) rfl dX5_takeSimulated_43 ?_
    obtain ⟨q1, hq1, hp⟩ := fl_bd_of hp
    refine fl_muV (As := []) (rest := []) [(sc, .inr (5, [.ref tx0, .ref pn0, .ref tlh, .ref fh0, .ref hi, .ref sl])), (tlh, .inr (0, [.ref tls0, .ref tlo0, .ref tlk, .ref tlb])), (tls0, .inr (4, [.ref tls1, .ref tls2, .int tl.1.2.2.1, .int tl.1.2.2.2.1, .int tl.1.2.2.2.2.1, .int tl.1.2.2.2.2.2.1, .int tl.1.2.2.2.2.2.2.1, .int tl.1.2.2.2.2.2.2.2])), (tls1, .inl (G.2.1, 48, .inl tl.1.1)), (tls2, .inl (G.2.1, 48, .inl tl.1.2.1)), (tlo0, .inr (3, [.int tl.2.1.1, .ref tlo1, .ref tlo2, .ref tlo3, .ref tlo4, .ref tlo5])), (tlo1, .inl (G.2.1, 48, .inl tl.2.1.2.1)), (tlo2, .inl (G.2.1, 48, .inl tl.2.1.2.2.1)), (tlo3, .inl (G.2.1, 48, .inl tl.2.1.2.2.2.1)), (tlo4, .inl (G.2.1, 48, .inl tl.2.1.2.2.2.2.1)), (tlo5, .inl (G.2.1, 49, .inl tl.2.1.2.2.2.2.2)), (tlk, .inl (G.2.1, 48, .inl tl.2.2.1)), (tlb, .inl (G.2.1, 48, .inl tl.2.2.2)), (fh0, .inr (2, [.ref fh1, .int q1.2])), (fh1, .inl (G.2.1, 12, .inl q1.1))] C0 (c_Ln_empty l G 12 fh0 fh1 fh hq1) (cwV 0 hts gX5_takeSimulated_X2_empty rfl rfl rfl (by decide +kernel) ⟨Nat.le_of_ble_eq_true rfl, Nat.le_of_ble_eq_true rfl⟩) hK hP hD [13, 14] [0, 1, 2, 3, 4, 5, 6, 7, 8, 9, 10, 11, 12] [0, 1, 2, 3, 4, 5, 6, 7, 8, 9, 10, 11, 12, 13, 14] rfl rfl (by decide) (by decide) rfl 13 2 rfl rfl rfl hS hA rfl hl.1 rfl (Nat.le_of_ble_eq_true rfl) dX5_takeSimulated_46 ⟨Nat.zero_le _, Nat.zero_le _⟩ (fun H locs hP hD hS => ?_)
    refine lv_iconst (v := (1 : Int32)) hx hb dX5_takeSimulated_49 (by decide) ?_
    refine lv_iload_n hx hb dX5_takeSimulated_50 rfl (lv_at hl 1 rfl) ?_
    refine lv_bipush (v := (8 : Int32)) hx hb dX5_takeSimulated_51 (by decide) ?_
    refine lv_idiv hx hb dX5_takeSimulated_53 (by decide) ?_
    refine lv_iconst (v := (4 : Int32)) hx hb dX5_takeSimulated_54 (by decide) ?_
    refine lv_irem hx hb dX5_takeSimulated_55 (by decide) ?_
    refine lv_iadd hx hb dX5_takeSimulated_56 ?_
    refine lv_istore_n (lv' := [(3, .int ((1 : Int32) + ((p0 / (8 : Int32)) - (p0 / (8 : Int32)) / (4 : Int32) * (4 : Int32)))), (0, .ref sc), (1, .int p0)]) hx hb dX5_takeSimulated_57 rfl hl (by decide) rfl (fun ls hl => ?_)
    refine lv_iload_n hx hb dX5_takeSimulated_58 rfl (lv_at hl 2 rfl) ?_
    refine lv_bipush (v := (64 : Int32)) hx hb dX5_takeSimulated_59 (by decide) ?_
    refine lv_idiv hx hb dX5_takeSimulated_61 (by decide) ?_
    refine lv_istore (lv' := [(4, .int (p0 / (64 : Int32))), (3, .int ((1 : Int32) + ((p0 / (8 : Int32)) - (p0 / (8 : Int32)) / (4 : Int32) * (4 : Int32)))), (0, .ref sc), (1, .int p0)]) hx hb dX5_takeSimulated_62 hl (by decide) rfl (fun ls hl => ?_)
    refine lv_iconst (v := (0 : Int32)) hx hb dX5_takeSimulated_64 (by decide) ?_
    refine lv_istore (lv' := [(5, .int (0 : Int32)), (4, .int (p0 / (64 : Int32))), (3, .int ((1 : Int32) + ((p0 / (8 : Int32)) - (p0 / (8 : Int32)) / (4 : Int32) * (4 : Int32)))), (0, .ref sc), (1, .int p0)]) hx hb dX5_takeSimulated_65 hl (by decide) rfl (fun ls hl => ?_)
    obtain ⟨n0, hn⟩ := fl_loop_ex hp
    exact KL67 ((1 : Int32) + ((p0 / (8 : Int32)) - (p0 / (8 : Int32)) / (4 : Int32) * (4 : Int32))) n0 ((p0 / (64 : Int32)), (0 : Int32), q1) H locs hP hD hS ls (lv_sub hl [3, 2, 1, 0] rfl) hn
  have hp := hp0
  unfold P_SC_takeSimulated at hp
  refine lv_aload_n hx hb dX5_takeSimulated_0 rfl (lv_at hl 0 rfl) ?_
  refine va_get (D := G.1) (ci := 5) (v := .ref tlh) (C := RX5) (T := TX5) (N := 6) hx hb hts iX5 hown hK.1 hP 0 rfl rfl 2 (by decide) (hts (.fieldLink RX5 25 "SongChoir" "trial" "LSongChoir$Choir;") (List.mem_of_getElem? (i := 1) rfl)) (fun _ h9 => h9) rfl dX5_takeSimulated_1 ?_
  refine va_get (D := G.1) (ci := 0) (v := .ref tls0) (C := RX0) (T := TX0) (N := 4) hx hb hts iX0 hown hK.1 hP 1 rfl rfl 0 (by decide) (hts (.fieldLink RX5 74 "SongChoir$Choir" "song" "LSongChoir$Song;") (List.mem_of_getElem? (i := 2) rfl)) (fun _ h9 => h9) rfl dX5_takeSimulated_4 ?_
  refine va_get (D := G.1) (ci := 4) (v := .int tl.1.2.2.2.1) (C := RX4) (T := TX4) (N := 8) hx hb hts iX4 hown hK.1 hP 2 rfl rfl 3 (by decide) (hts (.fieldLink RX5 81 "SongChoir$Song" "verses" "I") (List.mem_of_getElem? (i := 3) rfl)) (fun _ h9 => h9) rfl dX5_takeSimulated_7 ?_
  refine lv_istore_n (lv' := [(2, .int tl.1.2.2.2.1), (0, .ref sc), (1, .int p0)]) hx hb dX5_takeSimulated_10 rfl hl (by decide) rfl (fun ls hl => ?_)
  refine lv_iload_n hx hb dX5_takeSimulated_11 rfl (lv_at hl 2 rfl) ?_
  refine lv_iconst (v := (4 : Int32)) hx hb dX5_takeSimulated_12 (by decide) ?_
  refine lv_irem hx hb dX5_takeSimulated_13 (by decide) ?_
  refine lv_if_ne (tgt := 42) hx hb dX5_takeSimulated_14 (by decide) (fun hc => ?_) (fun hc => ?_)
  · replace hp := fl_f hc hp
    exact KJ42 fh H locs hP hD hS ls (lv_sub hl [1, 2] rfl) hp
  · replace hp := fl_t hc hp
    refine lv_iload_n hx hb dX5_takeSimulated_17 rfl (lv_at hl 0 rfl) ?_
    refine lv_if_le (tgt := 42) hx hb dX5_takeSimulated_18 (by decide) (fun hc => ?_) (fun hc => ?_)
    · replace hp := fl_t hc hp
      exact KJ42 fh H locs hP hD hS ls (lv_sub hl [1, 2] rfl) hp
    · replace hp := fl_f hc hp
      refine lv_aload_n hx hb dX5_takeSimulated_21 rfl (lv_at hl 1 rfl) ?_
      refine va_get (D := G.1) (ci := 5) (v := .ref fh0) (C := RX5) (T := TX5) (N := 6) hx hb hts iX5 hown hK.1 hP 0 rfl rfl 3 (by decide) (hts (.fieldLink RX5 28 "SongChoir" "fresh" "LSongChoir$Line;") (List.mem_of_getElem? (i := 4) rfl)) (fun _ h9 => h9) rfl dX5_takeSimulated_22 ?_
      refine lv_aload_n hx hb dX5_takeSimulated_25 rfl (lv_at hl 1 rfl) ?_
      refine va_get (D := G.1) (ci := 5) (v := .ref tlh) (C := RX5) (T := TX5) (N := 6) hx hb hts iX5 hown hK.1 hP 0 rfl rfl 2 (by decide) (hts (.fieldLink RX5 25 "SongChoir" "trial" "LSongChoir$Choir;") (List.mem_of_getElem? (i := 1) rfl)) (fun _ h9 => h9) rfl dX5_takeSimulated_26 ?_
      refine va_get (D := G.1) (ci := 0) (v := .ref tls0) (C := RX0) (T := TX0) (N := 4) hx hb hts iX0 hown hK.1 hP 1 rfl rfl 0 (by decide) (hts (.fieldLink RX5 74 "SongChoir$Choir" "song" "LSongChoir$Song;") (List.mem_of_getElem? (i := 2) rfl)) (fun _ h9 => h9) rfl dX5_takeSimulated_29 ?_
      refine lv_iload_n hx hb dX5_takeSimulated_32 rfl (lv_at hl 2 rfl) ?_
      refine lv_bipush (v := (8 : Int32)) hx hb dX5_takeSimulated_33 (by decide) ?_
      refine lv_idiv hx hb dX5_takeSimulated_35 (by decide) ?_
      refine lv_iload_n hx hb dX5_takeSimulated_36 rfl (lv_at hl 0 rfl) ?_
      obtain ⟨hne, hp⟩ := fl_nz_of hp
      refine lv_irem hx hb dX5_takeSimulated_37 hne ?_
      obtain ⟨q1, hq1, hp⟩ := fl_bd_of hp
      refine fl_muV (As := [.ref tls0, .int ((p0 / (8 : Int32)) - (p0 / (8 : Int32)) / tl.1.2.2.2.1 * tl.1.2.2.2.1)]) (rest := []) [(sc, .inr (5, [.ref tx0, .ref pn0, .ref tlh, .ref fh0, .ref hi, .ref sl])), (tlh, .inr (0, [.ref tls0, .ref tlo0, .ref tlk, .ref tlb])), (tls0, .inr (4, [.ref tls1, .ref tls2, .int tl.1.2.2.1, .int tl.1.2.2.2.1, .int tl.1.2.2.2.2.1, .int tl.1.2.2.2.2.2.1, .int tl.1.2.2.2.2.2.2.1, .int tl.1.2.2.2.2.2.2.2])), (tls1, .inl (G.2.1, 48, .inl tl.1.1)), (tls2, .inl (G.2.1, 48, .inl tl.1.2.1)), (tlo0, .inr (3, [.int tl.2.1.1, .ref tlo1, .ref tlo2, .ref tlo3, .ref tlo4, .ref tlo5])), (tlo1, .inl (G.2.1, 48, .inl tl.2.1.2.1)), (tlo2, .inl (G.2.1, 48, .inl tl.2.1.2.2.1)), (tlo3, .inl (G.2.1, 48, .inl tl.2.1.2.2.2.1)), (tlo4, .inl (G.2.1, 48, .inl tl.2.1.2.2.2.2.1)), (tlo5, .inl (G.2.1, 49, .inl tl.2.1.2.2.2.2.2)), (tlk, .inl (G.2.1, 48, .inl tl.2.2.1)), (tlb, .inl (G.2.1, 48, .inl tl.2.2.2)), (fh0, .inr (2, [.ref fh1, .int q1.2])), (fh1, .inl (G.2.1, 12, .inl q1.1))] C0 (c_Ln_takeVerse l G 12 fh0 fh1 tls0 tls1 tls2 fh tl.1 ((p0 / (8 : Int32)) - (p0 / (8 : Int32)) / tl.1.2.2.2.1 * tl.1.2.2.2.1) hq1) (cwV 2 hts gX5_takeSimulated_X2_takeVerse rfl rfl rfl (by decide +kernel) ⟨Nat.le_of_ble_eq_true rfl, Nat.le_of_ble_eq_true rfl⟩) hK hP hD [13, 14, 2, 3, 4] [0, 1, 5, 6, 7, 8, 9, 10, 11, 12] [0, 1, 12, 13, 14, 2, 3, 4, 5, 6, 7, 8, 9, 10, 11] rfl rfl (by decide) (by decide) rfl 13 2 rfl rfl rfl hS hA rfl hl.1 rfl (Nat.le_of_ble_eq_true rfl) dX5_takeSimulated_38 ⟨Nat.zero_le _, Nat.zero_le _⟩ (fun H locs hP hD hS => ?_)
      obtain rfl := Option.some.inj hp
      exact hfin H locs _ ls hP hD hS dX5_takeSimulated_41
