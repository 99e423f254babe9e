noncomputable def P_M_thrown (rf : Int32) : Option Int32 := some rf
set_option maxHeartbeats 4000000 in
set_option maxRecDepth 100000 in
theorem c_M_thrown (l : Launch) (G : fl_G) (mo a_sc a_nw a_tr a_di a_ke a_ik a_od a_rk a_be a_fr : Nat) (ss : Int32) (ac : Int32) (fs : Int32) (rf : Int32) {r : Int32} (hp0 : P_M_thrown rf = some r) : fl_ro l yX6_thrown wsX6_thrown 0 0 G [.ref mo] [(mo, .inr (6, [.int rf, .ref a_sc, .int ss, .ref a_nw, .ref a_tr, .ref a_di, .int ac, .ref a_ke, .ref a_ik, .ref a_od, .ref a_rk, .ref a_be, .ref a_fr, .int fs]))] (.int r) := by
  refine fl_ro_in cX6_thrown 1 .int RX6 (by decide) rfl rfl (Nat.le_of_ble_eq_true rfl) ?_
  intro p e s m args below meth c ls Q H locs C0 hK hP hS hl hfin
  have hA : ∀ q : Nat, s.heap.size ≤ q → va_A [] s.heap.size q := fl_hA _ _
  obtain ⟨hx, hb, hml, hown, hts⟩ := id C0
  have iX6 : ∀ w ∈ u_ws RX6 TX6 14, w ∈ wsX6_thrown := fun _ h => List.mem_cons_of_mem _ (List.mem_append_right _ h)
  have hl : lv_has ls 1 [(0, .ref mo)] := hl
  have hp := hp0
  unfold P_M_thrown at hp
  refine lv_aload_n hx hb dX6_thrown_0 rfl (lv_at hl 0 rfl) ?_
  refine va_get (D := G.1) (ci := 6) (v := .int rf) (C := RX6) (T := TX6) (N := 14) hx hb hts iX6 hown hK.1 hP 0 rfl rfl 0 (by decide) (hts (.fieldLink RX6 41 "SongChoirModel" "refusal" "I") (List.mem_of_getElem? (i := 1) rfl)) (fun _ h9 => h9) rfl dX6_thrown_1 ?_
  obtain rfl := Option.some.inj hp
  exact hfin H locs _ ls hS dX6_thrown_4 rfl

noncomputable def P_M_refused (rf : Int32) (p0 : Int32) : Option (Int32 × Int32) := if p0 ≤ 0 then some ((0 : Int32), p0) else some ((1 : Int32), p0)
set_option maxHeartbeats 4000000 in
set_option maxRecDepth 100000 in
theorem c_M_refused (l : Launch) (G : fl_G) (mo a_sc a_nw a_tr a_di a_ke a_ik a_od a_rk a_be a_fr : Nat) (ss : Int32) (ac : Int32) (fs : Int32) (rf : Int32) (p0 : Int32) {r : (Int32 × Int32)} (hp0 : P_M_refused rf p0 = some r) : fl_mu l yX6_refused wsX6_refused 0 0 G [.ref mo, .int p0] [(mo, .inr (6, [.int rf, .ref a_sc, .int ss, .ref a_nw, .ref a_tr, .ref a_di, .int ac, .ref a_ke, .ref a_ik, .ref a_od, .ref a_rk, .ref a_be, .ref a_fr, .int fs]))] (some (.int r.1)) [(mo, .inr (6, [.int r.2, .ref a_sc, .int ss, .ref a_nw, .ref a_tr, .ref a_di, .int ac, .ref a_ke, .ref a_ik, .ref a_od, .ref a_rk, .ref a_be, .ref a_fr, .int fs]))] := by
  refine fl_mui_in cX6_refused 2 .boolean RX6 (by decide) rfl rfl (Nat.le_of_ble_eq_true rfl) ?_
  intro p e s m args below meth c ls A Q H locs C0 hK hP hD hS hA hl hfin
  obtain ⟨hx, hb, hml, hown, hts⟩ := id C0
  have iX6 : ∀ w ∈ u_ws RX6 TX6 14, w ∈ wsX6_refused := fun _ h => List.mem_cons_of_mem _ (List.mem_append_right _ h)
  have hl : lv_has ls 2 [(0, .ref mo), (1, .int p0)] := hl
  have hp := hp0
  unfold P_M_refused at hp
  refine lv_aload_n hx hb dX6_refused_0 rfl (lv_at hl 0 rfl) ?_
  refine lv_iload_n hx hb dX6_refused_1 rfl (lv_at hl 1 rfl) ?_
  refine va_put (D := G.1) (ci := 6) (v := .int p0) (ty := .int) (C := RX6) (T := TX6) (N := 14) hx hb hts iX6 tyX6 tyX6_ok nmX6 hown hK.1 hP hD hS 0 rfl rfl 0 (by decide) (hts (.fieldLink RX6 41 "SongChoirModel" "refusal" "I") (List.mem_of_getElem? (i := 1) rfl)) (fun _ h9 => h9) rfl (by decide +kernel) rfl rfl (Nat.le_of_ble_eq_true rfl) dX6_refused_2 (fun H locs hP hD hS => ?_)
  have hP : va_P G.1 vwCl [(mo, .inr (6, [.int p0, .ref a_sc, .int ss, .ref a_nw, .ref a_tr, .ref a_di, .int ac, .ref a_ke, .ref a_ik, .ref a_od, .ref a_rk, .ref a_be, .ref a_fr, .int fs]))] H := hP
  have hD : va_D A [(mo, .inr (6, [.int p0, .ref a_sc, .int ss, .ref a_nw, .ref a_tr, .ref a_di, .int ac, .ref a_ke, .ref a_ik, .ref a_od, .ref a_rk, .ref a_be, .ref a_fr, .int fs]))] := hD
  refine lv_iload_n hx hb dX6_refused_5 rfl (lv_at hl 1 rfl) ?_
  refine lv_if_le (tgt := 13) hx hb dX6_refused_6 (by decide) (fun hc => ?_) (fun hc => ?_)
  · replace hp := fl_t hc hp
    refine lv_iconst (v := (0 : Int32)) hx hb dX6_refused_13 (by decide) ?_
    obtain rfl := Option.some.inj hp
    exact hfin H locs _ ls hP hD hS dX6_refused_14 (show narrow .boolean (.int (0 : Int32)) = .int (0 : Int32) from rfl)
  · replace hp := fl_f hc hp
    refine lv_iconst (v := (1 : Int32)) hx hb dX6_refused_9 (by decide) ?_
    refine lv_goto (tgt := 14) hx hb dX6_refused_10 (by decide) ?_
    obtain rfl := Option.some.inj hp
    exact hfin H locs _ ls hP hD hS dX6_refused_14 (show narrow .boolean (.int (1 : Int32)) = .int (1 : Int32) from rfl)

noncomputable def P_M_in (p0 : Int64) (p1 : Int64) (p2 : Int64) : Option Int32 := if (lg_cmp p0 p1) < 0 then some (0 : Int32) else if 0 < (lg_cmp p0 p2) then some (0 : Int32) else some (1 : Int32)
set_option maxHeartbeats 4000000 in
set_option maxRecDepth 100000 in
theorem c_M_in (l : Launch) (G : fl_G) (p0 : Int64) (p1 : Int64) (p2 : Int64) {r : Int32} (hp0 : P_M_in p0 p1 p2 = some r) : fl_ro l yX6_in wsX6_in 0 0 G [.long p0, .long p1, .long p2] [] (.int r) := by
  refine fl_ro_in cX6_in 6 .boolean RX6 (by decide) rfl rfl (Nat.le_of_ble_eq_true rfl) ?_
  intro p e s m args below meth c ls Q H locs C0 hK hP hS hl hfin
  have hA : ∀ q : Nat, s.heap.size ≤ q → va_A [] s.heap.size q := fl_hA _ _
  obtain ⟨hx, hb, hml, hown, hts⟩ := id C0
  have hl : lv_has ls 6 [(0, .long p0), (2, .long p1), (4, .long p2)] := hl
  have hp := hp0
  unfold P_M_in at hp
  refine lv_lload_n hx hb dX6_in_0 rfl (lv_at hl 0 rfl) ?_
  refine lv_lload_n hx hb dX6_in_1 rfl (lv_at hl 1 rfl) ?_
  refine W.lcmp hx hb dX6_in_2 ?_
  refine lv_if_lt (tgt := 17) hx hb dX6_in_3 (by decide) (fun hc => ?_) (fun hc => ?_)
  · replace hp := fl_t hc hp
    refine lv_iconst (v := (0 : Int32)) hx hb dX6_in_17 (by decide) ?_
    obtain rfl := Option.some.inj hp
    exact hfin H locs _ ls hS dX6_in_18 (show narrow .boolean (.int (0 : Int32)) = .int (0 : Int32) from rfl)
  · replace hp := fl_f hc hp
    refine lv_lload_n hx hb dX6_in_6 rfl (lv_at hl 0 rfl) ?_
    refine lv_lload hx hb dX6_in_7 (lv_at hl 2 rfl) ?_
    refine W.lcmp hx hb dX6_in_9 ?_
    refine lv_if_gt (tgt := 17) hx hb dX6_in_10 (by decide) (fun hc => ?_) (fun hc => ?_)
    · replace hp := fl_t hc hp
      refine lv_iconst (v := (0 : Int32)) hx hb dX6_in_17 (by decide) ?_
      obtain rfl := Option.some.inj hp
      exact hfin H locs _ ls hS dX6_in_18 (show narrow .boolean (.int (0 : Int32)) = .int (0 : Int32) from rfl)
    · replace hp := fl_f hc hp
      refine lv_iconst (v := (1 : Int32)) hx hb dX6_in_13 (by decide) ?_
      refine lv_goto (tgt := 18) hx hb dX6_in_14 (by decide) ?_
      obtain rfl := Option.some.inj hp
      exact hfin H locs _ ls hS dX6_in_18 (show narrow .boolean (.int (1 : Int32)) = .int (1 : Int32) from rfl)

noncomputable def P_M_copy_L3 (fN : Nat) (f2N : Nat) (f : fl_A) (p1 : Int32) (p3 : Int32) (p4 : Int32) (z3 : (Int32 × fl_A)) : Option ((Int32 × fl_A) ⊕ fl_A) := if p4 ≤ z3.1 then some (.inr z3.2) else fl_ck (p1 + z3.1) fN (fl_ck (p3 + z3.1) f2N (some (.inl ((z3.1 + (1 : Int32)), (upd z3.2 (p3 + z3.1).toNatClampNeg (f (p1 + z3.1).toNatClampNeg))))))
noncomputable def P_M_copy (fN : Nat) (f2N : Nat) (f : fl_A) (f2 : fl_A) (p1 : Int32) (p3 : Int32) (p4 : Int32) : Option fl_A := fl_loop (P_M_copy_L3 fN f2N f p1 p3 p4) ((0 : Int32), f2)
set_option maxHeartbeats 4000000 in
set_option maxRecDepth 100000 in
theorem c_M_copy (l : Launch) (G : fl_G) (fN : Nat) (f2N : Nat) (f0 f20 : Nat) (f : fl_A) (f2 : fl_A) (p1 : Int32) (p3 : Int32) (p4 : Int32) {r : fl_A} (hp0 : P_M_copy fN f2N f f2 p1 p3 p4 = some r) : fl_mu l yX6_copy wsX6_copy 0 0 G [.ref f0, .int p1, .ref f20, .int p3, .int p4] [(f0, .inl (G.2.1, fN, .inl f)), (f20, .inl (G.2.1, f2N, .inl f2))] none [(f0, .inl (G.2.1, fN, .inl f)), (f20, .inl (G.2.1, f2N, .inl r))] := by
  refine fl_muv_in cX6_copy 6 RX6 (by decide) rfl rfl (Nat.le_of_ble_eq_true rfl) ?_
  intro p e s m args below meth c ls A Q H locs C0 hK hP hD hS hA hl hfin
  obtain ⟨hx, hb, hml, hown, hts⟩ := id C0
  have hl : lv_has ls 6 [(0, .ref f0), (1, .int p1), (2, .ref f20), (3, .int p3), (4, .int p4)] := hl
  have KL3 : ∀ (n0 : Nat) (z3 : (Int32 × fl_A)) (H : Heap) (locs : List Loc), va_P G.1 vwCl [(f0, .inl (G.2.1, fN, .inl f)), (f20, .inl (G.2.1, f2N, .inl z3.2))] H → va_D A [(f0, .inl (G.2.1, fN, .inl f)), (f20, .inl (G.2.1, f2N, .inl z3.2))] → va_S A s.heap H locs → ∀ (ls : Array Slot), lv_has ls 6 [(0, .ref f0), (1, .int p1), (2, .ref f20), (3, .int p3), (4, .int p4), (5, .int z3.1)] → fl_loopN (P_M_copy_L3 fN f2N f p1 p3 p4) n0 z3 = some r → W p l e (fl_rm 0 0) s m args below meth c H locs 0 0 Q (F0 m 3 ls []) := by
    intro n0
    induction n0 with
    | zero => intro z3 H locs hP hD hS ls hl hn; exact (fl_loopN_0 hn).elim
    | succ n0 ih3 =>
      intro z3 H locs hP hD hS ls hl hn
      obtain ⟨y3, hb3, hy3⟩ := fl_loopN_step hn
      clear hn
      have hp := hb3
      unfold P_M_copy_L3 at hp
      refine lv_iload hx hb dX6_copy_3 (lv_at hl 5 rfl) ?_
      refine lv_iload hx hb dX6_copy_5 (lv_at hl 4 rfl) ?_
      refine lv_icmp_ge (tgt := 28) hx hb dX6_copy_7 (by decide) (fun hc => ?_) (fun hc => ?_)
      · replace hp := fl_t hc hp
        obtain rfl := Option.some.inj hp
        obtain rfl := fl_cont_inr hy3
        exact hfin H locs _ ls hP hD hS dX6_copy_28
      · replace hp := fl_f hc hp
        refine lv_aload_n hx hb dX6_copy_10 rfl (lv_at hl 2 rfl) ?_
        refine lv_iload_n hx hb dX6_copy_11 rfl (lv_at hl 3 rfl) ?_
        refine lv_iload hx hb dX6_copy_12 (lv_at hl 5 rfl) ?_
        refine lv_iadd hx hb dX6_copy_14 ?_
        refine lv_aload_n hx hb dX6_copy_15 rfl (lv_at hl 0 rfl) ?_
        refine lv_iload_n hx hb dX6_copy_16 rfl (lv_at hl 1 rfl) ?_
        refine lv_iload hx hb dX6_copy_17 (lv_at hl 5 rfl) ?_
        refine lv_iadd hx hb dX6_copy_19 ?_
        obtain ⟨hi, hp⟩ := fl_ck_of hp
        refine va_iald hx hb hK.1 hP 0 0 rfl rfl hi dX6_copy_20 ?_
        obtain ⟨hi, hp⟩ := fl_ck_of hp
        refine va_iast hx hb hK.1 hP hD hS 1 0 rfl rfl hi dX6_copy_21 (fun H locs hP hD hS => ?_)
        have hP : va_P G.1 vwCl [(f0, .inl (G.2.1, fN, .inl f)), (f20, .inl (G.2.1, f2N, .inl (upd z3.2 (p3 + z3.1).toNatClampNeg (f (p1 + z3.1).toNatClampNeg))))] H := hP
        have hD : va_D A [(f0, .inl (G.2.1, fN, .inl f)), (f20, .inl (G.2.1, f2N, .inl (upd z3.2 (p3 + z3.1).toNatClampNeg (f (p1 + z3.1).toNatClampNeg))))] := hD
        refine lv_iinc (v := (z3.1 + (1 : Int32))) (lv' := [(5, .int (z3.1 + (1 : Int32))), (0, .ref f0), (1, .int p1), (2, .ref f20), (3, .int p3), (4, .int p4)]) hx hb dX6_copy_22 hl (k := 5) rfl rfl (by decide) rfl (fun ls hl => ?_)
        refine lv_goto (tgt := 3) hx hb dX6_copy_25 (by decide) ?_
        obtain rfl := Option.some.inj hp
        exact ih3 ((z3.1 + (1 : Int32)), (upd z3.2 (p3 + z3.1).toNatClampNeg (f (p1 + z3.1).toNatClampNeg))) H locs hP hD hS ls (lv_sub hl [1, 2, 3, 4, 5, 0] rfl) (fl_cont_inl hy3)
  have hp := hp0
  unfold P_M_copy at hp
  refine lv_iconst (v := (0 : Int32)) hx hb dX6_copy_0 (by decide) ?_
  refine lv_istore (lv' := [(5, .int (0 : Int32)), (0, .ref f0), (1, .int p1), (2, .ref f20), (3, .int p3), (4, .int p4)]) hx hb dX6_copy_1 hl (by decide) rfl (fun ls hl => ?_)
  obtain ⟨n0, hn⟩ := fl_loop_ex hp
  exact KL3 n0 ((0 : Int32), f2) H locs hP hD hS ls (lv_sub hl [1, 2, 3, 4, 5, 0] rfl) hn

noncomputable def P_M_copyS_L3 (fN : Nat) (p1 : Int32) (p3 : Int32) (p4 : Int32) (z3 : (Int32 × fl_A)) : Option ((Int32 × fl_A) ⊕ fl_A) := if p4 ≤ z3.1 then some (.inr z3.2) else fl_ck (p1 + z3.1) fN (fl_ck (p3 + z3.1) fN (some (.inl ((z3.1 + (1 : Int32)), (upd z3.2 (p3 + z3.1).toNatClampNeg (z3.2 (p1 + z3.1).toNatClampNeg))))))
noncomputable def P_M_copyS (fN : Nat) (f : fl_A) (p1 : Int32) (p3 : Int32) (p4 : Int32) : Option fl_A := fl_loop (P_M_copyS_L3 fN p1 p3 p4) ((0 : Int32), f)
set_option maxHeartbeats 4000000 in
set_option maxRecDepth 100000 in
theorem c_M_copyS (l : Launch) (G : fl_G) (fN : Nat) (f0 : Nat) (f : fl_A) (p1 : Int32) (p3 : Int32) (p4 : Int32) {r : fl_A} (hp0 : P_M_copyS fN f p1 p3 p4 = some r) : fl_mu l yX6_copy wsX6_copy 0 0 G [.ref f0, .int p1, .ref f0, .int p3, .int p4] [(f0, .inl (G.2.1, fN, .inl f))] none [(f0, .inl (G.2.1, fN, .inl r))] := by
  refine fl_muv_in cX6_copy 6 RX6 (by decide) rfl rfl (Nat.le_of_ble_eq_true rfl) ?_
  intro p e s m args below meth c ls A Q H locs C0 hK hP hD hS hA hl hfin
  obtain ⟨hx, hb, hml, hown, hts⟩ := id C0
  have hl : lv_has ls 6 [(0, .ref f0), (1, .int p1), (2, .ref f0), (3, .int p3), (4, .int p4)] := hl
  have KL3 : ∀ (n0 : Nat) (z3 : (Int32 × fl_A)) (H : Heap) (locs : List Loc), va_P G.1 vwCl [(f0, .inl (G.2.1, fN, .inl z3.2))] H → va_D A [(f0, .inl (G.2.1, fN, .inl z3.2))] → va_S A s.heap H locs → ∀ (ls : Array Slot), lv_has ls 6 [(0, .ref f0), (1, .int p1), (2, .ref f0), (3, .int p3), (4, .int p4), (5, .int z3.1)] → fl_loopN (P_M_copyS_L3 fN p1 p3 p4) n0 z3 = some r → W p l e (fl_rm 0 0) s m args below meth c H locs 0 0 Q (F0 m 3 ls []) := by
    intro n0
    induction n0 with
    | zero => intro z3 H locs hP hD hS ls hl hn; exact (fl_loopN_0 hn).elim
    | succ n0 ih3 =>
      intro z3 H locs hP hD hS ls hl hn
      obtain ⟨y3, hb3, hy3⟩ := fl_loopN_step hn
      clear hn
      have hp := hb3
      unfold P_M_copyS_L3 at hp
      refine lv_iload hx hb dX6_copy_3 (lv_at hl 5 rfl) ?_
      refine lv_iload hx hb dX6_copy_5 (lv_at hl 4 rfl) ?_
      refine lv_icmp_ge (tgt := 28) hx hb dX6_copy_7 (by decide) (fun hc => ?_) (fun hc => ?_)
      · replace hp := fl_t hc hp
        obtain rfl := Option.some.inj hp
        obtain rfl := fl_cont_inr hy3
        exact hfin H locs _ ls hP hD hS dX6_copy_28
      · replace hp := fl_f hc hp
        refine lv_aload_n hx hb dX6_copy_10 rfl (lv_at hl 2 rfl) ?_
        refine lv_iload_n hx hb dX6_copy_11 rfl (lv_at hl 3 rfl) ?_
        refine lv_iload hx hb dX6_copy_12 (lv_at hl 5 rfl) ?_
        refine lv_iadd hx hb dX6_copy_14 ?_
        refine lv_aload_n hx hb dX6_copy_15 rfl (lv_at hl 0 rfl) ?_
        refine lv_iload_n hx hb dX6_copy_16 rfl (lv_at hl 1 rfl) ?_
        refine lv_iload hx hb dX6_copy_17 (lv_at hl 5 rfl) ?_
        refine lv_iadd hx hb dX6_copy_19 ?_
        obtain ⟨hi, hp⟩ := fl_ck_of hp
        refine va_iald hx hb hK.1 hP 0 0 rfl rfl hi dX6_copy_20 ?_
        obtain ⟨hi, hp⟩ := fl_ck_of hp
        refine va_iast hx hb hK.1 hP hD hS 0 0 rfl rfl hi dX6_copy_21 (fun H locs hP hD hS => ?_)
        have hP : va_P G.1 vwCl [(f0, .inl (G.2.1, fN, .inl (upd z3.2 (p3 + z3.1).toNatClampNeg (z3.2 (p1 + z3.1).toNatClampNeg))))] H := hP
        have hD : va_D A [(f0, .inl (G.2.1, fN, .inl (upd z3.2 (p3 + z3.1).toNatClampNeg (z3.2 (p1 + z3.1).toNatClampNeg))))] := hD
        refine lv_iinc (v := (z3.1 + (1 : Int32))) (lv' := [(5, .int (z3.1 + (1 : Int32))), (0, .ref f0), (1, .int p1), (2, .ref f0), (3, .int p3), (4, .int p4)]) hx hb dX6_copy_22 hl (k := 5) rfl rfl (by decide) rfl (fun ls hl => ?_)
        refine lv_goto (tgt := 3) hx hb dX6_copy_25 (by decide) ?_
        obtain rfl := Option.some.inj hp
        exact ih3 ((z3.1 + (1 : Int32)), (upd z3.2 (p3 + z3.1).toNatClampNeg (z3.2 (p1 + z3.1).toNatClampNeg))) H locs hP hD hS ls (lv_sub hl [1, 2, 3, 4, 5, 0] rfl) (fl_cont_inl hy3)
  have hp := hp0
  unfold P_M_copyS at hp
  refine lv_iconst (v := (0 : Int32)) hx hb dX6_copy_0 (by decide) ?_
  refine lv_istore (lv' := [(5, .int (0 : Int32)), (0, .ref f0), (1, .int p1), (2, .ref f0), (3, .int p3), (4, .int p4)]) hx hb dX6_copy_1 hl (by decide) rfl (fun ls hl => ?_)
  obtain ⟨n0, hn⟩ := fl_loop_ex hp
  exact KL3 n0 ((0 : Int32), f) H locs hP hD hS ls (lv_sub hl [1, 2, 3, 4, 5, 0] rfl) hn

noncomputable def P_M_tenTo_L4 (p0 : Int32) (z4 : (Int64 × Int32)) : Option ((Int64 × Int32) ⊕ Int64) := if p0 ≤ z4.2 then some (.inr z4.1) else some (.inl ((z4.1 * (10 : Int64)), (z4.2 + (1 : Int32))))
noncomputable def P_M_tenTo (p0 : Int32) : Option Int64 := fl_loop (P_M_tenTo_L4 p0) ((1 : Int64), (0 : Int32))
set_option maxHeartbeats 4000000 in
set_option maxRecDepth 100000 in
theorem c_M_tenTo (l : Launch) (G : fl_G) (p0 : Int32) {r : Int64} (hp0 : P_M_tenTo p0 = some r) : fl_ro l yX6_tenTo wsX6_tenTo 0 0 G [.int p0] [] (.long r) := by
  refine fl_rol_in cX6_tenTo 4 RX6 (by decide) rfl rfl (Nat.le_of_ble_eq_true rfl) ?_
  intro p e s m args below meth c ls Q H locs C0 hK hP hS hl hfin
  have hA : ∀ q : Nat, s.heap.size ≤ q → va_A [] s.heap.size q := fl_hA _ _
  obtain ⟨hx, hb, hml, hown, hts⟩ := id C0
  have hl : lv_has ls 4 [(0, .int p0)] := hl
  have KL4 : ∀ (n0 : Nat) (z4 : (Int64 × Int32)) (H : Heap) (locs : List Loc), va_P G.1 vwCl [] H → va_S (va_A [] s.heap.size) s.heap H locs → ∀ (ls : Array Slot), lv_has ls 4 [(0, .int p0), (1, .long z4.1), (3, .int z4.2)] → fl_loopN (P_M_tenTo_L4 p0) n0 z4 = some r → W p l e (fl_rm 0 0) s m args below meth c H locs 0 0 Q (F0 m 4 ls []) := by
    intro n0
    induction n0 with
    | zero => intro z4 H locs hP hS ls hl hn; exact (fl_loopN_0 hn).elim
    | succ n0 ih4 =>
      intro z4 H locs hP hS ls hl hn
      obtain ⟨y4, hb4, hy4⟩ := fl_loopN_step hn
      clear hn
      have hp := hb4
      unfold P_M_tenTo_L4 at hp
      refine lv_iload_n hx hb dX6_tenTo_4 rfl (lv_at hl 2 rfl) ?_
      refine lv_iload_n hx hb dX6_tenTo_5 rfl (lv_at hl 0 rfl) ?_
      refine lv_icmp_ge (tgt := 21) hx hb dX6_tenTo_6 (by decide) (fun hc => ?_) (fun hc => ?_)
      · replace hp := fl_t hc hp
        refine lv_lload_n hx hb dX6_tenTo_21 rfl (lv_at hl 1 rfl) ?_
        obtain rfl := Option.some.inj hp
        obtain rfl := fl_cont_inr hy4
        exact hfin H locs _ ls hS dX6_tenTo_22
      · replace hp := fl_f hc hp
        refine lv_lload_n hx hb dX6_tenTo_9 rfl (lv_at hl 1 rfl) ?_
        refine lv_ldc2 (v := (10 : Int64)) hx hb hown (hts (.constantLong RX6 45 (10)) (List.mem_of_getElem? (i := 1) rfl)) dX6_tenTo_10 ?_
        refine lv_lmul hx hb dX6_tenTo_13 ?_
        refine lv_lstore_n (lv' := [(1, .long (z4.1 * (10 : Int64))), (0, .int p0), (3, .int z4.2)]) hx hb dX6_tenTo_14 rfl hl (by decide) rfl (fun ls hl => ?_)
        refine lv_iinc (v := (z4.2 + (1 : Int32))) (lv' := [(3, .int (z4.2 + (1 : Int32))), (1, .long (z4.1 * (10 : Int64))), (0, .int p0)]) hx hb dX6_tenTo_15 hl (k := 2) rfl rfl (by decide) rfl (fun ls hl => ?_)
        refine lv_goto (tgt := 4) hx hb dX6_tenTo_18 (by decide) ?_
        obtain rfl := Option.some.inj hp
        exact ih4 ((z4.1 * (10 : Int64)), (z4.2 + (1 : Int32))) H locs hP hS ls (lv_sub hl [2, 1, 0] rfl) (fl_cont_inl hy4)
  have hp := hp0
  unfold P_M_tenTo at hp
  refine lv_lconst (v := (1 : Int64)) hx hb dX6_tenTo_0 (by decide) ?_
  refine lv_lstore_n (lv' := [(1, .long (1 : Int64)), (0, .int p0)]) hx hb dX6_tenTo_1 rfl hl (by decide) rfl (fun ls hl => ?_)
  refine lv_iconst (v := (0 : Int32)) hx hb dX6_tenTo_2 (by decide) ?_
  refine lv_istore_n (lv' := [(3, .int (0 : Int32)), (1, .long (1 : Int64)), (0, .int p0)]) hx hb dX6_tenTo_3 rfl hl (by decide) rfl (fun ls hl => ?_)
  obtain ⟨n0, hn⟩ := fl_loop_ex hp
  exact KL4 n0 ((1 : Int64), (0 : Int32)) H locs hP hS ls (lv_sub hl [2, 1, 0] rfl) hn

noncomputable def P_M_remember_J36 (nw : fl_A) (di : fl_A) (ac : Int32) : Option (fl_A × Int32) := fl_bd (P_M_copy 126 1764 nw di (0 : Int32) ((126 : Int32) * ac) (126 : Int32)) (fun q1 => some (q1, (ac + (1 : Int32))))
noncomputable def P_M_remember (nw : fl_A) (di : fl_A) (ac : Int32) : Option (fl_A × Int32) := if ac = (14 : Int32) then fl_bd (P_M_copyS 1764 di (126 : Int32) (0 : Int32) (1638 : Int32)) (fun q1 => P_M_remember_J36 nw q1 (ac - (1 : Int32))) else P_M_remember_J36 nw di ac
set_option maxHeartbeats 4000000 in
set_option maxRecDepth 100000 in
theorem c_M_remember (l : Launch) (G : fl_G) (mo a_sc a_nw a_tr a_di a_ke a_ik a_od a_rk a_be a_fr : Nat) (rf : Int32) (ss : Int32) (fs : Int32) (nw : fl_A) (di : fl_A) (ac : Int32) {r : (fl_A × Int32)} (hp0 : P_M_remember nw di ac = some r) : fl_mu l yX6_remember wsX6_remember 1 25 G [.ref mo] [(mo, .inr (6, [.int rf, .ref a_sc, .int ss, .ref a_nw, .ref a_tr, .ref a_di, .int ac, .ref a_ke, .ref a_ik, .ref a_od, .ref a_rk, .ref a_be, .ref a_fr, .int fs])), (a_nw, .inl (G.2.1, 126, .inl nw)), (a_di, .inl (G.2.1, 1764, .inl di))] none [(mo, .inr (6, [.int rf, .ref a_sc, .int ss, .ref a_nw, .ref a_tr, .ref a_di, .int r.2, .ref a_ke, .ref a_ik, .ref a_od, .ref a_rk, .ref a_be, .ref a_fr, .int fs])), (a_nw, .inl (G.2.1, 126, .inl nw)), (a_di, .inl (G.2.1, 1764, .inl r.1))] := by
  refine fl_muv_in cX6_remember 1 RX6 (by decide) rfl rfl (Nat.le_of_ble_eq_true rfl) ?_
  intro p e s m args below meth c ls A Q H locs C0 hK hP hD hS hA hl hfin
  obtain ⟨hx, hb, hml, hown, hts⟩ := id C0
  have iX6 : ∀ w ∈ u_ws RX6 TX6 14, w ∈ wsX6_remember := fun _ h => List.mem_cons_of_mem _ (List.mem_append_right _ h)
  have hl : lv_has ls 1 [(0, .ref mo)] := hl
  have KJ36 : ∀ (di : fl_A) (ac : Int32) (H : Heap) (locs : List Loc), va_P G.1 vwCl [(mo, .inr (6, [.int rf, .ref a_sc, .int ss, .ref a_nw, .ref a_tr, .ref a_di, .int ac, .ref a_ke, .ref a_ik, .ref a_od, .ref a_rk, .ref a_be, .ref a_fr, .int fs])), (a_nw, .inl (G.2.1, 126, .inl nw)), (a_di, .inl (G.2.1, 1764, .inl di))] H → va_D A [(mo, .inr (6, [.int rf, .ref a_sc, .int ss, .ref a_nw, .ref a_tr, .ref a_di, .int ac, .ref a_ke, .ref a_ik, .ref a_od, .ref a_rk, .ref a_be, .ref a_fr, .int fs])), (a_nw, .inl (G.2.1, 126, .inl nw)), (a_di, .inl (G.2.1, 1764, .inl di))] → va_S A s.heap H locs → ∀ (ls : Array Slot), lv_has ls 1 [(0, .ref mo)] → P_M_remember_J36 nw di ac = some r → W p l e (fl_rm 1 25) s m args below meth c H locs 0 0 Q (F0 m 36 ls []) := by
    intro di ac H locs hP hD hS ls hl hp
    unfold P_M_remember_J36 at hp
    refine lv_aload_n hx hb dX6_remember_36 rfl (lv_at hl 0 rfl) ?_
    refine va_get (D := G.1) (ci := 6) (v := .ref a_nw) (C := RX6) (T := TX6) (N := 14) hx hb hts iX6 hown hK.1 hP 0 rfl rfl 3 (by decide) (hts (.fieldLink RX6 13 "SongChoirModel" "now" "[I") (List.mem_of_getElem? (i := 3) rfl)) (fun _ h9 => h9) rfl dX6_remember_37 ?_
    refine lv_iconst (v := (0 : Int32)) hx hb dX6_remember_40 (by decide) ?_
    refine lv_aload_n hx hb dX6_remember_41 rfl (lv_at hl 0 rfl) ?_
    refine va_get (D := G.1) (ci := 6) (v := .ref a_di) (C := RX6) (T := TX6) (N := 14) hx hb hts iX6 hown hK.1 hP 0 rfl rfl 5 (by decide) (hts (.fieldLink RX6 19 "SongChoirModel" "diary" "[I") (List.mem_of_getElem? (i := 2) rfl)) (fun _ h9 => h9) rfl dX6_remember_42 ?_
    refine lv_bipush (v := (126 : Int32)) hx hb dX6_remember_45 (by decide) ?_
    refine lv_aload_n hx hb dX6_remember_47 rfl (lv_at hl 0 rfl) ?_
    refine va_get (D := G.1) (ci := 6) (v := .int ac) (C := RX6) (T := TX6) (N := 14) hx hb hts iX6 hown hK.1 hP 0 rfl rfl 6 (by decide) (hts (.fieldLink RX6 47 "SongChoirModel" "acts" "I") (List.mem_of_getElem? (i := 1) rfl)) (fun _ h9 => h9) rfl dX6_remember_48 ?_
    refine lv_imul hx hb dX6_remember_51 ?_
    refine lv_bipush (v := (126 : Int32)) hx hb dX6_remember_52 (by decide) ?_
    obtain ⟨q1, hq1, hp⟩ := fl_bd_of hp
    refine fl_muS (As := [.ref a_nw, .int (0 : Int32), .ref a_di, .int ((126 : Int32) * ac), .int (126 : Int32)]) (rest := []) [(mo, .inr (6, [.int rf, .ref a_sc, .int ss, .ref a_nw, .ref a_tr, .ref a_di, .int ac, .ref a_ke, .ref a_ik, .ref a_od, .ref a_rk, .ref a_be, .ref a_fr, .int fs])), (a_nw, .inl (G.2.1, 126, .inl nw)), (a_di, .inl (G.2.1, 1764, .inl q1))] C0 (c_M_copy l G 126 1764 a_nw a_di nw di (0 : Int32) ((126 : Int32) * ac) (126 : Int32) hq1) (va_cwS 5 hts gX6_remember_X6_copy rfl rfl rfl (by decide +kernel) ⟨Nat.le_of_ble_eq_true rfl, Nat.le_of_ble_eq_true rfl⟩) hK hP hD [1, 2] [0] [0, 1, 2] rfl rfl (by decide) (by decide) rfl hS hA rfl hl.1 rfl (Nat.le_of_ble_eq_true rfl) dX6_remember_54 ⟨Nat.zero_le _, Nat.zero_le _⟩ (fun H locs hP hD hS => ?_)
    refine lv_aload_n hx hb dX6_remember_57 rfl (lv_at hl 0 rfl) ?_
    refine lv_dup hx hb dX6_remember_58 rfl ?_
    refine va_get (D := G.1) (ci := 6) (v := .int ac) (C := RX6) (T := TX6) (N := 14) hx hb hts iX6 hown hK.1 hP 0 rfl rfl 6 (by decide) (hts (.fieldLink RX6 47 "SongChoirModel" "acts" "I") (List.mem_of_getElem? (i := 1) rfl)) (fun _ h9 => h9) rfl dX6_remember_59 ?_
    refine lv_iconst (v := (1 : Int32)) hx hb dX6_remember_62 (by decide) ?_
    refine lv_iadd hx hb dX6_remember_63 ?_
    refine va_put (D := G.1) (ci := 6) (v := .int (ac + (1 : Int32))) (ty := .int) (C := RX6) (T := TX6) (N := 14) hx hb hts iX6 tyX6 tyX6_ok nmX6 hown hK.1 hP hD hS 0 rfl rfl 6 (by decide) (hts (.fieldLink RX6 47 "SongChoirModel" "acts" "I") (List.mem_of_getElem? (i := 1) rfl)) (fun _ h9 => h9) rfl (by decide +kernel) rfl rfl (Nat.le_of_ble_eq_true rfl) dX6_remember_64 (fun H locs hP hD hS => ?_)
    have hP : va_P G.1 vwCl [(mo, .inr (6, [.int rf, .ref a_sc, .int ss, .ref a_nw, .ref a_tr, .ref a_di, .int (ac + (1 : Int32)), .ref a_ke, .ref a_ik, .ref a_od, .ref a_rk, .ref a_be, .ref a_fr, .int fs])), (a_nw, .inl (G.2.1, 126, .inl nw)), (a_di, .inl (G.2.1, 1764, .inl q1))] H := hP
    have hD : va_D A [(mo, .inr (6, [.int rf, .ref a_sc, .int ss, .ref a_nw, .ref a_tr, .ref a_di, .int (ac + (1 : Int32)), .ref a_ke, .ref a_ik, .ref a_od, .ref a_rk, .ref a_be, .ref a_fr, .int fs])), (a_nw, .inl (G.2.1, 126, .inl nw)), (a_di, .inl (G.2.1, 1764, .inl q1))] := hD
    obtain rfl := Option.some.inj hp
    exact hfin H locs _ ls hP hD hS dX6_remember_67
  have hp := hp0
  unfold P_M_remember at hp
  refine lv_aload_n hx hb dX6_remember_0 rfl (lv_at hl 0 rfl) ?_
  refine va_get (D := G.1) (ci := 6) (v := .int ac) (C := RX6) (T := TX6) (N := 14) hx hb hts iX6 hown hK.1 hP 0 rfl rfl 6 (by decide) (hts (.fieldLink RX6 47 "SongChoirModel" "acts" "I") (List.mem_of_getElem? (i := 1) rfl)) (fun _ h9 => h9) rfl dX6_remember_1 ?_
  refine lv_bipush (v := (14 : Int32)) hx hb dX6_remember_4 (by decide) ?_
  refine lv_icmp_ne (tgt := 36) hx hb dX6_remember_6 (by decide) (fun hc => ?_) (fun hc => ?_)
  · replace hp := fl_f hc hp
    exact KJ36 di ac H locs hP hD hS ls (lv_sub hl [0] rfl) hp
  · replace hp := fl_t hc hp
    refine lv_aload_n hx hb dX6_remember_9 rfl (lv_at hl 0 rfl) ?_
    refine va_get (D := G.1) (ci := 6) (v := .ref a_di) (C := RX6) (T := TX6) (N := 14) hx hb hts iX6 hown hK.1 hP 0 rfl rfl 5 (by decide) (hts (.fieldLink RX6 19 "SongChoirModel" "diary" "[I") (List.mem_of_getElem? (i := 2) rfl)) (fun _ h9 => h9) rfl dX6_remember_10 ?_
    refine lv_bipush (v := (126 : Int32)) hx hb dX6_remember_13 (by decide) ?_
    refine lv_aload_n hx hb dX6_remember_15 rfl (lv_at hl 0 rfl) ?_
    refine va_get (D := G.1) (ci := 6) (v := .ref a_di) (C := RX6) (T := TX6) (N := 14) hx hb hts iX6 hown hK.1 hP 0 rfl rfl 5 (by decide) (hts (.fieldLink RX6 19 "SongChoirModel" "diary" "[I") (List.mem_of_getElem? (i := 2) rfl)) (fun _ h9 => h9) rfl dX6_remember_16 ?_
    refine lv_iconst (v := (0 : Int32)) hx hb dX6_remember_19 (by decide) ?_
    refine lv_sipush (v := (1638 : Int32)) hx hb dX6_remember_20 (by decide) ?_
    obtain ⟨q1, hq1, hp⟩ := fl_bd_of hp
    refine fl_muS (As := [.ref a_di, .int (126 : Int32), .ref a_di, .int (0 : Int32), .int (1638 : Int32)]) (rest := []) [(mo, .inr (6, [.int rf, .ref a_sc, .int ss, .ref a_nw, .ref a_tr, .ref a_di, .int ac, .ref a_ke, .ref a_ik, .ref a_od, .ref a_rk, .ref a_be, .ref a_fr, .int fs])), (a_nw, .inl (G.2.1, 126, .inl nw)), (a_di, .inl (G.2.1, 1764, .inl q1))] C0 (c_M_copyS l G 1764 a_di di (126 : Int32) (0 : Int32) (1638 : Int32) hq1) (va_cwS 5 hts gX6_remember_X6_copy rfl rfl rfl (by decide +kernel) ⟨Nat.le_of_ble_eq_true rfl, Nat.le_of_ble_eq_true rfl⟩) hK hP hD [2] [0, 1] [0, 1, 2] rfl rfl (by decide) (by decide) rfl hS hA rfl hl.1 rfl (Nat.le_of_ble_eq_true rfl) dX6_remember_23 ⟨Nat.zero_le _, Nat.zero_le _⟩ (fun H locs hP hD hS => ?_)
    refine lv_aload_n hx hb dX6_remember_26 rfl (lv_at hl 0 rfl) ?_
    refine lv_dup hx hb dX6_remember_27 rfl ?_
    refine va_get (D := G.1) (ci := 6) (v := .int ac) (C := RX6) (T := TX6) (N := 14) hx hb hts iX6 hown hK.1 hP 0 rfl rfl 6 (by decide) (hts (.fieldLink RX6 47 "SongChoirModel" "acts" "I") (List.mem_of_getElem? (i := 1) rfl)) (fun _ h9 => h9) rfl dX6_remember_28 ?_
    refine lv_iconst (v := (1 : Int32)) hx hb dX6_remember_31 (by decide) ?_
    refine lv_isub hx hb dX6_remember_32 ?_
    refine va_put (D := G.1) (ci := 6) (v := .int (ac - (1 : Int32))) (ty := .int) (C := RX6) (T := TX6) (N := 14) hx hb hts iX6 tyX6 tyX6_ok nmX6 hown hK.1 hP hD hS 0 rfl rfl 6 (by decide) (hts (.fieldLink RX6 47 "SongChoirModel" "acts" "I") (List.mem_of_getElem? (i := 1) rfl)) (fun _ h9 => h9) rfl (by decide +kernel) rfl rfl (Nat.le_of_ble_eq_true rfl) dX6_remember_33 (fun H locs hP hD hS => ?_)
    have hP : va_P G.1 vwCl [(mo, .inr (6, [.int rf, .ref a_sc, .int ss, .ref a_nw, .ref a_tr, .ref a_di, .int (ac - (1 : Int32)), .ref a_ke, .ref a_ik, .ref a_od, .ref a_rk, .ref a_be, .ref a_fr, .int fs])), (a_nw, .inl (G.2.1, 126, .inl nw)), (a_di, .inl (G.2.1, 1764, .inl q1))] H := hP
    have hD : va_D A [(mo, .inr (6, [.int rf, .ref a_sc, .int ss, .ref a_nw, .ref a_tr, .ref a_di, .int (ac - (1 : Int32)), .ref a_ke, .ref a_ik, .ref a_od, .ref a_rk, .ref a_be, .ref a_fr, .int fs])), (a_nw, .inl (G.2.1, 126, .inl nw)), (a_di, .inl (G.2.1, 1764, .inl q1))] := hD
    exact KJ36 q1 (ac - (1 : Int32)) H locs hP hD hS ls (lv_sub hl [0] rfl) hp

noncomputable def P_M_begin (nw : fl_A) (tr : fl_A) : Option fl_A := fl_bd (P_M_copy 126 126 nw tr (0 : Int32) (0 : Int32) (126 : Int32)) (fun q1 => some q1)
set_option maxHeartbeats 4000000 in
set_option maxRecDepth 100000 in
theorem c_M_begin (l : Launch) (G : fl_G) (mo a_sc a_nw a_tr a_di a_ke a_ik a_od a_rk a_be a_fr : Nat) (rf : Int32) (ss : Int32) (ac : Int32) (fs : Int32) (nw : fl_A) (tr : fl_A) {r : fl_A} (hp0 : P_M_begin nw tr = some r) : fl_mu l yX6_begin wsX6_begin 1 25 G [.ref mo] [(mo, .inr (6, [.int rf, .ref a_sc, .int ss, .ref a_nw, .ref a_tr, .ref a_di, .int ac, .ref a_ke, .ref a_ik, .ref a_od, .ref a_rk, .ref a_be, .ref a_fr, .int fs])), (a_nw, .inl (G.2.1, 126, .inl nw)), (a_tr, .inl (G.2.1, 126, .inl tr))] none [(mo, .inr (6, [.int rf, .ref a_sc, .int ss, .ref a_nw, .ref a_tr, .ref a_di, .int ac, .ref a_ke, .ref a_ik, .ref a_od, .ref a_rk, .ref a_be, .ref a_fr, .int fs])), (a_nw, .inl (G.2.1, 126, .inl nw)), (a_tr, .inl (G.2.1, 126, .inl r))] := by
  refine fl_muv_in cX6_begin 1 RX6 (by decide) rfl rfl (Nat.le_of_ble_eq_true rfl) ?_
  intro p e s m args below meth c ls A Q H locs C0 hK hP hD hS hA hl hfin
  obtain ⟨hx, hb, hml, hown, hts⟩ := id C0
  have iX6 : ∀ w ∈ u_ws RX6 TX6 14, w ∈ wsX6_begin := fun _ h => List.mem_cons_of_mem _ (List.mem_append_right _ h)
  have hl : lv_has ls 1 [(0, .ref mo)] := hl
  have hp := hp0
  unfold P_M_begin at hp
  refine lv_aload_n hx hb dX6_begin_0 rfl (lv_at hl 0 rfl) ?_
  refine va_get (D := G.1) (ci := 6) (v := .ref a_nw) (C := RX6) (T := TX6) (N := 14) hx hb hts iX6 hown hK.1 hP 0 rfl rfl 3 (by decide) (hts (.fieldLink RX6 13 "SongChoirModel" "now" "[I") (List.mem_of_getElem? (i := 1) rfl)) (fun _ h9 => h9) rfl dX6_begin_1 ?_
  refine lv_iconst (v := (0 : Int32)) hx hb dX6_begin_4 (by decide) ?_
  refine lv_aload_n hx hb dX6_begin_5 rfl (lv_at hl 0 rfl) ?_
  refine va_get (D := G.1) (ci := 6) (v := .ref a_tr) (C := RX6) (T := TX6) (N := 14) hx hb hts iX6 hown hK.1 hP 0 rfl rfl 4 (by decide) (hts (.fieldLink RX6 16 "SongChoirModel" "trial" "[I") (List.mem_of_getElem? (i := 2) rfl)) (fun _ h9 => h9) rfl dX6_begin_6 ?_
  refine lv_iconst (v := (0 : Int32)) hx hb dX6_begin_9 (by decide) ?_
  refine lv_bipush (v := (126 : Int32)) hx hb dX6_begin_10 (by decide) ?_
  obtain ⟨q1, hq1, hp⟩ := fl_bd_of hp
  refine fl_muS (As := [.ref a_nw, .int (0 : Int32), .ref a_tr, .int (0 : Int32), .int (126 : Int32)]) (rest := []) [(mo, .inr (6, [.int rf, .ref a_sc, .int ss, .ref a_nw, .ref a_tr, .ref a_di, .int ac, .ref a_ke, .ref a_ik, .ref a_od, .ref a_rk, .ref a_be, .ref a_fr, .int fs])), (a_nw, .inl (G.2.1, 126, .inl nw)), (a_tr, .inl (G.2.1, 126, .inl q1))] C0 (c_M_copy l G 126 126 a_nw a_tr nw tr (0 : Int32) (0 : Int32) (126 : Int32) hq1) (va_cwS 5 hts gX6_begin_X6_copy rfl rfl rfl (by decide +kernel) ⟨Nat.le_of_ble_eq_true rfl, Nat.le_of_ble_eq_true rfl⟩) hK hP hD [1, 2] [0] [0, 1, 2] rfl rfl (by decide) (by decide) rfl hS hA rfl hl.1 rfl (Nat.le_of_ble_eq_true rfl) dX6_begin_12 ⟨Nat.zero_le _, Nat.zero_le _⟩ (fun H locs hP hD hS => ?_)
  obtain rfl := Option.some.inj hp
  exact hfin H locs _ ls hP hD hS dX6_begin_15

noncomputable def P_M_alike_L2 (f : fl_A) (p1 : Int32) (p2 : Int32) (z2 : Int32) : Option (Int32 ⊕ Int32) := fl_ck (0 : Int32) 126 (if (f (0 : Int32).toNatClampNeg) ≤ (p1 + z2) then some (.inr z2) else fl_ck (0 : Int32) 126 (if (f (0 : Int32).toNatClampNeg) ≤ (p2 + z2) then some (.inr z2) else fl_ck (((66 : Int32) + p1) + z2) 126 (fl_ck (((66 : Int32) + p2) + z2) 126 (if (f (((66 : Int32) + p1) + z2).toNatClampNeg) = (f (((66 : Int32) + p2) + z2).toNatClampNeg) then some (.inl (z2 + (1 : Int32))) else some (.inr z2)))))
noncomputable def P_M_alike (f : fl_A) (p1 : Int32) (p2 : Int32) : Option Int32 := fl_loop (P_M_alike_L2 f p1 p2) (0 : Int32)
set_option maxHeartbeats 4000000 in
set_option maxRecDepth 100000 in
theorem c_M_alike (l : Launch) (G : fl_G) (f0 : Nat) (f : fl_A) (p1 : Int32) (p2 : Int32) {r : Int32} (hp0 : P_M_alike f p1 p2 = some r) : fl_ro l yX6_alike wsX6_alike 0 0 G [.ref f0, .int p1, .int p2] [(f0, .inl (G.2.1, 126, .inl f))] (.int r) := by
  refine fl_ro_in cX6_alike 4 .int RX6 (by decide) rfl rfl (Nat.le_of_ble_eq_true rfl) ?_
  intro p e s m args below meth c ls Q H locs C0 hK hP hS hl hfin
  have hA : ∀ q : Nat, s.heap.size ≤ q → va_A [] s.heap.size q := fl_hA _ _
  obtain ⟨hx, hb, hml, hown, hts⟩ := id C0
  have hl : lv_has ls 4 [(0, .ref f0), (1, .int p1), (2, .int p2)] := hl
  have KL2 : ∀ (n0 : Nat) (z2 : Int32) (H : Heap) (locs : List Loc), va_P G.1 vwCl [(f0, .inl (G.2.1, 126, .inl f))] H → va_S (va_A [] s.heap.size) s.heap H locs → ∀ (ls : Array Slot), lv_has ls 4 [(0, .ref f0), (1, .int p1), (2, .int p2), (3, .int z2)] → fl_loopN (P_M_alike_L2 f p1 p2) n0 z2 = some r → W p l e (fl_rm 0 0) s m args below meth c H locs 0 0 Q (F0 m 2 ls []) := by
    intro n0
    induction n0 with
    | zero => intro z2 H locs hP hS ls hl hn; exact (fl_loopN_0 hn).elim
    | succ n0 ih2 =>
      intro z2 H locs hP hS ls hl hn
      obtain ⟨y2, hb2, hy2⟩ := fl_loopN_step hn
      clear hn
      have hp := hb2
      unfold P_M_alike_L2 at hp
      refine lv_iload_n hx hb dX6_alike_2 rfl (lv_at hl 1 rfl) ?_
      refine lv_iload_n hx hb dX6_alike_3 rfl (lv_at hl 3 rfl) ?_
      refine lv_iadd hx hb dX6_alike_4 ?_
      refine lv_aload_n hx hb dX6_alike_5 rfl (lv_at hl 0 rfl) ?_
      refine lv_iconst (v := (0 : Int32)) hx hb dX6_alike_6 (by decide) ?_
      obtain ⟨hi, hp⟩ := fl_ck_of hp
      refine va_iald hx hb hK.1 hP 0 0 rfl rfl hi dX6_alike_7 ?_
      refine lv_icmp_ge (tgt := 45) hx hb dX6_alike_8 (by decide) (fun hc => ?_) (fun hc => ?_)
      · replace hp := fl_t hc hp
        refine lv_iload_n hx hb dX6_alike_45 rfl (lv_at hl 3 rfl) ?_
        obtain rfl := Option.some.inj hp
        obtain rfl := fl_cont_inr hy2
        exact hfin H locs _ ls hS dX6_alike_46 rfl
      · replace hp := fl_f hc hp
        refine lv_iload_n hx hb dX6_alike_11 rfl (lv_at hl 2 rfl) ?_
        refine lv_iload_n hx hb dX6_alike_12 rfl (lv_at hl 3 rfl) ?_
        refine lv_iadd hx hb dX6_alike_13 ?_
        refine lv_aload_n hx hb dX6_alike_14 rfl (lv_at hl 0 rfl) ?_
        refine lv_iconst (v := (0 : Int32)) hx hb dX6_alike_15 (by decide) ?_
        obtain ⟨hi, hp⟩ := fl_ck_of hp
        refine va_iald hx hb hK.1 hP 0 0 rfl rfl hi dX6_alike_16 ?_
        refine lv_icmp_ge (tgt := 45) hx hb dX6_alike_17 (by decide) (fun hc => ?_) (fun hc => ?_)
        · replace hp := fl_t hc hp
          refine lv_iload_n hx hb dX6_alike_45 rfl (lv_at hl 3 rfl) ?_
          obtain rfl := Option.some.inj hp
          obtain rfl := fl_cont_inr hy2
          exact hfin H locs _ ls hS dX6_alike_46 rfl
        · replace hp := fl_f hc hp
          refine lv_aload_n hx hb dX6_alike_20 rfl (lv_at hl 0 rfl) ?_
          refine lv_bipush (v := (66 : Int32)) hx hb dX6_alike_21 (by decide) ?_
          refine lv_iload_n hx hb dX6_alike_23 rfl (lv_at hl 1 rfl) ?_
          refine lv_iadd hx hb dX6_alike_24 ?_
          refine lv_iload_n hx hb dX6_alike_25 rfl (lv_at hl 3 rfl) ?_
          refine lv_iadd hx hb dX6_alike_26 ?_
          obtain ⟨hi, hp⟩ := fl_ck_of hp
          refine va_iald hx hb hK.1 hP 0 0 rfl rfl hi dX6_alike_27 ?_
          refine lv_aload_n hx hb dX6_alike_28 rfl (lv_at hl 0 rfl) ?_
          refine lv_bipush (v := (66 : Int32)) hx hb dX6_alike_29 (by decide) ?_
          refine lv_iload_n hx hb dX6_alike_31 rfl (lv_at hl 2 rfl) ?_
          refine lv_iadd hx hb dX6_alike_32 ?_
          refine lv_iload_n hx hb dX6_alike_33 rfl (lv_at hl 3 rfl) ?_
          refine lv_iadd hx hb dX6_alike_34 ?_
          obtain ⟨hi, hp⟩ := fl_ck_of hp
          refine va_iald hx hb hK.1 hP 0 0 rfl rfl hi dX6_alike_35 ?_
          refine lv_icmp_ne (tgt := 45) hx hb dX6_alike_36 (by decide) (fun hc => ?_) (fun hc => ?_)
          · replace hp := fl_f hc hp
            refine lv_iload_n hx hb dX6_alike_45 rfl (lv_at hl 3 rfl) ?_
            obtain rfl := Option.some.inj hp
            obtain rfl := fl_cont_inr hy2
            exact hfin H locs _ ls hS dX6_alike_46 rfl
          · replace hp := fl_t hc hp
            refine lv_iinc (v := (z2 + (1 : Int32))) (lv' := [(3, .int (z2 + (1 : Int32))), (0, .ref f0), (1, .int p1), (2, .int p2)]) hx hb dX6_alike_39 hl (k := 3) rfl rfl (by decide) rfl (fun ls hl => ?_)
            refine lv_goto (tgt := 2) hx hb dX6_alike_42 (by decide) ?_
            obtain rfl := Option.some.inj hp
            exact ih2 (z2 + (1 : Int32)) H locs hP hS ls (lv_sub hl [1, 2, 3, 0] rfl) (fl_cont_inl hy2)
  have hp := hp0
  unfold P_M_alike at hp
  refine lv_iconst (v := (0 : Int32)) hx hb dX6_alike_0 (by decide) ?_
  refine lv_istore_n (lv' := [(3, .int (0 : Int32)), (0, .ref f0), (1, .int p1), (2, .int p2)]) hx hb dX6_alike_1 rfl hl (by decide) rfl (fun ls hl => ?_)
  obtain ⟨n0, hn⟩ := fl_loop_ex hp
  exact KL2 n0 (0 : Int32) H locs hP hS ls (lv_sub hl [1, 2, 3, 0] rfl) hn

noncomputable def P_M_isAhead_J44 (f : fl_A) : Option Int32 := some (1 : Int32)
noncomputable def P_M_isAhead (f : fl_A) (p1 : Int32) (p2 : Int32) : Option Int32 := fl_bd (P_M_alike f p1 p2) (fun q1 => fl_ck (0 : Int32) 126 (if (p1 + q1) = (f (0 : Int32).toNatClampNeg) then P_M_isAhead_J44 f else fl_ck (0 : Int32) 126 (if (f (0 : Int32).toNatClampNeg) ≤ (p2 + q1) then some (0 : Int32) else fl_ck (((66 : Int32) + p1) + q1) 126 (fl_ck (((66 : Int32) + p2) + q1) 126 (if (f (((66 : Int32) + p2) + q1).toNatClampNeg) ≤ (f (((66 : Int32) + p1) + q1).toNatClampNeg) then some (0 : Int32) else P_M_isAhead_J44 f)))))
set_option maxHeartbeats 4000000 in
set_option maxRecDepth 100000 in
theorem c_M_isAhead (l : Launch) (G : fl_G) (f0 : Nat) (f : fl_A) (p1 : Int32) (p2 : Int32) {r : Int32} (hp0 : P_M_isAhead f p1 p2 = some r) : fl_ro l yX6_isAhead wsX6_isAhead 1 23 G [.ref f0, .int p1, .int p2] [(f0, .inl (G.2.1, 126, .inl f))] (.int r) := by
  refine fl_ro_in cX6_isAhead 4 .boolean RX6 (by decide) rfl rfl (Nat.le_of_ble_eq_true rfl) ?_
  intro p e s m args below meth c ls Q H locs C0 hK hP hS hl hfin
  have hA : ∀ q : Nat, s.heap.size ≤ q → va_A [] s.heap.size q := fl_hA _ _
  obtain ⟨hx, hb, hml, hown, hts⟩ := id C0
  have hl : lv_has ls 4 [(0, .ref f0), (1, .int p1), (2, .int p2)] := hl
  have KJ44 : ∀ (H : Heap) (locs : List Loc), va_P G.1 vwCl [(f0, .inl (G.2.1, 126, .inl f))] H → va_S (va_A [] s.heap.size) s.heap H locs → ∀ (ls : Array Slot), lv_has ls 4 [] → P_M_isAhead_J44 f = some r → W p l e (fl_rm 1 23) s m args below meth c H locs 0 0 Q (F0 m 44 ls []) := by
    intro H locs hP hS ls hl hp
    unfold P_M_isAhead_J44 at hp
    refine lv_iconst (v := (1 : Int32)) hx hb dX6_isAhead_44 (by decide) ?_
    refine lv_goto (tgt := 49) hx hb dX6_isAhead_45 (by decide) ?_
    obtain rfl := Option.some.inj hp
    exact hfin H locs _ ls hS dX6_isAhead_49 (show narrow .boolean (.int (1 : Int32)) = .int (1 : Int32) from rfl)
  have hp := hp0
  unfold P_M_isAhead at hp
  refine lv_aload_n hx hb dX6_isAhead_0 rfl (lv_at hl 0 rfl) ?_
  refine lv_iload_n hx hb dX6_isAhead_1 rfl (lv_at hl 1 rfl) ?_
  refine lv_iload_n hx hb dX6_isAhead_2 rfl (lv_at hl 2 rfl) ?_
  obtain ⟨q1, hq1, hp⟩ := fl_bd_of hp
  refine fl_roS (As := [.ref f0, .int p1, .int p2]) (rest := []) C0 (c_M_alike l G f0 f p1 p2 hq1) (va_cwS 3 hts gX6_isAhead_X6_alike rfl rfl rfl (by decide +kernel) ⟨Nat.le_of_ble_eq_true rfl, Nat.le_of_ble_eq_true rfl⟩) hK hP [0] rfl hS hA rfl hl.1 rfl (Nat.le_of_ble_eq_true rfl) dX6_isAhead_3 ⟨Nat.zero_le _, Nat.zero_le _⟩ (fun H locs hP hS => ?_)
  refine lv_istore_n (lv' := [(3, .int q1), (0, .ref f0), (1, .int p1), (2, .int p2)]) hx hb dX6_isAhead_6 rfl hl (by decide) rfl (fun ls hl => ?_)
  refine lv_iload_n hx hb dX6_isAhead_7 rfl (lv_at hl 2 rfl) ?_
  refine lv_iload_n hx hb dX6_isAhead_8 rfl (lv_at hl 0 rfl) ?_
  refine lv_iadd hx hb dX6_isAhead_9 ?_
  refine lv_aload_n hx hb dX6_isAhead_10 rfl (lv_at hl 1 rfl) ?_
  refine lv_iconst (v := (0 : Int32)) hx hb dX6_isAhead_11 (by decide) ?_
  obtain ⟨hi, hp⟩ := fl_ck_of hp
  refine va_iald hx hb hK.1 hP 0 0 rfl rfl hi dX6_isAhead_12 ?_
  refine lv_icmp_eq (tgt := 44) hx hb dX6_isAhead_13 (by decide) (fun hc => ?_) (fun hc => ?_)
  · replace hp := fl_t hc hp
    exact KJ44 H locs hP hS ls (lv_sub hl [] rfl) hp
  · replace hp := fl_f hc hp
    refine lv_iload_n hx hb dX6_isAhead_16 rfl (lv_at hl 3 rfl) ?_
    refine lv_iload_n hx hb dX6_isAhead_17 rfl (lv_at hl 0 rfl) ?_
    refine lv_iadd hx hb dX6_isAhead_18 ?_
    refine lv_aload_n hx hb dX6_isAhead_19 rfl (lv_at hl 1 rfl) ?_
    refine lv_iconst (v := (0 : Int32)) hx hb dX6_isAhead_20 (by decide) ?_
    obtain ⟨hi, hp⟩ := fl_ck_of hp
    refine va_iald hx hb hK.1 hP 0 0 rfl rfl hi dX6_isAhead_21 ?_
    refine lv_icmp_ge (tgt := 48) hx hb dX6_isAhead_22 (by decide) (fun hc => ?_) (fun hc => ?_)
    · replace hp := fl_t hc hp
      refine lv_iconst (v := (0 : Int32)) hx hb dX6_isAhead_48 (by decide) ?_
      obtain rfl := Option.some.inj hp
      exact hfin H locs _ ls hS dX6_isAhead_49 (show narrow .boolean (.int (0 : Int32)) = .int (0 : Int32) from rfl)
    · replace hp := fl_f hc hp
      refine lv_aload_n hx hb dX6_isAhead_25 rfl (lv_at hl 1 rfl) ?_
      refine lv_bipush (v := (66 : Int32)) hx hb dX6_isAhead_26 (by decide) ?_
      refine lv_iload_n hx hb dX6_isAhead_28 rfl (lv_at hl 2 rfl) ?_
      refine lv_iadd hx hb dX6_isAhead_29 ?_
      refine lv_iload_n hx hb dX6_isAhead_30 rfl (lv_at hl 0 rfl) ?_
      refine lv_iadd hx hb dX6_isAhead_31 ?_
      obtain ⟨hi, hp⟩ := fl_ck_of hp
      refine va_iald hx hb hK.1 hP 0 0 rfl rfl hi dX6_isAhead_32 ?_
      refine lv_aload_n hx hb dX6_isAhead_33 rfl (lv_at hl 1 rfl) ?_
      refine lv_bipush (v := (66 : Int32)) hx hb dX6_isAhead_34 (by decide) ?_
      refine lv_iload_n hx hb dX6_isAhead_36 rfl (lv_at hl 3 rfl) ?_
      refine lv_iadd hx hb dX6_isAhead_37 ?_
      refine lv_iload_n hx hb dX6_isAhead_38 rfl (lv_at hl 0 rfl) ?_
      refine lv_iadd hx hb dX6_isAhead_39 ?_
      obtain ⟨hi, hp⟩ := fl_ck_of hp
      refine va_iald hx hb hK.1 hP 0 0 rfl rfl hi dX6_isAhead_40 ?_
      refine lv_icmp_ge (tgt := 48) hx hb dX6_isAhead_41 (by decide) (fun hc => ?_) (fun hc => ?_)
      · replace hp := fl_t hc hp
        refine lv_iconst (v := (0 : Int32)) hx hb dX6_isAhead_48 (by decide) ?_
        obtain rfl := Option.some.inj hp
        exact hfin H locs _ ls hS dX6_isAhead_49 (show narrow .boolean (.int (0 : Int32)) = .int (0 : Int32) from rfl)
      · replace hp := fl_f hc hp
        exact KJ44 H locs hP hS ls (lv_sub hl [] rfl) hp

noncomputable def P_M_lay_L66 (od : fl_A) (f : fl_A) (z66 : (Int32 × fl_A)) : Option ((Int32 × fl_A) ⊕ (fl_A × fl_A)) := fl_ck (0 : Int32) 126 (if (f (0 : Int32).toNatClampNeg) ≤ z66.1 then some (.inr (od, z66.2)) else fl_ck z66.1 60 (fl_ck (od z66.1.toNatClampNeg) 60 (some (.inl ((z66.1 + (1 : Int32)), (upd z66.2 (od z66.1.toNatClampNeg).toNatClampNeg z66.1))))))
noncomputable def P_M_lay_J64 (od : fl_A) (rk : fl_A) (f : fl_A) : Option (fl_A × fl_A) := fl_loop (P_M_lay_L66 od f) ((0 : Int32), rk)
noncomputable def P_M_lay_J51 (od : fl_A) (rk : fl_A) (f : fl_A) (v2 : Int32) (v3 : Int32) : Option ((Int32 × fl_A) ⊕ (fl_A × fl_A)) := fl_ck v3 60 (some (.inl ((v2 + (1 : Int32)), (upd od v3.toNatClampNeg v2))))
noncomputable def P_M_lay_L11 (rk : fl_A) (f : fl_A) (v2 : Int32) (z11 : (Int32 × fl_A)) : Option ((Int32 × fl_A) ⊕ ((Int32 × fl_A) ⊕ (fl_A × fl_A))) := if z11.1 ≤ 0 then fl_up (P_M_lay_J51 z11.2 rk f v2 z11.1) else fl_ck (z11.1 - (1 : Int32)) 60 (fl_bd (P_M_isAhead f v2 (z11.2 (z11.1 - (1 : Int32)).toNatClampNeg)) (fun q1 => if q1 = 0 then fl_up (P_M_lay_J51 z11.2 rk f v2 z11.1) else fl_ck (z11.1 - (1 : Int32)) 60 (fl_ck z11.1 60 (some (.inl ((z11.1 + (-1 : Int32)), (upd z11.2 z11.1.toNatClampNeg (z11.2 (z11.1 - (1 : Int32)).toNatClampNeg))))))))
noncomputable def P_M_lay_L2 (rk : fl_A) (f : fl_A) (z2 : (Int32 × fl_A)) : Option ((Int32 × fl_A) ⊕ (fl_A × fl_A)) := fl_ck (0 : Int32) 126 (if (f (0 : Int32).toNatClampNeg) ≤ z2.1 then fl_up (P_M_lay_J64 z2.2 rk f) else fl_loop (P_M_lay_L11 rk f z2.1) (z2.1, z2.2))
noncomputable def P_M_lay (od : fl_A) (rk : fl_A) (f : fl_A) : Option (fl_A × fl_A) := fl_loop (P_M_lay_L2 rk f) ((0 : Int32), od)
set_option maxHeartbeats 4000000 in
set_option maxRecDepth 100000 in
theorem c_M_lay (l : Launch) (G : fl_G) (mo a_sc a_nw a_tr a_di a_ke a_ik a_od a_rk a_be a_fr f0 : Nat) (rf : Int32) (ss : Int32) (ac : Int32) (fs : Int32) (od : fl_A) (rk : fl_A) (f : fl_A) {r : (fl_A × fl_A)} (hp0 : P_M_lay od rk f = some r) : fl_mu l yX6_lay wsX6_lay 2 46 G [.ref mo, .ref f0] [(mo, .inr (6, [.int rf, .ref a_sc, .int ss, .ref a_nw, .ref a_tr, .ref a_di, .int ac, .ref a_ke, .ref a_ik, .ref a_od, .ref a_rk, .ref a_be, .ref a_fr, .int fs])), (a_od, .inl (G.2.1, 60, .inl od)), (a_rk, .inl (G.2.1, 60, .inl rk)), (f0, .inl (G.2.1, 126, .inl f))] none [(mo, .inr (6, [.int rf, .ref a_sc, .int ss, .ref a_nw, .ref a_tr, .ref a_di, .int ac, .ref a_ke, .ref a_ik, .ref a_od, .ref a_rk, .ref a_be, .ref a_fr, .int fs])), (a_od, .inl (G.2.1, 60, .inl r.1)), (a_rk, .inl (G.2.1, 60, .inl r.2)), (f0, .inl (G.2.1, 126, .inl f))] := by
  refine fl_muv_in cX6_lay 4 RX6 (by decide) rfl rfl (Nat.le_of_ble_eq_true rfl) ?_
  intro p e s m args below meth c ls A Q H locs C0 hK hP hD hS hA hl hfin
  obtain ⟨hx, hb, hml, hown, hts⟩ := id C0
  have iX6 : ∀ w ∈ u_ws RX6 TX6 14, w ∈ wsX6_lay := fun _ h => List.mem_cons_of_mem _ (List.mem_append_right _ h)
  have hl : lv_has ls 4 [(0, .ref mo), (1, .ref f0)] := hl
  have KL66 : ∀ (od : fl_A) (n0 : Nat) (z66 : (Int32 × fl_A)) (H : Heap) (locs : List Loc), va_P G.1 vwCl [(mo, .inr (6, [.int rf, .ref a_sc, .int ss, .ref a_nw, .ref a_tr, .ref a_di, .int ac, .ref a_ke, .ref a_ik, .ref a_od, .ref a_rk, .ref a_be, .ref a_fr, .int fs])), (a_od, .inl (G.2.1, 60, .inl od)), (a_rk, .inl (G.2.1, 60, .inl z66.2)), (f0, .inl (G.2.1, 126, .inl f))] H → va_D A [(mo, .inr (6, [.int rf, .ref a_sc, .int ss, .ref a_nw, .ref a_tr, .ref a_di, .int ac, .ref a_ke, .ref a_ik, .ref a_od, .ref a_rk, .ref a_be, .ref a_fr, .int fs])), (a_od, .inl (G.2.1, 60, .inl od)), (a_rk, .inl (G.2.1, 60, .inl z66.2)), (f0, .inl (G.2.1, 126, .inl f))] → va_S A s.heap H locs → ∀ (ls : Array Slot), lv_has ls 4 [(0, .ref mo), (1, .ref f0), (2, .int z66.1)] → fl_loopN (P_M_lay_L66 od f) n0 z66 = some r → W p l e (fl_rm 2 46) s m args below meth c H locs 0 0 Q (F0 m 66 ls []) := by
    intro od n0
    induction n0 with
    | zero => intro z66 H locs hP hD hS ls hl hn; exact (fl_loopN_0 hn).elim
    | succ n0 ih66 =>
      intro z66 H locs hP hD hS ls hl hn
      obtain ⟨y66, hb66, hy66⟩ := fl_loopN_step hn
      clear hn
      have hp := hb66
      unfold P_M_lay_L66 at hp
      refine lv_iload_n hx hb dX6_lay_66 rfl (lv_at hl 2 rfl) ?_
      refine lv_aload_n hx hb dX6_lay_67 rfl (lv_at hl 1 rfl) ?_
      refine lv_iconst (v := (0 : Int32)) hx hb dX6_lay_68 (by decide) ?_
      obtain ⟨hi, hp⟩ := fl_ck_of hp
      refine va_iald hx hb hK.1 hP 3 0 rfl rfl hi dX6_lay_69 ?_
      refine lv_icmp_ge (tgt := 91) hx hb dX6_lay_70 (by decide) (fun hc => ?_) (fun hc => ?_)
      · replace hp := fl_t hc hp
        obtain rfl := Option.some.inj hp
        obtain rfl := fl_cont_inr hy66
        exact hfin H locs _ ls hP hD hS dX6_lay_91
      · replace hp := fl_f hc hp
        refine lv_aload_n hx hb dX6_lay_73 rfl (lv_at hl 0 rfl) ?_
        refine va_get (D := G.1) (ci := 6) (v := .ref a_rk) (C := RX6) (T := TX6) (N := 14) hx hb hts iX6 hown hK.1 hP 0 rfl rfl 10 (by decide) (hts (.fieldLink RX6 32 "SongChoirModel" "ranks" "[I") (List.mem_of_getElem? (i := 2) rfl)) (fun _ h9 => h9) rfl dX6_lay_74 ?_
        refine lv_aload_n hx hb dX6_lay_77 rfl (lv_at hl 0 rfl) ?_
        refine va_get (D := G.1) (ci := 6) (v := .ref a_od) (C := RX6) (T := TX6) (N := 14) hx hb hts iX6 hown hK.1 hP 0 rfl rfl 9 (by decide) (hts (.fieldLink RX6 29 "SongChoirModel" "order" "[I") (List.mem_of_getElem? (i := 1) rfl)) (fun _ h9 => h9) rfl dX6_lay_78 ?_
        refine lv_iload_n hx hb dX6_lay_81 rfl (lv_at hl 2 rfl) ?_
        obtain ⟨hi, hp⟩ := fl_ck_of hp
        refine va_iald hx hb hK.1 hP 1 0 rfl rfl hi dX6_lay_82 ?_
        refine lv_iload_n hx hb dX6_lay_83 rfl (lv_at hl 2 rfl) ?_
        obtain ⟨hi, hp⟩ := fl_ck_of hp
        refine va_iast hx hb hK.1 hP hD hS 2 0 rfl rfl hi dX6_lay_84 (fun H locs hP hD hS => ?_)
        have hP : va_P G.1 vwCl [(mo, .inr (6, [.int rf, .ref a_sc, .int ss, .ref a_nw, .ref a_tr, .ref a_di, .int ac, .ref a_ke, .ref a_ik, .ref a_od, .ref a_rk, .ref a_be, .ref a_fr, .int fs])), (a_od, .inl (G.2.1, 60, .inl od)), (a_rk, .inl (G.2.1, 60, .inl (upd z66.2 (od z66.1.toNatClampNeg).toNatClampNeg z66.1))), (f0, .inl (G.2.1, 126, .inl f))] H := hP
        have hD : va_D A [(mo, .inr (6, [.int rf, .ref a_sc, .int ss, .ref a_nw, .ref a_tr, .ref a_di, .int ac, .ref a_ke, .ref a_ik, .ref a_od, .ref a_rk, .ref a_be, .ref a_fr, .int fs])), (a_od, .inl (G.2.1, 60, .inl od)), (a_rk, .inl (G.2.1, 60, .inl (upd z66.2 (od z66.1.toNatClampNeg).toNatClampNeg z66.1))), (f0, .inl (G.2.1, 126, .inl f))] := hD
        refine lv_iinc (v := (z66.1 + (1 : Int32))) (lv' := [(2, .int (z66.1 + (1 : Int32))), (0, .ref mo), (1, .ref f0)]) hx hb dX6_lay_85 hl (k := 2) rfl rfl (by decide) rfl (fun ls hl => ?_)
        refine lv_goto (tgt := 66) hx hb dX6_lay_88 (by decide) ?_
        obtain rfl := Option.some.inj hp
        exact ih66 ((z66.1 + (1 : Int32)), (upd z66.2 (od z66.1.toNatClampNeg).toNatClampNeg z66.1)) H locs hP hD hS ls (lv_sub hl [1, 2, 0] rfl) (fl_cont_inl hy66)
  have KJ64 : ∀ (od : fl_A) (rk : fl_A) (H : Heap) (locs : List Loc), va_P G.1 vwCl [(mo, .inr (6, [.int rf, .ref a_sc, .int ss, .ref a_nw, .ref a_tr, .ref a_di, .int ac, .ref a_ke, .ref a_ik, .ref a_od, .ref a_rk, .ref a_be, .ref a_fr, .int fs])), (a_od, .inl (G.2.1, 60, .inl od)), (a_rk, .inl (G.2.1, 60, .inl rk)), (f0, .inl (G.2.1, 126, .inl f))] H → va_D A [(mo, .inr (6, [.int rf, .ref a_sc, .int ss, .ref a_nw, .ref a_tr, .ref a_di, .int ac, .ref a_ke, .ref a_ik, .ref a_od, .ref a_rk, .ref a_be, .ref a_fr, .int fs])), (a_od, .inl (G.2.1, 60, .inl od)), (a_rk, .inl (G.2.1, 60, .inl rk)), (f0, .inl (G.2.1, 126, .inl f))] → va_S A s.heap H locs → ∀ (ls : Array Slot), lv_has ls 4 [(0, .ref mo), (1, .ref f0)] → P_M_lay_J64 od rk f = some r → W p l e (fl_rm 2 46) s m args below meth c H locs 0 0 Q (F0 m 64 ls []) := by
    intro od rk H locs hP hD hS ls hl hp
    unfold P_M_lay_J64 at hp
    refine lv_iconst (v := (0 : Int32)) hx hb dX6_lay_64 (by decide) ?_
    refine lv_istore_n (lv' := [(2, .int (0 : Int32)), (0, .ref mo), (1, .ref f0)]) hx hb dX6_lay_65 rfl hl (by decide) rfl (fun ls hl => ?_)
    obtain ⟨n0, hn⟩ := fl_loop_ex hp
    exact KL66 od n0 ((0 : Int32), rk) H locs hP hD hS ls (lv_sub hl [1, 2, 0] rfl) hn
  have KL2 : ∀ (rk : fl_A) (n0 : Nat) (z2 : (Int32 × fl_A)) (H : Heap) (locs : List Loc), va_P G.1 vwCl [(mo, .inr (6, [.int rf, .ref a_sc, .int ss, .ref a_nw, .ref a_tr, .ref a_di, .int ac, .ref a_ke, .ref a_ik, .ref a_od, .ref a_rk, .ref a_be, .ref a_fr, .int fs])), (a_od, .inl (G.2.1, 60, .inl z2.2)), (a_rk, .inl (G.2.1, 60, .inl rk)), (f0, .inl (G.2.1, 126, .inl f))] H → va_D A [(mo, .inr (6, [.int rf, .ref a_sc, .int ss, .ref a_nw, .ref a_tr, .ref a_di, .int ac, .ref a_ke, .ref a_ik, .ref a_od, .ref a_rk, .ref a_be, .ref a_fr, .int fs])), (a_od, .inl (G.2.1, 60, .inl z2.2)), (a_rk, .inl (G.2.1, 60, .inl rk)), (f0, .inl (G.2.1, 126, .inl f))] → va_S A s.heap H locs → ∀ (ls : Array Slot), lv_has ls 4 [(0, .ref mo), (1, .ref f0), (2, .int z2.1)] → fl_loopN (P_M_lay_L2 rk f) n0 z2 = some r → W p l e (fl_rm 2 46) s m args below meth c H locs 0 0 Q (F0 m 2 ls []) := by
    intro rk n0
    induction n0 with
    | zero => intro z2 H locs hP hD hS ls hl hn; exact (fl_loopN_0 hn).elim
    | succ n0 ih2 =>
      intro z2 H locs hP hD hS ls hl hn
      obtain ⟨y2, hb2, hy2⟩ := fl_loopN_step hn
      clear hn
      have KJ51 : ∀ (od : fl_A) (v2 : Int32) (v3 : Int32) (H : Heap) (locs : List Loc), va_P G.1 vwCl [(mo, .inr (6, [.int rf, .ref a_sc, .int ss, .ref a_nw, .ref a_tr, .ref a_di, .int ac, .ref a_ke, .ref a_ik, .ref a_od, .ref a_rk, .ref a_be, .ref a_fr, .int fs])), (a_od, .inl (G.2.1, 60, .inl od)), (a_rk, .inl (G.2.1, 60, .inl rk)), (f0, .inl (G.2.1, 126, .inl f))] H → va_D A [(mo, .inr (6, [.int rf, .ref a_sc, .int ss, .ref a_nw, .ref a_tr, .ref a_di, .int ac, .ref a_ke, .ref a_ik, .ref a_od, .ref a_rk, .ref a_be, .ref a_fr, .int fs])), (a_od, .inl (G.2.1, 60, .inl od)), (a_rk, .inl (G.2.1, 60, .inl rk)), (f0, .inl (G.2.1, 126, .inl f))] → va_S A s.heap H locs → ∀ (ls : Array Slot), lv_has ls 4 [(0, .ref mo), (1, .ref f0), (2, .int v2), (3, .int v3)] → P_M_lay_J51 od rk f v2 v3 = some y2 → W p l e (fl_rm 2 46) s m args below meth c H locs 0 0 Q (F0 m 51 ls []) := by
        intro od v2 v3 H locs hP hD hS ls hl hp
        unfold P_M_lay_J51 at hp
        refine lv_aload_n hx hb dX6_lay_51 rfl (lv_at hl 0 rfl) ?_
        refine va_get (D := G.1) (ci := 6) (v := .ref a_od) (C := RX6) (T := TX6) (N := 14) hx hb hts iX6 hown hK.1 hP 0 rfl rfl 9 (by decide) (hts (.fieldLink RX6 29 "SongChoirModel" "order" "[I") (List.mem_of_getElem? (i := 1) rfl)) (fun _ h9 => h9) rfl dX6_lay_52 ?_
        refine lv_iload_n hx hb dX6_lay_55 rfl (lv_at hl 3 rfl) ?_
        refine lv_iload_n hx hb dX6_lay_56 rfl (lv_at hl 2 rfl) ?_
        obtain ⟨hi, hp⟩ := fl_ck_of hp
        refine va_iast hx hb hK.1 hP hD hS 1 0 rfl rfl hi dX6_lay_57 (fun H locs hP hD hS => ?_)
        have hP : va_P G.1 vwCl [(mo, .inr (6, [.int rf, .ref a_sc, .int ss, .ref a_nw, .ref a_tr, .ref a_di, .int ac, .ref a_ke, .ref a_ik, .ref a_od, .ref a_rk, .ref a_be, .ref a_fr, .int fs])), (a_od, .inl (G.2.1, 60, .inl (upd od v3.toNatClampNeg v2))), (a_rk, .inl (G.2.1, 60, .inl rk)), (f0, .inl (G.2.1, 126, .inl f))] H := hP
        have hD : va_D A [(mo, .inr (6, [.int rf, .ref a_sc, .int ss, .ref a_nw, .ref a_tr, .ref a_di, .int ac, .ref a_ke, .ref a_ik, .ref a_od, .ref a_rk, .ref a_be, .ref a_fr, .int fs])), (a_od, .inl (G.2.1, 60, .inl (upd od v3.toNatClampNeg v2))), (a_rk, .inl (G.2.1, 60, .inl rk)), (f0, .inl (G.2.1, 126, .inl f))] := hD
        refine lv_iinc (v := (v2 + (1 : Int32))) (lv' := [(2, .int (v2 + (1 : Int32))), (0, .ref mo), (1, .ref f0), (3, .int v3)]) hx hb dX6_lay_58 hl (k := 2) rfl rfl (by decide) rfl (fun ls hl => ?_)
        refine lv_goto (tgt := 2) hx hb dX6_lay_61 (by decide) ?_
        obtain rfl := Option.some.inj hp
        exact ih2 ((v2 + (1 : Int32)), (upd od v3.toNatClampNeg v2)) H locs hP hD hS ls (lv_sub hl [1, 2, 0] rfl) (fl_cont_inl hy2)
      have KL11 : ∀ (v2 : Int32) (n0 : Nat) (z11 : (Int32 × fl_A)) (H : Heap) (locs : List Loc), va_P G.1 vwCl [(mo, .inr (6, [.int rf, .ref a_sc, .int ss, .ref a_nw, .ref a_tr, .ref a_di, .int ac, .ref a_ke, .ref a_ik, .ref a_od, .ref a_rk, .ref a_be, .ref a_fr, .int fs])), (a_od, .inl (G.2.1, 60, .inl z11.2)), (a_rk, .inl (G.2.1, 60, .inl rk)), (f0, .inl (G.2.1, 126, .inl f))] H → va_D A [(mo, .inr (6, [.int rf, .ref a_sc, .int ss, .ref a_nw, .ref a_tr, .ref a_di, .int ac, .ref a_ke, .ref a_ik, .ref a_od, .ref a_rk, .ref a_be, .ref a_fr, .int fs])), (a_od, .inl (G.2.1, 60, .inl z11.2)), (a_rk, .inl (G.2.1, 60, .inl rk)), (f0, .inl (G.2.1, 126, .inl f))] → va_S A s.heap H locs → ∀ (ls : Array Slot), lv_has ls 4 [(0, .ref mo), (1, .ref f0), (2, .int v2), (3, .int z11.1)] → fl_loopN (P_M_lay_L11 rk f v2) n0 z11 = some y2 → W p l e (fl_rm 2 46) s m args below meth c H locs 0 0 Q (F0 m 11 ls []) := by
        intro v2 n0
        induction n0 with
        | zero => intro z11 H locs hP hD hS ls hl hn; exact (fl_loopN_0 hn).elim
        | succ n0 ih11 =>
          intro z11 H locs hP hD hS ls hl hn
          obtain ⟨y11, hb11, hy11⟩ := fl_loopN_step hn
          clear hn
          have hp := hb11
          unfold P_M_lay_L11 at hp
          refine lv_iload_n hx hb dX6_lay_11 rfl (lv_at hl 3 rfl) ?_
          refine lv_if_le (tgt := 51) hx hb dX6_lay_12 (by decide) (fun hc => ?_) (fun hc => ?_)
          · replace hp := fl_t hc hp
            obtain ⟨_, hu0, rfl⟩ := fl_up_of hp
            obtain rfl := fl_cont_inr hy11
            exact KJ51 z11.2 v2 z11.1 H locs hP hD hS ls (lv_sub hl [0, 1, 2, 3] rfl) hu0
          · replace hp := fl_f hc hp
            refine lv_aload_n hx hb dX6_lay_15 rfl (lv_at hl 1 rfl) ?_
            refine lv_iload_n hx hb dX6_lay_16 rfl (lv_at hl 2 rfl) ?_
            refine lv_aload_n hx hb dX6_lay_17 rfl (lv_at hl 0 rfl) ?_
            refine va_get (D := G.1) (ci := 6) (v := .ref a_od) (C := RX6) (T := TX6) (N := 14) hx hb hts iX6 hown hK.1 hP 0 rfl rfl 9 (by decide) (hts (.fieldLink RX6 29 "SongChoirModel" "order" "[I") (List.mem_of_getElem? (i := 1) rfl)) (fun _ h9 => h9) rfl dX6_lay_18 ?_
            refine lv_iload_n hx hb dX6_lay_21 rfl (lv_at hl 3 rfl) ?_
            refine lv_iconst (v := (1 : Int32)) hx hb dX6_lay_22 (by decide) ?_
            refine lv_isub hx hb dX6_lay_23 ?_
            obtain ⟨hi, hp⟩ := fl_ck_of hp
            refine va_iald hx hb hK.1 hP 1 0 rfl rfl hi dX6_lay_24 ?_
            obtain ⟨q1, hq1, hp⟩ := fl_bd_of hp
            refine fl_roS (As := [.ref f0, .int v2, .int (z11.2 (z11.1 - (1 : Int32)).toNatClampNeg)]) (rest := []) C0 (c_M_isAhead l G f0 f v2 (z11.2 (z11.1 - (1 : Int32)).toNatClampNeg) hq1) (va_cwS 3 hts gX6_lay_X6_isAhead rfl rfl rfl (by decide +kernel) ⟨Nat.le_of_ble_eq_true rfl, Nat.le_of_ble_eq_true rfl⟩) hK hP [3] rfl hS hA rfl hl.1 rfl (Nat.le_of_ble_eq_true rfl) dX6_lay_25 ⟨Nat.zero_le _, Nat.zero_le _⟩ (fun H locs hP hS => ?_)
            refine lv_if_eq (tgt := 51) hx hb dX6_lay_28 (by decide) (fun hc => ?_) (fun hc => ?_)
            · replace hp := fl_t hc hp
              obtain ⟨_, hu0, rfl⟩ := fl_up_of hp
              obtain rfl := fl_cont_inr hy11
              exact KJ51 z11.2 v2 z11.1 H locs hP hD hS ls (lv_sub hl [0, 1, 2, 3] rfl) hu0
            · replace hp := fl_f hc hp
              refine lv_aload_n hx hb dX6_lay_31 rfl (lv_at hl 0 rfl) ?_
              refine va_get (D := G.1) (ci := 6) (v := .ref a_od) (C := RX6) (T := TX6) (N := 14) hx hb hts iX6 hown hK.1 hP 0 rfl rfl 9 (by decide) (hts (.fieldLink RX6 29 "SongChoirModel" "order" "[I") (List.mem_of_getElem? (i := 1) rfl)) (fun _ h9 => h9) rfl dX6_lay_32 ?_
              refine lv_iload_n hx hb dX6_lay_35 rfl (lv_at hl 3 rfl) ?_
              refine lv_aload_n hx hb dX6_lay_36 rfl (lv_at hl 0 rfl) ?_
              refine va_get (D := G.1) (ci := 6) (v := .ref a_od) (C := RX6) (T := TX6) (N := 14) hx hb hts iX6 hown hK.1 hP 0 rfl rfl 9 (by decide) (hts (.fieldLink RX6 29 "SongChoirModel" "order" "[I") (List.mem_of_getElem? (i := 1) rfl)) (fun _ h9 => h9) rfl dX6_lay_37 ?_
              refine lv_iload_n hx hb dX6_lay_40 rfl (lv_at hl 3 rfl) ?_
              refine lv_iconst (v := (1 : Int32)) hx hb dX6_lay_41 (by decide) ?_
              refine lv_isub hx hb dX6_lay_42 ?_
              obtain ⟨hi, hp⟩ := fl_ck_of hp
              refine va_iald hx hb hK.1 hP 1 0 rfl rfl hi dX6_lay_43 ?_
              obtain ⟨hi, hp⟩ := fl_ck_of hp
              refine va_iast hx hb hK.1 hP hD hS 1 0 rfl rfl hi dX6_lay_44 (fun H locs hP hD hS => ?_)
              have hP : va_P G.1 vwCl [(mo, .inr (6, [.int rf, .ref a_sc, .int ss, .ref a_nw, .ref a_tr, .ref a_di, .int ac, .ref a_ke, .ref a_ik, .ref a_od, .ref a_rk, .ref a_be, .ref a_fr, .int fs])), (a_od, .inl (G.2.1, 60, .inl (upd z11.2 z11.1.toNatClampNeg (z11.2 (z11.1 - (1 : Int32)).toNatClampNeg)))), (a_rk, .inl (G.2.1, 60, .inl rk)), (f0, .inl (G.2.1, 126, .inl f))] H := hP
              have hD : va_D A [(mo, .inr (6, [.int rf, .ref a_sc, .int ss, .ref a_nw, .ref a_tr, .ref a_di, .int ac, .ref a_ke, .ref a_ik, .ref a_od, .ref a_rk, .ref a_be, .ref a_fr, .int fs])), (a_od, .inl (G.2.1, 60, .inl (upd z11.2 z11.1.toNatClampNeg (z11.2 (z11.1 - (1 : Int32)).toNatClampNeg)))), (a_rk, .inl (G.2.1, 60, .inl rk)), (f0, .inl (G.2.1, 126, .inl f))] := hD
              refine lv_iinc (v := (z11.1 + (-1 : Int32))) (lv' := [(3, .int (z11.1 + (-1 : Int32))), (0, .ref mo), (1, .ref f0), (2, .int v2)]) hx hb dX6_lay_45 hl (k := 3) rfl rfl (by decide) rfl (fun ls hl => ?_)
              refine lv_goto (tgt := 11) hx hb dX6_lay_48 (by decide) ?_
              obtain rfl := Option.some.inj hp
              exact ih11 ((z11.1 + (-1 : Int32)), (upd z11.2 z11.1.toNatClampNeg (z11.2 (z11.1 - (1 : Int32)).toNatClampNeg))) H locs hP hD hS ls (lv_sub hl [1, 2, 3, 0] rfl) (fl_cont_inl hy11)
      have hp := hb2
      unfold P_M_lay_L2 at hp
      refine lv_iload_n hx hb dX6_lay_2 rfl (lv_at hl 2 rfl) ?_
      refine lv_aload_n hx hb dX6_lay_3 rfl (lv_at hl 1 rfl) ?_
      refine lv_iconst (v := (0 : Int32)) hx hb dX6_lay_4 (by decide) ?_
      obtain ⟨hi, hp⟩ := fl_ck_of hp
      refine va_iald hx hb hK.1 hP 3 0 rfl rfl hi dX6_lay_5 ?_
      refine lv_icmp_ge (tgt := 64) hx hb dX6_lay_6 (by decide) (fun hc => ?_) (fun hc => ?_)
      · replace hp := fl_t hc hp
        obtain ⟨_, hu0, rfl⟩ := fl_up_of hp
        obtain rfl := fl_cont_inr hy2
        exact KJ64 z2.2 rk H locs hP hD hS ls (lv_sub hl [0, 1] rfl) hu0
      · replace hp := fl_f hc hp
        refine lv_iload_n hx hb dX6_lay_9 rfl (lv_at hl 2 rfl) ?_
        refine lv_istore_n (lv' := [(3, .int z2.1), (0, .ref mo), (1, .ref f0), (2, .int z2.1)]) hx hb dX6_lay_10 rfl hl (by decide) rfl (fun ls hl => ?_)
        obtain ⟨n0, hn⟩ := fl_loop_ex hp
        exact KL11 z2.1 n0 (z2.1, z2.2) H locs hP hD hS ls (lv_sub hl [1, 2, 3, 0] rfl) hn
  have hp := hp0
  unfold P_M_lay at hp
  refine lv_iconst (v := (0 : Int32)) hx hb dX6_lay_0 (by decide) ?_
  refine lv_istore_n (lv' := [(2, .int (0 : Int32)), (0, .ref mo), (1, .ref f0)]) hx hb dX6_lay_1 rfl hl (by decide) rfl (fun ls hl => ?_)
  obtain ⟨n0, hn⟩ := fl_loop_ex hp
  exact KL2 rk n0 ((0 : Int32), od) H locs hP hD hS ls (lv_sub hl [1, 2, 0] rfl) hn

noncomputable def P_M_firstOf (f : fl_A) (p1 : Int32) : Option Int32 := fl_ck (0 : Int32) 126 (fl_ck (2 : Int32) 126 (fl_nz (f (2 : Int32).toNatClampNeg) (some ((p1 * (f (0 : Int32).toNatClampNeg)) / (f (2 : Int32).toNatClampNeg)))))
set_option maxHeartbeats 4000000 in
set_option maxRecDepth 100000 in
theorem c_M_firstOf (l : Launch) (G : fl_G) (f0 : Nat) (f : fl_A) (p1 : Int32) {r : Int32} (hp0 : P_M_firstOf f p1 = some r) : fl_ro l yX6_firstOf wsX6_firstOf 0 0 G [.ref f0, .int p1] [(f0, .inl (G.2.1, 126, .inl f))] (.int r) := by
  refine fl_ro_in cX6_firstOf 2 .int RX6 (by decide) rfl rfl (Nat.le_of_ble_eq_true rfl) ?_
  intro p e s m args below meth c ls Q H locs C0 hK hP hS hl hfin
  have hA : ∀ q : Nat, s.heap.size ≤ q → va_A [] s.heap.size q := fl_hA _ _
  obtain ⟨hx, hb, hml, hown, hts⟩ := id C0
  have hl : lv_has ls 2 [(0, .ref f0), (1, .int p1)] := hl
  have hp := hp0
  unfold P_M_firstOf at hp
  refine lv_iload_n hx hb dX6_firstOf_0 rfl (lv_at hl 1 rfl) ?_
  refine lv_aload_n hx hb dX6_firstOf_1 rfl (lv_at hl 0 rfl) ?_
  refine lv_iconst (v := (0 : Int32)) hx hb dX6_firstOf_2 (by decide) ?_
  obtain ⟨hi, hp⟩ := fl_ck_of hp
  refine va_iald hx hb hK.1 hP 0 0 rfl rfl hi dX6_firstOf_3 ?_
  refine lv_imul hx hb dX6_firstOf_4 ?_
  refine lv_aload_n hx hb dX6_firstOf_5 rfl (lv_at hl 0 rfl) ?_
  refine lv_iconst (v := (2 : Int32)) hx hb dX6_firstOf_6 (by decide) ?_
  obtain ⟨hi, hp⟩ := fl_ck_of hp
  refine va_iald hx hb hK.1 hP 0 0 rfl rfl hi dX6_firstOf_7 ?_
  obtain ⟨hne, hp⟩ := fl_nz_of hp
  refine lv_idiv hx hb dX6_firstOf_8 hne ?_
  obtain rfl := Option.some.inj hp
  exact hfin H locs _ ls hS dX6_firstOf_9 rfl

noncomputable def P_M_singerOf_L2 (f : fl_A) (p1 : Int32) (z2 : Int32) : Option (Int32 ⊕ Int32) := fl_bd (P_M_firstOf f (z2 + (1 : Int32))) (fun q1 => if p1 < q1 then some (.inr z2) else some (.inl (z2 + (1 : Int32))))
noncomputable def P_M_singerOf (f : fl_A) (p1 : Int32) : Option Int32 := fl_loop (P_M_singerOf_L2 f p1) (0 : Int32)
set_option maxHeartbeats 4000000 in
set_option maxRecDepth 100000 in
theorem c_M_singerOf (l : Launch) (G : fl_G) (f0 : Nat) (f : fl_A) (p1 : Int32) {r : Int32} (hp0 : P_M_singerOf f p1 = some r) : fl_ro l yX6_singerOf wsX6_singerOf 1 21 G [.ref f0, .int p1] [(f0, .inl (G.2.1, 126, .inl f))] (.int r) := by
  refine fl_ro_in cX6_singerOf 3 .int RX6 (by decide) rfl rfl (Nat.le_of_ble_eq_true rfl) ?_
  intro p e s m args below meth c ls Q H locs C0 hK hP hS hl hfin
  have hA : ∀ q : Nat, s.heap.size ≤ q → va_A [] s.heap.size q := fl_hA _ _
  obtain ⟨hx, hb, hml, hown, hts⟩ := id C0
  have hl : lv_has ls 3 [(0, .ref f0), (1, .int p1)] := hl
  have KL2 : ∀ (n0 : Nat) (z2 : Int32) (H : Heap) (locs : List Loc), va_P G.1 vwCl [(f0, .inl (G.2.1, 126, .inl f))] H → va_S (va_A [] s.heap.size) s.heap H locs → ∀ (ls : Array Slot), lv_has ls 3 [(0, .ref f0), (1, .int p1), (2, .int z2)] → fl_loopN (P_M_singerOf_L2 f p1) n0 z2 = some r → W p l e (fl_rm 1 21) s m args below meth c H locs 0 0 Q (F0 m 2 ls []) := by
    intro n0
    induction n0 with
    | zero => intro z2 H locs hP hS ls hl hn; exact (fl_loopN_0 hn).elim
    | succ n0 ih2 =>
      intro z2 H locs hP hS ls hl hn
      obtain ⟨y2, hb2, hy2⟩ := fl_loopN_step hn
      clear hn
      have hp := hb2
      unfold P_M_singerOf_L2 at hp
      refine lv_aload_n hx hb dX6_singerOf_2 rfl (lv_at hl 0 rfl) ?_
      refine lv_iload_n hx hb dX6_singerOf_3 rfl (lv_at hl 2 rfl) ?_
      refine lv_iconst (v := (1 : Int32)) hx hb dX6_singerOf_4 (by decide) ?_
      refine lv_iadd hx hb dX6_singerOf_5 ?_
      obtain ⟨q1, hq1, hp⟩ := fl_bd_of hp
      refine fl_roS (As := [.ref f0, .int (z2 + (1 : Int32))]) (rest := []) C0 (c_M_firstOf l G f0 f (z2 + (1 : Int32)) hq1) (va_cwS 2 hts gX6_singerOf_X6_firstOf rfl rfl rfl (by decide +kernel) ⟨Nat.le_of_ble_eq_true rfl, Nat.le_of_ble_eq_true rfl⟩) hK hP [0] rfl hS hA rfl hl.1 rfl (Nat.le_of_ble_eq_true rfl) dX6_singerOf_6 ⟨Nat.zero_le _, Nat.zero_le _⟩ (fun H locs hP hS => ?_)
      refine lv_iload_n hx hb dX6_singerOf_9 rfl (lv_at hl 1 rfl) ?_
      refine lv_icmp_gt (tgt := 19) hx hb dX6_singerOf_10 (by decide) (fun hc => ?_) (fun hc => ?_)
      · replace hp := fl_t hc hp
        refine lv_iload_n hx hb dX6_singerOf_19 rfl (lv_at hl 2 rfl) ?_
        obtain rfl := Option.some.inj hp
        obtain rfl := fl_cont_inr hy2
        exact hfin H locs _ ls hS dX6_singerOf_20 rfl
      · replace hp := fl_f hc hp
        refine lv_iinc (v := (z2 + (1 : Int32))) (lv' := [(2, .int (z2 + (1 : Int32))), (0, .ref f0), (1, .int p1)]) hx hb dX6_singerOf_13 hl (k := 2) rfl rfl (by decide) rfl (fun ls hl => ?_)
        refine lv_goto (tgt := 2) hx hb dX6_singerOf_16 (by decide) ?_
        obtain rfl := Option.some.inj hp
        exact ih2 (z2 + (1 : Int32)) H locs hP hS ls (lv_sub hl [1, 2, 0] rfl) (fl_cont_inl hy2)
  have hp := hp0
  unfold P_M_singerOf at hp
  refine lv_iconst (v := (0 : Int32)) hx hb dX6_singerOf_0 (by decide) ?_
  refine lv_istore_n (lv' := [(2, .int (0 : Int32)), (0, .ref f0), (1, .int p1)]) hx hb dX6_singerOf_1 rfl hl (by decide) rfl (fun ls hl => ?_)
  obtain ⟨n0, hn⟩ := fl_loop_ex hp
  exact KL2 n0 (0 : Int32) H locs hP hS ls (lv_sub hl [1, 2, 0] rfl) hn

noncomputable def P_M_watch_L7 (od : fl_A) (rk : fl_A) (f : fl_A) (z7 : (Int32 × fl_A)) : Option ((Int32 × fl_A) ⊕ (fl_A × fl_A × fl_A)) := fl_ck (0 : Int32) 126 (if (f (0 : Int32).toNatClampNeg) ≤ z7.1 then some (.inr (od, rk, z7.2)) else fl_ck z7.1 60 (fl_bd (P_M_singerOf f (rk z7.1.toNatClampNeg)) (fun q1 => fl_ck z7.1 60 (some (.inl ((z7.1 + (1 : Int32)), (upd z7.2 z7.1.toNatClampNeg q1)))))))
noncomputable def P_M_watch (od : fl_A) (rk : fl_A) (be : fl_A) (f : fl_A) : Option (fl_A × fl_A × fl_A) := fl_bd (P_M_lay od rk f) (fun q1 => fl_loop (P_M_watch_L7 q1.1 q1.2 f) ((0 : Int32), be))
set_option maxHeartbeats 4000000 in
set_option maxRecDepth 100000 in
theorem c_M_watch (l : Launch) (G : fl_G) (mo a_sc a_nw a_tr a_di a_ke a_ik a_od a_rk a_be a_fr f0 : Nat) (rf : Int32) (ss : Int32) (ac : Int32) (fs : Int32) (od : fl_A) (rk : fl_A) (be : fl_A) (f : fl_A) {r : (fl_A × fl_A × fl_A)} (hp0 : P_M_watch od rk be f = some r) : fl_mu l yX6_watch wsX6_watch 3 69 G [.ref mo, .ref f0] [(mo, .inr (6, [.int rf, .ref a_sc, .int ss, .ref a_nw, .ref a_tr, .ref a_di, .int ac, .ref a_ke, .ref a_ik, .ref a_od, .ref a_rk, .ref a_be, .ref a_fr, .int fs])), (a_od, .inl (G.2.1, 60, .inl od)), (a_rk, .inl (G.2.1, 60, .inl rk)), (a_be, .inl (G.2.1, 60, .inl be)), (f0, .inl (G.2.1, 126, .inl f))] none [(mo, .inr (6, [.int rf, .ref a_sc, .int ss, .ref a_nw, .ref a_tr, .ref a_di, .int ac, .ref a_ke, .ref a_ik, .ref a_od, .ref a_rk, .ref a_be, .ref a_fr, .int fs])), (a_od, .inl (G.2.1, 60, .inl r.1)), (a_rk, .inl (G.2.1, 60, .inl r.2.1)), (a_be, .inl (G.2.1, 60, .inl r.2.2)), (f0, .inl (G.2.1, 126, .inl f))] := by
  refine fl_muv_in cX6_watch 3 RX6 (by decide) rfl rfl (Nat.le_of_ble_eq_true rfl) ?_
  intro p e s m args below meth c ls A Q H locs C0 hK hP hD hS hA hl hfin
  obtain ⟨hx, hb, hml, hown, hts⟩ := id C0
  have iX6 : ∀ w ∈ u_ws RX6 TX6 14, w ∈ wsX6_watch := fun _ h => List.mem_cons_of_mem _ (List.mem_append_right _ h)
  have hl : lv_has ls 3 [(0, .ref mo), (1, .ref f0)] := hl
  have KL7 : ∀ (od : fl_A) (rk : fl_A) (n0 : Nat) (z7 : (Int32 × fl_A)) (H : Heap) (locs : List Loc), va_P G.1 vwCl [(mo, .inr (6, [.int rf, .ref a_sc, .int ss, .ref a_nw, .ref a_tr, .ref a_di, .int ac, .ref a_ke, .ref a_ik, .ref a_od, .ref a_rk, .ref a_be, .ref a_fr, .int fs])), (a_od, .inl (G.2.1, 60, .inl od)), (a_rk, .inl (G.2.1, 60, .inl rk)), (a_be, .inl (G.2.1, 60, .inl z7.2)), (f0, .inl (G.2.1, 126, .inl f))] H → va_D A [(mo, .inr (6, [.int rf, .ref a_sc, .int ss, .ref a_nw, .ref a_tr, .ref a_di, .int ac, .ref a_ke, .ref a_ik, .ref a_od, .ref a_rk, .ref a_be, .ref a_fr, .int fs])), (a_od, .inl (G.2.1, 60, .inl od)), (a_rk, .inl (G.2.1, 60, .inl rk)), (a_be, .inl (G.2.1, 60, .inl z7.2)), (f0, .inl (G.2.1, 126, .inl f))] → va_S A s.heap H locs → ∀ (ls : Array Slot), lv_has ls 3 [(0, .ref mo), (1, .ref f0), (2, .int z7.1)] → fl_loopN (P_M_watch_L7 od rk f) n0 z7 = some r → W p l e (fl_rm 3 69) s m args below meth c H locs 0 0 Q (F0 m 7 ls []) := by
    intro od rk n0
    induction n0 with
    | zero => intro z7 H locs hP hD hS ls hl hn; exact (fl_loopN_0 hn).elim
    | succ n0 ih7 =>
      intro z7 H locs hP hD hS ls hl hn
      obtain ⟨y7, hb7, hy7⟩ := fl_loopN_step hn
      clear hn
      have hp := hb7
      unfold P_M_watch_L7 at hp
      refine lv_iload_n hx hb dX6_watch_7 rfl (lv_at hl 2 rfl) ?_
      refine lv_aload_n hx hb dX6_watch_8 rfl (lv_at hl 1 rfl) ?_
      refine lv_iconst (v := (0 : Int32)) hx hb dX6_watch_9 (by decide) ?_
      obtain ⟨hi, hp⟩ := fl_ck_of hp
      refine va_iald hx hb hK.1 hP 4 0 rfl rfl hi dX6_watch_10 ?_
      refine lv_icmp_ge (tgt := 36) hx hb dX6_watch_11 (by decide) (fun hc => ?_) (fun hc => ?_)
      · replace hp := fl_t hc hp
        obtain rfl := Option.some.inj hp
        obtain rfl := fl_cont_inr hy7
        exact hfin H locs _ ls hP hD hS dX6_watch_36
      · replace hp := fl_f hc hp
        refine lv_aload_n hx hb dX6_watch_14 rfl (lv_at hl 0 rfl) ?_
        refine va_get (D := G.1) (ci := 6) (v := .ref a_be) (C := RX6) (T := TX6) (N := 14) hx hb hts iX6 hown hK.1 hP 0 rfl rfl 11 (by decide) (hts (.fieldLink RX6 35 "SongChoirModel" "before" "[I") (List.mem_of_getElem? (i := 1) rfl)) (fun _ h9 => h9) rfl dX6_watch_15 ?_
        refine lv_iload_n hx hb dX6_watch_18 rfl (lv_at hl 2 rfl) ?_
        refine lv_aload_n hx hb dX6_watch_19 rfl (lv_at hl 1 rfl) ?_
        refine lv_aload_n hx hb dX6_watch_20 rfl (lv_at hl 0 rfl) ?_
        refine va_get (D := G.1) (ci := 6) (v := .ref a_rk) (C := RX6) (T := TX6) (N := 14) hx hb hts iX6 hown hK.1 hP 0 rfl rfl 10 (by decide) (hts (.fieldLink RX6 32 "SongChoirModel" "ranks" "[I") (List.mem_of_getElem? (i := 2) rfl)) (fun _ h9 => h9) rfl dX6_watch_21 ?_
        refine lv_iload_n hx hb dX6_watch_24 rfl (lv_at hl 2 rfl) ?_
        obtain ⟨hi, hp⟩ := fl_ck_of hp
        refine va_iald hx hb hK.1 hP 2 0 rfl rfl hi dX6_watch_25 ?_
        obtain ⟨q1, hq1, hp⟩ := fl_bd_of hp
        refine fl_roS (As := [.ref f0, .int (rk z7.1.toNatClampNeg)]) (rest := [.int z7.1, .ref a_be]) C0 (c_M_singerOf l G f0 f (rk z7.1.toNatClampNeg) hq1) (va_cwS 2 hts gX6_watch_X6_singerOf rfl rfl rfl (by decide +kernel) ⟨Nat.le_of_ble_eq_true rfl, Nat.le_of_ble_eq_true rfl⟩) hK hP [4] rfl hS hA rfl hl.1 rfl (Nat.le_of_ble_eq_true rfl) dX6_watch_26 ⟨Nat.zero_le _, Nat.zero_le _⟩ (fun H locs hP hS => ?_)
        obtain ⟨hi, hp⟩ := fl_ck_of hp
        refine va_iast hx hb hK.1 hP hD hS 3 0 rfl rfl hi dX6_watch_29 (fun H locs hP hD hS => ?_)
        have hP : va_P G.1 vwCl [(mo, .inr (6, [.int rf, .ref a_sc, .int ss, .ref a_nw, .ref a_tr, .ref a_di, .int ac, .ref a_ke, .ref a_ik, .ref a_od, .ref a_rk, .ref a_be, .ref a_fr, .int fs])), (a_od, .inl (G.2.1, 60, .inl od)), (a_rk, .inl (G.2.1, 60, .inl rk)), (a_be, .inl (G.2.1, 60, .inl (upd z7.2 z7.1.toNatClampNeg q1))), (f0, .inl (G.2.1, 126, .inl f))] H := hP
        have hD : va_D A [(mo, .inr (6, [.int rf, .ref a_sc, .int ss, .ref a_nw, .ref a_tr, .ref a_di, .int ac, .ref a_ke, .ref a_ik, .ref a_od, .ref a_rk, .ref a_be, .ref a_fr, .int fs])), (a_od, .inl (G.2.1, 60, .inl od)), (a_rk, .inl (G.2.1, 60, .inl rk)), (a_be, .inl (G.2.1, 60, .inl (upd z7.2 z7.1.toNatClampNeg q1))), (f0, .inl (G.2.1, 126, .inl f))] := hD
        refine lv_iinc (v := (z7.1 + (1 : Int32))) (lv' := [(2, .int (z7.1 + (1 : Int32))), (0, .ref mo), (1, .ref f0)]) hx hb dX6_watch_30 hl (k := 2) rfl rfl (by decide) rfl (fun ls hl => ?_)
        refine lv_goto (tgt := 7) hx hb dX6_watch_33 (by decide) ?_
        obtain rfl := Option.some.inj hp
        exact ih7 ((z7.1 + (1 : Int32)), (upd z7.2 z7.1.toNatClampNeg q1)) H locs hP hD hS ls (lv_sub hl [1, 2, 0] rfl) (fl_cont_inl hy7)
  have hp := hp0
  unfold P_M_watch at hp
  refine lv_aload_n hx hb dX6_watch_0 rfl (lv_at hl 0 rfl) ?_
  refine lv_aload_n hx hb dX6_watch_1 rfl (lv_at hl 1 rfl) ?_
  obtain ⟨q1, hq1, hp⟩ := fl_bd_of hp
  refine fl_muV (As := [.ref f0]) (rest := []) [(mo, .inr (6, [.int rf, .ref a_sc, .int ss, .ref a_nw, .ref a_tr, .ref a_di, .int ac, .ref a_ke, .ref a_ik, .ref a_od, .ref a_rk, .ref a_be, .ref a_fr, .int fs])), (a_od, .inl (G.2.1, 60, .inl q1.1)), (a_rk, .inl (G.2.1, 60, .inl q1.2)), (a_be, .inl (G.2.1, 60, .inl be)), (f0, .inl (G.2.1, 126, .inl f))] C0 (c_M_lay l G mo a_sc a_nw a_tr a_di a_ke a_ik a_od a_rk a_be a_fr f0 rf ss ac fs od rk f hq1) (cwV 1 hts gX6_watch_X6_lay rfl rfl rfl (by decide +kernel) ⟨Nat.le_of_ble_eq_true rfl, Nat.le_of_ble_eq_true rfl⟩) hK hP hD [0, 1, 2, 4] [3] [1, 2, 3, 0, 4] rfl rfl (by decide) (by decide) rfl 0 6 rfl rfl rfl hS hA rfl hl.1 rfl (Nat.le_of_ble_eq_true rfl) dX6_watch_2 ⟨Nat.zero_le _, Nat.zero_le _⟩ (fun H locs hP hD hS => ?_)
  refine lv_iconst (v := (0 : Int32)) hx hb dX6_watch_5 (by decide) ?_
  refine lv_istore_n (lv' := [(2, .int (0 : Int32)), (0, .ref mo), (1, .ref f0)]) hx hb dX6_watch_6 rfl hl (by decide) rfl (fun ls hl => ?_)
  obtain ⟨n0, hn⟩ := fl_loop_ex hp
  exact KL7 q1.1 q1.2 n0 ((0 : Int32), be) H locs hP hD hS ls (lv_sub hl [1, 2, 0] rfl) hn

noncomputable def P_M_handOver_J72 (od : fl_A) (rk : fl_A) (be : fl_A) (f : fl_A) (v4 : Int32) : Option (Int32 × fl_A × fl_A × fl_A) := fl_ck (4 : Int32) 126 (fl_ck (4 : Int32) 126 (some (v4, od, rk, (upd f (4 : Int32).toNatClampNeg ((f (4 : Int32).toNatClampNeg) + v4)))))
noncomputable def P_M_handOver_J63 (od : fl_A) (rk : fl_A) (be : fl_A) (f : fl_A) (p1 : Int32) (p2 : Int32) (v5 : Int32) (k0 : Int32) (k1 : Int32) : Option ((Int32 × Int32) ⊕ (Int32 × fl_A × fl_A × fl_A)) := some (.inl ((k1 + k0), (v5 + (1 : Int32))))
noncomputable def P_M_handOver_J62 (od : fl_A) (rk : fl_A) (be : fl_A) (f : fl_A) (p1 : Int32) (p2 : Int32) (v5 : Int32) (k0 : Int32) : Option ((Int32 × Int32) ⊕ (Int32 × fl_A × fl_A × fl_A)) := P_M_handOver_J63 od rk be f p1 p2 v5 (0 : Int32) k0
noncomputable def P_M_handOver_L11 (od : fl_A) (rk : fl_A) (be : fl_A) (f : fl_A) (p1 : Int32) (p2 : Int32) (z11 : (Int32 × Int32)) : Option ((Int32 × Int32) ⊕ (Int32 × fl_A × fl_A × fl_A)) := fl_ck (0 : Int32) 126 (if (f (0 : Int32).toNatClampNeg) ≤ z11.2 then fl_up (P_M_handOver_J72 od rk be f z11.1) else fl_ck (3 : Int32) 126 (if p1 ≤ ((z11.2 + (f (3 : Int32).toNatClampNeg)) - p2) then P_M_handOver_J62 od rk be f p1 p2 z11.2 z11.1 else fl_ck ((z11.2 + (f (3 : Int32).toNatClampNeg)) - p2) 60 (fl_ck z11.2 60 (fl_bd (P_M_singerOf f (rk z11.2.toNatClampNeg)) (fun q1 => if (be ((z11.2 + (f (3 : Int32).toNatClampNeg)) - p2).toNatClampNeg) = q1 then P_M_handOver_J62 od rk be f p1 p2 z11.2 z11.1 else P_M_handOver_J63 od rk be f p1 p2 z11.2 (1 : Int32) z11.1)))))
noncomputable def P_M_handOver (od : fl_A) (rk : fl_A) (be : fl_A) (f : fl_A) (p1 : Int32) (p2 : Int32) : Option (Int32 × fl_A × fl_A × fl_A) := fl_bd (P_M_lay od rk f) (fun q1 => fl_loop (P_M_handOver_L11 q1.1 q1.2 be f p1 p2) ((0 : Int32), (0 : Int32)))
set_option maxHeartbeats 4000000 in
set_option maxRecDepth 100000 in
theorem c_M_handOver (l : Launch) (G : fl_G) (mo a_sc a_nw a_tr a_di a_ke a_ik a_od a_rk a_be a_fr f0 : Nat) (rf : Int32) (ss : Int32) (ac : Int32) (fs : Int32) (od : fl_A) (rk : fl_A) (be : fl_A) (f : fl_A) (p1 : Int32) (p2 : Int32) {r : (Int32 × fl_A × fl_A × fl_A)} (hp0 : P_M_handOver od rk be f p1 p2 = some r) : fl_mu l yX6_handOver wsX6_handOver 3 69 G [.ref mo, .ref f0, .int p1, .int p2] [(mo, .inr (6, [.int rf, .ref a_sc, .int ss, .ref a_nw, .ref a_tr, .ref a_di, .int ac, .ref a_ke, .ref a_ik, .ref a_od, .ref a_rk, .ref a_be, .ref a_fr, .int fs])), (a_od, .inl (G.2.1, 60, .inl od)), (a_rk, .inl (G.2.1, 60, .inl rk)), (a_be, .inl (G.2.1, 60, .inl be)), (f0, .inl (G.2.1, 126, .inl f))] (some (.int r.1)) [(mo, .inr (6, [.int rf, .ref a_sc, .int ss, .ref a_nw, .ref a_tr, .ref a_di, .int ac, .ref a_ke, .ref a_ik, .ref a_od, .ref a_rk, .ref a_be, .ref a_fr, .int fs])), (a_od, .inl (G.2.1, 60, .inl r.2.1)), (a_rk, .inl (G.2.1, 60, .inl r.2.2.1)), (a_be, .inl (G.2.1, 60, .inl be)), (f0, .inl (G.2.1, 126, .inl r.2.2.2))] := by
  refine fl_mui_in cX6_handOver 7 .int RX6 (by decide) rfl rfl (Nat.le_of_ble_eq_true rfl) ?_
  intro p e s m args below meth c ls A Q H locs C0 hK hP hD hS hA hl hfin
  obtain ⟨hx, hb, hml, hown, hts⟩ := id C0
  have iX6 : ∀ w ∈ u_ws RX6 TX6 14, w ∈ wsX6_handOver := fun _ h => List.mem_cons_of_mem _ (List.mem_append_right _ h)
  have hl : lv_has ls 7 [(0, .ref mo), (1, .ref f0), (2, .int p1), (3, .int p2)] := hl
  have KJ72 : ∀ (od : fl_A) (rk : fl_A) (f : fl_A) (v4 : Int32) (H : Heap) (locs : List Loc), va_P G.1 vwCl [(mo, .inr (6, [.int rf, .ref a_sc, .int ss, .ref a_nw, .ref a_tr, .ref a_di, .int ac, .ref a_ke, .ref a_ik, .ref a_od, .ref a_rk, .ref a_be, .ref a_fr, .int fs])), (a_od, .inl (G.2.1, 60, .inl od)), (a_rk, .inl (G.2.1, 60, .inl rk)), (a_be, .inl (G.2.1, 60, .inl be)), (f0, .inl (G.2.1, 126, .inl f))] H → va_D A [(mo, .inr (6, [.int rf, .ref a_sc, .int ss, .ref a_nw, .ref a_tr, .ref a_di, .int ac, .ref a_ke, .ref a_ik, .ref a_od, .ref a_rk, .ref a_be, .ref a_fr, .int fs])), (a_od, .inl (G.2.1, 60, .inl od)), (a_rk, .inl (G.2.1, 60, .inl rk)), (a_be, .inl (G.2.1, 60, .inl be)), (f0, .inl (G.2.1, 126, .inl f))] → va_S A s.heap H locs → ∀ (ls : Array Slot), lv_has ls 7 [(1, .ref f0), (4, .int v4)] → P_M_handOver_J72 od rk be f v4 = some r → W p l e (fl_rm 3 69) s m args below meth c H locs 0 0 Q (F0 m 72 ls []) := by
    intro od rk f v4 H locs hP hD hS ls hl hp
    unfold P_M_handOver_J72 at hp
    refine lv_aload_n hx hb dX6_handOver_72 rfl (lv_at hl 0 rfl) ?_
    refine lv_iconst (v := (4 : Int32)) hx hb dX6_handOver_73 (by decide) ?_
    refine lv_dup2_11 hx hb dX6_handOver_74 rfl rfl ?_
    obtain ⟨hi, hp⟩ := fl_ck_of hp
    refine va_iald hx hb hK.1 hP 4 0 rfl rfl hi dX6_handOver_75 ?_
    refine lv_iload hx hb dX6_handOver_76 (lv_at hl 1 rfl) ?_
    refine lv_iadd hx hb dX6_handOver_78 ?_
    obtain ⟨hi, hp⟩ := fl_ck_of hp
    refine va_iast hx hb hK.1 hP hD hS 4 0 rfl rfl hi dX6_handOver_79 (fun H locs hP hD hS => ?_)
    have hP : va_P G.1 vwCl [(mo, .inr (6, [.int rf, .ref a_sc, .int ss, .ref a_nw, .ref a_tr, .ref a_di, .int ac, .ref a_ke, .ref a_ik, .ref a_od, .ref a_rk, .ref a_be, .ref a_fr, .int fs])), (a_od, .inl (G.2.1, 60, .inl od)), (a_rk, .inl (G.2.1, 60, .inl rk)), (a_be, .inl (G.2.1, 60, .inl be)), (f0, .inl (G.2.1, 126, .inl (upd f (4 : Int32).toNatClampNeg ((f (4 : Int32).toNatClampNeg) + v4))))] H := hP
    have hD : va_D A [(mo, .inr (6, [.int rf, .ref a_sc, .int ss, .ref a_nw, .ref a_tr, .ref a_di, .int ac, .ref a_ke, .ref a_ik, .ref a_od, .ref a_rk, .ref a_be, .ref a_fr, .int fs])), (a_od, .inl (G.2.1, 60, .inl od)), (a_rk, .inl (G.2.1, 60, .inl rk)), (a_be, .inl (G.2.1, 60, .inl be)), (f0, .inl (G.2.1, 126, .inl (upd f (4 : Int32).toNatClampNeg ((f (4 : Int32).toNatClampNeg) + v4))))] := hD
    refine lv_iload hx hb dX6_handOver_80 (lv_at hl 1 rfl) ?_
    obtain rfl := Option.some.inj hp
    exact hfin H locs _ ls hP hD hS dX6_handOver_82 rfl
  have KL11 : ∀ (od : fl_A) (rk : fl_A) (f : fl_A) (n0 : Nat) (z11 : (Int32 × Int32)) (H : Heap) (locs : List Loc), va_P G.1 vwCl [(mo, .inr (6, [.int rf, .ref a_sc, .int ss, .ref a_nw, .ref a_tr, .ref a_di, .int ac, .ref a_ke, .ref a_ik, .ref a_od, .ref a_rk, .ref a_be, .ref a_fr, .int fs])), (a_od, .inl (G.2.1, 60, .inl od)), (a_rk, .inl (G.2.1, 60, .inl rk)), (a_be, .inl (G.2.1, 60, .inl be)), (f0, .inl (G.2.1, 126, .inl f))] H → va_D A [(mo, .inr (6, [.int rf, .ref a_sc, .int ss, .ref a_nw, .ref a_tr, .ref a_di, .int ac, .ref a_ke, .ref a_ik, .ref a_od, .ref a_rk, .ref a_be, .ref a_fr, .int fs])), (a_od, .inl (G.2.1, 60, .inl od)), (a_rk, .inl (G.2.1, 60, .inl rk)), (a_be, .inl (G.2.1, 60, .inl be)), (f0, .inl (G.2.1, 126, .inl f))] → va_S A s.heap H locs → ∀ (ls : Array Slot), lv_has ls 7 [(0, .ref mo), (1, .ref f0), (2, .int p1), (3, .int p2), (4, .int z11.1), (5, .int z11.2)] → fl_loopN (P_M_handOver_L11 od rk be f p1 p2) n0 z11 = some r → W p l e (fl_rm 3 69) s m args below meth c H locs 0 0 Q (F0 m 11 ls []) := by
    intro od rk f n0
    induction n0 with
    | zero => intro z11 H locs hP hD hS ls hl hn; exact (fl_loopN_0 hn).elim
    | succ n0 ih11 =>
      intro z11 H locs hP hD hS ls hl hn
      obtain ⟨y11, hb11, hy11⟩ := fl_loopN_step hn
      clear hn
      have KJ63 : ∀ (v5 : Int32) (k0 : Int32) (k1 : Int32) (H : Heap) (locs : List Loc), va_P G.1 vwCl [(mo, .inr (6, [.int rf, .ref a_sc, .int ss, .ref a_nw, .ref a_tr, .ref a_di, .int ac, .ref a_ke, .ref a_ik, .ref a_od, .ref a_rk, .ref a_be, .ref a_fr, .int fs])), (a_od, .inl (G.2.1, 60, .inl od)), (a_rk, .inl (G.2.1, 60, .inl rk)), (a_be, .inl (G.2.1, 60, .inl be)), (f0, .inl (G.2.1, 126, .inl f))] H → va_D A [(mo, .inr (6, [.int rf, .ref a_sc, .int ss, .ref a_nw, .ref a_tr, .ref a_di, .int ac, .ref a_ke, .ref a_ik, .ref a_od, .ref a_rk, .ref a_be, .ref a_fr, .int fs])), (a_od, .inl (G.2.1, 60, .inl od)), (a_rk, .inl (G.2.1, 60, .inl rk)), (a_be, .inl (G.2.1, 60, .inl be)), (f0, .inl (G.2.1, 126, .inl f))] → va_S A s.heap H locs → ∀ (ls : Array Slot), lv_has ls 7 [(0, .ref mo), (1, .ref f0), (2, .int p1), (3, .int p2), (5, .int v5)] → P_M_handOver_J63 od rk be f p1 p2 v5 k0 k1 = some y11 → W p l e (fl_rm 3 69) s m args below meth c H locs 0 0 Q (F0 m 63 ls [.int k0, .int k1]) := by
        intro v5 k0 k1 H locs hP hD hS ls hl hp
        unfold P_M_handOver_J63 at hp
        refine lv_iadd hx hb dX6_handOver_63 ?_
        refine lv_istore (lv' := [(4, .int (k1 + k0)), (0, .ref mo), (1, .ref f0), (2, .int p1), (3, .int p2), (5, .int v5)]) hx hb dX6_handOver_64 hl (by decide) rfl (fun ls hl => ?_)
        refine lv_iinc (v := (v5 + (1 : Int32))) (lv' := [(5, .int (v5 + (1 : Int32))), (4, .int (k1 + k0)), (0, .ref mo), (1, .ref f0), (2, .int p1), (3, .int p2)]) hx hb dX6_handOver_66 hl (k := 5) rfl rfl (by decide) rfl (fun ls hl => ?_)
        refine lv_goto (tgt := 11) hx hb dX6_handOver_69 (by decide) ?_
        obtain rfl := Option.some.inj hp
        exact ih11 ((k1 + k0), (v5 + (1 : Int32))) H locs hP hD hS ls (lv_sub hl [2, 3, 4, 5, 1, 0] rfl) (fl_cont_inl hy11)
      have KJ62 : ∀ (v5 : Int32) (k0 : Int32) (H : Heap) (locs : List Loc), va_P G.1 vwCl [(mo, .inr (6, [.int rf, .ref a_sc, .int ss, .ref a_nw, .ref a_tr, .ref a_di, .int ac, .ref a_ke, .ref a_ik, .ref a_od, .ref a_rk, .ref a_be, .ref a_fr, .int fs])), (a_od, .inl (G.2.1, 60, .inl od)), (a_rk, .inl (G.2.1, 60, .inl rk)), (a_be, .inl (G.2.1, 60, .inl be)), (f0, .inl (G.2.1, 126, .inl f))] H → va_D A [(mo, .inr (6, [.int rf, .ref a_sc, .int ss, .ref a_nw, .ref a_tr, .ref a_di, .int ac, .ref a_ke, .ref a_ik, .ref a_od, .ref a_rk, .ref a_be, .ref a_fr, .int fs])), (a_od, .inl (G.2.1, 60, .inl od)), (a_rk, .inl (G.2.1, 60, .inl rk)), (a_be, .inl (G.2.1, 60, .inl be)), (f0, .inl (G.2.1, 126, .inl f))] → va_S A s.heap H locs → ∀ (ls : Array Slot), lv_has ls 7 [(0, .ref mo), (1, .ref f0), (2, .int p1), (3, .int p2), (5, .int v5)] → P_M_handOver_J62 od rk be f p1 p2 v5 k0 = some y11 → W p l e (fl_rm 3 69) s m args below meth c H locs 0 0 Q (F0 m 62 ls [.int k0]) := by
        intro v5 k0 H locs hP hD hS ls hl hp
        unfold P_M_handOver_J62 at hp
        refine lv_iconst (v := (0 : Int32)) hx hb dX6_handOver_62 (by decide) ?_
        exact KJ63 v5 (0 : Int32) k0 H locs hP hD hS ls (lv_sub hl [0, 1, 2, 3, 4] rfl) hp
      have hp := hb11
      unfold P_M_handOver_L11 at hp
      refine lv_iload hx hb dX6_handOver_11 (lv_at hl 5 rfl) ?_
      refine lv_aload_n hx hb dX6_handOver_13 rfl (lv_at hl 1 rfl) ?_
      refine lv_iconst (v := (0 : Int32)) hx hb dX6_handOver_14 (by decide) ?_
      obtain ⟨hi, hp⟩ := fl_ck_of hp
      refine va_iald hx hb hK.1 hP 4 0 rfl rfl hi dX6_handOver_15 ?_
      refine lv_icmp_ge (tgt := 72) hx hb dX6_handOver_16 (by decide) (fun hc => ?_) (fun hc => ?_)
      · replace hp := fl_t hc hp
        obtain ⟨_, hu0, rfl⟩ := fl_up_of hp
        obtain rfl := fl_cont_inr hy11
        exact KJ72 od rk f z11.1 H locs hP hD hS ls (lv_sub hl [1, 4] rfl) hu0
      · replace hp := fl_f hc hp
        refine lv_iload hx hb dX6_handOver_19 (lv_at hl 5 rfl) ?_
        refine lv_aload_n hx hb dX6_handOver_21 rfl (lv_at hl 1 rfl) ?_
        refine lv_iconst (v := (3 : Int32)) hx hb dX6_handOver_22 (by decide) ?_
        obtain ⟨hi, hp⟩ := fl_ck_of hp
        refine va_iald hx hb hK.1 hP 4 0 rfl rfl hi dX6_handOver_23 ?_
        refine lv_iadd hx hb dX6_handOver_24 ?_
        refine lv_iload_n hx hb dX6_handOver_25 rfl (lv_at hl 3 rfl) ?_
        refine lv_isub hx hb dX6_handOver_26 ?_
        refine lv_istore (lv' := [(6, .int ((z11.2 + (f (3 : Int32).toNatClampNeg)) - p2)), (0, .ref mo), (1, .ref f0), (2, .int p1), (3, .int p2), (4, .int z11.1), (5, .int z11.2)]) hx hb dX6_handOver_27 hl (by decide) rfl (fun ls hl => ?_)
        refine lv_iload hx hb dX6_handOver_29 (lv_at hl 5 rfl) ?_
        refine lv_iload hx hb dX6_handOver_31 (lv_at hl 0 rfl) ?_
        refine lv_iload_n hx hb dX6_handOver_33 rfl (lv_at hl 3 rfl) ?_
        refine lv_icmp_ge (tgt := 62) hx hb dX6_handOver_34 (by decide) (fun hc => ?_) (fun hc => ?_)
        · replace hp := fl_t hc hp
          exact KJ62 z11.2 z11.1 H locs hP hD hS ls (lv_sub hl [1, 2, 3, 4, 6] rfl) hp
        · replace hp := fl_f hc hp
          refine lv_aload_n hx hb dX6_handOver_37 rfl (lv_at hl 1 rfl) ?_
          refine va_get (D := G.1) (ci := 6) (v := .ref a_be) (C := RX6) (T := TX6) (N := 14) hx hb hts iX6 hown hK.1 hP 0 rfl rfl 11 (by decide) (hts (.fieldLink RX6 35 "SongChoirModel" "before" "[I") (List.mem_of_getElem? (i := 1) rfl)) (fun _ h9 => h9) rfl dX6_handOver_38 ?_
          refine lv_iload hx hb dX6_handOver_41 (lv_at hl 0 rfl) ?_
          obtain ⟨hi, hp⟩ := fl_ck_of hp
          refine va_iald hx hb hK.1 hP 3 0 rfl rfl hi dX6_handOver_43 ?_
          refine lv_aload_n hx hb dX6_handOver_44 rfl (lv_at hl 2 rfl) ?_
          refine lv_aload_n hx hb dX6_handOver_45 rfl (lv_at hl 1 rfl) ?_
          refine va_get (D := G.1) (ci := 6) (v := .ref a_rk) (C := RX6) (T := TX6) (N := 14) hx hb hts iX6 hown hK.1 hP 0 rfl rfl 10 (by decide) (hts (.fieldLink RX6 32 "SongChoirModel" "ranks" "[I") (List.mem_of_getElem? (i := 2) rfl)) (fun _ h9 => h9) rfl dX6_handOver_46 ?_
          refine lv_iload hx hb dX6_handOver_49 (lv_at hl 6 rfl) ?_
          obtain ⟨hi, hp⟩ := fl_ck_of hp
          refine va_iald hx hb hK.1 hP 2 0 rfl rfl hi dX6_handOver_51 ?_
          obtain ⟨q1, hq1, hp⟩ := fl_bd_of hp
          refine fl_roS (As := [.ref f0, .int (rk z11.2.toNatClampNeg)]) (rest := [.int (be ((z11.2 + (f (3 : Int32).toNatClampNeg)) - p2).toNatClampNeg), .int z11.1]) C0 (c_M_singerOf l G f0 f (rk z11.2.toNatClampNeg) hq1) (va_cwS 2 hts gX6_handOver_X6_singerOf rfl rfl rfl (by decide +kernel) ⟨Nat.le_of_ble_eq_true rfl, Nat.le_of_ble_eq_true rfl⟩) hK hP [4] rfl hS hA rfl hl.1 rfl (Nat.le_of_ble_eq_true rfl) dX6_handOver_52 ⟨Nat.zero_le _, Nat.zero_le _⟩ (fun H locs hP hS => ?_)
          refine lv_icmp_eq (tgt := 62) hx hb dX6_handOver_55 (by decide) (fun hc => ?_) (fun hc => ?_)
          · replace hp := fl_t hc hp
            exact KJ62 z11.2 z11.1 H locs hP hD hS ls (lv_sub hl [1, 2, 3, 4, 6] rfl) hp
          · replace hp := fl_f hc hp
            refine lv_iconst (v := (1 : Int32)) hx hb dX6_handOver_58 (by decide) ?_
            refine lv_goto (tgt := 63) hx hb dX6_handOver_59 (by decide) ?_
            exact KJ63 z11.2 (1 : Int32) z11.1 H locs hP hD hS ls (lv_sub hl [1, 2, 3, 4, 6] rfl) hp
  have hp := hp0
  unfold P_M_handOver at hp
  refine lv_aload_n hx hb dX6_handOver_0 rfl (lv_at hl 0 rfl) ?_
  refine lv_aload_n hx hb dX6_handOver_1 rfl (lv_at hl 1 rfl) ?_
  obtain ⟨q1, hq1, hp⟩ := fl_bd_of hp
  refine fl_muV (As := [.ref f0]) (rest := []) [(mo, .inr (6, [.int rf, .ref a_sc, .int ss, .ref a_nw, .ref a_tr, .ref a_di, .int ac, .ref a_ke, .ref a_ik, .ref a_od, .ref a_rk, .ref a_be, .ref a_fr, .int fs])), (a_od, .inl (G.2.1, 60, .inl q1.1)), (a_rk, .inl (G.2.1, 60, .inl q1.2)), (a_be, .inl (G.2.1, 60, .inl be)), (f0, .inl (G.2.1, 126, .inl f))] C0 (c_M_lay l G mo a_sc a_nw a_tr a_di a_ke a_ik a_od a_rk a_be a_fr f0 rf ss ac fs od rk f hq1) (cwV 1 hts gX6_handOver_X6_lay rfl rfl rfl (by decide +kernel) ⟨Nat.le_of_ble_eq_true rfl, Nat.le_of_ble_eq_true rfl⟩) hK hP hD [0, 1, 2, 4] [3] [1, 2, 3, 0, 4] rfl rfl (by decide) (by decide) rfl 0 6 rfl rfl rfl hS hA rfl hl.1 rfl (Nat.le_of_ble_eq_true rfl) dX6_handOver_2 ⟨Nat.zero_le _, Nat.zero_le _⟩ (fun H locs hP hD hS => ?_)
  refine lv_iconst (v := (0 : Int32)) hx hb dX6_handOver_5 (by decide) ?_
  refine lv_istore (lv' := [(4, .int (0 : Int32)), (0, .ref mo), (1, .ref f0), (2, .int p1), (3, .int p2)]) hx hb dX6_handOver_6 hl (by decide) rfl (fun ls hl => ?_)
  refine lv_iconst (v := (0 : Int32)) hx hb dX6_handOver_8 (by decide) ?_
  refine lv_istore (lv' := [(5, .int (0 : Int32)), (4, .int (0 : Int32)), (0, .ref mo), (1, .ref f0), (2, .int p1), (3, .int p2)]) hx hb dX6_handOver_9 hl (by decide) rfl (fun ls hl => ?_)
  obtain ⟨n0, hn⟩ := fl_loop_ex hp
  exact KL11 q1.1 q1.2 f n0 ((0 : Int32), (0 : Int32)) H locs hP hD hS ls (lv_sub hl [2, 3, 4, 5, 1, 0] rfl) hn

noncomputable def P_M_drop (f : fl_A) : Option fl_A := fl_ck (6 : Int32) 126 (fl_ck (0 : Int32) 126 (fl_bd (P_M_copyS 126 f ((66 : Int32) + (f (6 : Int32).toNatClampNeg)) (66 : Int32) ((f (0 : Int32).toNatClampNeg) - (f (6 : Int32).toNatClampNeg))) (fun q1 => fl_ck (1 : Int32) 126 (fl_bd (P_M_copyS 126 q1 (7 : Int32) (6 : Int32) ((q1 (1 : Int32).toNatClampNeg) - (1 : Int32))) (fun q2 => fl_ck (0 : Int32) 126 (fl_ck (0 : Int32) 126 (fl_ck (1 : Int32) 126 (fl_ck (1 : Int32) 126 (fl_ck (3 : Int32) 126 (fl_ck (3 : Int32) 126 (some (upd (upd (upd q2 (0 : Int32).toNatClampNeg ((q2 (0 : Int32).toNatClampNeg) - (f (6 : Int32).toNatClampNeg))) (1 : Int32).toNatClampNeg (((upd q2 (0 : Int32).toNatClampNeg ((q2 (0 : Int32).toNatClampNeg) - (f (6 : Int32).toNatClampNeg))) (1 : Int32).toNatClampNeg) - (1 : Int32))) (3 : Int32).toNatClampNeg (((upd (upd q2 (0 : Int32).toNatClampNeg ((q2 (0 : Int32).toNatClampNeg) - (f (6 : Int32).toNatClampNeg))) (1 : Int32).toNatClampNeg (((upd q2 (0 : Int32).toNatClampNeg ((q2 (0 : Int32).toNatClampNeg) - (f (6 : Int32).toNatClampNeg))) (1 : Int32).toNatClampNeg) - (1 : Int32))) (3 : Int32).toNatClampNeg) + (f (6 : Int32).toNatClampNeg))))))))))))))
set_option maxHeartbeats 4000000 in
set_option maxRecDepth 100000 in
theorem c_M_drop (l : Launch) (G : fl_G) (f0 : Nat) (f : fl_A) {r : fl_A} (hp0 : P_M_drop f = some r) : fl_mu l yX6_drop wsX6_drop 1 25 G [.ref f0] [(f0, .inl (G.2.1, 126, .inl f))] none [(f0, .inl (G.2.1, 126, .inl r))] := by
  refine fl_muv_in cX6_drop 2 RX6 (by decide) rfl rfl (Nat.le_of_ble_eq_true rfl) ?_
  intro p e s m args below meth c ls A Q H locs C0 hK hP hD hS hA hl hfin
  obtain ⟨hx, hb, hml, hown, hts⟩ := id C0
  have hl : lv_has ls 2 [(0, .ref f0)] := hl
  have hp := hp0
  unfold P_M_drop at hp
  refine lv_aload_n hx hb dX6_drop_0 rfl (lv_at hl 0 rfl) ?_
  refine lv_bipush (v := (6 : Int32)) hx hb dX6_drop_1 (by decide) ?_
  obtain ⟨hi, hp⟩ := fl_ck_of hp
  refine va_iald hx hb hK.1 hP 0 0 rfl rfl hi dX6_drop_3 ?_
  refine lv_istore_n (lv' := [(1, .int (f (6 : Int32).toNatClampNeg)), (0, .ref f0)]) hx hb dX6_drop_4 rfl hl (by decide) rfl (fun ls hl => ?_)
  refine lv_aload_n hx hb dX6_drop_5 rfl (lv_at hl 1 rfl) ?_
  refine lv_bipush (v := (66 : Int32)) hx hb dX6_drop_6 (by decide) ?_
  refine lv_iload_n hx hb dX6_drop_8 rfl (lv_at hl 0 rfl) ?_
  refine lv_iadd hx hb dX6_drop_9 ?_
  refine lv_aload_n hx hb dX6_drop_10 rfl (lv_at hl 1 rfl) ?_
  refine lv_bipush (v := (66 : Int32)) hx hb dX6_drop_11 (by decide) ?_
  refine lv_aload_n hx hb dX6_drop_13 rfl (lv_at hl 1 rfl) ?_
  refine lv_iconst (v := (0 : Int32)) hx hb dX6_drop_14 (by decide) ?_
  obtain ⟨hi, hp⟩ := fl_ck_of hp
  refine va_iald hx hb hK.1 hP 0 0 rfl rfl hi dX6_drop_15 ?_
  refine lv_iload_n hx hb dX6_drop_16 rfl (lv_at hl 0 rfl) ?_
  refine lv_isub hx hb dX6_drop_17 ?_
  obtain ⟨q1, hq1, hp⟩ := fl_bd_of hp
  refine fl_muS (As := [.ref f0, .int ((66 : Int32) + (f (6 : Int32).toNatClampNeg)), .ref f0, .int (66 : Int32), .int ((f (0 : Int32).toNatClampNeg) - (f (6 : Int32).toNatClampNeg))]) (rest := []) [(f0, .inl (G.2.1, 126, .inl q1))] C0 (c_M_copyS l G 126 f0 f ((66 : Int32) + (f (6 : Int32).toNatClampNeg)) (66 : Int32) ((f (0 : Int32).toNatClampNeg) - (f (6 : Int32).toNatClampNeg)) hq1) (va_cwS 5 hts gX6_drop_X6_copy rfl rfl rfl (by decide +kernel) ⟨Nat.le_of_ble_eq_true rfl, Nat.le_of_ble_eq_true rfl⟩) hK hP hD [0] [] [0] rfl rfl (by decide) (by decide) rfl hS hA rfl hl.1 rfl (Nat.le_of_ble_eq_true rfl) dX6_drop_18 ⟨Nat.zero_le _, Nat.zero_le _⟩ (fun H locs hP hD hS => ?_)
  refine lv_aload_n hx hb dX6_drop_21 rfl (lv_at hl 1 rfl) ?_
  refine lv_bipush (v := (7 : Int32)) hx hb dX6_drop_22 (by decide) ?_
  refine lv_aload_n hx hb dX6_drop_24 rfl (lv_at hl 1 rfl) ?_
  refine lv_bipush (v := (6 : Int32)) hx hb dX6_drop_25 (by decide) ?_
  refine lv_aload_n hx hb dX6_drop_27 rfl (lv_at hl 1 rfl) ?_
  refine lv_iconst (v := (1 : Int32)) hx hb dX6_drop_28 (by decide) ?_
  obtain ⟨hi, hp⟩ := fl_ck_of hp
  refine va_iald hx hb hK.1 hP 0 0 rfl rfl hi dX6_drop_29 ?_
  refine lv_iconst (v := (1 : Int32)) hx hb dX6_drop_30 (by decide) ?_
  refine lv_isub hx hb dX6_drop_31 ?_
  obtain ⟨q2, hq2, hp⟩ := fl_bd_of hp
  refine fl_muS (As := [.ref f0, .int (7 : Int32), .ref f0, .int (6 : Int32), .int ((q1 (1 : Int32).toNatClampNeg) - (1 : Int32))]) (rest := []) [(f0, .inl (G.2.1, 126, .inl q2))] C0 (c_M_copyS l G 126 f0 q1 (7 : Int32) (6 : Int32) ((q1 (1 : Int32).toNatClampNeg) - (1 : Int32)) hq2) (va_cwS 5 hts gX6_drop_X6_copy rfl rfl rfl (by decide +kernel) ⟨Nat.le_of_ble_eq_true rfl, Nat.le_of_ble_eq_true rfl⟩) hK hP hD [0] [] [0] rfl rfl (by decide) (by decide) rfl hS hA rfl hl.1 rfl (Nat.le_of_ble_eq_true rfl) dX6_drop_32 ⟨Nat.zero_le _, Nat.zero_le _⟩ (fun H locs hP hD hS => ?_)
  refine lv_aload_n hx hb dX6_drop_35 rfl (lv_at hl 1 rfl) ?_
  refine lv_iconst (v := (0 : Int32)) hx hb dX6_drop_36 (by decide) ?_
  refine lv_dup2_11 hx hb dX6_drop_37 rfl rfl ?_
  obtain ⟨hi, hp⟩ := fl_ck_of hp
  refine va_iald hx hb hK.1 hP 0 0 rfl rfl hi dX6_drop_38 ?_
  refine lv_iload_n hx hb dX6_drop_39 rfl (lv_at hl 0 rfl) ?_
  refine lv_isub hx hb dX6_drop_40 ?_
  obtain ⟨hi, hp⟩ := fl_ck_of hp
  refine va_iast hx hb hK.1 hP hD hS 0 0 rfl rfl hi dX6_drop_41 (fun H locs hP hD hS => ?_)
  have hP : va_P G.1 vwCl [(f0, .inl (G.2.1, 126, .inl (upd q2 (0 : Int32).toNatClampNeg ((q2 (0 : Int32).toNatClampNeg) - (f (6 : Int32).toNatClampNeg)))))] H := hP
  have hD : va_D A [(f0, .inl (G.2.1, 126, .inl (upd q2 (0 : Int32).toNatClampNeg ((q2 (0 : Int32).toNatClampNeg) - (f (6 : Int32).toNatClampNeg)))))] := hD
  refine lv_aload_n hx hb dX6_drop_42 rfl (lv_at hl 1 rfl) ?_
  refine lv_iconst (v := (1 : Int32)) hx hb dX6_drop_43 (by decide) ?_
  refine lv_dup2_11 hx hb dX6_drop_44 rfl rfl ?_
  obtain ⟨hi, hp⟩ := fl_ck_of hp
  refine va_iald hx hb hK.1 hP 0 0 rfl rfl hi dX6_drop_45 ?_
  refine lv_iconst (v := (1 : Int32)) hx hb dX6_drop_46 (by decide) ?_
  refine lv_isub hx hb dX6_drop_47 ?_
  obtain ⟨hi, hp⟩ := fl_ck_of hp
  refine va_iast hx hb hK.1 hP hD hS 0 0 rfl rfl hi dX6_drop_48 (fun H locs hP hD hS => ?_)
  have hP : va_P G.1 vwCl [(f0, .inl (G.2.1, 126, .inl (upd (upd q2 (0 : Int32).toNatClampNeg ((q2 (0 : Int32).toNatClampNeg) - (f (6 : Int32).toNatClampNeg))) (1 : Int32).toNatClampNeg (((upd q2 (0 : Int32).toNatClampNeg ((q2 (0 : Int32).toNatClampNeg) - (f (6 : Int32).toNatClampNeg))) (1 : Int32).toNatClampNeg) - (1 : Int32)))))] H := hP
  have hD : va_D A [(f0, .inl (G.2.1, 126, .inl (upd (upd q2 (0 : Int32).toNatClampNeg ((q2 (0 : Int32).toNatClampNeg) - (f (6 : Int32).toNatClampNeg))) (1 : Int32).toNatClampNeg (((upd q2 (0 : Int32).toNatClampNeg ((q2 (0 : Int32).toNatClampNeg) - (f (6 : Int32).toNatClampNeg))) (1 : Int32).toNatClampNeg) - (1 : Int32)))))] := hD
  refine lv_aload_n hx hb dX6_drop_49 rfl (lv_at hl 1 rfl) ?_
  refine lv_iconst (v := (3 : Int32)) hx hb dX6_drop_50 (by decide) ?_
  refine lv_dup2_11 hx hb dX6_drop_51 rfl rfl ?_
  obtain ⟨hi, hp⟩ := fl_ck_of hp
  refine va_iald hx hb hK.1 hP 0 0 rfl rfl hi dX6_drop_52 ?_
  refine lv_iload_n hx hb dX6_drop_53 rfl (lv_at hl 0 rfl) ?_
  refine lv_iadd hx hb dX6_drop_54 ?_
  obtain ⟨hi, hp⟩ := fl_ck_of hp
  refine va_iast hx hb hK.1 hP hD hS 0 0 rfl rfl hi dX6_drop_55 (fun H locs hP hD hS => ?_)
  have hP : va_P G.1 vwCl [(f0, .inl (G.2.1, 126, .inl (upd (upd (upd q2 (0 : Int32).toNatClampNeg ((q2 (0 : Int32).toNatClampNeg) - (f (6 : Int32).toNatClampNeg))) (1 : Int32).toNatClampNeg (((upd q2 (0 : Int32).toNatClampNeg ((q2 (0 : Int32).toNatClampNeg) - (f (6 : Int32).toNatClampNeg))) (1 : Int32).toNatClampNeg) - (1 : Int32))) (3 : Int32).toNatClampNeg (((upd (upd q2 (0 : Int32).toNatClampNeg ((q2 (0 : Int32).toNatClampNeg) - (f (6 : Int32).toNatClampNeg))) (1 : Int32).toNatClampNeg (((upd q2 (0 : Int32).toNatClampNeg ((q2 (0 : Int32).toNatClampNeg) - (f (6 : Int32).toNatClampNeg))) (1 : Int32).toNatClampNeg) - (1 : Int32))) (3 : Int32).toNatClampNeg) + (f (6 : Int32).toNatClampNeg)))))] H := hP
  have hD : va_D A [(f0, .inl (G.2.1, 126, .inl (upd (upd (upd q2 (0 : Int32).toNatClampNeg ((q2 (0 : Int32).toNatClampNeg) - (f (6 : Int32).toNatClampNeg))) (1 : Int32).toNatClampNeg (((upd q2 (0 : Int32).toNatClampNeg ((q2 (0 : Int32).toNatClampNeg) - (f (6 : Int32).toNatClampNeg))) (1 : Int32).toNatClampNeg) - (1 : Int32))) (3 : Int32).toNatClampNeg (((upd (upd q2 (0 : Int32).toNatClampNeg ((q2 (0 : Int32).toNatClampNeg) - (f (6 : Int32).toNatClampNeg))) (1 : Int32).toNatClampNeg (((upd q2 (0 : Int32).toNatClampNeg ((q2 (0 : Int32).toNatClampNeg) - (f (6 : Int32).toNatClampNeg))) (1 : Int32).toNatClampNeg) - (1 : Int32))) (3 : Int32).toNatClampNeg) + (f (6 : Int32).toNatClampNeg)))))] := hD
  obtain rfl := Option.some.inj hp
  exact hfin H locs _ ls hP hD hS dX6_drop_56

noncomputable def P_M_singIn_J81 (od : fl_A) (rk : fl_A) (be : fl_A) (fr : fl_A) (fs : Int32) (f : fl_A) (v2 : Int32) (v3 : Int32) : Option (Int32 × fl_A × fl_A × fl_A × fl_A) := fl_bd (P_M_handOver od rk be f v2 v3) (fun q1 => some (q1.1, q1.2.1, q1.2.2.1, be, q1.2.2.2))
noncomputable def P_M_singIn_L66 (od : fl_A) (rk : fl_A) (be : fl_A) (fr : fl_A) (fs : Int32) (v2 : Int32) (v3 : Int32) (z66 : fl_A) : Option (fl_A ⊕ (Int32 × fl_A × fl_A × fl_A × fl_A)) := fl_ck (0 : Int32) 126 (if (z66 (0 : Int32).toNatClampNeg) ≤ (48 : Int32) then fl_up (P_M_singIn_J81 od rk be fr fs z66 v2 v3) else fl_bd (P_M_drop z66) (fun q1 => some (.inl q1)))
noncomputable def P_M_singIn (od : fl_A) (rk : fl_A) (be : fl_A) (fr : fl_A) (fs : Int32) (f : fl_A) : Option (Int32 × fl_A × fl_A × fl_A × fl_A) := fl_ck (0 : Int32) 126 (fl_ck (3 : Int32) 126 (fl_bd (P_M_watch od rk be f) (fun q1 => fl_bd (P_M_copy 12 126 fr f (0 : Int32) ((66 : Int32) + (f (0 : Int32).toNatClampNeg)) fs) (fun q2 => fl_ck (1 : Int32) 126 (fl_ck ((6 : Int32) + (q2 (1 : Int32).toNatClampNeg)) 126 (fl_ck (1 : Int32) 126 (fl_ck (1 : Int32) 126 (fl_ck (0 : Int32) 126 (fl_ck (0 : Int32) 126 (fl_ck (5 : Int32) 126 (fl_ck (5 : Int32) 126 (fl_loop (P_M_singIn_L66 q1.1 q1.2.1 q1.2.2 fr fs (f (0 : Int32).toNatClampNeg) (f (3 : Int32).toNatClampNeg)) (upd (upd (upd (upd q2 ((6 : Int32) + (q2 (1 : Int32).toNatClampNeg)).toNatClampNeg fs) (1 : Int32).toNatClampNeg (((upd q2 ((6 : Int32) + (q2 (1 : Int32).toNatClampNeg)).toNatClampNeg fs) (1 : Int32).toNatClampNeg) + (1 : Int32))) (0 : Int32).toNatClampNeg (((upd (upd q2 ((6 : Int32) + (q2 (1 : Int32).toNatClampNeg)).toNatClampNeg fs) (1 : Int32).toNatClampNeg (((upd q2 ((6 : Int32) + (q2 (1 : Int32).toNatClampNeg)).toNatClampNeg fs) (1 : Int32).toNatClampNeg) + (1 : Int32))) (0 : Int32).toNatClampNeg) + fs)) (5 : Int32).toNatClampNeg (((upd (upd (upd q2 ((6 : Int32) + (q2 (1 : Int32).toNatClampNeg)).toNatClampNeg fs) (1 : Int32).toNatClampNeg (((upd q2 ((6 : Int32) + (q2 (1 : Int32).toNatClampNeg)).toNatClampNeg fs) (1 : Int32).toNatClampNeg) + (1 : Int32))) (0 : Int32).toNatClampNeg (((upd (upd q2 ((6 : Int32) + (q2 (1 : Int32).toNatClampNeg)).toNatClampNeg fs) (1 : Int32).toNatClampNeg (((upd q2 ((6 : Int32) + (q2 (1 : Int32).toNatClampNeg)).toNatClampNeg fs) (1 : Int32).toNatClampNeg) + (1 : Int32))) (0 : Int32).toNatClampNeg) + fs)) (5 : Int32).toNatClampNeg) + (1 : Int32)))))))))))))))
set_option maxHeartbeats 4000000 in
set_option maxRecDepth 100000 in
theorem c_M_singIn (l : Launch) (G : fl_G) (mo a_sc a_nw a_tr a_di a_ke a_ik a_od a_rk a_be a_fr f0 : Nat) (rf : Int32) (ss : Int32) (ac : Int32) (od : fl_A) (rk : fl_A) (be : fl_A) (fr : fl_A) (fs : Int32) (f : fl_A) {r : (Int32 × fl_A × fl_A × fl_A × fl_A)} (hp0 : P_M_singIn od rk be fr fs f = some r) : fl_mu l yX6_singIn wsX6_singIn 4 95 G [.ref mo, .ref f0] [(mo, .inr (6, [.int rf, .ref a_sc, .int ss, .ref a_nw, .ref a_tr, .ref a_di, .int ac, .ref a_ke, .ref a_ik, .ref a_od, .ref a_rk, .ref a_be, .ref a_fr, .int fs])), (a_od, .inl (G.2.1, 60, .inl od)), (a_rk, .inl (G.2.1, 60, .inl rk)), (a_be, .inl (G.2.1, 60, .inl be)), (a_fr, .inl (G.2.1, 12, .inl fr)), (f0, .inl (G.2.1, 126, .inl f))] (some (.int r.1)) [(mo, .inr (6, [.int rf, .ref a_sc, .int ss, .ref a_nw, .ref a_tr, .ref a_di, .int ac, .ref a_ke, .ref a_ik, .ref a_od, .ref a_rk, .ref a_be, .ref a_fr, .int fs])), (a_od, .inl (G.2.1, 60, .inl r.2.1)), (a_rk, .inl (G.2.1, 60, .inl r.2.2.1)), (a_be, .inl (G.2.1, 60, .inl r.2.2.2.1)), (a_fr, .inl (G.2.1, 12, .inl fr)), (f0, .inl (G.2.1, 126, .inl r.2.2.2.2))] := by
  refine fl_mui_in cX6_singIn 4 .int RX6 (by decide) rfl rfl (Nat.le_of_ble_eq_true rfl) ?_
  intro p e s m args below meth c ls A Q H locs C0 hK hP hD hS hA hl hfin
  obtain ⟨hx, hb, hml, hown, hts⟩ := id C0
  have iX6 : ∀ w ∈ u_ws RX6 TX6 14, w ∈ wsX6_singIn := fun _ h => List.mem_cons_of_mem _ (List.mem_append_right _ h)
  have hl : lv_has ls 4 [(0, .ref mo), (1, .ref f0)] := hl
  have KJ81 : ∀ (od : fl_A) (rk : fl_A) (be : fl_A) (f : fl_A) (v2 : Int32) (v3 : Int32) (H : Heap) (locs : List Loc), va_P G.1 vwCl [(mo, .inr (6, [.int rf, .ref a_sc, .int ss, .ref a_nw, .ref a_tr, .ref a_di, .int ac, .ref a_ke, .ref a_ik, .ref a_od, .ref a_rk, .ref a_be, .ref a_fr, .int fs])), (a_od, .inl (G.2.1, 60, .inl od)), (a_rk, .inl (G.2.1, 60, .inl rk)), (a_be, .inl (G.2.1, 60, .inl be)), (a_fr, .inl (G.2.1, 12, .inl fr)), (f0, .inl (G.2.1, 126, .inl f))] H → va_D A [(mo, .inr (6, [.int rf, .ref a_sc, .int ss, .ref a_nw, .ref a_tr, .ref a_di, .int ac, .ref a_ke, .ref a_ik, .ref a_od, .ref a_rk, .ref a_be, .ref a_fr, .int fs])), (a_od, .inl (G.2.1, 60, .inl od)), (a_rk, .inl (G.2.1, 60, .inl rk)), (a_be, .inl (G.2.1, 60, .inl be)), (a_fr, .inl (G.2.1, 12, .inl fr)), (f0, .inl (G.2.1, 126, .inl f))] → va_S A s.heap H locs → ∀ (ls : Array Slot), lv_has ls 4 [(0, .ref mo), (1, .ref f0), (2, .int v2), (3, .int v3)] → P_M_singIn_J81 od rk be fr fs f v2 v3 = some r → W p l e (fl_rm 4 95) s m args below meth c H locs 0 0 Q (F0 m 81 ls []) := by
    intro od rk be f v2 v3 H locs hP hD hS ls hl hp
    unfold P_M_singIn_J81 at hp
    refine lv_aload_n hx hb dX6_singIn_81 rfl (lv_at hl 0 rfl) ?_
    refine lv_aload_n hx hb dX6_singIn_82 rfl (lv_at hl 1 rfl) ?_
    refine lv_iload_n hx hb dX6_singIn_83 rfl (lv_at hl 2 rfl) ?_
    refine lv_iload_n hx hb dX6_singIn_84 rfl (lv_at hl 3 rfl) ?_
    obtain ⟨q1, hq1, hp⟩ := fl_bd_of hp
    refine fl_muV (As := [.ref f0, .int v2, .int v3]) (rest := []) [(mo, .inr (6, [.int rf, .ref a_sc, .int ss, .ref a_nw, .ref a_tr, .ref a_di, .int ac, .ref a_ke, .ref a_ik, .ref a_od, .ref a_rk, .ref a_be, .ref a_fr, .int fs])), (a_od, .inl (G.2.1, 60, .inl q1.2.1)), (a_rk, .inl (G.2.1, 60, .inl q1.2.2.1)), (a_be, .inl (G.2.1, 60, .inl be)), (a_fr, .inl (G.2.1, 12, .inl fr)), (f0, .inl (G.2.1, 126, .inl q1.2.2.2))] C0 (c_M_handOver l G mo a_sc a_nw a_tr a_di a_ke a_ik a_od a_rk a_be a_fr f0 rf ss ac fs od rk be f v2 v3 hq1) (cwV 3 hts gX6_singIn_X6_handOver rfl rfl rfl (by decide +kernel) ⟨Nat.le_of_ble_eq_true rfl, Nat.le_of_ble_eq_true rfl⟩) hK hP hD [0, 1, 2, 3, 5] [4] [1, 2, 3, 4, 0, 5] rfl rfl (by decide) (by decide) rfl 0 6 rfl rfl rfl hS hA rfl hl.1 rfl (Nat.le_of_ble_eq_true rfl) dX6_singIn_85 ⟨Nat.zero_le _, Nat.zero_le _⟩ (fun H locs hP hD hS => ?_)
    obtain rfl := Option.some.inj hp
    exact hfin H locs _ ls hP hD hS dX6_singIn_88 rfl
  have KL66 : ∀ (od : fl_A) (rk : fl_A) (be : fl_A) (v2 : Int32) (v3 : Int32) (n0 : Nat) (z66 : fl_A) (H : Heap) (locs : List Loc), va_P G.1 vwCl [(mo, .inr (6, [.int rf, .ref a_sc, .int ss, .ref a_nw, .ref a_tr, .ref a_di, .int ac, .ref a_ke, .ref a_ik, .ref a_od, .ref a_rk, .ref a_be, .ref a_fr, .int fs])), (a_od, .inl (G.2.1, 60, .inl od)), (a_rk, .inl (G.2.1, 60, .inl rk)), (a_be, .inl (G.2.1, 60, .inl be)), (a_fr, .inl (G.2.1, 12, .inl fr)), (f0, .inl (G.2.1, 126, .inl z66))] H → va_D A [(mo, .inr (6, [.int rf, .ref a_sc, .int ss, .ref a_nw, .ref a_tr, .ref a_di, .int ac, .ref a_ke, .ref a_ik, .ref a_od, .ref a_rk, .ref a_be, .ref a_fr, .int fs])), (a_od, .inl (G.2.1, 60, .inl od)), (a_rk, .inl (G.2.1, 60, .inl rk)), (a_be, .inl (G.2.1, 60, .inl be)), (a_fr, .inl (G.2.1, 12, .inl fr)), (f0, .inl (G.2.1, 126, .inl z66))] → va_S A s.heap H locs → ∀ (ls : Array Slot), lv_has ls 4 [(0, .ref mo), (1, .ref f0), (2, .int v2), (3, .int v3)] → fl_loopN (P_M_singIn_L66 od rk be fr fs v2 v3) n0 z66 = some r → W p l e (fl_rm 4 95) s m args below meth c H locs 0 0 Q (F0 m 66 ls []) := by
    intro od rk be v2 v3 n0
    induction n0 with
    | zero => intro z66 H locs hP hD hS ls hl hn; exact (fl_loopN_0 hn).elim
    | succ n0 ih66 =>
      intro z66 H locs hP hD hS ls hl hn
      obtain ⟨y66, hb66, hy66⟩ := fl_loopN_step hn
      clear hn
      have hp := hb66
      unfold P_M_singIn_L66 at hp
      refine lv_aload_n hx hb dX6_singIn_66 rfl (lv_at hl 1 rfl) ?_
      refine lv_iconst (v := (0 : Int32)) hx hb dX6_singIn_67 (by decide) ?_
      obtain ⟨hi, hp⟩ := fl_ck_of hp
      refine va_iald hx hb hK.1 hP 5 0 rfl rfl hi dX6_singIn_68 ?_
      refine lv_bipush (v := (48 : Int32)) hx hb dX6_singIn_69 (by decide) ?_
      refine lv_icmp_le (tgt := 81) hx hb dX6_singIn_71 (by decide) (fun hc => ?_) (fun hc => ?_)
      · replace hp := fl_t hc hp
        obtain ⟨_, hu0, rfl⟩ := fl_up_of hp
        obtain rfl := fl_cont_inr hy66
        exact KJ81 od rk be z66 v2 v3 H locs hP hD hS ls (lv_sub hl [0, 1, 2, 3] rfl) hu0
      · replace hp := fl_f hc hp
        refine lv_aload_n hx hb dX6_singIn_74 rfl (lv_at hl 1 rfl) ?_
        obtain ⟨q1, hq1, hp⟩ := fl_bd_of hp
        refine fl_muS (As := [.ref f0]) (rest := []) [(mo, .inr (6, [.int rf, .ref a_sc, .int ss, .ref a_nw, .ref a_tr, .ref a_di, .int ac, .ref a_ke, .ref a_ik, .ref a_od, .ref a_rk, .ref a_be, .ref a_fr, .int fs])), (a_od, .inl (G.2.1, 60, .inl od)), (a_rk, .inl (G.2.1, 60, .inl rk)), (a_be, .inl (G.2.1, 60, .inl be)), (a_fr, .inl (G.2.1, 12, .inl fr)), (f0, .inl (G.2.1, 126, .inl q1))] C0 (c_M_drop l G f0 z66 hq1) (va_cwS 1 hts gX6_singIn_X6_drop rfl rfl rfl (by decide +kernel) ⟨Nat.le_of_ble_eq_true rfl, Nat.le_of_ble_eq_true rfl⟩) hK hP hD [5] [0, 1, 2, 3, 4] [0, 1, 2, 3, 4, 5] rfl rfl (by decide) (by decide) rfl hS hA rfl hl.1 rfl (Nat.le_of_ble_eq_true rfl) dX6_singIn_75 ⟨Nat.zero_le _, Nat.zero_le _⟩ (fun H locs hP hD hS => ?_)
        refine lv_goto (tgt := 66) hx hb dX6_singIn_78 (by decide) ?_
        obtain rfl := Option.some.inj hp
        exact ih66 q1 H locs hP hD hS ls (lv_sub hl [0, 1, 2, 3] rfl) (fl_cont_inl hy66)
  have hp := hp0
  unfold P_M_singIn at hp
  refine lv_aload_n hx hb dX6_singIn_0 rfl (lv_at hl 1 rfl) ?_
  refine lv_iconst (v := (0 : Int32)) hx hb dX6_singIn_1 (by decide) ?_
  obtain ⟨hi, hp⟩ := fl_ck_of hp
  refine va_iald hx hb hK.1 hP 5 0 rfl rfl hi dX6_singIn_2 ?_
  refine lv_istore_n (lv' := [(2, .int (f (0 : Int32).toNatClampNeg)), (0, .ref mo), (1, .ref f0)]) hx hb dX6_singIn_3 rfl hl (by decide) rfl (fun ls hl => ?_)
  refine lv_aload_n hx hb dX6_singIn_4 rfl (lv_at hl 2 rfl) ?_
  refine lv_iconst (v := (3 : Int32)) hx hb dX6_singIn_5 (by decide) ?_
  obtain ⟨hi, hp⟩ := fl_ck_of hp
  refine va_iald hx hb hK.1 hP 5 0 rfl rfl hi dX6_singIn_6 ?_
  refine lv_istore_n (lv' := [(3, .int (f (3 : Int32).toNatClampNeg)), (2, .int (f (0 : Int32).toNatClampNeg)), (0, .ref mo), (1, .ref f0)]) hx hb dX6_singIn_7 rfl hl (by decide) rfl (fun ls hl => ?_)
  refine lv_aload_n hx hb dX6_singIn_8 rfl (lv_at hl 2 rfl) ?_
  refine lv_aload_n hx hb dX6_singIn_9 rfl (lv_at hl 3 rfl) ?_
  obtain ⟨q1, hq1, hp⟩ := fl_bd_of hp
  refine fl_muV (As := [.ref f0]) (rest := []) [(mo, .inr (6, [.int rf, .ref a_sc, .int ss, .ref a_nw, .ref a_tr, .ref a_di, .int ac, .ref a_ke, .ref a_ik, .ref a_od, .ref a_rk, .ref a_be, .ref a_fr, .int fs])), (a_od, .inl (G.2.1, 60, .inl q1.1)), (a_rk, .inl (G.2.1, 60, .inl q1.2.1)), (a_be, .inl (G.2.1, 60, .inl q1.2.2)), (a_fr, .inl (G.2.1, 12, .inl fr)), (f0, .inl (G.2.1, 126, .inl f))] C0 (c_M_watch l G mo a_sc a_nw a_tr a_di a_ke a_ik a_od a_rk a_be a_fr f0 rf ss ac fs od rk be f hq1) (cwV 1 hts gX6_singIn_X6_watch rfl rfl rfl (by decide +kernel) ⟨Nat.le_of_ble_eq_true rfl, Nat.le_of_ble_eq_true rfl⟩) hK hP hD [0, 1, 2, 3, 5] [4] [1, 2, 3, 4, 0, 5] rfl rfl (by decide) (by decide) rfl 0 6 rfl rfl rfl hS hA rfl hl.1 rfl (Nat.le_of_ble_eq_true rfl) dX6_singIn_10 ⟨Nat.zero_le _, Nat.zero_le _⟩ (fun H locs hP hD hS => ?_)
  refine lv_aload_n hx hb dX6_singIn_13 rfl (lv_at hl 2 rfl) ?_
  refine va_get (D := G.1) (ci := 6) (v := .ref a_fr) (C := RX6) (T := TX6) (N := 14) hx hb hts iX6 hown hK.1 hP 0 rfl rfl 12 (by decide) (hts (.fieldLink RX6 38 "SongChoirModel" "fresh" "[I") (List.mem_of_getElem? (i := 1) rfl)) (fun _ h9 => h9) rfl dX6_singIn_14 ?_
  refine lv_iconst (v := (0 : Int32)) hx hb dX6_singIn_17 (by decide) ?_
  refine lv_aload_n hx hb dX6_singIn_18 rfl (lv_at hl 3 rfl) ?_
  refine lv_bipush (v := (66 : Int32)) hx hb dX6_singIn_19 (by decide) ?_
  refine lv_iload_n hx hb dX6_singIn_21 rfl (lv_at hl 1 rfl) ?_
  refine lv_iadd hx hb dX6_singIn_22 ?_
  refine lv_aload_n hx hb dX6_singIn_23 rfl (lv_at hl 2 rfl) ?_
  refine va_get (D := G.1) (ci := 6) (v := .int fs) (C := RX6) (T := TX6) (N := 14) hx hb hts iX6 hown hK.1 hP 0 rfl rfl 13 (by decide) (hts (.fieldLink RX6 76 "SongChoirModel" "freshSize" "I") (List.mem_of_getElem? (i := 2) rfl)) (fun _ h9 => h9) rfl dX6_singIn_24 ?_
  obtain ⟨q2, hq2, hp⟩ := fl_bd_of hp
  refine fl_muS (As := [.ref a_fr, .int (0 : Int32), .ref f0, .int ((66 : Int32) + (f (0 : Int32).toNatClampNeg)), .int fs]) (rest := []) [(mo, .inr (6, [.int rf, .ref a_sc, .int ss, .ref a_nw, .ref a_tr, .ref a_di, .int ac, .ref a_ke, .ref a_ik, .ref a_od, .ref a_rk, .ref a_be, .ref a_fr, .int fs])), (a_od, .inl (G.2.1, 60, .inl q1.1)), (a_rk, .inl (G.2.1, 60, .inl q1.2.1)), (a_be, .inl (G.2.1, 60, .inl q1.2.2)), (a_fr, .inl (G.2.1, 12, .inl fr)), (f0, .inl (G.2.1, 126, .inl q2))] C0 (c_M_copy l G 12 126 a_fr f0 fr f (0 : Int32) ((66 : Int32) + (f (0 : Int32).toNatClampNeg)) fs hq2) (va_cwS 5 hts gX6_singIn_X6_copy rfl rfl rfl (by decide +kernel) ⟨Nat.le_of_ble_eq_true rfl, Nat.le_of_ble_eq_true rfl⟩) hK hP hD [4, 5] [0, 1, 2, 3] [0, 1, 2, 3, 4, 5] rfl rfl (by decide) (by decide) rfl hS hA rfl hl.1 rfl (Nat.le_of_ble_eq_true rfl) dX6_singIn_27 ⟨Nat.zero_le _, Nat.zero_le _⟩ (fun H locs hP hD hS => ?_)
  refine lv_aload_n hx hb dX6_singIn_30 rfl (lv_at hl 3 rfl) ?_
  refine lv_bipush (v := (6 : Int32)) hx hb dX6_singIn_31 (by decide) ?_
  refine lv_aload_n hx hb dX6_singIn_33 rfl (lv_at hl 3 rfl) ?_
  refine lv_iconst (v := (1 : Int32)) hx hb dX6_singIn_34 (by decide) ?_
  obtain ⟨hi, hp⟩ := fl_ck_of hp
  refine va_iald hx hb hK.1 hP 5 0 rfl rfl hi dX6_singIn_35 ?_
  refine lv_iadd hx hb dX6_singIn_36 ?_
  refine lv_aload_n hx hb dX6_singIn_37 rfl (lv_at hl 2 rfl) ?_
  refine va_get (D := G.1) (ci := 6) (v := .int fs) (C := RX6) (T := TX6) (N := 14) hx hb hts iX6 hown hK.1 hP 0 rfl rfl 13 (by decide) (hts (.fieldLink RX6 76 "SongChoirModel" "freshSize" "I") (List.mem_of_getElem? (i := 2) rfl)) (fun _ h9 => h9) rfl dX6_singIn_38 ?_
  obtain ⟨hi, hp⟩ := fl_ck_of hp
  refine va_iast hx hb hK.1 hP hD hS 5 0 rfl rfl hi dX6_singIn_41 (fun H locs hP hD hS => ?_)
  have hP : va_P G.1 vwCl [(mo, .inr (6, [.int rf, .ref a_sc, .int ss, .ref a_nw, .ref a_tr, .ref a_di, .int ac, .ref a_ke, .ref a_ik, .ref a_od, .ref a_rk, .ref a_be, .ref a_fr, .int fs])), (a_od, .inl (G.2.1, 60, .inl q1.1)), (a_rk, .inl (G.2.1, 60, .inl q1.2.1)), (a_be, .inl (G.2.1, 60, .inl q1.2.2)), (a_fr, .inl (G.2.1, 12, .inl fr)), (f0, .inl (G.2.1, 126, .inl (upd q2 ((6 : Int32) + (q2 (1 : Int32).toNatClampNeg)).toNatClampNeg fs)))] H := hP
  have hD : va_D A [(mo, .inr (6, [.int rf, .ref a_sc, .int ss, .ref a_nw, .ref a_tr, .ref a_di, .int ac, .ref a_ke, .ref a_ik, .ref a_od, .ref a_rk, .ref a_be, .ref a_fr, .int fs])), (a_od, .inl (G.2.1, 60, .inl q1.1)), (a_rk, .inl (G.2.1, 60, .inl q1.2.1)), (a_be, .inl (G.2.1, 60, .inl q1.2.2)), (a_fr, .inl (G.2.1, 12, .inl fr)), (f0, .inl (G.2.1, 126, .inl (upd q2 ((6 : Int32) + (q2 (1 : Int32).toNatClampNeg)).toNatClampNeg fs)))] := hD
  refine lv_aload_n hx hb dX6_singIn_42 rfl (lv_at hl 3 rfl) ?_
  refine lv_iconst (v := (1 : Int32)) hx hb dX6_singIn_43 (by decide) ?_
  refine lv_dup2_11 hx hb dX6_singIn_44 rfl rfl ?_
  obtain ⟨hi, hp⟩ := fl_ck_of hp
  refine va_iald hx hb hK.1 hP 5 0 rfl rfl hi dX6_singIn_45 ?_
  refine lv_iconst (v := (1 : Int32)) hx hb dX6_singIn_46 (by decide) ?_
  refine lv_iadd hx hb dX6_singIn_47 ?_
  obtain ⟨hi, hp⟩ := fl_ck_of hp
  refine va_iast hx hb hK.1 hP hD hS 5 0 rfl rfl hi dX6_singIn_48 (fun H locs hP hD hS => ?_)
  have hP : va_P G.1 vwCl [(mo, .inr (6, [.int rf, .ref a_sc, .int ss, .ref a_nw, .ref a_tr, .ref a_di, .int ac, .ref a_ke, .ref a_ik, .ref a_od, .ref a_rk, .ref a_be, .ref a_fr, .int fs])), (a_od, .inl (G.2.1, 60, .inl q1.1)), (a_rk, .inl (G.2.1, 60, .inl q1.2.1)), (a_be, .inl (G.2.1, 60, .inl q1.2.2)), (a_fr, .inl (G.2.1, 12, .inl fr)), (f0, .inl (G.2.1, 126, .inl (upd (upd q2 ((6 : Int32) + (q2 (1 : Int32).toNatClampNeg)).toNatClampNeg fs) (1 : Int32).toNatClampNeg (((upd q2 ((6 : Int32) + (q2 (1 : Int32).toNatClampNeg)).toNatClampNeg fs) (1 : Int32).toNatClampNeg) + (1 : Int32)))))] H := hP
  have hD : va_D A [(mo, .inr (6, [.int rf, .ref a_sc, .int ss, .ref a_nw, .ref a_tr, .ref a_di, .int ac, .ref a_ke, .ref a_ik, .ref a_od, .ref a_rk, .ref a_be, .ref a_fr, .int fs])), (a_od, .inl (G.2.1, 60, .inl q1.1)), (a_rk, .inl (G.2.1, 60, .inl q1.2.1)), (a_be, .inl (G.2.1, 60, .inl q1.2.2)), (a_fr, .inl (G.2.1, 12, .inl fr)), (f0, .inl (G.2.1, 126, .inl (upd (upd q2 ((6 : Int32) + (q2 (1 : Int32).toNatClampNeg)).toNatClampNeg fs) (1 : Int32).toNatClampNeg (((upd q2 ((6 : Int32) + (q2 (1 : Int32).toNatClampNeg)).toNatClampNeg fs) (1 : Int32).toNatClampNeg) + (1 : Int32)))))] := hD
  refine lv_aload_n hx hb dX6_singIn_49 rfl (lv_at hl 3 rfl) ?_
  refine lv_iconst (v := (0 : Int32)) hx hb dX6_singIn_50 (by decide) ?_
  refine lv_dup2_11 hx hb dX6_singIn_51 rfl rfl ?_
  obtain ⟨hi, hp⟩ := fl_ck_of hp
  refine va_iald hx hb hK.1 hP 5 0 rfl rfl hi dX6_singIn_52 ?_
  refine lv_aload_n hx hb dX6_singIn_53 rfl (lv_at hl 2 rfl) ?_
  refine va_get (D := G.1) (ci := 6) (v := .int fs) (C := RX6) (T := TX6) (N := 14) hx hb hts iX6 hown hK.1 hP 0 rfl rfl 13 (by decide) (hts (.fieldLink RX6 76 "SongChoirModel" "freshSize" "I") (List.mem_of_getElem? (i := 2) rfl)) (fun _ h9 => h9) rfl dX6_singIn_54 ?_
  refine lv_iadd hx hb dX6_singIn_57 ?_
  obtain ⟨hi, hp⟩ := fl_ck_of hp
  refine va_iast hx hb hK.1 hP hD hS 5 0 rfl rfl hi dX6_singIn_58 (fun H locs hP hD hS => ?_)
  have hP : va_P G.1 vwCl [(mo, .inr (6, [.int rf, .ref a_sc, .int ss, .ref a_nw, .ref a_tr, .ref a_di, .int ac, .ref a_ke, .ref a_ik, .ref a_od, .ref a_rk, .ref a_be, .ref a_fr, .int fs])), (a_od, .inl (G.2.1, 60, .inl q1.1)), (a_rk, .inl (G.2.1, 60, .inl q1.2.1)), (a_be, .inl (G.2.1, 60, .inl q1.2.2)), (a_fr, .inl (G.2.1, 12, .inl fr)), (f0, .inl (G.2.1, 126, .inl (upd (upd (upd q2 ((6 : Int32) + (q2 (1 : Int32).toNatClampNeg)).toNatClampNeg fs) (1 : Int32).toNatClampNeg (((upd q2 ((6 : Int32) + (q2 (1 : Int32).toNatClampNeg)).toNatClampNeg fs) (1 : Int32).toNatClampNeg) + (1 : Int32))) (0 : Int32).toNatClampNeg (((upd (upd q2 ((6 : Int32) + (q2 (1 : Int32).toNatClampNeg)).toNatClampNeg fs) (1 : Int32).toNatClampNeg (((upd q2 ((6 : Int32) + (q2 (1 : Int32).toNatClampNeg)).toNatClampNeg fs) (1 : Int32).toNatClampNeg) + (1 : Int32))) (0 : Int32).toNatClampNeg) + fs))))] H := hP
  have hD : va_D A [(mo, .inr (6, [.int rf, .ref a_sc, .int ss, .ref a_nw, .ref a_tr, .ref a_di, .int ac, .ref a_ke, .ref a_ik, .ref a_od, .ref a_rk, .ref a_be, .ref a_fr, .int fs])), (a_od, .inl (G.2.1, 60, .inl q1.1)), (a_rk, .inl (G.2.1, 60, .inl q1.2.1)), (a_be, .inl (G.2.1, 60, .inl q1.2.2)), (a_fr, .inl (G.2.1, 12, .inl fr)), (f0, .inl (G.2.1, 126, .inl (upd (upd (upd q2 ((6 : Int32) + (q2 (1 : Int32).toNatClampNeg)).toNatClampNeg fs) (1 : Int32).toNatClampNeg (((upd q2 ((6 : Int32) + (q2 (1 : Int32).toNatClampNeg)).toNatClampNeg fs) (1 : Int32).toNatClampNeg) + (1 : Int32))) (0 : Int32).toNatClampNeg (((upd (upd q2 ((6 : Int32) + (q2 (1 : Int32).toNatClampNeg)).toNatClampNeg fs) (1 : Int32).toNatClampNeg (((upd q2 ((6 : Int32) + (q2 (1 : Int32).toNatClampNeg)).toNatClampNeg fs) (1 : Int32).toNatClampNeg) + (1 : Int32))) (0 : Int32).toNatClampNeg) + fs))))] := hD
  refine lv_aload_n hx hb dX6_singIn_59 rfl (lv_at hl 3 rfl) ?_
  refine lv_iconst (v := (5 : Int32)) hx hb dX6_singIn_60 (by decide) ?_
  refine lv_dup2_11 hx hb dX6_singIn_61 rfl rfl ?_
  obtain ⟨hi, hp⟩ := fl_ck_of hp
  refine va_iald hx hb hK.1 hP 5 0 rfl rfl hi dX6_singIn_62 ?_
  refine lv_iconst (v := (1 : Int32)) hx hb dX6_singIn_63 (by decide) ?_
  refine lv_iadd hx hb dX6_singIn_64 ?_
  obtain ⟨hi, hp⟩ := fl_ck_of hp
  refine va_iast hx hb hK.1 hP hD hS 5 0 rfl rfl hi dX6_singIn_65 (fun H locs hP hD hS => ?_)
  have hP : va_P G.1 vwCl [(mo, .inr (6, [.int rf, .ref a_sc, .int ss, .ref a_nw, .ref a_tr, .ref a_di, .int ac, .ref a_ke, .ref a_ik, .ref a_od, .ref a_rk, .ref a_be, .ref a_fr, .int fs])), (a_od, .inl (G.2.1, 60, .inl q1.1)), (a_rk, .inl (G.2.1, 60, .inl q1.2.1)), (a_be, .inl (G.2.1, 60, .inl q1.2.2)), (a_fr, .inl (G.2.1, 12, .inl fr)), (f0, .inl (G.2.1, 126, .inl (upd (upd (upd (upd q2 ((6 : Int32) + (q2 (1 : Int32).toNatClampNeg)).toNatClampNeg fs) (1 : Int32).toNatClampNeg (((upd q2 ((6 : Int32) + (q2 (1 : Int32).toNatClampNeg)).toNatClampNeg fs) (1 : Int32).toNatClampNeg) + (1 : Int32))) (0 : Int32).toNatClampNeg (((upd (upd q2 ((6 : Int32) + (q2 (1 : Int32).toNatClampNeg)).toNatClampNeg fs) (1 : Int32).toNatClampNeg (((upd q2 ((6 : Int32) + (q2 (1 : Int32).toNatClampNeg)).toNatClampNeg fs) (1 : Int32).toNatClampNeg) + (1 : Int32))) (0 : Int32).toNatClampNeg) + fs)) (5 : Int32).toNatClampNeg (((upd (upd (upd q2 ((6 : Int32) + (q2 (1 : Int32).toNatClampNeg)).toNatClampNeg fs) (1 : Int32).toNatClampNeg (((upd q2 ((6 : Int32) + (q2 (1 : Int32).toNatClampNeg)).toNatClampNeg fs) (1 : Int32).toNatClampNeg) + (1 : Int32))) (0 : Int32).toNatClampNeg (((upd (upd q2 ((6 : Int32) + (q2 (1 : Int32).toNatClampNeg)).toNatClampNeg fs) (1 : Int32).toNatClampNeg (((upd q2 ((6 : Int32) + (q2 (1 : Int32).toNatClampNeg)).toNatClampNeg fs) (1 : Int32).toNatClampNeg) + (1 : Int32))) (0 : Int32).toNatClampNeg) + fs)) (5 : Int32).toNatClampNeg) + (1 : Int32)))))] H := hP
  have hD : va_D A [(mo, .inr (6, [.int rf, .ref a_sc, .int ss, .ref a_nw, .ref a_tr, .ref a_di, .int ac, .ref a_ke, .ref a_ik, .ref a_od, .ref a_rk, .ref a_be, .ref a_fr, .int fs])), (a_od, .inl (G.2.1, 60, .inl q1.1)), (a_rk, .inl (G.2.1, 60, .inl q1.2.1)), (a_be, .inl (G.2.1, 60, .inl q1.2.2)), (a_fr, .inl (G.2.1, 12, .inl fr)), (f0, .inl (G.2.1, 126, .inl (upd (upd (upd (upd q2 ((6 : Int32) + (q2 (1 : Int32).toNatClampNeg)).toNatClampNeg fs) (1 : Int32).toNatClampNeg (((upd q2 ((6 : Int32) + (q2 (1 : Int32).toNatClampNeg)).toNatClampNeg fs) (1 : Int32).toNatClampNeg) + (1 : Int32))) (0 : Int32).toNatClampNeg (((upd (upd q2 ((6 : Int32) + (q2 (1 : Int32).toNatClampNeg)).toNatClampNeg fs) (1 : Int32).toNatClampNeg (((upd q2 ((6 : Int32) + (q2 (1 : Int32).toNatClampNeg)).toNatClampNeg fs) (1 : Int32).toNatClampNeg) + (1 : Int32))) (0 : Int32).toNatClampNeg) + fs)) (5 : Int32).toNatClampNeg (((upd (upd (upd q2 ((6 : Int32) + (q2 (1 : Int32).toNatClampNeg)).toNatClampNeg fs) (1 : Int32).toNatClampNeg (((upd q2 ((6 : Int32) + (q2 (1 : Int32).toNatClampNeg)).toNatClampNeg fs) (1 : Int32).toNatClampNeg) + (1 : Int32))) (0 : Int32).toNatClampNeg (((upd (upd q2 ((6 : Int32) + (q2 (1 : Int32).toNatClampNeg)).toNatClampNeg fs) (1 : Int32).toNatClampNeg (((upd q2 ((6 : Int32) + (q2 (1 : Int32).toNatClampNeg)).toNatClampNeg fs) (1 : Int32).toNatClampNeg) + (1 : Int32))) (0 : Int32).toNatClampNeg) + fs)) (5 : Int32).toNatClampNeg) + (1 : Int32)))))] := hD
  obtain ⟨n0, hn⟩ := fl_loop_ex hp
  exact KL66 q1.1 q1.2.1 q1.2.2 (f (0 : Int32).toNatClampNeg) (f (3 : Int32).toNatClampNeg) n0 (upd (upd (upd (upd q2 ((6 : Int32) + (q2 (1 : Int32).toNatClampNeg)).toNatClampNeg fs) (1 : Int32).toNatClampNeg (((upd q2 ((6 : Int32) + (q2 (1 : Int32).toNatClampNeg)).toNatClampNeg fs) (1 : Int32).toNatClampNeg) + (1 : Int32))) (0 : Int32).toNatClampNeg (((upd (upd q2 ((6 : Int32) + (q2 (1 : Int32).toNatClampNeg)).toNatClampNeg fs) (1 : Int32).toNatClampNeg (((upd q2 ((6 : Int32) + (q2 (1 : Int32).toNatClampNeg)).toNatClampNeg fs) (1 : Int32).toNatClampNeg) + (1 : Int32))) (0 : Int32).toNatClampNeg) + fs)) (5 : Int32).toNatClampNeg (((upd (upd (upd q2 ((6 : Int32) + (q2 (1 : Int32).toNatClampNeg)).toNatClampNeg fs) (1 : Int32).toNatClampNeg (((upd q2 ((6 : Int32) + (q2 (1 : Int32).toNatClampNeg)).toNatClampNeg fs) (1 : Int32).toNatClampNeg) + (1 : Int32))) (0 : Int32).toNatClampNeg (((upd (upd q2 ((6 : Int32) + (q2 (1 : Int32).toNatClampNeg)).toNatClampNeg fs) (1 : Int32).toNatClampNeg (((upd q2 ((6 : Int32) + (q2 (1 : Int32).toNatClampNeg)).toNatClampNeg fs) (1 : Int32).toNatClampNeg) + (1 : Int32))) (0 : Int32).toNatClampNeg) + fs)) (5 : Int32).toNatClampNeg) + (1 : Int32))) H locs hP hD hS ls (lv_sub hl [2, 3, 1, 0] rfl) hn

noncomputable def P_M_beginOf_L4 (f : fl_A) (p1 : Int32) (z4 : (Int32 × Int32)) : Option ((Int32 × Int32) ⊕ Int32) := if p1 ≤ z4.2 then some (.inr z4.1) else fl_ck ((6 : Int32) + z4.2) 126 (some (.inl ((z4.1 + (f ((6 : Int32) + z4.2).toNatClampNeg)), (z4.2 + (1 : Int32)))))
noncomputable def P_M_beginOf (f : fl_A) (p1 : Int32) : Option Int32 := fl_loop (P_M_beginOf_L4 f p1) ((0 : Int32), (0 : Int32))
set_option maxHeartbeats 4000000 in
set_option maxRecDepth 100000 in
theorem c_M_beginOf (l : Launch) (G : fl_G) (f0 : Nat) (f : fl_A) (p1 : Int32) {r : Int32} (hp0 : P_M_beginOf f p1 = some r) : fl_ro l yX6_beginOf wsX6_beginOf 0 0 G [.ref f0, .int p1] [(f0, .inl (G.2.1, 126, .inl f))] (.int r) := by
  refine fl_ro_in cX6_beginOf 4 .int RX6 (by decide) rfl rfl (Nat.le_of_ble_eq_true rfl) ?_
  intro p e s m args below meth c ls Q H locs C0 hK hP hS hl hfin
  have hA : ∀ q : Nat, s.heap.size ≤ q → va_A [] s.heap.size q := fl_hA _ _
  obtain ⟨hx, hb, hml, hown, hts⟩ := id C0
  have hl : lv_has ls 4 [(0, .ref f0), (1, .int p1)] := hl
  have KL4 : ∀ (n0 : Nat) (z4 : (Int32 × Int32)) (H : Heap) (locs : List Loc), va_P G.1 vwCl [(f0, .inl (G.2.1, 126, .inl f))] H → va_S (va_A [] s.heap.size) s.heap H locs → ∀ (ls : Array Slot), lv_has ls 4 [(0, .ref f0), (1, .int p1), (2, .int z4.1), (3, .int z4.2)] → fl_loopN (P_M_beginOf_L4 f p1) n0 z4 = some r → W p l e (fl_rm 0 0) s m args below meth c H locs 0 0 Q (F0 m 4 ls []) := by
    intro n0
    induction n0 with
    | zero => intro z4 H locs hP hS ls hl hn; exact (fl_loopN_0 hn).elim
    | succ n0 ih4 =>
      intro z4 H locs hP hS ls hl hn
      obtain ⟨y4, hb4, hy4⟩ := fl_loopN_step hn
      clear hn
      have hp := hb4
      unfold P_M_beginOf_L4 at hp
      refine lv_iload_n hx hb dX6_beginOf_4 rfl (lv_at hl 3 rfl) ?_
      refine lv_iload_n hx hb dX6_beginOf_5 rfl (lv_at hl 1 rfl) ?_
      refine lv_icmp_ge (tgt := 24) hx hb dX6_beginOf_6 (by decide) (fun hc => ?_) (fun hc => ?_)
      · replace hp := fl_t hc hp
        refine lv_iload_n hx hb dX6_beginOf_24 rfl (lv_at hl 2 rfl) ?_
        obtain rfl := Option.some.inj hp
        obtain rfl := fl_cont_inr hy4
        exact hfin H locs _ ls hS dX6_beginOf_25 rfl
      · replace hp := fl_f hc hp
        refine lv_iload_n hx hb dX6_beginOf_9 rfl (lv_at hl 2 rfl) ?_
        refine lv_aload_n hx hb dX6_beginOf_10 rfl (lv_at hl 0 rfl) ?_
        refine lv_bipush (v := (6 : Int32)) hx hb dX6_beginOf_11 (by decide) ?_
        refine lv_iload_n hx hb dX6_beginOf_13 rfl (lv_at hl 3 rfl) ?_
        refine lv_iadd hx hb dX6_beginOf_14 ?_
        obtain ⟨hi, hp⟩ := fl_ck_of hp
        refine va_iald hx hb hK.1 hP 0 0 rfl rfl hi dX6_beginOf_15 ?_
        refine lv_iadd hx hb dX6_beginOf_16 ?_
        refine lv_istore_n (lv' := [(2, .int (z4.1 + (f ((6 : Int32) + z4.2).toNatClampNeg))), (0, .ref f0), (1, .int p1), (3, .int z4.2)]) hx hb dX6_beginOf_17 rfl hl (by decide) rfl (fun ls hl => ?_)
        refine lv_iinc (v := (z4.2 + (1 : Int32))) (lv' := [(3, .int (z4.2 + (1 : Int32))), (2, .int (z4.1 + (f ((6 : Int32) + z4.2).toNatClampNeg))), (0, .ref f0), (1, .int p1)]) hx hb dX6_beginOf_18 hl (k := 3) rfl rfl (by decide) rfl (fun ls hl => ?_)
        refine lv_goto (tgt := 4) hx hb dX6_beginOf_21 (by decide) ?_
        obtain rfl := Option.some.inj hp
        exact ih4 ((z4.1 + (f ((6 : Int32) + z4.2).toNatClampNeg)), (z4.2 + (1 : Int32))) H locs hP hS ls (lv_sub hl [2, 3, 1, 0] rfl) (fl_cont_inl hy4)
  have hp := hp0
  unfold P_M_beginOf at hp
  refine lv_iconst (v := (0 : Int32)) hx hb dX6_beginOf_0 (by decide) ?_
  refine lv_istore_n (lv' := [(2, .int (0 : Int32)), (0, .ref f0), (1, .int p1)]) hx hb dX6_beginOf_1 rfl hl (by decide) rfl (fun ls hl => ?_)
  refine lv_iconst (v := (0 : Int32)) hx hb dX6_beginOf_2 (by decide) ?_
  refine lv_istore_n (lv' := [(3, .int (0 : Int32)), (2, .int (0 : Int32)), (0, .ref f0), (1, .int p1)]) hx hb dX6_beginOf_3 rfl hl (by decide) rfl (fun ls hl => ?_)
  obtain ⟨n0, hn⟩ := fl_loop_ex hp
  exact KL4 n0 ((0 : Int32), (0 : Int32)) H locs hP hS ls (lv_sub hl [2, 3, 1, 0] rfl) hn

noncomputable def P_M_againIn (od : fl_A) (rk : fl_A) (be : fl_A) (fr : fl_A) (fs : Int32) (f : fl_A) (p1 : Int32) : Option (Int32 × fl_A × fl_A × fl_A × fl_A × Int32 × fl_A) := fl_ck ((6 : Int32) + p1) 126 (fl_bd (P_M_beginOf f p1) (fun q1 => fl_bd (P_M_copy 126 12 f fr ((66 : Int32) + q1) (0 : Int32) (f ((6 : Int32) + p1).toNatClampNeg)) (fun q2 => fl_bd (P_M_singIn od rk be q2 (f ((6 : Int32) + p1).toNatClampNeg) f) (fun q3 => some (q3.1, q3.2.1, q3.2.2.1, q3.2.2.2.1, q2, (f ((6 : Int32) + p1).toNatClampNeg), q3.2.2.2.2)))))
set_option maxHeartbeats 4000000 in
set_option maxRecDepth 100000 in
theorem c_M_againIn (l : Launch) (G : fl_G) (mo a_sc a_nw a_tr a_di a_ke a_ik a_od a_rk a_be a_fr f0 : Nat) (rf : Int32) (ss : Int32) (ac : Int32) (od : fl_A) (rk : fl_A) (be : fl_A) (fr : fl_A) (fs : Int32) (f : fl_A) (p1 : Int32) {r : (Int32 × fl_A × fl_A × fl_A × fl_A × Int32 × fl_A)} (hp0 : P_M_againIn od rk be fr fs f p1 = some r) : fl_mu l yX6_againIn wsX6_againIn 5 118 G [.ref mo, .ref f0, .int p1] [(mo, .inr (6, [.int rf, .ref a_sc, .int ss, .ref a_nw, .ref a_tr, .ref a_di, .int ac, .ref a_ke, .ref a_ik, .ref a_od, .ref a_rk, .ref a_be, .ref a_fr, .int fs])), (a_od, .inl (G.2.1, 60, .inl od)), (a_rk, .inl (G.2.1, 60, .inl rk)), (a_be, .inl (G.2.1, 60, .inl be)), (a_fr, .inl (G.2.1, 12, .inl fr)), (f0, .inl (G.2.1, 126, .inl f))] (some (.int r.1)) [(mo, .inr (6, [.int rf, .ref a_sc, .int ss, .ref a_nw, .ref a_tr, .ref a_di, .int ac, .ref a_ke, .ref a_ik, .ref a_od, .ref a_rk, .ref a_be, .ref a_fr, .int r.2.2.2.2.2.1])), (a_od, .inl (G.2.1, 60, .inl r.2.1)), (a_rk, .inl (G.2.1, 60, .inl r.2.2.1)), (a_be, .inl (G.2.1, 60, .inl r.2.2.2.1)), (a_fr, .inl (G.2.1, 12, .inl r.2.2.2.2.1)), (f0, .inl (G.2.1, 126, .inl r.2.2.2.2.2.2))] := by
  refine fl_mui_in cX6_againIn 3 .int RX6 (by decide) rfl rfl (Nat.le_of_ble_eq_true rfl) ?_
  intro p e s m args below meth c ls A Q H locs C0 hK hP hD hS hA hl hfin
  obtain ⟨hx, hb, hml, hown, hts⟩ := id C0
  have iX6 : ∀ w ∈ u_ws RX6 TX6 14, w ∈ wsX6_againIn := fun _ h => List.mem_cons_of_mem _ (List.mem_append_right _ h)
  have hl : lv_has ls 3 [(0, .ref mo), (1, .ref f0), (2, .int p1)] := hl
  have hp := hp0
  unfold P_M_againIn at hp
  refine lv_aload_n hx hb dX6_againIn_0 rfl (lv_at hl 0 rfl) ?_
  refine lv_aload_n hx hb dX6_againIn_1 rfl (lv_at hl 1 rfl) ?_
  refine lv_bipush (v := (6 : Int32)) hx hb dX6_againIn_2 (by decide) ?_
  refine lv_iload_n hx hb dX6_againIn_4 rfl (lv_at hl 2 rfl) ?_
  refine lv_iadd hx hb dX6_againIn_5 ?_
  obtain ⟨hi, hp⟩ := fl_ck_of hp
  refine va_iald hx hb hK.1 hP 5 0 rfl rfl hi dX6_againIn_6 ?_
  refine va_put (D := G.1) (ci := 6) (v := .int (f ((6 : Int32) + p1).toNatClampNeg)) (ty := .int) (C := RX6) (T := TX6) (N := 14) hx hb hts iX6 tyX6 tyX6_ok nmX6 hown hK.1 hP hD hS 0 rfl rfl 13 (by decide) (hts (.fieldLink RX6 76 "SongChoirModel" "freshSize" "I") (List.mem_of_getElem? (i := 1) rfl)) (fun _ h9 => h9) rfl (by decide +kernel) rfl rfl (Nat.le_of_ble_eq_true rfl) dX6_againIn_7 (fun H locs hP hD hS => ?_)
  have hP : va_P G.1 vwCl [(mo, .inr (6, [.int rf, .ref a_sc, .int ss, .ref a_nw, .ref a_tr, .ref a_di, .int ac, .ref a_ke, .ref a_ik, .ref a_od, .ref a_rk, .ref a_be, .ref a_fr, .int (f ((6 : Int32) + p1).toNatClampNeg)])), (a_od, .inl (G.2.1, 60, .inl od)), (a_rk, .inl (G.2.1, 60, .inl rk)), (a_be, .inl (G.2.1, 60, .inl be)), (a_fr, .inl (G.2.1, 12, .inl fr)), (f0, .inl (G.2.1, 126, .inl f))] H := hP
  have hD : va_D A [(mo, .inr (6, [.int rf, .ref a_sc, .int ss, .ref a_nw, .ref a_tr, .ref a_di, .int ac, .ref a_ke, .ref a_ik, .ref a_od, .ref a_rk, .ref a_be, .ref a_fr, .int (f ((6 : Int32) + p1).toNatClampNeg)])), (a_od, .inl (G.2.1, 60, .inl od)), (a_rk, .inl (G.2.1, 60, .inl rk)), (a_be, .inl (G.2.1, 60, .inl be)), (a_fr, .inl (G.2.1, 12, .inl fr)), (f0, .inl (G.2.1, 126, .inl f))] := hD
  refine lv_aload_n hx hb dX6_againIn_10 rfl (lv_at hl 1 rfl) ?_
  refine lv_bipush (v := (66 : Int32)) hx hb dX6_againIn_11 (by decide) ?_
  refine lv_aload_n hx hb dX6_againIn_13 rfl (lv_at hl 1 rfl) ?_
  refine lv_iload_n hx hb dX6_againIn_14 rfl (lv_at hl 2 rfl) ?_
  obtain ⟨q1, hq1, hp⟩ := fl_bd_of hp
  refine fl_roS (As := [.ref f0, .int p1]) (rest := [.int (66 : Int32), .ref f0]) C0 (c_M_beginOf l G f0 f p1 hq1) (va_cwS 2 hts gX6_againIn_X6_beginOf rfl rfl rfl (by decide +kernel) ⟨Nat.le_of_ble_eq_true rfl, Nat.le_of_ble_eq_true rfl⟩) hK hP [5] rfl hS hA rfl hl.1 rfl (Nat.le_of_ble_eq_true rfl) dX6_againIn_15 ⟨Nat.zero_le _, Nat.zero_le _⟩ (fun H locs hP hS => ?_)
  refine lv_iadd hx hb dX6_againIn_18 ?_
  refine lv_aload_n hx hb dX6_againIn_19 rfl (lv_at hl 0 rfl) ?_
  refine va_get (D := G.1) (ci := 6) (v := .ref a_fr) (C := RX6) (T := TX6) (N := 14) hx hb hts iX6 hown hK.1 hP 0 rfl rfl 12 (by decide) (hts (.fieldLink RX6 38 "SongChoirModel" "fresh" "[I") (List.mem_of_getElem? (i := 2) rfl)) (fun _ h9 => h9) rfl dX6_againIn_20 ?_
  refine lv_iconst (v := (0 : Int32)) hx hb dX6_againIn_23 (by decide) ?_
  refine lv_aload_n hx hb dX6_againIn_24 rfl (lv_at hl 0 rfl) ?_
  refine va_get (D := G.1) (ci := 6) (v := .int (f ((6 : Int32) + p1).toNatClampNeg)) (C := RX6) (T := TX6) (N := 14) hx hb hts iX6 hown hK.1 hP 0 rfl rfl 13 (by decide) (hts (.fieldLink RX6 76 "SongChoirModel" "freshSize" "I") (List.mem_of_getElem? (i := 1) rfl)) (fun _ h9 => h9) rfl dX6_againIn_25 ?_
  obtain ⟨q2, hq2, hp⟩ := fl_bd_of hp
  refine fl_muS (As := [.ref f0, .int ((66 : Int32) + q1), .ref a_fr, .int (0 : Int32), .int (f ((6 : Int32) + p1).toNatClampNeg)]) (rest := []) [(mo, .inr (6, [.int rf, .ref a_sc, .int ss, .ref a_nw, .ref a_tr, .ref a_di, .int ac, .ref a_ke, .ref a_ik, .ref a_od, .ref a_rk, .ref a_be, .ref a_fr, .int (f ((6 : Int32) + p1).toNatClampNeg)])), (a_od, .inl (G.2.1, 60, .inl od)), (a_rk, .inl (G.2.1, 60, .inl rk)), (a_be, .inl (G.2.1, 60, .inl be)), (a_fr, .inl (G.2.1, 12, .inl q2)), (f0, .inl (G.2.1, 126, .inl f))] C0 (c_M_copy l G 126 12 f0 a_fr f fr ((66 : Int32) + q1) (0 : Int32) (f ((6 : Int32) + p1).toNatClampNeg) hq2) (va_cwS 5 hts gX6_againIn_X6_copy rfl rfl rfl (by decide +kernel) ⟨Nat.le_of_ble_eq_true rfl, Nat.le_of_ble_eq_true rfl⟩) hK hP hD [5, 4] [0, 1, 2, 3] [0, 1, 2, 3, 5, 4] rfl rfl (by decide) (by decide) rfl hS hA rfl hl.1 rfl (Nat.le_of_ble_eq_true rfl) dX6_againIn_28 ⟨Nat.zero_le _, Nat.zero_le _⟩ (fun H locs hP hD hS => ?_)
  refine lv_aload_n hx hb dX6_againIn_31 rfl (lv_at hl 0 rfl) ?_
  refine lv_aload_n hx hb dX6_againIn_32 rfl (lv_at hl 1 rfl) ?_
  obtain ⟨q3, hq3, hp⟩ := fl_bd_of hp
  refine fl_muV (As := [.ref f0]) (rest := []) [(mo, .inr (6, [.int rf, .ref a_sc, .int ss, .ref a_nw, .ref a_tr, .ref a_di, .int ac, .ref a_ke, .ref a_ik, .ref a_od, .ref a_rk, .ref a_be, .ref a_fr, .int (f ((6 : Int32) + p1).toNatClampNeg)])), (a_od, .inl (G.2.1, 60, .inl q3.2.1)), (a_rk, .inl (G.2.1, 60, .inl q3.2.2.1)), (a_be, .inl (G.2.1, 60, .inl q3.2.2.2.1)), (a_fr, .inl (G.2.1, 12, .inl q2)), (f0, .inl (G.2.1, 126, .inl q3.2.2.2.2))] C0 (c_M_singIn l G mo a_sc a_nw a_tr a_di a_ke a_ik a_od a_rk a_be a_fr f0 rf ss ac od rk be q2 (f ((6 : Int32) + p1).toNatClampNeg) f hq3) (cwV 1 hts gX6_againIn_X6_singIn rfl rfl rfl (by decide +kernel) ⟨Nat.le_of_ble_eq_true rfl, Nat.le_of_ble_eq_true rfl⟩) hK hP hD [0, 1, 2, 3, 4, 5] [] [0, 1, 2, 3, 4, 5] rfl rfl (by decide) (by decide) rfl 0 6 rfl rfl rfl hS hA rfl hl.1 rfl (Nat.le_of_ble_eq_true rfl) dX6_againIn_33 ⟨Nat.zero_le _, Nat.zero_le _⟩ (fun H locs hP hD hS => ?_)
  obtain rfl := Option.some.inj hp
  exact hfin H locs _ ls hP hD hS dX6_againIn_36 rfl

noncomputable def P_M_forgetIn (od : fl_A) (rk : fl_A) (be : fl_A) (f : fl_A) : Option (Int32 × fl_A × fl_A × fl_A × fl_A) := fl_ck (0 : Int32) 126 (fl_ck (3 : Int32) 126 (fl_bd (P_M_watch od rk be f) (fun q1 => fl_bd (P_M_drop f) (fun q2 => fl_bd (P_M_handOver q1.1 q1.2.1 q1.2.2 q2 (f (0 : Int32).toNatClampNeg) (f (3 : Int32).toNatClampNeg)) (fun q3 => some (q3.1, q3.2.1, q3.2.2.1, q1.2.2, q3.2.2.2))))))
set_option maxHeartbeats 4000000 in
set_option maxRecDepth 100000 in
theorem c_M_forgetIn (l : Launch) (G : fl_G) (mo a_sc a_nw a_tr a_di a_ke a_ik a_od a_rk a_be a_fr f0 : Nat) (rf : Int32) (ss : Int32) (ac : Int32) (fs : Int32) (od : fl_A) (rk : fl_A) (be : fl_A) (f : fl_A) {r : (Int32 × fl_A × fl_A × fl_A × fl_A)} (hp0 : P_M_forgetIn od rk be f = some r) : fl_mu l yX6_forgetIn wsX6_forgetIn 4 95 G [.ref mo, .ref f0] [(mo, .inr (6, [.int rf, .ref a_sc, .int ss, .ref a_nw, .ref a_tr, .ref a_di, .int ac, .ref a_ke, .ref a_ik, .ref a_od, .ref a_rk, .ref a_be, .ref a_fr, .int fs])), (a_od, .inl (G.2.1, 60, .inl od)), (a_rk, .inl (G.2.1, 60, .inl rk)), (a_be, .inl (G.2.1, 60, .inl be)), (f0, .inl (G.2.1, 126, .inl f))] (some (.int r.1)) [(mo, .inr (6, [.int rf, .ref a_sc, .int ss, .ref a_nw, .ref a_tr, .ref a_di, .int ac, .ref a_ke, .ref a_ik, .ref a_od, .ref a_rk, .ref a_be, .ref a_fr, .int fs])), (a_od, .inl (G.2.1, 60, .inl r.2.1)), (a_rk, .inl (G.2.1, 60, .inl r.2.2.1)), (a_be, .inl (G.2.1, 60, .inl r.2.2.2.1)), (f0, .inl (G.2.1, 126, .inl r.2.2.2.2))] := by
  refine fl_mui_in cX6_forgetIn 4 .int RX6 (by decide) rfl rfl (Nat.le_of_ble_eq_true rfl) ?_
  intro p e s m args below meth c ls A Q H locs C0 hK hP hD hS hA hl hfin
  obtain ⟨hx, hb, hml, hown, hts⟩ := id C0
  have hl : lv_has ls 4 [(0, .ref mo), (1, .ref f0)] := hl
  have hp := hp0
  unfold P_M_forgetIn at hp
  refine lv_aload_n hx hb dX6_forgetIn_0 rfl (lv_at hl 1 rfl) ?_
  refine lv_iconst (v := (0 : Int32)) hx hb dX6_forgetIn_1 (by decide) ?_
  obtain ⟨hi, hp⟩ := fl_ck_of hp
  refine va_iald hx hb hK.1 hP 4 0 rfl rfl hi dX6_forgetIn_2 ?_
  refine lv_istore_n (lv' := [(2, .int (f (0 : Int32).toNatClampNeg)), (0, .ref mo), (1, .ref f0)]) hx hb dX6_forgetIn_3 rfl hl (by decide) rfl (fun ls hl => ?_)
  refine lv_aload_n hx hb dX6_forgetIn_4 rfl (lv_at hl 2 rfl) ?_
  refine lv_iconst (v := (3 : Int32)) hx hb dX6_forgetIn_5 (by decide) ?_
  obtain ⟨hi, hp⟩ := fl_ck_of hp
  refine va_iald hx hb hK.1 hP 4 0 rfl rfl hi dX6_forgetIn_6 ?_
  refine lv_istore_n (lv' := [(3, .int (f (3 : Int32).toNatClampNeg)), (2, .int (f (0 : Int32).toNatClampNeg)), (0, .ref mo), (1, .ref f0)]) hx hb dX6_forgetIn_7 rfl hl (by decide) rfl (fun ls hl => ?_)
  refine lv_aload_n hx hb dX6_forgetIn_8 rfl (lv_at hl 2 rfl) ?_
  refine lv_aload_n hx hb dX6_forgetIn_9 rfl (lv_at hl 3 rfl) ?_
  obtain ⟨q1, hq1, hp⟩ := fl_bd_of hp
  refine fl_muV (As := [.ref f0]) (rest := []) [(mo, .inr (6, [.int rf, .ref a_sc, .int ss, .ref a_nw, .ref a_tr, .ref a_di, .int ac, .ref a_ke, .ref a_ik, .ref a_od, .ref a_rk, .ref a_be, .ref a_fr, .int fs])), (a_od, .inl (G.2.1, 60, .inl q1.1)), (a_rk, .inl (G.2.1, 60, .inl q1.2.1)), (a_be, .inl (G.2.1, 60, .inl q1.2.2)), (f0, .inl (G.2.1, 126, .inl f))] C0 (c_M_watch l G mo a_sc a_nw a_tr a_di a_ke a_ik a_od a_rk a_be a_fr f0 rf ss ac fs od rk be f hq1) (cwV 1 hts gX6_forgetIn_X6_watch rfl rfl rfl (by decide +kernel) ⟨Nat.le_of_ble_eq_true rfl, Nat.le_of_ble_eq_true rfl⟩) hK hP hD [0, 1, 2, 3, 4] [] [0, 1, 2, 3, 4] rfl rfl (by decide) (by decide) rfl 0 6 rfl rfl rfl hS hA rfl hl.1 rfl (Nat.le_of_ble_eq_true rfl) dX6_forgetIn_10 ⟨Nat.zero_le _, Nat.zero_le _⟩ (fun H locs hP hD hS => ?_)
  refine lv_aload_n hx hb dX6_forgetIn_13 rfl (lv_at hl 3 rfl) ?_
  obtain ⟨q2, hq2, hp⟩ := fl_bd_of hp
  refine fl_muS (As := [.ref f0]) (rest := []) [(mo, .inr (6, [.int rf, .ref a_sc, .int ss, .ref a_nw, .ref a_tr, .ref a_di, .int ac, .ref a_ke, .ref a_ik, .ref a_od, .ref a_rk, .ref a_be, .ref a_fr, .int fs])), (a_od, .inl (G.2.1, 60, .inl q1.1)), (a_rk, .inl (G.2.1, 60, .inl q1.2.1)), (a_be, .inl (G.2.1, 60, .inl q1.2.2)), (f0, .inl (G.2.1, 126, .inl q2))] C0 (c_M_drop l G f0 f hq2) (va_cwS 1 hts gX6_forgetIn_X6_drop rfl rfl rfl (by decide +kernel) ⟨Nat.le_of_ble_eq_true rfl, Nat.le_of_ble_eq_true rfl⟩) hK hP hD [4] [0, 1, 2, 3] [0, 1, 2, 3, 4] rfl rfl (by decide) (by decide) rfl hS hA rfl hl.1 rfl (Nat.le_of_ble_eq_true rfl) dX6_forgetIn_14 ⟨Nat.zero_le _, Nat.zero_le _⟩ (fun H locs hP hD hS => ?_)
  refine lv_aload_n hx hb dX6_forgetIn_17 rfl (lv_at hl 2 rfl) ?_
  refine lv_aload_n hx hb dX6_forgetIn_18 rfl (lv_at hl 3 rfl) ?_
  refine lv_iload_n hx hb dX6_forgetIn_19 rfl (lv_at hl 1 rfl) ?_
  refine lv_iload_n hx hb dX6_forgetIn_20 rfl (lv_at hl 0 rfl) ?_
  obtain ⟨q3, hq3, hp⟩ := fl_bd_of hp
  refine fl_muV (As := [.ref f0, .int (f (0 : Int32).toNatClampNeg), .int (f (3 : Int32).toNatClampNeg)]) (rest := []) [(mo, .inr (6, [.int rf, .ref a_sc, .int ss, .ref a_nw, .ref a_tr, .ref a_di, .int ac, .ref a_ke, .ref a_ik, .ref a_od, .ref a_rk, .ref a_be, .ref a_fr, .int fs])), (a_od, .inl (G.2.1, 60, .inl q3.2.1)), (a_rk, .inl (G.2.1, 60, .inl q3.2.2.1)), (a_be, .inl (G.2.1, 60, .inl q1.2.2)), (f0, .inl (G.2.1, 126, .inl q3.2.2.2))] C0 (c_M_handOver l G mo a_sc a_nw a_tr a_di a_ke a_ik a_od a_rk a_be a_fr f0 rf ss ac fs q1.1 q1.2.1 q1.2.2 q2 (f (0 : Int32).toNatClampNeg) (f (3 : Int32).toNatClampNeg) hq3) (cwV 3 hts gX6_forgetIn_X6_handOver rfl rfl rfl (by decide +kernel) ⟨Nat.le_of_ble_eq_true rfl, Nat.le_of_ble_eq_true rfl⟩) hK hP hD [0, 1, 2, 3, 4] [] [0, 1, 2, 3, 4] rfl rfl (by decide) (by decide) rfl 0 6 rfl rfl rfl hS hA rfl hl.1 rfl (Nat.le_of_ble_eq_true rfl) dX6_forgetIn_21 ⟨Nat.zero_le _, Nat.zero_le _⟩ (fun H locs hP hD hS => ?_)
  obtain rfl := Option.some.inj hp
  exact hfin H locs _ ls hP hD hS dX6_forgetIn_24 rfl

noncomputable def P_M_setSingersIn (od : fl_A) (rk : fl_A) (be : fl_A) (f : fl_A) (p1 : Int32) : Option (Int32 × fl_A × fl_A × fl_A × fl_A) := fl_bd (P_M_watch od rk be f) (fun q1 => fl_ck (2 : Int32) 126 (fl_ck (0 : Int32) 126 (fl_ck (3 : Int32) 126 (fl_bd (P_M_handOver q1.1 q1.2.1 q1.2.2 (upd f (2 : Int32).toNatClampNeg p1) ((upd f (2 : Int32).toNatClampNeg p1) (0 : Int32).toNatClampNeg) ((upd f (2 : Int32).toNatClampNeg p1) (3 : Int32).toNatClampNeg)) (fun q2 => some (q2.1, q2.2.1, q2.2.2.1, q1.2.2, q2.2.2.2))))))
set_option maxHeartbeats 4000000 in
set_option maxRecDepth 100000 in
theorem c_M_setSingersIn (l : Launch) (G : fl_G) (mo a_sc a_nw a_tr a_di a_ke a_ik a_od a_rk a_be a_fr f0 : Nat) (rf : Int32) (ss : Int32) (ac : Int32) (fs : Int32) (od : fl_A) (rk : fl_A) (be : fl_A) (f : fl_A) (p1 : Int32) {r : (Int32 × fl_A × fl_A × fl_A × fl_A)} (hp0 : P_M_setSingersIn od rk be f p1 = some r) : fl_mu l yX6_setSingersIn wsX6_setSingersIn 4 95 G [.ref mo, .ref f0, .int p1] [(mo, .inr (6, [.int rf, .ref a_sc, .int ss, .ref a_nw, .ref a_tr, .ref a_di, .int ac, .ref a_ke, .ref a_ik, .ref a_od, .ref a_rk, .ref a_be, .ref a_fr, .int fs])), (a_od, .inl (G.2.1, 60, .inl od)), (a_rk, .inl (G.2.1, 60, .inl rk)), (a_be, .inl (G.2.1, 60, .inl be)), (f0, .inl (G.2.1, 126, .inl f))] (some (.int r.1)) [(mo, .inr (6, [.int rf, .ref a_sc, .int ss, .ref a_nw, .ref a_tr, .ref a_di, .int ac, .ref a_ke, .ref a_ik, .ref a_od, .ref a_rk, .ref a_be, .ref a_fr, .int fs])), (a_od, .inl (G.2.1, 60, .inl r.2.1)), (a_rk, .inl (G.2.1, 60, .inl r.2.2.1)), (a_be, .inl (G.2.1, 60, .inl r.2.2.2.1)), (f0, .inl (G.2.1, 126, .inl r.2.2.2.2))] := by
  refine fl_mui_in cX6_setSingersIn 3 .int RX6 (by decide) rfl rfl (Nat.le_of_ble_eq_true rfl) ?_
  intro p e s m args below meth c ls A Q H locs C0 hK hP hD hS hA hl hfin
  obtain ⟨hx, hb, hml, hown, hts⟩ := id C0
  have hl : lv_has ls 3 [(0, .ref mo), (1, .ref f0), (2, .int p1)] := hl
  have hp := hp0
  unfold P_M_setSingersIn at hp
  refine lv_aload_n hx hb dX6_setSingersIn_0 rfl (lv_at hl 0 rfl) ?_
  refine lv_aload_n hx hb dX6_setSingersIn_1 rfl (lv_at hl 1 rfl) ?_
  obtain ⟨q1, hq1, hp⟩ := fl_bd_of hp
  refine fl_muV (As := [.ref f0]) (rest := []) [(mo, .inr (6, [.int rf, .ref a_sc, .int ss, .ref a_nw, .ref a_tr, .ref a_di, .int ac, .ref a_ke, .ref a_ik, .ref a_od, .ref a_rk, .ref a_be, .ref a_fr, .int fs])), (a_od, .inl (G.2.1, 60, .inl q1.1)), (a_rk, .inl (G.2.1, 60, .inl q1.2.1)), (a_be, .inl (G.2.1, 60, .inl q1.2.2)), (f0, .inl (G.2.1, 126, .inl f))] C0 (c_M_watch l G mo a_sc a_nw a_tr a_di a_ke a_ik a_od a_rk a_be a_fr f0 rf ss ac fs od rk be f hq1) (cwV 1 hts gX6_setSingersIn_X6_watch rfl rfl rfl (by decide +kernel) ⟨Nat.le_of_ble_eq_true rfl, Nat.le_of_ble_eq_true rfl⟩) hK hP hD [0, 1, 2, 3, 4] [] [0, 1, 2, 3, 4] rfl rfl (by decide) (by decide) rfl 0 6 rfl rfl rfl hS hA rfl hl.1 rfl (Nat.le_of_ble_eq_true rfl) dX6_setSingersIn_2 ⟨Nat.zero_le _, Nat.zero_le _⟩ (fun H locs hP hD hS => ?_)
  refine lv_aload_n hx hb dX6_setSingersIn_5 rfl (lv_at hl 1 rfl) ?_
  refine lv_iconst (v := (2 : Int32)) hx hb dX6_setSingersIn_6 (by decide) ?_
  refine lv_iload_n hx hb dX6_setSingersIn_7 rfl (lv_at hl 2 rfl) ?_
  obtain ⟨hi, hp⟩ := fl_ck_of hp
  refine va_iast hx hb hK.1 hP hD hS 4 0 rfl rfl hi dX6_setSingersIn_8 (fun H locs hP hD hS => ?_)
  have hP : va_P G.1 vwCl [(mo, .inr (6, [.int rf, .ref a_sc, .int ss, .ref a_nw, .ref a_tr, .ref a_di, .int ac, .ref a_ke, .ref a_ik, .ref a_od, .ref a_rk, .ref a_be, .ref a_fr, .int fs])), (a_od, .inl (G.2.1, 60, .inl q1.1)), (a_rk, .inl (G.2.1, 60, .inl q1.2.1)), (a_be, .inl (G.2.1, 60, .inl q1.2.2)), (f0, .inl (G.2.1, 126, .inl (upd f (2 : Int32).toNatClampNeg p1)))] H := hP
  have hD : va_D A [(mo, .inr (6, [.int rf, .ref a_sc, .int ss, .ref a_nw, .ref a_tr, .ref a_di, .int ac, .ref a_ke, .ref a_ik, .ref a_od, .ref a_rk, .ref a_be, .ref a_fr, .int fs])), (a_od, .inl (G.2.1, 60, .inl q1.1)), (a_rk, .inl (G.2.1, 60, .inl q1.2.1)), (a_be, .inl (G.2.1, 60, .inl q1.2.2)), (f0, .inl (G.2.1, 126, .inl (upd f (2 : Int32).toNatClampNeg p1)))] := hD
  refine lv_aload_n hx hb dX6_setSingersIn_9 rfl (lv_at hl 0 rfl) ?_
  refine lv_aload_n hx hb dX6_setSingersIn_10 rfl (lv_at hl 1 rfl) ?_
  refine lv_aload_n hx hb dX6_setSingersIn_11 rfl (lv_at hl 1 rfl) ?_
  refine lv_iconst (v := (0 : Int32)) hx hb dX6_setSingersIn_12 (by decide) ?_
  obtain ⟨hi, hp⟩ := fl_ck_of hp
  refine va_iald hx hb hK.1 hP 4 0 rfl rfl hi dX6_setSingersIn_13 ?_
  refine lv_aload_n hx hb dX6_setSingersIn_14 rfl (lv_at hl 1 rfl) ?_
  refine lv_iconst (v := (3 : Int32)) hx hb dX6_setSingersIn_15 (by decide) ?_
  obtain ⟨hi, hp⟩ := fl_ck_of hp
  refine va_iald hx hb hK.1 hP 4 0 rfl rfl hi dX6_setSingersIn_16 ?_
  obtain ⟨q2, hq2, hp⟩ := fl_bd_of hp
  refine fl_muV (As := [.ref f0, .int ((upd f (2 : Int32).toNatClampNeg p1) (0 : Int32).toNatClampNeg), .int ((upd f (2 : Int32).toNatClampNeg p1) (3 : Int32).toNatClampNeg)]) (rest := []) [(mo, .inr (6, [.int rf, .ref a_sc, .int ss, .ref a_nw, .ref a_tr, .ref a_di, .int ac, .ref a_ke, .ref a_ik, .ref a_od, .ref a_rk, .ref a_be, .ref a_fr, .int fs])), (a_od, .inl (G.2.1, 60, .inl q2.2.1)), (a_rk, .inl (G.2.1, 60, .inl q2.2.2.1)), (a_be, .inl (G.2.1, 60, .inl q1.2.2)), (f0, .inl (G.2.1, 126, .inl q2.2.2.2))] C0 (c_M_handOver l G mo a_sc a_nw a_tr a_di a_ke a_ik a_od a_rk a_be a_fr f0 rf ss ac fs q1.1 q1.2.1 q1.2.2 (upd f (2 : Int32).toNatClampNeg p1) ((upd f (2 : Int32).toNatClampNeg p1) (0 : Int32).toNatClampNeg) ((upd f (2 : Int32).toNatClampNeg p1) (3 : Int32).toNatClampNeg) hq2) (cwV 3 hts gX6_setSingersIn_X6_handOver rfl rfl rfl (by decide +kernel) ⟨Nat.le_of_ble_eq_true rfl, Nat.le_of_ble_eq_true rfl⟩) hK hP hD [0, 1, 2, 3, 4] [] [0, 1, 2, 3, 4] rfl rfl (by decide) (by decide) rfl 0 6 rfl rfl rfl hS hA rfl hl.1 rfl (Nat.le_of_ble_eq_true rfl) dX6_setSingersIn_17 ⟨Nat.zero_le _, Nat.zero_le _⟩ (fun H locs hP hD hS => ?_)
  obtain rfl := Option.some.inj hp
  exact hfin H locs _ ls hP hD hS dX6_setSingersIn_20 rfl

noncomputable def P_M_longest_J48 (od : fl_A) (rk : fl_A) (f : fl_A) (v3 : Int32) (k0 : Int32) : Option ((Int32 × Int32) ⊕ (Int32 × fl_A × fl_A)) := some (.inl (k0, (v3 + (1 : Int32))))
noncomputable def P_M_longest_L9 (od : fl_A) (rk : fl_A) (f : fl_A) (z9 : (Int32 × Int32)) : Option ((Int32 × Int32) ⊕ (Int32 × fl_A × fl_A)) := fl_ck (0 : Int32) 126 (if (f (0 : Int32).toNatClampNeg) ≤ z9.2 then some (.inr (z9.1, od, rk)) else fl_ck (z9.2 - (1 : Int32)) 60 (fl_ck z9.2 60 (fl_bd (P_M_alike f (od (z9.2 - (1 : Int32)).toNatClampNeg) (od z9.2.toNatClampNeg)) (fun q1 => if q1 ≤ z9.1 then P_M_longest_J48 od rk f z9.2 z9.1 else P_M_longest_J48 od rk f z9.2 q1))))
noncomputable def P_M_longest (od : fl_A) (rk : fl_A) (f : fl_A) : Option (Int32 × fl_A × fl_A) := fl_bd (P_M_lay od rk f) (fun q1 => fl_loop (P_M_longest_L9 q1.1 q1.2 f) ((0 : Int32), (1 : Int32)))
set_option maxHeartbeats 4000000 in
set_option maxRecDepth 100000 in
theorem c_M_longest (l : Launch) (G : fl_G) (mo a_sc a_nw a_tr a_di a_ke a_ik a_od a_rk a_be a_fr f0 : Nat) (rf : Int32) (ss : Int32) (ac : Int32) (fs : Int32) (od : fl_A) (rk : fl_A) (f : fl_A) {r : (Int32 × fl_A × fl_A)} (hp0 : P_M_longest od rk f = some r) : fl_mu l yX6_longest wsX6_longest 3 69 G [.ref mo, .ref f0] [(mo, .inr (6, [.int rf, .ref a_sc, .int ss, .ref a_nw, .ref a_tr, .ref a_di, .int ac, .ref a_ke, .ref a_ik, .ref a_od, .ref a_rk, .ref a_be, .ref a_fr, .int fs])), (a_od, .inl (G.2.1, 60, .inl od)), (a_rk, .inl (G.2.1, 60, .inl rk)), (f0, .inl (G.2.1, 126, .inl f))] (some (.int r.1)) [(mo, .inr (6, [.int rf, .ref a_sc, .int ss, .ref a_nw, .ref a_tr, .ref a_di, .int ac, .ref a_ke, .ref a_ik, .ref a_od, .ref a_rk, .ref a_be, .ref a_fr, .int fs])), (a_od, .inl (G.2.1, 60, .inl r.2.1)), (a_rk, .inl (G.2.1, 60, .inl r.2.2)), (f0, .inl (G.2.1, 126, .inl f))] := by
  refine fl_mui_in cX6_longest 5 .int RX6 (by decide) rfl rfl (Nat.le_of_ble_eq_true rfl) ?_
  intro p e s m args below meth c ls A Q H locs C0 hK hP hD hS hA hl hfin
  obtain ⟨hx, hb, hml, hown, hts⟩ := id C0
  have iX6 : ∀ w ∈ u_ws RX6 TX6 14, w ∈ wsX6_longest := fun _ h => List.mem_cons_of_mem _ (List.mem_append_right _ h)
  have hl : lv_has ls 5 [(0, .ref mo), (1, .ref f0)] := hl
  have KL9 : ∀ (od : fl_A) (rk : fl_A) (n0 : Nat) (z9 : (Int32 × Int32)) (H : Heap) (locs : List Loc), va_P G.1 vwCl [(mo, .inr (6, [.int rf, .ref a_sc, .int ss, .ref a_nw, .ref a_tr, .ref a_di, .int ac, .ref a_ke, .ref a_ik, .ref a_od, .ref a_rk, .ref a_be, .ref a_fr, .int fs])), (a_od, .inl (G.2.1, 60, .inl od)), (a_rk, .inl (G.2.1, 60, .inl rk)), (f0, .inl (G.2.1, 126, .inl f))] H → va_D A [(mo, .inr (6, [.int rf, .ref a_sc, .int ss, .ref a_nw, .ref a_tr, .ref a_di, .int ac, .ref a_ke, .ref a_ik, .ref a_od, .ref a_rk, .ref a_be, .ref a_fr, .int fs])), (a_od, .inl (G.2.1, 60, .inl od)), (a_rk, .inl (G.2.1, 60, .inl rk)), (f0, .inl (G.2.1, 126, .inl f))] → va_S A s.heap H locs → ∀ (ls : Array Slot), lv_has ls 5 [(0, .ref mo), (1, .ref f0), (2, .int z9.1), (3, .int z9.2)] → fl_loopN (P_M_longest_L9 od rk f) n0 z9 = some r → W p l e (fl_rm 3 69) s m args below meth c H locs 0 0 Q (F0 m 9 ls []) := by
    intro od rk n0
    induction n0 with
    | zero => intro z9 H locs hP hD hS ls hl hn; exact (fl_loopN_0 hn).elim
    | succ n0 ih9 =>
      intro z9 H locs hP hD hS ls hl hn
      obtain ⟨y9, hb9, hy9⟩ := fl_loopN_step hn
      clear hn
      have KJ48 : ∀ (v3 : Int32) (k0 : Int32) (H : Heap) (locs : List Loc), va_P G.1 vwCl [(mo, .inr (6, [.int rf, .ref a_sc, .int ss, .ref a_nw, .ref a_tr, .ref a_di, .int ac, .ref a_ke, .ref a_ik, .ref a_od, .ref a_rk, .ref a_be, .ref a_fr, .int fs])), (a_od, .inl (G.2.1, 60, .inl od)), (a_rk, .inl (G.2.1, 60, .inl rk)), (f0, .inl (G.2.1, 126, .inl f))] H → va_D A [(mo, .inr (6, [.int rf, .ref a_sc, .int ss, .ref a_nw, .ref a_tr, .ref a_di, .int ac, .ref a_ke, .ref a_ik, .ref a_od, .ref a_rk, .ref a_be, .ref a_fr, .int fs])), (a_od, .inl (G.2.1, 60, .inl od)), (a_rk, .inl (G.2.1, 60, .inl rk)), (f0, .inl (G.2.1, 126, .inl f))] → va_S A s.heap H locs → ∀ (ls : Array Slot), lv_has ls 5 [(0, .ref mo), (1, .ref f0), (3, .int v3)] → P_M_longest_J48 od rk f v3 k0 = some y9 → W p l e (fl_rm 3 69) s m args below meth c H locs 0 0 Q (F0 m 48 ls [.int k0]) := by
        intro v3 k0 H locs hP hD hS ls hl hp
        unfold P_M_longest_J48 at hp
        refine lv_istore_n (lv' := [(2, .int k0), (0, .ref mo), (1, .ref f0), (3, .int v3)]) hx hb dX6_longest_48 rfl hl (by decide) rfl (fun ls hl => ?_)
        refine lv_iinc (v := (v3 + (1 : Int32))) (lv' := [(3, .int (v3 + (1 : Int32))), (2, .int k0), (0, .ref mo), (1, .ref f0)]) hx hb dX6_longest_49 hl (k := 3) rfl rfl (by decide) rfl (fun ls hl => ?_)
        refine lv_goto (tgt := 9) hx hb dX6_longest_52 (by decide) ?_
        obtain rfl := Option.some.inj hp
        exact ih9 (k0, (v3 + (1 : Int32))) H locs hP hD hS ls (lv_sub hl [2, 3, 1, 0] rfl) (fl_cont_inl hy9)
      have hp := hb9
      unfold P_M_longest_L9 at hp
      refine lv_iload_n hx hb dX6_longest_9 rfl (lv_at hl 3 rfl) ?_
      refine lv_aload_n hx hb dX6_longest_10 rfl (lv_at hl 1 rfl) ?_
      refine lv_iconst (v := (0 : Int32)) hx hb dX6_longest_11 (by decide) ?_
      obtain ⟨hi, hp⟩ := fl_ck_of hp
      refine va_iald hx hb hK.1 hP 3 0 rfl rfl hi dX6_longest_12 ?_
      refine lv_icmp_ge (tgt := 55) hx hb dX6_longest_13 (by decide) (fun hc => ?_) (fun hc => ?_)
      · replace hp := fl_t hc hp
        refine lv_iload_n hx hb dX6_longest_55 rfl (lv_at hl 2 rfl) ?_
        obtain rfl := Option.some.inj hp
        obtain rfl := fl_cont_inr hy9
        exact hfin H locs _ ls hP hD hS dX6_longest_56 rfl
      · replace hp := fl_f hc hp
        refine lv_aload_n hx hb dX6_longest_16 rfl (lv_at hl 1 rfl) ?_
        refine lv_aload_n hx hb dX6_longest_17 rfl (lv_at hl 0 rfl) ?_
        refine va_get (D := G.1) (ci := 6) (v := .ref a_od) (C := RX6) (T := TX6) (N := 14) hx hb hts iX6 hown hK.1 hP 0 rfl rfl 9 (by decide) (hts (.fieldLink RX6 29 "SongChoirModel" "order" "[I") (List.mem_of_getElem? (i := 1) rfl)) (fun _ h9 => h9) rfl dX6_longest_18 ?_
        refine lv_iload_n hx hb dX6_longest_21 rfl (lv_at hl 3 rfl) ?_
        refine lv_iconst (v := (1 : Int32)) hx hb dX6_longest_22 (by decide) ?_
        refine lv_isub hx hb dX6_longest_23 ?_
        obtain ⟨hi, hp⟩ := fl_ck_of hp
        refine va_iald hx hb hK.1 hP 1 0 rfl rfl hi dX6_longest_24 ?_
        refine lv_aload_n hx hb dX6_longest_25 rfl (lv_at hl 0 rfl) ?_
        refine va_get (D := G.1) (ci := 6) (v := .ref a_od) (C := RX6) (T := TX6) (N := 14) hx hb hts iX6 hown hK.1 hP 0 rfl rfl 9 (by decide) (hts (.fieldLink RX6 29 "SongChoirModel" "order" "[I") (List.mem_of_getElem? (i := 1) rfl)) (fun _ h9 => h9) rfl dX6_longest_26 ?_
        refine lv_iload_n hx hb dX6_longest_29 rfl (lv_at hl 3 rfl) ?_
        obtain ⟨hi, hp⟩ := fl_ck_of hp
        refine va_iald hx hb hK.1 hP 1 0 rfl rfl hi dX6_longest_30 ?_
        obtain ⟨q1, hq1, hp⟩ := fl_bd_of hp
        refine fl_roS (As := [.ref f0, .int (od (z9.2 - (1 : Int32)).toNatClampNeg), .int (od z9.2.toNatClampNeg)]) (rest := []) C0 (c_M_alike l G f0 f (od (z9.2 - (1 : Int32)).toNatClampNeg) (od z9.2.toNatClampNeg) hq1) (va_cwS 3 hts gX6_longest_X6_alike rfl rfl rfl (by decide +kernel) ⟨Nat.le_of_ble_eq_true rfl, Nat.le_of_ble_eq_true rfl⟩) hK hP [3] rfl hS hA rfl hl.1 rfl (Nat.le_of_ble_eq_true rfl) dX6_longest_31 ⟨Nat.zero_le _, Nat.zero_le _⟩ (fun H locs hP hS => ?_)
        refine lv_istore (lv' := [(4, .int q1), (0, .ref mo), (1, .ref f0), (2, .int z9.1), (3, .int z9.2)]) hx hb dX6_longest_34 hl (by decide) rfl (fun ls hl => ?_)
        refine lv_iload hx hb dX6_longest_36 (lv_at hl 0 rfl) ?_
        refine lv_iload_n hx hb dX6_longest_38 rfl (lv_at hl 3 rfl) ?_
        refine lv_icmp_le (tgt := 47) hx hb dX6_longest_39 (by decide) (fun hc => ?_) (fun hc => ?_)
        · replace hp := fl_t hc hp
          refine lv_iload_n hx hb dX6_longest_47 rfl (lv_at hl 3 rfl) ?_
          exact KJ48 z9.2 z9.1 H locs hP hD hS ls (lv_sub hl [1, 2, 4] rfl) hp
        · replace hp := fl_f hc hp
          refine lv_iload hx hb dX6_longest_42 (lv_at hl 0 rfl) ?_
          refine lv_goto (tgt := 48) hx hb dX6_longest_44 (by decide) ?_
          exact KJ48 z9.2 q1 H locs hP hD hS ls (lv_sub hl [1, 2, 4] rfl) hp
  have hp := hp0
  unfold P_M_longest at hp
  refine lv_iconst (v := (0 : Int32)) hx hb dX6_longest_0 (by decide) ?_
  refine lv_istore_n (lv' := [(2, .int (0 : Int32)), (0, .ref mo), (1, .ref f0)]) hx hb dX6_longest_1 rfl hl (by decide) rfl (fun ls hl => ?_)
  refine lv_aload_n hx hb dX6_longest_2 rfl (lv_at hl 1 rfl) ?_
  refine lv_aload_n hx hb dX6_longest_3 rfl (lv_at hl 2 rfl) ?_
  obtain ⟨q1, hq1, hp⟩ := fl_bd_of hp
  refine fl_muV (As := [.ref f0]) (rest := []) [(mo, .inr (6, [.int rf, .ref a_sc, .int ss, .ref a_nw, .ref a_tr, .ref a_di, .int ac, .ref a_ke, .ref a_ik, .ref a_od, .ref a_rk, .ref a_be, .ref a_fr, .int fs])), (a_od, .inl (G.2.1, 60, .inl q1.1)), (a_rk, .inl (G.2.1, 60, .inl q1.2)), (f0, .inl (G.2.1, 126, .inl f))] C0 (c_M_lay l G mo a_sc a_nw a_tr a_di a_ke a_ik a_od a_rk a_be a_fr f0 rf ss ac fs od rk f hq1) (cwV 1 hts gX6_longest_X6_lay rfl rfl rfl (by decide +kernel) ⟨Nat.le_of_ble_eq_true rfl, Nat.le_of_ble_eq_true rfl⟩) hK hP hD [0, 1, 2, 3] [] [0, 1, 2, 3] rfl rfl (by decide) (by decide) rfl 0 6 rfl rfl rfl hS hA rfl hl.1 rfl (Nat.le_of_ble_eq_true rfl) dX6_longest_4 ⟨Nat.zero_le _, Nat.zero_le _⟩ (fun H locs hP hD hS => ?_)
  refine lv_iconst (v := (1 : Int32)) hx hb dX6_longest_7 (by decide) ?_
  refine lv_istore_n (lv' := [(3, .int (1 : Int32)), (2, .int (0 : Int32)), (0, .ref mo), (1, .ref f0)]) hx hb dX6_longest_8 rfl hl (by decide) rfl (fun ls hl => ?_)
  obtain ⟨n0, hn⟩ := fl_loop_ex hp
  exact KL9 q1.1 q1.2 n0 ((0 : Int32), (1 : Int32)) H locs hP hD hS ls (lv_sub hl [2, 3, 1, 0] rfl) hn

noncomputable def P_M_pieces_L19 (od : fl_A) (rk : fl_A) (f : fl_A) (z19 : (Int32 × Int32)) : Option ((Int32 × Int32) ⊕ (Int32 × fl_A × fl_A)) := fl_ck (0 : Int32) 126 (if (f (0 : Int32).toNatClampNeg) ≤ z19.2 then some (.inr (z19.1, od, rk)) else fl_ck (z19.2 - (1 : Int32)) 60 (fl_ck z19.2 60 (fl_bd (P_M_alike f (od (z19.2 - (1 : Int32)).toNatClampNeg) (od z19.2.toNatClampNeg)) (fun q1 => some (.inl ((z19.1 - q1), (z19.2 + (1 : Int32))))))))
noncomputable def P_M_pieces (od : fl_A) (rk : fl_A) (f : fl_A) : Option (Int32 × fl_A × fl_A) := fl_ck (0 : Int32) 126 (fl_ck (0 : Int32) 126 (fl_bd (P_M_lay od rk f) (fun q1 => fl_loop (P_M_pieces_L19 q1.1 q1.2 f) ((((f (0 : Int32).toNatClampNeg) * ((f (0 : Int32).toNatClampNeg) + (1 : Int32))) / (2 : Int32)), (1 : Int32)))))
set_option maxHeartbeats 4000000 in
set_option maxRecDepth 100000 in
theorem c_M_pieces (l : Launch) (G : fl_G) (mo a_sc a_nw a_tr a_di a_ke a_ik a_od a_rk a_be a_fr f0 : Nat) (rf : Int32) (ss : Int32) (ac : Int32) (fs : Int32) (od : fl_A) (rk : fl_A) (f : fl_A) {r : (Int32 × fl_A × fl_A)} (hp0 : P_M_pieces od rk f = some r) : fl_mu l yX6_pieces wsX6_pieces 3 69 G [.ref mo, .ref f0] [(mo, .inr (6, [.int rf, .ref a_sc, .int ss, .ref a_nw, .ref a_tr, .ref a_di, .int ac, .ref a_ke, .ref a_ik, .ref a_od, .ref a_rk, .ref a_be, .ref a_fr, .int fs])), (a_od, .inl (G.2.1, 60, .inl od)), (a_rk, .inl (G.2.1, 60, .inl rk)), (f0, .inl (G.2.1, 126, .inl f))] (some (.int r.1)) [(mo, .inr (6, [.int rf, .ref a_sc, .int ss, .ref a_nw, .ref a_tr, .ref a_di, .int ac, .ref a_ke, .ref a_ik, .ref a_od, .ref a_rk, .ref a_be, .ref a_fr, .int fs])), (a_od, .inl (G.2.1, 60, .inl r.2.1)), (a_rk, .inl (G.2.1, 60, .inl r.2.2)), (f0, .inl (G.2.1, 126, .inl f))] := by
  refine fl_mui_in cX6_pieces 4 .int RX6 (by decide) rfl rfl (Nat.le_of_ble_eq_true rfl) ?_
  intro p e s m args below meth c ls A Q H locs C0 hK hP hD hS hA hl hfin
  obtain ⟨hx, hb, hml, hown, hts⟩ := id C0
  have iX6 : ∀ w ∈ u_ws RX6 TX6 14, w ∈ wsX6_pieces := fun _ h => List.mem_cons_of_mem _ (List.mem_append_right _ h)
  have hl : lv_has ls 4 [(0, .ref mo), (1, .ref f0)] := hl
  have KL19 : ∀ (od : fl_A) (rk : fl_A) (n0 : Nat) (z19 : (Int32 × Int32)) (H : Heap) (locs : List Loc), va_P G.1 vwCl [(mo, .inr (6, [.int rf, .ref a_sc, .int ss, .ref a_nw, .ref a_tr, .ref a_di, .int ac, .ref a_ke, .ref a_ik, .ref a_od, .ref a_rk, .ref a_be, .ref a_fr, .int fs])), (a_od, .inl (G.2.1, 60, .inl od)), (a_rk, .inl (G.2.1, 60, .inl rk)), (f0, .inl (G.2.1, 126, .inl f))] H → va_D A [(mo, .inr (6, [.int rf, .ref a_sc, .int ss, .ref a_nw, .ref a_tr, .ref a_di, .int ac, .ref a_ke, .ref a_ik, .ref a_od, .ref a_rk, .ref a_be, .ref a_fr, .int fs])), (a_od, .inl (G.2.1, 60, .inl od)), (a_rk, .inl (G.2.1, 60, .inl rk)), (f0, .inl (G.2.1, 126, .inl f))] → va_S A s.heap H locs → ∀ (ls : Array Slot), lv_has ls 4 [(0, .ref mo), (1, .ref f0), (2, .int z19.1), (3, .int z19.2)] → fl_loopN (P_M_pieces_L19 od rk f) n0 z19 = some r → W p l e (fl_rm 3 69) s m args below meth c H locs 0 0 Q (F0 m 19 ls []) := by
    intro od rk n0
    induction n0 with
    | zero => intro z19 H locs hP hD hS ls hl hn; exact (fl_loopN_0 hn).elim
    | succ n0 ih19 =>
      intro z19 H locs hP hD hS ls hl hn
      obtain ⟨y19, hb19, hy19⟩ := fl_loopN_step hn
      clear hn
      have hp := hb19
      unfold P_M_pieces_L19 at hp
      refine lv_iload_n hx hb dX6_pieces_19 rfl (lv_at hl 3 rfl) ?_
      refine lv_aload_n hx hb dX6_pieces_20 rfl (lv_at hl 1 rfl) ?_
      refine lv_iconst (v := (0 : Int32)) hx hb dX6_pieces_21 (by decide) ?_
      obtain ⟨hi, hp⟩ := fl_ck_of hp
      refine va_iald hx hb hK.1 hP 3 0 rfl rfl hi dX6_pieces_22 ?_
      refine lv_icmp_ge (tgt := 53) hx hb dX6_pieces_23 (by decide) (fun hc => ?_) (fun hc => ?_)
      · replace hp := fl_t hc hp
        refine lv_iload_n hx hb dX6_pieces_53 rfl (lv_at hl 2 rfl) ?_
        obtain rfl := Option.some.inj hp
        obtain rfl := fl_cont_inr hy19
        exact hfin H locs _ ls hP hD hS dX6_pieces_54 rfl
      · replace hp := fl_f hc hp
        refine lv_iload_n hx hb dX6_pieces_26 rfl (lv_at hl 2 rfl) ?_
        refine lv_aload_n hx hb dX6_pieces_27 rfl (lv_at hl 1 rfl) ?_
        refine lv_aload_n hx hb dX6_pieces_28 rfl (lv_at hl 0 rfl) ?_
        refine va_get (D := G.1) (ci := 6) (v := .ref a_od) (C := RX6) (T := TX6) (N := 14) hx hb hts iX6 hown hK.1 hP 0 rfl rfl 9 (by decide) (hts (.fieldLink RX6 29 "SongChoirModel" "order" "[I") (List.mem_of_getElem? (i := 1) rfl)) (fun _ h9 => h9) rfl dX6_pieces_29 ?_
        refine lv_iload_n hx hb dX6_pieces_32 rfl (lv_at hl 3 rfl) ?_
        refine lv_iconst (v := (1 : Int32)) hx hb dX6_pieces_33 (by decide) ?_
        refine lv_isub hx hb dX6_pieces_34 ?_
        obtain ⟨hi, hp⟩ := fl_ck_of hp
        refine va_iald hx hb hK.1 hP 1 0 rfl rfl hi dX6_pieces_35 ?_
        refine lv_aload_n hx hb dX6_pieces_36 rfl (lv_at hl 0 rfl) ?_
        refine va_get (D := G.1) (ci := 6) (v := .ref a_od) (C := RX6) (T := TX6) (N := 14) hx hb hts iX6 hown hK.1 hP 0 rfl rfl 9 (by decide) (hts (.fieldLink RX6 29 "SongChoirModel" "order" "[I") (List.mem_of_getElem? (i := 1) rfl)) (fun _ h9 => h9) rfl dX6_pieces_37 ?_
        refine lv_iload_n hx hb dX6_pieces_40 rfl (lv_at hl 3 rfl) ?_
        obtain ⟨hi, hp⟩ := fl_ck_of hp
        refine va_iald hx hb hK.1 hP 1 0 rfl rfl hi dX6_pieces_41 ?_
        obtain ⟨q1, hq1, hp⟩ := fl_bd_of hp
        refine fl_roS (As := [.ref f0, .int (od (z19.2 - (1 : Int32)).toNatClampNeg), .int (od z19.2.toNatClampNeg)]) (rest := [.int z19.1]) C0 (c_M_alike l G f0 f (od (z19.2 - (1 : Int32)).toNatClampNeg) (od z19.2.toNatClampNeg) hq1) (va_cwS 3 hts gX6_pieces_X6_alike rfl rfl rfl (by decide +kernel) ⟨Nat.le_of_ble_eq_true rfl, Nat.le_of_ble_eq_true rfl⟩) hK hP [3] rfl hS hA rfl hl.1 rfl (Nat.le_of_ble_eq_true rfl) dX6_pieces_42 ⟨Nat.zero_le _, Nat.zero_le _⟩ (fun H locs hP hS => ?_)
        refine lv_isub hx hb dX6_pieces_45 ?_
        refine lv_istore_n (lv' := [(2, .int (z19.1 - q1)), (0, .ref mo), (1, .ref f0), (3, .int z19.2)]) hx hb dX6_pieces_46 rfl hl (by decide) rfl (fun ls hl => ?_)
        refine lv_iinc (v := (z19.2 + (1 : Int32))) (lv' := [(3, .int (z19.2 + (1 : Int32))), (2, .int (z19.1 - q1)), (0, .ref mo), (1, .ref f0)]) hx hb dX6_pieces_47 hl (k := 3) rfl rfl (by decide) rfl (fun ls hl => ?_)
        refine lv_goto (tgt := 19) hx hb dX6_pieces_50 (by decide) ?_
        obtain rfl := Option.some.inj hp
        exact ih19 ((z19.1 - q1), (z19.2 + (1 : Int32))) H locs hP hD hS ls (lv_sub hl [2, 3, 1, 0] rfl) (fl_cont_inl hy19)
  have hp := hp0
  unfold P_M_pieces at hp
  refine lv_aload_n hx hb dX6_pieces_0 rfl (lv_at hl 1 rfl) ?_
  refine lv_iconst (v := (0 : Int32)) hx hb dX6_pieces_1 (by decide) ?_
  obtain ⟨hi, hp⟩ := fl_ck_of hp
  refine va_iald hx hb hK.1 hP 3 0 rfl rfl hi dX6_pieces_2 ?_
  refine lv_aload_n hx hb dX6_pieces_3 rfl (lv_at hl 1 rfl) ?_
  refine lv_iconst (v := (0 : Int32)) hx hb dX6_pieces_4 (by decide) ?_
  obtain ⟨hi, hp⟩ := fl_ck_of hp
  refine va_iald hx hb hK.1 hP 3 0 rfl rfl hi dX6_pieces_5 ?_
  refine lv_iconst (v := (1 : Int32)) hx hb dX6_pieces_6 (by decide) ?_
  refine lv_iadd hx hb dX6_pieces_7 ?_
  refine lv_imul hx hb dX6_pieces_8 ?_
  refine lv_iconst (v := (2 : Int32)) hx hb dX6_pieces_9 (by decide) ?_
  refine lv_idiv hx hb dX6_pieces_10 (by decide) ?_
  refine lv_istore_n (lv' := [(2, .int (((f (0 : Int32).toNatClampNeg) * ((f (0 : Int32).toNatClampNeg) + (1 : Int32))) / (2 : Int32))), (0, .ref mo), (1, .ref f0)]) hx hb dX6_pieces_11 rfl hl (by decide) rfl (fun ls hl => ?_)
  refine lv_aload_n hx hb dX6_pieces_12 rfl (lv_at hl 1 rfl) ?_
  refine lv_aload_n hx hb dX6_pieces_13 rfl (lv_at hl 2 rfl) ?_
  obtain ⟨q1, hq1, hp⟩ := fl_bd_of hp
  refine fl_muV (As := [.ref f0]) (rest := []) [(mo, .inr (6, [.int rf, .ref a_sc, .int ss, .ref a_nw, .ref a_tr, .ref a_di, .int ac, .ref a_ke, .ref a_ik, .ref a_od, .ref a_rk, .ref a_be, .ref a_fr, .int fs])), (a_od, .inl (G.2.1, 60, .inl q1.1)), (a_rk, .inl (G.2.1, 60, .inl q1.2)), (f0, .inl (G.2.1, 126, .inl f))] C0 (c_M_lay l G mo a_sc a_nw a_tr a_di a_ke a_ik a_od a_rk a_be a_fr f0 rf ss ac fs od rk f hq1) (cwV 1 hts gX6_pieces_X6_lay rfl rfl rfl (by decide +kernel) ⟨Nat.le_of_ble_eq_true rfl, Nat.le_of_ble_eq_true rfl⟩) hK hP hD [0, 1, 2, 3] [] [0, 1, 2, 3] rfl rfl (by decide) (by decide) rfl 0 6 rfl rfl rfl hS hA rfl hl.1 rfl (Nat.le_of_ble_eq_true rfl) dX6_pieces_14 ⟨Nat.zero_le _, Nat.zero_le _⟩ (fun H locs hP hD hS => ?_)
  refine lv_iconst (v := (1 : Int32)) hx hb dX6_pieces_17 (by decide) ?_
  refine lv_istore_n (lv' := [(3, .int (1 : Int32)), (2, .int (((f (0 : Int32).toNatClampNeg) * ((f (0 : Int32).toNatClampNeg) + (1 : Int32))) / (2 : Int32))), (0, .ref mo), (1, .ref f0)]) hx hb dX6_pieces_18 rfl hl (by decide) rfl (fun ls hl => ?_)
  obtain ⟨n0, hn⟩ := fl_loop_ex hp
  exact KL19 q1.1 q1.2 n0 ((((f (0 : Int32).toNatClampNeg) * ((f (0 : Int32).toNatClampNeg) + (1 : Int32))) / (2 : Int32)), (1 : Int32)) H locs hP hD hS ls (lv_sub hl [2, 3, 1, 0] rfl) hn

noncomputable def P_M_repeatAt_J40 (f : fl_A) (p1 : Int32) (v3 : Int32) (k0 : Int32) : Option ((Int32 × Int32) ⊕ Int32) := some (.inl (k0, (v3 + (1 : Int32))))
noncomputable def P_M_repeatAt_J26 (f : fl_A) (p1 : Int32) (v2 : Int32) (v3 : Int32) (k0 : Int32) : Option ((Int32 × Int32) ⊕ Int32) := if k0 ≤ v2 then P_M_repeatAt_J40 f p1 v3 v2 else P_M_repeatAt_J40 f p1 v3 k0
noncomputable def P_M_repeatAt_L4 (f : fl_A) (p1 : Int32) (z4 : (Int32 × Int32)) : Option ((Int32 × Int32) ⊕ Int32) := fl_ck (0 : Int32) 126 (if (f (0 : Int32).toNatClampNeg) ≤ z4.2 then some (.inr z4.1) else if z4.2 = p1 then P_M_repeatAt_J26 f p1 z4.1 z4.2 (0 : Int32) else fl_bd (P_M_alike f p1 z4.2) (fun q1 => P_M_repeatAt_J26 f p1 z4.1 z4.2 q1))
noncomputable def P_M_repeatAt (f : fl_A) (p1 : Int32) : Option Int32 := fl_loop (P_M_repeatAt_L4 f p1) ((0 : Int32), (0 : Int32))
set_option maxHeartbeats 4000000 in
set_option maxRecDepth 100000 in
theorem c_M_repeatAt (l : Launch) (G : fl_G) (f0 : Nat) (f : fl_A) (p1 : Int32) {r : Int32} (hp0 : P_M_repeatAt f p1 = some r) : fl_ro l yX6_repeatAt wsX6_repeatAt 1 23 G [.ref f0, .int p1] [(f0, .inl (G.2.1, 126, .inl f))] (.int r) := by
  refine fl_ro_in cX6_repeatAt 5 .int RX6 (by decide) rfl rfl (Nat.le_of_ble_eq_true rfl) ?_
  intro p e s m args below meth c ls Q H locs C0 hK hP hS hl hfin
  have hA : ∀ q : Nat, s.heap.size ≤ q → va_A [] s.heap.size q := fl_hA _ _
  obtain ⟨hx, hb, hml, hown, hts⟩ := id C0
  have hl : lv_has ls 5 [(0, .ref f0), (1, .int p1)] := hl
  have KL4 : ∀ (n0 : Nat) (z4 : (Int32 × Int32)) (H : Heap) (locs : List Loc), va_P G.1 vwCl [(f0, .inl (G.2.1, 126, .inl f))] H → va_S (va_A [] s.heap.size) s.heap H locs → ∀ (ls : Array Slot), lv_has ls 5 [(0, .ref f0), (1, .int p1), (2, .int z4.1), (3, .int z4.2)] → fl_loopN (P_M_repeatAt_L4 f p1) n0 z4 = some r → W p l e (fl_rm 1 23) s m args below meth c H locs 0 0 Q (F0 m 4 ls []) := by
    intro n0
    induction n0 with
    | zero => intro z4 H locs hP hS ls hl hn; exact (fl_loopN_0 hn).elim
    | succ n0 ih4 =>
      intro z4 H locs hP hS ls hl hn
      obtain ⟨y4, hb4, hy4⟩ := fl_loopN_step hn
      clear hn
      have KJ40 : ∀ (v3 : Int32) (k0 : Int32) (H : Heap) (locs : List Loc), va_P G.1 vwCl [(f0, .inl (G.2.1, 126, .inl f))] H → va_S (va_A [] s.heap.size) s.heap H locs → ∀ (ls : Array Slot), lv_has ls 5 [(0, .ref f0), (1, .int p1), (3, .int v3)] → P_M_repeatAt_J40 f p1 v3 k0 = some y4 → W p l e (fl_rm 1 23) s m args below meth c H locs 0 0 Q (F0 m 40 ls [.int k0]) := by
        intro v3 k0 H locs hP hS ls hl hp
        unfold P_M_repeatAt_J40 at hp
        refine lv_istore_n (lv' := [(2, .int k0), (0, .ref f0), (1, .int p1), (3, .int v3)]) hx hb dX6_repeatAt_40 rfl hl (by decide) rfl (fun ls hl => ?_)
        refine lv_iinc (v := (v3 + (1 : Int32))) (lv' := [(3, .int (v3 + (1 : Int32))), (2, .int k0), (0, .ref f0), (1, .int p1)]) hx hb dX6_repeatAt_41 hl (k := 3) rfl rfl (by decide) rfl (fun ls hl => ?_)
        refine lv_goto (tgt := 4) hx hb dX6_repeatAt_44 (by decide) ?_
        obtain rfl := Option.some.inj hp
        exact ih4 (k0, (v3 + (1 : Int32))) H locs hP hS ls (lv_sub hl [2, 3, 1, 0] rfl) (fl_cont_inl hy4)
      have KJ26 : ∀ (v2 : Int32) (v3 : Int32) (k0 : Int32) (H : Heap) (locs : List Loc), va_P G.1 vwCl [(f0, .inl (G.2.1, 126, .inl f))] H → va_S (va_A [] s.heap.size) s.heap H locs → ∀ (ls : Array Slot), lv_has ls 5 [(0, .ref f0), (1, .int p1), (2, .int v2), (3, .int v3)] → P_M_repeatAt_J26 f p1 v2 v3 k0 = some y4 → W p l e (fl_rm 1 23) s m args below meth c H locs 0 0 Q (F0 m 26 ls [.int k0]) := by
        intro v2 v3 k0 H locs hP hS ls hl hp
        unfold P_M_repeatAt_J26 at hp
        refine lv_istore (lv' := [(4, .int k0), (0, .ref f0), (1, .int p1), (2, .int v2), (3, .int v3)]) hx hb dX6_repeatAt_26 hl (by decide) rfl (fun ls hl => ?_)
        refine lv_iload hx hb dX6_repeatAt_28 (lv_at hl 0 rfl) ?_
        refine lv_iload_n hx hb dX6_repeatAt_30 rfl (lv_at hl 3 rfl) ?_
        refine lv_icmp_le (tgt := 39) hx hb dX6_repeatAt_31 (by decide) (fun hc => ?_) (fun hc => ?_)
        · replace hp := fl_t hc hp
          refine lv_iload_n hx hb dX6_repeatAt_39 rfl (lv_at hl 3 rfl) ?_
          exact KJ40 v3 v2 H locs hP hS ls (lv_sub hl [1, 2, 4] rfl) hp
        · replace hp := fl_f hc hp
          refine lv_iload hx hb dX6_repeatAt_34 (lv_at hl 0 rfl) ?_
          refine lv_goto (tgt := 40) hx hb dX6_repeatAt_36 (by decide) ?_
          exact KJ40 v3 k0 H locs hP hS ls (lv_sub hl [1, 2, 4] rfl) hp
      have hp := hb4
      unfold P_M_repeatAt_L4 at hp
      refine lv_iload_n hx hb dX6_repeatAt_4 rfl (lv_at hl 3 rfl) ?_
      refine lv_aload_n hx hb dX6_repeatAt_5 rfl (lv_at hl 0 rfl) ?_
      refine lv_iconst (v := (0 : Int32)) hx hb dX6_repeatAt_6 (by decide) ?_
      obtain ⟨hi, hp⟩ := fl_ck_of hp
      refine va_iald hx hb hK.1 hP 0 0 rfl rfl hi dX6_repeatAt_7 ?_
      refine lv_icmp_ge (tgt := 47) hx hb dX6_repeatAt_8 (by decide) (fun hc => ?_) (fun hc => ?_)
      · replace hp := fl_t hc hp
        refine lv_iload_n hx hb dX6_repeatAt_47 rfl (lv_at hl 2 rfl) ?_
        obtain rfl := Option.some.inj hp
        obtain rfl := fl_cont_inr hy4
        exact hfin H locs _ ls hS dX6_repeatAt_48 rfl
      · replace hp := fl_f hc hp
        refine lv_iload_n hx hb dX6_repeatAt_11 rfl (lv_at hl 3 rfl) ?_
        refine lv_iload_n hx hb dX6_repeatAt_12 rfl (lv_at hl 1 rfl) ?_
        refine lv_icmp_ne (tgt := 20) hx hb dX6_repeatAt_13 (by decide) (fun hc => ?_) (fun hc => ?_)
        · replace hp := fl_f hc hp
          refine lv_aload_n hx hb dX6_repeatAt_20 rfl (lv_at hl 0 rfl) ?_
          refine lv_iload_n hx hb dX6_repeatAt_21 rfl (lv_at hl 1 rfl) ?_
          refine lv_iload_n hx hb dX6_repeatAt_22 rfl (lv_at hl 3 rfl) ?_
          obtain ⟨q1, hq1, hp⟩ := fl_bd_of hp
          refine fl_roS (As := [.ref f0, .int p1, .int z4.2]) (rest := []) C0 (c_M_alike l G f0 f p1 z4.2 hq1) (va_cwS 3 hts gX6_repeatAt_X6_alike rfl rfl rfl (by decide +kernel) ⟨Nat.le_of_ble_eq_true rfl, Nat.le_of_ble_eq_true rfl⟩) hK hP [0] rfl hS hA rfl hl.1 rfl (Nat.le_of_ble_eq_true rfl) dX6_repeatAt_23 ⟨Nat.zero_le _, Nat.zero_le _⟩ (fun H locs hP hS => ?_)
          exact KJ26 z4.1 z4.2 q1 H locs hP hS ls (lv_sub hl [0, 1, 2, 3] rfl) hp
        · replace hp := fl_t hc hp
          refine lv_iconst (v := (0 : Int32)) hx hb dX6_repeatAt_16 (by decide) ?_
          refine lv_goto (tgt := 26) hx hb dX6_repeatAt_17 (by decide) ?_
          exact KJ26 z4.1 z4.2 (0 : Int32) H locs hP hS ls (lv_sub hl [0, 1, 2, 3] rfl) hp
  have hp := hp0
  unfold P_M_repeatAt at hp
  refine lv_iconst (v := (0 : Int32)) hx hb dX6_repeatAt_0 (by decide) ?_
  refine lv_istore_n (lv' := [(2, .int (0 : Int32)), (0, .ref f0), (1, .int p1)]) hx hb dX6_repeatAt_1 rfl hl (by decide) rfl (fun ls hl => ?_)
  refine lv_iconst (v := (0 : Int32)) hx hb dX6_repeatAt_2 (by decide) ?_
  refine lv_istore_n (lv' := [(3, .int (0 : Int32)), (2, .int (0 : Int32)), (0, .ref f0), (1, .int p1)]) hx hb dX6_repeatAt_3 rfl hl (by decide) rfl (fun ls hl => ?_)
  obtain ⟨n0, hn⟩ := fl_loop_ex hp
  exact KL4 n0 ((0 : Int32), (0 : Int32)) H locs hP hS ls (lv_sub hl [2, 3, 1, 0] rfl) hn

noncomputable def P_M_lowestRepeat_L11 (nw : fl_A) (od : fl_A) (rk : fl_A) (v1 : Int32) (z11 : Int32) : Option (Int32 ⊕ (Int32 × fl_A × fl_A)) := fl_ck (0 : Int32) 126 (if (nw (0 : Int32).toNatClampNeg) ≤ z11 then some (.inr ((-1 : Int32), od, rk)) else if v1 ≤ 0 then some (.inr ((-1 : Int32), od, rk)) else fl_bd (P_M_repeatAt nw z11) (fun q1 => if q1 = v1 then some (.inr (z11, od, rk)) else some (.inl (z11 + (1 : Int32)))))
noncomputable def P_M_lowestRepeat (nw : fl_A) (od : fl_A) (rk : fl_A) : Option (Int32 × fl_A × fl_A) := fl_bd (P_M_longest od rk nw) (fun q1 => fl_loop (P_M_lowestRepeat_L11 nw q1.2.1 q1.2.2 q1.1) (0 : Int32))
set_option maxHeartbeats 4000000 in
set_option maxRecDepth 100000 in
theorem c_M_lowestRepeat (l : Launch) (G : fl_G) (mo a_sc a_nw a_tr a_di a_ke a_ik a_od a_rk a_be a_fr : Nat) (rf : Int32) (ss : Int32) (ac : Int32) (fs : Int32) (nw : fl_A) (od : fl_A) (rk : fl_A) {r : (Int32 × fl_A × fl_A)} (hp0 : P_M_lowestRepeat nw od rk = some r) : fl_mu l yX6_lowestRepeat wsX6_lowestRepeat 4 93 G [.ref mo] [(mo, .inr (6, [.int rf, .ref a_sc, .int ss, .ref a_nw, .ref a_tr, .ref a_di, .int ac, .ref a_ke, .ref a_ik, .ref a_od, .ref a_rk, .ref a_be, .ref a_fr, .int fs])), (a_nw, .inl (G.2.1, 126, .inl nw)), (a_od, .inl (G.2.1, 60, .inl od)), (a_rk, .inl (G.2.1, 60, .inl rk))] (some (.int r.1)) [(mo, .inr (6, [.int rf, .ref a_sc, .int ss, .ref a_nw, .ref a_tr, .ref a_di, .int ac, .ref a_ke, .ref a_ik, .ref a_od, .ref a_rk, .ref a_be, .ref a_fr, .int fs])), (a_nw, .inl (G.2.1, 126, .inl nw)), (a_od, .inl (G.2.1, 60, .inl r.2.1)), (a_rk, .inl (G.2.1, 60, .inl r.2.2))] := by
  refine fl_mui_in cX6_lowestRepeat 3 .int RX6 (by decide) rfl rfl (Nat.le_of_ble_eq_true rfl) ?_
  intro p e s m args below meth c ls A Q H locs C0 hK hP hD hS hA hl hfin
  obtain ⟨hx, hb, hml, hown, hts⟩ := id C0
  have iX6 : ∀ w ∈ u_ws RX6 TX6 14, w ∈ wsX6_lowestRepeat := fun _ h => List.mem_cons_of_mem _ (List.mem_append_right _ h)
  have hl : lv_has ls 3 [(0, .ref mo)] := hl
  have KL11 : ∀ (od : fl_A) (rk : fl_A) (v1 : Int32) (n0 : Nat) (z11 : Int32) (H : Heap) (locs : List Loc), va_P G.1 vwCl [(mo, .inr (6, [.int rf, .ref a_sc, .int ss, .ref a_nw, .ref a_tr, .ref a_di, .int ac, .ref a_ke, .ref a_ik, .ref a_od, .ref a_rk, .ref a_be, .ref a_fr, .int fs])), (a_nw, .inl (G.2.1, 126, .inl nw)), (a_od, .inl (G.2.1, 60, .inl od)), (a_rk, .inl (G.2.1, 60, .inl rk))] H → va_D A [(mo, .inr (6, [.int rf, .ref a_sc, .int ss, .ref a_nw, .ref a_tr, .ref a_di, .int ac, .ref a_ke, .ref a_ik, .ref a_od, .ref a_rk, .ref a_be, .ref a_fr, .int fs])), (a_nw, .inl (G.2.1, 126, .inl nw)), (a_od, .inl (G.2.1, 60, .inl od)), (a_rk, .inl (G.2.1, 60, .inl rk))] → va_S A s.heap H locs → ∀ (ls : Array Slot), lv_has ls 3 [(0, .ref mo), (1, .int v1), (2, .int z11)] → fl_loopN (P_M_lowestRepeat_L11 nw od rk v1) n0 z11 = some r → W p l e (fl_rm 4 93) s m args below meth c H locs 0 0 Q (F0 m 11 ls []) := by
    intro od rk v1 n0
    induction n0 with
    | zero => intro z11 H locs hP hD hS ls hl hn; exact (fl_loopN_0 hn).elim
    | succ n0 ih11 =>
      intro z11 H locs hP hD hS ls hl hn
      obtain ⟨y11, hb11, hy11⟩ := fl_loopN_step hn
      clear hn
      have hp := hb11
      unfold P_M_lowestRepeat_L11 at hp
      refine lv_iload_n hx hb dX6_lowestRepeat_11 rfl (lv_at hl 2 rfl) ?_
      refine lv_aload_n hx hb dX6_lowestRepeat_12 rfl (lv_at hl 0 rfl) ?_
      refine va_get (D := G.1) (ci := 6) (v := .ref a_nw) (C := RX6) (T := TX6) (N := 14) hx hb hts iX6 hown hK.1 hP 0 rfl rfl 3 (by decide) (hts (.fieldLink RX6 13 "SongChoirModel" "now" "[I") (List.mem_of_getElem? (i := 1) rfl)) (fun _ h9 => h9) rfl dX6_lowestRepeat_13 ?_
      refine lv_iconst (v := (0 : Int32)) hx hb dX6_lowestRepeat_16 (by decide) ?_
      obtain ⟨hi, hp⟩ := fl_ck_of hp
      refine va_iald hx hb hK.1 hP 1 0 rfl rfl hi dX6_lowestRepeat_17 ?_
      refine lv_icmp_ge (tgt := 45) hx hb dX6_lowestRepeat_18 (by decide) (fun hc => ?_) (fun hc => ?_)
      · replace hp := fl_t hc hp
        refine lv_iconst (v := (-1 : Int32)) hx hb dX6_lowestRepeat_45 (by decide) ?_
        obtain rfl := Option.some.inj hp
        obtain rfl := fl_cont_inr hy11
        exact hfin H locs _ ls hP hD hS dX6_lowestRepeat_46 rfl
      · replace hp := fl_f hc hp
        refine lv_iload_n hx hb dX6_lowestRepeat_21 rfl (lv_at hl 1 rfl) ?_
        refine lv_if_le (tgt := 45) hx hb dX6_lowestRepeat_22 (by decide) (fun hc => ?_) (fun hc => ?_)
        · replace hp := fl_t hc hp
          refine lv_iconst (v := (-1 : Int32)) hx hb dX6_lowestRepeat_45 (by decide) ?_
          obtain rfl := Option.some.inj hp
          obtain rfl := fl_cont_inr hy11
          exact hfin H locs _ ls hP hD hS dX6_lowestRepeat_46 rfl
        · replace hp := fl_f hc hp
          refine lv_aload_n hx hb dX6_lowestRepeat_25 rfl (lv_at hl 0 rfl) ?_
          refine va_get (D := G.1) (ci := 6) (v := .ref a_nw) (C := RX6) (T := TX6) (N := 14) hx hb hts iX6 hown hK.1 hP 0 rfl rfl 3 (by decide) (hts (.fieldLink RX6 13 "SongChoirModel" "now" "[I") (List.mem_of_getElem? (i := 1) rfl)) (fun _ h9 => h9) rfl dX6_lowestRepeat_26 ?_
          refine lv_iload_n hx hb dX6_lowestRepeat_29 rfl (lv_at hl 2 rfl) ?_
          obtain ⟨q1, hq1, hp⟩ := fl_bd_of hp
          refine fl_roS (As := [.ref a_nw, .int z11]) (rest := []) C0 (c_M_repeatAt l G a_nw nw z11 hq1) (va_cwS 2 hts gX6_lowestRepeat_X6_repeatAt rfl rfl rfl (by decide +kernel) ⟨Nat.le_of_ble_eq_true rfl, Nat.le_of_ble_eq_true rfl⟩) hK hP [1] rfl hS hA rfl hl.1 rfl (Nat.le_of_ble_eq_true rfl) dX6_lowestRepeat_30 ⟨Nat.zero_le _, Nat.zero_le _⟩ (fun H locs hP hS => ?_)
          refine lv_iload_n hx hb dX6_lowestRepeat_33 rfl (lv_at hl 1 rfl) ?_
          refine lv_icmp_ne (tgt := 39) hx hb dX6_lowestRepeat_34 (by decide) (fun hc => ?_) (fun hc => ?_)
          · replace hp := fl_f hc hp
            refine lv_iinc (v := (z11 + (1 : Int32))) (lv' := [(2, .int (z11 + (1 : Int32))), (0, .ref mo), (1, .int v1)]) hx hb dX6_lowestRepeat_39 hl (k := 2) rfl rfl (by decide) rfl (fun ls hl => ?_)
            refine lv_goto (tgt := 11) hx hb dX6_lowestRepeat_42 (by decide) ?_
            obtain rfl := Option.some.inj hp
            exact ih11 (z11 + (1 : Int32)) H locs hP hD hS ls (lv_sub hl [1, 2, 0] rfl) (fl_cont_inl hy11)
          · replace hp := fl_t hc hp
            refine lv_iload_n hx hb dX6_lowestRepeat_37 rfl (lv_at hl 2 rfl) ?_
            obtain rfl := Option.some.inj hp
            obtain rfl := fl_cont_inr hy11
            exact hfin H locs _ ls hP hD hS dX6_lowestRepeat_38 rfl
  have hp := hp0
  unfold P_M_lowestRepeat at hp
  refine lv_aload_n hx hb dX6_lowestRepeat_0 rfl (lv_at hl 0 rfl) ?_
  refine lv_aload_n hx hb dX6_lowestRepeat_1 rfl (lv_at hl 0 rfl) ?_
  refine va_get (D := G.1) (ci := 6) (v := .ref a_nw) (C := RX6) (T := TX6) (N := 14) hx hb hts iX6 hown hK.1 hP 0 rfl rfl 3 (by decide) (hts (.fieldLink RX6 13 "SongChoirModel" "now" "[I") (List.mem_of_getElem? (i := 1) rfl)) (fun _ h9 => h9) rfl dX6_lowestRepeat_2 ?_
  obtain ⟨q1, hq1, hp⟩ := fl_bd_of hp
  refine fl_muV (As := [.ref a_nw]) (rest := []) [(mo, .inr (6, [.int rf, .ref a_sc, .int ss, .ref a_nw, .ref a_tr, .ref a_di, .int ac, .ref a_ke, .ref a_ik, .ref a_od, .ref a_rk, .ref a_be, .ref a_fr, .int fs])), (a_nw, .inl (G.2.1, 126, .inl nw)), (a_od, .inl (G.2.1, 60, .inl q1.2.1)), (a_rk, .inl (G.2.1, 60, .inl q1.2.2))] C0 (c_M_longest l G mo a_sc a_nw a_tr a_di a_ke a_ik a_od a_rk a_be a_fr a_nw rf ss ac fs od rk nw hq1) (cwV 1 hts gX6_lowestRepeat_X6_longest rfl rfl rfl (by decide +kernel) ⟨Nat.le_of_ble_eq_true rfl, Nat.le_of_ble_eq_true rfl⟩) hK hP hD [0, 2, 3, 1] [] [0, 3, 1, 2] rfl rfl (by decide) (by decide) rfl 0 6 rfl rfl rfl hS hA rfl hl.1 rfl (Nat.le_of_ble_eq_true rfl) dX6_lowestRepeat_5 ⟨Nat.zero_le _, Nat.zero_le _⟩ (fun H locs hP hD hS => ?_)
  refine lv_istore_n (lv' := [(1, .int q1.1), (0, .ref mo)]) hx hb dX6_lowestRepeat_8 rfl hl (by decide) rfl (fun ls hl => ?_)
  refine lv_iconst (v := (0 : Int32)) hx hb dX6_lowestRepeat_9 (by decide) ?_
  refine lv_istore_n (lv' := [(2, .int (0 : Int32)), (1, .int q1.1), (0, .ref mo)]) hx hb dX6_lowestRepeat_10 rfl hl (by decide) rfl (fun ls hl => ?_)
  obtain ⟨n0, hn⟩ := fl_loop_ex hp
  exact KL11 q1.2.1 q1.2.2 q1.1 n0 (0 : Int32) H locs hP hD hS ls (lv_sub hl [2, 1, 0] rfl) hn

noncomputable def P_M_times_J32 (f : fl_A) (p1 : Int32) (p2 : Int32) (v4 : Int32) (k0 : Int32) (k1 : Int32) : Option ((Int32 × Int32) ⊕ Int32) := some (.inl ((k1 + k0), (v4 + (1 : Int32))))
noncomputable def P_M_times_L5 (f : fl_A) (p1 : Int32) (p2 : Int32) (z5 : (Int32 × Int32)) : Option ((Int32 × Int32) ⊕ Int32) := fl_ck (0 : Int32) 126 (if (f (0 : Int32).toNatClampNeg) < (z5.2 + p2) then some (.inr z5.1) else fl_bd (P_M_alike f p1 z5.2) (fun q1 => if q1 < p2 then P_M_times_J32 f p1 p2 z5.2 (0 : Int32) z5.1 else P_M_times_J32 f p1 p2 z5.2 (1 : Int32) z5.1))
noncomputable def P_M_times (f : fl_A) (p1 : Int32) (p2 : Int32) : Option Int32 := fl_loop (P_M_times_L5 f p1 p2) ((0 : Int32), (0 : Int32))
set_option maxHeartbeats 4000000 in
set_option maxRecDepth 100000 in
theorem c_M_times (l : Launch) (G : fl_G) (f0 : Nat) (f : fl_A) (p1 : Int32) (p2 : Int32) {r : Int32} (hp0 : P_M_times f p1 p2 = some r) : fl_ro l yX6_times wsX6_times 1 23 G [.ref f0, .int p1, .int p2] [(f0, .inl (G.2.1, 126, .inl f))] (.int r) := by
  refine fl_ro_in cX6_times 5 .int RX6 (by decide) rfl rfl (Nat.le_of_ble_eq_true rfl) ?_
  intro p e s m args below meth c ls Q H locs C0 hK hP hS hl hfin
  have hA : ∀ q : Nat, s.heap.size ≤ q → va_A [] s.heap.size q := fl_hA _ _
  obtain ⟨hx, hb, hml, hown, hts⟩ := id C0
  have hl : lv_has ls 5 [(0, .ref f0), (1, .int p1), (2, .int p2)] := hl
  have KL5 : ∀ (n0 : Nat) (z5 : (Int32 × Int32)) (H : Heap) (locs : List Loc), va_P G.1 vwCl [(f0, .inl (G.2.1, 126, .inl f))] H → va_S (va_A [] s.heap.size) s.heap H locs → ∀ (ls : Array Slot), lv_has ls 5 [(0, .ref f0), (1, .int p1), (2, .int p2), (3, .int z5.1), (4, .int z5.2)] → fl_loopN (P_M_times_L5 f p1 p2) n0 z5 = some r → W p l e (fl_rm 1 23) s m args below meth c H locs 0 0 Q (F0 m 5 ls []) := by
    intro n0
    induction n0 with
    | zero => intro z5 H locs hP hS ls hl hn; exact (fl_loopN_0 hn).elim
    | succ n0 ih5 =>
      intro z5 H locs hP hS ls hl hn
      obtain ⟨y5, hb5, hy5⟩ := fl_loopN_step hn
      clear hn
      have KJ32 : ∀ (v4 : Int32) (k0 : Int32) (k1 : Int32) (H : Heap) (locs : List Loc), va_P G.1 vwCl [(f0, .inl (G.2.1, 126, .inl f))] H → va_S (va_A [] s.heap.size) s.heap H locs → ∀ (ls : Array Slot), lv_has ls 5 [(0, .ref f0), (1, .int p1), (2, .int p2), (4, .int v4)] → P_M_times_J32 f p1 p2 v4 k0 k1 = some y5 → W p l e (fl_rm 1 23) s m args below meth c H locs 0 0 Q (F0 m 32 ls [.int k0, .int k1]) := by
        intro v4 k0 k1 H locs hP hS ls hl hp
        unfold P_M_times_J32 at hp
        refine lv_iadd hx hb dX6_times_32 ?_
        refine lv_istore_n (lv' := [(3, .int (k1 + k0)), (0, .ref f0), (1, .int p1), (2, .int p2), (4, .int v4)]) hx hb dX6_times_33 rfl hl (by decide) rfl (fun ls hl => ?_)
        refine lv_iinc (v := (v4 + (1 : Int32))) (lv' := [(4, .int (v4 + (1 : Int32))), (3, .int (k1 + k0)), (0, .ref f0), (1, .int p1), (2, .int p2)]) hx hb dX6_times_34 hl (k := 4) rfl rfl (by decide) rfl (fun ls hl => ?_)
        refine lv_goto (tgt := 5) hx hb dX6_times_37 (by decide) ?_
        obtain rfl := Option.some.inj hp
        exact ih5 ((k1 + k0), (v4 + (1 : Int32))) H locs hP hS ls (lv_sub hl [2, 3, 4, 1, 0] rfl) (fl_cont_inl hy5)
      have hp := hb5
      unfold P_M_times_L5 at hp
      refine lv_iload hx hb dX6_times_5 (lv_at hl 4 rfl) ?_
      refine lv_iload_n hx hb dX6_times_7 rfl (lv_at hl 2 rfl) ?_
      refine lv_iadd hx hb dX6_times_8 ?_
      refine lv_aload_n hx hb dX6_times_9 rfl (lv_at hl 0 rfl) ?_
      refine lv_iconst (v := (0 : Int32)) hx hb dX6_times_10 (by decide) ?_
      obtain ⟨hi, hp⟩ := fl_ck_of hp
      refine va_iald hx hb hK.1 hP 0 0 rfl rfl hi dX6_times_11 ?_
      refine lv_icmp_gt (tgt := 40) hx hb dX6_times_12 (by decide) (fun hc => ?_) (fun hc => ?_)
      · replace hp := fl_t hc hp
        refine lv_iload_n hx hb dX6_times_40 rfl (lv_at hl 3 rfl) ?_
        obtain rfl := Option.some.inj hp
        obtain rfl := fl_cont_inr hy5
        exact hfin H locs _ ls hS dX6_times_41 rfl
      · replace hp := fl_f hc hp
        refine lv_iload_n hx hb dX6_times_15 rfl (lv_at hl 3 rfl) ?_
        refine lv_aload_n hx hb dX6_times_16 rfl (lv_at hl 0 rfl) ?_
        refine lv_iload_n hx hb dX6_times_17 rfl (lv_at hl 1 rfl) ?_
        refine lv_iload hx hb dX6_times_18 (lv_at hl 4 rfl) ?_
        obtain ⟨q1, hq1, hp⟩ := fl_bd_of hp
        refine fl_roS (As := [.ref f0, .int p1, .int z5.2]) (rest := [.int z5.1]) C0 (c_M_alike l G f0 f p1 z5.2 hq1) (va_cwS 3 hts gX6_times_X6_alike rfl rfl rfl (by decide +kernel) ⟨Nat.le_of_ble_eq_true rfl, Nat.le_of_ble_eq_true rfl⟩) hK hP [0] rfl hS hA rfl hl.1 rfl (Nat.le_of_ble_eq_true rfl) dX6_times_20 ⟨Nat.zero_le _, Nat.zero_le _⟩ (fun H locs hP hS => ?_)
        refine lv_iload_n hx hb dX6_times_23 rfl (lv_at hl 2 rfl) ?_
        refine lv_icmp_lt (tgt := 31) hx hb dX6_times_24 (by decide) (fun hc => ?_) (fun hc => ?_)
        · replace hp := fl_t hc hp
          refine lv_iconst (v := (0 : Int32)) hx hb dX6_times_31 (by decide) ?_
          exact KJ32 z5.2 (0 : Int32) z5.1 H locs hP hS ls (lv_sub hl [0, 1, 2, 4] rfl) hp
        · replace hp := fl_f hc hp
          refine lv_iconst (v := (1 : Int32)) hx hb dX6_times_27 (by decide) ?_
          refine lv_goto (tgt := 32) hx hb dX6_times_28 (by decide) ?_
          exact KJ32 z5.2 (1 : Int32) z5.1 H locs hP hS ls (lv_sub hl [0, 1, 2, 4] rfl) hp
  have hp := hp0
  unfold P_M_times at hp
  refine lv_iconst (v := (0 : Int32)) hx hb dX6_times_0 (by decide) ?_
  refine lv_istore_n (lv' := [(3, .int (0 : Int32)), (0, .ref f0), (1, .int p1), (2, .int p2)]) hx hb dX6_times_1 rfl hl (by decide) rfl (fun ls hl => ?_)
  refine lv_iconst (v := (0 : Int32)) hx hb dX6_times_2 (by decide) ?_
  refine lv_istore (lv' := [(4, .int (0 : Int32)), (3, .int (0 : Int32)), (0, .ref f0), (1, .int p1), (2, .int p2)]) hx hb dX6_times_3 hl (by decide) rfl (fun ls hl => ?_)
  obtain ⟨n0, hn⟩ := fl_loop_ex hp
  exact KL5 n0 ((0 : Int32), (0 : Int32)) H locs hP hS ls (lv_sub hl [2, 3, 4, 1, 0] rfl) hn

noncomputable def P_M_mostTimes_J33 (f : fl_A) (p1 : Int32) (v3 : Int32) (k0 : Int32) : Option ((Int32 × Int32) ⊕ Int32) := some (.inl (k0, (v3 + (1 : Int32))))
noncomputable def P_M_mostTimes_L4 (f : fl_A) (p1 : Int32) (z4 : (Int32 × Int32)) : Option ((Int32 × Int32) ⊕ Int32) := fl_ck (0 : Int32) 126 (if (f (0 : Int32).toNatClampNeg) < (z4.2 + p1) then some (.inr z4.1) else fl_bd (P_M_times f z4.2 p1) (fun q1 => if q1 ≤ z4.1 then P_M_mostTimes_J33 f p1 z4.2 z4.1 else P_M_mostTimes_J33 f p1 z4.2 q1))
noncomputable def P_M_mostTimes (f : fl_A) (p1 : Int32) : Option Int32 := fl_loop (P_M_mostTimes_L4 f p1) ((0 : Int32), (0 : Int32))
set_option maxHeartbeats 4000000 in
set_option maxRecDepth 100000 in
theorem c_M_mostTimes (l : Launch) (G : fl_G) (f0 : Nat) (f : fl_A) (p1 : Int32) {r : Int32} (hp0 : P_M_mostTimes f p1 = some r) : fl_ro l yX6_mostTimes wsX6_mostTimes 2 47 G [.ref f0, .int p1] [(f0, .inl (G.2.1, 126, .inl f))] (.int r) := by
  refine fl_ro_in cX6_mostTimes 5 .int RX6 (by decide) rfl rfl (Nat.le_of_ble_eq_true rfl) ?_
  intro p e s m args below meth c ls Q H locs C0 hK hP hS hl hfin
  have hA : ∀ q : Nat, s.heap.size ≤ q → va_A [] s.heap.size q := fl_hA _ _
  obtain ⟨hx, hb, hml, hown, hts⟩ := id C0
  have hl : lv_has ls 5 [(0, .ref f0), (1, .int p1)] := hl
  have KL4 : ∀ (n0 : Nat) (z4 : (Int32 × Int32)) (H : Heap) (locs : List Loc), va_P G.1 vwCl [(f0, .inl (G.2.1, 126, .inl f))] H → va_S (va_A [] s.heap.size) s.heap H locs → ∀ (ls : Array Slot), lv_has ls 5 [(0, .ref f0), (1, .int p1), (2, .int z4.1), (3, .int z4.2)] → fl_loopN (P_M_mostTimes_L4 f p1) n0 z4 = some r → W p l e (fl_rm 2 47) s m args below meth c H locs 0 0 Q (F0 m 4 ls []) := by
    intro n0
    induction n0 with
    | zero => intro z4 H locs hP hS ls hl hn; exact (fl_loopN_0 hn).elim
    | succ n0 ih4 =>
      intro z4 H locs hP hS ls hl hn
      obtain ⟨y4, hb4, hy4⟩ := fl_loopN_step hn
      clear hn
      have KJ33 : ∀ (v3 : Int32) (k0 : Int32) (H : Heap) (locs : List Loc), va_P G.1 vwCl [(f0, .inl (G.2.1, 126, .inl f))] H → va_S (va_A [] s.heap.size) s.heap H locs → ∀ (ls : Array Slot), lv_has ls 5 [(0, .ref f0), (1, .int p1), (3, .int v3)] → P_M_mostTimes_J33 f p1 v3 k0 = some y4 → W p l e (fl_rm 2 47) s m args below meth c H locs 0 0 Q (F0 m 33 ls [.int k0]) := by
        intro v3 k0 H locs hP hS ls hl hp
        unfold P_M_mostTimes_J33 at hp
        refine lv_istore_n (lv' := [(2, .int k0), (0, .ref f0), (1, .int p1), (3, .int v3)]) hx hb dX6_mostTimes_33 rfl hl (by decide) rfl (fun ls hl => ?_)
        refine lv_iinc (v := (v3 + (1 : Int32))) (lv' := [(3, .int (v3 + (1 : Int32))), (2, .int k0), (0, .ref f0), (1, .int p1)]) hx hb dX6_mostTimes_34 hl (k := 3) rfl rfl (by decide) rfl (fun ls hl => ?_)
        refine lv_goto (tgt := 4) hx hb dX6_mostTimes_37 (by decide) ?_
        obtain rfl := Option.some.inj hp
        exact ih4 (k0, (v3 + (1 : Int32))) H locs hP hS ls (lv_sub hl [2, 3, 1, 0] rfl) (fl_cont_inl hy4)
      have hp := hb4
      unfold P_M_mostTimes_L4 at hp
      refine lv_iload_n hx hb dX6_mostTimes_4 rfl (lv_at hl 3 rfl) ?_
      refine lv_iload_n hx hb dX6_mostTimes_5 rfl (lv_at hl 1 rfl) ?_
      refine lv_iadd hx hb dX6_mostTimes_6 ?_
      refine lv_aload_n hx hb dX6_mostTimes_7 rfl (lv_at hl 0 rfl) ?_
      refine lv_iconst (v := (0 : Int32)) hx hb dX6_mostTimes_8 (by decide) ?_
      obtain ⟨hi, hp⟩ := fl_ck_of hp
      refine va_iald hx hb hK.1 hP 0 0 rfl rfl hi dX6_mostTimes_9 ?_
      refine lv_icmp_gt (tgt := 40) hx hb dX6_mostTimes_10 (by decide) (fun hc => ?_) (fun hc => ?_)
      · replace hp := fl_t hc hp
        refine lv_iload_n hx hb dX6_mostTimes_40 rfl (lv_at hl 2 rfl) ?_
        obtain rfl := Option.some.inj hp
        obtain rfl := fl_cont_inr hy4
        exact hfin H locs _ ls hS dX6_mostTimes_41 rfl
      · replace hp := fl_f hc hp
        refine lv_aload_n hx hb dX6_mostTimes_13 rfl (lv_at hl 0 rfl) ?_
        refine lv_iload_n hx hb dX6_mostTimes_14 rfl (lv_at hl 3 rfl) ?_
        refine lv_iload_n hx hb dX6_mostTimes_15 rfl (lv_at hl 1 rfl) ?_
        obtain ⟨q1, hq1, hp⟩ := fl_bd_of hp
        refine fl_roS (As := [.ref f0, .int z4.2, .int p1]) (rest := []) C0 (c_M_times l G f0 f z4.2 p1 hq1) (va_cwS 3 hts gX6_mostTimes_X6_times rfl rfl rfl (by decide +kernel) ⟨Nat.le_of_ble_eq_true rfl, Nat.le_of_ble_eq_true rfl⟩) hK hP [0] rfl hS hA rfl hl.1 rfl (Nat.le_of_ble_eq_true rfl) dX6_mostTimes_16 ⟨Nat.zero_le _, Nat.zero_le _⟩ (fun H locs hP hS => ?_)
        refine lv_istore (lv' := [(4, .int q1), (0, .ref f0), (1, .int p1), (2, .int z4.1), (3, .int z4.2)]) hx hb dX6_mostTimes_19 hl (by decide) rfl (fun ls hl => ?_)
        refine lv_iload hx hb dX6_mostTimes_21 (lv_at hl 0 rfl) ?_
        refine lv_iload_n hx hb dX6_mostTimes_23 rfl (lv_at hl 3 rfl) ?_
        refine lv_icmp_le (tgt := 32) hx hb dX6_mostTimes_24 (by decide) (fun hc => ?_) (fun hc => ?_)
        · replace hp := fl_t hc hp
          refine lv_iload_n hx hb dX6_mostTimes_32 rfl (lv_at hl 3 rfl) ?_
          exact KJ33 z4.2 z4.1 H locs hP hS ls (lv_sub hl [1, 2, 4] rfl) hp
        · replace hp := fl_f hc hp
          refine lv_iload hx hb dX6_mostTimes_27 (lv_at hl 0 rfl) ?_
          refine lv_goto (tgt := 33) hx hb dX6_mostTimes_29 (by decide) ?_
          exact KJ33 z4.2 q1 H locs hP hS ls (lv_sub hl [1, 2, 4] rfl) hp
  have hp := hp0
  unfold P_M_mostTimes at hp
  refine lv_iconst (v := (0 : Int32)) hx hb dX6_mostTimes_0 (by decide) ?_
  refine lv_istore_n (lv' := [(2, .int (0 : Int32)), (0, .ref f0), (1, .int p1)]) hx hb dX6_mostTimes_1 rfl hl (by decide) rfl (fun ls hl => ?_)
  refine lv_iconst (v := (0 : Int32)) hx hb dX6_mostTimes_2 (by decide) ?_
  refine lv_istore_n (lv' := [(3, .int (0 : Int32)), (2, .int (0 : Int32)), (0, .ref f0), (1, .int p1)]) hx hb dX6_mostTimes_3 rfl hl (by decide) rfl (fun ls hl => ?_)
  obtain ⟨n0, hn⟩ := fl_loop_ex hp
  exact KL4 n0 ((0 : Int32), (0 : Int32)) H locs hP hS ls (lv_sub hl [2, 3, 1, 0] rfl) hn
