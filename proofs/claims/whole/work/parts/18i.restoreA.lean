noncomputable def P_SC_restoreA (p0 : Int32) : Option (Nat ⊕ Int32) := if p0 < 0 then some (.inl 3) else if p0 < (nI 2) then fl_ck p0 2 (some (.inl 2)) else some (.inl 3)
set_option maxHeartbeats 400000 in
set_option maxRecDepth 100000 in
theorem c_SC_restoreA (l : Launch) (hfl : l.stackTraces = false) (G : fl_G) (sa : Nat → Nat) (sc tx0 pnh pns0 pns1 pns2 pno0 pno1 pno2 pno3 pno4 pno5 pnk pnb tl0 fh0 hi sl h1 : Nat) (hf : Nat → Option Nat) (pn : fl_Ch) (ho : Int32) (hs : Int32) (p0 : Int32) (hq0 : hf p0.toNatClampNeg = none) {r : (Nat ⊕ Int32)} (hp0 : P_SC_restoreA p0 = some r) : fl_xm l yX5_restore wsX5_restore 6 90 1 6 G sa [.ref sc, .int p0] [(sc, .inr (5, [.ref tx0, .ref pnh, .ref tl0, .ref fh0, .ref hi, .ref sl])), (pnh, .inr (0, [.ref pns0, .ref pno0, .ref pnk, .ref pnb])), (pns0, .inr (4, [.ref pns1, .ref pns2, .int pn.1.2.2.1, .int pn.1.2.2.2.1, .int pn.1.2.2.2.2.1, .int pn.1.2.2.2.2.2.1, .int pn.1.2.2.2.2.2.2.1, .int pn.1.2.2.2.2.2.2.2])), (pns1, .inl (G.2.1, 48, .inl pn.1.1)), (pns2, .inl (G.2.1, 48, .inl pn.1.2.1)), (pno0, .inr (3, [.int pn.2.1.1, .ref pno1, .ref pno2, .ref pno3, .ref pno4, .ref pno5])), (pno1, .inl (G.2.1, 48, .inl pn.2.1.2.1)), (pno2, .inl (G.2.1, 48, .inl pn.2.1.2.2.1)), (pno3, .inl (G.2.1, 48, .inl pn.2.1.2.2.2.1)), (pno4, .inl (G.2.1, 48, .inl pn.2.1.2.2.2.2.1)), (pno5, .inl (G.2.1, 49, .inl pn.2.1.2.2.2.2.2)), (pnk, .inl (G.2.1, 48, .inl pn.2.2.1)), (pnb, .inl (G.2.1, 48, .inl pn.2.2.2)), (hi, .inr (1, [.ref h1, .int ho, .int hs])), (sl, .inl (G.2.2.2.2, 2, .inr (.inr (.inr (.inr hf)))))] (fl_ex r) (Sum.elim (fun _ => 0) (fun z => z) r) (fun w => Sum.elim (fun _ => w = [(sc, .inr (5, [.ref tx0, .ref pnh, .ref tl0, .ref fh0, .ref hi, .ref sl])), (pnh, .inr (0, [.ref pns0, .ref pno0, .ref pnk, .ref pnb])), (pns0, .inr (4, [.ref pns1, .ref pns2, .int pn.1.2.2.1, .int pn.1.2.2.2.1, .int pn.1.2.2.2.2.1, .int pn.1.2.2.2.2.2.1, .int pn.1.2.2.2.2.2.2.1, .int pn.1.2.2.2.2.2.2.2])), (pns1, .inl (G.2.1, 48, .inl pn.1.1)), (pns2, .inl (G.2.1, 48, .inl pn.1.2.1)), (pno0, .inr (3, [.int pn.2.1.1, .ref pno1, .ref pno2, .ref pno3, .ref pno4, .ref pno5])), (pno1, .inl (G.2.1, 48, .inl pn.2.1.2.1)), (pno2, .inl (G.2.1, 48, .inl pn.2.1.2.2.1)), (pno3, .inl (G.2.1, 48, .inl pn.2.1.2.2.2.1)), (pno4, .inl (G.2.1, 48, .inl pn.2.1.2.2.2.2.1)), (pno5, .inl (G.2.1, 49, .inl pn.2.1.2.2.2.2.2)), (pnk, .inl (G.2.1, 48, .inl pn.2.2.1)), (pnb, .inl (G.2.1, 48, .inl pn.2.2.2)), (hi, .inr (1, [.ref h1, .int ho, .int hs])), (sl, .inl (G.2.2.2.2, 2, .inr (.inr (.inr (.inr hf)))))]) (fun z => w = [(sc, .inr (5, [.ref tx0, .ref pnh, .ref tl0, .ref fh0, .ref hi, .ref sl])), (pnh, .inr (0, [.ref pns0, .ref pno0, .ref pnk, .ref pnb])), (pns0, .inr (4, [.ref pns1, .ref pns2, .int pn.1.2.2.1, .int pn.1.2.2.2.1, .int pn.1.2.2.2.2.1, .int pn.1.2.2.2.2.2.1, .int pn.1.2.2.2.2.2.2.1, .int pn.1.2.2.2.2.2.2.2])), (pns1, .inl (G.2.1, 48, .inl pn.1.1)), (pns2, .inl (G.2.1, 48, .inl pn.1.2.1)), (pno0, .inr (3, [.int pn.2.1.1, .ref pno1, .ref pno2, .ref pno3, .ref pno4, .ref pno5])), (pno1, .inl (G.2.1, 48, .inl pn.2.1.2.1)), (pno2, .inl (G.2.1, 48, .inl pn.2.1.2.2.1)), (pno3, .inl (G.2.1, 48, .inl pn.2.1.2.2.2.1)), (pno4, .inl (G.2.1, 48, .inl pn.2.1.2.2.2.2.1)), (pno5, .inl (G.2.1, 49, .inl pn.2.1.2.2.2.2.2)), (pnk, .inl (G.2.1, 48, .inl pn.2.2.1)), (pnb, .inl (G.2.1, 48, .inl pn.2.2.2)), (hi, .inr (1, [.ref h1, .int ho, .int hs])), (sl, .inl (G.2.2.2.2, 2, .inr (.inr (.inr (.inr hf)))))]) r) := by
  refine fl_xm_in hfl cX5_restore 2 .int (by decide) rfl rfl (Nat.le_of_ble_eq_true rfl) ?_
  intro p e s m args below meth c ls A Q H locs C0 hK hP hD hS hA hl hfin hthr
  obtain ⟨hx, hb, hml, hown, hts⟩ := id C0
  have iX5 : ∀ w ∈ u_ws RX5 TX5 6, w ∈ wsX5_restore := fun _ h => List.mem_cons_of_mem _ (List.mem_append_left _ (List.mem_append_left _ (List.mem_append_left _ (List.mem_append_left _ (List.mem_append_left _ (List.mem_append_left _ (List.mem_append_right _ h)))))))
  have hl : lv_has ls 2 [(0, .ref sc), (1, .int p0)] := hl
  have hp := hp0
  unfold P_SC_restoreA at hp
  refine lv_iload_n hx hb dX5_restore_0 rfl (lv_at hl 1 rfl) ?_
  refine lv_if_lt (tgt := 13) hx hb dX5_restore_1 (by decide) (fun hc => ?_) (fun hc => ?_)
  · replace hp := fl_t hc hp
    obtain rfl := Option.some.inj hp
    exact hthr 3 288 20 "no such save slot" H locs 13 ls [] (by decide) rfl hP hS hl.1 rfl (List.mem_of_getElem? (i := 1) rfl) (List.mem_of_getElem? (i := 2) rfl) (fun _ h => List.mem_cons_of_mem _ (List.mem_append_left _ (List.mem_append_right _ h))) dX5_restore_13 dX5_restore_16 (Or.inr ⟨dX5_restore_17, dX5_restore_20, dX5_restore_23⟩) (by decide) (Nat.le_of_ble_eq_true rfl) (by decide) (by decide)
  · replace hp := fl_f hc hp
    refine lv_iload_n hx hb dX5_restore_4 rfl (lv_at hl 1 rfl) ?_
    refine lv_aload_n hx hb dX5_restore_5 rfl (lv_at hl 0 rfl) ?_
    refine va_get (D := G.1) (ci := 5) (v := .ref sl) (C := RX5) (T := TX5) (N := 6) hx hb hts iX5 hown hK.1 hP 0 rfl rfl 5 (by decide) (hts (.fieldLink RX5 40 "SongChoir" "slots" "[LSongChoir$Song;") (List.mem_of_getElem? (i := 5) rfl)) (fun _ h9 => h9) rfl dX5_restore_6 ?_
    refine va_alen (v := (nI 2)) hx hb hK.1 hP 14 3 rfl rfl rfl dX5_restore_9 ?_
    refine lv_icmp_lt (tgt := 24) hx hb dX5_restore_10 (by decide) (fun hc => ?_) (fun hc => ?_)
    · replace hp := fl_t hc hp
      refine lv_aload_n hx hb dX5_restore_24 rfl (lv_at hl 0 rfl) ?_
      refine va_get (D := G.1) (ci := 5) (v := .ref sl) (C := RX5) (T := TX5) (N := 6) hx hb hts iX5 hown hK.1 hP 0 rfl rfl 5 (by decide) (hts (.fieldLink RX5 40 "SongChoir" "slots" "[LSongChoir$Song;") (List.mem_of_getElem? (i := 5) rfl)) (fun _ h9 => h9) rfl dX5_restore_25 ?_
      refine lv_iload_n hx hb dX5_restore_28 rfl (lv_at hl 1 rfl) ?_
      obtain ⟨hck, hp⟩ := fl_ck_of hp
      refine va_aldq hx hb hK.1 hP 14 3 rfl rfl hck dX5_restore_29 ?_
      rw [show va_rf (hf p0.toNatClampNeg) = Value.null by rw [hq0]; rfl]
      refine lv_ifnonnullN hx hb dX5_restore_30 ?_
      obtain rfl := Option.some.inj hp
      exact hthr 2 294 21 "nothing has been saved in the slot" H locs 33 ls [] (by decide) rfl hP hS hl.1 rfl (List.mem_of_getElem? (i := 3) rfl) (List.mem_of_getElem? (i := 4) rfl) (fun _ h => List.mem_cons_of_mem _ (List.mem_append_right _ h)) dX5_restore_33 dX5_restore_36 (Or.inr ⟨dX5_restore_37, dX5_restore_40, dX5_restore_43⟩) (by decide) (Nat.le_of_ble_eq_true rfl) (by decide) (by decide)
    · replace hp := fl_f hc hp
      obtain rfl := Option.some.inj hp
      exact hthr 3 288 20 "no such save slot" H locs 13 ls [] (by decide) rfl hP hS hl.1 rfl (List.mem_of_getElem? (i := 1) rfl) (List.mem_of_getElem? (i := 2) rfl) (fun _ h => List.mem_cons_of_mem _ (List.mem_append_left _ (List.mem_append_right _ h))) dX5_restore_13 dX5_restore_16 (Or.inr ⟨dX5_restore_17, dX5_restore_20, dX5_restore_23⟩) (by decide) (Nat.le_of_ble_eq_true rfl) (by decide) (by decide)

