/-! THE LAW'S LOOP, cases 24 -/
set_option maxHeartbeats 4000000 in
theorem ls_c24 {p : Program} {l : Launch} {e : Env} {s : State} {m : MethodId} {args : Array Value} {below : List Frame} {meth : Method} {c : Code} {A : Nat → Prop} {Q : State → Prop} {b L : Nat} {xs : Nat → Int32} (hfl : l.stackTraces = false) {G : fl_G} {sa : Nat → Nat} (C0 : CallFix p m c cL_law 7 s args wsL_law RL) (hX : va_X b L xs s s.heap) (hbl : b < s.heap.size) (hbA : ¬ A b) (hA : ∀ q : Nat, s.heap.size ≤ q → A q) (hK : fl_K G s) (hE : fl_E sa s) (hZ : fl_Z A s s.heap) {H : Heap} {locs : List Loc} (hS : va_S A s.heap H locs) (ad : Nat → Nat) (hI : ls_I G A ad H) {iv p1 p2 p3 : Int32} (hi1 : vp_in (iv + (1 : Int32)) L) (hp1 : xs (iv + (1 : Int32)).toNatClampNeg = p1) (hi2 : vp_in (iv + (2 : Int32)) L) (hp2 : xs (iv + (2 : Int32)).toNatClampNeg = p2) (hi3 : vp_in (iv + (3 : Int32)) L) (hp3 : xs (iv + (3 : Int32)).toNatClampNeg = p3) {cells slots : Nat} (hcc : cells + 3 ≤ room_1.cells) (hss : slots + 104 ≤ room_1.slots) {ls : Array Slot} (hl : lv_has ls 7 [(0, .ref b), (1, .ref (ad 0)), (2, .ref (ad 32)), (3, .ref (ad 43)), (4, .int iv)]) (kk : ∀ (H : Heap) (locs : List Loc) (ls : Array Slot), ls_I G A ad H → va_S A s.heap H locs → lv_has ls 7 [(0, .ref b), (1, .ref (ad 0)), (2, .ref (ad 32)), (3, .ref (ad 43)), (4, .int iv)] → W p l e room_1 s m args below meth c H locs (cells + 3) (slots + 104) Q (F0 m 1441 ls [])) : W p l e room_1 s m args below meth c H locs cells slots Q (F0 m 1385 ls []) := by
  obtain ⟨hf, tx, pn, tl, fh, ho, hs, mrf, msc, mss, mnw, mtr, mdi, mac, mke, mik, mod, mrk, mbe, mfr, mfs, uo, as, hv, sl, hP, hD, hlen, hF, hJ⟩ := hI
  obtain ⟨⟨TL, hT⟩, hPN, hH, hSL⟩ := id hJ
  obtain ⟨N, V, S, cc0, len0, hR, hO, hC⟩ := id hPN
  unfold ls_E at hP hD
  have hfj := hF.1 p1.toNatClampNeg
  rcases pz_restore (pn := pn) (rf := mrf) (nw := mnw) (p := p1) hSL hH with ⟨h3, h2⟩ | ⟨j, hj, hpj, h9⟩
  · cases hsj : sl p1.toNatClampNeg with
    | none =>
      rw [hsj] at hfj
      exact law_24Ax1 hfl C0 hX hbl hbA hA hK hE hZ hS (ad 0) (ad 1) (ad 2) (ad 3) (ad 4) (ad 5) (ad 6) (ad 7) (ad 8) (ad 9) (ad 10) (ad 11) (ad 12) (ad 13) (ad 14) (ad 15) (ad 16) (ad 17) (ad 18) (ad 19) (ad 20) (ad 21) (ad 22) (ad 23) (ad 24) (ad 25) (ad 26) (ad 27) (ad 28) (ad 29) (ad 30) (ad 31) (ad 32) (ad 33) (ad 34) (ad 35) (ad 36) (ad 37) (ad 38) (ad 39) (ad 40) (ad 41) (ad 42) (ad 43) (fl_rg as) hf tx pn tl fh ho hs mrf msc mss mnw mtr mdi mac mke mik mod mrk mbe mfr mfs uo as hv (fl_ws G as hv ++ (fl_o G (sl 0) ++ fl_o G (sl 1))) hP hD hi1 hp1 hi2 hp2 hi3 hp3 hcc hss hl hfj (pz_restoreA3 h3) h2 rfl rfl (fun H locs ls hP hD hS hl => kk H locs ls (ls_mk hf tx pn tl fh ho hs _ msc mss mnw mtr mdi mac mke mik mod mrk mbe mfr mfs _ as hv sl hP hD hlen hF hJ) hS hl)
    | some a =>
      obtain ⟨⟨t0, t1, t2⟩, tg⟩ := a
      rw [hsj] at hfj
      have hj : p1.toNatClampNeg < 2 := by
        rcases Nat.lt_or_ge p1.toNatClampNeg 2 with y | y
        · exact y
        · rw [hF.2 _ y] at hsj
          cases hsj
      obtain ⟨R, hR9⟩ := ls_slot G sl hj
      have hps0 := ls_slot0 G sl hR9
      rw [hsj] at hps0
      have hps := ls_pt (ls_ps (Ws := fl_ws G as hv) (w := fl_w1 G (t0, t1, t2) tg) hps0) (ls_out (G := G) (ad := ad) (hr := fl_rg as) hf tx pn tl fh ho hs mrf msc mss mnw mtr mdi mac mke mik mod mrk mbe mfr mfs uo (t0, t1, t2) tg)
      refine law_24Bx1 hfl C0 hX hbl hbA hA hK hE hZ hS (ad 0) (ad 1) (ad 2) (ad 3) (ad 4) (ad 5) (ad 6) (ad 7) (ad 8) (ad 9) (ad 10) (ad 11) (ad 12) (ad 13) (ad 14) (ad 15) (ad 16) (ad 17) (ad 18) (ad 19) (ad 20) (ad 21) (ad 22) (ad 23) (ad 24) (ad 25) (ad 26) (ad 27) (ad 28) (ad 29) (ad 30) (ad 31) (ad 32) (ad 33) (ad 34) (ad 35) (ad 36) (ad 37) (ad 38) (ad 39) (ad 40) (ad 41) (ad 42) (ad 43) t0 t1 t2 (fl_rg as) hf tx pn tl fh ho hs mrf msc mss mnw mtr mdi mac mke mik mod mrk mbe mfr mfs tg uo as hv (R ++ fl_ws G as hv) (fl_P_perm hps hP) (fl_D_perm hps hD) hi1 hp1 hi2 hp2 hi3 hp3 hcc hss hl hfj (pz_restoreB3 h3) h2 rfl rfl (fun H locs ls hP hD hS hl => ?_)
      have hps2 := ls_pt (ls_ps (Ws := fl_ws G as hv) (w := fl_w1 G (t0, t1, t2) tg) hps0) (ls_out (G := G) (ad := ad) (hr := fl_rg as) hf tx pn tl fh ho hs 1 msc mss mnw mtr mdi mac mke mik mod mrk mbe mfr mfs uo (t0, t1, t2) tg)
      exact kk H locs ls (ls_mk hf tx pn tl fh ho hs _ msc mss mnw mtr mdi mac mke mik mod mrk mbe mfr mfs _ as hv sl (fl_P_perm hps2.symm hP) (fl_D_perm hps2.symm hD) hlen hF hJ) hS hl
  · have hpc : p1.toNatClampNeg = j := by rw [hpj, nI_clamp (by omega)]
    rw [hpc] at hfj
    rcases h9 with ⟨hsn, h1, h2⟩ | ⟨tg9, v, ch1, nw1, hss9, h1, h2, h3, h4⟩
    · have hsj : sl j = none := by
        cases hz : sl j with
        | none => rfl
        | some a =>
          try dsimp only at hsn
          rw [hz] at hsn
          cases hsn
      rw [hsj] at hfj
      exact law_24Ax2 hfl C0 hX hbl hbA hA hK hE hZ hS (ad 0) (ad 1) (ad 2) (ad 3) (ad 4) (ad 5) (ad 6) (ad 7) (ad 8) (ad 9) (ad 10) (ad 11) (ad 12) (ad 13) (ad 14) (ad 15) (ad 16) (ad 17) (ad 18) (ad 19) (ad 20) (ad 21) (ad 22) (ad 23) (ad 24) (ad 25) (ad 26) (ad 27) (ad 28) (ad 29) (ad 30) (ad 31) (ad 32) (ad 33) (ad 34) (ad 35) (ad 36) (ad 37) (ad 38) (ad 39) (ad 40) (ad 41) (ad 42) (ad 43) (fl_rg as) hf tx pn tl fh ho hs mrf msc mss mnw mtr mdi mac mke mik mod mrk mbe mfr mfs uo as hv (fl_ws G as hv ++ (fl_o G (sl 0) ++ fl_o G (sl 1))) hP hD hi1 hp1 hi2 hp2 hi3 hp3 hcc hss hl (by rw [hpc]; exact hfj) h1 h2 rfl rfl (fun H locs ls hP hD hS hl => kk H locs ls (ls_mk hf tx pn tl fh ho hs _ msc mss mnw mtr mdi mac mke mik mod mrk mbe mfr mfs _ as hv sl hP hD hlen hF hJ) hS hl)
    · cases hsj : sl j with
      | none =>
        try dsimp only at hss9
        rw [hsj] at hss9
        cases hss9
      | some a =>
        obtain ⟨⟨t0, t1, t2⟩, tg⟩ := a
        rw [hsj] at hfj
        try dsimp only at hss9
        rw [hsj] at hss9
        have e9 : tg = tg9 := Option.some.inj hss9
        subst e9
        obtain ⟨R, hR9⟩ := ls_slot G sl hj
        have hps0 := ls_slot0 G sl hR9
        rw [hsj] at hps0
        have hps := ls_pt (ls_ps (Ws := fl_ws G as hv) (w := fl_w1 G (t0, t1, t2) tg) hps0) (ls_out (G := G) (ad := ad) (hr := fl_rg as) hf tx pn tl fh ho hs mrf msc mss mnw mtr mdi mac mke mik mod mrk mbe mfr mfs uo (t0, t1, t2) tg)
        refine law_24Bv hfl C0 hX hbl hbA hA hK hE hZ hS (ad 0) (ad 1) (ad 2) (ad 3) (ad 4) (ad 5) (ad 6) (ad 7) (ad 8) (ad 9) (ad 10) (ad 11) (ad 12) (ad 13) (ad 14) (ad 15) (ad 16) (ad 17) (ad 18) (ad 19) (ad 20) (ad 21) (ad 22) (ad 23) (ad 24) (ad 25) (ad 26) (ad 27) (ad 28) (ad 29) (ad 30) (ad 31) (ad 32) (ad 33) (ad 34) (ad 35) (ad 36) (ad 37) (ad 38) (ad 39) (ad 40) (ad 41) (ad 42) (ad 43) t0 t1 t2 (fl_rg as) hf tx pn tl fh ho hs mrf msc mss mnw mtr mdi mac mke mik mod mrk mbe mfr mfs tg uo as hv (R ++ fl_ws G as hv) (fl_P_perm hps hP) (fl_D_perm hps hD) hi1 hp1 hi2 hp2 hi3 hp3 hcc hss hl (by rw [hpc]; exact hfj) h1 h2 rfl rfl rfl (fun H locs ls hP hD hS hl => ?_)
        have hps2 := ls_pt (ls_ps (Ws := fl_ws G as hv) (w := fl_w1 G (t0, t1, t2) tg) hps0) (ls_out (G := G) (ad := ad) (hr := fl_rg as) hf tx ch1 tl fh ho 0 0 msc mss nw1 mtr mdi 0 mke mik mod mrk mbe mfr mfs (vp_updL uo (0 : Int32).toNatClampNeg v.toInt64) (t0, t1, t2) tg)
        exact kk H locs ls (ls_mk hf tx ch1 tl fh ho 0 _ msc mss nw1 mtr mdi 0 mke mik mod mrk mbe mfr mfs _ as hv sl (fl_P_perm hps2.symm hP) (fl_D_perm hps2.symm hD) hlen hF ⟨⟨_, hT⟩, h3, h4, hSL⟩) hS hl
