/-! THE LAW'S LOOP, cases 23 -/
set_option maxHeartbeats 4000000 in
theorem ls_c23 {p : Program} {l : Launch} {e : Env} {s : State} {m : MethodId} {args : Array Value} {below : List Frame} {meth : Method} {c : Code} {A : Nat → Prop} {Q : State → Prop} {b L : Nat} {xs : Nat → Int32} (hfl : l.stackTraces = false) {G : fl_G} {sa : Nat → Nat} (C0 : CallFix p m c cL_law 7 s args wsL_law RL) (hX : va_X b L xs s s.heap) (hbl : b < s.heap.size) (hbA : ¬ A b) (hA : ∀ q : Nat, s.heap.size ≤ q → A q) (hK : fl_K G s) (hE : fl_E sa s) (hZ : fl_Z A s s.heap) {H : Heap} {locs : List Loc} (hS : va_S A s.heap H locs) (ad : Nat → Nat) (hI : ls_I G A ad H) {iv p1 p2 p3 : Int32} (hi1 : vp_in (iv + (1 : Int32)) L) (hp1 : xs (iv + (1 : Int32)).toNatClampNeg = p1) (hi2 : vp_in (iv + (2 : Int32)) L) (hp2 : xs (iv + (2 : Int32)).toNatClampNeg = p2) (hi3 : vp_in (iv + (3 : Int32)) L) (hp3 : xs (iv + (3 : Int32)).toNatClampNeg = p3) {cells slots : Nat} (hcc : cells + 3 ≤ room_1.cells) (hss : slots + 104 ≤ room_1.slots) {ls : Array Slot} (hl : lv_has ls 7 [(0, .ref b), (1, .ref (ad 0)), (2, .ref (ad 32)), (3, .ref (ad 43)), (4, .int iv)]) (kk : ∀ (H : Heap) (locs : List Loc) (ls : Array Slot), ls_I G A ad H → va_S A s.heap H locs → lv_has ls 7 [(0, .ref b), (1, .ref (ad 0)), (2, .ref (ad 32)), (3, .ref (ad 43)), (4, .int iv)] → W p l e room_1 s m args below meth c H locs (cells + 3) (slots + 104) Q (F0 m 1441 ls [])) : W p l e room_1 s m args below meth c H locs cells slots Q (F0 m 1329 ls []) := by
  obtain ⟨hf, tx, pn, tl, fh, ho, hs, mrf, msc, mss, mnw, mtr, mdi, mac, mke, mik, mod, mrk, mbe, mfr, mfs, uo, as, hv, sl, hP, hD, hlen, hF, hJ⟩ := hI
  obtain ⟨⟨TL, hT⟩, hPN, hH, hSL⟩ := id hJ
  obtain ⟨N, V, S, cc0, len0, hR, hO, hC⟩ := id hPN
  unfold ls_E at hP hD
  have hfj := hF.1 p1.toNatClampNeg
  rcases pz_save (rf := mrf) (p := p1) (pz_TR_RR hPN) hSL with ⟨h3, h2⟩ | ⟨j, v, g, ke1, ik1, hj, hpj, hA1, hB1, h2, h4⟩
  · cases hsj : sl p1.toNatClampNeg with
    | none =>
      rw [hsj] at hfj
      exact law_23Ax1 hfl C0 hX hbl hbA hA hK hE hZ hS (ad 0) (ad 1) (ad 2) (ad 3) (ad 4) (ad 5) (ad 6) (ad 7) (ad 8) (ad 9) (ad 10) (ad 11) (ad 12) (ad 13) (ad 14) (ad 15) (ad 16) (ad 17) (ad 18) (ad 19) (ad 20) (ad 21) (ad 22) (ad 23) (ad 24) (ad 25) (ad 26) (ad 27) (ad 28) (ad 29) (ad 30) (ad 31) (ad 32) (ad 33) (ad 34) (ad 35) (ad 36) (ad 37) (ad 38) (ad 39) (ad 40) (ad 41) (ad 42) (ad 43) (fl_rg as) hf tx pn tl fh ho hs mrf msc mss mnw mtr mdi mac mke mik mod mrk mbe mfr mfs uo as hv (fl_ws G as hv ++ (fl_o G (sl 0) ++ fl_o G (sl 1))) hP hD hi1 hp1 hi2 hp2 hi3 hp3 hcc hss hl hfj (pz_saveA3 h3) h2 rfl rfl (fun H locs ls hP hD hS hl => kk H locs ls (ls_mk hf tx pn tl fh ho hs _ msc mss mnw mtr mdi mac mke mik mod mrk mbe mfr mfs _ as hv sl hP hD hlen hF hJ) hS hl)
    | some a =>
      obtain ⟨⟨t0, t1, t2⟩, tg⟩ := a
      rw [hsj] at hfj
      have hj : p1.toNatClampNeg < 2 := by
        rcases Nat.lt_or_ge p1.toNatClampNeg 2 with y | y
        · exact y
        · rw [hF.2 _ y] at hsj
          cases hsj
      obtain ⟨R, hR9⟩ := ls_slot G sl hj
      have hps0 := ls_slot0 G sl hR9
      rw [hsj] at hps0
      have hps := ls_pt (ls_ps (Ws := fl_ws G as hv) (w := fl_w1 G (t0, t1, t2) tg) hps0) (ls_out (G := G) (ad := ad) (hr := fl_rg as) hf tx pn tl fh ho hs mrf msc mss mnw mtr mdi mac mke mik mod mrk mbe mfr mfs uo (t0, t1, t2) tg)
      refine law_23Bx1 hfl C0 hX hbl hbA hA hK hE hZ hS (ad 0) (ad 1) (ad 2) (ad 3) (ad 4) (ad 5) (ad 6) (ad 7) (ad 8) (ad 9) (ad 10) (ad 11) (ad 12) (ad 13) (ad 14) (ad 15) (ad 16) (ad 17) (ad 18) (ad 19) (ad 20) (ad 21) (ad 22) (ad 23) (ad 24) (ad 25) (ad 26) (ad 27) (ad 28) (ad 29) (ad 30) (ad 31) (ad 32) (ad 33) (ad 34) (ad 35) (ad 36) (ad 37) (ad 38) (ad 39) (ad 40) (ad 41) (ad 42) (ad 43) t0 t1 t2 (fl_rg as) hf tx pn tl fh ho hs mrf msc mss mnw mtr mdi mac mke mik mod mrk mbe mfr mfs tg uo as hv (R ++ fl_ws G as hv) (fl_P_perm hps hP) (fl_D_perm hps hD) hi1 hp1 hi2 hp2 hi3 hp3 hcc hss hl hfj (pz_saveB3 h3) h2 rfl rfl (fun H locs ls hP hD hS hl => ?_)
      have hps2 := ls_pt (ls_ps (Ws := fl_ws G as hv) (w := fl_w1 G (t0, t1, t2) tg) hps0) (ls_out (G := G) (ad := ad) (hr := fl_rg as) hf tx pn tl fh ho hs 1 msc mss mnw mtr mdi mac mke mik mod mrk mbe mfr mfs uo (t0, t1, t2) tg)
      exact kk H locs ls (ls_mk hf tx pn tl fh ho hs _ msc mss mnw mtr mdi mac mke mik mod mrk mbe mfr mfs _ as hv sl (fl_P_perm hps2.symm hP) (fl_D_perm hps2.symm hD) hlen hF hJ) hS hl
  · have hpc : p1.toNatClampNeg = j := by rw [hpj, nI_clamp (by omega)]
    rw [hpc] at hfj
    have hfin : ∀ (a : Nat × Nat × Nat) (g1 : fl_Sg), ls_F (fun i => if i = j then some (a, g1) else sl i) (va_up hf j (some a.1)) := by
      intro a g1
      refine ⟨fun i => ?_, fun i hi => ?_⟩
      · unfold va_up
        by_cases y : i = j
        · rw [if_pos y]
          dsimp only
          rw [if_pos y]
          rfl
        · rw [if_neg y]
          dsimp only
          rw [if_neg y]
          exact hF.1 i
      · dsimp only
        rw [if_neg (by omega)]
        exact hF.2 i hi
    cases hsj : sl j with
    | none =>
      rw [hsj] at hfj
      have h1 := hA1 (by rw [hsj]; rfl)
      obtain ⟨R, hR9⟩ := ls_slot G sl hj
      have hps0 := ls_slot0 G sl hR9
      rw [hsj] at hps0
      refine law_23Av hfl C0 hX hbl hbA hA hK hE hZ hS (ad 0) (ad 1) (ad 2) (ad 3) (ad 4) (ad 5) (ad 6) (ad 7) (ad 8) (ad 9) (ad 10) (ad 11) (ad 12) (ad 13) (ad 14) (ad 15) (ad 16) (ad 17) (ad 18) (ad 19) (ad 20) (ad 21) (ad 22) (ad 23) (ad 24) (ad 25) (ad 26) (ad 27) (ad 28) (ad 29) (ad 30) (ad 31) (ad 32) (ad 33) (ad 34) (ad 35) (ad 36) (ad 37) (ad 38) (ad 39) (ad 40) (ad 41) (ad 42) (ad 43) (fl_rg as) hf tx pn tl fh ho hs mrf msc mss mnw mtr mdi mac mke mik mod mrk mbe mfr mfs uo as hv (fl_ws G as hv ++ (fl_o G (sl 0) ++ fl_o G (sl 1))) hP hD hi1 hp1 hi2 hp2 hi3 hp3 hcc hss hl (by rw [hpc]; exact hfj) h1 h2 rfl rfl rfl (fun n1 n2 n3 H locs ls hP hD hS hl => ?_)
      rw [hpc] at hP hD
      have hps1 := hR9 (some ((n1, n2, n3), g))
      have hps2 : (fl_w1 G (n1, n2, n3) g ++ (fl_ws G as hv ++ (fl_o G (sl 0) ++ fl_o G (sl 1)))).Perm (fl_ws G as hv ++ (fl_o G (if 0 = j then some ((n1, n2, n3), g) else sl 0) ++ fl_o G (if 1 = j then some ((n1, n2, n3), g) else sl 1))) := by
        have q1 : (fl_w1 G (n1, n2, n3) g ++ (fl_ws G as hv ++ (fl_o G (sl 0) ++ fl_o G (sl 1)))).Perm (fl_w1 G (n1, n2, n3) g ++ (fl_ws G as hv ++ R)) := List.Perm.append_left _ (List.Perm.append_left _ hps0)
        have q2 : (fl_w1 G (n1, n2, n3) g ++ (fl_ws G as hv ++ R)).Perm (fl_ws G as hv ++ (fl_w1 G (n1, n2, n3) g ++ R)) := by
          rw [← List.append_assoc, ← List.append_assoc]
          exact List.Perm.append_right _ List.perm_append_comm
        exact q1.trans (q2.trans (List.Perm.append_left _ hps1.symm))
      have hps3 := ls_pt (hps2.symm) (ls_out (G := G) (ad := ad) (hr := fl_rg as) (va_up hf j (some n1)) tx pn tl fh ho hs 0 msc mss mnw mtr mdi mac ke1 ik1 mod mrk mbe mfr mfs (vp_updL uo (0 : Int32).toNatClampNeg v.toInt64) (n1, n2, n3) g)
      exact kk H locs ls (ls_mk (va_up hf j (some n1)) tx pn tl fh ho hs _ msc mss mnw mtr mdi mac ke1 ik1 mod mrk mbe mfr mfs _ as hv (fun i => if i = j then some ((n1, n2, n3), g) else sl i) (fl_P_perm hps3.symm hP) (fl_D_perm hps3.symm hD) hlen (hfin (n1, n2, n3) g) ⟨⟨_, hT⟩, hPN, hH, ls_SLmap h4⟩) hS hl
    | some a =>
      obtain ⟨⟨t0, t1, t2⟩, tg⟩ := a
      rw [hsj] at hfj
      obtain ⟨g1, h1, h5⟩ := hB1 tg (by rw [hsj]; rfl)
      obtain ⟨R, hR9⟩ := ls_slot G sl hj
      have hps0 := ls_slot0 G sl hR9
      rw [hsj] at hps0
      have hps := ls_pt (ls_ps (Ws := fl_ws G as hv) (w := fl_w1 G (t0, t1, t2) tg) hps0) (ls_out (G := G) (ad := ad) (hr := fl_rg as) hf tx pn tl fh ho hs mrf msc mss mnw mtr mdi mac mke mik mod mrk mbe mfr mfs uo (t0, t1, t2) tg)
      refine law_23Bv hfl C0 hX hbl hbA hA hK hE hZ hS (ad 0) (ad 1) (ad 2) (ad 3) (ad 4) (ad 5) (ad 6) (ad 7) (ad 8) (ad 9) (ad 10) (ad 11) (ad 12) (ad 13) (ad 14) (ad 15) (ad 16) (ad 17) (ad 18) (ad 19) (ad 20) (ad 21) (ad 22) (ad 23) (ad 24) (ad 25) (ad 26) (ad 27) (ad 28) (ad 29) (ad 30) (ad 31) (ad 32) (ad 33) (ad 34) (ad 35) (ad 36) (ad 37) (ad 38) (ad 39) (ad 40) (ad 41) (ad 42) (ad 43) t0 t1 t2 (fl_rg as) hf tx pn tl fh ho hs mrf msc mss mnw mtr mdi mac mke mik mod mrk mbe mfr mfs tg uo as hv (R ++ fl_ws G as hv) (fl_P_perm hps hP) (fl_D_perm hps hD) hi1 hp1 hi2 hp2 hi3 hp3 hcc hss hl (by rw [hpc]; exact hfj) h1 h2 rfl rfl rfl (fun H locs ls hP hD hS hl => ?_)
      have hps2 := ls_pt (ls_ps (Ws := fl_ws G as hv) (w := fl_w1 G (t0, t1, t2) g1) (hR9 (some ((t0, t1, t2), g1)))) (ls_out (G := G) (ad := ad) (hr := fl_rg as) hf tx pn tl fh ho hs 0 msc mss mnw mtr mdi mac ke1 ik1 mod mrk mbe mfr mfs (vp_updL uo (0 : Int32).toNatClampNeg v.toInt64) (t0, t1, t2) g1)
      have hfe : ls_F (fun i => if i = j then some ((t0, t1, t2), g1) else sl i) hf := by
        have e := hfin (t0, t1, t2) g1
        have e2 : va_up hf j (some t0) = hf := by
          funext i
          unfold va_up
          by_cases y : i = j
          · rw [if_pos y, y]
            exact hfj.symm
          · rw [if_neg y]
        rw [e2] at e
        exact e
      exact kk H locs ls (ls_mk hf tx pn tl fh ho hs _ msc mss mnw mtr mdi mac ke1 ik1 mod mrk mbe mfr mfs _ as hv (fun i => if i = j then some ((t0, t1, t2), g1) else sl i) (fl_P_perm hps2.symm hP) (fl_D_perm hps2.symm hD) hlen hfe ⟨⟨_, hT⟩, hPN, hH, ls_SLmap h5⟩) hS hl
