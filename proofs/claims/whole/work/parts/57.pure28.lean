/-! A COMMAND OF A SCRIPT, on both sides -/
def pz_TR (ch : fl_Ch) (f : fl_A) : Prop := ∃ N V S c len, pz_R ch.1 f N V S c len ∧ pz_OK N V S len ∧ pz_CH ch N S
def pz_bare (R : Nat) : Int32 := if R / 1000 = 0 then 1 else 0
theorem pz_does_M {tr od rk be fr : fl_A} {fs : Int32} {g : Nat} (hg : g < 100000) : P_M_does tr od rk be fr fs (nI g) = P_M_does_J43 tr od rk be fr fs (nI g) (nI (g / 10000)) (nI (g % 10000 / 100)) (nI (g % 10000 % 100)) (nI (g % 10000 % 1000)) (pz_bare (g % 10000)) := by
  unfold P_M_does
  rw [pz_d1000 (by omega), pz_r10 (by omega), pz_d10000 (by omega), pz_d100 (by omega), pz_r100 (by omega), show nI g - nI (g / 100) * (100 : Int32) = nI (g % 100) by rw [← pz_d100 (by omega), pz_r100 (by omega)], show nI g - nI (g / 1000) * (1000 : Int32) = nI (g % 1000) by rw [← pz_d1000 (by omega), pz_r1000 (by omega)]]
  rw [show g / 1000 % 10 = g % 10000 / 1000 by omega, show g / 100 % 100 = g % 10000 / 100 by omega, show g % 100 = g % 10000 % 100 by omega, show g % 1000 = g % 10000 % 1000 by omega]
  unfold pz_bare
  by_cases y : g % 10000 / 1000 = 0
  · rw [if_pos y, y, if_pos (show nI 0 = (0 : Int32) from rfl)]
  · rw [if_neg y, if_neg (nI_ne0 (by omega) (by omega))]
abbrev pz_DO (tl : fl_Ch) (fh : fl_Ln) (tr od rk be fr : fl_A) (fs : Int32) (g K R : Nat) : Prop := ∃ r tl' fh' tr' od' rk' be' fr' fs', P_SC_runCommand tl fh (nI K) (nI R) = some (r, tl', fh') ∧ P_M_does_J43 tr od rk be fr fs (nI g) (nI K) (nI (R / 100)) (nI (R % 100)) (nI (R % 1000)) (pz_bare R) = some (r, tr', od', rk', be', fr', fs') ∧ (r = 0 ∨ (r = 1 ∧ pz_TR tl' tr'))
theorem pz_DO_no {tl : fl_Ch} {fh : fl_Ln} {tr od rk be fr : fl_A} {fs : Int32} {g K R : Nat} {od' rk' : fl_A} (h1 : P_SC_runCommand tl fh (nI K) (nI R) = some (0, tl, fh)) (h2 : P_M_does_J43 tr od rk be fr fs (nI g) (nI K) (nI (R / 100)) (nI (R % 100)) (nI (R % 1000)) (pz_bare R) = some (0, tr, od', rk', be, fr, fs)) : pz_DO tl fh tr od rk be fr fs g K R := ⟨_, _, _, _, _, _, _, _, _, h1, h2, Or.inl rfl⟩
theorem pz_DO_yes {tl : fl_Ch} {fh : fl_Ln} {tr od rk be fr : fl_A} {fs : Int32} {g K R : Nat} {od' rk' : fl_A} (hT : pz_TR tl tr) (h1 : P_SC_runCommand tl fh (nI K) (nI R) = some (1, tl, fh)) (h2 : P_M_does_J43 tr od rk be fr fs (nI g) (nI K) (nI (R / 100)) (nI (R % 100)) (nI (R % 1000)) (pz_bare R) = some (1, tr, od', rk', be, fr, fs)) : pz_DO tl fh tr od rk be fr fs g K R := ⟨_, _, _, _, _, _, _, _, _, h1, h2, Or.inr ⟨rfl, hT⟩⟩
theorem pz_do0 {tl : fl_Ch} {fh : fl_Ln} {tr od rk be fr : fl_A} {fs : Int32} {g R : Nat} (hg : g < 100000) (hR0 : R = g % 10000) (h : pz_TR tl tr) : pz_DO tl fh tr od rk be fr fs g 0 R := by
  refine pz_DO_no (od' := od) (rk' := rk) ?_ ?_
  · unfold P_SC_runCommand
    rw [if_neg (show ¬ nI 0 = (1 : Int32) by decide), if_neg (show ¬ nI 0 = (2 : Int32) by decide), if_neg (show ¬ nI 0 = (3 : Int32) by decide), if_neg (show ¬ nI 0 = (4 : Int32) by decide), if_neg (show ¬ nI 0 = (5 : Int32) by decide), if_neg (show ¬ nI 0 = (6 : Int32) by decide), if_neg (show ¬ nI 0 = (7 : Int32) by decide), if_neg (show ¬ nI 0 = (8 : Int32) by decide), if_neg (show ¬ nI 0 = (9 : Int32) by decide)]
  · unfold P_M_does_J43
    rw [if_neg (show ¬ nI 0 = (1 : Int32) by decide), if_neg (show ¬ nI 0 = (2 : Int32) by decide), if_neg (show ¬ nI 0 = (3 : Int32) by decide), if_neg (show ¬ nI 0 = (4 : Int32) by decide), if_neg (show ¬ nI 0 = (5 : Int32) by decide), if_neg (show ¬ nI 0 = (6 : Int32) by decide), if_neg (show ¬ nI 0 = (7 : Int32) by decide), if_neg (show ¬ nI 0 = (8 : Int32) by decide), if_neg (show ¬ nI 0 = (9 : Int32) by decide)]
theorem pz_do1 {tl : fl_Ch} {fh : fl_Ln} {tr od rk be fr : fl_A} {fs : Int32} {g R : Nat} (hg : g < 100000) (hR0 : R = g % 10000) (h : pz_TR tl tr) : pz_DO tl fh tr od rk be fr fs g 1 R := by
  have hRl : R < 10000 := by omega
  obtain ⟨N, V, S, c, len, hR, hO, hC⟩ := id h
  have hVN := pz_OK_V hO
  have hN := hO.1
  have hc : P_SC_runCommand tl fh (nI 1) (nI R) = if nI (R % 100) = 0 then fl_bd (P_SC_tryVerse tl fh (nI (R / 100))) (fun q1 => if q1.1 = 0 then some ((0 : Int32), q1.2.1, q1.2.2) else some ((1 : Int32), q1.2.1, q1.2.2)) else some ((0 : Int32), tl, fh) := by
    unfold P_SC_runCommand
    rw [if_pos (show nI 1 = (1 : Int32) from rfl), pz_r100 (by omega), pz_d100 (by omega)]
  have hm : P_M_does_J43 tr od rk be fr fs (nI g) (nI 1) (nI (R / 100)) (nI (R % 100)) (nI (R % 1000)) (pz_bare R) = if nI V ≤ nI (R / 100) then some ((0 : Int32), tr, od, rk, be, fr, fs) else if nI (R % 100) = 0 then fl_bd (P_M_againIn od rk be fr fs tr (nI (R / 100))) (fun q1 => some ((1 : Int32), q1.2.2.2.2.2.2, q1.2.1, q1.2.2.1, q1.2.2.2.1, q1.2.2.2.2.1, q1.2.2.2.2.2.1)) else some ((0 : Int32), tr, od, rk, be, fr, fs) := by
    unfold P_M_does_J43
    rw [if_pos (show nI 1 = (1 : Int32) from rfl), pz_ck1, pz_c1, hR.2.2.1.2.1]
  by_cases y : R % 100 = 0
  · have y0 : nI (R % 100) = 0 := by rw [y]; rfl
    rw [if_pos y0] at hc hm
    rcases Nat.lt_or_ge (R / 100) V with w | w
    · rw [if_neg (nI_ge w (by omega))] at hm
      have hlk := hO.2.2.1 _ w
      obtain ⟨u, fr1, e3, h3, h4, e4⟩ := pz_takeVerse (fh := fh) (od := od) (rk := rk) (be := be) (fr := fr) (fs := fs) hR.1 hR.2.2.1 hO.2.1 hN (by omega) w hlk.2
      obtain ⟨a, ch', od', rk', be', f', N', V', c', len', e7, e8, hR2, hO2, hC2, -⟩ := pz_sing (od := od) (rk := rk) (be := be) hR hO hC h3 hlk.1 hlk.2 h4
      refine ⟨1, ch', u, f', od', rk', be', fr1, nI (len (R / 100)), ?_, ?_, Or.inr ⟨rfl, N', V', S, c', len', hR2, hO2, hC2⟩⟩
      · rw [hc]
        unfold P_SC_tryVerse
        rw [pz_hasVerse hR.1 (by omega) w, fl_bd_some, if_neg (show ¬ (1 : Int32) = 0 by decide), e3, fl_bd_some, e7, fl_bd_some, fl_bd_some]
        rfl
      · rw [hm, e4, e8, fl_bd_some, fl_bd_some]
    · rw [if_pos (nI_le w (by omega))] at hm
      refine pz_DO_no ?_ hm
      rw [hc]
      unfold P_SC_tryVerse P_Sg_hasVerse
      rw [if_neg (nI_pos (by omega)), hR.1.2.1, if_pos (nI_le w (by omega)), fl_bd_some, if_pos rfl, fl_bd_some]
      rfl
  · have y0 : ¬ nI (R % 100) = 0 := nI_ne0 (by omega) (by omega)
    rw [if_neg y0] at hc hm
    refine pz_DO_no hc (od' := od) (rk' := rk) ?_
    rw [hm]
    split <;> rfl
theorem pz_do2 {tl : fl_Ch} {fh : fl_Ln} {tr od rk be fr : fl_A} {fs : Int32} {g R : Nat} (hg : g < 100000) (hR0 : R = g % 10000) (h : pz_TR tl tr) : pz_DO tl fh tr od rk be fr fs g 2 R := by
  have hRl : R < 10000 := by omega
  obtain ⟨N, V, S, c, len, hR, hO, hC⟩ := id h
  have hVN := pz_OK_V hO
  have hN := hO.1
  have hc : P_SC_runCommand tl fh (nI 2) (nI R) = if nI R = 0 then fl_bd (P_SC_tryForgetting tl) (fun q2 => if q2.1 = 0 then some ((0 : Int32), q2.2, fh) else some ((1 : Int32), q2.2, fh)) else some ((0 : Int32), tl, fh) := by
    unfold P_SC_runCommand
    rw [if_neg (show ¬ nI 2 = (1 : Int32) by decide), if_pos (show nI 2 = (2 : Int32) from rfl)]
  have hm : P_M_does_J43 tr od rk be fr fs (nI g) (nI 2) (nI (R / 100)) (nI (R % 100)) (nI (R % 1000)) (pz_bare R) = if nI R = 0 then (if nI V = 0 then some ((0 : Int32), tr, od, rk, be, fr, fs) else fl_bd (P_M_forgetIn od rk be tr) (fun q2 => some ((1 : Int32), q2.2.2.2.2, q2.2.1, q2.2.2.1, q2.2.2.2.1, fr, fs))) else some ((0 : Int32), tr, od, rk, be, fr, fs) := by
    unfold P_M_does_J43
    rw [if_neg (show ¬ nI 2 = (1 : Int32) by decide), if_pos (show nI 2 = (2 : Int32) from rfl), pz_r10000 (by omega), ← hR0, pz_ck1, pz_c1, hR.2.2.1.2.1]
  by_cases y : R = 0
  · have y0 : nI R = 0 := by rw [y]; rfl
    rw [if_pos y0] at hc hm
    by_cases w : V = 0
    · have w0 : nI V = 0 := by rw [w]; rfl
      rw [if_pos w0] at hm
      refine pz_DO_no ?_ hm
      rw [hc]
      unfold P_SC_tryForgetting
      rw [hR.1.2.1, if_pos w0, fl_bd_some]
      rfl
    · have w0 : ¬ nI V = 0 := nI_ne0 (by omega) (by omega)
      rw [if_neg w0] at hm
      obtain ⟨a, ch', od', rk', be', f', N', V', c', len', e7, e8, hR2, hO2, hC2⟩ := pz_forget (od := od) (rk := rk) (be := be) hR hO hC (by omega)
      refine ⟨1, ch', fh, f', od', rk', be', fr, fs, ?_, ?_, Or.inr ⟨rfl, N', V', S, c', len', hR2, hO2, hC2⟩⟩
      · rw [hc]
        unfold P_SC_tryForgetting
        rw [hR.1.2.1, if_neg w0, e7, fl_bd_some, fl_bd_some]
        rfl
      · rw [hm, e8, fl_bd_some]
  · have y0 : ¬ nI R = 0 := nI_ne0 (by omega) (by omega)
    rw [if_neg y0] at hc hm
    exact pz_DO_no hc hm
theorem pz_do3 {tl : fl_Ch} {fh : fl_Ln} {tr od rk be fr : fl_A} {fs : Int32} {g R : Nat} (hg : g < 100000) (hR0 : R = g % 10000) (h : pz_TR tl tr) : pz_DO tl fh tr od rk be fr fs g 3 R := by
  have hRl : R < 10000 := by omega
  obtain ⟨N, V, S, c, len, hR, hO, hC⟩ := id h
  have hc : P_SC_runCommand tl fh (nI 3) (nI R) = if nI (R % 1000) = 0 then fl_bd (P_SC_trySingers tl (nI (R / 1000))) (fun q3 => if q3.1 = 0 then some ((0 : Int32), q3.2, fh) else some ((1 : Int32), q3.2, fh)) else some ((0 : Int32), tl, fh) := by
    unfold P_SC_runCommand
    rw [if_neg (show ¬ nI 3 = (1 : Int32) by decide), if_neg (show ¬ nI 3 = (2 : Int32) by decide), if_pos (show nI 3 = (3 : Int32) from rfl), pz_r1000 (by omega), pz_d1000 (by omega)]
  have hm : P_M_does_J43 tr od rk be fr fs (nI g) (nI 3) (nI (R / 100)) (nI (R % 100)) (nI (R % 1000)) (pz_bare R) = if nI (R % 1000) = 0 then fl_bd (P_M_isChoir (nI (R / 1000))) (fun q3 => if q3 = 0 then some ((0 : Int32), tr, od, rk, be, fr, fs) else fl_bd (P_M_setSingersIn od rk be tr (nI (R / 1000))) (fun q4 => some ((1 : Int32), q4.2.2.2.2, q4.2.1, q4.2.2.1, q4.2.2.2.1, fr, fs))) else some ((0 : Int32), tr, od, rk, be, fr, fs) := by
    unfold P_M_does_J43
    rw [if_neg (show ¬ nI 3 = (1 : Int32) by decide), if_neg (show ¬ nI 3 = (2 : Int32) by decide), if_pos (show nI 3 = (3 : Int32) from rfl), pz_d1000 (by omega), pz_r10 (by omega), show g / 1000 % 10 = R / 1000 by omega]
  by_cases y : R % 1000 = 0
  · have y0 : nI (R % 1000) = 0 := by rw [y]; rfl
    rw [if_pos y0] at hc hm
    unfold P_M_isChoir at hm
    unfold P_SC_trySingers at hc
    by_cases w1 : R / 1000 = 0
    · have w2 : nI (R / 1000) < (1 : Int32) := by rw [w1]; decide
      rw [pz_1x, pz_8x, pz_in_no (Or.inl w2), fl_bd_some, pz_bl0, fl_bd_some, if_pos rfl] at hm
      rw [if_pos w2, fl_bd_some] at hc
      exact pz_DO_no hc hm
    · have w2 : ¬ nI (R / 1000) < (1 : Int32) := nI_nlt (b := 1) (by omega) (by omega)
      by_cases w3 : R / 1000 ≤ 8
      · have w4 : nI (R / 1000) ≤ (8 : Int32) := nI_le (b := 8) w3 (by decide)
        have w5 : ¬ (8 : Int32) < nI (R / 1000) := nI_nlt (a := 8) w3 (by decide)
        obtain ⟨a, ch', od', rk', be', f', e7, e8, hR2, hO2, hC2⟩ := pz_setSingers (S2 := R / 1000) (od := od) (rk := rk) (be := be) hR hO hC (by omega) w3
        rw [pz_1x, pz_8x, pz_in_yes w2 w5, fl_bd_some, pz_bl1, fl_bd_some, if_neg (show ¬ (1 : Int32) = 0 by decide), e8, fl_bd_some] at hm
        rw [if_neg w2, if_pos w4, e7, fl_bd_some, fl_bd_some] at hc
        exact ⟨1, ch', fh, f', od', rk', be', fr, fs, hc, hm, Or.inr ⟨rfl, N, V, R / 1000, c, len, hR2, hO2, hC2⟩⟩
      · have w4 : ¬ nI (R / 1000) ≤ (8 : Int32) := nI_ge (a := 8) (by omega) (by omega)
        have w5 : (8 : Int32) < nI (R / 1000) := nI_lt (a := 8) (by omega) (by omega)
        rw [pz_1x, pz_8x, pz_in_no (Or.inr w5), fl_bd_some, pz_bl0, fl_bd_some, if_pos rfl] at hm
        rw [if_neg w2, if_neg w4, fl_bd_some] at hc
        exact pz_DO_no hc hm
  · have y0 : ¬ nI (R % 1000) = 0 := nI_ne0 (by omega) (by omega)
    rw [if_neg y0] at hc hm
    exact pz_DO_no hc hm
theorem pz_do4 {tl : fl_Ch} {fh : fl_Ln} {tr od rk be fr : fl_A} {fs : Int32} {g R : Nat} (hg : g < 100000) (hR0 : R = g % 10000) (h : pz_TR tl tr) : pz_DO tl fh tr od rk be fr fs g 4 R := by
  have hRl : R < 10000 := by omega
  obtain ⟨N, V, S, c, len, hR, hO, hC⟩ := id h
  obtain ⟨r, t', fr', fs', e1, e2, h3⟩ := pz_takeDigits hRl fh fr fs
  have hc : P_SC_runCommand tl fh (nI 4) (nI R) = fl_bd (P_SC_tryLetters tl fh (nI R)) (fun q4 => fl_bl q4.1 (some (q4.1, q4.2.1, q4.2.2))) := by
    unfold P_SC_runCommand
    rw [if_neg (show ¬ nI 4 = (1 : Int32) by decide), if_neg (show ¬ nI 4 = (2 : Int32) by decide), if_neg (show ¬ nI 4 = (3 : Int32) by decide), if_pos (show nI 4 = (4 : Int32) from rfl)]
  have hm : P_M_does_J43 tr od rk be fr fs (nI g) (nI 4) (nI (R / 100)) (nI (R % 100)) (nI (R % 1000)) (pz_bare R) = fl_bd (P_M_takeDigits fr fs (nI R)) (fun q5 => if q5.1 = 0 then some ((0 : Int32), tr, od, rk, be, q5.2.1, q5.2.2) else fl_bd (P_M_singIn od rk be q5.2.1 q5.2.2 tr) (fun q6 => some ((1 : Int32), q6.2.2.2.2, q6.2.1, q6.2.2.1, q6.2.2.2.1, q5.2.1, q5.2.2))) := by
    unfold P_M_does_J43
    rw [if_neg (show ¬ nI 4 = (1 : Int32) by decide), if_neg (show ¬ nI 4 = (2 : Int32) by decide), if_neg (show ¬ nI 4 = (3 : Int32) by decide), if_pos (show nI 4 = (4 : Int32) from rfl), pz_r10000 (by omega), ← hR0]
  unfold P_SC_tryLetters at hc
  rw [e1, fl_bd_some] at hc
  rw [e2, fl_bd_some] at hm
  dsimp only at hc hm
  rcases h3 with rfl | ⟨rfl, l, hl1, hl12, h4, rfl, h5⟩
  · rw [if_pos rfl, fl_bd_some, pz_bl0] at hc
    rw [if_pos rfl] at hm
    exact ⟨0, tl, t', tr, od, rk, be, fr', fs', hc, hm, Or.inl rfl⟩
  · obtain ⟨a, ch', od', rk', be', f', N', V', c', len', e7, e8, hR2, hO2, hC2, -⟩ := pz_sing (od := od) (rk := rk) (be := be) hR hO hC h4 hl1 hl12 h5
    rw [if_neg (show ¬ (1 : Int32) = 0 by decide), e7, fl_bd_some, fl_bd_some, pz_bl1] at hc
    rw [if_neg (show ¬ (1 : Int32) = 0 by decide), e8, fl_bd_some] at hm
    exact ⟨1, ch', t', f', od', rk', be', fr', nI l, hc, hm, Or.inr ⟨rfl, N', V', S, c', len', hR2, hO2, hC2⟩⟩
theorem pz_do5 {tl : fl_Ch} {fh : fl_Ln} {tr od rk be fr : fl_A} {fs : Int32} {g R : Nat} (hg : g < 100000) (hR0 : R = g % 10000) (h : pz_TR tl tr) : pz_DO tl fh tr od rk be fr fs g 5 R := by
  have hRl : R < 10000 := by omega
  obtain ⟨N, V, S, c, len, hR, hO, hC⟩ := id h
  obtain ⟨od', rk', e1, e2⟩ := pz_lonB (od := od) (rk := rk) hR hO hC
  by_cases y : R < 100
  · have y1 : ¬ (100 : Int32) ≤ nI R := nI_ge (b := 100) y (by decide)
    have hc : P_SC_runCommand tl fh (nI 5) (nI R) = if nI (pz_lon tl.1.1 N) < nI R then some ((0 : Int32), tl, fh) else some ((1 : Int32), tl, fh) := by
      unfold P_SC_runCommand
      rw [if_neg (show ¬ nI 5 = (1 : Int32) by decide), if_neg (show ¬ nI 5 = (2 : Int32) by decide), if_neg (show ¬ nI 5 = (3 : Int32) by decide), if_neg (show ¬ nI 5 = (4 : Int32) by decide), if_pos (show nI 5 = (5 : Int32) from rfl), if_neg y1, e1, fl_bd_some]
    have hm : P_M_does_J43 tr od rk be fr fs (nI g) (nI 5) (nI (R / 100)) (nI (R % 100)) (nI (R % 1000)) (pz_bare R) = if nI (pz_lon tl.1.1 N) < nI R then some ((0 : Int32), tr, od', rk', be, fr, fs) else some ((1 : Int32), tr, od', rk', be, fr, fs) := by
      unfold P_M_does_J43
      rw [if_neg (show ¬ nI 5 = (1 : Int32) by decide), if_neg (show ¬ nI 5 = (2 : Int32) by decide), if_neg (show ¬ nI 5 = (3 : Int32) by decide), if_neg (show ¬ nI 5 = (4 : Int32) by decide), if_pos (show nI 5 = (5 : Int32) from rfl), show R / 100 = 0 by omega, if_pos (show nI 0 = (0 : Int32) from rfl), e2, fl_bd_some, show R % 100 = R by omega]
    by_cases w : nI (pz_lon tl.1.1 N) < nI R
    · rw [if_pos w] at hc hm
      exact pz_DO_no hc hm
    · rw [if_neg w] at hc hm
      exact pz_DO_yes h hc hm
  · have y1 : (100 : Int32) ≤ nI R := nI_le (a := 100) (by omega) (by omega)
    refine pz_DO_no (od' := od) (rk' := rk) ?_ ?_
    · unfold P_SC_runCommand
      rw [if_neg (show ¬ nI 5 = (1 : Int32) by decide), if_neg (show ¬ nI 5 = (2 : Int32) by decide), if_neg (show ¬ nI 5 = (3 : Int32) by decide), if_neg (show ¬ nI 5 = (4 : Int32) by decide), if_pos (show nI 5 = (5 : Int32) from rfl), if_pos y1]
    · unfold P_M_does_J43
      rw [if_neg (show ¬ nI 5 = (1 : Int32) by decide), if_neg (show ¬ nI 5 = (2 : Int32) by decide), if_neg (show ¬ nI 5 = (3 : Int32) by decide), if_neg (show ¬ nI 5 = (4 : Int32) by decide), if_pos (show nI 5 = (5 : Int32) from rfl), if_neg (nI_ne0 (by omega) (by omega))]
theorem pz_do6 {tl : fl_Ch} {fh : fl_Ln} {tr od rk be fr : fl_A} {fs : Int32} {g R : Nat} (hg : g < 100000) (hR0 : R = g % 10000) (h : pz_TR tl tr) : pz_DO tl fh tr od rk be fr fs g 6 R := by
  have hRl : R < 10000 := by omega
  obtain ⟨N, V, S, c, len, hR, hO, hC⟩ := id h
  obtain ⟨od', rk', e1, e2⟩ := pz_pcsB (od := od) (rk := rk) hR hO hC
  by_cases y : R < 1000
  · have y1 : ¬ (1000 : Int32) ≤ nI R := nI_ge (b := 1000) y (by decide)
    have hc : P_SC_runCommand tl fh (nI 6) (nI R) = if nI (pz_pcs tl.1.1 N) < nI R then some ((0 : Int32), tl, fh) else some ((1 : Int32), tl, fh) := by
      unfold P_SC_runCommand
      rw [if_neg (show ¬ nI 6 = (1 : Int32) by decide), if_neg (show ¬ nI 6 = (2 : Int32) by decide), if_neg (show ¬ nI 6 = (3 : Int32) by decide), if_neg (show ¬ nI 6 = (4 : Int32) by decide), if_neg (show ¬ nI 6 = (5 : Int32) by decide), if_pos (show nI 6 = (6 : Int32) from rfl), if_neg y1, e1, fl_bd_some]
    have hm : P_M_does_J43 tr od rk be fr fs (nI g) (nI 6) (nI (R / 100)) (nI (R % 100)) (nI (R % 1000)) (pz_bare R) = if nI (pz_pcs tl.1.1 N) < nI R then some ((0 : Int32), tr, od', rk', be, fr, fs) else some ((1 : Int32), tr, od', rk', be, fr, fs) := by
      unfold P_M_does_J43
      rw [if_neg (show ¬ nI 6 = (1 : Int32) by decide), if_neg (show ¬ nI 6 = (2 : Int32) by decide), if_neg (show ¬ nI 6 = (3 : Int32) by decide), if_neg (show ¬ nI 6 = (4 : Int32) by decide), if_neg (show ¬ nI 6 = (5 : Int32) by decide), if_pos (show nI 6 = (6 : Int32) from rfl), show pz_bare R = 1 from if_pos (by omega), if_neg (show ¬ (1 : Int32) = 0 by decide), e2, fl_bd_some, show R % 1000 = R by omega]
    by_cases w : nI (pz_pcs tl.1.1 N) < nI R
    · rw [if_pos w] at hc hm
      exact pz_DO_no hc hm
    · rw [if_neg w] at hc hm
      exact pz_DO_yes h hc hm
  · have y1 : (1000 : Int32) ≤ nI R := nI_le (a := 1000) (by omega) (by omega)
    refine pz_DO_no (od' := od) (rk' := rk) ?_ ?_
    · unfold P_SC_runCommand
      rw [if_neg (show ¬ nI 6 = (1 : Int32) by decide), if_neg (show ¬ nI 6 = (2 : Int32) by decide), if_neg (show ¬ nI 6 = (3 : Int32) by decide), if_neg (show ¬ nI 6 = (4 : Int32) by decide), if_neg (show ¬ nI 6 = (5 : Int32) by decide), if_pos (show nI 6 = (6 : Int32) from rfl), if_pos y1]
    · unfold P_M_does_J43
      rw [if_neg (show ¬ nI 6 = (1 : Int32) by decide), if_neg (show ¬ nI 6 = (2 : Int32) by decide), if_neg (show ¬ nI 6 = (3 : Int32) by decide), if_neg (show ¬ nI 6 = (4 : Int32) by decide), if_neg (show ¬ nI 6 = (5 : Int32) by decide), if_pos (show nI 6 = (6 : Int32) from rfl), show pz_bare R = 0 from if_neg (by omega), if_pos rfl]
theorem pz_do7 {tl : fl_Ch} {fh : fl_Ln} {tr od rk be fr : fl_A} {fs : Int32} {g R : Nat} (hg : g < 100000) (hR0 : R = g % 10000) (h : pz_TR tl tr) : pz_DO tl fh tr od rk be fr fs g 7 R := by
  have hRl : R < 10000 := by omega
  obtain ⟨N, V, S, c, len, hR, hO, hC⟩ := id h
  by_cases y : R < 100
  · have y1 : ¬ (100 : Int32) ≤ nI R := nI_ge (b := 100) y (by decide)
    have hc : P_SC_runCommand tl fh (nI 7) (nI R) = if nI N < nI R then some ((0 : Int32), tl, fh) else some ((1 : Int32), tl, fh) := by
      unfold P_SC_runCommand
      rw [if_neg (show ¬ nI 7 = (1 : Int32) by decide), if_neg (show ¬ nI 7 = (2 : Int32) by decide), if_neg (show ¬ nI 7 = (3 : Int32) by decide), if_neg (show ¬ nI 7 = (4 : Int32) by decide), if_neg (show ¬ nI 7 = (5 : Int32) by decide), if_neg (show ¬ nI 7 = (6 : Int32) by decide), if_pos (show nI 7 = (7 : Int32) from rfl), if_neg y1, hR.1.1]
    have hm : P_M_does_J43 tr od rk be fr fs (nI g) (nI 7) (nI (R / 100)) (nI (R % 100)) (nI (R % 1000)) (pz_bare R) = if nI N < nI R then some ((0 : Int32), tr, od, rk, be, fr, fs) else some ((1 : Int32), tr, od, rk, be, fr, fs) := by
      unfold P_M_does_J43
      rw [if_neg (show ¬ nI 7 = (1 : Int32) by decide), if_neg (show ¬ nI 7 = (2 : Int32) by decide), if_neg (show ¬ nI 7 = (3 : Int32) by decide), if_neg (show ¬ nI 7 = (4 : Int32) by decide), if_neg (show ¬ nI 7 = (5 : Int32) by decide), if_neg (show ¬ nI 7 = (6 : Int32) by decide), if_pos (show nI 7 = (7 : Int32) from rfl), show R / 100 = 0 by omega, if_pos (show nI 0 = (0 : Int32) from rfl), pz_ck0, pz_c0, hR.2.2.1.1, show R % 100 = R by omega]
    by_cases w : nI N < nI R
    · rw [if_pos w] at hc hm
      exact pz_DO_no hc hm
    · rw [if_neg w] at hc hm
      exact pz_DO_yes h hc hm
  · have y1 : (100 : Int32) ≤ nI R := nI_le (a := 100) (by omega) (by omega)
    refine pz_DO_no (od' := od) (rk' := rk) ?_ ?_
    · unfold P_SC_runCommand
      rw [if_neg (show ¬ nI 7 = (1 : Int32) by decide), if_neg (show ¬ nI 7 = (2 : Int32) by decide), if_neg (show ¬ nI 7 = (3 : Int32) by decide), if_neg (show ¬ nI 7 = (4 : Int32) by decide), if_neg (show ¬ nI 7 = (5 : Int32) by decide), if_neg (show ¬ nI 7 = (6 : Int32) by decide), if_pos (show nI 7 = (7 : Int32) from rfl), if_pos y1]
    · unfold P_M_does_J43
      rw [if_neg (show ¬ nI 7 = (1 : Int32) by decide), if_neg (show ¬ nI 7 = (2 : Int32) by decide), if_neg (show ¬ nI 7 = (3 : Int32) by decide), if_neg (show ¬ nI 7 = (4 : Int32) by decide), if_neg (show ¬ nI 7 = (5 : Int32) by decide), if_neg (show ¬ nI 7 = (6 : Int32) by decide), if_pos (show nI 7 = (7 : Int32) from rfl), if_neg (nI_ne0 (by omega) (by omega))]
theorem pz_do8 {tl : fl_Ch} {fh : fl_Ln} {tr od rk be fr : fl_A} {fs : Int32} {g R : Nat} (hg : g < 100000) (hR0 : R = g % 10000) (h : pz_TR tl tr) : pz_DO tl fh tr od rk be fr fs g 8 R := by
  have hRl : R < 10000 := by omega
  obtain ⟨N, V, S, c, len, hR, hO, hC⟩ := id h
  have hN := hO.1
  have hcf := pz_codes hR
  have hc : P_SC_runCommand tl fh (nI 8) (nI R) = fl_bd (P_SC_isSungOften tl (nI (R / 100)) (nI (R % 100))) (fun q7 => fl_bl q7 (some (q7, tl, fh))) := by
    unfold P_SC_runCommand
    rw [if_neg (show ¬ nI 8 = (1 : Int32) by decide), if_neg (show ¬ nI 8 = (2 : Int32) by decide), if_neg (show ¬ nI 8 = (3 : Int32) by decide), if_neg (show ¬ nI 8 = (4 : Int32) by decide), if_neg (show ¬ nI 8 = (5 : Int32) by decide), if_neg (show ¬ nI 8 = (6 : Int32) by decide), if_neg (show ¬ nI 8 = (7 : Int32) by decide), if_pos (show nI 8 = (8 : Int32) from rfl), pz_r100 (by omega), pz_d100 (by omega)]
  unfold P_SC_isSungOften at hc
  have hm : P_M_does_J43 tr od rk be fr fs (nI g) (nI 8) (nI (R / 100)) (nI (R % 100)) (nI (R % 1000)) (pz_bare R) = fl_bd (P_M_in (nI (R / 100)).toInt64 (1 : Int32).toInt64 (12 : Int32).toInt64) (fun q9 => if q9 = 0 then some ((0 : Int32), tr, od, rk, be, fr, fs) else fl_bd (P_M_mostTimes tr (nI (R / 100))) (fun q10 => if q10 < nI (R % 100) then some ((0 : Int32), tr, od, rk, be, fr, fs) else some ((1 : Int32), tr, od, rk, be, fr, fs))) := by
    unfold P_M_does_J43
    rw [if_neg (show ¬ nI 8 = (1 : Int32) by decide), if_neg (show ¬ nI 8 = (2 : Int32) by decide), if_neg (show ¬ nI 8 = (3 : Int32) by decide), if_neg (show ¬ nI 8 = (4 : Int32) by decide), if_neg (show ¬ nI 8 = (5 : Int32) by decide), if_neg (show ¬ nI 8 = (6 : Int32) by decide), if_neg (show ¬ nI 8 = (7 : Int32) by decide), if_pos (show nI 8 = (8 : Int32) from rfl), pz_1x, pz_12x]
  by_cases w1 : R / 100 = 0
  · have w2 : nI (R / 100) < (1 : Int32) := by rw [w1]; decide
    rw [pz_in_no (Or.inl w2), fl_bd_some, if_pos rfl] at hm
    rw [if_pos w2, fl_bd_some, pz_bl0] at hc
    exact pz_DO_no hc hm
  · have w2 : ¬ nI (R / 100) < (1 : Int32) := nI_nlt (b := 1) (by omega) (by omega)
    by_cases w3 : R / 100 ≤ 12
    · have w5 : ¬ (12 : Int32) < nI (R / 100) := nI_nlt (a := 12) w3 (by decide)
      obtain ⟨x, e1, e2, -⟩ := pz_mostSung (c := tl.1.1) (N := N) (m := R / 100) (E := N + 1 - R / 100) (o := tl.2.1) (p1 := 1) hN hC.1 w3 rfl (by omega)
      have e2 := e2 (by decide)
      subst e2
      rw [pz_in_yes w2 w5, fl_bd_some, if_neg (show ¬ (1 : Int32) = 0 by decide), pz_M_mostTimes hN hR.2.2.1.1 hcf w3 rfl (by omega), fl_bd_some] at hm
      rw [if_neg w2, if_neg w5, e1, fl_bd_some] at hc
      by_cases w : nI (pz_mt tl.1.1 N (R / 100) (N + 1 - R / 100)) < nI (R % 100)
      · rw [if_pos w] at hc hm
        rw [fl_bd_some, pz_bl0] at hc
        exact pz_DO_no hc hm
      · rw [if_neg w] at hc hm
        rw [fl_bd_some, pz_bl1] at hc
        exact pz_DO_yes h hc hm
    · have w5 : (12 : Int32) < nI (R / 100) := nI_lt (a := 12) (by omega) (by omega)
      rw [pz_in_no (Or.inr w5), fl_bd_some, if_pos rfl] at hm
      rw [if_neg w2, if_pos w5, fl_bd_some, pz_bl0] at hc
      exact pz_DO_no hc hm
theorem pz_do9 {tl : fl_Ch} {fh : fl_Ln} {tr od rk be fr : fl_A} {fs : Int32} {g R : Nat} (hg : g < 100000) (hR0 : R = g % 10000) (h : pz_TR tl tr) : pz_DO tl fh tr od rk be fr fs g 9 R := by
  have hRl : R < 10000 := by omega
  obtain ⟨N, V, S, c, len, hR, hO, hC⟩ := id h
  by_cases y : R < 1000
  · have y1 : ¬ (1000 : Int32) ≤ nI R := nI_ge (b := 1000) y (by decide)
    have hc : P_SC_runCommand tl fh (nI 9) (nI R) = if nI R < tl.1.2.2.2.2.2.2.1 then some ((0 : Int32), tl, fh) else some ((1 : Int32), tl, fh) := by
      unfold P_SC_runCommand
      rw [if_neg (show ¬ nI 9 = (1 : Int32) by decide), if_neg (show ¬ nI 9 = (2 : Int32) by decide), if_neg (show ¬ nI 9 = (3 : Int32) by decide), if_neg (show ¬ nI 9 = (4 : Int32) by decide), if_neg (show ¬ nI 9 = (5 : Int32) by decide), if_neg (show ¬ nI 9 = (6 : Int32) by decide), if_neg (show ¬ nI 9 = (7 : Int32) by decide), if_neg (show ¬ nI 9 = (8 : Int32) by decide), if_pos (show nI 9 = (9 : Int32) from rfl), if_neg y1]
    have hm : P_M_does_J43 tr od rk be fr fs (nI g) (nI 9) (nI (R / 100)) (nI (R % 100)) (nI (R % 1000)) (pz_bare R) = if nI R < tl.1.2.2.2.2.2.2.1 then some ((0 : Int32), tr, od, rk, be, fr, fs) else some ((1 : Int32), tr, od, rk, be, fr, fs) := by
      unfold P_M_does_J43
      rw [if_neg (show ¬ nI 9 = (1 : Int32) by decide), if_neg (show ¬ nI 9 = (2 : Int32) by decide), if_neg (show ¬ nI 9 = (3 : Int32) by decide), if_neg (show ¬ nI 9 = (4 : Int32) by decide), if_neg (show ¬ nI 9 = (5 : Int32) by decide), if_neg (show ¬ nI 9 = (6 : Int32) by decide), if_neg (show ¬ nI 9 = (7 : Int32) by decide), if_neg (show ¬ nI 9 = (8 : Int32) by decide), if_pos (show nI 9 = (9 : Int32) from rfl), show pz_bare R = 1 from if_pos (by omega), if_neg (show ¬ (1 : Int32) = 0 by decide), pz_ck4, pz_c4, hR.2.2.2.2.2.1, show R % 1000 = R by omega]
    by_cases w : nI R < tl.1.2.2.2.2.2.2.1
    · rw [if_pos w] at hc hm
      exact pz_DO_no hc hm
    · rw [if_neg w] at hc hm
      exact pz_DO_yes h hc hm
  · have y1 : (1000 : Int32) ≤ nI R := nI_le (a := 1000) (by omega) (by omega)
    refine pz_DO_no (od' := od) (rk' := rk) ?_ ?_
    · unfold P_SC_runCommand
      rw [if_neg (show ¬ nI 9 = (1 : Int32) by decide), if_neg (show ¬ nI 9 = (2 : Int32) by decide), if_neg (show ¬ nI 9 = (3 : Int32) by decide), if_neg (show ¬ nI 9 = (4 : Int32) by decide), if_neg (show ¬ nI 9 = (5 : Int32) by decide), if_neg (show ¬ nI 9 = (6 : Int32) by decide), if_neg (show ¬ nI 9 = (7 : Int32) by decide), if_neg (show ¬ nI 9 = (8 : Int32) by decide), if_pos (show nI 9 = (9 : Int32) from rfl), if_pos y1]
    · unfold P_M_does_J43
      rw [if_neg (show ¬ nI 9 = (1 : Int32) by decide), if_neg (show ¬ nI 9 = (2 : Int32) by decide), if_neg (show ¬ nI 9 = (3 : Int32) by decide), if_neg (show ¬ nI 9 = (4 : Int32) by decide), if_neg (show ¬ nI 9 = (5 : Int32) by decide), if_neg (show ¬ nI 9 = (6 : Int32) by decide), if_neg (show ¬ nI 9 = (7 : Int32) by decide), if_neg (show ¬ nI 9 = (8 : Int32) by decide), if_pos (show nI 9 = (9 : Int32) from rfl), show pz_bare R = 0 from if_neg (by omega), if_pos rfl]
theorem pz_does {tl : fl_Ch} {fh : fl_Ln} {tr od rk be fr : fl_A} {fs : Int32} {g : Nat} (hg : g < 100000) (h : pz_TR tl tr) : ∃ r tl' fh' tr' od' rk' be' fr' fs', P_SC_runCommand tl fh (nI (g / 10000)) (nI (g % 10000)) = some (r, tl', fh') ∧ P_M_does tr od rk be fr fs (nI g) = some (r, tr', od', rk', be', fr', fs') ∧ (r = 0 ∨ (r = 1 ∧ pz_TR tl' tr')) := by
  rw [pz_does_M hg]
  have hK : g / 10000 ≤ 9 := by omega
  generalize hKK : g / 10000 = K at hK ⊢
  rcases (show K = 0 ∨ K = 1 ∨ K = 2 ∨ K = 3 ∨ K = 4 ∨ K = 5 ∨ K = 6 ∨ K = 7 ∨ K = 8 ∨ K = 9 by omega) with rfl | rfl | rfl | rfl | rfl | rfl | rfl | rfl | rfl | rfl
  · exact pz_do0 hg rfl h
  · exact pz_do1 hg rfl h
  · exact pz_do2 hg rfl h
  · exact pz_do3 hg rfl h
  · exact pz_do4 hg rfl h
  · exact pz_do5 hg rfl h
  · exact pz_do6 hg rfl h
  · exact pz_do7 hg rfl h
  · exact pz_do8 hg rfl h
  · exact pz_do9 hg rfl h
