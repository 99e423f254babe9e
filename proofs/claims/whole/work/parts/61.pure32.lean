/-! THE FOUR ACTIONS THAT ARE REMEMBERED, on both sides -/
theorem pz_TR_RR {ch : fl_Ch} {f : fl_A} (h : pz_TR ch f) : pz_RR ch.1 f := by
  obtain ⟨N, V, S, c, len, hR, hO, -⟩ := h
  exact ⟨N, V, S, c, len, hR, hO⟩
theorem pz_singA {tx fh : fl_Ln} {pn : fl_Ch} {sc nw di od rk be fr : fl_A} {ss rf fs ho hs ac : Int32} {hv : List fl_Sg} {L : Nat} (hT : pz_TX tx sc ss L) (hP : pz_TR pn nw) (hH : pz_HI ho hs hv di ac) :
    (P_SC_sing tx pn fh ho hs hv = some (.inl 2) ∧ P_M_sing rf sc ss nw di ac od rk be fr fs = some (0, 1, nw, di, ac, od, rk, be, fr, fs)) ∨ ∃ v pn' fh' ho' hs' hv' nw' di' ac' od' rk' be' fr' fs', P_SC_sing tx pn fh ho hs hv = some (.inr (v, pn', fh', ho', hs', hv')) ∧ P_M_sing rf sc ss nw di ac od rk be fr fs = some (v, 0, nw', di', ac', od', rk', be', fr', fs') ∧ pz_TR pn' nw' ∧ pz_HI ho' hs' hv' di' ac' := by
  obtain ⟨ho', hs', hv', di', ac', r1, r2, r3⟩ := pz_remember hH (pz_TR_RR hP)
  obtain ⟨N, V, S, c, len, hR, hO, hC⟩ := hP
  unfold P_SC_sing P_M_sing P_M_sing_J13
  rw [pz_ref0, pz_ref1]
  rcases pz_canSing hT with ⟨e1, e2⟩ | ⟨e1, e2, h1, h12⟩
  · left
    rw [e1, e2, fl_bd_some, fl_bd_some, if_pos rfl, if_pos rfl, fl_bd_some]
    exact ⟨rfl, if_neg (show ¬ (1 : Int32) = 0 by decide)⟩
  · right
    obtain ⟨u, fr', e3, e4, h3, h4⟩ := pz_takeText (fh := fh) (fr := fr) (fs := fs) hT h12
    obtain ⟨h, ch', od', rk', be', f', N', V', c', len', e7, e8, hR2, hO2, hC2, -⟩ := pz_sing (od := od) (rk := rk) (be := be) hR hO hC h3 h1 h12 h4
    refine ⟨h, ch', u, ho', hs', hv', f', di', ac', od', rk', be', fr', nI L, ?_, ?_, ⟨N', V', S, c', len', hR2, hO2, hC2⟩, r3⟩
    · rw [e1, fl_bd_some, if_neg (show ¬ (1 : Int32) = 0 by decide), r1, fl_bd_some, e3, fl_bd_some, e7, fl_bd_some]
    · rw [e2, fl_bd_some, if_neg (show ¬ (1 : Int32) = 0 by decide), fl_bd_some, if_pos (show (((0 : Int32), (0 : Int32)).1 = 0) from rfl), r2, fl_bd_some, e4, fl_bd_some]
      dsimp only
      rw [e8, fl_bd_some]
theorem pz_againA {fh : fl_Ln} {pn : fl_Ch} {nw di od rk be fr : fl_A} {rf fs ho hs ac p : Int32} {hv : List fl_Sg} (hP : pz_TR pn nw) (hH : pz_HI ho hs hv di ac) :
    (P_SC_again pn fh ho hs hv p = some (.inl 3) ∧ P_M_again rf nw di ac od rk be fr fs p = some (0, 1, nw, di, ac, od, rk, be, fr, fs)) ∨ ∃ v pn' fh' ho' hs' hv' nw' di' ac' od' rk' be' fr' fs', P_SC_again pn fh ho hs hv p = some (.inr (v, pn', fh', ho', hs', hv')) ∧ P_M_again rf nw di ac od rk be fr fs p = some (v, 0, nw', di', ac', od', rk', be', fr', fs') ∧ pz_TR pn' nw' ∧ pz_HI ho' hs' hv' di' ac' := by
  obtain ⟨ho', hs', hv', di', ac', r1, r2, r3⟩ := pz_remember hH (pz_TR_RR hP)
  obtain ⟨N, V, S, c, len, hR, hO, hC⟩ := hP
  have hVN := pz_OK_V hO
  have hN := hO.1
  unfold P_SC_again P_M_again P_M_again_J14
  rw [pz_ref0, pz_ref1]
  rcases pz_isVerse hR.1 hR.2.2.1 (by omega) p with ⟨e1, e2⟩ | ⟨v, hv0, rfl, e1, e2⟩
  · left
    rw [e1, e2, fl_bd_some, fl_bd_some, if_pos rfl, if_pos rfl, fl_bd_some]
    exact ⟨rfl, if_neg (show ¬ (1 : Int32) = 0 by decide)⟩
  · right
    have hlk := hO.2.2.1 _ hv0
    obtain ⟨u, fr1, e3, h3, h4, e4⟩ := pz_takeVerse (fh := fh) (od := od) (rk := rk) (be := be) (fr := fr) (fs := fs) hR.1 hR.2.2.1 hO.2.1 hN (by omega) hv0 hlk.2
    obtain ⟨h, ch', od', rk', be', f', N', V', c', len', e7, e8, hR2, hO2, hC2, -⟩ := pz_sing (od := od) (rk := rk) (be := be) hR hO hC h3 hlk.1 hlk.2 h4
    refine ⟨h, ch', u, ho', hs', hv', f', di', ac', od', rk', be', fr1, nI (len v), ?_, ?_, ⟨N', V', S, c', len', hR2, hO2, hC2⟩, r3⟩
    · rw [e1, fl_bd_some, if_neg (show ¬ (1 : Int32) = 0 by decide), r1, fl_bd_some, e3, fl_bd_some, e7, fl_bd_some]
    · rw [e2, fl_bd_some, if_neg (show ¬ (1 : Int32) = 0 by decide), fl_bd_some, if_pos (show (((0 : Int32), (0 : Int32)).1 = 0) from rfl), r2, fl_bd_some, e4, e8, fl_bd_some, fl_bd_some]
theorem pz_forgetA {pn : fl_Ch} {nw di od rk be : fl_A} {rf ho hs ac : Int32} {hv : List fl_Sg} (hP : pz_TR pn nw) (hH : pz_HI ho hs hv di ac) :
    (P_SC_forget pn ho hs hv = some (.inl 2) ∧ P_M_forget rf nw di ac od rk be = some (0, 1, nw, di, ac, od, rk, be)) ∨ ∃ v pn' ho' hs' hv' nw' di' ac' od' rk' be', P_SC_forget pn ho hs hv = some (.inr (v, pn', ho', hs', hv')) ∧ P_M_forget rf nw di ac od rk be = some (v, 0, nw', di', ac', od', rk', be') ∧ pz_TR pn' nw' ∧ pz_HI ho' hs' hv' di' ac' := by
  obtain ⟨ho', hs', hv', di', ac', r1, r2, r3⟩ := pz_remember hH (pz_TR_RR hP)
  obtain ⟨N, V, S, c, len, hR, hO, hC⟩ := hP
  have hVN := pz_OK_V hO
  have hN := hO.1
  unfold P_SC_forget P_M_forget P_M_forget_J15
  rw [pz_ref0, pz_ref1, pz_ck1, pz_c1, hR.1.2.1, hR.2.2.1.2.1]
  by_cases y : V = 0
  · left
    have y0 : nI V = 0 := by rw [y]; rfl
    rw [if_pos y0, if_pos y0, fl_bd_some]
    exact ⟨rfl, if_neg (show ¬ (1 : Int32) = 0 by decide)⟩
  · right
    have y0 : ¬ nI V = 0 := nI_ne0 (by omega) (by omega)
    obtain ⟨h, ch', od', rk', be', f', N', V', c', len', e7, e8, hR2, hO2, hC2⟩ := pz_forget (od := od) (rk := rk) (be := be) hR hO hC (by omega)
    refine ⟨h, ch', ho', hs', hv', f', di', ac', od', rk', be', ?_, ?_, ⟨N', V', S, c', len', hR2, hO2, hC2⟩, r3⟩
    · rw [if_neg y0, r1, fl_bd_some, e7, fl_bd_some]
    · rw [if_neg y0, fl_bd_some, if_pos (show (((0 : Int32), (0 : Int32)).1 = 0) from rfl), r2, fl_bd_some, e8, fl_bd_some]
theorem pz_setSingersA {pn : fl_Ch} {nw di od rk be : fl_A} {rf ho hs ac p : Int32} {hv : List fl_Sg} (hP : pz_TR pn nw) (hH : pz_HI ho hs hv di ac) :
    (P_SC_setSingers pn ho hs hv p = some (.inl 1) ∧ P_M_setSingers rf nw di ac od rk be p = some (0, 1, nw, di, ac, od, rk, be)) ∨ ∃ v pn' ho' hs' hv' nw' di' ac' od' rk' be', P_SC_setSingers pn ho hs hv p = some (.inr (v, pn', ho', hs', hv')) ∧ P_M_setSingers rf nw di ac od rk be p = some (v, 0, nw', di', ac', od', rk', be') ∧ pz_TR pn' nw' ∧ pz_HI ho' hs' hv' di' ac' := by
  obtain ⟨ho', hs', hv', di', ac', r1, r2, r3⟩ := pz_remember hH (pz_TR_RR hP)
  obtain ⟨N, V, S, c, len, hR, hO, hC⟩ := hP
  unfold P_SC_setSingers P_M_setSingers P_M_setSingers_J13 P_M_isChoir
  rw [pz_ref0, pz_ref1, pz_1x, pz_8x]
  by_cases q1 : p < (1 : Int32)
  · left
    rw [if_pos q1, pz_in_no (Or.inl q1), fl_bd_some, pz_bl0, fl_bd_some, if_pos rfl, fl_bd_some]
    exact ⟨rfl, if_neg (show ¬ (1 : Int32) = 0 by decide)⟩
  · by_cases q2 : (8 : Int32) < p
    · left
      rw [if_neg q1, if_neg (pz_ngt q2), pz_in_no (Or.inr q2), fl_bd_some, pz_bl0, fl_bd_some, if_pos rfl, fl_bd_some]
      exact ⟨rfl, if_neg (show ¬ (1 : Int32) = 0 by decide)⟩
    · right
      have h0 : ¬ p < 0 := by
        rw [Int32.lt_iff_toInt_lt] at q1 ⊢
        have e1 : (1 : Int32).toInt = 1 := by decide
        have e0 : (0 : Int32).toInt = 0 := by decide
        omega
      rw [if_neg q1, if_pos (pz_nle q2), pz_in_yes q1 q2, fl_bd_some, pz_bl1, fl_bd_some, if_neg (show ¬ (1 : Int32) = 0 by decide)]
      obtain ⟨m, hm, rfl⟩ := nI_of2 (x := p) (M := (8 : Int32)) (n := 8) (by decide) h0 (pz_nle q2)
      have hm1 : 1 ≤ m := by
        rcases Nat.lt_or_ge 0 m with y | y
        · exact y
        · obtain rfl : m = 0 := by omega
          exact absurd (show nI 0 < (1 : Int32) by decide) q1
      obtain ⟨h, ch', od', rk', be', f', e7, e8, hR2, hO2, hC2⟩ := pz_setSingers (S2 := m) (od := od) (rk := rk) (be := be) hR hO hC hm1 hm
      refine ⟨h, ch', ho', hs', hv', f', di', ac', od', rk', be', ?_, ?_, ⟨N, V, m, c, len, hR2, hO2, hC2⟩, r3⟩
      · rw [r1, fl_bd_some, e7, fl_bd_some]
      · rw [fl_bd_some, if_pos (show (((0 : Int32), (0 : Int32)).1 = 0) from rfl), r2, fl_bd_some, e8, fl_bd_some]
