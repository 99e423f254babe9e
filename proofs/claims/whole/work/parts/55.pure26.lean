/-! WHAT WOULD BE: wouldRepeat, bestSingers, bestAgain, on both sides -/
theorem pz_lonB {ch : fl_Ch} {f od rk : fl_A} {N V S : Nat} {c : Nat → Int32} {len : Nat → Nat} (hR : pz_R ch.1 f N V S c len) (hO : pz_OK N V S len) (hC : pz_CH ch N S) : ∃ od' rk', P_Or_longestRepeat ch.2.1 = some (nI (pz_lon ch.1.1 N)) ∧ P_M_longest od rk f = some (nI (pz_lon ch.1.1 N), od', rk') := by
  have hN := hO.1
  obtain ⟨od', rk', e⟩ := pz_M_longest (od := od) (rk := rk) (f := f) (N := N) (by omega) hR.2.2.1.1
  rw [pz_lon_congr (pz_codes hR)] at e
  exact ⟨od', rk', pz_Or_longest hN hC.1, e⟩
theorem pz_pcsB {ch : fl_Ch} {f od rk : fl_A} {N V S : Nat} {c : Nat → Int32} {len : Nat → Nat} (hR : pz_R ch.1 f N V S c len) (hO : pz_OK N V S len) (hC : pz_CH ch N S) : ∃ od' rk', P_Or_pieces ch.2.1 = some (nI (pz_pcs ch.1.1 N)) ∧ P_M_pieces od rk f = some (nI (pz_pcs ch.1.1 N), od', rk') := by
  have hN := hO.1
  obtain ⟨od', rk', e⟩ := pz_M_pieces (od := od) (rk := rk) (f := f) (N := N) (by omega) hR.2.2.1.1
  rw [pz_pcs_congr (pz_codes hR)] at e
  exact ⟨od', rk', pz_Or_pieces hN hC.1, e⟩
theorem pz_wouldRepeat {tx fh : fl_Ln} {pn tl : fl_Ch} {nw tr sc od rk be fr : fl_A} {ss fs rf : Int32} {L N V S : Nat} {c : Nat → Int32} {len : Nat → Nat} (hT : pz_TX tx sc ss L) (hR : pz_R pn.1 nw N V S c len) (hO : pz_OK N V S len) (hC : pz_CH pn N S) :
    ∃ v tl' fh' tr' od' rk' be' fr' fs', P_SC_wouldRepeat tx pn tl fh = some (v, tl', fh') ∧ P_M_wouldRepeat rf sc ss nw tr od rk be fr fs = some (v, 0, tr', od', rk', be', fr', fs') := by
  unfold P_SC_wouldRepeat P_M_wouldRepeat
  rcases pz_canSing hT with ⟨e1, e2⟩ | ⟨e1, e2, h1, h12⟩
  · rw [e1, e2, fl_bd_some, fl_bd_some, if_pos rfl, if_pos rfl]
    exact ⟨_, _, _, _, _, _, _, _, _, rfl, rfl⟩
  · obtain ⟨u, fr', e3, e4, h3, h4⟩ := pz_takeText (fh := fh) (fr := fr) (fs := fs) hT h12
    obtain ⟨ch, tr', e5, e6, hR1, hC1⟩ := pz_begin (tl := tl) (tr := tr) hR hO hC
    obtain ⟨h, ch', od', rk', be', f', N', V', c', len', e7, e8, hR2, hO2, hC2, -⟩ := pz_sing (od := od) (rk := rk) (be := be) hR1 hO hC1 h3 h1 h12 h4
    obtain ⟨od2, rk2, e9, e10⟩ := pz_lonB (od := od') (rk := rk') hR2 hO2 hC2
    rw [e1, e2, fl_bd_some, fl_bd_some, if_neg (show ¬ (1 : Int32) = 0 by decide), if_neg (show ¬ (1 : Int32) = 0 by decide), e3, fl_bd_some, e5, fl_bd_some, e7, fl_bd_some, e6, fl_bd_some, e4, fl_bd_some]
    dsimp only
    rw [e8, fl_bd_some]
    dsimp only
    rw [e9, fl_bd_some, e10, fl_bd_some]
    exact ⟨_, _, _, _, _, _, _, _, _, rfl, rfl⟩
theorem pz_bestSingers {tx fh : fl_Ln} {pn tl : fl_Ch} {nw tr sc od rk be fr : fl_A} {ss fs rf : Int32} {L N V S : Nat} {c : Nat → Int32} {len : Nat → Nat} (hT : pz_TX tx sc ss L) (hR : pz_R pn.1 nw N V S c len) (hO : pz_OK N V S len) (hC : pz_CH pn N S) :
    ∃ v tl' fh' tr' od' rk' be' fr' fs', P_SC_bestSingers tx pn tl fh = some (v, tl', fh') ∧ P_M_bestSingers rf sc ss nw tr od rk be fr fs = some (v, 0, tr', od', rk', be', fr', fs') := by
  unfold P_SC_bestSingers P_M_bestSingers
  rcases pz_canSing hT with ⟨e1, e2⟩ | ⟨e1, e2, h1, h12⟩
  · rw [e1, fl_bd_some, if_pos rfl]
    refine ⟨_, _, _, tr, od, rk, be, fr, fs, rfl, fl_loop_inr ?_⟩
    unfold P_M_bestSingers_L11
    dsimp only
    rw [if_neg (show ¬ (8 : Int32) < 1 by decide), e2, fl_bd_some, if_pos rfl]
  · obtain ⟨u, -, e3, -, h3, -⟩ := pz_takeText (fh := fh) (fr := fr) (fs := fs) hT h12
    rw [e1, fl_bd_some, if_neg (show ¬ (1 : Int32) = 0 by decide), e3, fl_bd_some]
    suffices h : ∀ n k best few few' tl tr od rk be fr fs, n = 9 - k → 1 ≤ k → k ≤ 9 → ((best = (-1 : Int32) ∧ few = (48 : Int32)) ∨ (best ≠ (-1 : Int32) ∧ few = few')) → ∃ v tl' tr' od' rk' be' fr' fs', fl_loop (P_SC_bestSingers_L30 tx pn u) (best, few, nI k, tl) = some (v, tl', u) ∧ fl_loop (P_M_bestSingers_L11 0 sc ss nw) (best, few', nI k, tr, od, rk, be, fr, fs) = some (v, 0, tr', od', rk', be', fr', fs') by
      obtain ⟨v, tl', tr', od', rk', be', fr', fs', g1, g2⟩ := h 8 1 (-1) 48 0 tl tr od rk be fr fs rfl (Nat.le_refl _) (by omega) (Or.inl ⟨rfl, rfl⟩)
      exact ⟨v, tl', u, tr', od', rk', be', fr', fs', g1, g2⟩
    intro n
    induction n with
    | zero =>
      intro k best few few' tl tr od rk be fr fs hn hk1 hk9 _
      obtain rfl : k = 9 := by omega
      refine ⟨best, tl, tr, od, rk, be, fr, fs, fl_loop_inr ?_, fl_loop_inr ?_⟩
      · unfold P_SC_bestSingers_L30
        dsimp only
        rw [if_pos (show (8 : Int32) < nI 9 by decide)]
      · unfold P_M_bestSingers_L11
        dsimp only
        rw [if_pos (show (8 : Int32) < nI 9 by decide)]
    | succ n ih =>
      intro k best few few' tl tr od rk be fr fs hn hk1 hk9 hb
      have hk8 : k ≤ 8 := by omega
      have hk : ¬ (8 : Int32) < nI k := nI_nlt (a := 8) hk8 (by decide)
      obtain ⟨u2, fr1, e3b, e4, -, h4⟩ := pz_takeText (fh := fh) (fr := fr) (fs := fs) hT h12
      obtain rfl : u = u2 := Option.some.inj (e3.symm.trans e3b)
      obtain ⟨ch, tr1, e5, e6, hR1, hC1⟩ := pz_begin (tl := tl) (tr := tr) hR hO hC
      obtain ⟨h0, ch2, od1, rk1, be1, f2, e7, -, hR2, hO2, hC2⟩ := pz_setSingers (od := od) (rk := rk) (be := be) hR1 hO hC1 hk1 hk8
      have hSF : pz_SF (upd tr1 2 (nI k)) N V c len := ⟨by rw [pz_updN (by decide)]; exact hR1.2.2.1.1, by rw [pz_updN (by decide)]; exact hR1.2.2.1.2.1, fun i hi => by rw [pz_updN (by omega)]; exact hR1.2.2.1.2.2.1 i hi, fun v hv => by rw [pz_updN (by omega)]; exact hR1.2.2.1.2.2.2 v hv⟩
      obtain ⟨x, ch3, od3, rk3, be3, f3, hx, e8, e9⟩ := pz_singW (od := od) (rk := rk) (be := be) hR2.1 hR2.2.1 hSF pz_updS hO2 hC2 h3 h1 h12 h4
      have hC' : fl_loop (P_SC_bestSingers_L30 tx pn u) (best, few, nI k, tl) = fl_loop (P_SC_bestSingers_L30 tx pn u) (if few < nI x then (best, few, nI (k + 1), ch3) else (nI k, nI x, nI (k + 1), ch3)) := by
        refine fl_loop_inl ?_
        unfold P_SC_bestSingers_L30 P_SC_bestSingers_J80
        dsimp only
        rw [if_neg hk, e5, fl_bd_some, e7, fl_bd_some]
        dsimp only
        rw [e8, fl_bd_some, nI_1]
        split <;> rfl
      have hM' : fl_loop (P_M_bestSingers_L11 0 sc ss nw) (best, few', nI k, tr, od, rk, be, fr, fs) = fl_loop (P_M_bestSingers_L11 0 sc ss nw) (if best = (-1 : Int32) then (nI k, nI x, nI (k + 1), f3, od3, rk3, be3, fr1, nI L) else if few' < nI x then (best, few', nI (k + 1), f3, od3, rk3, be3, fr1, nI L) else (nI k, nI x, nI (k + 1), f3, od3, rk3, be3, fr1, nI L)) := by
        refine fl_loop_inl ?_
        unfold P_M_bestSingers_L11 P_M_bestSingers_J60 P_M_bestSingers_J65
        dsimp only
        rw [if_neg hk, e2, fl_bd_some, if_neg (show ¬ (1 : Int32) = 0 by decide), e6, fl_bd_some, pz_ck2, pz_c2, e4, fl_bd_some]
        dsimp only
        rw [e9, fl_bd_some, nI_1]
        split
        · rfl
        · split <;> rfl
      have hkm : nI k ≠ (-1 : Int32) := fun z => by
        have := nI_pos (n := k) (by omega)
        rw [z] at this
        exact this (by decide)
      rw [hC', hM']
      rcases hb with ⟨b1, b2⟩ | ⟨b1, b2⟩
      · rw [if_pos b1, b2, if_neg (show ¬ (48 : Int32) < nI x from nI_nlt (a := 48) hx (by decide))]
        exact ih (k + 1) _ _ _ _ _ _ _ _ _ _ (by omega) (by omega) (by omega) (Or.inr ⟨hkm, rfl⟩)
      · rw [if_neg b1, b2]
        by_cases y : few' < nI x
        · rw [if_pos y, if_pos y]
          exact ih (k + 1) _ _ _ _ _ _ _ _ _ _ (by omega) (by omega) (by omega) (Or.inr ⟨b1, rfl⟩)
        · rw [if_neg y, if_neg y]
          exact ih (k + 1) _ _ _ _ _ _ _ _ _ _ (by omega) (by omega) (by omega) (Or.inr ⟨hkm, rfl⟩)
theorem pz_sum_one {g : Nat → Nat} {i : Nat} : ∀ n, i < n → g i ≤ pz_sum g n := by
  intro n
  induction n with
  | zero => intro h; omega
  | succ n ih =>
    intro h
    rw [pz_sum]
    by_cases y : i = n
    · subst y; omega
    · have := ih (by omega); omega
theorem pz_pcs_pos (c : Nat → Int32) {N : Nat} (h : 0 < N) : 0 < pz_pcs c N := by
  obtain ⟨i, hi, hr⟩ := pz_rk_surj (c := c) h
  have := pz_sum_one (g := fun i => N - i - pz_sh c N i) N hi
  try dsimp only at this
  rw [pz_sh_first hi hr] at this
  unfold pz_pcs
  omega
theorem pz_pcs_le (c : Nat → Int32) {N : Nat} (h : N ≤ 48) : pz_pcs c N ≤ 2400 := by
  have h1 := (pz_pcs_eq c N).1
  have h2 : N * (N + 1) ≤ 48 * 49 := Nat.mul_le_mul h (by omega)
  omega
theorem pz_bestAgain {fh : fl_Ln} {pn tl : fl_Ch} {nw tr od rk be fr : fl_A} {fs rf : Int32} {N V S : Nat} {c : Nat → Int32} {len : Nat → Nat} (hR : pz_R pn.1 nw N V S c len) (hO : pz_OK N V S len) (hC : pz_CH pn N S) :
    ∃ v tl' fh' tr' od' rk' be' fr' fs', P_SC_bestAgain pn tl fh = some (v, tl', fh') ∧ P_M_bestAgain rf nw tr od rk be fr fs = some (v, 0, tr', od', rk', be', fr', fs') := by
  have hVN := pz_OK_V hO
  have hN := hO.1
  unfold P_SC_bestAgain P_M_bestAgain
  suffices h : ∀ n k best mo tl fh tr od rk be fr fs, n = V - k → k ≤ V → (best = (-1 : Int32) → mo = (0 : Int32)) → ∃ v tl' fh' tr' od' rk' be' fr' fs', fl_loop (P_SC_bestAgain_L6 pn) (best, mo, nI k, tl, fh) = some (v, tl', fh') ∧ fl_loop (P_M_bestAgain_L11 0 nw) (best, mo, nI k, tr, od, rk, be, fr, fs) = some (v, 0, tr', od', rk', be', fr', fs') by
    exact h V 0 (-1) 0 tl fh tr od rk be fr fs rfl (Nat.zero_le _) (fun _ => rfl)
  intro n
  induction n with
  | zero =>
    intro k best mo tl fh tr od rk be fr fs hn hk _
    obtain rfl : k = V := by omega
    refine ⟨best, tl, fh, tr, od, rk, be, fr, fs, fl_loop_inr ?_, fl_loop_inr ?_⟩
    · unfold P_SC_bestAgain_L6
      dsimp only
      rw [hR.1.2.1, if_pos (nI_le (Nat.le_refl _) (by omega))]
    · unfold P_M_bestAgain_L11
      dsimp only
      rw [pz_ck1, pz_c1, hR.2.2.1.2.1, if_pos (nI_le (Nat.le_refl _) (by omega))]
  | succ n ih =>
    intro k best mo tl fh tr od rk be fr fs hn hk hb
    have hkV : k < V := by omega
    have hlk := hO.2.2.1 k hkV
    obtain ⟨ch, tr1, e5, e6, hR1, hC1⟩ := pz_begin (tl := tl) (tr := tr) hR hO hC
    obtain ⟨u, fr1, e3, h3, h4, e4⟩ := pz_takeVerse (fh := fh) (od := od) (rk := rk) (be := be) (fr := fr) (fs := fs) hR.1 hR1.2.2.1 hO.2.1 hN (by omega) hkV hlk.2
    obtain ⟨h, ch', od', rk', be', f', N', V', c', len', e7, e8, hR2, hO2, hC2, hV'⟩ := pz_sing (od := od) (rk := rk) (be := be) hR1 hO hC1 h3 hlk.1 hlk.2 h4
    obtain ⟨od2, rk2, e9, e10⟩ := pz_pcsB (od := od') (rk := rk') hR2 hO2 hC2
    have hpp := pz_pcs_pos ch'.1.1 hV'
    have hpl := pz_pcs_le ch'.1.1 hO2.1
    generalize pz_pcs ch'.1.1 N' = x at e9 e10 hpp hpl
    have hC' : fl_loop (P_SC_bestAgain_L6 pn) (best, mo, nI k, tl, fh) = fl_loop (P_SC_bestAgain_L6 pn) (if nI x ≤ mo then (best, mo, nI (k + 1), ch', u) else (nI k, nI x, nI (k + 1), ch', u)) := by
      refine fl_loop_inl ?_
      unfold P_SC_bestAgain_L6 P_SC_bestAgain_J81
      dsimp only
      rw [hR.1.2.1, if_neg (nI_ge hkV (by omega)), e3, fl_bd_some, e5, fl_bd_some, e7, fl_bd_some]
      dsimp only
      rw [e9, fl_bd_some, nI_1]
      split <;> rfl
    have hM' : fl_loop (P_M_bestAgain_L11 0 nw) (best, mo, nI k, tr, od, rk, be, fr, fs) = fl_loop (P_M_bestAgain_L11 0 nw) (if best = (-1 : Int32) then (nI k, nI x, nI (k + 1), f', od2, rk2, be', fr1, nI (len k)) else if nI x ≤ mo then (best, mo, nI (k + 1), f', od2, rk2, be', fr1, nI (len k)) else (nI k, nI x, nI (k + 1), f', od2, rk2, be', fr1, nI (len k))) := by
      refine fl_loop_inl ?_
      unfold P_M_bestAgain_L11 P_M_bestAgain_J56 P_M_bestAgain_J61
      dsimp only
      rw [pz_ck1, pz_c1, hR.2.2.1.2.1, if_neg (nI_ge hkV (by omega)), e6, fl_bd_some, e4, e8, fl_bd_some, fl_bd_some]
      dsimp only
      rw [e10, fl_bd_some, nI_1]
      split
      · rfl
      · split <;> rfl
    have hkm : nI k ≠ (-1 : Int32) := fun z => by
      have := nI_pos (n := k) (by omega)
      rw [z] at this
      exact this (by decide)
    rw [hC', hM']
    by_cases b1 : best = (-1 : Int32)
    · rw [if_pos b1, hb b1, if_neg (nI_nle hpp (by omega))]
      exact ih (k + 1) _ _ _ _ _ _ _ _ _ _ (by omega) (by omega) (fun z => absurd z hkm)
    · rw [if_neg b1]
      by_cases y : nI x ≤ mo
      · rw [if_pos y, if_pos y]
        exact ih (k + 1) _ _ _ _ _ _ _ _ _ _ (by omega) (by omega) (fun z => absurd z b1)
      · rw [if_neg y, if_neg y]
        exact ih (k + 1) _ _ _ _ _ _ _ _ _ _ (by omega) (by omega) (fun z => absurd z hkm)
