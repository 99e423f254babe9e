/-! A SIMULATION, on both sides -/
theorem pz_cu64 : ((33 : Int32).toInt64.toUInt64 &&& Int64.toUInt64 63) = UInt64.ofNat 33 := by decide +kernel
theorem pz_l64 (x : Int64) : ∃ n, n < 2 ^ 64 ∧ x = lN n := ⟨x.toBitVec.toNat, x.toBitVec.isLt, Int64.toBitVec_inj.mp (by show _ = BitVec.ofNat 64 _; simp)⟩
/-- the number that a step of the simulation draws -/
theorem pz_draw (x : Int64) : ∃ r, r < 2 ^ 31 ∧ ((x.toUInt64 >>> ((33 : Int32).toInt64.toUInt64 &&& Int64.toUInt64 63)).toInt64).toInt32 = nI r := by
  obtain ⟨n, hn, rfl⟩ := pz_l64 x
  have e : ((lN n).toUInt64 >>> ((33 : Int32).toInt64.toUInt64 &&& Int64.toUInt64 63)).toInt64 = lN (n / 2 ^ 33) := by
    rw [pz_cu64]
    apply Int64.toBitVec_inj.mp
    apply BitVec.eq_of_toNat_eq
    show ((lN n).toUInt64 >>> UInt64.ofNat 33).toNat = (BitVec.ofNat 64 _).toNat
    have h1 : (UInt64.ofNat 33).toNat = 33 := by decide
    have h2 : (lN n).toUInt64.toNat = n := by
      show (BitVec.ofNat 64 n).toNat = n
      rw [BitVec.toNat_ofNat, Nat.mod_eq_of_lt hn]
    rw [UInt64.toNat_shiftRight, h1, h2, Nat.mod_eq_of_lt (by decide), Nat.shiftRight_eq_div_pow, BitVec.toNat_ofNat, Nat.mod_eq_of_lt (Nat.lt_of_le_of_lt (Nat.div_le_self _ _) hn)]
  rw [e, lN_i]
  exact ⟨n / 2 ^ 33, by omega, rfl⟩
theorem pz_d4 {a : Nat} (ha : a < 2 ^ 31) : nI a / (4 : Int32) = nI (a / 4) := pk_div (d := 4) ha (by decide) (by decide)
theorem pz_d8 {a : Nat} (ha : a < 2 ^ 31) : nI a / (8 : Int32) = nI (a / 8) := pk_div (d := 8) ha (by decide) (by decide)
theorem pz_d64 {a : Nat} (ha : a < 2 ^ 31) : nI a / (64 : Int32) = nI (a / 64) := pk_div (d := 64) ha (by decide) (by decide)
theorem pz_d256 {a : Nat} (ha : a < 2 ^ 31) : nI a / (256 : Int32) = nI (a / 256) := pk_div (d := 256) ha (by decide) (by decide)
theorem pz_d1024 {a : Nat} (ha : a < 2 ^ 31) : nI a / (1024 : Int32) = nI (a / 1024) := pk_div (d := 1024) ha (by decide) (by decide)
theorem pz_d4096 {a : Nat} (ha : a < 2 ^ 31) : nI a / (4096 : Int32) = nI (a / 4096) := pk_div (d := 4096) ha (by decide) (by decide)
theorem pz_r3 {a : Nat} (ha : a < 2 ^ 31) : nI a - nI a / (3 : Int32) * (3 : Int32) = nI (a % 3) := pk_rem (d := 3) ha (by decide) (by decide)
theorem pz_r4 {a : Nat} (ha : a < 2 ^ 31) : nI a - nI a / (4 : Int32) * (4 : Int32) = nI (a % 4) := pk_rem (d := 4) ha (by decide) (by decide)
theorem pz_div4 (r i : Nat) : r / 64 / 4 ^ i / 4 = r / 64 / 4 ^ (i + 1) := by rw [Nat.div_div_eq_div_mul (r / 64) (4 ^ i) 4, ← Nat.pow_succ]
/-- one step of a simulation -/
theorem pz_stir {tl : fl_Ch} {fh : fl_Ln} {tr od rk be fr : fl_A} {fs : Int32} {r : Nat} (hr : r < 2 ^ 31) (h : pz_TR tl tr) : ∃ u x tl' tr' od' rk' be' fr' fs', P_SC_takeSimulated tl fh (nI r) = some u ∧ P_Ch_addVerse 12 tl u = some (x, tl') ∧ P_M_stir tr od rk be fr fs (nI r) = some (x, tr', od', rk', be', fr', fs') ∧ pz_TR tl' tr' := by
  obtain ⟨N, V, S, c, len, hR, hO, hC⟩ := h
  have hVN := pz_OK_V hO
  have hN := hO.1
  have hJ : ∃ u x tl' tr' od' rk' be' fr' fs', P_SC_takeSimulated_J42 tl fh (nI r) = some u ∧ P_Ch_addVerse 12 tl u = some (x, tl') ∧ P_M_stir_J32 tr od rk be fr fs (nI r) = some (x, tr', od', rk', be', fr', fs') ∧ pz_TR tl' tr' := by
    have hl : r / 8 % 4 + 1 ≤ 4 := by omega
    have e0 : (1 : Int32) + ((nI r / (8 : Int32)) - (nI r / (8 : Int32)) / (4 : Int32) * (4 : Int32)) = nI (r / 8 % 4 + 1) := by
      rw [pz_d8 hr, pz_r4 (by omega), Nat.add_comm]
      exact nI_add 1 (r / 8 % 4)
    generalize hll : r / 8 % 4 + 1 = l at hl e0
    have hu : ∃ u, P_SC_takeSimulated_J42 tl fh (nI r) = some u ∧ u.2 = nI l ∧ ∀ i, i < l → u.1 i = (97 : Int32) + nI (r / 64 / 4 ^ i % 3) := by
      unfold P_SC_takeSimulated_J42 P_Ln_empty
      rw [fl_bd_some, e0, pz_d64 hr]
      exact fl_loop_inv (b := P_SC_takeSimulated_L67 tl (nI l)) (fun n z => ∃ t, z.2.1 = nI t ∧ t ≤ l ∧ n = l - t ∧ z.1 = nI (r / 64 / 4 ^ t) ∧ z.2.2.2 = nI t ∧ ∀ i, i < t → z.2.2.1 i = (97 : Int32) + nI (r / 64 / 4 ^ i % 3)) (fun u => u.2 = nI l ∧ ∀ i, i < l → u.1 i = (97 : Int32) + nI (r / 64 / 4 ^ i % 3)) (by
        rintro n ⟨z1, z2, z3⟩ ⟨t, h1, ht, rfl, h2, h3, h4⟩
        dsimp only at h1 h2 h3 h4
        subst h1 h2
        unfold P_SC_takeSimulated_L67
        dsimp only
        have hb : r / 64 / 4 ^ t < 2 ^ 31 := Nat.lt_of_le_of_lt (Nat.div_le_self _ _) (by omega)
        by_cases hlt : t < l
        · left
          rw [if_neg (nI_ge hlt (by omega)), pz_r3 hb, pz_add h3 (by omega), fl_bd_some, pz_d4 hb, pz_div4, nI_1]
          refine ⟨_, l - (t + 1), rfl, by omega, t + 1, rfl, by omega, rfl, rfl, rfl, fun i hi => ?_⟩
          dsimp only
          by_cases y : i = t
          · subst y; rw [pz_updS]
          · rw [pz_updN y]; exact h4 i (by omega)
        · right
          obtain rfl : t = l := by omega
          rw [if_pos (nI_le (Nat.le_refl _) (by omega))]
          exact ⟨_, rfl, h3, h4⟩) l (nI (r / 64), 0, fh.1, 0) ⟨0, rfl, Nat.zero_le _, rfl, by rw [Nat.pow_zero, Nat.div_one], rfl, fun i hi => absurd hi (Nat.not_lt_zero _)⟩
    obtain ⟨u, e1, h3, h4⟩ := hu
    generalize hfr : upd (upd (upd (upd fr 0 ((97 : Int32) + nI (r / 64 % 3))) 1 ((97 : Int32) + nI (r / 256 % 3))) 2 ((97 : Int32) + nI (r / 1024 % 3))) 3 ((97 : Int32) + nI (r / 4096 % 3)) = fr1
    have hfu : ∀ i, i < l → fr1 i = u.1 i := by
      intro i hi
      rw [h4 i hi, ← hfr]
      rcases (show i = 0 ∨ i = 1 ∨ i = 2 ∨ i = 3 by omega) with rfl | rfl | rfl | rfl
      · rw [pz_updN (by decide), pz_updN (by decide), pz_updN (by decide), pz_updS, Nat.pow_zero, Nat.div_one]
      · rw [pz_updN (by decide), pz_updN (by decide), pz_updS, show r / 64 / 4 ^ 1 = r / 256 by omega]
      · rw [pz_updN (by decide), pz_updS, show r / 64 / 4 ^ 2 = r / 1024 by omega]
      · rw [pz_updS, show r / 64 / 4 ^ 3 = r / 4096 by omega]
    obtain ⟨x, ch', od', rk', be', f', N', V', c', len', e7, e8, hR2, hO2, hC2, -⟩ := pz_sing (od := od) (rk := rk) (be := be) hR hO hC h3 (by omega) (by omega) hfu
    refine ⟨u, x, ch', f', od', rk', be', fr1, nI l, e1, e7, ?_, N', V', S, c', len', hR2, hO2, hC2⟩
    unfold P_M_stir_J32
    rw [e0, pz_d64 hr, pz_d256 hr, pz_d1024 hr, pz_d4096 hr, pz_r3 (by omega), pz_r3 (by omega), pz_r3 (by omega), pz_r3 (by omega), pz_c0, pz_c1, pz_c2, pz_c3, hfr, e8]
    rw [show fl_ck (0 : Int32) 12 = fl_ck (nI 0) 12 from rfl, show fl_ck (1 : Int32) 12 = fl_ck (nI 1) 12 from rfl, show fl_ck (2 : Int32) 12 = fl_ck (nI 2) 12 from rfl, show fl_ck (3 : Int32) 12 = fl_ck (nI 3) 12 from rfl, pz_ck (by decide) (by decide), pz_ck (by decide) (by decide), pz_ck (by decide) (by decide), pz_ck (by decide) (by decide), fl_bd_some]
  unfold P_SC_takeSimulated P_M_stir
  rw [pz_r4 hr, pz_ck1, pz_c1, hR.2.2.1.2.1, hR.1.2.1]
  by_cases y : r % 4 = 0
  · rw [if_pos (show nI (r % 4) = 0 by rw [y]; rfl), if_pos (show nI (r % 4) = 0 by rw [y]; rfl)]
    by_cases w : V = 0
    · rw [if_pos (show nI V ≤ 0 by rw [w]; decide), if_pos (show nI V ≤ 0 by rw [w]; decide)]
      exact hJ
    · rw [if_neg (nI_nle (by omega) (by omega)), if_neg (nI_nle (by omega) (by omega)), pz_nz (by omega) (by omega), pz_nz (by omega) (by omega), pz_d8 hr, pk_rem (by omega) (by omega) (by omega)]
      have hv : r / 8 % V < V := Nat.mod_lt _ (by omega)
      have hlk := hO.2.2.1 _ hv
      obtain ⟨u, fr1, e3, h3, h4, e4⟩ := pz_takeVerse (fh := fh) (od := od) (rk := rk) (be := be) (fr := fr) (fs := fs) hR.1 hR.2.2.1 hO.2.1 hN (by omega) hv hlk.2
      obtain ⟨x, ch', od', rk', be', f', N', V', c', len', e7, e8, hR2, hO2, hC2, -⟩ := pz_sing (od := od) (rk := rk) (be := be) hR hO hC h3 hlk.1 hlk.2 h4
      refine ⟨u, x, ch', f', od', rk', be', fr1, nI (len (r / 8 % V)), ?_, e7, ?_, N', V', S, c', len', hR2, hO2, hC2⟩
      · rw [e3, fl_bd_some]
      · rw [e4, e8, fl_bd_some, fl_bd_some]
  · rw [if_neg (nI_ne0 (by omega) (by omega)), if_neg (nI_ne0 (by omega) (by omega))]
    exact hJ
theorem pz_simLoop {pn : fl_Ch} {nw : fl_A} {rf : Int32} {m : Nat} (hm : m ≤ 20) : ∀ n i (x : Int64) (h : Int32) tl fh tr od rk be fr fs, n = m - i → i ≤ m → pz_TR tl tr → ∃ v tl' fh' tr' od' rk' be' fr' fs', fl_loop (P_SC_simulate_L42 pn (nI m)) (x, h, nI i, tl, fh) = some (.inr (v, tl', fh')) ∧ fl_loop (P_M_simulate_L39 rf nw (nI m)) (x, h, nI i, tr, od, rk, be, fr, fs) = some (v, rf, tr', od', rk', be', fr', fs') := by
  intro n
  induction n with
  | zero =>
    intro i x h tl fh tr od rk be fr fs hn hi hT
    obtain rfl : i = m := by omega
    obtain ⟨N, V, S, c, len, hR, hO, hC⟩ := hT
    obtain ⟨od', rk', e1, e2⟩ := pz_lonB (od := od) (rk := rk) hR hO hC
    refine ⟨(1000 : Int32) * nI (pz_lon tl.1.1 N) + fl_mn h 999, tl, fh, tr, od', rk', be, fr, fs, fl_loop_inr ?_, fl_loop_inr ?_⟩
    · unfold P_SC_simulate_L42 P_SC_simulate_J92
      dsimp only
      rw [if_pos (nI_le (Nat.le_refl _) (by omega)), e1, fl_bd_some]
      rfl
    · unfold P_M_simulate_L39 P_M_simulate_J78
      dsimp only
      rw [if_pos (nI_le (Nat.le_refl _) (by omega)), e2, fl_bd_some]
      unfold fl_mn
      by_cases y : h ≤ (999 : Int32)
      · rw [if_pos y, if_neg (fun z => pz_ngt z y)]
        rfl
      · rw [if_neg y, if_pos (by
          rw [Int32.le_iff_toInt_le] at y
          rw [Int32.lt_iff_toInt_lt]
          omega)]
        rfl
  | succ n ih =>
    intro i x h tl fh tr od rk be fr fs hn hi hT
    have hlt : i < m := by omega
    obtain ⟨r, hr, er⟩ := pz_draw ((x * (6364136223846793005 : Int64)) + (1442695040888963407 : Int64))
    obtain ⟨u, y, tl', tr', od', rk', be', fr', fs', g1, g2, g3, g4⟩ := pz_stir (fh := fh) (od := od) (rk := rk) (be := be) (fr := fr) (fs := fs) hr hT
    have hC : P_SC_simulate_L42 pn (nI m) (x, h, nI i, tl, fh) = some (.inl ((x * (6364136223846793005 : Int64)) + (1442695040888963407 : Int64), h + y, nI (i + 1), tl', u)) := by
      unfold P_SC_simulate_L42
      dsimp only
      rw [if_neg (nI_ge hlt (by omega)), er, g1, fl_bd_some, g2, fl_bd_some, nI_1]
    have hM : P_M_simulate_L39 rf nw (nI m) (x, h, nI i, tr, od, rk, be, fr, fs) = some (.inl ((x * (6364136223846793005 : Int64)) + (1442695040888963407 : Int64), h + y, nI (i + 1), tr', od', rk', be', fr', fs')) := by
      unfold P_M_simulate_L39
      dsimp only
      rw [if_neg (nI_ge hlt (by omega)), er, g3, fl_bd_some, nI_1]
    rw [fl_loop_inl hC, fl_loop_inl hM]
    exact ih (i + 1) _ _ _ _ _ _ _ _ _ _ (by omega) (by omega) g4
theorem pz_simulate {pn tl : fl_Ch} {fh : fl_Ln} {nw tr od rk be fr : fl_A} {fs rf p : Int32} {q : Int64} {N V S : Nat} {c : Nat → Int32} {len : Nat → Nat} (hR : pz_R pn.1 nw N V S c len) (hO : pz_OK N V S len) (hC : pz_CH pn N S) :
    (P_SC_simulate pn tl fh q p = some (.inl 1) ∧ P_M_simulate rf nw tr od rk be fr fs q p = some (0, 1, tr, od, rk, be, fr, fs)) ∨ ∃ v tl' fh' tr' od' rk' be' fr' fs', P_SC_simulate pn tl fh q p = some (.inr (v, tl', fh')) ∧ P_M_simulate rf nw tr od rk be fr fs q p = some (v, 0, tr', od', rk', be', fr', fs') := by
  unfold P_SC_simulate P_M_simulate
  rw [pz_1x, pz_20x]
  by_cases q1 : p < (1 : Int32)
  · left
    rw [if_pos q1, pz_in_no (Or.inl q1), fl_bd_some, if_pos rfl]
    unfold P_M_simulate_J18
    rw [pz_ref1, fl_bd_some]
    exact ⟨rfl, if_neg (show ¬ (1 : Int32) = 0 by decide)⟩
  · by_cases q2 : (20 : Int32) < p
    · left
      rw [if_neg q1, if_neg (pz_ngt q2), pz_in_no (Or.inr q2), fl_bd_some, if_pos rfl]
      unfold P_M_simulate_J18
      rw [pz_ref1, fl_bd_some]
      exact ⟨rfl, if_neg (show ¬ (1 : Int32) = 0 by decide)⟩
    · right
      have h0 : ¬ p < 0 := by
        rw [Int32.lt_iff_toInt_lt] at q1 ⊢
        have e1 : (1 : Int32).toInt = 1 := by decide
        have e0 : (0 : Int32).toInt = 0 := by decide
        omega
      rw [if_neg q1, if_pos (pz_nle q2), pz_in_yes q1 q2, fl_bd_some, if_neg (show ¬ (1 : Int32) = 0 by decide)]
      unfold P_M_simulate_J18
      rw [pz_ref0, fl_bd_some, if_pos (show (((0 : Int32), (0 : Int32)).1 = 0) from rfl)]
      obtain ⟨m, hm, rfl⟩ := nI_of2 (x := p) (M := (20 : Int32)) (n := 20) (by decide) h0 (pz_nle q2)
      obtain ⟨ch, tr1, e5, e6, hR1, hC1⟩ := pz_begin (tl := tl) (tr := tr) hR hO hC
      rw [e5, fl_bd_some, e6, fl_bd_some]
      exact pz_simLoop hm m 0 q 0 ch fh tr1 od rk be fr fs rfl (Nat.zero_le _) ⟨N, V, S, c, len, hR1, hO, hC1⟩
