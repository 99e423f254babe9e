/-! A SCRIPT, on both sides -/
theorem pz_le0_cmp {a b : Int64} (h : ¬ a < b) : 0 ≤ lg_cmp a b := pz_nle (fun z => h ((pz_cmp_lt a b).mp z))
theorem pz_nle0_cmp {a b : Int64} (h : a < b) : ¬ 0 ≤ lg_cmp a b := pz_ngt ((pz_cmp_lt a b).mpr h)
theorem pz_cmp_le0 {a b : Int64} (h : ¬ b < a) : lg_cmp a b ≤ 0 := pz_nle (fun z => h ((pz_cmp_gt a b).mp z))
theorem pz_cmp_nle0 {a b : Int64} (h : b < a) : ¬ lg_cmp a b ≤ 0 := pz_ngt ((pz_cmp_gt a b).mpr h)
theorem pz_groups {w j : Nat} (hw : w < 2 ^ 63) (hj : j < 100) : P_SC_groupsFrom (lN w) (nI j) = some (lN (w / 100000 ^ j)) := by
  obtain ⟨r, e, rfl⟩ := fl_loop_inv (b := P_SC_groupsFrom_L5 (nI j)) (fun n z => ∃ t, z.2 = nI t ∧ t ≤ j ∧ n = j - t ∧ z.1 = lN (w / 100000 ^ t)) (fun r => r = lN (w / 100000 ^ j)) (by
    rintro n ⟨z1, z2⟩ ⟨t, rfl, ht, rfl, rfl⟩
    unfold P_SC_groupsFrom_L5
    dsimp only
    by_cases hlt : t < j
    · left
      have h1 : w / 100000 ^ t ≤ w := Nat.div_le_self _ _
      have h2 : lN (w / 100000 ^ t) / (100000 : Int64) = lN (w / 100000 ^ (t + 1)) := by
        rw [show lN (w / 100000 ^ t) / (100000 : Int64) = lN (w / 100000 ^ t / 100000) from pk_lDiv (b := 100000) (by omega) (by decide) (by decide), Nat.div_div_eq_div_mul, ← Nat.pow_succ]
      rw [if_neg (nI_ge hlt (by omega)), nI_1, h2]
      exact ⟨_, j - (t + 1), rfl, by omega, t + 1, rfl, by omega, rfl, rfl⟩
    · right
      obtain rfl : t = j := by omega
      rw [if_pos (nI_le (Nat.le_refl _) (by omega))]
      exact ⟨_, rfl, rfl⟩) j (lN w, nI 0) ⟨0, rfl, Nat.zero_le _, rfl, by rw [Nat.pow_zero, Nat.div_one]⟩
  exact e
theorem pz_tenTo {j : Nat} (hj : j < 100) : P_M_tenTo (nI j) = some (lN (10 ^ j)) := by
  obtain ⟨r, e, rfl⟩ := fl_loop_inv (b := P_M_tenTo_L4 (nI j)) (fun n z => ∃ t, z.2 = nI t ∧ t ≤ j ∧ n = j - t ∧ z.1 = lN (10 ^ t)) (fun r => r = lN (10 ^ j)) (by
    rintro n ⟨z1, z2⟩ ⟨t, rfl, ht, rfl, rfl⟩
    unfold P_M_tenTo_L4
    dsimp only
    by_cases hlt : t < j
    · left
      have h2 : lN (10 ^ t) * (10 : Int64) = lN (10 ^ (t + 1)) := lN_mul (10 ^ t) 10
      rw [if_neg (nI_ge hlt (by omega)), nI_1, h2]
      exact ⟨_, j - (t + 1), rfl, by omega, t + 1, rfl, by omega, rfl, rfl⟩
    · right
      obtain rfl : t = j := by omega
      rw [if_pos (nI_le (Nat.le_refl _) (by omega))]
      exact ⟨_, rfl, rfl⟩) j ((1 : Int64), (0 : Int32)) ⟨0, rfl, Nat.zero_le _, rfl, rfl⟩
  exact e
theorem pz_pow5 (j : Nat) : (10 : Nat) ^ (5 * j) = 100000 ^ j := by
  rw [Nat.pow_mul]
theorem pz_pow_le {j : Nat} (h : j ≤ 3) : (100000 : Nat) ^ j ≤ 1000000000000000 ∧ 1 ≤ (100000 : Nat) ^ j := by
  rcases (show j = 0 ∨ j = 1 ∨ j = 2 ∨ j = 3 by omega) with rfl | rfl | rfl | rfl <;> decide
theorem pz_runLoop {pn : fl_Ch} {nw : fl_A} {rf : Int32} {w J : Nat} (hw : w < 2 ^ 63) (hJ1 : 1 ≤ J) (hJ : J ≤ 3) : ∀ n i tl fh tr od rk be fr fs, n = J - i → i ≤ J → pz_TR tl tr → ∃ v tl' fh' tr' od' rk' be' fr' fs', fl_loop (P_SC_runScript_L60 pn (nI J) (lN w)) (nI i, tl, fh) = some (.inr (v, tl', fh')) ∧ fl_loop (P_M_runScript_L62 rf nw (nI J) (lN w)) (nI i, tr, od, rk, be, fr, fs) = some (v, rf, tr', od', rk', be', fr', fs') := by
  intro n
  induction n with
  | zero =>
    intro i tl fh tr od rk be fr fs hn hi hT
    obtain rfl : i = J := by omega
    refine ⟨-1, tl, fh, tr, od, rk, be, fr, fs, fl_loop_inr ?_, fl_loop_inr ?_⟩
    · unfold P_SC_runScript_L60
      dsimp only
      rw [if_pos (nI_le (Nat.le_refl _) (by omega))]
    · unfold P_M_runScript_L62
      dsimp only
      rw [if_pos (nI_le (Nat.le_refl _) (by omega))]
  | succ n ih =>
    intro i tl fh tr od rk be fr fs hn hi hT
    have hlt : i < J := by omega
    have e1 : nI J - (1 : Int32) - nI i = nI (J - 1 - i) := by
      rw [show nI J - (1 : Int32) = nI (J - 1) from pk_sub (a := J) (b := 1) hJ1, pk_sub (by omega)]
    have e2 : (5 : Int32) * nI (J - 1 - i) = nI (5 * (J - 1 - i)) := pk_mul 5 (J - 1 - i)
    have hp := pz_pow_le (show J - 1 - i ≤ 3 by omega)
    have hq := pz_pow5 (J - 1 - i)
    have hqw : w / 100000 ^ (J - 1 - i) ≤ w := Nat.div_le_self _ _
    generalize hA : w / 100000 ^ (J - 1 - i) = a at hqw
    have e3 : lN a - lN a / (100000 : Int64) * (100000 : Int64) = lN (a % 100000) := pk_lRem (b := 100000) (by omega) (by decide) (by decide)
    have hg : a % 100000 < 100000 := Nat.mod_lt _ (by decide)
    obtain ⟨r, tl', fh', tr', od', rk', be', fr', fs', g1, g2, g3⟩ := pz_does (fh := fh) (od := od) (rk := rk) (be := be) (fr := fr) (fs := fs) hg hT
    have hC : P_SC_runScript_L60 pn (nI J) (lN w) (nI i, tl, fh) = if r = 0 then some (.inr (.inr (nI i, tl', fh'))) else some (.inl (nI (i + 1), tl', fh')) := by
      unfold P_SC_runScript_L60
      dsimp only
      rw [if_neg (nI_ge hlt (by omega)), e1, pz_groups hw (by omega), fl_bd_some, hA, e3, lN_i, pz_r10000 (by omega), pz_d10000 (by omega), g1, fl_bd_some, nI_1]
    have hM : P_M_runScript_L62 rf nw (nI J) (lN w) (nI i, tr, od, rk, be, fr, fs) = if r = 0 then some (.inr (nI i, rf, tr', od', rk', be', fr', fs')) else some (.inl (nI (i + 1), tr', od', rk', be', fr', fs')) := by
      have e4 : ∀ {α : Type} {k : Option α}, fl_nzl (lN (100000 ^ (J - 1 - i))) k = k := by
        intro α k
        unfold fl_nzl
        refine if_neg (fun z => ?_)
        have := (pk_lEQ (a := 100000 ^ (J - 1 - i)) (b := 0) (by omega) (by decide)).mp z
        omega
      have e5 : lN w / lN (100000 ^ (J - 1 - i)) = lN a := by rw [pk_lDiv hw (by omega) (by omega), hA]
      unfold P_M_runScript_L62
      dsimp only
      rw [if_neg (nI_ge hlt (by omega)), e1, e2, pz_tenTo (by omega), fl_bd_some, hq, e4, e5, e3, lN_i, g2, fl_bd_some, nI_1]
    rcases g3 with rfl | ⟨rfl, g3⟩
    · rw [if_pos rfl] at hC hM
      exact ⟨_, _, _, _, _, _, _, _, _, fl_loop_inr hC, fl_loop_inr hM⟩
    · rw [if_neg (show ¬ (1 : Int32) = 0 by decide)] at hC hM
      rw [fl_loop_inl hC, fl_loop_inl hM]
      exact ih (i + 1) _ _ _ _ _ _ _ _ (by omega) (by omega) g3
theorem pz_runScript {pn tl : fl_Ch} {fh : fl_Ln} {nw tr od rk be fr : fl_A} {fs rf p : Int32} {q : Int64} {N V S : Nat} {c : Nat → Int32} {len : Nat → Nat} (hR : pz_R pn.1 nw N V S c len) (hO : pz_OK N V S len) (hC : pz_CH pn N S) :
    (P_SC_runScript pn tl fh p q = some (.inl 1) ∧ P_M_runScript rf nw tr od rk be fr fs p q = some (0, 1, tr, od, rk, be, fr, fs)) ∨ ∃ v tl' fh' tr' od' rk' be' fr' fs', P_SC_runScript pn tl fh p q = some (.inr (v, tl', fh')) ∧ P_M_runScript rf nw tr od rk be fr fs p q = some (v, 0, tr', od', rk', be', fr', fs') := by
  have hno : P_M_runScript_J46 rf nw tr od rk be fr fs p q = some (0, 1, tr, od, rk, be, fr, fs) := by
    unfold P_M_runScript_J46 P_M_runScript_J47
    rw [pz_ref1, fl_bd_some]
    exact if_neg (show ¬ (1 : Int32) = 0 by decide)
  unfold P_SC_runScript P_M_runScript
  rw [pz_1x, pz_3x]
  by_cases c1 : p < (1 : Int32)
  · left
    rw [if_pos c1, pz_in_no (Or.inl c1), fl_bd_some, if_pos rfl, hno]
    exact ⟨rfl, rfl⟩
  · by_cases c2 : (3 : Int32) < p
    · left
      rw [if_neg c1, if_pos c2, pz_in_no (Or.inr c2), fl_bd_some, if_pos rfl, hno]
      exact ⟨rfl, rfl⟩
    · have h0 : ¬ p < 0 := by
        rw [Int32.lt_iff_toInt_lt] at c1 ⊢
        have e1 : (1 : Int32).toInt = 1 := by decide
        have e0 : (0 : Int32).toInt = 0 := by decide
        omega
      rw [if_neg c1, if_neg c2, pz_in_yes c1 c2, fl_bd_some, if_neg (show ¬ (1 : Int32) = 0 by decide), if_neg (show ¬ (1 : Int32) = 0 by decide)]
      obtain ⟨J, hJ, rfl⟩ := nI_of2 (x := p) (M := (3 : Int32)) (n := 3) (by decide) h0 (pz_nle c2)
      have hJ1 : 1 ≤ J := by
        rcases Nat.lt_or_ge 0 J with y | y
        · exact y
        · obtain rfl : J = 0 := by omega
          exact absurd (show nI 0 < (1 : Int32) by decide) c1
      unfold P_M_runScript_J31
      rw [show (5 : Int32) * nI J = nI (5 * J) from pk_mul 5 J, pz_tenTo (by omega), fl_bd_some, pz_pow5]
      have hp := pz_pow_le hJ
      by_cases c3 : q < 0
      · left
        have hin : P_M_in q (0 : Int64) (lN (100000 ^ J) - 1) = some 0 := by
          unfold P_M_in
          exact if_pos ((pz_cmp_lt _ _).mpr c3)
        rw [if_neg (pz_nle0_cmp c3), hin, fl_bd_some, if_pos rfl, hno]
        exact ⟨rfl, rfl⟩
      · obtain ⟨w, hw, rfl⟩ := pk_lOf c3
        have hsub : lN (100000 ^ J) - (1 : Int64) = lN (100000 ^ J - 1) := lN_sub (b := 1) hp.2
        rw [if_pos (pz_le0_cmp c3), pz_groups hw (by omega), fl_bd_some, hsub]
        have h63 : 100000 ^ J - 1 < 2 ^ 63 := by omega
        by_cases c4 : w < 100000 ^ J
        · right
          have hin : P_M_in (lN w) (0 : Int64) (lN (100000 ^ J - 1)) = some 1 := by
            unfold P_M_in
            rw [if_neg (fun z => c3 ((pz_cmp_lt _ _).mp z)), if_neg (fun z => by
              have := (pk_lLT h63 hw).mp ((pz_cmp_gt _ _).mp z)
              omega)]
          have hz : ¬ (0 : Int64) < lN (w / 100000 ^ J) := by
            rw [Nat.div_eq_of_lt c4]
            decide
          rw [if_pos (pz_cmp_le0 hz), hin, fl_bd_some, if_neg (show ¬ (1 : Int32) = 0 by decide)]
          unfold P_M_runScript_J47
          rw [pz_ref0, fl_bd_some, if_pos (show (((0 : Int32), (0 : Int32)).1 = 0) from rfl)]
          obtain ⟨ch, tr1, e5, e6, hR1, hC1⟩ := pz_begin (tl := tl) (tr := tr) hR hO hC
          rw [e5, fl_bd_some, e6, fl_bd_some]
          exact pz_runLoop hw hJ1 hJ J 0 ch fh tr1 od rk be fr fs rfl (Nat.zero_le _) ⟨N, V, S, c, len, hR1, hO, hC1⟩
        · left
          have hin : P_M_in (lN w) (0 : Int64) (lN (100000 ^ J - 1)) = some 0 := by
            unfold P_M_in
            rw [if_neg (fun z => c3 ((pz_cmp_lt _ _).mp z)), if_pos ((pz_cmp_gt _ _).mpr ((pk_lLT h63 hw).mpr (by omega)))]
          have hz : (0 : Int64) < lN (w / 100000 ^ J) := by
            have h1 : 0 < w / 100000 ^ J := Nat.div_pos (by omega) (by omega)
            have h2 : w / 100000 ^ J ≤ w := Nat.div_le_self _ _
            exact (pk_lLT (a := 0) (by decide) (by omega)).mpr h1
          rw [if_neg (pz_cmp_nle0 hz), hin, fl_bd_some, if_pos rfl, hno]
          exact ⟨rfl, rfl⟩
