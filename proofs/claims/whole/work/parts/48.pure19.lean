/-! ABOUT, NOTE, on both sides -/
theorem pz_1x : (1 : Int64) = (1 : Int32).toInt64 := by decide
theorem pz_2x : (2 : Int64) = (2 : Int32).toInt64 := by decide
theorem pz_3x : (3 : Int64) = (3 : Int32).toInt64 := by decide
theorem pz_4x : (4 : Int64) = (4 : Int32).toInt64 := by decide
theorem pz_8x : (8 : Int64) = (8 : Int32).toInt64 := by decide
theorem pz_12x : (12 : Int64) = (12 : Int32).toInt64 := by decide
theorem pz_20x : (20 : Int64) = (20 : Int32).toInt64 := by decide
theorem pz_nle {x y : Int32} (h : ¬ x < y) : y ≤ x := by
  rw [Int32.lt_iff_toInt_lt] at h
  rw [Int32.le_iff_toInt_le]
  omega
theorem pz_ngt {x y : Int32} (h : x < y) : ¬ y ≤ x := by
  rw [Int32.lt_iff_toInt_lt] at h
  rw [Int32.le_iff_toInt_le]
  omega
theorem pz_about {ch : fl_Ch} {f od rk : fl_A} {rf p : Int32} {N V S : Nat} {c : Nat → Int32} {len : Nat → Nat} (hR : pz_R ch.1 f N V S c len) (hO : pz_OK N V S len) (hC : pz_CH ch N S) :
    (P_SC_about ch p = some (.inl 1) ∧ P_M_about rf f od rk p = some (0, 1, od, rk)) ∨ ∃ v od' rk', P_SC_about ch p = some (.inr v) ∧ P_M_about rf f od rk p = some (v, 0, od', rk') := by
  have hcf := pz_codes hR
  obtain ⟨hg, hgS, hf, hfS, hf3, hf4, hf5⟩ := hR
  have hN := hO.1
  by_cases q : p < 0 ∨ (8 : Int32) < p
  · left
    have hne : ∀ k : Int32, ¬ (k < 0 ∨ (8 : Int32) < k) → ¬ p = k := fun k hk z => hk (z ▸ q)
    constructor
    · unfold P_SC_about
      rw [if_neg (hne 0 (by decide)), if_neg (hne 1 (by decide)), if_neg (hne 2 (by decide)), if_neg (hne 3 (by decide)), if_neg (hne 4 (by decide)), if_neg (hne 5 (by decide)), if_neg (hne 6 (by decide)), if_neg (hne 7 (by decide)), if_neg (hne 8 (by decide))]
    · unfold P_M_about
      rw [pz_z64, pz_8x, pz_in_no q, fl_bd_some, if_pos rfl]
      unfold P_M_about_J18
      rw [pz_ref1, fl_bd_some]
      exact if_neg (show ¬ (1 : Int32) = 0 by decide)
  · right
    have q1 : ¬ p < 0 := fun z => q (Or.inl z)
    have q2 : ¬ (8 : Int32) < p := fun z => q (Or.inr z)
    have hM : P_M_about rf f od rk p = P_M_about_J18 rf f od rk p 0 := by
      unfold P_M_about
      rw [pz_z64, pz_8x, pz_in_yes q1 q2, fl_bd_some, if_neg (show ¬ (1 : Int32) = 0 by decide)]
    rw [hM]
    obtain ⟨j, hj, rfl⟩ := nI_of2 (x := p) (M := (8 : Int32)) (n := 8) (by decide) q1 (pz_nle q2)
    unfold P_SC_about P_M_about_J18
    rw [pz_ref0, fl_bd_some, if_pos (show (((0 : Int32), (0 : Int32)).1 = 0) from rfl)]
    rcases (show j = 0 ∨ j = 1 ∨ j = 2 ∨ j = 3 ∨ j = 4 ∨ j = 5 ∨ j = 6 ∨ j = 7 ∨ j = 8 by omega) with rfl | rfl | rfl | rfl | rfl | rfl | rfl | rfl | rfl
    · refine ⟨nI N, od, rk, ?_, ?_⟩
      · rw [if_pos (show nI 0 = (0 : Int32) from rfl), hg.1]
      · rw [if_neg (show ¬ nI 0 = (4 : Int32) by decide), if_neg (show ¬ nI 0 = (5 : Int32) by decide), if_neg (show ¬ nI 0 = (6 : Int32) by decide), if_neg (show ¬ nI 0 = (7 : Int32) by decide), if_neg (show ¬ nI 0 = (8 : Int32) by decide), pz_ck (by decide) (by decide), nI_clamp (by decide), hf.1]
    · refine ⟨nI V, od, rk, ?_, ?_⟩
      · rw [if_neg (show ¬ nI 1 = (0 : Int32) by decide), if_pos (show nI 1 = (1 : Int32) from rfl), hg.2.1]
      · rw [if_neg (show ¬ nI 1 = (4 : Int32) by decide), if_neg (show ¬ nI 1 = (5 : Int32) by decide), if_neg (show ¬ nI 1 = (6 : Int32) by decide), if_neg (show ¬ nI 1 = (7 : Int32) by decide), if_neg (show ¬ nI 1 = (8 : Int32) by decide), pz_ck (by decide) (by decide), nI_clamp (by decide), hf.2.1]
    · refine ⟨nI S, od, rk, ?_, ?_⟩
      · rw [if_neg (show ¬ nI 2 = (0 : Int32) by decide), if_neg (show ¬ nI 2 = (1 : Int32) by decide), if_pos (show nI 2 = (2 : Int32) from rfl), hgS]
      · rw [if_neg (show ¬ nI 2 = (4 : Int32) by decide), if_neg (show ¬ nI 2 = (5 : Int32) by decide), if_neg (show ¬ nI 2 = (6 : Int32) by decide), if_neg (show ¬ nI 2 = (7 : Int32) by decide), if_neg (show ¬ nI 2 = (8 : Int32) by decide), pz_ck (by decide) (by decide), nI_clamp (by decide), hfS]
    · refine ⟨ch.1.2.2.2.2.2.1, od, rk, ?_, ?_⟩
      · rw [if_neg (show ¬ nI 3 = (0 : Int32) by decide), if_neg (show ¬ nI 3 = (1 : Int32) by decide), if_neg (show ¬ nI 3 = (2 : Int32) by decide), if_pos (show nI 3 = (3 : Int32) from rfl)]
      · rw [if_neg (show ¬ nI 3 = (4 : Int32) by decide), if_neg (show ¬ nI 3 = (5 : Int32) by decide), if_neg (show ¬ nI 3 = (6 : Int32) by decide), if_neg (show ¬ nI 3 = (7 : Int32) by decide), if_neg (show ¬ nI 3 = (8 : Int32) by decide), pz_ck (by decide) (by decide), nI_clamp (by decide), hf3]
    · obtain ⟨od', rk', e⟩ := pz_M_pieces (od := od) (rk := rk) (f := f) (N := N) (by omega) hf.1
      refine ⟨nI (pz_pcs ch.1.1 N), od', rk', ?_, ?_⟩
      · rw [if_neg (show ¬ nI 4 = (0 : Int32) by decide), if_neg (show ¬ nI 4 = (1 : Int32) by decide), if_neg (show ¬ nI 4 = (2 : Int32) by decide), if_neg (show ¬ nI 4 = (3 : Int32) by decide), if_pos (show nI 4 = (4 : Int32) from rfl), pz_Or_pieces hN hC.1, fl_bd_some]
      · rw [if_pos (show nI 4 = (4 : Int32) from rfl), e, fl_bd_some, pz_pcs_congr hcf]
    · obtain ⟨od', rk', e⟩ := pz_M_longest (od := od) (rk := rk) (f := f) (N := N) (by omega) hf.1
      refine ⟨nI (pz_lon ch.1.1 N), od', rk', ?_, ?_⟩
      · rw [if_neg (show ¬ nI 5 = (0 : Int32) by decide), if_neg (show ¬ nI 5 = (1 : Int32) by decide), if_neg (show ¬ nI 5 = (2 : Int32) by decide), if_neg (show ¬ nI 5 = (3 : Int32) by decide), if_neg (show ¬ nI 5 = (4 : Int32) by decide), if_pos (show nI 5 = (5 : Int32) from rfl), pz_Or_longest hN hC.1, fl_bd_some]
      · rw [if_neg (show ¬ nI 5 = (4 : Int32) by decide), if_pos (show nI 5 = (5 : Int32) from rfl), e, fl_bd_some, pz_lon_congr hcf]
    · obtain ⟨r, e1, h1⟩ := pz_Or_lowest hN hC.1
      obtain ⟨r2, od', rk', e2, h2⟩ := pz_M_lowest (od := od) (rk := rk) (f := f) (N := N) (by omega) hf.1
      obtain rfl := pz_lp_uniq (pz_lp_congr hcf h2) h1
      refine ⟨r2, od', rk', ?_, ?_⟩
      · rw [if_neg (show ¬ nI 6 = (0 : Int32) by decide), if_neg (show ¬ nI 6 = (1 : Int32) by decide), if_neg (show ¬ nI 6 = (2 : Int32) by decide), if_neg (show ¬ nI 6 = (3 : Int32) by decide), if_neg (show ¬ nI 6 = (4 : Int32) by decide), if_neg (show ¬ nI 6 = (5 : Int32) by decide), if_pos (show nI 6 = (6 : Int32) from rfl), e1, fl_bd_some]
      · rw [if_neg (show ¬ nI 6 = (4 : Int32) by decide), if_neg (show ¬ nI 6 = (5 : Int32) by decide), if_pos (show nI 6 = (6 : Int32) from rfl), e2, fl_bd_some]
    · refine ⟨ch.1.2.2.2.2.2.2.1, od, rk, ?_, ?_⟩
      · rw [if_neg (show ¬ nI 7 = (0 : Int32) by decide), if_neg (show ¬ nI 7 = (1 : Int32) by decide), if_neg (show ¬ nI 7 = (2 : Int32) by decide), if_neg (show ¬ nI 7 = (3 : Int32) by decide), if_neg (show ¬ nI 7 = (4 : Int32) by decide), if_neg (show ¬ nI 7 = (5 : Int32) by decide), if_neg (show ¬ nI 7 = (6 : Int32) by decide), if_pos (show nI 7 = (7 : Int32) from rfl)]
      · rw [if_neg (show ¬ nI 7 = (4 : Int32) by decide), if_neg (show ¬ nI 7 = (5 : Int32) by decide), if_neg (show ¬ nI 7 = (6 : Int32) by decide), if_pos (show nI 7 = (7 : Int32) from rfl), pz_ck4, pz_c4, hf4]
    · refine ⟨ch.1.2.2.2.2.2.2.2, od, rk, ?_, ?_⟩
      · rw [if_neg (show ¬ nI 8 = (0 : Int32) by decide), if_neg (show ¬ nI 8 = (1 : Int32) by decide), if_neg (show ¬ nI 8 = (2 : Int32) by decide), if_neg (show ¬ nI 8 = (3 : Int32) by decide), if_neg (show ¬ nI 8 = (4 : Int32) by decide), if_neg (show ¬ nI 8 = (5 : Int32) by decide), if_neg (show ¬ nI 8 = (6 : Int32) by decide), if_neg (show ¬ nI 8 = (7 : Int32) by decide), if_pos (show nI 8 = (8 : Int32) from rfl)]
      · rw [if_neg (show ¬ nI 8 = (4 : Int32) by decide), if_neg (show ¬ nI 8 = (5 : Int32) by decide), if_neg (show ¬ nI 8 = (6 : Int32) by decide), if_neg (show ¬ nI 8 = (7 : Int32) by decide), if_pos (show nI 8 = (8 : Int32) from rfl), pz_ck5, pz_c5, hf5]
/-- the model's question: does p lie from 0 to N - 1 -/
theorem pz_upto {N : Nat} (hN : N < 2 ^ 30) (p : Int32) : (p < 0 ∧ P_M_in p.toInt64 (0 : Int64) ((nI N - (1 : Int32)).toInt64) = some 0) ∨ (∃ j, j < N ∧ p = nI j ∧ P_M_in p.toInt64 (0 : Int64) ((nI N - (1 : Int32)).toInt64) = some 1) ∨ ∃ j, N ≤ j ∧ j < 2 ^ 31 ∧ p = nI j ∧ P_M_in p.toInt64 (0 : Int64) ((nI N - (1 : Int32)).toInt64) = some 0 := by
  have e : (nI N - (1 : Int32)).toInt = (N : Int) - 1 := pk_sub_toInt (a := N) (b := 1) hN (by decide)
  rw [pz_z64]
  by_cases q : p < 0
  · exact Or.inl ⟨q, pz_in_no (Or.inl q)⟩
  · obtain ⟨j, hj, rfl⟩ := nI_of q
    have ej := nI_toInt hj
    rcases Nat.lt_or_ge j N with y | y
    · refine Or.inr (Or.inl ⟨j, y, rfl, pz_in_yes q ?_⟩)
      rw [Int32.lt_iff_toInt_lt, e, ej]; omega
    · refine Or.inr (Or.inr ⟨j, y, hj, rfl, pz_in_no (Or.inr ?_)⟩)
      rw [Int32.lt_iff_toInt_lt, e, ej]; omega
theorem pz_note {ch : fl_Ch} {f od rk : fl_A} {rf p t : Int32} {N V S : Nat} {c : Nat → Int32} {len : Nat → Nat} (hR : pz_R ch.1 f N V S c len) (hO : pz_OK N V S len) (hC : pz_CH ch N S) :
    (P_SC_note ch p t = some (.inl 3) ∧ P_M_note rf f od rk p t = some (0, 1, od, rk)) ∨ (P_SC_note ch p t = some (.inl 1) ∧ P_M_note rf f od rk p t = some (0, 2, od, rk)) ∨ ∃ v od' rk', P_SC_note ch p t = some (.inr v) ∧ P_M_note rf f od rk p t = some (v, 0, od', rk') := by
  have hcf := pz_codes hR
  obtain ⟨hg, hgS, hf, hfS, -⟩ := hR
  have hVN := pz_OK_V hO
  obtain ⟨hN, hsum, hlen, hS1, hS8⟩ := hO
  have hout : P_M_in p.toInt64 (0 : Int64) ((nI N - (1 : Int32)).toInt64) = some 0 → P_M_note rf f od rk p t = some (0, 1, od, rk) := by
    intro h
    unfold P_M_note
    rw [pz_ck0, pz_c0, hf.1, h, fl_bd_some, if_pos rfl]
    unfold P_M_note_J40
    rw [pz_ref1, fl_bd_some]
    exact if_neg (show ¬ (1 : Int32) = 0 by decide)
  rcases pz_upto (N := N) (by omega) p with ⟨q, e⟩ | ⟨j, hj, rfl, e⟩ | ⟨j, hj, hj2, rfl, e⟩
  · left
    refine ⟨?_, hout e⟩
    unfold P_SC_note
    rw [if_pos q]
  · right
    by_cases q : t < 0 ∨ (4 : Int32) < t
    · left
      have hne : ∀ k : Int32, ¬ (k < 0 ∨ (4 : Int32) < k) → ¬ t = k := fun k hk z => hk (z ▸ q)
      constructor
      · unfold P_SC_note
        rw [if_neg (nI_pos (by omega)), hg.1, if_pos (nI_lt hj (by omega)), if_neg (hne 0 (by decide)), if_neg (hne 1 (by decide)), if_neg (hne 2 (by decide)), if_neg (hne 3 (by decide)), if_neg (hne 4 (by decide))]
      · unfold P_M_note
        rw [pz_ck0, pz_c0, hf.1, e, fl_bd_some, if_neg (show ¬ (1 : Int32) = 0 by decide), pz_z64, pz_4x, pz_in_no q, fl_bd_some, if_pos rfl]
        unfold P_M_note_J40
        rw [pz_ref2, fl_bd_some]
        exact if_neg (show ¬ (1 : Int32) = 0 by decide)
    · right
      have q1 : ¬ t < 0 := fun z => q (Or.inl z)
      have q2 : ¬ (4 : Int32) < t := fun z => q (Or.inr z)
      obtain ⟨⟨od1, rk1⟩, e2, hm⟩ := pz_lay (od := od) (rk := rk) (f := f) (N := N) (by omega) hf.1
      have hm := pz_MO_congr hcf hm
      have e3 : rk1 j = nI (pz_rk ch.1.1 N j) := hm.2 j hj
      have hod : ∀ i, i < N → od1 (pz_rk ch.1.1 N i) = nI i := hm.1
      have hrk := pz_rk_lt (c := ch.1.1) hj
      have hcd : P_Sg_codeAt ch.1 (nI j) = some (c j) := by
        unfold P_Sg_codeAt
        rw [pz_cellOf (by omega) (by decide), fl_bd_some, hg.2.2.1 _ hj]
      have hfd : f (66 + j) = c j := hf.2.2.1 j hj
      have hM : P_M_note rf f od rk (nI j) t = P_M_note_J40 rf f od rk (nI j) t 0 := by
        unfold P_M_note
        rw [pz_ck0, pz_c0, hf.1, e, fl_bd_some, if_neg (show ¬ (1 : Int32) = 0 by decide), pz_z64, pz_4x, pz_in_yes q1 q2, fl_bd_some, if_neg (show ¬ (1 : Int32) = 0 by decide)]
      rw [hM]
      obtain ⟨k, hk, rfl⟩ := nI_of2 (x := t) (M := (4 : Int32)) (n := 4) (by decide) q1 (pz_nle q2)
      unfold P_SC_note P_M_note_J40
      rw [if_neg (nI_pos (by omega)), hg.1, if_pos (nI_lt hj (by omega)), pz_ref0, fl_bd_some, if_pos (show (((0 : Int32), (0 : Int32)).1 = 0) from rfl), e2, fl_bd_some, pz_ck (by omega) (by decide)]
      dsimp only
      rw [nI_clamp (n := j) (by omega)]
      rcases (show k = 0 ∨ k = 1 ∨ k = 2 ∨ k = 3 ∨ k = 4 by omega) with rfl | rfl | rfl | rfl | rfl
      · refine ⟨c j, od1, rk1, ?_, ?_⟩
        · rw [if_pos (show nI 0 = (0 : Int32) from rfl), hcd, fl_bd_some]
        · rw [if_pos (show nI 0 = (0 : Int32) from rfl), pz_66, pz_ck (by omega) (by decide), nI_clamp (by omega), hfd]
      · refine ⟨nI (pz_rk ch.1.1 N j), od1, rk1, ?_, ?_⟩
        · rw [if_neg (show ¬ nI 1 = (0 : Int32) by decide), if_pos (show nI 1 = (1 : Int32) from rfl), pz_Or_rankOf hN hC.1 hj, fl_bd_some]
        · rw [if_neg (show ¬ nI 1 = (0 : Int32) by decide), if_pos (show nI 1 = (1 : Int32) from rfl), e3]
      · obtain ⟨v1, a1, b1⟩ := pz_Sg_verseAt hg hsum hN (by omega) hj
        obtain ⟨v2, a2, b2⟩ := pz_M_verseAt hf hsum hN (by omega) hj
        obtain rfl := pz_VA_uniq b1 b2
        refine ⟨nI v1, od1, rk1, ?_, ?_⟩
        · rw [if_neg (show ¬ nI 2 = (0 : Int32) by decide), if_neg (show ¬ nI 2 = (1 : Int32) by decide), if_pos (show nI 2 = (2 : Int32) from rfl), a1, fl_bd_some]
        · rw [if_neg (show ¬ nI 2 = (0 : Int32) by decide), if_neg (show ¬ nI 2 = (1 : Int32) by decide), if_pos (show nI 2 = (2 : Int32) from rfl), a2, fl_bd_some]
      · refine ⟨nI (pz_kp N S (pz_rk ch.1.1 N j)), od1, rk1, ?_, ?_⟩
        · rw [if_neg (show ¬ nI 3 = (0 : Int32) by decide), if_neg (show ¬ nI 3 = (1 : Int32) by decide), if_neg (show ¬ nI 3 = (2 : Int32) by decide), if_pos (show nI 3 = (3 : Int32) from rfl), pz_Ch_keeperOf hN hC.2 hj, fl_bd_some]
        · rw [if_neg (show ¬ nI 3 = (0 : Int32) by decide), if_neg (show ¬ nI 3 = (1 : Int32) by decide), if_neg (show ¬ nI 3 = (2 : Int32) by decide), if_pos (show nI 3 = (3 : Int32) from rfl), e3, pz_M_singerOf (by omega) hS1 hS8 hf.1 hfS hrk, fl_bd_some]
      · refine ⟨nI (pz_sh ch.1.1 N j), od1, rk1, ?_, ?_⟩
        · rw [if_neg (show ¬ nI 4 = (0 : Int32) by decide), if_neg (show ¬ nI 4 = (1 : Int32) by decide), if_neg (show ¬ nI 4 = (2 : Int32) by decide), if_neg (show ¬ nI 4 = (3 : Int32) by decide), if_pos (show nI 4 = (4 : Int32) from rfl), pz_Or_sharedWithAhead hN hC.1 hj, fl_bd_some]
        · rw [if_neg (show ¬ nI 4 = (0 : Int32) by decide), if_neg (show ¬ nI 4 = (1 : Int32) by decide), if_neg (show ¬ nI 4 = (2 : Int32) by decide), if_neg (show ¬ nI 4 = (3 : Int32) by decide)]
          cases hr : pz_rk ch.1.1 N j with
          | zero =>
            rw [if_pos (show rk1 j = 0 by rw [e3, hr]; rfl), pz_sh_first hj hr]
            rfl
          | succ r =>
            obtain ⟨i, hi, hir⟩ := pz_rk_surj (c := ch.1.1) (N := N) (k := r) (by omega)
            have h9 := pz_sh_pred hj hi (by rw [hr, hir])
            have h8 := hod i hi
            rw [hir] at h8
            have e4 : rk1 j = nI (r + 1) := by rw [e3, hr]
            rw [if_neg (show ¬ rk1 j = 0 by rw [e4]; exact nI_ne0 (by omega) (by omega)), e4, nI_pred, pz_ck (by omega) (by decide), nI_clamp (by omega), h8, pz_alike (by omega) hf.1 (by omega) (by omega), fl_bd_some, pz_L_congr hcf, h9]
  · left
    refine ⟨?_, hout e⟩
    unfold P_SC_note
    rw [if_neg (nI_pos (by omega)), hg.1, if_neg (nI_nlt hj (by omega))]
