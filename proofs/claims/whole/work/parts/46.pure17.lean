/-! SUFFIX, on both sides -/
theorem pz_suffix {ch : fl_Ch} {f od rk : fl_A} {rf p : Int32} {N V S : Nat} {c : Nat → Int32} {len : Nat → Nat} (hR : pz_R ch.1 f N V S c len) (hO : pz_OK N V S len) (hC : pz_CH ch N S) :
    (P_SC_suffix ch p = some (.inl 1) ∧ P_M_suffix rf f od rk p = some (0, 1, od, rk)) ∨ ∃ v od' rk', P_SC_suffix ch p = some (.inr v) ∧ P_M_suffix rf f od rk p = some (v, 0, od', rk') := by
  obtain ⟨hg, hgS, hf, hfS, -⟩ := hR
  have hN := hO.1
  unfold P_SC_suffix P_M_suffix
  by_cases q : 0 ≤ p
  · right
    rw [if_pos q, if_pos q]
    have hcf : ∀ i, i < N → pz_c f i = ch.1.1 i := fun i hi => by rw [hg.2.2.1 i hi]; exact hf.2.2.1 i hi
    obtain ⟨⟨od1, rk1⟩, e, hm⟩ := pz_lay (od := od) (rk := rk) (f := f) (N := N) (by omega) hf.1
    have hm := pz_MO_congr hcf hm
    unfold P_M_suffix_J10
    rw [pz_ref0, fl_bd_some, if_pos rfl, e, fl_bd_some, pz_ck0, pz_c0, hf.1]
    by_cases q2 : nI N ≤ p
    · rw [if_pos q2, pz_Or_placeOut hC.1 (Or.inr q2)]
      exact ⟨_, od1, rk1, rfl, rfl⟩
    · rw [if_neg q2]
      have hp0 : ¬ p < 0 := by
        rw [Int32.lt_iff_toInt_lt]
        rw [Int32.le_iff_toInt_le] at q
        omega
      obtain ⟨j, hj, rfl⟩ := nI_of hp0
      have hjN : j < N := by
        rcases Nat.lt_or_ge j N with y | y
        · exact y
        · exact absurd (nI_le y hj) q2
      obtain ⟨i, hi, rfl⟩ := pz_rk_surj (c := ch.1.1) hjN
      have e1 : (od1, rk1).fst (pz_rk ch.1.1 N i) = nI i := hm.1 i hi
      rw [pz_ck (by omega) (by decide), nI_clamp hj, e1, pz_Or_placeAt hN hC.1 hi]
      exact ⟨_, od1, rk1, rfl, rfl⟩
  · left
    rw [if_neg q, if_neg q]
    unfold P_M_suffix_J10
    rw [pz_ref1, fl_bd_some, if_neg (show ¬ (1 : Int32) = 0 by decide)]
    exact ⟨rfl, rfl⟩
