/-! THE TEXT AGAINST THE PLACES, on both sides -/
theorem pz_sungAt {tx : fl_Ln} {g : fl_Sg} {f sc : fl_A} {ss : Int32} {L N V i : Nat} {c : Nat → Int32} {len : Nat → Nat} (hT : pz_TX tx sc ss L) (hg : pz_SG g N V c len) (hf : pz_SF f N V c len) (hN : N ≤ 48) (hi : i < N) : ∃ m, m ≤ L ∧ P_Ln_sharedWith 40 tx g (nI i) = some (nI m) ∧ P_M_sungAt sc ss f (nI i) = some (nI m) := by
  obtain ⟨hL, h1, h2, h3⟩ := hT
  suffices h : ∀ n t, t ≤ L → n = L - t → ∃ m, m ≤ L ∧ fl_loop (P_Ln_sharedWith_L2 40 tx g (nI i)) (nI t) = some (nI m) ∧ fl_loop (P_M_sungAt_L2 sc ss f (nI i)) (nI t) = some (nI m) by
    exact h L 0 (Nat.zero_le _) rfl
  intro n
  induction n with
  | zero =>
    intro t ht hn
    obtain rfl : t = L := by omega
    refine ⟨t, Nat.le_refl _, fl_loop_inr ?_, fl_loop_inr ?_⟩
    · unfold P_Ln_sharedWith_L2
      rw [h1, if_pos (nI_le (Nat.le_refl _) (by omega))]
    · unfold P_M_sungAt_L2
      rw [h2, if_pos (nI_le (Nat.le_refl _) (by omega))]
  | succ n ih =>
    intro t ht hn
    have hlt : t < L := by omega
    by_cases hend : N ≤ i + t
    · refine ⟨t, by omega, fl_loop_inr ?_, fl_loop_inr ?_⟩
      · unfold P_Ln_sharedWith_L2
        rw [h1, if_neg (nI_ge hlt (by omega)), hg.1, nI_add, if_pos (nI_le hend (by omega))]
      · unfold P_M_sungAt_L2
        rw [h2, if_neg (nI_ge hlt (by omega)), pz_ck0, pz_c0, hf.1, nI_add, if_pos (nI_le hend (by omega))]
    · have e1 : P_Ln_codeAt 40 tx (nI t) = some (tx.1 t) := by
        unfold P_Ln_codeAt
        rw [pz_cellOf (by omega) (by decide)]; rfl
      have e2 : P_Sg_codeAt g (nI (i + t)) = some (c (i + t)) := by
        unfold P_Sg_codeAt
        rw [pz_cellOf (by omega) (by decide), fl_bd_some, hg.2.2.1 _ (by omega)]
      have e3 : f (66 + (i + t)) = c (i + t) := hf.2.2.1 _ (by omega)
      by_cases q : sc t = c (i + t)
      · obtain ⟨m, g1, g2, g3⟩ := ih (t + 1) (by omega) (by omega)
        refine ⟨m, g1, ?_, ?_⟩
        · rw [fl_loop_inl (s' := nI (t + 1)), g2]
          unfold P_Ln_sharedWith_L2
          rw [h1, if_neg (nI_ge hlt (by omega)), hg.1, nI_add, if_neg (nI_ge (by omega) (by omega)), e1, fl_bd_some, e2, fl_bd_some, h3 t hlt, if_pos q, nI_1]
        · rw [fl_loop_inl (s' := nI (t + 1)), g3]
          unfold P_M_sungAt_L2
          rw [h2, if_neg (nI_ge hlt (by omega)), pz_ck0, pz_c0, hf.1, nI_add, if_neg (nI_ge (by omega) (by omega)), pz_66, nI_add, pz_ck (by omega) (by decide), pz_ck (by omega) (by decide), nI_clamp (by omega), nI_clamp (by omega), Nat.add_assoc, e3, if_pos q.symm, nI_1]
      · refine ⟨t, by omega, fl_loop_inr ?_, fl_loop_inr ?_⟩
        · unfold P_Ln_sharedWith_L2
          rw [h1, if_neg (nI_ge hlt (by omega)), hg.1, nI_add, if_neg (nI_ge (by omega) (by omega)), e1, fl_bd_some, e2, fl_bd_some, h3 t hlt, if_neg q]
        · unfold P_M_sungAt_L2
          rw [h2, if_neg (nI_ge hlt (by omega)), pz_ck0, pz_c0, hf.1, nI_add, if_neg (nI_ge (by omega) (by omega)), pz_66, nI_add, pz_ck (by omega) (by decide), pz_ck (by omega) (by decide), nI_clamp (by omega), nI_clamp (by omega), Nat.add_assoc, e3, if_neg (fun z => q z.symm)]
/-- one number for both: how far the text goes on from place i -/
theorem pz_T_ex {tx : fl_Ln} {g : fl_Sg} {f sc : fl_A} {ss : Int32} {L N V : Nat} {c : Nat → Int32} {len : Nat → Nat} (hT : pz_TX tx sc ss L) (hg : pz_SG g N V c len) (hf : pz_SF f N V c len) (hN : N ≤ 48) : ∃ T : Nat → Nat, ∀ i, i < N → T i ≤ L ∧ P_Ln_sharedWith 40 tx g (nI i) = some (nI (T i)) ∧ P_M_sungAt sc ss f (nI i) = some (nI (T i)) := by
  have h : ∀ i : Nat, ∃ m : Nat, i < N → m ≤ L ∧ P_Ln_sharedWith 40 tx g (nI i) = some (nI m) ∧ P_M_sungAt sc ss f (nI i) = some (nI m) := by
    intro i
    by_cases hi : i < N
    · obtain ⟨m, h1⟩ := pz_sungAt hT hg hf hN hi
      exact ⟨m, fun _ => h1⟩
    · exact ⟨0, fun z => absurd z hi⟩
  exact ⟨fun i => Classical.choose (h i), fun i hi => Classical.choose_spec (h i) hi⟩
theorem pz_isPattern {tx : fl_Ln} {r : Int32} (h : P_Ln_firstError 40 tx = some r) : P_Ln_isPattern 40 tx = some (if r = -1 then 1 else 0) := by
  unfold P_Ln_isPattern
  rw [h, fl_bd_some]
  split <;> rfl
theorem pz_count {tx : fl_Ln} {ch : fl_Ch} {f sc : fl_A} {ss rf : Int32} {L N V : Nat} {c : Nat → Int32} {len : Nat → Nat} (hT : pz_TX tx sc ss L) (hg : pz_SG ch.1 N V c len) (hf : pz_SF f N V c len) (hN : N ≤ 48) :
    (P_SC_count tx ch = some (.inl 2) ∧ P_M_count rf sc ss f = some (0, 1)) ∨ ∃ v, P_SC_count tx ch = some (.inr v) ∧ P_M_count rf sc ss f = some (v, 0) := by
  obtain ⟨r, e1, e2, -⟩ := pz_fault hT
  unfold P_SC_count P_M_count
  rw [pz_isPattern e1, fl_bd_some, e2, fl_bd_some]
  by_cases q : r = -1
  · right
    rw [if_pos q, if_pos q, if_neg (show ¬ (1 : Int32) = 0 by decide)]
    unfold P_M_count_J14
    rw [pz_ref0, fl_bd_some, if_pos rfl]
    obtain ⟨T, hTT⟩ := pz_T_ex hT hg hf hN
    have hL := hT.1
    refine ⟨nI (pz_cnt (fun i => decide (T i = L)) 0 N), ?_, ?_⟩
    · obtain ⟨x, e, rfl⟩ := fl_loop_inv (b := P_SC_count_L24 tx ch) (fun n z => ∃ t, z.2 = nI t ∧ t ≤ N ∧ n = N - t ∧ z.1 = nI (pz_cnt (fun i => decide (T i = L)) 0 t)) (fun x => x = .inr (nI (pz_cnt (fun i => decide (T i = L)) 0 N))) (by
        rintro n ⟨z1, z2⟩ ⟨t, rfl, ht, rfl, rfl⟩
        unfold P_SC_count_L24
        dsimp only
        rw [hg.1]
        by_cases hlt : t < N
        · left
          obtain ⟨g1, g2, -⟩ := hTT t hlt
          unfold P_SC_isSungAt P_SC_count_J49
          rw [if_neg (nI_ge hlt (by omega)), g2, fl_bd_some, hT.2.1, nI_1, nI_1]
          by_cases y : T t = L
          · rw [if_pos (by rw [y]), fl_bd_some, if_neg (by decide)]
            exact ⟨_, N - (t + 1), rfl, by omega, t + 1, rfl, by omega, rfl, by dsimp only; rw [pz_cnt_t (P := fun i => decide (T i = L)) (Nat.zero_le _) (decide_eq_true y)]⟩
          · rw [if_neg (fun z => y ((nI_eq (by omega) (by omega)).mp z)), fl_bd_some, if_pos rfl]
            exact ⟨_, N - (t + 1), rfl, by omega, t + 1, rfl, by omega, rfl, by dsimp only; rw [pz_cnt_f (P := fun i => decide (T i = L)) (fun z => y (of_decide_eq_true (p := T t = L) z.2))]⟩
        · right
          obtain rfl : t = N := by omega
          rw [if_pos (nI_le (Nat.le_refl _) (by omega))]
          exact ⟨_, rfl, rfl⟩) N (nI 0, nI 0) ⟨0, rfl, Nat.zero_le _, rfl, rfl⟩
      exact e
    · obtain ⟨x, e, rfl⟩ := fl_loop_inv (b := P_M_count_L26 0 sc ss f) (fun n z => ∃ t, z.2 = nI t ∧ t ≤ N ∧ n = N - t ∧ z.1 = nI (pz_cnt (fun i => decide (T i = L)) 0 t)) (fun x => x = (nI (pz_cnt (fun i => decide (T i = L)) 0 N), (0 : Int32))) (by
        rintro n ⟨z1, z2⟩ ⟨t, rfl, ht, rfl, rfl⟩
        unfold P_M_count_L26
        dsimp only
        rw [pz_ck0, pz_c0, hf.1]
        by_cases hlt : t < N
        · left
          obtain ⟨g1, -, g2⟩ := hTT t hlt
          unfold P_M_count_J54
          rw [if_neg (nI_ge hlt (by omega)), g2, fl_bd_some, hT.2.2.1]
          by_cases y : T t = L
          · rw [if_pos (by rw [y]), nI_1, nI_1]
            exact ⟨_, N - (t + 1), rfl, by omega, t + 1, rfl, by omega, rfl, by dsimp only; rw [pz_cnt_t (P := fun i => decide (T i = L)) (Nat.zero_le _) (decide_eq_true y)]⟩
          · rw [if_neg (fun z => y ((nI_eq (by omega) (by omega)).mp z)), Int32.add_zero, nI_1]
            exact ⟨_, N - (t + 1), rfl, by omega, t + 1, rfl, by omega, rfl, by dsimp only; rw [pz_cnt_f (P := fun i => decide (T i = L)) (fun z => y (of_decide_eq_true (p := T t = L) z.2))]⟩
        · right
          obtain rfl : t = N := by omega
          rw [if_pos (nI_le (Nat.le_refl _) (by omega))]
          exact ⟨_, rfl, rfl⟩) N (nI 0, nI 0) ⟨0, rfl, Nat.zero_le _, rfl, rfl⟩
      exact e
  · left
    rw [if_neg q, if_neg q, if_pos rfl]
    unfold P_M_count_J14
    rw [pz_ref1, fl_bd_some, if_neg (show ¬ (1 : Int32) = 0 by decide)]
    exact ⟨rfl, rfl⟩
