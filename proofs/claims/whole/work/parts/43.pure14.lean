/-! THE TEXT, on both sides -/
def pz_TX (tx : fl_Ln) (sc : fl_A) (ss : Int32) (L : Nat) : Prop := L ≤ 40 ∧ tx.2 = nI L ∧ ss = nI L ∧ ∀ i, i < L → tx.1 i = sc i
theorem pz_z64 : (0 : Int64) = (0 : Int32).toInt64 := by decide
theorem pz_255 : (255 : Int64) = (255 : Int32).toInt64 := by decide
theorem pz_97 : (97 : Int64) = (97 : Int32).toInt64 := by decide
theorem pz_104 : (104 : Int64) = (104 : Int32).toInt64 := by decide
theorem pz_ref0 (rf : Int32) : P_M_refused rf (0 : Int32) = some ((0 : Int32), (0 : Int32)) := by
  unfold P_M_refused
  exact if_pos (by decide)
theorem pz_ref1 (rf : Int32) : P_M_refused rf (1 : Int32) = some ((1 : Int32), (1 : Int32)) := by
  unfold P_M_refused
  exact if_neg (by decide)
theorem pz_ref2 (rf : Int32) : P_M_refused rf (2 : Int32) = some ((1 : Int32), (2 : Int32)) := by
  unfold P_M_refused
  exact if_neg (by decide)
theorem pz_append {tx : fl_Ln} {sc : fl_A} {ss rf p : Int32} {L : Nat} (hT : pz_TX tx sc ss L) :
    (P_SC_append tx p = some (.inl 1) ∧ P_M_append rf sc ss p = some (0, 1, sc, ss)) ∨ (P_SC_append tx p = some (.inl 2) ∧ P_M_append rf sc ss p = some (0, 2, sc, ss)) ∨
    ∃ v tx' sc' ss', P_SC_append tx p = some (.inr (v, tx')) ∧ P_M_append rf sc ss p = some (v, 0, sc', ss') ∧ pz_TX tx' sc' ss' (L + 1) := by
  obtain ⟨hL, h1, h2, h3⟩ := hT
  have hno : p < 0 ∨ (255 : Int32) < p → P_M_append rf sc ss p = some (0, 1, sc, ss) := by
    intro h
    unfold P_M_append
    rw [pz_z64, pz_255, pz_in_no h, fl_bd_some, if_pos rfl]
    unfold P_M_append_J31
    rw [pz_ref1, fl_bd_some]
    exact if_neg (show ¬ (1 : Int32) = 0 by decide)
  by_cases c1 : p < 0
  · left
    unfold P_SC_append
    exact ⟨if_pos c1, hno (Or.inl c1)⟩
  · by_cases c2 : p ≤ (255 : Int32)
    · have c3 : ¬ (255 : Int32) < p := by
        rw [Int32.lt_iff_toInt_lt]
        rw [Int32.le_iff_toInt_le] at c2
        omega
      right
      unfold P_SC_append P_M_append P_Ln_isFull
      rw [if_neg c1, if_pos c2, pz_z64, pz_255, pz_in_yes c1 c3, fl_bd_some, h1, h2, if_neg (show ¬ (1 : Int32) = 0 by decide)]
      by_cases c4 : L < 40
      · right
        rw [if_pos (nI_lt c4 (by decide)), fl_bd_some, if_pos rfl, if_neg (show ¬ nI L = (40 : Int32) from fun z => by have := (nI_eq (b := 40) (show L < 2 ^ 31 by omega) (by decide)).mp z; omega)]
        unfold P_Ln_add P_M_append_J31
        rw [h1, if_neg (nI_pos (by omega)), if_neg (nI_ge c4 (by decide)), pz_ck c4 (by decide), fl_bd_some, pz_ref0, fl_bd_some, if_pos rfl, pz_ck c4 (by decide), nI_clamp (by omega), nI_1]
        refine ⟨_, _, _, _, rfl, rfl, by omega, rfl, rfl, fun i hi => ?_⟩
        show upd tx.1 L p i = upd sc L p i
        by_cases q : i = L
        · subst q; rw [pz_updS, pz_updS]
        · rw [pz_updN q, pz_updN q]; exact h3 i (by omega)
      · left
        obtain rfl : L = 40 := by omega
        rw [if_neg (nI_nlt (Nat.le_refl 40) (by decide)), fl_bd_some, if_neg (show ¬ (1 : Int32) = 0 by decide), if_pos (show nI 40 = (40 : Int32) from rfl)]
        unfold P_M_append_J31
        rw [pz_ref2, fl_bd_some]
        exact ⟨rfl, if_neg (show ¬ (1 : Int32) = 0 by decide)⟩
    · left
      have c3 : (255 : Int32) < p := by
        rw [Int32.lt_iff_toInt_lt]
        rw [Int32.le_iff_toInt_le] at c2
        omega
      unfold P_SC_append
      rw [if_neg c1, if_neg c2]
      exact ⟨rfl, hno (Or.inr c3)⟩
theorem pz_clearText {tx : fl_Ln} {sc : fl_A} {ss rf : Int32} {L : Nat} (hT : pz_TX tx sc ss L) : ∃ v tx', P_SC_clearText tx = some (v, tx') ∧ P_M_clearText rf ss = some (v, 0, 0) ∧ pz_TX tx' sc 0 0 := by
  unfold P_SC_clearText P_Ln_empty P_M_clearText
  refine ⟨tx.2, (tx.1, 0), rfl, ?_, Nat.zero_le _, rfl, rfl, fun i hi => by omega⟩
  rw [hT.2.1, hT.2.2.1]
theorem pz_isLetter (p : Int32) : (P_isLetter p = some 0 ∧ P_M_in p.toInt64 (97 : Int64) (104 : Int64) = some 0) ∨ (P_isLetter p = some 1 ∧ P_M_in p.toInt64 (97 : Int64) (104 : Int64) = some 1) := by
  unfold P_isLetter
  rw [pz_97, pz_104]
  by_cases h1 : p < (97 : Int32)
  · left
    exact ⟨if_pos h1, pz_in_no (Or.inl h1)⟩
  · rw [if_neg h1]
    by_cases h2 : (105 : Int32) ≤ p
    · left
      refine ⟨if_pos h2, pz_in_no (Or.inr ?_)⟩
      rw [Int32.lt_iff_toInt_lt]
      rw [Int32.le_iff_toInt_le] at h2
      have e1 : (105 : Int32).toInt = 105 := by decide
      have e2 : (104 : Int32).toInt = 104 := by decide
      omega
    · right
      refine ⟨if_neg h2, pz_in_yes h1 ?_⟩
      rw [Int32.lt_iff_toInt_lt]
      rw [Int32.le_iff_toInt_le] at h2
      have e1 : (105 : Int32).toInt = 105 := by decide
      have e2 : (104 : Int32).toInt = 104 := by decide
      omega
/-- the first place of the text that is no letter; 0 of an empty text; -1 of a pattern -/
theorem pz_fault {tx : fl_Ln} {sc : fl_A} {ss : Int32} {L : Nat} (hT : pz_TX tx sc ss L) : ∃ r, P_Ln_firstError 40 tx = some r ∧ P_M_fault sc ss = some r ∧ (r = -1 → 1 ≤ L) := by
  obtain ⟨hL, h1, h2, h3⟩ := hT
  suffices h : ∀ n t, t ≤ L → n = L - t → ∃ r, fl_loop (P_Ln_firstError_L2 40 tx) (nI t) = some r ∧ fl_loop (P_M_fault_L2 sc ss) (nI t) = some r ∧ (r = -1 → 1 ≤ L) by
    exact h L 0 (Nat.zero_le _) rfl
  intro n
  induction n with
  | zero =>
    intro t ht hn
    obtain rfl : t = L := by omega
    refine ⟨if nI t = 0 then 0 else -1, fl_loop_inr ?_, fl_loop_inr ?_, fun z => ?_⟩
    · unfold P_Ln_firstError_L2 P_Ln_firstError_J29
      rw [h1, if_pos (nI_le (Nat.le_refl _) (by omega))]
      split <;> rfl
    · unfold P_M_fault_L2 P_M_fault_J37
      rw [h2, if_pos (nI_le (Nat.le_refl _) (by omega))]
      split <;> rfl
    · rcases Nat.lt_or_ge 0 t with q | q
      · exact q
      · rw [show t = 0 by omega, if_pos (show nI 0 = 0 from rfl)] at z
        exact absurd z (by decide)
  | succ n ih =>
    intro t ht hn
    have hlt : t < L := by omega
    have e1 : P_Ln_codeAt 40 tx (nI t) = some (tx.1 t) := by
      unfold P_Ln_codeAt
      rw [pz_cellOf (by omega) (by decide)]; rfl
    rcases pz_isLetter (sc t) with ⟨q1, q2⟩ | ⟨q1, q2⟩
    · refine ⟨nI t, fl_loop_inr ?_, fl_loop_inr ?_, fun _ => by omega⟩
      · unfold P_Ln_firstError_L2
        rw [h1, if_neg (nI_ge hlt (by omega)), e1, fl_bd_some, h3 t hlt, q1, fl_bd_some, if_pos rfl]
      · unfold P_M_fault_L2
        rw [h2, if_neg (nI_ge hlt (by omega)), pz_ck (by omega) (by decide), nI_clamp (by omega), q2, fl_bd_some, if_pos rfl]
    · obtain ⟨r, g1, g2, g3⟩ := ih (t + 1) (by omega) (by omega)
      refine ⟨r, ?_, ?_, g3⟩
      · rw [fl_loop_inl (s' := nI (t + 1)), g1]
        unfold P_Ln_firstError_L2
        rw [h1, if_neg (nI_ge hlt (by omega)), e1, fl_bd_some, h3 t hlt, q1, fl_bd_some, if_neg (by decide), nI_1]
      · rw [fl_loop_inl (s' := nI (t + 1)), g2]
        unfold P_M_fault_L2
        rw [h2, if_neg (nI_ge hlt (by omega)), pz_ck (by omega) (by decide), nI_clamp (by omega), q2, fl_bd_some, if_neg (by decide), nI_1]
