/-! ERROR POSITION, KNOWN -/
theorem pz_errorPosition {tx : fl_Ln} {sc : fl_A} {ss rf : Int32} {L : Nat} (hT : pz_TX tx sc ss L) : ∃ v, P_SC_errorPosition tx = some v ∧ P_M_errorPosition rf sc ss = some (v, 0) := by
  obtain ⟨r, e1, e2, -⟩ := pz_fault hT
  unfold P_SC_errorPosition P_M_errorPosition
  rw [e1, e2]
  exact ⟨r, rfl, rfl⟩
theorem pz_known {tx : fl_Ln} {ch : fl_Ch} {f sc : fl_A} {ss rf : Int32} {L N V : Nat} {c : Nat → Int32} {len : Nat → Nat} (hT : pz_TX tx sc ss L) (hg : pz_SG ch.1 N V c len) (hf : pz_SF f N V c len) (hN : N ≤ 48) :
    (P_SC_known tx ch = some (.inl 2) ∧ P_M_known rf sc ss f = some (0, 1)) ∨ ∃ v, P_SC_known tx ch = some (.inr v) ∧ P_M_known rf sc ss f = some (v, 0) := by
  obtain ⟨r, e1, e2, -⟩ := pz_fault hT
  unfold P_SC_known P_M_known
  rw [pz_isPattern e1, fl_bd_some, e2, fl_bd_some]
  by_cases q : r = -1
  · right
    rw [if_pos q, if_pos q, if_neg (show ¬ (1 : Int32) = 0 by decide)]
    unfold P_M_known_J14
    rw [pz_ref0, fl_bd_some, if_pos rfl]
    obtain ⟨T, hTT⟩ := pz_T_ex hT hg hf hN
    have hL := hT.1
    have hmx : ∀ t, t ≤ N → pz_max (fun _ => true) T 0 t ≤ L := fun t ht => pz_max_le t (fun i _ hi _ => (hTT i (by omega)).1)
    refine ⟨nI (pz_max (fun _ => true) T 0 N), ?_, ?_⟩
    · obtain ⟨x, e, rfl⟩ := fl_loop_inv (b := P_SC_known_L24 tx ch) (fun n z => ∃ t, z.2 = nI t ∧ t ≤ N ∧ n = N - t ∧ z.1 = nI (pz_max (fun _ => true) T 0 t)) (fun x => x = .inr (nI (pz_max (fun _ => true) T 0 N))) (by
        rintro n ⟨z1, z2⟩ ⟨t, rfl, ht, rfl, rfl⟩
        unfold P_SC_known_L24
        dsimp only
        rw [hg.1]
        by_cases hlt : t < N
        · left
          obtain ⟨g1, g2, -⟩ := hTT t hlt
          have g3 := hmx t ht
          rw [if_neg (nI_ge hlt (by omega)), g2, fl_bd_some, nI_1, pz_mxI (by omega) (by omega)]
          exact ⟨_, N - (t + 1), rfl, by omega, t + 1, rfl, by omega, rfl, by dsimp only; rw [pz_max_t (Nat.zero_le _) rfl]⟩
        · right
          obtain rfl : t = N := by omega
          rw [if_pos (nI_le (Nat.le_refl _) (by omega))]
          exact ⟨_, rfl, rfl⟩) N (nI 0, nI 0) ⟨0, rfl, Nat.zero_le _, rfl, rfl⟩
      exact e
    · obtain ⟨x, e, rfl⟩ := fl_loop_inv (b := P_M_known_L26 0 sc ss f) (fun n z => ∃ t, z.2 = nI t ∧ t ≤ N ∧ n = N - t ∧ z.1 = nI (pz_max (fun _ => true) T 0 t)) (fun x => x = (nI (pz_max (fun _ => true) T 0 N), (0 : Int32))) (by
        rintro n ⟨z1, z2⟩ ⟨t, rfl, ht, rfl, rfl⟩
        unfold P_M_known_L26
        dsimp only
        rw [pz_ck0, pz_c0, hf.1]
        by_cases hlt : t < N
        · left
          obtain ⟨g1, -, g2⟩ := hTT t hlt
          have g3 := hmx t ht
          unfold P_M_known_J54
          rw [if_neg (nI_ge hlt (by omega)), g2, fl_bd_some, fl_bd_some, nI_1]
          have g4 : pz_max (fun _ => true) T 0 (t + 1) = max (pz_max (fun _ => true) T 0 t) (T t) := pz_max_t (Nat.zero_le _) rfl
          by_cases y : T t ≤ pz_max (fun _ => true) T 0 t
          · rw [if_pos (nI_le y (by omega))]
            exact ⟨_, N - (t + 1), rfl, by omega, t + 1, rfl, by omega, rfl, by dsimp only; rw [g4, Nat.max_eq_left y]⟩
          · rw [if_neg (nI_ge (by omega) (by omega))]
            exact ⟨_, N - (t + 1), rfl, by omega, t + 1, rfl, by omega, rfl, by dsimp only; rw [g4, Nat.max_eq_right (by omega)]⟩
        · right
          obtain rfl : t = N := by omega
          rw [if_pos (nI_le (Nat.le_refl _) (by omega))]
          exact ⟨_, rfl, rfl⟩) N (nI 0, nI 0) ⟨0, rfl, Nat.zero_le _, rfl, rfl⟩
      exact e
  · left
    rw [if_neg q, if_neg q, if_pos rfl]
    unfold P_M_known_J14
    rw [pz_ref1, fl_bd_some, if_neg (show ¬ (1 : Int32) = 0 by decide)]
    exact ⟨rfl, rfl⟩
