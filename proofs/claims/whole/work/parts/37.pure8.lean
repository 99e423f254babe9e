/-! THE MODEL'S HANDING OVER -/
theorem pz_cnt_shift {P : Nat → Bool} {d : Nat} : ∀ n, pz_cnt P d (d + n) = pz_cnt (fun i => P (i + d)) 0 n := by
  intro n
  induction n with
  | zero => rw [Nat.add_zero, pz_cnt_empty d (Nat.le_refl _)]; rfl
  | succ n ih =>
    rw [← Nat.add_assoc]
    by_cases q : P (d + n) = true
    · rw [pz_cnt_t (by omega) q, pz_cnt_t (P := fun i => P (i + d)) (Nat.zero_le _) (by rw [Nat.add_comm]; exact q), ih]
    · rw [pz_cnt_f (fun z => q z.2), pz_cnt_f (P := fun i => P (i + d)) (fun z => q (by have := z.2; rw [Nat.add_comm] at this; exact this)), ih]
theorem pz_cnt_cut {P : Nat → Bool} {d n : Nat} : ∀ k, pz_cnt (fun i => decide (i + d < d + n) && P (i + d)) 0 (n + k) = pz_cnt (fun i => P (i + d)) 0 n := by
  intro k
  induction k with
  | zero =>
    rw [Nat.add_zero]
    refine pz_cnt_congr n (fun i _ hi => ?_)
    rw [decide_eq_true (show i + d < d + n by omega), Bool.true_and]
  | succ k ih =>
    rw [← Nat.add_assoc, pz_cnt_f (P := fun i => decide (i + d < d + n) && P (i + d)) (fun z => ?_), ih]
    have h2 := z.2
    try dsimp only at h2
    rw [decide_eq_false (show ¬ (n + k + d < d + n) by omega), Bool.false_and] at h2
    cases h2
theorem pz_cnt_moved {P : Nat → Bool} {d M N : Nat} (h1 : d ≤ M) (h2 : M ≤ d + N) : pz_cnt (fun i => decide (i + d < M) && P (i + d)) 0 N = pz_cnt P d M := by
  obtain ⟨n, rfl⟩ : ∃ n, M = d + n := ⟨M - d, by omega⟩
  obtain ⟨k, rfl⟩ : ∃ k, N = n + k := ⟨N - n, by omega⟩
  rw [pz_cnt_cut, pz_cnt_shift]
theorem pz_age (a : Int32) (i d : Nat) : nI i + (a + nI d) - a = nI (i + d) := by
  rw [← nI_add]
  generalize nI i = x
  generalize nI d = y
  apply Int32.toBitVec_inj.mp
  simp only [Int32.toBitVec_add, Int32.toBitVec_sub]
  rw [BitVec.add_comm a.toBitVec, ← BitVec.add_assoc, BitVec.add_sub_cancel]
theorem pz_watch {od rk be f : fl_A} {N S : Nat} (hN : N ≤ 60) (hS : 0 < S) (hS8 : S ≤ 8) (hf : f 0 = nI N) (hf2 : f 2 = nI S) : ∃ od' rk' be', P_M_watch od rk be f = some (od', rk', be') ∧ ∀ i, i < N → be' i = nI (pz_kp N S (pz_rk (pz_c f) N i)) := by
  obtain ⟨⟨od1, rk1⟩, e, hm⟩ := pz_lay (od := od) (rk := rk) hN hf
  generalize hc : pz_c f = c at hm ⊢
  have hm2 : ∀ i, i < N → rk1 i = nI (pz_rk c N i) := hm.2
  unfold P_M_watch
  rw [e, fl_bd_some]
  have h := fl_loop_inv (b := P_M_watch_L7 od1 rk1 f) (fun n z => ∃ t, z.1 = nI t ∧ t ≤ N ∧ n = N - t ∧ ∀ i, i < t → z.2 i = nI (pz_kp N S (pz_rk c N i))) (fun r => ∃ be', r = (od1, rk1, be') ∧ ∀ i, i < N → be' i = nI (pz_kp N S (pz_rk c N i))) (by
    rintro n ⟨z, be1⟩ ⟨t, rfl, ht, rfl, h1⟩
    dsimp only at h1
    unfold P_M_watch_L7
    dsimp only
    rw [pz_ck0, pz_c0, hf]
    by_cases hlt : t < N
    · left
      rw [if_neg (nI_ge hlt (by omega)), pz_ck (by omega) (by decide), nI_clamp (by omega), hm2 t hlt, pz_M_singerOf hN hS hS8 hf hf2 (pz_rk_lt hlt), fl_bd_some, pz_ck (by omega) (by decide), nI_1]
      refine ⟨_, N - (t + 1), rfl, by omega, t + 1, rfl, by omega, rfl, fun i hi => ?_⟩
      by_cases q : i = t
      · subst q; exact pz_updS
      · show upd be1 t _ i = _
        rw [pz_updN q]; exact h1 i (by omega)
    · right
      obtain rfl : t = N := by omega
      rw [if_pos (nI_le (Nat.le_refl _) (by omega))]
      exact ⟨_, rfl, be1, rfl, h1⟩)
  obtain ⟨r, e2, be', rfl, h1⟩ := h N (nI 0, be) ⟨0, rfl, Nat.zero_le _, rfl, fun i hi => by omega⟩
  exact ⟨od1, rk1, be', e2, h1⟩
theorem pz_M_handOver {od rk be f : fl_A} {N S d M : Nat} {a : Int32} (hN : N ≤ 60) (hS : 0 < S) (hS8 : S ≤ 8) (hf : f 0 = nI N) (hf2 : f 2 = nI S) (hf3 : f 3 = a + nI d) (kb : Nat → Nat) (hM : M ≤ 60) (hd : d ≤ M) (hMN : M ≤ d + N) (hkb : ∀ i, i < M → be i = nI (kb i) ∧ kb i < 2 ^ 31) :
    ∃ od' rk', P_M_handOver od rk be f (nI M) a = some (nI (pz_cnt (fun i => decide (kb i ≠ pz_kp N S (pz_rk (pz_c f) N (i - d)))) d M), od', rk', upd f 4 (f 4 + nI (pz_cnt (fun i => decide (kb i ≠ pz_kp N S (pz_rk (pz_c f) N (i - d)))) d M))) := by
  obtain ⟨⟨od1, rk1⟩, e, hm⟩ := pz_lay (od := od) (rk := rk) hN hf
  generalize hc : pz_c f = c at hm ⊢
  have hm2 : ∀ i, i < N → rk1 i = nI (pz_rk c N i) := hm.2
  rw [← pz_cnt_moved (P := fun i => decide (kb i ≠ pz_kp N S (pz_rk c N (i - d)))) hd hMN]
  unfold P_M_handOver
  rw [e, fl_bd_some]
  have h := fl_loop_inv (b := P_M_handOver_L11 od1 rk1 be f (nI M) a) (fun n z => ∃ t, z.2 = nI t ∧ t ≤ N ∧ n = N - t ∧ z.1 = nI (pz_cnt (fun i => decide (i + d < M) && decide (kb (i + d) ≠ pz_kp N S (pz_rk c N (i + d - d)))) 0 t)) (fun r => r = (nI (pz_cnt (fun i => decide (i + d < M) && decide (kb (i + d) ≠ pz_kp N S (pz_rk c N (i + d - d)))) 0 N), od1, rk1, upd f 4 (f 4 + nI (pz_cnt (fun i => decide (i + d < M) && decide (kb (i + d) ≠ pz_kp N S (pz_rk c N (i + d - d)))) 0 N)))) (by
    rintro n ⟨z1, z2⟩ ⟨t, rfl, ht, rfl, rfl⟩
    unfold P_M_handOver_L11
    dsimp only
    rw [pz_ck0, pz_c0, hf]
    by_cases hlt : t < N
    · left
      rw [if_neg (nI_ge hlt (by omega)), pz_ck3, pz_c3, hf3, pz_age]
      by_cases q : M ≤ t + d
      · rw [if_pos (nI_le q (by omega))]
        unfold P_M_handOver_J62 P_M_handOver_J63
        rw [nI_1, pz_n0, nI_add, Nat.add_zero]
        refine ⟨_, N - (t + 1), rfl, by omega, t + 1, rfl, by omega, rfl, ?_⟩
        dsimp only
        rw [pz_cnt_f (P := fun i => decide (i + d < M) && decide (kb (i + d) ≠ pz_kp N S (pz_rk c N (i + d - d)))) (fun z => ?_)]
        have h2 := z.2
        try dsimp only at h2
        rw [decide_eq_false (show ¬ (t + d < M) by omega), Bool.false_and] at h2
        cases h2
      · have hkl := pz_kp_bound (N := N) (r := pz_rk c N t) hS hS8 (pz_rk_lt hlt)
        rw [if_neg (nI_ge (by omega) (by omega)), pz_ck (by omega) (by decide), pz_ck (by omega) (by decide), nI_clamp (n := t) (by omega), hm2 t hlt, pz_M_singerOf hN hS hS8 hf hf2 (pz_rk_lt hlt), fl_bd_some, nI_clamp (by omega), (hkb _ (by omega)).1]
        by_cases q2 : kb (t + d) = pz_kp N S (pz_rk c N t)
        · rw [if_pos (by rw [q2])]
          unfold P_M_handOver_J62 P_M_handOver_J63
          rw [nI_1, pz_n0, nI_add, Nat.add_zero]
          refine ⟨_, N - (t + 1), rfl, by omega, t + 1, rfl, by omega, rfl, ?_⟩
          dsimp only
          rw [pz_cnt_f (P := fun i => decide (i + d < M) && decide (kb (i + d) ≠ pz_kp N S (pz_rk c N (i + d - d)))) (fun z => ?_)]
          have h2 := z.2
          try dsimp only at h2
          rw [Nat.add_sub_cancel, decide_eq_false (show ¬ (kb (t + d) ≠ pz_kp N S (pz_rk c N t)) from fun y => y q2), Bool.and_false] at h2
          cases h2
        · rw [if_neg (fun z => q2 ((nI_eq (hkb _ (by omega)).2 hkl).mp z))]
          unfold P_M_handOver_J63
          rw [nI_1, nI_1]
          refine ⟨_, N - (t + 1), rfl, by omega, t + 1, rfl, by omega, rfl, ?_⟩
          dsimp only
          rw [pz_cnt_t (P := fun i => decide (i + d < M) && decide (kb (i + d) ≠ pz_kp N S (pz_rk c N (i + d - d)))) (Nat.zero_le _) (by
            try dsimp only
            rw [Nat.add_sub_cancel, decide_eq_true (show t + d < M by omega), decide_eq_true q2]; rfl)]
    · right
      obtain rfl : t = N := by omega
      rw [if_pos (nI_le (Nat.le_refl _) (by omega))]
      unfold P_M_handOver_J72
      rw [pz_ck4, pz_ck4, pz_c4]
      exact ⟨_, rfl, rfl⟩)
  obtain ⟨r, e2, rfl⟩ := h N (nI 0, nI 0) ⟨0, rfl, Nat.zero_le _, rfl, rfl⟩
  exact ⟨od1, rk1, e2⟩
