/-! THE CHOIR: who keeps a place; what is handed over -/
def pz_KE (c : Nat → Int32) (N S : Nat) (ke : fl_A) : Prop := ∀ i, i < N → ke i = nI (pz_kp N S (pz_rk c N i))
theorem pz_shareOut {ch : fl_Ch} {N S : Nat} (hN : N ≤ 48) (hS : 0 < S) (hS8 : S ≤ 8) (hn : ch.1.2.2.1 = nI N) (hs : ch.1.2.2.2.2.1 = nI S) (ho : pz_OR ch.1.1 N ch.2.1) : ∃ ke, P_Ch_shareOut ch = some (ch.1, ch.2.1, ke, ch.2.2.2) ∧ pz_KE ch.1.1 N S ke := by
  obtain ⟨g, o, k0, kb⟩ := ch
  dsimp only at hn hs ho ⊢
  have h := fl_loop_inv (b := P_Ch_shareOut_L2) (fun n z => ∃ t ke, z = (nI t, g, o, ke, kb) ∧ t ≤ S ∧ n = S - t ∧ ∀ i, i < N → pz_rk g.1 N i < pz_fo N S t → ke i = nI (pz_kp N S (pz_rk g.1 N i))) (fun r => ∃ ke, r = (g, o, ke, kb) ∧ pz_KE g.1 N S ke) (by
    rintro n z ⟨t, ke, rfl, ht, rfl, h1⟩
    unfold P_Ch_shareOut_L2
    dsimp only
    rw [hs]
    by_cases hlt : t < S
    · left
      have hb1 := pz_fo_le (N := N) hS (show t + 1 ≤ S by omega)
      have hmo := pz_fo_mono (N := N) (S := S) (show t ≤ t + 1 by omega)
      rw [if_neg (nI_ge hlt (by omega)), nI_1, pz_Sg_lowest (by omega) hS (by omega) (by omega) hn hs, fl_bd_some, pz_Sg_lowest (by omega) hS (by omega) (by omega) hn hs, fl_bd_some]
      have hin := fl_loop_inv (b := P_Ch_shareOut_L33 (nI t) (nI (pz_fo N S (t + 1)))) (fun n z => ∃ x ke, z = (nI x, g, o, ke, kb) ∧ pz_fo N S t ≤ x ∧ x ≤ pz_fo N S (t + 1) ∧ n = pz_fo N S (t + 1) - x ∧ ∀ i, i < N → pz_rk g.1 N i < x → ke i = nI (pz_kp N S (pz_rk g.1 N i))) (fun r => ∃ ke, r = .inl (nI (t + 1), g, o, ke, kb) ∧ ∀ i, i < N → pz_rk g.1 N i < pz_fo N S (t + 1) → ke i = nI (pz_kp N S (pz_rk g.1 N i))) (by
        rintro n z ⟨x, ke, rfl, hx1, hx2, rfl, h2⟩
        unfold P_Ch_shareOut_L33
        dsimp only
        by_cases hx : x < pz_fo N S (t + 1)
        · left
          obtain ⟨i, hi, hri⟩ := pz_rk_surj (c := g.1) (show x < N by omega)
          have hpl : P_Or_placeAt o (nI x) = some (nI i) := by rw [← hri]; exact pz_Or_placeAt hN ho hi
          rw [if_neg (nI_ge hx (by omega)), hpl, fl_bd_some, if_neg (nI_pos (by omega)), if_neg (nI_ge (by omega) (by decide)), pz_ck (by omega) (by decide), nI_clamp (by omega)]
          unfold P_Ch_shareOut_J71
          rw [nI_1]
          refine ⟨_, pz_fo N S (t + 1) - (x + 1), rfl, by omega, x + 1, _, rfl, by omega, by omega, rfl, fun u hu hux => ?_⟩
          by_cases q : u = i
          · subst q
            rw [pz_updS, hri, pz_kp_eq (by omega) ⟨hlt, hx1, hx⟩]
          · rw [pz_updN q]
            refine h2 u hu ?_
            have : pz_rk g.1 N u ≠ x := fun z => q (pz_rk_inj (c := g.1) hu hi (by omega))
            omega
        · right
          obtain rfl : x = pz_fo N S (t + 1) := by omega
          rw [if_pos (nI_le (Nat.le_refl _) (by omega))]
          unfold P_Ch_shareOut_J77
          rw [nI_1]
          exact ⟨_, rfl, ke, rfl, h2⟩)
      obtain ⟨r, e, ke2, rfl, h2⟩ := hin _ (nI (pz_fo N S t), g, o, ke, kb) ⟨pz_fo N S t, ke, rfl, Nat.le_refl _, hmo, rfl, h1⟩
      exact ⟨_, S - (t + 1), e, by omega, t + 1, ke2, rfl, by omega, rfl, h2⟩
    · right
      obtain rfl : t = S := by omega
      rw [if_pos (nI_le (Nat.le_refl _) (by omega))]
      refine ⟨_, rfl, ke, rfl, fun i hi => h1 i hi ?_⟩
      rw [pz_fo_S hS]
      exact pz_rk_lt hi)
  unfold P_Ch_shareOut
  obtain ⟨r, e, ke, rfl, h1⟩ := h S (nI 0, g, o, k0, kb) ⟨0, k0, rfl, Nat.zero_le _, rfl, fun i hi hr => by rw [pz_fo_0] at hr; omega⟩
  exact ⟨ke, e, h1⟩
theorem pz_Ch_keeperOf {ch : fl_Ch} {N S i : Nat} (hN : N ≤ 48) (hk : pz_KE ch.1.1 N S ch.2.2.1) (hi : i < N) : P_Ch_keeperOf ch (nI i) = some (nI (pz_kp N S (pz_rk ch.1.1 N i))) := by
  unfold P_Ch_keeperOf
  rw [pz_cellOf (by omega) (by decide), fl_bd_some, hk i hi]
theorem pz_copyRow (f g : fl_A) : ∃ r, P_copyRow f g = some r ∧ ∀ i, i < 48 → r i = f i := by
  unfold P_copyRow
  refine ⟨_, rfl, fun i hi => ?_⟩
  have e1 : (0 : Int32).toNatClampNeg = 0 := by decide
  have e2 : (fl_mn (nI 48) (nI 48)).toNatClampNeg = 48 := by rw [pz_mnI (by decide) (by decide), nI_clamp (by decide)]; rfl
  rw [e1, e2]
  unfold va_cpy
  simp [hi]
/-- how many places below b, from a on, have the property -/
theorem pz_kp_bound {N S r : Nat} (hS : 0 < S) (hS8 : S ≤ 8) (hr : r < N) : pz_kp N S r < 2 ^ 31 := by have := pz_kp_lt hS hr; omega
/-- how many of the places from d below M go to another singer: the keepers kb before, the ranks among N of the places moved down by d now -/
theorem pz_handOver {ch : fl_Ch} {N S d M : Nat} (hN : N ≤ 48) (hS : 0 < S) (hS8 : S ≤ 8) (hn : ch.1.2.2.1 = nI N) (hs : ch.1.2.2.2.2.1 = nI S) (ho : pz_OR ch.1.1 N ch.2.1) (kb : Nat → Nat) (hM : M ≤ 48) (hdM : d ≤ M) (hMN : M ≤ d + N) (hkb : ∀ i, i < M → ch.2.2.1 i = nI (kb i) ∧ kb i < 2 ^ 31) :
    ∃ ke kbf, P_Ch_handOver ch (nI d) (nI M) = some (nI (pz_cnt (fun i => decide (kb i ≠ pz_kp N S (pz_rk ch.1.1 N (i - d)))) d M), ((ch.1.1, ch.1.2.1, ch.1.2.2.1, ch.1.2.2.2.1, ch.1.2.2.2.2.1, ch.1.2.2.2.2.2.1, ch.1.2.2.2.2.2.2.1 + nI (pz_cnt (fun i => decide (kb i ≠ pz_kp N S (pz_rk ch.1.1 N (i - d)))) d M), ch.1.2.2.2.2.2.2.2), ch.2.1, ke, kbf)) ∧ pz_KE ch.1.1 N S ke := by
  obtain ⟨kbf, e0, h0⟩ := pz_copyRow ch.2.2.1 ch.2.2.2
  obtain ⟨ke, e1, h1⟩ := pz_shareOut (ch := (ch.1, ch.2.1, ch.2.2.1, kbf)) hN hS hS8 hn hs ho
  dsimp only at e1 h1
  unfold P_Ch_handOver
  rw [e0, fl_bd_some, e1, fl_bd_some]
  have h := fl_loop_inv (b := P_Ch_handOver_L20 (ch.1, ch.2.1, ke, kbf) (nI d) (nI M)) (fun n z => ∃ t, z.2 = nI t ∧ d ≤ t ∧ t ≤ M ∧ n = M - t ∧ z.1 = nI (pz_cnt (fun i => decide (kb i ≠ pz_kp N S (pz_rk ch.1.1 N (i - d)))) d t)) (fun r => r = (nI (pz_cnt (fun i => decide (kb i ≠ pz_kp N S (pz_rk ch.1.1 N (i - d)))) d M), ((ch.1.1, ch.1.2.1, ch.1.2.2.1, ch.1.2.2.2.1, ch.1.2.2.2.2.1, ch.1.2.2.2.2.2.1, ch.1.2.2.2.2.2.2.1 + nI (pz_cnt (fun i => decide (kb i ≠ pz_kp N S (pz_rk ch.1.1 N (i - d)))) d M), ch.1.2.2.2.2.2.2.2), ch.2.1, ke, kbf))) (by
    rintro n ⟨z1, z2⟩ ⟨t, rfl, hdt, ht, rfl, rfl⟩
    unfold P_Ch_handOver_L20
    dsimp only
    by_cases hlt : t < M
    · left
      have hk := pz_Ch_keeperOf (ch := (ch.1, ch.2.1, ke, kbf)) hN h1 (show t - d < N by omega)
      dsimp only at hk
      have hkl := pz_kp_bound (N := N) (r := pz_rk ch.1.1 N (t - d)) hS hS8 (pz_rk_lt (by omega))
      rw [if_neg (nI_ge hlt (by omega)), pz_cellOf (by omega) (by decide), fl_bd_some, pk_sub hdt, hk, fl_bd_some, h0 t (by omega), (hkb t hlt).1]
      unfold P_Ch_handOver_J49
      by_cases q : kb t = pz_kp N S (pz_rk ch.1.1 N (t - d))
      · rw [if_pos (by rw [q]), nI_1]
        exact ⟨_, M - (t + 1), rfl, by omega, t + 1, rfl, by omega, by omega, rfl, by
          dsimp only
          rw [pz_cnt_f (P := fun i => decide (kb i ≠ pz_kp N S (pz_rk ch.1.1 N (i - d)))) (fun z => (of_decide_eq_true (p := kb t ≠ pz_kp N S (pz_rk ch.1.1 N (t - d))) z.2) q)]⟩
      · rw [if_neg (fun z => q ((nI_eq (hkb t hlt).2 hkl).mp z)), nI_1, nI_1]
        exact ⟨_, M - (t + 1), rfl, by omega, t + 1, rfl, by omega, by omega, rfl, by
          dsimp only
          rw [pz_cnt_t (P := fun i => decide (kb i ≠ pz_kp N S (pz_rk ch.1.1 N (i - d)))) hdt (decide_eq_true q)]⟩
    · right
      obtain rfl : t = M := by omega
      rw [if_pos (nI_le (Nat.le_refl _) (by omega))]
      unfold P_Ch_handOver_J55
      exact ⟨_, rfl, rfl⟩)
  obtain ⟨r, e, rfl⟩ := h (M - d) (nI 0, nI d) ⟨d, rfl, Nat.le_refl _, hdM, rfl, by dsimp only; rw [pz_cnt_empty d (Nat.le_refl _)]⟩
  exact ⟨ke, kbf, e, h1⟩
