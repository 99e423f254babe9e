/-! SUMS, PIECES, SINGERS -/
def pz_sum (g : Nat → Nat) : Nat → Nat
  | 0 => 0
  | n + 1 => pz_sum g n + g n
def pz_sumP (P : Nat → Bool) (g : Nat → Nat) : Nat → Nat
  | 0 => 0
  | n + 1 => pz_sumP P g n + (if P n = true then g n else 0)
theorem pz_sumP_congr {P Q : Nat → Bool} {g : Nat → Nat} : ∀ n, (∀ i, i < n → P i = Q i) → pz_sumP P g n = pz_sumP Q g n := by
  intro n
  induction n with
  | zero => intro _; rfl
  | succ n ih => intro h; rw [pz_sumP, pz_sumP, ih (fun i hi => h i (by omega)), h n (by omega)]
theorem pz_sumP_step {P Q : Nat → Bool} {g : Nat → Nat} {x : Nat} (hP : P x = false) (hQ : Q x = true) : ∀ n, x < n → (∀ i, i < n → i ≠ x → P i = Q i) → pz_sumP Q g n = pz_sumP P g n + g x := by
  intro n
  induction n with
  | zero => intro h; omega
  | succ n ih =>
    intro hx h
    rw [pz_sumP, pz_sumP]
    by_cases q : x = n
    · subst q
      rw [hP, hQ, if_pos rfl, if_neg (show ¬ (false = true) by decide), pz_sumP_congr (P := P) (Q := Q) x (fun i hi => h i (by omega) (by omega)), Nat.add_zero]
    · rw [ih (by omega) (fun i hi hne => h i (by omega) hne), h n (by omega) (fun z => q z.symm)]
      omega
theorem pz_sumP_zero {P : Nat → Bool} {g : Nat → Nat} : ∀ n, (∀ i, i < n → P i = true → g i = 0) → pz_sumP P g n = 0 := by
  intro n
  induction n with
  | zero => intro _; rfl
  | succ n ih =>
    intro h
    rw [pz_sumP, ih (fun i hi => h i (by omega))]
    by_cases q : P n = true
    · rw [if_pos q, h n (by omega) q]
    · rw [if_neg q]
theorem pz_sumP_le {P : Nat → Bool} {g : Nat → Nat} : ∀ n, pz_sumP P g n ≤ pz_sum g n := by
  intro n
  induction n with
  | zero => exact Nat.le_refl _
  | succ n ih => rw [pz_sumP, pz_sum]; split <;> omega
theorem pz_sumP_all {P : Nat → Bool} {g : Nat → Nat} : ∀ n, (∀ i, i < n → P i = true) → pz_sumP P g n = pz_sum g n := by
  intro n
  induction n with
  | zero => intro _; rfl
  | succ n ih => intro h; rw [pz_sumP, pz_sum, ih (fun i hi => h i (by omega)), if_pos (h n (by omega))]
theorem pz_sum_tri {N : Nat} : ∀ n, n ≤ N → 2 * pz_sum (fun i => N - i) n + (N - n) * (N - n + 1) = N * (N + 1) := by
  intro n
  induction n with
  | zero => intro _; rw [pz_sum, Nat.sub_zero, Nat.mul_zero, Nat.zero_add]
  | succ n ih =>
    intro h
    have h1 := ih (by omega)
    obtain ⟨k, hk⟩ : ∃ k, N - n = k + 1 := ⟨N - n - 1, by omega⟩
    rw [pz_sum, hk, show N - (n + 1) = k by omega]
    rw [hk] at h1
    rw [← h1]
    have e : (k + 1) * (k + 1 + 1) = k * (k + 1) + 2 * (k + 1) := by rw [← Nat.add_mul, Nat.mul_comm]
    rw [e]; omega
theorem pz_sum_split {c : Nat → Int32} {N : Nat} : ∀ n, n ≤ N → pz_sum (fun i => N - i - pz_sh c N i) n + pz_sum (fun i => pz_sh c N i) n = pz_sum (fun i => N - i) n := by
  intro n
  induction n with
  | zero => intro _; rfl
  | succ n ih =>
    intro h
    have h1 := ih (by omega)
    have h2 := pz_sh_le c (show n < N by omega)
    rw [pz_sum, pz_sum, pz_sum]
    omega
def pz_pcs (c : Nat → Int32) (N : Nat) : Nat := pz_sum (fun i => N - i - pz_sh c N i) N
theorem pz_pcs_eq (c : Nat → Int32) (N : Nat) : N * (N + 1) / 2 - pz_sum (fun i => pz_sh c N i) N = pz_pcs c N ∧ pz_sum (fun i => pz_sh c N i) N ≤ N * (N + 1) / 2 := by
  have h1 := pz_sum_tri (N := N) N (Nat.le_refl _)
  have h2 := pz_sum_split (c := c) (N := N) N (Nat.le_refl _)
  rw [Nat.sub_self, Nat.zero_mul, Nat.add_zero] at h1
  unfold pz_pcs
  omega
theorem pz_Or_pieces {c : Nat → Int32} {N : Nat} {o : fl_Or} (hN : N ≤ 48) (ho : pz_OR c N o) : P_Or_pieces o = some (nI (pz_pcs c N)) := by
  have h := fl_loop_inv (b := P_Or_pieces_L4 o) (fun n z => ∃ t, z.2 = nI t ∧ t ≤ N ∧ n = N - t ∧ z.1 = nI (pz_sum (fun i => N - i - pz_sh c N i) t)) (fun r => r = nI (pz_pcs c N)) (by
    rintro n ⟨b, z⟩ ⟨t, rfl, ht, rfl, rfl⟩
    unfold P_Or_pieces_L4
    dsimp only
    rw [ho.1]
    by_cases hlt : t < N
    · left
      have e2 := pz_sh_le c hlt
      rw [if_neg (nI_ge hlt (by omega)), pz_Or_sharedWithAhead hN ho hlt, fl_bd_some, nI_1, pk_sub (by omega), pk_sub (by omega), nI_add]
      exact ⟨_, N - (t + 1), rfl, by omega, t + 1, rfl, by omega, rfl, rfl⟩
    · right
      obtain rfl : t = N := by omega
      rw [if_pos (nI_le (Nat.le_refl _) (by omega))]
      exact ⟨_, rfl, rfl⟩)
  obtain ⟨r, e, rfl⟩ := h N (nI 0, nI 0) ⟨0, rfl, Nat.zero_le _, rfl, rfl⟩
  exact e
theorem pz_M_pieces {od rk f : fl_A} {N : Nat} (hN : N ≤ 60) (hf : f 0 = nI N) : ∃ od' rk', P_M_pieces od rk f = some (nI (pz_pcs (pz_c f) N), od', rk') := by
  obtain ⟨⟨od1, rk1⟩, e, hm⟩ := pz_lay (od := od) (rk := rk) hN hf
  generalize hc : pz_c f = c at hm
  have hpe := pz_pcs_eq c N
  have hNN : N * (N + 1) ≤ 60 * 61 := Nat.mul_le_mul hN (by omega)
  have h := fl_loop_inv (b := P_M_pieces_L19 od1 rk1 f) (fun n z => ∃ t, z.2 = nI t ∧ (1 ≤ t ∧ t ≤ N + 1) ∧ n = N - t ∧ z.1 = nI (N * (N + 1) / 2 - pz_sumP (fun i => decide (pz_rk c N i < t)) (fun i => pz_sh c N i) N)) (fun r => r = (nI (pz_pcs c N), od1, rk1)) (by
    rintro n ⟨z1, z2⟩ ⟨t, rfl, ht, rfl, rfl⟩
    unfold P_M_pieces_L19
    dsimp only
    rw [pz_ck0, pz_c0, hf]
    by_cases hlt : t < N
    · left
      obtain ⟨i, hi, hri⟩ := pz_rk_surj (c := c) hlt
      obtain ⟨j, hj, hrj⟩ := pz_rk_surj (c := c) (show t - 1 < N by omega)
      have ei : od1 t = nI i := by rw [← hri]; exact hm.1 i hi
      have ej : od1 (t - 1) = nI j := by rw [← hrj]; exact hm.1 j hj
      have hsh := pz_sh_pred hi hj (show pz_rk c N i = pz_rk c N j + 1 by omega)
      have es : nI t - (1 : Int32) = nI (t - 1) := pk_sub (b := 1) (by omega)
      have hst : pz_sumP (fun i => decide (pz_rk c N i < t + 1)) (fun i => pz_sh c N i) N = pz_sumP (fun i => decide (pz_rk c N i < t)) (fun i => pz_sh c N i) N + pz_sh c N i := by
        refine pz_sumP_step (x := i) (decide_eq_false (by omega)) (decide_eq_true (by omega)) N hi (fun u hu hne => ?_)
        have : pz_rk c N u ≠ t := fun z => hne (pz_rk_inj (c := c) hu hi (by omega))
        by_cases y : pz_rk c N u < t
        · rw [decide_eq_true y, decide_eq_true (by omega)]
        · rw [decide_eq_false y, decide_eq_false (by omega)]
      have hle := pz_sumP_le (P := fun i => decide (pz_rk c N i < t + 1)) (g := fun i => pz_sh c N i) N
      rw [if_neg (nI_ge hlt (by omega)), es, pz_ck (by omega) (by decide), pz_ck (by omega) (by decide), nI_clamp (by omega), nI_clamp (by omega), ei, ej, pz_alike hN hf (by omega) (by omega), fl_bd_some, hc, ← hsh, pk_sub (by omega), nI_1]
      exact ⟨_, N - (t + 1), rfl, by omega, t + 1, rfl, ⟨by omega, by omega⟩, rfl, by dsimp only; rw [hst, Nat.sub_sub]⟩
    · right
      rw [if_pos (nI_le (by omega) (by omega))]
      refine ⟨_, rfl, ?_⟩
      rw [pz_sumP_all N (fun i hi => decide_eq_true (by have := pz_rk_lt (c := c) hi; omega)), hpe.1])
  unfold P_M_pieces
  have ew : (f (0 : Int32).toNatClampNeg * (f (0 : Int32).toNatClampNeg + (1 : Int32))) / (2 : Int32) = nI (N * (N + 1) / 2) := by
    rw [pz_c0, hf, nI_1, pk_mul, pz_n2, pk_div (by omega) (by decide) (by decide)]
  rw [pz_ck0, pz_ck0, e, fl_bd_some, ew]
  obtain ⟨r, e2, rfl⟩ := h (N - 1) (nI (N * (N + 1) / 2), nI 1) ⟨1, rfl, ⟨Nat.le_refl _, by omega⟩, rfl, by
    dsimp only
    rw [pz_sumP_zero N (fun i hi hr => pz_sh_first hi (by have := of_decide_eq_true hr; omega)), Nat.sub_zero]⟩
  exact ⟨od1, rk1, by rw [hc] at *; exact e2⟩
-- ===== who sings a rank =====
def pz_fo (N S s : Nat) : Nat := s * N / S
theorem pz_fo_mono {N S s s' : Nat} (h : s ≤ s') : pz_fo N S s ≤ pz_fo N S s' := Nat.div_le_div_right (Nat.mul_le_mul_right N h)
theorem pz_fo_0 (N S : Nat) : pz_fo N S 0 = 0 := by unfold pz_fo; rw [Nat.zero_mul, Nat.zero_div]
theorem pz_fo_S {N S : Nat} (h : 0 < S) : pz_fo N S S = N := by unfold pz_fo; exact Nat.mul_div_cancel_left N h
theorem pz_fo_le {N S s : Nat} (h : 0 < S) (hs : s ≤ S) : pz_fo N S s ≤ N := by have := pz_fo_mono (N := N) (S := S) hs; rw [pz_fo_S h] at this; exact this
def pz_KP (N S r z : Nat) : Prop := z < S ∧ pz_fo N S z ≤ r ∧ r < pz_fo N S (z + 1)
theorem pz_KP_uniq {N S r z z' : Nat} (h : pz_KP N S r z) (h' : pz_KP N S r z') : z = z' := by
  rcases Nat.lt_trichotomy z z' with q | q | q
  · have := pz_fo_mono (N := N) (S := S) (show z + 1 ≤ z' by omega)
    have h1 := h.2.2; have h2 := h'.2.1; omega
  · exact q
  · have := pz_fo_mono (N := N) (S := S) (show z' + 1 ≤ z by omega)
    have h1 := h'.2.2; have h2 := h.2.1; omega
theorem pz_KP_ex {N S r : Nat} (hS : 0 < S) (hr : r < N) : ∃ z, pz_KP N S r z := by
  have h : ∀ s, s ≤ S → r < pz_fo N S s → ∃ z, pz_KP N S r z := by
    intro s
    induction s with
    | zero => intro _ h; rw [pz_fo_0] at h; omega
    | succ s ih =>
      intro h1 h2
      rcases Nat.lt_or_ge r (pz_fo N S s) with q | q
      · exact ih (by omega) q
      · exact ⟨s, by omega, q, h2⟩
  exact h S (Nat.le_refl _) (by rw [pz_fo_S hS]; exact hr)
noncomputable def pz_kp (N S r : Nat) : Nat := @dite _ (∃ z, pz_KP N S r z) (Classical.propDecidable _) (fun h => Classical.choose h) (fun _ => 0)
theorem pz_kp_spec {N S r : Nat} (hS : 0 < S) (hr : r < N) : pz_KP N S r (pz_kp N S r) := by
  have h := pz_KP_ex hS hr
  unfold pz_kp
  rw [dif_pos h]
  exact Classical.choose_spec h
theorem pz_kp_eq {N S r z : Nat} (hr : r < N) (h : pz_KP N S r z) : pz_kp N S r = z := pz_KP_uniq (pz_kp_spec (Nat.lt_of_le_of_lt (Nat.zero_le _) h.1) hr) h
theorem pz_kp_lt {N S r : Nat} (hS : 0 < S) (hr : r < N) : pz_kp N S r < S := (pz_kp_spec hS hr).1
theorem pz_M_firstOf {f : fl_A} {N S s : Nat} (hN : N ≤ 60) (hS : 0 < S) (hS8 : S ≤ 9) (hs : s ≤ 10) (hf : f 0 = nI N) (hf2 : f 2 = nI S) : P_M_firstOf f (nI s) = some (nI (pz_fo N S s)) := by
  have hb : s * N ≤ 10 * 60 := Nat.mul_le_mul hs hN
  unfold P_M_firstOf
  rw [pz_ck0, pz_ck2, pz_c0, pz_c2, hf, hf2, pk_mul, pk_div (by omega) hS (by omega)]
  unfold fl_nz
  rw [if_neg (nI_ne0 hS (by omega))]
  rfl
theorem pz_Sg_lowest {g : fl_Sg} {N S s : Nat} (hN : N ≤ 60) (hS : 0 < S) (hS8 : S ≤ 9) (hs : s ≤ 10) (hf : g.2.2.1 = nI N) (hf2 : g.2.2.2.2.1 = nI S) : P_Sg_lowestRankOf g (nI s) = some (nI (pz_fo N S s)) := by
  have hb : s * N ≤ 10 * 60 := Nat.mul_le_mul hs hN
  unfold P_Sg_lowestRankOf
  rw [hf, hf2, if_pos (show (1 : Int32) ≤ nI S from nI_le (a := 1) (by omega) (by omega)), pk_mul, pk_div (by omega) hS (by omega)]
  unfold fl_nz
  rw [if_neg (nI_ne0 hS (by omega))]
  rfl
theorem pz_M_singerOf {f : fl_A} {N S r : Nat} (hN : N ≤ 60) (hS : 0 < S) (hS8 : S ≤ 8) (hf : f 0 = nI N) (hf2 : f 2 = nI S) (hr : r < N) : P_M_singerOf f (nI r) = some (nI (pz_kp N S r)) := by
  have h := fl_loop_inv (b := P_M_singerOf_L2 f (nI r)) (fun n z => ∃ t, z = nI t ∧ t < S ∧ n = S - t ∧ pz_fo N S t ≤ r) (fun x => x = nI (pz_kp N S r)) (by
    rintro n z ⟨t, rfl, ht, rfl, h1⟩
    unfold P_M_singerOf_L2
    have hb := pz_fo_le (N := N) hS (show t + 1 ≤ S by omega)
    rw [nI_1, pz_M_firstOf hN hS (by omega) (by omega) hf hf2, fl_bd_some]
    by_cases q : r < pz_fo N S (t + 1)
    · right
      rw [if_pos (nI_lt q (by omega))]
      exact ⟨_, rfl, by rw [pz_kp_eq hr ⟨ht, h1, q⟩]⟩
    · left
      rw [if_neg (nI_nlt (by omega) (by omega))]
      have hlt : t + 1 < S := by
        rcases Nat.lt_or_ge (t + 1) S with y | y
        · exact y
        · have e : t + 1 = S := by omega
          rw [e, pz_fo_S hS] at q
          omega
      exact ⟨_, S - (t + 1), rfl, by omega, t + 1, rfl, hlt, rfl, by omega⟩)
  obtain ⟨x, e, rfl⟩ := h S (nI 0) ⟨0, rfl, hS, rfl, by rw [pz_fo_0]; exact Nat.zero_le _⟩
  exact e
