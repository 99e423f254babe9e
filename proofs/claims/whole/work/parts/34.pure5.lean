/-! BOTH ORDERS SAY THE SAME -/
theorem pz_L_congr {c c' : Nat → Int32} {N : Nat} (h : ∀ i, i < N → c i = c' i) (i j : Nat) : pz_L c N i j = pz_L c' N i j := by
  have s := pz_L_spec c' N i j
  refine pz_L_eq ⟨fun t ht => ?_, fun z => s.2 ⟨z.1, z.2.1, ?_⟩⟩
  · have := s.1 t ht
    exact ⟨this.1, this.2.1, by rw [h _ this.1, h _ this.2.1]; exact this.2.2⟩
  · rw [← h _ z.1, ← h _ z.2.1]; exact z.2.2
theorem pz_a_congr {c c' : Nat → Int32} {N : Nat} (h : ∀ i, i < N → c i = c' i) (i j : Nat) : pz_a c N i j = pz_a c' N i j := by
  have e : pz_A c N i j ↔ pz_A c' N i j := by
    unfold pz_A
    rw [pz_L_congr h]
    constructor
    · rintro ⟨h1, h2 | ⟨h2, h3, h4⟩⟩
      · exact ⟨h1, Or.inl h2⟩
      · exact ⟨h1, Or.inr ⟨h2, h3, by rw [← h _ h2, ← h _ h3]; exact h4⟩⟩
    · rintro ⟨h1, h2 | ⟨h2, h3, h4⟩⟩
      · exact ⟨h1, Or.inl h2⟩
      · exact ⟨h1, Or.inr ⟨h2, h3, by rw [h _ h2, h _ h3]; exact h4⟩⟩
  cases ha : pz_a c' N i j with
  | true => exact pz_a_iff.mpr (e.mpr (pz_a_iff.mp ha))
  | false => exact Bool.eq_false_iff.mpr (fun z => by rw [pz_a_iff.mpr (e.mp (pz_a_iff.mp z))] at ha; cases ha)
theorem pz_rk_congr {c c' : Nat → Int32} {N : Nat} (h : ∀ i, i < N → c i = c' i) (i : Nat) : pz_rk c N i = pz_rk c' N i := pz_cnt_congr N (fun j _ _ => pz_a_congr h j i)
theorem pz_sh_congr {c c' : Nat → Int32} {N : Nat} (h : ∀ i, i < N → c i = c' i) (i : Nat) : pz_sh c N i = pz_sh c' N i := pz_max_congr N (fun j _ _ => ⟨pz_a_congr h j i, pz_L_congr h j i⟩)
theorem pz_rp_congr {c c' : Nat → Int32} {N : Nat} (h : ∀ i, i < N → c i = c' i) (i : Nat) : pz_rp c N i = pz_rp c' N i := pz_max_congr N (fun j _ _ => ⟨rfl, pz_L_congr h j i⟩)
theorem pz_MO_congr {c c' : Nat → Int32} {N : Nat} {od rk : fl_A} (h : ∀ i, i < N → c i = c' i) (hm : pz_MO c N od rk) : pz_MO c' N od rk := ⟨fun i hi => by rw [← pz_rk_congr h]; exact hm.1 i hi, fun i hi => by rw [← pz_rk_congr h]; exact hm.2 i hi⟩
-- ===== what a place shares with the one before it in the order =====
theorem pz_sh_pred {c : Nat → Int32} {N i j : Nat} (hi : i < N) (hj : j < N) (h : pz_rk c N i = pz_rk c N j + 1) : pz_sh c N i = pz_L c N j i := by
  have hji : pz_A c N j i := (pz_rk_iff hj hi).mp (by omega)
  refine Nat.le_antisymm ?_ ?_
  · refine pz_max_le N (fun u _ hu hui => ?_)
    have hu2 := pz_a_iff.mp hui
    have h1 := (pz_rk_iff hu hi).mpr hu2
    rcases Nat.lt_or_ge (pz_rk c N u) (pz_rk c N j) with q | q
    · have h2 := (pz_A_trans ((pz_rk_iff hu hj).mp q) hji).2
      omega
    · rw [pz_rk_inj (c := c) hu hj (by omega)]
      exact Nat.le_refl _
  · exact pz_max_ge (P := fun u => pz_a c N u i) (v := fun u => pz_L c N u i) N j (Nat.zero_le _) hj (pz_a_iff.mpr hji)
theorem pz_sh_first {c : Nat → Int32} {N i : Nat} (hi : i < N) (h : pz_rk c N i = 0) : pz_sh c N i = 0 := by
  refine Nat.le_zero.mp (pz_max_le N (fun u _ hu hui => ?_))
  have h1 := (pz_rk_iff hu hi).mpr (pz_a_iff.mp hui)
  omega
theorem pz_sh_le (c : Nat → Int32) {N i : Nat} (hi : i < N) : i + pz_sh c N i ≤ N := by
  have h : pz_sh c N i ≤ N - i := pz_max_le N (fun u _ hu _ => by have := pz_L_le (c := c) (show u ≤ N by omega) (show i ≤ N by omega); omega)
  omega
theorem pz_rp_le (c : Nat → Int32) {N i : Nat} (hi : i < N) : i + pz_rp c N i ≤ N := by
  have h : pz_rp c N i ≤ N - i := pz_max_le N (fun u _ hu _ => by have := pz_L_le (c := c) (show u ≤ N by omega) (show i ≤ N by omega); omega)
  omega
/-- the longest repeat -/
def pz_lon (c : Nat → Int32) (N : Nat) : Nat := pz_max (fun _ => true) (fun i => pz_rp c N i) 0 N
theorem pz_lon_le (c : Nat → Int32) (N : Nat) : pz_lon c N ≤ N := pz_max_le N (fun u _ hu _ => by have := pz_rp_le c hu; omega)
theorem pz_sh_lon {c : Nat → Int32} {N i : Nat} (hi : i < N) : pz_sh c N i ≤ pz_lon c N := by
  have h1 : pz_rp c N i ≤ pz_lon c N := pz_max_ge (P := fun _ => true) (v := fun i => pz_rp c N i) N i (Nat.zero_le _) hi rfl
  have h2 : pz_sh c N i ≤ pz_rp c N i := pz_max_le N (fun u _ hu hui => pz_max_ge (P := fun u => decide (u ≠ i)) (v := fun u => pz_L c N u i) N u (Nat.zero_le _) hu (decide_eq_true (pz_a_iff.mp hui).1))
  omega
theorem pz_lon_sh {c : Nat → Int32} {N m : Nat} (h : ∀ i, i < N → pz_sh c N i ≤ m) : pz_lon c N ≤ m := by
  refine pz_max_le N (fun i _ hi _ => pz_max_le N (fun u _ hu hui => ?_))
  have hne : u ≠ i := of_decide_eq_true hui
  rcases pz_A_tot (c := c) hu hi hne with q | q
  · exact Nat.le_trans (pz_max_ge (P := fun u => pz_a c N u i) (v := fun u => pz_L c N u i) N u (Nat.zero_le _) hu (pz_a_iff.mpr q)) (h i hi)
  · have := Nat.le_trans (pz_max_ge (P := fun v => pz_a c N v u) (v := fun v => pz_L c N v u) N i (Nat.zero_le _) hi (pz_a_iff.mpr q)) (h u hu)
    rw [pz_L_symm]; exact this
theorem pz_cellOf {M i : Nat} {f : fl_A} (hi : i < M) (hM : M < 2 ^ 31) : P_cellOf M f (nI i) = some (f i) := by
  unfold P_cellOf
  rw [if_neg (nI_pos (by omega)), if_neg (nI_ge hi hM), pz_ck hi hM, nI_clamp (by omega)]
theorem pz_Or_repeatAt {c : Nat → Int32} {N i : Nat} {o : fl_Or} (hN : N ≤ 48) (ho : pz_OR c N o) (hi : i < N) : P_Or_repeatAt o (nI i) = some (nI (pz_rp c N i)) := by
  unfold P_Or_repeatAt
  rw [pz_cellOf (by omega) (by decide), fl_bd_some, ho.2.2.2.2 i hi]
theorem pz_Or_sharedWithAhead {c : Nat → Int32} {N i : Nat} {o : fl_Or} (hN : N ≤ 48) (ho : pz_OR c N o) (hi : i < N) : P_Or_sharedWithAhead o (nI i) = some (nI (pz_sh c N i)) := by
  unfold P_Or_sharedWithAhead
  rw [pz_cellOf (by omega) (by decide), fl_bd_some, ho.2.2.2.1 i hi]
theorem pz_Or_rankOf {c : Nat → Int32} {N i : Nat} {o : fl_Or} (hN : N ≤ 48) (ho : pz_OR c N o) (hi : i < N) : P_Or_rankOf o (nI i) = some (nI (pz_rk c N i)) := by
  unfold P_Or_rankOf
  rw [pz_cellOf (by omega) (by decide), fl_bd_some, ho.2.1 i hi]
theorem pz_Or_placeAt {c : Nat → Int32} {N i : Nat} {o : fl_Or} (hN : N ≤ 48) (ho : pz_OR c N o) (hi : i < N) : P_Or_placeAt o (nI (pz_rk c N i)) = some (nI i) := by
  have h := pz_rk_lt (c := c) hi
  unfold P_Or_placeAt
  rw [if_neg (nI_pos (by omega)), ho.1, if_neg (nI_ge h (by omega)), if_neg (show ¬ nI 48 ≤ _ from nI_ge (by omega) (by decide)), pz_ck (by omega) (by decide), nI_clamp (by omega), ho.2.2.1 i hi]
theorem pz_Or_placeOut {c : Nat → Int32} {N : Nat} {o : fl_Or} {p : Int32} (ho : pz_OR c N o) (h : p < 0 ∨ nI N ≤ p) : P_Or_placeAt o p = some (-1) := by
  unfold P_Or_placeAt
  by_cases h1 : p < 0
  · rw [if_pos h1]
  · rw [if_neg h1, ho.1, if_pos (h.resolve_left h1)]
theorem pz_Or_longest {c : Nat → Int32} {N : Nat} {o : fl_Or} (hN : N ≤ 48) (ho : pz_OR c N o) : P_Or_longestRepeat o = some (nI (pz_lon c N)) := by
  have h := fl_loop_inv (b := P_Or_longestRepeat_L4 o) (fun n z => ∃ t, z.2 = nI t ∧ t ≤ N ∧ n = N - t ∧ z.1 = nI (pz_max (fun _ => true) (fun i => pz_rp c N i) 0 t)) (fun r => r = nI (pz_lon c N)) (by
    rintro n ⟨b, z⟩ ⟨t, rfl, ht, rfl, rfl⟩
    unfold P_Or_longestRepeat_L4
    dsimp only
    rw [ho.1]
    by_cases hlt : t < N
    · left
      have e1 : pz_max (fun _ => true) (fun i => pz_rp c N i) 0 t ≤ N := pz_max_le t (fun u _ hu _ => by have := pz_rp_le c (show u < N by omega); omega)
      have e2 := pz_rp_le c hlt
      rw [if_neg (nI_ge hlt (by omega)), pz_Or_repeatAt hN ho hlt, fl_bd_some, nI_1, pz_mxI (by omega) (by omega)]
      exact ⟨_, N - (t + 1), rfl, by omega, t + 1, rfl, by omega, rfl, by dsimp only; rw [pz_max_t (Nat.zero_le _) rfl]⟩
    · right
      obtain rfl : t = N := by omega
      rw [if_pos (nI_le (Nat.le_refl _) (by omega))]
      exact ⟨_, rfl, rfl⟩)
  obtain ⟨r, e, rfl⟩ := h N (nI 0, nI 0) ⟨0, rfl, Nat.zero_le _, rfl, rfl⟩
  exact e
theorem pz_M_longest {od rk f : fl_A} {N : Nat} (hN : N ≤ 60) (hf : f 0 = nI N) : ∃ od' rk', P_M_longest od rk f = some (nI (pz_lon (pz_c f) N), od', rk') := by
  obtain ⟨⟨od1, rk1⟩, e, hm⟩ := pz_lay (od := od) (rk := rk) hN hf
  generalize hc : pz_c f = c at hm
  have h := fl_loop_inv (b := P_M_longest_L9 od1 rk1 f) (fun n z => ∃ t b, z.2 = nI t ∧ (1 ≤ t ∧ t ≤ N + 1) ∧ n = N - t ∧ z.1 = nI b ∧ b ≤ N ∧ (∀ i, i < N → pz_rk c N i < t → pz_sh c N i ≤ b) ∧ (b = 0 ∨ ∃ i, i < N ∧ pz_sh c N i = b)) (fun r => r = (nI (pz_lon c N), od1, rk1)) (by
    rintro n ⟨z1, z2⟩ ⟨t, b, rfl, ht, rfl, rfl, hb, h1, h2⟩
    unfold P_M_longest_L9
    dsimp only
    rw [pz_ck0, pz_c0, hf]
    by_cases hlt : t < N
    · left
      obtain ⟨i, hi, hri⟩ := pz_rk_surj (c := c) hlt
      obtain ⟨j, hj, hrj⟩ := pz_rk_surj (c := c) (show t - 1 < N by omega)
      have ei : od1 t = nI i := by rw [← hri]; exact hm.1 i hi
      have ej : od1 (t - 1) = nI j := by rw [← hrj]; exact hm.1 j hj
      have hsh := pz_sh_pred hi hj (show pz_rk c N i = pz_rk c N j + 1 by omega)
      have hle := pz_sh_le c hi
      have es : nI t - (1 : Int32) = nI (t - 1) := pk_sub (b := 1) (by omega)
      rw [if_neg (nI_ge hlt (by omega)), es, pz_ck (by omega) (by decide), pz_ck (by omega) (by decide), nI_clamp (by omega), nI_clamp (by omega), ei, ej, pz_alike hN hf (by omega) (by omega), fl_bd_some, hc, ← hsh]
      unfold P_M_longest_J48
      rw [nI_1]
      by_cases q : pz_sh c N i ≤ b
      · rw [if_pos (nI_le q (by omega))]
        refine ⟨_, N - (t + 1), rfl, by omega, t + 1, b, rfl, ⟨by omega, by omega⟩, rfl, rfl, hb, fun u hu hut => ?_, h2⟩
        rcases Nat.lt_or_ge (pz_rk c N u) t with y | y
        · exact h1 u hu y
        · rw [pz_rk_inj (c := c) hu hi (by omega)]; exact q
      · rw [if_neg (nI_ge (by omega) (by omega))]
        refine ⟨_, N - (t + 1), rfl, by omega, t + 1, pz_sh c N i, rfl, ⟨by omega, by omega⟩, rfl, rfl, by omega, fun u hu hut => ?_, Or.inr ⟨i, hi, rfl⟩⟩
        rcases Nat.lt_or_ge (pz_rk c N u) t with y | y
        · have := h1 u hu y; omega
        · rw [pz_rk_inj (c := c) hu hi (by omega)]; exact Nat.le_refl _
    · right
      rw [if_pos (nI_le (by omega) (by omega))]
      refine ⟨_, rfl, ?_⟩
      have e1 : pz_lon c N ≤ b := pz_lon_sh (fun i hi => h1 i hi (by have := pz_rk_lt (c := c) hi; omega))
      have e2 : b ≤ pz_lon c N := by
        rcases h2 with y | ⟨i, hi, y⟩
        · omega
        · rw [← y]; exact pz_sh_lon hi
      rw [Nat.le_antisymm e1 e2])
  unfold P_M_longest
  rw [e, fl_bd_some]
  obtain ⟨r, e2, rfl⟩ := h (N - 1) (nI 0, nI 1) ⟨1, 0, rfl, ⟨Nat.le_refl _, by omega⟩, rfl, rfl, Nat.zero_le _, fun i hi hr => by rw [pz_sh_first hi (by omega)]; exact Nat.le_refl _, Or.inl rfl⟩
  exact ⟨od1, rk1, by rw [hc] at *; exact e2⟩
theorem pz_M_repeatAt {f : fl_A} {N i : Nat} (hN : N ≤ 60) (hf : f 0 = nI N) (hi : i < N) : P_M_repeatAt f (nI i) = some (nI (pz_rp (pz_c f) N i)) := by
  generalize hc : pz_c f = c
  have h := fl_loop_inv (b := P_M_repeatAt_L4 f (nI i)) (fun n z => ∃ t, z.2 = nI t ∧ t ≤ N ∧ n = N - t ∧ z.1 = nI (pz_max (fun j => decide (j ≠ i)) (fun j => pz_L c N j i) 0 t)) (fun r => r = nI (pz_rp c N i)) (by
    rintro n ⟨b, z⟩ ⟨t, rfl, ht, rfl, rfl⟩
    unfold P_M_repeatAt_L4
    dsimp only
    rw [pz_ck0, pz_c0, hf]
    have e1 : pz_max (fun j => decide (j ≠ i)) (fun j => pz_L c N j i) 0 t ≤ N := pz_max_le t (fun u _ _ _ => pz_Lle hi)
    by_cases hlt : t < N
    · left
      rw [if_neg (nI_ge hlt (by omega))]
      unfold P_M_repeatAt_J26 P_M_repeatAt_J40
      rw [nI_1]
      by_cases q : t = i
      · rw [if_pos (by rw [q]), if_pos (nI_pos' (by omega))]
        exact ⟨_, N - (t + 1), rfl, by omega, t + 1, rfl, by omega, rfl, by dsimp only; rw [pz_max_f (P := fun j => decide (j ≠ i)) (fun z => (of_decide_eq_true (p := t ≠ i) z.2) q)]⟩
      · rw [if_neg (fun z => q ((nI_eq (by omega) (by omega)).mp z)), pz_alike hN hf (by omega) (by omega), fl_bd_some, hc, pz_L_symm c N i t]
        have e2 := pz_Lle (c := c) (i := t) hi
        have e3 : pz_max (fun j => decide (j ≠ i)) (fun j => pz_L c N j i) 0 (t + 1) = max (pz_max (fun j => decide (j ≠ i)) (fun j => pz_L c N j i) 0 t) (pz_L c N t i) := pz_max_t (Nat.zero_le _) (decide_eq_true q)
        by_cases y : pz_L c N t i ≤ pz_max (fun j => decide (j ≠ i)) (fun j => pz_L c N j i) 0 t
        · rw [if_pos (nI_le y (by omega))]
          exact ⟨_, N - (t + 1), rfl, by omega, t + 1, rfl, by omega, rfl, by dsimp only; rw [e3, Nat.max_eq_left y]⟩
        · rw [if_neg (nI_ge (by omega) (by omega))]
          exact ⟨_, N - (t + 1), rfl, by omega, t + 1, rfl, by omega, rfl, by dsimp only; rw [e3, Nat.max_eq_right (by omega)]⟩
    · right
      obtain rfl : t = N := by omega
      rw [if_pos (nI_le (Nat.le_refl _) (by omega))]
      exact ⟨_, rfl, rfl⟩)
  obtain ⟨r, e, rfl⟩ := h N (nI 0, nI 0) ⟨0, rfl, Nat.zero_le _, rfl, rfl⟩
  exact e
/-- the lowest place of the longest repeat, or -1 -/
def pz_lp (c : Nat → Int32) (N : Nat) (r : Int32) : Prop := (r = -1 ∧ (pz_lon c N = 0 ∨ ∀ u, u < N → pz_rp c N u ≠ pz_lon c N)) ∨ ∃ i, i < N ∧ r = nI i ∧ 0 < pz_lon c N ∧ pz_rp c N i = pz_lon c N ∧ ∀ u, u < i → pz_rp c N u ≠ pz_lon c N
theorem pz_lp_uniq {c : Nat → Int32} {N : Nat} {r r' : Int32} (h : pz_lp c N r) (h' : pz_lp c N r') : r = r' := by
  rcases h with ⟨h1, h2⟩ | ⟨i, h1, h2, h3, h4, h5⟩ <;> rcases h' with ⟨g1, g2⟩ | ⟨j, g1, g2, g3, g4, g5⟩
  · rw [h1, g1]
  · rcases h2 with h2 | h2
    · omega
    · exact absurd g4 (h2 j g1)
  · rcases g2 with g2 | g2
    · omega
    · exact absurd h4 (g2 i h1)
  · rcases Nat.lt_trichotomy i j with q | q | q
    · exact absurd h4 (g5 i q)
    · rw [h2, g2, q]
    · exact absurd g4 (h5 j q)
theorem pz_Or_lowest {c : Nat → Int32} {N : Nat} {o : fl_Or} (hN : N ≤ 48) (ho : pz_OR c N o) : ∃ r, P_Or_placeOfLongestRepeat o = some r ∧ pz_lp c N r := by
  have hl := pz_lon_le c N
  unfold P_Or_placeOfLongestRepeat
  rw [pz_Or_longest hN ho, fl_bd_some]
  refine fl_loop_inv (b := P_Or_placeOfLongestRepeat_L7 o (nI (pz_lon c N))) (fun n z => ∃ t, z = nI t ∧ t ≤ N ∧ n = N - t ∧ ∀ u, u < t → pz_rp c N u ≠ pz_lon c N) (fun r => pz_lp c N r) ?_ N (nI 0) ⟨0, rfl, Nat.zero_le _, rfl, fun u hu => by omega⟩
  rintro n z ⟨t, rfl, ht, rfl, h1⟩
  unfold P_Or_placeOfLongestRepeat_L7
  rw [ho.1]
  by_cases hlt : t < N
  · rw [if_neg (nI_ge hlt (by omega))]
    by_cases h0 : pz_lon c N = 0
    · right
      rw [if_pos (by rw [h0]; decide)]
      exact ⟨_, rfl, Or.inl ⟨rfl, Or.inl h0⟩⟩
    · have e2 := pz_rp_le c hlt
      rw [if_neg (nI_nle (by omega) (by omega)), pz_Or_repeatAt hN ho hlt, fl_bd_some]
      by_cases q : pz_rp c N t = pz_lon c N
      · right
        rw [if_pos (by rw [q])]
        exact ⟨_, rfl, Or.inr ⟨t, hlt, rfl, by omega, q, h1⟩⟩
      · left
        rw [if_neg (fun z => q ((nI_eq (by omega) (by omega)).mp z)), nI_1]
        refine ⟨_, N - (t + 1), rfl, by omega, t + 1, rfl, by omega, rfl, fun u hu => ?_⟩
        rcases Nat.lt_or_ge u t with y | y
        · exact h1 u y
        · rw [show u = t by omega]; exact q
  · right
    obtain rfl : t = N := by omega
    rw [if_pos (nI_le (Nat.le_refl _) (by omega))]
    exact ⟨_, rfl, Or.inl ⟨rfl, Or.inr h1⟩⟩
theorem pz_M_lowest {od rk f : fl_A} {N : Nat} (hN : N ≤ 60) (hf : f 0 = nI N) : ∃ r od' rk', P_M_lowestRepeat f od rk = some (r, od', rk') ∧ pz_lp (pz_c f) N r := by
  obtain ⟨od1, rk1, e⟩ := pz_M_longest (od := od) (rk := rk) hN hf
  generalize hc : pz_c f = c at e ⊢
  have hl := pz_lon_le c N
  unfold P_M_lowestRepeat
  rw [e, fl_bd_some]
  have h := fl_loop_inv (b := P_M_lowestRepeat_L11 f od1 rk1 (nI (pz_lon c N))) (fun n z => ∃ t, z = nI t ∧ t ≤ N ∧ n = N - t ∧ ∀ u, u < t → pz_rp c N u ≠ pz_lon c N) (fun r => pz_lp c N r.1 ∧ r.2 = (od1, rk1)) (by
    rintro n z ⟨t, rfl, ht, rfl, h1⟩
    unfold P_M_lowestRepeat_L11
    rw [pz_ck0, pz_c0, hf]
    by_cases hlt : t < N
    · rw [if_neg (nI_ge hlt (by omega))]
      by_cases h0 : pz_lon c N = 0
      · right
        rw [if_pos (by rw [h0]; decide)]
        exact ⟨_, rfl, Or.inl ⟨rfl, Or.inl h0⟩, rfl⟩
      · have e2 := pz_rp_le c hlt
        rw [if_neg (nI_nle (by omega) (by omega)), pz_M_repeatAt hN hf hlt, fl_bd_some, hc]
        by_cases q : pz_rp c N t = pz_lon c N
        · right
          rw [if_pos (by rw [q])]
          exact ⟨_, rfl, Or.inr ⟨t, hlt, rfl, by omega, q, h1⟩, rfl⟩
        · left
          rw [if_neg (fun z => q ((nI_eq (by omega) (by omega)).mp z)), nI_1]
          refine ⟨_, N - (t + 1), rfl, by omega, t + 1, rfl, by omega, rfl, fun u hu => ?_⟩
          rcases Nat.lt_or_ge u t with y | y
          · exact h1 u y
          · rw [show u = t by omega]; exact q
    · right
      obtain rfl : t = N := by omega
      rw [if_pos (nI_le (Nat.le_refl _) (by omega))]
      exact ⟨_, rfl, Or.inl ⟨rfl, Or.inr h1⟩, rfl⟩)
  obtain ⟨⟨r, o1, o2⟩, e2, h2, h3⟩ := h N (nI 0) ⟨0, rfl, Nat.zero_le _, rfl, fun u hu => by omega⟩
  exact ⟨r, o1, o2, e2, h2⟩
