/-! MOST: groups of places that begin alike -/
theorem pz_L_ge {c : Nat → Int32} {N m x y : Nat} : m ≤ pz_L c N x y ↔ ∀ t, t < m → x + t < N ∧ y + t < N ∧ c (x + t) = c (y + t) := by
  have hsp := pz_L_spec c N x y
  constructor
  · intro h t ht
    exact hsp.1 t (by omega)
  · intro h
    rcases Nat.lt_or_ge (pz_L c N x y) m with q | q
    · exact absurd (h _ q) hsp.2
    · exact q
theorem pz_G_symm {c : Nat → Int32} {N m x y : Nat} (h : m ≤ pz_L c N x y) : m ≤ pz_L c N y x := by rw [pz_L_symm]; exact h
theorem pz_G_trans {c : Nat → Int32} {N m x y z : Nat} (h1 : m ≤ pz_L c N x y) (h2 : m ≤ pz_L c N y z) : m ≤ pz_L c N x z := by
  rw [pz_L_ge] at *
  intro t ht
  exact ⟨(h1 t ht).1, (h2 t ht).2.1, (h1 t ht).2.2.trans (h2 t ht).2.2⟩
theorem pz_G_refl {c : Nat → Int32} {N m x : Nat} (h : x + m ≤ N) : m ≤ pz_L c N x x := by
  rw [pz_L_self (by omega)]; omega
theorem pz_G_end {c : Nat → Int32} {N m x y : Nat} (h1 : 1 ≤ m) (h : m ≤ pz_L c N x y) : x + m ≤ N ∧ y + m ≤ N := by
  have h2 := (pz_L_ge.mp h) (m - 1) (by omega)
  omega
/-- two groups do not mix -/
theorem pz_grp {c : Nat → Int32} {N m x y x' y' : Nat} (hx : x + m ≤ N) (hy : y + m ≤ N) (hn : ¬ m ≤ pz_L c N x y) (hA : pz_A c N x y) (h1 : m ≤ pz_L c N x x') (h2 : m ≤ pz_L c N y y') : pz_A c N x' y' := by
  have hsp := pz_L_spec c N x y
  obtain ⟨-, hA⟩ := hA
  rw [pz_L_ge] at h1 h2
  generalize pz_L c N x y = k at hn hA hsp
  obtain ⟨b1, b2, b3⟩ : x + k < N ∧ y + k < N ∧ c (x + k) < c (y + k) := by
    rcases hA with e | e
    · omega
    · exact e
  have g1 := h1 k (by omega)
  have g2 := h2 k (by omega)
  have hs : pz_is c N x' y' k := by
    refine ⟨fun t ht => ?_, fun z => ?_⟩
    · have f1 := h1 t (by omega)
      have f2 := h2 t (by omega)
      have f3 := hsp.1 t ht
      exact ⟨f1.2.1, f2.2.1, f1.2.2.symm.trans (f3.2.2.trans f2.2.2)⟩
    · have f4 := z.2.2
      rw [← g1.2.2, ← g2.2.2] at f4
      exact pz_lt_ne b3 f4
  rw [g1.2.2, g2.2.2] at b3
  refine ⟨fun z => ?_, ?_⟩
  · subst z; exact pz_lt_ne b3 rfl
  · rw [pz_L_eq hs]
    exact Or.inr ⟨g1.2.1, g2.2.1, b3⟩
/-- how often the piece of length m from place i is sung, of E places -/
def pz_tm (c : Nat → Int32) (N m E i : Nat) : Nat := pz_cnt (fun j => decide (m ≤ pz_L c N j i)) 0 E
def pz_mt (c : Nat → Int32) (N m E : Nat) : Nat := pz_max (fun _ => true) (fun i => pz_tm c N m E i) 0 E
theorem pz_tm_le (c : Nat → Int32) (N m E i : Nat) : pz_tm c N m E i ≤ E := by
  have := pz_cnt_le (P := fun j => decide (m ≤ pz_L c N j i)) (a := 0) E
  unfold pz_tm
  omega
theorem pz_mt_le (c : Nat → Int32) (N m E : Nat) : pz_mt c N m E ≤ E := pz_max_le E (fun i _ _ _ => pz_tm_le c N m E i)
theorem pz_tm_grp {c : Nat → Int32} {N m E i j : Nat} (h : m ≤ pz_L c N i j) : pz_tm c N m E i = pz_tm c N m E j := by
  refine pz_cnt_congr E (fun u _ _ => ?_)
  by_cases q : m ≤ pz_L c N u i
  · rw [decide_eq_true q, decide_eq_true (pz_G_trans q h)]
  · rw [decide_eq_false q, decide_eq_false (fun z => q (pz_G_trans z (pz_G_symm h)))]
/-- the answer of 'most' for the place -/
def pz_SP (c : Nat → Int32) (N m E : Nat) (r : Int32) : Prop := (r = -1 ∧ ∀ i, i < E → pz_tm c N m E i ≠ pz_mt c N m E) ∨ ∃ b, b < E ∧ r = nI b ∧ pz_tm c N m E b = pz_mt c N m E ∧ (∀ i, i < b → ¬ m ≤ pz_L c N i b) ∧ ∀ i, i < E → pz_tm c N m E i = pz_mt c N m E → m ≤ pz_L c N i b ∨ pz_A c N b i
theorem pz_SP_uniq {c : Nat → Int32} {N m E : Nat} {r r' : Int32} (h : pz_SP c N m E r) (h' : pz_SP c N m E r') : r = r' := by
  rcases h with ⟨e, h⟩ | ⟨b, hb, e, h1, h2, h3⟩
  · rcases h' with ⟨e', h'⟩ | ⟨b', hb', e', h1', h2', h3'⟩
    · rw [e, e']
    · exact absurd h1' (h b' hb')
  · rcases h' with ⟨e', h'⟩ | ⟨b', hb', e', h1', h2', h3'⟩
    · exact absurd h1 (h' b hb)
    · have hs : m ≤ pz_L c N b' b → b = b' := by
        intro z
        rcases Nat.lt_trichotomy b b' with q | q | q
        · exact absurd (pz_G_symm z) (h2' b q)
        · exact q
        · exact absurd z (h2 b' q)
      have hbb : b = b' := by
        rcases h3 b' hb' h1' with z | z
        · exact hs z
        · rcases h3' b hb h1 with y | y
          · exact hs (pz_G_symm y)
          · exact absurd y (pz_A_asymm z)
      rw [e, e', hbb]
-- ===== the model =====
theorem pz_M_times {f : fl_A} {c : Nat → Int32} {N m E i : Nat} (hN : N ≤ 48) (hf : f 0 = nI N) (hcf : ∀ u, u < N → pz_c f u = c u) (hm : m ≤ 12) (hE : E = N + 1 - m) (hm1 : 1 ≤ m) (hi : i < E) : P_M_times f (nI i) (nI m) = some (nI (pz_tm c N m E i)) := by
  obtain ⟨r, e, rfl⟩ := fl_loop_inv (b := P_M_times_L5 f (nI i) (nI m)) (fun n z => ∃ t, z.2 = nI t ∧ t ≤ E ∧ n = E - t ∧ z.1 = nI (pz_cnt (fun j => decide (m ≤ pz_L c N j i)) 0 t)) (fun r => r = nI (pz_tm c N m E i)) (by
    rintro n ⟨z1, z2⟩ ⟨t, rfl, ht, rfl, rfl⟩
    unfold P_M_times_L5 P_M_times_J32
    dsimp only
    rw [pz_ck0, pz_c0, hf, nI_add]
    by_cases hlt : t < E
    · left
      have hL := pz_L_le (c := c) (N := N) (i := i) (j := t) (by omega) (by omega)
      rw [if_neg (nI_nlt (by omega) (by omega)), pz_alike (by omega) hf (by omega) (by omega), fl_bd_some, pz_L_congr hcf, pz_L_symm c N i t]
      rw [pz_L_symm c N i t] at hL
      by_cases y : m ≤ pz_L c N t i
      · rw [if_neg (nI_nlt y (by omega)), nI_1, nI_1]
        exact ⟨_, E - (t + 1), rfl, by omega, t + 1, rfl, by omega, rfl, by dsimp only; rw [pz_cnt_t (P := fun j => decide (m ≤ pz_L c N j i)) (Nat.zero_le _) (decide_eq_true y)]⟩
      · rw [if_pos (nI_lt (by omega) (by omega)), Int32.add_zero, nI_1]
        exact ⟨_, E - (t + 1), rfl, by omega, t + 1, rfl, by omega, rfl, by dsimp only; rw [pz_cnt_f (P := fun j => decide (m ≤ pz_L c N j i)) (fun z => y (of_decide_eq_true (p := m ≤ pz_L c N t i) z.2))]⟩
    · right
      obtain rfl : t = E := by omega
      rw [if_pos (nI_lt (by omega) (by omega))]
      exact ⟨_, rfl, rfl⟩) E (nI 0, nI 0) ⟨0, rfl, Nat.zero_le _, rfl, rfl⟩
  exact e
theorem pz_M_mostTimes {f : fl_A} {c : Nat → Int32} {N m E : Nat} (hN : N ≤ 48) (hf : f 0 = nI N) (hcf : ∀ u, u < N → pz_c f u = c u) (hm : m ≤ 12) (hE : E = N + 1 - m) (hm1 : 1 ≤ m) : P_M_mostTimes f (nI m) = some (nI (pz_mt c N m E)) := by
  obtain ⟨r, e, rfl⟩ := fl_loop_inv (b := P_M_mostTimes_L4 f (nI m)) (fun n z => ∃ t, z.2 = nI t ∧ t ≤ E ∧ n = E - t ∧ z.1 = nI (pz_max (fun _ => true) (fun i => pz_tm c N m E i) 0 t)) (fun r => r = nI (pz_mt c N m E)) (by
    rintro n ⟨z1, z2⟩ ⟨t, rfl, ht, rfl, rfl⟩
    unfold P_M_mostTimes_L4 P_M_mostTimes_J33
    dsimp only
    rw [pz_ck0, pz_c0, hf, nI_add]
    by_cases hlt : t < E
    · left
      have h1 := pz_tm_le c N m E t
      have h2 : pz_max (fun _ => true) (fun i => pz_tm c N m E i) 0 t ≤ E := pz_max_le t (fun i _ _ _ => pz_tm_le c N m E i)
      have h3 : pz_max (fun _ => true) (fun i => pz_tm c N m E i) 0 (t + 1) = max (pz_max (fun _ => true) (fun i => pz_tm c N m E i) 0 t) (pz_tm c N m E t) := pz_max_t (Nat.zero_le _) rfl
      rw [if_neg (nI_nlt (by omega) (by omega)), pz_M_times hN hf hcf hm hE hm1 hlt, fl_bd_some, nI_1]
      by_cases y : pz_tm c N m E t ≤ pz_max (fun _ => true) (fun i => pz_tm c N m E i) 0 t
      · rw [if_pos (nI_le y (by omega))]
        exact ⟨_, E - (t + 1), rfl, by omega, t + 1, rfl, by omega, rfl, by dsimp only; rw [h3, Nat.max_eq_left y]⟩
      · rw [if_neg (nI_ge (by omega) (by omega))]
        exact ⟨_, E - (t + 1), rfl, by omega, t + 1, rfl, by omega, rfl, by dsimp only; rw [h3, Nat.max_eq_right (by omega)]⟩
    · right
      obtain rfl : t = E := by omega
      rw [if_pos (nI_lt (by omega) (by omega))]
      exact ⟨_, rfl, rfl⟩) E (nI 0, nI 0) ⟨0, rfl, Nat.zero_le _, rfl, rfl⟩
  exact e
theorem pz_M_mostPlace {rf : Int32} {f : fl_A} {c : Nat → Int32} {N m E : Nat} (hN : N ≤ 48) (hf : f 0 = nI N) (hcf : ∀ u, u < N → pz_c f u = c u) (hm : m ≤ 12) (hE : E = N + 1 - m) (hm1 : 1 ≤ m) : ∃ r, fl_loop (P_M_most_L47 rf f (nI m) (nI (pz_mt c N m E))) ((-1 : Int32), (0 : Int32)) = some (r, rf) ∧ pz_SP c N m E r := by
  have hmt := pz_mt_le c N m E
  obtain ⟨r, e, x, rfl, hx⟩ := fl_loop_inv (b := P_M_most_L47 rf f (nI m) (nI (pz_mt c N m E))) (fun n z => ∃ t, z.2 = nI t ∧ t ≤ E ∧ n = E - t ∧ ((z.1 = -1 ∧ ∀ i, i < t → pz_tm c N m E i ≠ pz_mt c N m E) ∨ ∃ b, b < t ∧ z.1 = nI b ∧ pz_tm c N m E b = pz_mt c N m E ∧ (∀ i, i < b → ¬ m ≤ pz_L c N i b) ∧ ∀ i, i < t → pz_tm c N m E i = pz_mt c N m E → m ≤ pz_L c N i b ∨ pz_A c N b i)) (fun r => ∃ x, r = (x, rf) ∧ pz_SP c N m E x) (by
    rintro n ⟨z1, z2⟩ ⟨t, rfl, ht, rfl, hI⟩
    dsimp only at hI
    unfold P_M_most_L47
    dsimp only
    rw [pz_ck0, pz_c0, hf, nI_add]
    by_cases hlt : t < E
    · left
      have h1 := pz_tm_le c N m E t
      have hE31 : E < 2 ^ 31 := by omega
      have hend : ∀ k0 : Int32, (pz_tm c N m E t = pz_mt c N m E ↔ k0 = 1) → (k0 = 1 ∨ k0 = 0) → ∃ z', P_M_most_J79 rf f (nI m) (nI (pz_mt c N m E)) z1 (nI t) k0 = some (.inl (z', nI (t + 1))) ∧ ((z' = -1 ∧ ∀ i, i < t + 1 → pz_tm c N m E i ≠ pz_mt c N m E) ∨ ∃ b, b < t + 1 ∧ z' = nI b ∧ pz_tm c N m E b = pz_mt c N m E ∧ (∀ i, i < b → ¬ m ≤ pz_L c N i b) ∧ ∀ i, i < t + 1 → pz_tm c N m E i = pz_mt c N m E → m ≤ pz_L c N i b ∨ pz_A c N b i) := by
        intro k0 hk hk01
        have hkeep : (pz_tm c N m E t = pz_mt c N m E → ∃ b, b < t ∧ z1 = nI b ∧ (m ≤ pz_L c N t b ∨ pz_A c N b t)) → ((z1 = -1 ∧ ∀ i, i < t + 1 → pz_tm c N m E i ≠ pz_mt c N m E) ∨ ∃ b, b < t + 1 ∧ z1 = nI b ∧ pz_tm c N m E b = pz_mt c N m E ∧ (∀ i, i < b → ¬ m ≤ pz_L c N i b) ∧ ∀ i, i < t + 1 → pz_tm c N m E i = pz_mt c N m E → m ≤ pz_L c N i b ∨ pz_A c N b i) := by
          intro hz
          rcases hI with ⟨w1, w2⟩ | ⟨b, w1, w2, w3, w4, w5⟩
          · refine Or.inl ⟨w1, fun i hi => ?_⟩
            by_cases y : i = t
            · subst y
              intro y2
              obtain ⟨b, b1, b2, -⟩ := hz y2
              rw [b2] at w1
              have := nI_pos (n := b) (by omega)
              rw [w1] at this
              exact this (by decide)
            · exact w2 i (by omega)
          · refine Or.inr ⟨b, by omega, w2, w3, w4, fun i hi hie => ?_⟩
            by_cases y : i = t
            · subst y
              obtain ⟨b', b1, b2, b3⟩ := hz hie
              have hb1 : b < 2 ^ 31 := Nat.lt_trans (Nat.lt_trans w1 hlt) hE31
              have hb2 : b' < 2 ^ 31 := Nat.lt_trans (Nat.lt_trans b1 hlt) hE31
              have hbb : b = b' := (nI_eq hb1 hb2).mp (w2.symm.trans b2)
              rw [hbb]; exact b3
            · exact w5 i (by omega) hie
        have hJ0 : ∀ k1 : Int32, (k0 = 0 ∨ k1 = 0) → P_M_most_J121 rf f (nI m) (nI (pz_mt c N m E)) z1 (nI t) k0 k1 = some (.inl (z1, nI (t + 1))) := by
          intro k1 hk1
          unfold P_M_most_J121 P_M_most_J138 P_M_most_J140
          rw [nI_1]
          by_cases y : k0 = 0
          · rw [if_pos y]
          · rw [if_neg y, if_pos (hk1.resolve_left y)]
        have hJ1 : k0 = 1 → P_M_most_J121 rf f (nI m) (nI (pz_mt c N m E)) z1 (nI t) k0 1 = some (.inl (nI t, nI (t + 1))) := by
          intro y
          unfold P_M_most_J121 P_M_most_J140
          rw [nI_1, y, if_neg (show ¬ (1 : Int32) = 0 by decide), if_neg (show ¬ (1 : Int32) = 0 by decide)]
        unfold P_M_most_J79 P_M_most_J116 P_M_most_J120
        rcases hI with ⟨w1, w2⟩ | ⟨b, w1, w2, w3, w4, w5⟩
        · rw [if_pos w1]
          rcases hk01 with y | y
          · refine ⟨nI t, hJ1 y, Or.inr ⟨t, by omega, rfl, hk.mpr y, fun i hi z => w2 i hi ?_, fun i hi hie => ?_⟩⟩
            · rw [pz_tm_grp z]; exact hk.mpr y
            · by_cases y2 : i = t
              · subst y2; exact Or.inl (pz_G_refl (by omega))
              · exact absurd hie (w2 i (by omega))
          · refine ⟨z1, hJ0 1 (Or.inl y), hkeep (fun z => ?_)⟩
            rw [y] at hk
            exact absurd (hk.mp z) (by decide)
        · have hz1 : ¬ z1 = (-1 : Int32) := by
            intro z
            have := nI_pos (n := b) (by omega)
            rw [← w2, z] at this
            exact this (by decide)
          rw [if_neg hz1, w2, pz_alike (by omega) hf (by omega) (by omega), fl_bd_some, pz_L_congr hcf]
          rw [w2] at hJ0 hJ1 hkeep
          have hL := pz_L_le (c := c) (N := N) (i := t) (j := b) (by omega) (by omega)
          by_cases y : m ≤ pz_L c N t b
          · rw [if_pos (nI_le y (by omega))]
            exact ⟨_, hJ0 0 (Or.inr rfl), hkeep (fun _ => ⟨b, w1, rfl, Or.inl y⟩)⟩
          · rw [if_neg (nI_ge (by omega) (by omega)), pz_isAhead (by omega) hf (by omega) (by omega) (by omega), fl_bd_some, pz_a_congr hcf]
            by_cases y2 : pz_a c N t b = true
            · have hA := pz_a_iff.mp y2
              rw [if_pos y2, if_neg (show ¬ nI 1 = (0 : Int32) by decide)]
              rcases hk01 with y3 | y3
              · refine ⟨nI t, hJ1 y3, Or.inr ⟨t, by omega, rfl, hk.mpr y3, fun i hi z => ?_, fun i hi hie => ?_⟩⟩
                · have hie : pz_tm c N m E i = pz_mt c N m E := by rw [pz_tm_grp z]; exact hk.mpr y3
                  rcases w5 i hi hie with v | v
                  · exact y (pz_G_trans (pz_G_symm z) v)
                  · exact pz_A_asymm v (pz_grp (by omega) (by omega) y hA (pz_G_symm z) (pz_G_refl (by omega)))
                · by_cases y4 : i = t
                  · subst y4; exact Or.inl (pz_G_refl (by omega))
                  · right
                    rcases w5 i (by omega) hie with v | v
                    · exact pz_grp (by omega) (by omega) y hA (pz_G_refl (by omega)) (pz_G_symm v)
                    · exact (pz_A_trans hA v).1
              · refine ⟨_, hJ0 1 (Or.inl y3), hkeep (fun z => ?_)⟩
                rw [y3] at hk
                exact absurd (hk.mp z) (by decide)
            · rw [if_neg y2, if_pos (show nI 0 = (0 : Int32) from rfl)]
              refine ⟨_, hJ0 0 (Or.inr rfl), hkeep (fun _ => ⟨b, w1, rfl, Or.inr ?_⟩)⟩
              rcases pz_A_tot (c := c) (N := N) (i := t) (j := b) (by omega) (by omega) (by omega) with v | v
              · exact absurd (pz_a_iff.mpr v) y2
              · exact v
      rw [if_neg (nI_nlt (by omega) (by omega)), pz_M_times hN hf hcf hm hE hm1 hlt, fl_bd_some]
      by_cases y : pz_tm c N m E t = pz_mt c N m E
      · rw [if_pos (by rw [y])]
        obtain ⟨z', g1, g2⟩ := hend 1 ⟨fun _ => rfl, fun _ => y⟩ (Or.inl rfl)
        rw [g1]
        exact ⟨_, E - (t + 1), rfl, by omega, t + 1, rfl, by omega, rfl, g2⟩
      · rw [if_neg (fun z => y ((nI_eq (by omega) (by omega)).mp z))]
        obtain ⟨z', g1, g2⟩ := hend 0 ⟨fun z => absurd z y, fun z => absurd z (by decide)⟩ (Or.inr rfl)
        rw [g1]
        exact ⟨_, E - (t + 1), rfl, by omega, t + 1, rfl, by omega, rfl, g2⟩
    · right
      obtain rfl : t = E := by omega
      rw [if_pos (nI_lt (by omega) (by omega))]
      refine ⟨_, rfl, _, rfl, ?_⟩
      unfold pz_SP
      exact hI) E ((-1 : Int32), (0 : Int32)) ⟨0, rfl, Nat.zero_le _, rfl, Or.inl ⟨rfl, fun i hi => absurd hi (Nat.not_lt_zero _)⟩⟩
  exact ⟨x, e, hx⟩
