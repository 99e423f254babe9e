/-! COMMON, on both sides -/
theorem pz_sharedFrom {g : fl_Sg} {N x y m : Nat} (hN : N ≤ 48) (hx : x + m ≤ N) (hy : y + m ≤ N) : P_Sg_sharedFrom g (nI x) (nI y) (nI m) = some (nI (min (pz_L g.1 N x y) m)) := by
  have hsp := pz_L_spec g.1 N x y
  generalize pz_L g.1 N x y = k at hsp ⊢
  have e1 : ∀ i, i < 48 → P_Sg_codeAt g (nI i) = some (g.1 i) := by
    intro i hi
    unfold P_Sg_codeAt
    rw [pz_cellOf hi (by decide), fl_bd_some]
  obtain ⟨r, e, rfl⟩ := fl_loop_inv (b := P_Sg_sharedFrom_L3 g (nI x) (nI y) (nI m)) (fun n z => ∃ t, z = nI t ∧ t ≤ m ∧ t ≤ k ∧ n = m - t) (fun r => r = nI (min k m)) (by
    rintro n z ⟨t, rfl, ht, htk, rfl⟩
    unfold P_Sg_sharedFrom_L3
    by_cases hlt : t < m
    · rw [if_neg (nI_ge hlt (by omega)), nI_add, nI_add, e1 _ (by omega), fl_bd_some, e1 _ (by omega), fl_bd_some]
      by_cases y2 : g.1 (x + t) = g.1 (y + t)
      · left
        have h1 : t < k := by
          rcases Nat.lt_or_ge t k with w | w
          · exact w
          · have h2 : t = k := by omega
            exact absurd ⟨by omega, by omega, by rw [← h2]; exact y2⟩ hsp.2
        rw [if_pos y2, nI_1]
        exact ⟨_, m - (t + 1), rfl, by omega, t + 1, rfl, by omega, by omega, rfl⟩
      · right
        have h1 : t = k := by
          rcases Nat.lt_or_ge t k with w | w
          · exact absurd (hsp.1 t w).2.2 y2
          · omega
        rw [if_neg y2]
        exact ⟨_, rfl, by rw [Nat.min_eq_left (by omega), h1]⟩
    · right
      obtain rfl : t = m := by omega
      rw [if_pos (nI_le (Nat.le_refl _) (by omega))]
      exact ⟨_, rfl, by rw [Nat.min_eq_right htk]⟩) m (nI 0) ⟨0, rfl, Nat.zero_le _, Nat.zero_le _, rfl⟩
  exact e
/-- what places i of the one verse and j of the other share within both -/
def pz_M2 (c : Nat → Int32) (N a b lv lw i j : Nat) : Nat := min (pz_L c N (a + i) (b + j)) (min (lv - i) (lw - j))
theorem pz_M2_le {c : Nat → Int32} {N a b lv lw i : Nat} (h : lv ≤ 48) (n : Nat) : pz_max (fun _ => true) (pz_M2 c N a b lv lw i) 0 n ≤ 48 := pz_max_le n (fun j _ _ _ => by unfold pz_M2; omega)
theorem pz_M3_le {c : Nat → Int32} {N a b lv lw : Nat} (h : lv ≤ 48) (n : Nat) : pz_max (fun _ => true) (fun i => pz_max (fun _ => true) (pz_M2 c N a b lv lw i) 0 lw) 0 n ≤ 48 := pz_max_le n (fun j _ _ _ => pz_M2_le h lw)
theorem pz_inBoth {g : fl_Sg} {N V v w : Nat} {c : Nat → Int32} {len : Nat → Nat} (hg : pz_SG g N V c len) (hs : pz_sum len V = N) (hN : N ≤ 48) (hV : V ≤ 48) (hv : v < V) (hw : w < V) : P_Sg_longestInBoth g (nI v) (nI w) = some (nI (pz_max (fun _ => true) (fun i => pz_max (fun _ => true) (pz_M2 g.1 N (pz_sum len v) (pz_sum len w) (len v) (len w) i) 0 (len w)) 0 (len v))) := by
  have hv2 := pz_end_le hs hv
  have hw2 := pz_end_le hs hw
  unfold P_Sg_longestInBoth
  rw [pz_lengthOf hg hV hv, fl_bd_some, pz_lengthOf hg hV hw, fl_bd_some]
  have hsv := pz_startOf hg hV (Nat.le_of_lt hv)
  have hsw := pz_startOf hg hV (Nat.le_of_lt hw)
  generalize pz_sum len v = a at *
  generalize pz_sum len w = b at *
  generalize len v = lv at *
  generalize len w = lw at *
  have inner : ∀ i s, i < lv → s ≤ 48 → fl_loop (P_Sg_longestInBoth_L29 g (nI v) (nI w) (nI lv) (nI lw) (nI i)) (nI s, (0 : Int32)) = some (.inl (nI (max s (pz_max (fun _ => true) (pz_M2 g.1 N a b lv lw i) 0 lw)), nI (i + 1))) := by
    intro i s hi hs48
    obtain ⟨r, e, rfl⟩ := fl_loop_inv (b := P_Sg_longestInBoth_L29 g (nI v) (nI w) (nI lv) (nI lw) (nI i)) (fun n z => ∃ j, z.2 = nI j ∧ j ≤ lw ∧ n = lw - j ∧ z.1 = nI (max s (pz_max (fun _ => true) (pz_M2 g.1 N a b lv lw i) 0 j))) (fun r => r = .inl (nI (max s (pz_max (fun _ => true) (pz_M2 g.1 N a b lv lw i) 0 lw)), nI (i + 1))) (by
      rintro n ⟨z1, z2⟩ ⟨j, rfl, hj, rfl, rfl⟩
      unfold P_Sg_longestInBoth_L29
      dsimp only
      have hm := pz_M2_le (c := g.1) (N := N) (a := a) (b := b) (lv := lv) (lw := lw) (i := i) (by omega) j
      by_cases hlt : j < lw
      · left
        have hmj : pz_M2 g.1 N a b lv lw i j ≤ 48 := by unfold pz_M2; omega
        rw [if_neg (nI_ge hlt (by omega)), hsv, fl_bd_some, hsw, fl_bd_some, nI_add, nI_add, pk_sub (by omega), pk_sub (by omega), pz_mnI (by omega) (by omega), pz_sharedFrom hN (by omega) (by omega), fl_bd_some]
        rw [show min (pz_L g.1 N (a + i) (b + j)) (min (lv - i) (lw - j)) = pz_M2 g.1 N a b lv lw i j from rfl, pz_mxI (by omega) (by omega), nI_1]
        exact ⟨_, lw - (j + 1), rfl, by omega, j + 1, rfl, by omega, rfl, by dsimp only; rw [pz_max_t (Nat.zero_le _) rfl, Nat.max_assoc]⟩
      · right
        obtain rfl : j = lw := by omega
        rw [if_pos (nI_le (Nat.le_refl _) (by omega))]
        unfold P_Sg_longestInBoth_J84
        rw [nI_1]
        exact ⟨_, rfl, rfl⟩) lw (nI s, (0 : Int32)) ⟨0, rfl, Nat.zero_le _, rfl, by dsimp only; rw [pz_max_empty 0 (Nat.le_refl _), Nat.max_eq_left (Nat.zero_le _)]⟩
    exact e
  obtain ⟨r, e, rfl⟩ := fl_loop_inv (b := P_Sg_longestInBoth_L19 g (nI v) (nI w) (nI lv) (nI lw)) (fun n z => ∃ i, z.2 = nI i ∧ i ≤ lv ∧ n = lv - i ∧ z.1 = nI (pz_max (fun _ => true) (fun i => pz_max (fun _ => true) (pz_M2 g.1 N a b lv lw i) 0 lw) 0 i)) (fun r => r = nI (pz_max (fun _ => true) (fun i => pz_max (fun _ => true) (pz_M2 g.1 N a b lv lw i) 0 lw) 0 lv)) (by
    rintro n ⟨z1, z2⟩ ⟨i, rfl, hi, rfl, rfl⟩
    unfold P_Sg_longestInBoth_L19
    dsimp only
    by_cases hlt : i < lv
    · left
      rw [if_neg (nI_ge hlt (by omega)), inner i _ hlt (pz_M3_le (by omega) i)]
      exact ⟨_, lv - (i + 1), rfl, by omega, i + 1, rfl, by omega, rfl, by dsimp only; rw [pz_max_t (Nat.zero_le _) rfl]⟩
    · right
      obtain rfl : i = lv := by omega
      rw [if_pos (nI_le (Nat.le_refl _) (by omega))]
      exact ⟨_, rfl, rfl⟩) lv ((0 : Int32), (0 : Int32)) ⟨0, rfl, Nat.zero_le _, rfl, rfl⟩
  exact e
theorem pz_J158 {rf : Int32} {f : fl_A} {p0 p1 v3 v4 v6 : Int32} {s q r j : Nat} (hs : s ≤ 100) (hq : q ≤ 100) (hr : r ≤ 100) : P_M_common_J158 rf f p0 p1 v3 v4 (nI s) v6 (nI j) (nI q) (nI r) = some (.inl (nI (max s (min q r)), nI (j + 1))) := by
  unfold P_M_common_J158 P_M_common_J174 P_M_common_J190
  rw [nI_1]
  by_cases y : r ≤ q
  · rw [if_pos (nI_le y (by omega)), Nat.min_eq_right y]
    by_cases y2 : r ≤ s
    · rw [if_pos (nI_le y2 (by omega)), Nat.max_eq_left y2]
    · rw [if_neg (nI_ge (by omega) (by omega)), Nat.max_eq_right (by omega)]
  · rw [if_neg (nI_ge (by omega) (by omega)), Nat.min_eq_left (by omega)]
    by_cases y2 : q ≤ s
    · rw [if_pos (nI_le y2 (by omega)), Nat.max_eq_left y2]
    · rw [if_neg (nI_ge (by omega) (by omega)), Nat.max_eq_right (by omega)]
theorem pz_M_inBoth {rf : Int32} {f : fl_A} {N V v w : Nat} {c c' : Nat → Int32} {len : Nat → Nat} (hf : pz_SF f N V c len) (hcf : ∀ i, i < N → pz_c f i = c' i) (hs : pz_sum len V = N) (hN : N ≤ 48) (hV : V ≤ 48) (hv : v < V) (hw : w < V) : fl_loop (P_M_common_L55 rf f (nI v) (nI w) (nI (pz_sum len v)) (nI (pz_sum len w))) ((0 : Int32), (0 : Int32)) = some (nI (pz_max (fun _ => true) (fun i => pz_max (fun _ => true) (pz_M2 c' N (pz_sum len v) (pz_sum len w) (len v) (len w) i) 0 (len w)) 0 (len v)), rf) := by
  have hv2 := pz_end_le hs hv
  have hw2 := pz_end_le hs hw
  have hfv := hf.2.2.2 v hv
  have hfw := hf.2.2.2 w hw
  generalize pz_sum len v = a at *
  generalize pz_sum len w = b at *
  generalize len v = lv at *
  generalize len w = lw at *
  have inner : ∀ i s, i < lv → s ≤ 48 → fl_loop (P_M_common_L72 rf f (nI v) (nI w) (nI a) (nI b) (nI i)) (nI s, (0 : Int32)) = some (.inl (nI (max s (pz_max (fun _ => true) (pz_M2 c' N a b lv lw i) 0 lw)), nI (i + 1))) := by
    intro i s hi hs48
    obtain ⟨r, e, rfl⟩ := fl_loop_inv (b := P_M_common_L72 rf f (nI v) (nI w) (nI a) (nI b) (nI i)) (fun n z => ∃ j, z.2 = nI j ∧ j ≤ lw ∧ n = lw - j ∧ z.1 = nI (max s (pz_max (fun _ => true) (pz_M2 c' N a b lv lw i) 0 j))) (fun r => r = .inl (nI (max s (pz_max (fun _ => true) (pz_M2 c' N a b lv lw i) 0 lw)), nI (i + 1))) (by
      rintro n ⟨z1, z2⟩ ⟨j, rfl, hj, rfl, rfl⟩
      unfold P_M_common_L72
      dsimp only
      have hm := pz_M2_le (c := c') (N := N) (a := a) (b := b) (lv := lv) (lw := lw) (i := i) (by omega) j
      rw [pz_6, pz_6, pz_ck (by omega) (by decide), nI_clamp (n := 6 + w) (by omega), nI_clamp (n := 6 + v) (by omega), hfv, hfw]
      by_cases hlt : j < lw
      · left
        have hL := pz_L_le (c := c') (N := N) (i := a + i) (j := b + j) (by omega) (by omega)
        rw [if_neg (nI_ge hlt (by omega)), nI_add, nI_add, pz_alike (by omega) hf.1 (by omega) (by omega), fl_bd_some, pz_L_congr hcf, pz_ck (by omega) (by decide), pz_ck (by omega) (by decide), pk_sub (by omega), pk_sub (by omega)]
        have hfin : ∀ x, x = min (pz_L c' N (a + i) (b + j)) (min (lv - i) (lw - j)) → max (max s (pz_max (fun _ => true) (pz_M2 c' N a b lv lw i) 0 j)) x = max s (pz_max (fun _ => true) (pz_M2 c' N a b lv lw i) 0 (j + 1)) := by
          rintro x rfl
          rw [pz_max_t (P := fun _ => true) (v := pz_M2 c' N a b lv lw i) (Nat.zero_le _) rfl, Nat.max_assoc]
          rfl
        by_cases y : lw - j ≤ lv - i
        · rw [if_pos (nI_le y (by omega)), pz_ck (by omega) (by decide), pz_J158 (by omega) (by omega) (by omega)]
          exact ⟨_, lw - (j + 1), rfl, by omega, j + 1, rfl, by omega, rfl, by dsimp only; rw [hfin _ (by omega)]⟩
        · rw [if_neg (nI_ge (by omega) (by omega)), pz_ck (by omega) (by decide), pz_J158 (by omega) (by omega) (by omega)]
          exact ⟨_, lw - (j + 1), rfl, by omega, j + 1, rfl, by omega, rfl, by dsimp only; rw [hfin _ (by omega)]⟩
      · right
        obtain rfl : j = lw := by omega
        rw [if_pos (nI_le (Nat.le_refl _) (by omega))]
        unfold P_M_common_J198
        rw [nI_1]
        exact ⟨_, rfl, rfl⟩) lw (nI s, (0 : Int32)) ⟨0, rfl, Nat.zero_le _, rfl, by dsimp only; rw [pz_max_empty 0 (Nat.le_refl _), Nat.max_eq_left (Nat.zero_le _)]⟩
    exact e
  obtain ⟨r, e, rfl⟩ := fl_loop_inv (b := P_M_common_L55 rf f (nI v) (nI w) (nI a) (nI b)) (fun n z => ∃ i, z.2 = nI i ∧ i ≤ lv ∧ n = lv - i ∧ z.1 = nI (pz_max (fun _ => true) (fun i => pz_max (fun _ => true) (pz_M2 c' N a b lv lw i) 0 lw) 0 i)) (fun r => r = (nI (pz_max (fun _ => true) (fun i => pz_max (fun _ => true) (pz_M2 c' N a b lv lw i) 0 lw) 0 lv), rf)) (by
    rintro n ⟨z1, z2⟩ ⟨i, rfl, hi, rfl, rfl⟩
    unfold P_M_common_L55
    dsimp only
    rw [pz_6, pz_ck (by omega) (by decide), nI_clamp (n := 6 + v) (by omega), hfv]
    by_cases hlt : i < lv
    · left
      rw [if_neg (nI_ge hlt (by omega)), inner i _ hlt (pz_M3_le (by omega) i)]
      exact ⟨_, lv - (i + 1), rfl, by omega, i + 1, rfl, by omega, rfl, by dsimp only; rw [pz_max_t (Nat.zero_le _) rfl]⟩
    · right
      obtain rfl : i = lv := by omega
      rw [if_pos (nI_le (Nat.le_refl _) (by omega))]
      exact ⟨_, rfl, rfl⟩) lv ((0 : Int32), (0 : Int32)) ⟨0, rfl, Nat.zero_le _, rfl, rfl⟩
  exact e
theorem pz_common {ch : fl_Ch} {f : fl_A} {rf p q : Int32} {N V S : Nat} {c : Nat → Int32} {len : Nat → Nat} (hR : pz_R ch.1 f N V S c len) (hO : pz_OK N V S len) :
    (P_SC_common ch p q = some (.inl 3) ∧ P_M_common rf f p q = some (0, 1)) ∨ ∃ v, P_SC_common ch p q = some (.inr v) ∧ P_M_common rf f p q = some (v, 0) := by
  have hcf := pz_codes hR
  obtain ⟨hg, hgS, hf, hfS, -⟩ := hR
  have hVN := pz_OK_V hO
  obtain ⟨hN, hsum, hlen, hS1, hS8⟩ := hO
  unfold P_SC_common P_M_common P_M_common_J21 P_M_common_J22
  rw [pz_ref1, fl_bd_some, if_neg (show ¬ (((1 : Int32), (1 : Int32)).1 = 0) by decide)]
  rcases pz_isVerse hg hf (by omega) p with ⟨e1, e2⟩ | ⟨v, hv, rfl, e1, e2⟩
  · left
    rw [e1, fl_bd_some, e2, fl_bd_some, if_pos rfl, if_pos rfl]
    exact ⟨rfl, rfl⟩
  · rw [e1, fl_bd_some, e2, fl_bd_some, if_neg (show ¬ (1 : Int32) = 0 by decide), if_neg (show ¬ (1 : Int32) = 0 by decide)]
    rcases pz_isVerse hg hf (by omega) q with ⟨e1, e2⟩ | ⟨w, hw, rfl, e1, e2⟩
    · left
      rw [e1, fl_bd_some, e2, fl_bd_some, if_pos rfl, if_pos rfl]
      exact ⟨rfl, rfl⟩
    · right
      rw [e1, fl_bd_some, e2, fl_bd_some, if_neg (show ¬ (1 : Int32) = 0 by decide), if_neg (show ¬ (1 : Int32) = 0 by decide), pz_ref0, fl_bd_some, if_pos (show (((0 : Int32), (0 : Int32)).1 = 0) from rfl), pz_inBoth hg hsum hN (by omega) hv hw, fl_bd_some, pz_beginOf hf (by omega) (by omega), fl_bd_some, pz_beginOf hf (by omega) (by omega), fl_bd_some, pz_M_inBoth hf hcf hsum hN (by omega) hv hw]
      exact ⟨_, rfl, rfl⟩
