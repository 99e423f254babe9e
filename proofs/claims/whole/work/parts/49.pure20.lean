/-! VERSE, SINGER, PLACEOF, on both sides -/
theorem pz_bl0 {α : Type} {k : Option α} : fl_bl (0 : Int32) k = k := by
  unfold fl_bl
  exact if_pos rfl
theorem pz_bl1 {α : Type} {k : Option α} : fl_bl (1 : Int32) k = k := by
  unfold fl_bl
  rw [if_neg (show ¬ (1 : Int32) = 0 by decide), if_pos rfl]
theorem pz_isVerse {g : fl_Sg} {f : fl_A} {N V : Nat} {c : Nat → Int32} {len : Nat → Nat} (hg : pz_SG g N V c len) (hf : pz_SF f N V c len) (hV : V ≤ 48) (p : Int32) : (P_Sg_hasVerse g p = some 0 ∧ P_M_isVerse f p = some 0) ∨ ∃ v, v < V ∧ p = nI v ∧ P_Sg_hasVerse g p = some 1 ∧ P_M_isVerse f p = some 1 := by
  unfold P_Sg_hasVerse P_M_isVerse
  rw [pz_ck1, pz_c1, hf.2.1, hg.2.1]
  rcases pz_upto (N := V) (by omega) p with ⟨q, e⟩ | ⟨j, hj, rfl, e⟩ | ⟨j, hj, hj2, rfl, e⟩
  · left
    rw [e, fl_bd_some, pz_bl0, if_pos q]
    exact ⟨rfl, rfl⟩
  · right
    rw [e, fl_bd_some, pz_bl1, if_neg (nI_pos (by omega)), if_neg (nI_ge hj (by omega))]
    exact ⟨j, hj, rfl, rfl, rfl⟩
  · left
    rw [e, fl_bd_some, pz_bl0, if_neg (nI_pos (by omega)), if_pos (nI_le hj (by omega))]
    exact ⟨rfl, rfl⟩
theorem pz_end_le {N V v : Nat} {len : Nat → Nat} (hs : pz_sum len V = N) (hv : v < V) : pz_sum len v + len v ≤ N := by
  have := pz_sum_mono (g := len) (a := v + 1) V (by omega)
  rw [hs] at this
  exact this
theorem pz_repeatIn {ch : fl_Ch} {f : fl_A} {N V S v : Nat} {c : Nat → Int32} {len : Nat → Nat} (hR : pz_R ch.1 f N V S c len) (hO : pz_OK N V S len) (hC : pz_CH ch N S) (hv : v < V) : ∃ r, P_Ch_longestRepeatIn ch (nI v) = some r ∧ P_M_repeatIn f (nI v) = some r := by
  have hcf := pz_codes hR
  obtain ⟨hg, hgS, hf, hfS, -⟩ := hR
  have hVN := pz_OK_V hO
  obtain ⟨hN, hsum, hlen, hS1, hS8⟩ := hO
  have hto := pz_end_le hsum hv
  generalize hfrom : pz_sum len v = a at hto
  generalize hl : len v = l at hto
  have hmx : ∀ t, t ≤ a + l → pz_max (fun _ => true) (fun i => min (pz_rp ch.1.1 N i) (a + l - i)) a t ≤ 48 := fun t ht => pz_max_le t (fun i _ hi _ => by have := pz_rp_le ch.1.1 (N := N) (i := i) (by omega); omega)
  refine ⟨nI (pz_max (fun _ => true) (fun i => min (pz_rp ch.1.1 N i) (a + l - i)) a (a + l)), ?_, ?_⟩
  · unfold P_Ch_longestRepeatIn
    rw [pz_startOf hg (by omega) (by omega), fl_bd_some, pz_lengthOf hg (by omega) hv, fl_bd_some, hfrom, hl, nI_add]
    obtain ⟨x, e, rfl⟩ := fl_loop_inv (b := P_Ch_longestRepeatIn_L26 ch (nI (a + l))) (fun n z => ∃ t, z.2 = nI t ∧ a ≤ t ∧ t ≤ a + l ∧ n = a + l - t ∧ z.1 = nI (pz_max (fun _ => true) (fun i => min (pz_rp ch.1.1 N i) (a + l - i)) a t)) (fun x => x = nI (pz_max (fun _ => true) (fun i => min (pz_rp ch.1.1 N i) (a + l - i)) a (a + l))) (by
      rintro n ⟨z1, z2⟩ ⟨t, rfl, hat, ht, rfl, rfl⟩
      unfold P_Ch_longestRepeatIn_L26
      dsimp only
      by_cases hlt : t < a + l
      · left
        have g3 := hmx t ht
        have g4 := pz_rp_le ch.1.1 (N := N) (i := t) (by omega)
        rw [if_neg (nI_ge hlt (by omega)), pz_Or_repeatAt hN hC.1 (by omega), fl_bd_some, nI_1, pk_sub (by omega), pz_mnI (by omega) (by omega), pz_mxI (by omega) (by omega)]
        exact ⟨_, a + l - (t + 1), rfl, by omega, t + 1, rfl, by omega, by omega, rfl, by dsimp only; rw [pz_max_t hat rfl]⟩
      · right
        obtain rfl : t = a + l := by omega
        rw [if_pos (nI_le (Nat.le_refl _) (by omega))]
        exact ⟨_, rfl, rfl⟩) l (nI 0, nI a) ⟨a, rfl, Nat.le_refl _, by omega, by omega, by dsimp only; rw [pz_max_empty a (Nat.le_refl _)]⟩
    exact e
  · unfold P_M_repeatIn
    rw [pz_beginOf hf (by omega) (by omega), fl_bd_some, pz_6, pz_ck (by omega) (by decide), nI_clamp (by omega), hf.2.2.2 v hv, hfrom, hl, nI_add]
    obtain ⟨x, e, rfl⟩ := fl_loop_inv (b := P_M_repeatIn_L27 f (nI (a + l))) (fun n z => ∃ t, z.2 = nI t ∧ a ≤ t ∧ t ≤ a + l ∧ n = a + l - t ∧ z.1 = nI (pz_max (fun _ => true) (fun i => min (pz_rp ch.1.1 N i) (a + l - i)) a t)) (fun x => x = nI (pz_max (fun _ => true) (fun i => min (pz_rp ch.1.1 N i) (a + l - i)) a (a + l))) (by
      rintro n ⟨z1, z2⟩ ⟨t, rfl, hat, ht, rfl, rfl⟩
      unfold P_M_repeatIn_L27 P_M_repeatIn_J62 P_M_repeatIn_J78
      dsimp only
      by_cases hlt : t < a + l
      · left
        have g3 := hmx t ht
        have g4 := pz_rp_le ch.1.1 (N := N) (i := t) (by omega)
        have g5 : pz_max (fun _ => true) (fun i => min (pz_rp ch.1.1 N i) (a + l - i)) a (t + 1) = max (pz_max (fun _ => true) (fun i => min (pz_rp ch.1.1 N i) (a + l - i)) a t) (min (pz_rp ch.1.1 N t) (a + l - t)) := pz_max_t hat rfl
        rw [if_neg (nI_ge hlt (by omega)), pz_M_repeatAt (by omega) hf.1 (by omega), fl_bd_some, pz_rp_congr hcf, nI_1, pk_sub (by omega)]
        by_cases y : a + l - t ≤ pz_rp ch.1.1 N t
        · rw [if_pos (nI_le y (by omega))]
          rw [Nat.min_eq_right y] at g5
          by_cases y2 : a + l - t ≤ pz_max (fun _ => true) (fun i => min (pz_rp ch.1.1 N i) (a + l - i)) a t
          · rw [if_pos (nI_le y2 (by omega))]
            exact ⟨_, a + l - (t + 1), rfl, by omega, t + 1, rfl, by omega, by omega, rfl, by dsimp only; rw [g5, Nat.max_eq_left y2]⟩
          · rw [if_neg (nI_ge (by omega) (by omega))]
            exact ⟨_, a + l - (t + 1), rfl, by omega, t + 1, rfl, by omega, by omega, rfl, by dsimp only; rw [g5, Nat.max_eq_right (by omega)]⟩
        · rw [if_neg (nI_ge (by omega) (by omega))]
          rw [Nat.min_eq_left (by omega)] at g5
          by_cases y2 : pz_rp ch.1.1 N t ≤ pz_max (fun _ => true) (fun i => min (pz_rp ch.1.1 N i) (a + l - i)) a t
          · rw [if_pos (nI_le y2 (by omega))]
            exact ⟨_, a + l - (t + 1), rfl, by omega, t + 1, rfl, by omega, by omega, rfl, by dsimp only; rw [g5, Nat.max_eq_left y2]⟩
          · rw [if_neg (nI_ge (by omega) (by omega))]
            exact ⟨_, a + l - (t + 1), rfl, by omega, t + 1, rfl, by omega, by omega, rfl, by dsimp only; rw [g5, Nat.max_eq_right (by omega)]⟩
      · right
        obtain rfl : t = a + l := by omega
        rw [if_pos (nI_le (Nat.le_refl _) (by omega))]
        exact ⟨_, rfl, rfl⟩) l (nI 0, nI a) ⟨a, rfl, Nat.le_refl _, by omega, by omega, by dsimp only; rw [pz_max_empty a (Nat.le_refl _)]⟩
    exact e
theorem pz_verse {ch : fl_Ch} {f : fl_A} {rf p t : Int32} {N V S : Nat} {c : Nat → Int32} {len : Nat → Nat} (hR : pz_R ch.1 f N V S c len) (hO : pz_OK N V S len) (hC : pz_CH ch N S) :
    (P_SC_verse ch p t = some (.inl 3) ∧ P_M_verse rf f p t = some (0, 1)) ∨ (P_SC_verse ch p t = some (.inl 1) ∧ P_M_verse rf f p t = some (0, 2)) ∨ ∃ v, P_SC_verse ch p t = some (.inr v) ∧ P_M_verse rf f p t = some (v, 0) := by
  have hVN := pz_OK_V hO
  have hN := hO.1
  unfold P_SC_verse P_M_verse
  rcases pz_isVerse hR.1 hR.2.2.1 (by omega) p with ⟨e1, e2⟩ | ⟨v, hv, rfl, e1, e2⟩
  · left
    rw [e1, fl_bd_some, e2, fl_bd_some, if_pos rfl, if_pos rfl]
    unfold P_M_verse_J30
    rw [pz_ref1, fl_bd_some]
    exact ⟨rfl, if_neg (show ¬ (1 : Int32) = 0 by decide)⟩
  · right
    obtain ⟨r, e3, e4⟩ := pz_repeatIn hR hO hC hv
    rw [e1, fl_bd_some, e2, fl_bd_some, if_neg (show ¬ (1 : Int32) = 0 by decide), if_neg (show ¬ (1 : Int32) = 0 by decide)]
    by_cases q : t < 0 ∨ (2 : Int32) < t
    · left
      have hne : ∀ k : Int32, ¬ (k < 0 ∨ (2 : Int32) < k) → ¬ t = k := fun k hk z => hk (z ▸ q)
      rw [if_neg (hne 0 (by decide)), if_neg (hne 1 (by decide)), if_neg (hne 2 (by decide)), pz_z64, pz_2x, pz_in_no q, fl_bd_some, if_pos rfl]
      unfold P_M_verse_J30
      rw [pz_ref2, fl_bd_some]
      exact ⟨rfl, if_neg (show ¬ (1 : Int32) = 0 by decide)⟩
    · right
      have q1 : ¬ t < 0 := fun z => q (Or.inl z)
      have q2 : ¬ (2 : Int32) < t := fun z => q (Or.inr z)
      rw [pz_z64, pz_2x, pz_in_yes q1 q2, fl_bd_some, if_neg (show ¬ (1 : Int32) = 0 by decide)]
      unfold P_M_verse_J30
      rw [pz_ref0, fl_bd_some, if_pos (show (((0 : Int32), (0 : Int32)).1 = 0) from rfl)]
      obtain ⟨k, hk, rfl⟩ := nI_of2 (x := t) (M := (2 : Int32)) (n := 2) (by decide) q1 (pz_nle q2)
      rcases (show k = 0 ∨ k = 1 ∨ k = 2 by omega) with rfl | rfl | rfl
      · refine ⟨nI (pz_sum len v), ?_, ?_⟩
        · rw [if_pos (show nI 0 = (0 : Int32) from rfl), pz_startOf hR.1 (by omega) (by omega), fl_bd_some]
        · rw [if_pos (show nI 0 = (0 : Int32) from rfl), pz_beginOf hR.2.2.1 (by omega) (by omega), fl_bd_some]
      · refine ⟨nI (len v), ?_, ?_⟩
        · rw [if_neg (show ¬ nI 1 = (0 : Int32) by decide), if_pos (show nI 1 = (1 : Int32) from rfl), pz_lengthOf hR.1 (by omega) hv, fl_bd_some]
        · rw [if_neg (show ¬ nI 1 = (0 : Int32) by decide), if_pos (show nI 1 = (1 : Int32) from rfl), pz_6, pz_ck (by omega) (by decide), nI_clamp (by omega), hR.2.2.1.2.2.2 v hv]
      · refine ⟨r, ?_, ?_⟩
        · rw [if_neg (show ¬ nI 2 = (0 : Int32) by decide), if_neg (show ¬ nI 2 = (1 : Int32) by decide), if_pos (show nI 2 = (2 : Int32) from rfl), e3, fl_bd_some]
        · rw [if_neg (show ¬ nI 2 = (0 : Int32) by decide), if_neg (show ¬ nI 2 = (1 : Int32) by decide), e4, fl_bd_some]
/-- from the first place of a group on: the least that neighbours share is what the first and the last share -/
theorem pz_sharedByAll {c : Nat → Int32} {N a b x y : Nat} {o : fl_Or} (hN : N ≤ 48) (ho : pz_OR c N o) (hab : a < b) (hb : b ≤ N) (hx : x < N) (hxa : pz_rk c N x = a) (hy : y < N) (hyb : pz_rk c N y + 1 = b) : P_Or_sharedByAll o (nI a) (nI b) = some (nI (pz_L c N x y)) := by
  unfold P_Or_sharedByAll
  rw [if_pos (nI_lt hab (by omega)), ← hxa, pz_Or_placeAt hN ho hx, fl_bd_some, ho.1, pk_sub (by omega), nI_1, hxa]
  obtain ⟨r, e, rfl⟩ := fl_loop_inv (b := P_Or_sharedByAll_L23 o (nI b)) (fun n z => ∃ t u, z.2 = nI t ∧ a + 1 ≤ t ∧ t ≤ b ∧ n = b - t ∧ u < N ∧ pz_rk c N u + 1 = t ∧ z.1 = nI (pz_L c N x u)) (fun r => r = nI (pz_L c N x y)) (by
    rintro n ⟨z1, z2⟩ ⟨t, u, rfl, hat, ht, rfl, hu, hut, rfl⟩
    unfold P_Or_sharedByAll_L23
    dsimp only
    have hLu := pz_L_le (c := c) (show x ≤ N by omega) (show u ≤ N by omega)
    by_cases hlt : t < b
    · left
      obtain ⟨w, hw, hwt⟩ := pz_rk_surj (c := c) (N := N) (k := t) (by omega)
      have h1 := pz_sh_pred (c := c) hw hu (by omega)
      have hLw := pz_L_le (c := c) (show u ≤ N by omega) (show w ≤ N by omega)
      have huw := (pz_rk_iff (c := c) hu hw).mp (by omega)
      have h2 : pz_L c N x w = min (pz_L c N x u) (pz_L c N u w) := by
        by_cases z : x = u
        · subst z
          rw [pz_L_self (by omega), Nat.min_eq_right (by omega)]
        · have hne : pz_rk c N x ≠ pz_rk c N u := fun y => z (pz_rk_inj hx hu y)
          exact (pz_A_trans ((pz_rk_iff (c := c) hx hu).mp (by omega)) huw).2
      rw [if_neg (nI_ge hlt (by omega)), ← hwt, pz_Or_placeAt hN ho hw, fl_bd_some, pz_Or_sharedWithAhead hN ho hw, fl_bd_some, h1, pz_mnI (by omega) (by omega), nI_1]
      exact ⟨_, b - (t + 1), rfl, by omega, t + 1, w, by rw [hwt], by omega, by omega, rfl, hw, by omega, by dsimp only; rw [h2]⟩
    · right
      obtain rfl : t = b := by omega
      obtain rfl := pz_rk_inj (c := c) hu hy (by omega)
      rw [if_pos (nI_le (Nat.le_refl _) (by omega))]
      exact ⟨_, rfl, rfl⟩) (b - (a + 1)) (nI (N - x), nI (a + 1)) ⟨a + 1, x, rfl, Nat.le_refl _, by omega, rfl, hx, by omega, by dsimp only; rw [pz_L_self (by omega)]⟩
  exact e
theorem pz_singer {ch : fl_Ch} {f od rk : fl_A} {rf p t : Int32} {N V S : Nat} {c : Nat → Int32} {len : Nat → Nat} (hR : pz_R ch.1 f N V S c len) (hO : pz_OK N V S len) (hC : pz_CH ch N S) :
    (P_SC_singer ch p t = some (.inl 3) ∧ P_M_singer rf f od rk p t = some (0, 1, od, rk)) ∨ (P_SC_singer ch p t = some (.inl 1) ∧ P_M_singer rf f od rk p t = some (0, 2, od, rk)) ∨ ∃ v od' rk', P_SC_singer ch p t = some (.inr v) ∧ P_M_singer rf f od rk p t = some (v, 0, od', rk') := by
  have hcf := pz_codes hR
  obtain ⟨hg, hgS, hf, hfS, -⟩ := hR
  obtain ⟨hN, hsum, hlen, hS1, hS8⟩ := hO
  have hout : P_M_in p.toInt64 (0 : Int64) ((nI S - (1 : Int32)).toInt64) = some 0 → P_M_singer rf f od rk p t = some (0, 1, od, rk) := by
    intro h
    unfold P_M_singer
    rw [pz_ck2, pz_c2, hfS, h, fl_bd_some, if_pos rfl]
    unfold P_M_singer_J40
    rw [pz_ref1, fl_bd_some]
    exact if_neg (show ¬ (1 : Int32) = 0 by decide)
  rcases pz_upto (N := S) (by omega) p with ⟨q, e⟩ | ⟨j, hj, rfl, e⟩ | ⟨j, hj, hj2, rfl, e⟩
  · left
    refine ⟨?_, hout e⟩
    unfold P_SC_singer
    rw [if_pos q]
  · right
    have h1 := pz_Sg_lowest (g := ch.1) (N := N) (S := S) (s := j) (by omega) (by omega) (by omega) (by omega) hg.1 hgS
    have h2 := pz_Sg_lowest (g := ch.1) (N := N) (S := S) (s := j + 1) (by omega) (by omega) (by omega) (by omega) hg.1 hgS
    have hm1 := pz_fo_mono (N := N) (S := S) (s := j) (s' := j + 1) (by omega)
    have hm2 := pz_fo_le (N := N) (S := S) (s := j + 1) (by omega) (by omega)
    have hSC : P_SC_singer ch (nI j) t = if t = (0 : Int32) then some (.inr (nI (pz_fo N S j))) else if t = (1 : Int32) then some (.inr (nI (pz_fo N S (j + 1)) - nI (pz_fo N S j))) else if t = (2 : Int32) then fl_bd (P_Or_sharedByAll ch.2.1 (nI (pz_fo N S j)) (nI (pz_fo N S (j + 1)))) (fun q3 => some (.inr q3)) else some (.inl 1) := by
      unfold P_SC_singer
      rw [if_neg (nI_pos (by omega)), hgS, if_pos (nI_lt hj (by omega)), h1, fl_bd_some, nI_1, h2, fl_bd_some]
    rw [hSC]
    by_cases q : t < 0 ∨ (2 : Int32) < t
    · left
      have hne : ∀ k : Int32, ¬ (k < 0 ∨ (2 : Int32) < k) → ¬ t = k := fun k hk z => hk (z ▸ q)
      constructor
      · rw [if_neg (hne 0 (by decide)), if_neg (hne 1 (by decide)), if_neg (hne 2 (by decide))]
      · unfold P_M_singer
        rw [pz_ck2, pz_c2, hfS, e, fl_bd_some, if_neg (show ¬ (1 : Int32) = 0 by decide), pz_z64, pz_2x, pz_in_no q, fl_bd_some, if_pos rfl]
        unfold P_M_singer_J40
        rw [pz_ref2, fl_bd_some]
        exact if_neg (show ¬ (1 : Int32) = 0 by decide)
    · right
      have q1 : ¬ t < 0 := fun z => q (Or.inl z)
      have q2 : ¬ (2 : Int32) < t := fun z => q (Or.inr z)
      have hM : P_M_singer rf f od rk (nI j) t = P_M_singer_J40 rf f od rk (nI j) t 0 := by
        unfold P_M_singer
        rw [pz_ck2, pz_c2, hfS, e, fl_bd_some, if_neg (show ¬ (1 : Int32) = 0 by decide), pz_z64, pz_2x, pz_in_yes q1 q2, fl_bd_some, if_neg (show ¬ (1 : Int32) = 0 by decide)]
      rw [hM]
      have h3 := pz_M_firstOf (f := f) (N := N) (S := S) (s := j) (by omega) (by omega) (by omega) (by omega) hf.1 hfS
      have h4 := pz_M_firstOf (f := f) (N := N) (S := S) (s := j + 1) (by omega) (by omega) (by omega) (by omega) hf.1 hfS
      obtain ⟨k, hk, rfl⟩ := nI_of2 (x := t) (M := (2 : Int32)) (n := 2) (by decide) q1 (pz_nle q2)
      unfold P_M_singer_J40
      rw [pz_ref0, fl_bd_some, if_pos (show (((0 : Int32), (0 : Int32)).1 = 0) from rfl), h3, fl_bd_some, nI_1, h4, fl_bd_some]
      generalize pz_fo N S j = a at *
      generalize pz_fo N S (j + 1) = b at *
      rcases (show k = 0 ∨ k = 1 ∨ k = 2 by omega) with rfl | rfl | rfl
      · refine ⟨nI a, od, rk, ?_, ?_⟩
        · rw [if_pos (show nI 0 = (0 : Int32) from rfl)]
        · rw [if_neg (show ¬ (2 : Int32) ≤ nI 0 by decide), if_pos (show nI 0 = (0 : Int32) from rfl)]
      · refine ⟨nI b - nI a, od, rk, ?_, ?_⟩
        · rw [if_neg (show ¬ nI 1 = (0 : Int32) by decide), if_pos (show nI 1 = (1 : Int32) from rfl)]
        · rw [if_neg (show ¬ (2 : Int32) ≤ nI 1 by decide), if_neg (show ¬ nI 1 = (0 : Int32) by decide)]
      · obtain ⟨⟨od1, rk1⟩, e2, hm⟩ := pz_lay (od := od) (rk := rk) (f := f) (N := N) (by omega) hf.1
        have hm := pz_MO_congr hcf hm
        have hod : ∀ i, i < N → od1 (pz_rk ch.1.1 N i) = nI i := hm.1
        rw [if_neg (show ¬ nI 2 = (0 : Int32) by decide), if_neg (show ¬ nI 2 = (1 : Int32) by decide), if_pos (show nI 2 = (2 : Int32) from rfl), if_pos (show (2 : Int32) ≤ nI 2 by decide), e2, fl_bd_some, pk_sub hm1, nI_add]
        dsimp only
        by_cases y : a = b
        · subst y
          refine ⟨nI 0, od1, rk1, ?_, ?_⟩
          · unfold P_Or_sharedByAll
            rw [if_neg (nI_nlt (Nat.le_refl _) (by omega)), fl_bd_some]
            rfl
          · rw [Nat.sub_self, if_pos (show nI 0 = (0 : Int32) from rfl)]
            rfl
        · obtain ⟨x, hx, hxa⟩ := pz_rk_surj (c := ch.1.1) (N := N) (k := a) (by omega)
          obtain ⟨w, hw, hwb⟩ := pz_rk_surj (c := ch.1.1) (N := N) (k := b - 1) (by omega)
          have g1 := hod x hx
          have g2 := hod w hw
          rw [hxa] at g1
          rw [hwb] at g2
          have g3 : nI (a + (b - a)) - (1 : Int32) = nI (b - 1) := by
            rw [show a + (b - a) = (b - 1) + 1 by omega, nI_pred]
          refine ⟨nI (pz_L ch.1.1 N x w), od1, rk1, ?_, ?_⟩
          · rw [pz_sharedByAll hN hC.1 (show a < b by omega) hm2 hx hxa hw (by omega), fl_bd_some]
          · rw [if_neg (nI_ne0 (by omega) (by omega)), g3, pz_ck (by omega) (by decide), pz_ck (by omega) (by decide), nI_clamp (by omega), nI_clamp (by omega), g1, g2, pz_alike (by omega) hf.1 (by omega) (by omega), fl_bd_some, pz_L_congr hcf]
  · left
    refine ⟨?_, hout e⟩
    unfold P_SC_singer
    rw [if_neg (nI_pos (by omega)), hgS, if_neg (nI_nlt hj (by omega))]
theorem pz_placeOf {tx : fl_Ln} {ch : fl_Ch} {f sc : fl_A} {ss rf p : Int32} {L N V : Nat} {c : Nat → Int32} {len : Nat → Nat} (hT : pz_TX tx sc ss L) (hg : pz_SG ch.1 N V c len) (hf : pz_SF f N V c len) (hN : N ≤ 48) :
    (P_SC_placeOf tx ch p = some (.inl 1) ∧ P_M_placeOf rf sc ss f p = some (0, 1)) ∨ (P_SC_placeOf tx ch p = some (.inl 2) ∧ P_M_placeOf rf sc ss f p = some (0, 2)) ∨ ∃ v, P_SC_placeOf tx ch p = some (.inr v) ∧ P_M_placeOf rf sc ss f p = some (v, 0) := by
  obtain ⟨r, e1, e2, -⟩ := pz_fault hT
  unfold P_SC_placeOf P_M_placeOf
  by_cases q0 : 0 ≤ p
  · right
    rw [if_pos q0, if_pos q0, pz_isPattern e1, fl_bd_some, e2, fl_bd_some]
    by_cases q : r = -1
    · right
      rw [if_pos q, if_pos q, if_neg (show ¬ (1 : Int32) = 0 by decide)]
      unfold P_M_placeOf_J22
      rw [pz_ref0, fl_bd_some, if_pos (show (((0 : Int32), (0 : Int32)).1 = 0) from rfl)]
      obtain ⟨T, hTT⟩ := pz_T_ex hT hg hf hN
      have hL := hT.1
      obtain ⟨k, hk, rfl⟩ := nI_of (fun z => pz_ngt z q0)
      suffices h : ∀ n t m, t ≤ N → n = N - t → m ≤ k → m ≤ t → ∃ v, fl_loop (P_SC_placeOf_L38 tx ch (nI k)) (nI m, nI t) = some (.inr v) ∧ fl_loop (P_M_placeOf_L34 0 sc ss f) (nI (k - m), nI t) = some (v, 0) by
        exact h N 0 0 (Nat.zero_le _) rfl (Nat.zero_le _) (Nat.zero_le _)
      intro n
      induction n with
      | zero =>
        intro t m ht hn hm hmt
        obtain rfl : t = N := by omega
        refine ⟨-1, fl_loop_inr ?_, fl_loop_inr ?_⟩
        · unfold P_SC_placeOf_L38
          dsimp only
          rw [hg.1, if_pos (nI_le (Nat.le_refl _) (by omega))]
        · unfold P_M_placeOf_L34
          dsimp only
          rw [pz_ck0, pz_c0, hf.1, if_pos (nI_le (Nat.le_refl _) (by omega))]
      | succ n ih =>
        intro t m ht hn hm hmt
        have hlt : t < N := by omega
        obtain ⟨g1, g2, g3⟩ := hTT t hlt
        by_cases y : T t = L
        · by_cases y2 : m = k
          · subst y2
            refine ⟨nI t, fl_loop_inr ?_, fl_loop_inr ?_⟩
            · unfold P_SC_placeOf_L38 P_SC_isSungAt
              dsimp only
              rw [hg.1, if_neg (nI_ge hlt (by omega)), g2, fl_bd_some, hT.2.1, if_pos (by rw [y]), fl_bd_some, if_neg (show ¬ (1 : Int32) = 0 by decide), if_pos rfl]
            · unfold P_M_placeOf_L34
              dsimp only
              rw [pz_ck0, pz_c0, hf.1, if_neg (nI_ge hlt (by omega)), g3, fl_bd_some, hT.2.2.1, if_pos (by rw [y]), Nat.sub_self, if_pos (show nI 0 = (0 : Int32) from rfl)]
          · obtain ⟨v, i1, i2⟩ := ih (t + 1) (m + 1) (by omega) (by omega) (by omega) (by omega)
            refine ⟨v, ?_, ?_⟩
            · rw [fl_loop_inl (s' := (nI (m + 1), nI (t + 1))), i1]
              unfold P_SC_placeOf_L38 P_SC_isSungAt P_SC_placeOf_J70
              dsimp only
              rw [hg.1, if_neg (nI_ge hlt (by omega)), g2, fl_bd_some, hT.2.1, if_pos (by rw [y]), fl_bd_some, if_neg (show ¬ (1 : Int32) = 0 by decide), if_neg (fun z => y2 ((nI_eq (by omega) (by omega)).mp z)), nI_1, nI_1]
            · rw [fl_loop_inl (s' := (nI (k - (m + 1)), nI (t + 1))), i2]
              unfold P_M_placeOf_L34 P_M_placeOf_J65
              dsimp only
              rw [pz_ck0, pz_c0, hf.1, if_neg (nI_ge hlt (by omega)), g3, fl_bd_some, hT.2.2.1, if_pos (by rw [y]), if_neg (nI_ne0 (by omega) (by omega)), show k - m = k - (m + 1) + 1 by omega, pk_m1, nI_1]
        · obtain ⟨v, i1, i2⟩ := ih (t + 1) m (by omega) (by omega) (by omega) (by omega)
          refine ⟨v, ?_, ?_⟩
          · rw [fl_loop_inl (s' := (nI m, nI (t + 1))), i1]
            unfold P_SC_placeOf_L38 P_SC_isSungAt P_SC_placeOf_J70
            dsimp only
            rw [hg.1, if_neg (nI_ge hlt (by omega)), g2, fl_bd_some, hT.2.1, if_neg (fun z => y ((nI_eq (by omega) (by omega)).mp z)), fl_bd_some, if_pos rfl, nI_1]
          · rw [fl_loop_inl (s' := (nI (k - m), nI (t + 1))), i2]
            unfold P_M_placeOf_L34 P_M_placeOf_J65
            dsimp only
            rw [pz_ck0, pz_c0, hf.1, if_neg (nI_ge hlt (by omega)), g3, fl_bd_some, hT.2.2.1, if_neg (fun z => y ((nI_eq (by omega) (by omega)).mp z)), nI_1]
    · left
      rw [if_neg q, if_neg q, if_pos rfl]
      unfold P_M_placeOf_J22
      rw [pz_ref2, fl_bd_some]
      exact ⟨rfl, if_neg (show ¬ (1 : Int32) = 0 by decide)⟩
  · left
    rw [if_neg q0, if_neg q0]
    unfold P_M_placeOf_J22
    rw [pz_ref1, fl_bd_some]
    exact ⟨rfl, if_neg (show ¬ (1 : Int32) = 0 by decide)⟩
