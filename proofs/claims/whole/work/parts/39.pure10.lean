/-! MAKING ROOM AND ADDING A VERSE, on both sides -/
theorem pz_le48 {a : Nat} (h : a ≤ 48) : nI a ≤ (48 : Int32) := nI_le (b := 48) h (by decide)
theorem pz_nle48 {a : Nat} (h : 48 < a) (ha : a < 2 ^ 31) : ¬ nI a ≤ (48 : Int32) := nI_ge (a := 48) h ha
theorem pz_sum_mono {g : Nat → Nat} {a : Nat} : ∀ b, a ≤ b → pz_sum g a ≤ pz_sum g b := by
  intro b
  induction b with
  | zero => intro h; rw [show a = 0 by omega]; exact Nat.le_refl _
  | succ b ih =>
    intro h
    rcases Nat.lt_or_ge a (b + 1) with q | q
    · have := ih (by omega); rw [pz_sum]; omega
    · rw [show a = b + 1 by omega]; exact Nat.le_refl _
theorem pz_sum_ge {g : Nat → Nat} {a : Nat} : ∀ b, a ≤ b → (∀ v, v < b → 1 ≤ g v) → pz_sum g a + (b - a) ≤ pz_sum g b := by
  intro b
  induction b with
  | zero => intro h _; rw [show a = 0 by omega]; exact Nat.le_refl _
  | succ b ih =>
    intro h hg
    rcases Nat.lt_or_ge a (b + 1) with q | q
    · have h1 := ih (by omega) (fun v hv => hg v (by omega)); have h2 := hg b (by omega); rw [pz_sum]; omega
    · rw [show a = b + 1 by omega]; omega
theorem pz_sum_congr {g h : Nat → Nat} : ∀ n, (∀ v, v < n → g v = h v) → pz_sum g n = pz_sum h n := by
  intro n
  induction n with
  | zero => intro _; rfl
  | succ n ih => intro q; rw [pz_sum, pz_sum, ih (fun v hv => q v (by omega)), q n (by omega)]
/-- k is how many verses must go -/
def pz_K (N l : Nat) (len : Nat → Nat) (k : Nat) : Prop := N + l - pz_sum len k ≤ 48 ∧ ∀ j, j < k → 48 < N + l - pz_sum len j
theorem pz_K_uniq {N l k k' : Nat} {len : Nat → Nat} (h : pz_K N l len k) (h' : pz_K N l len k') : k = k' := by
  rcases Nat.lt_trichotomy k k' with q | q | q
  · have := h'.2 k q; have := h.1; omega
  · exact q
  · have := h.2 k' q; have := h'.1; omega
theorem pz_makeRoom {g : fl_Sg} {N V l : Nat} {c : Nat → Int32} {len : Nat → Nat} (hg : pz_SG g N V c len) (hs : pz_sum len V = N) (hN : N ≤ 48) (hV : V ≤ 48) (hl : l ≤ 12) : ∃ k a b, k ≤ V ∧ P_Sg_makeRoomFor g (nI l) = some (a, b, nI (N - pz_sum len k), nI (V - k), g.2.2.2.2.1, g.2.2.2.2.2.1 + nI (pz_sum len k), g.2.2.2.2.2.2.1, g.2.2.2.2.2.2.2) ∧ (∀ i, i < N - pz_sum len k → a i = c (i + pz_sum len k)) ∧ (∀ v, v < V - k → b v = nI (len (v + k))) ∧ pz_K N l len k := by
  have hst : ∀ k, k ≤ V → pz_sum len k ≤ N := fun k hk => by rw [← hs]; exact pz_sum_mono V hk
  have h := fl_loop_inv (b := P_Sg_makeRoomFor_L5 (nI l)) (fun n z => ∃ t a b, z = (nI (V - t), a, b, nI (N - pz_sum len t), nI (V - t), g.2.2.2.2.1, g.2.2.2.2.2.1 + nI (pz_sum len t), g.2.2.2.2.2.2.1, g.2.2.2.2.2.2.2) ∧ t ≤ V ∧ n = V - t ∧ (∀ i, i < N - pz_sum len t → a i = c (i + pz_sum len t)) ∧ (∀ v, v < V - t → b v = nI (len (v + t))) ∧ ∀ j, j < t → 48 < N + l - pz_sum len j) (fun r => ∃ k a b, k ≤ V ∧ r = (a, b, nI (N - pz_sum len k), nI (V - k), g.2.2.2.2.1, g.2.2.2.2.2.1 + nI (pz_sum len k), g.2.2.2.2.2.2.1, g.2.2.2.2.2.2.2) ∧ (∀ i, i < N - pz_sum len k → a i = c (i + pz_sum len k)) ∧ (∀ v, v < V - k → b v = nI (len (v + k))) ∧ pz_K N l len k) (by
    rintro n z ⟨t, a, b, rfl, ht, rfl, h1, h2, h3⟩
    have hstt := hst t ht
    unfold P_Sg_makeRoomFor_L5
    dsimp only
    by_cases h0 : t = V
    · right
      rw [if_pos (by rw [h0, Nat.sub_self]; decide)]
      refine ⟨_, rfl, t, a, b, ht, rfl, h1, h2, ?_, h3⟩
      rw [h0, hs]; omega
    · rw [if_neg (nI_nle (by omega) (by omega)), nI_add]
      by_cases h4 : N - pz_sum len t + l ≤ 48
      · right
        rw [if_pos (pz_le48 h4)]
        exact ⟨_, rfl, t, a, b, ht, rfl, h1, h2, by omega, h3⟩
      · left
        have hst1 := hst (t + 1) (by omega)
        rw [pz_sum] at hst1
        rw [if_neg (pz_nle48 (by omega) (by omega))]
        obtain ⟨a2, b2, e, h5, h6⟩ := pz_dropVerse (g := (a, b, nI (N - pz_sum len t), nI (V - t), g.2.2.2.2.1, g.2.2.2.2.2.1 + nI (pz_sum len t), g.2.2.2.2.2.2.1, g.2.2.2.2.2.2.2)) (N := N - pz_sum len t) (V := V - t) (c := fun i => c (i + pz_sum len t)) (len := fun v => len (v + t)) ⟨rfl, rfl, h1, h2⟩ (by omega) (by omega) (by omega) (by rw [Nat.zero_add]; omega)
        dsimp only at e h5 h6
        rw [Nat.zero_add] at e h5
        rw [e, fl_bd_some, sb_m1 (show 0 < V - t by omega), Int32.add_assoc, nI_add]
        refine ⟨_, V - (t + 1), rfl, by omega, t + 1, a2, b2, ?_, by omega, rfl, fun i hi => ?_, fun v hv => ?_, fun j hj => ?_⟩
        · rw [pz_sum, Nat.sub_sub, Nat.sub_sub]
        · rw [pz_sum] at hi ⊢
          rw [h5 i (by omega)]
          congr 1; omega
        · rw [h6 v (by omega)]
          congr 2; omega
        · rcases Nat.lt_or_ge j t with q | q
          · exact h3 j q
          · rw [show j = t by omega]; omega)
  unfold P_Sg_makeRoomFor
  obtain ⟨r, e, k, a, b, hk, rfl, h1, h2, h3⟩ := h V (g.2.2.2.1, g) ⟨0, g.1, g.2.1, by
    obtain ⟨g1, g2, g3, g4, g5, g6, g7, g8⟩ := g
    obtain ⟨e1, e2, e3, e4⟩ := hg
    dsimp only at e1 e2 ⊢
    rw [e1, e2]
    show _ = (nI (V - 0), g1, g2, nI (N - 0), nI (V - 0), g5, g6 + nI 0, g7, g8)
    rw [Nat.sub_zero, Nat.sub_zero, show nI 0 = 0 from rfl, Int32.add_zero], Nat.zero_le _, rfl, fun i hi => hg.2.2.1 i (by rw [pz_sum] at hi; omega), fun v hv => hg.2.2.2 v (by omega), fun j hj => by omega⟩
  exact ⟨k, a, b, hk, e, h1, h2, h3⟩
theorem pz_addVerse {g : fl_Sg} {N V l : Nat} {c : Nat → Int32} {len : Nat → Nat} {u : fl_Ln} (hg : pz_SG g N V c len) (hu : u.2 = nI l) (hl : l ≤ 12) (hN : N + l ≤ 48) (hV : V < 48) : ∃ a b, P_Sg_addVerse 12 g u = some (a, b, nI (N + l), nI (V + 1), g.2.2.2.2.1, g.2.2.2.2.2.1, g.2.2.2.2.2.2.1, g.2.2.2.2.2.2.2 + 1) ∧ (∀ i, i < N → a i = c i) ∧ (∀ i, i < l → a (N + i) = u.1 i) ∧ (∀ v, v < V → b v = nI (len v)) ∧ b V = nI l := by
  obtain ⟨g1, g2, g3, g4, g5, g6, g7, g8⟩ := g
  obtain ⟨e1, e2, e3, e4⟩ := hg
  dsimp only at e1 e2 e3 e4 ⊢
  subst e1; subst e2
  have h := fl_loop_inv (b := P_Sg_addVerse_L65 12 u) (fun n z => ∃ t a, z = (nI t, a, upd g2 V (nI l), nI (N + t), nI (V + 1), g5, g6, g7, g8 + 1) ∧ t ≤ l ∧ n = l - t ∧ (∀ i, i < N → a i = c i) ∧ ∀ i, i < t → a (N + i) = u.1 i) (fun r => ∃ a, r = (a, upd g2 V (nI l), nI (N + l), nI (V + 1), g5, g6, g7, g8 + 1) ∧ (∀ i, i < N → a i = c i) ∧ ∀ i, i < l → a (N + i) = u.1 i) (by
    rintro n z ⟨t, a, rfl, ht, rfl, h1, h2⟩
    unfold P_Sg_addVerse_L65
    dsimp only
    rw [hu]
    by_cases hlt : t < l
    · left
      have hcd : P_Ln_codeAt 12 u (nI t) = some (u.1 t) := by
        unfold P_Ln_codeAt
        rw [pz_cellOf (by omega) (by decide)]; rfl
      rw [if_neg (nI_ge hlt (by omega)), if_neg (nI_ge (by omega) (by decide)), hcd, fl_bd_some, pz_ck (by omega) (by decide), nI_clamp (by omega), nI_1, nI_1]
      refine ⟨_, l - (t + 1), rfl, by omega, t + 1, _, rfl, by omega, rfl, fun i hi => ?_, fun i hi => ?_⟩
      · rw [pz_updN (by omega)]; exact h1 i hi
      · by_cases q : i = t
        · subst q; exact pz_updS
        · rw [pz_updN (by omega)]; exact h2 i (by omega)
    · right
      obtain rfl : t = l := by omega
      rw [if_pos (nI_le (Nat.le_refl _) (by omega))]
      exact ⟨_, rfl, a, rfl, h1, h2⟩)
  unfold P_Sg_addVerse
  dsimp only
  rw [if_neg (nI_ge hV (by decide)), hu, nI_add, if_pos (nI_le hN (by decide)), pz_ck (by omega) (by decide), nI_clamp (by omega), nI_1]
  obtain ⟨r, e, a, rfl, h1, h2⟩ := h l (nI 0, g1, upd g2 V (nI l), nI N, nI (V + 1), g5, g6, g7, g8 + 1) ⟨0, g1, rfl, Nat.zero_le _, rfl, e3, fun i hi => by omega⟩
  refine ⟨a, _, e, h1, h2, fun v hv => ?_, pz_updS⟩
  rw [pz_updN (by omega)]; exact e4 v hv
/-- the model's dropping, as often as it must -/
theorem pz_M_drops {od rk be fr : fl_A} {fs v2 v3 : Int32} {f : fl_A} {N V : Nat} {c : Nat → Int32} {len : Nat → Nat} {R : Int32 × fl_A × fl_A × fl_A × fl_A → Prop} (hf : pz_SF f N V c len) (hs : pz_sum len V = N) (hN : N ≤ 60) (hV : V ≤ 60)
    (hfin : ∀ (r : fl_A) (k : Nat), k ≤ V → pz_SF r (N - pz_sum len k) (V - k) (fun i => c (i + pz_sum len k)) (fun v => len (v + k)) → r 2 = f 2 → r 3 = f 3 + nI (pz_sum len k) → r 4 = f 4 → r 5 = f 5 → N - pz_sum len k ≤ 48 → (∀ j, j < k → 48 < N - pz_sum len j) → ∃ x, P_M_singIn_J81 od rk be fr fs r v2 v3 = some x ∧ R x) : ∃ x, fl_loop (P_M_singIn_L66 od rk be fr fs v2 v3) f = some x ∧ R x := by
  have hst : ∀ k, k ≤ V → pz_sum len k ≤ N := fun k hk => by rw [← hs]; exact pz_sum_mono V hk
  refine fl_loop_inv (b := P_M_singIn_L66 od rk be fr fs v2 v3) (fun n r => ∃ k, k ≤ V ∧ n = V - k ∧ pz_SF r (N - pz_sum len k) (V - k) (fun i => c (i + pz_sum len k)) (fun v => len (v + k)) ∧ r 2 = f 2 ∧ r 3 = f 3 + nI (pz_sum len k) ∧ r 4 = f 4 ∧ r 5 = f 5 ∧ ∀ j, j < k → 48 < N - pz_sum len j) R ?_ V f ⟨0, Nat.zero_le _, rfl, hf, rfl, by show _ = f 3 + nI 0; rw [show nI 0 = 0 from rfl, Int32.add_zero], rfl, rfl, fun j hj => by omega⟩
  rintro n r ⟨k, hk, rfl, h1, h2, h3, h4, h5, h6⟩
  unfold P_M_singIn_L66
  rw [pz_ck0, pz_c0, h1.1]
  by_cases q : N - pz_sum len k ≤ 48
  · right
    rw [if_pos (pz_le48 q)]
    obtain ⟨x, e, hx⟩ := hfin r k hk h1 h2 h3 h4 h5 q h6
    rw [e]
    exact ⟨x, rfl, hx⟩
  · left
    have hkV : k < V := by
      rcases Nat.lt_or_ge k V with y | y
      · exact y
      · rw [show k = V by omega, hs] at q; omega
    have hst1 := hst (k + 1) (by omega)
    rw [pz_sum] at hst1
    rw [if_neg (pz_nle48 (by omega) (by omega))]
    obtain ⟨r2, e, g1, g2, g3, g4, g5⟩ := pz_M_drop h1 (by omega) (by omega) (by omega) (by rw [Nat.zero_add]; omega)
    rw [Nat.zero_add] at g1 g3
    rw [e, fl_bd_some]
    refine ⟨r2, V - (k + 1), rfl, by omega, k + 1, by omega, rfl, ?_, by rw [g2, h2], by rw [g3, h3, pz_sum, Int32.add_assoc, nI_add], by rw [g4, h4], by rw [g5, h5], fun j hj => ?_⟩
    · rw [pz_sum, ← Nat.sub_sub, ← Nat.sub_sub]
      refine ⟨g1.1, g1.2.1, fun i hi => ?_, fun v hv => ?_⟩
      · rw [g1.2.2.1 i hi]; dsimp only; congr 1; omega
      · rw [g1.2.2.2 v hv]; dsimp only; congr 2; omega
    · rcases Nat.lt_or_ge j k with y | y
      · exact h6 j y
      · rw [show j = k by omega]; omega
