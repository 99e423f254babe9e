/-! SONGS: copying, dropping a verse, adding one -/
theorem pz_copy {A B s d n : Nat} {f g : fl_A} (hA : A < 2 ^ 30) (hB : B < 2 ^ 30) (hs : s + n ≤ A) (hd : d + n ≤ B) : ∃ r, P_M_copy A B f g (nI s) (nI d) (nI n) = some r ∧ (∀ k, k < n → r (d + k) = f (s + k)) ∧ ∀ x, x < d ∨ d + n ≤ x → r x = g x := by
  have h := fl_loop_inv (b := P_M_copy_L3 A B f (nI s) (nI d) (nI n)) (fun m z => ∃ t, z.1 = nI t ∧ t ≤ n ∧ m = n - t ∧ (∀ k, k < t → z.2 (d + k) = f (s + k)) ∧ ∀ x, x < d ∨ d + t ≤ x → z.2 x = g x) (fun r => (∀ k, k < n → r (d + k) = f (s + k)) ∧ ∀ x, x < d ∨ d + n ≤ x → r x = g x) (by
    rintro m ⟨z, r⟩ ⟨t, rfl, ht, rfl, h1, h2⟩
    dsimp only at h1 h2
    unfold P_M_copy_L3
    dsimp only
    by_cases hlt : t < n
    · left
      rw [if_neg (nI_ge hlt (by omega)), nI_add, nI_add, pz_ck (by omega) (by omega), pz_ck (by omega) (by omega), nI_clamp (by omega), nI_clamp (by omega), nI_1]
      refine ⟨_, n - (t + 1), rfl, by omega, t + 1, rfl, by omega, rfl, fun k hk => ?_, fun x hx => ?_⟩
      · show upd r (d + t) (f (s + t)) (d + k) = _
        by_cases q : k = t
        · subst q; exact pz_updS
        · rw [pz_updN (by omega)]; exact h1 k (by omega)
      · show upd r (d + t) (f (s + t)) x = _
        rw [pz_updN (by omega)]; exact h2 x (by omega)
    · right
      obtain rfl : t = n := by omega
      rw [if_pos (nI_le (Nat.le_refl _) (by omega))]
      exact ⟨_, rfl, h1, h2⟩)
  exact h n (nI 0, g) ⟨0, rfl, Nat.zero_le _, rfl, fun k hk => by omega, fun x _ => rfl⟩
theorem pz_copyS {A s d n : Nat} {f : fl_A} (hA : A < 2 ^ 30) (hs : s + n ≤ A) (hd : d ≤ s) : ∃ r, P_M_copyS A f (nI s) (nI d) (nI n) = some r ∧ (∀ k, k < n → r (d + k) = f (s + k)) ∧ ∀ x, x < d ∨ d + n ≤ x → r x = f x := by
  have h := fl_loop_inv (b := P_M_copyS_L3 A (nI s) (nI d) (nI n)) (fun m z => ∃ t, z.1 = nI t ∧ t ≤ n ∧ m = n - t ∧ (∀ k, k < t → z.2 (d + k) = f (s + k)) ∧ ∀ x, x < d ∨ d + t ≤ x → z.2 x = f x) (fun r => (∀ k, k < n → r (d + k) = f (s + k)) ∧ ∀ x, x < d ∨ d + n ≤ x → r x = f x) (by
    rintro m ⟨z, r⟩ ⟨t, rfl, ht, rfl, h1, h2⟩
    dsimp only at h1 h2
    unfold P_M_copyS_L3
    dsimp only
    by_cases hlt : t < n
    · left
      rw [if_neg (nI_ge hlt (by omega)), nI_add, nI_add, pz_ck (by omega) (by omega), pz_ck (by omega) (by omega), nI_clamp (by omega), nI_clamp (by omega), nI_1]
      refine ⟨_, n - (t + 1), rfl, by omega, t + 1, rfl, by omega, rfl, fun k hk => ?_, fun x hx => ?_⟩
      · show upd r (d + t) (r (s + t)) (d + k) = _
        by_cases q : k = t
        · subst q; rw [pz_updS]; exact h2 _ (by omega)
        · rw [pz_updN (by omega)]; exact h1 k (by omega)
      · show upd r (d + t) (r (s + t)) x = _
        rw [pz_updN (by omega)]; exact h2 x (by omega)
    · right
      obtain rfl : t = n := by omega
      rw [if_pos (nI_le (Nat.le_refl _) (by omega))]
      exact ⟨_, rfl, h1, h2⟩)
  exact h n (nI 0, f) ⟨0, rfl, Nat.zero_le _, rfl, fun k hk => by omega, fun x _ => rfl⟩
/-- a component's song: N notes c, V verses of lengths len -/
def pz_SG (g : fl_Sg) (N V : Nat) (c : Nat → Int32) (len : Nat → Nat) : Prop := g.2.2.1 = nI N ∧ g.2.2.2.1 = nI V ∧ (∀ i, i < N → g.1 i = c i) ∧ ∀ v, v < V → g.2.1 v = nI (len v)
/-- a model's row -/
def pz_SF (f : fl_A) (N V : Nat) (c : Nat → Int32) (len : Nat → Nat) : Prop := f 0 = nI N ∧ f 1 = nI V ∧ (∀ i, i < N → f (66 + i) = c i) ∧ ∀ v, v < V → f (6 + v) = nI (len v)
theorem pz_dropVerse {g : fl_Sg} {N V : Nat} {c : Nat → Int32} {len : Nat → Nat} (hg : pz_SG g N V c len) (hN : N ≤ 48) (hV : 0 < V) (hV2 : V ≤ 48) (hl : len 0 ≤ N) : ∃ a b, P_Sg_dropVerse g = some (a, b, nI (N - len 0), nI (V - 1), g.2.2.2.2.1, g.2.2.2.2.2.1 + nI (len 0), g.2.2.2.2.2.2.1, g.2.2.2.2.2.2.2) ∧ (∀ i, i < N - len 0 → a i = c (i + len 0)) ∧ ∀ v, v < V - 1 → b v = nI (len (v + 1)) := by
  obtain ⟨h1, h2, h3, h4⟩ := hg
  generalize hld : len 0 = l at hl ⊢
  have hJ : ∀ a : fl_A, ∃ b, P_Sg_dropVerse_J52 (a, g.2.1, g.2.2.1, g.2.2.2.1, g.2.2.2.2.1, g.2.2.2.2.2.1, g.2.2.2.2.2.2.1, g.2.2.2.2.2.2.2) (nI l) = some (a, b, nI (N - l), nI (V - 1), g.2.2.2.2.1, g.2.2.2.2.2.1 + nI l, g.2.2.2.2.2.2.1, g.2.2.2.2.2.2.2) ∧ ∀ v, v < V - 1 → b v = nI (len (v + 1)) := by
    intro a
    have h := fl_loop_inv (b := P_Sg_dropVerse_L54 (nI l)) (fun n z => ∃ t b, z = (nI t, a, b, g.2.2.1, g.2.2.2.1, g.2.2.2.2.1, g.2.2.2.2.2.1, g.2.2.2.2.2.2.1, g.2.2.2.2.2.2.2) ∧ t ≤ V - 1 ∧ n = V - 1 - t ∧ (∀ v, v < t → b v = nI (len (v + 1))) ∧ ∀ v, t ≤ v → b v = g.2.1 v) (fun r => ∃ b, r = (a, b, nI (N - l), nI (V - 1), g.2.2.2.2.1, g.2.2.2.2.2.1 + nI l, g.2.2.2.2.2.2.1, g.2.2.2.2.2.2.2) ∧ ∀ v, v < V - 1 → b v = nI (len (v + 1))) (by
      rintro n z ⟨t, b, rfl, ht, rfl, h5, h6⟩
      unfold P_Sg_dropVerse_L54
      dsimp only
      have ev : g.2.2.2.1 - (1 : Int32) = nI (V - 1) := by rw [h2]; exact pk_sub (b := 1) (by omega)
      rw [ev]
      by_cases hlt : t < V - 1
      · left
        rw [if_neg (nI_ge hlt (by omega)), if_neg (nI_ge (by omega) (by decide)), nI_1, pz_cellOf (by omega) (by decide), fl_bd_some, pz_ck (by omega) (by decide), nI_clamp (by omega)]
        refine ⟨_, V - 1 - (t + 1), rfl, by omega, t + 1, _, rfl, by omega, rfl, fun v hv => ?_, fun v hv => ?_⟩
        · by_cases q : v = t
          · subst q; rw [pz_updS, h6 (v + 1) (by omega), h4 (v + 1) (by omega)]
          · rw [pz_updN q]; exact h5 v (by omega)
        · rw [pz_updN (by omega)]; exact h6 v (by omega)
      · right
        obtain rfl : t = V - 1 := by omega
        rw [if_pos (nI_le (Nat.le_refl _) (by omega))]
        unfold P_Sg_dropVerse_J95
        dsimp only
        rw [h1, pk_sub hl, ev]
        exact ⟨_, rfl, b, rfl, h5⟩)
    unfold P_Sg_dropVerse_J52
    obtain ⟨r, e, b, rfl, h5⟩ := h (V - 1) (nI 0, a, g.2.1, g.2.2.1, g.2.2.2.1, g.2.2.2.2.1, g.2.2.2.2.2.1, g.2.2.2.2.2.2.1, g.2.2.2.2.2.2.2) ⟨0, g.2.1, rfl, Nat.zero_le _, rfl, fun v hv => by omega, fun v _ => rfl⟩
    exact ⟨b, e, h5⟩
  have h := fl_loop_inv (b := P_Sg_dropVerse_L11 (nI l)) (fun n z => ∃ t a, z = (nI t, a, g.2.1, g.2.2.1, g.2.2.2.1, g.2.2.2.2.1, g.2.2.2.2.2.1, g.2.2.2.2.2.2.1, g.2.2.2.2.2.2.2) ∧ t ≤ N - l ∧ n = N - l - t ∧ (∀ i, i < t → a i = c (i + l)) ∧ ∀ i, t ≤ i → a i = g.1 i) (fun r => ∃ a b, r = (a, b, nI (N - l), nI (V - 1), g.2.2.2.2.1, g.2.2.2.2.2.1 + nI l, g.2.2.2.2.2.2.1, g.2.2.2.2.2.2.2) ∧ (∀ i, i < N - l → a i = c (i + l)) ∧ ∀ v, v < V - 1 → b v = nI (len (v + 1))) (by
    rintro n z ⟨t, a, rfl, ht, rfl, h5, h6⟩
    unfold P_Sg_dropVerse_L11
    dsimp only
    have ev : g.2.2.1 - nI l = nI (N - l) := by rw [h1]; exact pk_sub hl
    rw [ev]
    by_cases hlt : t < N - l
    · left
      rw [if_neg (nI_ge hlt (by omega)), if_neg (nI_ge (by omega) (by decide)), nI_add, pz_cellOf (by omega) (by decide), fl_bd_some, pz_ck (by omega) (by decide), nI_clamp (by omega), nI_1]
      refine ⟨_, N - l - (t + 1), rfl, by omega, t + 1, _, rfl, by omega, rfl, fun i hi => ?_, fun i hi => ?_⟩
      · by_cases q : i = t
        · subst q; rw [pz_updS, h6 (i + l) (by omega), h3 (i + l) (by omega)]
        · rw [pz_updN q]; exact h5 i (by omega)
      · rw [pz_updN (by omega)]; exact h6 i (by omega)
    · right
      obtain rfl : t = N - l := by omega
      rw [if_pos (nI_le (Nat.le_refl _) (by omega))]
      obtain ⟨b, e, h7⟩ := hJ a
      rw [e]
      exact ⟨_, rfl, a, b, rfl, h5, h7⟩)
  unfold P_Sg_dropVerse
  rw [pz_n0, pz_cellOf (by omega) (by decide), fl_bd_some, h4 0 hV, hld]
  obtain ⟨r, e, a, b, rfl, h5, h6⟩ := h (N - l) (nI 0, g) ⟨0, g.1, rfl, Nat.zero_le _, rfl, fun i hi => by omega, fun i _ => rfl⟩
  exact ⟨a, b, e, h5, h6⟩
/-- the model's row after dropping its first verse -/
theorem pz_M_drop {f : fl_A} {N V : Nat} {c : Nat → Int32} {len : Nat → Nat} (hf : pz_SF f N V c len) (hN : N ≤ 60) (hV : 0 < V) (hV2 : V ≤ 60) (hl : len 0 ≤ N) : ∃ r, P_M_drop f = some r ∧ pz_SF r (N - len 0) (V - 1) (fun i => c (i + len 0)) (fun v => len (v + 1)) ∧ r 2 = f 2 ∧ r 3 = f 3 + nI (len 0) ∧ r 4 = f 4 ∧ r 5 = f 5 := by
  obtain ⟨h1, h2, h3, h4⟩ := hf
  have h6 : f 6 = nI (len 0) := h4 0 hV
  generalize hld : len 0 = l at hl h6 ⊢
  obtain ⟨q1, e1, a1, b1⟩ := pz_copyS (A := 126) (s := 66 + l) (d := 66) (n := N - l) (f := f) (by decide) (by omega) (by omega)
  obtain ⟨q2, e2, a2, b2⟩ := pz_copyS (A := 126) (s := 7) (d := 6) (n := V - 1) (f := q1) (by decide) (by omega) (by omega)
  have x1 : q1 1 = nI V := by rw [b1 1 (by omega), h2]
  have y0 : q2 0 = nI N := by rw [b2 0 (by omega), b1 0 (by omega), h1]
  have y1 : q2 1 = nI V := by rw [b2 1 (by omega), x1]
  have y2 : q2 2 = f 2 := by rw [b2 2 (by omega), b1 2 (by omega)]
  have y3 : q2 3 = f 3 := by rw [b2 3 (by omega), b1 3 (by omega)]
  have y4 : q2 4 = f 4 := by rw [b2 4 (by omega), b1 4 (by omega)]
  have y5 : q2 5 = f 5 := by rw [b2 5 (by omega), b1 5 (by omega)]
  unfold P_M_drop
  rw [pz_ck6, pz_ck0, pz_c0, pz_c1, pz_c3, pz_c6, h6, h1, pz_66, pk_sub hl, show (66 : Int32) = nI 66 from rfl, e1, fl_bd_some, pz_ck1, x1, show nI V - (1 : Int32) = nI (V - 1) from pk_sub (b := 1) (by omega), show (7 : Int32) = nI 7 from rfl, show (6 : Int32) = nI 6 from rfl, e2, fl_bd_some, pz_ck0, pz_ck0, pz_ck1, pz_ck1, pz_ck3, pz_ck3]
  refine ⟨_, rfl, ⟨?_, ?_, fun i hi => ?_, fun v hv => ?_⟩, ?_, ?_, ?_, ?_⟩
  · rw [pz_updN (by decide), pz_updN (by decide), pz_updS, y0, pk_sub hl]
  · rw [pz_updN (by decide), pz_updS, pz_updN (by decide), y1]; exact pk_sub (b := 1) (by omega)
  · rw [pz_updN (by omega), pz_updN (by omega), pz_updN (by omega), b2 _ (by omega), a1 i hi]
    rw [show 66 + l + i = 66 + (i + l) by omega, h3 (i + l) (by omega)]
  · rw [pz_updN (by omega), pz_updN (by omega), pz_updN (by omega), a2 v hv, b1 _ (by omega), show 7 + v = 6 + (v + 1) by omega, h4 (v + 1) (by omega)]
  · rw [pz_updN (by decide), pz_updN (by decide), pz_updN (by decide), y2]
  · rw [pz_updS, pz_updN (by decide), pz_updN (by decide), y3]
  · rw [pz_updN (by decide), pz_updN (by decide), pz_updN (by decide), y4]
  · rw [pz_updN (by decide), pz_updN (by decide), pz_updN (by decide), y5]
