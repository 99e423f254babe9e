/-! VERSES AND RANGES, on both sides -/
theorem pz_cmp_lt (a b : Int64) : lg_cmp a b < 0 ↔ a < b := by
  unfold lg_cmp
  by_cases h1 : b < a
  · rw [if_pos h1]
    refine ⟨fun z => absurd z (by decide), fun z => ?_⟩
    rw [Int64.lt_iff_toInt_lt] at h1 z
    omega
  · rw [if_neg h1]
    by_cases h2 : a = b
    · rw [if_pos h2]
      refine ⟨fun z => absurd z (by decide), fun z => ?_⟩
      subst h2
      exact absurd z h1
    · rw [if_neg h2]
      refine ⟨fun _ => ?_, fun _ => by decide⟩
      have h3 : a.toInt ≠ b.toInt := fun z => h2 (Int64.toInt_inj.mp z)
      rw [Int64.lt_iff_toInt_lt] at h1 ⊢
      omega
theorem pz_cmp_gt (a b : Int64) : 0 < lg_cmp a b ↔ b < a := by
  unfold lg_cmp
  by_cases h1 : b < a
  · rw [if_pos h1]
    exact ⟨fun _ => h1, fun _ => by decide⟩
  · rw [if_neg h1]
    by_cases h2 : a = b
    · rw [if_pos h2]
      exact ⟨fun z => absurd z (by decide), fun z => absurd z h1⟩
    · rw [if_neg h2]
      exact ⟨fun z => absurd z (by decide), fun z => absurd z h1⟩
theorem pz_lt64 (x y : Int32) : x.toInt64 < y.toInt64 ↔ x < y := by
  rw [Int64.lt_iff_toInt_lt, Int32.lt_iff_toInt_lt, Int32.toInt_toInt64, Int32.toInt_toInt64]
/-- the model's question: does x lie from lo to hi -/
theorem pz_in_no {x lo hi : Int32} (h : x < lo ∨ hi < x) : P_M_in x.toInt64 lo.toInt64 hi.toInt64 = some 0 := by
  unfold P_M_in
  by_cases h1 : x < lo
  · rw [if_pos ((pz_cmp_lt _ _).mpr ((pz_lt64 _ _).mpr h1))]
  · rw [if_neg (fun z => h1 ((pz_lt64 _ _).mp ((pz_cmp_lt _ _).mp z))), if_pos ((pz_cmp_gt _ _).mpr ((pz_lt64 _ _).mpr (h.resolve_left h1)))]
theorem pz_in_yes {x lo hi : Int32} (h1 : ¬ x < lo) (h2 : ¬ hi < x) : P_M_in x.toInt64 lo.toInt64 hi.toInt64 = some 1 := by
  unfold P_M_in
  rw [if_neg (fun z => h1 ((pz_lt64 _ _).mp ((pz_cmp_lt _ _).mp z))), if_neg (fun z => h2 ((pz_lt64 _ _).mp ((pz_cmp_gt _ _).mp z)))]
theorem pz_startOf {g : fl_Sg} {N V p : Nat} {c : Nat → Int32} {len : Nat → Nat} (hg : pz_SG g N V c len) (hV : V ≤ 48) (hp : p ≤ V) : P_Sg_startOf g (nI p) = some (nI (pz_sum len p)) := by
  have h := fl_loop_inv (b := P_Sg_startOf_L4 g (nI p)) (fun n z => ∃ t, z.2 = nI t ∧ t ≤ p ∧ n = p - t ∧ z.1 = nI (pz_sum len t)) (fun r => r = nI (pz_sum len p)) (by
    rintro n ⟨z1, z2⟩ ⟨t, rfl, ht, rfl, rfl⟩
    unfold P_Sg_startOf_L4
    dsimp only
    by_cases hlt : t < p
    · left
      rw [if_neg (nI_ge hlt (by omega)), hg.2.1, if_neg (nI_ge (by omega) (by omega)), pz_cellOf (by omega) (by decide), fl_bd_some, hg.2.2.2 t (by omega), nI_add, nI_1]
      exact ⟨_, p - (t + 1), rfl, by omega, t + 1, rfl, by omega, rfl, rfl⟩
    · right
      obtain rfl : t = p := by omega
      rw [if_pos (nI_le (Nat.le_refl _) (by omega))]
      exact ⟨_, rfl, rfl⟩)
  obtain ⟨r, e, rfl⟩ := h p (nI 0, nI 0) ⟨0, rfl, Nat.zero_le _, rfl, rfl⟩
  exact e
theorem pz_beginOf {f : fl_A} {N V p : Nat} {c : Nat → Int32} {len : Nat → Nat} (hf : pz_SF f N V c len) (hV : V ≤ 60) (hp : p ≤ V) : P_M_beginOf f (nI p) = some (nI (pz_sum len p)) := by
  have h := fl_loop_inv (b := P_M_beginOf_L4 f (nI p)) (fun n z => ∃ t, z.2 = nI t ∧ t ≤ p ∧ n = p - t ∧ z.1 = nI (pz_sum len t)) (fun r => r = nI (pz_sum len p)) (by
    rintro n ⟨z1, z2⟩ ⟨t, rfl, ht, rfl, rfl⟩
    unfold P_M_beginOf_L4
    dsimp only
    by_cases hlt : t < p
    · left
      rw [if_neg (nI_ge hlt (by omega)), pz_6, pz_ck (by omega) (by decide), nI_clamp (by omega), hf.2.2.2 t (by omega), nI_add, nI_1]
      exact ⟨_, p - (t + 1), rfl, by omega, t + 1, rfl, by omega, rfl, rfl⟩
    · right
      obtain rfl : t = p := by omega
      rw [if_pos (nI_le (Nat.le_refl _) (by omega))]
      exact ⟨_, rfl, rfl⟩)
  obtain ⟨r, e, rfl⟩ := h p (nI 0, nI 0) ⟨0, rfl, Nat.zero_le _, rfl, rfl⟩
  exact e
theorem pz_hasVerse {g : fl_Sg} {N V p : Nat} {c : Nat → Int32} {len : Nat → Nat} (hg : pz_SG g N V c len) (hV : V ≤ 48) (hp : p < V) : P_Sg_hasVerse g (nI p) = some 1 := by
  unfold P_Sg_hasVerse
  rw [if_neg (nI_pos (by omega)), hg.2.1, if_neg (nI_ge hp (by omega))]
theorem pz_lengthOf {g : fl_Sg} {N V p : Nat} {c : Nat → Int32} {len : Nat → Nat} (hg : pz_SG g N V c len) (hV : V ≤ 48) (hp : p < V) : P_Sg_lengthOf g (nI p) = some (nI (len p)) := by
  unfold P_Sg_lengthOf
  rw [pz_hasVerse hg hV hp, fl_bd_some, if_neg (by decide), pz_cellOf (by omega) (by decide), fl_bd_some, hg.2.2.2 p hp]
/-- place i lies in verse v -/
def pz_VA (len : Nat → Nat) (V i v : Nat) : Prop := v < V ∧ pz_sum len v ≤ i ∧ i < pz_sum len (v + 1)
theorem pz_VA_uniq {len : Nat → Nat} {V i v v' : Nat} (h : pz_VA len V i v) (h' : pz_VA len V i v') : v = v' := by
  rcases Nat.lt_trichotomy v v' with q | q | q
  · have := pz_sum_mono (g := len) (a := v + 1) v' (by omega)
    have h1 := h.2.2; have h2 := h'.2.1; omega
  · exact q
  · have := pz_sum_mono (g := len) (a := v' + 1) v (by omega)
    have h1 := h'.2.2; have h2 := h.2.1; omega
theorem pz_Sg_verseAt {g : fl_Sg} {N V i : Nat} {c : Nat → Int32} {len : Nat → Nat} (hg : pz_SG g N V c len) (hs : pz_sum len V = N) (hN : N ≤ 48) (hV : V ≤ 48) (hi : i < N) : ∃ v, P_Sg_verseAt g (nI i) = some (nI v) ∧ pz_VA len V i v := by
  have h := fl_loop_inv (b := P_Sg_verseAt_L4 g (nI i)) (fun n z => ∃ t, z.2 = nI t ∧ t ≤ V ∧ n = V - t ∧ z.1 = nI (pz_sum len t) ∧ pz_sum len t ≤ i) (fun r => ∃ v, r = nI v ∧ pz_VA len V i v) (by
    rintro n ⟨z1, z2⟩ ⟨t, rfl, ht, rfl, rfl, h1⟩
    unfold P_Sg_verseAt_L4
    dsimp only
    have hlt : t < V := by
      rcases Nat.lt_or_ge t V with y | y
      · exact y
      · rw [show t = V by omega, hs] at h1; omega
    have hm := pz_sum_mono (g := len) (a := t + 1) V (by omega)
    have hse : pz_sum len (t + 1) = pz_sum len t + len t := rfl
    rw [hg.2.1, if_neg (nI_ge hlt (by omega)), pz_cellOf (by omega) (by decide), fl_bd_some, hg.2.2.2 t hlt, nI_add]
    by_cases q : pz_sum len t + len t ≤ i
    · left
      rw [if_pos (nI_le q (by omega)), nI_1]
      exact ⟨_, V - (t + 1), rfl, by omega, t + 1, rfl, by omega, rfl, rfl, q⟩
    · right
      rw [if_neg (nI_ge (by omega) (by omega))]
      exact ⟨_, rfl, t, rfl, hlt, h1, by omega⟩)
  unfold P_Sg_verseAt
  obtain ⟨r, e, v, rfl, hv⟩ := h V (nI 0, nI 0) ⟨0, rfl, Nat.zero_le _, rfl, rfl, Nat.zero_le _⟩
  exact ⟨v, e, hv⟩
theorem pz_M_verseAt {f : fl_A} {N V i : Nat} {c : Nat → Int32} {len : Nat → Nat} (hf : pz_SF f N V c len) (hs : pz_sum len V = N) (hN : N ≤ 48) (hV : V ≤ 48) (hi : i < N) : ∃ v, P_M_verseAt f (nI i) = some (nI v) ∧ pz_VA len V i v := by
  have h := fl_loop_inv (b := P_M_verseAt_L2 f (nI i)) (fun n z => ∃ t, z = nI t ∧ t ≤ V ∧ n = V - t ∧ pz_sum len t ≤ i) (fun r => ∃ v, r = nI v ∧ pz_VA len V i v) (by
    rintro n z ⟨t, rfl, ht, rfl, h1⟩
    unfold P_M_verseAt_L2
    have hlt : t < V := by
      rcases Nat.lt_or_ge t V with y | y
      · exact y
      · rw [show t = V by omega, hs] at h1; omega
    have hm := pz_sum_mono (g := len) (a := t + 1) V (by omega)
    rw [nI_1, pz_beginOf hf (by omega) (by omega), fl_bd_some]
    by_cases q : i < pz_sum len (t + 1)
    · right
      rw [if_pos (nI_lt q (by omega))]
      exact ⟨_, rfl, t, rfl, hlt, h1, q⟩
    · left
      rw [if_neg (nI_nlt (by omega) (by omega))]
      exact ⟨_, V - (t + 1), rfl, by omega, t + 1, rfl, by omega, rfl, by omega⟩)
  unfold P_M_verseAt
  obtain ⟨r, e, v, rfl, hv⟩ := h V (nI 0) ⟨0, rfl, Nat.zero_le _, rfl, Nat.zero_le _⟩
  exact ⟨v, e, hv⟩
