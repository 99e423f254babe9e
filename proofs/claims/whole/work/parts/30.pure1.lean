/-! PLAIN LEAN: loops, small numbers, counting -/
theorem fl_loop_inv {σ ρ : Type} {b : σ → Option (σ ⊕ ρ)} (I : Nat → σ → Prop) (R : ρ → Prop)
    (h : ∀ n s, I n s → (∃ s' n', b s = some (.inl s') ∧ n' < n ∧ I n' s') ∨ (∃ r, b s = some (.inr r) ∧ R r)) :
    ∀ n s, I n s → ∃ r, fl_loop b s = some r ∧ R r := by
  intro n
  induction n using Nat.strongRecOn with
  | ind n ih =>
    intro s hs
    rcases h n s hs with ⟨s', n', e, hn, hi⟩ | ⟨r, e, hr⟩
    · rw [fl_loop_inl e]; exact ih n' hn s' hi
    · exact ⟨r, fl_loop_inr e, hr⟩
theorem pz_ck {α : Type} {i n : Nat} {k : Option α} (h : i < n) (hn : n < 2 ^ 31) : fl_ck (nI i) n k = k := fl_ck_in (vp_in_nI h hn)
theorem pz_n0 : (0 : Int32) = nI 0 := rfl
theorem pz_n1 : (1 : Int32) = nI 1 := rfl
theorem pz_n2 : (2 : Int32) = nI 2 := rfl
theorem pz_n3 : (3 : Int32) = nI 3 := rfl
theorem pz_n4 : (4 : Int32) = nI 4 := rfl
theorem pz_n5 : (5 : Int32) = nI 5 := rfl
theorem pz_n6 : (6 : Int32) = nI 6 := rfl
theorem pz_n7 : (7 : Int32) = nI 7 := rfl
theorem pz_n8 : (8 : Int32) = nI 8 := rfl
theorem pz_n9 : (9 : Int32) = nI 9 := rfl
theorem pz_n12 : (12 : Int32) = nI 12 := rfl
theorem pz_n14 : (14 : Int32) = nI 14 := rfl
theorem pz_n40 : (40 : Int32) = nI 40 := rfl
theorem pz_n48 : (48 : Int32) = nI 48 := rfl
theorem pz_n66 : (66 : Int32) = nI 66 := rfl
theorem pz_n97 : (97 : Int32) = nI 97 := rfl
theorem pz_n105 : (105 : Int32) = nI 105 := rfl
theorem pz_n126 : (126 : Int32) = nI 126 := rfl
theorem pz_updS {f : Nat → Int32} {i : Nat} {v : Int32} : upd f i v i = v := by unfold upd; exact if_pos rfl
theorem pz_updN {f : Nat → Int32} {i j : Nat} {v : Int32} (h : j ≠ i) : upd f i v j = f j := by unfold upd; exact if_neg h
/-- the row f holds the numbers n below N -/
def pz_row (f : Nat → Int32) (n : Nat → Nat) (N : Nat) : Prop := ∀ i, i < N → f i = nI (n i)
-- ===== counting below b, from a =====
def pz_cnt (P : Nat → Bool) (a : Nat) : Nat → Nat
  | 0 => 0
  | b + 1 => if a ≤ b ∧ P b = true then pz_cnt P a b + 1 else pz_cnt P a b
def pz_max (P : Nat → Bool) (v : Nat → Nat) (a : Nat) : Nat → Nat
  | 0 => 0
  | b + 1 => if a ≤ b ∧ P b = true then max (pz_max P v a b) (v b) else pz_max P v a b
theorem pz_cnt_empty {P : Nat → Bool} {a : Nat} : ∀ b, b ≤ a → pz_cnt P a b = 0 := by
  intro b
  induction b with
  | zero => intro _; rfl
  | succ b ih => intro h; rw [pz_cnt, if_neg (by omega)]; exact ih (by omega)
theorem pz_max_empty {P : Nat → Bool} {v : Nat → Nat} {a : Nat} : ∀ b, b ≤ a → pz_max P v a b = 0 := by
  intro b
  induction b with
  | zero => intro _; rfl
  | succ b ih => intro h; rw [pz_max, if_neg (by omega)]; exact ih (by omega)
theorem pz_cnt_t {P : Nat → Bool} {a b : Nat} (h : a ≤ b) (hp : P b = true) : pz_cnt P a (b + 1) = pz_cnt P a b + 1 := by rw [pz_cnt, if_pos ⟨h, hp⟩]
theorem pz_cnt_f {P : Nat → Bool} {a b : Nat} (h : ¬ (a ≤ b ∧ P b = true)) : pz_cnt P a (b + 1) = pz_cnt P a b := by rw [pz_cnt, if_neg h]
theorem pz_max_t {P : Nat → Bool} {v : Nat → Nat} {a b : Nat} (h : a ≤ b) (hp : P b = true) : pz_max P v a (b + 1) = max (pz_max P v a b) (v b) := by rw [pz_max, if_pos ⟨h, hp⟩]
theorem pz_max_f {P : Nat → Bool} {v : Nat → Nat} {a b : Nat} (h : ¬ (a ≤ b ∧ P b = true)) : pz_max P v a (b + 1) = pz_max P v a b := by rw [pz_max, if_neg h]
theorem pz_cnt_low {P : Nat → Bool} {a : Nat} : ∀ b, a < b → pz_cnt P a b = pz_cnt P (a + 1) b + (if P a = true then 1 else 0) := by
  intro b
  induction b with
  | zero => intro h; omega
  | succ b ih =>
    intro h
    rcases Nat.lt_or_ge a b with q | q
    · have ih := ih q
      by_cases hp : P b = true
      · rw [pz_cnt_t (by omega) hp, pz_cnt_t (by omega) hp, ih]; omega
      · rw [pz_cnt_f (fun z => hp z.2), pz_cnt_f (fun z => hp z.2), ih]
    · obtain rfl : a = b := by omega
      by_cases hp : P a = true
      · rw [pz_cnt_t (by omega) hp, pz_cnt_empty a (Nat.le_refl _), pz_cnt_empty (a + 1) (by omega), if_pos hp]
      · rw [pz_cnt_f (fun z => hp z.2), pz_cnt_empty a (Nat.le_refl _), pz_cnt_empty (a + 1) (by omega), if_neg hp]
theorem pz_max_low {P : Nat → Bool} {v : Nat → Nat} {a : Nat} : ∀ b, a < b → pz_max P v a b = max (pz_max P v (a + 1) b) (if P a = true then v a else 0) := by
  intro b
  induction b with
  | zero => intro h; omega
  | succ b ih =>
    intro h
    rcases Nat.lt_or_ge a b with q | q
    · have ih := ih q
      by_cases hp : P b = true
      · rw [pz_max_t (by omega) hp, pz_max_t (by omega) hp, ih]; omega
      · rw [pz_max_f (fun z => hp z.2), pz_max_f (fun z => hp z.2), ih]
    · obtain rfl : a = b := by omega
      by_cases hp : P a = true
      · rw [pz_max_t (by omega) hp, pz_max_empty a (Nat.le_refl _), pz_max_empty (a + 1) (by omega), if_pos hp]
      · rw [pz_max_f (fun z => hp z.2), pz_max_empty a (Nat.le_refl _), pz_max_empty (a + 1) (by omega), if_neg hp]; rfl
theorem pz_cnt_le {P : Nat → Bool} {a : Nat} : ∀ b, pz_cnt P a b ≤ b - a := by
  intro b
  induction b with
  | zero => exact Nat.zero_le _
  | succ b ih => rw [pz_cnt]; split <;> omega
theorem pz_max_le {P : Nat → Bool} {v : Nat → Nat} {a m : Nat} : ∀ b, (∀ i, a ≤ i → i < b → P i = true → v i ≤ m) → pz_max P v a b ≤ m := by
  intro b
  induction b with
  | zero => intro _; exact Nat.zero_le _
  | succ b ih =>
    intro h
    have h1 := ih (fun i h1 h2 => h i h1 (by omega))
    rw [pz_max]
    split
    · next q => exact Nat.max_le.mpr ⟨h1, h b q.1 (by omega) q.2⟩
    · exact h1
theorem pz_max_ge {P : Nat → Bool} {v : Nat → Nat} {a : Nat} : ∀ b i, a ≤ i → i < b → P i = true → v i ≤ pz_max P v a b := by
  intro b
  induction b with
  | zero => intro i _ h; omega
  | succ b ih =>
    intro i h1 h2 h3
    rw [pz_max]
    rcases Nat.lt_or_ge i b with q | q
    · have := ih i h1 q h3
      split <;> omega
    · obtain rfl : i = b := by omega
      rw [if_pos ⟨h1, h3⟩]; omega
theorem pz_max_ex {P : Nat → Bool} {v : Nat → Nat} {a : Nat} : ∀ b, pz_max P v a b = 0 ∨ ∃ i, a ≤ i ∧ i < b ∧ P i = true ∧ pz_max P v a b = v i := by
  intro b
  induction b with
  | zero => exact Or.inl rfl
  | succ b ih =>
    rw [pz_max]
    split
    · next q =>
      rcases Nat.lt_or_ge (v b) (pz_max P v a b) with z | z
      · rw [Nat.max_eq_left (by omega)]
        rcases ih with e | ⟨i, h1, h2, h3, h4⟩
        · omega
        · exact Or.inr ⟨i, h1, by omega, h3, h4⟩
      · rw [Nat.max_eq_right z]
        exact Or.inr ⟨b, q.1, by omega, q.2, rfl⟩
    · rcases ih with e | ⟨i, h1, h2, h3, h4⟩
      · exact Or.inl e
      · exact Or.inr ⟨i, h1, by omega, h3, h4⟩
theorem pz_cnt_congr {P Q : Nat → Bool} {a : Nat} : ∀ b, (∀ i, a ≤ i → i < b → P i = Q i) → pz_cnt P a b = pz_cnt Q a b := by
  intro b
  induction b with
  | zero => intro _; rfl
  | succ b ih =>
    intro h
    have h1 := ih (fun i h1 h2 => h i h1 (by omega))
    rw [pz_cnt, pz_cnt, h1]
    by_cases q : a ≤ b
    · rw [h b q (by omega)]
    · rw [if_neg (fun z => q z.1), if_neg (fun z => q z.1)]
theorem pz_max_congr {P Q : Nat → Bool} {v w : Nat → Nat} {a : Nat} : ∀ b, (∀ i, a ≤ i → i < b → P i = Q i ∧ v i = w i) → pz_max P v a b = pz_max Q w a b := by
  intro b
  induction b with
  | zero => intro _; rfl
  | succ b ih =>
    intro h
    have h1 := ih (fun i h1 h2 => h i h1 (by omega))
    rw [pz_max, pz_max, h1]
    by_cases q : a ≤ b
    · rw [(h b q (by omega)).1, (h b q (by omega)).2]
    · rw [if_neg (fun z => q z.1), if_neg (fun z => q z.1)]
-- ===== how far two places go on alike =====
def pz_is (c : Nat → Int32) (N i j k : Nat) : Prop := (∀ t, t < k → i + t < N ∧ j + t < N ∧ c (i + t) = c (j + t)) ∧ ¬ (i + k < N ∧ j + k < N ∧ c (i + k) = c (j + k))
theorem pz_is_uniq {c : Nat → Int32} {N i j k k' : Nat} (h : pz_is c N i j k) (h' : pz_is c N i j k') : k = k' := by
  rcases Nat.lt_trichotomy k k' with q | q | q
  · exact absurd (h'.1 k q) h.2
  · exact q
  · exact absurd (h.1 k' q) h'.2
def pz_L (c : Nat → Int32) (N i j : Nat) : Nat :=
  if i < N ∧ j < N ∧ c i = c j then pz_L c N (i + 1) (j + 1) + 1 else 0
termination_by N - i
theorem pz_L_is (c : Nat → Int32) (N : Nat) : ∀ n i j, N - i ≤ n → pz_is c N i j (pz_L c N i j) := by
  intro n
  induction n with
  | zero =>
    intro i j h
    rw [pz_L, if_neg (by omega)]
    exact ⟨fun t ht => absurd ht (Nat.not_lt_zero _), fun z => by omega⟩
  | succ n ih =>
    intro i j h
    rw [pz_L]
    by_cases q : i < N ∧ j < N ∧ c i = c j
    · rw [if_pos q]
      have h1 := ih (i + 1) (j + 1) (by omega)
      refine ⟨fun t ht => ?_, ?_⟩
      · cases t with
        | zero => exact q
        | succ t =>
          have h2 := h1.1 t (by omega)
          rw [show i + (t + 1) = i + 1 + t by omega, show j + (t + 1) = j + 1 + t by omega]
          exact h2
      · rw [show i + (pz_L c N (i + 1) (j + 1) + 1) = i + 1 + pz_L c N (i + 1) (j + 1) by omega, show j + (pz_L c N (i + 1) (j + 1) + 1) = j + 1 + pz_L c N (i + 1) (j + 1) by omega]
        exact h1.2
    · rw [if_neg q]
      exact ⟨fun t ht => absurd ht (Nat.not_lt_zero _), q⟩
theorem pz_L_spec (c : Nat → Int32) (N i j : Nat) : pz_is c N i j (pz_L c N i j) := pz_L_is c N _ i j (Nat.le_refl _)
theorem pz_L_eq {c : Nat → Int32} {N i j k : Nat} (h : pz_is c N i j k) : pz_L c N i j = k := pz_is_uniq (pz_L_spec c N i j) h
theorem pz_is_symm {c : Nat → Int32} {N i j k : Nat} (h : pz_is c N i j k) : pz_is c N j i k := ⟨fun t ht => ⟨(h.1 t ht).2.1, (h.1 t ht).1, (h.1 t ht).2.2.symm⟩, fun z => h.2 ⟨z.2.1, z.1, z.2.2.symm⟩⟩
theorem pz_L_symm (c : Nat → Int32) (N i j : Nat) : pz_L c N i j = pz_L c N j i := pz_L_eq (pz_is_symm (pz_L_spec c N j i))
theorem pz_L_step (c : Nat → Int32) (N i j : Nat) : pz_L c N i j = if i < N ∧ j < N ∧ c i = c j then pz_L c N (i + 1) (j + 1) + 1 else 0 := by rw [pz_L]
theorem pz_L_le {c : Nat → Int32} {N i j : Nat} (hi : i ≤ N) (hj : j ≤ N) : i + pz_L c N i j ≤ N ∧ j + pz_L c N i j ≤ N := by
  have h := (pz_L_spec c N i j).1
  cases hk : pz_L c N i j with
  | zero => exact ⟨by omega, by omega⟩
  | succ k =>
    have := h k (by omega)
    exact ⟨by omega, by omega⟩
theorem pz_L_self {c : Nat → Int32} {N i : Nat} (hi : i ≤ N) : pz_L c N i i = N - i := pz_L_eq ⟨fun t ht => ⟨by omega, by omega, rfl⟩, fun z => by omega⟩
/-- place i stands ahead of place j -/
def pz_A (c : Nat → Int32) (N i j : Nat) : Prop := i ≠ j ∧ (i + pz_L c N i j = N ∨ (i + pz_L c N i j < N ∧ j + pz_L c N i j < N ∧ c (i + pz_L c N i j) < c (j + pz_L c N i j)))
def pz_a (c : Nat → Int32) (N i j : Nat) : Bool := decide (i ≠ j) && (decide (i + pz_L c N i j = N) || (decide (i + pz_L c N i j < N) && decide (j + pz_L c N i j < N) && decide (c (i + pz_L c N i j) < c (j + pz_L c N i j))))
theorem pz_a_iff {c : Nat → Int32} {N i j : Nat} : pz_a c N i j = true ↔ pz_A c N i j := by
  unfold pz_a pz_A
  simp only [Bool.and_eq_true, Bool.or_eq_true, decide_eq_true_eq, and_assoc]
theorem pz_lt_asymm {x y : Int32} (h : x < y) : ¬ y < x := by
  rw [Int32.lt_iff_toInt_lt] at h ⊢; omega
theorem pz_lt_trans {x y z : Int32} (h : x < y) (h' : y < z) : x < z := by
  rw [Int32.lt_iff_toInt_lt] at h h' ⊢; omega
theorem pz_lt_ne {x y : Int32} (h : x < y) : x ≠ y := by
  rintro rfl
  exact pz_lt_asymm h h
theorem pz_lt_or {x y : Int32} (h : x ≠ y) : x < y ∨ y < x := by
  rw [Int32.lt_iff_toInt_lt, Int32.lt_iff_toInt_lt]
  have : x.toInt ≠ y.toInt := fun z => h (Int32.toInt_inj.mp z)
  omega
theorem pz_A_tot {c : Nat → Int32} {N i j : Nat} (hi : i < N) (hj : j < N) (hne : i ≠ j) : pz_A c N i j ∨ pz_A c N j i := by
  have h := pz_L_le (c := c) (Nat.le_of_lt hi) (Nat.le_of_lt hj)
  have h2 := (pz_L_spec c N i j).2
  unfold pz_A
  rw [pz_L_symm c N j i]
  by_cases e1 : i + pz_L c N i j = N
  · exact Or.inl ⟨hne, Or.inl e1⟩
  · by_cases e2 : j + pz_L c N i j = N
    · exact Or.inr ⟨Ne.symm hne, Or.inl e2⟩
    · have h3 : c (i + pz_L c N i j) ≠ c (j + pz_L c N i j) := fun z => h2 ⟨by omega, by omega, z⟩
      rcases pz_lt_or h3 with q | q
      · exact Or.inl ⟨hne, Or.inr ⟨by omega, by omega, q⟩⟩
      · exact Or.inr ⟨Ne.symm hne, Or.inr ⟨by omega, by omega, q⟩⟩
theorem pz_A_asymm {c : Nat → Int32} {N i j : Nat} (h : pz_A c N i j) : ¬ pz_A c N j i := by
  intro h'
  unfold pz_A at h h'
  rw [pz_L_symm c N j i] at h'
  obtain ⟨h1, h2⟩ := h
  obtain ⟨-, h4⟩ := h'
  rcases h2 with e | ⟨e1, e2, e3⟩ <;> rcases h4 with e' | ⟨e1', e2', e3'⟩
  · omega
  · omega
  · omega
  · exact pz_lt_asymm e3 e3'
/-- three places in order: the outer two share what both neighbours share -/
theorem pz_A_trans {c : Nat → Int32} {N i j k : Nat} (h1 : pz_A c N i j) (h2 : pz_A c N j k) : pz_A c N i k ∧ pz_L c N i k = min (pz_L c N i j) (pz_L c N j k) := by
  have s1 := pz_L_spec c N i j
  have s2 := pz_L_spec c N j k
  obtain ⟨n1, h1⟩ := h1
  obtain ⟨n2, h2⟩ := h2
  generalize pz_L c N i j = a at s1 h1 ⊢
  generalize pz_L c N j k = b at s2 h2 ⊢
  suffices h : pz_is c N i k (min a b) ∧ i ≠ k ∧ (i + min a b = N ∨ (i + min a b < N ∧ k + min a b < N ∧ c (i + min a b) < c (k + min a b))) by
    have e := pz_L_eq h.1
    exact ⟨⟨h.2.1, by rw [e]; exact h.2.2⟩, e⟩
  have hag : ∀ t, t < min a b → i + t < N ∧ k + t < N ∧ c (i + t) = c (k + t) := fun t ht => ⟨(s1.1 t (by omega)).1, (s2.1 t (by omega)).2.1, (s1.1 t (by omega)).2.2.trans (s2.1 t (by omega)).2.2⟩
  rcases Nat.lt_trichotomy a b with q | q | q
  · rw [Nat.min_eq_left (by omega)] at hag ⊢
    obtain ⟨g1, g2, g3⟩ := s2.1 a q
    rcases h1 with e | ⟨e1, e2, e3⟩
    · exact ⟨⟨hag, fun z => by omega⟩, fun z => by omega, Or.inl e⟩
    · rw [g3] at e3
      exact ⟨⟨hag, fun z => pz_lt_ne e3 z.2.2⟩, fun z => by subst z; exact pz_lt_ne e3 rfl, Or.inr ⟨e1, g2, e3⟩⟩
  · subst q
    rw [Nat.min_self] at hag ⊢
    rcases h1 with e | ⟨e1, e2, e3⟩
    · refine ⟨⟨hag, fun z => by omega⟩, fun z => ?_, Or.inl e⟩
      subst z
      rcases h2 with e' | ⟨e1', e2', e3'⟩ <;> omega
    · rcases h2 with e' | ⟨e1', e2', e3'⟩
      · omega
      · have e4 := pz_lt_trans e3 e3'
        exact ⟨⟨hag, fun z => pz_lt_ne e4 z.2.2⟩, fun z => by subst z; exact pz_lt_ne e4 rfl, Or.inr ⟨e1, e2', e4⟩⟩
  · rw [Nat.min_eq_right (by omega)] at hag ⊢
    obtain ⟨g1, g2, g3⟩ := s1.1 b q
    rcases h2 with e | ⟨e1, e2, e3⟩
    · omega
    · rw [← g3] at e3
      exact ⟨⟨hag, fun z => pz_lt_ne e3 z.2.2⟩, fun z => by subst z; exact pz_lt_ne e3 rfl, Or.inr ⟨g1, e2, e3⟩⟩
/-- how many places stand ahead of place i -/
def pz_rk (c : Nat → Int32) (N i : Nat) : Nat := pz_cnt (fun j => pz_a c N j i) 0 N
/-- the most that a place ahead of i shares with it; that any other place shares with it -/
def pz_sh (c : Nat → Int32) (N i : Nat) : Nat := pz_max (fun j => pz_a c N j i) (fun j => pz_L c N j i) 0 N
def pz_rp (c : Nat → Int32) (N i : Nat) : Nat := pz_max (fun j => decide (j ≠ i)) (fun j => pz_L c N j i) 0 N
