/-! THE MODEL'S ORDER OF THE PLACES -/
theorem pz_c0 : (0 : Int32).toNatClampNeg = 0 := by decide
theorem pz_c1 : (1 : Int32).toNatClampNeg = 1 := by decide
theorem pz_c2 : (2 : Int32).toNatClampNeg = 2 := by decide
theorem pz_c3 : (3 : Int32).toNatClampNeg = 3 := by decide
theorem pz_c4 : (4 : Int32).toNatClampNeg = 4 := by decide
theorem pz_c5 : (5 : Int32).toNatClampNeg = 5 := by decide
theorem pz_c6 : (6 : Int32).toNatClampNeg = 6 := by decide
theorem pz_ck0 {α : Type} {k : Option α} : fl_ck (0 : Int32) 126 k = k := pz_ck (i := 0) (by decide) (by decide)
theorem pz_ck1 {α : Type} {k : Option α} : fl_ck (1 : Int32) 126 k = k := pz_ck (i := 1) (by decide) (by decide)
theorem pz_ck2 {α : Type} {k : Option α} : fl_ck (2 : Int32) 126 k = k := pz_ck (i := 2) (by decide) (by decide)
theorem pz_ck3 {α : Type} {k : Option α} : fl_ck (3 : Int32) 126 k = k := pz_ck (i := 3) (by decide) (by decide)
theorem pz_ck4 {α : Type} {k : Option α} : fl_ck (4 : Int32) 126 k = k := pz_ck (i := 4) (by decide) (by decide)
theorem pz_ck5 {α : Type} {k : Option α} : fl_ck (5 : Int32) 126 k = k := pz_ck (i := 5) (by decide) (by decide)
theorem pz_ck6 {α : Type} {k : Option α} : fl_ck (6 : Int32) 126 k = k := pz_ck (i := 6) (by decide) (by decide)
theorem pz_66 (i : Nat) : (66 : Int32) + nI i = nI (66 + i) := nI_add 66 i
theorem pz_6 (i : Nat) : (6 : Int32) + nI i = nI (6 + i) := nI_add 6 i
/-- the codes of a model's row -/
def pz_c (f : fl_A) : fl_A := fun i => f (66 + i)
theorem pz_alike {f : fl_A} {N i j : Nat} (hN : N ≤ 60) (hf : f 0 = nI N) (hi : i ≤ N) (hj : j ≤ N) : P_M_alike f (nI i) (nI j) = some (nI (pz_L (pz_c f) N i j)) := by
  have h := fl_loop_inv (b := P_M_alike_L2 f (nI i) (nI j)) (fun n z => ∃ k, z = nI k ∧ k ≤ N ∧ n = N - k ∧ ∀ t, t < k → i + t < N ∧ j + t < N ∧ f (66 + (i + t)) = f (66 + (j + t))) (fun r => r = nI (pz_L (pz_c f) N i j)) (by
    rintro n z ⟨k, rfl, hk, rfl, hag⟩
    have hend : ¬ (i + k < N ∧ j + k < N ∧ f (66 + (i + k)) = f (66 + (j + k))) → nI k = nI (pz_L (pz_c f) N i j) := fun hz => by rw [pz_L_eq (k := k) ⟨hag, hz⟩]
    unfold P_M_alike_L2
    rw [pz_ck0, pz_c0, hf, nI_add, nI_add]
    by_cases h1 : N ≤ i + k
    · right
      rw [if_pos (nI_le h1 (by omega))]
      exact ⟨_, rfl, hend (by omega)⟩
    · rw [if_neg (nI_ge (by omega) (by omega)), pz_ck0]
      by_cases h2 : N ≤ j + k
      · right
        rw [if_pos (nI_le h2 (by omega))]
        exact ⟨_, rfl, hend (by omega)⟩
      · rw [if_neg (nI_ge (by omega) (by omega)), pz_66, pz_66, nI_add, nI_add, pz_ck (by omega) (by decide), pz_ck (by omega) (by decide), nI_clamp (by omega), nI_clamp (by omega), Nat.add_assoc, Nat.add_assoc]
        by_cases h3 : f (66 + (i + k)) = f (66 + (j + k))
        · left
          rw [if_pos h3, nI_1]
          refine ⟨_, N - (k + 1), rfl, by omega, k + 1, rfl, by omega, rfl, fun t ht => ?_⟩
          rcases Nat.lt_or_ge t k with q | q
          · exact hag t q
          · obtain rfl : t = k := by omega
            exact ⟨by omega, by omega, h3⟩
        · right
          rw [if_neg h3]
          exact ⟨_, rfl, hend (fun z => h3 z.2.2)⟩)
  obtain ⟨r, e, rfl⟩ := h N (nI 0) ⟨0, rfl, Nat.zero_le _, rfl, fun t ht => by omega⟩
  exact e
theorem pz_isAhead {f : fl_A} {N i j : Nat} (hN : N ≤ 60) (hf : f 0 = nI N) (hi : i < N) (hj : j < N) (hne : i ≠ j) : P_M_isAhead f (nI i) (nI j) = some (if pz_a (pz_c f) N i j = true then nI 1 else nI 0) := by
  have hle := pz_L_le (c := pz_c f) (show i ≤ N by omega) (show j ≤ N by omega)
  have hsp := (pz_L_spec (pz_c f) N i j).2
  unfold P_M_isAhead
  rw [pz_alike hN hf (by omega) (by omega), fl_bd_some, pz_ck0, pz_c0, hf]
  generalize hk : pz_L (pz_c f) N i j = k at hle hsp ⊢
  have hA : ∀ b : Bool, (pz_A (pz_c f) N i j ↔ b = true) → pz_a (pz_c f) N i j = b := fun b h => by
    cases b with
    | true => exact pz_a_iff.mpr (h.mpr rfl)
    | false => exact Bool.eq_false_iff.mpr (fun z => by have := h.mp (pz_a_iff.mp z); cases this)
  have hA2 : pz_A (pz_c f) N i j ↔ (i + k = N ∨ (i + k < N ∧ j + k < N ∧ pz_c f (i + k) < pz_c f (j + k))) := by
    unfold pz_A; rw [hk]; exact ⟨fun z => z.2, fun z => ⟨hne, z⟩⟩
  rw [nI_add, nI_add]
  by_cases h1 : i + k = N
  · rw [if_pos (by rw [h1]), hA true ⟨fun _ => rfl, fun _ => hA2.mpr (Or.inl h1)⟩, if_pos rfl]; rfl
  · rw [if_neg (fun z => h1 ((nI_eq (by omega) (by omega)).mp z)), pz_ck0]
    by_cases h2 : N ≤ j + k
    · rw [if_pos (nI_le h2 (by omega)), hA false ⟨fun z => by rcases hA2.mp z with q | q <;> omega, fun z => by cases z⟩]; rfl
    · rw [if_neg (nI_ge (by omega) (by omega)), pz_66, pz_66, nI_add, nI_add, pz_ck (by omega) (by decide), pz_ck (by omega) (by decide), nI_clamp (by omega), nI_clamp (by omega), Nat.add_assoc, Nat.add_assoc]
      have hne2 : f (66 + (i + k)) ≠ f (66 + (j + k)) := fun z => hsp ⟨by omega, by omega, z⟩
      by_cases h3 : f (66 + (j + k)) ≤ f (66 + (i + k))
      · rw [if_pos h3, hA false ⟨fun z => ?_, fun z => by cases z⟩]
        · rfl
        · rcases hA2.mp z with q | q
          · omega
          · have q := q.2.2
            unfold pz_c at q
            rw [Int32.lt_iff_toInt_lt] at q
            rw [Int32.le_iff_toInt_le] at h3
            omega
      · rw [if_neg h3, hA true ⟨fun _ => rfl, fun _ => hA2.mpr (Or.inr ⟨by omega, by omega, ?_⟩)⟩]
        · rfl
        · unfold pz_c
          rw [Int32.lt_iff_toInt_lt]
          rw [Int32.le_iff_toInt_le] at h3
          omega
/-- the rank among the first m places -/
def pz_rm (c : Nat → Int32) (N m i : Nat) : Nat := pz_cnt (fun u => pz_a c N u i) 0 m
theorem pz_rm_N (c : Nat → Int32) (N i : Nat) : pz_rm c N N i = pz_rk c N i := rfl
theorem pz_rm_lt {c : Nat → Int32} {N m i j : Nat} (hi : i < m) (h : pz_A c N i j) : pz_rm c N m i < pz_rm c N m j :=
  pz_cnt_lt (x := i) m (fun u _ _ hu => pz_a_iff.mpr (pz_A_trans (pz_a_iff.mp hu) h).1) (Nat.zero_le _) hi (pz_a_self c N i) (pz_a_iff.mpr h)
theorem pz_rm_le {c : Nat → Int32} {N m i j : Nat} (h : pz_A c N i j) : pz_rm c N m i ≤ pz_rm c N m j :=
  pz_cnt_mono m (fun u _ _ hu => pz_a_iff.mpr (pz_A_trans (pz_a_iff.mp hu) h).1)
theorem pz_rm_top (c : Nat → Int32) (N m i : Nat) : pz_rm c N m i ≤ m := by
  have := pz_cnt_le (P := fun u => pz_a c N u i) (a := 0) m
  unfold pz_rm; omega
theorem pz_rm_ltm {c : Nat → Int32} {N m i : Nat} (hi : i < m) : pz_rm c N m i < m := by
  have h := pz_cnt_lt (P := fun j => pz_a c N j i) (Q := fun _ => true) (a := 0) (x := i) m (fun _ _ _ _ => rfl) (Nat.zero_le _) hi (pz_a_self c N i) rfl
  have h2 := pz_cnt_le (P := fun _ => true) (a := 0) m
  unfold pz_rm
  omega
theorem pz_rm_iff {c : Nat → Int32} {N m i : Nat} (hi : i < m) (hm : m < N) : pz_A c N i m ↔ pz_rm c N m i < pz_rm c N m m := by
  refine ⟨fun h => pz_rm_lt hi h, fun h => ?_⟩
  rcases pz_A_tot (c := c) (show i < N by omega) hm (by omega) with q | q
  · exact q
  · have := pz_rm_le (m := m) q; omega
theorem pz_rm_succ {c : Nat → Int32} {N m i : Nat} (hi : i < m) (hm : m < N) : pz_rm c N (m + 1) i = if pz_rm c N m i < pz_rm c N m m then pz_rm c N m i else pz_rm c N m i + 1 := by
  by_cases h : pz_A c N i m
  · rw [if_pos (pz_rm_lt hi h)]
    exact pz_cnt_f (fun z => pz_A_asymm h (pz_a_iff.mp z.2))
  · rw [if_neg (fun z => h ((pz_rm_iff hi hm).mpr z))]
    rcases pz_A_tot (c := c) (show i < N by omega) hm (by omega) with q | q
    · exact absurd q h
    · exact pz_cnt_t (Nat.zero_le _) (pz_a_iff.mpr q)
theorem pz_rm_self {c : Nat → Int32} {N m : Nat} : pz_rm c N (m + 1) m = pz_rm c N m m := by
  unfold pz_rm
  exact pz_cnt_f (fun z => by rw [pz_a_self] at z; cases z.2)
theorem pz_rm_surj {c : Nat → Int32} {N : Nat} : ∀ m, m ≤ N → ∀ k, k < m → ∃ i, i < m ∧ pz_rm c N m i = k := by
  intro m
  induction m with
  | zero => intro _ k h; omega
  | succ m ih =>
    intro hm k hk
    have htop := pz_rm_top c N m m
    rcases Nat.lt_trichotomy k (pz_rm c N m m) with q | q | q
    · obtain ⟨i, h1, h2⟩ := ih (by omega) k (by omega)
      exact ⟨i, by omega, by rw [pz_rm_succ h1 (by omega), if_pos (by omega), h2]⟩
    · exact ⟨m, by omega, by rw [pz_rm_self, q]⟩
    · obtain ⟨i, h1, h2⟩ := ih (by omega) (k - 1) (by omega)
      exact ⟨i, by omega, by rw [pz_rm_succ h1 (by omega), if_neg (by omega), h2]; omega⟩
theorem pz_rk_surj {c : Nat → Int32} {N k : Nat} (hk : k < N) : ∃ i, i < N ∧ pz_rk c N i = k := pz_rm_surj N (Nat.le_refl _) k hk
/-- the model's two rows: the places in their order, the ranks of the places -/
def pz_MO (c : Nat → Int32) (N : Nat) (od rk : fl_A) : Prop := (∀ i, i < N → od (pz_rk c N i) = nI i) ∧ ∀ i, i < N → rk i = nI (pz_rk c N i)
theorem pz_lay {od rk f : fl_A} {N : Nat} (hN : N ≤ 60) (hf : f 0 = nI N) : ∃ r, P_M_lay od rk f = some r ∧ pz_MO (pz_c f) N r.1 r.2 := by
  generalize hc : pz_c f = c
  have hfin : ∀ od1 : fl_A, (∀ i, i < N → od1 (pz_rk c N i) = nI i) → ∃ r, P_M_lay_J64 od1 rk f = some r ∧ pz_MO c N r.1 r.2 := by
    intro od1 h1
    have hlp := fl_loop_inv (b := P_M_lay_L66 od1 f) (fun n z => ∃ t, z.1 = nI t ∧ t ≤ N ∧ n = N - t ∧ ∀ i, i < N → pz_rk c N i < t → z.2 i = nI (pz_rk c N i)) (fun r => pz_MO c N r.1 r.2) (by
      rintro n ⟨z, rk1⟩ ⟨t, rfl, ht, rfl, h2⟩
      dsimp only at h2
      unfold P_M_lay_L66
      dsimp only
      rw [pz_ck0, pz_c0, hf]
      by_cases hlt : t < N
      · left
        obtain ⟨i, hi, hr⟩ := pz_rk_surj (c := c) hlt
        have hodt : od1 t = nI i := by rw [← hr]; exact h1 i hi
        rw [if_neg (nI_ge hlt (by omega)), pz_ck (by omega) (by decide), nI_clamp (n := t) (by omega), hodt, pz_ck (by omega) (by decide), nI_clamp (by omega), nI_1]
        refine ⟨_, N - (t + 1), rfl, by omega, t + 1, rfl, by omega, rfl, fun u hu hut => ?_⟩
        show upd rk1 i (nI t) u = _
        by_cases q : u = i
        · subst q; rw [pz_updS, hr]
        · rw [pz_updN q]
          refine h2 u hu ?_
          have : pz_rk c N u ≠ t := fun z => q (pz_rk_inj hu hi (z.trans hr.symm))
          omega
      · right
        obtain rfl : t = N := by omega
        rw [if_pos (nI_le (Nat.le_refl _) (by omega))]
        exact ⟨_, rfl, h1, fun i hi => h2 i hi (pz_rk_lt hi)⟩)
    unfold P_M_lay_J64
    exact hlp N (nI 0, rk) ⟨0, rfl, Nat.zero_le _, rfl, fun i _ h => by omega⟩
  have hout := fl_loop_inv (b := P_M_lay_L2 rk f) (fun n z => ∃ m, z.1 = nI m ∧ m ≤ N ∧ n = N - m ∧ ∀ i, i < m → z.2 (pz_rm c N m i) = nI i) (fun r => pz_MO c N r.1 r.2) (by
    rintro n ⟨z, od1⟩ ⟨m, rfl, hm, rfl, h1⟩
    dsimp only at h1
    unfold P_M_lay_L2
    dsimp only
    rw [pz_ck0, pz_c0, hf]
    by_cases hlt : m < N
    · left
      rw [if_neg (nI_ge hlt (by omega))]
      -- the inner loop
      have hin := fl_loop_inv (b := P_M_lay_L11 rk f (nI m)) (fun n z => ∃ x, z.1 = nI x ∧ x ≤ m ∧ n = x ∧ (∀ k, k < x → z.2 k = od1 k) ∧ (∀ k, x ≤ k → k < m → z.2 (k + 1) = od1 k) ∧ ∀ i, i < m → x ≤ pz_rm c N m i → pz_A c N m i) (fun r => ∃ od2 : fl_A, r = .inl (nI (m + 1), od2) ∧ ∀ i, i < m + 1 → od2 (pz_rm c N (m + 1) i) = nI i) (by
        rintro n ⟨z, od2⟩ ⟨x, rfl, hx, rfl, h2, h3, h4⟩
        dsimp only at h2 h3
        -- putting m at x
        have hput : (0 < n → ∀ i, i < m → pz_rm c N m i = n - 1 → pz_A c N i m) → ∃ r, P_M_lay_J51 od2 rk f (nI m) (nI n) = some r ∧ ∃ od3 : fl_A, r = .inl (nI (m + 1), od3) ∧ ∀ i, i < m + 1 → od3 (pz_rm c N (m + 1) i) = nI i := by
          intro h5
          have hq : pz_rm c N m m = n := by
            have htop := pz_rm_top c N m m
            rcases Nat.lt_trichotomy n (pz_rm c N m m) with q | q | q
            · obtain ⟨i, g1, g2⟩ := pz_rm_surj (c := c) (N := N) m (by omega) n (by omega)
              have g3 := (pz_rm_iff (c := c) g1 hlt).mpr (by omega)
              exact absurd (h4 i g1 (by omega)) (pz_A_asymm g3)
            · exact q.symm
            · obtain ⟨i, g1, g2⟩ := pz_rm_surj (c := c) (N := N) m (by omega) (n - 1) (by omega)
              have g3 := (pz_rm_iff g1 hlt).mp (h5 (by omega) i g1 g2)
              omega
          unfold P_M_lay_J51
          rw [pz_ck (by omega) (by decide), nI_clamp (by omega), nI_1]
          refine ⟨_, rfl, _, rfl, fun i hi => ?_⟩
          rcases Nat.lt_or_ge i m with q | q
          · rw [pz_rm_succ q hlt, hq]
            by_cases q2 : pz_rm c N m i < n
            · rw [if_pos q2, pz_updN (by omega), h2 _ q2, h1 i q]
            · rw [if_neg q2, pz_updN (by omega), h3 _ (by omega) (pz_rm_ltm q), h1 i q]
          · obtain rfl : i = m := by omega
            rw [pz_rm_self, hq, pz_updS]
        unfold P_M_lay_L11
        dsimp only
        cases n with
        | zero =>
          right
          rw [if_pos (show nI 0 ≤ 0 by decide)]
          obtain ⟨r, e, h6⟩ := hput (fun z => by omega)
          refine ⟨r, ?_, h6⟩
          rw [e]; rfl
        | succ n =>
          obtain ⟨i, g1, g2⟩ := pz_rm_surj (c := c) (N := N) m (by omega) n (by omega)
          have g3 : od2 n = nI i := by rw [h2 n (by omega), ← g2]; exact h1 i g1
          rw [if_neg (nI_nle (by omega) (by omega)), nI_pred, pz_ck (by omega) (by decide), nI_clamp (n := n) (by omega), g3, pz_isAhead hN hf hlt (by omega) (by omega), fl_bd_some, hc]
          cases ha : pz_a c N m i with
          | true =>
            left
            rw [if_pos rfl, if_neg (show ¬ nI 1 = 0 by decide), pz_ck (by omega) (by decide), pz_ck (by omega) (by decide), nI_clamp (by omega)]
            refine ⟨(nI n, upd od2 (n + 1) (nI i)), n, ?_, by omega, n, rfl, by omega, rfl, fun k hk => ?_, fun k hk1 hk2 => ?_, fun u hu hun => ?_⟩
            · rw [show nI (n + 1) + (-1 : Int32) = nI n from pk_m1 n]
            · show upd od2 (n + 1) (nI i) k = _
              rw [pz_updN (by omega)]; exact h2 k (by omega)
            · show upd od2 (n + 1) (nI i) (k + 1) = _
              rcases Nat.lt_or_ge n k with q | q
              · rw [pz_updN (by omega)]; exact h3 k (by omega) hk2
              · obtain rfl : k = n := by omega
                rw [pz_updS, ← g3]; exact h2 k (by omega)
            · rcases Nat.lt_or_ge n (pz_rm c N m u) with q | q
              · exact h4 u hu (by omega)
              · have e1 : pz_rm c N m u = n := by omega
                have e2 : u = i := by
                  rcases Nat.decEq u i with z | z
                  · rcases pz_A_tot (c := c) (show u < N by omega) (show i < N by omega) z with y | y
                    · have := pz_rm_lt (m := m) hu y; omega
                    · have := pz_rm_lt (m := m) g1 y; omega
                  · exact z
                subst e2
                exact pz_a_iff.mp ha
          | false =>
            right
            rw [if_neg (show ¬ (false = true) by decide), if_pos (show nI 0 = 0 from rfl)]
            obtain ⟨r, e, h6⟩ := hput (fun _ u hu hun => by
              have e2 : u = i := by
                rcases Nat.decEq u i with z | z
                · rcases pz_A_tot (c := c) (show u < N by omega) (show i < N by omega) z with y | y
                  · have := pz_rm_lt (m := m) hu y; omega
                  · have := pz_rm_lt (m := m) g1 y; omega
                · exact z
              subst e2
              rcases pz_A_tot (c := c) hlt (show u < N by omega) (by omega) with y | y
              · rw [pz_a_iff.mpr y] at ha; cases ha
              · exact y)
            refine ⟨r, ?_, h6⟩
            rw [e]; rfl)
      obtain ⟨r, e, od2, rfl, h2⟩ := hin m (nI m, od1) ⟨m, rfl, Nat.le_refl _, rfl, fun _ _ => rfl, fun k h1 h2 => by omega, fun i hi h2 => by have := pz_rm_ltm (c := c) (N := N) hi; omega⟩
      exact ⟨_, N - (m + 1), e, by omega, m + 1, rfl, by omega, rfl, h2⟩
    · right
      obtain rfl : m = N := by omega
      rw [if_pos (nI_le (Nat.le_refl _) (by omega))]
      obtain ⟨r, e, h2⟩ := hfin od1 h1
      refine ⟨r, ?_, h2⟩
      rw [e]; rfl)
  unfold P_M_lay
  exact hout N (nI 0, od) ⟨0, rfl, Nat.zero_le _, rfl, fun i hi => by omega⟩
