/-! A VERSE BY FOUR DIGITS, on both sides -/
theorem pz_d10 {a : Nat} (ha : a < 2 ^ 31) : nI a / (10 : Int32) = nI (a / 10) := pk_div (d := 10) ha (by decide) (by decide)
theorem pz_d100 {a : Nat} (ha : a < 2 ^ 31) : nI a / (100 : Int32) = nI (a / 100) := pk_div (d := 100) ha (by decide) (by decide)
theorem pz_d1000 {a : Nat} (ha : a < 2 ^ 31) : nI a / (1000 : Int32) = nI (a / 1000) := pk_div (d := 1000) ha (by decide) (by decide)
theorem pz_d10000 {a : Nat} (ha : a < 2 ^ 31) : nI a / (10000 : Int32) = nI (a / 10000) := pk_div (d := 10000) ha (by decide) (by decide)
theorem pz_r10 {a : Nat} (ha : a < 2 ^ 31) : nI a - nI a / (10 : Int32) * (10 : Int32) = nI (a % 10) := pk_rem (d := 10) ha (by decide) (by decide)
theorem pz_r100 {a : Nat} (ha : a < 2 ^ 31) : nI a - nI a / (100 : Int32) * (100 : Int32) = nI (a % 100) := pk_rem (d := 100) ha (by decide) (by decide)
theorem pz_r1000 {a : Nat} (ha : a < 2 ^ 31) : nI a - nI a / (1000 : Int32) * (1000 : Int32) = nI (a % 1000) := pk_rem (d := 1000) ha (by decide) (by decide)
theorem pz_r10000 {a : Nat} (ha : a < 2 ^ 31) : nI a - nI a / (10000 : Int32) * (10000 : Int32) = nI (a % 10000) := pk_rem (d := 10000) ha (by decide) (by decide)
theorem pz_nz {α : Type} {n : Nat} {k : Option α} (h0 : 0 < n) (h : n < 2 ^ 31) : fl_nz (nI n) k = k := by
  unfold fl_nz
  exact if_neg (nI_ne0 h0 h)
/-- at digit k the component has multiplied by q, the model divides by b -/
def pz_qb (k q b : Nat) : Prop := (k = 0 ∧ q = 1 ∧ b = 1000) ∨ (k = 1 ∧ q = 10 ∧ b = 100) ∨ (k = 2 ∧ q = 100 ∧ b = 10) ∨ (k = 3 ∧ q = 1000 ∧ b = 1) ∨ (k = 4 ∧ q = 10000 ∧ b = 0)
theorem pz_qb_next {k q b : Nat} (h : pz_qb k q b) (hk : k < 4) : pz_qb (k + 1) (q * 10) (b / 10) ∧ 1 ≤ b ∧ b ≤ 1000 ∧ q ≤ 1000 := by
  unfold pz_qb at *
  omega
theorem pz_qb_dig {k q b p : Nat} (h : pz_qb k q b) (hk : k < 4) : p * q / 1000 % 10 = p / b % 10 := by
  unfold pz_qb at h
  rcases h with ⟨-, rfl, rfl⟩ | ⟨-, rfl, rfl⟩ | ⟨-, rfl, rfl⟩ | ⟨-, rfl, rfl⟩ | ⟨h, -, -⟩ <;> omega
theorem pz_dig_c {p q : Nat} (hp : p < 10000) (hq : q ≤ 1000) : (nI (p * q) / (1000 : Int32)) - (nI (p * q) / (1000 : Int32)) / (10 : Int32) * (10 : Int32) = nI (p * q / 1000 % 10) := by
  have : p * q ≤ 9999 * 1000 := Nat.mul_le_mul (by omega) hq
  rw [pz_d1000 (by omega), pz_r10 (by omega)]
theorem pz_dig_m {p b : Nat} (hp : p < 10000) (h1 : 1 ≤ b) (h2 : b ≤ 1000) : (nI p / nI b) - (nI p / nI b) / (10 : Int32) * (10 : Int32) = nI (p / b % 10) := by
  have : p / b ≤ p := Nat.div_le_self _ _
  rw [pk_div (by omega) (by omega) (by omega), pz_r10 (by omega)]
/-- the model's digit, refused already -/
theorem pz_td_mdead {p : Nat} (hp : p < 10000) : ∀ n k q b m (over : Int32) (fr : fl_A), n = 4 - k → k ≤ 4 → pz_qb k q b → m ≤ k → ∃ fr' fs', fl_loop (P_M_takeDigits_L31 (nI p)) ((0 : Int32), over, nI b, nI k, fr, nI m) = some ((0 : Int32), fr', fs') := by
  intro n
  induction n with
  | zero =>
    intro k q b m over fr hn hk hqb hm
    obtain rfl : k = 4 := by omega
    refine ⟨fr, nI m, fl_loop_inr ?_⟩
    unfold P_M_takeDigits_L31
    dsimp only
    rw [if_pos (show (4 : Int32) ≤ nI 4 by decide), pz_bl0]
  | succ n ih =>
    intro k q b m over fr hn hk hqb hm
    obtain ⟨hqb2, hb1, hb2, hq⟩ := pz_qb_next hqb (by omega)
    have hJ : ∀ k0 : Int32, ∃ m2 fr2, m2 ≤ k + 1 ∧ P_M_takeDigits_J61 fr (nI m) 0 (nI p) (nI b) (nI k) (nI (p / b % 10)) k0 = some (.inl ((0 : Int32), k0, nI (b / 10), nI (k + 1), fr2, nI m2)) := by
      intro k0
      unfold P_M_takeDigits_J61 P_M_takeDigits_J86 P_M_takeDigits_J87 P_M_takeDigits_J118
      rw [if_pos rfl, pz_d10 (by omega), nI_1, nI_1]
      by_cases y : k0 = 0
      · rw [if_pos y, pz_ck (by omega) (by decide)]
        exact ⟨m + 1, _, by omega, rfl⟩
      · rw [if_neg y]
        exact ⟨m, _, by omega, rfl⟩
    have hstep : ∃ over2 m2 fr2, m2 ≤ k + 1 ∧ P_M_takeDigits_L31 (nI p) ((0 : Int32), over, nI b, nI k, fr, nI m) = some (.inl ((0 : Int32), over2, nI (b / 10), nI (k + 1), fr2, nI m2)) := by
      unfold P_M_takeDigits_L31 P_M_takeDigits_J56
      dsimp only
      rw [if_neg (show ¬ (4 : Int32) ≤ nI k from nI_ge (b := 4) (by omega) (by decide)), pz_nz (by omega) (by omega), pz_dig_m hp hb1 hb2]
      by_cases y : over = 0
      · rw [if_pos y]
        by_cases y2 : nI (p / b % 10) = 0
        · rw [if_pos y2]
          obtain ⟨m2, fr2, g1, g2⟩ := hJ 1
          exact ⟨1, m2, fr2, g1, g2⟩
        · rw [if_neg y2]
          obtain ⟨m2, fr2, g1, g2⟩ := hJ 0
          exact ⟨0, m2, fr2, g1, g2⟩
      · rw [if_neg y]
        obtain ⟨m2, fr2, g1, g2⟩ := hJ 1
        exact ⟨1, m2, fr2, g1, g2⟩
    obtain ⟨over2, m2, fr2, hm2, e⟩ := hstep
    rw [fl_loop_inl e]
    exact ih (k + 1) (q * 10) (b / 10) m2 over2 fr2 (by omega) (by omega) hqb2 hm2
/-- the component, when the letters have ended before they began -/
theorem pz_td_cdead {p : Nat} (hp : p < 10000) : ∀ n k q b (t : fl_Ln), n = 4 - k → k ≤ 4 → pz_qb k q b → t.2 = 0 → ∃ t', fl_loop (P_Ln_takeDigits_L11 12) ((1 : Int32), nI (p * q), nI k, t) = some ((0 : Int32), t') := by
  intro n
  induction n with
  | zero =>
    intro k q b t hn hk hqb ht
    obtain rfl : k = 4 := by omega
    refine ⟨t, fl_loop_inr ?_⟩
    unfold P_Ln_takeDigits_L11 P_Ln_takeDigits_J77
    dsimp only
    rw [if_pos (show (4 : Int32) ≤ nI 4 by decide), ht, if_pos (show (0 : Int32) ≤ 0 by decide)]
    rfl
  | succ n ih =>
    intro k q b t hn hk hqb ht
    obtain ⟨hqb2, hb1, hb2, hq⟩ := pz_qb_next hqb (by omega)
    have hk4 : ¬ (4 : Int32) ≤ nI k := nI_ge (b := 4) (by omega) (by decide)
    by_cases y : 8 < p * q / 1000 % 10
    · refine ⟨t, fl_loop_inr ?_⟩
      unfold P_Ln_takeDigits_L11
      dsimp only
      rw [if_neg hk4, pz_dig_c hp hq, if_pos (show (8 : Int32) < nI (p * q / 1000 % 10) from nI_lt (a := 8) y (by omega))]
    · have hy8 : ¬ (8 : Int32) < nI (p * q / 1000 % 10) := nI_nlt (a := 8) (by omega) (by decide)
      by_cases y2 : p * q / 1000 % 10 = 0
      · obtain ⟨t', e⟩ := ih (k + 1) (q * 10) (b / 10) t (by omega) (by omega) hqb2 ht
        refine ⟨t', ?_⟩
        rw [← e]
        refine fl_loop_inl ?_
        unfold P_Ln_takeDigits_L11 P_Ln_takeDigits_J50 P_Ln_takeDigits_J71
        dsimp only
        rw [if_neg hk4, pz_dig_c hp hq, if_neg hy8, y2, if_pos (show nI 0 = (0 : Int32) from rfl), if_pos (show nI 0 = (0 : Int32) from rfl), nI_1, show nI (p * q) * (10 : Int32) = nI (p * q * 10) from pk_mul (p * q) 10, Nat.mul_assoc]
      · refine ⟨t, fl_loop_inr ?_⟩
        unfold P_Ln_takeDigits_L11
        dsimp only
        rw [if_neg hk4, pz_dig_c hp hq, if_neg hy8, if_neg (nI_ne0 (by omega) (by omega)), if_neg (show ¬ (1 : Int32) = 0 by decide)]
/-- both, while all is well -/
theorem pz_td_both {p : Nat} (hp : p < 10000) : ∀ n k q b m (e : Int32) (t : fl_Ln) (fr : fl_A), n = 4 - k → k ≤ 4 → pz_qb k q b → t.2 = nI m → m ≤ k → ((e = 0 ∧ m = k) ∨ (e = 1 ∧ 1 ≤ m)) → (k = 0 → 999 < p) → (∀ i, i < m → fr i = t.1 i) → ∃ r t' fr' fs', fl_loop (P_Ln_takeDigits_L11 12) (e, nI (p * q), nI k, t) = some (r, t') ∧ fl_loop (P_M_takeDigits_L31 (nI p)) ((1 : Int32), e, nI b, nI k, fr, nI m) = some (r, fr', fs') ∧ (r = 0 ∨ (r = 1 ∧ ∃ l, 1 ≤ l ∧ l ≤ 12 ∧ t'.2 = nI l ∧ fs' = nI l ∧ ∀ i, i < l → fr' i = t'.1 i)) := by
  intro n
  induction n with
  | zero =>
    intro k q b m e t fr hn hk hqb ht hm he hk0 hfr
    obtain rfl : k = 4 := by omega
    refine ⟨1, t, fr, nI m, fl_loop_inr ?_, fl_loop_inr ?_, Or.inr ⟨rfl, m, by omega, by omega, ht, rfl, hfr⟩⟩
    · unfold P_Ln_takeDigits_L11 P_Ln_takeDigits_J77
      dsimp only
      rw [if_pos (show (4 : Int32) ≤ nI 4 by decide), ht, if_neg (nI_nle (by omega) (by omega))]
      rfl
    · unfold P_M_takeDigits_L31
      dsimp only
      rw [if_pos (show (4 : Int32) ≤ nI 4 by decide), pz_bl1]
  | succ n ih =>
    intro k q b m e t fr hn hk hqb ht hm he hk0 hfr
    obtain ⟨hqb2, hb1, hb2, hq⟩ := pz_qb_next hqb (by omega)
    have hk4 : ¬ (4 : Int32) ≤ nI k := nI_ge (b := 4) (by omega) (by decide)
    have hdig := pz_qb_dig (p := p) hqb (by omega)
    have hC : ∀ x, P_Ln_takeDigits_L11 12 (e, nI (p * q), nI k, t) = x ↔ (if (8 : Int32) < nI (p / b % 10) then some (.inr ((0 : Int32), t)) else if nI (p / b % 10) = 0 then P_Ln_takeDigits_J50 12 t e (nI (p * (q * 10))) (nI k) (nI (p / b % 10)) else if e = 0 then P_Ln_takeDigits_J50 12 t e (nI (p * (q * 10))) (nI k) (nI (p / b % 10)) else some (.inr ((0 : Int32), t))) = x := by
      intro x
      unfold P_Ln_takeDigits_L11
      dsimp only
      rw [if_neg hk4, pz_dig_c hp hq, hdig, show nI (p * q) * (10 : Int32) = nI (p * q * 10) from pk_mul (p * q) 10, Nat.mul_assoc]
    have hM : ∀ x, P_M_takeDigits_L31 (nI p) ((1 : Int32), e, nI b, nI k, fr, nI m) = x ↔ (if e = 0 then if nI (p / b % 10) = 0 then P_M_takeDigits_J61 fr (nI m) 1 (nI p) (nI b) (nI k) (nI (p / b % 10)) 1 else P_M_takeDigits_J61 fr (nI m) 1 (nI p) (nI b) (nI k) (nI (p / b % 10)) 0 else P_M_takeDigits_J61 fr (nI m) 1 (nI p) (nI b) (nI k) (nI (p / b % 10)) 1) = x := by
      intro x
      unfold P_M_takeDigits_L31 P_M_takeDigits_J56
      dsimp only
      rw [if_neg hk4, pz_nz (by omega) (by omega), pz_dig_m hp hb1 hb2]
    have hdk : k = 0 → 1 ≤ p / b % 10 := by
      intro z
      have := hk0 z
      unfold pz_qb at hqb
      obtain rfl : b = 1000 := by omega
      omega
    -- the model, refused at this digit
    have hdead : ∀ k0 : Int32, (9 ≤ p / b % 10 ∨ (k0 ≠ 0 ∧ p / b % 10 ≠ 0)) → ∃ fr' fs', ∀ s, P_M_takeDigits_L31 (nI p) s = P_M_takeDigits_J61 fr (nI m) 1 (nI p) (nI b) (nI k) (nI (p / b % 10)) k0 → fl_loop (P_M_takeDigits_L31 (nI p)) s = some ((0 : Int32), fr', fs') := by
      intro k0 hd
      have hJ : ∃ m2 fr2, m2 ≤ k + 1 ∧ P_M_takeDigits_J61 fr (nI m) 1 (nI p) (nI b) (nI k) (nI (p / b % 10)) k0 = some (.inl ((0 : Int32), k0, nI (b / 10), nI (k + 1), fr2, nI m2)) := by
        unfold P_M_takeDigits_J61 P_M_takeDigits_J86 P_M_takeDigits_J82 P_M_takeDigits_J87 P_M_takeDigits_J118
        rw [if_neg (show ¬ (1 : Int32) = 0 by decide), pz_d10 (by omega), nI_1, nI_1]
        have hfin : ∃ m2 fr2, m2 ≤ k + 1 ∧ (if k0 = 0 then fl_ck (nI m) 12 (some (.inl ((0 : Int32), k0, nI (b / 10), nI (k + 1), upd fr (nI m).toNatClampNeg (((97 : Int32) + nI (p / b % 10)) - (1 : Int32)), nI (m + 1)))) else some (.inl ((0 : Int32), k0, nI (b / 10), nI (k + 1), fr, nI m)) : Option ((Int32 × Int32 × Int32 × Int32 × fl_A × Int32) ⊕ (Int32 × fl_A × Int32))) = some (.inl ((0 : Int32), k0, nI (b / 10), nI (k + 1), fr2, nI m2)) := by
          by_cases y : k0 = 0
          · rw [if_pos y, pz_ck (by omega) (by decide)]
            exact ⟨m + 1, _, by omega, rfl⟩
          · rw [if_neg y]
            exact ⟨m, _, by omega, rfl⟩
        by_cases y : 9 ≤ p / b % 10
        · rw [if_pos (show (9 : Int32) ≤ nI (p / b % 10) from nI_le (a := 9) y (by omega))]
          exact hfin
        · obtain ⟨y1, y2⟩ := hd.resolve_left y
          rw [if_neg (show ¬ (9 : Int32) ≤ nI (p / b % 10) from nI_ge (b := 9) (by omega) (by decide)), if_neg y1, if_neg (nI_ne0 (by omega) (by omega))]
          exact hfin
      obtain ⟨m2, fr2, g1, g2⟩ := hJ
      obtain ⟨fr', fs', g3⟩ := pz_td_mdead hp (3 - k) (k + 1) (q * 10) (b / 10) m2 k0 fr2 (by omega) (by omega) hqb2 g1
      refine ⟨fr', fs', fun s hs => ?_⟩
      rw [g2] at hs
      rw [fl_loop_inl hs, g3]
    by_cases y8 : 8 < p / b % 10
    · have hC1 : fl_loop (P_Ln_takeDigits_L11 12) (e, nI (p * q), nI k, t) = some ((0 : Int32), t) := fl_loop_inr ((hC _).mpr (by rw [if_pos (show (8 : Int32) < nI (p / b % 10) from nI_lt (a := 8) y8 (by omega))]))
      have hd0 : ¬ nI (p / b % 10) = 0 := nI_ne0 (by omega) (by omega)
      by_cases ye : e = 0
      · obtain ⟨fr', fs', g⟩ := hdead 0 (Or.inl (by omega))
        exact ⟨0, t, fr', fs', hC1, g _ ((hM _).mpr (by rw [if_pos ye, if_neg hd0])), Or.inl rfl⟩
      · obtain ⟨fr', fs', g⟩ := hdead 1 (Or.inl (by omega))
        exact ⟨0, t, fr', fs', hC1, g _ ((hM _).mpr (by rw [if_neg ye])), Or.inl rfl⟩
    · have h8 : ¬ (8 : Int32) < nI (p / b % 10) := nI_nlt (a := 8) (by omega) (by decide)
      have h9 : ¬ (9 : Int32) ≤ nI (p / b % 10) := nI_ge (b := 9) (by omega) (by decide)
      by_cases y0 : p / b % 10 = 0
      · -- the letters end, or have ended
        have hd0 : nI (p / b % 10) = 0 := by rw [y0]; rfl
        have hJm : P_M_takeDigits_J61 fr (nI m) 1 (nI p) (nI b) (nI k) (nI (p / b % 10)) 1 = some (.inl ((1 : Int32), (1 : Int32), nI (b / 10), nI (k + 1), fr, nI m)) := by
          unfold P_M_takeDigits_J61 P_M_takeDigits_J82 P_M_takeDigits_J87 P_M_takeDigits_J118
          rw [if_neg (show ¬ (1 : Int32) = 0 by decide), if_neg h9, if_neg (show ¬ (1 : Int32) = 0 by decide), if_pos hd0, if_neg (show ¬ (1 : Int32) = 0 by decide), pz_d10 (by omega), nI_1]
        have hC1 : P_Ln_takeDigits_L11 12 (e, nI (p * q), nI k, t) = some (.inl ((1 : Int32), nI (p * (q * 10)), nI (k + 1), t)) := (hC _).mpr (by
          rw [if_neg h8, if_pos hd0]
          unfold P_Ln_takeDigits_J50 P_Ln_takeDigits_J71
          rw [if_pos hd0, nI_1])
        have hM1 : P_M_takeDigits_L31 (nI p) ((1 : Int32), e, nI b, nI k, fr, nI m) = some (.inl ((1 : Int32), (1 : Int32), nI (b / 10), nI (k + 1), fr, nI m)) := (hM _).mpr (by
          by_cases ye : e = 0
          · rw [if_pos ye, if_pos hd0, hJm]
          · rw [if_neg ye, hJm])
        rw [fl_loop_inl hC1, fl_loop_inl hM1]
        have hm1 : 1 ≤ m := by
          rcases he with ⟨-, z⟩ | ⟨-, z⟩
          · rcases Nat.lt_or_ge 0 k with w | w
            · omega
            · have := hdk (by omega)
              omega
          · exact z
        exact ih (k + 1) (q * 10) (b / 10) m 1 t fr (by omega) (by omega) hqb2 ht (by omega) (Or.inr ⟨rfl, hm1⟩) (fun z => by omega) hfr
      · have hd0 : ¬ nI (p / b % 10) = 0 := nI_ne0 (by omega) (by omega)
        rcases he with ⟨rfl, hmk⟩ | ⟨rfl, hm1⟩
        · -- one more letter
          have hC1 : P_Ln_takeDigits_L11 12 ((0 : Int32), nI (p * q), nI k, t) = some (.inl ((0 : Int32), nI (p * (q * 10)), nI (k + 1), (upd t.1 m (((97 : Int32) + nI (p / b % 10)) - (1 : Int32)), nI (m + 1)))) := (hC _).mpr (by
            rw [if_neg h8, if_neg hd0, if_pos rfl]
            unfold P_Ln_takeDigits_J50 P_Ln_takeDigits_J71
            rw [if_neg hd0, pz_add ht (by omega), fl_bd_some, nI_1])
          have hM1 : P_M_takeDigits_L31 (nI p) ((1 : Int32), (0 : Int32), nI b, nI k, fr, nI m) = some (.inl ((1 : Int32), (0 : Int32), nI (b / 10), nI (k + 1), upd fr m (((97 : Int32) + nI (p / b % 10)) - (1 : Int32)), nI (m + 1))) := (hM _).mpr (by
            rw [if_pos rfl, if_neg hd0]
            unfold P_M_takeDigits_J61 P_M_takeDigits_J82 P_M_takeDigits_J87 P_M_takeDigits_J118
            rw [if_neg (show ¬ (1 : Int32) = 0 by decide), if_neg h9, if_pos rfl, if_pos rfl, pz_ck (by omega) (by decide), nI_clamp (n := m) (by omega), pz_d10 (by omega), nI_1, nI_1])
          rw [fl_loop_inl hC1, fl_loop_inl hM1]
          refine ih (k + 1) (q * 10) (b / 10) (m + 1) 0 _ _ (by omega) (by omega) hqb2 rfl (by omega) (Or.inl ⟨rfl, by omega⟩) (fun z => by omega) (fun i hi => ?_)
          dsimp only
          by_cases y : i = m
          · subst y; rw [pz_updS, pz_updS]
          · rw [pz_updN y, pz_updN y]; exact hfr i (by omega)
        · -- a letter behind the end
          have hC1 : fl_loop (P_Ln_takeDigits_L11 12) ((1 : Int32), nI (p * q), nI k, t) = some ((0 : Int32), t) := fl_loop_inr ((hC _).mpr (by rw [if_neg h8, if_neg hd0, if_neg (show ¬ (1 : Int32) = 0 by decide)]))
          obtain ⟨fr', fs', g⟩ := hdead 1 (Or.inr ⟨by decide, y0⟩)
          exact ⟨0, t, fr', fs', hC1, g _ ((hM _).mpr (by rw [if_neg (show ¬ (1 : Int32) = 0 by decide)])), Or.inl rfl⟩
theorem pz_takeDigits {p : Nat} (hp : p < 10000) (t : fl_Ln) (fr : fl_A) (fs : Int32) : ∃ r t' fr' fs', P_Ln_takeDigits 12 t (nI p) = some (r, t') ∧ P_M_takeDigits fr fs (nI p) = some (r, fr', fs') ∧ (r = 0 ∨ (r = 1 ∧ ∃ l, 1 ≤ l ∧ l ≤ 12 ∧ t'.2 = nI l ∧ fs' = nI l ∧ ∀ i, i < l → fr' i = t'.1 i)) := by
  unfold P_Ln_takeDigits P_Ln_empty P_M_takeDigits P_M_takeDigits_J17
  rw [fl_bd_some]
  have hqb : pz_qb 0 1 1000 := Or.inl ⟨rfl, rfl, rfl⟩
  by_cases y : p ≤ 999
  · obtain ⟨fr', fs', e1⟩ := pz_td_mdead hp 4 0 1 1000 0 0 fr rfl (Nat.zero_le _) hqb (Nat.le_refl _)
    obtain ⟨hqb2, -, -, -⟩ := pz_qb_next hqb (by decide)
    obtain ⟨t', e2⟩ := pz_td_cdead hp 3 1 (1 * 10) (1000 / 10) (t.1, 0) rfl (by omega) hqb2 rfl
    refine ⟨0, t', fr', fs', ?_, ?_, Or.inl rfl⟩
    · rw [← e2]
      refine fl_loop_inl ?_
      unfold P_Ln_takeDigits_L11 P_Ln_takeDigits_J50 P_Ln_takeDigits_J71
      dsimp only
      have h0 : p / 1000 % 10 = 0 := by omega
      rw [if_neg (show ¬ (4 : Int32) ≤ 0 by decide), pz_d1000 (by omega), pz_r10 (by omega), h0, if_neg (show ¬ (8 : Int32) < nI 0 by decide), if_pos (show nI 0 = (0 : Int32) from rfl), if_pos (show nI 0 = (0 : Int32) from rfl), show nI p * (10 : Int32) = nI (p * 10) from pk_mul p 10, show (1 * 10 : Nat) = 10 from rfl]
      rfl
    · rw [if_pos (show nI p ≤ (999 : Int32) from nI_le (b := 999) y (by decide))]
      exact e1
  · rw [if_neg (show ¬ nI p ≤ (999 : Int32) from nI_ge (a := 999) (by omega) (by omega))]
    have h := pz_td_both hp 4 0 1 1000 0 0 (t.1, 0) fr rfl (Nat.zero_le _) hqb rfl (Nat.le_refl _) (Or.inl ⟨rfl, rfl⟩) (fun _ => by omega) (fun i hi => absurd hi (Nat.not_lt_zero _))
    rw [Nat.mul_one] at h
    exact h
