/-! THE COMPONENT'S ORDER OF THE PLACES -/
theorem pz_mxI {a b : Nat} (ha : a < 2 ^ 31) (hb : b < 2 ^ 31) : fl_mx (nI a) (nI b) = nI (max a b) := by
  unfold fl_mx
  rcases Nat.lt_or_ge a b with h | h
  · rw [if_pos (nI_lt h hb), Nat.max_eq_right (Nat.le_of_lt h)]
  · rw [if_neg (nI_nlt h ha), Nat.max_eq_left h]
theorem pz_mnI {a b : Nat} (ha : a < 2 ^ 31) (hb : b < 2 ^ 31) : fl_mn (nI a) (nI b) = nI (min a b) := by
  unfold fl_mn
  rcases Nat.lt_or_ge b a with h | h
  · rw [if_pos (nI_lt h ha), Nat.min_eq_right (Nat.le_of_lt h)]
  · rw [if_neg (nI_nlt h hb), Nat.min_eq_left h]
/-- which of the two is the later one in the order -/
def pz_w (c : Nat → Int32) (N p j : Nat) : Nat := if pz_a c N p j = true then j else p
theorem pz_J144 {o : fl_Or} {f : fl_A} {p j k i : Nat} (hi : i < 48) : P_Or_compareWithLater_J144 o f (nI p) (nI j) (nI k) (nI i) = some (.inl (nI (j + 1), (o.1, upd o.2.1 i (o.2.1 i + 1), o.2.2.1, upd o.2.2.2.1 i (fl_mx (o.2.2.2.1 i) (nI k)), o.2.2.2.2.1, o.2.2.2.2.2))) := by
  unfold P_Or_compareWithLater_J144
  rw [pz_ck hi (by decide), pz_ck hi (by decide), pz_ck hi (by decide), pz_ck hi (by decide), nI_clamp (by omega), nI_1]
theorem pz_J57 {o : fl_Or} {f : fl_A} {N p j k : Nat} (hN : N ≤ 48) (hp : p < j) (hj : j < N) (ho : o.1 = nI N) (hk : pz_L f N p j = k) :
    P_Or_compareWithLater_J57 o f (nI p) (nI j) (nI k) = some (.inl (nI (j + 1), (o.1, upd o.2.1 (pz_w f N p j) (o.2.1 (pz_w f N p j) + 1), o.2.2.1, upd o.2.2.2.1 (pz_w f N p j) (fl_mx (o.2.2.2.1 (pz_w f N p j)) (nI k)), upd (upd o.2.2.2.2.1 p (fl_mx (o.2.2.2.2.1 p) (nI k))) j (fl_mx (o.2.2.2.2.1 j) (nI k)), upd o.2.2.2.2.2 j (nI k)))) := by
  have hle := pz_L_le (c := f) (show p ≤ N by omega) (show j ≤ N by omega)
  have hsp := pz_L_spec f N p j
  rw [hk] at hle hsp
  unfold P_Or_compareWithLater_J57
  rw [pz_ck (by omega) (by decide), pz_ck (by omega) (by decide), pz_ck (by omega) (by decide), pz_ck (by omega) (by decide), pz_ck (by omega) (by decide)]
  rw [nI_clamp (n := p) (by omega), nI_clamp (n := j) (by omega), nI_add, nI_add]
  rw [pz_updN (f := o.2.2.2.2.1) (i := p) (j := j) (by omega)]
  have hw : ∀ b : Bool, pz_a f N p j = b → pz_w f N p j = if b = true then j else p := fun b h => by rw [← h]; rfl
  by_cases h1 : N ≤ j + k
  · have ha : pz_a f N p j = false := by
      rw [Bool.eq_false_iff]
      intro z
      have z := pz_a_iff.mp z
      unfold pz_A at z
      rw [hk] at z
      omega
    rw [if_pos (by rw [ho]; exact nI_le h1 (by omega)), hw false ha]
    unfold P_Or_compareWithLater_J127 P_Or_compareWithLater_J132
    rw [if_neg (by decide)]
    exact pz_J144 (by omega)
  · rw [if_neg (by rw [ho]; exact nI_ge (by omega) (by omega)), pz_ck (by omega) (by decide), pz_ck (by omega) (by decide), nI_clamp (n := p + k) (by omega), nI_clamp (n := j + k) (by omega)]
    have hne : f (p + k) ≠ f (j + k) := fun z => hsp.2 ⟨by omega, by omega, z⟩
    by_cases h2 : f (p + k) ≤ f (j + k)
    · have ha : pz_a f N p j = true := by
        rw [pz_a_iff]
        unfold pz_A
        rw [hk]
        refine ⟨by omega, Or.inr ⟨by omega, by omega, ?_⟩⟩
        rw [Int32.lt_iff_toInt_lt]
        rw [Int32.le_iff_toInt_le] at h2
        have : (f (p + k)).toInt ≠ (f (j + k)).toInt := fun z => hne (Int32.toInt_inj.mp z)
        omega
      rw [if_pos h2, hw true ha]
      unfold P_Or_compareWithLater_J132
      rw [if_pos rfl]
      exact pz_J144 (by omega)
    · have ha : pz_a f N p j = false := by
        rw [Bool.eq_false_iff]
        intro z
        have z := pz_a_iff.mp z
        unfold pz_A at z
        rw [hk] at z
        rcases z.2 with z | z
        · omega
        · rw [Int32.le_iff_toInt_le] at h2
          have z := z.2.2
          rw [Int32.lt_iff_toInt_lt] at z
          omega
      rw [if_neg h2, hw false ha]
      unfold P_Or_compareWithLater_J127 P_Or_compareWithLater_J132
      rw [if_neg (by decide)]
      exact pz_J144 (by omega)
-- ===== the numbers while place p is compared with those from p + 1 below j =====
def pz_rk1 (c : Nat → Int32) (N p j i : Nat) : Nat := if i < p then 0 else if i = p then pz_cnt (fun u => pz_a c N u i) p j else if i < j then pz_cnt (fun u => pz_a c N u i) p N else pz_cnt (fun u => pz_a c N u i) (p + 1) N
def pz_sh1 (c : Nat → Int32) (N p j i : Nat) : Nat := if i < p then 0 else if i = p then pz_max (fun u => pz_a c N u i) (fun u => pz_L c N u i) p j else if i < j then pz_max (fun u => pz_a c N u i) (fun u => pz_L c N u i) p N else pz_max (fun u => pz_a c N u i) (fun u => pz_L c N u i) (p + 1) N
def pz_rp1 (c : Nat → Int32) (N p j i : Nat) : Nat := if i < p then 0 else if i = p then pz_max (fun u => decide (u ≠ i)) (fun u => pz_L c N u i) p j else if i < j then pz_max (fun u => decide (u ≠ i)) (fun u => pz_L c N u i) p N else pz_max (fun u => decide (u ≠ i)) (fun u => pz_L c N u i) (p + 1) N
def pz_rk0 (c : Nat → Int32) (N p i : Nat) : Nat := if i < p then 0 else pz_cnt (fun u => pz_a c N u i) p N
def pz_sh0 (c : Nat → Int32) (N p i : Nat) : Nat := if i < p then 0 else pz_max (fun u => pz_a c N u i) (fun u => pz_L c N u i) p N
def pz_rp0 (c : Nat → Int32) (N p i : Nat) : Nat := if i < p then 0 else pz_max (fun u => decide (u ≠ i)) (fun u => pz_L c N u i) p N
theorem pz_a_self (c : Nat → Int32) (N i : Nat) : pz_a c N i i = false := by
  rw [Bool.eq_false_iff]
  intro z
  exact (pz_a_iff.mp z).1 rfl
theorem pz_a_not {c : Nat → Int32} {N i j : Nat} (hi : i < N) (hj : j < N) (hne : i ≠ j) : pz_a c N j i = !(pz_a c N i j) := by
  cases h : pz_a c N i j with
  | true =>
    have := pz_A_asymm (pz_a_iff.mp h)
    exact Bool.eq_false_iff.mpr (fun z => this (pz_a_iff.mp z))
  | false =>
    rcases pz_A_tot (c := c) hi hj hne with q | q
    · rw [pz_a_iff.mpr q] at h; cases h
    · exact pz_a_iff.mpr q
theorem pz_rk1_first (c : Nat → Int32) (N p i : Nat) : pz_rk1 c N p (p + 1) i = pz_rk0 c N (p + 1) i := by
  unfold pz_rk1 pz_rk0
  by_cases h1 : i < p
  · rw [if_pos h1, if_pos (by omega)]
  · by_cases h2 : i = p
    · rw [if_neg h1, if_pos h2, if_pos (by omega), pz_cnt_f (fun z => by rw [h2, pz_a_self] at z; cases z.2), pz_cnt_empty p (Nat.le_refl _)]
    · rw [if_neg h1, if_neg h2, if_neg (by omega), if_neg (by omega)]
theorem pz_sh1_first (c : Nat → Int32) (N p i : Nat) : pz_sh1 c N p (p + 1) i = pz_sh0 c N (p + 1) i := by
  unfold pz_sh1 pz_sh0
  by_cases h1 : i < p
  · rw [if_pos h1, if_pos (by omega)]
  · by_cases h2 : i = p
    · rw [if_neg h1, if_pos h2, if_pos (by omega), pz_max_f (fun z => by rw [h2, pz_a_self] at z; cases z.2), pz_max_empty p (Nat.le_refl _)]
    · rw [if_neg h1, if_neg h2, if_neg (by omega), if_neg (by omega)]
theorem pz_rp1_first (c : Nat → Int32) (N p i : Nat) : pz_rp1 c N p (p + 1) i = pz_rp0 c N (p + 1) i := by
  unfold pz_rp1 pz_rp0
  by_cases h1 : i < p
  · rw [if_pos h1, if_pos (by omega)]
  · by_cases h2 : i = p
    · rw [if_neg h1, if_pos h2, if_pos (by omega), pz_max_f (fun z => (of_decide_eq_true z.2) h2.symm), pz_max_empty p (Nat.le_refl _)]
    · rw [if_neg h1, if_neg h2, if_neg (by omega), if_neg (by omega)]
theorem pz_rk1_last (c : Nat → Int32) {N i : Nat} (p : Nat) (hi : i < N) : pz_rk1 c N p N i = pz_rk0 c N p i := by
  unfold pz_rk1 pz_rk0
  by_cases h1 : i < p
  · rw [if_pos h1, if_pos h1]
  · by_cases h2 : i = p
    · rw [if_neg h1, if_pos h2, if_neg h1]
    · rw [if_neg h1, if_neg h2, if_pos hi, if_neg h1]
theorem pz_sh1_last (c : Nat → Int32) {N i : Nat} (p : Nat) (hi : i < N) : pz_sh1 c N p N i = pz_sh0 c N p i := by
  unfold pz_sh1 pz_sh0
  by_cases h1 : i < p
  · rw [if_pos h1, if_pos h1]
  · by_cases h2 : i = p
    · rw [if_neg h1, if_pos h2, if_neg h1]
    · rw [if_neg h1, if_neg h2, if_pos hi, if_neg h1]
theorem pz_rp1_last (c : Nat → Int32) {N i : Nat} (p : Nat) (hi : i < N) : pz_rp1 c N p N i = pz_rp0 c N p i := by
  unfold pz_rp1 pz_rp0
  by_cases h1 : i < p
  · rw [if_pos h1, if_pos h1]
  · by_cases h2 : i = p
    · rw [if_neg h1, if_pos h2, if_neg h1]
    · rw [if_neg h1, if_neg h2, if_pos hi, if_neg h1]
theorem pz_rk1_step (c : Nat → Int32) {N p j i : Nat} (hp : p < j) (hj : j < N) : pz_rk1 c N p (j + 1) i = if i = pz_w c N p j then pz_rk1 c N p j i + 1 else pz_rk1 c N p j i := by
  have hn := pz_a_not (c := c) (show p < N by omega) hj (by omega)
  unfold pz_rk1 pz_w
  by_cases h1 : i < p
  · rw [if_pos h1, if_pos h1, if_neg (by split <;> omega)]
  · rw [if_neg h1, if_neg h1]
    by_cases h2 : i = p
    · rw [if_pos h2, if_pos h2]
      subst h2
      cases ha : pz_a c N i j with
      | true =>
        rw [ha] at hn
        rw [pz_cnt_f (P := fun u => pz_a c N u i) (fun z => by simp only [hn] at z; cases z.2)]
        rw [if_pos rfl, if_neg (show ¬ i = j by omega)]
      | false =>
        rw [ha] at hn
        rw [pz_cnt_t (P := fun u => pz_a c N u i) (by omega) hn]
        rw [if_neg (show ¬ (false = true) by decide), if_pos rfl]
    · rw [if_neg h2, if_neg h2]
      by_cases h3 : i = j
      · subst h3
        rw [if_pos (Nat.lt_succ_self i), if_neg (Nat.lt_irrefl i), pz_cnt_low (P := fun u => pz_a c N u i) N (by omega)]
        cases ha : pz_a c N p i with
        | true => rw [if_pos rfl, if_pos rfl, if_pos rfl]
        | false => rw [if_neg (show ¬ (false = true) by decide), if_neg (show ¬ (false = true) by decide), if_neg h2, Nat.add_zero]
      · by_cases h4 : i < j
        · rw [if_pos (show i < j + 1 by omega), if_pos h4, if_neg (by split <;> omega)]
        · rw [if_neg (show ¬ i < j + 1 by omega), if_neg h4, if_neg (by split <;> omega)]
theorem pz_sh1_step (c : Nat → Int32) {N p j i : Nat} (hp : p < j) (hj : j < N) : pz_sh1 c N p (j + 1) i = if i = pz_w c N p j then max (pz_sh1 c N p j i) (pz_L c N p j) else pz_sh1 c N p j i := by
  have hn := pz_a_not (c := c) (show p < N by omega) hj (by omega)
  unfold pz_sh1 pz_w
  by_cases h1 : i < p
  · rw [if_pos h1, if_pos h1, if_neg (by split <;> omega)]
  · rw [if_neg h1, if_neg h1]
    by_cases h2 : i = p
    · rw [if_pos h2, if_pos h2]
      subst h2
      cases ha : pz_a c N i j with
      | true =>
        rw [ha] at hn
        rw [pz_max_f (P := fun u => pz_a c N u i) (fun z => by simp only [hn] at z; cases z.2)]
        rw [if_pos rfl, if_neg (show ¬ i = j by omega)]
      | false =>
        rw [ha] at hn
        rw [pz_max_t (P := fun u => pz_a c N u i) (by omega) hn]
        rw [if_neg (show ¬ (false = true) by decide), if_pos rfl, pz_L_symm c N i j]
    · rw [if_neg h2, if_neg h2]
      by_cases h3 : i = j
      · subst h3
        rw [if_pos (Nat.lt_succ_self i), if_neg (Nat.lt_irrefl i), pz_max_low (P := fun u => pz_a c N u i) N (by omega)]
        cases ha : pz_a c N p i with
        | true => rw [if_pos rfl, if_pos rfl, if_pos rfl]
        | false => rw [if_neg (show ¬ (false = true) by decide), if_neg (show ¬ (false = true) by decide), if_neg h2, Nat.max_eq_left (Nat.zero_le _)]
      · by_cases h4 : i < j
        · rw [if_pos (show i < j + 1 by omega), if_pos h4, if_neg (by split <;> omega)]
        · rw [if_neg (show ¬ i < j + 1 by omega), if_neg h4, if_neg (by split <;> omega)]
theorem pz_rp1_step (c : Nat → Int32) {N p j i : Nat} (hp : p < j) (hj : j < N) : pz_rp1 c N p (j + 1) i = if i = p ∨ i = j then max (pz_rp1 c N p j i) (pz_L c N p j) else pz_rp1 c N p j i := by
  unfold pz_rp1
  by_cases h1 : i < p
  · rw [if_pos h1, if_pos h1, if_neg (show ¬ (i = p ∨ i = j) by omega)]
  · rw [if_neg h1, if_neg h1]
    by_cases h2 : i = p
    · rw [if_pos h2, if_pos h2, if_pos (show i = p ∨ i = j from Or.inl h2)]
      subst h2
      rw [pz_max_t (P := fun u => decide (u ≠ i)) (by omega) (decide_eq_true (by omega)), pz_L_symm c N i j]
    · rw [if_neg h2, if_neg h2]
      by_cases h3 : i = j
      · subst h3
        rw [if_pos (Nat.lt_succ_self i), if_neg (Nat.lt_irrefl i), if_pos (show i = p ∨ i = i from Or.inr rfl), pz_max_low (P := fun u => decide (u ≠ i)) N (by omega), if_pos (decide_eq_true (by omega))]
      · by_cases h4 : i < j
        · rw [if_pos (show i < j + 1 by omega), if_pos h4, if_neg (show ¬ (i = p ∨ i = j) by omega)]
        · rw [if_neg (show ¬ i < j + 1 by omega), if_neg h4, if_neg (show ¬ (i = p ∨ i = j) by omega)]
