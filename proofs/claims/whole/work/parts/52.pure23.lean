/-! MOST: the component, along the order -/
theorem pz_cnt_step {P Q : Nat → Bool} {x : Nat} (hP : P x = false) (hQ : Q x = true) : ∀ n, x < n → (∀ i, i < n → i ≠ x → P i = Q i) → pz_cnt Q 0 n = pz_cnt P 0 n + 1 := by
  intro n
  induction n with
  | zero => intro h; omega
  | succ n ih =>
    intro h he
    by_cases y : x = n
    · subst y
      rw [pz_cnt_t (Nat.zero_le _) hQ, pz_cnt_f (P := P) (fun z => by rw [hP] at z; exact absurd z.2 (by decide)), pz_cnt_congr (P := P) (Q := Q) x (fun i _ hi => he i (by omega) (by omega))]
    · have h1 := ih (by omega) (fun i hi hne => he i (by omega) hne)
      have h2 := he n (by omega) (fun z => y z.symm)
      cases hq : Q n with
      | true => rw [pz_cnt_t (Nat.zero_le _) hq, pz_cnt_t (P := P) (Nat.zero_le _) (by rw [h2, hq]), h1]
      | false => rw [pz_cnt_f (fun z => by rw [hq] at z; exact absurd z.2 (by decide)), pz_cnt_f (P := P) (fun z => by rw [h2, hq] at z; exact absurd z.2 (by decide)), h1]
theorem pz_cnt_zero {P : Nat → Bool} : ∀ n, (∀ i, i < n → P i = false) → pz_cnt P 0 n = 0 := by
  intro n
  induction n with
  | zero => intro _; rfl
  | succ n ih =>
    intro h
    rw [pz_cnt_f (fun z => by rw [h n (by omega)] at z; exact absurd z.2 (by decide)), ih (fun i hi => h i (by omega))]
theorem pz_cnt_one {Q : Nat → Bool} {x n : Nat} (hx : x < n) (hQ : Q x = true) (h : ∀ i, i < n → i ≠ x → Q i = false) : pz_cnt Q 0 n = 1 := by
  rw [pz_cnt_step (P := fun _ => false) (Q := Q) (x := x) rfl hQ n hx (fun i hi hne => (h i hi hne).symm), pz_cnt_zero n (fun i _ => rfl)]
/-- of the group of place u: how many stand up to u in the order -/
def pz_cu (c : Nat → Int32) (N m E u : Nat) : Nat := pz_cnt (fun j => decide (m ≤ pz_L c N j u) && decide (pz_rk c N j ≤ pz_rk c N u)) 0 E
/-- of these, the lowest place -/
def pz_LU (c : Nat → Int32) (N m u x : Nat) : Prop := x < N ∧ m ≤ pz_L c N x u ∧ pz_rk c N x ≤ pz_rk c N u ∧ ∀ j, j < N → m ≤ pz_L c N j u → pz_rk c N j ≤ pz_rk c N u → x ≤ j
theorem pz_and_t {a b : Prop} [Decidable a] [Decidable b] (h1 : a) (h2 : b) : (decide a && decide b) = true := by rw [decide_eq_true h1, decide_eq_true h2]; rfl
theorem pz_and_f {a b : Prop} [Decidable a] [Decidable b] (h : ¬ (a ∧ b)) : (decide a && decide b) = false := by
  by_cases ha : a
  · rw [decide_eq_false (fun z => h ⟨ha, z⟩), Bool.and_false]
  · rw [decide_eq_false ha, Bool.false_and]
theorem pz_cu_le {c : Nat → Int32} {N m E u : Nat} : pz_cu c N m E u ≤ pz_tm c N m E u := by
  refine pz_cnt_mono E (fun j _ _ hj => ?_)
  rw [Bool.and_eq_true] at hj
  exact hj.1
theorem pz_cu_new {c : Nat → Int32} {N m E w : Nat} (hE : E = N + 1 - m) (hm1 : 1 ≤ m) (hw : w < E) (hs : pz_sh c N w < m) : pz_cu c N m E w = 1 ∧ pz_LU c N m w w := by
  have hone : ∀ j, j < N → m ≤ pz_L c N j w → pz_rk c N j ≤ pz_rk c N w → j = w := by
    intro j hj h1 h2
    by_cases y : j = w
    · exact y
    · exfalso
      have hne : pz_rk c N j ≠ pz_rk c N w := fun z => y (pz_rk_inj hj (by omega) z)
      have hA := (pz_rk_iff (c := c) hj (show w < N by omega)).mp (by omega)
      have := pz_max_ge (P := fun j => pz_a c N j w) (v := fun j => pz_L c N j w) (a := 0) N j (Nat.zero_le _) hj (pz_a_iff.mpr hA)
      unfold pz_sh at hs
      try dsimp only at this
      omega
  refine ⟨pz_cnt_one hw (pz_and_t (pz_G_refl (by omega)) (Nat.le_refl _)) (fun j hj hne => pz_and_f (fun z => hne (hone j (by omega) z.1 z.2))), by omega, pz_G_refl (by omega), Nat.le_refl _, fun j hj h1 h2 => ?_⟩
  rw [hone j hj h1 h2]
  exact Nat.le_refl _
theorem pz_cu_next {c : Nat → Int32} {N m E u w x : Nat} (hE : E = N + 1 - m) (hm1 : 1 ≤ m) (hu : u < E) (hw : w < E) (hr : pz_rk c N w = pz_rk c N u + 1) (hs : m ≤ pz_L c N u w) (hx : pz_LU c N m u x) : pz_cu c N m E w = pz_cu c N m E u + 1 ∧ pz_LU c N m w (min x w) := by
  constructor
  · refine pz_cnt_step (x := w) (pz_and_f (fun z => by omega)) (pz_and_t (pz_G_refl (by omega)) (Nat.le_refl _)) E hw (fun j hj hne => ?_)
    have hne2 : pz_rk c N j ≠ pz_rk c N w := fun z => hne (pz_rk_inj (show j < N by omega) (by omega) z)
    by_cases y : m ≤ pz_L c N j u ∧ pz_rk c N j ≤ pz_rk c N u
    · rw [pz_and_t y.1 y.2, pz_and_t (pz_G_trans y.1 hs) (by omega)]
    · rw [pz_and_f y, pz_and_f (fun z => y ⟨pz_G_trans z.1 (pz_G_symm hs), by omega⟩)]
  · obtain ⟨h1, h2, h3, h4⟩ := hx
    have hall : ∀ j, j < N → m ≤ pz_L c N j w → pz_rk c N j ≤ pz_rk c N w → min x w ≤ j := by
      intro j hj g1 g2
      by_cases y : j = w
      · omega
      · have hne2 : pz_rk c N j ≠ pz_rk c N w := fun z => y (pz_rk_inj hj (by omega) z)
        have := h4 j hj (pz_G_trans g1 (pz_G_symm hs)) (by omega)
        omega
    rcases Nat.lt_or_ge x w with y | y
    · rw [Nat.min_eq_left (by omega)] at hall ⊢
      exact ⟨h1, pz_G_trans h2 hs, by omega, hall⟩
    · rw [Nat.min_eq_right y] at hall ⊢
      exact ⟨by omega, pz_G_refl (by omega), Nat.le_refl _, hall⟩
/-- the last place of a group -/
theorem pz_last {c : Nat → Int32} {N m E i : Nat} (hE : E = N + 1 - m) (hm1 : 1 ≤ m) (hi : i < E) : ∃ e, e < E ∧ m ≤ pz_L c N i e ∧ (∀ j, j < N → m ≤ pz_L c N j i → pz_rk c N j ≤ pz_rk c N e) ∧ pz_cu c N m E e = pz_tm c N m E i := by
  have h1 : ∃ e, e < E ∧ m ≤ pz_L c N i e ∧ ∀ j, j < N → m ≤ pz_L c N j i → pz_rk c N j ≤ pz_rk c N e := by
    have hge := fun j hj (hp : m ≤ pz_L c N j i) => pz_max_ge (P := fun j => decide (m ≤ pz_L c N j i)) (v := fun j => pz_rk c N j) (a := 0) N j (Nat.zero_le _) hj (decide_eq_true hp)
    rcases pz_max_ex (P := fun j => decide (m ≤ pz_L c N j i)) (v := fun j => pz_rk c N j) (a := 0) N with h | ⟨e, -, he, hp, hv⟩
    · refine ⟨i, hi, pz_G_refl (by omega), fun j hj hp => ?_⟩
      have := hge j hj hp
      try dsimp only at this
      omega
    · have hp : m ≤ pz_L c N e i := of_decide_eq_true hp
      have := pz_G_end hm1 hp
      refine ⟨e, by omega, pz_G_symm hp, fun j hj hp => ?_⟩
      have := hge j hj hp
      try dsimp only at this hv
      omega
  obtain ⟨e, he, hie, hall⟩ := h1
  refine ⟨e, he, hie, hall, ?_⟩
  rw [pz_tm_grp hie]
  refine pz_cnt_congr E (fun j _ hj => ?_)
  by_cases y : m ≤ pz_L c N j e
  · rw [pz_and_t y (hall j (by omega) (pz_G_trans y (pz_G_symm hie))), decide_eq_true y]
  · rw [pz_and_f (fun z => y z.1), decide_eq_false y]
/-- the group that leads so far -/
def pz_W4 (c : Nat → Int32) (N m E r M : Nat) (z2 : Int32) : Prop := (M = 0 ∧ z2 = -1) ∨ ∃ j x, j < E ∧ pz_rk c N j < r ∧ pz_cu c N m E j = M ∧ z2 = nI x ∧ pz_LU c N m j x ∧ ∀ i, i < E → pz_cu c N m E i = M → pz_rk c N j ≤ pz_rk c N i
/-- the walk along the order, before rank r -/
def pz_W (c : Nat → Int32) (N m E r : Nat) (z : Int32 × Int32 × Int32 × Int32 × Int32) : Prop := ∃ M, M ≤ N ∧ z.1 = nI M ∧ (∀ u, u < N → pz_rk c N u + 1 = r → u < E → ∃ x, z.2.2.1 = nI (pz_cu c N m E u) ∧ z.2.2.2.1 = nI x ∧ pz_LU c N m u x) ∧ (∀ j, j < E → pz_rk c N j < r → pz_cu c N m E j ≤ M) ∧ pz_W4 c N m E r M z.2.1
theorem pz_W_end {c : Nat → Int32} {N m E : Nat} {z : Int32 × Int32 × Int32 × Int32 × Int32} (hE : E = N + 1 - m) (hm1 : 1 ≤ m) (h : pz_W c N m E N z) : z.1 = nI (pz_mt c N m E) ∧ pz_SP c N m E z.2.1 := by
  obtain ⟨M, hM, h1, -, h3, h4⟩ := h
  have hrl : ∀ j, j < E → pz_rk c N j < N := fun j hj => pz_rk_lt (by omega)
  have hle : ∀ i, i < E → pz_tm c N m E i ≤ M := by
    intro i hi
    obtain ⟨e, he, hie, hall, hcu⟩ := pz_last (c := c) hE hm1 hi
    rw [← hcu]
    exact h3 e he (hrl e he)
  have hmt : pz_mt c N m E ≤ M := pz_max_le E (fun i _ hi _ => hle i hi)
  rcases h4 with ⟨hM0, hz⟩ | ⟨j, x, hj, hjr, hjc, hz, hLU, hfirst⟩
  · have hmt0 : pz_mt c N m E = M := by omega
    refine ⟨by rw [h1, hmt0], Or.inl ⟨hz, fun i hi hie => ?_⟩⟩
    have hpos : 0 < pz_tm c N m E i := by
      have := pz_cnt_lt (P := fun _ => false) (Q := fun j => decide (m ≤ pz_L c N j i)) (a := 0) (x := i) E (fun _ _ _ z => by cases z) (Nat.zero_le _) hi rfl (decide_eq_true (pz_G_refl (by omega)))
      rw [pz_cnt_zero E (fun _ _ => rfl)] at this
      exact this
    omega
  · have htj : pz_tm c N m E j = M := by
      have a1 := hle j hj
      have a2 := pz_cu_le (c := c) (N := N) (m := m) (E := E) (u := j)
      omega
    have hmt1 : pz_mt c N m E = M := by
      have := pz_max_ge (P := fun _ => true) (v := fun i => pz_tm c N m E i) (a := 0) E j (Nat.zero_le _) hj rfl
      unfold pz_mt at hmt ⊢
      try dsimp only at this
      omega
    obtain ⟨l1, l2, l3, l4⟩ := hLU
    have hxE : x < E := by have := pz_G_end hm1 l2; omega
    -- all of the group stand up to j
    have hgj : ∀ i, i < N → m ≤ pz_L c N i j → pz_rk c N i ≤ pz_rk c N j := by
      intro i hi hij
      obtain ⟨e, he, hie, hall, hcu⟩ := pz_last (c := c) hE hm1 hj
      have h5 : pz_rk c N e ≤ pz_rk c N j := by
        rcases Nat.lt_or_ge (pz_rk c N j) (pz_rk c N e) with y | y
        · exfalso
          have := pz_cnt_lt (P := fun u => decide (m ≤ pz_L c N u j) && decide (pz_rk c N u ≤ pz_rk c N j)) (Q := fun u => decide (m ≤ pz_L c N u j)) (a := 0) (x := e) E (fun u _ _ z => by rw [Bool.and_eq_true] at z; exact z.1) (Nat.zero_le _) he (pz_and_f (fun z => by omega)) (decide_eq_true (pz_G_symm hie))
          unfold pz_cu at hjc
          unfold pz_tm at htj
          omega
        · exact y
      have := hall i hi hij
      omega
    refine ⟨by rw [h1, hmt1], Or.inr ⟨x, hxE, hz, by rw [pz_tm_grp l2, htj, hmt1], fun i hi hix => ?_, fun i hi hie => ?_⟩⟩
    · have g1 := pz_G_trans hix l2
      have := l4 i (by omega) g1 (hgj i (by omega) g1)
      omega
    · obtain ⟨e, he, hie2, hall, hcu⟩ := pz_last (c := c) hE hm1 hi
      have hje := hfirst e he (by rw [hcu, hie, hmt1])
      by_cases y : m ≤ pz_L c N j e
      · left
        exact pz_G_trans hie2 (pz_G_trans (pz_G_symm y) (pz_G_symm l2))
      · right
        have hne : pz_rk c N j ≠ pz_rk c N e := fun z => by
          have := pz_rk_inj (show j < N by omega) (show e < N by omega) z
          subst this
          exact y (pz_G_refl (by omega))
        have hA := (pz_rk_iff (c := c) (show j < N by omega) (show e < N by omega)).mp (by omega)
        exact pz_grp (by omega) (by omega) y hA (pz_G_symm l2) (pz_G_symm hie2)
theorem pz_J60 {o : fl_Or} {p0 p1 v4 : Int32} {M s x r w : Nat} {b : Bool} (hM : M < 2 ^ 31) (hs : s + 1 < 2 ^ 31) (hx : b = true → x < 2 ^ 31) (hw : w < 2 ^ 31) {v5 v6 : Int32} (h5 : b = true → v5 = nI s) (h6 : b = true → v6 = nI x) :
    P_Or_mostSung_J60 o p0 p1 (nI M) v4 v5 v6 (nI r) (nI w) (if b = true then 1 else 0) = some (.inl (if (if b = true then s + 1 else 1) ≤ M then (nI M, v4, nI (if b = true then s + 1 else 1), nI (if b = true then min x w else w), nI (r + 1)) else (nI (if b = true then s + 1 else 1), nI (if b = true then min x w else w), nI (if b = true then s + 1 else 1), nI (if b = true then min x w else w), nI (r + 1)))) := by
  unfold P_Or_mostSung_J60 P_Or_mostSung_J75 P_Or_mostSung_J94 P_Or_mostSung_J109
  rw [nI_1]
  cases b with
  | true =>
    rw [h5 rfl, h6 rfl, if_pos rfl, if_neg (show ¬ (1 : Int32) = 0 by decide), if_neg (show ¬ (1 : Int32) = 0 by decide), nI_1, pz_mnI (hx rfl) hw, if_pos rfl, if_pos rfl]
    by_cases y : s + 1 ≤ M
    · rw [if_pos (nI_le y hM), if_pos y]
    · rw [if_neg (nI_ge (by omega) hs), if_neg y]
  | false =>
    rw [if_neg (show ¬ (false = true) by decide), if_pos rfl, if_pos rfl, if_neg (show ¬ (false = true) by decide), if_neg (show ¬ (false = true) by decide)]
    by_cases y : 1 ≤ M
    · rw [if_pos (show (1 : Int32) ≤ nI M from nI_le (a := 1) y hM), if_pos y]
      rfl
    · rw [if_neg (show ¬ (1 : Int32) ≤ nI M from nI_ge (b := 1) (by omega) (by decide)), if_neg y]
      rfl
theorem pz_mostSung {c : Nat → Int32} {N m E : Nat} {o : fl_Or} {p1 : Int32} (hN : N ≤ 48) (ho : pz_OR c N o) (hm : m ≤ 12) (hE : E = N + 1 - m) (hm1 : 1 ≤ m) : ∃ r, P_Or_mostSung o (nI m) p1 = some r ∧ (p1 ≠ 0 → r = nI (pz_mt c N m E)) ∧ (p1 = 0 → pz_SP c N m E r) := by
  obtain ⟨r, e, hr⟩ := fl_loop_inv (b := P_Or_mostSung_L14 o (nI m) p1) (fun n z => ∃ r, z.2.2.2.2 = nI r ∧ r ≤ N ∧ n = N - r ∧ pz_W c N m E r z) (fun r => (p1 ≠ 0 → r = nI (pz_mt c N m E)) ∧ (p1 = 0 → pz_SP c N m E r)) (by
    rintro n ⟨z1, z2, z3, z4, z5⟩ ⟨r, hz5, hrN, rfl, hW⟩
    dsimp only at hz5
    subst hz5
    unfold P_Or_mostSung_L14
    dsimp only
    rw [ho.1]
    by_cases hlt : r < N
    · left
      obtain ⟨w, hw, hwr⟩ := pz_rk_surj (c := c) hlt
      obtain ⟨M, hM, rfl, h2, h3, h4⟩ := hW
      dsimp only at h2 h4
      have hpl := pz_Or_placeAt hN ho hw
      rw [hwr] at hpl
      rw [if_neg (nI_ge hlt (by omega)), hpl, fl_bd_some, pk_sub (by omega)]
      by_cases hv : m ≤ N - w
      · have hwE : w < E := by omega
        have hsl := pz_sh_le c hw
        rw [if_pos (nI_le hv (by omega)), pz_Or_sharedWithAhead hN ho hw, fl_bd_some]
        -- what the walk makes of place w
        have key : ∃ s x : Nat, ∃ b : Bool, (b = true ↔ m ≤ pz_sh c N w) ∧ s ≤ N ∧ x ≤ N ∧ (b = true → z3 = nI s) ∧ (b = true → z4 = nI x) ∧ (if b = true then s + 1 else 1) = pz_cu c N m E w ∧ pz_LU c N m w (if b = true then min x w else w) := by
          by_cases y : m ≤ pz_sh c N w
          · cases r with
            | zero =>
              have := pz_sh_first hw hwr
              omega
            | succ r0 =>
              obtain ⟨u, hu, hur⟩ := pz_rk_surj (c := c) (N := N) (k := r0) (by omega)
              have hp := pz_sh_pred (c := c) hw hu (by omega)
              rw [hp] at y
              have huE := pz_G_end hm1 y
              obtain ⟨x, a1, a2, a3⟩ := h2 u hu (by omega) (by omega)
              obtain ⟨b1, b2⟩ := pz_cu_next hE hm1 (show u < E by omega) hwE (by omega) y a3
              have hcl := pz_cu_le (c := c) (N := N) (m := m) (E := E) (u := u)
              have htl := pz_tm_le c N m E u
              exact ⟨pz_cu c N m E u, x, true, ⟨fun _ => by rw [hp]; exact y, fun _ => rfl⟩, by omega, by have := a3.1; omega, fun _ => a1, fun _ => a2, by rw [if_pos rfl, b1], by rw [if_pos rfl]; exact b2⟩
          · obtain ⟨b1, b2⟩ := pz_cu_new (c := c) hE hm1 hwE (by omega)
            exact ⟨0, 0, false, ⟨fun z => (by cases z), fun z => absurd z y⟩, by omega, by omega, fun z => (by cases z), fun z => (by cases z), by rw [if_neg (by decide), b1], by rw [if_neg (by decide)]; exact b2⟩
        obtain ⟨s, x, b, hb, hs, hx, g3, g4, g5, g6⟩ := key
        have hJ := pz_J60 (o := o) (p0 := nI m) (p1 := p1) (v4 := z2) (M := M) (s := s) (x := x) (r := r) (w := w) (b := b) (v5 := z3) (v6 := z4) (by omega) (by omega) (fun _ => by omega) (by omega) g3 g4
        rw [g5] at hJ
        have hite : (if nI (pz_sh c N w) < nI m then P_Or_mostSung_J60 o (nI m) p1 (nI M) z2 z3 z4 (nI r) (nI w) 0 else P_Or_mostSung_J60 o (nI m) p1 (nI M) z2 z3 z4 (nI r) (nI w) 1) = P_Or_mostSung_J60 o (nI m) p1 (nI M) z2 z3 z4 (nI r) (nI w) (if b = true then 1 else 0) := by
          cases hbb : b with
          | true => rw [if_neg (nI_nlt (hb.mp hbb) (by omega)), if_pos rfl]
          | false =>
            have : ¬ m ≤ pz_sh c N w := fun z => by rw [hb.mpr z] at hbb; cases hbb
            rw [if_pos (nI_lt (by omega) (by omega)), if_neg (by decide)]
        rw [hite, hJ]
        generalize (if b = true then min x w else w) = lo at g6 ⊢
        have hcw : pz_cu c N m E w ≤ N := by
          have hcl := pz_cu_le (c := c) (N := N) (m := m) (E := E) (u := w)
          have htl := pz_tm_le c N m E w
          omega
        have hcwp : 1 ≤ pz_cu c N m E w := by rw [← g5]; split <;> omega
        have hnew : ∀ u, u < N → pz_rk c N u + 1 = r + 1 → u < E → ∃ x, nI (pz_cu c N m E w) = nI (pz_cu c N m E u) ∧ nI lo = nI x ∧ pz_LU c N m u x := by
          intro u hu hur huE
          obtain rfl : u = w := pz_rk_inj (c := c) hu hw (by omega)
          exact ⟨lo, rfl, rfl, g6⟩
        by_cases y : pz_cu c N m E w ≤ M
        · rw [if_pos y]
          refine ⟨_, N - (r + 1), rfl, by omega, r + 1, rfl, by omega, rfl, M, hM, rfl, hnew, fun j hj hjr => ?_, ?_⟩
          · by_cases y2 : j = w
            · subst y2; exact y
            · have hne : pz_rk c N j ≠ pz_rk c N w := fun z => y2 (pz_rk_inj (show j < N by omega) hw z)
              exact h3 j hj (by omega)
          · rcases h4 with h4 | ⟨j, x', f1, f2, f3, f4, f5, f6⟩
            · exact Or.inl h4
            · exact Or.inr ⟨j, x', f1, by omega, f3, f4, f5, f6⟩
        · rw [if_neg y]
          refine ⟨_, N - (r + 1), rfl, by omega, r + 1, rfl, by omega, rfl, pz_cu c N m E w, hcw, rfl, hnew, fun j hj hjr => ?_, Or.inr ⟨w, lo, hwE, by omega, rfl, rfl, g6, fun i hi hie => ?_⟩⟩
          · by_cases y2 : j = w
            · subst y2; exact Nat.le_refl _
            · have hne : pz_rk c N j ≠ pz_rk c N w := fun z => y2 (pz_rk_inj (show j < N by omega) hw z)
              have := h3 j hj (by omega)
              omega
          · rcases Nat.lt_or_ge (pz_rk c N i) r with y2 | y2
            · have := h3 i hi y2
              omega
            · omega
      · rw [if_neg (nI_ge (by omega) (by omega))]
        unfold P_Or_mostSung_J109
        rw [nI_1]
        refine ⟨_, N - (r + 1), rfl, by omega, r + 1, rfl, by omega, rfl, M, hM, rfl, fun u hu hur huE => ?_, fun j hj hjr => ?_, ?_⟩
        · obtain rfl : u = w := pz_rk_inj (c := c) hu hw (by omega)
          omega
        · by_cases y2 : j = w
          · subst y2; omega
          · have hne : pz_rk c N j ≠ pz_rk c N w := fun z => y2 (pz_rk_inj (show j < N by omega) hw z)
            exact h3 j hj (by omega)
        · rcases h4 with h4 | ⟨j, x', f1, f2, f3, f4, f5, f6⟩
          · exact Or.inl h4
          · exact Or.inr ⟨j, x', f1, by omega, f3, f4, f5, f6⟩
    · right
      obtain rfl : r = N := by omega
      have hend := pz_W_end hE hm1 hW
      dsimp only at hend
      rw [if_pos (nI_le (Nat.le_refl _) (by omega))]
      unfold P_Or_mostSung_J115
      by_cases y : p1 = 0
      · rw [if_pos y]
        exact ⟨_, rfl, fun z => absurd y z, fun _ => hend.2⟩
      · rw [if_neg y]
        exact ⟨_, rfl, fun _ => hend.1, fun z => absurd z y⟩) N ((0 : Int32), (-1 : Int32), (0 : Int32), (0 : Int32), (0 : Int32)) ⟨0, rfl, Nat.zero_le _, rfl, 0, Nat.zero_le _, rfl, fun u hu h => absurd h (by omega), fun j hj h => absurd h (Nat.not_lt_zero _), Or.inl ⟨rfl, rfl⟩⟩
  exact ⟨r, e, hr⟩
theorem pz_mt_congr {c c' : Nat → Int32} {N m E : Nat} (h : ∀ i, i < N → c i = c' i) : pz_mt c N m E = pz_mt c' N m E := pz_max_congr E (fun i _ _ => ⟨rfl, pz_cnt_congr E (fun j _ _ => by rw [pz_L_congr h])⟩)
theorem pz_most {ch : fl_Ch} {f : fl_A} {rf p q : Int32} {N V S : Nat} {c : Nat → Int32} {len : Nat → Nat} (hR : pz_R ch.1 f N V S c len) (hO : pz_OK N V S len) (hC : pz_CH ch N S) :
    (P_SC_most ch p q = some (.inl 1) ∧ P_M_most rf f p q = some (0, 1)) ∨ ∃ v, P_SC_most ch p q = some (.inr v) ∧ P_M_most rf f p q = some (v, 0) := by
  have hcf := pz_codes hR
  have hN := hO.1
  have hf0 := hR.2.2.1.1
  unfold P_SC_most P_M_most
  rw [pz_1x, pz_12x]
  by_cases q1 : p < (1 : Int32)
  · left
    rw [if_pos q1, pz_in_no (Or.inl q1), fl_bd_some, if_pos rfl]
    unfold P_M_most_J18
    rw [pz_ref1, fl_bd_some]
    exact ⟨rfl, if_neg (show ¬ (1 : Int32) = 0 by decide)⟩
  · by_cases q2 : (12 : Int32) < p
    · left
      rw [if_neg q1, if_neg (pz_ngt q2), pz_in_no (Or.inr q2), fl_bd_some, if_pos rfl]
      unfold P_M_most_J18
      rw [pz_ref1, fl_bd_some]
      exact ⟨rfl, if_neg (show ¬ (1 : Int32) = 0 by decide)⟩
    · right
      have h0 : ¬ p < 0 := by
        rw [Int32.lt_iff_toInt_lt] at q1 ⊢
        have e1 : (1 : Int32).toInt = 1 := by decide
        have e0 : (0 : Int32).toInt = 0 := by decide
        omega
      rw [if_neg q1, if_pos (pz_nle q2), pz_in_yes q1 q2, fl_bd_some, if_neg (show ¬ (1 : Int32) = 0 by decide)]
      unfold P_M_most_J18
      rw [pz_ref0, fl_bd_some, if_pos (show (((0 : Int32), (0 : Int32)).1 = 0) from rfl)]
      obtain ⟨m, hm, rfl⟩ := nI_of2 (x := p) (M := (12 : Int32)) (n := 12) (by decide) h0 (pz_nle q2)
      have hm1 : 1 ≤ m := by
        rcases Nat.lt_or_ge 0 m with y | y
        · exact y
        · obtain rfl : m = 0 := by omega
          exact absurd (show nI 0 < (1 : Int32) by decide) q1
      obtain ⟨r, e, g1, g2⟩ := pz_mostSung (c := ch.1.1) (N := N) (m := m) (E := N + 1 - m) (o := ch.2.1) (p1 := q) hN hC.1 hm rfl hm1
      rw [e, fl_bd_some, pz_M_mostTimes hN hf0 hcf hm rfl hm1, fl_bd_some]
      by_cases y : q = 0
      · obtain ⟨r2, e2, h2⟩ := pz_M_mostPlace (rf := (((0 : Int32), (0 : Int32)).2)) (m := m) (E := N + 1 - m) hN hf0 hcf hm rfl hm1
        rw [if_pos y, e2]
        obtain rfl := pz_SP_uniq (g2 y) h2
        exact ⟨_, rfl, rfl⟩
      · rw [if_neg y, g1 y]
        exact ⟨_, rfl, rfl⟩
