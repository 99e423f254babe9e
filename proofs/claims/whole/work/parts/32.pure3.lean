/-! THE COMPONENT'S ORDER, ITS LOOPS -/
/-- the rows while place p is compared with those below j -/
def pz_O1 (c : Nat → Int32) (N p j : Nat) (pl : fl_A) (o : fl_Or) : Prop := o.1 = nI N ∧ o.2.2.1 = pl ∧ (∀ i, i < N → o.2.1 i = nI (pz_rk1 c N p j i)) ∧ (∀ i, i < N → o.2.2.2.1 i = nI (pz_sh1 c N p j i)) ∧ (∀ i, i < N → o.2.2.2.2.1 i = nI (pz_rp1 c N p j i)) ∧ (∀ t, p < t → t < j → o.2.2.2.2.2 t = nI (pz_L c N p t)) ∧ (∀ t, p + 1 < t → j ≤ t → t < N → o.2.2.2.2.2 t = nI (pz_L c N (p + 1) t)) ∧ o.2.2.2.2.2 N = nI 0
def pz_O0 (c : Nat → Int32) (N p : Nat) (pl : fl_A) (o : fl_Or) : Prop := o.1 = nI N ∧ o.2.2.1 = pl ∧ (∀ i, i < N → o.2.1 i = nI (pz_rk0 c N p i)) ∧ (∀ i, i < N → o.2.2.2.1 i = nI (pz_sh0 c N p i)) ∧ (∀ i, i < N → o.2.2.2.2.1 i = nI (pz_rp0 c N p i)) ∧ (∀ t, p < t → t < N → o.2.2.2.2.2 t = nI (pz_L c N p t)) ∧ o.2.2.2.2.2 N = nI 0
theorem pz_L_end (c : Nat → Int32) (N x : Nat) : pz_L c N x N = 0 := by rw [pz_L_step, if_neg (by omega)]
theorem pz_rk0_le (c : Nat → Int32) (N p i : Nat) : pz_rk0 c N p i ≤ N := by
  unfold pz_rk0
  split
  · exact Nat.zero_le _
  · exact Nat.le_trans (pz_cnt_le N) (Nat.sub_le _ _)
theorem pz_rk1_le (c : Nat → Int32) {N p j i : Nat} (hj : j ≤ N) : pz_rk1 c N p j i ≤ N := by
  unfold pz_rk1
  split
  · exact Nat.zero_le _
  · split
    · exact Nat.le_trans (pz_cnt_le j) (by omega)
    · split
      · exact Nat.le_trans (pz_cnt_le N) (Nat.sub_le _ _)
      · exact Nat.le_trans (pz_cnt_le N) (Nat.sub_le _ _)
theorem pz_Lle {c : Nat → Int32} {N i j : Nat} (hj : j < N) : pz_L c N i j ≤ N := by
  have h := (pz_L_spec c N i j).1
  cases hk : pz_L c N i j with
  | zero => exact Nat.zero_le _
  | succ k => have := h k (by omega); omega
theorem pz_sh1_le (c : Nat → Int32) {N p j i : Nat} (hi : i < N) : pz_sh1 c N p j i ≤ N := by
  unfold pz_sh1
  split
  · exact Nat.zero_le _
  · split
    · exact pz_max_le _ (fun u _ _ _ => pz_Lle hi)
    · split <;> exact pz_max_le _ (fun u _ _ _ => pz_Lle hi)
theorem pz_rp1_le (c : Nat → Int32) {N p j i : Nat} (hi : i < N) : pz_rp1 c N p j i ≤ N := by
  unfold pz_rp1
  split
  · exact Nat.zero_le _
  · split
    · exact pz_max_le _ (fun u _ _ _ => pz_Lle hi)
    · split <;> exact pz_max_le _ (fun u _ _ _ => pz_Lle hi)
theorem pz_m1 (n : Nat) : nI n + (-1 : Int32) = nI n - nI 1 := by
  cases n with
  | zero => decide
  | succ n => rw [pk_m1, pk_sub (by omega)]; rfl
theorem pz_compare {c : fl_A} {N p : Nat} {pl : fl_A} {o : fl_Or} (hN : N ≤ 48) (hp : p < N) (ho : pz_O0 c N (p + 1) pl o) : ∃ o', P_Or_compareWithLater o c (nI p) = some o' ∧ pz_O0 c N p pl o' := by
  have hstart : pz_O1 c N p (p + 1) pl o := by
    obtain ⟨h1, h2, h3, h4, h5, h6, h6N⟩ := ho
    refine ⟨h1, h2, fun i hi => ?_, fun i hi => ?_, fun i hi => ?_, fun t h7 h8 => by omega, fun t h7 h8 h9 => h6 t h7 h9, h6N⟩
    · rw [pz_rk1_first]; exact h3 i hi
    · rw [pz_sh1_first]; exact h4 i hi
    · rw [pz_rp1_first]; exact h5 i hi
  have hloop := fl_loop_inv (b := P_Or_compareWithLater_L26 c (nI p)) (fun n z => ∃ j, z.1 = nI j ∧ p < j ∧ j ≤ N ∧ n = N - j ∧ pz_O1 c N p j pl z.2) (fun o' => pz_O0 c N p pl o') (by
    rintro n ⟨z, o⟩ ⟨j, rfl, hpj, hjN, rfl, h1, h2, h3, h4, h5, h6, h7, h7N⟩
    dsimp only at h1 h2 h3 h4 h5 h6 h7 h7N
    unfold P_Or_compareWithLater_L26
    dsimp only
    rw [h1]
    by_cases hj : j < N
    · left
      rw [if_neg (nI_ge hj (by omega)), pz_ck (by omega) (by decide), pz_ck (by omega) (by decide), nI_clamp (n := p) (by omega), nI_clamp (n := j) (by omega), nI_1, pz_ck (by omega) (by decide), nI_clamp (n := j + 1) (by omega)]
      have hk : pz_L c N p j = if c p = c j then pz_L c N (p + 1) (j + 1) + 1 else 0 := by
        rw [pz_L_step]
        by_cases q : c p = c j
        · rw [if_pos ⟨hp, hj, q⟩, if_pos q]
        · rw [if_neg (fun z => q z.2.2), if_neg q]
      have hJ : (if c p = c j then P_Or_compareWithLater_J57 o c (nI p) (nI j) (o.2.2.2.2.2 (j + 1) + (1 : Int32)) else P_Or_compareWithLater_J57 o c (nI p) (nI j) (0 : Int32)) = P_Or_compareWithLater_J57 o c (nI p) (nI j) (nI (pz_L c N p j)) := by
        have hr : o.2.2.2.2.2 (j + 1) = nI (pz_L c N (p + 1) (j + 1)) := by
          rcases Nat.lt_or_ge (j + 1) N with q | q
          · exact h7 (j + 1) (by omega) (by omega) q
          · obtain rfl : N = j + 1 := by omega
            rw [pz_L_end, h7N]
        rw [hr, nI_1, hk]
        by_cases q : c p = c j
        · rw [if_pos q, if_pos q]
        · rw [if_neg q, if_neg q]; rfl
      rw [hJ, pz_J57 hN hpj hj h1 rfl]
      refine ⟨_, N - (j + 1), rfl, by omega, j + 1, rfl, by omega, by omega, rfl, h1, h2, fun i hi => ?_, fun i hi => ?_, fun i hi => ?_, fun t h8 h9 => ?_, fun t h8 h9 h10 => ?_, ?_⟩
      · rw [pz_rk1_step c hpj hj]
        by_cases q : i = pz_w c N p j
        · rw [if_pos q, ← q]
          show upd o.2.1 i (o.2.1 i + 1) i = _
          rw [pz_updS, h3 i hi, nI_1]
        · rw [if_neg q]
          show upd o.2.1 (pz_w c N p j) (o.2.1 (pz_w c N p j) + 1) i = _
          rw [pz_updN q, h3 i hi]
      · rw [pz_sh1_step c hpj hj]
        by_cases q : i = pz_w c N p j
        · rw [if_pos q, ← q]
          show upd o.2.2.2.1 i (fl_mx (o.2.2.2.1 i) (nI (pz_L c N p j))) i = _
          have e1 := pz_sh1_le c (p := p) (j := j) hi
          have e2 := pz_Lle (c := c) (i := p) hj
          rw [pz_updS, h4 i hi, pz_mxI (by omega) (by omega)]
        · rw [if_neg q]
          show upd o.2.2.2.1 (pz_w c N p j) _ i = _
          rw [pz_updN q, h4 i hi]
      · rw [pz_rp1_step c hpj hj]
        have e2 := pz_Lle (c := c) (i := p) hj
        show upd (upd o.2.2.2.2.1 p (fl_mx (o.2.2.2.2.1 p) (nI (pz_L c N p j)))) j (fl_mx (o.2.2.2.2.1 j) (nI (pz_L c N p j))) i = _
        have e1 := pz_rp1_le c (p := p) (j := j) hi
        by_cases q : i = j
        · rw [if_pos (Or.inr q)]
          subst q
          rw [pz_updS, h5 i hi, pz_mxI (by omega) (by omega)]
        · rw [pz_updN q]
          by_cases q2 : i = p
          · rw [if_pos (Or.inl q2)]
            subst q2
            rw [pz_updS, h5 i hi, pz_mxI (by omega) (by omega)]
          · rw [if_neg (by omega), pz_updN q2, h5 i hi]
      · show upd o.2.2.2.2.2 j (nI (pz_L c N p j)) t = _
        by_cases q : t = j
        · subst q; rw [pz_updS]
        · rw [pz_updN q, h6 t h8 (by omega)]
      · show upd o.2.2.2.2.2 j (nI (pz_L c N p j)) t = _
        rw [pz_updN (by omega), h7 t h8 (by omega) h10]
      · show upd o.2.2.2.2.2 j (nI (pz_L c N p j)) N = _
        rw [pz_updN (by omega), h7N]
    · right
      obtain rfl : j = N := by omega
      rw [if_pos (nI_le (Nat.le_refl _) (by omega))]
      refine ⟨o, rfl, h1, h2, fun i hi => ?_, fun i hi => ?_, fun i hi => ?_, fun t h8 h9 => h6 t h8 h9, h7N⟩
      · rw [← pz_rk1_last c p hi]; exact h3 i hi
      · rw [← pz_sh1_last c p hi]; exact h4 i hi
      · rw [← pz_rp1_last c p hi]; exact h5 i hi)
  obtain ⟨o', e, h⟩ := hloop (N - (p + 1)) (nI (p + 1), o) ⟨p + 1, rfl, by omega, by omega, rfl, hstart⟩
  refine ⟨o', ?_, h⟩
  unfold P_Or_compareWithLater
  rw [if_neg (nI_pos (by omega)), if_neg (by rw [ho.1]; exact nI_ge hp (by omega)), if_pos (by rw [ho.1]; exact nI_le hN (by decide)), nI_1]
  exact e
/-- what the order says of the places -/
def pz_OR (c : Nat → Int32) (N : Nat) (o : fl_Or) : Prop := o.1 = nI N ∧ (∀ i, i < N → o.2.1 i = nI (pz_rk c N i)) ∧ (∀ i, i < N → o.2.2.1 (pz_rk c N i) = nI i) ∧ (∀ i, i < N → o.2.2.2.1 i = nI (pz_sh c N i)) ∧ (∀ i, i < N → o.2.2.2.2.1 i = nI (pz_rp c N i))
theorem pz_cnt_mono {P Q : Nat → Bool} {a : Nat} : ∀ b, (∀ i, a ≤ i → i < b → P i = true → Q i = true) → pz_cnt P a b ≤ pz_cnt Q a b := by
  intro b
  induction b with
  | zero => intro _; exact Nat.le_refl _
  | succ b ih =>
    intro h
    have h1 := ih (fun i h1 h2 => h i h1 (by omega))
    by_cases q : a ≤ b ∧ P b = true
    · rw [pz_cnt_t q.1 q.2, pz_cnt_t q.1 (h b q.1 (by omega) q.2)]; omega
    · rw [pz_cnt_f q]
      by_cases q2 : a ≤ b ∧ Q b = true
      · rw [pz_cnt_t q2.1 q2.2]; omega
      · rw [pz_cnt_f q2]; exact h1
theorem pz_cnt_lt {P Q : Nat → Bool} {a x : Nat} : ∀ b, (∀ i, a ≤ i → i < b → P i = true → Q i = true) → a ≤ x → x < b → P x = false → Q x = true → pz_cnt P a b < pz_cnt Q a b := by
  intro b
  induction b with
  | zero => intro _ _ h; omega
  | succ b ih =>
    intro h h1 h2 h3 h4
    rcases Nat.lt_or_ge x b with q | q
    · have h5 := ih (fun i h1 h2 => h i h1 (by omega)) h1 q h3 h4
      by_cases q : a ≤ b ∧ P b = true
      · rw [pz_cnt_t q.1 q.2, pz_cnt_t q.1 (h b q.1 (by omega) q.2)]; omega
      · rw [pz_cnt_f q]
        by_cases q2 : a ≤ b ∧ Q b = true
        · rw [pz_cnt_t q2.1 q2.2]; omega
        · rw [pz_cnt_f q2]; exact h5
    · obtain rfl : x = b := by omega
      have h5 := pz_cnt_mono (P := P) (Q := Q) (a := a) x (fun i h1 h2 => h i h1 (by omega))
      rw [pz_cnt_f (fun z => by rw [h3] at z; cases z.2), pz_cnt_t h1 h4]; omega
theorem pz_rk_lt_of {c : Nat → Int32} {N i j : Nat} (hi : i < N) (h : pz_A c N i j) : pz_rk c N i < pz_rk c N j := by
  unfold pz_rk
  refine pz_cnt_lt (x := i) N (fun u _ _ hu => ?_) (Nat.zero_le _) hi (pz_a_self c N i) (pz_a_iff.mpr h)
  exact pz_a_iff.mpr (pz_A_trans (pz_a_iff.mp hu) h).1
theorem pz_rk_inj {c : Nat → Int32} {N i j : Nat} (hi : i < N) (hj : j < N) (h : pz_rk c N i = pz_rk c N j) : i = j := by
  by_cases q : i = j
  · exact q
  · rcases pz_A_tot (c := c) hi hj q with z | z
    · have := pz_rk_lt_of hi z; omega
    · have := pz_rk_lt_of hj z; omega
theorem pz_rk_lt {c : Nat → Int32} {N i : Nat} (hi : i < N) : pz_rk c N i < N := by
  have h := pz_cnt_lt (P := fun j => pz_a c N j i) (Q := fun _ => true) (a := 0) (x := i) N (fun _ _ _ _ => rfl) (Nat.zero_le _) hi (pz_a_self c N i) rfl
  have h2 := pz_cnt_le (P := fun _ => true) (a := 0) N
  unfold pz_rk
  omega
theorem pz_rk_iff {c : Nat → Int32} {N i j : Nat} (hi : i < N) (hj : j < N) : pz_rk c N i < pz_rk c N j ↔ pz_A c N i j := by
  refine ⟨fun h => ?_, fun h => pz_rk_lt_of hi h⟩
  have hne : i ≠ j := fun z => by rw [z] at h; omega
  rcases pz_A_tot (c := c) hi hj hne with z | z
  · exact z
  · have := pz_rk_lt_of hj z; omega
theorem pz_arrange {o : fl_Or} {g : fl_Sg} {N : Nat} (hN : N ≤ 48) (hg : g.2.2.1 = nI N) : ∃ o', P_Or_arrange o g = some o' ∧ pz_OR g.1 N o' := by
  have hfin : ∀ o1 : fl_Or, pz_O0 g.1 N 0 o1.2.2.1 o1 → ∃ o', P_Or_arrange_J90 o1 g = some o' ∧ pz_OR g.1 N o' := by
    intro o1 h1
    obtain ⟨e1, -, e3, e4, e5, -⟩ := h1
    have hrk : ∀ i, i < N → o1.2.1 i = nI (pz_rk g.1 N i) := fun i hi => by rw [e3 i hi]; rfl
    have hlp := fl_loop_inv (b := P_Or_arrange_L92 g) (fun n z => ∃ t, z.1 = nI t ∧ t ≤ N ∧ n = N - t ∧ z.2.1 = nI N ∧ z.2.2.1 = o1.2.1 ∧ z.2.2.2.2 = o1.2.2.2 ∧ ∀ i, i < t → z.2.2.2.1 (pz_rk g.1 N i) = nI i) (fun o' => pz_OR g.1 N o') (by
      rintro n ⟨z, o2⟩ ⟨t, rfl, ht, rfl, f1, f2, f3, f4⟩
      dsimp only at f1 f2 f3 f4
      unfold P_Or_arrange_L92
      dsimp only
      rw [f1]
      by_cases hlt : t < N
      · left
        have hr := pz_rk_lt (c := g.1) hlt
        have hrt : o2.2.1 t = nI (pz_rk g.1 N t) := by rw [f2]; exact hrk t hlt
        rw [if_neg (nI_ge hlt (by omega)), pz_ck (by omega) (by decide), nI_clamp (n := t) (by omega), hrt, if_neg (nI_pos (by omega)), pz_ck (by omega) (by decide), if_neg (nI_ge (by omega) (by decide)), pz_ck (by omega) (by decide), pz_ck (by omega) (by decide), nI_clamp (by omega)]
        unfold P_Or_arrange_J135
        rw [nI_1]
        refine ⟨_, N - (t + 1), rfl, by omega, t + 1, rfl, by omega, rfl, rfl, f2, f3, fun i hi => ?_⟩
        show upd o2.2.2.1 (pz_rk g.1 N t) (nI t) (pz_rk g.1 N i) = nI i
        by_cases q : i = t
        · subst q; rw [pz_updS]
        · rw [pz_updN (fun z => q (pz_rk_inj (by omega) hlt z)), f4 i (by omega)]
      · right
        obtain rfl : t = N := by omega
        rw [if_pos (nI_le (Nat.le_refl _) (by omega))]
        refine ⟨o2, rfl, f1, fun i hi => ?_, f4, fun i hi => ?_, fun i hi => ?_⟩
        · rw [f2]; exact hrk i hi
        · rw [show o2.2.2.2.1 = o1.2.2.2.1 from congrArg (fun z => z.1) f3, e4 i hi]; rfl
        · rw [show o2.2.2.2.2.1 = o1.2.2.2.2.1 from congrArg (fun z => z.2.1) f3, e5 i hi]; rfl)
    unfold P_Or_arrange_J90
    exact hlp N (nI 0, o1) ⟨0, rfl, Nat.zero_le _, rfl, e1, rfl, rfl, fun i hi => by omega⟩
  have hmid : ∀ o1 : fl_Or, o1.1 = nI N → (∀ i, i < N → o1.2.1 i = nI 0 ∧ o1.2.2.2.1 i = nI 0 ∧ o1.2.2.2.2.1 i = nI 0) → ∃ o', P_Or_arrange_J54 o1 g = some o' ∧ pz_OR g.1 N o' := by
    intro o1 h1 h2
    have hlp := fl_loop_inv (b := P_Or_arrange_L71 g) (fun n z => n ≤ N ∧ z.1 = nI n - nI 1 ∧ pz_O0 g.1 N n o1.2.2.1 z.2) (fun o' => pz_OR g.1 N o') (by
      rintro n ⟨z, o2⟩ ⟨hn, rfl, h3⟩
      dsimp only at h3
      unfold P_Or_arrange_L71
      dsimp only
      cases n with
      | zero =>
        right
        rw [if_pos (by decide)]
        have h4 : pz_O0 g.1 N 0 o2.2.2.1 o2 := ⟨h3.1, rfl, h3.2.2⟩
        obtain ⟨o', e, h5⟩ := hfin o2 h4
        refine ⟨o', ?_, h5⟩
        rw [e]; rfl
      | succ n =>
        left
        rw [pk_sub (by omega), show n + 1 - 1 = n by omega, if_neg (nI_pos (by omega))]
        obtain ⟨o3, e, h4⟩ := pz_compare hN (show n < N by omega) h3
        rw [e]
        refine ⟨(nI n - nI 1, o3), n, ?_, by omega, by omega, rfl, h4⟩
        rw [fl_bd_some, pz_m1])
    unfold P_Or_arrange_J54
    rw [h1, pz_ck (by omega) (by decide), nI_clamp (by omega)]
    refine hlp N (nI N - nI 1, _) ⟨Nat.le_refl _, rfl, rfl, rfl, fun i hi => ?_, fun i hi => ?_, fun i hi => ?_, fun t h3 h4 => by omega, ?_⟩
    · rw [pz_rk0, if_pos hi]; exact (h2 i hi).1
    · rw [pz_sh0, if_pos hi]; exact (h2 i hi).2.1
    · rw [pz_rp0, if_pos hi]; exact (h2 i hi).2.2
    · exact pz_updS
  have hlp := fl_loop_inv (b := P_Or_arrange_L19 g) (fun n z => ∃ t, z.1 = nI t ∧ t ≤ N ∧ n = N - t ∧ z.2.1 = nI N ∧ ∀ i, i < t → z.2.2.1 i = nI 0 ∧ z.2.2.2.2.1 i = nI 0 ∧ z.2.2.2.2.2.1 i = nI 0) (fun o' => pz_OR g.1 N o') (by
    rintro n ⟨z, o2⟩ ⟨t, rfl, ht, rfl, f1, f2⟩
    dsimp only at f1 f2
    unfold P_Or_arrange_L19
    dsimp only
    rw [f1]
    by_cases hlt : t < N
    · left
      rw [if_neg (nI_ge hlt (by omega)), pz_ck (by omega) (by decide), pz_ck (by omega) (by decide), pz_ck (by omega) (by decide), nI_clamp (by omega), nI_1]
      refine ⟨_, N - (t + 1), rfl, by omega, t + 1, rfl, by omega, rfl, rfl, fun i hi => ?_⟩
      show upd o2.2.1 t 0 i = nI 0 ∧ upd o2.2.2.2.1 t 0 i = nI 0 ∧ upd o2.2.2.2.2.1 t 0 i = nI 0
      by_cases q : i = t
      · subst q; rw [pz_updS, pz_updS, pz_updS]; exact ⟨rfl, rfl, rfl⟩
      · rw [pz_updN q, pz_updN q, pz_updN q]; exact f2 i (by omega)
    · right
      obtain rfl : t = N := by omega
      rw [if_pos (nI_le (Nat.le_refl _) (by omega))]
      obtain ⟨o', e, h5⟩ := hmid o2 f1 f2
      refine ⟨o', ?_, h5⟩
      rw [e]; rfl)
  unfold P_Or_arrange
  refine hlp N (nI 0, _) ⟨0, rfl, Nat.zero_le _, rfl, ?_, fun i hi => by omega⟩
  show fl_mx (0 : Int32) (fl_mn g.2.2.1 (48 : Int32)) = nI N
  rw [hg, pz_n48, pz_n0, pz_mnI (by omega) (by decide), pz_mxI (by decide) (by omega), Nat.min_eq_left hN, Nat.max_eq_right (Nat.zero_le _)]
