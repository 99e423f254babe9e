/-! THE VERSE THAT IS ABOUT TO BE SUNG; COPIES OF A SONG AND OF A CHOIR, on both sides -/
theorem pz_canSing {tx : fl_Ln} {sc : fl_A} {ss : Int32} {L : Nat} (hT : pz_TX tx sc ss L) : (P_Ln_fitsVerse 40 tx = some 0 ∧ P_M_canSing sc ss = some 0) ∨ (P_Ln_fitsVerse 40 tx = some 1 ∧ P_M_canSing sc ss = some 1 ∧ 1 ≤ L ∧ L ≤ 12) := by
  obtain ⟨r, e1, e2, h1⟩ := pz_fault hT
  have hL := hT.1
  unfold P_Ln_fitsVerse P_M_canSing
  rw [pz_isPattern e1, e2, fl_bd_some, fl_bd_some, hT.2.1, hT.2.2.1]
  by_cases q : L ≤ 12
  · have q2 : ¬ (12 : Int32) < nI L := nI_nlt (a := 12) q (by decide)
    rw [if_neg q2, if_neg q2]
    by_cases y : r = -1
    · right
      rw [if_pos y, if_pos y, if_neg (show ¬ (1 : Int32) = 0 by decide)]
      exact ⟨rfl, rfl, h1 y, q⟩
    · left
      rw [if_neg y, if_neg y, if_pos rfl]
      exact ⟨rfl, rfl⟩
  · left
    have q2 : (12 : Int32) < nI L := nI_lt (a := 12) (by omega) (by omega)
    rw [if_pos q2, if_pos q2]
    refine ⟨rfl, ?_⟩
    split <;> rfl
theorem pz_add {t : fl_Ln} {k : Nat} {p : Int32} (ht : t.2 = nI k) (hk : k < 12) : P_Ln_add 12 t p = some (upd t.1 k p, nI (k + 1)) := by
  unfold P_Ln_add
  rw [ht, if_neg (nI_pos (by omega)), if_neg (nI_ge hk (by decide)), pz_ck hk (by decide), nI_clamp (by omega), nI_1]
theorem pz_takeLine {tx fh : fl_Ln} {L : Nat} (h2 : tx.2 = nI L) (hL : L ≤ 12) : ∃ u, P_Ln_takeLine 12 40 fh tx = some u ∧ u.2 = nI L ∧ ∀ i, i < L → u.1 i = tx.1 i := by
  unfold P_Ln_takeLine P_Ln_empty
  rw [fl_bd_some]
  exact fl_loop_inv (b := P_Ln_takeLine_L6 12 40 tx) (fun n z => ∃ t, z.1 = nI t ∧ t ≤ L ∧ n = L - t ∧ z.2.2 = nI t ∧ ∀ i, i < t → z.2.1 i = tx.1 i) (fun u => u.2 = nI L ∧ ∀ i, i < L → u.1 i = tx.1 i) (by
    rintro n ⟨z1, z2⟩ ⟨t, rfl, ht, rfl, hz2, hz⟩
    unfold P_Ln_takeLine_L6 P_Ln_codeAt
    dsimp only at hz2 hz ⊢
    rw [h2]
    by_cases hlt : t < L
    · left
      rw [if_neg (nI_ge hlt (by omega)), pz_cellOf (by omega) (by decide), fl_bd_some, fl_bd_some, pz_add hz2 (by omega), fl_bd_some, nI_1]
      refine ⟨_, L - (t + 1), rfl, by omega, t + 1, rfl, by omega, rfl, rfl, fun i hi => ?_⟩
      dsimp only
      by_cases y : i = t
      · subst y; rw [pz_updS]
      · rw [pz_updN y]; exact hz i (by omega)
    · right
      obtain rfl : t = L := by omega
      rw [if_pos (nI_le (Nat.le_refl _) (by omega))]
      exact ⟨_, rfl, hz2, hz⟩) L (0, fh.1, 0) ⟨0, rfl, Nat.zero_le _, rfl, rfl, fun i hi => absurd hi (Nat.not_lt_zero _)⟩
theorem pz_takeText {tx fh : fl_Ln} {sc fr : fl_A} {ss fs : Int32} {L : Nat} (hT : pz_TX tx sc ss L) (hL : L ≤ 12) : ∃ u fr', P_Ln_takeLine 12 40 fh tx = some u ∧ P_M_takeText sc ss fr fs = some (fr', nI L) ∧ u.2 = nI L ∧ ∀ i, i < L → fr' i = u.1 i := by
  obtain ⟨u, e, h1, h2⟩ := pz_takeLine (fh := fh) hT.2.1 hL
  obtain ⟨r, e2, h3, -⟩ := pz_copy (A := 40) (B := 12) (s := 0) (d := 0) (n := L) (f := sc) (g := fr) (by decide) (by decide) (by have := hT.1; omega) (by omega)
  refine ⟨u, r, e, ?_, h1, fun i hi => ?_⟩
  · unfold P_M_takeText
    rw [hT.2.2.1]
    have e3 : P_M_copy 40 12 sc fr (0 : Int32) (0 : Int32) (nI L) = some r := e2
    rw [e3, fl_bd_some]
  · have h4 := h3 i hi
    rw [Nat.zero_add] at h4
    rw [h4, h2 i hi, hT.2.2.2 i (by omega)]
theorem pz_takeVerse {fh : fl_Ln} {g : fl_Sg} {f od rk be fr : fl_A} {fs : Int32} {N V v : Nat} {c : Nat → Int32} {len : Nat → Nat} (hg : pz_SG g N V c len) (hf : pz_SF f N V c len) (hs : pz_sum len V = N) (hN : N ≤ 48) (hV : V ≤ 48) (hv : v < V) (hl12 : len v ≤ 12) :
    ∃ u fr', P_Ln_takeVerse 12 fh g (nI v) = some u ∧ u.2 = nI (len v) ∧ (∀ i, i < len v → fr' i = u.1 i) ∧ P_M_againIn od rk be fr fs f (nI v) = fl_bd (P_M_singIn od rk be fr' (nI (len v)) f) (fun q3 => some (q3.1, q3.2.1, q3.2.2.1, q3.2.2.2.1, fr', nI (len v), q3.2.2.2.2)) := by
  have hto := pz_end_le hs hv
  have hfv := hf.2.2.2 v hv
  have hst := pz_startOf hg hV (Nat.le_of_lt hv)
  have hbg := pz_beginOf hf (by omega) (Nat.le_of_lt hv)
  have hlo := pz_lengthOf hg hV hv
  generalize pz_sum len v = a at *
  generalize len v = l at *
  obtain ⟨u, e, h1, h2⟩ := fl_loop_inv (b := P_Ln_takeVerse_L22 12 g (nI (a + l))) (fun n z => ∃ t, z.1 = nI (a + t) ∧ t ≤ l ∧ n = l - t ∧ z.2.2 = nI t ∧ ∀ i, i < t → z.2.1 i = c (a + i)) (fun u => u.2 = nI l ∧ ∀ i, i < l → u.1 i = c (a + i)) (by
    rintro n ⟨z1, z2⟩ ⟨t, rfl, ht, rfl, hz2, hz⟩
    unfold P_Ln_takeVerse_L22 P_Sg_codeAt
    dsimp only at hz2 hz ⊢
    by_cases hlt : t < l
    · left
      rw [if_neg (nI_ge (by omega) (by omega)), pz_cellOf (by omega) (by decide), fl_bd_some, fl_bd_some, pz_add hz2 (by omega), fl_bd_some, nI_1]
      refine ⟨_, l - (t + 1), rfl, by omega, t + 1, by rw [Nat.add_assoc], by omega, rfl, rfl, fun i hi => ?_⟩
      dsimp only
      by_cases y : i = t
      · subst y; rw [pz_updS]; exact hg.2.2.1 _ (by omega)
      · rw [pz_updN y]; exact hz i (by omega)
    · right
      obtain rfl : t = l := by omega
      rw [if_pos (nI_le (Nat.le_refl _) (by omega))]
      exact ⟨_, rfl, hz2, hz⟩) l (nI a, fh.1, 0) ⟨0, rfl, Nat.zero_le _, rfl, rfl, fun i hi => absurd hi (Nat.not_lt_zero _)⟩
  obtain ⟨r, e2, h3, -⟩ := pz_copy (A := 126) (B := 12) (s := 66 + a) (d := 0) (n := l) (f := f) (g := fr) (by decide) (by decide) (by omega) (by omega)
  refine ⟨u, r, ?_, h1, fun i hi => ?_, ?_⟩
  · unfold P_Ln_takeVerse P_Ln_empty
    rw [fl_bd_some, hst, fl_bd_some, hlo, fl_bd_some, nI_add]
    exact e
  · have h4 := h3 i hi
    rw [Nat.zero_add] at h4
    rw [h4, h2 i hi, Nat.add_assoc]
    exact hf.2.2.1 _ (by omega)
  · unfold P_M_againIn
    have e3 : P_M_copy 126 12 f fr (nI (66 + a)) (0 : Int32) (nI l) = some r := e2
    rw [pz_6, pz_ck (by omega) (by decide), hbg, fl_bd_some, nI_clamp (n := 6 + v) (by omega), hfv, pz_66, e3, fl_bd_some]
-- ===== copies =====
theorem pz_copyFrom (g h : fl_Sg) : ∃ a b, P_Sg_copyFrom g h = some (a, b, h.2.2) ∧ (∀ i, i < 48 → a i = h.1 i) ∧ ∀ i, i < 48 → b i = h.2.1 i := by
  obtain ⟨a, e1, h1⟩ := pz_copyRow h.1 g.1
  obtain ⟨b, e2, h2⟩ := pz_copyRow h.2.1 g.2.1
  refine ⟨a, b, ?_, h1, h2⟩
  unfold P_Sg_copyFrom
  rw [e1, fl_bd_some, e2, fl_bd_some]
/-- a copy of a song and a copy of its row go together as they did -/
theorem pz_R_copy {g : fl_Sg} {f f' a b : fl_A} {N V S : Nat} {c : Nat → Int32} {len : Nat → Nat} (hR : pz_R g f N V S c len) (hN : N ≤ 48) (hV : V ≤ 48) (ha : ∀ i, i < 48 → a i = g.1 i) (hb : ∀ i, i < 48 → b i = g.2.1 i) (hf' : ∀ i, i < 126 → f' i = f i) : pz_R (a, b, g.2.2) f' N V S c len := by
  obtain ⟨⟨g1, g2, g3, g4⟩, gS, ⟨m1, m2, m3, m4⟩, mS, h3, h4, h5⟩ := hR
  refine ⟨⟨g1, g2, fun i hi => ?_, fun v hv => ?_⟩, gS, ⟨?_, ?_, fun i hi => ?_, fun v hv => ?_⟩, ?_, ?_, ?_, ?_⟩
  · dsimp only; rw [ha i (by omega)]; exact g3 i hi
  · dsimp only; rw [hb v (by omega)]; exact g4 v hv
  · rw [hf' 0 (by decide)]; exact m1
  · rw [hf' 1 (by decide)]; exact m2
  · rw [hf' _ (by omega)]; exact m3 i hi
  · rw [hf' _ (by omega)]; exact m4 v hv
  · rw [hf' 2 (by decide)]; exact mS
  · rw [hf' 3 (by decide)]; exact h3
  · rw [hf' 4 (by decide)]; exact h4
  · rw [hf' 5 (by decide)]; exact h5
theorem pz_OR_copy {c c' : Nat → Int32} {N : Nat} {o : fl_Or} {r1 r2 r3 r4 r5 : fl_A} (ho : pz_OR c N o) (hN : N ≤ 48) (hc : ∀ i, i < N → c i = c' i) (h1 : ∀ i, i < 48 → r1 i = o.2.1 i) (h2 : ∀ i, i < 48 → r2 i = o.2.2.1 i) (h3 : ∀ i, i < 48 → r3 i = o.2.2.2.1 i) (h4 : ∀ i, i < 48 → r4 i = o.2.2.2.2.1 i) : pz_OR c' N (o.1, r1, r2, r3, r4, r5) := by
  obtain ⟨e0, e1, e2, e3, e4⟩ := ho
  refine ⟨e0, fun i hi => ?_, fun i hi => ?_, fun i hi => ?_, fun i hi => ?_⟩
  · dsimp only; rw [h1 i (by omega), ← pz_rk_congr hc]; exact e1 i hi
  · have := pz_rk_lt (c := c) hi
    dsimp only; rw [← pz_rk_congr hc, h2 _ (by omega)]; exact e2 i hi
  · dsimp only; rw [h3 i (by omega), ← pz_sh_congr hc]; exact e3 i hi
  · dsimp only; rw [h4 i (by omega), ← pz_rp_congr hc]; exact e4 i hi
/-- trying begins: the component copies its choir, the model its row -/
theorem pz_begin {pn tl : fl_Ch} {nw tr : fl_A} {N V S : Nat} {c : Nat → Int32} {len : Nat → Nat} (hR : pz_R pn.1 nw N V S c len) (hO : pz_OK N V S len) (hC : pz_CH pn N S) :
    ∃ ch tr', P_Ch_becomeChoir tl pn = some ch ∧ P_M_begin nw tr = some tr' ∧ pz_R ch.1 tr' N V S c len ∧ pz_CH ch N S := by
  have hVN := pz_OK_V hO
  have hN := hO.1
  obtain ⟨a, b, e1, ha, hb⟩ := pz_copyFrom tl.1 pn.1
  obtain ⟨r1, e2, h1⟩ := pz_copyRow pn.2.1.2.1 tl.2.1.2.1
  obtain ⟨r2, e3, h2⟩ := pz_copyRow pn.2.1.2.2.1 tl.2.1.2.2.1
  obtain ⟨r3, e4, h3⟩ := pz_copyRow pn.2.1.2.2.2.1 tl.2.1.2.2.2.1
  obtain ⟨r4, e5, h4⟩ := pz_copyRow pn.2.1.2.2.2.2.1 tl.2.1.2.2.2.2.1
  obtain ⟨r5, e6, h5⟩ := pz_copyRow pn.2.2.1 tl.2.2.1
  obtain ⟨tr', e7, h7, -⟩ := pz_copy (A := 126) (B := 126) (s := 0) (d := 0) (n := 126) (f := nw) (g := tr) (by decide) (by decide) (by decide) (by decide)
  have e8 : P_M_copy 126 126 nw tr (0 : Int32) (0 : Int32) (126 : Int32) = some tr' := e7
  have hcc : ∀ i, i < N → pn.1.1 i = a i := fun i hi => (ha i (by omega)).symm
  refine ⟨((a, b, pn.1.2.2), (pn.2.1.1, r1, r2, r3, r4, tl.2.1.2.2.2.2.2), r5, tl.2.2.2), tr', ?_, ?_, pz_R_copy hR hN (by omega) ha hb (fun i hi => ?_), pz_OR_copy hC.1 hN hcc h1 h2 h3 h4, fun i hi => ?_⟩
  · unfold P_Ch_becomeChoir P_Or_copyFrom
    rw [e1, fl_bd_some, e2, fl_bd_some, e3, fl_bd_some, e4, fl_bd_some, e5, fl_bd_some, fl_bd_some, e6, fl_bd_some]
  · unfold P_M_begin
    rw [e8, fl_bd_some]
  · have := h7 i hi
    rw [Nat.zero_add] at this
    exact this
  · have := pz_rk_lt (c := pn.1.1) hi
    dsimp only
    rw [h5 i (by omega), ← pz_rk_congr hcc]
    exact hC.2 i hi
/-- a choir that takes over a song -/
theorem pz_becomeSong {pn : fl_Ch} {tg : fl_Sg} {f f' : fl_A} {N V S : Nat} {c : Nat → Int32} {len : Nat → Nat} (hR : pz_R tg f N V S c len) (hO : pz_OK N V S len) (hf' : ∀ i, i < 126 → f' i = f i) :
    ∃ ch, P_Ch_becomeSong pn tg = some ch ∧ pz_R ch.1 f' N V S c len ∧ pz_CH ch N S := by
  have hVN := pz_OK_V hO
  obtain ⟨hN, hsum, hlen, hS1, hS8⟩ := hO
  obtain ⟨a, b, e1, ha, hb⟩ := pz_copyFrom pn.1 tg
  have hR2 := pz_R_copy hR hN (by omega) ha hb hf'
  obtain ⟨o', e2, ho⟩ := pz_arrange (o := pn.2.1) (g := (a, b, tg.2.2)) (N := N) hN hR2.1.1
  obtain ⟨ke, e3, hke⟩ := pz_shareOut (ch := ((a, b, tg.2.2), o', pn.2.2.1, pn.2.2.2)) (N := N) (S := S) hN hS1 hS8 hR2.1.1 hR2.2.1 ho
  refine ⟨((a, b, tg.2.2), o', ke, pn.2.2.2), ?_, hR2, ho, hke⟩
  unfold P_Ch_becomeSong
  rw [e1, fl_bd_some, e2, fl_bd_some, e3, fl_bd_some]
