/-! REMEMBERED STATES, UNDO, SLOTS, on both sides -/
def pz_RR (g : fl_Sg) (f : fl_A) : Prop := ∃ N V S c len, pz_R g f N V S c len ∧ pz_OK N V S len
theorem pz_RR_copy {g : fl_Sg} {f f' a b : fl_A} (h : pz_RR g f) (ha : ∀ i, i < 48 → a i = g.1 i) (hb : ∀ i, i < 48 → b i = g.2.1 i) (hf' : ∀ i, i < 126 → f' i = f i) : pz_RR (a, b, g.2.2) f' := by
  obtain ⟨N, V, S, c, len, hR, hO⟩ := h
  have hVN := pz_OK_V hO
  have hN := hO.1
  exact ⟨N, V, S, c, len, pz_R_copy hR hN (by omega) ha hb hf', hO⟩
theorem pz_RR_row {g : fl_Sg} {f f' : fl_A} (h : pz_RR g f) (hf' : ∀ i, i < 126 → f' i = f i) : pz_RR g f' := pz_RR_copy (a := g.1) (b := g.2.1) h (fun _ _ => rfl) (fun _ _ => rfl) hf'
/-- the ring and the diary -/
def pz_HI (ho hs : Int32) (hv : List fl_Sg) (di : fl_A) (ac : Int32) : Prop := ∃ O H : Nat, O < 14 ∧ H ≤ 14 ∧ ho = nI O ∧ hs = nI H ∧ ac = nI H ∧ H ≤ hv.length ∧ hv.length ≤ 14 ∧ (O = 0 ∨ hv.length = 14) ∧ ∀ t, t < H → ∃ g, hv[(O + t) % 14]? = some g ∧ pz_RR g (fun i => di (126 * t + i))
theorem pz_r14 {a : Nat} (ha : a < 2 ^ 31) : nI a - nI a / (14 : Int32) * (14 : Int32) = nI (a % 14) := pk_rem (d := 14) ha (by decide) (by decide)
theorem pz_M_rem {nw di : fl_A} {H : Nat} (hH : H ≤ 14) : ∃ di', P_M_remember nw di (nI H) = some (di', nI (min (H + 1) 14)) ∧ (H < 14 → (∀ t i, t < H → i < 126 → di' (126 * t + i) = di (126 * t + i)) ∧ ∀ i, i < 126 → di' (126 * H + i) = nw i) ∧ (H = 14 → (∀ t i, t < 13 → i < 126 → di' (126 * t + i) = di (126 * (t + 1) + i)) ∧ ∀ i, i < 126 → di' (126 * 13 + i) = nw i) := by
  have hJ : ∀ (d : fl_A) (K : Nat), K ≤ 13 → ∃ d', P_M_remember_J36 nw d (nI K) = some (d', nI (K + 1)) ∧ (∀ i, i < 126 → d' (126 * K + i) = nw i) ∧ ∀ x, x < 126 * K → d' x = d x := by
    intro d K hK
    obtain ⟨d', e, h1, h2⟩ := pz_copy (A := 126) (B := 1764) (s := 0) (d := 126 * K) (n := 126) (f := nw) (g := d) (by decide) (by decide) (by decide) (by omega)
    refine ⟨d', ?_, fun i hi => ?_, fun x hx => h2 x (Or.inl hx)⟩
    · unfold P_M_remember_J36
      have e2 : P_M_copy 126 1764 nw d (0 : Int32) (nI (126 * K)) (126 : Int32) = some d' := e
      rw [show (126 : Int32) * nI K = nI (126 * K) from pk_mul 126 K, e2, fl_bd_some, nI_1]
    · have := h1 i hi
      rw [Nat.zero_add] at this
      exact this
  unfold P_M_remember
  by_cases y : H = 14
  · subst y
    obtain ⟨d1, e, h1, -⟩ := pz_copyS (A := 1764) (s := 126) (d := 0) (n := 1638) (f := di) (by decide) (by decide) (by decide)
    have e2 : P_M_copyS 1764 di (126 : Int32) (0 : Int32) (1638 : Int32) = some d1 := e
    obtain ⟨d', e3, h3, h4⟩ := hJ d1 13 (by omega)
    refine ⟨d', ?_, fun z => absurd z (by omega), fun _ => ⟨fun t i ht hi => ?_, h3⟩⟩
    · rw [if_pos (show nI 14 = (14 : Int32) from rfl), e2, fl_bd_some, show nI 14 - (1 : Int32) = nI 13 from nI_pred 13, e3]
      rfl
    · rw [h4 _ (by omega)]
      have h5 := h1 (126 * t + i) (by omega)
      rw [Nat.zero_add] at h5
      rw [h5]
      congr 1
      omega
  · obtain ⟨d', e3, h3, h4⟩ := hJ di H (by omega)
    refine ⟨d', ?_, fun _ => ⟨fun t i ht hi => h4 _ (by omega), h3⟩, fun z => absurd z y⟩
    rw [if_neg (show ¬ nI H = (14 : Int32) from fun z => y ((nI_eq (b := 14) (by omega) (by decide)).mp z)), e3, Nat.min_eq_left (by omega)]
theorem pz_remember {ho hs ac : Int32} {hv : List fl_Sg} {nw di : fl_A} {g : fl_Sg} (h : pz_HI ho hs hv di ac) (hg : pz_RR g nw) : ∃ ho' hs' hv' di' ac', P_Hi_remember ho hs hv g = some (ho', hs', hv') ∧ P_M_remember nw di ac = some (di', ac') ∧ pz_HI ho' hs' hv' di' ac' := by
  obtain ⟨O, H, hO, hH, rfl, rfl, rfl, hHl, hl, hOl, hall⟩ := h
  obtain ⟨di', em, hm1, hm2⟩ := pz_M_rem (nw := nw) (di := di) hH
  have er : nI O + nI H - (nI O + nI H) / (14 : Int32) * (14 : Int32) = nI ((O + H) % 14) := by rw [nI_add, pz_r14 (by omega)]
  have eix : fl_ix (nI O) (nI H) = (O + H) % 14 := by
    show (nI O + nI H - (nI O + nI H) / (14 : Int32) * (14 : Int32)).toNatClampNeg = _
    rw [er, nI_clamp (by omega)]
  have hi14 : (O + H) % 14 < 14 := Nat.mod_lt _ (by decide)
  have h14 : (14 : Int32) ≤ nI H ↔ H = 14 := by
    constructor
    · intro z
      have := (nI_leI (a := 14) (by decide) (by omega)).mp z
      omega
    · intro z
      rw [z]; decide
  -- the state that is remembered
  have hstep : ∃ a b, (∀ i, i < 48 → a i = g.1 i) ∧ (∀ i, i < 48 → b i = g.2.1 i) ∧ ∃ hv', P_Hi_remember (nI O) (nI H) hv g = some ((if H = 14 then nI ((O + 1) % 14) else nI O), (if H = 14 then nI H else nI (H + 1)), hv') ∧ (hv'[(O + H) % 14]? = some (a, b, g.2.2)) ∧ (∀ j, j ≠ (O + H) % 14 → ∀ x, hv[j]? = some x → hv'[j]? = some x) ∧ hv'.length = max hv.length ((O + H) % 14 + 1) := by
    cases hx : hv[(O + H) % 14]? with
    | some v =>
      have hlt := (List.getElem?_eq_some_iff.mp hx).1
      obtain ⟨a, b, ec, ha, hb⟩ := pz_copyFrom v g
      refine ⟨a, b, ha, hb, hv.set ((O + H) % 14) (a, b, g.2.2), ?_, List.getElem?_set_self hlt, fun j hj x hxj => ?_, ?_⟩
      · unfold P_Hi_remember
        rw [eix, hx]
        show fl_bd (P_Hi_remB (nI O) (nI H) g v) (fun r => some (r.1, r.2.1, hv.set ((O + H) % 14) r.2.2)) = _
        unfold P_Hi_remB
        rw [er, if_neg (nI_pos (by omega)), if_pos (nI_lt hi14 (by decide)), pz_ck hi14 (by decide), pz_ck hi14 (by decide), ec, fl_bd_some, show nI O + (1 : Int32) - (nI O + (1 : Int32)) / (14 : Int32) * (14 : Int32) = nI ((O + 1) % 14) by rw [nI_1, pz_r14 (by omega)], nI_1]
        by_cases y : H = 14
        · rw [if_pos (h14.mpr y), fl_bd_some, if_pos y, if_pos y]
        · rw [if_neg (fun z => y (h14.mp z)), fl_bd_some, if_neg y, if_neg y]
      · rw [List.getElem?_set_ne (fun z => hj z.symm)]
        exact hxj
      · rw [List.length_set]
        omega
    | none =>
      have hge := List.getElem?_eq_none_iff.mp hx
      have hO0 : O = 0 := by omega
      subst hO0
      have hHe : (0 + H) % 14 = hv.length := by omega
      have hH14 : ¬ H = 14 := by omega
      obtain ⟨a, b, ec, ha, hb⟩ := pz_copyFrom (((fun _ => 0), (fun _ => 0), (0 : Int32), (0 : Int32), (1 : Int32), (0 : Int32), (0 : Int32), (0 : Int32)) : fl_Sg) g
      refine ⟨a, b, ha, hb, hv ++ [(a, b, g.2.2)], ?_, ?_, fun j hj x hxj => ?_, ?_⟩
      · unfold P_Hi_remember
        rw [eix, hx]
        show (if (0 + H) % 14 = hv.length then fl_bd (P_Hi_remA (nI 0) (nI H) g) (fun r => some (r.1, r.2.1, hv ++ [r.2.2])) else none) = _
        rw [if_pos hHe]
        unfold P_Hi_remA
        rw [er, if_neg (nI_pos (by omega)), if_pos (nI_lt hi14 (by decide)), pz_ck hi14 (by decide), pz_ck hi14 (by decide), pz_ck hi14 (by decide), ec, fl_bd_some, if_neg (fun z => hH14 (h14.mp z)), fl_bd_some, nI_1, if_neg hH14, if_neg hH14]
      · rw [hHe]
        simp
      · have hjl := (List.getElem?_eq_some_iff.mp hxj).1
        rw [List.getElem?_append_left hjl]
        exact hxj
      · rw [List.length_append, hHe]
        simp
  obtain ⟨a, b, ha, hb, hv', e1, e2, e3, e4⟩ := hstep
  refine ⟨_, _, hv', di', _, e1, em, ?_⟩
  by_cases y : H = 14
  · subst y
    rw [if_pos rfl, if_pos rfl]
    refine ⟨(O + 1) % 14, 14, Nat.mod_lt _ (by decide), Nat.le_refl _, rfl, rfl, rfl, by omega, by omega, Or.inr (by omega), fun t ht => ?_⟩
    obtain ⟨g1, g2⟩ := hm2 rfl
    by_cases w : t = 13
    · subst w
      refine ⟨(a, b, g.2.2), ?_, pz_RR_copy hg ha hb g2⟩
      rw [← e2]
      congr 1
      omega
    · obtain ⟨x, hx1, hx2⟩ := hall (t + 1) (by omega)
      refine ⟨x, ?_, pz_RR_row hx2 (fun i hi => g1 t i (by omega) hi)⟩
      rw [show ((O + 1) % 14 + t) % 14 = (O + (t + 1)) % 14 by omega]
      exact e3 _ (by omega) x hx1
  · rw [if_neg y, if_neg y]
    refine ⟨O, H + 1, hO, by omega, rfl, rfl, by rw [Nat.min_eq_left (by omega)], ?_, by omega, by omega, fun t ht => ?_⟩
    · rcases hOl with z | z
      · subst z
        omega
      · omega
    · obtain ⟨g1, g2⟩ := hm1 (by omega)
      by_cases w : t = H
      · subst w
        exact ⟨(a, b, g.2.2), e2, pz_RR_copy hg ha hb g2⟩
      · obtain ⟨x, hx1, hx2⟩ := hall t (by omega)
        exact ⟨x, e3 _ (by omega) x hx1, pz_RR_row hx2 (fun i hi => g1 t i (by omega) hi)⟩
/-- a choir and the model's row hold the same -/
theorem pz_undo {pn : fl_Ch} {ho hs ac rf : Int32} {hv : List fl_Sg} {nw di : fl_A} (h : pz_HI ho hs hv di ac) : (P_SC_undoA hs = some (.inl 2) ∧ P_M_undo rf nw di ac = some (0, 1, nw, ac)) ∨ ∃ g ch x nw', hv[((ho + (hs - (1 : Int32))) - (ho + (hs - (1 : Int32))) / (14 : Int32) * (14 : Int32)).toNatClampNeg]? = some g ∧ P_SC_undoB pn ho hs g = some (.inr (x, ch, x)) ∧ P_M_undo rf nw di ac = some (x, 0, nw', x) ∧ pz_TR ch nw' ∧ pz_HI ho x hv di x := by
  obtain ⟨O, H, hO, hH, rfl, rfl, rfl, hHl, hl, hOl, hall⟩ := h
  unfold P_M_undo P_M_undo_J13
  rw [pz_ref0, pz_ref1]
  by_cases y : H = 0
  · left
    subst y
    unfold P_SC_undoA P_Hi_takeN
    rw [if_pos (show nI 0 = (0 : Int32) from rfl), if_pos (show nI 0 = (0 : Int32) from rfl), fl_bd_some, fl_bd_some]
    exact ⟨rfl, if_neg (show ¬ (1 : Int32) = 0 by decide)⟩
  · right
    have hn0 : ¬ nI H = (0 : Int32) := nI_ne0 (by omega) (by omega)
    have e1 : nI H - (1 : Int32) = nI (H - 1) := pk_sub (a := H) (b := 1) (by omega)
    have er : nI O + (nI H - (1 : Int32)) - (nI O + (nI H - (1 : Int32))) / (14 : Int32) * (14 : Int32) = nI ((O + (H - 1)) % 14) := by rw [e1, nI_add, pz_r14 (by omega)]
    have hi14 : (O + (H - 1)) % 14 < 14 := Nat.mod_lt _ (by decide)
    obtain ⟨g, hg1, N, V, S, c, len, hR, hO2⟩ := hall (H - 1) (by omega)
    obtain ⟨nw', e2, h2, -⟩ := pz_copy (A := 1764) (B := 126) (s := 126 * (H - 1)) (d := 0) (n := 126) (f := di) (g := nw) (by decide) (by decide) (by omega) (by decide)
    have e3 : P_M_copy 1764 126 di nw (nI (126 * (H - 1))) (0 : Int32) (126 : Int32) = some nw' := e2
    obtain ⟨ch, e4, hR2, hC2⟩ := pz_becomeSong (pn := pn) (f' := nw') hR hO2 (fun i hi => by
      have := h2 i hi
      rw [Nat.zero_add] at this
      exact this)
    refine ⟨g, ch, nI (H - 1), nw', ?_, ?_, ?_, ⟨N, V, S, c, len, hR2, hO2, hC2⟩, O, H - 1, hO, by omega, rfl, rfl, rfl, by omega, hl, hOl, fun t ht => hall t (by omega)⟩
    · rw [er, nI_clamp (by omega)]
      exact hg1
    · unfold P_SC_undoB P_Hi_takeS
      rw [if_neg hn0, er, if_neg (nI_pos (by omega)), if_neg (nI_ge hi14 (by decide)), pz_ck hi14 (by decide), e1, fl_bd_some, e4, fl_bd_some]
    · rw [if_neg hn0, fl_bd_some, if_pos (show (((0 : Int32), (0 : Int32)).1 = 0) from rfl), e1, show (126 : Int32) * nI (H - 1) = nI (126 * (H - 1)) from pk_mul 126 (H - 1), e3, fl_bd_some]
/-- a slot: the component's song, the model's row and its mark -/
def pz_S1 (x : Option fl_Sg) (ke ik : fl_A) (j : Nat) : Prop := (x = none ∧ ik j = 0) ∨ ∃ g, x = some g ∧ ik j = 1 ∧ pz_RR g (fun i => ke (126 * j + i))
def pz_SL (x : Nat → Option fl_Sg) (ke ik : fl_A) : Prop := ∀ j, j < 2 → pz_S1 (x j) ke ik j
theorem pz_slot (p : Int32) : (∃ j, j < 2 ∧ p = nI j ∧ P_M_in p.toInt64 (0 : Int64) (1 : Int64) = some 1) ∨ (P_M_in p.toInt64 (0 : Int64) (1 : Int64) = some 0 ∧ (p < 0 ∨ (¬ p < 0 ∧ ¬ p < nI 2))) := by
  rw [pz_z64, pz_1x]
  by_cases q : p < 0
  · exact Or.inr ⟨pz_in_no (Or.inl q), Or.inl q⟩
  · obtain ⟨j, hj, rfl⟩ := nI_of q
    rcases Nat.lt_or_ge j 2 with y | y
    · exact Or.inl ⟨j, y, rfl, pz_in_yes q (show ¬ (1 : Int32) < nI j from nI_nlt (a := 1) (b := j) (by omega) (by decide))⟩
    · exact Or.inr ⟨pz_in_no (Or.inr (show (1 : Int32) < nI j from nI_lt (a := 1) (by omega) hj)), Or.inr ⟨q, nI_nlt y hj⟩⟩
theorem pz_nar1 : vp_nar .boolean (1 : Int32) = 1 := by decide
theorem pz_save {pn : fl_Ch} {nw ke ik : fl_A} {rf p : Int32} {x : Nat → Option fl_Sg} (hR : pz_RR pn.1 nw) (hS : pz_SL x ke ik) :
    ((p < 0 ∨ (¬ p < 0 ∧ ¬ p < nI 2)) ∧ P_M_save rf nw ke ik p = some (0, 1, ke, ik)) ∨ ∃ j v g ke' ik', j < 2 ∧ p = nI j ∧ (x j = none → P_SC_saveA pn p = some (.inr (v, g))) ∧ (∀ tg, x j = some tg → ∃ g', P_SC_saveB pn tg p = some (.inr (v, g')) ∧ pz_SL (fun i => if i = j then some g' else x i) ke' ik') ∧ P_M_save rf nw ke ik p = some (v, 0, ke', ik') ∧ pz_SL (fun i => if i = j then some g else x i) ke' ik' := by
  unfold P_M_save P_M_save_J16
  rw [pz_ref0, pz_ref1]
  rcases pz_slot p with ⟨j, hj, rfl, e⟩ | ⟨e, h⟩
  · right
    obtain ⟨ke', e1, h1, h2⟩ := pz_copy (A := 126) (B := 252) (s := 0) (d := 126 * j) (n := 126) (f := nw) (g := ke) (by decide) (by decide) (by decide) (by omega)
    have e2 : P_M_copy 126 252 nw ke (0 : Int32) (nI (126 * j)) (126 : Int32) = some ke' := e1
    have hnew : ∀ a b, (∀ i, i < 48 → a i = pn.1.1 i) → (∀ i, i < 48 → b i = pn.1.2.1 i) → pz_SL (fun i => if i = j then some (a, b, pn.1.2.2) else x i) ke' (upd ik j 1) := by
      intro a b ha hb i hi
      unfold pz_S1
      dsimp only
      by_cases y : i = j
      · subst y
        rw [if_pos rfl, pz_updS]
        refine Or.inr ⟨_, rfl, rfl, pz_RR_copy hR ha hb (fun k hk => ?_)⟩
        have := h1 k hk
        rw [Nat.zero_add] at this
        exact this
      · rw [if_neg y, pz_updN y]
        rcases hS i hi with z | ⟨g, z1, z2, z3⟩
        · exact Or.inl z
        · exact Or.inr ⟨g, z1, z2, pz_RR_row z3 (fun k hk => h2 _ (by omega))⟩
    obtain ⟨a, b, ec, ha, hb⟩ := pz_copyFrom (((fun _ => 0), (fun _ => 0), (0 : Int32), (0 : Int32), (1 : Int32), (0 : Int32), (0 : Int32), (0 : Int32)) : fl_Sg) pn.1
    have hf0 : nw 0 = pn.1.2.2.1 := by
      obtain ⟨N, V, S, c, len, hR1, -⟩ := hR
      rw [hR1.1.1, hR1.2.2.1.1]
    refine ⟨j, pn.1.2.2.1, (a, b, pn.1.2.2), ke', upd ik j 1, hj, rfl, fun _ => ?_, fun tg _ => ?_, ?_, hnew a b ha hb⟩
    · unfold P_SC_saveA
      rw [if_neg (nI_pos (by omega)), if_pos (nI_lt hj (by decide)), pz_ck hj (by decide), pz_ck hj (by decide), pz_ck hj (by decide), ec, fl_bd_some]
    · obtain ⟨a2, b2, ec2, ha2, hb2⟩ := pz_copyFrom tg pn.1
      refine ⟨(a2, b2, pn.1.2.2), ?_, hnew a2 b2 ha2 hb2⟩
      unfold P_SC_saveB
      rw [if_neg (nI_pos (by omega)), if_pos (nI_lt hj (by decide)), pz_ck hj (by decide), pz_ck hj (by decide), ec2, fl_bd_some]
    · rw [e, fl_bd_some, if_neg (show ¬ (1 : Int32) = 0 by decide), fl_bd_some, if_pos (show (((0 : Int32), (0 : Int32)).1 = 0) from rfl), show (126 : Int32) * nI j = nI (126 * j) from pk_mul 126 j, e2, fl_bd_some, pz_ck hj (by decide), pz_ck0, pz_c0, nI_clamp (by omega), pz_nar1, hf0]
  · left
    refine ⟨h, ?_⟩
    rw [e, fl_bd_some, if_pos rfl, fl_bd_some]
    exact if_neg (show ¬ (1 : Int32) = 0 by decide)
theorem pz_restore {pn : fl_Ch} {nw ke ik di : fl_A} {rf p ho hs ac : Int32} {hv : List fl_Sg} {x : Nat → Option fl_Sg} (hS : pz_SL x ke ik) (hH : pz_HI ho hs hv di ac) :
    ((p < 0 ∨ (¬ p < 0 ∧ ¬ p < nI 2)) ∧ P_M_restore rf nw ac ke ik p = some (0, 1, nw, ac)) ∨ ∃ j, j < 2 ∧ p = nI j ∧ ((x j = none ∧ P_SC_restoreA p = some (.inl 2) ∧ P_M_restore rf nw ac ke ik p = some (0, 2, nw, ac)) ∨ ∃ tg v ch nw', x j = some tg ∧ P_SC_restoreB pn hs tg p = some (.inr (v, ch, 0)) ∧ P_M_restore rf nw ac ke ik p = some (v, 0, nw', 0) ∧ pz_TR ch nw' ∧ pz_HI ho 0 hv di 0) := by
  unfold P_M_restore P_M_restore_J29
  rw [pz_ref0, pz_ref1, pz_ref2]
  rcases pz_slot p with ⟨j, hj, rfl, e⟩ | ⟨e, h⟩
  · right
    refine ⟨j, hj, rfl, ?_⟩
    rw [e, fl_bd_some, if_neg (show ¬ (1 : Int32) = 0 by decide), pz_ck hj (by decide), nI_clamp (by omega)]
    rcases hS j hj with ⟨z1, z2⟩ | ⟨g, z1, z2, N, V, S, c, len, hR, hO⟩
    · left
      rw [if_pos z2, fl_bd_some]
      refine ⟨z1, ?_, if_neg (show ¬ (1 : Int32) = 0 by decide)⟩
      unfold P_SC_restoreA
      rw [if_neg (nI_pos (by omega)), if_pos (nI_lt hj (by decide)), pz_ck hj (by decide)]
    · right
      obtain ⟨nw', e2, h2, -⟩ := pz_copy (A := 252) (B := 126) (s := 126 * j) (d := 0) (n := 126) (f := ke) (g := nw) (by decide) (by decide) (by omega) (by decide)
      have e3 : P_M_copy 252 126 ke nw (nI (126 * j)) (0 : Int32) (126 : Int32) = some nw' := e2
      obtain ⟨ch, e4, hR2, hC2⟩ := pz_becomeSong (pn := pn) (f' := nw') hR hO (fun i hi => by
        have := h2 i hi
        rw [Nat.zero_add] at this
        exact this)
      obtain ⟨O, H, hO1, hH1, rfl, rfl, rfl, hHl, hl, hOl, hall⟩ := hH
      refine ⟨g, nI N, ch, nw', z1, ?_, ?_, ⟨N, V, S, c, len, hR2, hO, hC2⟩, O, 0, hO1, by omega, rfl, rfl, rfl, by omega, hl, hOl, fun t ht => absurd ht (Nat.not_lt_zero _)⟩
      · unfold P_SC_restoreB P_Hi_empty
        rw [if_neg (nI_pos (by omega)), if_pos (nI_lt hj (by decide)), pz_ck hj (by decide), pz_ck hj (by decide), e4, fl_bd_some, fl_bd_some, hR2.1.1]
      · rw [z2, if_neg (show ¬ (1 : Int32) = 0 by decide), fl_bd_some, if_pos (show (((0 : Int32), (0 : Int32)).1 = 0) from rfl), show (126 : Int32) * nI j = nI (126 * j) from pk_mul 126 j, e3, fl_bd_some, pz_ck0, pz_c0, hR2.2.2.1.1]
  · left
    refine ⟨h, ?_⟩
    rw [e, fl_bd_some, if_pos rfl, fl_bd_some]
    exact if_neg (show ¬ (1 : Int32) = 0 by decide)
