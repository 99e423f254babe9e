/-! REMEMBERING, over the row of songs -/
abbrev fl_ix (ho hs : Int32) : Nat := ((ho + hs) - (ho + hs) / (14 : Int32) * (14 : Int32)).toNatClampNeg
noncomputable def P_Hi_remember (ho hs : Int32) (hv : List fl_Sg) (g : fl_Sg) : Option (Int32 × Int32 × List fl_Sg) :=
  match hv[fl_ix ho hs]? with
  | some v => fl_bd (P_Hi_remB ho hs g v) (fun r => some (r.1, r.2.1, hv.set (fl_ix ho hs) r.2.2))
  | none => if fl_ix ho hs = hv.length then fl_bd (P_Hi_remA ho hs g) (fun r => some (r.1, r.2.1, hv ++ [r.2.2])) else none
theorem fl_p3 (a b c : va_W) : (a ++ b ++ c).Perm (a ++ c ++ b) := by
  rw [List.append_assoc, List.append_assoc]
  exact List.Perm.append_left _ List.perm_append_comm
theorem c_Hi_remember (l : Launch) (G : fl_G) (h0 h1 g0 g1 g2 : Nat) (as : List (Nat × Nat × Nat)) (ho hs : Int32) (hv : List fl_Sg) (g : fl_Sg) (hlen : as.length = hv.length) {r : Int32 × Int32 × List fl_Sg} (hp0 : P_Hi_remember ho hs hv g = some r) :
    fl_ma l yX1_remember wsX1_remember 3 68 3 104 G [.ref h0, .ref g0] ([(h0, .inr (1, [.ref h1, .int ho, .int hs])), (h1, .inl (G.2.2.2.2, 14, .inr (.inr (.inr (.inr (fl_rg as))))))] ++ fl_w1 G (g0, g1, g2) g ++ fl_ws G as hv) none
      (fun w => ∃ as' : List (Nat × Nat × Nat), as'.length = r.2.2.length ∧ w = [(h0, .inr (1, [.ref h1, .int r.1, .int r.2.1])), (h1, .inl (G.2.2.2.2, 14, .inr (.inr (.inr (.inr (fl_rg as'))))))] ++ fl_w1 G (g0, g1, g2) g ++ fl_ws G as' r.2.2) := by
  have hp := hp0
  unfold P_Hi_remember at hp
  cases hv0 : hv[fl_ix ho hs]? with
  | some v =>
    rw [hv0] at hp
    obtain ⟨r1, hr1, hp⟩ := fl_bd_of hp
    obtain rfl := Option.some.inj hp
    have hi : fl_ix ho hs < as.length := by rw [hlen]; exact (List.getElem?_eq_some_iff.mp hv0).1
    obtain ⟨⟨a0, a1, a2⟩, ha⟩ : ∃ a, as[fl_ix ho hs]? = some a := ⟨_, List.getElem?_eq_getElem hi⟩
    have hq0 : fl_rg as (fl_ix ho hs) = some a0 := by unfold fl_rg; rw [ha]; rfl
    refine fl_ma_adapt (c_Hi_remB l G h0 h1 g0 g1 g2 a0 a1 a2 (fl_rg as) ho hs g v hq0 hr1) (X := fl_ws G (as.eraseIdx (fl_ix ho hs)) (hv.eraseIdx (fl_ix ho hs))) ?_ ?_
    · exact List.Perm.append_left _ (fl_ws_get G as hv _ _ _ ha hv0)
    · intro w1 hw1
      subst hw1
      refine ⟨_, ?_, as, ?_, rfl⟩
      · exact (List.Perm.append_left ([(h0, .inr (1, [.ref h1, .int r1.1, .int r1.2.1])), (h1, .inl (G.2.2.2.2, 14, .inr (.inr (.inr (.inr (fl_rg as))))))] ++ fl_w1 G (g0, g1, g2) g) (fl_ws_set G as hv _ _ v r1.2.2 ha hv0)).symm
      · rw [List.length_set]; exact hlen
  | none =>
    rw [hv0] at hp
    have hi : fl_ix ho hs = hv.length := by
      by_cases h : fl_ix ho hs = hv.length
      · exact h
      · rw [show (match (none : Option fl_Sg) with | some v => fl_bd (P_Hi_remB ho hs g v) (fun r => some (r.1, r.2.1, hv.set (fl_ix ho hs) r.2.2)) | none => if fl_ix ho hs = hv.length then fl_bd (P_Hi_remA ho hs g) (fun r => some (r.1, r.2.1, hv ++ [r.2.2])) else none) = none from if_neg h] at hp
        cases hp
    replace hp := fl_t hi hp
    obtain ⟨r1, hr1, hp⟩ := fl_bd_of hp
    obtain rfl := Option.some.inj hp
    have hi2 : fl_ix ho hs = as.length := hi.trans hlen.symm
    have hq0 : fl_rg as (fl_ix ho hs) = none := by unfold fl_rg; rw [List.getElem?_eq_none (by omega)]; rfl
    refine fl_ma_adapt (c_Hi_remA l G h0 h1 g0 g1 g2 (fl_rg as) ho hs g hq0 hr1) (X := fl_ws G as hv) (List.Perm.refl _) ?_
    intro w1 hw1
    obtain ⟨n1, n2, n3, rfl⟩ := hw1
    refine ⟨_, ?_, as ++ [(n1, n2, n3)], ?_, rfl⟩
    · rw [fl_ws_app G as hv _ _ hlen]
      rw [show ((ho + hs) - (ho + hs) / (14 : Int32) * (14 : Int32)).toNatClampNeg = as.length from hi2, fl_rg_app as (n1, n2, n3)]
      show ((([(h0, .inr (1, [.ref h1, .int r1.1, .int r1.2.1])), (h1, .inl (G.2.2.2.2, 14, .inr (.inr (.inr (.inr (fl_rg (as ++ [(n1, n2, n3)])))))))] : va_W) ++ fl_w1 G (g0, g1, g2) g) ++ fl_w1 G (n1, n2, n3) r1.2.2 ++ fl_ws G as hv).Perm (([(h0, .inr (1, [.ref h1, .int r1.1, .int r1.2.1])), (h1, .inl (G.2.2.2.2, 14, .inr (.inr (.inr (.inr (fl_rg (as ++ [(n1, n2, n3)])))))))] : va_W) ++ fl_w1 G (g0, g1, g2) g ++ (fl_ws G as hv ++ fl_w1 G (n1, n2, n3) r1.2.2))
      rw [List.append_assoc]
      exact List.Perm.append_left _ List.perm_append_comm
    · simp [hlen]
theorem c_Hi_rememberF (l : Launch) (G : fl_G) (h0 h1 g0 g1 g2 : Nat) (as : List (Nat × Nat × Nat)) (ho hs : Int32) (hv : List fl_Sg) (g : fl_Sg) (hlen : as.length = hv.length) {r : Int32 × Int32 × List fl_Sg} (hp0 : P_Hi_remember ho hs hv g = some r) :
    fl_ma l yX1_remember wsX1_remember 3 68 3 104 G [.ref h0, .ref g0] ([(h0, .inr (1, [.ref h1, .int ho, .int hs])), (h1, .inl (G.2.2.2.2, 14, .inr (.inr (.inr (.inr (fl_rg as)))))), (g0, .inr (4, [.ref g1, .ref g2, .int g.2.2.1, .int g.2.2.2.1, .int g.2.2.2.2.1, .int g.2.2.2.2.2.1, .int g.2.2.2.2.2.2.1, .int g.2.2.2.2.2.2.2])), (g1, .inl (G.2.1, 48, .inl g.1)), (g2, .inl (G.2.1, 48, .inl g.2.1))] ++ fl_ws G as hv) none
      (fun w => ∃ as' : List (Nat × Nat × Nat), as'.length = r.2.2.length ∧ w = ([(h0, .inr (1, [.ref h1, .int r.1, .int r.2.1])), (h1, .inl (G.2.2.2.2, 14, .inr (.inr (.inr (.inr (fl_rg as')))))), (g0, .inr (4, [.ref g1, .ref g2, .int g.2.2.1, .int g.2.2.2.1, .int g.2.2.2.2.1, .int g.2.2.2.2.2.1, .int g.2.2.2.2.2.2.1, .int g.2.2.2.2.2.2.2])), (g1, .inl (G.2.1, 48, .inl g.1)), (g2, .inl (G.2.1, 48, .inl g.2.1))] ++ fl_ws G as' r.2.2)) :=
  c_Hi_remember l G h0 h1 g0 g1 g2 as ho hs hv g hlen hp0
