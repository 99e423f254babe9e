/-! THE LAW'S HELPERS, one by one -/
set_option maxHeartbeats 1000000 in
set_option maxRecDepth 100000 in
theorem c_L_append (l : Launch) (hfl : l.stackTraces = false) (G : fl_G) (sa : Nat → Nat) (sc tx0 tx1 pn0 tl0 fh0 hi sl : Nat) (tx : fl_Ln) (p0 : Int32) {r : (Nat ⊕ (Int32 × fl_Ln))} (hp0 : P_SC_append tx p0 = some r) (ou : Nat) (uo : Nat → Int64) {cd : Int32} (hcd : fl_cd [1, 2] (fl_ex r) cd) : fl_lw l yL_append wsL_append 7 111 1 6 G sa [.ref sc, .int p0, .ref ou] ((ou, .inl (G.2.2.2.1, 1, .inr (.inl uo))) :: [(sc, .inr (5, [.ref tx0, .ref pn0, .ref tl0, .ref fh0, .ref hi, .ref sl])), (tx0, .inr (2, [.ref tx1, .int tx.2])), (tx1, .inl (G.2.1, 40, .inl tx.1))]) cd (fun w => ∃ w1, (fun w => w = Sum.elim (fun _ => [(sc, .inr (5, [.ref tx0, .ref pn0, .ref tl0, .ref fh0, .ref hi, .ref sl])), (tx0, .inr (2, [.ref tx1, .int tx.2])), (tx1, .inl (G.2.1, 40, .inl tx.1))]) (fun z => [(sc, .inr (5, [.ref tx0, .ref pn0, .ref tl0, .ref fh0, .ref hi, .ref sl])), (tx0, .inr (2, [.ref tx1, .int z.2.2])), (tx1, .inl (G.2.1, 40, .inl z.2.1))]) r) w1 ∧ w = (ou, .inl (G.2.2.2.1, 1, .inr (.inl (Sum.elim (fun _ => uo) (fun z => vp_updL uo (0 : Int32).toNatClampNeg (z.1).toInt64) r)))) :: w1) := by
  refine fl_lw_in cL_append 4 [(0, 9, 12, 13), (0, 9, 15, 15)] (by decide) rfl rfl (Nat.le_of_ble_eq_true rfl) ?_
  intro p e s m args below meth c ls A Q H locs C0 htab hK hE hZ hP hD hS hA hl hret
  obtain ⟨hx, hb, hml, hown, hts⟩ := id C0
  have hl : lv_has ls 4 [(0, .ref sc), (1, .int p0), (2, .ref ou)] := hl
  refine lv_aload_n hx hb dL_append_0 rfl (lv_at hl 2 rfl) ?_
  refine lv_iconst (v := (0 : Int32)) hx hb dL_append_1 (by decide) ?_
  refine lv_aload_n hx hb dL_append_2 rfl (lv_at hl 0 rfl) ?_
  refine lv_iload_n hx hb dL_append_3 rfl (lv_at hl 1 rfl) ?_
  refine fl_xmV (As := [.int p0]) (rest := [.int 0, .ref ou]) (wr := [(ou, .inl (G.2.2.2.1, 1, .inr (.inl uo)))]) C0 (c_SC_append l hfl G sa sc tx0 tx1 pn0 tl0 fh0 hi sl tx p0 hp0) (cwV 1 hts gL_append_X5_append rfl rfl rfl (by decide +kernel) ⟨Nat.le_of_ble_eq_true rfl, Nat.le_of_ble_eq_true rfl⟩) hK hE hZ (fl_P_perm (List.perm_append_singleton _ _).symm hP) (fl_D_perm (List.perm_append_singleton _ _).symm hD) 0 5 rfl rfl rfl hS hA rfl hl.1 rfl (Nat.le_of_ble_eq_true rfl) dL_append_4 ⟨Nat.le_of_ble_eq_true rfl, Nat.le_of_ble_eq_true rfl⟩ (fun k ce q9 H locs he hP hD hS hce hcv hcl => ?_) (fun w1 H locs he hw1 hP hD hS => ?_)
  · cases r with
    | inr z => exact absurd (show (none : Option Nat) = some k from he) (by simp)
    | inl k9 =>
      have he : (some k9 : Option Nat) = some k := he
      obtain rfl := Option.some.inj he
      rcases hcd with ⟨h9, rfl⟩ | ⟨k8, h8, h9, rfl⟩ | ⟨k8, h8, h9, rfl⟩
      · exact absurd (show (some k9 : Option Nat) = none from h9) (by simp)
      · obtain rfl := Option.some.inj (show some 1 = some k8 from h8)
        obtain rfl := Option.some.inj (show some k9 = some 1 from h9)
        refine vx_catch (name := "java/lang/IllegalArgumentException") (E := fl_exn 1) hown [] ⟨0, 9, 12, 13⟩ [⟨0, 9, 15, 15⟩] (by rw [htab]; rfl) (fun z hz => absurd hz List.not_mem_nil) (by decide) (by decide) (hts (.classLink RL 13 "java/lang/IllegalArgumentException") (by first | exact List.mem_of_getElem? (i := 1) rfl | decide +kernel)) (va_Nw.use rfl (hE.2.2.1 1 (Or.inl rfl))) hce hcv hcl ?_
        refine lv_astore_n (lv' := [(3, .ref q9), (0, .ref sc), (1, .int p0), (2, .ref ou)]) hx hb dL_append_12 rfl hl (by decide) rfl (fun ls hl => ?_)
        refine lv_iconst (v := (1 : Int32)) hx hb dL_append_13 (by decide) ?_
        exact hret _ H locs _ _ _ ls ⟨_, rfl, rfl⟩ (fl_P_perm (List.perm_append_singleton _ _) hP) (fl_D_perm (List.perm_append_singleton _ _) hD) hS dL_append_14 (Nat.le_of_ble_eq_true rfl) (Nat.le_of_ble_eq_true rfl)
      · obtain rfl := Option.some.inj (show some 2 = some k8 from h8)
        obtain rfl := Option.some.inj (show some k9 = some 2 from h9)
        refine vx_catch (name := "java/lang/IllegalStateException") (E := fl_exn 2) hown [⟨0, 9, 12, 13⟩] ⟨0, 9, 15, 15⟩ [] (by rw [htab]; rfl) (fun z hz => by obtain rfl := List.mem_singleton.mp hz; exact Or.inr ⟨by decide, "java/lang/IllegalArgumentException", hts (.classLink RL 13 "java/lang/IllegalArgumentException") (by first | exact List.mem_of_getElem? (i := 1) rfl | decide +kernel), hE.2.2.2.1⟩) (by decide) (by decide) (hts (.classLink RL 15 "java/lang/IllegalStateException") (by first | exact List.mem_of_getElem? (i := 2) rfl | decide +kernel)) (va_Nw.use rfl (hE.2.2.1 2 (Or.inr (Or.inl rfl)))) hce hcv hcl ?_
        refine lv_astore_n (lv' := [(3, .ref q9), (0, .ref sc), (1, .int p0), (2, .ref ou)]) hx hb dL_append_15 rfl hl (by decide) rfl (fun ls hl => ?_)
        refine lv_iconst (v := (2 : Int32)) hx hb dL_append_16 (by decide) ?_
        exact hret _ H locs _ _ _ ls ⟨_, rfl, rfl⟩ (fl_P_perm (List.perm_append_singleton _ _) hP) (fl_D_perm (List.perm_append_singleton _ _) hD) hS dL_append_17 (Nat.le_of_ble_eq_true rfl) (Nat.le_of_ble_eq_true rfl)
  · cases r with
    | inl k9 => exact absurd (show (some k9 : Option Nat) = none from he) (by simp)
    | inr z =>
      rcases hcd with ⟨h9, rfl⟩ | ⟨k8, h8, h9, rfl⟩ | ⟨k8, h8, h9, rfl⟩
      · replace hP := fl_P_perm (List.perm_append_singleton _ _) hP
        replace hD := fl_D_perm (List.perm_append_singleton _ _) hD
        refine lv_i2l (v := (z.1).toInt64) hx hb dL_append_7 rfl ?_
        refine va_last hx hb hK.1 hP hD hS 0 2 rfl rfl fl_in01 dL_append_8 (fun H locs hP hD hS => ?_)
        refine lv_goto (tgt := 18) hx hb dL_append_9 (by decide) ?_
        refine lv_iconst (v := (0 : Int32)) hx hb dL_append_18 (by decide) ?_
        exact hret _ H locs _ _ _ ls ⟨w1, hw1, rfl⟩ hP hD hS dL_append_19 (Nat.le_of_ble_eq_true rfl) (Nat.le_of_ble_eq_true rfl)
      · exact absurd (show (none : Option Nat) = some k8 from h9) (by simp)
      · exact absurd (show (none : Option Nat) = some k8 from h9) (by simp)
set_option maxHeartbeats 1000000 in
set_option maxRecDepth 100000 in
theorem c_L_about (l : Launch) (hfl : l.stackTraces = false) (G : fl_G) (sa : Nat → Nat) (sc tx0 pnh pns0 pns1 pns2 pno0 pno1 pno2 pno3 pno4 pno5 pnk pnb tl0 fh0 hi sl : Nat) (pn : fl_Ch) (p0 : Int32) {r : (Nat ⊕ Int32)} (hp0 : P_SC_about pn p0 = some r) (ou : Nat) (uo : Nat → Int64) {cd : Int32} (hcd : fl_cd [1] (fl_ex r) cd) : fl_lw l yL_about wsL_about 7 111 1 6 G sa [.ref sc, .int p0, .ref ou] ((ou, .inl (G.2.2.2.1, 1, .inr (.inl uo))) :: [(sc, .inr (5, [.ref tx0, .ref pnh, .ref tl0, .ref fh0, .ref hi, .ref sl])), (pnh, .inr (0, [.ref pns0, .ref pno0, .ref pnk, .ref pnb])), (pns0, .inr (4, [.ref pns1, .ref pns2, .int pn.1.2.2.1, .int pn.1.2.2.2.1, .int pn.1.2.2.2.2.1, .int pn.1.2.2.2.2.2.1, .int pn.1.2.2.2.2.2.2.1, .int pn.1.2.2.2.2.2.2.2])), (pns1, .inl (G.2.1, 48, .inl pn.1.1)), (pns2, .inl (G.2.1, 48, .inl pn.1.2.1)), (pno0, .inr (3, [.int pn.2.1.1, .ref pno1, .ref pno2, .ref pno3, .ref pno4, .ref pno5])), (pno1, .inl (G.2.1, 48, .inl pn.2.1.2.1)), (pno2, .inl (G.2.1, 48, .inl pn.2.1.2.2.1)), (pno3, .inl (G.2.1, 48, .inl pn.2.1.2.2.2.1)), (pno4, .inl (G.2.1, 48, .inl pn.2.1.2.2.2.2.1)), (pno5, .inl (G.2.1, 49, .inl pn.2.1.2.2.2.2.2)), (pnk, .inl (G.2.1, 48, .inl pn.2.2.1)), (pnb, .inl (G.2.1, 48, .inl pn.2.2.2))]) cd (fun w => ∃ w1, (fun w => w = Sum.elim (fun _ => [(sc, .inr (5, [.ref tx0, .ref pnh, .ref tl0, .ref fh0, .ref hi, .ref sl])), (pnh, .inr (0, [.ref pns0, .ref pno0, .ref pnk, .ref pnb])), (pns0, .inr (4, [.ref pns1, .ref pns2, .int pn.1.2.2.1, .int pn.1.2.2.2.1, .int pn.1.2.2.2.2.1, .int pn.1.2.2.2.2.2.1, .int pn.1.2.2.2.2.2.2.1, .int pn.1.2.2.2.2.2.2.2])), (pns1, .inl (G.2.1, 48, .inl pn.1.1)), (pns2, .inl (G.2.1, 48, .inl pn.1.2.1)), (pno0, .inr (3, [.int pn.2.1.1, .ref pno1, .ref pno2, .ref pno3, .ref pno4, .ref pno5])), (pno1, .inl (G.2.1, 48, .inl pn.2.1.2.1)), (pno2, .inl (G.2.1, 48, .inl pn.2.1.2.2.1)), (pno3, .inl (G.2.1, 48, .inl pn.2.1.2.2.2.1)), (pno4, .inl (G.2.1, 48, .inl pn.2.1.2.2.2.2.1)), (pno5, .inl (G.2.1, 49, .inl pn.2.1.2.2.2.2.2)), (pnk, .inl (G.2.1, 48, .inl pn.2.2.1)), (pnb, .inl (G.2.1, 48, .inl pn.2.2.2))]) (fun z => [(sc, .inr (5, [.ref tx0, .ref pnh, .ref tl0, .ref fh0, .ref hi, .ref sl])), (pnh, .inr (0, [.ref pns0, .ref pno0, .ref pnk, .ref pnb])), (pns0, .inr (4, [.ref pns1, .ref pns2, .int pn.1.2.2.1, .int pn.1.2.2.2.1, .int pn.1.2.2.2.2.1, .int pn.1.2.2.2.2.2.1, .int pn.1.2.2.2.2.2.2.1, .int pn.1.2.2.2.2.2.2.2])), (pns1, .inl (G.2.1, 48, .inl pn.1.1)), (pns2, .inl (G.2.1, 48, .inl pn.1.2.1)), (pno0, .inr (3, [.int pn.2.1.1, .ref pno1, .ref pno2, .ref pno3, .ref pno4, .ref pno5])), (pno1, .inl (G.2.1, 48, .inl pn.2.1.2.1)), (pno2, .inl (G.2.1, 48, .inl pn.2.1.2.2.1)), (pno3, .inl (G.2.1, 48, .inl pn.2.1.2.2.2.1)), (pno4, .inl (G.2.1, 48, .inl pn.2.1.2.2.2.2.1)), (pno5, .inl (G.2.1, 49, .inl pn.2.1.2.2.2.2.2)), (pnk, .inl (G.2.1, 48, .inl pn.2.2.1)), (pnb, .inl (G.2.1, 48, .inl pn.2.2.2))]) r) w1 ∧ w = (ou, .inl (G.2.2.2.1, 1, .inr (.inl (Sum.elim (fun _ => uo) (fun z => vp_updL uo (0 : Int32).toNatClampNeg (z).toInt64) r)))) :: w1) := by
  refine fl_lw_in cL_about 4 [(0, 9, 12, 13)] (by decide) rfl rfl (Nat.le_of_ble_eq_true rfl) ?_
  intro p e s m args below meth c ls A Q H locs C0 htab hK hE hZ hP hD hS hA hl hret
  obtain ⟨hx, hb, hml, hown, hts⟩ := id C0
  have hl : lv_has ls 4 [(0, .ref sc), (1, .int p0), (2, .ref ou)] := hl
  refine lv_aload_n hx hb dL_about_0 rfl (lv_at hl 2 rfl) ?_
  refine lv_iconst (v := (0 : Int32)) hx hb dL_about_1 (by decide) ?_
  refine lv_aload_n hx hb dL_about_2 rfl (lv_at hl 0 rfl) ?_
  refine lv_iload_n hx hb dL_about_3 rfl (lv_at hl 1 rfl) ?_
  refine fl_xmV (As := [.int p0]) (rest := [.int 0, .ref ou]) (wr := [(ou, .inl (G.2.2.2.1, 1, .inr (.inl uo)))]) C0 (c_SC_about l hfl G sa sc tx0 pnh pns0 pns1 pns2 pno0 pno1 pno2 pno3 pno4 pno5 pnk pnb tl0 fh0 hi sl pn p0 hp0) (cwV 1 hts gL_about_X5_about rfl rfl rfl (by decide +kernel) ⟨Nat.le_of_ble_eq_true rfl, Nat.le_of_ble_eq_true rfl⟩) hK hE hZ (fl_P_perm (List.perm_append_singleton _ _).symm hP) (fl_D_perm (List.perm_append_singleton _ _).symm hD) 0 5 rfl rfl rfl hS hA rfl hl.1 rfl (Nat.le_of_ble_eq_true rfl) dL_about_4 ⟨Nat.le_of_ble_eq_true rfl, Nat.le_of_ble_eq_true rfl⟩ (fun k ce q9 H locs he hP hD hS hce hcv hcl => ?_) (fun w1 H locs he hw1 hP hD hS => ?_)
  · cases r with
    | inr z => exact absurd (show (none : Option Nat) = some k from he) (by simp)
    | inl k9 =>
      have he : (some k9 : Option Nat) = some k := he
      obtain rfl := Option.some.inj he
      rcases hcd with ⟨h9, rfl⟩ | ⟨k8, h8, h9, rfl⟩ | ⟨k8, h8, h9, rfl⟩
      · exact absurd (show (some k9 : Option Nat) = none from h9) (by simp)
      · obtain rfl := Option.some.inj (show some 1 = some k8 from h8)
        obtain rfl := Option.some.inj (show some k9 = some 1 from h9)
        refine vx_catch (name := "java/lang/IllegalArgumentException") (E := fl_exn 1) hown [] ⟨0, 9, 12, 13⟩ [] (by rw [htab]; rfl) (fun z hz => absurd hz List.not_mem_nil) (by decide) (by decide) (hts (.classLink RL 13 "java/lang/IllegalArgumentException") (by first | exact List.mem_of_getElem? (i := 1) rfl | decide +kernel)) (va_Nw.use rfl (hE.2.2.1 1 (Or.inl rfl))) hce hcv hcl ?_
        refine lv_astore_n (lv' := [(3, .ref q9), (0, .ref sc), (1, .int p0), (2, .ref ou)]) hx hb dL_about_12 rfl hl (by decide) rfl (fun ls hl => ?_)
        refine lv_iconst (v := (1 : Int32)) hx hb dL_about_13 (by decide) ?_
        exact hret _ H locs _ _ _ ls ⟨_, rfl, rfl⟩ (fl_P_perm (List.perm_append_singleton _ _) hP) (fl_D_perm (List.perm_append_singleton _ _) hD) hS dL_about_14 (Nat.le_of_ble_eq_true rfl) (Nat.le_of_ble_eq_true rfl)
      · exact absurd (show (none : Option Nat) = some k8 from h8) (by simp)
  · cases r with
    | inl k9 => exact absurd (show (some k9 : Option Nat) = none from he) (by simp)
    | inr z =>
      rcases hcd with ⟨h9, rfl⟩ | ⟨k8, h8, h9, rfl⟩ | ⟨k8, h8, h9, rfl⟩
      · replace hP := fl_P_perm (List.perm_append_singleton _ _) hP
        replace hD := fl_D_perm (List.perm_append_singleton _ _) hD
        refine lv_i2l (v := (z).toInt64) hx hb dL_about_7 rfl ?_
        refine va_last hx hb hK.1 hP hD hS 0 2 rfl rfl fl_in01 dL_about_8 (fun H locs hP hD hS => ?_)
        refine lv_goto (tgt := 15) hx hb dL_about_9 (by decide) ?_
        refine lv_iconst (v := (0 : Int32)) hx hb dL_about_15 (by decide) ?_
        exact hret _ H locs _ _ _ ls ⟨w1, hw1, rfl⟩ hP hD hS dL_about_16 (Nat.le_of_ble_eq_true rfl) (Nat.le_of_ble_eq_true rfl)
      · exact absurd (show (none : Option Nat) = some k8 from h9) (by simp)
      · exact absurd (show (none : Option Nat) = some k8 from h9) (by simp)
set_option maxHeartbeats 1000000 in
set_option maxRecDepth 100000 in
theorem c_L_note (l : Launch) (hfl : l.stackTraces = false) (G : fl_G) (sa : Nat → Nat) (sc tx0 pnh pns0 pns1 pns2 pno0 pno1 pno2 pno3 pno4 pno5 pnk pnb tl0 fh0 hi sl : Nat) (pn : fl_Ch) (p0 : Int32) (p1 : Int32) {r : (Nat ⊕ Int32)} (hp0 : P_SC_note pn p0 p1 = some r) (ou : Nat) (uo : Nat → Int64) {cd : Int32} (hcd : fl_cd [3, 1] (fl_ex r) cd) : fl_lw l yL_note wsL_note 7 112 1 6 G sa [.ref sc, .int p0, .int p1, .ref ou] ((ou, .inl (G.2.2.2.1, 1, .inr (.inl uo))) :: [(sc, .inr (5, [.ref tx0, .ref pnh, .ref tl0, .ref fh0, .ref hi, .ref sl])), (pnh, .inr (0, [.ref pns0, .ref pno0, .ref pnk, .ref pnb])), (pns0, .inr (4, [.ref pns1, .ref pns2, .int pn.1.2.2.1, .int pn.1.2.2.2.1, .int pn.1.2.2.2.2.1, .int pn.1.2.2.2.2.2.1, .int pn.1.2.2.2.2.2.2.1, .int pn.1.2.2.2.2.2.2.2])), (pns1, .inl (G.2.1, 48, .inl pn.1.1)), (pns2, .inl (G.2.1, 48, .inl pn.1.2.1)), (pno0, .inr (3, [.int pn.2.1.1, .ref pno1, .ref pno2, .ref pno3, .ref pno4, .ref pno5])), (pno1, .inl (G.2.1, 48, .inl pn.2.1.2.1)), (pno2, .inl (G.2.1, 48, .inl pn.2.1.2.2.1)), (pno3, .inl (G.2.1, 48, .inl pn.2.1.2.2.2.1)), (pno4, .inl (G.2.1, 48, .inl pn.2.1.2.2.2.2.1)), (pno5, .inl (G.2.1, 49, .inl pn.2.1.2.2.2.2.2)), (pnk, .inl (G.2.1, 48, .inl pn.2.2.1)), (pnb, .inl (G.2.1, 48, .inl pn.2.2.2))]) cd (fun w => ∃ w1, (fun w => w = Sum.elim (fun _ => [(sc, .inr (5, [.ref tx0, .ref pnh, .ref tl0, .ref fh0, .ref hi, .ref sl])), (pnh, .inr (0, [.ref pns0, .ref pno0, .ref pnk, .ref pnb])), (pns0, .inr (4, [.ref pns1, .ref pns2, .int pn.1.2.2.1, .int pn.1.2.2.2.1, .int pn.1.2.2.2.2.1, .int pn.1.2.2.2.2.2.1, .int pn.1.2.2.2.2.2.2.1, .int pn.1.2.2.2.2.2.2.2])), (pns1, .inl (G.2.1, 48, .inl pn.1.1)), (pns2, .inl (G.2.1, 48, .inl pn.1.2.1)), (pno0, .inr (3, [.int pn.2.1.1, .ref pno1, .ref pno2, .ref pno3, .ref pno4, .ref pno5])), (pno1, .inl (G.2.1, 48, .inl pn.2.1.2.1)), (pno2, .inl (G.2.1, 48, .inl pn.2.1.2.2.1)), (pno3, .inl (G.2.1, 48, .inl pn.2.1.2.2.2.1)), (pno4, .inl (G.2.1, 48, .inl pn.2.1.2.2.2.2.1)), (pno5, .inl (G.2.1, 49, .inl pn.2.1.2.2.2.2.2)), (pnk, .inl (G.2.1, 48, .inl pn.2.2.1)), (pnb, .inl (G.2.1, 48, .inl pn.2.2.2))]) (fun z => [(sc, .inr (5, [.ref tx0, .ref pnh, .ref tl0, .ref fh0, .ref hi, .ref sl])), (pnh, .inr (0, [.ref pns0, .ref pno0, .ref pnk, .ref pnb])), (pns0, .inr (4, [.ref pns1, .ref pns2, .int pn.1.2.2.1, .int pn.1.2.2.2.1, .int pn.1.2.2.2.2.1, .int pn.1.2.2.2.2.2.1, .int pn.1.2.2.2.2.2.2.1, .int pn.1.2.2.2.2.2.2.2])), (pns1, .inl (G.2.1, 48, .inl pn.1.1)), (pns2, .inl (G.2.1, 48, .inl pn.1.2.1)), (pno0, .inr (3, [.int pn.2.1.1, .ref pno1, .ref pno2, .ref pno3, .ref pno4, .ref pno5])), (pno1, .inl (G.2.1, 48, .inl pn.2.1.2.1)), (pno2, .inl (G.2.1, 48, .inl pn.2.1.2.2.1)), (pno3, .inl (G.2.1, 48, .inl pn.2.1.2.2.2.1)), (pno4, .inl (G.2.1, 48, .inl pn.2.1.2.2.2.2.1)), (pno5, .inl (G.2.1, 49, .inl pn.2.1.2.2.2.2.2)), (pnk, .inl (G.2.1, 48, .inl pn.2.2.1)), (pnb, .inl (G.2.1, 48, .inl pn.2.2.2))]) r) w1 ∧ w = (ou, .inl (G.2.2.2.1, 1, .inr (.inl (Sum.elim (fun _ => uo) (fun z => vp_updL uo (0 : Int32).toNatClampNeg (z).toInt64) r)))) :: w1) := by
  refine fl_lw_in cL_note 5 [(0, 10, 13, 24), (0, 10, 17, 13)] (by decide) rfl rfl (Nat.le_of_ble_eq_true rfl) ?_
  intro p e s m args below meth c ls A Q H locs C0 htab hK hE hZ hP hD hS hA hl hret
  obtain ⟨hx, hb, hml, hown, hts⟩ := id C0
  have hl : lv_has ls 5 [(0, .ref sc), (1, .int p0), (2, .int p1), (3, .ref ou)] := hl
  refine lv_aload_n hx hb dL_note_0 rfl (lv_at hl 3 rfl) ?_
  refine lv_iconst (v := (0 : Int32)) hx hb dL_note_1 (by decide) ?_
  refine lv_aload_n hx hb dL_note_2 rfl (lv_at hl 0 rfl) ?_
  refine lv_iload_n hx hb dL_note_3 rfl (lv_at hl 1 rfl) ?_
  refine lv_iload_n hx hb dL_note_4 rfl (lv_at hl 2 rfl) ?_
  refine fl_xmV (As := [.int p0, .int p1]) (rest := [.int 0, .ref ou]) (wr := [(ou, .inl (G.2.2.2.1, 1, .inr (.inl uo)))]) C0 (c_SC_note l hfl G sa sc tx0 pnh pns0 pns1 pns2 pno0 pno1 pno2 pno3 pno4 pno5 pnk pnb tl0 fh0 hi sl pn p0 p1 hp0) (cwV 2 hts gL_note_X5_note rfl rfl rfl (by decide +kernel) ⟨Nat.le_of_ble_eq_true rfl, Nat.le_of_ble_eq_true rfl⟩) hK hE hZ (fl_P_perm (List.perm_append_singleton _ _).symm hP) (fl_D_perm (List.perm_append_singleton _ _).symm hD) 0 5 rfl rfl rfl hS hA rfl hl.1 rfl (Nat.le_of_ble_eq_true rfl) dL_note_5 ⟨Nat.le_of_ble_eq_true rfl, Nat.le_of_ble_eq_true rfl⟩ (fun k ce q9 H locs he hP hD hS hce hcv hcl => ?_) (fun w1 H locs he hw1 hP hD hS => ?_)
  · cases r with
    | inr z => exact absurd (show (none : Option Nat) = some k from he) (by simp)
    | inl k9 =>
      have he : (some k9 : Option Nat) = some k := he
      obtain rfl := Option.some.inj he
      rcases hcd with ⟨h9, rfl⟩ | ⟨k8, h8, h9, rfl⟩ | ⟨k8, h8, h9, rfl⟩
      · exact absurd (show (some k9 : Option Nat) = none from h9) (by simp)
      · obtain rfl := Option.some.inj (show some 3 = some k8 from h8)
        obtain rfl := Option.some.inj (show some k9 = some 3 from h9)
        refine vx_catch (name := "java/lang/IndexOutOfBoundsException") (E := fl_exn 3) hown [] ⟨0, 10, 13, 24⟩ [⟨0, 10, 17, 13⟩] (by rw [htab]; rfl) (fun z hz => absurd hz List.not_mem_nil) (by decide) (by decide) (hts (.classLink RL 24 "java/lang/IndexOutOfBoundsException") (by first | exact List.mem_of_getElem? (i := 1) rfl | decide +kernel)) (va_Nw.use rfl (hE.2.2.1 3 (Or.inr (Or.inr rfl)))) hce hcv hcl ?_
        refine lv_astore (lv' := [(4, .ref q9), (0, .ref sc), (1, .int p0), (2, .int p1), (3, .ref ou)]) hx hb dL_note_13 hl (by decide) rfl (fun ls hl => ?_)
        refine lv_iconst (v := (1 : Int32)) hx hb dL_note_15 (by decide) ?_
        exact hret _ H locs _ _ _ ls ⟨_, rfl, rfl⟩ (fl_P_perm (List.perm_append_singleton _ _) hP) (fl_D_perm (List.perm_append_singleton _ _) hD) hS dL_note_16 (Nat.le_of_ble_eq_true rfl) (Nat.le_of_ble_eq_true rfl)
      · obtain rfl := Option.some.inj (show some 1 = some k8 from h8)
        obtain rfl := Option.some.inj (show some k9 = some 1 from h9)
        refine vx_catch (name := "java/lang/IllegalArgumentException") (E := fl_exn 1) hown [⟨0, 10, 13, 24⟩] ⟨0, 10, 17, 13⟩ [] (by rw [htab]; rfl) (fun z hz => by obtain rfl := List.mem_singleton.mp hz; exact Or.inr ⟨by decide, "java/lang/IndexOutOfBoundsException", hts (.classLink RL 24 "java/lang/IndexOutOfBoundsException") (by first | exact List.mem_of_getElem? (i := 1) rfl | decide +kernel), hE.2.2.2.2.1⟩) (by decide) (by decide) (hts (.classLink RL 13 "java/lang/IllegalArgumentException") (by first | exact List.mem_of_getElem? (i := 2) rfl | decide +kernel)) (va_Nw.use rfl (hE.2.2.1 1 (Or.inl rfl))) hce hcv hcl ?_
        refine lv_astore (lv' := [(4, .ref q9), (0, .ref sc), (1, .int p0), (2, .int p1), (3, .ref ou)]) hx hb dL_note_17 hl (by decide) rfl (fun ls hl => ?_)
        refine lv_iconst (v := (2 : Int32)) hx hb dL_note_19 (by decide) ?_
        exact hret _ H locs _ _ _ ls ⟨_, rfl, rfl⟩ (fl_P_perm (List.perm_append_singleton _ _) hP) (fl_D_perm (List.perm_append_singleton _ _) hD) hS dL_note_20 (Nat.le_of_ble_eq_true rfl) (Nat.le_of_ble_eq_true rfl)
  · cases r with
    | inl k9 => exact absurd (show (some k9 : Option Nat) = none from he) (by simp)
    | inr z =>
      rcases hcd with ⟨h9, rfl⟩ | ⟨k8, h8, h9, rfl⟩ | ⟨k8, h8, h9, rfl⟩
      · replace hP := fl_P_perm (List.perm_append_singleton _ _) hP
        replace hD := fl_D_perm (List.perm_append_singleton _ _) hD
        refine lv_i2l (v := (z).toInt64) hx hb dL_note_8 rfl ?_
        refine va_last hx hb hK.1 hP hD hS 0 2 rfl rfl fl_in01 dL_note_9 (fun H locs hP hD hS => ?_)
        refine lv_goto (tgt := 21) hx hb dL_note_10 (by decide) ?_
        refine lv_iconst (v := (0 : Int32)) hx hb dL_note_21 (by decide) ?_
        exact hret _ H locs _ _ _ ls ⟨w1, hw1, rfl⟩ hP hD hS dL_note_22 (Nat.le_of_ble_eq_true rfl) (Nat.le_of_ble_eq_true rfl)
      · exact absurd (show (none : Option Nat) = some k8 from h9) (by simp)
      · exact absurd (show (none : Option Nat) = some k8 from h9) (by simp)
set_option maxHeartbeats 1000000 in
set_option maxRecDepth 100000 in
theorem c_L_suffix (l : Launch) (hfl : l.stackTraces = false) (G : fl_G) (sa : Nat → Nat) (sc tx0 pnh pns0 pns1 pns2 pno0 pno1 pno2 pno3 pno4 pno5 pnk pnb tl0 fh0 hi sl : Nat) (pn : fl_Ch) (p0 : Int32) {r : (Nat ⊕ Int32)} (hp0 : P_SC_suffix pn p0 = some r) (ou : Nat) (uo : Nat → Int64) {cd : Int32} (hcd : fl_cd [1] (fl_ex r) cd) : fl_lw l yL_suffix wsL_suffix 7 111 1 6 G sa [.ref sc, .int p0, .ref ou] ((ou, .inl (G.2.2.2.1, 1, .inr (.inl uo))) :: [(sc, .inr (5, [.ref tx0, .ref pnh, .ref tl0, .ref fh0, .ref hi, .ref sl])), (pnh, .inr (0, [.ref pns0, .ref pno0, .ref pnk, .ref pnb])), (pns0, .inr (4, [.ref pns1, .ref pns2, .int pn.1.2.2.1, .int pn.1.2.2.2.1, .int pn.1.2.2.2.2.1, .int pn.1.2.2.2.2.2.1, .int pn.1.2.2.2.2.2.2.1, .int pn.1.2.2.2.2.2.2.2])), (pns1, .inl (G.2.1, 48, .inl pn.1.1)), (pns2, .inl (G.2.1, 48, .inl pn.1.2.1)), (pno0, .inr (3, [.int pn.2.1.1, .ref pno1, .ref pno2, .ref pno3, .ref pno4, .ref pno5])), (pno1, .inl (G.2.1, 48, .inl pn.2.1.2.1)), (pno2, .inl (G.2.1, 48, .inl pn.2.1.2.2.1)), (pno3, .inl (G.2.1, 48, .inl pn.2.1.2.2.2.1)), (pno4, .inl (G.2.1, 48, .inl pn.2.1.2.2.2.2.1)), (pno5, .inl (G.2.1, 49, .inl pn.2.1.2.2.2.2.2)), (pnk, .inl (G.2.1, 48, .inl pn.2.2.1)), (pnb, .inl (G.2.1, 48, .inl pn.2.2.2))]) cd (fun w => ∃ w1, (fun w => w = Sum.elim (fun _ => [(sc, .inr (5, [.ref tx0, .ref pnh, .ref tl0, .ref fh0, .ref hi, .ref sl])), (pnh, .inr (0, [.ref pns0, .ref pno0, .ref pnk, .ref pnb])), (pns0, .inr (4, [.ref pns1, .ref pns2, .int pn.1.2.2.1, .int pn.1.2.2.2.1, .int pn.1.2.2.2.2.1, .int pn.1.2.2.2.2.2.1, .int pn.1.2.2.2.2.2.2.1, .int pn.1.2.2.2.2.2.2.2])), (pns1, .inl (G.2.1, 48, .inl pn.1.1)), (pns2, .inl (G.2.1, 48, .inl pn.1.2.1)), (pno0, .inr (3, [.int pn.2.1.1, .ref pno1, .ref pno2, .ref pno3, .ref pno4, .ref pno5])), (pno1, .inl (G.2.1, 48, .inl pn.2.1.2.1)), (pno2, .inl (G.2.1, 48, .inl pn.2.1.2.2.1)), (pno3, .inl (G.2.1, 48, .inl pn.2.1.2.2.2.1)), (pno4, .inl (G.2.1, 48, .inl pn.2.1.2.2.2.2.1)), (pno5, .inl (G.2.1, 49, .inl pn.2.1.2.2.2.2.2)), (pnk, .inl (G.2.1, 48, .inl pn.2.2.1)), (pnb, .inl (G.2.1, 48, .inl pn.2.2.2))]) (fun z => [(sc, .inr (5, [.ref tx0, .ref pnh, .ref tl0, .ref fh0, .ref hi, .ref sl])), (pnh, .inr (0, [.ref pns0, .ref pno0, .ref pnk, .ref pnb])), (pns0, .inr (4, [.ref pns1, .ref pns2, .int pn.1.2.2.1, .int pn.1.2.2.2.1, .int pn.1.2.2.2.2.1, .int pn.1.2.2.2.2.2.1, .int pn.1.2.2.2.2.2.2.1, .int pn.1.2.2.2.2.2.2.2])), (pns1, .inl (G.2.1, 48, .inl pn.1.1)), (pns2, .inl (G.2.1, 48, .inl pn.1.2.1)), (pno0, .inr (3, [.int pn.2.1.1, .ref pno1, .ref pno2, .ref pno3, .ref pno4, .ref pno5])), (pno1, .inl (G.2.1, 48, .inl pn.2.1.2.1)), (pno2, .inl (G.2.1, 48, .inl pn.2.1.2.2.1)), (pno3, .inl (G.2.1, 48, .inl pn.2.1.2.2.2.1)), (pno4, .inl (G.2.1, 48, .inl pn.2.1.2.2.2.2.1)), (pno5, .inl (G.2.1, 49, .inl pn.2.1.2.2.2.2.2)), (pnk, .inl (G.2.1, 48, .inl pn.2.2.1)), (pnb, .inl (G.2.1, 48, .inl pn.2.2.2))]) r) w1 ∧ w = (ou, .inl (G.2.2.2.1, 1, .inr (.inl (Sum.elim (fun _ => uo) (fun z => vp_updL uo (0 : Int32).toNatClampNeg (z).toInt64) r)))) :: w1) := by
  refine fl_lw_in cL_suffix 4 [(0, 9, 12, 13)] (by decide) rfl rfl (Nat.le_of_ble_eq_true rfl) ?_
  intro p e s m args below meth c ls A Q H locs C0 htab hK hE hZ hP hD hS hA hl hret
  obtain ⟨hx, hb, hml, hown, hts⟩ := id C0
  have hl : lv_has ls 4 [(0, .ref sc), (1, .int p0), (2, .ref ou)] := hl
  refine lv_aload_n hx hb dL_suffix_0 rfl (lv_at hl 2 rfl) ?_
  refine lv_iconst (v := (0 : Int32)) hx hb dL_suffix_1 (by decide) ?_
  refine lv_aload_n hx hb dL_suffix_2 rfl (lv_at hl 0 rfl) ?_
  refine lv_iload_n hx hb dL_suffix_3 rfl (lv_at hl 1 rfl) ?_
  refine fl_xmV (As := [.int p0]) (rest := [.int 0, .ref ou]) (wr := [(ou, .inl (G.2.2.2.1, 1, .inr (.inl uo)))]) C0 (c_SC_suffix l hfl G sa sc tx0 pnh pns0 pns1 pns2 pno0 pno1 pno2 pno3 pno4 pno5 pnk pnb tl0 fh0 hi sl pn p0 hp0) (cwV 1 hts gL_suffix_X5_suffix rfl rfl rfl (by decide +kernel) ⟨Nat.le_of_ble_eq_true rfl, Nat.le_of_ble_eq_true rfl⟩) hK hE hZ (fl_P_perm (List.perm_append_singleton _ _).symm hP) (fl_D_perm (List.perm_append_singleton _ _).symm hD) 0 5 rfl rfl rfl hS hA rfl hl.1 rfl (Nat.le_of_ble_eq_true rfl) dL_suffix_4 ⟨Nat.le_of_ble_eq_true rfl, Nat.le_of_ble_eq_true rfl⟩ (fun k ce q9 H locs he hP hD hS hce hcv hcl => ?_) (fun w1 H locs he hw1 hP hD hS => ?_)
  · cases r with
    | inr z => exact absurd (show (none : Option Nat) = some k from he) (by simp)
    | inl k9 =>
      have he : (some k9 : Option Nat) = some k := he
      obtain rfl := Option.some.inj he
      rcases hcd with ⟨h9, rfl⟩ | ⟨k8, h8, h9, rfl⟩ | ⟨k8, h8, h9, rfl⟩
      · exact absurd (show (some k9 : Option Nat) = none from h9) (by simp)
      · obtain rfl := Option.some.inj (show some 1 = some k8 from h8)
        obtain rfl := Option.some.inj (show some k9 = some 1 from h9)
        refine vx_catch (name := "java/lang/IllegalArgumentException") (E := fl_exn 1) hown [] ⟨0, 9, 12, 13⟩ [] (by rw [htab]; rfl) (fun z hz => absurd hz List.not_mem_nil) (by decide) (by decide) (hts (.classLink RL 13 "java/lang/IllegalArgumentException") (by first | exact List.mem_of_getElem? (i := 1) rfl | decide +kernel)) (va_Nw.use rfl (hE.2.2.1 1 (Or.inl rfl))) hce hcv hcl ?_
        refine lv_astore_n (lv' := [(3, .ref q9), (0, .ref sc), (1, .int p0), (2, .ref ou)]) hx hb dL_suffix_12 rfl hl (by decide) rfl (fun ls hl => ?_)
        refine lv_iconst (v := (1 : Int32)) hx hb dL_suffix_13 (by decide) ?_
        exact hret _ H locs _ _ _ ls ⟨_, rfl, rfl⟩ (fl_P_perm (List.perm_append_singleton _ _) hP) (fl_D_perm (List.perm_append_singleton _ _) hD) hS dL_suffix_14 (Nat.le_of_ble_eq_true rfl) (Nat.le_of_ble_eq_true rfl)
      · exact absurd (show (none : Option Nat) = some k8 from h8) (by simp)
  · cases r with
    | inl k9 => exact absurd (show (some k9 : Option Nat) = none from he) (by simp)
    | inr z =>
      rcases hcd with ⟨h9, rfl⟩ | ⟨k8, h8, h9, rfl⟩ | ⟨k8, h8, h9, rfl⟩
      · replace hP := fl_P_perm (List.perm_append_singleton _ _) hP
        replace hD := fl_D_perm (List.perm_append_singleton _ _) hD
        refine lv_i2l (v := (z).toInt64) hx hb dL_suffix_7 rfl ?_
        refine va_last hx hb hK.1 hP hD hS 0 2 rfl rfl fl_in01 dL_suffix_8 (fun H locs hP hD hS => ?_)
        refine lv_goto (tgt := 15) hx hb dL_suffix_9 (by decide) ?_
        refine lv_iconst (v := (0 : Int32)) hx hb dL_suffix_15 (by decide) ?_
        exact hret _ H locs _ _ _ ls ⟨w1, hw1, rfl⟩ hP hD hS dL_suffix_16 (Nat.le_of_ble_eq_true rfl) (Nat.le_of_ble_eq_true rfl)
      · exact absurd (show (none : Option Nat) = some k8 from h9) (by simp)
      · exact absurd (show (none : Option Nat) = some k8 from h9) (by simp)
set_option maxHeartbeats 1000000 in
set_option maxRecDepth 100000 in
theorem c_L_verse (l : Launch) (hfl : l.stackTraces = false) (G : fl_G) (sa : Nat → Nat) (sc tx0 pnh pns0 pns1 pns2 pno0 pno1 pno2 pno3 pno4 pno5 pnk pnb tl0 fh0 hi sl : Nat) (pn : fl_Ch) (p0 : Int32) (p1 : Int32) {r : (Nat ⊕ Int32)} (hp0 : P_SC_verse pn p0 p1 = some r) (ou : Nat) (uo : Nat → Int64) {cd : Int32} (hcd : fl_cd [3, 1] (fl_ex r) cd) : fl_lw l yL_verse wsL_verse 7 112 1 6 G sa [.ref sc, .int p0, .int p1, .ref ou] ((ou, .inl (G.2.2.2.1, 1, .inr (.inl uo))) :: [(sc, .inr (5, [.ref tx0, .ref pnh, .ref tl0, .ref fh0, .ref hi, .ref sl])), (pnh, .inr (0, [.ref pns0, .ref pno0, .ref pnk, .ref pnb])), (pns0, .inr (4, [.ref pns1, .ref pns2, .int pn.1.2.2.1, .int pn.1.2.2.2.1, .int pn.1.2.2.2.2.1, .int pn.1.2.2.2.2.2.1, .int pn.1.2.2.2.2.2.2.1, .int pn.1.2.2.2.2.2.2.2])), (pns1, .inl (G.2.1, 48, .inl pn.1.1)), (pns2, .inl (G.2.1, 48, .inl pn.1.2.1)), (pno0, .inr (3, [.int pn.2.1.1, .ref pno1, .ref pno2, .ref pno3, .ref pno4, .ref pno5])), (pno1, .inl (G.2.1, 48, .inl pn.2.1.2.1)), (pno2, .inl (G.2.1, 48, .inl pn.2.1.2.2.1)), (pno3, .inl (G.2.1, 48, .inl pn.2.1.2.2.2.1)), (pno4, .inl (G.2.1, 48, .inl pn.2.1.2.2.2.2.1)), (pno5, .inl (G.2.1, 49, .inl pn.2.1.2.2.2.2.2)), (pnk, .inl (G.2.1, 48, .inl pn.2.2.1)), (pnb, .inl (G.2.1, 48, .inl pn.2.2.2))]) cd (fun w => ∃ w1, (fun w => w = Sum.elim (fun _ => [(sc, .inr (5, [.ref tx0, .ref pnh, .ref tl0, .ref fh0, .ref hi, .ref sl])), (pnh, .inr (0, [.ref pns0, .ref pno0, .ref pnk, .ref pnb])), (pns0, .inr (4, [.ref pns1, .ref pns2, .int pn.1.2.2.1, .int pn.1.2.2.2.1, .int pn.1.2.2.2.2.1, .int pn.1.2.2.2.2.2.1, .int pn.1.2.2.2.2.2.2.1, .int pn.1.2.2.2.2.2.2.2])), (pns1, .inl (G.2.1, 48, .inl pn.1.1)), (pns2, .inl (G.2.1, 48, .inl pn.1.2.1)), (pno0, .inr (3, [.int pn.2.1.1, .ref pno1, .ref pno2, .ref pno3, .ref pno4, .ref pno5])), (pno1, .inl (G.2.1, 48, .inl pn.2.1.2.1)), (pno2, .inl (G.2.1, 48, .inl pn.2.1.2.2.1)), (pno3, .inl (G.2.1, 48, .inl pn.2.1.2.2.2.1)), (pno4, .inl (G.2.1, 48, .inl pn.2.1.2.2.2.2.1)), (pno5, .inl (G.2.1, 49, .inl pn.2.1.2.2.2.2.2)), (pnk, .inl (G.2.1, 48, .inl pn.2.2.1)), (pnb, .inl (G.2.1, 48, .inl pn.2.2.2))]) (fun z => [(sc, .inr (5, [.ref tx0, .ref pnh, .ref tl0, .ref fh0, .ref hi, .ref sl])), (pnh, .inr (0, [.ref pns0, .ref pno0, .ref pnk, .ref pnb])), (pns0, .inr (4, [.ref pns1, .ref pns2, .int pn.1.2.2.1, .int pn.1.2.2.2.1, .int pn.1.2.2.2.2.1, .int pn.1.2.2.2.2.2.1, .int pn.1.2.2.2.2.2.2.1, .int pn.1.2.2.2.2.2.2.2])), (pns1, .inl (G.2.1, 48, .inl pn.1.1)), (pns2, .inl (G.2.1, 48, .inl pn.1.2.1)), (pno0, .inr (3, [.int pn.2.1.1, .ref pno1, .ref pno2, .ref pno3, .ref pno4, .ref pno5])), (pno1, .inl (G.2.1, 48, .inl pn.2.1.2.1)), (pno2, .inl (G.2.1, 48, .inl pn.2.1.2.2.1)), (pno3, .inl (G.2.1, 48, .inl pn.2.1.2.2.2.1)), (pno4, .inl (G.2.1, 48, .inl pn.2.1.2.2.2.2.1)), (pno5, .inl (G.2.1, 49, .inl pn.2.1.2.2.2.2.2)), (pnk, .inl (G.2.1, 48, .inl pn.2.2.1)), (pnb, .inl (G.2.1, 48, .inl pn.2.2.2))]) r) w1 ∧ w = (ou, .inl (G.2.2.2.1, 1, .inr (.inl (Sum.elim (fun _ => uo) (fun z => vp_updL uo (0 : Int32).toNatClampNeg (z).toInt64) r)))) :: w1) := by
  refine fl_lw_in cL_verse 5 [(0, 10, 13, 24), (0, 10, 17, 13)] (by decide) rfl rfl (Nat.le_of_ble_eq_true rfl) ?_
  intro p e s m args below meth c ls A Q H locs C0 htab hK hE hZ hP hD hS hA hl hret
  obtain ⟨hx, hb, hml, hown, hts⟩ := id C0
  have hl : lv_has ls 5 [(0, .ref sc), (1, .int p0), (2, .int p1), (3, .ref ou)] := hl
  refine lv_aload_n hx hb dL_verse_0 rfl (lv_at hl 3 rfl) ?_
  refine lv_iconst (v := (0 : Int32)) hx hb dL_verse_1 (by decide) ?_
  refine lv_aload_n hx hb dL_verse_2 rfl (lv_at hl 0 rfl) ?_
  refine lv_iload_n hx hb dL_verse_3 rfl (lv_at hl 1 rfl) ?_
  refine lv_iload_n hx hb dL_verse_4 rfl (lv_at hl 2 rfl) ?_
  refine fl_xmV (As := [.int p0, .int p1]) (rest := [.int 0, .ref ou]) (wr := [(ou, .inl (G.2.2.2.1, 1, .inr (.inl uo)))]) C0 (c_SC_verse l hfl G sa sc tx0 pnh pns0 pns1 pns2 pno0 pno1 pno2 pno3 pno4 pno5 pnk pnb tl0 fh0 hi sl pn p0 p1 hp0) (cwV 2 hts gL_verse_X5_verse rfl rfl rfl (by decide +kernel) ⟨Nat.le_of_ble_eq_true rfl, Nat.le_of_ble_eq_true rfl⟩) hK hE hZ (fl_P_perm (List.perm_append_singleton _ _).symm hP) (fl_D_perm (List.perm_append_singleton _ _).symm hD) 0 5 rfl rfl rfl hS hA rfl hl.1 rfl (Nat.le_of_ble_eq_true rfl) dL_verse_5 ⟨Nat.le_of_ble_eq_true rfl, Nat.le_of_ble_eq_true rfl⟩ (fun k ce q9 H locs he hP hD hS hce hcv hcl => ?_) (fun w1 H locs he hw1 hP hD hS => ?_)
  · cases r with
    | inr z => exact absurd (show (none : Option Nat) = some k from he) (by simp)
    | inl k9 =>
      have he : (some k9 : Option Nat) = some k := he
      obtain rfl := Option.some.inj he
      rcases hcd with ⟨h9, rfl⟩ | ⟨k8, h8, h9, rfl⟩ | ⟨k8, h8, h9, rfl⟩
      · exact absurd (show (some k9 : Option Nat) = none from h9) (by simp)
      · obtain rfl := Option.some.inj (show some 3 = some k8 from h8)
        obtain rfl := Option.some.inj (show some k9 = some 3 from h9)
        refine vx_catch (name := "java/lang/IndexOutOfBoundsException") (E := fl_exn 3) hown [] ⟨0, 10, 13, 24⟩ [⟨0, 10, 17, 13⟩] (by rw [htab]; rfl) (fun z hz => absurd hz List.not_mem_nil) (by decide) (by decide) (hts (.classLink RL 24 "java/lang/IndexOutOfBoundsException") (by first | exact List.mem_of_getElem? (i := 1) rfl | decide +kernel)) (va_Nw.use rfl (hE.2.2.1 3 (Or.inr (Or.inr rfl)))) hce hcv hcl ?_
        refine lv_astore (lv' := [(4, .ref q9), (0, .ref sc), (1, .int p0), (2, .int p1), (3, .ref ou)]) hx hb dL_verse_13 hl (by decide) rfl (fun ls hl => ?_)
        refine lv_iconst (v := (1 : Int32)) hx hb dL_verse_15 (by decide) ?_
        exact hret _ H locs _ _ _ ls ⟨_, rfl, rfl⟩ (fl_P_perm (List.perm_append_singleton _ _) hP) (fl_D_perm (List.perm_append_singleton _ _) hD) hS dL_verse_16 (Nat.le_of_ble_eq_true rfl) (Nat.le_of_ble_eq_true rfl)
      · obtain rfl := Option.some.inj (show some 1 = some k8 from h8)
        obtain rfl := Option.some.inj (show some k9 = some 1 from h9)
        refine vx_catch (name := "java/lang/IllegalArgumentException") (E := fl_exn 1) hown [⟨0, 10, 13, 24⟩] ⟨0, 10, 17, 13⟩ [] (by rw [htab]; rfl) (fun z hz => by obtain rfl := List.mem_singleton.mp hz; exact Or.inr ⟨by decide, "java/lang/IndexOutOfBoundsException", hts (.classLink RL 24 "java/lang/IndexOutOfBoundsException") (by first | exact List.mem_of_getElem? (i := 1) rfl | decide +kernel), hE.2.2.2.2.1⟩) (by decide) (by decide) (hts (.classLink RL 13 "java/lang/IllegalArgumentException") (by first | exact List.mem_of_getElem? (i := 2) rfl | decide +kernel)) (va_Nw.use rfl (hE.2.2.1 1 (Or.inl rfl))) hce hcv hcl ?_
        refine lv_astore (lv' := [(4, .ref q9), (0, .ref sc), (1, .int p0), (2, .int p1), (3, .ref ou)]) hx hb dL_verse_17 hl (by decide) rfl (fun ls hl => ?_)
        refine lv_iconst (v := (2 : Int32)) hx hb dL_verse_19 (by decide) ?_
        exact hret _ H locs _ _ _ ls ⟨_, rfl, rfl⟩ (fl_P_perm (List.perm_append_singleton _ _) hP) (fl_D_perm (List.perm_append_singleton _ _) hD) hS dL_verse_20 (Nat.le_of_ble_eq_true rfl) (Nat.le_of_ble_eq_true rfl)
  · cases r with
    | inl k9 => exact absurd (show (some k9 : Option Nat) = none from he) (by simp)
    | inr z =>
      rcases hcd with ⟨h9, rfl⟩ | ⟨k8, h8, h9, rfl⟩ | ⟨k8, h8, h9, rfl⟩
      · replace hP := fl_P_perm (List.perm_append_singleton _ _) hP
        replace hD := fl_D_perm (List.perm_append_singleton _ _) hD
        refine lv_i2l (v := (z).toInt64) hx hb dL_verse_8 rfl ?_
        refine va_last hx hb hK.1 hP hD hS 0 2 rfl rfl fl_in01 dL_verse_9 (fun H locs hP hD hS => ?_)
        refine lv_goto (tgt := 21) hx hb dL_verse_10 (by decide) ?_
        refine lv_iconst (v := (0 : Int32)) hx hb dL_verse_21 (by decide) ?_
        exact hret _ H locs _ _ _ ls ⟨w1, hw1, rfl⟩ hP hD hS dL_verse_22 (Nat.le_of_ble_eq_true rfl) (Nat.le_of_ble_eq_true rfl)
      · exact absurd (show (none : Option Nat) = some k8 from h9) (by simp)
      · exact absurd (show (none : Option Nat) = some k8 from h9) (by simp)
set_option maxHeartbeats 1000000 in
set_option maxRecDepth 100000 in
theorem c_L_singer (l : Launch) (hfl : l.stackTraces = false) (G : fl_G) (sa : Nat → Nat) (sc tx0 pnh pns0 pns1 pns2 pno0 pno1 pno2 pno3 pno4 pno5 pnk pnb tl0 fh0 hi sl : Nat) (pn : fl_Ch) (p0 : Int32) (p1 : Int32) {r : (Nat ⊕ Int32)} (hp0 : P_SC_singer pn p0 p1 = some r) (ou : Nat) (uo : Nat → Int64) {cd : Int32} (hcd : fl_cd [3, 1] (fl_ex r) cd) : fl_lw l yL_singer wsL_singer 7 114 1 6 G sa [.ref sc, .int p0, .int p1, .ref ou] ((ou, .inl (G.2.2.2.1, 1, .inr (.inl uo))) :: [(sc, .inr (5, [.ref tx0, .ref pnh, .ref tl0, .ref fh0, .ref hi, .ref sl])), (pnh, .inr (0, [.ref pns0, .ref pno0, .ref pnk, .ref pnb])), (pns0, .inr (4, [.ref pns1, .ref pns2, .int pn.1.2.2.1, .int pn.1.2.2.2.1, .int pn.1.2.2.2.2.1, .int pn.1.2.2.2.2.2.1, .int pn.1.2.2.2.2.2.2.1, .int pn.1.2.2.2.2.2.2.2])), (pns1, .inl (G.2.1, 48, .inl pn.1.1)), (pns2, .inl (G.2.1, 48, .inl pn.1.2.1)), (pno0, .inr (3, [.int pn.2.1.1, .ref pno1, .ref pno2, .ref pno3, .ref pno4, .ref pno5])), (pno1, .inl (G.2.1, 48, .inl pn.2.1.2.1)), (pno2, .inl (G.2.1, 48, .inl pn.2.1.2.2.1)), (pno3, .inl (G.2.1, 48, .inl pn.2.1.2.2.2.1)), (pno4, .inl (G.2.1, 48, .inl pn.2.1.2.2.2.2.1)), (pno5, .inl (G.2.1, 49, .inl pn.2.1.2.2.2.2.2)), (pnk, .inl (G.2.1, 48, .inl pn.2.2.1)), (pnb, .inl (G.2.1, 48, .inl pn.2.2.2))]) cd (fun w => ∃ w1, (fun w => w = Sum.elim (fun _ => [(sc, .inr (5, [.ref tx0, .ref pnh, .ref tl0, .ref fh0, .ref hi, .ref sl])), (pnh, .inr (0, [.ref pns0, .ref pno0, .ref pnk, .ref pnb])), (pns0, .inr (4, [.ref pns1, .ref pns2, .int pn.1.2.2.1, .int pn.1.2.2.2.1, .int pn.1.2.2.2.2.1, .int pn.1.2.2.2.2.2.1, .int pn.1.2.2.2.2.2.2.1, .int pn.1.2.2.2.2.2.2.2])), (pns1, .inl (G.2.1, 48, .inl pn.1.1)), (pns2, .inl (G.2.1, 48, .inl pn.1.2.1)), (pno0, .inr (3, [.int pn.2.1.1, .ref pno1, .ref pno2, .ref pno3, .ref pno4, .ref pno5])), (pno1, .inl (G.2.1, 48, .inl pn.2.1.2.1)), (pno2, .inl (G.2.1, 48, .inl pn.2.1.2.2.1)), (pno3, .inl (G.2.1, 48, .inl pn.2.1.2.2.2.1)), (pno4, .inl (G.2.1, 48, .inl pn.2.1.2.2.2.2.1)), (pno5, .inl (G.2.1, 49, .inl pn.2.1.2.2.2.2.2)), (pnk, .inl (G.2.1, 48, .inl pn.2.2.1)), (pnb, .inl (G.2.1, 48, .inl pn.2.2.2))]) (fun z => [(sc, .inr (5, [.ref tx0, .ref pnh, .ref tl0, .ref fh0, .ref hi, .ref sl])), (pnh, .inr (0, [.ref pns0, .ref pno0, .ref pnk, .ref pnb])), (pns0, .inr (4, [.ref pns1, .ref pns2, .int pn.1.2.2.1, .int pn.1.2.2.2.1, .int pn.1.2.2.2.2.1, .int pn.1.2.2.2.2.2.1, .int pn.1.2.2.2.2.2.2.1, .int pn.1.2.2.2.2.2.2.2])), (pns1, .inl (G.2.1, 48, .inl pn.1.1)), (pns2, .inl (G.2.1, 48, .inl pn.1.2.1)), (pno0, .inr (3, [.int pn.2.1.1, .ref pno1, .ref pno2, .ref pno3, .ref pno4, .ref pno5])), (pno1, .inl (G.2.1, 48, .inl pn.2.1.2.1)), (pno2, .inl (G.2.1, 48, .inl pn.2.1.2.2.1)), (pno3, .inl (G.2.1, 48, .inl pn.2.1.2.2.2.1)), (pno4, .inl (G.2.1, 48, .inl pn.2.1.2.2.2.2.1)), (pno5, .inl (G.2.1, 49, .inl pn.2.1.2.2.2.2.2)), (pnk, .inl (G.2.1, 48, .inl pn.2.2.1)), (pnb, .inl (G.2.1, 48, .inl pn.2.2.2))]) r) w1 ∧ w = (ou, .inl (G.2.2.2.1, 1, .inr (.inl (Sum.elim (fun _ => uo) (fun z => vp_updL uo (0 : Int32).toNatClampNeg (z).toInt64) r)))) :: w1) := by
  refine fl_lw_in cL_singer 5 [(0, 10, 13, 24), (0, 10, 17, 13)] (by decide) rfl rfl (Nat.le_of_ble_eq_true rfl) ?_
  intro p e s m args below meth c ls A Q H locs C0 htab hK hE hZ hP hD hS hA hl hret
  obtain ⟨hx, hb, hml, hown, hts⟩ := id C0
  have hl : lv_has ls 5 [(0, .ref sc), (1, .int p0), (2, .int p1), (3, .ref ou)] := hl
  refine lv_aload_n hx hb dL_singer_0 rfl (lv_at hl 3 rfl) ?_
  refine lv_iconst (v := (0 : Int32)) hx hb dL_singer_1 (by decide) ?_
  refine lv_aload_n hx hb dL_singer_2 rfl (lv_at hl 0 rfl) ?_
  refine lv_iload_n hx hb dL_singer_3 rfl (lv_at hl 1 rfl) ?_
  refine lv_iload_n hx hb dL_singer_4 rfl (lv_at hl 2 rfl) ?_
  refine fl_xmV (As := [.int p0, .int p1]) (rest := [.int 0, .ref ou]) (wr := [(ou, .inl (G.2.2.2.1, 1, .inr (.inl uo)))]) C0 (c_SC_singer l hfl G sa sc tx0 pnh pns0 pns1 pns2 pno0 pno1 pno2 pno3 pno4 pno5 pnk pnb tl0 fh0 hi sl pn p0 p1 hp0) (cwV 2 hts gL_singer_X5_singer rfl rfl rfl (by decide +kernel) ⟨Nat.le_of_ble_eq_true rfl, Nat.le_of_ble_eq_true rfl⟩) hK hE hZ (fl_P_perm (List.perm_append_singleton _ _).symm hP) (fl_D_perm (List.perm_append_singleton _ _).symm hD) 0 5 rfl rfl rfl hS hA rfl hl.1 rfl (Nat.le_of_ble_eq_true rfl) dL_singer_5 ⟨Nat.le_of_ble_eq_true rfl, Nat.le_of_ble_eq_true rfl⟩ (fun k ce q9 H locs he hP hD hS hce hcv hcl => ?_) (fun w1 H locs he hw1 hP hD hS => ?_)
  · cases r with
    | inr z => exact absurd (show (none : Option Nat) = some k from he) (by simp)
    | inl k9 =>
      have he : (some k9 : Option Nat) = some k := he
      obtain rfl := Option.some.inj he
      rcases hcd with ⟨h9, rfl⟩ | ⟨k8, h8, h9, rfl⟩ | ⟨k8, h8, h9, rfl⟩
      · exact absurd (show (some k9 : Option Nat) = none from h9) (by simp)
      · obtain rfl := Option.some.inj (show some 3 = some k8 from h8)
        obtain rfl := Option.some.inj (show some k9 = some 3 from h9)
        refine vx_catch (name := "java/lang/IndexOutOfBoundsException") (E := fl_exn 3) hown [] ⟨0, 10, 13, 24⟩ [⟨0, 10, 17, 13⟩] (by rw [htab]; rfl) (fun z hz => absurd hz List.not_mem_nil) (by decide) (by decide) (hts (.classLink RL 24 "java/lang/IndexOutOfBoundsException") (by first | exact List.mem_of_getElem? (i := 1) rfl | decide +kernel)) (va_Nw.use rfl (hE.2.2.1 3 (Or.inr (Or.inr rfl)))) hce hcv hcl ?_
        refine lv_astore (lv' := [(4, .ref q9), (0, .ref sc), (1, .int p0), (2, .int p1), (3, .ref ou)]) hx hb dL_singer_13 hl (by decide) rfl (fun ls hl => ?_)
        refine lv_iconst (v := (1 : Int32)) hx hb dL_singer_15 (by decide) ?_
        exact hret _ H locs _ _ _ ls ⟨_, rfl, rfl⟩ (fl_P_perm (List.perm_append_singleton _ _) hP) (fl_D_perm (List.perm_append_singleton _ _) hD) hS dL_singer_16 (Nat.le_of_ble_eq_true rfl) (Nat.le_of_ble_eq_true rfl)
      · obtain rfl := Option.some.inj (show some 1 = some k8 from h8)
        obtain rfl := Option.some.inj (show some k9 = some 1 from h9)
        refine vx_catch (name := "java/lang/IllegalArgumentException") (E := fl_exn 1) hown [⟨0, 10, 13, 24⟩] ⟨0, 10, 17, 13⟩ [] (by rw [htab]; rfl) (fun z hz => by obtain rfl := List.mem_singleton.mp hz; exact Or.inr ⟨by decide, "java/lang/IndexOutOfBoundsException", hts (.classLink RL 24 "java/lang/IndexOutOfBoundsException") (by first | exact List.mem_of_getElem? (i := 1) rfl | decide +kernel), hE.2.2.2.2.1⟩) (by decide) (by decide) (hts (.classLink RL 13 "java/lang/IllegalArgumentException") (by first | exact List.mem_of_getElem? (i := 2) rfl | decide +kernel)) (va_Nw.use rfl (hE.2.2.1 1 (Or.inl rfl))) hce hcv hcl ?_
        refine lv_astore (lv' := [(4, .ref q9), (0, .ref sc), (1, .int p0), (2, .int p1), (3, .ref ou)]) hx hb dL_singer_17 hl (by decide) rfl (fun ls hl => ?_)
        refine lv_iconst (v := (2 : Int32)) hx hb dL_singer_19 (by decide) ?_
        exact hret _ H locs _ _ _ ls ⟨_, rfl, rfl⟩ (fl_P_perm (List.perm_append_singleton _ _) hP) (fl_D_perm (List.perm_append_singleton _ _) hD) hS dL_singer_20 (Nat.le_of_ble_eq_true rfl) (Nat.le_of_ble_eq_true rfl)
  · cases r with
    | inl k9 => exact absurd (show (some k9 : Option Nat) = none from he) (by simp)
    | inr z =>
      rcases hcd with ⟨h9, rfl⟩ | ⟨k8, h8, h9, rfl⟩ | ⟨k8, h8, h9, rfl⟩
      · replace hP := fl_P_perm (List.perm_append_singleton _ _) hP
        replace hD := fl_D_perm (List.perm_append_singleton _ _) hD
        refine lv_i2l (v := (z).toInt64) hx hb dL_singer_8 rfl ?_
        refine va_last hx hb hK.1 hP hD hS 0 2 rfl rfl fl_in01 dL_singer_9 (fun H locs hP hD hS => ?_)
        refine lv_goto (tgt := 21) hx hb dL_singer_10 (by decide) ?_
        refine lv_iconst (v := (0 : Int32)) hx hb dL_singer_21 (by decide) ?_
        exact hret _ H locs _ _ _ ls ⟨w1, hw1, rfl⟩ hP hD hS dL_singer_22 (Nat.le_of_ble_eq_true rfl) (Nat.le_of_ble_eq_true rfl)
      · exact absurd (show (none : Option Nat) = some k8 from h9) (by simp)
      · exact absurd (show (none : Option Nat) = some k8 from h9) (by simp)
set_option maxHeartbeats 1000000 in
set_option maxRecDepth 100000 in
theorem c_L_count (l : Launch) (hfl : l.stackTraces = false) (G : fl_G) (sa : Nat → Nat) (sc tx0 tx1 pnh pns0 pns1 pns2 pno0 pno1 pno2 pno3 pno4 pno5 pnk pnb tl0 fh0 hi sl : Nat) (tx : fl_Ln) (pn : fl_Ch) {r : (Nat ⊕ Int32)} (hp0 : P_SC_count tx pn = some r) (ou : Nat) (uo : Nat → Int64) {cd : Int32} (hcd : fl_cd [2] (fl_ex r) cd) : fl_lw l yL_count wsL_count 7 112 1 6 G sa [.ref sc, .ref ou] ((ou, .inl (G.2.2.2.1, 1, .inr (.inl uo))) :: [(sc, .inr (5, [.ref tx0, .ref pnh, .ref tl0, .ref fh0, .ref hi, .ref sl])), (tx0, .inr (2, [.ref tx1, .int tx.2])), (tx1, .inl (G.2.1, 40, .inl tx.1)), (pnh, .inr (0, [.ref pns0, .ref pno0, .ref pnk, .ref pnb])), (pns0, .inr (4, [.ref pns1, .ref pns2, .int pn.1.2.2.1, .int pn.1.2.2.2.1, .int pn.1.2.2.2.2.1, .int pn.1.2.2.2.2.2.1, .int pn.1.2.2.2.2.2.2.1, .int pn.1.2.2.2.2.2.2.2])), (pns1, .inl (G.2.1, 48, .inl pn.1.1)), (pns2, .inl (G.2.1, 48, .inl pn.1.2.1)), (pno0, .inr (3, [.int pn.2.1.1, .ref pno1, .ref pno2, .ref pno3, .ref pno4, .ref pno5])), (pno1, .inl (G.2.1, 48, .inl pn.2.1.2.1)), (pno2, .inl (G.2.1, 48, .inl pn.2.1.2.2.1)), (pno3, .inl (G.2.1, 48, .inl pn.2.1.2.2.2.1)), (pno4, .inl (G.2.1, 48, .inl pn.2.1.2.2.2.2.1)), (pno5, .inl (G.2.1, 49, .inl pn.2.1.2.2.2.2.2)), (pnk, .inl (G.2.1, 48, .inl pn.2.2.1)), (pnb, .inl (G.2.1, 48, .inl pn.2.2.2))]) cd (fun w => ∃ w1, (fun w => w = Sum.elim (fun _ => [(sc, .inr (5, [.ref tx0, .ref pnh, .ref tl0, .ref fh0, .ref hi, .ref sl])), (tx0, .inr (2, [.ref tx1, .int tx.2])), (tx1, .inl (G.2.1, 40, .inl tx.1)), (pnh, .inr (0, [.ref pns0, .ref pno0, .ref pnk, .ref pnb])), (pns0, .inr (4, [.ref pns1, .ref pns2, .int pn.1.2.2.1, .int pn.1.2.2.2.1, .int pn.1.2.2.2.2.1, .int pn.1.2.2.2.2.2.1, .int pn.1.2.2.2.2.2.2.1, .int pn.1.2.2.2.2.2.2.2])), (pns1, .inl (G.2.1, 48, .inl pn.1.1)), (pns2, .inl (G.2.1, 48, .inl pn.1.2.1)), (pno0, .inr (3, [.int pn.2.1.1, .ref pno1, .ref pno2, .ref pno3, .ref pno4, .ref pno5])), (pno1, .inl (G.2.1, 48, .inl pn.2.1.2.1)), (pno2, .inl (G.2.1, 48, .inl pn.2.1.2.2.1)), (pno3, .inl (G.2.1, 48, .inl pn.2.1.2.2.2.1)), (pno4, .inl (G.2.1, 48, .inl pn.2.1.2.2.2.2.1)), (pno5, .inl (G.2.1, 49, .inl pn.2.1.2.2.2.2.2)), (pnk, .inl (G.2.1, 48, .inl pn.2.2.1)), (pnb, .inl (G.2.1, 48, .inl pn.2.2.2))]) (fun z => [(sc, .inr (5, [.ref tx0, .ref pnh, .ref tl0, .ref fh0, .ref hi, .ref sl])), (tx0, .inr (2, [.ref tx1, .int tx.2])), (tx1, .inl (G.2.1, 40, .inl tx.1)), (pnh, .inr (0, [.ref pns0, .ref pno0, .ref pnk, .ref pnb])), (pns0, .inr (4, [.ref pns1, .ref pns2, .int pn.1.2.2.1, .int pn.1.2.2.2.1, .int pn.1.2.2.2.2.1, .int pn.1.2.2.2.2.2.1, .int pn.1.2.2.2.2.2.2.1, .int pn.1.2.2.2.2.2.2.2])), (pns1, .inl (G.2.1, 48, .inl pn.1.1)), (pns2, .inl (G.2.1, 48, .inl pn.1.2.1)), (pno0, .inr (3, [.int pn.2.1.1, .ref pno1, .ref pno2, .ref pno3, .ref pno4, .ref pno5])), (pno1, .inl (G.2.1, 48, .inl pn.2.1.2.1)), (pno2, .inl (G.2.1, 48, .inl pn.2.1.2.2.1)), (pno3, .inl (G.2.1, 48, .inl pn.2.1.2.2.2.1)), (pno4, .inl (G.2.1, 48, .inl pn.2.1.2.2.2.2.1)), (pno5, .inl (G.2.1, 49, .inl pn.2.1.2.2.2.2.2)), (pnk, .inl (G.2.1, 48, .inl pn.2.2.1)), (pnb, .inl (G.2.1, 48, .inl pn.2.2.2))]) r) w1 ∧ w = (ou, .inl (G.2.2.2.1, 1, .inr (.inl (Sum.elim (fun _ => uo) (fun z => vp_updL uo (0 : Int32).toNatClampNeg (z).toInt64) r)))) :: w1) := by
  refine fl_lw_in cL_count 3 [(0, 8, 11, 15)] (by decide) rfl rfl (Nat.le_of_ble_eq_true rfl) ?_
  intro p e s m args below meth c ls A Q H locs C0 htab hK hE hZ hP hD hS hA hl hret
  obtain ⟨hx, hb, hml, hown, hts⟩ := id C0
  have hl : lv_has ls 3 [(0, .ref sc), (1, .ref ou)] := hl
  refine lv_aload_n hx hb dL_count_0 rfl (lv_at hl 1 rfl) ?_
  refine lv_iconst (v := (0 : Int32)) hx hb dL_count_1 (by decide) ?_
  refine lv_aload_n hx hb dL_count_2 rfl (lv_at hl 0 rfl) ?_
  refine fl_xmV (As := []) (rest := [.int 0, .ref ou]) (wr := [(ou, .inl (G.2.2.2.1, 1, .inr (.inl uo)))]) C0 (c_SC_count l hfl G sa sc tx0 tx1 pnh pns0 pns1 pns2 pno0 pno1 pno2 pno3 pno4 pno5 pnk pnb tl0 fh0 hi sl tx pn hp0) (cwV 0 hts gL_count_X5_count rfl rfl rfl (by decide +kernel) ⟨Nat.le_of_ble_eq_true rfl, Nat.le_of_ble_eq_true rfl⟩) hK hE hZ (fl_P_perm (List.perm_append_singleton _ _).symm hP) (fl_D_perm (List.perm_append_singleton _ _).symm hD) 0 5 rfl rfl rfl hS hA rfl hl.1 rfl (Nat.le_of_ble_eq_true rfl) dL_count_3 ⟨Nat.le_of_ble_eq_true rfl, Nat.le_of_ble_eq_true rfl⟩ (fun k ce q9 H locs he hP hD hS hce hcv hcl => ?_) (fun w1 H locs he hw1 hP hD hS => ?_)
  · cases r with
    | inr z => exact absurd (show (none : Option Nat) = some k from he) (by simp)
    | inl k9 =>
      have he : (some k9 : Option Nat) = some k := he
      obtain rfl := Option.some.inj he
      rcases hcd with ⟨h9, rfl⟩ | ⟨k8, h8, h9, rfl⟩ | ⟨k8, h8, h9, rfl⟩
      · exact absurd (show (some k9 : Option Nat) = none from h9) (by simp)
      · obtain rfl := Option.some.inj (show some 2 = some k8 from h8)
        obtain rfl := Option.some.inj (show some k9 = some 2 from h9)
        refine vx_catch (name := "java/lang/IllegalStateException") (E := fl_exn 2) hown [] ⟨0, 8, 11, 15⟩ [] (by rw [htab]; rfl) (fun z hz => absurd hz List.not_mem_nil) (by decide) (by decide) (hts (.classLink RL 15 "java/lang/IllegalStateException") (by first | exact List.mem_of_getElem? (i := 1) rfl | decide +kernel)) (va_Nw.use rfl (hE.2.2.1 2 (Or.inr (Or.inl rfl)))) hce hcv hcl ?_
        refine lv_astore_n (lv' := [(2, .ref q9), (0, .ref sc), (1, .ref ou)]) hx hb dL_count_11 rfl hl (by decide) rfl (fun ls hl => ?_)
        refine lv_iconst (v := (1 : Int32)) hx hb dL_count_12 (by decide) ?_
        exact hret _ H locs _ _ _ ls ⟨_, rfl, rfl⟩ (fl_P_perm (List.perm_append_singleton _ _) hP) (fl_D_perm (List.perm_append_singleton _ _) hD) hS dL_count_13 (Nat.le_of_ble_eq_true rfl) (Nat.le_of_ble_eq_true rfl)
      · exact absurd (show (none : Option Nat) = some k8 from h8) (by simp)
  · cases r with
    | inl k9 => exact absurd (show (some k9 : Option Nat) = none from he) (by simp)
    | inr z =>
      rcases hcd with ⟨h9, rfl⟩ | ⟨k8, h8, h9, rfl⟩ | ⟨k8, h8, h9, rfl⟩
      · replace hP := fl_P_perm (List.perm_append_singleton _ _) hP
        replace hD := fl_D_perm (List.perm_append_singleton _ _) hD
        refine lv_i2l (v := (z).toInt64) hx hb dL_count_6 rfl ?_
        refine va_last hx hb hK.1 hP hD hS 0 2 rfl rfl fl_in01 dL_count_7 (fun H locs hP hD hS => ?_)
        refine lv_goto (tgt := 14) hx hb dL_count_8 (by decide) ?_
        refine lv_iconst (v := (0 : Int32)) hx hb dL_count_14 (by decide) ?_
        exact hret _ H locs _ _ _ ls ⟨w1, hw1, rfl⟩ hP hD hS dL_count_15 (Nat.le_of_ble_eq_true rfl) (Nat.le_of_ble_eq_true rfl)
      · exact absurd (show (none : Option Nat) = some k8 from h9) (by simp)
      · exact absurd (show (none : Option Nat) = some k8 from h9) (by simp)
set_option maxHeartbeats 1000000 in
set_option maxRecDepth 100000 in
theorem c_L_placeOf (l : Launch) (hfl : l.stackTraces = false) (G : fl_G) (sa : Nat → Nat) (sc tx0 tx1 pnh pns0 pns1 pns2 pno0 pno1 pno2 pno3 pno4 pno5 pnk pnb tl0 fh0 hi sl : Nat) (tx : fl_Ln) (pn : fl_Ch) (p0 : Int32) {r : (Nat ⊕ Int32)} (hp0 : P_SC_placeOf tx pn p0 = some r) (ou : Nat) (uo : Nat → Int64) {cd : Int32} (hcd : fl_cd [1, 2] (fl_ex r) cd) : fl_lw l yL_placeOf wsL_placeOf 7 113 1 6 G sa [.ref sc, .int p0, .ref ou] ((ou, .inl (G.2.2.2.1, 1, .inr (.inl uo))) :: [(sc, .inr (5, [.ref tx0, .ref pnh, .ref tl0, .ref fh0, .ref hi, .ref sl])), (tx0, .inr (2, [.ref tx1, .int tx.2])), (tx1, .inl (G.2.1, 40, .inl tx.1)), (pnh, .inr (0, [.ref pns0, .ref pno0, .ref pnk, .ref pnb])), (pns0, .inr (4, [.ref pns1, .ref pns2, .int pn.1.2.2.1, .int pn.1.2.2.2.1, .int pn.1.2.2.2.2.1, .int pn.1.2.2.2.2.2.1, .int pn.1.2.2.2.2.2.2.1, .int pn.1.2.2.2.2.2.2.2])), (pns1, .inl (G.2.1, 48, .inl pn.1.1)), (pns2, .inl (G.2.1, 48, .inl pn.1.2.1)), (pno0, .inr (3, [.int pn.2.1.1, .ref pno1, .ref pno2, .ref pno3, .ref pno4, .ref pno5])), (pno1, .inl (G.2.1, 48, .inl pn.2.1.2.1)), (pno2, .inl (G.2.1, 48, .inl pn.2.1.2.2.1)), (pno3, .inl (G.2.1, 48, .inl pn.2.1.2.2.2.1)), (pno4, .inl (G.2.1, 48, .inl pn.2.1.2.2.2.2.1)), (pno5, .inl (G.2.1, 49, .inl pn.2.1.2.2.2.2.2)), (pnk, .inl (G.2.1, 48, .inl pn.2.2.1)), (pnb, .inl (G.2.1, 48, .inl pn.2.2.2))]) cd (fun w => ∃ w1, (fun w => w = Sum.elim (fun _ => [(sc, .inr (5, [.ref tx0, .ref pnh, .ref tl0, .ref fh0, .ref hi, .ref sl])), (tx0, .inr (2, [.ref tx1, .int tx.2])), (tx1, .inl (G.2.1, 40, .inl tx.1)), (pnh, .inr (0, [.ref pns0, .ref pno0, .ref pnk, .ref pnb])), (pns0, .inr (4, [.ref pns1, .ref pns2, .int pn.1.2.2.1, .int pn.1.2.2.2.1, .int pn.1.2.2.2.2.1, .int pn.1.2.2.2.2.2.1, .int pn.1.2.2.2.2.2.2.1, .int pn.1.2.2.2.2.2.2.2])), (pns1, .inl (G.2.1, 48, .inl pn.1.1)), (pns2, .inl (G.2.1, 48, .inl pn.1.2.1)), (pno0, .inr (3, [.int pn.2.1.1, .ref pno1, .ref pno2, .ref pno3, .ref pno4, .ref pno5])), (pno1, .inl (G.2.1, 48, .inl pn.2.1.2.1)), (pno2, .inl (G.2.1, 48, .inl pn.2.1.2.2.1)), (pno3, .inl (G.2.1, 48, .inl pn.2.1.2.2.2.1)), (pno4, .inl (G.2.1, 48, .inl pn.2.1.2.2.2.2.1)), (pno5, .inl (G.2.1, 49, .inl pn.2.1.2.2.2.2.2)), (pnk, .inl (G.2.1, 48, .inl pn.2.2.1)), (pnb, .inl (G.2.1, 48, .inl pn.2.2.2))]) (fun z => [(sc, .inr (5, [.ref tx0, .ref pnh, .ref tl0, .ref fh0, .ref hi, .ref sl])), (tx0, .inr (2, [.ref tx1, .int tx.2])), (tx1, .inl (G.2.1, 40, .inl tx.1)), (pnh, .inr (0, [.ref pns0, .ref pno0, .ref pnk, .ref pnb])), (pns0, .inr (4, [.ref pns1, .ref pns2, .int pn.1.2.2.1, .int pn.1.2.2.2.1, .int pn.1.2.2.2.2.1, .int pn.1.2.2.2.2.2.1, .int pn.1.2.2.2.2.2.2.1, .int pn.1.2.2.2.2.2.2.2])), (pns1, .inl (G.2.1, 48, .inl pn.1.1)), (pns2, .inl (G.2.1, 48, .inl pn.1.2.1)), (pno0, .inr (3, [.int pn.2.1.1, .ref pno1, .ref pno2, .ref pno3, .ref pno4, .ref pno5])), (pno1, .inl (G.2.1, 48, .inl pn.2.1.2.1)), (pno2, .inl (G.2.1, 48, .inl pn.2.1.2.2.1)), (pno3, .inl (G.2.1, 48, .inl pn.2.1.2.2.2.1)), (pno4, .inl (G.2.1, 48, .inl pn.2.1.2.2.2.2.1)), (pno5, .inl (G.2.1, 49, .inl pn.2.1.2.2.2.2.2)), (pnk, .inl (G.2.1, 48, .inl pn.2.2.1)), (pnb, .inl (G.2.1, 48, .inl pn.2.2.2))]) r) w1 ∧ w = (ou, .inl (G.2.2.2.1, 1, .inr (.inl (Sum.elim (fun _ => uo) (fun z => vp_updL uo (0 : Int32).toNatClampNeg (z).toInt64) r)))) :: w1) := by
  refine fl_lw_in cL_placeOf 4 [(0, 9, 12, 13), (0, 9, 15, 15)] (by decide) rfl rfl (Nat.le_of_ble_eq_true rfl) ?_
  intro p e s m args below meth c ls A Q H locs C0 htab hK hE hZ hP hD hS hA hl hret
  obtain ⟨hx, hb, hml, hown, hts⟩ := id C0
  have hl : lv_has ls 4 [(0, .ref sc), (1, .int p0), (2, .ref ou)] := hl
  refine lv_aload_n hx hb dL_placeOf_0 rfl (lv_at hl 2 rfl) ?_
  refine lv_iconst (v := (0 : Int32)) hx hb dL_placeOf_1 (by decide) ?_
  refine lv_aload_n hx hb dL_placeOf_2 rfl (lv_at hl 0 rfl) ?_
  refine lv_iload_n hx hb dL_placeOf_3 rfl (lv_at hl 1 rfl) ?_
  refine fl_xmV (As := [.int p0]) (rest := [.int 0, .ref ou]) (wr := [(ou, .inl (G.2.2.2.1, 1, .inr (.inl uo)))]) C0 (c_SC_placeOf l hfl G sa sc tx0 tx1 pnh pns0 pns1 pns2 pno0 pno1 pno2 pno3 pno4 pno5 pnk pnb tl0 fh0 hi sl tx pn p0 hp0) (cwV 1 hts gL_placeOf_X5_placeOf rfl rfl rfl (by decide +kernel) ⟨Nat.le_of_ble_eq_true rfl, Nat.le_of_ble_eq_true rfl⟩) hK hE hZ (fl_P_perm (List.perm_append_singleton _ _).symm hP) (fl_D_perm (List.perm_append_singleton _ _).symm hD) 0 5 rfl rfl rfl hS hA rfl hl.1 rfl (Nat.le_of_ble_eq_true rfl) dL_placeOf_4 ⟨Nat.le_of_ble_eq_true rfl, Nat.le_of_ble_eq_true rfl⟩ (fun k ce q9 H locs he hP hD hS hce hcv hcl => ?_) (fun w1 H locs he hw1 hP hD hS => ?_)
  · cases r with
    | inr z => exact absurd (show (none : Option Nat) = some k from he) (by simp)
    | inl k9 =>
      have he : (some k9 : Option Nat) = some k := he
      obtain rfl := Option.some.inj he
      rcases hcd with ⟨h9, rfl⟩ | ⟨k8, h8, h9, rfl⟩ | ⟨k8, h8, h9, rfl⟩
      · exact absurd (show (some k9 : Option Nat) = none from h9) (by simp)
      · obtain rfl := Option.some.inj (show some 1 = some k8 from h8)
        obtain rfl := Option.some.inj (show some k9 = some 1 from h9)
        refine vx_catch (name := "java/lang/IllegalArgumentException") (E := fl_exn 1) hown [] ⟨0, 9, 12, 13⟩ [⟨0, 9, 15, 15⟩] (by rw [htab]; rfl) (fun z hz => absurd hz List.not_mem_nil) (by decide) (by decide) (hts (.classLink RL 13 "java/lang/IllegalArgumentException") (by first | exact List.mem_of_getElem? (i := 1) rfl | decide +kernel)) (va_Nw.use rfl (hE.2.2.1 1 (Or.inl rfl))) hce hcv hcl ?_
        refine lv_astore_n (lv' := [(3, .ref q9), (0, .ref sc), (1, .int p0), (2, .ref ou)]) hx hb dL_placeOf_12 rfl hl (by decide) rfl (fun ls hl => ?_)
        refine lv_iconst (v := (1 : Int32)) hx hb dL_placeOf_13 (by decide) ?_
        exact hret _ H locs _ _ _ ls ⟨_, rfl, rfl⟩ (fl_P_perm (List.perm_append_singleton _ _) hP) (fl_D_perm (List.perm_append_singleton _ _) hD) hS dL_placeOf_14 (Nat.le_of_ble_eq_true rfl) (Nat.le_of_ble_eq_true rfl)
      · obtain rfl := Option.some.inj (show some 2 = some k8 from h8)
        obtain rfl := Option.some.inj (show some k9 = some 2 from h9)
        refine vx_catch (name := "java/lang/IllegalStateException") (E := fl_exn 2) hown [⟨0, 9, 12, 13⟩] ⟨0, 9, 15, 15⟩ [] (by rw [htab]; rfl) (fun z hz => by obtain rfl := List.mem_singleton.mp hz; exact Or.inr ⟨by decide, "java/lang/IllegalArgumentException", hts (.classLink RL 13 "java/lang/IllegalArgumentException") (by first | exact List.mem_of_getElem? (i := 1) rfl | decide +kernel), hE.2.2.2.1⟩) (by decide) (by decide) (hts (.classLink RL 15 "java/lang/IllegalStateException") (by first | exact List.mem_of_getElem? (i := 2) rfl | decide +kernel)) (va_Nw.use rfl (hE.2.2.1 2 (Or.inr (Or.inl rfl)))) hce hcv hcl ?_
        refine lv_astore_n (lv' := [(3, .ref q9), (0, .ref sc), (1, .int p0), (2, .ref ou)]) hx hb dL_placeOf_15 rfl hl (by decide) rfl (fun ls hl => ?_)
        refine lv_iconst (v := (2 : Int32)) hx hb dL_placeOf_16 (by decide) ?_
        exact hret _ H locs _ _ _ ls ⟨_, rfl, rfl⟩ (fl_P_perm (List.perm_append_singleton _ _) hP) (fl_D_perm (List.perm_append_singleton _ _) hD) hS dL_placeOf_17 (Nat.le_of_ble_eq_true rfl) (Nat.le_of_ble_eq_true rfl)
  · cases r with
    | inl k9 => exact absurd (show (some k9 : Option Nat) = none from he) (by simp)
    | inr z =>
      rcases hcd with ⟨h9, rfl⟩ | ⟨k8, h8, h9, rfl⟩ | ⟨k8, h8, h9, rfl⟩
      · replace hP := fl_P_perm (List.perm_append_singleton _ _) hP
        replace hD := fl_D_perm (List.perm_append_singleton _ _) hD
        refine lv_i2l (v := (z).toInt64) hx hb dL_placeOf_7 rfl ?_
        refine va_last hx hb hK.1 hP hD hS 0 2 rfl rfl fl_in01 dL_placeOf_8 (fun H locs hP hD hS => ?_)
        refine lv_goto (tgt := 18) hx hb dL_placeOf_9 (by decide) ?_
        refine lv_iconst (v := (0 : Int32)) hx hb dL_placeOf_18 (by decide) ?_
        exact hret _ H locs _ _ _ ls ⟨w1, hw1, rfl⟩ hP hD hS dL_placeOf_19 (Nat.le_of_ble_eq_true rfl) (Nat.le_of_ble_eq_true rfl)
      · exact absurd (show (none : Option Nat) = some k8 from h9) (by simp)
      · exact absurd (show (none : Option Nat) = some k8 from h9) (by simp)
set_option maxHeartbeats 1000000 in
set_option maxRecDepth 100000 in
theorem c_L_known (l : Launch) (hfl : l.stackTraces = false) (G : fl_G) (sa : Nat → Nat) (sc tx0 tx1 pnh pns0 pns1 pns2 pno0 pno1 pno2 pno3 pno4 pno5 pnk pnb tl0 fh0 hi sl : Nat) (tx : fl_Ln) (pn : fl_Ch) {r : (Nat ⊕ Int32)} (hp0 : P_SC_known tx pn = some r) (ou : Nat) (uo : Nat → Int64) {cd : Int32} (hcd : fl_cd [2] (fl_ex r) cd) : fl_lw l yL_known wsL_known 7 112 1 6 G sa [.ref sc, .ref ou] ((ou, .inl (G.2.2.2.1, 1, .inr (.inl uo))) :: [(sc, .inr (5, [.ref tx0, .ref pnh, .ref tl0, .ref fh0, .ref hi, .ref sl])), (tx0, .inr (2, [.ref tx1, .int tx.2])), (tx1, .inl (G.2.1, 40, .inl tx.1)), (pnh, .inr (0, [.ref pns0, .ref pno0, .ref pnk, .ref pnb])), (pns0, .inr (4, [.ref pns1, .ref pns2, .int pn.1.2.2.1, .int pn.1.2.2.2.1, .int pn.1.2.2.2.2.1, .int pn.1.2.2.2.2.2.1, .int pn.1.2.2.2.2.2.2.1, .int pn.1.2.2.2.2.2.2.2])), (pns1, .inl (G.2.1, 48, .inl pn.1.1)), (pns2, .inl (G.2.1, 48, .inl pn.1.2.1)), (pno0, .inr (3, [.int pn.2.1.1, .ref pno1, .ref pno2, .ref pno3, .ref pno4, .ref pno5])), (pno1, .inl (G.2.1, 48, .inl pn.2.1.2.1)), (pno2, .inl (G.2.1, 48, .inl pn.2.1.2.2.1)), (pno3, .inl (G.2.1, 48, .inl pn.2.1.2.2.2.1)), (pno4, .inl (G.2.1, 48, .inl pn.2.1.2.2.2.2.1)), (pno5, .inl (G.2.1, 49, .inl pn.2.1.2.2.2.2.2)), (pnk, .inl (G.2.1, 48, .inl pn.2.2.1)), (pnb, .inl (G.2.1, 48, .inl pn.2.2.2))]) cd (fun w => ∃ w1, (fun w => w = Sum.elim (fun _ => [(sc, .inr (5, [.ref tx0, .ref pnh, .ref tl0, .ref fh0, .ref hi, .ref sl])), (tx0, .inr (2, [.ref tx1, .int tx.2])), (tx1, .inl (G.2.1, 40, .inl tx.1)), (pnh, .inr (0, [.ref pns0, .ref pno0, .ref pnk, .ref pnb])), (pns0, .inr (4, [.ref pns1, .ref pns2, .int pn.1.2.2.1, .int pn.1.2.2.2.1, .int pn.1.2.2.2.2.1, .int pn.1.2.2.2.2.2.1, .int pn.1.2.2.2.2.2.2.1, .int pn.1.2.2.2.2.2.2.2])), (pns1, .inl (G.2.1, 48, .inl pn.1.1)), (pns2, .inl (G.2.1, 48, .inl pn.1.2.1)), (pno0, .inr (3, [.int pn.2.1.1, .ref pno1, .ref pno2, .ref pno3, .ref pno4, .ref pno5])), (pno1, .inl (G.2.1, 48, .inl pn.2.1.2.1)), (pno2, .inl (G.2.1, 48, .inl pn.2.1.2.2.1)), (pno3, .inl (G.2.1, 48, .inl pn.2.1.2.2.2.1)), (pno4, .inl (G.2.1, 48, .inl pn.2.1.2.2.2.2.1)), (pno5, .inl (G.2.1, 49, .inl pn.2.1.2.2.2.2.2)), (pnk, .inl (G.2.1, 48, .inl pn.2.2.1)), (pnb, .inl (G.2.1, 48, .inl pn.2.2.2))]) (fun z => [(sc, .inr (5, [.ref tx0, .ref pnh, .ref tl0, .ref fh0, .ref hi, .ref sl])), (tx0, .inr (2, [.ref tx1, .int tx.2])), (tx1, .inl (G.2.1, 40, .inl tx.1)), (pnh, .inr (0, [.ref pns0, .ref pno0, .ref pnk, .ref pnb])), (pns0, .inr (4, [.ref pns1, .ref pns2, .int pn.1.2.2.1, .int pn.1.2.2.2.1, .int pn.1.2.2.2.2.1, .int pn.1.2.2.2.2.2.1, .int pn.1.2.2.2.2.2.2.1, .int pn.1.2.2.2.2.2.2.2])), (pns1, .inl (G.2.1, 48, .inl pn.1.1)), (pns2, .inl (G.2.1, 48, .inl pn.1.2.1)), (pno0, .inr (3, [.int pn.2.1.1, .ref pno1, .ref pno2, .ref pno3, .ref pno4, .ref pno5])), (pno1, .inl (G.2.1, 48, .inl pn.2.1.2.1)), (pno2, .inl (G.2.1, 48, .inl pn.2.1.2.2.1)), (pno3, .inl (G.2.1, 48, .inl pn.2.1.2.2.2.1)), (pno4, .inl (G.2.1, 48, .inl pn.2.1.2.2.2.2.1)), (pno5, .inl (G.2.1, 49, .inl pn.2.1.2.2.2.2.2)), (pnk, .inl (G.2.1, 48, .inl pn.2.2.1)), (pnb, .inl (G.2.1, 48, .inl pn.2.2.2))]) r) w1 ∧ w = (ou, .inl (G.2.2.2.1, 1, .inr (.inl (Sum.elim (fun _ => uo) (fun z => vp_updL uo (0 : Int32).toNatClampNeg (z).toInt64) r)))) :: w1) := by
  refine fl_lw_in cL_known 3 [(0, 8, 11, 15)] (by decide) rfl rfl (Nat.le_of_ble_eq_true rfl) ?_
  intro p e s m args below meth c ls A Q H locs C0 htab hK hE hZ hP hD hS hA hl hret
  obtain ⟨hx, hb, hml, hown, hts⟩ := id C0
  have hl : lv_has ls 3 [(0, .ref sc), (1, .ref ou)] := hl
  refine lv_aload_n hx hb dL_known_0 rfl (lv_at hl 1 rfl) ?_
  refine lv_iconst (v := (0 : Int32)) hx hb dL_known_1 (by decide) ?_
  refine lv_aload_n hx hb dL_known_2 rfl (lv_at hl 0 rfl) ?_
  refine fl_xmV (As := []) (rest := [.int 0, .ref ou]) (wr := [(ou, .inl (G.2.2.2.1, 1, .inr (.inl uo)))]) C0 (c_SC_known l hfl G sa sc tx0 tx1 pnh pns0 pns1 pns2 pno0 pno1 pno2 pno3 pno4 pno5 pnk pnb tl0 fh0 hi sl tx pn hp0) (cwV 0 hts gL_known_X5_known rfl rfl rfl (by decide +kernel) ⟨Nat.le_of_ble_eq_true rfl, Nat.le_of_ble_eq_true rfl⟩) hK hE hZ (fl_P_perm (List.perm_append_singleton _ _).symm hP) (fl_D_perm (List.perm_append_singleton _ _).symm hD) 0 5 rfl rfl rfl hS hA rfl hl.1 rfl (Nat.le_of_ble_eq_true rfl) dL_known_3 ⟨Nat.le_of_ble_eq_true rfl, Nat.le_of_ble_eq_true rfl⟩ (fun k ce q9 H locs he hP hD hS hce hcv hcl => ?_) (fun w1 H locs he hw1 hP hD hS => ?_)
  · cases r with
    | inr z => exact absurd (show (none : Option Nat) = some k from he) (by simp)
    | inl k9 =>
      have he : (some k9 : Option Nat) = some k := he
      obtain rfl := Option.some.inj he
      rcases hcd with ⟨h9, rfl⟩ | ⟨k8, h8, h9, rfl⟩ | ⟨k8, h8, h9, rfl⟩
      · exact absurd (show (some k9 : Option Nat) = none from h9) (by simp)
      · obtain rfl := Option.some.inj (show some 2 = some k8 from h8)
        obtain rfl := Option.some.inj (show some k9 = some 2 from h9)
        refine vx_catch (name := "java/lang/IllegalStateException") (E := fl_exn 2) hown [] ⟨0, 8, 11, 15⟩ [] (by rw [htab]; rfl) (fun z hz => absurd hz List.not_mem_nil) (by decide) (by decide) (hts (.classLink RL 15 "java/lang/IllegalStateException") (by first | exact List.mem_of_getElem? (i := 1) rfl | decide +kernel)) (va_Nw.use rfl (hE.2.2.1 2 (Or.inr (Or.inl rfl)))) hce hcv hcl ?_
        refine lv_astore_n (lv' := [(2, .ref q9), (0, .ref sc), (1, .ref ou)]) hx hb dL_known_11 rfl hl (by decide) rfl (fun ls hl => ?_)
        refine lv_iconst (v := (1 : Int32)) hx hb dL_known_12 (by decide) ?_
        exact hret _ H locs _ _ _ ls ⟨_, rfl, rfl⟩ (fl_P_perm (List.perm_append_singleton _ _) hP) (fl_D_perm (List.perm_append_singleton _ _) hD) hS dL_known_13 (Nat.le_of_ble_eq_true rfl) (Nat.le_of_ble_eq_true rfl)
      · exact absurd (show (none : Option Nat) = some k8 from h8) (by simp)
  · cases r with
    | inl k9 => exact absurd (show (some k9 : Option Nat) = none from he) (by simp)
    | inr z =>
      rcases hcd with ⟨h9, rfl⟩ | ⟨k8, h8, h9, rfl⟩ | ⟨k8, h8, h9, rfl⟩
      · replace hP := fl_P_perm (List.perm_append_singleton _ _) hP
        replace hD := fl_D_perm (List.perm_append_singleton _ _) hD
        refine lv_i2l (v := (z).toInt64) hx hb dL_known_6 rfl ?_
        refine va_last hx hb hK.1 hP hD hS 0 2 rfl rfl fl_in01 dL_known_7 (fun H locs hP hD hS => ?_)
        refine lv_goto (tgt := 14) hx hb dL_known_8 (by decide) ?_
        refine lv_iconst (v := (0 : Int32)) hx hb dL_known_14 (by decide) ?_
        exact hret _ H locs _ _ _ ls ⟨w1, hw1, rfl⟩ hP hD hS dL_known_15 (Nat.le_of_ble_eq_true rfl) (Nat.le_of_ble_eq_true rfl)
      · exact absurd (show (none : Option Nat) = some k8 from h9) (by simp)
      · exact absurd (show (none : Option Nat) = some k8 from h9) (by simp)
set_option maxHeartbeats 1000000 in
set_option maxRecDepth 100000 in
theorem c_L_common (l : Launch) (hfl : l.stackTraces = false) (G : fl_G) (sa : Nat → Nat) (sc tx0 pnh pns0 pns1 pns2 pno0 pno1 pno2 pno3 pno4 pno5 pnk pnb tl0 fh0 hi sl : Nat) (pn : fl_Ch) (p0 : Int32) (p1 : Int32) {r : (Nat ⊕ Int32)} (hp0 : P_SC_common pn p0 p1 = some r) (ou : Nat) (uo : Nat → Int64) {cd : Int32} (hcd : fl_cd [3] (fl_ex r) cd) : fl_lw l yL_common wsL_common 7 116 1 6 G sa [.ref sc, .int p0, .int p1, .ref ou] ((ou, .inl (G.2.2.2.1, 1, .inr (.inl uo))) :: [(sc, .inr (5, [.ref tx0, .ref pnh, .ref tl0, .ref fh0, .ref hi, .ref sl])), (pnh, .inr (0, [.ref pns0, .ref pno0, .ref pnk, .ref pnb])), (pns0, .inr (4, [.ref pns1, .ref pns2, .int pn.1.2.2.1, .int pn.1.2.2.2.1, .int pn.1.2.2.2.2.1, .int pn.1.2.2.2.2.2.1, .int pn.1.2.2.2.2.2.2.1, .int pn.1.2.2.2.2.2.2.2])), (pns1, .inl (G.2.1, 48, .inl pn.1.1)), (pns2, .inl (G.2.1, 48, .inl pn.1.2.1)), (pno0, .inr (3, [.int pn.2.1.1, .ref pno1, .ref pno2, .ref pno3, .ref pno4, .ref pno5])), (pno1, .inl (G.2.1, 48, .inl pn.2.1.2.1)), (pno2, .inl (G.2.1, 48, .inl pn.2.1.2.2.1)), (pno3, .inl (G.2.1, 48, .inl pn.2.1.2.2.2.1)), (pno4, .inl (G.2.1, 48, .inl pn.2.1.2.2.2.2.1)), (pno5, .inl (G.2.1, 49, .inl pn.2.1.2.2.2.2.2)), (pnk, .inl (G.2.1, 48, .inl pn.2.2.1)), (pnb, .inl (G.2.1, 48, .inl pn.2.2.2))]) cd (fun w => ∃ w1, (fun w => w = Sum.elim (fun _ => [(sc, .inr (5, [.ref tx0, .ref pnh, .ref tl0, .ref fh0, .ref hi, .ref sl])), (pnh, .inr (0, [.ref pns0, .ref pno0, .ref pnk, .ref pnb])), (pns0, .inr (4, [.ref pns1, .ref pns2, .int pn.1.2.2.1, .int pn.1.2.2.2.1, .int pn.1.2.2.2.2.1, .int pn.1.2.2.2.2.2.1, .int pn.1.2.2.2.2.2.2.1, .int pn.1.2.2.2.2.2.2.2])), (pns1, .inl (G.2.1, 48, .inl pn.1.1)), (pns2, .inl (G.2.1, 48, .inl pn.1.2.1)), (pno0, .inr (3, [.int pn.2.1.1, .ref pno1, .ref pno2, .ref pno3, .ref pno4, .ref pno5])), (pno1, .inl (G.2.1, 48, .inl pn.2.1.2.1)), (pno2, .inl (G.2.1, 48, .inl pn.2.1.2.2.1)), (pno3, .inl (G.2.1, 48, .inl pn.2.1.2.2.2.1)), (pno4, .inl (G.2.1, 48, .inl pn.2.1.2.2.2.2.1)), (pno5, .inl (G.2.1, 49, .inl pn.2.1.2.2.2.2.2)), (pnk, .inl (G.2.1, 48, .inl pn.2.2.1)), (pnb, .inl (G.2.1, 48, .inl pn.2.2.2))]) (fun z => [(sc, .inr (5, [.ref tx0, .ref pnh, .ref tl0, .ref fh0, .ref hi, .ref sl])), (pnh, .inr (0, [.ref pns0, .ref pno0, .ref pnk, .ref pnb])), (pns0, .inr (4, [.ref pns1, .ref pns2, .int pn.1.2.2.1, .int pn.1.2.2.2.1, .int pn.1.2.2.2.2.1, .int pn.1.2.2.2.2.2.1, .int pn.1.2.2.2.2.2.2.1, .int pn.1.2.2.2.2.2.2.2])), (pns1, .inl (G.2.1, 48, .inl pn.1.1)), (pns2, .inl (G.2.1, 48, .inl pn.1.2.1)), (pno0, .inr (3, [.int pn.2.1.1, .ref pno1, .ref pno2, .ref pno3, .ref pno4, .ref pno5])), (pno1, .inl (G.2.1, 48, .inl pn.2.1.2.1)), (pno2, .inl (G.2.1, 48, .inl pn.2.1.2.2.1)), (pno3, .inl (G.2.1, 48, .inl pn.2.1.2.2.2.1)), (pno4, .inl (G.2.1, 48, .inl pn.2.1.2.2.2.2.1)), (pno5, .inl (G.2.1, 49, .inl pn.2.1.2.2.2.2.2)), (pnk, .inl (G.2.1, 48, .inl pn.2.2.1)), (pnb, .inl (G.2.1, 48, .inl pn.2.2.2))]) r) w1 ∧ w = (ou, .inl (G.2.2.2.1, 1, .inr (.inl (Sum.elim (fun _ => uo) (fun z => vp_updL uo (0 : Int32).toNatClampNeg (z).toInt64) r)))) :: w1) := by
  refine fl_lw_in cL_common 5 [(0, 10, 13, 24)] (by decide) rfl rfl (Nat.le_of_ble_eq_true rfl) ?_
  intro p e s m args below meth c ls A Q H locs C0 htab hK hE hZ hP hD hS hA hl hret
  obtain ⟨hx, hb, hml, hown, hts⟩ := id C0
  have hl : lv_has ls 5 [(0, .ref sc), (1, .int p0), (2, .int p1), (3, .ref ou)] := hl
  refine lv_aload_n hx hb dL_common_0 rfl (lv_at hl 3 rfl) ?_
  refine lv_iconst (v := (0 : Int32)) hx hb dL_common_1 (by decide) ?_
  refine lv_aload_n hx hb dL_common_2 rfl (lv_at hl 0 rfl) ?_
  refine lv_iload_n hx hb dL_common_3 rfl (lv_at hl 1 rfl) ?_
  refine lv_iload_n hx hb dL_common_4 rfl (lv_at hl 2 rfl) ?_
  refine fl_xmV (As := [.int p0, .int p1]) (rest := [.int 0, .ref ou]) (wr := [(ou, .inl (G.2.2.2.1, 1, .inr (.inl uo)))]) C0 (c_SC_common l hfl G sa sc tx0 pnh pns0 pns1 pns2 pno0 pno1 pno2 pno3 pno4 pno5 pnk pnb tl0 fh0 hi sl pn p0 p1 hp0) (cwV 2 hts gL_common_X5_common rfl rfl rfl (by decide +kernel) ⟨Nat.le_of_ble_eq_true rfl, Nat.le_of_ble_eq_true rfl⟩) hK hE hZ (fl_P_perm (List.perm_append_singleton _ _).symm hP) (fl_D_perm (List.perm_append_singleton _ _).symm hD) 0 5 rfl rfl rfl hS hA rfl hl.1 rfl (Nat.le_of_ble_eq_true rfl) dL_common_5 ⟨Nat.le_of_ble_eq_true rfl, Nat.le_of_ble_eq_true rfl⟩ (fun k ce q9 H locs he hP hD hS hce hcv hcl => ?_) (fun w1 H locs he hw1 hP hD hS => ?_)
  · cases r with
    | inr z => exact absurd (show (none : Option Nat) = some k from he) (by simp)
    | inl k9 =>
      have he : (some k9 : Option Nat) = some k := he
      obtain rfl := Option.some.inj he
      rcases hcd with ⟨h9, rfl⟩ | ⟨k8, h8, h9, rfl⟩ | ⟨k8, h8, h9, rfl⟩
      · exact absurd (show (some k9 : Option Nat) = none from h9) (by simp)
      · obtain rfl := Option.some.inj (show some 3 = some k8 from h8)
        obtain rfl := Option.some.inj (show some k9 = some 3 from h9)
        refine vx_catch (name := "java/lang/IndexOutOfBoundsException") (E := fl_exn 3) hown [] ⟨0, 10, 13, 24⟩ [] (by rw [htab]; rfl) (fun z hz => absurd hz List.not_mem_nil) (by decide) (by decide) (hts (.classLink RL 24 "java/lang/IndexOutOfBoundsException") (by first | exact List.mem_of_getElem? (i := 1) rfl | decide +kernel)) (va_Nw.use rfl (hE.2.2.1 3 (Or.inr (Or.inr rfl)))) hce hcv hcl ?_
        refine lv_astore (lv' := [(4, .ref q9), (0, .ref sc), (1, .int p0), (2, .int p1), (3, .ref ou)]) hx hb dL_common_13 hl (by decide) rfl (fun ls hl => ?_)
        refine lv_iconst (v := (1 : Int32)) hx hb dL_common_15 (by decide) ?_
        exact hret _ H locs _ _ _ ls ⟨_, rfl, rfl⟩ (fl_P_perm (List.perm_append_singleton _ _) hP) (fl_D_perm (List.perm_append_singleton _ _) hD) hS dL_common_16 (Nat.le_of_ble_eq_true rfl) (Nat.le_of_ble_eq_true rfl)
      · exact absurd (show (none : Option Nat) = some k8 from h8) (by simp)
  · cases r with
    | inl k9 => exact absurd (show (some k9 : Option Nat) = none from he) (by simp)
    | inr z =>
      rcases hcd with ⟨h9, rfl⟩ | ⟨k8, h8, h9, rfl⟩ | ⟨k8, h8, h9, rfl⟩
      · replace hP := fl_P_perm (List.perm_append_singleton _ _) hP
        replace hD := fl_D_perm (List.perm_append_singleton _ _) hD
        refine lv_i2l (v := (z).toInt64) hx hb dL_common_8 rfl ?_
        refine va_last hx hb hK.1 hP hD hS 0 2 rfl rfl fl_in01 dL_common_9 (fun H locs hP hD hS => ?_)
        refine lv_goto (tgt := 17) hx hb dL_common_10 (by decide) ?_
        refine lv_iconst (v := (0 : Int32)) hx hb dL_common_17 (by decide) ?_
        exact hret _ H locs _ _ _ ls ⟨w1, hw1, rfl⟩ hP hD hS dL_common_18 (Nat.le_of_ble_eq_true rfl) (Nat.le_of_ble_eq_true rfl)
      · exact absurd (show (none : Option Nat) = some k8 from h9) (by simp)
      · exact absurd (show (none : Option Nat) = some k8 from h9) (by simp)
set_option maxHeartbeats 1000000 in
set_option maxRecDepth 100000 in
theorem c_L_most (l : Launch) (hfl : l.stackTraces = false) (G : fl_G) (sa : Nat → Nat) (sc tx0 pnh pns0 pns1 pns2 pno0 pno1 pno2 pno3 pno4 pno5 pnk pnb tl0 fh0 hi sl : Nat) (pn : fl_Ch) (p0 : Int32) (p1 : Int32) {r : (Nat ⊕ Int32)} (hp0 : P_SC_most pn p0 p1 = some r) (ou : Nat) (uo : Nat → Int64) {cd : Int32} (hcd : fl_cd [1] (fl_ex r) cd) : fl_lw l yL_most wsL_most 7 112 1 6 G sa [.ref sc, .int p0, .int p1, .ref ou] ((ou, .inl (G.2.2.2.1, 1, .inr (.inl uo))) :: [(sc, .inr (5, [.ref tx0, .ref pnh, .ref tl0, .ref fh0, .ref hi, .ref sl])), (pnh, .inr (0, [.ref pns0, .ref pno0, .ref pnk, .ref pnb])), (pns0, .inr (4, [.ref pns1, .ref pns2, .int pn.1.2.2.1, .int pn.1.2.2.2.1, .int pn.1.2.2.2.2.1, .int pn.1.2.2.2.2.2.1, .int pn.1.2.2.2.2.2.2.1, .int pn.1.2.2.2.2.2.2.2])), (pns1, .inl (G.2.1, 48, .inl pn.1.1)), (pns2, .inl (G.2.1, 48, .inl pn.1.2.1)), (pno0, .inr (3, [.int pn.2.1.1, .ref pno1, .ref pno2, .ref pno3, .ref pno4, .ref pno5])), (pno1, .inl (G.2.1, 48, .inl pn.2.1.2.1)), (pno2, .inl (G.2.1, 48, .inl pn.2.1.2.2.1)), (pno3, .inl (G.2.1, 48, .inl pn.2.1.2.2.2.1)), (pno4, .inl (G.2.1, 48, .inl pn.2.1.2.2.2.2.1)), (pno5, .inl (G.2.1, 49, .inl pn.2.1.2.2.2.2.2)), (pnk, .inl (G.2.1, 48, .inl pn.2.2.1)), (pnb, .inl (G.2.1, 48, .inl pn.2.2.2))]) cd (fun w => ∃ w1, (fun w => w = Sum.elim (fun _ => [(sc, .inr (5, [.ref tx0, .ref pnh, .ref tl0, .ref fh0, .ref hi, .ref sl])), (pnh, .inr (0, [.ref pns0, .ref pno0, .ref pnk, .ref pnb])), (pns0, .inr (4, [.ref pns1, .ref pns2, .int pn.1.2.2.1, .int pn.1.2.2.2.1, .int pn.1.2.2.2.2.1, .int pn.1.2.2.2.2.2.1, .int pn.1.2.2.2.2.2.2.1, .int pn.1.2.2.2.2.2.2.2])), (pns1, .inl (G.2.1, 48, .inl pn.1.1)), (pns2, .inl (G.2.1, 48, .inl pn.1.2.1)), (pno0, .inr (3, [.int pn.2.1.1, .ref pno1, .ref pno2, .ref pno3, .ref pno4, .ref pno5])), (pno1, .inl (G.2.1, 48, .inl pn.2.1.2.1)), (pno2, .inl (G.2.1, 48, .inl pn.2.1.2.2.1)), (pno3, .inl (G.2.1, 48, .inl pn.2.1.2.2.2.1)), (pno4, .inl (G.2.1, 48, .inl pn.2.1.2.2.2.2.1)), (pno5, .inl (G.2.1, 49, .inl pn.2.1.2.2.2.2.2)), (pnk, .inl (G.2.1, 48, .inl pn.2.2.1)), (pnb, .inl (G.2.1, 48, .inl pn.2.2.2))]) (fun z => [(sc, .inr (5, [.ref tx0, .ref pnh, .ref tl0, .ref fh0, .ref hi, .ref sl])), (pnh, .inr (0, [.ref pns0, .ref pno0, .ref pnk, .ref pnb])), (pns0, .inr (4, [.ref pns1, .ref pns2, .int pn.1.2.2.1, .int pn.1.2.2.2.1, .int pn.1.2.2.2.2.1, .int pn.1.2.2.2.2.2.1, .int pn.1.2.2.2.2.2.2.1, .int pn.1.2.2.2.2.2.2.2])), (pns1, .inl (G.2.1, 48, .inl pn.1.1)), (pns2, .inl (G.2.1, 48, .inl pn.1.2.1)), (pno0, .inr (3, [.int pn.2.1.1, .ref pno1, .ref pno2, .ref pno3, .ref pno4, .ref pno5])), (pno1, .inl (G.2.1, 48, .inl pn.2.1.2.1)), (pno2, .inl (G.2.1, 48, .inl pn.2.1.2.2.1)), (pno3, .inl (G.2.1, 48, .inl pn.2.1.2.2.2.1)), (pno4, .inl (G.2.1, 48, .inl pn.2.1.2.2.2.2.1)), (pno5, .inl (G.2.1, 49, .inl pn.2.1.2.2.2.2.2)), (pnk, .inl (G.2.1, 48, .inl pn.2.2.1)), (pnb, .inl (G.2.1, 48, .inl pn.2.2.2))]) r) w1 ∧ w = (ou, .inl (G.2.2.2.1, 1, .inr (.inl (Sum.elim (fun _ => uo) (fun z => vp_updL uo (0 : Int32).toNatClampNeg (z).toInt64) r)))) :: w1) := by
  refine fl_lw_in cL_most 5 [(0, 10, 13, 13)] (by decide) rfl rfl (Nat.le_of_ble_eq_true rfl) ?_
  intro p e s m args below meth c ls A Q H locs C0 htab hK hE hZ hP hD hS hA hl hret
  obtain ⟨hx, hb, hml, hown, hts⟩ := id C0
  have hl : lv_has ls 5 [(0, .ref sc), (1, .int p0), (2, .int p1), (3, .ref ou)] := hl
  refine lv_aload_n hx hb dL_most_0 rfl (lv_at hl 3 rfl) ?_
  refine lv_iconst (v := (0 : Int32)) hx hb dL_most_1 (by decide) ?_
  refine lv_aload_n hx hb dL_most_2 rfl (lv_at hl 0 rfl) ?_
  refine lv_iload_n hx hb dL_most_3 rfl (lv_at hl 1 rfl) ?_
  refine lv_iload_n hx hb dL_most_4 rfl (lv_at hl 2 rfl) ?_
  refine fl_xmV (As := [.int p0, .int p1]) (rest := [.int 0, .ref ou]) (wr := [(ou, .inl (G.2.2.2.1, 1, .inr (.inl uo)))]) C0 (c_SC_most l hfl G sa sc tx0 pnh pns0 pns1 pns2 pno0 pno1 pno2 pno3 pno4 pno5 pnk pnb tl0 fh0 hi sl pn p0 p1 hp0) (cwV 2 hts gL_most_X5_most rfl rfl rfl (by decide +kernel) ⟨Nat.le_of_ble_eq_true rfl, Nat.le_of_ble_eq_true rfl⟩) hK hE hZ (fl_P_perm (List.perm_append_singleton _ _).symm hP) (fl_D_perm (List.perm_append_singleton _ _).symm hD) 0 5 rfl rfl rfl hS hA rfl hl.1 rfl (Nat.le_of_ble_eq_true rfl) dL_most_5 ⟨Nat.le_of_ble_eq_true rfl, Nat.le_of_ble_eq_true rfl⟩ (fun k ce q9 H locs he hP hD hS hce hcv hcl => ?_) (fun w1 H locs he hw1 hP hD hS => ?_)
  · cases r with
    | inr z => exact absurd (show (none : Option Nat) = some k from he) (by simp)
    | inl k9 =>
      have he : (some k9 : Option Nat) = some k := he
      obtain rfl := Option.some.inj he
      rcases hcd with ⟨h9, rfl⟩ | ⟨k8, h8, h9, rfl⟩ | ⟨k8, h8, h9, rfl⟩
      · exact absurd (show (some k9 : Option Nat) = none from h9) (by simp)
      · obtain rfl := Option.some.inj (show some 1 = some k8 from h8)
        obtain rfl := Option.some.inj (show some k9 = some 1 from h9)
        refine vx_catch (name := "java/lang/IllegalArgumentException") (E := fl_exn 1) hown [] ⟨0, 10, 13, 13⟩ [] (by rw [htab]; rfl) (fun z hz => absurd hz List.not_mem_nil) (by decide) (by decide) (hts (.classLink RL 13 "java/lang/IllegalArgumentException") (by first | exact List.mem_of_getElem? (i := 1) rfl | decide +kernel)) (va_Nw.use rfl (hE.2.2.1 1 (Or.inl rfl))) hce hcv hcl ?_
        refine lv_astore (lv' := [(4, .ref q9), (0, .ref sc), (1, .int p0), (2, .int p1), (3, .ref ou)]) hx hb dL_most_13 hl (by decide) rfl (fun ls hl => ?_)
        refine lv_iconst (v := (1 : Int32)) hx hb dL_most_15 (by decide) ?_
        exact hret _ H locs _ _ _ ls ⟨_, rfl, rfl⟩ (fl_P_perm (List.perm_append_singleton _ _) hP) (fl_D_perm (List.perm_append_singleton _ _) hD) hS dL_most_16 (Nat.le_of_ble_eq_true rfl) (Nat.le_of_ble_eq_true rfl)
      · exact absurd (show (none : Option Nat) = some k8 from h8) (by simp)
  · cases r with
    | inl k9 => exact absurd (show (some k9 : Option Nat) = none from he) (by simp)
    | inr z =>
      rcases hcd with ⟨h9, rfl⟩ | ⟨k8, h8, h9, rfl⟩ | ⟨k8, h8, h9, rfl⟩
      · replace hP := fl_P_perm (List.perm_append_singleton _ _) hP
        replace hD := fl_D_perm (List.perm_append_singleton _ _) hD
        refine lv_i2l (v := (z).toInt64) hx hb dL_most_8 rfl ?_
        refine va_last hx hb hK.1 hP hD hS 0 2 rfl rfl fl_in01 dL_most_9 (fun H locs hP hD hS => ?_)
        refine lv_goto (tgt := 17) hx hb dL_most_10 (by decide) ?_
        refine lv_iconst (v := (0 : Int32)) hx hb dL_most_17 (by decide) ?_
        exact hret _ H locs _ _ _ ls ⟨w1, hw1, rfl⟩ hP hD hS dL_most_18 (Nat.le_of_ble_eq_true rfl) (Nat.le_of_ble_eq_true rfl)
      · exact absurd (show (none : Option Nat) = some k8 from h9) (by simp)
      · exact absurd (show (none : Option Nat) = some k8 from h9) (by simp)
set_option maxHeartbeats 1000000 in
set_option maxRecDepth 100000 in
theorem c_L_runScript (l : Launch) (hfl : l.stackTraces = false) (G : fl_G) (sa : Nat → Nat) (sc tx0 pnh pns0 pns1 pns2 pno0 pno1 pno2 pno3 pno4 pno5 pnk pnb tlh tls0 tls1 tls2 tlo0 tlo1 tlo2 tlo3 tlo4 tlo5 tlk tlb fh0 fh1 hi sl : Nat) (pn : fl_Ch) (tl : fl_Ch) (fh : fl_Ln) (p0 : Int32) (p1 : Int64) {r : (Nat ⊕ (Int32 × fl_Ch × fl_Ln))} (hp0 : P_SC_runScript pn tl fh p0 p1 = some r) (ou : Nat) (uo : Nat → Int64) {cd : Int32} (hcd : fl_cd [1] (fl_ex r) cd) : fl_lw l yL_runScript wsL_runScript 7 162 1 6 G sa [.ref sc, .int p0, .long p1, .ref ou] ((ou, .inl (G.2.2.2.1, 1, .inr (.inl uo))) :: [(sc, .inr (5, [.ref tx0, .ref pnh, .ref tlh, .ref fh0, .ref hi, .ref sl])), (pnh, .inr (0, [.ref pns0, .ref pno0, .ref pnk, .ref pnb])), (pns0, .inr (4, [.ref pns1, .ref pns2, .int pn.1.2.2.1, .int pn.1.2.2.2.1, .int pn.1.2.2.2.2.1, .int pn.1.2.2.2.2.2.1, .int pn.1.2.2.2.2.2.2.1, .int pn.1.2.2.2.2.2.2.2])), (pns1, .inl (G.2.1, 48, .inl pn.1.1)), (pns2, .inl (G.2.1, 48, .inl pn.1.2.1)), (pno0, .inr (3, [.int pn.2.1.1, .ref pno1, .ref pno2, .ref pno3, .ref pno4, .ref pno5])), (pno1, .inl (G.2.1, 48, .inl pn.2.1.2.1)), (pno2, .inl (G.2.1, 48, .inl pn.2.1.2.2.1)), (pno3, .inl (G.2.1, 48, .inl pn.2.1.2.2.2.1)), (pno4, .inl (G.2.1, 48, .inl pn.2.1.2.2.2.2.1)), (pno5, .inl (G.2.1, 49, .inl pn.2.1.2.2.2.2.2)), (pnk, .inl (G.2.1, 48, .inl pn.2.2.1)), (pnb, .inl (G.2.1, 48, .inl pn.2.2.2)), (tlh, .inr (0, [.ref tls0, .ref tlo0, .ref tlk, .ref tlb])), (tls0, .inr (4, [.ref tls1, .ref tls2, .int tl.1.2.2.1, .int tl.1.2.2.2.1, .int tl.1.2.2.2.2.1, .int tl.1.2.2.2.2.2.1, .int tl.1.2.2.2.2.2.2.1, .int tl.1.2.2.2.2.2.2.2])), (tls1, .inl (G.2.1, 48, .inl tl.1.1)), (tls2, .inl (G.2.1, 48, .inl tl.1.2.1)), (tlo0, .inr (3, [.int tl.2.1.1, .ref tlo1, .ref tlo2, .ref tlo3, .ref tlo4, .ref tlo5])), (tlo1, .inl (G.2.1, 48, .inl tl.2.1.2.1)), (tlo2, .inl (G.2.1, 48, .inl tl.2.1.2.2.1)), (tlo3, .inl (G.2.1, 48, .inl tl.2.1.2.2.2.1)), (tlo4, .inl (G.2.1, 48, .inl tl.2.1.2.2.2.2.1)), (tlo5, .inl (G.2.1, 49, .inl tl.2.1.2.2.2.2.2)), (tlk, .inl (G.2.1, 48, .inl tl.2.2.1)), (tlb, .inl (G.2.1, 48, .inl tl.2.2.2)), (fh0, .inr (2, [.ref fh1, .int fh.2])), (fh1, .inl (G.2.1, 12, .inl fh.1))]) cd (fun w => ∃ w1, (fun w => w = Sum.elim (fun _ => [(sc, .inr (5, [.ref tx0, .ref pnh, .ref tlh, .ref fh0, .ref hi, .ref sl])), (pnh, .inr (0, [.ref pns0, .ref pno0, .ref pnk, .ref pnb])), (pns0, .inr (4, [.ref pns1, .ref pns2, .int pn.1.2.2.1, .int pn.1.2.2.2.1, .int pn.1.2.2.2.2.1, .int pn.1.2.2.2.2.2.1, .int pn.1.2.2.2.2.2.2.1, .int pn.1.2.2.2.2.2.2.2])), (pns1, .inl (G.2.1, 48, .inl pn.1.1)), (pns2, .inl (G.2.1, 48, .inl pn.1.2.1)), (pno0, .inr (3, [.int pn.2.1.1, .ref pno1, .ref pno2, .ref pno3, .ref pno4, .ref pno5])), (pno1, .inl (G.2.1, 48, .inl pn.2.1.2.1)), (pno2, .inl (G.2.1, 48, .inl pn.2.1.2.2.1)), (pno3, .inl (G.2.1, 48, .inl pn.2.1.2.2.2.1)), (pno4, .inl (G.2.1, 48, .inl pn.2.1.2.2.2.2.1)), (pno5, .inl (G.2.1, 49, .inl pn.2.1.2.2.2.2.2)), (pnk, .inl (G.2.1, 48, .inl pn.2.2.1)), (pnb, .inl (G.2.1, 48, .inl pn.2.2.2)), (tlh, .inr (0, [.ref tls0, .ref tlo0, .ref tlk, .ref tlb])), (tls0, .inr (4, [.ref tls1, .ref tls2, .int tl.1.2.2.1, .int tl.1.2.2.2.1, .int tl.1.2.2.2.2.1, .int tl.1.2.2.2.2.2.1, .int tl.1.2.2.2.2.2.2.1, .int tl.1.2.2.2.2.2.2.2])), (tls1, .inl (G.2.1, 48, .inl tl.1.1)), (tls2, .inl (G.2.1, 48, .inl tl.1.2.1)), (tlo0, .inr (3, [.int tl.2.1.1, .ref tlo1, .ref tlo2, .ref tlo3, .ref tlo4, .ref tlo5])), (tlo1, .inl (G.2.1, 48, .inl tl.2.1.2.1)), (tlo2, .inl (G.2.1, 48, .inl tl.2.1.2.2.1)), (tlo3, .inl (G.2.1, 48, .inl tl.2.1.2.2.2.1)), (tlo4, .inl (G.2.1, 48, .inl tl.2.1.2.2.2.2.1)), (tlo5, .inl (G.2.1, 49, .inl tl.2.1.2.2.2.2.2)), (tlk, .inl (G.2.1, 48, .inl tl.2.2.1)), (tlb, .inl (G.2.1, 48, .inl tl.2.2.2)), (fh0, .inr (2, [.ref fh1, .int fh.2])), (fh1, .inl (G.2.1, 12, .inl fh.1))]) (fun z => [(sc, .inr (5, [.ref tx0, .ref pnh, .ref tlh, .ref fh0, .ref hi, .ref sl])), (pnh, .inr (0, [.ref pns0, .ref pno0, .ref pnk, .ref pnb])), (pns0, .inr (4, [.ref pns1, .ref pns2, .int pn.1.2.2.1, .int pn.1.2.2.2.1, .int pn.1.2.2.2.2.1, .int pn.1.2.2.2.2.2.1, .int pn.1.2.2.2.2.2.2.1, .int pn.1.2.2.2.2.2.2.2])), (pns1, .inl (G.2.1, 48, .inl pn.1.1)), (pns2, .inl (G.2.1, 48, .inl pn.1.2.1)), (pno0, .inr (3, [.int pn.2.1.1, .ref pno1, .ref pno2, .ref pno3, .ref pno4, .ref pno5])), (pno1, .inl (G.2.1, 48, .inl pn.2.1.2.1)), (pno2, .inl (G.2.1, 48, .inl pn.2.1.2.2.1)), (pno3, .inl (G.2.1, 48, .inl pn.2.1.2.2.2.1)), (pno4, .inl (G.2.1, 48, .inl pn.2.1.2.2.2.2.1)), (pno5, .inl (G.2.1, 49, .inl pn.2.1.2.2.2.2.2)), (pnk, .inl (G.2.1, 48, .inl pn.2.2.1)), (pnb, .inl (G.2.1, 48, .inl pn.2.2.2)), (tlh, .inr (0, [.ref tls0, .ref tlo0, .ref tlk, .ref tlb])), (tls0, .inr (4, [.ref tls1, .ref tls2, .int z.2.1.1.2.2.1, .int z.2.1.1.2.2.2.1, .int z.2.1.1.2.2.2.2.1, .int z.2.1.1.2.2.2.2.2.1, .int z.2.1.1.2.2.2.2.2.2.1, .int z.2.1.1.2.2.2.2.2.2.2])), (tls1, .inl (G.2.1, 48, .inl z.2.1.1.1)), (tls2, .inl (G.2.1, 48, .inl z.2.1.1.2.1)), (tlo0, .inr (3, [.int z.2.1.2.1.1, .ref tlo1, .ref tlo2, .ref tlo3, .ref tlo4, .ref tlo5])), (tlo1, .inl (G.2.1, 48, .inl z.2.1.2.1.2.1)), (tlo2, .inl (G.2.1, 48, .inl z.2.1.2.1.2.2.1)), (tlo3, .inl (G.2.1, 48, .inl z.2.1.2.1.2.2.2.1)), (tlo4, .inl (G.2.1, 48, .inl z.2.1.2.1.2.2.2.2.1)), (tlo5, .inl (G.2.1, 49, .inl z.2.1.2.1.2.2.2.2.2)), (tlk, .inl (G.2.1, 48, .inl z.2.1.2.2.1)), (tlb, .inl (G.2.1, 48, .inl z.2.1.2.2.2)), (fh0, .inr (2, [.ref fh1, .int z.2.2.2])), (fh1, .inl (G.2.1, 12, .inl z.2.2.1))]) r) w1 ∧ w = (ou, .inl (G.2.2.2.1, 1, .inr (.inl (Sum.elim (fun _ => uo) (fun z => vp_updL uo (0 : Int32).toNatClampNeg (z.1).toInt64) r)))) :: w1) := by
  refine fl_lw_in cL_runScript 6 [(0, 11, 14, 13)] (by decide) rfl rfl (Nat.le_of_ble_eq_true rfl) ?_
  intro p e s m args below meth c ls A Q H locs C0 htab hK hE hZ hP hD hS hA hl hret
  obtain ⟨hx, hb, hml, hown, hts⟩ := id C0
  have hl : lv_has ls 6 [(0, .ref sc), (1, .int p0), (2, .long p1), (4, .ref ou)] := hl
  refine lv_aload hx hb dL_runScript_0 (lv_at hl 3 rfl) ?_
  refine lv_iconst (v := (0 : Int32)) hx hb dL_runScript_2 (by decide) ?_
  refine lv_aload_n hx hb dL_runScript_3 rfl (lv_at hl 0 rfl) ?_
  refine lv_iload_n hx hb dL_runScript_4 rfl (lv_at hl 1 rfl) ?_
  refine lv_lload_n hx hb dL_runScript_5 rfl (lv_at hl 2 rfl) ?_
  refine fl_xmV (As := [.int p0, .long p1]) (rest := [.int 0, .ref ou]) (wr := [(ou, .inl (G.2.2.2.1, 1, .inr (.inl uo)))]) C0 (c_SC_runScript l hfl G sa sc tx0 pnh pns0 pns1 pns2 pno0 pno1 pno2 pno3 pno4 pno5 pnk pnb tlh tls0 tls1 tls2 tlo0 tlo1 tlo2 tlo3 tlo4 tlo5 tlk tlb fh0 fh1 hi sl pn tl fh p0 p1 hp0) (cwV 2 hts gL_runScript_X5_runScript rfl rfl rfl (by decide +kernel) ⟨Nat.le_of_ble_eq_true rfl, Nat.le_of_ble_eq_true rfl⟩) hK hE hZ (fl_P_perm (List.perm_append_singleton _ _).symm hP) (fl_D_perm (List.perm_append_singleton _ _).symm hD) 0 5 rfl rfl rfl hS hA rfl hl.1 rfl (Nat.le_of_ble_eq_true rfl) dL_runScript_6 ⟨Nat.le_of_ble_eq_true rfl, Nat.le_of_ble_eq_true rfl⟩ (fun k ce q9 H locs he hP hD hS hce hcv hcl => ?_) (fun w1 H locs he hw1 hP hD hS => ?_)
  · cases r with
    | inr z => exact absurd (show (none : Option Nat) = some k from he) (by simp)
    | inl k9 =>
      have he : (some k9 : Option Nat) = some k := he
      obtain rfl := Option.some.inj he
      rcases hcd with ⟨h9, rfl⟩ | ⟨k8, h8, h9, rfl⟩ | ⟨k8, h8, h9, rfl⟩
      · exact absurd (show (some k9 : Option Nat) = none from h9) (by simp)
      · obtain rfl := Option.some.inj (show some 1 = some k8 from h8)
        obtain rfl := Option.some.inj (show some k9 = some 1 from h9)
        refine vx_catch (name := "java/lang/IllegalArgumentException") (E := fl_exn 1) hown [] ⟨0, 11, 14, 13⟩ [] (by rw [htab]; rfl) (fun z hz => absurd hz List.not_mem_nil) (by decide) (by decide) (hts (.classLink RL 13 "java/lang/IllegalArgumentException") (by first | exact List.mem_of_getElem? (i := 1) rfl | decide +kernel)) (va_Nw.use rfl (hE.2.2.1 1 (Or.inl rfl))) hce hcv hcl ?_
        refine lv_astore (lv' := [(5, .ref q9), (0, .ref sc), (1, .int p0), (2, .long p1), (4, .ref ou)]) hx hb dL_runScript_14 hl (by decide) rfl (fun ls hl => ?_)
        refine lv_iconst (v := (1 : Int32)) hx hb dL_runScript_16 (by decide) ?_
        exact hret _ H locs _ _ _ ls ⟨_, rfl, rfl⟩ (fl_P_perm (List.perm_append_singleton _ _) hP) (fl_D_perm (List.perm_append_singleton _ _) hD) hS dL_runScript_17 (Nat.le_of_ble_eq_true rfl) (Nat.le_of_ble_eq_true rfl)
      · exact absurd (show (none : Option Nat) = some k8 from h8) (by simp)
  · cases r with
    | inl k9 => exact absurd (show (some k9 : Option Nat) = none from he) (by simp)
    | inr z =>
      rcases hcd with ⟨h9, rfl⟩ | ⟨k8, h8, h9, rfl⟩ | ⟨k8, h8, h9, rfl⟩
      · replace hP := fl_P_perm (List.perm_append_singleton _ _) hP
        replace hD := fl_D_perm (List.perm_append_singleton _ _) hD
        refine lv_i2l (v := (z.1).toInt64) hx hb dL_runScript_9 rfl ?_
        refine va_last hx hb hK.1 hP hD hS 0 2 rfl rfl fl_in01 dL_runScript_10 (fun H locs hP hD hS => ?_)
        refine lv_goto (tgt := 18) hx hb dL_runScript_11 (by decide) ?_
        refine lv_iconst (v := (0 : Int32)) hx hb dL_runScript_18 (by decide) ?_
        exact hret _ H locs _ _ _ ls ⟨w1, hw1, rfl⟩ hP hD hS dL_runScript_19 (Nat.le_of_ble_eq_true rfl) (Nat.le_of_ble_eq_true rfl)
      · exact absurd (show (none : Option Nat) = some k8 from h9) (by simp)
      · exact absurd (show (none : Option Nat) = some k8 from h9) (by simp)
set_option maxHeartbeats 1000000 in
set_option maxRecDepth 100000 in
theorem c_L_simulate (l : Launch) (hfl : l.stackTraces = false) (G : fl_G) (sa : Nat → Nat) (sc tx0 pnh pns0 pns1 pns2 pno0 pno1 pno2 pno3 pno4 pno5 pnk pnb tlh tls0 tls1 tls2 tlo0 tlo1 tlo2 tlo3 tlo4 tlo5 tlk tlb fh0 fh1 hi sl : Nat) (pn : fl_Ch) (tl : fl_Ch) (fh : fl_Ln) (p0 : Int64) (p1 : Int32) {r : (Nat ⊕ (Int32 × fl_Ch × fl_Ln))} (hp0 : P_SC_simulate pn tl fh p0 p1 = some r) (ou : Nat) (uo : Nat → Int64) {cd : Int32} (hcd : fl_cd [1] (fl_ex r) cd) : fl_lw l yL_simulate wsL_simulate 7 121 1 6 G sa [.ref sc, .long p0, .int p1, .ref ou] ((ou, .inl (G.2.2.2.1, 1, .inr (.inl uo))) :: [(sc, .inr (5, [.ref tx0, .ref pnh, .ref tlh, .ref fh0, .ref hi, .ref sl])), (pnh, .inr (0, [.ref pns0, .ref pno0, .ref pnk, .ref pnb])), (pns0, .inr (4, [.ref pns1, .ref pns2, .int pn.1.2.2.1, .int pn.1.2.2.2.1, .int pn.1.2.2.2.2.1, .int pn.1.2.2.2.2.2.1, .int pn.1.2.2.2.2.2.2.1, .int pn.1.2.2.2.2.2.2.2])), (pns1, .inl (G.2.1, 48, .inl pn.1.1)), (pns2, .inl (G.2.1, 48, .inl pn.1.2.1)), (pno0, .inr (3, [.int pn.2.1.1, .ref pno1, .ref pno2, .ref pno3, .ref pno4, .ref pno5])), (pno1, .inl (G.2.1, 48, .inl pn.2.1.2.1)), (pno2, .inl (G.2.1, 48, .inl pn.2.1.2.2.1)), (pno3, .inl (G.2.1, 48, .inl pn.2.1.2.2.2.1)), (pno4, .inl (G.2.1, 48, .inl pn.2.1.2.2.2.2.1)), (pno5, .inl (G.2.1, 49, .inl pn.2.1.2.2.2.2.2)), (pnk, .inl (G.2.1, 48, .inl pn.2.2.1)), (pnb, .inl (G.2.1, 48, .inl pn.2.2.2)), (tlh, .inr (0, [.ref tls0, .ref tlo0, .ref tlk, .ref tlb])), (tls0, .inr (4, [.ref tls1, .ref tls2, .int tl.1.2.2.1, .int tl.1.2.2.2.1, .int tl.1.2.2.2.2.1, .int tl.1.2.2.2.2.2.1, .int tl.1.2.2.2.2.2.2.1, .int tl.1.2.2.2.2.2.2.2])), (tls1, .inl (G.2.1, 48, .inl tl.1.1)), (tls2, .inl (G.2.1, 48, .inl tl.1.2.1)), (tlo0, .inr (3, [.int tl.2.1.1, .ref tlo1, .ref tlo2, .ref tlo3, .ref tlo4, .ref tlo5])), (tlo1, .inl (G.2.1, 48, .inl tl.2.1.2.1)), (tlo2, .inl (G.2.1, 48, .inl tl.2.1.2.2.1)), (tlo3, .inl (G.2.1, 48, .inl tl.2.1.2.2.2.1)), (tlo4, .inl (G.2.1, 48, .inl tl.2.1.2.2.2.2.1)), (tlo5, .inl (G.2.1, 49, .inl tl.2.1.2.2.2.2.2)), (tlk, .inl (G.2.1, 48, .inl tl.2.2.1)), (tlb, .inl (G.2.1, 48, .inl tl.2.2.2)), (fh0, .inr (2, [.ref fh1, .int fh.2])), (fh1, .inl (G.2.1, 12, .inl fh.1))]) cd (fun w => ∃ w1, (fun w => w = Sum.elim (fun _ => [(sc, .inr (5, [.ref tx0, .ref pnh, .ref tlh, .ref fh0, .ref hi, .ref sl])), (pnh, .inr (0, [.ref pns0, .ref pno0, .ref pnk, .ref pnb])), (pns0, .inr (4, [.ref pns1, .ref pns2, .int pn.1.2.2.1, .int pn.1.2.2.2.1, .int pn.1.2.2.2.2.1, .int pn.1.2.2.2.2.2.1, .int pn.1.2.2.2.2.2.2.1, .int pn.1.2.2.2.2.2.2.2])), (pns1, .inl (G.2.1, 48, .inl pn.1.1)), (pns2, .inl (G.2.1, 48, .inl pn.1.2.1)), (pno0, .inr (3, [.int pn.2.1.1, .ref pno1, .ref pno2, .ref pno3, .ref pno4, .ref pno5])), (pno1, .inl (G.2.1, 48, .inl pn.2.1.2.1)), (pno2, .inl (G.2.1, 48, .inl pn.2.1.2.2.1)), (pno3, .inl (G.2.1, 48, .inl pn.2.1.2.2.2.1)), (pno4, .inl (G.2.1, 48, .inl pn.2.1.2.2.2.2.1)), (pno5, .inl (G.2.1, 49, .inl pn.2.1.2.2.2.2.2)), (pnk, .inl (G.2.1, 48, .inl pn.2.2.1)), (pnb, .inl (G.2.1, 48, .inl pn.2.2.2)), (tlh, .inr (0, [.ref tls0, .ref tlo0, .ref tlk, .ref tlb])), (tls0, .inr (4, [.ref tls1, .ref tls2, .int tl.1.2.2.1, .int tl.1.2.2.2.1, .int tl.1.2.2.2.2.1, .int tl.1.2.2.2.2.2.1, .int tl.1.2.2.2.2.2.2.1, .int tl.1.2.2.2.2.2.2.2])), (tls1, .inl (G.2.1, 48, .inl tl.1.1)), (tls2, .inl (G.2.1, 48, .inl tl.1.2.1)), (tlo0, .inr (3, [.int tl.2.1.1, .ref tlo1, .ref tlo2, .ref tlo3, .ref tlo4, .ref tlo5])), (tlo1, .inl (G.2.1, 48, .inl tl.2.1.2.1)), (tlo2, .inl (G.2.1, 48, .inl tl.2.1.2.2.1)), (tlo3, .inl (G.2.1, 48, .inl tl.2.1.2.2.2.1)), (tlo4, .inl (G.2.1, 48, .inl tl.2.1.2.2.2.2.1)), (tlo5, .inl (G.2.1, 49, .inl tl.2.1.2.2.2.2.2)), (tlk, .inl (G.2.1, 48, .inl tl.2.2.1)), (tlb, .inl (G.2.1, 48, .inl tl.2.2.2)), (fh0, .inr (2, [.ref fh1, .int fh.2])), (fh1, .inl (G.2.1, 12, .inl fh.1))]) (fun z => [(sc, .inr (5, [.ref tx0, .ref pnh, .ref tlh, .ref fh0, .ref hi, .ref sl])), (pnh, .inr (0, [.ref pns0, .ref pno0, .ref pnk, .ref pnb])), (pns0, .inr (4, [.ref pns1, .ref pns2, .int pn.1.2.2.1, .int pn.1.2.2.2.1, .int pn.1.2.2.2.2.1, .int pn.1.2.2.2.2.2.1, .int pn.1.2.2.2.2.2.2.1, .int pn.1.2.2.2.2.2.2.2])), (pns1, .inl (G.2.1, 48, .inl pn.1.1)), (pns2, .inl (G.2.1, 48, .inl pn.1.2.1)), (pno0, .inr (3, [.int pn.2.1.1, .ref pno1, .ref pno2, .ref pno3, .ref pno4, .ref pno5])), (pno1, .inl (G.2.1, 48, .inl pn.2.1.2.1)), (pno2, .inl (G.2.1, 48, .inl pn.2.1.2.2.1)), (pno3, .inl (G.2.1, 48, .inl pn.2.1.2.2.2.1)), (pno4, .inl (G.2.1, 48, .inl pn.2.1.2.2.2.2.1)), (pno5, .inl (G.2.1, 49, .inl pn.2.1.2.2.2.2.2)), (pnk, .inl (G.2.1, 48, .inl pn.2.2.1)), (pnb, .inl (G.2.1, 48, .inl pn.2.2.2)), (tlh, .inr (0, [.ref tls0, .ref tlo0, .ref tlk, .ref tlb])), (tls0, .inr (4, [.ref tls1, .ref tls2, .int z.2.1.1.2.2.1, .int z.2.1.1.2.2.2.1, .int z.2.1.1.2.2.2.2.1, .int z.2.1.1.2.2.2.2.2.1, .int z.2.1.1.2.2.2.2.2.2.1, .int z.2.1.1.2.2.2.2.2.2.2])), (tls1, .inl (G.2.1, 48, .inl z.2.1.1.1)), (tls2, .inl (G.2.1, 48, .inl z.2.1.1.2.1)), (tlo0, .inr (3, [.int z.2.1.2.1.1, .ref tlo1, .ref tlo2, .ref tlo3, .ref tlo4, .ref tlo5])), (tlo1, .inl (G.2.1, 48, .inl z.2.1.2.1.2.1)), (tlo2, .inl (G.2.1, 48, .inl z.2.1.2.1.2.2.1)), (tlo3, .inl (G.2.1, 48, .inl z.2.1.2.1.2.2.2.1)), (tlo4, .inl (G.2.1, 48, .inl z.2.1.2.1.2.2.2.2.1)), (tlo5, .inl (G.2.1, 49, .inl z.2.1.2.1.2.2.2.2.2)), (tlk, .inl (G.2.1, 48, .inl z.2.1.2.2.1)), (tlb, .inl (G.2.1, 48, .inl z.2.1.2.2.2)), (fh0, .inr (2, [.ref fh1, .int z.2.2.2])), (fh1, .inl (G.2.1, 12, .inl z.2.2.1))]) r) w1 ∧ w = (ou, .inl (G.2.2.2.1, 1, .inr (.inl (Sum.elim (fun _ => uo) (fun z => vp_updL uo (0 : Int32).toNatClampNeg (z.1).toInt64) r)))) :: w1) := by
  refine fl_lw_in cL_simulate 6 [(0, 11, 14, 13)] (by decide) rfl rfl (Nat.le_of_ble_eq_true rfl) ?_
  intro p e s m args below meth c ls A Q H locs C0 htab hK hE hZ hP hD hS hA hl hret
  obtain ⟨hx, hb, hml, hown, hts⟩ := id C0
  have hl : lv_has ls 6 [(0, .ref sc), (1, .long p0), (3, .int p1), (4, .ref ou)] := hl
  refine lv_aload hx hb dL_simulate_0 (lv_at hl 3 rfl) ?_
  refine lv_iconst (v := (0 : Int32)) hx hb dL_simulate_2 (by decide) ?_
  refine lv_aload_n hx hb dL_simulate_3 rfl (lv_at hl 0 rfl) ?_
  refine lv_lload_n hx hb dL_simulate_4 rfl (lv_at hl 1 rfl) ?_
  refine lv_iload_n hx hb dL_simulate_5 rfl (lv_at hl 2 rfl) ?_
  refine fl_xmV (As := [.long p0, .int p1]) (rest := [.int 0, .ref ou]) (wr := [(ou, .inl (G.2.2.2.1, 1, .inr (.inl uo)))]) C0 (c_SC_simulate l hfl G sa sc tx0 pnh pns0 pns1 pns2 pno0 pno1 pno2 pno3 pno4 pno5 pnk pnb tlh tls0 tls1 tls2 tlo0 tlo1 tlo2 tlo3 tlo4 tlo5 tlk tlb fh0 fh1 hi sl pn tl fh p0 p1 hp0) (cwV 2 hts gL_simulate_X5_simulate rfl rfl rfl (by decide +kernel) ⟨Nat.le_of_ble_eq_true rfl, Nat.le_of_ble_eq_true rfl⟩) hK hE hZ (fl_P_perm (List.perm_append_singleton _ _).symm hP) (fl_D_perm (List.perm_append_singleton _ _).symm hD) 0 5 rfl rfl rfl hS hA rfl hl.1 rfl (Nat.le_of_ble_eq_true rfl) dL_simulate_6 ⟨Nat.le_of_ble_eq_true rfl, Nat.le_of_ble_eq_true rfl⟩ (fun k ce q9 H locs he hP hD hS hce hcv hcl => ?_) (fun w1 H locs he hw1 hP hD hS => ?_)
  · cases r with
    | inr z => exact absurd (show (none : Option Nat) = some k from he) (by simp)
    | inl k9 =>
      have he : (some k9 : Option Nat) = some k := he
      obtain rfl := Option.some.inj he
      rcases hcd with ⟨h9, rfl⟩ | ⟨k8, h8, h9, rfl⟩ | ⟨k8, h8, h9, rfl⟩
      · exact absurd (show (some k9 : Option Nat) = none from h9) (by simp)
      · obtain rfl := Option.some.inj (show some 1 = some k8 from h8)
        obtain rfl := Option.some.inj (show some k9 = some 1 from h9)
        refine vx_catch (name := "java/lang/IllegalArgumentException") (E := fl_exn 1) hown [] ⟨0, 11, 14, 13⟩ [] (by rw [htab]; rfl) (fun z hz => absurd hz List.not_mem_nil) (by decide) (by decide) (hts (.classLink RL 13 "java/lang/IllegalArgumentException") (by first | exact List.mem_of_getElem? (i := 1) rfl | decide +kernel)) (va_Nw.use rfl (hE.2.2.1 1 (Or.inl rfl))) hce hcv hcl ?_
        refine lv_astore (lv' := [(5, .ref q9), (0, .ref sc), (1, .long p0), (3, .int p1), (4, .ref ou)]) hx hb dL_simulate_14 hl (by decide) rfl (fun ls hl => ?_)
        refine lv_iconst (v := (1 : Int32)) hx hb dL_simulate_16 (by decide) ?_
        exact hret _ H locs _ _ _ ls ⟨_, rfl, rfl⟩ (fl_P_perm (List.perm_append_singleton _ _) hP) (fl_D_perm (List.perm_append_singleton _ _) hD) hS dL_simulate_17 (Nat.le_of_ble_eq_true rfl) (Nat.le_of_ble_eq_true rfl)
      · exact absurd (show (none : Option Nat) = some k8 from h8) (by simp)
  · cases r with
    | inl k9 => exact absurd (show (some k9 : Option Nat) = none from he) (by simp)
    | inr z =>
      rcases hcd with ⟨h9, rfl⟩ | ⟨k8, h8, h9, rfl⟩ | ⟨k8, h8, h9, rfl⟩
      · replace hP := fl_P_perm (List.perm_append_singleton _ _) hP
        replace hD := fl_D_perm (List.perm_append_singleton _ _) hD
        refine lv_i2l (v := (z.1).toInt64) hx hb dL_simulate_9 rfl ?_
        refine va_last hx hb hK.1 hP hD hS 0 2 rfl rfl fl_in01 dL_simulate_10 (fun H locs hP hD hS => ?_)
        refine lv_goto (tgt := 18) hx hb dL_simulate_11 (by decide) ?_
        refine lv_iconst (v := (0 : Int32)) hx hb dL_simulate_18 (by decide) ?_
        exact hret _ H locs _ _ _ ls ⟨w1, hw1, rfl⟩ hP hD hS dL_simulate_19 (Nat.le_of_ble_eq_true rfl) (Nat.le_of_ble_eq_true rfl)
      · exact absurd (show (none : Option Nat) = some k8 from h9) (by simp)
      · exact absurd (show (none : Option Nat) = some k8 from h9) (by simp)
set_option maxHeartbeats 1000000 in
set_option maxRecDepth 100000 in
theorem c_L_sing (l : Launch) (hfl : l.stackTraces = false) (G : fl_G) (sa : Nat → Nat) (sc tx0 tx1 pnh pns0 pns1 pns2 pno0 pno1 pno2 pno3 pno4 pno5 pnk pnb tl0 fh0 fh1 hi sl h1 : Nat) (as : List (Nat × Nat × Nat)) (tx : fl_Ln) (pn : fl_Ch) (fh : fl_Ln) (ho : Int32) (hs : Int32) (hv : List fl_Sg) (hlen : as.length = hv.length) {r : (Nat ⊕ (Int32 × fl_Ch × fl_Ln × Int32 × Int32 × List fl_Sg))} (hp0 : P_SC_sing tx pn fh ho hs hv = some r) (ou : Nat) (uo : Nat → Int64) {cd : Int32} (hcd : fl_cd [2] (fl_ex r) cd) : fl_lw l yL_sing wsL_sing 7 123 3 104 G sa [.ref sc, .ref ou] ((ou, .inl (G.2.2.2.1, 1, .inr (.inl uo))) :: ([(sc, .inr (5, [.ref tx0, .ref pnh, .ref tl0, .ref fh0, .ref hi, .ref sl])), (tx0, .inr (2, [.ref tx1, .int tx.2])), (tx1, .inl (G.2.1, 40, .inl tx.1)), (pnh, .inr (0, [.ref pns0, .ref pno0, .ref pnk, .ref pnb])), (pns0, .inr (4, [.ref pns1, .ref pns2, .int pn.1.2.2.1, .int pn.1.2.2.2.1, .int pn.1.2.2.2.2.1, .int pn.1.2.2.2.2.2.1, .int pn.1.2.2.2.2.2.2.1, .int pn.1.2.2.2.2.2.2.2])), (pns1, .inl (G.2.1, 48, .inl pn.1.1)), (pns2, .inl (G.2.1, 48, .inl pn.1.2.1)), (pno0, .inr (3, [.int pn.2.1.1, .ref pno1, .ref pno2, .ref pno3, .ref pno4, .ref pno5])), (pno1, .inl (G.2.1, 48, .inl pn.2.1.2.1)), (pno2, .inl (G.2.1, 48, .inl pn.2.1.2.2.1)), (pno3, .inl (G.2.1, 48, .inl pn.2.1.2.2.2.1)), (pno4, .inl (G.2.1, 48, .inl pn.2.1.2.2.2.2.1)), (pno5, .inl (G.2.1, 49, .inl pn.2.1.2.2.2.2.2)), (pnk, .inl (G.2.1, 48, .inl pn.2.2.1)), (pnb, .inl (G.2.1, 48, .inl pn.2.2.2)), (fh0, .inr (2, [.ref fh1, .int fh.2])), (fh1, .inl (G.2.1, 12, .inl fh.1)), (hi, .inr (1, [.ref h1, .int ho, .int hs])), (h1, .inl (G.2.2.2.2, 14, .inr (.inr (.inr (.inr (fl_rg as))))))] ++ fl_ws G as hv)) cd (fun w => ∃ w1, (fun w => Sum.elim (fun _ => w = ([(sc, .inr (5, [.ref tx0, .ref pnh, .ref tl0, .ref fh0, .ref hi, .ref sl])), (tx0, .inr (2, [.ref tx1, .int tx.2])), (tx1, .inl (G.2.1, 40, .inl tx.1)), (pnh, .inr (0, [.ref pns0, .ref pno0, .ref pnk, .ref pnb])), (pns0, .inr (4, [.ref pns1, .ref pns2, .int pn.1.2.2.1, .int pn.1.2.2.2.1, .int pn.1.2.2.2.2.1, .int pn.1.2.2.2.2.2.1, .int pn.1.2.2.2.2.2.2.1, .int pn.1.2.2.2.2.2.2.2])), (pns1, .inl (G.2.1, 48, .inl pn.1.1)), (pns2, .inl (G.2.1, 48, .inl pn.1.2.1)), (pno0, .inr (3, [.int pn.2.1.1, .ref pno1, .ref pno2, .ref pno3, .ref pno4, .ref pno5])), (pno1, .inl (G.2.1, 48, .inl pn.2.1.2.1)), (pno2, .inl (G.2.1, 48, .inl pn.2.1.2.2.1)), (pno3, .inl (G.2.1, 48, .inl pn.2.1.2.2.2.1)), (pno4, .inl (G.2.1, 48, .inl pn.2.1.2.2.2.2.1)), (pno5, .inl (G.2.1, 49, .inl pn.2.1.2.2.2.2.2)), (pnk, .inl (G.2.1, 48, .inl pn.2.2.1)), (pnb, .inl (G.2.1, 48, .inl pn.2.2.2)), (fh0, .inr (2, [.ref fh1, .int fh.2])), (fh1, .inl (G.2.1, 12, .inl fh.1)), (hi, .inr (1, [.ref h1, .int ho, .int hs])), (h1, .inl (G.2.2.2.2, 14, .inr (.inr (.inr (.inr (fl_rg as))))))] ++ fl_ws G as hv)) (fun z => ∃ as1 : List (Nat × Nat × Nat), as1.length = z.2.2.2.2.2.length ∧ w = [(sc, .inr (5, [.ref tx0, .ref pnh, .ref tl0, .ref fh0, .ref hi, .ref sl])), (tx0, .inr (2, [.ref tx1, .int tx.2])), (tx1, .inl (G.2.1, 40, .inl tx.1)), (pnh, .inr (0, [.ref pns0, .ref pno0, .ref pnk, .ref pnb])), (pns0, .inr (4, [.ref pns1, .ref pns2, .int z.2.1.1.2.2.1, .int z.2.1.1.2.2.2.1, .int z.2.1.1.2.2.2.2.1, .int z.2.1.1.2.2.2.2.2.1, .int z.2.1.1.2.2.2.2.2.2.1, .int z.2.1.1.2.2.2.2.2.2.2])), (pns1, .inl (G.2.1, 48, .inl z.2.1.1.1)), (pns2, .inl (G.2.1, 48, .inl z.2.1.1.2.1)), (pno0, .inr (3, [.int z.2.1.2.1.1, .ref pno1, .ref pno2, .ref pno3, .ref pno4, .ref pno5])), (pno1, .inl (G.2.1, 48, .inl z.2.1.2.1.2.1)), (pno2, .inl (G.2.1, 48, .inl z.2.1.2.1.2.2.1)), (pno3, .inl (G.2.1, 48, .inl z.2.1.2.1.2.2.2.1)), (pno4, .inl (G.2.1, 48, .inl z.2.1.2.1.2.2.2.2.1)), (pno5, .inl (G.2.1, 49, .inl z.2.1.2.1.2.2.2.2.2)), (pnk, .inl (G.2.1, 48, .inl z.2.1.2.2.1)), (pnb, .inl (G.2.1, 48, .inl z.2.1.2.2.2)), (fh0, .inr (2, [.ref fh1, .int z.2.2.1.2])), (fh1, .inl (G.2.1, 12, .inl z.2.2.1.1)), (hi, .inr (1, [.ref h1, .int z.2.2.2.1, .int z.2.2.2.2.1])), (h1, .inl (G.2.2.2.2, 14, .inr (.inr (.inr (.inr (fl_rg as1))))))] ++ fl_ws G as1 z.2.2.2.2.2) r) w1 ∧ w = (ou, .inl (G.2.2.2.1, 1, .inr (.inl (Sum.elim (fun _ => uo) (fun z => vp_updL uo (0 : Int32).toNatClampNeg (z.1).toInt64) r)))) :: w1) := by
  refine fl_lw_in cL_sing 3 [(0, 8, 11, 15)] (by decide) rfl rfl (Nat.le_of_ble_eq_true rfl) ?_
  intro p e s m args below meth c ls A Q H locs C0 htab hK hE hZ hP hD hS hA hl hret
  obtain ⟨hx, hb, hml, hown, hts⟩ := id C0
  have hl : lv_has ls 3 [(0, .ref sc), (1, .ref ou)] := hl
  refine lv_aload_n hx hb dL_sing_0 rfl (lv_at hl 1 rfl) ?_
  refine lv_iconst (v := (0 : Int32)) hx hb dL_sing_1 (by decide) ?_
  refine lv_aload_n hx hb dL_sing_2 rfl (lv_at hl 0 rfl) ?_
  refine fl_xmV (As := []) (rest := [.int 0, .ref ou]) (wr := [(ou, .inl (G.2.2.2.1, 1, .inr (.inl uo)))]) C0 (c_SC_sing l hfl G sa sc tx0 tx1 pnh pns0 pns1 pns2 pno0 pno1 pno2 pno3 pno4 pno5 pnk pnb tl0 fh0 fh1 hi sl h1 as tx pn fh ho hs hv hlen hp0) (cwV 0 hts gL_sing_X5_sing rfl rfl rfl (by decide +kernel) ⟨Nat.le_of_ble_eq_true rfl, Nat.le_of_ble_eq_true rfl⟩) hK hE hZ (fl_P_perm (List.perm_append_singleton _ _).symm hP) (fl_D_perm (List.perm_append_singleton _ _).symm hD) 0 5 rfl rfl rfl hS hA rfl hl.1 rfl (Nat.le_of_ble_eq_true rfl) dL_sing_3 ⟨Nat.le_of_ble_eq_true rfl, Nat.le_of_ble_eq_true rfl⟩ (fun k ce q9 H locs he hP hD hS hce hcv hcl => ?_) (fun w1 H locs he hw1 hP hD hS => ?_)
  · cases r with
    | inr z => exact absurd (show (none : Option Nat) = some k from he) (by simp)
    | inl k9 =>
      have he : (some k9 : Option Nat) = some k := he
      obtain rfl := Option.some.inj he
      rcases hcd with ⟨h9, rfl⟩ | ⟨k8, h8, h9, rfl⟩ | ⟨k8, h8, h9, rfl⟩
      · exact absurd (show (some k9 : Option Nat) = none from h9) (by simp)
      · obtain rfl := Option.some.inj (show some 2 = some k8 from h8)
        obtain rfl := Option.some.inj (show some k9 = some 2 from h9)
        refine vx_catch (name := "java/lang/IllegalStateException") (E := fl_exn 2) hown [] ⟨0, 8, 11, 15⟩ [] (by rw [htab]; rfl) (fun z hz => absurd hz List.not_mem_nil) (by decide) (by decide) (hts (.classLink RL 15 "java/lang/IllegalStateException") (by first | exact List.mem_of_getElem? (i := 1) rfl | decide +kernel)) (va_Nw.use rfl (hE.2.2.1 2 (Or.inr (Or.inl rfl)))) hce hcv hcl ?_
        refine lv_astore_n (lv' := [(2, .ref q9), (0, .ref sc), (1, .ref ou)]) hx hb dL_sing_11 rfl hl (by decide) rfl (fun ls hl => ?_)
        refine lv_iconst (v := (1 : Int32)) hx hb dL_sing_12 (by decide) ?_
        exact hret _ H locs _ _ _ ls ⟨_, rfl, rfl⟩ (fl_P_perm (List.perm_append_singleton _ _) hP) (fl_D_perm (List.perm_append_singleton _ _) hD) hS dL_sing_13 (Nat.le_of_ble_eq_true rfl) (Nat.le_of_ble_eq_true rfl)
      · exact absurd (show (none : Option Nat) = some k8 from h8) (by simp)
  · cases r with
    | inl k9 => exact absurd (show (some k9 : Option Nat) = none from he) (by simp)
    | inr z =>
      rcases hcd with ⟨h9, rfl⟩ | ⟨k8, h8, h9, rfl⟩ | ⟨k8, h8, h9, rfl⟩
      · replace hP := fl_P_perm (List.perm_append_singleton _ _) hP
        replace hD := fl_D_perm (List.perm_append_singleton _ _) hD
        refine lv_i2l (v := (z.1).toInt64) hx hb dL_sing_6 rfl ?_
        refine va_last hx hb hK.1 hP hD hS 0 2 rfl rfl fl_in01 dL_sing_7 (fun H locs hP hD hS => ?_)
        refine lv_goto (tgt := 14) hx hb dL_sing_8 (by decide) ?_
        refine lv_iconst (v := (0 : Int32)) hx hb dL_sing_14 (by decide) ?_
        exact hret _ H locs _ _ _ ls ⟨w1, hw1, rfl⟩ hP hD hS dL_sing_15 (Nat.le_of_ble_eq_true rfl) (Nat.le_of_ble_eq_true rfl)
      · exact absurd (show (none : Option Nat) = some k8 from h9) (by simp)
      · exact absurd (show (none : Option Nat) = some k8 from h9) (by simp)
set_option maxHeartbeats 1000000 in
set_option maxRecDepth 100000 in
theorem c_L_again (l : Launch) (hfl : l.stackTraces = false) (G : fl_G) (sa : Nat → Nat) (sc tx0 pnh pns0 pns1 pns2 pno0 pno1 pno2 pno3 pno4 pno5 pnk pnb tl0 fh0 fh1 hi sl h1 : Nat) (as : List (Nat × Nat × Nat)) (pn : fl_Ch) (fh : fl_Ln) (ho : Int32) (hs : Int32) (hv : List fl_Sg) (p0 : Int32) (hlen : as.length = hv.length) {r : (Nat ⊕ (Int32 × fl_Ch × fl_Ln × Int32 × Int32 × List fl_Sg))} (hp0 : P_SC_again pn fh ho hs hv p0 = some r) (ou : Nat) (uo : Nat → Int64) {cd : Int32} (hcd : fl_cd [3] (fl_ex r) cd) : fl_lw l yL_again wsL_again 7 115 3 104 G sa [.ref sc, .int p0, .ref ou] ((ou, .inl (G.2.2.2.1, 1, .inr (.inl uo))) :: ([(sc, .inr (5, [.ref tx0, .ref pnh, .ref tl0, .ref fh0, .ref hi, .ref sl])), (pnh, .inr (0, [.ref pns0, .ref pno0, .ref pnk, .ref pnb])), (pns0, .inr (4, [.ref pns1, .ref pns2, .int pn.1.2.2.1, .int pn.1.2.2.2.1, .int pn.1.2.2.2.2.1, .int pn.1.2.2.2.2.2.1, .int pn.1.2.2.2.2.2.2.1, .int pn.1.2.2.2.2.2.2.2])), (pns1, .inl (G.2.1, 48, .inl pn.1.1)), (pns2, .inl (G.2.1, 48, .inl pn.1.2.1)), (pno0, .inr (3, [.int pn.2.1.1, .ref pno1, .ref pno2, .ref pno3, .ref pno4, .ref pno5])), (pno1, .inl (G.2.1, 48, .inl pn.2.1.2.1)), (pno2, .inl (G.2.1, 48, .inl pn.2.1.2.2.1)), (pno3, .inl (G.2.1, 48, .inl pn.2.1.2.2.2.1)), (pno4, .inl (G.2.1, 48, .inl pn.2.1.2.2.2.2.1)), (pno5, .inl (G.2.1, 49, .inl pn.2.1.2.2.2.2.2)), (pnk, .inl (G.2.1, 48, .inl pn.2.2.1)), (pnb, .inl (G.2.1, 48, .inl pn.2.2.2)), (fh0, .inr (2, [.ref fh1, .int fh.2])), (fh1, .inl (G.2.1, 12, .inl fh.1)), (hi, .inr (1, [.ref h1, .int ho, .int hs])), (h1, .inl (G.2.2.2.2, 14, .inr (.inr (.inr (.inr (fl_rg as))))))] ++ fl_ws G as hv)) cd (fun w => ∃ w1, (fun w => Sum.elim (fun _ => w = ([(sc, .inr (5, [.ref tx0, .ref pnh, .ref tl0, .ref fh0, .ref hi, .ref sl])), (pnh, .inr (0, [.ref pns0, .ref pno0, .ref pnk, .ref pnb])), (pns0, .inr (4, [.ref pns1, .ref pns2, .int pn.1.2.2.1, .int pn.1.2.2.2.1, .int pn.1.2.2.2.2.1, .int pn.1.2.2.2.2.2.1, .int pn.1.2.2.2.2.2.2.1, .int pn.1.2.2.2.2.2.2.2])), (pns1, .inl (G.2.1, 48, .inl pn.1.1)), (pns2, .inl (G.2.1, 48, .inl pn.1.2.1)), (pno0, .inr (3, [.int pn.2.1.1, .ref pno1, .ref pno2, .ref pno3, .ref pno4, .ref pno5])), (pno1, .inl (G.2.1, 48, .inl pn.2.1.2.1)), (pno2, .inl (G.2.1, 48, .inl pn.2.1.2.2.1)), (pno3, .inl (G.2.1, 48, .inl pn.2.1.2.2.2.1)), (pno4, .inl (G.2.1, 48, .inl pn.2.1.2.2.2.2.1)), (pno5, .inl (G.2.1, 49, .inl pn.2.1.2.2.2.2.2)), (pnk, .inl (G.2.1, 48, .inl pn.2.2.1)), (pnb, .inl (G.2.1, 48, .inl pn.2.2.2)), (fh0, .inr (2, [.ref fh1, .int fh.2])), (fh1, .inl (G.2.1, 12, .inl fh.1)), (hi, .inr (1, [.ref h1, .int ho, .int hs])), (h1, .inl (G.2.2.2.2, 14, .inr (.inr (.inr (.inr (fl_rg as))))))] ++ fl_ws G as hv)) (fun z => ∃ as1 : List (Nat × Nat × Nat), as1.length = z.2.2.2.2.2.length ∧ w = [(sc, .inr (5, [.ref tx0, .ref pnh, .ref tl0, .ref fh0, .ref hi, .ref sl])), (pnh, .inr (0, [.ref pns0, .ref pno0, .ref pnk, .ref pnb])), (pns0, .inr (4, [.ref pns1, .ref pns2, .int z.2.1.1.2.2.1, .int z.2.1.1.2.2.2.1, .int z.2.1.1.2.2.2.2.1, .int z.2.1.1.2.2.2.2.2.1, .int z.2.1.1.2.2.2.2.2.2.1, .int z.2.1.1.2.2.2.2.2.2.2])), (pns1, .inl (G.2.1, 48, .inl z.2.1.1.1)), (pns2, .inl (G.2.1, 48, .inl z.2.1.1.2.1)), (pno0, .inr (3, [.int z.2.1.2.1.1, .ref pno1, .ref pno2, .ref pno3, .ref pno4, .ref pno5])), (pno1, .inl (G.2.1, 48, .inl z.2.1.2.1.2.1)), (pno2, .inl (G.2.1, 48, .inl z.2.1.2.1.2.2.1)), (pno3, .inl (G.2.1, 48, .inl z.2.1.2.1.2.2.2.1)), (pno4, .inl (G.2.1, 48, .inl z.2.1.2.1.2.2.2.2.1)), (pno5, .inl (G.2.1, 49, .inl z.2.1.2.1.2.2.2.2.2)), (pnk, .inl (G.2.1, 48, .inl z.2.1.2.2.1)), (pnb, .inl (G.2.1, 48, .inl z.2.1.2.2.2)), (fh0, .inr (2, [.ref fh1, .int z.2.2.1.2])), (fh1, .inl (G.2.1, 12, .inl z.2.2.1.1)), (hi, .inr (1, [.ref h1, .int z.2.2.2.1, .int z.2.2.2.2.1])), (h1, .inl (G.2.2.2.2, 14, .inr (.inr (.inr (.inr (fl_rg as1))))))] ++ fl_ws G as1 z.2.2.2.2.2) r) w1 ∧ w = (ou, .inl (G.2.2.2.1, 1, .inr (.inl (Sum.elim (fun _ => uo) (fun z => vp_updL uo (0 : Int32).toNatClampNeg (z.1).toInt64) r)))) :: w1) := by
  refine fl_lw_in cL_again 4 [(0, 9, 12, 24)] (by decide) rfl rfl (Nat.le_of_ble_eq_true rfl) ?_
  intro p e s m args below meth c ls A Q H locs C0 htab hK hE hZ hP hD hS hA hl hret
  obtain ⟨hx, hb, hml, hown, hts⟩ := id C0
  have hl : lv_has ls 4 [(0, .ref sc), (1, .int p0), (2, .ref ou)] := hl
  refine lv_aload_n hx hb dL_again_0 rfl (lv_at hl 2 rfl) ?_
  refine lv_iconst (v := (0 : Int32)) hx hb dL_again_1 (by decide) ?_
  refine lv_aload_n hx hb dL_again_2 rfl (lv_at hl 0 rfl) ?_
  refine lv_iload_n hx hb dL_again_3 rfl (lv_at hl 1 rfl) ?_
  refine fl_xmV (As := [.int p0]) (rest := [.int 0, .ref ou]) (wr := [(ou, .inl (G.2.2.2.1, 1, .inr (.inl uo)))]) C0 (c_SC_again l hfl G sa sc tx0 pnh pns0 pns1 pns2 pno0 pno1 pno2 pno3 pno4 pno5 pnk pnb tl0 fh0 fh1 hi sl h1 as pn fh ho hs hv p0 hlen hp0) (cwV 1 hts gL_again_X5_again rfl rfl rfl (by decide +kernel) ⟨Nat.le_of_ble_eq_true rfl, Nat.le_of_ble_eq_true rfl⟩) hK hE hZ (fl_P_perm (List.perm_append_singleton _ _).symm hP) (fl_D_perm (List.perm_append_singleton _ _).symm hD) 0 5 rfl rfl rfl hS hA rfl hl.1 rfl (Nat.le_of_ble_eq_true rfl) dL_again_4 ⟨Nat.le_of_ble_eq_true rfl, Nat.le_of_ble_eq_true rfl⟩ (fun k ce q9 H locs he hP hD hS hce hcv hcl => ?_) (fun w1 H locs he hw1 hP hD hS => ?_)
  · cases r with
    | inr z => exact absurd (show (none : Option Nat) = some k from he) (by simp)
    | inl k9 =>
      have he : (some k9 : Option Nat) = some k := he
      obtain rfl := Option.some.inj he
      rcases hcd with ⟨h9, rfl⟩ | ⟨k8, h8, h9, rfl⟩ | ⟨k8, h8, h9, rfl⟩
      · exact absurd (show (some k9 : Option Nat) = none from h9) (by simp)
      · obtain rfl := Option.some.inj (show some 3 = some k8 from h8)
        obtain rfl := Option.some.inj (show some k9 = some 3 from h9)
        refine vx_catch (name := "java/lang/IndexOutOfBoundsException") (E := fl_exn 3) hown [] ⟨0, 9, 12, 24⟩ [] (by rw [htab]; rfl) (fun z hz => absurd hz List.not_mem_nil) (by decide) (by decide) (hts (.classLink RL 24 "java/lang/IndexOutOfBoundsException") (by first | exact List.mem_of_getElem? (i := 1) rfl | decide +kernel)) (va_Nw.use rfl (hE.2.2.1 3 (Or.inr (Or.inr rfl)))) hce hcv hcl ?_
        refine lv_astore_n (lv' := [(3, .ref q9), (0, .ref sc), (1, .int p0), (2, .ref ou)]) hx hb dL_again_12 rfl hl (by decide) rfl (fun ls hl => ?_)
        refine lv_iconst (v := (1 : Int32)) hx hb dL_again_13 (by decide) ?_
        exact hret _ H locs _ _ _ ls ⟨_, rfl, rfl⟩ (fl_P_perm (List.perm_append_singleton _ _) hP) (fl_D_perm (List.perm_append_singleton _ _) hD) hS dL_again_14 (Nat.le_of_ble_eq_true rfl) (Nat.le_of_ble_eq_true rfl)
      · exact absurd (show (none : Option Nat) = some k8 from h8) (by simp)
  · cases r with
    | inl k9 => exact absurd (show (some k9 : Option Nat) = none from he) (by simp)
    | inr z =>
      rcases hcd with ⟨h9, rfl⟩ | ⟨k8, h8, h9, rfl⟩ | ⟨k8, h8, h9, rfl⟩
      · replace hP := fl_P_perm (List.perm_append_singleton _ _) hP
        replace hD := fl_D_perm (List.perm_append_singleton _ _) hD
        refine lv_i2l (v := (z.1).toInt64) hx hb dL_again_7 rfl ?_
        refine va_last hx hb hK.1 hP hD hS 0 2 rfl rfl fl_in01 dL_again_8 (fun H locs hP hD hS => ?_)
        refine lv_goto (tgt := 15) hx hb dL_again_9 (by decide) ?_
        refine lv_iconst (v := (0 : Int32)) hx hb dL_again_15 (by decide) ?_
        exact hret _ H locs _ _ _ ls ⟨w1, hw1, rfl⟩ hP hD hS dL_again_16 (Nat.le_of_ble_eq_true rfl) (Nat.le_of_ble_eq_true rfl)
      · exact absurd (show (none : Option Nat) = some k8 from h9) (by simp)
      · exact absurd (show (none : Option Nat) = some k8 from h9) (by simp)
set_option maxHeartbeats 1000000 in
set_option maxRecDepth 100000 in
theorem c_L_forget (l : Launch) (hfl : l.stackTraces = false) (G : fl_G) (sa : Nat → Nat) (sc tx0 pnh pns0 pns1 pns2 pno0 pno1 pno2 pno3 pno4 pno5 pnk pnb tl0 fh0 hi sl h1 : Nat) (as : List (Nat × Nat × Nat)) (pn : fl_Ch) (ho : Int32) (hs : Int32) (hv : List fl_Sg) (hlen : as.length = hv.length) {r : (Nat ⊕ (Int32 × fl_Ch × Int32 × Int32 × List fl_Sg))} (hp0 : P_SC_forget pn ho hs hv = some r) (ou : Nat) (uo : Nat → Int64) {cd : Int32} (hcd : fl_cd [2] (fl_ex r) cd) : fl_lw l yL_forget wsL_forget 7 113 3 104 G sa [.ref sc, .ref ou] ((ou, .inl (G.2.2.2.1, 1, .inr (.inl uo))) :: ([(sc, .inr (5, [.ref tx0, .ref pnh, .ref tl0, .ref fh0, .ref hi, .ref sl])), (pnh, .inr (0, [.ref pns0, .ref pno0, .ref pnk, .ref pnb])), (pns0, .inr (4, [.ref pns1, .ref pns2, .int pn.1.2.2.1, .int pn.1.2.2.2.1, .int pn.1.2.2.2.2.1, .int pn.1.2.2.2.2.2.1, .int pn.1.2.2.2.2.2.2.1, .int pn.1.2.2.2.2.2.2.2])), (pns1, .inl (G.2.1, 48, .inl pn.1.1)), (pns2, .inl (G.2.1, 48, .inl pn.1.2.1)), (pno0, .inr (3, [.int pn.2.1.1, .ref pno1, .ref pno2, .ref pno3, .ref pno4, .ref pno5])), (pno1, .inl (G.2.1, 48, .inl pn.2.1.2.1)), (pno2, .inl (G.2.1, 48, .inl pn.2.1.2.2.1)), (pno3, .inl (G.2.1, 48, .inl pn.2.1.2.2.2.1)), (pno4, .inl (G.2.1, 48, .inl pn.2.1.2.2.2.2.1)), (pno5, .inl (G.2.1, 49, .inl pn.2.1.2.2.2.2.2)), (pnk, .inl (G.2.1, 48, .inl pn.2.2.1)), (pnb, .inl (G.2.1, 48, .inl pn.2.2.2)), (hi, .inr (1, [.ref h1, .int ho, .int hs])), (h1, .inl (G.2.2.2.2, 14, .inr (.inr (.inr (.inr (fl_rg as))))))] ++ fl_ws G as hv)) cd (fun w => ∃ w1, (fun w => Sum.elim (fun _ => w = ([(sc, .inr (5, [.ref tx0, .ref pnh, .ref tl0, .ref fh0, .ref hi, .ref sl])), (pnh, .inr (0, [.ref pns0, .ref pno0, .ref pnk, .ref pnb])), (pns0, .inr (4, [.ref pns1, .ref pns2, .int pn.1.2.2.1, .int pn.1.2.2.2.1, .int pn.1.2.2.2.2.1, .int pn.1.2.2.2.2.2.1, .int pn.1.2.2.2.2.2.2.1, .int pn.1.2.2.2.2.2.2.2])), (pns1, .inl (G.2.1, 48, .inl pn.1.1)), (pns2, .inl (G.2.1, 48, .inl pn.1.2.1)), (pno0, .inr (3, [.int pn.2.1.1, .ref pno1, .ref pno2, .ref pno3, .ref pno4, .ref pno5])), (pno1, .inl (G.2.1, 48, .inl pn.2.1.2.1)), (pno2, .inl (G.2.1, 48, .inl pn.2.1.2.2.1)), (pno3, .inl (G.2.1, 48, .inl pn.2.1.2.2.2.1)), (pno4, .inl (G.2.1, 48, .inl pn.2.1.2.2.2.2.1)), (pno5, .inl (G.2.1, 49, .inl pn.2.1.2.2.2.2.2)), (pnk, .inl (G.2.1, 48, .inl pn.2.2.1)), (pnb, .inl (G.2.1, 48, .inl pn.2.2.2)), (hi, .inr (1, [.ref h1, .int ho, .int hs])), (h1, .inl (G.2.2.2.2, 14, .inr (.inr (.inr (.inr (fl_rg as))))))] ++ fl_ws G as hv)) (fun z => ∃ as1 : List (Nat × Nat × Nat), as1.length = z.2.2.2.2.length ∧ w = [(sc, .inr (5, [.ref tx0, .ref pnh, .ref tl0, .ref fh0, .ref hi, .ref sl])), (pnh, .inr (0, [.ref pns0, .ref pno0, .ref pnk, .ref pnb])), (pns0, .inr (4, [.ref pns1, .ref pns2, .int z.2.1.1.2.2.1, .int z.2.1.1.2.2.2.1, .int z.2.1.1.2.2.2.2.1, .int z.2.1.1.2.2.2.2.2.1, .int z.2.1.1.2.2.2.2.2.2.1, .int z.2.1.1.2.2.2.2.2.2.2])), (pns1, .inl (G.2.1, 48, .inl z.2.1.1.1)), (pns2, .inl (G.2.1, 48, .inl z.2.1.1.2.1)), (pno0, .inr (3, [.int z.2.1.2.1.1, .ref pno1, .ref pno2, .ref pno3, .ref pno4, .ref pno5])), (pno1, .inl (G.2.1, 48, .inl z.2.1.2.1.2.1)), (pno2, .inl (G.2.1, 48, .inl z.2.1.2.1.2.2.1)), (pno3, .inl (G.2.1, 48, .inl z.2.1.2.1.2.2.2.1)), (pno4, .inl (G.2.1, 48, .inl z.2.1.2.1.2.2.2.2.1)), (pno5, .inl (G.2.1, 49, .inl z.2.1.2.1.2.2.2.2.2)), (pnk, .inl (G.2.1, 48, .inl z.2.1.2.2.1)), (pnb, .inl (G.2.1, 48, .inl z.2.1.2.2.2)), (hi, .inr (1, [.ref h1, .int z.2.2.1, .int z.2.2.2.1])), (h1, .inl (G.2.2.2.2, 14, .inr (.inr (.inr (.inr (fl_rg as1))))))] ++ fl_ws G as1 z.2.2.2.2) r) w1 ∧ w = (ou, .inl (G.2.2.2.1, 1, .inr (.inl (Sum.elim (fun _ => uo) (fun z => vp_updL uo (0 : Int32).toNatClampNeg (z.1).toInt64) r)))) :: w1) := by
  refine fl_lw_in cL_forget 3 [(0, 8, 11, 15)] (by decide) rfl rfl (Nat.le_of_ble_eq_true rfl) ?_
  intro p e s m args below meth c ls A Q H locs C0 htab hK hE hZ hP hD hS hA hl hret
  obtain ⟨hx, hb, hml, hown, hts⟩ := id C0
  have hl : lv_has ls 3 [(0, .ref sc), (1, .ref ou)] := hl
  refine lv_aload_n hx hb dL_forget_0 rfl (lv_at hl 1 rfl) ?_
  refine lv_iconst (v := (0 : Int32)) hx hb dL_forget_1 (by decide) ?_
  refine lv_aload_n hx hb dL_forget_2 rfl (lv_at hl 0 rfl) ?_
  refine fl_xmV (As := []) (rest := [.int 0, .ref ou]) (wr := [(ou, .inl (G.2.2.2.1, 1, .inr (.inl uo)))]) C0 (c_SC_forget l hfl G sa sc tx0 pnh pns0 pns1 pns2 pno0 pno1 pno2 pno3 pno4 pno5 pnk pnb tl0 fh0 hi sl h1 as pn ho hs hv hlen hp0) (cwV 0 hts gL_forget_X5_forget rfl rfl rfl (by decide +kernel) ⟨Nat.le_of_ble_eq_true rfl, Nat.le_of_ble_eq_true rfl⟩) hK hE hZ (fl_P_perm (List.perm_append_singleton _ _).symm hP) (fl_D_perm (List.perm_append_singleton _ _).symm hD) 0 5 rfl rfl rfl hS hA rfl hl.1 rfl (Nat.le_of_ble_eq_true rfl) dL_forget_3 ⟨Nat.le_of_ble_eq_true rfl, Nat.le_of_ble_eq_true rfl⟩ (fun k ce q9 H locs he hP hD hS hce hcv hcl => ?_) (fun w1 H locs he hw1 hP hD hS => ?_)
  · cases r with
    | inr z => exact absurd (show (none : Option Nat) = some k from he) (by simp)
    | inl k9 =>
      have he : (some k9 : Option Nat) = some k := he
      obtain rfl := Option.some.inj he
      rcases hcd with ⟨h9, rfl⟩ | ⟨k8, h8, h9, rfl⟩ | ⟨k8, h8, h9, rfl⟩
      · exact absurd (show (some k9 : Option Nat) = none from h9) (by simp)
      · obtain rfl := Option.some.inj (show some 2 = some k8 from h8)
        obtain rfl := Option.some.inj (show some k9 = some 2 from h9)
        refine vx_catch (name := "java/lang/IllegalStateException") (E := fl_exn 2) hown [] ⟨0, 8, 11, 15⟩ [] (by rw [htab]; rfl) (fun z hz => absurd hz List.not_mem_nil) (by decide) (by decide) (hts (.classLink RL 15 "java/lang/IllegalStateException") (by first | exact List.mem_of_getElem? (i := 1) rfl | decide +kernel)) (va_Nw.use rfl (hE.2.2.1 2 (Or.inr (Or.inl rfl)))) hce hcv hcl ?_
        refine lv_astore_n (lv' := [(2, .ref q9), (0, .ref sc), (1, .ref ou)]) hx hb dL_forget_11 rfl hl (by decide) rfl (fun ls hl => ?_)
        refine lv_iconst (v := (1 : Int32)) hx hb dL_forget_12 (by decide) ?_
        exact hret _ H locs _ _ _ ls ⟨_, rfl, rfl⟩ (fl_P_perm (List.perm_append_singleton _ _) hP) (fl_D_perm (List.perm_append_singleton _ _) hD) hS dL_forget_13 (Nat.le_of_ble_eq_true rfl) (Nat.le_of_ble_eq_true rfl)
      · exact absurd (show (none : Option Nat) = some k8 from h8) (by simp)
  · cases r with
    | inl k9 => exact absurd (show (some k9 : Option Nat) = none from he) (by simp)
    | inr z =>
      rcases hcd with ⟨h9, rfl⟩ | ⟨k8, h8, h9, rfl⟩ | ⟨k8, h8, h9, rfl⟩
      · replace hP := fl_P_perm (List.perm_append_singleton _ _) hP
        replace hD := fl_D_perm (List.perm_append_singleton _ _) hD
        refine lv_i2l (v := (z.1).toInt64) hx hb dL_forget_6 rfl ?_
        refine va_last hx hb hK.1 hP hD hS 0 2 rfl rfl fl_in01 dL_forget_7 (fun H locs hP hD hS => ?_)
        refine lv_goto (tgt := 14) hx hb dL_forget_8 (by decide) ?_
        refine lv_iconst (v := (0 : Int32)) hx hb dL_forget_14 (by decide) ?_
        exact hret _ H locs _ _ _ ls ⟨w1, hw1, rfl⟩ hP hD hS dL_forget_15 (Nat.le_of_ble_eq_true rfl) (Nat.le_of_ble_eq_true rfl)
      · exact absurd (show (none : Option Nat) = some k8 from h9) (by simp)
      · exact absurd (show (none : Option Nat) = some k8 from h9) (by simp)
set_option maxHeartbeats 1000000 in
set_option maxRecDepth 100000 in
theorem c_L_setSingers (l : Launch) (hfl : l.stackTraces = false) (G : fl_G) (sa : Nat → Nat) (sc tx0 pnh pns0 pns1 pns2 pno0 pno1 pno2 pno3 pno4 pno5 pnk pnb tl0 fh0 hi sl h1 : Nat) (as : List (Nat × Nat × Nat)) (pn : fl_Ch) (ho : Int32) (hs : Int32) (hv : List fl_Sg) (p0 : Int32) (hlen : as.length = hv.length) {r : (Nat ⊕ (Int32 × fl_Ch × Int32 × Int32 × List fl_Sg))} (hp0 : P_SC_setSingers pn ho hs hv p0 = some r) (ou : Nat) (uo : Nat → Int64) {cd : Int32} (hcd : fl_cd [1] (fl_ex r) cd) : fl_lw l yL_setSingers wsL_setSingers 7 113 3 104 G sa [.ref sc, .int p0, .ref ou] ((ou, .inl (G.2.2.2.1, 1, .inr (.inl uo))) :: ([(sc, .inr (5, [.ref tx0, .ref pnh, .ref tl0, .ref fh0, .ref hi, .ref sl])), (pnh, .inr (0, [.ref pns0, .ref pno0, .ref pnk, .ref pnb])), (pns0, .inr (4, [.ref pns1, .ref pns2, .int pn.1.2.2.1, .int pn.1.2.2.2.1, .int pn.1.2.2.2.2.1, .int pn.1.2.2.2.2.2.1, .int pn.1.2.2.2.2.2.2.1, .int pn.1.2.2.2.2.2.2.2])), (pns1, .inl (G.2.1, 48, .inl pn.1.1)), (pns2, .inl (G.2.1, 48, .inl pn.1.2.1)), (pno0, .inr (3, [.int pn.2.1.1, .ref pno1, .ref pno2, .ref pno3, .ref pno4, .ref pno5])), (pno1, .inl (G.2.1, 48, .inl pn.2.1.2.1)), (pno2, .inl (G.2.1, 48, .inl pn.2.1.2.2.1)), (pno3, .inl (G.2.1, 48, .inl pn.2.1.2.2.2.1)), (pno4, .inl (G.2.1, 48, .inl pn.2.1.2.2.2.2.1)), (pno5, .inl (G.2.1, 49, .inl pn.2.1.2.2.2.2.2)), (pnk, .inl (G.2.1, 48, .inl pn.2.2.1)), (pnb, .inl (G.2.1, 48, .inl pn.2.2.2)), (hi, .inr (1, [.ref h1, .int ho, .int hs])), (h1, .inl (G.2.2.2.2, 14, .inr (.inr (.inr (.inr (fl_rg as))))))] ++ fl_ws G as hv)) cd (fun w => ∃ w1, (fun w => Sum.elim (fun _ => w = ([(sc, .inr (5, [.ref tx0, .ref pnh, .ref tl0, .ref fh0, .ref hi, .ref sl])), (pnh, .inr (0, [.ref pns0, .ref pno0, .ref pnk, .ref pnb])), (pns0, .inr (4, [.ref pns1, .ref pns2, .int pn.1.2.2.1, .int pn.1.2.2.2.1, .int pn.1.2.2.2.2.1, .int pn.1.2.2.2.2.2.1, .int pn.1.2.2.2.2.2.2.1, .int pn.1.2.2.2.2.2.2.2])), (pns1, .inl (G.2.1, 48, .inl pn.1.1)), (pns2, .inl (G.2.1, 48, .inl pn.1.2.1)), (pno0, .inr (3, [.int pn.2.1.1, .ref pno1, .ref pno2, .ref pno3, .ref pno4, .ref pno5])), (pno1, .inl (G.2.1, 48, .inl pn.2.1.2.1)), (pno2, .inl (G.2.1, 48, .inl pn.2.1.2.2.1)), (pno3, .inl (G.2.1, 48, .inl pn.2.1.2.2.2.1)), (pno4, .inl (G.2.1, 48, .inl pn.2.1.2.2.2.2.1)), (pno5, .inl (G.2.1, 49, .inl pn.2.1.2.2.2.2.2)), (pnk, .inl (G.2.1, 48, .inl pn.2.2.1)), (pnb, .inl (G.2.1, 48, .inl pn.2.2.2)), (hi, .inr (1, [.ref h1, .int ho, .int hs])), (h1, .inl (G.2.2.2.2, 14, .inr (.inr (.inr (.inr (fl_rg as))))))] ++ fl_ws G as hv)) (fun z => ∃ as1 : List (Nat × Nat × Nat), as1.length = z.2.2.2.2.length ∧ w = [(sc, .inr (5, [.ref tx0, .ref pnh, .ref tl0, .ref fh0, .ref hi, .ref sl])), (pnh, .inr (0, [.ref pns0, .ref pno0, .ref pnk, .ref pnb])), (pns0, .inr (4, [.ref pns1, .ref pns2, .int z.2.1.1.2.2.1, .int z.2.1.1.2.2.2.1, .int z.2.1.1.2.2.2.2.1, .int z.2.1.1.2.2.2.2.2.1, .int z.2.1.1.2.2.2.2.2.2.1, .int z.2.1.1.2.2.2.2.2.2.2])), (pns1, .inl (G.2.1, 48, .inl z.2.1.1.1)), (pns2, .inl (G.2.1, 48, .inl z.2.1.1.2.1)), (pno0, .inr (3, [.int z.2.1.2.1.1, .ref pno1, .ref pno2, .ref pno3, .ref pno4, .ref pno5])), (pno1, .inl (G.2.1, 48, .inl z.2.1.2.1.2.1)), (pno2, .inl (G.2.1, 48, .inl z.2.1.2.1.2.2.1)), (pno3, .inl (G.2.1, 48, .inl z.2.1.2.1.2.2.2.1)), (pno4, .inl (G.2.1, 48, .inl z.2.1.2.1.2.2.2.2.1)), (pno5, .inl (G.2.1, 49, .inl z.2.1.2.1.2.2.2.2.2)), (pnk, .inl (G.2.1, 48, .inl z.2.1.2.2.1)), (pnb, .inl (G.2.1, 48, .inl z.2.1.2.2.2)), (hi, .inr (1, [.ref h1, .int z.2.2.1, .int z.2.2.2.1])), (h1, .inl (G.2.2.2.2, 14, .inr (.inr (.inr (.inr (fl_rg as1))))))] ++ fl_ws G as1 z.2.2.2.2) r) w1 ∧ w = (ou, .inl (G.2.2.2.1, 1, .inr (.inl (Sum.elim (fun _ => uo) (fun z => vp_updL uo (0 : Int32).toNatClampNeg (z.1).toInt64) r)))) :: w1) := by
  refine fl_lw_in cL_setSingers 4 [(0, 9, 12, 13)] (by decide) rfl rfl (Nat.le_of_ble_eq_true rfl) ?_
  intro p e s m args below meth c ls A Q H locs C0 htab hK hE hZ hP hD hS hA hl hret
  obtain ⟨hx, hb, hml, hown, hts⟩ := id C0
  have hl : lv_has ls 4 [(0, .ref sc), (1, .int p0), (2, .ref ou)] := hl
  refine lv_aload_n hx hb dL_setSingers_0 rfl (lv_at hl 2 rfl) ?_
  refine lv_iconst (v := (0 : Int32)) hx hb dL_setSingers_1 (by decide) ?_
  refine lv_aload_n hx hb dL_setSingers_2 rfl (lv_at hl 0 rfl) ?_
  refine lv_iload_n hx hb dL_setSingers_3 rfl (lv_at hl 1 rfl) ?_
  refine fl_xmV (As := [.int p0]) (rest := [.int 0, .ref ou]) (wr := [(ou, .inl (G.2.2.2.1, 1, .inr (.inl uo)))]) C0 (c_SC_setSingers l hfl G sa sc tx0 pnh pns0 pns1 pns2 pno0 pno1 pno2 pno3 pno4 pno5 pnk pnb tl0 fh0 hi sl h1 as pn ho hs hv p0 hlen hp0) (cwV 1 hts gL_setSingers_X5_setSingers rfl rfl rfl (by decide +kernel) ⟨Nat.le_of_ble_eq_true rfl, Nat.le_of_ble_eq_true rfl⟩) hK hE hZ (fl_P_perm (List.perm_append_singleton _ _).symm hP) (fl_D_perm (List.perm_append_singleton _ _).symm hD) 0 5 rfl rfl rfl hS hA rfl hl.1 rfl (Nat.le_of_ble_eq_true rfl) dL_setSingers_4 ⟨Nat.le_of_ble_eq_true rfl, Nat.le_of_ble_eq_true rfl⟩ (fun k ce q9 H locs he hP hD hS hce hcv hcl => ?_) (fun w1 H locs he hw1 hP hD hS => ?_)
  · cases r with
    | inr z => exact absurd (show (none : Option Nat) = some k from he) (by simp)
    | inl k9 =>
      have he : (some k9 : Option Nat) = some k := he
      obtain rfl := Option.some.inj he
      rcases hcd with ⟨h9, rfl⟩ | ⟨k8, h8, h9, rfl⟩ | ⟨k8, h8, h9, rfl⟩
      · exact absurd (show (some k9 : Option Nat) = none from h9) (by simp)
      · obtain rfl := Option.some.inj (show some 1 = some k8 from h8)
        obtain rfl := Option.some.inj (show some k9 = some 1 from h9)
        refine vx_catch (name := "java/lang/IllegalArgumentException") (E := fl_exn 1) hown [] ⟨0, 9, 12, 13⟩ [] (by rw [htab]; rfl) (fun z hz => absurd hz List.not_mem_nil) (by decide) (by decide) (hts (.classLink RL 13 "java/lang/IllegalArgumentException") (by first | exact List.mem_of_getElem? (i := 1) rfl | decide +kernel)) (va_Nw.use rfl (hE.2.2.1 1 (Or.inl rfl))) hce hcv hcl ?_
        refine lv_astore_n (lv' := [(3, .ref q9), (0, .ref sc), (1, .int p0), (2, .ref ou)]) hx hb dL_setSingers_12 rfl hl (by decide) rfl (fun ls hl => ?_)
        refine lv_iconst (v := (1 : Int32)) hx hb dL_setSingers_13 (by decide) ?_
        exact hret _ H locs _ _ _ ls ⟨_, rfl, rfl⟩ (fl_P_perm (List.perm_append_singleton _ _) hP) (fl_D_perm (List.perm_append_singleton _ _) hD) hS dL_setSingers_14 (Nat.le_of_ble_eq_true rfl) (Nat.le_of_ble_eq_true rfl)
      · exact absurd (show (none : Option Nat) = some k8 from h8) (by simp)
  · cases r with
    | inl k9 => exact absurd (show (some k9 : Option Nat) = none from he) (by simp)
    | inr z =>
      rcases hcd with ⟨h9, rfl⟩ | ⟨k8, h8, h9, rfl⟩ | ⟨k8, h8, h9, rfl⟩
      · replace hP := fl_P_perm (List.perm_append_singleton _ _) hP
        replace hD := fl_D_perm (List.perm_append_singleton _ _) hD
        refine lv_i2l (v := (z.1).toInt64) hx hb dL_setSingers_7 rfl ?_
        refine va_last hx hb hK.1 hP hD hS 0 2 rfl rfl fl_in01 dL_setSingers_8 (fun H locs hP hD hS => ?_)
        refine lv_goto (tgt := 15) hx hb dL_setSingers_9 (by decide) ?_
        refine lv_iconst (v := (0 : Int32)) hx hb dL_setSingers_15 (by decide) ?_
        exact hret _ H locs _ _ _ ls ⟨w1, hw1, rfl⟩ hP hD hS dL_setSingers_16 (Nat.le_of_ble_eq_true rfl) (Nat.le_of_ble_eq_true rfl)
      · exact absurd (show (none : Option Nat) = some k8 from h9) (by simp)
      · exact absurd (show (none : Option Nat) = some k8 from h9) (by simp)
set_option maxHeartbeats 1000000 in
set_option maxRecDepth 100000 in
theorem c_L_undoA (l : Launch) (hfl : l.stackTraces = false) (G : fl_G) (sa : Nat → Nat) (sc tx0 pnh pns0 pns1 pns2 pno0 pno1 pno2 pno3 pno4 pno5 pnk pnb tl0 fh0 hi sl h1 : Nat) (pn : fl_Ch) (ho : Int32) (hs : Int32) {r : (Nat ⊕ Int32)} (hp0 : P_SC_undoA hs = some r) (ou : Nat) (uo : Nat → Int64) {cd : Int32} (hcd : fl_cd [2] (fl_ex r) cd) : fl_lw l yL_undo wsL_undo 7 111 1 6 G sa [.ref sc, .ref ou] ((ou, .inl (G.2.2.2.1, 1, .inr (.inl uo))) :: [(sc, .inr (5, [.ref tx0, .ref pnh, .ref tl0, .ref fh0, .ref hi, .ref sl])), (pnh, .inr (0, [.ref pns0, .ref pno0, .ref pnk, .ref pnb])), (pns0, .inr (4, [.ref pns1, .ref pns2, .int pn.1.2.2.1, .int pn.1.2.2.2.1, .int pn.1.2.2.2.2.1, .int pn.1.2.2.2.2.2.1, .int pn.1.2.2.2.2.2.2.1, .int pn.1.2.2.2.2.2.2.2])), (pns1, .inl (G.2.1, 48, .inl pn.1.1)), (pns2, .inl (G.2.1, 48, .inl pn.1.2.1)), (pno0, .inr (3, [.int pn.2.1.1, .ref pno1, .ref pno2, .ref pno3, .ref pno4, .ref pno5])), (pno1, .inl (G.2.1, 48, .inl pn.2.1.2.1)), (pno2, .inl (G.2.1, 48, .inl pn.2.1.2.2.1)), (pno3, .inl (G.2.1, 48, .inl pn.2.1.2.2.2.1)), (pno4, .inl (G.2.1, 48, .inl pn.2.1.2.2.2.2.1)), (pno5, .inl (G.2.1, 49, .inl pn.2.1.2.2.2.2.2)), (pnk, .inl (G.2.1, 48, .inl pn.2.2.1)), (pnb, .inl (G.2.1, 48, .inl pn.2.2.2)), (hi, .inr (1, [.ref h1, .int ho, .int hs]))]) cd (fun w => ∃ w1, (fun w => Sum.elim (fun _ => w = [(sc, .inr (5, [.ref tx0, .ref pnh, .ref tl0, .ref fh0, .ref hi, .ref sl])), (pnh, .inr (0, [.ref pns0, .ref pno0, .ref pnk, .ref pnb])), (pns0, .inr (4, [.ref pns1, .ref pns2, .int pn.1.2.2.1, .int pn.1.2.2.2.1, .int pn.1.2.2.2.2.1, .int pn.1.2.2.2.2.2.1, .int pn.1.2.2.2.2.2.2.1, .int pn.1.2.2.2.2.2.2.2])), (pns1, .inl (G.2.1, 48, .inl pn.1.1)), (pns2, .inl (G.2.1, 48, .inl pn.1.2.1)), (pno0, .inr (3, [.int pn.2.1.1, .ref pno1, .ref pno2, .ref pno3, .ref pno4, .ref pno5])), (pno1, .inl (G.2.1, 48, .inl pn.2.1.2.1)), (pno2, .inl (G.2.1, 48, .inl pn.2.1.2.2.1)), (pno3, .inl (G.2.1, 48, .inl pn.2.1.2.2.2.1)), (pno4, .inl (G.2.1, 48, .inl pn.2.1.2.2.2.2.1)), (pno5, .inl (G.2.1, 49, .inl pn.2.1.2.2.2.2.2)), (pnk, .inl (G.2.1, 48, .inl pn.2.2.1)), (pnb, .inl (G.2.1, 48, .inl pn.2.2.2)), (hi, .inr (1, [.ref h1, .int ho, .int hs]))]) (fun z => w = [(sc, .inr (5, [.ref tx0, .ref pnh, .ref tl0, .ref fh0, .ref hi, .ref sl])), (pnh, .inr (0, [.ref pns0, .ref pno0, .ref pnk, .ref pnb])), (pns0, .inr (4, [.ref pns1, .ref pns2, .int pn.1.2.2.1, .int pn.1.2.2.2.1, .int pn.1.2.2.2.2.1, .int pn.1.2.2.2.2.2.1, .int pn.1.2.2.2.2.2.2.1, .int pn.1.2.2.2.2.2.2.2])), (pns1, .inl (G.2.1, 48, .inl pn.1.1)), (pns2, .inl (G.2.1, 48, .inl pn.1.2.1)), (pno0, .inr (3, [.int pn.2.1.1, .ref pno1, .ref pno2, .ref pno3, .ref pno4, .ref pno5])), (pno1, .inl (G.2.1, 48, .inl pn.2.1.2.1)), (pno2, .inl (G.2.1, 48, .inl pn.2.1.2.2.1)), (pno3, .inl (G.2.1, 48, .inl pn.2.1.2.2.2.1)), (pno4, .inl (G.2.1, 48, .inl pn.2.1.2.2.2.2.1)), (pno5, .inl (G.2.1, 49, .inl pn.2.1.2.2.2.2.2)), (pnk, .inl (G.2.1, 48, .inl pn.2.2.1)), (pnb, .inl (G.2.1, 48, .inl pn.2.2.2)), (hi, .inr (1, [.ref h1, .int ho, .int hs]))]) r) w1 ∧ w = (ou, .inl (G.2.2.2.1, 1, .inr (.inl (Sum.elim (fun _ => uo) (fun z => vp_updL uo (0 : Int32).toNatClampNeg (z).toInt64) r)))) :: w1) := by
  refine fl_lw_in cL_undo 3 [(0, 8, 11, 15)] (by decide) rfl rfl (Nat.le_of_ble_eq_true rfl) ?_
  intro p e s m args below meth c ls A Q H locs C0 htab hK hE hZ hP hD hS hA hl hret
  obtain ⟨hx, hb, hml, hown, hts⟩ := id C0
  have hl : lv_has ls 3 [(0, .ref sc), (1, .ref ou)] := hl
  refine lv_aload_n hx hb dL_undo_0 rfl (lv_at hl 1 rfl) ?_
  refine lv_iconst (v := (0 : Int32)) hx hb dL_undo_1 (by decide) ?_
  refine lv_aload_n hx hb dL_undo_2 rfl (lv_at hl 0 rfl) ?_
  refine fl_xmV (As := []) (rest := [.int 0, .ref ou]) (wr := [(ou, .inl (G.2.2.2.1, 1, .inr (.inl uo)))]) C0 (c_SC_undoA l hfl G sa sc tx0 pnh pns0 pns1 pns2 pno0 pno1 pno2 pno3 pno4 pno5 pnk pnb tl0 fh0 hi sl h1 pn ho hs hp0) (cwV 0 hts gL_undo_X5_undo rfl rfl rfl (by decide +kernel) ⟨Nat.le_of_ble_eq_true rfl, Nat.le_of_ble_eq_true rfl⟩) hK hE hZ (fl_P_perm (List.perm_append_singleton _ _).symm hP) (fl_D_perm (List.perm_append_singleton _ _).symm hD) 0 5 rfl rfl rfl hS hA rfl hl.1 rfl (Nat.le_of_ble_eq_true rfl) dL_undo_3 ⟨Nat.le_of_ble_eq_true rfl, Nat.le_of_ble_eq_true rfl⟩ (fun k ce q9 H locs he hP hD hS hce hcv hcl => ?_) (fun w1 H locs he hw1 hP hD hS => ?_)
  · cases r with
    | inr z => exact absurd (show (none : Option Nat) = some k from he) (by simp)
    | inl k9 =>
      have he : (some k9 : Option Nat) = some k := he
      obtain rfl := Option.some.inj he
      rcases hcd with ⟨h9, rfl⟩ | ⟨k8, h8, h9, rfl⟩ | ⟨k8, h8, h9, rfl⟩
      · exact absurd (show (some k9 : Option Nat) = none from h9) (by simp)
      · obtain rfl := Option.some.inj (show some 2 = some k8 from h8)
        obtain rfl := Option.some.inj (show some k9 = some 2 from h9)
        refine vx_catch (name := "java/lang/IllegalStateException") (E := fl_exn 2) hown [] ⟨0, 8, 11, 15⟩ [] (by rw [htab]; rfl) (fun z hz => absurd hz List.not_mem_nil) (by decide) (by decide) (hts (.classLink RL 15 "java/lang/IllegalStateException") (by first | exact List.mem_of_getElem? (i := 1) rfl | decide +kernel)) (va_Nw.use rfl (hE.2.2.1 2 (Or.inr (Or.inl rfl)))) hce hcv hcl ?_
        refine lv_astore_n (lv' := [(2, .ref q9), (0, .ref sc), (1, .ref ou)]) hx hb dL_undo_11 rfl hl (by decide) rfl (fun ls hl => ?_)
        refine lv_iconst (v := (1 : Int32)) hx hb dL_undo_12 (by decide) ?_
        exact hret _ H locs _ _ _ ls ⟨_, rfl, rfl⟩ (fl_P_perm (List.perm_append_singleton _ _) hP) (fl_D_perm (List.perm_append_singleton _ _) hD) hS dL_undo_13 (Nat.le_of_ble_eq_true rfl) (Nat.le_of_ble_eq_true rfl)
      · exact absurd (show (none : Option Nat) = some k8 from h8) (by simp)
  · cases r with
    | inl k9 => exact absurd (show (some k9 : Option Nat) = none from he) (by simp)
    | inr z =>
      rcases hcd with ⟨h9, rfl⟩ | ⟨k8, h8, h9, rfl⟩ | ⟨k8, h8, h9, rfl⟩
      · replace hP := fl_P_perm (List.perm_append_singleton _ _) hP
        replace hD := fl_D_perm (List.perm_append_singleton _ _) hD
        refine lv_i2l (v := (z).toInt64) hx hb dL_undo_6 rfl ?_
        refine va_last hx hb hK.1 hP hD hS 0 2 rfl rfl fl_in01 dL_undo_7 (fun H locs hP hD hS => ?_)
        refine lv_goto (tgt := 14) hx hb dL_undo_8 (by decide) ?_
        refine lv_iconst (v := (0 : Int32)) hx hb dL_undo_14 (by decide) ?_
        exact hret _ H locs _ _ _ ls ⟨w1, hw1, rfl⟩ hP hD hS dL_undo_15 (Nat.le_of_ble_eq_true rfl) (Nat.le_of_ble_eq_true rfl)
      · exact absurd (show (none : Option Nat) = some k8 from h9) (by simp)
      · exact absurd (show (none : Option Nat) = some k8 from h9) (by simp)
set_option maxHeartbeats 1000000 in
set_option maxRecDepth 100000 in
theorem c_L_undoB (l : Launch) (hfl : l.stackTraces = false) (G : fl_G) (sa : Nat → Nat) (sc tx0 pnh pns0 pns1 pns2 pno0 pno1 pno2 pno3 pno4 pno5 pnk pnb tl0 fh0 hi sl h1 tg0 tg1 tg2 : Nat) (hf : Nat → Option Nat) (pn : fl_Ch) (ho : Int32) (hs : Int32) (tg : fl_Sg) (hq0 : hf ((ho + (hs - (1 : Int32))) - (ho + (hs - (1 : Int32))) / (14 : Int32) * (14 : Int32)).toNatClampNeg = some tg0) {r : (Nat ⊕ (Int32 × fl_Ch × Int32))} (hp0 : P_SC_undoB pn ho hs tg = some r) (ou : Nat) (uo : Nat → Int64) {cd : Int32} (hcd : fl_cd [2] (fl_ex r) cd) : fl_lw l yL_undo wsL_undo 7 111 1 6 G sa [.ref sc, .ref ou] ((ou, .inl (G.2.2.2.1, 1, .inr (.inl uo))) :: [(sc, .inr (5, [.ref tx0, .ref pnh, .ref tl0, .ref fh0, .ref hi, .ref sl])), (pnh, .inr (0, [.ref pns0, .ref pno0, .ref pnk, .ref pnb])), (pns0, .inr (4, [.ref pns1, .ref pns2, .int pn.1.2.2.1, .int pn.1.2.2.2.1, .int pn.1.2.2.2.2.1, .int pn.1.2.2.2.2.2.1, .int pn.1.2.2.2.2.2.2.1, .int pn.1.2.2.2.2.2.2.2])), (pns1, .inl (G.2.1, 48, .inl pn.1.1)), (pns2, .inl (G.2.1, 48, .inl pn.1.2.1)), (pno0, .inr (3, [.int pn.2.1.1, .ref pno1, .ref pno2, .ref pno3, .ref pno4, .ref pno5])), (pno1, .inl (G.2.1, 48, .inl pn.2.1.2.1)), (pno2, .inl (G.2.1, 48, .inl pn.2.1.2.2.1)), (pno3, .inl (G.2.1, 48, .inl pn.2.1.2.2.2.1)), (pno4, .inl (G.2.1, 48, .inl pn.2.1.2.2.2.2.1)), (pno5, .inl (G.2.1, 49, .inl pn.2.1.2.2.2.2.2)), (pnk, .inl (G.2.1, 48, .inl pn.2.2.1)), (pnb, .inl (G.2.1, 48, .inl pn.2.2.2)), (hi, .inr (1, [.ref h1, .int ho, .int hs])), (h1, .inl (G.2.2.2.2, 14, .inr (.inr (.inr (.inr hf))))), (tg0, .inr (4, [.ref tg1, .ref tg2, .int tg.2.2.1, .int tg.2.2.2.1, .int tg.2.2.2.2.1, .int tg.2.2.2.2.2.1, .int tg.2.2.2.2.2.2.1, .int tg.2.2.2.2.2.2.2])), (tg1, .inl (G.2.1, 48, .inl tg.1)), (tg2, .inl (G.2.1, 48, .inl tg.2.1))]) cd (fun w => ∃ w1, (fun w => Sum.elim (fun _ => w = [(sc, .inr (5, [.ref tx0, .ref pnh, .ref tl0, .ref fh0, .ref hi, .ref sl])), (pnh, .inr (0, [.ref pns0, .ref pno0, .ref pnk, .ref pnb])), (pns0, .inr (4, [.ref pns1, .ref pns2, .int pn.1.2.2.1, .int pn.1.2.2.2.1, .int pn.1.2.2.2.2.1, .int pn.1.2.2.2.2.2.1, .int pn.1.2.2.2.2.2.2.1, .int pn.1.2.2.2.2.2.2.2])), (pns1, .inl (G.2.1, 48, .inl pn.1.1)), (pns2, .inl (G.2.1, 48, .inl pn.1.2.1)), (pno0, .inr (3, [.int pn.2.1.1, .ref pno1, .ref pno2, .ref pno3, .ref pno4, .ref pno5])), (pno1, .inl (G.2.1, 48, .inl pn.2.1.2.1)), (pno2, .inl (G.2.1, 48, .inl pn.2.1.2.2.1)), (pno3, .inl (G.2.1, 48, .inl pn.2.1.2.2.2.1)), (pno4, .inl (G.2.1, 48, .inl pn.2.1.2.2.2.2.1)), (pno5, .inl (G.2.1, 49, .inl pn.2.1.2.2.2.2.2)), (pnk, .inl (G.2.1, 48, .inl pn.2.2.1)), (pnb, .inl (G.2.1, 48, .inl pn.2.2.2)), (hi, .inr (1, [.ref h1, .int ho, .int hs])), (h1, .inl (G.2.2.2.2, 14, .inr (.inr (.inr (.inr hf))))), (tg0, .inr (4, [.ref tg1, .ref tg2, .int tg.2.2.1, .int tg.2.2.2.1, .int tg.2.2.2.2.1, .int tg.2.2.2.2.2.1, .int tg.2.2.2.2.2.2.1, .int tg.2.2.2.2.2.2.2])), (tg1, .inl (G.2.1, 48, .inl tg.1)), (tg2, .inl (G.2.1, 48, .inl tg.2.1))]) (fun z => w = [(sc, .inr (5, [.ref tx0, .ref pnh, .ref tl0, .ref fh0, .ref hi, .ref sl])), (pnh, .inr (0, [.ref pns0, .ref pno0, .ref pnk, .ref pnb])), (pns0, .inr (4, [.ref pns1, .ref pns2, .int z.2.1.1.2.2.1, .int z.2.1.1.2.2.2.1, .int z.2.1.1.2.2.2.2.1, .int z.2.1.1.2.2.2.2.2.1, .int z.2.1.1.2.2.2.2.2.2.1, .int z.2.1.1.2.2.2.2.2.2.2])), (pns1, .inl (G.2.1, 48, .inl z.2.1.1.1)), (pns2, .inl (G.2.1, 48, .inl z.2.1.1.2.1)), (pno0, .inr (3, [.int z.2.1.2.1.1, .ref pno1, .ref pno2, .ref pno3, .ref pno4, .ref pno5])), (pno1, .inl (G.2.1, 48, .inl z.2.1.2.1.2.1)), (pno2, .inl (G.2.1, 48, .inl z.2.1.2.1.2.2.1)), (pno3, .inl (G.2.1, 48, .inl z.2.1.2.1.2.2.2.1)), (pno4, .inl (G.2.1, 48, .inl z.2.1.2.1.2.2.2.2.1)), (pno5, .inl (G.2.1, 49, .inl z.2.1.2.1.2.2.2.2.2)), (pnk, .inl (G.2.1, 48, .inl z.2.1.2.2.1)), (pnb, .inl (G.2.1, 48, .inl z.2.1.2.2.2)), (hi, .inr (1, [.ref h1, .int ho, .int z.2.2])), (h1, .inl (G.2.2.2.2, 14, .inr (.inr (.inr (.inr hf))))), (tg0, .inr (4, [.ref tg1, .ref tg2, .int tg.2.2.1, .int tg.2.2.2.1, .int tg.2.2.2.2.1, .int tg.2.2.2.2.2.1, .int tg.2.2.2.2.2.2.1, .int tg.2.2.2.2.2.2.2])), (tg1, .inl (G.2.1, 48, .inl tg.1)), (tg2, .inl (G.2.1, 48, .inl tg.2.1))]) r) w1 ∧ w = (ou, .inl (G.2.2.2.1, 1, .inr (.inl (Sum.elim (fun _ => uo) (fun z => vp_updL uo (0 : Int32).toNatClampNeg (z.1).toInt64) r)))) :: w1) := by
  refine fl_lw_in cL_undo 3 [(0, 8, 11, 15)] (by decide) rfl rfl (Nat.le_of_ble_eq_true rfl) ?_
  intro p e s m args below meth c ls A Q H locs C0 htab hK hE hZ hP hD hS hA hl hret
  obtain ⟨hx, hb, hml, hown, hts⟩ := id C0
  have hl : lv_has ls 3 [(0, .ref sc), (1, .ref ou)] := hl
  refine lv_aload_n hx hb dL_undo_0 rfl (lv_at hl 1 rfl) ?_
  refine lv_iconst (v := (0 : Int32)) hx hb dL_undo_1 (by decide) ?_
  refine lv_aload_n hx hb dL_undo_2 rfl (lv_at hl 0 rfl) ?_
  refine fl_xmV (As := []) (rest := [.int 0, .ref ou]) (wr := [(ou, .inl (G.2.2.2.1, 1, .inr (.inl uo)))]) C0 (c_SC_undoB l hfl G sa sc tx0 pnh pns0 pns1 pns2 pno0 pno1 pno2 pno3 pno4 pno5 pnk pnb tl0 fh0 hi sl h1 tg0 tg1 tg2 hf pn ho hs tg hq0 hp0) (cwV 0 hts gL_undo_X5_undo rfl rfl rfl (by decide +kernel) ⟨Nat.le_of_ble_eq_true rfl, Nat.le_of_ble_eq_true rfl⟩) hK hE hZ (fl_P_perm (List.perm_append_singleton _ _).symm hP) (fl_D_perm (List.perm_append_singleton _ _).symm hD) 0 5 rfl rfl rfl hS hA rfl hl.1 rfl (Nat.le_of_ble_eq_true rfl) dL_undo_3 ⟨Nat.le_of_ble_eq_true rfl, Nat.le_of_ble_eq_true rfl⟩ (fun k ce q9 H locs he hP hD hS hce hcv hcl => ?_) (fun w1 H locs he hw1 hP hD hS => ?_)
  · cases r with
    | inr z => exact absurd (show (none : Option Nat) = some k from he) (by simp)
    | inl k9 =>
      have he : (some k9 : Option Nat) = some k := he
      obtain rfl := Option.some.inj he
      rcases hcd with ⟨h9, rfl⟩ | ⟨k8, h8, h9, rfl⟩ | ⟨k8, h8, h9, rfl⟩
      · exact absurd (show (some k9 : Option Nat) = none from h9) (by simp)
      · obtain rfl := Option.some.inj (show some 2 = some k8 from h8)
        obtain rfl := Option.some.inj (show some k9 = some 2 from h9)
        refine vx_catch (name := "java/lang/IllegalStateException") (E := fl_exn 2) hown [] ⟨0, 8, 11, 15⟩ [] (by rw [htab]; rfl) (fun z hz => absurd hz List.not_mem_nil) (by decide) (by decide) (hts (.classLink RL 15 "java/lang/IllegalStateException") (by first | exact List.mem_of_getElem? (i := 1) rfl | decide +kernel)) (va_Nw.use rfl (hE.2.2.1 2 (Or.inr (Or.inl rfl)))) hce hcv hcl ?_
        refine lv_astore_n (lv' := [(2, .ref q9), (0, .ref sc), (1, .ref ou)]) hx hb dL_undo_11 rfl hl (by decide) rfl (fun ls hl => ?_)
        refine lv_iconst (v := (1 : Int32)) hx hb dL_undo_12 (by decide) ?_
        exact hret _ H locs _ _ _ ls ⟨_, rfl, rfl⟩ (fl_P_perm (List.perm_append_singleton _ _) hP) (fl_D_perm (List.perm_append_singleton _ _) hD) hS dL_undo_13 (Nat.le_of_ble_eq_true rfl) (Nat.le_of_ble_eq_true rfl)
      · exact absurd (show (none : Option Nat) = some k8 from h8) (by simp)
  · cases r with
    | inl k9 => exact absurd (show (some k9 : Option Nat) = none from he) (by simp)
    | inr z =>
      rcases hcd with ⟨h9, rfl⟩ | ⟨k8, h8, h9, rfl⟩ | ⟨k8, h8, h9, rfl⟩
      · replace hP := fl_P_perm (List.perm_append_singleton _ _) hP
        replace hD := fl_D_perm (List.perm_append_singleton _ _) hD
        refine lv_i2l (v := (z.1).toInt64) hx hb dL_undo_6 rfl ?_
        refine va_last hx hb hK.1 hP hD hS 0 2 rfl rfl fl_in01 dL_undo_7 (fun H locs hP hD hS => ?_)
        refine lv_goto (tgt := 14) hx hb dL_undo_8 (by decide) ?_
        refine lv_iconst (v := (0 : Int32)) hx hb dL_undo_14 (by decide) ?_
        exact hret _ H locs _ _ _ ls ⟨w1, hw1, rfl⟩ hP hD hS dL_undo_15 (Nat.le_of_ble_eq_true rfl) (Nat.le_of_ble_eq_true rfl)
      · exact absurd (show (none : Option Nat) = some k8 from h9) (by simp)
      · exact absurd (show (none : Option Nat) = some k8 from h9) (by simp)
set_option maxHeartbeats 1000000 in
set_option maxRecDepth 100000 in
theorem c_L_saveA (l : Launch) (hfl : l.stackTraces = false) (G : fl_G) (sa : Nat → Nat) (sc tx0 pnh pns0 pns1 pns2 pno0 pno1 pno2 pno3 pno4 pno5 pnk pnb tl0 fh0 hi sl : Nat) (hf : Nat → Option Nat) (pn : fl_Ch) (p0 : Int32) (hq0 : hf p0.toNatClampNeg = none) {r : (Nat ⊕ (Int32 × fl_Sg))} (hp0 : P_SC_saveA pn p0 = some r) (ou : Nat) (uo : Nat → Int64) {cd : Int32} (hcd : fl_cd [3] (fl_ex r) cd) : fl_lw l yL_save wsL_save 7 111 3 104 G sa [.ref sc, .int p0, .ref ou] ((ou, .inl (G.2.2.2.1, 1, .inr (.inl uo))) :: [(sc, .inr (5, [.ref tx0, .ref pnh, .ref tl0, .ref fh0, .ref hi, .ref sl])), (pnh, .inr (0, [.ref pns0, .ref pno0, .ref pnk, .ref pnb])), (pns0, .inr (4, [.ref pns1, .ref pns2, .int pn.1.2.2.1, .int pn.1.2.2.2.1, .int pn.1.2.2.2.2.1, .int pn.1.2.2.2.2.2.1, .int pn.1.2.2.2.2.2.2.1, .int pn.1.2.2.2.2.2.2.2])), (pns1, .inl (G.2.1, 48, .inl pn.1.1)), (pns2, .inl (G.2.1, 48, .inl pn.1.2.1)), (pno0, .inr (3, [.int pn.2.1.1, .ref pno1, .ref pno2, .ref pno3, .ref pno4, .ref pno5])), (pno1, .inl (G.2.1, 48, .inl pn.2.1.2.1)), (pno2, .inl (G.2.1, 48, .inl pn.2.1.2.2.1)), (pno3, .inl (G.2.1, 48, .inl pn.2.1.2.2.2.1)), (pno4, .inl (G.2.1, 48, .inl pn.2.1.2.2.2.2.1)), (pno5, .inl (G.2.1, 49, .inl pn.2.1.2.2.2.2.2)), (pnk, .inl (G.2.1, 48, .inl pn.2.2.1)), (pnb, .inl (G.2.1, 48, .inl pn.2.2.2)), (sl, .inl (G.2.2.2.2, 2, .inr (.inr (.inr (.inr hf)))))]) cd (fun w => ∃ w1, (fun w => Sum.elim (fun _ => w = [(sc, .inr (5, [.ref tx0, .ref pnh, .ref tl0, .ref fh0, .ref hi, .ref sl])), (pnh, .inr (0, [.ref pns0, .ref pno0, .ref pnk, .ref pnb])), (pns0, .inr (4, [.ref pns1, .ref pns2, .int pn.1.2.2.1, .int pn.1.2.2.2.1, .int pn.1.2.2.2.2.1, .int pn.1.2.2.2.2.2.1, .int pn.1.2.2.2.2.2.2.1, .int pn.1.2.2.2.2.2.2.2])), (pns1, .inl (G.2.1, 48, .inl pn.1.1)), (pns2, .inl (G.2.1, 48, .inl pn.1.2.1)), (pno0, .inr (3, [.int pn.2.1.1, .ref pno1, .ref pno2, .ref pno3, .ref pno4, .ref pno5])), (pno1, .inl (G.2.1, 48, .inl pn.2.1.2.1)), (pno2, .inl (G.2.1, 48, .inl pn.2.1.2.2.1)), (pno3, .inl (G.2.1, 48, .inl pn.2.1.2.2.2.1)), (pno4, .inl (G.2.1, 48, .inl pn.2.1.2.2.2.2.1)), (pno5, .inl (G.2.1, 49, .inl pn.2.1.2.2.2.2.2)), (pnk, .inl (G.2.1, 48, .inl pn.2.2.1)), (pnb, .inl (G.2.1, 48, .inl pn.2.2.2)), (sl, .inl (G.2.2.2.2, 2, .inr (.inr (.inr (.inr hf)))))]) (fun z => ∃ n1 n2 n3 : Nat, w = [(sc, .inr (5, [.ref tx0, .ref pnh, .ref tl0, .ref fh0, .ref hi, .ref sl])), (pnh, .inr (0, [.ref pns0, .ref pno0, .ref pnk, .ref pnb])), (pns0, .inr (4, [.ref pns1, .ref pns2, .int pn.1.2.2.1, .int pn.1.2.2.2.1, .int pn.1.2.2.2.2.1, .int pn.1.2.2.2.2.2.1, .int pn.1.2.2.2.2.2.2.1, .int pn.1.2.2.2.2.2.2.2])), (pns1, .inl (G.2.1, 48, .inl pn.1.1)), (pns2, .inl (G.2.1, 48, .inl pn.1.2.1)), (pno0, .inr (3, [.int pn.2.1.1, .ref pno1, .ref pno2, .ref pno3, .ref pno4, .ref pno5])), (pno1, .inl (G.2.1, 48, .inl pn.2.1.2.1)), (pno2, .inl (G.2.1, 48, .inl pn.2.1.2.2.1)), (pno3, .inl (G.2.1, 48, .inl pn.2.1.2.2.2.1)), (pno4, .inl (G.2.1, 48, .inl pn.2.1.2.2.2.2.1)), (pno5, .inl (G.2.1, 49, .inl pn.2.1.2.2.2.2.2)), (pnk, .inl (G.2.1, 48, .inl pn.2.2.1)), (pnb, .inl (G.2.1, 48, .inl pn.2.2.2)), (sl, .inl (G.2.2.2.2, 2, .inr (.inr (.inr (.inr (va_up hf p0.toNatClampNeg (some n1))))))), (n1, .inr (4, [.ref n2, .ref n3, .int z.2.2.2.1, .int z.2.2.2.2.1, .int z.2.2.2.2.2.1, .int z.2.2.2.2.2.2.1, .int z.2.2.2.2.2.2.2.1, .int z.2.2.2.2.2.2.2.2])), (n2, .inl (G.2.1, 48, .inl z.2.1)), (n3, .inl (G.2.1, 48, .inl z.2.2.1))]) r) w1 ∧ w = (ou, .inl (G.2.2.2.1, 1, .inr (.inl (Sum.elim (fun _ => uo) (fun z => vp_updL uo (0 : Int32).toNatClampNeg (z.1).toInt64) r)))) :: w1) := by
  refine fl_lw_in cL_save 4 [(0, 9, 12, 24)] (by decide) rfl rfl (Nat.le_of_ble_eq_true rfl) ?_
  intro p e s m args below meth c ls A Q H locs C0 htab hK hE hZ hP hD hS hA hl hret
  obtain ⟨hx, hb, hml, hown, hts⟩ := id C0
  have hl : lv_has ls 4 [(0, .ref sc), (1, .int p0), (2, .ref ou)] := hl
  refine lv_aload_n hx hb dL_save_0 rfl (lv_at hl 2 rfl) ?_
  refine lv_iconst (v := (0 : Int32)) hx hb dL_save_1 (by decide) ?_
  refine lv_aload_n hx hb dL_save_2 rfl (lv_at hl 0 rfl) ?_
  refine lv_iload_n hx hb dL_save_3 rfl (lv_at hl 1 rfl) ?_
  refine fl_xmV (As := [.int p0]) (rest := [.int 0, .ref ou]) (wr := [(ou, .inl (G.2.2.2.1, 1, .inr (.inl uo)))]) C0 (c_SC_saveA l hfl G sa sc tx0 pnh pns0 pns1 pns2 pno0 pno1 pno2 pno3 pno4 pno5 pnk pnb tl0 fh0 hi sl hf pn p0 hq0 hp0) (cwV 1 hts gL_save_X5_save rfl rfl rfl (by decide +kernel) ⟨Nat.le_of_ble_eq_true rfl, Nat.le_of_ble_eq_true rfl⟩) hK hE hZ (fl_P_perm (List.perm_append_singleton _ _).symm hP) (fl_D_perm (List.perm_append_singleton _ _).symm hD) 0 5 rfl rfl rfl hS hA rfl hl.1 rfl (Nat.le_of_ble_eq_true rfl) dL_save_4 ⟨Nat.le_of_ble_eq_true rfl, Nat.le_of_ble_eq_true rfl⟩ (fun k ce q9 H locs he hP hD hS hce hcv hcl => ?_) (fun w1 H locs he hw1 hP hD hS => ?_)
  · cases r with
    | inr z => exact absurd (show (none : Option Nat) = some k from he) (by simp)
    | inl k9 =>
      have he : (some k9 : Option Nat) = some k := he
      obtain rfl := Option.some.inj he
      rcases hcd with ⟨h9, rfl⟩ | ⟨k8, h8, h9, rfl⟩ | ⟨k8, h8, h9, rfl⟩
      · exact absurd (show (some k9 : Option Nat) = none from h9) (by simp)
      · obtain rfl := Option.some.inj (show some 3 = some k8 from h8)
        obtain rfl := Option.some.inj (show some k9 = some 3 from h9)
        refine vx_catch (name := "java/lang/IndexOutOfBoundsException") (E := fl_exn 3) hown [] ⟨0, 9, 12, 24⟩ [] (by rw [htab]; rfl) (fun z hz => absurd hz List.not_mem_nil) (by decide) (by decide) (hts (.classLink RL 24 "java/lang/IndexOutOfBoundsException") (by first | exact List.mem_of_getElem? (i := 1) rfl | decide +kernel)) (va_Nw.use rfl (hE.2.2.1 3 (Or.inr (Or.inr rfl)))) hce hcv hcl ?_
        refine lv_astore_n (lv' := [(3, .ref q9), (0, .ref sc), (1, .int p0), (2, .ref ou)]) hx hb dL_save_12 rfl hl (by decide) rfl (fun ls hl => ?_)
        refine lv_iconst (v := (1 : Int32)) hx hb dL_save_13 (by decide) ?_
        exact hret _ H locs _ _ _ ls ⟨_, rfl, rfl⟩ (fl_P_perm (List.perm_append_singleton _ _) hP) (fl_D_perm (List.perm_append_singleton _ _) hD) hS dL_save_14 (Nat.le_of_ble_eq_true rfl) (Nat.le_of_ble_eq_true rfl)
      · exact absurd (show (none : Option Nat) = some k8 from h8) (by simp)
  · cases r with
    | inl k9 => exact absurd (show (some k9 : Option Nat) = none from he) (by simp)
    | inr z =>
      rcases hcd with ⟨h9, rfl⟩ | ⟨k8, h8, h9, rfl⟩ | ⟨k8, h8, h9, rfl⟩
      · replace hP := fl_P_perm (List.perm_append_singleton _ _) hP
        replace hD := fl_D_perm (List.perm_append_singleton _ _) hD
        refine lv_i2l (v := (z.1).toInt64) hx hb dL_save_7 rfl ?_
        refine va_last hx hb hK.1 hP hD hS 0 2 rfl rfl fl_in01 dL_save_8 (fun H locs hP hD hS => ?_)
        refine lv_goto (tgt := 15) hx hb dL_save_9 (by decide) ?_
        refine lv_iconst (v := (0 : Int32)) hx hb dL_save_15 (by decide) ?_
        exact hret _ H locs _ _ _ ls ⟨w1, hw1, rfl⟩ hP hD hS dL_save_16 (Nat.le_of_ble_eq_true rfl) (Nat.le_of_ble_eq_true rfl)
      · exact absurd (show (none : Option Nat) = some k8 from h9) (by simp)
      · exact absurd (show (none : Option Nat) = some k8 from h9) (by simp)
set_option maxHeartbeats 1000000 in
set_option maxRecDepth 100000 in
theorem c_L_saveB (l : Launch) (hfl : l.stackTraces = false) (G : fl_G) (sa : Nat → Nat) (sc tx0 pnh pns0 pns1 pns2 pno0 pno1 pno2 pno3 pno4 pno5 pnk pnb tl0 fh0 hi sl tg0 tg1 tg2 : Nat) (hf : Nat → Option Nat) (pn : fl_Ch) (tg : fl_Sg) (p0 : Int32) (hq0 : hf p0.toNatClampNeg = some tg0) {r : (Nat ⊕ (Int32 × fl_Sg))} (hp0 : P_SC_saveB pn tg p0 = some r) (ou : Nat) (uo : Nat → Int64) {cd : Int32} (hcd : fl_cd [3] (fl_ex r) cd) : fl_lw l yL_save wsL_save 7 111 3 104 G sa [.ref sc, .int p0, .ref ou] ((ou, .inl (G.2.2.2.1, 1, .inr (.inl uo))) :: [(sc, .inr (5, [.ref tx0, .ref pnh, .ref tl0, .ref fh0, .ref hi, .ref sl])), (pnh, .inr (0, [.ref pns0, .ref pno0, .ref pnk, .ref pnb])), (pns0, .inr (4, [.ref pns1, .ref pns2, .int pn.1.2.2.1, .int pn.1.2.2.2.1, .int pn.1.2.2.2.2.1, .int pn.1.2.2.2.2.2.1, .int pn.1.2.2.2.2.2.2.1, .int pn.1.2.2.2.2.2.2.2])), (pns1, .inl (G.2.1, 48, .inl pn.1.1)), (pns2, .inl (G.2.1, 48, .inl pn.1.2.1)), (pno0, .inr (3, [.int pn.2.1.1, .ref pno1, .ref pno2, .ref pno3, .ref pno4, .ref pno5])), (pno1, .inl (G.2.1, 48, .inl pn.2.1.2.1)), (pno2, .inl (G.2.1, 48, .inl pn.2.1.2.2.1)), (pno3, .inl (G.2.1, 48, .inl pn.2.1.2.2.2.1)), (pno4, .inl (G.2.1, 48, .inl pn.2.1.2.2.2.2.1)), (pno5, .inl (G.2.1, 49, .inl pn.2.1.2.2.2.2.2)), (pnk, .inl (G.2.1, 48, .inl pn.2.2.1)), (pnb, .inl (G.2.1, 48, .inl pn.2.2.2)), (sl, .inl (G.2.2.2.2, 2, .inr (.inr (.inr (.inr hf))))), (tg0, .inr (4, [.ref tg1, .ref tg2, .int tg.2.2.1, .int tg.2.2.2.1, .int tg.2.2.2.2.1, .int tg.2.2.2.2.2.1, .int tg.2.2.2.2.2.2.1, .int tg.2.2.2.2.2.2.2])), (tg1, .inl (G.2.1, 48, .inl tg.1)), (tg2, .inl (G.2.1, 48, .inl tg.2.1))]) cd (fun w => ∃ w1, (fun w => Sum.elim (fun _ => w = [(sc, .inr (5, [.ref tx0, .ref pnh, .ref tl0, .ref fh0, .ref hi, .ref sl])), (pnh, .inr (0, [.ref pns0, .ref pno0, .ref pnk, .ref pnb])), (pns0, .inr (4, [.ref pns1, .ref pns2, .int pn.1.2.2.1, .int pn.1.2.2.2.1, .int pn.1.2.2.2.2.1, .int pn.1.2.2.2.2.2.1, .int pn.1.2.2.2.2.2.2.1, .int pn.1.2.2.2.2.2.2.2])), (pns1, .inl (G.2.1, 48, .inl pn.1.1)), (pns2, .inl (G.2.1, 48, .inl pn.1.2.1)), (pno0, .inr (3, [.int pn.2.1.1, .ref pno1, .ref pno2, .ref pno3, .ref pno4, .ref pno5])), (pno1, .inl (G.2.1, 48, .inl pn.2.1.2.1)), (pno2, .inl (G.2.1, 48, .inl pn.2.1.2.2.1)), (pno3, .inl (G.2.1, 48, .inl pn.2.1.2.2.2.1)), (pno4, .inl (G.2.1, 48, .inl pn.2.1.2.2.2.2.1)), (pno5, .inl (G.2.1, 49, .inl pn.2.1.2.2.2.2.2)), (pnk, .inl (G.2.1, 48, .inl pn.2.2.1)), (pnb, .inl (G.2.1, 48, .inl pn.2.2.2)), (sl, .inl (G.2.2.2.2, 2, .inr (.inr (.inr (.inr hf))))), (tg0, .inr (4, [.ref tg1, .ref tg2, .int tg.2.2.1, .int tg.2.2.2.1, .int tg.2.2.2.2.1, .int tg.2.2.2.2.2.1, .int tg.2.2.2.2.2.2.1, .int tg.2.2.2.2.2.2.2])), (tg1, .inl (G.2.1, 48, .inl tg.1)), (tg2, .inl (G.2.1, 48, .inl tg.2.1))]) (fun z => w = [(sc, .inr (5, [.ref tx0, .ref pnh, .ref tl0, .ref fh0, .ref hi, .ref sl])), (pnh, .inr (0, [.ref pns0, .ref pno0, .ref pnk, .ref pnb])), (pns0, .inr (4, [.ref pns1, .ref pns2, .int pn.1.2.2.1, .int pn.1.2.2.2.1, .int pn.1.2.2.2.2.1, .int pn.1.2.2.2.2.2.1, .int pn.1.2.2.2.2.2.2.1, .int pn.1.2.2.2.2.2.2.2])), (pns1, .inl (G.2.1, 48, .inl pn.1.1)), (pns2, .inl (G.2.1, 48, .inl pn.1.2.1)), (pno0, .inr (3, [.int pn.2.1.1, .ref pno1, .ref pno2, .ref pno3, .ref pno4, .ref pno5])), (pno1, .inl (G.2.1, 48, .inl pn.2.1.2.1)), (pno2, .inl (G.2.1, 48, .inl pn.2.1.2.2.1)), (pno3, .inl (G.2.1, 48, .inl pn.2.1.2.2.2.1)), (pno4, .inl (G.2.1, 48, .inl pn.2.1.2.2.2.2.1)), (pno5, .inl (G.2.1, 49, .inl pn.2.1.2.2.2.2.2)), (pnk, .inl (G.2.1, 48, .inl pn.2.2.1)), (pnb, .inl (G.2.1, 48, .inl pn.2.2.2)), (sl, .inl (G.2.2.2.2, 2, .inr (.inr (.inr (.inr hf))))), (tg0, .inr (4, [.ref tg1, .ref tg2, .int z.2.2.2.1, .int z.2.2.2.2.1, .int z.2.2.2.2.2.1, .int z.2.2.2.2.2.2.1, .int z.2.2.2.2.2.2.2.1, .int z.2.2.2.2.2.2.2.2])), (tg1, .inl (G.2.1, 48, .inl z.2.1)), (tg2, .inl (G.2.1, 48, .inl z.2.2.1))]) r) w1 ∧ w = (ou, .inl (G.2.2.2.1, 1, .inr (.inl (Sum.elim (fun _ => uo) (fun z => vp_updL uo (0 : Int32).toNatClampNeg (z.1).toInt64) r)))) :: w1) := by
  refine fl_lw_in cL_save 4 [(0, 9, 12, 24)] (by decide) rfl rfl (Nat.le_of_ble_eq_true rfl) ?_
  intro p e s m args below meth c ls A Q H locs C0 htab hK hE hZ hP hD hS hA hl hret
  obtain ⟨hx, hb, hml, hown, hts⟩ := id C0
  have hl : lv_has ls 4 [(0, .ref sc), (1, .int p0), (2, .ref ou)] := hl
  refine lv_aload_n hx hb dL_save_0 rfl (lv_at hl 2 rfl) ?_
  refine lv_iconst (v := (0 : Int32)) hx hb dL_save_1 (by decide) ?_
  refine lv_aload_n hx hb dL_save_2 rfl (lv_at hl 0 rfl) ?_
  refine lv_iload_n hx hb dL_save_3 rfl (lv_at hl 1 rfl) ?_
  refine fl_xmV (As := [.int p0]) (rest := [.int 0, .ref ou]) (wr := [(ou, .inl (G.2.2.2.1, 1, .inr (.inl uo)))]) C0 (c_SC_saveB l hfl G sa sc tx0 pnh pns0 pns1 pns2 pno0 pno1 pno2 pno3 pno4 pno5 pnk pnb tl0 fh0 hi sl tg0 tg1 tg2 hf pn tg p0 hq0 hp0) (cwV 1 hts gL_save_X5_save rfl rfl rfl (by decide +kernel) ⟨Nat.le_of_ble_eq_true rfl, Nat.le_of_ble_eq_true rfl⟩) hK hE hZ (fl_P_perm (List.perm_append_singleton _ _).symm hP) (fl_D_perm (List.perm_append_singleton _ _).symm hD) 0 5 rfl rfl rfl hS hA rfl hl.1 rfl (Nat.le_of_ble_eq_true rfl) dL_save_4 ⟨Nat.le_of_ble_eq_true rfl, Nat.le_of_ble_eq_true rfl⟩ (fun k ce q9 H locs he hP hD hS hce hcv hcl => ?_) (fun w1 H locs he hw1 hP hD hS => ?_)
  · cases r with
    | inr z => exact absurd (show (none : Option Nat) = some k from he) (by simp)
    | inl k9 =>
      have he : (some k9 : Option Nat) = some k := he
      obtain rfl := Option.some.inj he
      rcases hcd with ⟨h9, rfl⟩ | ⟨k8, h8, h9, rfl⟩ | ⟨k8, h8, h9, rfl⟩
      · exact absurd (show (some k9 : Option Nat) = none from h9) (by simp)
      · obtain rfl := Option.some.inj (show some 3 = some k8 from h8)
        obtain rfl := Option.some.inj (show some k9 = some 3 from h9)
        refine vx_catch (name := "java/lang/IndexOutOfBoundsException") (E := fl_exn 3) hown [] ⟨0, 9, 12, 24⟩ [] (by rw [htab]; rfl) (fun z hz => absurd hz List.not_mem_nil) (by decide) (by decide) (hts (.classLink RL 24 "java/lang/IndexOutOfBoundsException") (by first | exact List.mem_of_getElem? (i := 1) rfl | decide +kernel)) (va_Nw.use rfl (hE.2.2.1 3 (Or.inr (Or.inr rfl)))) hce hcv hcl ?_
        refine lv_astore_n (lv' := [(3, .ref q9), (0, .ref sc), (1, .int p0), (2, .ref ou)]) hx hb dL_save_12 rfl hl (by decide) rfl (fun ls hl => ?_)
        refine lv_iconst (v := (1 : Int32)) hx hb dL_save_13 (by decide) ?_
        exact hret _ H locs _ _ _ ls ⟨_, rfl, rfl⟩ (fl_P_perm (List.perm_append_singleton _ _) hP) (fl_D_perm (List.perm_append_singleton _ _) hD) hS dL_save_14 (Nat.le_of_ble_eq_true rfl) (Nat.le_of_ble_eq_true rfl)
      · exact absurd (show (none : Option Nat) = some k8 from h8) (by simp)
  · cases r with
    | inl k9 => exact absurd (show (some k9 : Option Nat) = none from he) (by simp)
    | inr z =>
      rcases hcd with ⟨h9, rfl⟩ | ⟨k8, h8, h9, rfl⟩ | ⟨k8, h8, h9, rfl⟩
      · replace hP := fl_P_perm (List.perm_append_singleton _ _) hP
        replace hD := fl_D_perm (List.perm_append_singleton _ _) hD
        refine lv_i2l (v := (z.1).toInt64) hx hb dL_save_7 rfl ?_
        refine va_last hx hb hK.1 hP hD hS 0 2 rfl rfl fl_in01 dL_save_8 (fun H locs hP hD hS => ?_)
        refine lv_goto (tgt := 15) hx hb dL_save_9 (by decide) ?_
        refine lv_iconst (v := (0 : Int32)) hx hb dL_save_15 (by decide) ?_
        exact hret _ H locs _ _ _ ls ⟨w1, hw1, rfl⟩ hP hD hS dL_save_16 (Nat.le_of_ble_eq_true rfl) (Nat.le_of_ble_eq_true rfl)
      · exact absurd (show (none : Option Nat) = some k8 from h9) (by simp)
      · exact absurd (show (none : Option Nat) = some k8 from h9) (by simp)
set_option maxHeartbeats 1000000 in
set_option maxRecDepth 100000 in
theorem c_L_restoreA (l : Launch) (hfl : l.stackTraces = false) (G : fl_G) (sa : Nat → Nat) (sc tx0 pnh pns0 pns1 pns2 pno0 pno1 pno2 pno3 pno4 pno5 pnk pnb tl0 fh0 hi sl h1 : Nat) (hf : Nat → Option Nat) (pn : fl_Ch) (ho : Int32) (hs : Int32) (p0 : Int32) (hq0 : hf p0.toNatClampNeg = none) {r : (Nat ⊕ Int32)} (hp0 : P_SC_restoreA p0 = some r) (ou : Nat) (uo : Nat → Int64) {cd : Int32} (hcd : fl_cd [3, 2] (fl_ex r) cd) : fl_lw l yL_restore wsL_restore 7 111 1 6 G sa [.ref sc, .int p0, .ref ou] ((ou, .inl (G.2.2.2.1, 1, .inr (.inl uo))) :: [(sc, .inr (5, [.ref tx0, .ref pnh, .ref tl0, .ref fh0, .ref hi, .ref sl])), (pnh, .inr (0, [.ref pns0, .ref pno0, .ref pnk, .ref pnb])), (pns0, .inr (4, [.ref pns1, .ref pns2, .int pn.1.2.2.1, .int pn.1.2.2.2.1, .int pn.1.2.2.2.2.1, .int pn.1.2.2.2.2.2.1, .int pn.1.2.2.2.2.2.2.1, .int pn.1.2.2.2.2.2.2.2])), (pns1, .inl (G.2.1, 48, .inl pn.1.1)), (pns2, .inl (G.2.1, 48, .inl pn.1.2.1)), (pno0, .inr (3, [.int pn.2.1.1, .ref pno1, .ref pno2, .ref pno3, .ref pno4, .ref pno5])), (pno1, .inl (G.2.1, 48, .inl pn.2.1.2.1)), (pno2, .inl (G.2.1, 48, .inl pn.2.1.2.2.1)), (pno3, .inl (G.2.1, 48, .inl pn.2.1.2.2.2.1)), (pno4, .inl (G.2.1, 48, .inl pn.2.1.2.2.2.2.1)), (pno5, .inl (G.2.1, 49, .inl pn.2.1.2.2.2.2.2)), (pnk, .inl (G.2.1, 48, .inl pn.2.2.1)), (pnb, .inl (G.2.1, 48, .inl pn.2.2.2)), (hi, .inr (1, [.ref h1, .int ho, .int hs])), (sl, .inl (G.2.2.2.2, 2, .inr (.inr (.inr (.inr hf)))))]) cd (fun w => ∃ w1, (fun w => Sum.elim (fun _ => w = [(sc, .inr (5, [.ref tx0, .ref pnh, .ref tl0, .ref fh0, .ref hi, .ref sl])), (pnh, .inr (0, [.ref pns0, .ref pno0, .ref pnk, .ref pnb])), (pns0, .inr (4, [.ref pns1, .ref pns2, .int pn.1.2.2.1, .int pn.1.2.2.2.1, .int pn.1.2.2.2.2.1, .int pn.1.2.2.2.2.2.1, .int pn.1.2.2.2.2.2.2.1, .int pn.1.2.2.2.2.2.2.2])), (pns1, .inl (G.2.1, 48, .inl pn.1.1)), (pns2, .inl (G.2.1, 48, .inl pn.1.2.1)), (pno0, .inr (3, [.int pn.2.1.1, .ref pno1, .ref pno2, .ref pno3, .ref pno4, .ref pno5])), (pno1, .inl (G.2.1, 48, .inl pn.2.1.2.1)), (pno2, .inl (G.2.1, 48, .inl pn.2.1.2.2.1)), (pno3, .inl (G.2.1, 48, .inl pn.2.1.2.2.2.1)), (pno4, .inl (G.2.1, 48, .inl pn.2.1.2.2.2.2.1)), (pno5, .inl (G.2.1, 49, .inl pn.2.1.2.2.2.2.2)), (pnk, .inl (G.2.1, 48, .inl pn.2.2.1)), (pnb, .inl (G.2.1, 48, .inl pn.2.2.2)), (hi, .inr (1, [.ref h1, .int ho, .int hs])), (sl, .inl (G.2.2.2.2, 2, .inr (.inr (.inr (.inr hf)))))]) (fun z => w = [(sc, .inr (5, [.ref tx0, .ref pnh, .ref tl0, .ref fh0, .ref hi, .ref sl])), (pnh, .inr (0, [.ref pns0, .ref pno0, .ref pnk, .ref pnb])), (pns0, .inr (4, [.ref pns1, .ref pns2, .int pn.1.2.2.1, .int pn.1.2.2.2.1, .int pn.1.2.2.2.2.1, .int pn.1.2.2.2.2.2.1, .int pn.1.2.2.2.2.2.2.1, .int pn.1.2.2.2.2.2.2.2])), (pns1, .inl (G.2.1, 48, .inl pn.1.1)), (pns2, .inl (G.2.1, 48, .inl pn.1.2.1)), (pno0, .inr (3, [.int pn.2.1.1, .ref pno1, .ref pno2, .ref pno3, .ref pno4, .ref pno5])), (pno1, .inl (G.2.1, 48, .inl pn.2.1.2.1)), (pno2, .inl (G.2.1, 48, .inl pn.2.1.2.2.1)), (pno3, .inl (G.2.1, 48, .inl pn.2.1.2.2.2.1)), (pno4, .inl (G.2.1, 48, .inl pn.2.1.2.2.2.2.1)), (pno5, .inl (G.2.1, 49, .inl pn.2.1.2.2.2.2.2)), (pnk, .inl (G.2.1, 48, .inl pn.2.2.1)), (pnb, .inl (G.2.1, 48, .inl pn.2.2.2)), (hi, .inr (1, [.ref h1, .int ho, .int hs])), (sl, .inl (G.2.2.2.2, 2, .inr (.inr (.inr (.inr hf)))))]) r) w1 ∧ w = (ou, .inl (G.2.2.2.1, 1, .inr (.inl (Sum.elim (fun _ => uo) (fun z => vp_updL uo (0 : Int32).toNatClampNeg (z).toInt64) r)))) :: w1) := by
  refine fl_lw_in cL_restore 4 [(0, 9, 12, 24), (0, 9, 15, 15)] (by decide) rfl rfl (Nat.le_of_ble_eq_true rfl) ?_
  intro p e s m args below meth c ls A Q H locs C0 htab hK hE hZ hP hD hS hA hl hret
  obtain ⟨hx, hb, hml, hown, hts⟩ := id C0
  have hl : lv_has ls 4 [(0, .ref sc), (1, .int p0), (2, .ref ou)] := hl
  refine lv_aload_n hx hb dL_restore_0 rfl (lv_at hl 2 rfl) ?_
  refine lv_iconst (v := (0 : Int32)) hx hb dL_restore_1 (by decide) ?_
  refine lv_aload_n hx hb dL_restore_2 rfl (lv_at hl 0 rfl) ?_
  refine lv_iload_n hx hb dL_restore_3 rfl (lv_at hl 1 rfl) ?_
  refine fl_xmV (As := [.int p0]) (rest := [.int 0, .ref ou]) (wr := [(ou, .inl (G.2.2.2.1, 1, .inr (.inl uo)))]) C0 (c_SC_restoreA l hfl G sa sc tx0 pnh pns0 pns1 pns2 pno0 pno1 pno2 pno3 pno4 pno5 pnk pnb tl0 fh0 hi sl h1 hf pn ho hs p0 hq0 hp0) (cwV 1 hts gL_restore_X5_restore rfl rfl rfl (by decide +kernel) ⟨Nat.le_of_ble_eq_true rfl, Nat.le_of_ble_eq_true rfl⟩) hK hE hZ (fl_P_perm (List.perm_append_singleton _ _).symm hP) (fl_D_perm (List.perm_append_singleton _ _).symm hD) 0 5 rfl rfl rfl hS hA rfl hl.1 rfl (Nat.le_of_ble_eq_true rfl) dL_restore_4 ⟨Nat.le_of_ble_eq_true rfl, Nat.le_of_ble_eq_true rfl⟩ (fun k ce q9 H locs he hP hD hS hce hcv hcl => ?_) (fun w1 H locs he hw1 hP hD hS => ?_)
  · cases r with
    | inr z => exact absurd (show (none : Option Nat) = some k from he) (by simp)
    | inl k9 =>
      have he : (some k9 : Option Nat) = some k := he
      obtain rfl := Option.some.inj he
      rcases hcd with ⟨h9, rfl⟩ | ⟨k8, h8, h9, rfl⟩ | ⟨k8, h8, h9, rfl⟩
      · exact absurd (show (some k9 : Option Nat) = none from h9) (by simp)
      · obtain rfl := Option.some.inj (show some 3 = some k8 from h8)
        obtain rfl := Option.some.inj (show some k9 = some 3 from h9)
        refine vx_catch (name := "java/lang/IndexOutOfBoundsException") (E := fl_exn 3) hown [] ⟨0, 9, 12, 24⟩ [⟨0, 9, 15, 15⟩] (by rw [htab]; rfl) (fun z hz => absurd hz List.not_mem_nil) (by decide) (by decide) (hts (.classLink RL 24 "java/lang/IndexOutOfBoundsException") (by first | exact List.mem_of_getElem? (i := 1) rfl | decide +kernel)) (va_Nw.use rfl (hE.2.2.1 3 (Or.inr (Or.inr rfl)))) hce hcv hcl ?_
        refine lv_astore_n (lv' := [(3, .ref q9), (0, .ref sc), (1, .int p0), (2, .ref ou)]) hx hb dL_restore_12 rfl hl (by decide) rfl (fun ls hl => ?_)
        refine lv_iconst (v := (1 : Int32)) hx hb dL_restore_13 (by decide) ?_
        exact hret _ H locs _ _ _ ls ⟨_, rfl, rfl⟩ (fl_P_perm (List.perm_append_singleton _ _) hP) (fl_D_perm (List.perm_append_singleton _ _) hD) hS dL_restore_14 (Nat.le_of_ble_eq_true rfl) (Nat.le_of_ble_eq_true rfl)
      · obtain rfl := Option.some.inj (show some 2 = some k8 from h8)
        obtain rfl := Option.some.inj (show some k9 = some 2 from h9)
        refine vx_catch (name := "java/lang/IllegalStateException") (E := fl_exn 2) hown [⟨0, 9, 12, 24⟩] ⟨0, 9, 15, 15⟩ [] (by rw [htab]; rfl) (fun z hz => by obtain rfl := List.mem_singleton.mp hz; exact Or.inr ⟨by decide, "java/lang/IndexOutOfBoundsException", hts (.classLink RL 24 "java/lang/IndexOutOfBoundsException") (by first | exact List.mem_of_getElem? (i := 1) rfl | decide +kernel), hE.2.2.2.2.2⟩) (by decide) (by decide) (hts (.classLink RL 15 "java/lang/IllegalStateException") (by first | exact List.mem_of_getElem? (i := 2) rfl | decide +kernel)) (va_Nw.use rfl (hE.2.2.1 2 (Or.inr (Or.inl rfl)))) hce hcv hcl ?_
        refine lv_astore_n (lv' := [(3, .ref q9), (0, .ref sc), (1, .int p0), (2, .ref ou)]) hx hb dL_restore_15 rfl hl (by decide) rfl (fun ls hl => ?_)
        refine lv_iconst (v := (2 : Int32)) hx hb dL_restore_16 (by decide) ?_
        exact hret _ H locs _ _ _ ls ⟨_, rfl, rfl⟩ (fl_P_perm (List.perm_append_singleton _ _) hP) (fl_D_perm (List.perm_append_singleton _ _) hD) hS dL_restore_17 (Nat.le_of_ble_eq_true rfl) (Nat.le_of_ble_eq_true rfl)
  · cases r with
    | inl k9 => exact absurd (show (some k9 : Option Nat) = none from he) (by simp)
    | inr z =>
      rcases hcd with ⟨h9, rfl⟩ | ⟨k8, h8, h9, rfl⟩ | ⟨k8, h8, h9, rfl⟩
      · replace hP := fl_P_perm (List.perm_append_singleton _ _) hP
        replace hD := fl_D_perm (List.perm_append_singleton _ _) hD
        refine lv_i2l (v := (z).toInt64) hx hb dL_restore_7 rfl ?_
        refine va_last hx hb hK.1 hP hD hS 0 2 rfl rfl fl_in01 dL_restore_8 (fun H locs hP hD hS => ?_)
        refine lv_goto (tgt := 18) hx hb dL_restore_9 (by decide) ?_
        refine lv_iconst (v := (0 : Int32)) hx hb dL_restore_18 (by decide) ?_
        exact hret _ H locs _ _ _ ls ⟨w1, hw1, rfl⟩ hP hD hS dL_restore_19 (Nat.le_of_ble_eq_true rfl) (Nat.le_of_ble_eq_true rfl)
      · exact absurd (show (none : Option Nat) = some k8 from h9) (by simp)
      · exact absurd (show (none : Option Nat) = some k8 from h9) (by simp)
set_option maxHeartbeats 1000000 in
set_option maxRecDepth 100000 in
theorem c_L_restoreB (l : Launch) (hfl : l.stackTraces = false) (G : fl_G) (sa : Nat → Nat) (sc tx0 pnh pns0 pns1 pns2 pno0 pno1 pno2 pno3 pno4 pno5 pnk pnb tl0 fh0 hi sl h1 tg0 tg1 tg2 : Nat) (hf : Nat → Option Nat) (ho : Int32) (pn : fl_Ch) (hs : Int32) (tg : fl_Sg) (p0 : Int32) (hq0 : hf p0.toNatClampNeg = some tg0) {r : (Nat ⊕ (Int32 × fl_Ch × Int32))} (hp0 : P_SC_restoreB pn hs tg p0 = some r) (ou : Nat) (uo : Nat → Int64) {cd : Int32} (hcd : fl_cd [3, 2] (fl_ex r) cd) : fl_lw l yL_restore wsL_restore 7 111 1 6 G sa [.ref sc, .int p0, .ref ou] ((ou, .inl (G.2.2.2.1, 1, .inr (.inl uo))) :: [(sc, .inr (5, [.ref tx0, .ref pnh, .ref tl0, .ref fh0, .ref hi, .ref sl])), (pnh, .inr (0, [.ref pns0, .ref pno0, .ref pnk, .ref pnb])), (pns0, .inr (4, [.ref pns1, .ref pns2, .int pn.1.2.2.1, .int pn.1.2.2.2.1, .int pn.1.2.2.2.2.1, .int pn.1.2.2.2.2.2.1, .int pn.1.2.2.2.2.2.2.1, .int pn.1.2.2.2.2.2.2.2])), (pns1, .inl (G.2.1, 48, .inl pn.1.1)), (pns2, .inl (G.2.1, 48, .inl pn.1.2.1)), (pno0, .inr (3, [.int pn.2.1.1, .ref pno1, .ref pno2, .ref pno3, .ref pno4, .ref pno5])), (pno1, .inl (G.2.1, 48, .inl pn.2.1.2.1)), (pno2, .inl (G.2.1, 48, .inl pn.2.1.2.2.1)), (pno3, .inl (G.2.1, 48, .inl pn.2.1.2.2.2.1)), (pno4, .inl (G.2.1, 48, .inl pn.2.1.2.2.2.2.1)), (pno5, .inl (G.2.1, 49, .inl pn.2.1.2.2.2.2.2)), (pnk, .inl (G.2.1, 48, .inl pn.2.2.1)), (pnb, .inl (G.2.1, 48, .inl pn.2.2.2)), (hi, .inr (1, [.ref h1, .int ho, .int hs])), (sl, .inl (G.2.2.2.2, 2, .inr (.inr (.inr (.inr hf))))), (tg0, .inr (4, [.ref tg1, .ref tg2, .int tg.2.2.1, .int tg.2.2.2.1, .int tg.2.2.2.2.1, .int tg.2.2.2.2.2.1, .int tg.2.2.2.2.2.2.1, .int tg.2.2.2.2.2.2.2])), (tg1, .inl (G.2.1, 48, .inl tg.1)), (tg2, .inl (G.2.1, 48, .inl tg.2.1))]) cd (fun w => ∃ w1, (fun w => Sum.elim (fun _ => w = [(sc, .inr (5, [.ref tx0, .ref pnh, .ref tl0, .ref fh0, .ref hi, .ref sl])), (pnh, .inr (0, [.ref pns0, .ref pno0, .ref pnk, .ref pnb])), (pns0, .inr (4, [.ref pns1, .ref pns2, .int pn.1.2.2.1, .int pn.1.2.2.2.1, .int pn.1.2.2.2.2.1, .int pn.1.2.2.2.2.2.1, .int pn.1.2.2.2.2.2.2.1, .int pn.1.2.2.2.2.2.2.2])), (pns1, .inl (G.2.1, 48, .inl pn.1.1)), (pns2, .inl (G.2.1, 48, .inl pn.1.2.1)), (pno0, .inr (3, [.int pn.2.1.1, .ref pno1, .ref pno2, .ref pno3, .ref pno4, .ref pno5])), (pno1, .inl (G.2.1, 48, .inl pn.2.1.2.1)), (pno2, .inl (G.2.1, 48, .inl pn.2.1.2.2.1)), (pno3, .inl (G.2.1, 48, .inl pn.2.1.2.2.2.1)), (pno4, .inl (G.2.1, 48, .inl pn.2.1.2.2.2.2.1)), (pno5, .inl (G.2.1, 49, .inl pn.2.1.2.2.2.2.2)), (pnk, .inl (G.2.1, 48, .inl pn.2.2.1)), (pnb, .inl (G.2.1, 48, .inl pn.2.2.2)), (hi, .inr (1, [.ref h1, .int ho, .int hs])), (sl, .inl (G.2.2.2.2, 2, .inr (.inr (.inr (.inr hf))))), (tg0, .inr (4, [.ref tg1, .ref tg2, .int tg.2.2.1, .int tg.2.2.2.1, .int tg.2.2.2.2.1, .int tg.2.2.2.2.2.1, .int tg.2.2.2.2.2.2.1, .int tg.2.2.2.2.2.2.2])), (tg1, .inl (G.2.1, 48, .inl tg.1)), (tg2, .inl (G.2.1, 48, .inl tg.2.1))]) (fun z => w = [(sc, .inr (5, [.ref tx0, .ref pnh, .ref tl0, .ref fh0, .ref hi, .ref sl])), (pnh, .inr (0, [.ref pns0, .ref pno0, .ref pnk, .ref pnb])), (pns0, .inr (4, [.ref pns1, .ref pns2, .int z.2.1.1.2.2.1, .int z.2.1.1.2.2.2.1, .int z.2.1.1.2.2.2.2.1, .int z.2.1.1.2.2.2.2.2.1, .int z.2.1.1.2.2.2.2.2.2.1, .int z.2.1.1.2.2.2.2.2.2.2])), (pns1, .inl (G.2.1, 48, .inl z.2.1.1.1)), (pns2, .inl (G.2.1, 48, .inl z.2.1.1.2.1)), (pno0, .inr (3, [.int z.2.1.2.1.1, .ref pno1, .ref pno2, .ref pno3, .ref pno4, .ref pno5])), (pno1, .inl (G.2.1, 48, .inl z.2.1.2.1.2.1)), (pno2, .inl (G.2.1, 48, .inl z.2.1.2.1.2.2.1)), (pno3, .inl (G.2.1, 48, .inl z.2.1.2.1.2.2.2.1)), (pno4, .inl (G.2.1, 48, .inl z.2.1.2.1.2.2.2.2.1)), (pno5, .inl (G.2.1, 49, .inl z.2.1.2.1.2.2.2.2.2)), (pnk, .inl (G.2.1, 48, .inl z.2.1.2.2.1)), (pnb, .inl (G.2.1, 48, .inl z.2.1.2.2.2)), (hi, .inr (1, [.ref h1, .int ho, .int z.2.2])), (sl, .inl (G.2.2.2.2, 2, .inr (.inr (.inr (.inr hf))))), (tg0, .inr (4, [.ref tg1, .ref tg2, .int tg.2.2.1, .int tg.2.2.2.1, .int tg.2.2.2.2.1, .int tg.2.2.2.2.2.1, .int tg.2.2.2.2.2.2.1, .int tg.2.2.2.2.2.2.2])), (tg1, .inl (G.2.1, 48, .inl tg.1)), (tg2, .inl (G.2.1, 48, .inl tg.2.1))]) r) w1 ∧ w = (ou, .inl (G.2.2.2.1, 1, .inr (.inl (Sum.elim (fun _ => uo) (fun z => vp_updL uo (0 : Int32).toNatClampNeg (z.1).toInt64) r)))) :: w1) := by
  refine fl_lw_in cL_restore 4 [(0, 9, 12, 24), (0, 9, 15, 15)] (by decide) rfl rfl (Nat.le_of_ble_eq_true rfl) ?_
  intro p e s m args below meth c ls A Q H locs C0 htab hK hE hZ hP hD hS hA hl hret
  obtain ⟨hx, hb, hml, hown, hts⟩ := id C0
  have hl : lv_has ls 4 [(0, .ref sc), (1, .int p0), (2, .ref ou)] := hl
  refine lv_aload_n hx hb dL_restore_0 rfl (lv_at hl 2 rfl) ?_
  refine lv_iconst (v := (0 : Int32)) hx hb dL_restore_1 (by decide) ?_
  refine lv_aload_n hx hb dL_restore_2 rfl (lv_at hl 0 rfl) ?_
  refine lv_iload_n hx hb dL_restore_3 rfl (lv_at hl 1 rfl) ?_
  refine fl_xmV (As := [.int p0]) (rest := [.int 0, .ref ou]) (wr := [(ou, .inl (G.2.2.2.1, 1, .inr (.inl uo)))]) C0 (c_SC_restoreB l hfl G sa sc tx0 pnh pns0 pns1 pns2 pno0 pno1 pno2 pno3 pno4 pno5 pnk pnb tl0 fh0 hi sl h1 tg0 tg1 tg2 hf ho pn hs tg p0 hq0 hp0) (cwV 1 hts gL_restore_X5_restore rfl rfl rfl (by decide +kernel) ⟨Nat.le_of_ble_eq_true rfl, Nat.le_of_ble_eq_true rfl⟩) hK hE hZ (fl_P_perm (List.perm_append_singleton _ _).symm hP) (fl_D_perm (List.perm_append_singleton _ _).symm hD) 0 5 rfl rfl rfl hS hA rfl hl.1 rfl (Nat.le_of_ble_eq_true rfl) dL_restore_4 ⟨Nat.le_of_ble_eq_true rfl, Nat.le_of_ble_eq_true rfl⟩ (fun k ce q9 H locs he hP hD hS hce hcv hcl => ?_) (fun w1 H locs he hw1 hP hD hS => ?_)
  · cases r with
    | inr z => exact absurd (show (none : Option Nat) = some k from he) (by simp)
    | inl k9 =>
      have he : (some k9 : Option Nat) = some k := he
      obtain rfl := Option.some.inj he
      rcases hcd with ⟨h9, rfl⟩ | ⟨k8, h8, h9, rfl⟩ | ⟨k8, h8, h9, rfl⟩
      · exact absurd (show (some k9 : Option Nat) = none from h9) (by simp)
      · obtain rfl := Option.some.inj (show some 3 = some k8 from h8)
        obtain rfl := Option.some.inj (show some k9 = some 3 from h9)
        refine vx_catch (name := "java/lang/IndexOutOfBoundsException") (E := fl_exn 3) hown [] ⟨0, 9, 12, 24⟩ [⟨0, 9, 15, 15⟩] (by rw [htab]; rfl) (fun z hz => absurd hz List.not_mem_nil) (by decide) (by decide) (hts (.classLink RL 24 "java/lang/IndexOutOfBoundsException") (by first | exact List.mem_of_getElem? (i := 1) rfl | decide +kernel)) (va_Nw.use rfl (hE.2.2.1 3 (Or.inr (Or.inr rfl)))) hce hcv hcl ?_
        refine lv_astore_n (lv' := [(3, .ref q9), (0, .ref sc), (1, .int p0), (2, .ref ou)]) hx hb dL_restore_12 rfl hl (by decide) rfl (fun ls hl => ?_)
        refine lv_iconst (v := (1 : Int32)) hx hb dL_restore_13 (by decide) ?_
        exact hret _ H locs _ _ _ ls ⟨_, rfl, rfl⟩ (fl_P_perm (List.perm_append_singleton _ _) hP) (fl_D_perm (List.perm_append_singleton _ _) hD) hS dL_restore_14 (Nat.le_of_ble_eq_true rfl) (Nat.le_of_ble_eq_true rfl)
      · obtain rfl := Option.some.inj (show some 2 = some k8 from h8)
        obtain rfl := Option.some.inj (show some k9 = some 2 from h9)
        refine vx_catch (name := "java/lang/IllegalStateException") (E := fl_exn 2) hown [⟨0, 9, 12, 24⟩] ⟨0, 9, 15, 15⟩ [] (by rw [htab]; rfl) (fun z hz => by obtain rfl := List.mem_singleton.mp hz; exact Or.inr ⟨by decide, "java/lang/IndexOutOfBoundsException", hts (.classLink RL 24 "java/lang/IndexOutOfBoundsException") (by first | exact List.mem_of_getElem? (i := 1) rfl | decide +kernel), hE.2.2.2.2.2⟩) (by decide) (by decide) (hts (.classLink RL 15 "java/lang/IllegalStateException") (by first | exact List.mem_of_getElem? (i := 2) rfl | decide +kernel)) (va_Nw.use rfl (hE.2.2.1 2 (Or.inr (Or.inl rfl)))) hce hcv hcl ?_
        refine lv_astore_n (lv' := [(3, .ref q9), (0, .ref sc), (1, .int p0), (2, .ref ou)]) hx hb dL_restore_15 rfl hl (by decide) rfl (fun ls hl => ?_)
        refine lv_iconst (v := (2 : Int32)) hx hb dL_restore_16 (by decide) ?_
        exact hret _ H locs _ _ _ ls ⟨_, rfl, rfl⟩ (fl_P_perm (List.perm_append_singleton _ _) hP) (fl_D_perm (List.perm_append_singleton _ _) hD) hS dL_restore_17 (Nat.le_of_ble_eq_true rfl) (Nat.le_of_ble_eq_true rfl)
  · cases r with
    | inl k9 => exact absurd (show (some k9 : Option Nat) = none from he) (by simp)
    | inr z =>
      rcases hcd with ⟨h9, rfl⟩ | ⟨k8, h8, h9, rfl⟩ | ⟨k8, h8, h9, rfl⟩
      · replace hP := fl_P_perm (List.perm_append_singleton _ _) hP
        replace hD := fl_D_perm (List.perm_append_singleton _ _) hD
        refine lv_i2l (v := (z.1).toInt64) hx hb dL_restore_7 rfl ?_
        refine va_last hx hb hK.1 hP hD hS 0 2 rfl rfl fl_in01 dL_restore_8 (fun H locs hP hD hS => ?_)
        refine lv_goto (tgt := 18) hx hb dL_restore_9 (by decide) ?_
        refine lv_iconst (v := (0 : Int32)) hx hb dL_restore_18 (by decide) ?_
        exact hret _ H locs _ _ _ ls ⟨w1, hw1, rfl⟩ hP hD hS dL_restore_19 (Nat.le_of_ble_eq_true rfl) (Nat.le_of_ble_eq_true rfl)
      · exact absurd (show (none : Option Nat) = some k8 from h9) (by simp)
      · exact absurd (show (none : Option Nat) = some k8 from h9) (by simp)
