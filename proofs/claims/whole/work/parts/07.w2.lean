noncomputable def P_Or_compareWithLater_J144 (o : fl_Or) (f : fl_A) (p1 : Int32) (v3 : Int32) (v4 : Int32) (k0 : Int32) : Option ((Int32 × fl_Or) ⊕ fl_Or) := fl_ck k0 48 (fl_ck k0 48 (fl_ck k0 48 (fl_ck k0 48 (some (.inl ((v3 + (1 : Int32)), (o.1, (upd o.2.1 k0.toNatClampNeg ((o.2.1 k0.toNatClampNeg) + (1 : Int32))), o.2.2.1, (upd o.2.2.2.1 k0.toNatClampNeg (fl_mx (o.2.2.2.1 k0.toNatClampNeg) v4)), o.2.2.2.2.1, o.2.2.2.2.2)))))))
noncomputable def P_Or_compareWithLater_J132 (o : fl_Or) (f : fl_A) (p1 : Int32) (v3 : Int32) (v4 : Int32) (k0 : Int32) : Option ((Int32 × fl_Or) ⊕ fl_Or) := if k0 = 0 then P_Or_compareWithLater_J144 o f p1 v3 v4 v3 else P_Or_compareWithLater_J144 o f p1 v3 v4 p1
noncomputable def P_Or_compareWithLater_J127 (o : fl_Or) (f : fl_A) (p1 : Int32) (v3 : Int32) (v4 : Int32) : Option ((Int32 × fl_Or) ⊕ fl_Or) := P_Or_compareWithLater_J132 o f p1 v3 v4 (1 : Int32)
noncomputable def P_Or_compareWithLater_J57 (o : fl_Or) (f : fl_A) (p1 : Int32) (v3 : Int32) (k0 : Int32) : Option ((Int32 × fl_Or) ⊕ fl_Or) := fl_ck v3 49 (fl_ck p1 48 (fl_ck p1 48 (fl_ck v3 48 (fl_ck v3 48 (if o.1 ≤ (v3 + k0) then P_Or_compareWithLater_J127 (o.1, o.2.1, o.2.2.1, o.2.2.2.1, (upd (upd o.2.2.2.2.1 p1.toNatClampNeg (fl_mx (o.2.2.2.2.1 p1.toNatClampNeg) k0)) v3.toNatClampNeg (fl_mx ((upd o.2.2.2.2.1 p1.toNatClampNeg (fl_mx (o.2.2.2.2.1 p1.toNatClampNeg) k0)) v3.toNatClampNeg) k0)), (upd o.2.2.2.2.2 v3.toNatClampNeg k0)) f p1 v3 k0 else fl_ck (v3 + k0) 48 (fl_ck (p1 + k0) 48 (if (f (p1 + k0).toNatClampNeg) ≤ (f (v3 + k0).toNatClampNeg) then P_Or_compareWithLater_J132 (o.1, o.2.1, o.2.2.1, o.2.2.2.1, (upd (upd o.2.2.2.2.1 p1.toNatClampNeg (fl_mx (o.2.2.2.2.1 p1.toNatClampNeg) k0)) v3.toNatClampNeg (fl_mx ((upd o.2.2.2.2.1 p1.toNatClampNeg (fl_mx (o.2.2.2.2.1 p1.toNatClampNeg) k0)) v3.toNatClampNeg) k0)), (upd o.2.2.2.2.2 v3.toNatClampNeg k0)) f p1 v3 k0 (0 : Int32) else P_Or_compareWithLater_J127 (o.1, o.2.1, o.2.2.1, o.2.2.2.1, (upd (upd o.2.2.2.2.1 p1.toNatClampNeg (fl_mx (o.2.2.2.2.1 p1.toNatClampNeg) k0)) v3.toNatClampNeg (fl_mx ((upd o.2.2.2.2.1 p1.toNatClampNeg (fl_mx (o.2.2.2.2.1 p1.toNatClampNeg) k0)) v3.toNatClampNeg) k0)), (upd o.2.2.2.2.2 v3.toNatClampNeg k0)) f p1 v3 k0)))))))
noncomputable def P_Or_compareWithLater_L26 (f : fl_A) (p1 : Int32) (z26 : (Int32 × fl_Or)) : Option ((Int32 × fl_Or) ⊕ fl_Or) := if z26.2.1 ≤ z26.1 then some (.inr z26.2) else fl_ck p1 48 (fl_ck z26.1 48 (if (f p1.toNatClampNeg) = (f z26.1.toNatClampNeg) then fl_ck (z26.1 + (1 : Int32)) 49 (P_Or_compareWithLater_J57 z26.2 f p1 z26.1 ((z26.2.2.2.2.2.2 (z26.1 + (1 : Int32)).toNatClampNeg) + (1 : Int32))) else P_Or_compareWithLater_J57 z26.2 f p1 z26.1 (0 : Int32)))
noncomputable def P_Or_compareWithLater (o : fl_Or) (f : fl_A) (p1 : Int32) : Option fl_Or := if p1 < 0 then some o else if o.1 ≤ p1 then some o else if o.1 ≤ (nI 48) then fl_loop (P_Or_compareWithLater_L26 f p1) ((p1 + (1 : Int32)), o) else some o
set_option maxHeartbeats 4000000 in
set_option maxRecDepth 100000 in
theorem c_Or_compareWithLater (l : Launch) (G : fl_G) (o0 o1 o2 o3 o4 o5 f0 : Nat) (o : fl_Or) (f : fl_A) (p1 : Int32) {r : fl_Or} (hp0 : P_Or_compareWithLater o f p1 = some r) : fl_mu l yX3_compareWithLater wsX3_compareWithLater 1 21 G [.ref o0, .ref f0, .int p1] [(o0, .inr (3, [.int o.1, .ref o1, .ref o2, .ref o3, .ref o4, .ref o5])), (o1, .inl (G.2.1, 48, .inl o.2.1)), (o2, .inl (G.2.1, 48, .inl o.2.2.1)), (o3, .inl (G.2.1, 48, .inl o.2.2.2.1)), (o4, .inl (G.2.1, 48, .inl o.2.2.2.2.1)), (o5, .inl (G.2.1, 49, .inl o.2.2.2.2.2)), (f0, .inl (G.2.1, 48, .inl f))] none [(o0, .inr (3, [.int r.1, .ref o1, .ref o2, .ref o3, .ref o4, .ref o5])), (o1, .inl (G.2.1, 48, .inl r.2.1)), (o2, .inl (G.2.1, 48, .inl r.2.2.1)), (o3, .inl (G.2.1, 48, .inl r.2.2.2.1)), (o4, .inl (G.2.1, 48, .inl r.2.2.2.2.1)), (o5, .inl (G.2.1, 49, .inl r.2.2.2.2.2)), (f0, .inl (G.2.1, 48, .inl f))] := by
  refine fl_muv_in cX3_compareWithLater 7 RX3 (by decide) rfl rfl (Nat.le_of_ble_eq_true rfl) ?_
  intro p e s m args below meth c ls A Q H locs C0 hK hP hD hS hA hl hfin
  obtain ⟨hx, hb, hml, hown, hts⟩ := id C0
  have iX3 : ∀ w ∈ u_ws RX3 TX3 6, w ∈ wsX3_compareWithLater := fun _ h => List.mem_cons_of_mem _ (List.mem_append_right _ h)
  have hl : lv_has ls 7 [(0, .ref o0), (1, .ref f0), (2, .int p1)] := hl
  have KL26 : ∀ (n0 : Nat) (z26 : (Int32 × fl_Or)) (H : Heap) (locs : List Loc), va_P G.1 vwCl [(o0, .inr (3, [.int z26.2.1, .ref o1, .ref o2, .ref o3, .ref o4, .ref o5])), (o1, .inl (G.2.1, 48, .inl z26.2.2.1)), (o2, .inl (G.2.1, 48, .inl z26.2.2.2.1)), (o3, .inl (G.2.1, 48, .inl z26.2.2.2.2.1)), (o4, .inl (G.2.1, 48, .inl z26.2.2.2.2.2.1)), (o5, .inl (G.2.1, 49, .inl z26.2.2.2.2.2.2)), (f0, .inl (G.2.1, 48, .inl f))] H → va_D A [(o0, .inr (3, [.int z26.2.1, .ref o1, .ref o2, .ref o3, .ref o4, .ref o5])), (o1, .inl (G.2.1, 48, .inl z26.2.2.1)), (o2, .inl (G.2.1, 48, .inl z26.2.2.2.1)), (o3, .inl (G.2.1, 48, .inl z26.2.2.2.2.1)), (o4, .inl (G.2.1, 48, .inl z26.2.2.2.2.2.1)), (o5, .inl (G.2.1, 49, .inl z26.2.2.2.2.2.2)), (f0, .inl (G.2.1, 48, .inl f))] → va_S A s.heap H locs → ∀ (ls : Array Slot), lv_has ls 7 [(0, .ref o0), (1, .ref f0), (2, .int p1), (3, .int z26.1)] → fl_loopN (P_Or_compareWithLater_L26 f p1) n0 z26 = some r → W p l e (fl_rm 1 21) s m args below meth c H locs 0 0 Q (F0 m 26 ls []) := by
    intro n0
    induction n0 with
    | zero => intro z26 H locs hP hD hS ls hl hn; exact (fl_loopN_0 hn).elim
    | succ n0 ih26 =>
      intro z26 H locs hP hD hS ls hl hn
      obtain ⟨y26, hb26, hy26⟩ := fl_loopN_step hn
      clear hn
      have KJ144 : ∀ (o : fl_Or) (v3 : Int32) (v4 : Int32) (k0 : Int32) (H : Heap) (locs : List Loc), va_P G.1 vwCl [(o0, .inr (3, [.int o.1, .ref o1, .ref o2, .ref o3, .ref o4, .ref o5])), (o1, .inl (G.2.1, 48, .inl o.2.1)), (o2, .inl (G.2.1, 48, .inl o.2.2.1)), (o3, .inl (G.2.1, 48, .inl o.2.2.2.1)), (o4, .inl (G.2.1, 48, .inl o.2.2.2.2.1)), (o5, .inl (G.2.1, 49, .inl o.2.2.2.2.2)), (f0, .inl (G.2.1, 48, .inl f))] H → va_D A [(o0, .inr (3, [.int o.1, .ref o1, .ref o2, .ref o3, .ref o4, .ref o5])), (o1, .inl (G.2.1, 48, .inl o.2.1)), (o2, .inl (G.2.1, 48, .inl o.2.2.1)), (o3, .inl (G.2.1, 48, .inl o.2.2.2.1)), (o4, .inl (G.2.1, 48, .inl o.2.2.2.2.1)), (o5, .inl (G.2.1, 49, .inl o.2.2.2.2.2)), (f0, .inl (G.2.1, 48, .inl f))] → va_S A s.heap H locs → ∀ (ls : Array Slot), lv_has ls 7 [(0, .ref o0), (1, .ref f0), (2, .int p1), (3, .int v3), (4, .int v4)] → P_Or_compareWithLater_J144 o f p1 v3 v4 k0 = some y26 → W p l e (fl_rm 1 21) s m args below meth c H locs 0 0 Q (F0 m 144 ls [.int k0]) := by
        intro o v3 v4 k0 H locs hP hD hS ls hl hp
        unfold P_Or_compareWithLater_J144 at hp
        refine lv_istore (lv' := [(6, .int k0), (0, .ref o0), (1, .ref f0), (2, .int p1), (3, .int v3), (4, .int v4)]) hx hb dX3_compareWithLater_144 hl (by decide) rfl (fun ls hl => ?_)
        refine lv_aload_n hx hb dX3_compareWithLater_146 rfl (lv_at hl 1 rfl) ?_
        refine va_get (D := G.1) (ci := 3) (v := .ref o1) (C := RX3) (T := TX3) (N := 6) hx hb hts iX3 hown hK.1 hP 0 rfl rfl 1 (by decide) (hts (.fieldLink RX3 15 "SongChoir$Order" "ranks" "[I") (List.mem_of_getElem? (i := 8) rfl)) (fun _ h9 => h9) rfl dX3_compareWithLater_147 ?_
        refine lv_iload hx hb dX3_compareWithLater_150 (lv_at hl 0 rfl) ?_
        refine lv_dup2_11 hx hb dX3_compareWithLater_152 rfl rfl ?_
        obtain ⟨hi, hp⟩ := fl_ck_of hp
        refine va_iald hx hb hK.1 hP 1 0 rfl rfl hi dX3_compareWithLater_153 ?_
        refine lv_iconst (v := (1 : Int32)) hx hb dX3_compareWithLater_154 (by decide) ?_
        refine lv_iadd hx hb dX3_compareWithLater_155 ?_
        obtain ⟨hi, hp⟩ := fl_ck_of hp
        refine va_iast hx hb hK.1 hP hD hS 1 0 rfl rfl hi dX3_compareWithLater_156 (fun H locs hP hD hS => ?_)
        have hP : va_P G.1 vwCl [(o0, .inr (3, [.int o.1, .ref o1, .ref o2, .ref o3, .ref o4, .ref o5])), (o1, .inl (G.2.1, 48, .inl (upd o.2.1 k0.toNatClampNeg ((o.2.1 k0.toNatClampNeg) + (1 : Int32))))), (o2, .inl (G.2.1, 48, .inl o.2.2.1)), (o3, .inl (G.2.1, 48, .inl o.2.2.2.1)), (o4, .inl (G.2.1, 48, .inl o.2.2.2.2.1)), (o5, .inl (G.2.1, 49, .inl o.2.2.2.2.2)), (f0, .inl (G.2.1, 48, .inl f))] H := hP
        have hD : va_D A [(o0, .inr (3, [.int o.1, .ref o1, .ref o2, .ref o3, .ref o4, .ref o5])), (o1, .inl (G.2.1, 48, .inl (upd o.2.1 k0.toNatClampNeg ((o.2.1 k0.toNatClampNeg) + (1 : Int32))))), (o2, .inl (G.2.1, 48, .inl o.2.2.1)), (o3, .inl (G.2.1, 48, .inl o.2.2.2.1)), (o4, .inl (G.2.1, 48, .inl o.2.2.2.2.1)), (o5, .inl (G.2.1, 49, .inl o.2.2.2.2.2)), (f0, .inl (G.2.1, 48, .inl f))] := hD
        refine lv_aload_n hx hb dX3_compareWithLater_157 rfl (lv_at hl 1 rfl) ?_
        refine va_get (D := G.1) (ci := 3) (v := .ref o3) (C := RX3) (T := TX3) (N := 6) hx hb hts iX3 hown hK.1 hP 0 rfl rfl 3 (by decide) (hts (.fieldLink RX3 22 "SongChoir$Order" "shared" "[I") (List.mem_of_getElem? (i := 9) rfl)) (fun _ h9 => h9) rfl dX3_compareWithLater_158 ?_
        refine lv_iload hx hb dX3_compareWithLater_161 (lv_at hl 0 rfl) ?_
        refine lv_aload_n hx hb dX3_compareWithLater_163 rfl (lv_at hl 1 rfl) ?_
        refine va_get (D := G.1) (ci := 3) (v := .ref o3) (C := RX3) (T := TX3) (N := 6) hx hb hts iX3 hown hK.1 hP 0 rfl rfl 3 (by decide) (hts (.fieldLink RX3 22 "SongChoir$Order" "shared" "[I") (List.mem_of_getElem? (i := 9) rfl)) (fun _ h9 => h9) rfl dX3_compareWithLater_164 ?_
        refine lv_iload hx hb dX3_compareWithLater_167 (lv_at hl 0 rfl) ?_
        obtain ⟨hi, hp⟩ := fl_ck_of hp
        refine va_iald hx hb hK.1 hP 3 0 rfl rfl hi dX3_compareWithLater_169 ?_
        refine lv_iload hx hb dX3_compareWithLater_170 (lv_at hl 5 rfl) ?_
        refine va_mmax hx hb (hml.trans hl.1.symm) hown (hts (.methodLink RX3 44 Lib.Math.max.name) (List.mem_of_getElem? (i := 4) rfl)) (hts (.static Lib.Math.max.name) (List.mem_of_getElem? (i := 5) rfl)) (hts (.initialized "java/lang/Math") (List.mem_of_getElem? (i := 6) rfl)) (hts (.code Lib.Math.max.name Lib.Math.max.code 2 (some .int)) (List.mem_of_getElem? (i := 7) rfl)) (Nat.le_of_ble_eq_true rfl) (Nat.le_of_ble_eq_true rfl) (Nat.zero_le _) (Nat.zero_le _) dX3_compareWithLater_172 ?_
        obtain ⟨hi, hp⟩ := fl_ck_of hp
        refine va_iast hx hb hK.1 hP hD hS 3 0 rfl rfl hi dX3_compareWithLater_175 (fun H locs hP hD hS => ?_)
        have hP : va_P G.1 vwCl [(o0, .inr (3, [.int o.1, .ref o1, .ref o2, .ref o3, .ref o4, .ref o5])), (o1, .inl (G.2.1, 48, .inl (upd o.2.1 k0.toNatClampNeg ((o.2.1 k0.toNatClampNeg) + (1 : Int32))))), (o2, .inl (G.2.1, 48, .inl o.2.2.1)), (o3, .inl (G.2.1, 48, .inl (upd o.2.2.2.1 k0.toNatClampNeg (fl_mx (o.2.2.2.1 k0.toNatClampNeg) v4)))), (o4, .inl (G.2.1, 48, .inl o.2.2.2.2.1)), (o5, .inl (G.2.1, 49, .inl o.2.2.2.2.2)), (f0, .inl (G.2.1, 48, .inl f))] H := hP
        have hD : va_D A [(o0, .inr (3, [.int o.1, .ref o1, .ref o2, .ref o3, .ref o4, .ref o5])), (o1, .inl (G.2.1, 48, .inl (upd o.2.1 k0.toNatClampNeg ((o.2.1 k0.toNatClampNeg) + (1 : Int32))))), (o2, .inl (G.2.1, 48, .inl o.2.2.1)), (o3, .inl (G.2.1, 48, .inl (upd o.2.2.2.1 k0.toNatClampNeg (fl_mx (o.2.2.2.1 k0.toNatClampNeg) v4)))), (o4, .inl (G.2.1, 48, .inl o.2.2.2.2.1)), (o5, .inl (G.2.1, 49, .inl o.2.2.2.2.2)), (f0, .inl (G.2.1, 48, .inl f))] := hD
        refine lv_iinc (v := (v3 + (1 : Int32))) (lv' := [(3, .int (v3 + (1 : Int32))), (6, .int k0), (0, .ref o0), (1, .ref f0), (2, .int p1), (4, .int v4)]) hx hb dX3_compareWithLater_176 hl (k := 4) rfl rfl (by decide) rfl (fun ls hl => ?_)
        refine lv_goto (tgt := 26) hx hb dX3_compareWithLater_179 (by decide) ?_
        obtain rfl := Option.some.inj hp
        exact ih26 ((v3 + (1 : Int32)), (o.1, (upd o.2.1 k0.toNatClampNeg ((o.2.1 k0.toNatClampNeg) + (1 : Int32))), o.2.2.1, (upd o.2.2.2.1 k0.toNatClampNeg (fl_mx (o.2.2.2.1 k0.toNatClampNeg) v4)), o.2.2.2.2.1, o.2.2.2.2.2)) H locs hP hD hS ls (lv_sub hl [2, 3, 4, 0] rfl) (fl_cont_inl hy26)
      have KJ132 : ∀ (o : fl_Or) (v3 : Int32) (v4 : Int32) (k0 : Int32) (H : Heap) (locs : List Loc), va_P G.1 vwCl [(o0, .inr (3, [.int o.1, .ref o1, .ref o2, .ref o3, .ref o4, .ref o5])), (o1, .inl (G.2.1, 48, .inl o.2.1)), (o2, .inl (G.2.1, 48, .inl o.2.2.1)), (o3, .inl (G.2.1, 48, .inl o.2.2.2.1)), (o4, .inl (G.2.1, 48, .inl o.2.2.2.2.1)), (o5, .inl (G.2.1, 49, .inl o.2.2.2.2.2)), (f0, .inl (G.2.1, 48, .inl f))] H → va_D A [(o0, .inr (3, [.int o.1, .ref o1, .ref o2, .ref o3, .ref o4, .ref o5])), (o1, .inl (G.2.1, 48, .inl o.2.1)), (o2, .inl (G.2.1, 48, .inl o.2.2.1)), (o3, .inl (G.2.1, 48, .inl o.2.2.2.1)), (o4, .inl (G.2.1, 48, .inl o.2.2.2.2.1)), (o5, .inl (G.2.1, 49, .inl o.2.2.2.2.2)), (f0, .inl (G.2.1, 48, .inl f))] → va_S A s.heap H locs → ∀ (ls : Array Slot), lv_has ls 7 [(0, .ref o0), (1, .ref f0), (2, .int p1), (3, .int v3), (4, .int v4)] → P_Or_compareWithLater_J132 o f p1 v3 v4 k0 = some y26 → W p l e (fl_rm 1 21) s m args below meth c H locs 0 0 Q (F0 m 132 ls [.int k0]) := by
        intro o v3 v4 k0 H locs hP hD hS ls hl hp
        unfold P_Or_compareWithLater_J132 at hp
        refine lv_istore (lv' := [(5, .int k0), (0, .ref o0), (1, .ref f0), (2, .int p1), (3, .int v3), (4, .int v4)]) hx hb dX3_compareWithLater_132 hl (by decide) rfl (fun ls hl => ?_)
        refine lv_iload hx hb dX3_compareWithLater_134 (lv_at hl 0 rfl) ?_
        refine lv_if_eq (tgt := 143) hx hb dX3_compareWithLater_136 (by decide) (fun hc => ?_) (fun hc => ?_)
        · replace hp := fl_t hc hp
          refine lv_iload_n hx hb dX3_compareWithLater_143 rfl (lv_at hl 4 rfl) ?_
          exact KJ144 o v3 v4 v3 H locs hP hD hS ls (lv_sub hl [1, 2, 3, 4, 5] rfl) hp
        · replace hp := fl_f hc hp
          refine lv_iload_n hx hb dX3_compareWithLater_139 rfl (lv_at hl 3 rfl) ?_
          refine lv_goto (tgt := 144) hx hb dX3_compareWithLater_140 (by decide) ?_
          exact KJ144 o v3 v4 p1 H locs hP hD hS ls (lv_sub hl [1, 2, 3, 4, 5] rfl) hp
      have KJ127 : ∀ (o : fl_Or) (v3 : Int32) (v4 : Int32) (H : Heap) (locs : List Loc), va_P G.1 vwCl [(o0, .inr (3, [.int o.1, .ref o1, .ref o2, .ref o3, .ref o4, .ref o5])), (o1, .inl (G.2.1, 48, .inl o.2.1)), (o2, .inl (G.2.1, 48, .inl o.2.2.1)), (o3, .inl (G.2.1, 48, .inl o.2.2.2.1)), (o4, .inl (G.2.1, 48, .inl o.2.2.2.2.1)), (o5, .inl (G.2.1, 49, .inl o.2.2.2.2.2)), (f0, .inl (G.2.1, 48, .inl f))] H → va_D A [(o0, .inr (3, [.int o.1, .ref o1, .ref o2, .ref o3, .ref o4, .ref o5])), (o1, .inl (G.2.1, 48, .inl o.2.1)), (o2, .inl (G.2.1, 48, .inl o.2.2.1)), (o3, .inl (G.2.1, 48, .inl o.2.2.2.1)), (o4, .inl (G.2.1, 48, .inl o.2.2.2.2.1)), (o5, .inl (G.2.1, 49, .inl o.2.2.2.2.2)), (f0, .inl (G.2.1, 48, .inl f))] → va_S A s.heap H locs → ∀ (ls : Array Slot), lv_has ls 7 [(0, .ref o0), (1, .ref f0), (2, .int p1), (3, .int v3), (4, .int v4)] → P_Or_compareWithLater_J127 o f p1 v3 v4 = some y26 → W p l e (fl_rm 1 21) s m args below meth c H locs 0 0 Q (F0 m 127 ls []) := by
        intro o v3 v4 H locs hP hD hS ls hl hp
        unfold P_Or_compareWithLater_J127 at hp
        refine lv_iconst (v := (1 : Int32)) hx hb dX3_compareWithLater_127 (by decide) ?_
        refine lv_goto (tgt := 132) hx hb dX3_compareWithLater_128 (by decide) ?_
        exact KJ132 o v3 v4 (1 : Int32) H locs hP hD hS ls (lv_sub hl [0, 1, 2, 3, 4] rfl) hp
      have KJ57 : ∀ (o : fl_Or) (v3 : Int32) (k0 : Int32) (H : Heap) (locs : List Loc), va_P G.1 vwCl [(o0, .inr (3, [.int o.1, .ref o1, .ref o2, .ref o3, .ref o4, .ref o5])), (o1, .inl (G.2.1, 48, .inl o.2.1)), (o2, .inl (G.2.1, 48, .inl o.2.2.1)), (o3, .inl (G.2.1, 48, .inl o.2.2.2.1)), (o4, .inl (G.2.1, 48, .inl o.2.2.2.2.1)), (o5, .inl (G.2.1, 49, .inl o.2.2.2.2.2)), (f0, .inl (G.2.1, 48, .inl f))] H → va_D A [(o0, .inr (3, [.int o.1, .ref o1, .ref o2, .ref o3, .ref o4, .ref o5])), (o1, .inl (G.2.1, 48, .inl o.2.1)), (o2, .inl (G.2.1, 48, .inl o.2.2.1)), (o3, .inl (G.2.1, 48, .inl o.2.2.2.1)), (o4, .inl (G.2.1, 48, .inl o.2.2.2.2.1)), (o5, .inl (G.2.1, 49, .inl o.2.2.2.2.2)), (f0, .inl (G.2.1, 48, .inl f))] → va_S A s.heap H locs → ∀ (ls : Array Slot), lv_has ls 7 [(0, .ref o0), (1, .ref f0), (2, .int p1), (3, .int v3)] → P_Or_compareWithLater_J57 o f p1 v3 k0 = some y26 → W p l e (fl_rm 1 21) s m args below meth c H locs 0 0 Q (F0 m 57 ls [.int k0]) := by
        intro o v3 k0 H locs hP hD hS ls hl hp
        unfold P_Or_compareWithLater_J57 at hp
        refine lv_istore (lv' := [(4, .int k0), (0, .ref o0), (1, .ref f0), (2, .int p1), (3, .int v3)]) hx hb dX3_compareWithLater_57 hl (by decide) rfl (fun ls hl => ?_)
        refine lv_aload_n hx hb dX3_compareWithLater_59 rfl (lv_at hl 1 rfl) ?_
        refine va_get (D := G.1) (ci := 3) (v := .ref o5) (C := RX3) (T := TX3) (N := 6) hx hb hts iX3 hown hK.1 hP 0 rfl rfl 5 (by decide) (hts (.fieldLink RX3 28 "SongChoir$Order" "runs" "[I") (List.mem_of_getElem? (i := 2) rfl)) (fun _ h9 => h9) rfl dX3_compareWithLater_60 ?_
        refine lv_iload_n hx hb dX3_compareWithLater_63 rfl (lv_at hl 4 rfl) ?_
        refine lv_iload hx hb dX3_compareWithLater_64 (lv_at hl 0 rfl) ?_
        obtain ⟨hi, hp⟩ := fl_ck_of hp
        refine va_iast hx hb hK.1 hP hD hS 5 0 rfl rfl hi dX3_compareWithLater_66 (fun H locs hP hD hS => ?_)
        have hP : va_P G.1 vwCl [(o0, .inr (3, [.int o.1, .ref o1, .ref o2, .ref o3, .ref o4, .ref o5])), (o1, .inl (G.2.1, 48, .inl o.2.1)), (o2, .inl (G.2.1, 48, .inl o.2.2.1)), (o3, .inl (G.2.1, 48, .inl o.2.2.2.1)), (o4, .inl (G.2.1, 48, .inl o.2.2.2.2.1)), (o5, .inl (G.2.1, 49, .inl (upd o.2.2.2.2.2 v3.toNatClampNeg k0))), (f0, .inl (G.2.1, 48, .inl f))] H := hP
        have hD : va_D A [(o0, .inr (3, [.int o.1, .ref o1, .ref o2, .ref o3, .ref o4, .ref o5])), (o1, .inl (G.2.1, 48, .inl o.2.1)), (o2, .inl (G.2.1, 48, .inl o.2.2.1)), (o3, .inl (G.2.1, 48, .inl o.2.2.2.1)), (o4, .inl (G.2.1, 48, .inl o.2.2.2.2.1)), (o5, .inl (G.2.1, 49, .inl (upd o.2.2.2.2.2 v3.toNatClampNeg k0))), (f0, .inl (G.2.1, 48, .inl f))] := hD
        refine lv_aload_n hx hb dX3_compareWithLater_67 rfl (lv_at hl 1 rfl) ?_
        refine va_get (D := G.1) (ci := 3) (v := .ref o4) (C := RX3) (T := TX3) (N := 6) hx hb hts iX3 hown hK.1 hP 0 rfl rfl 4 (by decide) (hts (.fieldLink RX3 25 "SongChoir$Order" "repeats" "[I") (List.mem_of_getElem? (i := 3) rfl)) (fun _ h9 => h9) rfl dX3_compareWithLater_68 ?_
        refine lv_iload_n hx hb dX3_compareWithLater_71 rfl (lv_at hl 3 rfl) ?_
        refine lv_aload_n hx hb dX3_compareWithLater_72 rfl (lv_at hl 1 rfl) ?_
        refine va_get (D := G.1) (ci := 3) (v := .ref o4) (C := RX3) (T := TX3) (N := 6) hx hb hts iX3 hown hK.1 hP 0 rfl rfl 4 (by decide) (hts (.fieldLink RX3 25 "SongChoir$Order" "repeats" "[I") (List.mem_of_getElem? (i := 3) rfl)) (fun _ h9 => h9) rfl dX3_compareWithLater_73 ?_
        refine lv_iload_n hx hb dX3_compareWithLater_76 rfl (lv_at hl 3 rfl) ?_
        obtain ⟨hi, hp⟩ := fl_ck_of hp
        refine va_iald hx hb hK.1 hP 4 0 rfl rfl hi dX3_compareWithLater_77 ?_
        refine lv_iload hx hb dX3_compareWithLater_78 (lv_at hl 0 rfl) ?_
        refine va_mmax hx hb (hml.trans hl.1.symm) hown (hts (.methodLink RX3 44 Lib.Math.max.name) (List.mem_of_getElem? (i := 4) rfl)) (hts (.static Lib.Math.max.name) (List.mem_of_getElem? (i := 5) rfl)) (hts (.initialized "java/lang/Math") (List.mem_of_getElem? (i := 6) rfl)) (hts (.code Lib.Math.max.name Lib.Math.max.code 2 (some .int)) (List.mem_of_getElem? (i := 7) rfl)) (Nat.le_of_ble_eq_true rfl) (Nat.le_of_ble_eq_true rfl) (Nat.zero_le _) (Nat.zero_le _) dX3_compareWithLater_80 ?_
        obtain ⟨hi, hp⟩ := fl_ck_of hp
        refine va_iast hx hb hK.1 hP hD hS 4 0 rfl rfl hi dX3_compareWithLater_83 (fun H locs hP hD hS => ?_)
        have hP : va_P G.1 vwCl [(o0, .inr (3, [.int o.1, .ref o1, .ref o2, .ref o3, .ref o4, .ref o5])), (o1, .inl (G.2.1, 48, .inl o.2.1)), (o2, .inl (G.2.1, 48, .inl o.2.2.1)), (o3, .inl (G.2.1, 48, .inl o.2.2.2.1)), (o4, .inl (G.2.1, 48, .inl (upd o.2.2.2.2.1 p1.toNatClampNeg (fl_mx (o.2.2.2.2.1 p1.toNatClampNeg) k0)))), (o5, .inl (G.2.1, 49, .inl (upd o.2.2.2.2.2 v3.toNatClampNeg k0))), (f0, .inl (G.2.1, 48, .inl f))] H := hP
        have hD : va_D A [(o0, .inr (3, [.int o.1, .ref o1, .ref o2, .ref o3, .ref o4, .ref o5])), (o1, .inl (G.2.1, 48, .inl o.2.1)), (o2, .inl (G.2.1, 48, .inl o.2.2.1)), (o3, .inl (G.2.1, 48, .inl o.2.2.2.1)), (o4, .inl (G.2.1, 48, .inl (upd o.2.2.2.2.1 p1.toNatClampNeg (fl_mx (o.2.2.2.2.1 p1.toNatClampNeg) k0)))), (o5, .inl (G.2.1, 49, .inl (upd o.2.2.2.2.2 v3.toNatClampNeg k0))), (f0, .inl (G.2.1, 48, .inl f))] := hD
        refine lv_aload_n hx hb dX3_compareWithLater_84 rfl (lv_at hl 1 rfl) ?_
        refine va_get (D := G.1) (ci := 3) (v := .ref o4) (C := RX3) (T := TX3) (N := 6) hx hb hts iX3 hown hK.1 hP 0 rfl rfl 4 (by decide) (hts (.fieldLink RX3 25 "SongChoir$Order" "repeats" "[I") (List.mem_of_getElem? (i := 3) rfl)) (fun _ h9 => h9) rfl dX3_compareWithLater_85 ?_
        refine lv_iload_n hx hb dX3_compareWithLater_88 rfl (lv_at hl 4 rfl) ?_
        refine lv_aload_n hx hb dX3_compareWithLater_89 rfl (lv_at hl 1 rfl) ?_
        refine va_get (D := G.1) (ci := 3) (v := .ref o4) (C := RX3) (T := TX3) (N := 6) hx hb hts iX3 hown hK.1 hP 0 rfl rfl 4 (by decide) (hts (.fieldLink RX3 25 "SongChoir$Order" "repeats" "[I") (List.mem_of_getElem? (i := 3) rfl)) (fun _ h9 => h9) rfl dX3_compareWithLater_90 ?_
        refine lv_iload_n hx hb dX3_compareWithLater_93 rfl (lv_at hl 4 rfl) ?_
        obtain ⟨hi, hp⟩ := fl_ck_of hp
        refine va_iald hx hb hK.1 hP 4 0 rfl rfl hi dX3_compareWithLater_94 ?_
        refine lv_iload hx hb dX3_compareWithLater_95 (lv_at hl 0 rfl) ?_
        refine va_mmax hx hb (hml.trans hl.1.symm) hown (hts (.methodLink RX3 44 Lib.Math.max.name) (List.mem_of_getElem? (i := 4) rfl)) (hts (.static Lib.Math.max.name) (List.mem_of_getElem? (i := 5) rfl)) (hts (.initialized "java/lang/Math") (List.mem_of_getElem? (i := 6) rfl)) (hts (.code Lib.Math.max.name Lib.Math.max.code 2 (some .int)) (List.mem_of_getElem? (i := 7) rfl)) (Nat.le_of_ble_eq_true rfl) (Nat.le_of_ble_eq_true rfl) (Nat.zero_le _) (Nat.zero_le _) dX3_compareWithLater_97 ?_
        obtain ⟨hi, hp⟩ := fl_ck_of hp
        refine va_iast hx hb hK.1 hP hD hS 4 0 rfl rfl hi dX3_compareWithLater_100 (fun H locs hP hD hS => ?_)
        have hP : va_P G.1 vwCl [(o0, .inr (3, [.int o.1, .ref o1, .ref o2, .ref o3, .ref o4, .ref o5])), (o1, .inl (G.2.1, 48, .inl o.2.1)), (o2, .inl (G.2.1, 48, .inl o.2.2.1)), (o3, .inl (G.2.1, 48, .inl o.2.2.2.1)), (o4, .inl (G.2.1, 48, .inl (upd (upd o.2.2.2.2.1 p1.toNatClampNeg (fl_mx (o.2.2.2.2.1 p1.toNatClampNeg) k0)) v3.toNatClampNeg (fl_mx ((upd o.2.2.2.2.1 p1.toNatClampNeg (fl_mx (o.2.2.2.2.1 p1.toNatClampNeg) k0)) v3.toNatClampNeg) k0)))), (o5, .inl (G.2.1, 49, .inl (upd o.2.2.2.2.2 v3.toNatClampNeg k0))), (f0, .inl (G.2.1, 48, .inl f))] H := hP
        have hD : va_D A [(o0, .inr (3, [.int o.1, .ref o1, .ref o2, .ref o3, .ref o4, .ref o5])), (o1, .inl (G.2.1, 48, .inl o.2.1)), (o2, .inl (G.2.1, 48, .inl o.2.2.1)), (o3, .inl (G.2.1, 48, .inl o.2.2.2.1)), (o4, .inl (G.2.1, 48, .inl (upd (upd o.2.2.2.2.1 p1.toNatClampNeg (fl_mx (o.2.2.2.2.1 p1.toNatClampNeg) k0)) v3.toNatClampNeg (fl_mx ((upd o.2.2.2.2.1 p1.toNatClampNeg (fl_mx (o.2.2.2.2.1 p1.toNatClampNeg) k0)) v3.toNatClampNeg) k0)))), (o5, .inl (G.2.1, 49, .inl (upd o.2.2.2.2.2 v3.toNatClampNeg k0))), (f0, .inl (G.2.1, 48, .inl f))] := hD
        refine lv_iload_n hx hb dX3_compareWithLater_101 rfl (lv_at hl 4 rfl) ?_
        refine lv_iload hx hb dX3_compareWithLater_102 (lv_at hl 0 rfl) ?_
        refine lv_iadd hx hb dX3_compareWithLater_104 ?_
        refine lv_aload_n hx hb dX3_compareWithLater_105 rfl (lv_at hl 1 rfl) ?_
        refine va_get (D := G.1) (ci := 3) (v := .int o.1) (C := RX3) (T := TX3) (N := 6) hx hb hts iX3 hown hK.1 hP 0 rfl rfl 0 (by decide) (hts (.fieldLink RX3 9 "SongChoir$Order" "notes" "I") (List.mem_of_getElem? (i := 1) rfl)) (fun _ h9 => h9) rfl dX3_compareWithLater_106 ?_
        refine lv_icmp_ge (tgt := 127) hx hb dX3_compareWithLater_109 (by decide) (fun hc => ?_) (fun hc => ?_)
        · replace hp := fl_t hc hp
          exact KJ127 (o.1, o.2.1, o.2.2.1, o.2.2.2.1, (upd (upd o.2.2.2.2.1 p1.toNatClampNeg (fl_mx (o.2.2.2.2.1 p1.toNatClampNeg) k0)) v3.toNatClampNeg (fl_mx ((upd o.2.2.2.2.1 p1.toNatClampNeg (fl_mx (o.2.2.2.2.1 p1.toNatClampNeg) k0)) v3.toNatClampNeg) k0)), (upd o.2.2.2.2.2 v3.toNatClampNeg k0)) v3 k0 H locs hP hD hS ls (lv_sub hl [1, 2, 3, 4, 0] rfl) hp
        · replace hp := fl_f hc hp
          refine lv_aload_n hx hb dX3_compareWithLater_112 rfl (lv_at hl 2 rfl) ?_
          refine lv_iload_n hx hb dX3_compareWithLater_113 rfl (lv_at hl 4 rfl) ?_
          refine lv_iload hx hb dX3_compareWithLater_114 (lv_at hl 0 rfl) ?_
          refine lv_iadd hx hb dX3_compareWithLater_116 ?_
          obtain ⟨hi, hp⟩ := fl_ck_of hp
          refine va_iald hx hb hK.1 hP 6 0 rfl rfl hi dX3_compareWithLater_117 ?_
          refine lv_aload_n hx hb dX3_compareWithLater_118 rfl (lv_at hl 2 rfl) ?_
          refine lv_iload_n hx hb dX3_compareWithLater_119 rfl (lv_at hl 3 rfl) ?_
          refine lv_iload hx hb dX3_compareWithLater_120 (lv_at hl 0 rfl) ?_
          refine lv_iadd hx hb dX3_compareWithLater_122 ?_
          obtain ⟨hi, hp⟩ := fl_ck_of hp
          refine va_iald hx hb hK.1 hP 6 0 rfl rfl hi dX3_compareWithLater_123 ?_
          refine lv_icmp_ge (tgt := 131) hx hb dX3_compareWithLater_124 (by decide) (fun hc => ?_) (fun hc => ?_)
          · replace hp := fl_t hc hp
            refine lv_iconst (v := (0 : Int32)) hx hb dX3_compareWithLater_131 (by decide) ?_
            exact KJ132 (o.1, o.2.1, o.2.2.1, o.2.2.2.1, (upd (upd o.2.2.2.2.1 p1.toNatClampNeg (fl_mx (o.2.2.2.2.1 p1.toNatClampNeg) k0)) v3.toNatClampNeg (fl_mx ((upd o.2.2.2.2.1 p1.toNatClampNeg (fl_mx (o.2.2.2.2.1 p1.toNatClampNeg) k0)) v3.toNatClampNeg) k0)), (upd o.2.2.2.2.2 v3.toNatClampNeg k0)) v3 k0 (0 : Int32) H locs hP hD hS ls (lv_sub hl [1, 2, 3, 4, 0] rfl) hp
          · replace hp := fl_f hc hp
            exact KJ127 (o.1, o.2.1, o.2.2.1, o.2.2.2.1, (upd (upd o.2.2.2.2.1 p1.toNatClampNeg (fl_mx (o.2.2.2.2.1 p1.toNatClampNeg) k0)) v3.toNatClampNeg (fl_mx ((upd o.2.2.2.2.1 p1.toNatClampNeg (fl_mx (o.2.2.2.2.1 p1.toNatClampNeg) k0)) v3.toNatClampNeg) k0)), (upd o.2.2.2.2.2 v3.toNatClampNeg k0)) v3 k0 H locs hP hD hS ls (lv_sub hl [1, 2, 3, 4, 0] rfl) hp
      have hp := hb26
      unfold P_Or_compareWithLater_L26 at hp
      refine lv_iload_n hx hb dX3_compareWithLater_26 rfl (lv_at hl 3 rfl) ?_
      refine lv_aload_n hx hb dX3_compareWithLater_27 rfl (lv_at hl 0 rfl) ?_
      refine va_get (D := G.1) (ci := 3) (v := .int z26.2.1) (C := RX3) (T := TX3) (N := 6) hx hb hts iX3 hown hK.1 hP 0 rfl rfl 0 (by decide) (hts (.fieldLink RX3 9 "SongChoir$Order" "notes" "I") (List.mem_of_getElem? (i := 1) rfl)) (fun _ h9 => h9) rfl dX3_compareWithLater_28 ?_
      refine lv_icmp_ge (tgt := 182) hx hb dX3_compareWithLater_31 (by decide) (fun hc => ?_) (fun hc => ?_)
      · replace hp := fl_t hc hp
        obtain rfl := Option.some.inj hp
        obtain rfl := fl_cont_inr hy26
        exact hfin H locs _ ls hP hD hS dX3_compareWithLater_182
      · replace hp := fl_f hc hp
        refine lv_aload_n hx hb dX3_compareWithLater_34 rfl (lv_at hl 1 rfl) ?_
        refine lv_iload_n hx hb dX3_compareWithLater_35 rfl (lv_at hl 2 rfl) ?_
        obtain ⟨hi, hp⟩ := fl_ck_of hp
        refine va_iald hx hb hK.1 hP 6 0 rfl rfl hi dX3_compareWithLater_36 ?_
        refine lv_aload_n hx hb dX3_compareWithLater_37 rfl (lv_at hl 1 rfl) ?_
        refine lv_iload_n hx hb dX3_compareWithLater_38 rfl (lv_at hl 3 rfl) ?_
        obtain ⟨hi, hp⟩ := fl_ck_of hp
        refine va_iald hx hb hK.1 hP 6 0 rfl rfl hi dX3_compareWithLater_39 ?_
        refine lv_icmp_ne (tgt := 56) hx hb dX3_compareWithLater_40 (by decide) (fun hc => ?_) (fun hc => ?_)
        · replace hp := fl_f hc hp
          refine lv_iconst (v := (0 : Int32)) hx hb dX3_compareWithLater_56 (by decide) ?_
          exact KJ57 z26.2 z26.1 (0 : Int32) H locs hP hD hS ls (lv_sub hl [0, 1, 2, 3] rfl) hp
        · replace hp := fl_t hc hp
          refine lv_aload_n hx hb dX3_compareWithLater_43 rfl (lv_at hl 0 rfl) ?_
          refine va_get (D := G.1) (ci := 3) (v := .ref o5) (C := RX3) (T := TX3) (N := 6) hx hb hts iX3 hown hK.1 hP 0 rfl rfl 5 (by decide) (hts (.fieldLink RX3 28 "SongChoir$Order" "runs" "[I") (List.mem_of_getElem? (i := 2) rfl)) (fun _ h9 => h9) rfl dX3_compareWithLater_44 ?_
          refine lv_iload_n hx hb dX3_compareWithLater_47 rfl (lv_at hl 3 rfl) ?_
          refine lv_iconst (v := (1 : Int32)) hx hb dX3_compareWithLater_48 (by decide) ?_
          refine lv_iadd hx hb dX3_compareWithLater_49 ?_
          obtain ⟨hi, hp⟩ := fl_ck_of hp
          refine va_iald hx hb hK.1 hP 5 0 rfl rfl hi dX3_compareWithLater_50 ?_
          refine lv_iconst (v := (1 : Int32)) hx hb dX3_compareWithLater_51 (by decide) ?_
          refine lv_iadd hx hb dX3_compareWithLater_52 ?_
          refine lv_goto (tgt := 57) hx hb dX3_compareWithLater_53 (by decide) ?_
          exact KJ57 z26.2 z26.1 ((z26.2.2.2.2.2.2 (z26.1 + (1 : Int32)).toNatClampNeg) + (1 : Int32)) H locs hP hD hS ls (lv_sub hl [0, 1, 2, 3] rfl) hp
  have hp := hp0
  unfold P_Or_compareWithLater at hp
  refine lv_iload_n hx hb dX3_compareWithLater_0 rfl (lv_at hl 2 rfl) ?_
  refine lv_if_lt (tgt := 21) hx hb dX3_compareWithLater_1 (by decide) (fun hc => ?_) (fun hc => ?_)
  · replace hp := fl_t hc hp
    obtain rfl := Option.some.inj hp
    exact hfin H locs _ ls hP hD hS dX3_compareWithLater_21
  · replace hp := fl_f hc hp
    refine lv_iload_n hx hb dX3_compareWithLater_4 rfl (lv_at hl 2 rfl) ?_
    refine lv_aload_n hx hb dX3_compareWithLater_5 rfl (lv_at hl 0 rfl) ?_
    refine va_get (D := G.1) (ci := 3) (v := .int o.1) (C := RX3) (T := TX3) (N := 6) hx hb hts iX3 hown hK.1 hP 0 rfl rfl 0 (by decide) (hts (.fieldLink RX3 9 "SongChoir$Order" "notes" "I") (List.mem_of_getElem? (i := 1) rfl)) (fun _ h9 => h9) rfl dX3_compareWithLater_6 ?_
    refine lv_icmp_ge (tgt := 21) hx hb dX3_compareWithLater_9 (by decide) (fun hc => ?_) (fun hc => ?_)
    · replace hp := fl_t hc hp
      obtain rfl := Option.some.inj hp
      exact hfin H locs _ ls hP hD hS dX3_compareWithLater_21
    · replace hp := fl_f hc hp
      refine lv_aload_n hx hb dX3_compareWithLater_12 rfl (lv_at hl 0 rfl) ?_
      refine va_get (D := G.1) (ci := 3) (v := .int o.1) (C := RX3) (T := TX3) (N := 6) hx hb hts iX3 hown hK.1 hP 0 rfl rfl 0 (by decide) (hts (.fieldLink RX3 9 "SongChoir$Order" "notes" "I") (List.mem_of_getElem? (i := 1) rfl)) (fun _ h9 => h9) rfl dX3_compareWithLater_13 ?_
      refine lv_aload_n hx hb dX3_compareWithLater_16 rfl (lv_at hl 1 rfl) ?_
      refine va_alen (v := (nI 48)) hx hb hK.1 hP 6 0 rfl rfl rfl dX3_compareWithLater_17 ?_
      refine lv_icmp_le (tgt := 22) hx hb dX3_compareWithLater_18 (by decide) (fun hc => ?_) (fun hc => ?_)
      · replace hp := fl_t hc hp
        refine lv_iload_n hx hb dX3_compareWithLater_22 rfl (lv_at hl 2 rfl) ?_
        refine lv_iconst (v := (1 : Int32)) hx hb dX3_compareWithLater_23 (by decide) ?_
        refine lv_iadd hx hb dX3_compareWithLater_24 ?_
        refine lv_istore_n (lv' := [(3, .int (p1 + (1 : Int32))), (0, .ref o0), (1, .ref f0), (2, .int p1)]) hx hb dX3_compareWithLater_25 rfl hl (by decide) rfl (fun ls hl => ?_)
        obtain ⟨n0, hn⟩ := fl_loop_ex hp
        exact KL26 n0 ((p1 + (1 : Int32)), o) H locs hP hD hS ls (lv_sub hl [1, 2, 3, 0] rfl) hn
      · replace hp := fl_f hc hp
        obtain rfl := Option.some.inj hp
        exact hfin H locs _ ls hP hD hS dX3_compareWithLater_21

noncomputable def P_Or_arrange_J135 (o : fl_Or) (g : fl_Sg) (v2 : Int32) : Option ((Int32 × fl_Or) ⊕ fl_Or) := some (.inl ((v2 + (1 : Int32)), o))
noncomputable def P_Or_arrange_L92 (g : fl_Sg) (z92 : (Int32 × fl_Or)) : Option ((Int32 × fl_Or) ⊕ fl_Or) := if z92.2.1 ≤ z92.1 then some (.inr z92.2) else fl_ck z92.1 48 (if (z92.2.2.1 z92.1.toNatClampNeg) < 0 then P_Or_arrange_J135 z92.2 g z92.1 else fl_ck z92.1 48 (if (nI 48) ≤ (z92.2.2.1 z92.1.toNatClampNeg) then P_Or_arrange_J135 z92.2 g z92.1 else fl_ck z92.1 48 (fl_ck (z92.2.2.1 z92.1.toNatClampNeg) 48 (P_Or_arrange_J135 (z92.2.1, z92.2.2.1, (upd z92.2.2.2.1 (z92.2.2.1 z92.1.toNatClampNeg).toNatClampNeg z92.1), z92.2.2.2.2.1, z92.2.2.2.2.2.1, z92.2.2.2.2.2.2) g z92.1))))
noncomputable def P_Or_arrange_J90 (o : fl_Or) (g : fl_Sg) : Option fl_Or := fl_loop (P_Or_arrange_L92 g) ((0 : Int32), o)
noncomputable def P_Or_arrange_L71 (g : fl_Sg) (z71 : (Int32 × fl_Or)) : Option ((Int32 × fl_Or) ⊕ fl_Or) := if z71.1 < 0 then fl_up (P_Or_arrange_J90 z71.2 g) else fl_bd (P_Or_compareWithLater z71.2 g.1 z71.1) (fun q1 => some (.inl ((z71.1 + (-1 : Int32)), q1)))
noncomputable def P_Or_arrange_J54 (o : fl_Or) (g : fl_Sg) : Option fl_Or := fl_ck o.1 49 (fl_loop (P_Or_arrange_L71 g) ((o.1 - (1 : Int32)), (o.1, o.2.1, o.2.2.1, o.2.2.2.1, o.2.2.2.2.1, (upd o.2.2.2.2.2 o.1.toNatClampNeg (0 : Int32)))))
noncomputable def P_Or_arrange_L19 (g : fl_Sg) (z19 : (Int32 × fl_Or)) : Option ((Int32 × fl_Or) ⊕ fl_Or) := if z19.2.1 ≤ z19.1 then fl_up (P_Or_arrange_J54 z19.2 g) else fl_ck z19.1 48 (fl_ck z19.1 48 (fl_ck z19.1 48 (some (.inl ((z19.1 + (1 : Int32)), (z19.2.1, (upd z19.2.2.1 z19.1.toNatClampNeg (0 : Int32)), z19.2.2.2.1, (upd z19.2.2.2.2.1 z19.1.toNatClampNeg (0 : Int32)), (upd z19.2.2.2.2.2.1 z19.1.toNatClampNeg (0 : Int32)), z19.2.2.2.2.2.2))))))
noncomputable def P_Or_arrange (o : fl_Or) (g : fl_Sg) : Option fl_Or := fl_loop (P_Or_arrange_L19 g) ((0 : Int32), ((fl_mx (0 : Int32) (fl_mn g.2.2.1 (48 : Int32))), o.2.1, o.2.2.1, o.2.2.2.1, o.2.2.2.2.1, o.2.2.2.2.2))
set_option maxHeartbeats 4000000 in
set_option maxRecDepth 100000 in
theorem c_Or_arrange (l : Launch) (G : fl_G) (o0 o1 o2 o3 o4 o5 g0 g1 g2 : Nat) (o : fl_Or) (g : fl_Sg) {r : fl_Or} (hp0 : P_Or_arrange o g = some r) : fl_mu l yX3_arrange wsX3_arrange 2 47 G [.ref o0, .ref g0] [(o0, .inr (3, [.int o.1, .ref o1, .ref o2, .ref o3, .ref o4, .ref o5])), (o1, .inl (G.2.1, 48, .inl o.2.1)), (o2, .inl (G.2.1, 48, .inl o.2.2.1)), (o3, .inl (G.2.1, 48, .inl o.2.2.2.1)), (o4, .inl (G.2.1, 48, .inl o.2.2.2.2.1)), (o5, .inl (G.2.1, 49, .inl o.2.2.2.2.2)), (g0, .inr (4, [.ref g1, .ref g2, .int g.2.2.1, .int g.2.2.2.1, .int g.2.2.2.2.1, .int g.2.2.2.2.2.1, .int g.2.2.2.2.2.2.1, .int g.2.2.2.2.2.2.2])), (g1, .inl (G.2.1, 48, .inl g.1)), (g2, .inl (G.2.1, 48, .inl g.2.1))] none [(o0, .inr (3, [.int r.1, .ref o1, .ref o2, .ref o3, .ref o4, .ref o5])), (o1, .inl (G.2.1, 48, .inl r.2.1)), (o2, .inl (G.2.1, 48, .inl r.2.2.1)), (o3, .inl (G.2.1, 48, .inl r.2.2.2.1)), (o4, .inl (G.2.1, 48, .inl r.2.2.2.2.1)), (o5, .inl (G.2.1, 49, .inl r.2.2.2.2.2)), (g0, .inr (4, [.ref g1, .ref g2, .int g.2.2.1, .int g.2.2.2.1, .int g.2.2.2.2.1, .int g.2.2.2.2.2.1, .int g.2.2.2.2.2.2.1, .int g.2.2.2.2.2.2.2])), (g1, .inl (G.2.1, 48, .inl g.1)), (g2, .inl (G.2.1, 48, .inl g.2.1))] := by
  refine fl_muv_in cX3_arrange 3 RX3 (by decide) rfl rfl (Nat.le_of_ble_eq_true rfl) ?_
  intro p e s m args below meth c ls A Q H locs C0 hK hP hD hS hA hl hfin
  obtain ⟨hx, hb, hml, hown, hts⟩ := id C0
  have iX3 : ∀ w ∈ u_ws RX3 TX3 6, w ∈ wsX3_arrange := fun _ h => List.mem_cons_of_mem _ (List.mem_append_right _ h)
  have iX4 : ∀ w ∈ u_ws RX4 TX4 8, w ∈ wsX3_arrange := fun _ h => List.mem_cons_of_mem _ (List.mem_append_left _ (List.mem_append_right _ h))
  have hl : lv_has ls 3 [(0, .ref o0), (1, .ref g0)] := hl
  have KL92 : ∀ (n0 : Nat) (z92 : (Int32 × fl_Or)) (H : Heap) (locs : List Loc), va_P G.1 vwCl [(o0, .inr (3, [.int z92.2.1, .ref o1, .ref o2, .ref o3, .ref o4, .ref o5])), (o1, .inl (G.2.1, 48, .inl z92.2.2.1)), (o2, .inl (G.2.1, 48, .inl z92.2.2.2.1)), (o3, .inl (G.2.1, 48, .inl z92.2.2.2.2.1)), (o4, .inl (G.2.1, 48, .inl z92.2.2.2.2.2.1)), (o5, .inl (G.2.1, 49, .inl z92.2.2.2.2.2.2)), (g0, .inr (4, [.ref g1, .ref g2, .int g.2.2.1, .int g.2.2.2.1, .int g.2.2.2.2.1, .int g.2.2.2.2.2.1, .int g.2.2.2.2.2.2.1, .int g.2.2.2.2.2.2.2])), (g1, .inl (G.2.1, 48, .inl g.1)), (g2, .inl (G.2.1, 48, .inl g.2.1))] H → va_D A [(o0, .inr (3, [.int z92.2.1, .ref o1, .ref o2, .ref o3, .ref o4, .ref o5])), (o1, .inl (G.2.1, 48, .inl z92.2.2.1)), (o2, .inl (G.2.1, 48, .inl z92.2.2.2.1)), (o3, .inl (G.2.1, 48, .inl z92.2.2.2.2.1)), (o4, .inl (G.2.1, 48, .inl z92.2.2.2.2.2.1)), (o5, .inl (G.2.1, 49, .inl z92.2.2.2.2.2.2)), (g0, .inr (4, [.ref g1, .ref g2, .int g.2.2.1, .int g.2.2.2.1, .int g.2.2.2.2.1, .int g.2.2.2.2.2.1, .int g.2.2.2.2.2.2.1, .int g.2.2.2.2.2.2.2])), (g1, .inl (G.2.1, 48, .inl g.1)), (g2, .inl (G.2.1, 48, .inl g.2.1))] → va_S A s.heap H locs → ∀ (ls : Array Slot), lv_has ls 3 [(0, .ref o0), (2, .int z92.1)] → fl_loopN (P_Or_arrange_L92 g) n0 z92 = some r → W p l e (fl_rm 2 47) s m args below meth c H locs 0 0 Q (F0 m 92 ls []) := by
    intro n0
    induction n0 with
    | zero => intro z92 H locs hP hD hS ls hl hn; exact (fl_loopN_0 hn).elim
    | succ n0 ih92 =>
      intro z92 H locs hP hD hS ls hl hn
      obtain ⟨y92, hb92, hy92⟩ := fl_loopN_step hn
      clear hn
      have KJ135 : ∀ (o : fl_Or) (v2 : Int32) (H : Heap) (locs : List Loc), va_P G.1 vwCl [(o0, .inr (3, [.int o.1, .ref o1, .ref o2, .ref o3, .ref o4, .ref o5])), (o1, .inl (G.2.1, 48, .inl o.2.1)), (o2, .inl (G.2.1, 48, .inl o.2.2.1)), (o3, .inl (G.2.1, 48, .inl o.2.2.2.1)), (o4, .inl (G.2.1, 48, .inl o.2.2.2.2.1)), (o5, .inl (G.2.1, 49, .inl o.2.2.2.2.2)), (g0, .inr (4, [.ref g1, .ref g2, .int g.2.2.1, .int g.2.2.2.1, .int g.2.2.2.2.1, .int g.2.2.2.2.2.1, .int g.2.2.2.2.2.2.1, .int g.2.2.2.2.2.2.2])), (g1, .inl (G.2.1, 48, .inl g.1)), (g2, .inl (G.2.1, 48, .inl g.2.1))] H → va_D A [(o0, .inr (3, [.int o.1, .ref o1, .ref o2, .ref o3, .ref o4, .ref o5])), (o1, .inl (G.2.1, 48, .inl o.2.1)), (o2, .inl (G.2.1, 48, .inl o.2.2.1)), (o3, .inl (G.2.1, 48, .inl o.2.2.2.1)), (o4, .inl (G.2.1, 48, .inl o.2.2.2.2.1)), (o5, .inl (G.2.1, 49, .inl o.2.2.2.2.2)), (g0, .inr (4, [.ref g1, .ref g2, .int g.2.2.1, .int g.2.2.2.1, .int g.2.2.2.2.1, .int g.2.2.2.2.2.1, .int g.2.2.2.2.2.2.1, .int g.2.2.2.2.2.2.2])), (g1, .inl (G.2.1, 48, .inl g.1)), (g2, .inl (G.2.1, 48, .inl g.2.1))] → va_S A s.heap H locs → ∀ (ls : Array Slot), lv_has ls 3 [(0, .ref o0), (2, .int v2)] → P_Or_arrange_J135 o g v2 = some y92 → W p l e (fl_rm 2 47) s m args below meth c H locs 0 0 Q (F0 m 135 ls []) := by
        intro o v2 H locs hP hD hS ls hl hp
        unfold P_Or_arrange_J135 at hp
        refine lv_iinc (v := (v2 + (1 : Int32))) (lv' := [(2, .int (v2 + (1 : Int32))), (0, .ref o0)]) hx hb dX3_arrange_135 hl (k := 1) rfl rfl (by decide) rfl (fun ls hl => ?_)
        refine lv_goto (tgt := 92) hx hb dX3_arrange_138 (by decide) ?_
        obtain rfl := Option.some.inj hp
        exact ih92 ((v2 + (1 : Int32)), o) H locs hP hD hS ls (lv_sub hl [1, 0] rfl) (fl_cont_inl hy92)
      have hp := hb92
      unfold P_Or_arrange_L92 at hp
      refine lv_iload_n hx hb dX3_arrange_92 rfl (lv_at hl 1 rfl) ?_
      refine lv_aload_n hx hb dX3_arrange_93 rfl (lv_at hl 0 rfl) ?_
      refine va_get (D := G.1) (ci := 3) (v := .int z92.2.1) (C := RX3) (T := TX3) (N := 6) hx hb hts iX3 hown hK.1 hP 0 rfl rfl 0 (by decide) (hts (.fieldLink RX3 9 "SongChoir$Order" "notes" "I") (List.mem_of_getElem? (i := 9) rfl)) (fun _ h9 => h9) rfl dX3_arrange_94 ?_
      refine lv_icmp_ge (tgt := 141) hx hb dX3_arrange_97 (by decide) (fun hc => ?_) (fun hc => ?_)
      · replace hp := fl_t hc hp
        obtain rfl := Option.some.inj hp
        obtain rfl := fl_cont_inr hy92
        exact hfin H locs _ ls hP hD hS dX3_arrange_141
      · replace hp := fl_f hc hp
        refine lv_aload_n hx hb dX3_arrange_100 rfl (lv_at hl 0 rfl) ?_
        refine va_get (D := G.1) (ci := 3) (v := .ref o1) (C := RX3) (T := TX3) (N := 6) hx hb hts iX3 hown hK.1 hP 0 rfl rfl 1 (by decide) (hts (.fieldLink RX3 15 "SongChoir$Order" "ranks" "[I") (List.mem_of_getElem? (i := 10) rfl)) (fun _ h9 => h9) rfl dX3_arrange_101 ?_
        refine lv_iload_n hx hb dX3_arrange_104 rfl (lv_at hl 1 rfl) ?_
        obtain ⟨hi, hp⟩ := fl_ck_of hp
        refine va_iald hx hb hK.1 hP 1 0 rfl rfl hi dX3_arrange_105 ?_
        refine lv_if_lt (tgt := 135) hx hb dX3_arrange_106 (by decide) (fun hc => ?_) (fun hc => ?_)
        · replace hp := fl_t hc hp
          exact KJ135 z92.2 z92.1 H locs hP hD hS ls (lv_sub hl [0, 1] rfl) hp
        · replace hp := fl_f hc hp
          refine lv_aload_n hx hb dX3_arrange_109 rfl (lv_at hl 0 rfl) ?_
          refine va_get (D := G.1) (ci := 3) (v := .ref o1) (C := RX3) (T := TX3) (N := 6) hx hb hts iX3 hown hK.1 hP 0 rfl rfl 1 (by decide) (hts (.fieldLink RX3 15 "SongChoir$Order" "ranks" "[I") (List.mem_of_getElem? (i := 10) rfl)) (fun _ h9 => h9) rfl dX3_arrange_110 ?_
          refine lv_iload_n hx hb dX3_arrange_113 rfl (lv_at hl 1 rfl) ?_
          obtain ⟨hi, hp⟩ := fl_ck_of hp
          refine va_iald hx hb hK.1 hP 1 0 rfl rfl hi dX3_arrange_114 ?_
          refine lv_aload_n hx hb dX3_arrange_115 rfl (lv_at hl 0 rfl) ?_
          refine va_get (D := G.1) (ci := 3) (v := .ref o2) (C := RX3) (T := TX3) (N := 6) hx hb hts iX3 hown hK.1 hP 0 rfl rfl 2 (by decide) (hts (.fieldLink RX3 19 "SongChoir$Order" "places" "[I") (List.mem_of_getElem? (i := 14) rfl)) (fun _ h9 => h9) rfl dX3_arrange_116 ?_
          refine va_alen (v := (nI 48)) hx hb hK.1 hP 2 0 rfl rfl rfl dX3_arrange_119 ?_
          refine lv_icmp_ge (tgt := 135) hx hb dX3_arrange_120 (by decide) (fun hc => ?_) (fun hc => ?_)
          · replace hp := fl_t hc hp
            exact KJ135 z92.2 z92.1 H locs hP hD hS ls (lv_sub hl [0, 1] rfl) hp
          · replace hp := fl_f hc hp
            refine lv_aload_n hx hb dX3_arrange_123 rfl (lv_at hl 0 rfl) ?_
            refine va_get (D := G.1) (ci := 3) (v := .ref o2) (C := RX3) (T := TX3) (N := 6) hx hb hts iX3 hown hK.1 hP 0 rfl rfl 2 (by decide) (hts (.fieldLink RX3 19 "SongChoir$Order" "places" "[I") (List.mem_of_getElem? (i := 14) rfl)) (fun _ h9 => h9) rfl dX3_arrange_124 ?_
            refine lv_aload_n hx hb dX3_arrange_127 rfl (lv_at hl 0 rfl) ?_
            refine va_get (D := G.1) (ci := 3) (v := .ref o1) (C := RX3) (T := TX3) (N := 6) hx hb hts iX3 hown hK.1 hP 0 rfl rfl 1 (by decide) (hts (.fieldLink RX3 15 "SongChoir$Order" "ranks" "[I") (List.mem_of_getElem? (i := 10) rfl)) (fun _ h9 => h9) rfl dX3_arrange_128 ?_
            refine lv_iload_n hx hb dX3_arrange_131 rfl (lv_at hl 1 rfl) ?_
            obtain ⟨hi, hp⟩ := fl_ck_of hp
            refine va_iald hx hb hK.1 hP 1 0 rfl rfl hi dX3_arrange_132 ?_
            refine lv_iload_n hx hb dX3_arrange_133 rfl (lv_at hl 1 rfl) ?_
            obtain ⟨hi, hp⟩ := fl_ck_of hp
            refine va_iast hx hb hK.1 hP hD hS 2 0 rfl rfl hi dX3_arrange_134 (fun H locs hP hD hS => ?_)
            have hP : va_P G.1 vwCl [(o0, .inr (3, [.int z92.2.1, .ref o1, .ref o2, .ref o3, .ref o4, .ref o5])), (o1, .inl (G.2.1, 48, .inl z92.2.2.1)), (o2, .inl (G.2.1, 48, .inl (upd z92.2.2.2.1 (z92.2.2.1 z92.1.toNatClampNeg).toNatClampNeg z92.1))), (o3, .inl (G.2.1, 48, .inl z92.2.2.2.2.1)), (o4, .inl (G.2.1, 48, .inl z92.2.2.2.2.2.1)), (o5, .inl (G.2.1, 49, .inl z92.2.2.2.2.2.2)), (g0, .inr (4, [.ref g1, .ref g2, .int g.2.2.1, .int g.2.2.2.1, .int g.2.2.2.2.1, .int g.2.2.2.2.2.1, .int g.2.2.2.2.2.2.1, .int g.2.2.2.2.2.2.2])), (g1, .inl (G.2.1, 48, .inl g.1)), (g2, .inl (G.2.1, 48, .inl g.2.1))] H := hP
            have hD : va_D A [(o0, .inr (3, [.int z92.2.1, .ref o1, .ref o2, .ref o3, .ref o4, .ref o5])), (o1, .inl (G.2.1, 48, .inl z92.2.2.1)), (o2, .inl (G.2.1, 48, .inl (upd z92.2.2.2.1 (z92.2.2.1 z92.1.toNatClampNeg).toNatClampNeg z92.1))), (o3, .inl (G.2.1, 48, .inl z92.2.2.2.2.1)), (o4, .inl (G.2.1, 48, .inl z92.2.2.2.2.2.1)), (o5, .inl (G.2.1, 49, .inl z92.2.2.2.2.2.2)), (g0, .inr (4, [.ref g1, .ref g2, .int g.2.2.1, .int g.2.2.2.1, .int g.2.2.2.2.1, .int g.2.2.2.2.2.1, .int g.2.2.2.2.2.2.1, .int g.2.2.2.2.2.2.2])), (g1, .inl (G.2.1, 48, .inl g.1)), (g2, .inl (G.2.1, 48, .inl g.2.1))] := hD
            exact KJ135 (z92.2.1, z92.2.2.1, (upd z92.2.2.2.1 (z92.2.2.1 z92.1.toNatClampNeg).toNatClampNeg z92.1), z92.2.2.2.2.1, z92.2.2.2.2.2.1, z92.2.2.2.2.2.2) z92.1 H locs hP hD hS ls (lv_sub hl [0, 1] rfl) hp
  have KJ90 : ∀ (o : fl_Or) (H : Heap) (locs : List Loc), va_P G.1 vwCl [(o0, .inr (3, [.int o.1, .ref o1, .ref o2, .ref o3, .ref o4, .ref o5])), (o1, .inl (G.2.1, 48, .inl o.2.1)), (o2, .inl (G.2.1, 48, .inl o.2.2.1)), (o3, .inl (G.2.1, 48, .inl o.2.2.2.1)), (o4, .inl (G.2.1, 48, .inl o.2.2.2.2.1)), (o5, .inl (G.2.1, 49, .inl o.2.2.2.2.2)), (g0, .inr (4, [.ref g1, .ref g2, .int g.2.2.1, .int g.2.2.2.1, .int g.2.2.2.2.1, .int g.2.2.2.2.2.1, .int g.2.2.2.2.2.2.1, .int g.2.2.2.2.2.2.2])), (g1, .inl (G.2.1, 48, .inl g.1)), (g2, .inl (G.2.1, 48, .inl g.2.1))] H → va_D A [(o0, .inr (3, [.int o.1, .ref o1, .ref o2, .ref o3, .ref o4, .ref o5])), (o1, .inl (G.2.1, 48, .inl o.2.1)), (o2, .inl (G.2.1, 48, .inl o.2.2.1)), (o3, .inl (G.2.1, 48, .inl o.2.2.2.1)), (o4, .inl (G.2.1, 48, .inl o.2.2.2.2.1)), (o5, .inl (G.2.1, 49, .inl o.2.2.2.2.2)), (g0, .inr (4, [.ref g1, .ref g2, .int g.2.2.1, .int g.2.2.2.1, .int g.2.2.2.2.1, .int g.2.2.2.2.2.1, .int g.2.2.2.2.2.2.1, .int g.2.2.2.2.2.2.2])), (g1, .inl (G.2.1, 48, .inl g.1)), (g2, .inl (G.2.1, 48, .inl g.2.1))] → va_S A s.heap H locs → ∀ (ls : Array Slot), lv_has ls 3 [(0, .ref o0)] → P_Or_arrange_J90 o g = some r → W p l e (fl_rm 2 47) s m args below meth c H locs 0 0 Q (F0 m 90 ls []) := by
    intro o H locs hP hD hS ls hl hp
    unfold P_Or_arrange_J90 at hp
    refine lv_iconst (v := (0 : Int32)) hx hb dX3_arrange_90 (by decide) ?_
    refine lv_istore_n (lv' := [(2, .int (0 : Int32)), (0, .ref o0)]) hx hb dX3_arrange_91 rfl hl (by decide) rfl (fun ls hl => ?_)
    obtain ⟨n0, hn⟩ := fl_loop_ex hp
    exact KL92 n0 ((0 : Int32), o) H locs hP hD hS ls (lv_sub hl [1, 0] rfl) hn
  have KL71 : ∀ (n0 : Nat) (z71 : (Int32 × fl_Or)) (H : Heap) (locs : List Loc), va_P G.1 vwCl [(o0, .inr (3, [.int z71.2.1, .ref o1, .ref o2, .ref o3, .ref o4, .ref o5])), (o1, .inl (G.2.1, 48, .inl z71.2.2.1)), (o2, .inl (G.2.1, 48, .inl z71.2.2.2.1)), (o3, .inl (G.2.1, 48, .inl z71.2.2.2.2.1)), (o4, .inl (G.2.1, 48, .inl z71.2.2.2.2.2.1)), (o5, .inl (G.2.1, 49, .inl z71.2.2.2.2.2.2)), (g0, .inr (4, [.ref g1, .ref g2, .int g.2.2.1, .int g.2.2.2.1, .int g.2.2.2.2.1, .int g.2.2.2.2.2.1, .int g.2.2.2.2.2.2.1, .int g.2.2.2.2.2.2.2])), (g1, .inl (G.2.1, 48, .inl g.1)), (g2, .inl (G.2.1, 48, .inl g.2.1))] H → va_D A [(o0, .inr (3, [.int z71.2.1, .ref o1, .ref o2, .ref o3, .ref o4, .ref o5])), (o1, .inl (G.2.1, 48, .inl z71.2.2.1)), (o2, .inl (G.2.1, 48, .inl z71.2.2.2.1)), (o3, .inl (G.2.1, 48, .inl z71.2.2.2.2.1)), (o4, .inl (G.2.1, 48, .inl z71.2.2.2.2.2.1)), (o5, .inl (G.2.1, 49, .inl z71.2.2.2.2.2.2)), (g0, .inr (4, [.ref g1, .ref g2, .int g.2.2.1, .int g.2.2.2.1, .int g.2.2.2.2.1, .int g.2.2.2.2.2.1, .int g.2.2.2.2.2.2.1, .int g.2.2.2.2.2.2.2])), (g1, .inl (G.2.1, 48, .inl g.1)), (g2, .inl (G.2.1, 48, .inl g.2.1))] → va_S A s.heap H locs → ∀ (ls : Array Slot), lv_has ls 3 [(0, .ref o0), (1, .ref g0), (2, .int z71.1)] → fl_loopN (P_Or_arrange_L71 g) n0 z71 = some r → W p l e (fl_rm 2 47) s m args below meth c H locs 0 0 Q (F0 m 71 ls []) := by
    intro n0
    induction n0 with
    | zero => intro z71 H locs hP hD hS ls hl hn; exact (fl_loopN_0 hn).elim
    | succ n0 ih71 =>
      intro z71 H locs hP hD hS ls hl hn
      obtain ⟨y71, hb71, hy71⟩ := fl_loopN_step hn
      clear hn
      have hp := hb71
      unfold P_Or_arrange_L71 at hp
      refine lv_iload_n hx hb dX3_arrange_71 rfl (lv_at hl 2 rfl) ?_
      refine lv_if_lt (tgt := 90) hx hb dX3_arrange_72 (by decide) (fun hc => ?_) (fun hc => ?_)
      · replace hp := fl_t hc hp
        obtain ⟨_, hu0, rfl⟩ := fl_up_of hp
        obtain rfl := fl_cont_inr hy71
        exact KJ90 z71.2 H locs hP hD hS ls (lv_sub hl [0] rfl) hu0
      · replace hp := fl_f hc hp
        refine lv_aload_n hx hb dX3_arrange_75 rfl (lv_at hl 0 rfl) ?_
        refine lv_aload_n hx hb dX3_arrange_76 rfl (lv_at hl 1 rfl) ?_
        refine va_getN (D := G.1) (ci := 4) (v := .ref g1) (C := RX4) (T := TX4) (N := 8) hx hb hts iX4 hown hK.1 hP 6 rfl rfl 0 (by decide) (va_Nw.use rfl hK.2.2.1) (fun _ h9 => h9) rfl dX3_arrange_77 ?_
        refine lv_iload_n hx hb dX3_arrange_80 rfl (lv_at hl 2 rfl) ?_
        obtain ⟨q1, hq1, hp⟩ := fl_bd_of hp
        refine fl_muV (As := [.ref g1, .int z71.1]) (rest := []) [(o0, .inr (3, [.int q1.1, .ref o1, .ref o2, .ref o3, .ref o4, .ref o5])), (o1, .inl (G.2.1, 48, .inl q1.2.1)), (o2, .inl (G.2.1, 48, .inl q1.2.2.1)), (o3, .inl (G.2.1, 48, .inl q1.2.2.2.1)), (o4, .inl (G.2.1, 48, .inl q1.2.2.2.2.1)), (o5, .inl (G.2.1, 49, .inl q1.2.2.2.2.2)), (g0, .inr (4, [.ref g1, .ref g2, .int g.2.2.1, .int g.2.2.2.1, .int g.2.2.2.2.1, .int g.2.2.2.2.2.1, .int g.2.2.2.2.2.2.1, .int g.2.2.2.2.2.2.2])), (g1, .inl (G.2.1, 48, .inl g.1)), (g2, .inl (G.2.1, 48, .inl g.2.1))] C0 (c_Or_compareWithLater l G o0 o1 o2 o3 o4 o5 g1 z71.2 g.1 z71.1 hq1) (cwV 2 hts gX3_arrange_X3_compareWithLater rfl rfl rfl (by decide +kernel) ⟨Nat.le_of_ble_eq_true rfl, Nat.le_of_ble_eq_true rfl⟩) hK hP hD [0, 1, 2, 3, 4, 5, 7] [6, 8] [2, 3, 4, 5, 6, 7, 0, 8, 1] rfl rfl (by decide) (by decide) rfl 0 3 rfl rfl rfl hS hA rfl hl.1 rfl (Nat.le_of_ble_eq_true rfl) dX3_arrange_81 ⟨Nat.zero_le _, Nat.zero_le _⟩ (fun H locs hP hD hS => ?_)
        refine lv_iinc (v := (z71.1 + (-1 : Int32))) (lv' := [(2, .int (z71.1 + (-1 : Int32))), (0, .ref o0), (1, .ref g0)]) hx hb dX3_arrange_84 hl (k := 2) rfl rfl (by decide) rfl (fun ls hl => ?_)
        refine lv_goto (tgt := 71) hx hb dX3_arrange_87 (by decide) ?_
        obtain rfl := Option.some.inj hp
        exact ih71 ((z71.1 + (-1 : Int32)), q1) H locs hP hD hS ls (lv_sub hl [1, 2, 0] rfl) (fl_cont_inl hy71)
  have KJ54 : ∀ (o : fl_Or) (H : Heap) (locs : List Loc), va_P G.1 vwCl [(o0, .inr (3, [.int o.1, .ref o1, .ref o2, .ref o3, .ref o4, .ref o5])), (o1, .inl (G.2.1, 48, .inl o.2.1)), (o2, .inl (G.2.1, 48, .inl o.2.2.1)), (o3, .inl (G.2.1, 48, .inl o.2.2.2.1)), (o4, .inl (G.2.1, 48, .inl o.2.2.2.2.1)), (o5, .inl (G.2.1, 49, .inl o.2.2.2.2.2)), (g0, .inr (4, [.ref g1, .ref g2, .int g.2.2.1, .int g.2.2.2.1, .int g.2.2.2.2.1, .int g.2.2.2.2.2.1, .int g.2.2.2.2.2.2.1, .int g.2.2.2.2.2.2.2])), (g1, .inl (G.2.1, 48, .inl g.1)), (g2, .inl (G.2.1, 48, .inl g.2.1))] H → va_D A [(o0, .inr (3, [.int o.1, .ref o1, .ref o2, .ref o3, .ref o4, .ref o5])), (o1, .inl (G.2.1, 48, .inl o.2.1)), (o2, .inl (G.2.1, 48, .inl o.2.2.1)), (o3, .inl (G.2.1, 48, .inl o.2.2.2.1)), (o4, .inl (G.2.1, 48, .inl o.2.2.2.2.1)), (o5, .inl (G.2.1, 49, .inl o.2.2.2.2.2)), (g0, .inr (4, [.ref g1, .ref g2, .int g.2.2.1, .int g.2.2.2.1, .int g.2.2.2.2.1, .int g.2.2.2.2.2.1, .int g.2.2.2.2.2.2.1, .int g.2.2.2.2.2.2.2])), (g1, .inl (G.2.1, 48, .inl g.1)), (g2, .inl (G.2.1, 48, .inl g.2.1))] → va_S A s.heap H locs → ∀ (ls : Array Slot), lv_has ls 3 [(0, .ref o0), (1, .ref g0)] → P_Or_arrange_J54 o g = some r → W p l e (fl_rm 2 47) s m args below meth c H locs 0 0 Q (F0 m 54 ls []) := by
    intro o H locs hP hD hS ls hl hp
    unfold P_Or_arrange_J54 at hp
    refine lv_aload_n hx hb dX3_arrange_54 rfl (lv_at hl 0 rfl) ?_
    refine va_get (D := G.1) (ci := 3) (v := .ref o5) (C := RX3) (T := TX3) (N := 6) hx hb hts iX3 hown hK.1 hP 0 rfl rfl 5 (by decide) (hts (.fieldLink RX3 28 "SongChoir$Order" "runs" "[I") (List.mem_of_getElem? (i := 13) rfl)) (fun _ h9 => h9) rfl dX3_arrange_55 ?_
    refine lv_aload_n hx hb dX3_arrange_58 rfl (lv_at hl 0 rfl) ?_
    refine va_get (D := G.1) (ci := 3) (v := .int o.1) (C := RX3) (T := TX3) (N := 6) hx hb hts iX3 hown hK.1 hP 0 rfl rfl 0 (by decide) (hts (.fieldLink RX3 9 "SongChoir$Order" "notes" "I") (List.mem_of_getElem? (i := 9) rfl)) (fun _ h9 => h9) rfl dX3_arrange_59 ?_
    refine lv_iconst (v := (0 : Int32)) hx hb dX3_arrange_62 (by decide) ?_
    obtain ⟨hi, hp⟩ := fl_ck_of hp
    refine va_iast hx hb hK.1 hP hD hS 5 0 rfl rfl hi dX3_arrange_63 (fun H locs hP hD hS => ?_)
    have hP : va_P G.1 vwCl [(o0, .inr (3, [.int o.1, .ref o1, .ref o2, .ref o3, .ref o4, .ref o5])), (o1, .inl (G.2.1, 48, .inl o.2.1)), (o2, .inl (G.2.1, 48, .inl o.2.2.1)), (o3, .inl (G.2.1, 48, .inl o.2.2.2.1)), (o4, .inl (G.2.1, 48, .inl o.2.2.2.2.1)), (o5, .inl (G.2.1, 49, .inl (upd o.2.2.2.2.2 o.1.toNatClampNeg (0 : Int32)))), (g0, .inr (4, [.ref g1, .ref g2, .int g.2.2.1, .int g.2.2.2.1, .int g.2.2.2.2.1, .int g.2.2.2.2.2.1, .int g.2.2.2.2.2.2.1, .int g.2.2.2.2.2.2.2])), (g1, .inl (G.2.1, 48, .inl g.1)), (g2, .inl (G.2.1, 48, .inl g.2.1))] H := hP
    have hD : va_D A [(o0, .inr (3, [.int o.1, .ref o1, .ref o2, .ref o3, .ref o4, .ref o5])), (o1, .inl (G.2.1, 48, .inl o.2.1)), (o2, .inl (G.2.1, 48, .inl o.2.2.1)), (o3, .inl (G.2.1, 48, .inl o.2.2.2.1)), (o4, .inl (G.2.1, 48, .inl o.2.2.2.2.1)), (o5, .inl (G.2.1, 49, .inl (upd o.2.2.2.2.2 o.1.toNatClampNeg (0 : Int32)))), (g0, .inr (4, [.ref g1, .ref g2, .int g.2.2.1, .int g.2.2.2.1, .int g.2.2.2.2.1, .int g.2.2.2.2.2.1, .int g.2.2.2.2.2.2.1, .int g.2.2.2.2.2.2.2])), (g1, .inl (G.2.1, 48, .inl g.1)), (g2, .inl (G.2.1, 48, .inl g.2.1))] := hD
    refine lv_aload_n hx hb dX3_arrange_64 rfl (lv_at hl 0 rfl) ?_
    refine va_get (D := G.1) (ci := 3) (v := .int o.1) (C := RX3) (T := TX3) (N := 6) hx hb hts iX3 hown hK.1 hP 0 rfl rfl 0 (by decide) (hts (.fieldLink RX3 9 "SongChoir$Order" "notes" "I") (List.mem_of_getElem? (i := 9) rfl)) (fun _ h9 => h9) rfl dX3_arrange_65 ?_
    refine lv_iconst (v := (1 : Int32)) hx hb dX3_arrange_68 (by decide) ?_
    refine lv_isub hx hb dX3_arrange_69 ?_
    refine lv_istore_n (lv' := [(2, .int (o.1 - (1 : Int32))), (0, .ref o0), (1, .ref g0)]) hx hb dX3_arrange_70 rfl hl (by decide) rfl (fun ls hl => ?_)
    obtain ⟨n0, hn⟩ := fl_loop_ex hp
    exact KL71 n0 ((o.1 - (1 : Int32)), (o.1, o.2.1, o.2.2.1, o.2.2.2.1, o.2.2.2.2.1, (upd o.2.2.2.2.2 o.1.toNatClampNeg (0 : Int32)))) H locs hP hD hS ls (lv_sub hl [1, 2, 0] rfl) hn
  have KL19 : ∀ (n0 : Nat) (z19 : (Int32 × fl_Or)) (H : Heap) (locs : List Loc), va_P G.1 vwCl [(o0, .inr (3, [.int z19.2.1, .ref o1, .ref o2, .ref o3, .ref o4, .ref o5])), (o1, .inl (G.2.1, 48, .inl z19.2.2.1)), (o2, .inl (G.2.1, 48, .inl z19.2.2.2.1)), (o3, .inl (G.2.1, 48, .inl z19.2.2.2.2.1)), (o4, .inl (G.2.1, 48, .inl z19.2.2.2.2.2.1)), (o5, .inl (G.2.1, 49, .inl z19.2.2.2.2.2.2)), (g0, .inr (4, [.ref g1, .ref g2, .int g.2.2.1, .int g.2.2.2.1, .int g.2.2.2.2.1, .int g.2.2.2.2.2.1, .int g.2.2.2.2.2.2.1, .int g.2.2.2.2.2.2.2])), (g1, .inl (G.2.1, 48, .inl g.1)), (g2, .inl (G.2.1, 48, .inl g.2.1))] H → va_D A [(o0, .inr (3, [.int z19.2.1, .ref o1, .ref o2, .ref o3, .ref o4, .ref o5])), (o1, .inl (G.2.1, 48, .inl z19.2.2.1)), (o2, .inl (G.2.1, 48, .inl z19.2.2.2.1)), (o3, .inl (G.2.1, 48, .inl z19.2.2.2.2.1)), (o4, .inl (G.2.1, 48, .inl z19.2.2.2.2.2.1)), (o5, .inl (G.2.1, 49, .inl z19.2.2.2.2.2.2)), (g0, .inr (4, [.ref g1, .ref g2, .int g.2.2.1, .int g.2.2.2.1, .int g.2.2.2.2.1, .int g.2.2.2.2.2.1, .int g.2.2.2.2.2.2.1, .int g.2.2.2.2.2.2.2])), (g1, .inl (G.2.1, 48, .inl g.1)), (g2, .inl (G.2.1, 48, .inl g.2.1))] → va_S A s.heap H locs → ∀ (ls : Array Slot), lv_has ls 3 [(0, .ref o0), (1, .ref g0), (2, .int z19.1)] → fl_loopN (P_Or_arrange_L19 g) n0 z19 = some r → W p l e (fl_rm 2 47) s m args below meth c H locs 0 0 Q (F0 m 19 ls []) := by
    intro n0
    induction n0 with
    | zero => intro z19 H locs hP hD hS ls hl hn; exact (fl_loopN_0 hn).elim
    | succ n0 ih19 =>
      intro z19 H locs hP hD hS ls hl hn
      obtain ⟨y19, hb19, hy19⟩ := fl_loopN_step hn
      clear hn
      have hp := hb19
      unfold P_Or_arrange_L19 at hp
      refine lv_iload_n hx hb dX3_arrange_19 rfl (lv_at hl 2 rfl) ?_
      refine lv_aload_n hx hb dX3_arrange_20 rfl (lv_at hl 0 rfl) ?_
      refine va_get (D := G.1) (ci := 3) (v := .int z19.2.1) (C := RX3) (T := TX3) (N := 6) hx hb hts iX3 hown hK.1 hP 0 rfl rfl 0 (by decide) (hts (.fieldLink RX3 9 "SongChoir$Order" "notes" "I") (List.mem_of_getElem? (i := 9) rfl)) (fun _ h9 => h9) rfl dX3_arrange_21 ?_
      refine lv_icmp_ge (tgt := 54) hx hb dX3_arrange_24 (by decide) (fun hc => ?_) (fun hc => ?_)
      · replace hp := fl_t hc hp
        obtain ⟨_, hu0, rfl⟩ := fl_up_of hp
        obtain rfl := fl_cont_inr hy19
        exact KJ54 z19.2 H locs hP hD hS ls (lv_sub hl [0, 1] rfl) hu0
      · replace hp := fl_f hc hp
        refine lv_aload_n hx hb dX3_arrange_27 rfl (lv_at hl 0 rfl) ?_
        refine va_get (D := G.1) (ci := 3) (v := .ref o1) (C := RX3) (T := TX3) (N := 6) hx hb hts iX3 hown hK.1 hP 0 rfl rfl 1 (by decide) (hts (.fieldLink RX3 15 "SongChoir$Order" "ranks" "[I") (List.mem_of_getElem? (i := 10) rfl)) (fun _ h9 => h9) rfl dX3_arrange_28 ?_
        refine lv_iload_n hx hb dX3_arrange_31 rfl (lv_at hl 2 rfl) ?_
        refine lv_iconst (v := (0 : Int32)) hx hb dX3_arrange_32 (by decide) ?_
        obtain ⟨hi, hp⟩ := fl_ck_of hp
        refine va_iast hx hb hK.1 hP hD hS 1 0 rfl rfl hi dX3_arrange_33 (fun H locs hP hD hS => ?_)
        have hP : va_P G.1 vwCl [(o0, .inr (3, [.int z19.2.1, .ref o1, .ref o2, .ref o3, .ref o4, .ref o5])), (o1, .inl (G.2.1, 48, .inl (upd z19.2.2.1 z19.1.toNatClampNeg (0 : Int32)))), (o2, .inl (G.2.1, 48, .inl z19.2.2.2.1)), (o3, .inl (G.2.1, 48, .inl z19.2.2.2.2.1)), (o4, .inl (G.2.1, 48, .inl z19.2.2.2.2.2.1)), (o5, .inl (G.2.1, 49, .inl z19.2.2.2.2.2.2)), (g0, .inr (4, [.ref g1, .ref g2, .int g.2.2.1, .int g.2.2.2.1, .int g.2.2.2.2.1, .int g.2.2.2.2.2.1, .int g.2.2.2.2.2.2.1, .int g.2.2.2.2.2.2.2])), (g1, .inl (G.2.1, 48, .inl g.1)), (g2, .inl (G.2.1, 48, .inl g.2.1))] H := hP
        have hD : va_D A [(o0, .inr (3, [.int z19.2.1, .ref o1, .ref o2, .ref o3, .ref o4, .ref o5])), (o1, .inl (G.2.1, 48, .inl (upd z19.2.2.1 z19.1.toNatClampNeg (0 : Int32)))), (o2, .inl (G.2.1, 48, .inl z19.2.2.2.1)), (o3, .inl (G.2.1, 48, .inl z19.2.2.2.2.1)), (o4, .inl (G.2.1, 48, .inl z19.2.2.2.2.2.1)), (o5, .inl (G.2.1, 49, .inl z19.2.2.2.2.2.2)), (g0, .inr (4, [.ref g1, .ref g2, .int g.2.2.1, .int g.2.2.2.1, .int g.2.2.2.2.1, .int g.2.2.2.2.2.1, .int g.2.2.2.2.2.2.1, .int g.2.2.2.2.2.2.2])), (g1, .inl (G.2.1, 48, .inl g.1)), (g2, .inl (G.2.1, 48, .inl g.2.1))] := hD
        refine lv_aload_n hx hb dX3_arrange_34 rfl (lv_at hl 0 rfl) ?_
        refine va_get (D := G.1) (ci := 3) (v := .ref o3) (C := RX3) (T := TX3) (N := 6) hx hb hts iX3 hown hK.1 hP 0 rfl rfl 3 (by decide) (hts (.fieldLink RX3 22 "SongChoir$Order" "shared" "[I") (List.mem_of_getElem? (i := 11) rfl)) (fun _ h9 => h9) rfl dX3_arrange_35 ?_
        refine lv_iload_n hx hb dX3_arrange_38 rfl (lv_at hl 2 rfl) ?_
        refine lv_iconst (v := (0 : Int32)) hx hb dX3_arrange_39 (by decide) ?_
        obtain ⟨hi, hp⟩ := fl_ck_of hp
        refine va_iast hx hb hK.1 hP hD hS 3 0 rfl rfl hi dX3_arrange_40 (fun H locs hP hD hS => ?_)
        have hP : va_P G.1 vwCl [(o0, .inr (3, [.int z19.2.1, .ref o1, .ref o2, .ref o3, .ref o4, .ref o5])), (o1, .inl (G.2.1, 48, .inl (upd z19.2.2.1 z19.1.toNatClampNeg (0 : Int32)))), (o2, .inl (G.2.1, 48, .inl z19.2.2.2.1)), (o3, .inl (G.2.1, 48, .inl (upd z19.2.2.2.2.1 z19.1.toNatClampNeg (0 : Int32)))), (o4, .inl (G.2.1, 48, .inl z19.2.2.2.2.2.1)), (o5, .inl (G.2.1, 49, .inl z19.2.2.2.2.2.2)), (g0, .inr (4, [.ref g1, .ref g2, .int g.2.2.1, .int g.2.2.2.1, .int g.2.2.2.2.1, .int g.2.2.2.2.2.1, .int g.2.2.2.2.2.2.1, .int g.2.2.2.2.2.2.2])), (g1, .inl (G.2.1, 48, .inl g.1)), (g2, .inl (G.2.1, 48, .inl g.2.1))] H := hP
        have hD : va_D A [(o0, .inr (3, [.int z19.2.1, .ref o1, .ref o2, .ref o3, .ref o4, .ref o5])), (o1, .inl (G.2.1, 48, .inl (upd z19.2.2.1 z19.1.toNatClampNeg (0 : Int32)))), (o2, .inl (G.2.1, 48, .inl z19.2.2.2.1)), (o3, .inl (G.2.1, 48, .inl (upd z19.2.2.2.2.1 z19.1.toNatClampNeg (0 : Int32)))), (o4, .inl (G.2.1, 48, .inl z19.2.2.2.2.2.1)), (o5, .inl (G.2.1, 49, .inl z19.2.2.2.2.2.2)), (g0, .inr (4, [.ref g1, .ref g2, .int g.2.2.1, .int g.2.2.2.1, .int g.2.2.2.2.1, .int g.2.2.2.2.2.1, .int g.2.2.2.2.2.2.1, .int g.2.2.2.2.2.2.2])), (g1, .inl (G.2.1, 48, .inl g.1)), (g2, .inl (G.2.1, 48, .inl g.2.1))] := hD
        refine lv_aload_n hx hb dX3_arrange_41 rfl (lv_at hl 0 rfl) ?_
        refine va_get (D := G.1) (ci := 3) (v := .ref o4) (C := RX3) (T := TX3) (N := 6) hx hb hts iX3 hown hK.1 hP 0 rfl rfl 4 (by decide) (hts (.fieldLink RX3 25 "SongChoir$Order" "repeats" "[I") (List.mem_of_getElem? (i := 12) rfl)) (fun _ h9 => h9) rfl dX3_arrange_42 ?_
        refine lv_iload_n hx hb dX3_arrange_45 rfl (lv_at hl 2 rfl) ?_
        refine lv_iconst (v := (0 : Int32)) hx hb dX3_arrange_46 (by decide) ?_
        obtain ⟨hi, hp⟩ := fl_ck_of hp
        refine va_iast hx hb hK.1 hP hD hS 4 0 rfl rfl hi dX3_arrange_47 (fun H locs hP hD hS => ?_)
        have hP : va_P G.1 vwCl [(o0, .inr (3, [.int z19.2.1, .ref o1, .ref o2, .ref o3, .ref o4, .ref o5])), (o1, .inl (G.2.1, 48, .inl (upd z19.2.2.1 z19.1.toNatClampNeg (0 : Int32)))), (o2, .inl (G.2.1, 48, .inl z19.2.2.2.1)), (o3, .inl (G.2.1, 48, .inl (upd z19.2.2.2.2.1 z19.1.toNatClampNeg (0 : Int32)))), (o4, .inl (G.2.1, 48, .inl (upd z19.2.2.2.2.2.1 z19.1.toNatClampNeg (0 : Int32)))), (o5, .inl (G.2.1, 49, .inl z19.2.2.2.2.2.2)), (g0, .inr (4, [.ref g1, .ref g2, .int g.2.2.1, .int g.2.2.2.1, .int g.2.2.2.2.1, .int g.2.2.2.2.2.1, .int g.2.2.2.2.2.2.1, .int g.2.2.2.2.2.2.2])), (g1, .inl (G.2.1, 48, .inl g.1)), (g2, .inl (G.2.1, 48, .inl g.2.1))] H := hP
        have hD : va_D A [(o0, .inr (3, [.int z19.2.1, .ref o1, .ref o2, .ref o3, .ref o4, .ref o5])), (o1, .inl (G.2.1, 48, .inl (upd z19.2.2.1 z19.1.toNatClampNeg (0 : Int32)))), (o2, .inl (G.2.1, 48, .inl z19.2.2.2.1)), (o3, .inl (G.2.1, 48, .inl (upd z19.2.2.2.2.1 z19.1.toNatClampNeg (0 : Int32)))), (o4, .inl (G.2.1, 48, .inl (upd z19.2.2.2.2.2.1 z19.1.toNatClampNeg (0 : Int32)))), (o5, .inl (G.2.1, 49, .inl z19.2.2.2.2.2.2)), (g0, .inr (4, [.ref g1, .ref g2, .int g.2.2.1, .int g.2.2.2.1, .int g.2.2.2.2.1, .int g.2.2.2.2.2.1, .int g.2.2.2.2.2.2.1, .int g.2.2.2.2.2.2.2])), (g1, .inl (G.2.1, 48, .inl g.1)), (g2, .inl (G.2.1, 48, .inl g.2.1))] := hD
        refine lv_iinc (v := (z19.1 + (1 : Int32))) (lv' := [(2, .int (z19.1 + (1 : Int32))), (0, .ref o0), (1, .ref g0)]) hx hb dX3_arrange_48 hl (k := 2) rfl rfl (by decide) rfl (fun ls hl => ?_)
        refine lv_goto (tgt := 19) hx hb dX3_arrange_51 (by decide) ?_
        obtain rfl := Option.some.inj hp
        exact ih19 ((z19.1 + (1 : Int32)), (z19.2.1, (upd z19.2.2.1 z19.1.toNatClampNeg (0 : Int32)), z19.2.2.2.1, (upd z19.2.2.2.2.1 z19.1.toNatClampNeg (0 : Int32)), (upd z19.2.2.2.2.2.1 z19.1.toNatClampNeg (0 : Int32)), z19.2.2.2.2.2.2)) H locs hP hD hS ls (lv_sub hl [1, 2, 0] rfl) (fl_cont_inl hy19)
  have hp := hp0
  unfold P_Or_arrange at hp
  refine lv_aload_n hx hb dX3_arrange_0 rfl (lv_at hl 0 rfl) ?_
  refine lv_iconst (v := (0 : Int32)) hx hb dX3_arrange_1 (by decide) ?_
  refine lv_aload_n hx hb dX3_arrange_2 rfl (lv_at hl 1 rfl) ?_
  refine va_get (D := G.1) (ci := 4) (v := .int g.2.2.1) (C := RX4) (T := TX4) (N := 8) hx hb hts iX4 hown hK.1 hP 6 rfl rfl 2 (by decide) (hts (.fieldLink RX3 35 "SongChoir$Song" "notes" "I") (List.mem_of_getElem? (i := 1) rfl)) (fun _ h9 => h9) rfl dX3_arrange_3 ?_
  refine lv_bipush (v := (48 : Int32)) hx hb dX3_arrange_6 (by decide) ?_
  refine va_mmin hx hb (hml.trans hl.1.symm) hown (hts (.methodLink RX3 38 Lib.Math.min.name) (List.mem_of_getElem? (i := 2) rfl)) (hts (.static Lib.Math.min.name) (List.mem_of_getElem? (i := 3) rfl)) (hts (.initialized "java/lang/Math") (List.mem_of_getElem? (i := 4) rfl)) (hts (.code Lib.Math.min.name Lib.Math.min.code 2 (some .int)) (List.mem_of_getElem? (i := 5) rfl)) (Nat.le_of_ble_eq_true rfl) (Nat.le_of_ble_eq_true rfl) (Nat.zero_le _) (Nat.zero_le _) dX3_arrange_8 ?_
  refine va_mmax hx hb (hml.trans hl.1.symm) hown (hts (.methodLink RX3 44 Lib.Math.max.name) (List.mem_of_getElem? (i := 6) rfl)) (hts (.static Lib.Math.max.name) (List.mem_of_getElem? (i := 7) rfl)) (hts (.initialized "java/lang/Math") (List.mem_of_getElem? (i := 4) rfl)) (hts (.code Lib.Math.max.name Lib.Math.max.code 2 (some .int)) (List.mem_of_getElem? (i := 8) rfl)) (Nat.le_of_ble_eq_true rfl) (Nat.le_of_ble_eq_true rfl) (Nat.zero_le _) (Nat.zero_le _) dX3_arrange_11 ?_
  refine va_put (D := G.1) (ci := 3) (v := .int (fl_mx (0 : Int32) (fl_mn g.2.2.1 (48 : Int32)))) (ty := .int) (C := RX3) (T := TX3) (N := 6) hx hb hts iX3 tyX3 tyX3_ok nmX3 hown hK.1 hP hD hS 0 rfl rfl 0 (by decide) (hts (.fieldLink RX3 9 "SongChoir$Order" "notes" "I") (List.mem_of_getElem? (i := 9) rfl)) (fun _ h9 => h9) rfl (by decide +kernel) rfl rfl (Nat.le_of_ble_eq_true rfl) dX3_arrange_14 (fun H locs hP hD hS => ?_)
  have hP : va_P G.1 vwCl [(o0, .inr (3, [.int (fl_mx (0 : Int32) (fl_mn g.2.2.1 (48 : Int32))), .ref o1, .ref o2, .ref o3, .ref o4, .ref o5])), (o1, .inl (G.2.1, 48, .inl o.2.1)), (o2, .inl (G.2.1, 48, .inl o.2.2.1)), (o3, .inl (G.2.1, 48, .inl o.2.2.2.1)), (o4, .inl (G.2.1, 48, .inl o.2.2.2.2.1)), (o5, .inl (G.2.1, 49, .inl o.2.2.2.2.2)), (g0, .inr (4, [.ref g1, .ref g2, .int g.2.2.1, .int g.2.2.2.1, .int g.2.2.2.2.1, .int g.2.2.2.2.2.1, .int g.2.2.2.2.2.2.1, .int g.2.2.2.2.2.2.2])), (g1, .inl (G.2.1, 48, .inl g.1)), (g2, .inl (G.2.1, 48, .inl g.2.1))] H := hP
  have hD : va_D A [(o0, .inr (3, [.int (fl_mx (0 : Int32) (fl_mn g.2.2.1 (48 : Int32))), .ref o1, .ref o2, .ref o3, .ref o4, .ref o5])), (o1, .inl (G.2.1, 48, .inl o.2.1)), (o2, .inl (G.2.1, 48, .inl o.2.2.1)), (o3, .inl (G.2.1, 48, .inl o.2.2.2.1)), (o4, .inl (G.2.1, 48, .inl o.2.2.2.2.1)), (o5, .inl (G.2.1, 49, .inl o.2.2.2.2.2)), (g0, .inr (4, [.ref g1, .ref g2, .int g.2.2.1, .int g.2.2.2.1, .int g.2.2.2.2.1, .int g.2.2.2.2.2.1, .int g.2.2.2.2.2.2.1, .int g.2.2.2.2.2.2.2])), (g1, .inl (G.2.1, 48, .inl g.1)), (g2, .inl (G.2.1, 48, .inl g.2.1))] := hD
  refine lv_iconst (v := (0 : Int32)) hx hb dX3_arrange_17 (by decide) ?_
  refine lv_istore_n (lv' := [(2, .int (0 : Int32)), (0, .ref o0), (1, .ref g0)]) hx hb dX3_arrange_18 rfl hl (by decide) rfl (fun ls hl => ?_)
  obtain ⟨n0, hn⟩ := fl_loop_ex hp
  exact KL19 n0 ((0 : Int32), ((fl_mx (0 : Int32) (fl_mn g.2.2.1 (48 : Int32))), o.2.1, o.2.2.1, o.2.2.2.1, o.2.2.2.2.1, o.2.2.2.2.2)) H locs hP hD hS ls (lv_sub hl [1, 2, 0] rfl) hn

noncomputable def P_Or_rankOf (o : fl_Or) (p0 : Int32) : Option Int32 := fl_bd (P_cellOf 48 o.2.1 p0) (fun q1 => some q1)
set_option maxHeartbeats 4000000 in
set_option maxRecDepth 100000 in
theorem c_Or_rankOf (l : Launch) (G : fl_G) (o0 o1 o2 o3 o4 o5 : Nat) (o : fl_Or) (p0 : Int32) {r : Int32} (hp0 : P_Or_rankOf o p0 = some r) : fl_ro l yX3_rankOf wsX3_rankOf 1 21 G [.ref o0, .int p0] [(o0, .inr (3, [.int o.1, .ref o1, .ref o2, .ref o3, .ref o4, .ref o5])), (o1, .inl (G.2.1, 48, .inl o.2.1)), (o2, .inl (G.2.1, 48, .inl o.2.2.1)), (o3, .inl (G.2.1, 48, .inl o.2.2.2.1)), (o4, .inl (G.2.1, 48, .inl o.2.2.2.2.1)), (o5, .inl (G.2.1, 49, .inl o.2.2.2.2.2))] (.int r) := by
  refine fl_ro_in cX3_rankOf 2 .int RX3 (by decide) rfl rfl (Nat.le_of_ble_eq_true rfl) ?_
  intro p e s m args below meth c ls Q H locs C0 hK hP hS hl hfin
  have hA : ∀ q : Nat, s.heap.size ≤ q → va_A [] s.heap.size q := fl_hA _ _
  obtain ⟨hx, hb, hml, hown, hts⟩ := id C0
  have iX3 : ∀ w ∈ u_ws RX3 TX3 6, w ∈ wsX3_rankOf := fun _ h => List.mem_cons_of_mem _ (List.mem_append_right _ h)
  have hl : lv_has ls 2 [(0, .ref o0), (1, .int p0)] := hl
  have hp := hp0
  unfold P_Or_rankOf at hp
  refine lv_aload_n hx hb dX3_rankOf_0 rfl (lv_at hl 0 rfl) ?_
  refine va_get (D := G.1) (ci := 3) (v := .ref o1) (C := RX3) (T := TX3) (N := 6) hx hb hts iX3 hown hK.1 hP 0 rfl rfl 1 (by decide) (hts (.fieldLink RX3 15 "SongChoir$Order" "ranks" "[I") (List.mem_of_getElem? (i := 1) rfl)) (fun _ h9 => h9) rfl dX3_rankOf_1 ?_
  refine lv_iload_n hx hb dX3_rankOf_4 rfl (lv_at hl 1 rfl) ?_
  obtain ⟨q1, hq1, hp⟩ := fl_bd_of hp
  refine fl_roSN (As := [.ref o1, .int p0]) (rest := []) C0 (c_cellOf l G 48 o1 o.2.1 p0 hq1) ⟨va_cnB 2 hts gX3_rankOf_X5_cellOf_n54 rfl rfl rfl (hK.nest 11 rfl) (hts (.initialized RX5) (List.mem_of_getElem? (i := 3) rfl)) (by decide +kernel) ⟨Nat.le_of_ble_eq_true rfl, Nat.le_of_ble_eq_true rfl⟩, (hts (.static yX5_cellOf) (List.mem_of_getElem? (i := 2) rfl)), trivial⟩ hK hP [1] rfl hS hA rfl hl.1 rfl (Nat.le_of_ble_eq_true rfl) dX3_rankOf_5 ⟨Nat.zero_le _, Nat.zero_le _⟩ (fun H locs hP hS => ?_)
  obtain rfl := Option.some.inj hp
  exact hfin H locs _ ls hS dX3_rankOf_8 rfl

noncomputable def P_Or_placeAt (o : fl_Or) (p0 : Int32) : Option Int32 := if p0 < 0 then some (-1 : Int32) else if o.1 ≤ p0 then some (-1 : Int32) else if (nI 48) ≤ p0 then some (-1 : Int32) else fl_ck p0 48 (some (o.2.2.1 p0.toNatClampNeg))
set_option maxHeartbeats 4000000 in
set_option maxRecDepth 100000 in
theorem c_Or_placeAt (l : Launch) (G : fl_G) (o0 o1 o2 o3 o4 o5 : Nat) (o : fl_Or) (p0 : Int32) {r : Int32} (hp0 : P_Or_placeAt o p0 = some r) : fl_ro l yX3_placeAt wsX3_placeAt 0 0 G [.ref o0, .int p0] [(o0, .inr (3, [.int o.1, .ref o1, .ref o2, .ref o3, .ref o4, .ref o5])), (o1, .inl (G.2.1, 48, .inl o.2.1)), (o2, .inl (G.2.1, 48, .inl o.2.2.1)), (o3, .inl (G.2.1, 48, .inl o.2.2.2.1)), (o4, .inl (G.2.1, 48, .inl o.2.2.2.2.1)), (o5, .inl (G.2.1, 49, .inl o.2.2.2.2.2))] (.int r) := by
  refine fl_ro_in cX3_placeAt 2 .int RX3 (by decide) rfl rfl (Nat.le_of_ble_eq_true rfl) ?_
  intro p e s m args below meth c ls Q H locs C0 hK hP hS hl hfin
  have hA : ∀ q : Nat, s.heap.size ≤ q → va_A [] s.heap.size q := fl_hA _ _
  obtain ⟨hx, hb, hml, hown, hts⟩ := id C0
  have iX3 : ∀ w ∈ u_ws RX3 TX3 6, w ∈ wsX3_placeAt := fun _ h => List.mem_cons_of_mem _ (List.mem_append_right _ h)
  have hl : lv_has ls 2 [(0, .ref o0), (1, .int p0)] := hl
  have hp := hp0
  unfold P_Or_placeAt at hp
  refine lv_iload_n hx hb dX3_placeAt_0 rfl (lv_at hl 1 rfl) ?_
  refine lv_if_lt (tgt := 30) hx hb dX3_placeAt_1 (by decide) (fun hc => ?_) (fun hc => ?_)
  · replace hp := fl_t hc hp
    refine lv_iconst (v := (-1 : Int32)) hx hb dX3_placeAt_30 (by decide) ?_
    obtain rfl := Option.some.inj hp
    exact hfin H locs _ ls hS dX3_placeAt_31 rfl
  · replace hp := fl_f hc hp
    refine lv_iload_n hx hb dX3_placeAt_4 rfl (lv_at hl 1 rfl) ?_
    refine lv_aload_n hx hb dX3_placeAt_5 rfl (lv_at hl 0 rfl) ?_
    refine va_get (D := G.1) (ci := 3) (v := .int o.1) (C := RX3) (T := TX3) (N := 6) hx hb hts iX3 hown hK.1 hP 0 rfl rfl 0 (by decide) (hts (.fieldLink RX3 9 "SongChoir$Order" "notes" "I") (List.mem_of_getElem? (i := 1) rfl)) (fun _ h9 => h9) rfl dX3_placeAt_6 ?_
    refine lv_icmp_ge (tgt := 30) hx hb dX3_placeAt_9 (by decide) (fun hc => ?_) (fun hc => ?_)
    · replace hp := fl_t hc hp
      refine lv_iconst (v := (-1 : Int32)) hx hb dX3_placeAt_30 (by decide) ?_
      obtain rfl := Option.some.inj hp
      exact hfin H locs _ ls hS dX3_placeAt_31 rfl
    · replace hp := fl_f hc hp
      refine lv_iload_n hx hb dX3_placeAt_12 rfl (lv_at hl 1 rfl) ?_
      refine lv_aload_n hx hb dX3_placeAt_13 rfl (lv_at hl 0 rfl) ?_
      refine va_get (D := G.1) (ci := 3) (v := .ref o2) (C := RX3) (T := TX3) (N := 6) hx hb hts iX3 hown hK.1 hP 0 rfl rfl 2 (by decide) (hts (.fieldLink RX3 19 "SongChoir$Order" "places" "[I") (List.mem_of_getElem? (i := 2) rfl)) (fun _ h9 => h9) rfl dX3_placeAt_14 ?_
      refine va_alen (v := (nI 48)) hx hb hK.1 hP 2 0 rfl rfl rfl dX3_placeAt_17 ?_
      refine lv_icmp_ge (tgt := 30) hx hb dX3_placeAt_18 (by decide) (fun hc => ?_) (fun hc => ?_)
      · replace hp := fl_t hc hp
        refine lv_iconst (v := (-1 : Int32)) hx hb dX3_placeAt_30 (by decide) ?_
        obtain rfl := Option.some.inj hp
        exact hfin H locs _ ls hS dX3_placeAt_31 rfl
      · replace hp := fl_f hc hp
        refine lv_aload_n hx hb dX3_placeAt_21 rfl (lv_at hl 0 rfl) ?_
        refine va_get (D := G.1) (ci := 3) (v := .ref o2) (C := RX3) (T := TX3) (N := 6) hx hb hts iX3 hown hK.1 hP 0 rfl rfl 2 (by decide) (hts (.fieldLink RX3 19 "SongChoir$Order" "places" "[I") (List.mem_of_getElem? (i := 2) rfl)) (fun _ h9 => h9) rfl dX3_placeAt_22 ?_
        refine lv_iload_n hx hb dX3_placeAt_25 rfl (lv_at hl 1 rfl) ?_
        obtain ⟨hi, hp⟩ := fl_ck_of hp
        refine va_iald hx hb hK.1 hP 2 0 rfl rfl hi dX3_placeAt_26 ?_
        refine lv_goto (tgt := 31) hx hb dX3_placeAt_27 (by decide) ?_
        obtain rfl := Option.some.inj hp
        exact hfin H locs _ ls hS dX3_placeAt_31 rfl

noncomputable def P_Or_sharedWithAhead (o : fl_Or) (p0 : Int32) : Option Int32 := fl_bd (P_cellOf 48 o.2.2.2.1 p0) (fun q1 => some q1)
set_option maxHeartbeats 4000000 in
set_option maxRecDepth 100000 in
theorem c_Or_sharedWithAhead (l : Launch) (G : fl_G) (o0 o1 o2 o3 o4 o5 : Nat) (o : fl_Or) (p0 : Int32) {r : Int32} (hp0 : P_Or_sharedWithAhead o p0 = some r) : fl_ro l yX3_sharedWithAhead wsX3_sharedWithAhead 1 21 G [.ref o0, .int p0] [(o0, .inr (3, [.int o.1, .ref o1, .ref o2, .ref o3, .ref o4, .ref o5])), (o1, .inl (G.2.1, 48, .inl o.2.1)), (o2, .inl (G.2.1, 48, .inl o.2.2.1)), (o3, .inl (G.2.1, 48, .inl o.2.2.2.1)), (o4, .inl (G.2.1, 48, .inl o.2.2.2.2.1)), (o5, .inl (G.2.1, 49, .inl o.2.2.2.2.2))] (.int r) := by
  refine fl_ro_in cX3_sharedWithAhead 2 .int RX3 (by decide) rfl rfl (Nat.le_of_ble_eq_true rfl) ?_
  intro p e s m args below meth c ls Q H locs C0 hK hP hS hl hfin
  have hA : ∀ q : Nat, s.heap.size ≤ q → va_A [] s.heap.size q := fl_hA _ _
  obtain ⟨hx, hb, hml, hown, hts⟩ := id C0
  have iX3 : ∀ w ∈ u_ws RX3 TX3 6, w ∈ wsX3_sharedWithAhead := fun _ h => List.mem_cons_of_mem _ (List.mem_append_right _ h)
  have hl : lv_has ls 2 [(0, .ref o0), (1, .int p0)] := hl
  have hp := hp0
  unfold P_Or_sharedWithAhead at hp
  refine lv_aload_n hx hb dX3_sharedWithAhead_0 rfl (lv_at hl 0 rfl) ?_
  refine va_get (D := G.1) (ci := 3) (v := .ref o3) (C := RX3) (T := TX3) (N := 6) hx hb hts iX3 hown hK.1 hP 0 rfl rfl 3 (by decide) (hts (.fieldLink RX3 22 "SongChoir$Order" "shared" "[I") (List.mem_of_getElem? (i := 1) rfl)) (fun _ h9 => h9) rfl dX3_sharedWithAhead_1 ?_
  refine lv_iload_n hx hb dX3_sharedWithAhead_4 rfl (lv_at hl 1 rfl) ?_
  obtain ⟨q1, hq1, hp⟩ := fl_bd_of hp
  refine fl_roSN (As := [.ref o3, .int p0]) (rest := []) C0 (c_cellOf l G 48 o3 o.2.2.2.1 p0 hq1) ⟨va_cnB 2 hts gX3_sharedWithAhead_X5_cellOf_n54 rfl rfl rfl (hK.nest 11 rfl) (hts (.initialized RX5) (List.mem_of_getElem? (i := 3) rfl)) (by decide +kernel) ⟨Nat.le_of_ble_eq_true rfl, Nat.le_of_ble_eq_true rfl⟩, (hts (.static yX5_cellOf) (List.mem_of_getElem? (i := 2) rfl)), trivial⟩ hK hP [3] rfl hS hA rfl hl.1 rfl (Nat.le_of_ble_eq_true rfl) dX3_sharedWithAhead_5 ⟨Nat.zero_le _, Nat.zero_le _⟩ (fun H locs hP hS => ?_)
  obtain rfl := Option.some.inj hp
  exact hfin H locs _ ls hS dX3_sharedWithAhead_8 rfl

noncomputable def P_Or_repeatAt (o : fl_Or) (p0 : Int32) : Option Int32 := fl_bd (P_cellOf 48 o.2.2.2.2.1 p0) (fun q1 => some q1)
set_option maxHeartbeats 4000000 in
set_option maxRecDepth 100000 in
theorem c_Or_repeatAt (l : Launch) (G : fl_G) (o0 o1 o2 o3 o4 o5 : Nat) (o : fl_Or) (p0 : Int32) {r : Int32} (hp0 : P_Or_repeatAt o p0 = some r) : fl_ro l yX3_repeatAt wsX3_repeatAt 1 21 G [.ref o0, .int p0] [(o0, .inr (3, [.int o.1, .ref o1, .ref o2, .ref o3, .ref o4, .ref o5])), (o1, .inl (G.2.1, 48, .inl o.2.1)), (o2, .inl (G.2.1, 48, .inl o.2.2.1)), (o3, .inl (G.2.1, 48, .inl o.2.2.2.1)), (o4, .inl (G.2.1, 48, .inl o.2.2.2.2.1)), (o5, .inl (G.2.1, 49, .inl o.2.2.2.2.2))] (.int r) := by
  refine fl_ro_in cX3_repeatAt 2 .int RX3 (by decide) rfl rfl (Nat.le_of_ble_eq_true rfl) ?_
  intro p e s m args below meth c ls Q H locs C0 hK hP hS hl hfin
  have hA : ∀ q : Nat, s.heap.size ≤ q → va_A [] s.heap.size q := fl_hA _ _
  obtain ⟨hx, hb, hml, hown, hts⟩ := id C0
  have iX3 : ∀ w ∈ u_ws RX3 TX3 6, w ∈ wsX3_repeatAt := fun _ h => List.mem_cons_of_mem _ (List.mem_append_right _ h)
  have hl : lv_has ls 2 [(0, .ref o0), (1, .int p0)] := hl
  have hp := hp0
  unfold P_Or_repeatAt at hp
  refine lv_aload_n hx hb dX3_repeatAt_0 rfl (lv_at hl 0 rfl) ?_
  refine va_get (D := G.1) (ci := 3) (v := .ref o4) (C := RX3) (T := TX3) (N := 6) hx hb hts iX3 hown hK.1 hP 0 rfl rfl 4 (by decide) (hts (.fieldLink RX3 25 "SongChoir$Order" "repeats" "[I") (List.mem_of_getElem? (i := 1) rfl)) (fun _ h9 => h9) rfl dX3_repeatAt_1 ?_
  refine lv_iload_n hx hb dX3_repeatAt_4 rfl (lv_at hl 1 rfl) ?_
  obtain ⟨q1, hq1, hp⟩ := fl_bd_of hp
  refine fl_roSN (As := [.ref o4, .int p0]) (rest := []) C0 (c_cellOf l G 48 o4 o.2.2.2.2.1 p0 hq1) ⟨va_cnB 2 hts gX3_repeatAt_X5_cellOf_n54 rfl rfl rfl (hK.nest 11 rfl) (hts (.initialized RX5) (List.mem_of_getElem? (i := 3) rfl)) (by decide +kernel) ⟨Nat.le_of_ble_eq_true rfl, Nat.le_of_ble_eq_true rfl⟩, (hts (.static yX5_cellOf) (List.mem_of_getElem? (i := 2) rfl)), trivial⟩ hK hP [4] rfl hS hA rfl hl.1 rfl (Nat.le_of_ble_eq_true rfl) dX3_repeatAt_5 ⟨Nat.zero_le _, Nat.zero_le _⟩ (fun H locs hP hS => ?_)
  obtain rfl := Option.some.inj hp
  exact hfin H locs _ ls hS dX3_repeatAt_8 rfl

noncomputable def P_Or_pieces_L4 (o : fl_Or) (z4 : (Int32 × Int32)) : Option ((Int32 × Int32) ⊕ Int32) := if o.1 ≤ z4.2 then some (.inr z4.1) else fl_bd (P_Or_sharedWithAhead o z4.2) (fun q1 => some (.inl ((z4.1 + ((o.1 - z4.2) - q1)), (z4.2 + (1 : Int32)))))
noncomputable def P_Or_pieces (o : fl_Or) : Option Int32 := fl_loop (P_Or_pieces_L4 o) ((0 : Int32), (0 : Int32))
set_option maxHeartbeats 4000000 in
set_option maxRecDepth 100000 in
theorem c_Or_pieces (l : Launch) (G : fl_G) (o0 o1 o2 o3 o4 o5 : Nat) (o : fl_Or) {r : Int32} (hp0 : P_Or_pieces o = some r) : fl_ro l yX3_pieces wsX3_pieces 2 42 G [.ref o0] [(o0, .inr (3, [.int o.1, .ref o1, .ref o2, .ref o3, .ref o4, .ref o5])), (o1, .inl (G.2.1, 48, .inl o.2.1)), (o2, .inl (G.2.1, 48, .inl o.2.2.1)), (o3, .inl (G.2.1, 48, .inl o.2.2.2.1)), (o4, .inl (G.2.1, 48, .inl o.2.2.2.2.1)), (o5, .inl (G.2.1, 49, .inl o.2.2.2.2.2))] (.int r) := by
  refine fl_ro_in cX3_pieces 3 .int RX3 (by decide) rfl rfl (Nat.le_of_ble_eq_true rfl) ?_
  intro p e s m args below meth c ls Q H locs C0 hK hP hS hl hfin
  have hA : ∀ q : Nat, s.heap.size ≤ q → va_A [] s.heap.size q := fl_hA _ _
  obtain ⟨hx, hb, hml, hown, hts⟩ := id C0
  have iX3 : ∀ w ∈ u_ws RX3 TX3 6, w ∈ wsX3_pieces := fun _ h => List.mem_cons_of_mem _ (List.mem_append_right _ h)
  have hl : lv_has ls 3 [(0, .ref o0)] := hl
  have KL4 : ∀ (n0 : Nat) (z4 : (Int32 × Int32)) (H : Heap) (locs : List Loc), va_P G.1 vwCl [(o0, .inr (3, [.int o.1, .ref o1, .ref o2, .ref o3, .ref o4, .ref o5])), (o1, .inl (G.2.1, 48, .inl o.2.1)), (o2, .inl (G.2.1, 48, .inl o.2.2.1)), (o3, .inl (G.2.1, 48, .inl o.2.2.2.1)), (o4, .inl (G.2.1, 48, .inl o.2.2.2.2.1)), (o5, .inl (G.2.1, 49, .inl o.2.2.2.2.2))] H → va_S (va_A [] s.heap.size) s.heap H locs → ∀ (ls : Array Slot), lv_has ls 3 [(0, .ref o0), (1, .int z4.1), (2, .int z4.2)] → fl_loopN (P_Or_pieces_L4 o) n0 z4 = some r → W p l e (fl_rm 2 42) s m args below meth c H locs 0 0 Q (F0 m 4 ls []) := by
    intro n0
    induction n0 with
    | zero => intro z4 H locs hP hS ls hl hn; exact (fl_loopN_0 hn).elim
    | succ n0 ih4 =>
      intro z4 H locs hP hS ls hl hn
      obtain ⟨y4, hb4, hy4⟩ := fl_loopN_step hn
      clear hn
      have hp := hb4
      unfold P_Or_pieces_L4 at hp
      refine lv_iload_n hx hb dX3_pieces_4 rfl (lv_at hl 2 rfl) ?_
      refine lv_aload_n hx hb dX3_pieces_5 rfl (lv_at hl 0 rfl) ?_
      refine va_get (D := G.1) (ci := 3) (v := .int o.1) (C := RX3) (T := TX3) (N := 6) hx hb hts iX3 hown hK.1 hP 0 rfl rfl 0 (by decide) (hts (.fieldLink RX3 9 "SongChoir$Order" "notes" "I") (List.mem_of_getElem? (i := 1) rfl)) (fun _ h9 => h9) rfl dX3_pieces_6 ?_
      refine lv_icmp_ge (tgt := 33) hx hb dX3_pieces_9 (by decide) (fun hc => ?_) (fun hc => ?_)
      · replace hp := fl_t hc hp
        refine lv_iload_n hx hb dX3_pieces_33 rfl (lv_at hl 1 rfl) ?_
        obtain rfl := Option.some.inj hp
        obtain rfl := fl_cont_inr hy4
        exact hfin H locs _ ls hS dX3_pieces_34 rfl
      · replace hp := fl_f hc hp
        refine lv_iload_n hx hb dX3_pieces_12 rfl (lv_at hl 1 rfl) ?_
        refine lv_aload_n hx hb dX3_pieces_13 rfl (lv_at hl 0 rfl) ?_
        refine va_get (D := G.1) (ci := 3) (v := .int o.1) (C := RX3) (T := TX3) (N := 6) hx hb hts iX3 hown hK.1 hP 0 rfl rfl 0 (by decide) (hts (.fieldLink RX3 9 "SongChoir$Order" "notes" "I") (List.mem_of_getElem? (i := 1) rfl)) (fun _ h9 => h9) rfl dX3_pieces_14 ?_
        refine lv_iload_n hx hb dX3_pieces_17 rfl (lv_at hl 2 rfl) ?_
        refine lv_isub hx hb dX3_pieces_18 ?_
        refine lv_aload_n hx hb dX3_pieces_19 rfl (lv_at hl 0 rfl) ?_
        refine lv_iload_n hx hb dX3_pieces_20 rfl (lv_at hl 2 rfl) ?_
        obtain ⟨q1, hq1, hp⟩ := fl_bd_of hp
        refine fl_roV (As := [.int z4.2]) (rest := [.int (o.1 - z4.2), .int z4.1]) C0 (c_Or_sharedWithAhead l G o0 o1 o2 o3 o4 o5 o z4.2 hq1) (cwV 1 hts gX3_pieces_X3_sharedWithAhead rfl rfl rfl (by decide +kernel) ⟨Nat.le_of_ble_eq_true rfl, Nat.le_of_ble_eq_true rfl⟩) hK hP [0, 1, 2, 3, 4, 5] rfl 0 3 rfl rfl rfl hS hA rfl hl.1 rfl (Nat.le_of_ble_eq_true rfl) dX3_pieces_21 ⟨Nat.zero_le _, Nat.zero_le _⟩ (fun H locs hP hS => ?_)
        refine lv_isub hx hb dX3_pieces_24 ?_
        refine lv_iadd hx hb dX3_pieces_25 ?_
        refine lv_istore_n (lv' := [(1, .int (z4.1 + ((o.1 - z4.2) - q1))), (0, .ref o0), (2, .int z4.2)]) hx hb dX3_pieces_26 rfl hl (by decide) rfl (fun ls hl => ?_)
        refine lv_iinc (v := (z4.2 + (1 : Int32))) (lv' := [(2, .int (z4.2 + (1 : Int32))), (1, .int (z4.1 + ((o.1 - z4.2) - q1))), (0, .ref o0)]) hx hb dX3_pieces_27 hl (k := 2) rfl rfl (by decide) rfl (fun ls hl => ?_)
        refine lv_goto (tgt := 4) hx hb dX3_pieces_30 (by decide) ?_
        obtain rfl := Option.some.inj hp
        exact ih4 ((z4.1 + ((o.1 - z4.2) - q1)), (z4.2 + (1 : Int32))) H locs hP hS ls (lv_sub hl [2, 1, 0] rfl) (fl_cont_inl hy4)
  have hp := hp0
  unfold P_Or_pieces at hp
  refine lv_iconst (v := (0 : Int32)) hx hb dX3_pieces_0 (by decide) ?_
  refine lv_istore_n (lv' := [(1, .int (0 : Int32)), (0, .ref o0)]) hx hb dX3_pieces_1 rfl hl (by decide) rfl (fun ls hl => ?_)
  refine lv_iconst (v := (0 : Int32)) hx hb dX3_pieces_2 (by decide) ?_
  refine lv_istore_n (lv' := [(2, .int (0 : Int32)), (1, .int (0 : Int32)), (0, .ref o0)]) hx hb dX3_pieces_3 rfl hl (by decide) rfl (fun ls hl => ?_)
  obtain ⟨n0, hn⟩ := fl_loop_ex hp
  exact KL4 n0 ((0 : Int32), (0 : Int32)) H locs hP hS ls (lv_sub hl [2, 1, 0] rfl) hn

noncomputable def P_Or_longestRepeat_L4 (o : fl_Or) (z4 : (Int32 × Int32)) : Option ((Int32 × Int32) ⊕ Int32) := if o.1 ≤ z4.2 then some (.inr z4.1) else fl_bd (P_Or_repeatAt o z4.2) (fun q1 => some (.inl ((fl_mx z4.1 q1), (z4.2 + (1 : Int32)))))
noncomputable def P_Or_longestRepeat (o : fl_Or) : Option Int32 := fl_loop (P_Or_longestRepeat_L4 o) ((0 : Int32), (0 : Int32))
set_option maxHeartbeats 4000000 in
set_option maxRecDepth 100000 in
theorem c_Or_longestRepeat (l : Launch) (G : fl_G) (o0 o1 o2 o3 o4 o5 : Nat) (o : fl_Or) {r : Int32} (hp0 : P_Or_longestRepeat o = some r) : fl_ro l yX3_longestRepeat wsX3_longestRepeat 2 42 G [.ref o0] [(o0, .inr (3, [.int o.1, .ref o1, .ref o2, .ref o3, .ref o4, .ref o5])), (o1, .inl (G.2.1, 48, .inl o.2.1)), (o2, .inl (G.2.1, 48, .inl o.2.2.1)), (o3, .inl (G.2.1, 48, .inl o.2.2.2.1)), (o4, .inl (G.2.1, 48, .inl o.2.2.2.2.1)), (o5, .inl (G.2.1, 49, .inl o.2.2.2.2.2))] (.int r) := by
  refine fl_ro_in cX3_longestRepeat 3 .int RX3 (by decide) rfl rfl (Nat.le_of_ble_eq_true rfl) ?_
  intro p e s m args below meth c ls Q H locs C0 hK hP hS hl hfin
  have hA : ∀ q : Nat, s.heap.size ≤ q → va_A [] s.heap.size q := fl_hA _ _
  obtain ⟨hx, hb, hml, hown, hts⟩ := id C0
  have iX3 : ∀ w ∈ u_ws RX3 TX3 6, w ∈ wsX3_longestRepeat := fun _ h => List.mem_cons_of_mem _ (List.mem_append_right _ h)
  have hl : lv_has ls 3 [(0, .ref o0)] := hl
  have KL4 : ∀ (n0 : Nat) (z4 : (Int32 × Int32)) (H : Heap) (locs : List Loc), va_P G.1 vwCl [(o0, .inr (3, [.int o.1, .ref o1, .ref o2, .ref o3, .ref o4, .ref o5])), (o1, .inl (G.2.1, 48, .inl o.2.1)), (o2, .inl (G.2.1, 48, .inl o.2.2.1)), (o3, .inl (G.2.1, 48, .inl o.2.2.2.1)), (o4, .inl (G.2.1, 48, .inl o.2.2.2.2.1)), (o5, .inl (G.2.1, 49, .inl o.2.2.2.2.2))] H → va_S (va_A [] s.heap.size) s.heap H locs → ∀ (ls : Array Slot), lv_has ls 3 [(0, .ref o0), (1, .int z4.1), (2, .int z4.2)] → fl_loopN (P_Or_longestRepeat_L4 o) n0 z4 = some r → W p l e (fl_rm 2 42) s m args below meth c H locs 0 0 Q (F0 m 4 ls []) := by
    intro n0
    induction n0 with
    | zero => intro z4 H locs hP hS ls hl hn; exact (fl_loopN_0 hn).elim
    | succ n0 ih4 =>
      intro z4 H locs hP hS ls hl hn
      obtain ⟨y4, hb4, hy4⟩ := fl_loopN_step hn
      clear hn
      have hp := hb4
      unfold P_Or_longestRepeat_L4 at hp
      refine lv_iload_n hx hb dX3_longestRepeat_4 rfl (lv_at hl 2 rfl) ?_
      refine lv_aload_n hx hb dX3_longestRepeat_5 rfl (lv_at hl 0 rfl) ?_
      refine va_get (D := G.1) (ci := 3) (v := .int o.1) (C := RX3) (T := TX3) (N := 6) hx hb hts iX3 hown hK.1 hP 0 rfl rfl 0 (by decide) (hts (.fieldLink RX3 9 "SongChoir$Order" "notes" "I") (List.mem_of_getElem? (i := 1) rfl)) (fun _ h9 => h9) rfl dX3_longestRepeat_6 ?_
      refine lv_icmp_ge (tgt := 28) hx hb dX3_longestRepeat_9 (by decide) (fun hc => ?_) (fun hc => ?_)
      · replace hp := fl_t hc hp
        refine lv_iload_n hx hb dX3_longestRepeat_28 rfl (lv_at hl 1 rfl) ?_
        obtain rfl := Option.some.inj hp
        obtain rfl := fl_cont_inr hy4
        exact hfin H locs _ ls hS dX3_longestRepeat_29 rfl
      · replace hp := fl_f hc hp
        refine lv_iload_n hx hb dX3_longestRepeat_12 rfl (lv_at hl 1 rfl) ?_
        refine lv_aload_n hx hb dX3_longestRepeat_13 rfl (lv_at hl 0 rfl) ?_
        refine lv_iload_n hx hb dX3_longestRepeat_14 rfl (lv_at hl 2 rfl) ?_
        obtain ⟨q1, hq1, hp⟩ := fl_bd_of hp
        refine fl_roV (As := [.int z4.2]) (rest := [.int z4.1]) C0 (c_Or_repeatAt l G o0 o1 o2 o3 o4 o5 o z4.2 hq1) (cwV 1 hts gX3_longestRepeat_X3_repeatAt rfl rfl rfl (by decide +kernel) ⟨Nat.le_of_ble_eq_true rfl, Nat.le_of_ble_eq_true rfl⟩) hK hP [0, 1, 2, 3, 4, 5] rfl 0 3 rfl rfl rfl hS hA rfl hl.1 rfl (Nat.le_of_ble_eq_true rfl) dX3_longestRepeat_15 ⟨Nat.zero_le _, Nat.zero_le _⟩ (fun H locs hP hS => ?_)
        refine va_mmax hx hb (hml.trans hl.1.symm) hown (hts (.methodLink RX3 44 Lib.Math.max.name) (List.mem_of_getElem? (i := 2) rfl)) (hts (.static Lib.Math.max.name) (List.mem_of_getElem? (i := 3) rfl)) (hts (.initialized "java/lang/Math") (List.mem_of_getElem? (i := 4) rfl)) (hts (.code Lib.Math.max.name Lib.Math.max.code 2 (some .int)) (List.mem_of_getElem? (i := 5) rfl)) (Nat.le_of_ble_eq_true rfl) (Nat.le_of_ble_eq_true rfl) (Nat.zero_le _) (Nat.zero_le _) dX3_longestRepeat_18 ?_
        refine lv_istore_n (lv' := [(1, .int (fl_mx z4.1 q1)), (0, .ref o0), (2, .int z4.2)]) hx hb dX3_longestRepeat_21 rfl hl (by decide) rfl (fun ls hl => ?_)
        refine lv_iinc (v := (z4.2 + (1 : Int32))) (lv' := [(2, .int (z4.2 + (1 : Int32))), (1, .int (fl_mx z4.1 q1)), (0, .ref o0)]) hx hb dX3_longestRepeat_22 hl (k := 2) rfl rfl (by decide) rfl (fun ls hl => ?_)
        refine lv_goto (tgt := 4) hx hb dX3_longestRepeat_25 (by decide) ?_
        obtain rfl := Option.some.inj hp
        exact ih4 ((fl_mx z4.1 q1), (z4.2 + (1 : Int32))) H locs hP hS ls (lv_sub hl [2, 1, 0] rfl) (fl_cont_inl hy4)
  have hp := hp0
  unfold P_Or_longestRepeat at hp
  refine lv_iconst (v := (0 : Int32)) hx hb dX3_longestRepeat_0 (by decide) ?_
  refine lv_istore_n (lv' := [(1, .int (0 : Int32)), (0, .ref o0)]) hx hb dX3_longestRepeat_1 rfl hl (by decide) rfl (fun ls hl => ?_)
  refine lv_iconst (v := (0 : Int32)) hx hb dX3_longestRepeat_2 (by decide) ?_
  refine lv_istore_n (lv' := [(2, .int (0 : Int32)), (1, .int (0 : Int32)), (0, .ref o0)]) hx hb dX3_longestRepeat_3 rfl hl (by decide) rfl (fun ls hl => ?_)
  obtain ⟨n0, hn⟩ := fl_loop_ex hp
  exact KL4 n0 ((0 : Int32), (0 : Int32)) H locs hP hS ls (lv_sub hl [2, 1, 0] rfl) hn

noncomputable def P_Or_placeOfLongestRepeat_L7 (o : fl_Or) (v1 : Int32) (z7 : Int32) : Option (Int32 ⊕ Int32) := if o.1 ≤ z7 then some (.inr (-1 : Int32)) else if v1 ≤ 0 then some (.inr (-1 : Int32)) else fl_bd (P_Or_repeatAt o z7) (fun q1 => if q1 = v1 then some (.inr z7) else some (.inl (z7 + (1 : Int32))))
noncomputable def P_Or_placeOfLongestRepeat (o : fl_Or) : Option Int32 := fl_bd (P_Or_longestRepeat o) (fun q1 => fl_loop (P_Or_placeOfLongestRepeat_L7 o q1) (0 : Int32))
set_option maxHeartbeats 4000000 in
set_option maxRecDepth 100000 in
theorem c_Or_placeOfLongestRepeat (l : Launch) (G : fl_G) (o0 o1 o2 o3 o4 o5 : Nat) (o : fl_Or) {r : Int32} (hp0 : P_Or_placeOfLongestRepeat o = some r) : fl_ro l yX3_placeOfLongestRepeat wsX3_placeOfLongestRepeat 3 64 G [.ref o0] [(o0, .inr (3, [.int o.1, .ref o1, .ref o2, .ref o3, .ref o4, .ref o5])), (o1, .inl (G.2.1, 48, .inl o.2.1)), (o2, .inl (G.2.1, 48, .inl o.2.2.1)), (o3, .inl (G.2.1, 48, .inl o.2.2.2.1)), (o4, .inl (G.2.1, 48, .inl o.2.2.2.2.1)), (o5, .inl (G.2.1, 49, .inl o.2.2.2.2.2))] (.int r) := by
  refine fl_ro_in cX3_placeOfLongestRepeat 3 .int RX3 (by decide) rfl rfl (Nat.le_of_ble_eq_true rfl) ?_
  intro p e s m args below meth c ls Q H locs C0 hK hP hS hl hfin
  have hA : ∀ q : Nat, s.heap.size ≤ q → va_A [] s.heap.size q := fl_hA _ _
  obtain ⟨hx, hb, hml, hown, hts⟩ := id C0
  have iX3 : ∀ w ∈ u_ws RX3 TX3 6, w ∈ wsX3_placeOfLongestRepeat := fun _ h => List.mem_cons_of_mem _ (List.mem_append_right _ h)
  have hl : lv_has ls 3 [(0, .ref o0)] := hl
  have KL7 : ∀ (v1 : Int32) (n0 : Nat) (z7 : Int32) (H : Heap) (locs : List Loc), va_P G.1 vwCl [(o0, .inr (3, [.int o.1, .ref o1, .ref o2, .ref o3, .ref o4, .ref o5])), (o1, .inl (G.2.1, 48, .inl o.2.1)), (o2, .inl (G.2.1, 48, .inl o.2.2.1)), (o3, .inl (G.2.1, 48, .inl o.2.2.2.1)), (o4, .inl (G.2.1, 48, .inl o.2.2.2.2.1)), (o5, .inl (G.2.1, 49, .inl o.2.2.2.2.2))] H → va_S (va_A [] s.heap.size) s.heap H locs → ∀ (ls : Array Slot), lv_has ls 3 [(0, .ref o0), (1, .int v1), (2, .int z7)] → fl_loopN (P_Or_placeOfLongestRepeat_L7 o v1) n0 z7 = some r → W p l e (fl_rm 3 64) s m args below meth c H locs 0 0 Q (F0 m 7 ls []) := by
    intro v1 n0
    induction n0 with
    | zero => intro z7 H locs hP hS ls hl hn; exact (fl_loopN_0 hn).elim
    | succ n0 ih7 =>
      intro z7 H locs hP hS ls hl hn
      obtain ⟨y7, hb7, hy7⟩ := fl_loopN_step hn
      clear hn
      have hp := hb7
      unfold P_Or_placeOfLongestRepeat_L7 at hp
      refine lv_iload_n hx hb dX3_placeOfLongestRepeat_7 rfl (lv_at hl 2 rfl) ?_
      refine lv_aload_n hx hb dX3_placeOfLongestRepeat_8 rfl (lv_at hl 0 rfl) ?_
      refine va_get (D := G.1) (ci := 3) (v := .int o.1) (C := RX3) (T := TX3) (N := 6) hx hb hts iX3 hown hK.1 hP 0 rfl rfl 0 (by decide) (hts (.fieldLink RX3 9 "SongChoir$Order" "notes" "I") (List.mem_of_getElem? (i := 1) rfl)) (fun _ h9 => h9) rfl dX3_placeOfLongestRepeat_9 ?_
      refine lv_icmp_ge (tgt := 36) hx hb dX3_placeOfLongestRepeat_12 (by decide) (fun hc => ?_) (fun hc => ?_)
      · replace hp := fl_t hc hp
        refine lv_iconst (v := (-1 : Int32)) hx hb dX3_placeOfLongestRepeat_36 (by decide) ?_
        obtain rfl := Option.some.inj hp
        obtain rfl := fl_cont_inr hy7
        exact hfin H locs _ ls hS dX3_placeOfLongestRepeat_37 rfl
      · replace hp := fl_f hc hp
        refine lv_iload_n hx hb dX3_placeOfLongestRepeat_15 rfl (lv_at hl 1 rfl) ?_
        refine lv_if_le (tgt := 36) hx hb dX3_placeOfLongestRepeat_16 (by decide) (fun hc => ?_) (fun hc => ?_)
        · replace hp := fl_t hc hp
          refine lv_iconst (v := (-1 : Int32)) hx hb dX3_placeOfLongestRepeat_36 (by decide) ?_
          obtain rfl := Option.some.inj hp
          obtain rfl := fl_cont_inr hy7
          exact hfin H locs _ ls hS dX3_placeOfLongestRepeat_37 rfl
        · replace hp := fl_f hc hp
          refine lv_aload_n hx hb dX3_placeOfLongestRepeat_19 rfl (lv_at hl 0 rfl) ?_
          refine lv_iload_n hx hb dX3_placeOfLongestRepeat_20 rfl (lv_at hl 2 rfl) ?_
          obtain ⟨q1, hq1, hp⟩ := fl_bd_of hp
          refine fl_roV (As := [.int z7]) (rest := []) C0 (c_Or_repeatAt l G o0 o1 o2 o3 o4 o5 o z7 hq1) (cwV 1 hts gX3_placeOfLongestRepeat_X3_repeatAt rfl rfl rfl (by decide +kernel) ⟨Nat.le_of_ble_eq_true rfl, Nat.le_of_ble_eq_true rfl⟩) hK hP [0, 1, 2, 3, 4, 5] rfl 0 3 rfl rfl rfl hS hA rfl hl.1 rfl (Nat.le_of_ble_eq_true rfl) dX3_placeOfLongestRepeat_21 ⟨Nat.zero_le _, Nat.zero_le _⟩ (fun H locs hP hS => ?_)
          refine lv_iload_n hx hb dX3_placeOfLongestRepeat_24 rfl (lv_at hl 1 rfl) ?_
          refine lv_icmp_ne (tgt := 30) hx hb dX3_placeOfLongestRepeat_25 (by decide) (fun hc => ?_) (fun hc => ?_)
          · replace hp := fl_f hc hp
            refine lv_iinc (v := (z7 + (1 : Int32))) (lv' := [(2, .int (z7 + (1 : Int32))), (0, .ref o0), (1, .int v1)]) hx hb dX3_placeOfLongestRepeat_30 hl (k := 2) rfl rfl (by decide) rfl (fun ls hl => ?_)
            refine lv_goto (tgt := 7) hx hb dX3_placeOfLongestRepeat_33 (by decide) ?_
            obtain rfl := Option.some.inj hp
            exact ih7 (z7 + (1 : Int32)) H locs hP hS ls (lv_sub hl [1, 2, 0] rfl) (fl_cont_inl hy7)
          · replace hp := fl_t hc hp
            refine lv_iload_n hx hb dX3_placeOfLongestRepeat_28 rfl (lv_at hl 2 rfl) ?_
            obtain rfl := Option.some.inj hp
            obtain rfl := fl_cont_inr hy7
            exact hfin H locs _ ls hS dX3_placeOfLongestRepeat_29 rfl
  have hp := hp0
  unfold P_Or_placeOfLongestRepeat at hp
  refine lv_aload_n hx hb dX3_placeOfLongestRepeat_0 rfl (lv_at hl 0 rfl) ?_
  obtain ⟨q1, hq1, hp⟩ := fl_bd_of hp
  refine fl_roV (As := []) (rest := []) C0 (c_Or_longestRepeat l G o0 o1 o2 o3 o4 o5 o hq1) (cwV 0 hts gX3_placeOfLongestRepeat_X3_longestRepeat rfl rfl rfl (by decide +kernel) ⟨Nat.le_of_ble_eq_true rfl, Nat.le_of_ble_eq_true rfl⟩) hK hP [0, 1, 2, 3, 4, 5] rfl 0 3 rfl rfl rfl hS hA rfl hl.1 rfl (Nat.le_of_ble_eq_true rfl) dX3_placeOfLongestRepeat_1 ⟨Nat.zero_le _, Nat.zero_le _⟩ (fun H locs hP hS => ?_)
  refine lv_istore_n (lv' := [(1, .int q1), (0, .ref o0)]) hx hb dX3_placeOfLongestRepeat_4 rfl hl (by decide) rfl (fun ls hl => ?_)
  refine lv_iconst (v := (0 : Int32)) hx hb dX3_placeOfLongestRepeat_5 (by decide) ?_
  refine lv_istore_n (lv' := [(2, .int (0 : Int32)), (1, .int q1), (0, .ref o0)]) hx hb dX3_placeOfLongestRepeat_6 rfl hl (by decide) rfl (fun ls hl => ?_)
  obtain ⟨n0, hn⟩ := fl_loop_ex hp
  exact KL7 q1 n0 (0 : Int32) H locs hP hS ls (lv_sub hl [2, 1, 0] rfl) hn

noncomputable def P_Or_sharedByAll_L23 (o : fl_Or) (p1 : Int32) (z23 : (Int32 × Int32)) : Option ((Int32 × Int32) ⊕ Int32) := if p1 ≤ z23.2 then some (.inr z23.1) else fl_bd (P_Or_placeAt o z23.2) (fun q1 => fl_bd (P_Or_sharedWithAhead o q1) (fun q2 => some (.inl ((fl_mn z23.1 q2), (z23.2 + (1 : Int32))))))
noncomputable def P_Or_sharedByAll (o : fl_Or) (p0 : Int32) (p1 : Int32) : Option Int32 := if p0 < p1 then fl_bd (P_Or_placeAt o p0) (fun q1 => fl_loop (P_Or_sharedByAll_L23 o p1) ((o.1 - q1), (p0 + (1 : Int32)))) else some (0 : Int32)
set_option maxHeartbeats 4000000 in
set_option maxRecDepth 100000 in
theorem c_Or_sharedByAll (l : Launch) (G : fl_G) (o0 o1 o2 o3 o4 o5 : Nat) (o : fl_Or) (p0 : Int32) (p1 : Int32) {r : Int32} (hp0 : P_Or_sharedByAll o p0 p1 = some r) : fl_ro l yX3_sharedByAll wsX3_sharedByAll 2 42 G [.ref o0, .int p0, .int p1] [(o0, .inr (3, [.int o.1, .ref o1, .ref o2, .ref o3, .ref o4, .ref o5])), (o1, .inl (G.2.1, 48, .inl o.2.1)), (o2, .inl (G.2.1, 48, .inl o.2.2.1)), (o3, .inl (G.2.1, 48, .inl o.2.2.2.1)), (o4, .inl (G.2.1, 48, .inl o.2.2.2.2.1)), (o5, .inl (G.2.1, 49, .inl o.2.2.2.2.2))] (.int r) := by
  refine fl_ro_in cX3_sharedByAll 5 .int RX3 (by decide) rfl rfl (Nat.le_of_ble_eq_true rfl) ?_
  intro p e s m args below meth c ls Q H locs C0 hK hP hS hl hfin
  have hA : ∀ q : Nat, s.heap.size ≤ q → va_A [] s.heap.size q := fl_hA _ _
  obtain ⟨hx, hb, hml, hown, hts⟩ := id C0
  have iX3 : ∀ w ∈ u_ws RX3 TX3 6, w ∈ wsX3_sharedByAll := fun _ h => List.mem_cons_of_mem _ (List.mem_append_right _ h)
  have hl : lv_has ls 5 [(0, .ref o0), (1, .int p0), (2, .int p1)] := hl
  have KL23 : ∀ (n0 : Nat) (z23 : (Int32 × Int32)) (H : Heap) (locs : List Loc), va_P G.1 vwCl [(o0, .inr (3, [.int o.1, .ref o1, .ref o2, .ref o3, .ref o4, .ref o5])), (o1, .inl (G.2.1, 48, .inl o.2.1)), (o2, .inl (G.2.1, 48, .inl o.2.2.1)), (o3, .inl (G.2.1, 48, .inl o.2.2.2.1)), (o4, .inl (G.2.1, 48, .inl o.2.2.2.2.1)), (o5, .inl (G.2.1, 49, .inl o.2.2.2.2.2))] H → va_S (va_A [] s.heap.size) s.heap H locs → ∀ (ls : Array Slot), lv_has ls 5 [(0, .ref o0), (2, .int p1), (3, .int z23.1), (4, .int z23.2)] → fl_loopN (P_Or_sharedByAll_L23 o p1) n0 z23 = some r → W p l e (fl_rm 2 42) s m args below meth c H locs 0 0 Q (F0 m 23 ls []) := by
    intro n0
    induction n0 with
    | zero => intro z23 H locs hP hS ls hl hn; exact (fl_loopN_0 hn).elim
    | succ n0 ih23 =>
      intro z23 H locs hP hS ls hl hn
      obtain ⟨y23, hb23, hy23⟩ := fl_loopN_step hn
      clear hn
      have hp := hb23
      unfold P_Or_sharedByAll_L23 at hp
      refine lv_iload hx hb dX3_sharedByAll_23 (lv_at hl 3 rfl) ?_
      refine lv_iload_n hx hb dX3_sharedByAll_25 rfl (lv_at hl 1 rfl) ?_
      refine lv_icmp_ge (tgt := 50) hx hb dX3_sharedByAll_26 (by decide) (fun hc => ?_) (fun hc => ?_)
      · replace hp := fl_t hc hp
        refine lv_iload_n hx hb dX3_sharedByAll_50 rfl (lv_at hl 2 rfl) ?_
        obtain rfl := Option.some.inj hp
        obtain rfl := fl_cont_inr hy23
        exact hfin H locs _ ls hS dX3_sharedByAll_51 rfl
      · replace hp := fl_f hc hp
        refine lv_iload_n hx hb dX3_sharedByAll_29 rfl (lv_at hl 2 rfl) ?_
        refine lv_aload_n hx hb dX3_sharedByAll_30 rfl (lv_at hl 0 rfl) ?_
        refine lv_aload_n hx hb dX3_sharedByAll_31 rfl (lv_at hl 0 rfl) ?_
        refine lv_iload hx hb dX3_sharedByAll_32 (lv_at hl 3 rfl) ?_
        obtain ⟨q1, hq1, hp⟩ := fl_bd_of hp
        refine fl_roV (As := [.int z23.2]) (rest := [.ref o0, .int z23.1]) C0 (c_Or_placeAt l G o0 o1 o2 o3 o4 o5 o z23.2 hq1) (cwV 1 hts gX3_sharedByAll_X3_placeAt rfl rfl rfl (by decide +kernel) ⟨Nat.le_of_ble_eq_true rfl, Nat.le_of_ble_eq_true rfl⟩) hK hP [0, 1, 2, 3, 4, 5] rfl 0 3 rfl rfl rfl hS hA rfl hl.1 rfl (Nat.le_of_ble_eq_true rfl) dX3_sharedByAll_34 ⟨Nat.zero_le _, Nat.zero_le _⟩ (fun H locs hP hS => ?_)
        obtain ⟨q2, hq2, hp⟩ := fl_bd_of hp
        refine fl_roV (As := [.int q1]) (rest := [.int z23.1]) C0 (c_Or_sharedWithAhead l G o0 o1 o2 o3 o4 o5 o q1 hq2) (cwV 1 hts gX3_sharedByAll_X3_sharedWithAhead rfl rfl rfl (by decide +kernel) ⟨Nat.le_of_ble_eq_true rfl, Nat.le_of_ble_eq_true rfl⟩) hK hP [0, 1, 2, 3, 4, 5] rfl 0 3 rfl rfl rfl hS hA rfl hl.1 rfl (Nat.le_of_ble_eq_true rfl) dX3_sharedByAll_37 ⟨Nat.zero_le _, Nat.zero_le _⟩ (fun H locs hP hS => ?_)
        refine va_mmin hx hb (hml.trans hl.1.symm) hown (hts (.methodLink RX3 38 Lib.Math.min.name) (List.mem_of_getElem? (i := 2) rfl)) (hts (.static Lib.Math.min.name) (List.mem_of_getElem? (i := 3) rfl)) (hts (.initialized "java/lang/Math") (List.mem_of_getElem? (i := 4) rfl)) (hts (.code Lib.Math.min.name Lib.Math.min.code 2 (some .int)) (List.mem_of_getElem? (i := 5) rfl)) (Nat.le_of_ble_eq_true rfl) (Nat.le_of_ble_eq_true rfl) (Nat.zero_le _) (Nat.zero_le _) dX3_sharedByAll_40 ?_
        refine lv_istore_n (lv' := [(3, .int (fl_mn z23.1 q2)), (0, .ref o0), (2, .int p1), (4, .int z23.2)]) hx hb dX3_sharedByAll_43 rfl hl (by decide) rfl (fun ls hl => ?_)
        refine lv_iinc (v := (z23.2 + (1 : Int32))) (lv' := [(4, .int (z23.2 + (1 : Int32))), (3, .int (fl_mn z23.1 q2)), (0, .ref o0), (2, .int p1)]) hx hb dX3_sharedByAll_44 hl (k := 3) rfl rfl (by decide) rfl (fun ls hl => ?_)
        refine lv_goto (tgt := 23) hx hb dX3_sharedByAll_47 (by decide) ?_
        obtain rfl := Option.some.inj hp
        exact ih23 ((fl_mn z23.1 q2), (z23.2 + (1 : Int32))) H locs hP hS ls (lv_sub hl [2, 3, 1, 0] rfl) (fl_cont_inl hy23)
  have hp := hp0
  unfold P_Or_sharedByAll at hp
  refine lv_iload_n hx hb dX3_sharedByAll_0 rfl (lv_at hl 1 rfl) ?_
  refine lv_iload_n hx hb dX3_sharedByAll_1 rfl (lv_at hl 2 rfl) ?_
  refine lv_icmp_lt (tgt := 7) hx hb dX3_sharedByAll_2 (by decide) (fun hc => ?_) (fun hc => ?_)
  · replace hp := fl_t hc hp
    refine lv_aload_n hx hb dX3_sharedByAll_7 rfl (lv_at hl 0 rfl) ?_
    refine va_get (D := G.1) (ci := 3) (v := .int o.1) (C := RX3) (T := TX3) (N := 6) hx hb hts iX3 hown hK.1 hP 0 rfl rfl 0 (by decide) (hts (.fieldLink RX3 9 "SongChoir$Order" "notes" "I") (List.mem_of_getElem? (i := 1) rfl)) (fun _ h9 => h9) rfl dX3_sharedByAll_8 ?_
    refine lv_aload_n hx hb dX3_sharedByAll_11 rfl (lv_at hl 0 rfl) ?_
    refine lv_iload_n hx hb dX3_sharedByAll_12 rfl (lv_at hl 1 rfl) ?_
    obtain ⟨q1, hq1, hp⟩ := fl_bd_of hp
    refine fl_roV (As := [.int p0]) (rest := [.int o.1]) C0 (c_Or_placeAt l G o0 o1 o2 o3 o4 o5 o p0 hq1) (cwV 1 hts gX3_sharedByAll_X3_placeAt rfl rfl rfl (by decide +kernel) ⟨Nat.le_of_ble_eq_true rfl, Nat.le_of_ble_eq_true rfl⟩) hK hP [0, 1, 2, 3, 4, 5] rfl 0 3 rfl rfl rfl hS hA rfl hl.1 rfl (Nat.le_of_ble_eq_true rfl) dX3_sharedByAll_13 ⟨Nat.zero_le _, Nat.zero_le _⟩ (fun H locs hP hS => ?_)
    refine lv_isub hx hb dX3_sharedByAll_16 ?_
    refine lv_istore_n (lv' := [(3, .int (o.1 - q1)), (0, .ref o0), (1, .int p0), (2, .int p1)]) hx hb dX3_sharedByAll_17 rfl hl (by decide) rfl (fun ls hl => ?_)
    refine lv_iload_n hx hb dX3_sharedByAll_18 rfl (lv_at hl 2 rfl) ?_
    refine lv_iconst (v := (1 : Int32)) hx hb dX3_sharedByAll_19 (by decide) ?_
    refine lv_iadd hx hb dX3_sharedByAll_20 ?_
    refine lv_istore (lv' := [(4, .int (p0 + (1 : Int32))), (3, .int (o.1 - q1)), (0, .ref o0), (1, .int p0), (2, .int p1)]) hx hb dX3_sharedByAll_21 hl (by decide) rfl (fun ls hl => ?_)
    obtain ⟨n0, hn⟩ := fl_loop_ex hp
    exact KL23 n0 ((o.1 - q1), (p0 + (1 : Int32))) H locs hP hS ls (lv_sub hl [2, 4, 1, 0] rfl) hn
  · replace hp := fl_f hc hp
    refine lv_iconst (v := (0 : Int32)) hx hb dX3_sharedByAll_5 (by decide) ?_
    obtain rfl := Option.some.inj hp
    exact hfin H locs _ ls hS dX3_sharedByAll_6 rfl

noncomputable def P_Or_mostSung_J115 (o : fl_Or) (p1 : Int32) (v3 : Int32) (v4 : Int32) : Option Int32 := if p1 = 0 then some v4 else some v3
noncomputable def P_Or_mostSung_J109 (o : fl_Or) (p0 : Int32) (p1 : Int32) (v3 : Int32) (v4 : Int32) (v5 : Int32) (v6 : Int32) (v7 : Int32) : Option ((Int32 × Int32 × Int32 × Int32 × Int32) ⊕ Int32) := some (.inl (v3, v4, v5, v6, (v7 + (1 : Int32))))
noncomputable def P_Or_mostSung_J94 (o : fl_Or) (p0 : Int32) (p1 : Int32) (v3 : Int32) (v4 : Int32) (v5 : Int32) (v7 : Int32) (k0 : Int32) : Option ((Int32 × Int32 × Int32 × Int32 × Int32) ⊕ Int32) := if v5 ≤ v3 then P_Or_mostSung_J109 o p0 p1 v3 v4 v5 k0 v7 else P_Or_mostSung_J109 o p0 p1 v5 k0 v5 k0 v7
noncomputable def P_Or_mostSung_J75 (o : fl_Or) (p0 : Int32) (p1 : Int32) (v3 : Int32) (v4 : Int32) (v6 : Int32) (v7 : Int32) (v8 : Int32) (v9 : Int32) (k0 : Int32) : Option ((Int32 × Int32 × Int32 × Int32 × Int32) ⊕ Int32) := if v9 = 0 then P_Or_mostSung_J94 o p0 p1 v3 v4 k0 v7 v8 else P_Or_mostSung_J94 o p0 p1 v3 v4 k0 v7 (fl_mn v6 v8)
noncomputable def P_Or_mostSung_J60 (o : fl_Or) (p0 : Int32) (p1 : Int32) (v3 : Int32) (v4 : Int32) (v5 : Int32) (v6 : Int32) (v7 : Int32) (v8 : Int32) (k0 : Int32) : Option ((Int32 × Int32 × Int32 × Int32 × Int32) ⊕ Int32) := if k0 = 0 then P_Or_mostSung_J75 o p0 p1 v3 v4 v6 v7 v8 k0 (1 : Int32) else P_Or_mostSung_J75 o p0 p1 v3 v4 v6 v7 v8 k0 (v5 + (1 : Int32))
noncomputable def P_Or_mostSung_L14 (o : fl_Or) (p0 : Int32) (p1 : Int32) (z14 : (Int32 × Int32 × Int32 × Int32 × Int32)) : Option ((Int32 × Int32 × Int32 × Int32 × Int32) ⊕ Int32) := if o.1 ≤ z14.2.2.2.2 then fl_up (P_Or_mostSung_J115 o p1 z14.1 z14.2.1) else fl_bd (P_Or_placeAt o z14.2.2.2.2) (fun q1 => if p0 ≤ (o.1 - q1) then fl_bd (P_Or_sharedWithAhead o q1) (fun q2 => if q2 < p0 then P_Or_mostSung_J60 o p0 p1 z14.1 z14.2.1 z14.2.2.1 z14.2.2.2.1 z14.2.2.2.2 q1 (0 : Int32) else P_Or_mostSung_J60 o p0 p1 z14.1 z14.2.1 z14.2.2.1 z14.2.2.2.1 z14.2.2.2.2 q1 (1 : Int32)) else P_Or_mostSung_J109 o p0 p1 z14.1 z14.2.1 z14.2.2.1 z14.2.2.2.1 z14.2.2.2.2)
noncomputable def P_Or_mostSung (o : fl_Or) (p0 : Int32) (p1 : Int32) : Option Int32 := fl_loop (P_Or_mostSung_L14 o p0 p1) ((0 : Int32), (-1 : Int32), (0 : Int32), (0 : Int32), (0 : Int32))
set_option maxHeartbeats 4000000 in
set_option maxRecDepth 100000 in
theorem c_Or_mostSung (l : Launch) (G : fl_G) (o0 o1 o2 o3 o4 o5 : Nat) (o : fl_Or) (p0 : Int32) (p1 : Int32) {r : Int32} (hp0 : P_Or_mostSung o p0 p1 = some r) : fl_ro l yX3_mostSung wsX3_mostSung 2 42 G [.ref o0, .int p0, .int p1] [(o0, .inr (3, [.int o.1, .ref o1, .ref o2, .ref o3, .ref o4, .ref o5])), (o1, .inl (G.2.1, 48, .inl o.2.1)), (o2, .inl (G.2.1, 48, .inl o.2.2.1)), (o3, .inl (G.2.1, 48, .inl o.2.2.2.1)), (o4, .inl (G.2.1, 48, .inl o.2.2.2.2.1)), (o5, .inl (G.2.1, 49, .inl o.2.2.2.2.2))] (.int r) := by
  refine fl_ro_in cX3_mostSung 10 .int RX3 (by decide) rfl rfl (Nat.le_of_ble_eq_true rfl) ?_
  intro p e s m args below meth c ls Q H locs C0 hK hP hS hl hfin
  have hA : ∀ q : Nat, s.heap.size ≤ q → va_A [] s.heap.size q := fl_hA _ _
  obtain ⟨hx, hb, hml, hown, hts⟩ := id C0
  have iX3 : ∀ w ∈ u_ws RX3 TX3 6, w ∈ wsX3_mostSung := fun _ h => List.mem_cons_of_mem _ (List.mem_append_right _ h)
  have hl : lv_has ls 10 [(0, .ref o0), (1, .int p0), (2, .int p1)] := hl
  have KJ115 : ∀ (v3 : Int32) (v4 : Int32) (H : Heap) (locs : List Loc), va_P G.1 vwCl [(o0, .inr (3, [.int o.1, .ref o1, .ref o2, .ref o3, .ref o4, .ref o5])), (o1, .inl (G.2.1, 48, .inl o.2.1)), (o2, .inl (G.2.1, 48, .inl o.2.2.1)), (o3, .inl (G.2.1, 48, .inl o.2.2.2.1)), (o4, .inl (G.2.1, 48, .inl o.2.2.2.2.1)), (o5, .inl (G.2.1, 49, .inl o.2.2.2.2.2))] H → va_S (va_A [] s.heap.size) s.heap H locs → ∀ (ls : Array Slot), lv_has ls 10 [(2, .int p1), (3, .int v3), (4, .int v4)] → P_Or_mostSung_J115 o p1 v3 v4 = some r → W p l e (fl_rm 2 42) s m args below meth c H locs 0 0 Q (F0 m 115 ls []) := by
    intro v3 v4 H locs hP hS ls hl hp
    unfold P_Or_mostSung_J115 at hp
    refine lv_iload_n hx hb dX3_mostSung_115 rfl (lv_at hl 0 rfl) ?_
    refine lv_if_eq (tgt := 123) hx hb dX3_mostSung_116 (by decide) (fun hc => ?_) (fun hc => ?_)
    · replace hp := fl_t hc hp
      refine lv_iload hx hb dX3_mostSung_123 (lv_at hl 2 rfl) ?_
      obtain rfl := Option.some.inj hp
      exact hfin H locs _ ls hS dX3_mostSung_125 rfl
    · replace hp := fl_f hc hp
      refine lv_iload_n hx hb dX3_mostSung_119 rfl (lv_at hl 1 rfl) ?_
      refine lv_goto (tgt := 125) hx hb dX3_mostSung_120 (by decide) ?_
      obtain rfl := Option.some.inj hp
      exact hfin H locs _ ls hS dX3_mostSung_125 rfl
  have KL14 : ∀ (n0 : Nat) (z14 : (Int32 × Int32 × Int32 × Int32 × Int32)) (H : Heap) (locs : List Loc), va_P G.1 vwCl [(o0, .inr (3, [.int o.1, .ref o1, .ref o2, .ref o3, .ref o4, .ref o5])), (o1, .inl (G.2.1, 48, .inl o.2.1)), (o2, .inl (G.2.1, 48, .inl o.2.2.1)), (o3, .inl (G.2.1, 48, .inl o.2.2.2.1)), (o4, .inl (G.2.1, 48, .inl o.2.2.2.2.1)), (o5, .inl (G.2.1, 49, .inl o.2.2.2.2.2))] H → va_S (va_A [] s.heap.size) s.heap H locs → ∀ (ls : Array Slot), lv_has ls 10 [(0, .ref o0), (1, .int p0), (2, .int p1), (3, .int z14.1), (4, .int z14.2.1), (5, .int z14.2.2.1), (6, .int z14.2.2.2.1), (7, .int z14.2.2.2.2)] → fl_loopN (P_Or_mostSung_L14 o p0 p1) n0 z14 = some r → W p l e (fl_rm 2 42) s m args below meth c H locs 0 0 Q (F0 m 14 ls []) := by
    intro n0
    induction n0 with
    | zero => intro z14 H locs hP hS ls hl hn; exact (fl_loopN_0 hn).elim
    | succ n0 ih14 =>
      intro z14 H locs hP hS ls hl hn
      obtain ⟨y14, hb14, hy14⟩ := fl_loopN_step hn
      clear hn
      have KJ109 : ∀ (v3 : Int32) (v4 : Int32) (v5 : Int32) (v6 : Int32) (v7 : Int32) (H : Heap) (locs : List Loc), va_P G.1 vwCl [(o0, .inr (3, [.int o.1, .ref o1, .ref o2, .ref o3, .ref o4, .ref o5])), (o1, .inl (G.2.1, 48, .inl o.2.1)), (o2, .inl (G.2.1, 48, .inl o.2.2.1)), (o3, .inl (G.2.1, 48, .inl o.2.2.2.1)), (o4, .inl (G.2.1, 48, .inl o.2.2.2.2.1)), (o5, .inl (G.2.1, 49, .inl o.2.2.2.2.2))] H → va_S (va_A [] s.heap.size) s.heap H locs → ∀ (ls : Array Slot), lv_has ls 10 [(0, .ref o0), (1, .int p0), (2, .int p1), (3, .int v3), (4, .int v4), (5, .int v5), (6, .int v6), (7, .int v7)] → P_Or_mostSung_J109 o p0 p1 v3 v4 v5 v6 v7 = some y14 → W p l e (fl_rm 2 42) s m args below meth c H locs 0 0 Q (F0 m 109 ls []) := by
        intro v3 v4 v5 v6 v7 H locs hP hS ls hl hp
        unfold P_Or_mostSung_J109 at hp
        refine lv_iinc (v := (v7 + (1 : Int32))) (lv' := [(7, .int (v7 + (1 : Int32))), (0, .ref o0), (1, .int p0), (2, .int p1), (3, .int v3), (4, .int v4), (5, .int v5), (6, .int v6)]) hx hb dX3_mostSung_109 hl (k := 7) rfl rfl (by decide) rfl (fun ls hl => ?_)
        refine lv_goto (tgt := 14) hx hb dX3_mostSung_112 (by decide) ?_
        obtain rfl := Option.some.inj hp
        exact ih14 (v3, v4, v5, v6, (v7 + (1 : Int32))) H locs hP hS ls (lv_sub hl [1, 2, 3, 4, 5, 6, 7, 0] rfl) (fl_cont_inl hy14)
      have KJ94 : ∀ (v3 : Int32) (v4 : Int32) (v5 : Int32) (v7 : Int32) (k0 : Int32) (H : Heap) (locs : List Loc), va_P G.1 vwCl [(o0, .inr (3, [.int o.1, .ref o1, .ref o2, .ref o3, .ref o4, .ref o5])), (o1, .inl (G.2.1, 48, .inl o.2.1)), (o2, .inl (G.2.1, 48, .inl o.2.2.1)), (o3, .inl (G.2.1, 48, .inl o.2.2.2.1)), (o4, .inl (G.2.1, 48, .inl o.2.2.2.2.1)), (o5, .inl (G.2.1, 49, .inl o.2.2.2.2.2))] H → va_S (va_A [] s.heap.size) s.heap H locs → ∀ (ls : Array Slot), lv_has ls 10 [(0, .ref o0), (1, .int p0), (2, .int p1), (3, .int v3), (4, .int v4), (5, .int v5), (7, .int v7)] → P_Or_mostSung_J94 o p0 p1 v3 v4 v5 v7 k0 = some y14 → W p l e (fl_rm 2 42) s m args below meth c H locs 0 0 Q (F0 m 94 ls [.int k0]) := by
        intro v3 v4 v5 v7 k0 H locs hP hS ls hl hp
        unfold P_Or_mostSung_J94 at hp
        refine lv_istore (lv' := [(6, .int k0), (0, .ref o0), (1, .int p0), (2, .int p1), (3, .int v3), (4, .int v4), (5, .int v5), (7, .int v7)]) hx hb dX3_mostSung_94 hl (by decide) rfl (fun ls hl => ?_)
        refine lv_iload hx hb dX3_mostSung_96 (lv_at hl 6 rfl) ?_
        refine lv_iload_n hx hb dX3_mostSung_98 rfl (lv_at hl 4 rfl) ?_
        refine lv_icmp_le (tgt := 109) hx hb dX3_mostSung_99 (by decide) (fun hc => ?_) (fun hc => ?_)
        · replace hp := fl_t hc hp
          exact KJ109 v3 v4 v5 k0 v7 H locs hP hS ls (lv_sub hl [1, 2, 3, 4, 5, 6, 0, 7] rfl) hp
        · replace hp := fl_f hc hp
          refine lv_iload hx hb dX3_mostSung_102 (lv_at hl 6 rfl) ?_
          refine lv_istore_n (lv' := [(3, .int v5), (6, .int k0), (0, .ref o0), (1, .int p0), (2, .int p1), (4, .int v4), (5, .int v5), (7, .int v7)]) hx hb dX3_mostSung_104 rfl hl (by decide) rfl (fun ls hl => ?_)
          refine lv_iload hx hb dX3_mostSung_105 (lv_at hl 1 rfl) ?_
          refine lv_istore (lv' := [(4, .int k0), (3, .int v5), (6, .int k0), (0, .ref o0), (1, .int p0), (2, .int p1), (5, .int v5), (7, .int v7)]) hx hb dX3_mostSung_107 hl (by decide) rfl (fun ls hl => ?_)
          exact KJ109 v5 k0 v5 k0 v7 H locs hP hS ls (lv_sub hl [3, 4, 5, 1, 0, 6, 2, 7] rfl) hp
      have KJ75 : ∀ (v3 : Int32) (v4 : Int32) (v6 : Int32) (v7 : Int32) (v8 : Int32) (v9 : Int32) (k0 : Int32) (H : Heap) (locs : List Loc), va_P G.1 vwCl [(o0, .inr (3, [.int o.1, .ref o1, .ref o2, .ref o3, .ref o4, .ref o5])), (o1, .inl (G.2.1, 48, .inl o.2.1)), (o2, .inl (G.2.1, 48, .inl o.2.2.1)), (o3, .inl (G.2.1, 48, .inl o.2.2.2.1)), (o4, .inl (G.2.1, 48, .inl o.2.2.2.2.1)), (o5, .inl (G.2.1, 49, .inl o.2.2.2.2.2))] H → va_S (va_A [] s.heap.size) s.heap H locs → ∀ (ls : Array Slot), lv_has ls 10 [(0, .ref o0), (1, .int p0), (2, .int p1), (3, .int v3), (4, .int v4), (6, .int v6), (7, .int v7), (8, .int v8), (9, .int v9)] → P_Or_mostSung_J75 o p0 p1 v3 v4 v6 v7 v8 v9 k0 = some y14 → W p l e (fl_rm 2 42) s m args below meth c H locs 0 0 Q (F0 m 75 ls [.int k0]) := by
        intro v3 v4 v6 v7 v8 v9 k0 H locs hP hS ls hl hp
        unfold P_Or_mostSung_J75 at hp
        refine lv_istore (lv' := [(5, .int k0), (0, .ref o0), (1, .int p0), (2, .int p1), (3, .int v3), (4, .int v4), (6, .int v6), (7, .int v7), (8, .int v8), (9, .int v9)]) hx hb dX3_mostSung_75 hl (by decide) rfl (fun ls hl => ?_)
        refine lv_iload hx hb dX3_mostSung_77 (lv_at hl 9 rfl) ?_
        refine lv_if_eq (tgt := 92) hx hb dX3_mostSung_79 (by decide) (fun hc => ?_) (fun hc => ?_)
        · replace hp := fl_t hc hp
          refine lv_iload hx hb dX3_mostSung_92 (lv_at hl 8 rfl) ?_
          exact KJ94 v3 v4 k0 v7 v8 H locs hP hS ls (lv_sub hl [1, 2, 3, 4, 5, 0, 7] rfl) hp
        · replace hp := fl_f hc hp
          refine lv_iload hx hb dX3_mostSung_82 (lv_at hl 6 rfl) ?_
          refine lv_iload hx hb dX3_mostSung_84 (lv_at hl 8 rfl) ?_
          refine va_mmin hx hb (hml.trans hl.1.symm) hown (hts (.methodLink RX3 38 Lib.Math.min.name) (List.mem_of_getElem? (i := 2) rfl)) (hts (.static Lib.Math.min.name) (List.mem_of_getElem? (i := 3) rfl)) (hts (.initialized "java/lang/Math") (List.mem_of_getElem? (i := 4) rfl)) (hts (.code Lib.Math.min.name Lib.Math.min.code 2 (some .int)) (List.mem_of_getElem? (i := 5) rfl)) (Nat.le_of_ble_eq_true rfl) (Nat.le_of_ble_eq_true rfl) (Nat.zero_le _) (Nat.zero_le _) dX3_mostSung_86 ?_
          refine lv_goto (tgt := 94) hx hb dX3_mostSung_89 (by decide) ?_
          exact KJ94 v3 v4 k0 v7 (fl_mn v6 v8) H locs hP hS ls (lv_sub hl [1, 2, 3, 4, 5, 0, 7] rfl) hp
      have KJ60 : ∀ (v3 : Int32) (v4 : Int32) (v5 : Int32) (v6 : Int32) (v7 : Int32) (v8 : Int32) (k0 : Int32) (H : Heap) (locs : List Loc), va_P G.1 vwCl [(o0, .inr (3, [.int o.1, .ref o1, .ref o2, .ref o3, .ref o4, .ref o5])), (o1, .inl (G.2.1, 48, .inl o.2.1)), (o2, .inl (G.2.1, 48, .inl o.2.2.1)), (o3, .inl (G.2.1, 48, .inl o.2.2.2.1)), (o4, .inl (G.2.1, 48, .inl o.2.2.2.2.1)), (o5, .inl (G.2.1, 49, .inl o.2.2.2.2.2))] H → va_S (va_A [] s.heap.size) s.heap H locs → ∀ (ls : Array Slot), lv_has ls 10 [(0, .ref o0), (1, .int p0), (2, .int p1), (3, .int v3), (4, .int v4), (5, .int v5), (6, .int v6), (7, .int v7), (8, .int v8)] → P_Or_mostSung_J60 o p0 p1 v3 v4 v5 v6 v7 v8 k0 = some y14 → W p l e (fl_rm 2 42) s m args below meth c H locs 0 0 Q (F0 m 60 ls [.int k0]) := by
        intro v3 v4 v5 v6 v7 v8 k0 H locs hP hS ls hl hp
        unfold P_Or_mostSung_J60 at hp
        refine lv_istore (lv' := [(9, .int k0), (0, .ref o0), (1, .int p0), (2, .int p1), (3, .int v3), (4, .int v4), (5, .int v5), (6, .int v6), (7, .int v7), (8, .int v8)]) hx hb dX3_mostSung_60 hl (by decide) rfl (fun ls hl => ?_)
        refine lv_iload hx hb dX3_mostSung_62 (lv_at hl 0 rfl) ?_
        refine lv_if_eq (tgt := 74) hx hb dX3_mostSung_64 (by decide) (fun hc => ?_) (fun hc => ?_)
        · replace hp := fl_t hc hp
          refine lv_iconst (v := (1 : Int32)) hx hb dX3_mostSung_74 (by decide) ?_
          exact KJ75 v3 v4 v6 v7 v8 k0 (1 : Int32) H locs hP hS ls (lv_sub hl [1, 2, 3, 4, 5, 7, 8, 9, 0] rfl) hp
        · replace hp := fl_f hc hp
          refine lv_iload hx hb dX3_mostSung_67 (lv_at hl 6 rfl) ?_
          refine lv_iconst (v := (1 : Int32)) hx hb dX3_mostSung_69 (by decide) ?_
          refine lv_iadd hx hb dX3_mostSung_70 ?_
          refine lv_goto (tgt := 75) hx hb dX3_mostSung_71 (by decide) ?_
          exact KJ75 v3 v4 v6 v7 v8 k0 (v5 + (1 : Int32)) H locs hP hS ls (lv_sub hl [1, 2, 3, 4, 5, 7, 8, 9, 0] rfl) hp
      have hp := hb14
      unfold P_Or_mostSung_L14 at hp
      refine lv_iload hx hb dX3_mostSung_14 (lv_at hl 7 rfl) ?_
      refine lv_aload_n hx hb dX3_mostSung_16 rfl (lv_at hl 0 rfl) ?_
      refine va_get (D := G.1) (ci := 3) (v := .int o.1) (C := RX3) (T := TX3) (N := 6) hx hb hts iX3 hown hK.1 hP 0 rfl rfl 0 (by decide) (hts (.fieldLink RX3 9 "SongChoir$Order" "notes" "I") (List.mem_of_getElem? (i := 1) rfl)) (fun _ h9 => h9) rfl dX3_mostSung_17 ?_
      refine lv_icmp_ge (tgt := 115) hx hb dX3_mostSung_20 (by decide) (fun hc => ?_) (fun hc => ?_)
      · replace hp := fl_t hc hp
        obtain ⟨_, hu0, rfl⟩ := fl_up_of hp
        obtain rfl := fl_cont_inr hy14
        exact KJ115 z14.1 z14.2.1 H locs hP hS ls (lv_sub hl [2, 3, 4] rfl) hu0
      · replace hp := fl_f hc hp
        refine lv_aload_n hx hb dX3_mostSung_23 rfl (lv_at hl 0 rfl) ?_
        refine lv_iload hx hb dX3_mostSung_24 (lv_at hl 7 rfl) ?_
        obtain ⟨q1, hq1, hp⟩ := fl_bd_of hp
        refine fl_roV (As := [.int z14.2.2.2.2]) (rest := []) C0 (c_Or_placeAt l G o0 o1 o2 o3 o4 o5 o z14.2.2.2.2 hq1) (cwV 1 hts gX3_mostSung_X3_placeAt rfl rfl rfl (by decide +kernel) ⟨Nat.le_of_ble_eq_true rfl, Nat.le_of_ble_eq_true rfl⟩) hK hP [0, 1, 2, 3, 4, 5] rfl 0 3 rfl rfl rfl hS hA rfl hl.1 rfl (Nat.le_of_ble_eq_true rfl) dX3_mostSung_26 ⟨Nat.zero_le _, Nat.zero_le _⟩ (fun H locs hP hS => ?_)
        refine lv_istore (lv' := [(8, .int q1), (0, .ref o0), (1, .int p0), (2, .int p1), (3, .int z14.1), (4, .int z14.2.1), (5, .int z14.2.2.1), (6, .int z14.2.2.2.1), (7, .int z14.2.2.2.2)]) hx hb dX3_mostSung_29 hl (by decide) rfl (fun ls hl => ?_)
        refine lv_aload_n hx hb dX3_mostSung_31 rfl (lv_at hl 1 rfl) ?_
        refine va_get (D := G.1) (ci := 3) (v := .int o.1) (C := RX3) (T := TX3) (N := 6) hx hb hts iX3 hown hK.1 hP 0 rfl rfl 0 (by decide) (hts (.fieldLink RX3 9 "SongChoir$Order" "notes" "I") (List.mem_of_getElem? (i := 1) rfl)) (fun _ h9 => h9) rfl dX3_mostSung_32 ?_
        refine lv_iload hx hb dX3_mostSung_35 (lv_at hl 0 rfl) ?_
        refine lv_isub hx hb dX3_mostSung_37 ?_
        refine lv_iload_n hx hb dX3_mostSung_38 rfl (lv_at hl 2 rfl) ?_
        refine lv_icmp_ge (tgt := 45) hx hb dX3_mostSung_39 (by decide) (fun hc => ?_) (fun hc => ?_)
        · replace hp := fl_t hc hp
          refine lv_aload_n hx hb dX3_mostSung_45 rfl (lv_at hl 1 rfl) ?_
          refine lv_iload hx hb dX3_mostSung_46 (lv_at hl 0 rfl) ?_
          obtain ⟨q2, hq2, hp⟩ := fl_bd_of hp
          refine fl_roV (As := [.int q1]) (rest := []) C0 (c_Or_sharedWithAhead l G o0 o1 o2 o3 o4 o5 o q1 hq2) (cwV 1 hts gX3_mostSung_X3_sharedWithAhead rfl rfl rfl (by decide +kernel) ⟨Nat.le_of_ble_eq_true rfl, Nat.le_of_ble_eq_true rfl⟩) hK hP [0, 1, 2, 3, 4, 5] rfl 0 3 rfl rfl rfl hS hA rfl hl.1 rfl (Nat.le_of_ble_eq_true rfl) dX3_mostSung_48 ⟨Nat.zero_le _, Nat.zero_le _⟩ (fun H locs hP hS => ?_)
          refine lv_iload_n hx hb dX3_mostSung_51 rfl (lv_at hl 2 rfl) ?_
          refine lv_icmp_lt (tgt := 59) hx hb dX3_mostSung_52 (by decide) (fun hc => ?_) (fun hc => ?_)
          · replace hp := fl_t hc hp
            refine lv_iconst (v := (0 : Int32)) hx hb dX3_mostSung_59 (by decide) ?_
            exact KJ60 z14.1 z14.2.1 z14.2.2.1 z14.2.2.2.1 z14.2.2.2.2 q1 (0 : Int32) H locs hP hS ls (lv_sub hl [1, 2, 3, 4, 5, 6, 7, 8, 0] rfl) hp
          · replace hp := fl_f hc hp
            refine lv_iconst (v := (1 : Int32)) hx hb dX3_mostSung_55 (by decide) ?_
            refine lv_goto (tgt := 60) hx hb dX3_mostSung_56 (by decide) ?_
            exact KJ60 z14.1 z14.2.1 z14.2.2.1 z14.2.2.2.1 z14.2.2.2.2 q1 (1 : Int32) H locs hP hS ls (lv_sub hl [1, 2, 3, 4, 5, 6, 7, 8, 0] rfl) hp
        · replace hp := fl_f hc hp
          refine lv_goto (tgt := 109) hx hb dX3_mostSung_42 (by decide) ?_
          exact KJ109 z14.1 z14.2.1 z14.2.2.1 z14.2.2.2.1 z14.2.2.2.2 H locs hP hS ls (lv_sub hl [1, 2, 3, 4, 5, 6, 7, 8] rfl) hp
  have hp := hp0
  unfold P_Or_mostSung at hp
  refine lv_iconst (v := (0 : Int32)) hx hb dX3_mostSung_0 (by decide) ?_
  refine lv_istore_n (lv' := [(3, .int (0 : Int32)), (0, .ref o0), (1, .int p0), (2, .int p1)]) hx hb dX3_mostSung_1 rfl hl (by decide) rfl (fun ls hl => ?_)
  refine lv_iconst (v := (-1 : Int32)) hx hb dX3_mostSung_2 (by decide) ?_
  refine lv_istore (lv' := [(4, .int (-1 : Int32)), (3, .int (0 : Int32)), (0, .ref o0), (1, .int p0), (2, .int p1)]) hx hb dX3_mostSung_3 hl (by decide) rfl (fun ls hl => ?_)
  refine lv_iconst (v := (0 : Int32)) hx hb dX3_mostSung_5 (by decide) ?_
  refine lv_istore (lv' := [(5, .int (0 : Int32)), (4, .int (-1 : Int32)), (3, .int (0 : Int32)), (0, .ref o0), (1, .int p0), (2, .int p1)]) hx hb dX3_mostSung_6 hl (by decide) rfl (fun ls hl => ?_)
  refine lv_iconst (v := (0 : Int32)) hx hb dX3_mostSung_8 (by decide) ?_
  refine lv_istore (lv' := [(6, .int (0 : Int32)), (5, .int (0 : Int32)), (4, .int (-1 : Int32)), (3, .int (0 : Int32)), (0, .ref o0), (1, .int p0), (2, .int p1)]) hx hb dX3_mostSung_9 hl (by decide) rfl (fun ls hl => ?_)
  refine lv_iconst (v := (0 : Int32)) hx hb dX3_mostSung_11 (by decide) ?_
  refine lv_istore (lv' := [(7, .int (0 : Int32)), (6, .int (0 : Int32)), (5, .int (0 : Int32)), (4, .int (-1 : Int32)), (3, .int (0 : Int32)), (0, .ref o0), (1, .int p0), (2, .int p1)]) hx hb dX3_mostSung_12 hl (by decide) rfl (fun ls hl => ?_)
  obtain ⟨n0, hn⟩ := fl_loop_ex hp
  exact KL14 n0 ((0 : Int32), (-1 : Int32), (0 : Int32), (0 : Int32), (0 : Int32)) H locs hP hS ls (lv_sub hl [5, 6, 7, 4, 3, 2, 1, 0] rfl) hn
