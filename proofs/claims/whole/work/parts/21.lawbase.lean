/-! THE LAW'S HELPERS: what is thrown becomes a number; and the law's own calls -/
def fl_lw (l : Launch) (y : MethodName) (ws : List Cond) (fr lo mc ms : Nat) (G : fl_G) (sa : Nat → Nat) (av : List Value) (w0 : va_W) (v : Int32) (PW : va_W → Prop) : Prop :=
  ∀ sz : Nat, Met l y ws (fl_rx fr lo mc ms) (va_Pc av (fun U => U.heap.size = sz ∧ va_P G.1 vwCl w0 U.heap ∧ fl_K G U ∧ va_D (fun _ => True) w0 ∧ fl_E sa U ∧ fl_Z (va_A w0 sz) U U.heap)) (fun _ st oc t => oc = .returned (some (.int v)) ∧ (∃ w1, PW w1 ∧ va_P G.1 vwCl w1 t.heap ∧ va_D (va_A w0 sz) w1) ∧ va_F (va_A w0 sz) st t) mc ms (va_A w0 sz)
theorem fl_met_vx {l : Launch} {y : MethodName} {ws : List Cond} {rm : Room} {Pc : Array Value → State → Prop} {Qc : Array Value → State → Outcome → State → Prop} {mc ms : Nat} {free : Addr → Prop} (h : vx_Met l y ws rm Pc Qc (fun _ _ _ => False) mc ms free) : Met l y ws rm Pc Qc mc ms free := by
  intro p e h1 h2 h3 s m args below h4 h5 h6 h7
  obtain ⟨n, o, k1, k2, k3, k4⟩ := h p e h1 h2 h3 s m args below h4 h5 h6 h7
  refine ⟨n, o, k1, k2, k3, ?_⟩
  rcases k4 with ⟨a, L, b, c⟩ | ⟨q, ho, E, ce, L, hX, _⟩
  · exact ⟨a, L, b, c⟩
  · exact hX.elim
theorem fl_lw_in {l : Launch} {y : MethodName} {ws ws' : List Cond} {fr lo mc ms : Nat} {G : fl_G} {sa : Nat → Nat} {av : List Value} {w0 : va_W} {r : Int32} {PW : va_W → Prop} (cc : ByteArray) (maxL : Nat) (hh : List (Nat × Nat × Nat × Nat)) (hy : plainName y.cls = true) (hw : ws = Cond.codeWith y cc maxL (some .int) hh :: ws') (hown : y.cls = RL) (ha : (lg_sl av).length ≤ maxL)
    (body : ∀ (p : Program) (e : Env) (s : State) (m : MethodId) (args : Array Value) (below : List Frame) (meth : Method) (c : Code) (ls : Array Slot) (A : Nat → Prop) (Q : State → Prop) (H : Heap) (locs : List Loc), CallFix p m c cc maxL s args ws RL → c.exceptionTable.toList = tableOf hh → fl_K G s → fl_E sa s → fl_Z A s s.heap → va_P G.1 vwCl w0 H → va_D A w0 → va_S A s.heap H locs → (∀ q : Nat, s.heap.size ≤ q → A q) → lv_has ls maxL (lv_args 0 av) →
      (∀ (w1 : va_W) (H : Heap) (locs : List Loc) (pc cells slots : Nat) (ls : Array Slot), PW w1 → va_P G.1 vwCl w1 H → va_D A w1 → va_S A s.heap H locs → decode cc pc = .ok (.ireturn, 1) → cells ≤ mc → slots ≤ ms → W p l e (fl_rx fr lo mc ms) s m args below meth c H locs cells slots Q (F0 m pc ls [.int r])) →
      W p l e (fl_rx fr lo mc ms) s m args below meth c H locs 0 0 Q (F0 m 0 ls [])) : fl_lw l y ws fr lo mc ms G sa av w0 r PW := by
  intro sz
  refine fl_met_vx (vx_ofWH (cc := cc) (maxL := maxL) (ret := some .int) (hh := hh) hy hw ?_)
  intro p e s m args below meth c s₁ B hml hv
  obtain ⟨rfl, hsz, hP, hK, hD, hE, hZ⟩ := hv
  have hr := B.returns
  have htab := vx_table (x := y) B (atoms_spec (ws := ws) B.pre _ (by rw [hw]; exact List.mem_cons_self))
  subst hsz
  have hl := lv_entry av (n := maxL) ha
  rw [lg_entry_eq]
  refine body p e s m _ below meth c _ _ _ s.heap [] ⟨B.exec, B.bytes, hml, by rw [← hown]; exact findClass_of_methodNamed B.named, atoms_spec (ws := ws) B.pre⟩ htab hK hE hZ hP (hD.self (sz := s.heap.size)) va_S.rf (fl_hA _ _) hl ?_
  intro w1 H locs pc cells slots ls hw1 hP1 hD1 hS hd hc hs
  refine W.widen (k := mc) (n := ms) hc hs ?_
  refine vx_ret ?_
  exact W.iret B.exec B.bytes hr (fun t ht hW => ⟨rfl, ⟨w1, hw1, by rw [ht]; exact hP1, hD1⟩, hS.F ht⟩) hS.2.2 hd
theorem fl_lw_adapt {l : Launch} {y : MethodName} {ws : List Cond} {fr lo mc ms : Nat} {G : fl_G} {sa : Nat → Nat} {av : List Value} {w0 X W : va_W} {v : Int32} {PW PW' : va_W → Prop} (h : fl_lw l y ws fr lo mc ms G sa av w0 v PW) (hW : W.Perm (w0 ++ X)) (hPW : ∀ w1, PW w1 → ∃ w', (w1 ++ X).Perm w' ∧ PW' w') : fl_lw l y ws fr lo mc ms G sa av W v PW' := by
  intro sz p e h1 h2 h3 s m args below h4 h5 h6 h7
  obtain ⟨ha, hsz, hP, hK, hD, hE, hZ⟩ := h6
  obtain ⟨n, o, k1, k2, k3, ⟨e1, ⟨w1, hw, e2, e3⟩, e4⟩, L, k5, k6⟩ := h sz p e h1 h2 h3 s m args below h4 h5 ⟨ha, hsz, fl_P_l (fl_P_perm hW hP), hK, fl_D_l (fl_D_perm hW hD), hE, hZ.narrow (fl_A_sub hW)⟩ h7
  obtain ⟨j1, j2⟩ := fl_adapt_w hsz hW hP hD e2 e3 e4
  obtain ⟨w', hp, hw'⟩ := hPW w1 hw
  exact ⟨n, o, k1, k2, k3, ⟨e1, ⟨w', hw', fl_P_perm hp j1, fl_D_perm hp j2⟩, fl_F_sub e4 (fl_A_sub hW)⟩, L, k5, fun q hq => fl_A_sub hW _ (k6 q hq)⟩
section FLL
variable {p : Program} {l : Launch} {e : Env} {R : Room} {s : State} {m : MethodId} {args : Array Value} {below : List Frame} {meth : Method} {c : Code} {H H0 : Heap} {locs : List Loc} {cells slots : Nat} {Q : State → Prop}
variable {cc : ByteArray} {pc nL n index maxL fr lo mc ms : Nat} {ls : Array Slot} {rest st0 As : List Value} {A : Nat → Prop} {Ts ws : List Cond} {own : String} {y : MethodName} {bytes : ByteArray} {ret : Option FieldType} {hh : List (Nat × Nat × Nat × Nat)} {G : fl_G} {sa : Nat → Nat} {W0 : va_W} {v : Int32} {PW : va_W → Prop}
theorem fl_lwS (C0 : CallFix p m c cc nL s args Ts own) (hM : fl_lw l y ws fr lo mc ms G sa As W0 v PW) (cw : vx_CSW R s args own index y bytes maxL ret hh ws (fl_rx fr lo mc ms) mc ms n) (hK : fl_K G s) (hE : fl_E sa s) (hZ : fl_Z A s H0) (hP : va_P G.1 vwCl W0 H) (hD : va_D A W0) (hS : va_S A H0 H locs) (hA : ∀ q : Nat, H0.size ≤ q → A q)
    (hn : As.length = n) (hls : ls.size = nL) (hst : st0 = As.reverse ++ rest) (hW : (rest.map fun v => v.category).sum ≤ 8) (hdg : decode cc pc = .ok (.invokestatic index, 3)) (hc : cells + mc ≤ R.cells ∧ slots + ms ≤ R.slots)
    (kk : ∀ (w1 : va_W) (H1 : Heap) (locs1 : List Loc), PW w1 → va_P G.1 vwCl w1 H1 → va_D A w1 → va_S A H0 H1 locs1 → W p l e R s m args below meth c H1 locs1 (cells + mc) (slots + ms) Q (F0 m (pc + 3) ls (.int v :: rest))) : W p l e R s m args below meth c H locs cells slots Q (F0 m pc ls st0) := by
  have hF : ∀ q : Nat, va_A W0 H.size q → A q := fl_free (wr := []) (by rw [List.append_nil]; exact hD) hS hA
  have hZ1 : fl_Z (va_A W0 H.size) s H := (hZ.kept fun a h1 h2 => hS.2.1 a h1 h2).narrow hF
  exact fl_ma_go (vo := some (.int v)) (vx_runSW C0 (hM H.size) cw ⟨fl_xm_blind, fl_xm_pre hP hD hK hE hZ1⟩ rfl hn hls hst (lv_room hW) hdg hc) hP hD hS hA kk
end FLL
/-- what a helper answers: 0, or which of its exceptions -/
def fl_cd (ks : List Nat) (ex : Option Nat) (cd : Int32) : Prop := (ex = none ∧ cd = 0) ∨ (∃ k, ks[0]? = some k ∧ ex = some k ∧ cd = 1) ∨ (∃ k, ks[1]? = some k ∧ ex = some k ∧ cd = 2)
theorem fl_pm2 {E : va_W} (S T : va_W) {n : Nat} (hn : E.length = n) (is js : List Nat) (h : (is ++ js).Perm (List.range n)) : (E ++ (S ++ T)).Perm ((is.filterMap (fun i => E[i]?) ++ S) ++ (js.filterMap (fun i => E[i]?) ++ T)) := by
  refine (fl_pm (S ++ T) hn is js h).trans ?_
  rw [List.append_assoc]
  refine List.Perm.append_left _ ?_
  rw [← List.append_assoc, ← List.append_assoc]
  exact List.Perm.append_right _ List.perm_append_comm
theorem fl_in01 : vp_in (0 : Int32) 1 := by
  show ¬ ((0 : Int32) < 0 ∨ 1 ≤ (0 : Int32).toNatClampNeg)
  decide
theorem fl_pmE {E A B : va_W} (T : va_W) {n : Nat} (hn : E.length = n) (is js : List Nat) (h : (is ++ js).Perm (List.range n)) (hA : is.filterMap (fun i => E[i]?) = A) (hB : js.filterMap (fun i => E[i]?) = B) : (E ++ T).Perm (A ++ (B ++ T)) := by
  subst hA; subst hB
  exact fl_pm T hn is js h
theorem fl_pmE2 {E A B : va_W} (S T : va_W) {n : Nat} (hn : E.length = n) (is js : List Nat) (h : (is ++ js).Perm (List.range n)) (hA : is.filterMap (fun i => E[i]?) = A) (hB : js.filterMap (fun i => E[i]?) = B) : (E ++ (S ++ T)).Perm ((A ++ S) ++ (B ++ T)) := by
  subst hA; subst hB
  exact fl_pm2 S T hn is js h
