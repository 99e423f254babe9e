/-! THE BASE, third part: methods that make things; contracts over larger worlds. -/
-- ===== a method that may make things: its contract =====
def fl_ma (l : Launch) (y : MethodName) (ws : List Cond) (fr lo mc ms : Nat) (G : fl_G) (av : List Value) (w0 : va_W) (v : Option Value) (PW : va_W → Prop) : Prop :=
  ∀ sz : Nat, Met l y ws (fl_rx fr lo mc ms) (va_Pc av (fun U => U.heap.size = sz ∧ va_P G.1 vwCl w0 U.heap ∧ fl_K G U ∧ va_D (fun _ => True) w0)) (fun _ st oc t => oc = .returned v ∧ (∃ w1, PW w1 ∧ va_P G.1 vwCl w1 t.heap ∧ va_D (va_A w0 sz) w1) ∧ va_F (va_A w0 sz) st t) mc ms (va_A w0 sz)
theorem fl_mu_ma {l : Launch} {y : MethodName} {ws : List Cond} {fr lo : Nat} {G : fl_G} {av : List Value} {w0 w1 : va_W} {v : Option Value} (h : fl_mu l y ws fr lo G av w0 v w1) : fl_ma l y ws fr lo 0 0 G av w0 v (fun w => w = w1) := by
  intro sz p e h1 h2 h3 s m args below h4 h5 h6 h7
  obtain ⟨n, o, k1, k2, k3, ⟨e1, ⟨e2, e3⟩, e4⟩, k5⟩ := h sz p e h1 h2 h3 s m args below h4 h5 h6 h7
  exact ⟨n, o, k1, k2, k3, ⟨e1, ⟨w1, rfl, e2, e3⟩, e4⟩, k5⟩
/-- the frame rule for a contract: a larger world, in another order -/
theorem fl_A_sub {w0 X W : va_W} (hW : W.Perm (w0 ++ X)) {sz : Nat} : ∀ q : Nat, va_A w0 sz q → va_A W sz q := by
  intro q h
  rcases h with ⟨k, e, h⟩ | h
  · obtain ⟨i, hi⟩ := List.getElem?_of_mem (hW.mem_iff.mpr (List.mem_append_left X (List.mem_of_getElem? h)))
    exact Or.inl ⟨i, e, hi⟩
  · exact Or.inr h
theorem fl_F_sub {A B : Nat → Prop} {s t : State} (h : va_F A s t) (hAB : ∀ q, A q → B q) : va_F B s t := ⟨h.1, fun q h1 h2 => h.2 q h1 fun z => h2 (hAB q z)⟩
theorem fl_adapt_w {G : fl_G} {w0 X W w1 : va_W} {s t : State} {sz : Nat} (hsz : s.heap.size = sz) (hW : W.Perm (w0 ++ X)) (hP : va_P G.1 vwCl W s.heap) (hD : va_D (fun _ => True) W) (hP1 : va_P G.1 vwCl w1 t.heap) (hD1 : va_D (va_A w0 sz) w1) (hF : va_F (va_A w0 sz) s t) : va_P G.1 vwCl (w1 ++ X) t.heap ∧ va_D (va_A W sz) (w1 ++ X) := by
  subst hsz
  exact fl_join (w1 := w1) (fl_P_perm hW hP) (fl_D_perm hW (hD.self (sz := s.heap.size))) hF.2 (fl_A_sub hW) hP1 hD1
theorem fl_ma_adapt {l : Launch} {y : MethodName} {ws : List Cond} {fr lo mc ms : Nat} {G : fl_G} {av : List Value} {w0 X W : va_W} {v : Option Value} {PW PW' : va_W → Prop} (h : fl_ma l y ws fr lo mc ms G av w0 v PW) (hW : W.Perm (w0 ++ X)) (hPW : ∀ w1, PW w1 → ∃ w', (w1 ++ X).Perm w' ∧ PW' w') : fl_ma l y ws fr lo mc ms G av W v PW' := by
  intro sz p e h1 h2 h3 s m args below h4 h5 h6 h7
  obtain ⟨ha, hsz, hP, hK, hD⟩ := h6
  obtain ⟨n, o, k1, k2, k3, ⟨e1, ⟨w1, hw, e2, e3⟩, e4⟩, L, k5, k6⟩ := h sz p e h1 h2 h3 s m args below h4 h5 ⟨ha, hsz, fl_P_l (fl_P_perm hW hP), hK, fl_D_l (fl_D_perm hW hD)⟩ h7
  obtain ⟨j1, j2⟩ := fl_adapt_w hsz hW hP hD e2 e3 e4
  obtain ⟨w', hp, hw'⟩ := hPW w1 hw
  exact ⟨n, o, k1, k2, k3, ⟨e1, ⟨w', hw', fl_P_perm hp j1, fl_D_perm hp j2⟩, fl_F_sub e4 (fl_A_sub hW)⟩, L, k5, fun q hq => fl_A_sub hW _ (k6 q hq)⟩
theorem fl_xm_adapt {l : Launch} {y : MethodName} {ws : List Cond} {fr lo mc ms : Nat} {G : fl_G} {sa : Nat → Nat} {av : List Value} {w0 X W : va_W} {ex : Option Nat} {v : Int32} {PW PW' : va_W → Prop} (h : fl_xm l y ws fr lo mc ms G sa av w0 ex v PW) (hW : W.Perm (w0 ++ X)) (hPW : ∀ w1, PW w1 → ∃ w', (w1 ++ X).Perm w' ∧ PW' w') : fl_xm l y ws fr lo mc ms G sa av W ex v PW' := by
  intro sz p e h1 h2 h3 s m args below h4 h5 h6 h7
  obtain ⟨ha, hsz, hP, hK, hD, hE, hZ⟩ := h6
  obtain ⟨n, o, k1, k2, k3, k4⟩ := h sz p e h1 h2 h3 s m args below h4 h5 ⟨ha, hsz, fl_P_l (fl_P_perm hW hP), hK, fl_D_l (fl_D_perm hW hD), hE, hZ.narrow (fl_A_sub hW)⟩ h7
  refine ⟨n, o, k1, k2, k3, ?_⟩
  rcases k4 with ⟨⟨⟨e0, e1, w1, hw, e2, e3⟩, e4⟩, L, k5, k6⟩ | ⟨q, ho, E, ce, L, ⟨⟨k, e0, e1, e2⟩, e4⟩, c1, c2, c3, c4, c5, c6⟩
  · obtain ⟨j1, j2⟩ := fl_adapt_w hsz hW hP hD e2 e3 e4
    obtain ⟨w', hp, hw'⟩ := hPW w1 hw
    exact Or.inl ⟨⟨⟨e0, e1, w', hw', fl_P_perm hp j1, fl_D_perm hp j2⟩, fl_F_sub e4 (fl_A_sub hW)⟩, L, k5, fun q hq => fl_A_sub hW _ (k6 q hq)⟩
  · obtain ⟨j1, j2⟩ := fl_adapt_w hsz hW hP hD e2 ((fl_D_l (fl_D_perm hW hD)).self (sz := sz)) e4
    exact Or.inr ⟨q, ho, E, ce, L, ⟨⟨k, e0, e1, fl_P_perm hW.symm j1⟩, fl_F_sub e4 (fl_A_sub hW)⟩, c1, c2, c3, c4, c5, fun z hz => fl_A_sub hW _ (c6 z hz)⟩
-- ===== intros =====
theorem fl_mav_in {l : Launch} {y : MethodName} {ws ws' : List Cond} {fr lo mc ms : Nat} {G : fl_G} {av : List Value} {w0 : va_W} {PW : va_W → Prop} (cc : ByteArray) (maxL : Nat) (own : String) (hy : plainName y.cls = true) (hw : ws = Cond.code y cc maxL none :: ws') (hown : y.cls = own) (ha : (lg_sl av).length ≤ maxL)
    (body : ∀ (p : Program) (e : Env) (s : State) (m : MethodId) (args : Array Value) (below : List Frame) (meth : Method) (c : Code) (ls : Array Slot) (A : Nat → Prop) (Q : State → Prop) (H : Heap) (locs : List Loc), CallFix p m c cc maxL s args ws own → fl_K G s → va_P G.1 vwCl w0 H → va_D A w0 → va_S A s.heap H locs → (∀ q : Nat, s.heap.size ≤ q → A q) → lv_has ls maxL (lv_args 0 av) → meth.name = y.name →
      (∀ (w1 : va_W) (H : Heap) (locs : List Loc) (pc cells slots : Nat) (ls : Array Slot), PW w1 → va_P G.1 vwCl w1 H → va_D A w1 → va_S A s.heap H locs → decode cc pc = .ok (.return_, 1) → cells ≤ mc → slots ≤ ms → W p l e (fl_rx fr lo mc ms) s m args below meth c H locs cells slots Q (F0 m pc ls [])) →
      W p l e (fl_rx fr lo mc ms) s m args below meth c H locs 0 0 Q (F0 m 0 ls [])) : fl_ma l y ws fr lo mc ms G av w0 none PW := by
  intro sz
  refine Met.ofW (cc := cc) (maxL := maxL) (ret := none) hy hw ?_
  intro p e s m args below meth c s₁ B hml hv
  obtain ⟨rfl, hsz, hP, hK, hD⟩ := hv
  have hr := B.returns
  have hlocks := B.notSynchronized
  subst hsz
  have hl := lv_entry av (n := maxL) ha
  rw [lg_entry_eq]
  refine body p e s m _ below meth c _ _ _ s.heap [] ⟨B.exec, B.bytes, hml, by rw [← hown]; exact findClass_of_methodNamed B.named, atoms_spec (ws := ws) B.pre⟩ hK hP (hD.self (sz := s.heap.size)) va_S.rf (fl_hA _ _) hl (name_of_methodNamed B.named B.method).1 ?_
  intro w1 H locs pc cells slots ls hw1 hP1 hD1 hS hd hc hs
  refine W.widen (k := mc) (n := ms) hc hs ?_
  exact W.vret B.exec B.bytes hr (fun t ht hW => ⟨rfl, ⟨w1, hw1, by rw [ht]; exact hP1, hD1⟩, hS.F ht⟩) hS.2.2 hd
theorem fl_mar_in {l : Launch} {y : MethodName} {ws ws' : List Cond} {fr lo mc ms : Nat} {G : fl_G} {av : List Value} {w0 : va_W} {v : Value} {PW : va_W → Prop} (cc : ByteArray) (maxL : Nat) (n : String) (own : String) (hy : plainName y.cls = true) (hw : ws = Cond.code y cc maxL (some (.object n)) :: ws') (hown : y.cls = own) (ha : (lg_sl av).length ≤ maxL) (hv0 : v = .null ∨ ∃ a, v = .ref a)
    (body : ∀ (p : Program) (e : Env) (s : State) (m : MethodId) (args : Array Value) (below : List Frame) (meth : Method) (c : Code) (ls : Array Slot) (A : Nat → Prop) (Q : State → Prop) (H : Heap) (locs : List Loc), CallFix p m c cc maxL s args ws own → fl_K G s → va_P G.1 vwCl w0 H → va_D A w0 → va_S A s.heap H locs → (∀ q : Nat, s.heap.size ≤ q → A q) → lv_has ls maxL (lv_args 0 av) → meth.name = y.name →
      (∀ (w1 : va_W) (H : Heap) (locs : List Loc) (pc cells slots : Nat) (ls : Array Slot), PW w1 → va_P G.1 vwCl w1 H → va_D A w1 → va_S A s.heap H locs → decode cc pc = .ok (.areturn, 1) → cells ≤ mc → slots ≤ ms → W p l e (fl_rx fr lo mc ms) s m args below meth c H locs cells slots Q (F0 m pc ls [v])) →
      W p l e (fl_rx fr lo mc ms) s m args below meth c H locs 0 0 Q (F0 m 0 ls [])) : fl_ma l y ws fr lo mc ms G av w0 (some v) PW := by
  intro sz
  refine Met.ofW (cc := cc) (maxL := maxL) (ret := some (.object n)) hy hw ?_
  intro p e s m args below meth c s₁ B hml hv
  obtain ⟨rfl, hsz, hP, hK, hD⟩ := hv
  have hr := B.returns
  have hlocks := B.notSynchronized
  subst hsz
  have hl := lv_entry av (n := maxL) ha
  rw [lg_entry_eq]
  refine body p e s m _ below meth c _ _ _ s.heap [] ⟨B.exec, B.bytes, hml, by rw [← hown]; exact findClass_of_methodNamed B.named, atoms_spec (ws := ws) B.pre⟩ hK hP (hD.self (sz := s.heap.size)) va_S.rf (fl_hA _ _) hl (name_of_methodNamed B.named B.method).1 ?_
  intro w1 H locs pc cells slots ls hw1 hP1 hD1 hS hd hc hs
  refine W.widen (k := mc) (n := ms) hc hs ?_
  exact W.aret B.exec B.bytes hr (Or.inl ⟨n, rfl⟩) hv0 (fun t ht hW => ⟨rfl, ⟨w1, hw1, by rw [ht]; exact hP1, hD1⟩, hS.F ht⟩) hS.2.2 hd
-- ===== its calls: the callee's world is the caller's =====
section FLM
variable {p : Program} {l : Launch} {e : Env} {R : Room} {s : State} {m : MethodId} {args : Array Value} {below : List Frame} {meth : Method} {c : Code} {H H0 : Heap} {locs : List Loc} {cells slots : Nat} {Q : State → Prop}
variable {cc : ByteArray} {pc nL n index maxL fr lo mc ms : Nat} {ls : Array Slot} {rest st0 As : List Value} {A : Nat → Prop} {Ts ws : List Cond} {own C host : String} {y : MethodName} {bytes : ByteArray} {ret : Option FieldType} {G : fl_G} {W0 : va_W} {vo : Option Value} {b : Nat} {PW : va_W → Prop}
theorem fl_ma_go (hr : va_Run p l e R s m args below meth c H locs cells slots mc ms (F0 m pc ls st0) rest (fun st oc t => oc = .returned vo ∧ (∃ w1, PW w1 ∧ va_P G.1 vwCl w1 t.heap ∧ va_D (va_A W0 H.size) w1) ∧ va_F (va_A W0 H.size) st t) (va_A W0 H.size)) (hP : va_P G.1 vwCl W0 H) (hD : va_D A W0) (hS : va_S A H0 H locs) (hA : ∀ q : Nat, H0.size ≤ q → A q)
    (kk : ∀ (w1 : va_W) (H1 : Heap) (locs1 : List Loc), PW w1 → va_P G.1 vwCl w1 H1 → va_D A w1 → va_S A H0 H1 locs1 → W p l e R s m args below meth c H1 locs1 (cells + mc) (slots + ms) Q (F0 m (pc + 3) ls (vo.toList ++ rest))) : W p l e R s m args below meth c H locs cells slots Q (F0 m pc ls st0) := by
  intro T hT X
  obtain ⟨v0, st₀, t, T', L, h0, X', hL, e1, e2, ⟨hv, ⟨w1, hw, hP1, hD1⟩, hz, hk⟩, st⟩ := hr T hT X
  cases hv
  rw [h0] at hz hk
  have hF : ∀ q : Nat, va_A W0 H.size q → A q := fl_free (wr := []) (by rw [List.append_nil]; exact hD) hS hA
  have hk' : ∀ q : Nat, q < H.size → ¬ va_A W0 H.size q → T'.heap[q]? = H[q]? := fun q h1 h2 => by rw [e1]; exact hk q h1 h2
  obtain ⟨t2, a1, b1⟩ := kk w1 T'.heap (locs ++ L) hw (by rw [e1]; exact hP1) (hD1.weaken fun k q _ h => hF _ h) ⟨Nat.le_trans hS.1 (by rw [e1]; exact hz), fun q h1 h2 => by
      rw [hk' q (Nat.lt_of_lt_of_le h1 hS.1) (fun z => h2 (hF q z))]; exact hS.2.1 q h1 h2, fun q hq => by
      rcases List.mem_append.mp hq with h | h
      · exact hS.2.2 q h
      · exact hF _ (hL q h)⟩ T' rfl X'
  exact ⟨t2, st t2 a1, b1⟩
theorem fl_maV (C0 : CallFix p m c cc nL s args Ts own) (hM : fl_ma l y ws fr lo mc ms G (.ref b :: As) W0 vo PW) (cw : CallW R s args own C index y bytes maxL ret ws (fl_rx fr lo mc ms) mc ms n) (hK : fl_K G s) (hP : va_P G.1 vwCl W0 H) (hD : va_D A W0) (q0 ci : Nat) {q : vw_C} {fs : List Value} (hq : vwCl[ci]? = some q) (hqC : q.1 = C) (h0 : W0[q0]? = some (b, .inr (ci, fs))) (hS : va_S A H0 H locs) (hA : ∀ q : Nat, H0.size ≤ q → A q)
    (hn : As.length = n) (hls : ls.size = nL) (hst : st0 = As.reverse ++ .ref b :: rest) (hW : (rest.map fun v => v.category).sum ≤ 8) (hdg : decode cc pc = .ok (.invokevirtual index, 3)) (hc : cells + mc ≤ R.cells ∧ slots + ms ≤ R.slots)
    (kk : ∀ (w1 : va_W) (H1 : Heap) (locs1 : List Loc), PW w1 → va_P G.1 vwCl w1 H1 → va_D A w1 → va_S A H0 H1 locs1 → W p l e R s m args below meth c H1 locs1 (cells + mc) (slots + ms) Q (F0 m (pc + 3) ls (vo.toList ++ rest))) : W p l e R s m args below meth c H locs cells slots Q (F0 m pc ls st0) := by
  subst hqC
  exact fl_ma_go (va_runV C0 (hM H.size) cw ⟨fl_mu_blind, va_recv hK.1 hP hq h0, fl_mu_pre hP hD hK⟩ rfl hn hls hst (lv_room hW) hdg hc) hP hD hS hA kk
theorem fl_maI (C0 : CallFix p m c cc nL s args Ts own) (hM : fl_ma l y ws fr lo mc ms G (.ref b :: As) W0 none PW) (cw : CallB R s args own index y bytes maxL none ws (fl_rx fr lo mc ms) mc ms n ∧ y.name = "<init>" ∧ (Cond.instanceMethod y).before args s = true) (hK : fl_K G s) (hP : va_P G.1 vwCl W0 H) (hD : va_D A W0) (hS : va_S A H0 H locs) (hA : ∀ q : Nat, H0.size ≤ q → A q)
    (hn : As.length = n) (hls : ls.size = nL) (hst : st0 = As.reverse ++ .ref b :: rest) (hW : (rest.map fun v => v.category).sum ≤ 8) (hdg : decode cc pc = .ok (.invokespecial index, 3)) (hc : cells + mc ≤ R.cells ∧ slots + ms ≤ R.slots)
    (kk : ∀ (w1 : va_W) (H1 : Heap) (locs1 : List Loc), PW w1 → va_P G.1 vwCl w1 H1 → va_D A w1 → va_S A H0 H1 locs1 → W p l e R s m args below meth c H1 locs1 (cells + mc) (slots + ms) Q (F0 m (pc + 3) ls rest)) : W p l e R s m args below meth c H locs cells slots Q (F0 m pc ls st0) :=
  fl_ma_go (va_runI C0 (hM H.size) cw ⟨fl_mu_blind, fl_mu_pre hP hD hK⟩ rfl hn hls hst (lv_room hW) hdg hc) hP hD hS hA kk
theorem fl_maIN (C0 : CallFix p m c cc nL s args Ts own) (hM : fl_ma l y ws fr lo mc ms G (.ref b :: As) W0 none PW) (cw : va_CN R s args own index y host bytes maxL none ws (fl_rx fr lo mc ms) mc ms n ∧ y.name = "<init>" ∧ (Cond.instanceMethod y).before args s = true) (hK : fl_K G s) (hP : va_P G.1 vwCl W0 H) (hD : va_D A W0) (hS : va_S A H0 H locs) (hA : ∀ q : Nat, H0.size ≤ q → A q)
    (hn : As.length = n) (hls : ls.size = nL) (hst : st0 = As.reverse ++ .ref b :: rest) (hW : (rest.map fun v => v.category).sum ≤ 8) (hdg : decode cc pc = .ok (.invokespecial index, 3)) (hc : cells + mc ≤ R.cells ∧ slots + ms ≤ R.slots)
    (kk : ∀ (w1 : va_W) (H1 : Heap) (locs1 : List Loc), PW w1 → va_P G.1 vwCl w1 H1 → va_D A w1 → va_S A H0 H1 locs1 → W p l e R s m args below meth c H1 locs1 (cells + mc) (slots + ms) Q (F0 m (pc + 3) ls rest)) : W p l e R s m args below meth c H locs cells slots Q (F0 m pc ls st0) :=
  fl_ma_go (va_runIN C0 (hM H.size) cw ⟨fl_mu_blind, fl_mu_pre hP hD hK⟩ rfl hn hls hst (lv_room hW) hdg hc) hP hD hS hA kk
end FLM
-- ===== worlds cut in two by places =====
theorem fl_pm {E : va_W} (T : va_W) {n : Nat} (hn : E.length = n) (is js : List Nat) (h : (is ++ js).Perm (List.range n)) : (E ++ T).Perm (is.filterMap (fun i => E[i]?) ++ (js.filterMap (fun i => E[i]?) ++ T)) := by
  have h1 := fl_perm_ix hn _ h
  rw [List.filterMap_append] at h1
  rw [← List.append_assoc]
  exact h1.append_right T
theorem fl_pmT {E : va_W} (T : va_W) {n : Nat} (hn : E.length = n) (is js : List Nat) (h : (is ++ js).Perm (List.range n)) : (E ++ T).Perm ((is.filterMap (fun i => E[i]?) ++ T) ++ js.filterMap (fun i => E[i]?)) := by
  refine (fl_pm T hn is js h).trans ?_
  rw [List.append_assoc]
  exact List.Perm.append_left _ List.perm_append_comm
-- ===== the arrays' classes are the known ones =====
theorem fl_same {G : fl_G} {s : State} {cA : ClassId} {ty : FieldType} (h : va_K G.1 vwCl (fl_T G ++ [(cA, ty)]) s) : (ty = .int → cA = G.2.1) ∧ (ty = .boolean → cA = G.2.2.1) ∧ (ty = .long → cA = G.2.2.2.1) ∧ (ty = .object "SongChoir$Song" → cA = G.2.2.2.2) := by
  have h4 := (h.2 4 (cA, ty) rfl).2
  refine ⟨fun e => ?_, fun e => ?_, fun e => ?_, fun e => ?_⟩
  · subst e
    have h0 : s.vm.findClass ("[" ++ (FieldType.int).toString) = some G.2.1 := (h.2 0 (G.2.1, .int) rfl).2
    have h4 : s.vm.findClass ("[" ++ (FieldType.int).toString) = some cA := h4
    exact Option.some.inj (h4.symm.trans h0)
  · subst e
    have h0 : s.vm.findClass ("[" ++ (FieldType.boolean).toString) = some G.2.2.1 := (h.2 1 (G.2.2.1, .boolean) rfl).2
    have h4 : s.vm.findClass ("[" ++ (FieldType.boolean).toString) = some cA := h4
    exact Option.some.inj (h4.symm.trans h0)
  · subst e
    have h0 : s.vm.findClass ("[" ++ (FieldType.long).toString) = some G.2.2.2.1 := (h.2 2 (G.2.2.2.1, .long) rfl).2
    have h4 : s.vm.findClass ("[" ++ (FieldType.long).toString) = some cA := h4
    exact Option.some.inj (h4.symm.trans h0)
  · subst e
    obtain ⟨_, _, _, _, _, h0⟩ := (h.2 3 (G.2.2.2.2, .object "SongChoir$Song") rfl).2
    obtain ⟨_, _, _, _, _, h4⟩ := h4
    exact Option.some.inj (h4.symm.trans h0)
