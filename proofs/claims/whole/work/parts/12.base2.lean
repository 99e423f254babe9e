/-! THE BASE, second part: worlds up to order, calls that throw or make things. -/
theorem fl_P_mem {D : va_G} {cl : List vw_C} {W : va_W} {H : Heap} : va_P D cl W H ↔ ∀ q ∈ W, va_at D cl q H := by
  constructor
  · intro h q hq
    obtain ⟨i, hi⟩ := List.getElem?_of_mem hq
    exact h i q hi
  · intro h k q hq
    exact h q (List.mem_of_getElem? hq)
theorem fl_P_perm {D : va_G} {cl : List vw_C} {W W' : va_W} {H : Heap} (h : W.Perm W') (hP : va_P D cl W H) : va_P D cl W' H :=
  fl_P_mem.mpr fun q hq => fl_P_mem.mp hP q (h.mem_iff.mpr hq)
theorem fl_D_nodup {A : Nat → Prop} {W : va_W} : va_D A W ↔ (W.map Prod.fst).Nodup ∧ ∀ q ∈ W, A q.1 := by
  constructor
  · rintro ⟨h1, h2⟩
    refine ⟨?_, fun q hq => ?_⟩
    · rw [List.Nodup, List.pairwise_iff_getElem]
      intro i j hi hj hij he
      rw [List.length_map] at hi hj
      rw [List.getElem_map, List.getElem_map] at he
      have := h1 i j _ _ (List.getElem?_eq_getElem hi) (List.getElem?_eq_getElem hj) he
      omega
    · obtain ⟨i, hi⟩ := List.getElem?_of_mem hq
      exact h2 i q hi
  · rintro ⟨h1, h2⟩
    refine ⟨fun i j p q hi hj he => ?_, fun k q hq => h2 q (List.mem_of_getElem? hq)⟩
    rw [List.Nodup, List.pairwise_iff_getElem] at h1
    obtain ⟨hi1, hi2⟩ := List.getElem?_eq_some_iff.mp hi
    obtain ⟨hj1, hj2⟩ := List.getElem?_eq_some_iff.mp hj
    rcases Nat.lt_trichotomy i j with h | h | h
    · exact absurd (by rw [List.getElem_map, List.getElem_map, hi2, hj2]; exact he) (h1 i j (by rw [List.length_map]; exact hi1) (by rw [List.length_map]; exact hj1) h)
    · exact h
    · exact absurd (by rw [List.getElem_map, List.getElem_map, hi2, hj2]; exact he.symm) (h1 j i (by rw [List.length_map]; exact hj1) (by rw [List.length_map]; exact hi1) h)
theorem fl_D_perm {A : Nat → Prop} {W W' : va_W} (h : W.Perm W') (hD : va_D A W) : va_D A W' := by
  rw [fl_D_nodup] at hD ⊢
  exact ⟨(h.map Prod.fst).nodup_iff.mp hD.1, fun q hq => hD.2 q (h.mem_iff.mpr hq)⟩
theorem fl_P_l {D : va_G} {cl : List vw_C} {w wr : va_W} {H : Heap} (h : va_P D cl (w ++ wr) H) : va_P D cl w H := fl_P_mem.mpr fun q hq => fl_P_mem.mp h q (List.mem_append_left _ hq)
theorem fl_P_r {D : va_G} {cl : List vw_C} {w wr : va_W} {H : Heap} (h : va_P D cl (w ++ wr) H) : va_P D cl wr H := fl_P_mem.mpr fun q hq => fl_P_mem.mp h q (List.mem_append_right _ hq)
theorem fl_D_l {A : Nat → Prop} {w wr : va_W} (h : va_D A (w ++ wr)) : va_D A w := by
  rw [fl_D_nodup] at h ⊢
  rw [List.map_append] at h
  exact ⟨(List.nodup_append.mp h.1).1, fun q hq => h.2 q (List.mem_append_left _ hq)⟩
theorem fl_D_r {A : Nat → Prop} {w wr : va_W} (h : va_D A (w ++ wr)) : va_D A wr := by
  rw [fl_D_nodup] at h ⊢
  rw [List.map_append] at h
  exact ⟨(List.nodup_append.mp h.1).2.1, fun q hq => h.2 q (List.mem_append_right _ hq)⟩
theorem fl_free {A0 : Nat → Prop} {w0 wr : va_W} {H0 H : Heap} {locs : List Loc} (hD : va_D A0 (w0 ++ wr)) (hS : va_S A0 H0 H locs) (hA : ∀ q : Nat, H0.size ≤ q → A0 q) : ∀ q : Nat, va_A w0 H.size q → A0 q := by
  intro q h
  rcases h with ⟨k, e, h⟩ | h
  · exact (fl_D_nodup.mp hD).2 (q, e) (List.mem_append_left _ (List.mem_of_getElem? h))
  · exact hA q (Nat.le_trans hS.1 h)
theorem fl_apart {A0 : Nat → Prop} {D : va_G} {cl : List vw_C} {w0 wr : va_W} {H : Heap} (hP : va_P D cl (w0 ++ wr) H) (hD : va_D A0 (w0 ++ wr)) : ∀ q ∈ wr, q.1 < H.size ∧ ¬ va_A w0 H.size q.1 := by
  intro q hq
  have hl := (fl_P_mem.mp hP q (List.mem_append_right _ hq)).lt
  refine ⟨hl, fun h => ?_⟩
  rcases h with ⟨k, e, h⟩ | h
  · have hn := (fl_D_nodup.mp hD).1
    rw [List.map_append] at hn
    exact (List.nodup_append.mp hn).2.2 q.1 (List.mem_map.mpr ⟨(q.1, e), List.mem_of_getElem? h, rfl⟩) q.1 (List.mem_map.mpr ⟨q, hq, rfl⟩) rfl
  · omega
theorem fl_join {A0 : Nat → Prop} {D : va_G} {cl : List vw_C} {w0 wr w1 : va_W} {H H1 : Heap} (hP : va_P D cl (w0 ++ wr) H) (hD : va_D A0 (w0 ++ wr)) (hk : ∀ q : Nat, q < H.size → ¬ va_A w0 H.size q → H1[q]? = H[q]?) (hF : ∀ q : Nat, va_A w0 H.size q → A0 q) (hP1 : va_P D cl w1 H1) (hD1 : va_D (va_A w0 H.size) w1) : va_P D cl (w1 ++ wr) H1 ∧ va_D A0 (w1 ++ wr) := by
  have ha := fl_apart hP hD
  constructor
  · refine fl_P_mem.mpr fun q hq => ?_
    rcases List.mem_append.mp hq with h | h
    · exact fl_P_mem.mp hP1 q h
    · exact (fl_P_mem.mp hP q (List.mem_append_right _ h)).kept (hk q.1 (ha q h).1 (ha q h).2)
  · rw [fl_D_nodup, List.map_append, List.nodup_append]
    have h1 := fl_D_nodup.mp hD1
    have h2 := fl_D_nodup.mp (fl_D_r hD)
    refine ⟨⟨h1.1, h2.1, fun a ha' b hb' hab => ?_⟩, fun q hq => ?_⟩
    · obtain ⟨x, hx, rfl⟩ := List.mem_map.mp ha'
      obtain ⟨z, hz, rfl⟩ := List.mem_map.mp hb'
      exact (ha z hz).2 (by rw [← hab]; exact h1.2 x hx)
    · rcases List.mem_append.mp hq with h | h
      · exact hF _ (h1.2 q h)
      · exact h2.2 q h
/-- a list, its places in another order -/
theorem fl_range_ix {α : Type} (E : List α) : (List.range E.length).filterMap (fun i => E[i]?) = E := by
  induction E with
  | nil => rfl
  | cons x E ih =>
    rw [List.length_cons, List.range_succ_eq_map, List.filterMap_cons]
    simp only [List.getElem?_cons_zero]
    rw [List.filterMap_map]
    have h : ((fun i => (x :: E)[i]?) ∘ Nat.succ) = fun i => E[i]? := by
      funext i
      simp
    rw [h, ih]
theorem fl_perm_ix {α : Type} {E : List α} {n : Nat} (hn : E.length = n) (is : List Nat) (h : is.Perm (List.range n)) : E.Perm (is.filterMap (fun i => E[i]?)) := by
  have h1 := h.symm.filterMap (fun i => E[i]?)
  rw [← hn, fl_range_ix] at h1
  exact h1
-- ===== exceptions: what is known of them all the way =====
def fl_exn (k : Nat) : String := if k = 1 then "java/lang/IllegalArgumentException" else if k = 2 then "java/lang/IllegalStateException" else "java/lang/IndexOutOfBoundsException"
def fl_exs : List String := ["java/lang/RuntimeException", "java/lang/Exception"]
def fl_ik (k : Nat) : Nat := if k = 1 then 44 else if k = 2 then 55 else 113
def fl_ic (k : Nat) : Nat := if k = 1 then 48 else if k = 2 then 59 else 117
def fl_strs : List (Nat × String) := [(46, "no such character code"), (57, "the text is full"), (111, "no such number"), (115, "no such place"), (134, "no such number of a place"), (136, "a negative rank"), (145, "no such verse"), (156, "no such number of a verse"), (158, "no such singer"), (167, "no such number of a singer"), (172, "the text is not a pattern"), (177, "a negative number of times"), (191, "no such length"), (200, "the text can not become a verse"), (218, "there is no verse"), (223, "no such number of singers"), (232, "no state is remembered"), (244, "no such script"), (250, "the script has too many digits"), (276, "no such number of verses"), (288, "no such save slot"), (294, "nothing has been saved in the slot")]
def fl_dcs : List MethodName := [⟨"java/lang/RuntimeException", "<init>", "(Ljava/lang/String;)V"⟩, ⟨"java/lang/Exception", "<init>", "(Ljava/lang/String;)V"⟩, ⟨"java/lang/Throwable", "<init>", "(Ljava/lang/String;)V"⟩]
def fl_E (sa : Nat → Nat) (U : State) : Prop := (∀ x ∈ fl_dcs, va_Nw (.declares x) U) ∧ (∀ q ∈ fl_strs, vk_R RX5 q.1 q.2 (sa q.1) U) ∧ (∀ k, k = 1 ∨ k = 2 ∨ k = 3 → va_Nw (.castable (fl_exn k) (fl_exn k)) U) ∧ va_Nc (fl_exn 2) (fl_exn 1) U ∧ va_Nc (fl_exn 1) (fl_exn 3) U ∧ va_Nc (fl_exn 2) (fl_exn 3) U
theorem fl_cast_warm {X : String} {s U : State} (hW : s.WarmedH U.vm) (h : va_Nw (.castable X X) s) : va_Nw (.castable X X) U := va_tabs rfl (rfl : (s.setVm U.vm).vm = U.vm) ((Cond.castable_setVm (args := #[]) hW.alike X X).trans (va_Nw.use rfl h))
theorem fl_decl_warm {x : MethodName} {s U : State} (hW : s.WarmedH U.vm) (h : va_Nw (.declares x) s) : va_Nw (.declares x) U := va_tabs rfl (rfl : (s.setVm U.vm).vm = U.vm) ((Cond.declares_setVm (args := #[]) hW.alike x).trans (va_Nw.use rfl h))
theorem fl_E.warm {sa : Nat → Nat} {s U : State} (hW : s.WarmedH U.vm) (h : fl_E sa s) : fl_E sa U := ⟨fun x hx => fl_decl_warm hW (h.1 x hx), fun q hq => (h.2.1 q hq).warm hW, fun k hk => fl_cast_warm hW (h.2.2.1 k hk), h.2.2.2.1.moved hW.alike, h.2.2.2.2.1.moved hW.alike, h.2.2.2.2.2.moved hW.alike⟩
theorem fl_E.call {sa : Nat → Nat} {a : Array Value} {U : State} {g : JFrame} {mk : MethodId} (h : fl_E sa U) : fl_E sa (U.calling g mk a) := ⟨fun x hx => va_Nw.same (u := U) (U := U.calling g mk a) rfl rfl (h.1 x hx), fun q hq => vk_R.same (u := U) (U := U.calling g mk a) rfl (h.2.1 q hq), fun k hk => va_Nw.same (u := U) (U := U.calling g mk a) rfl rfl (h.2.2.1 k hk), h.2.2.2.1.moved (Vm.Alike.refl U.vm), h.2.2.2.2.1.moved (Vm.Alike.refl U.vm), h.2.2.2.2.2.moved (Vm.Alike.refl U.vm)⟩
theorem fl_E.str {sa : Nat → Nat} {U : State} (h : fl_E sa U) (i : Nat) {k : Nat} {tx : String} (hi : fl_strs[i]? = some (k, tx)) : vk_R RX5 k tx (sa k) U := h.2.1 (k, tx) (List.mem_of_getElem? hi)
def fl_Z (A : Nat → Prop) (U : State) (H : Heap) : Prop := vx_Zq Bundle.tN "UNASSIGNED_STACK" Bundle.steD A U H ∧ vx_Zq Bundle.tN "SUPPRESSED_SENTINEL" Bundle.listD A U H
theorem fl_Z.moved {A : Nat → Prop} {u U : State} {H : Heap} (hvm : u.vm.Alike U.vm) (h : fl_Z A u H) : fl_Z A U H := ⟨h.1.moved hvm, h.2.moved hvm⟩
theorem fl_Z.kept {A : Nat → Prop} {U : State} {H H1 : Heap} (h : fl_Z A U H) (hq : ∀ a : Nat, a < H.size → ¬ A a → H1[a]? = H[a]?) : fl_Z A U H1 := ⟨h.1.kept hq, h.2.kept hq⟩
theorem fl_Z.narrow {A B : Nat → Prop} {U : State} {H : Heap} (h : fl_Z A U H) (hAB : ∀ q, B q → A q) : fl_Z B U H := ⟨h.1.narrow hAB, h.2.narrow hAB⟩
theorem fl_thr_words (k : Nat) (h : k = 1 ∨ k = 2 ∨ k = 3) : (∀ w ∈ Cond.classLink RX5 (fl_ik k) (fl_exn k) :: Cond.initialized (fl_exn k) :: vx_atS RX5 (fl_ic k) (fl_exn k) fl_exs, vx_ot w = true) ∧ (∀ w ∈ (vx_atS RX5 (fl_ic k) (fl_exn k) fl_exs).filter (fun w => !goodWord w), w ∈ Cond.castable (fl_exn k) (fl_exn k) :: fl_dcs.map Cond.declares) ∧ Bundle.fit (fl_exn k) = true := by
  rcases h with rfl | rfl | rfl <;> exact ⟨by decide +kernel, by decide +kernel, by decide +kernel⟩
def fl_ex {ρ : Type} : Nat ⊕ ρ → Option Nat
  | .inl k => some k
  | .inr _ => none
-- ===== a method that may throw or make things: its contract =====
def fl_rx (fr lo mc ms : Nat) : Room := { frames := fr, cells := mc, slots := ms, locals := lo }
def fl_xm (l : Launch) (y : MethodName) (ws : List Cond) (fr lo mc ms : Nat) (G : fl_G) (sa : Nat → Nat) (av : List Value) (w0 : va_W) (ex : Option Nat) (v : Int32) (PW : va_W → Prop) : Prop :=
  ∀ sz : Nat, vx_Met l y ws (fl_rx fr lo mc ms) (va_Pc av (fun U => U.heap.size = sz ∧ va_P G.1 vwCl w0 U.heap ∧ fl_K G U ∧ va_D (fun _ => True) w0 ∧ fl_E sa U ∧ fl_Z (va_A w0 sz) U U.heap)) (fun _ st oc t => (ex = none ∧ oc = .returned (some (.int v)) ∧ ∃ w1, PW w1 ∧ va_P G.1 vwCl w1 t.heap ∧ va_D (va_A w0 sz) w1) ∧ va_F (va_A w0 sz) st t) (fun E st t => (∃ k, ex = some k ∧ E = fl_exn k ∧ va_P G.1 vwCl w0 t.heap) ∧ va_F (va_A w0 sz) st t) mc ms (va_A w0 sz)
theorem fl_xm_in {l : Launch} (hfl : l.stackTraces = false) {y : MethodName} {ws ws' : List Cond} {fr lo mc ms : Nat} {G : fl_G} {sa : Nat → Nat} {av : List Value} {w0 : va_W} {ex : Option Nat} {r : Int32} {PW : va_W → Prop} (cc : ByteArray) (maxL : Nat) (ty : FieldType) (hy : plainName y.cls = true) (hw : ws = Cond.code y cc maxL (some ty) :: ws') (hown : y.cls = RX5) (ha : (lg_sl av).length ≤ maxL)
    (body : ∀ (p : Program) (e : Env) (s : State) (m : MethodId) (args : Array Value) (below : List Frame) (meth : Method) (c : Code) (ls : Array Slot) (A : Nat → Prop) (Q : State → Prop) (H : Heap) (locs : List Loc), CallFix p m c cc maxL s args ws RX5 → fl_K G s → va_P G.1 vwCl w0 H → va_D A w0 → va_S A s.heap H locs → (∀ q : Nat, s.heap.size ≤ q → A q) → lv_has ls maxL (lv_args 0 av) →
      (∀ (w1 : va_W) (H : Heap) (locs : List Loc) (pc cells slots : Nat) (ls : Array Slot), ex = none → PW w1 → va_P G.1 vwCl w1 H → va_D A w1 → va_S A s.heap H locs → decode cc pc = .ok (.ireturn, 1) → narrow ty (.int r) = .int r → cells ≤ mc → slots ≤ ms → W p l e (fl_rx fr lo mc ms) s m args below meth c H locs cells slots Q (F0 m pc ls [.int r])) →
      (∀ (k is i : Nat) (tx : String) (H : Heap) (locs : List Loc) (pc : Nat) (ls : Array Slot) (rest : List Value), k = 1 ∨ k = 2 ∨ k = 3 → ex = some k → va_P G.1 vwCl w0 H → va_S A s.heap H locs → ls.size = maxL → fl_strs[i]? = some (is, tx) → Cond.classLink RX5 (fl_ik k) (fl_exn k) ∈ ws → Cond.initialized (fl_exn k) ∈ ws → (∀ w ∈ (vx_atS RX5 (fl_ic k) (fl_exn k) fl_exs).filter goodWord, w ∈ ws) →
        decode cc pc = .ok (.new (fl_ik k), 3) → decode cc (pc + 3) = .ok (.dup, 1) → (decode cc (pc + 4) = .ok (.ldc is, 2) ∧ decode cc (pc + 6) = .ok (.invokespecial (fl_ic k), 3) ∧ decode cc (pc + 9) = .ok (.athrow, 1)) ∨ (decode cc (pc + 4) = .ok (.ldc_w is, 3) ∧ decode cc (pc + 7) = .ok (.invokespecial (fl_ic k), 3) ∧ decode cc (pc + 10) = .ok (.athrow, 1)) → 5 < fr → (rest.map fun v => v.category).sum + 82 ≤ lo → 1 ≤ mc → 6 ≤ ms → W p l e (fl_rx fr lo mc ms) s m args below meth c H locs 0 0 Q (F0 m pc ls rest)) →
      W p l e (fl_rx fr lo mc ms) s m args below meth c H locs 0 0 Q (F0 m 0 ls [])) : fl_xm l y ws fr lo mc ms G sa av w0 ex r PW := by
  intro sz
  refine vx_ofW (cc := cc) (maxL := maxL) (ret := some ty) hy hw ?_
  intro p e s m args below meth c s₁ B hml htab hv
  obtain ⟨rfl, hsz, hP, hK, hD, hE, hZ⟩ := hv
  have hr := B.returns
  have hlocks := B.notSynchronized
  subst hsz
  have hl := lv_entry av (n := maxL) ha
  rw [lg_entry_eq]
  have hts := atoms_spec (ws := ws) B.pre
  have hownC : s.vm.findClass RX5 = some m.cls := by rw [← hown]; exact findClass_of_methodNamed B.named
  refine body p e s m _ below meth c _ _ _ s.heap [] ⟨B.exec, B.bytes, hml, hownC, hts⟩ hK hP (hD.self (sz := s.heap.size)) va_S.rf (fl_hA _ _) hl ?_ ?_
  · intro w1 H locs pc cells slots ls he hw1 hP1 hD1 hS hd hn hc hs
    refine W.widen (k := mc) (n := ms) hc hs ?_
    refine vx_ret ?_
    exact W.zret B.exec B.bytes hr hn (fun t ht hW => ⟨⟨he, rfl, w1, hw1, by rw [ht]; exact hP1, hD1⟩, hS.F ht⟩) hS.2.2 hd
  · intro k is i tx H locs pc ls rest hk he hP1 hS hls hstr hw1 hw2 hw3 d0 d3 d469 hfr hlo hmc hms
    obtain ⟨t1, t2, t3⟩ := fl_thr_words k hk
    have hat : ∀ w ∈ vx_atS RX5 (fl_ic k) (fl_exn k) fl_exs, w.before av.toArray s = true := vx_hat (fun w hw => hts w (hw3 w hw)) t2 (vx_c (va_Nw.use rfl (hE.2.2.1 k hk)) (fun w hw => by obtain ⟨x, hx, rfl⟩ := List.mem_map.mp hw; exact va_Nw.use rfl (hE.1 x hx)))
    have hx : ∀ t : State, s.vm.Alike t.vm → H.size ≤ t.heap.size → (∀ q : Nat, q < H.size → t.heap[q]? = H[q]?) → (fun (E : String) (st t : State) => (∃ k, ex = some k ∧ E = fl_exn k ∧ va_P G.1 vwCl w0 t.heap) ∧ va_F (va_A w0 s.heap.size) st t) (fl_exn k) s t := by
      intro t _ hz hq
      exact ⟨⟨k, he, rfl, hP1.kept fun j q hj => hq q.1 (hP1 j q hj).lt⟩, Nat.le_trans hS.1 hz, fun q h1 h2 => by rw [hq q (Nat.lt_of_lt_of_le h1 hS.1)]; exact hS.2.1 q h1 h2⟩
    rcases d469 with ⟨d4, d6, d9⟩ | ⟨d4, d6, d9⟩
    · exact vx_throwS (names := fl_exs) B.exec B.bytes hfl hownC t3 (by decide +kernel) (hts _ hw1) (hts _ hw2) (hE.str i hstr) hat t1 hZ.1 hZ.2 hS (hls.trans hml.symm) d0 d3 d4 d6 d9 (fun x hx => (htab x hx).elim) hfr hlo (by rw [Nat.zero_add]; exact hmc) (by rw [Nat.zero_add]; exact hms) hlocks hx hS.2.2 (by rw [Nat.zero_add]; exact hmc) (by rw [Nat.zero_add]; exact hms)
    · exact vx_throwSW (names := fl_exs) B.exec B.bytes hfl hownC t3 (by decide +kernel) (hts _ hw1) (hts _ hw2) (hE.str i hstr) hat t1 hZ.1 hZ.2 hS (hls.trans hml.symm) d0 d3 d4 d6 d9 (fun x hx => (htab x hx).elim) hfr hlo (by rw [Nat.zero_add]; exact hmc) (by rw [Nat.zero_add]; exact hms) hlocks hx hS.2.2 (by rw [Nat.zero_add]; exact hmc) (by rw [Nat.zero_add]; exact hms)
-- ===== its call =====
section FLX
variable {p : Program} {l : Launch} {e : Env} {R : Room} {s : State} {m : MethodId} {args : Array Value} {below : List Frame} {meth : Method} {c : Code} {H H0 : Heap} {locs : List Loc} {cells slots : Nat} {Q : State → Prop}
variable {cc : ByteArray} {pc nL n index maxL fr lo mc ms : Nat} {ls : Array Slot} {rest st0 As : List Value} {A : Nat → Prop} {Ts ws : List Cond} {own C : String} {y : MethodName} {bytes : ByteArray} {ret : Option FieldType} {G : fl_G} {sa : Nat → Nat} {W0 w0 wr : va_W} {v : Int32} {b : Nat} {ex : Option Nat} {PW : va_W → Prop}
theorem fl_xm_pre (hP : va_P G.1 vwCl w0 H) (hD : va_D A w0) (hK : fl_K G s) (hE : fl_E sa s) (hZ : fl_Z (va_A w0 H.size) s H) {av : List Value} : ∀ U : State, U.heap = H → s.WarmedH U.vm → va_Pc av (fun U => U.heap.size = H.size ∧ va_P G.1 vwCl w0 U.heap ∧ fl_K G U ∧ va_D (fun _ => True) w0 ∧ fl_E sa U ∧ fl_Z (va_A w0 H.size) U U.heap) av.toArray U := fun U hU hW => ⟨rfl, by rw [hU], by rw [hU]; exact hP, hK.warm hW, hD.weaken (fun _ _ _ _ => trivial), hE.warm hW, by rw [hU]; exact hZ.moved hW.alike⟩
theorem fl_xm_blind {sz : Nat} {av : List Value} {A0 : Nat → Prop} : FrameBlind (va_Pc av (fun U => U.heap.size = sz ∧ va_P G.1 vwCl w0 U.heap ∧ fl_K G U ∧ va_D (fun _ => True) w0 ∧ fl_E sa U ∧ fl_Z A0 U U.heap)) := fun a U g mk q => ⟨q.1, q.2.1, q.2.2.1, q.2.2.2.1.call, q.2.2.2.2.1, q.2.2.2.2.2.1.call, fl_Z.moved (u := U) (U := U.calling g mk a) (Vm.Alike.refl U.vm) q.2.2.2.2.2.2⟩
theorem fl_xmV (C0 : CallFix p m c cc nL s args Ts own) (hM : fl_xm l y ws fr lo mc ms G sa (.ref b :: As) w0 ex v PW) (cw : CallW R s args own C index y bytes maxL ret ws (fl_rx fr lo mc ms) mc ms n) (hK : fl_K G s) (hE : fl_E sa s) (hZ : fl_Z A s H0) (hP : va_P G.1 vwCl (w0 ++ wr) H) (hD : va_D A (w0 ++ wr)) (q0 ci : Nat) {q : vw_C} {fs : List Value} (hq : vwCl[ci]? = some q) (hqC : q.1 = C) (h0 : w0[q0]? = some (b, .inr (ci, fs))) (hS : va_S A H0 H locs) (hA : ∀ q : Nat, H0.size ≤ q → A q)
    (hn : As.length = n) (hls : ls.size = nL) (hst : st0 = As.reverse ++ .ref b :: rest) (hW : (rest.map fun v => v.category).sum ≤ 8) (hdg : decode cc pc = .ok (.invokevirtual index, 3)) (hc : cells + mc ≤ R.cells ∧ slots + ms ≤ R.slots)
    (kx : ∀ (k : Nat) (ce : Cell) (q9 : Addr) (H1 : Heap) (locs1 : List Loc), ex = some k → va_P G.1 vwCl (w0 ++ wr) H1 → va_D A (w0 ++ wr) → va_S A H0 H1 locs1 → H1[q9]? = some ce → ce.vm = .none → s.vm.findClass (fl_exn k) = some ce.cls → vx_W p l e R s m args below meth c H1 locs1 (cells + mc) (slots + ms) Q (F0 m pc ls rest) q9)
    (kk : ∀ (w1 : va_W) (H1 : Heap) (locs1 : List Loc), ex = none → PW w1 → va_P G.1 vwCl (w1 ++ wr) H1 → va_D A (w1 ++ wr) → va_S A H0 H1 locs1 → W p l e R s m args below meth c H1 locs1 (cells + mc) (slots + ms) Q (F0 m (pc + 3) ls (.int v :: rest))) : W p l e R s m args below meth c H locs cells slots Q (F0 m pc ls st0) := by
  subst hqC
  have hF := fl_free hD hS hA
  have hZ1 : fl_Z (va_A w0 H.size) s H := (hZ.kept fun a h1 h2 => hS.2.1 a h1 h2).narrow hF
  have hr : vx_Run p l e R s m args below meth c H locs cells slots mc ms (F0 m pc ls st0) rest _ _ _ := vx_runV C0 (hM H.size) cw ⟨fl_xm_blind, va_recv hK.1 (fl_P_l hP) hq h0, fl_xm_pre (fl_P_l hP) (fl_D_l hD) hK hE hZ1⟩ rfl hn hls hst (lv_room hW) hdg hc
  intro T hT X
  rcases hr T hT X with ⟨v0, st₀, t, T', L, h0', X', hL, e1, e2, ⟨⟨he, hv, w1, hw1, hP1, hD1⟩, hz, hk⟩, st⟩ | ⟨q9, st₀, t, T', L, E, ce, h0', X', hL, e1, e2, ⟨⟨k, he, hEk, hP1⟩, hz, hk⟩, hce, hcv, hcl, st⟩
  · cases hv
    rw [h0'] at hz hk
    have hk' : ∀ q : Nat, q < H.size → ¬ va_A w0 H.size q → T'.heap[q]? = H[q]? := fun q h1 h2 => by rw [e1]; exact hk q h1 h2
    obtain ⟨hP2, hD2⟩ := fl_join (w1 := w1) hP hD hk' hF (by rw [e1]; exact hP1) hD1
    obtain ⟨t2, a1, b1⟩ := kk w1 T'.heap (locs ++ L) he hw1 hP2 hD2 ⟨Nat.le_trans hS.1 (by rw [e1]; exact hz), fun q h1 h2 => by
        rw [hk' q (Nat.lt_of_lt_of_le h1 hS.1) (fun z => h2 (hF q z))]; exact hS.2.1 q h1 h2, fun q hq => by
        rcases List.mem_append.mp hq with h | h
        · exact hS.2.2 q h
        · exact hF _ (hL q h)⟩ T' rfl X'
    exact ⟨t2, st t2 a1, b1⟩
  · rw [h0'] at hz hk
    subst hEk
    have hk' : ∀ q : Nat, q < H.size → ¬ va_A w0 H.size q → T'.heap[q]? = H[q]? := fun q h1 h2 => by rw [e1]; exact hk q h1 h2
    obtain ⟨hP2, hD2⟩ := fl_join (w1 := w0) hP hD hk' hF (by rw [e1]; exact hP1) ((fl_D_l hD).self (sz := H.size))
    obtain ⟨t2, a1, b1⟩ := kx k ce q9 T'.heap (locs ++ L) he hP2 hD2 ⟨Nat.le_trans hS.1 (by rw [e1]; exact hz), fun q h1 h2 => by
        rw [hk' q (Nat.lt_of_lt_of_le h1 hS.1) (fun z => h2 (hF q z))]; exact hS.2.1 q h1 h2, fun q hq => by
        rcases List.mem_append.mp hq with h | h
        · exact hS.2.2 q h
        · exact hF _ (hL q h)⟩ (by rw [e1]; exact hce) hcv hcl T' rfl X'
    exact ⟨t2, st.trans a1, b1⟩
end FLX
