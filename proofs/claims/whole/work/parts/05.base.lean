/-! THE BASE: loops as options, a method's contract out of a plain function, calls that keep or change the world. -/
-- ===== loops that may fail, without fuel =====
def fl_loopN {σ ρ : Type} (b : σ → Option (σ ⊕ ρ)) : Nat → σ → Option ρ
  | 0, _ => none
  | n + 1, s => match b s with
    | none => none
    | some (.inl s') => fl_loopN b n s'
    | some (.inr r) => some r
def fl_cont {σ ρ : Type} (b : σ → Option (σ ⊕ ρ)) (n : Nat) : σ ⊕ ρ → Option ρ
  | .inl s => fl_loopN b n s
  | .inr r => some r
theorem fl_loopN_step {σ ρ : Type} {b : σ → Option (σ ⊕ ρ)} {n : Nat} {s : σ} {r : ρ} (h : fl_loopN b (n + 1) s = some r) : ∃ y, b s = some y ∧ fl_cont b n y = some r := by
  rw [fl_loopN] at h
  cases hb : b s with
  | none => rw [hb] at h; cases h
  | some y =>
    rw [hb] at h
    refine ⟨y, rfl, ?_⟩
    cases y with
    | inl s' => exact h
    | inr r' => exact h
theorem fl_loopN_0 {σ ρ : Type} {b : σ → Option (σ ⊕ ρ)} {s : σ} {r : ρ} (h : fl_loopN b 0 s = some r) : False := by cases h
theorem fl_loopN_mono {σ ρ : Type} {b : σ → Option (σ ⊕ ρ)} {r : ρ} : ∀ (n k : Nat) (s : σ), fl_loopN b n s = some r → fl_loopN b (n + k) s = some r := by
  intro n
  induction n with
  | zero => intro k s h; cases h
  | succ n ih =>
    intro k s h
    obtain ⟨y, h1, h2⟩ := fl_loopN_step h
    rw [show n + 1 + k = (n + k) + 1 by omega, fl_loopN, h1]
    cases y with
    | inl s' => exact ih k s' h2
    | inr r' => exact h2
theorem fl_loopN_det {σ ρ : Type} {b : σ → Option (σ ⊕ ρ)} {r r' : ρ} {n k : Nat} {s : σ} (h : fl_loopN b n s = some r) (h' : fl_loopN b k s = some r') : r = r' := by
  have h1 := fl_loopN_mono n k s h
  have h2 := fl_loopN_mono k n s h'
  rw [Nat.add_comm] at h2
  exact Option.some.inj (h1.symm.trans h2)
noncomputable def fl_loop {σ ρ : Type} (b : σ → Option (σ ⊕ ρ)) (s : σ) : Option ρ :=
  @dite _ (∃ n r, fl_loopN b n s = some r) (Classical.propDecidable _) (fun h => fl_loopN b (Classical.choose h) s) (fun _ => none)
theorem fl_loop_ex {σ ρ : Type} {b : σ → Option (σ ⊕ ρ)} {s : σ} {r : ρ} (h : fl_loop b s = some r) : ∃ n, fl_loopN b n s = some r := by
  unfold fl_loop at h
  split at h
  · next h0 => exact ⟨_, h⟩
  · cases h
theorem fl_loop_of {σ ρ : Type} {b : σ → Option (σ ⊕ ρ)} {n : Nat} {s : σ} {r : ρ} (h : fl_loopN b n s = some r) : fl_loop b s = some r := by
  unfold fl_loop
  split
  · next h0 =>
    obtain ⟨r', hr'⟩ := Classical.choose_spec h0
    rw [hr', fl_loopN_det hr' h]
  · next h0 => exact absurd ⟨n, r, h⟩ h0
theorem fl_loop_none {σ ρ : Type} {b : σ → Option (σ ⊕ ρ)} {s : σ} (h : ∀ n r, ¬ fl_loopN b n s = some r) : fl_loop b s = none := by
  unfold fl_loop
  split
  · next h0 => obtain ⟨n, r, hr⟩ := h0; exact absurd hr (h n r)
  · rfl
theorem fl_loop_inr {σ ρ : Type} {b : σ → Option (σ ⊕ ρ)} {s : σ} {r : ρ} (h : b s = some (.inr r)) : fl_loop b s = some r :=
  fl_loop_of (n := 1) (by rw [fl_loopN, h])
theorem fl_loop_inl {σ ρ : Type} {b : σ → Option (σ ⊕ ρ)} {s s' : σ} (h : b s = some (.inl s')) : fl_loop b s = fl_loop b s' := by
  cases h2 : fl_loop b s' with
  | some r =>
    obtain ⟨n, hn⟩ := fl_loop_ex h2
    exact fl_loop_of (n := n + 1) (by rw [fl_loopN, h]; exact hn)
  | none =>
    refine fl_loop_none fun n r hr => ?_
    cases n with
    | zero => cases hr
    | succ n =>
      obtain ⟨y, h3, h4⟩ := fl_loopN_step hr
      rw [h] at h3
      cases h3
      rw [fl_loop_of (show fl_loopN b n s' = some r from h4)] at h2
      cases h2
theorem fl_cont_inl {σ ρ : Type} {b : σ → Option (σ ⊕ ρ)} {n : Nat} {s : σ} {r : ρ} (h : fl_cont b n (.inl s) = some r) : fl_loopN b n s = some r := h
theorem fl_cont_inr {σ ρ : Type} {b : σ → Option (σ ⊕ ρ)} {n : Nat} {x r : ρ} (h : fl_cont b n (.inr x) = some r) : x = r := Option.some.inj h
-- ===== the words of the plain functions =====
def fl_up {α β : Type} (x : Option β) : Option (α ⊕ β) := match x with
  | none => none
  | some y => some (.inr y)
theorem fl_up_of {α β : Type} {x : Option β} {y : α ⊕ β} (h : fl_up x = some y) : ∃ z, x = some z ∧ Sum.inr z = y := by
  cases x with
  | none => cases h
  | some z => exact ⟨z, rfl, Option.some.inj h⟩
def fl_ck {α : Type} (i : Int32) (n : Nat) (k : Option α) : Option α := if i < 0 ∨ n ≤ i.toNatClampNeg then none else k
theorem fl_ck_of {α : Type} {i : Int32} {n : Nat} {k : Option α} {r : α} (h : fl_ck i n k = some r) : vp_in i n ∧ k = some r := by
  unfold fl_ck at h
  split at h
  · cases h
  · next h0 => exact ⟨h0, h⟩
theorem fl_ck_in {α : Type} {i : Int32} {n : Nat} {k : Option α} (h : vp_in i n) : fl_ck i n k = k := if_neg h
def fl_nz {α : Type} (y : Int32) (k : Option α) : Option α := if y = 0 then none else k
theorem fl_nz_of {α : Type} {y : Int32} {k : Option α} {r : α} (h : fl_nz y k = some r) : ¬ y = 0 ∧ k = some r := by
  unfold fl_nz at h
  split at h
  · cases h
  · next h0 => exact ⟨h0, h⟩
def fl_nzl {α : Type} (y : Int64) (k : Option α) : Option α := if y = 0 then none else k
theorem fl_nzl_of {α : Type} {y : Int64} {k : Option α} {r : α} (h : fl_nzl y k = some r) : ¬ y = 0 ∧ k = some r := by
  unfold fl_nzl at h
  split at h
  · cases h
  · next h0 => exact ⟨h0, h⟩
/-- a boolean that is handed on is 0 or 1 -/
def fl_bl {α : Type} (y : Int32) (k : Option α) : Option α := if y = 0 then k else if y = 1 then k else none
theorem fl_bl_of {α : Type} {y : Int32} {k : Option α} {r : α} (h : fl_bl y k = some r) : narrow .boolean (.int y) = .int y ∧ k = some r := by
  unfold fl_bl at h
  split at h
  · next h0 => subst h0; exact ⟨rfl, h⟩
  · split at h
    · next h0 => subst h0; exact ⟨rfl, h⟩
    · cases h
def fl_bd {α β : Type} (x : Option α) (f : α → Option β) : Option β := match x with
  | none => none
  | some y => f y
theorem fl_bd_of {α β : Type} {x : Option α} {f : α → Option β} {r : β} (h : fl_bd x f = some r) : ∃ y, x = some y ∧ f y = some r := by
  cases x with
  | none => cases h
  | some y => exact ⟨y, rfl, h⟩
theorem fl_bd_some {α β : Type} (y : α) (f : α → Option β) : fl_bd (some y) f = f y := rfl
theorem fl_t {α : Type} {c : Prop} [Decidable c] {a b r : α} (h : c) (e : (if c then a else b) = r) : a = r := by rw [if_pos h] at e; exact e
theorem fl_f {α : Type} {c : Prop} [Decidable c] {a b r : α} (h : ¬ c) (e : (if c then a else b) = r) : b = r := by rw [if_neg h] at e; exact e
abbrev fl_mx (x y : Int32) : Int32 := if x < y then y else x
abbrev fl_mn (x y : Int32) : Int32 := if y < x then y else x
-- ===== the records =====
abbrev fl_A : Type := Nat → Int32
abbrev fl_Sg : Type := fl_A × fl_A × Int32 × Int32 × Int32 × Int32 × Int32 × Int32
abbrev fl_Or : Type := Int32 × fl_A × fl_A × fl_A × fl_A × fl_A
abbrev fl_Ln : Type := fl_A × Int32
abbrev fl_Ch : Type := fl_Sg × fl_Or × fl_A × fl_A
-- ===== what holds of the tables all the way =====
abbrev fl_G : Type := va_G × ClassId × ClassId × ClassId × ClassId
def fl_T (G : fl_G) : List (ClassId × FieldType) := [(G.2.1, .int), (G.2.2.1, .boolean), (G.2.2.2.1, .long), (G.2.2.2.2, .object "SongChoir$Song")]
def fl_nestM : List (String × Nat × MethodName) := [("SongChoir", 20, yX0_init), ("SongChoir$Choir", 11, yX4_init), ("SongChoir$Choir", 20, yX3_init), ("SongChoir", 33, yX1_init), ("SongChoir$Line", 25, yX5_cellOf), ("SongChoir$Line", 33, yX5_isLetter), ("SongChoir$Song", 37, yX5_copyRow), ("SongChoir$Order", 31, yX5_copyRow), ("SongChoir$Choir", 39, yX5_copyRow), ("SongChoir$Song", 41, yX5_cellOf), ("SongChoir$Choir", 49, yX5_cellOf), ("SongChoir$Order", 54, yX5_cellOf), ("SongChoir$History", 24, yX4_init), ("SongChoir", 290, yX4_init)]
def fl_N (U : State) : Prop := (∀ q ∈ fl_nestM, va_Nw (.methodLinkNest q.1 q.2.1 q.2.2 "SongChoir") U) ∧ va_Nw (.fieldLinkNest "SongChoir$Order" 47 "SongChoir$Song" "codes" "[I" "SongChoir") U ∧ va_AO "SongChoir$Song" U
def fl_K (G : fl_G) (U : State) : Prop := va_K G.1 vwCl (fl_T G) U ∧ fl_N U
theorem fl_K.warm {G : fl_G} {s U : State} (hW : s.WarmedH U.vm) (h : fl_K G s) : fl_K G U := ⟨va_K.moved hW.alike h.1, fun q hq => va_Nw.warmM hW (h.2.1 q hq), va_Nw.warmF hW h.2.2.1, h.2.2.2.moved hW.alike⟩
theorem fl_K.call {G : fl_G} {a : Array Value} {U : State} {g : JFrame} {mk : MethodId} (h : fl_K G U) : fl_K G (U.calling g mk a) := ⟨va_K.moved (u := U) (U := U.calling g mk a) (Vm.Alike.refl U.vm) h.1, fun q hq => va_Nw.same (u := U) (U := U.calling g mk a) rfl rfl (h.2.1 q hq), va_Nw.same (u := U) (U := U.calling g mk a) rfl rfl h.2.2.1, h.2.2.2.moved (Vm.Alike.refl U.vm)⟩
theorem fl_K.nest {G : fl_G} {U : State} (h : fl_K G U) (i : Nat) {a : String} {k : Nat} {y : MethodName} (hi : fl_nestM[i]? = some (a, k, y)) : va_Nw (.methodLinkNest a k y "SongChoir") U := h.2.1 (a, k, y) (List.mem_of_getElem? hi)
def fl_rm (fr lo : Nat) : Room := { frames := fr, cells := 0, slots := 0, locals := lo }
-- ===== a method that reads: its contract =====
def fl_ro (l : Launch) (y : MethodName) (ws : List Cond) (fr lo : Nat) (G : fl_G) (av : List Value) (w0 : va_W) (v : Value) : Prop :=
  ∀ sz : Nat, Met l y ws (fl_rm fr lo) (va_Pc av (fun U => U.heap.size = sz ∧ va_P G.1 vwCl w0 U.heap ∧ fl_K G U)) (fun _ st oc t => oc = .returned (some v) ∧ va_F (va_A [] sz) st t) 0 0 (va_A [] sz)
theorem fl_A0 {A : Nat → Prop} {H0 H : Heap} {locs : List Loc} (hS : va_S A H0 H locs) (hA : ∀ q : Nat, H0.size ≤ q → A q) : ∀ q : Nat, va_A [] H.size q → A q := by
  intro q h
  rcases h with ⟨k, e, h⟩ | h
  · simp at h
  · exact hA q (Nat.le_trans hS.1 h)
theorem fl_hA (ws : va_W) (n : Nat) : ∀ q : Nat, n ≤ q → va_A ws n q := fun _ h => Or.inr h
theorem fl_ro_in {l : Launch} {y : MethodName} {ws ws' : List Cond} {fr lo : Nat} {G : fl_G} {av : List Value} {w0 : va_W} {r : Int32} (cc : ByteArray) (maxL : Nat) (ty : FieldType) (own : String) (hy : plainName y.cls = true) (hw : ws = Cond.code y cc maxL (some ty) :: ws') (hown : y.cls = own) (ha : (lg_sl av).length ≤ maxL)
    (body : ∀ (p : Program) (e : Env) (s : State) (m : MethodId) (args : Array Value) (below : List Frame) (meth : Method) (c : Code) (ls : Array Slot) (Q : State → Prop), ∀ (H : Heap) (locs : List Loc), CallFix p m c cc maxL s args ws own → fl_K G s → va_P G.1 vwCl w0 H → va_S (va_A [] s.heap.size) s.heap H locs → lv_has ls maxL (lv_args 0 av) →
      (∀ (H : Heap) (locs : List Loc) (pc : Nat) (ls : Array Slot), va_S (va_A [] s.heap.size) s.heap H locs → decode cc pc = .ok (.ireturn, 1) → narrow ty (.int r) = .int r → W p l e (fl_rm fr lo) s m args below meth c H locs 0 0 Q (F0 m pc ls [.int r])) →
      W p l e (fl_rm fr lo) s m args below meth c H locs 0 0 Q (F0 m 0 ls [])) : fl_ro l y ws fr lo G av w0 (.int r) := by
  intro sz
  refine Met.ofW (cc := cc) (maxL := maxL) (ret := some ty) hy hw ?_
  intro p e s m args below meth c s₁ B hml hv
  obtain ⟨rfl, hsz, hP, hK⟩ := hv
  have hr := B.returns
  have hlocks := B.notSynchronized
  subst hsz
  have hl := lv_entry av (n := maxL) ha
  rw [lg_entry_eq]
  refine body p e s m _ below meth c _ _ s.heap [] ⟨B.exec, B.bytes, hml, by rw [← hown]; exact findClass_of_methodNamed B.named, atoms_spec (ws := ws) B.pre⟩ hK hP va_S.rf hl ?_
  intro H locs pc ls hS hd hn
  exact W.zret B.exec B.bytes hr hn (fun t ht hW => ⟨rfl, hS.F ht⟩) hS.2.2 hd
theorem fl_rol_in {l : Launch} {y : MethodName} {ws ws' : List Cond} {fr lo : Nat} {G : fl_G} {av : List Value} {w0 : va_W} {r : Int64} (cc : ByteArray) (maxL : Nat) (own : String) (hy : plainName y.cls = true) (hw : ws = Cond.code y cc maxL (some .long) :: ws') (hown : y.cls = own) (ha : (lg_sl av).length ≤ maxL)
    (body : ∀ (p : Program) (e : Env) (s : State) (m : MethodId) (args : Array Value) (below : List Frame) (meth : Method) (c : Code) (ls : Array Slot) (Q : State → Prop), ∀ (H : Heap) (locs : List Loc), CallFix p m c cc maxL s args ws own → fl_K G s → va_P G.1 vwCl w0 H → va_S (va_A [] s.heap.size) s.heap H locs → lv_has ls maxL (lv_args 0 av) →
      (∀ (H : Heap) (locs : List Loc) (pc : Nat) (ls : Array Slot), va_S (va_A [] s.heap.size) s.heap H locs → decode cc pc = .ok (.lreturn, 1) → W p l e (fl_rm fr lo) s m args below meth c H locs 0 0 Q (F0 m pc ls [.long r])) →
      W p l e (fl_rm fr lo) s m args below meth c H locs 0 0 Q (F0 m 0 ls [])) : fl_ro l y ws fr lo G av w0 (.long r) := by
  intro sz
  refine Met.ofW (cc := cc) (maxL := maxL) (ret := some .long) hy hw ?_
  intro p e s m args below meth c s₁ B hml hv
  obtain ⟨rfl, hsz, hP, hK⟩ := hv
  have hr := B.returns
  have hlocks := B.notSynchronized
  subst hsz
  have hl := lv_entry av (n := maxL) ha
  rw [lg_entry_eq]
  refine body p e s m _ below meth c _ _ s.heap [] ⟨B.exec, B.bytes, hml, by rw [← hown]; exact findClass_of_methodNamed B.named, atoms_spec (ws := ws) B.pre⟩ hK hP va_S.rf hl ?_
  intro H locs pc ls hS hd
  exact W.lret B.exec B.bytes hr (fun t ht hW => ⟨rfl, hS.F ht⟩) hS.2.2 hd
-- ===== a method that writes, and makes nothing: its contract =====
def fl_mu (l : Launch) (y : MethodName) (ws : List Cond) (fr lo : Nat) (G : fl_G) (av : List Value) (w0 : va_W) (v : Option Value) (w1 : va_W) : Prop :=
  ∀ sz : Nat, Met l y ws (fl_rm fr lo) (va_Pc av (fun U => U.heap.size = sz ∧ va_P G.1 vwCl w0 U.heap ∧ fl_K G U ∧ va_D (fun _ => True) w0)) (fun _ st oc t => oc = .returned v ∧ (va_P G.1 vwCl w1 t.heap ∧ va_D (va_A w0 sz) w1) ∧ va_F (va_A w0 sz) st t) 0 0 (va_A w0 sz)
theorem fl_mui_in {l : Launch} {y : MethodName} {ws ws' : List Cond} {fr lo : Nat} {G : fl_G} {av : List Value} {w0 w1 : va_W} {r : Int32} (cc : ByteArray) (maxL : Nat) (ty : FieldType) (own : String) (hy : plainName y.cls = true) (hw : ws = Cond.code y cc maxL (some ty) :: ws') (hown : y.cls = own) (ha : (lg_sl av).length ≤ maxL)
    (body : ∀ (p : Program) (e : Env) (s : State) (m : MethodId) (args : Array Value) (below : List Frame) (meth : Method) (c : Code) (ls : Array Slot) (A : Nat → Prop) (Q : State → Prop), ∀ (H : Heap) (locs : List Loc), CallFix p m c cc maxL s args ws own → fl_K G s → va_P G.1 vwCl w0 H → va_D A w0 → va_S A s.heap H locs → (∀ q : Nat, s.heap.size ≤ q → A q) → lv_has ls maxL (lv_args 0 av) →
      (∀ (H : Heap) (locs : List Loc) (pc : Nat) (ls : Array Slot), va_P G.1 vwCl w1 H → va_D A w1 → va_S A s.heap H locs → decode cc pc = .ok (.ireturn, 1) → narrow ty (.int r) = .int r → W p l e (fl_rm fr lo) s m args below meth c H locs 0 0 Q (F0 m pc ls [.int r])) →
      W p l e (fl_rm fr lo) s m args below meth c H locs 0 0 Q (F0 m 0 ls [])) : fl_mu l y ws fr lo G av w0 (some (.int r)) w1 := by
  intro sz
  refine Met.ofW (cc := cc) (maxL := maxL) (ret := some ty) hy hw ?_
  intro p e s m args below meth c s₁ B hml hv
  obtain ⟨rfl, hsz, hP, hK, hD⟩ := hv
  have hr := B.returns
  have hlocks := B.notSynchronized
  subst hsz
  have hl := lv_entry av (n := maxL) ha
  rw [lg_entry_eq]
  refine body p e s m _ below meth c _ _ _ s.heap [] ⟨B.exec, B.bytes, hml, by rw [← hown]; exact findClass_of_methodNamed B.named, atoms_spec (ws := ws) B.pre⟩ hK hP (hD.self (sz := s.heap.size)) va_S.rf (fl_hA _ _) hl ?_
  intro H locs pc ls hP1 hD1 hS hd hn
  exact W.zret B.exec B.bytes hr hn (fun t ht hW => ⟨rfl, ⟨by rw [ht]; exact hP1, hD1⟩, hS.F ht⟩) hS.2.2 hd
theorem fl_muv_in {l : Launch} {y : MethodName} {ws ws' : List Cond} {fr lo : Nat} {G : fl_G} {av : List Value} {w0 w1 : va_W} (cc : ByteArray) (maxL : Nat) (own : String) (hy : plainName y.cls = true) (hw : ws = Cond.code y cc maxL none :: ws') (hown : y.cls = own) (ha : (lg_sl av).length ≤ maxL)
    (body : ∀ (p : Program) (e : Env) (s : State) (m : MethodId) (args : Array Value) (below : List Frame) (meth : Method) (c : Code) (ls : Array Slot) (A : Nat → Prop) (Q : State → Prop), ∀ (H : Heap) (locs : List Loc), CallFix p m c cc maxL s args ws own → fl_K G s → va_P G.1 vwCl w0 H → va_D A w0 → va_S A s.heap H locs → (∀ q : Nat, s.heap.size ≤ q → A q) → lv_has ls maxL (lv_args 0 av) →
      (∀ (H : Heap) (locs : List Loc) (pc : Nat) (ls : Array Slot), va_P G.1 vwCl w1 H → va_D A w1 → va_S A s.heap H locs → decode cc pc = .ok (.return_, 1) → W p l e (fl_rm fr lo) s m args below meth c H locs 0 0 Q (F0 m pc ls [])) →
      W p l e (fl_rm fr lo) s m args below meth c H locs 0 0 Q (F0 m 0 ls [])) : fl_mu l y ws fr lo G av w0 none w1 := by
  intro sz
  refine Met.ofW (cc := cc) (maxL := maxL) (ret := none) hy hw ?_
  intro p e s m args below meth c s₁ B hml hv
  obtain ⟨rfl, hsz, hP, hK, hD⟩ := hv
  have hr := B.returns
  have hlocks := B.notSynchronized
  subst hsz
  have hl := lv_entry av (n := maxL) ha
  rw [lg_entry_eq]
  refine body p e s m _ below meth c _ _ _ s.heap [] ⟨B.exec, B.bytes, hml, by rw [← hown]; exact findClass_of_methodNamed B.named, atoms_spec (ws := ws) B.pre⟩ hK hP (hD.self (sz := s.heap.size)) va_S.rf (fl_hA _ _) hl ?_
  intro H locs pc ls hP1 hD1 hS hd
  exact W.vret B.exec B.bytes hr (fun t ht hW => ⟨rfl, ⟨by rw [ht]; exact hP1, hD1⟩, hS.F ht⟩) hS.2.2 hd
-- ===== calls =====
section FLC
variable {p : Program} {l : Launch} {e : Env} {R : Room} {s : State} {m : MethodId} {args : Array Value} {below : List Frame} {meth : Method} {c : Code} {H H0 : Heap} {locs : List Loc} {cells slots : Nat} {Q : State → Prop}
variable {cc : ByteArray} {pc nL n index maxL fr lo : Nat} {ls : Array Slot} {rest st0 As : List Value} {A : Nat → Prop} {Ts ws : List Cond} {own C host : String} {y : MethodName} {bytes : ByteArray} {ret : Option FieldType} {G : fl_G} {W0 w0 w1 : va_W} {v : Value} {vo : Option Value} {b : Nat}
theorem fl_ro_pre (hP : va_P G.1 vwCl w0 H) (hK : fl_K G s) {av : List Value} : ∀ U : State, U.heap = H → s.WarmedH U.vm → va_Pc av (fun U => U.heap.size = H.size ∧ va_P G.1 vwCl w0 U.heap ∧ fl_K G U) av.toArray U := fun U hU hW => ⟨rfl, by rw [hU], by rw [hU]; exact hP, hK.warm hW⟩
theorem fl_ro_blind {sz : Nat} {av : List Value} : FrameBlind (va_Pc av (fun U => U.heap.size = sz ∧ va_P G.1 vwCl w0 U.heap ∧ fl_K G U)) := fun a U g mk q => ⟨q.1, q.2.1, q.2.2.1, q.2.2.2.call⟩
theorem fl_ro_go (hr : va_Run p l e R s m args below meth c H locs cells slots 0 0 (F0 m pc ls st0) rest (fun st oc t => oc = .returned (some v) ∧ va_F (va_A [] H.size) st t) (va_A [] H.size)) (hP : va_P G.1 vwCl W0 H) (hS : va_S A H0 H locs) (hA : ∀ q : Nat, H0.size ≤ q → A q)
    (kk : ∀ (H1 : Heap) (locs1 : List Loc), va_P G.1 vwCl W0 H1 → va_S A H0 H1 locs1 → W p l e R s m args below meth c H1 locs1 cells slots Q (F0 m (pc + 3) ls (v :: rest))) : W p l e R s m args below meth c H locs cells slots Q (F0 m pc ls st0) := by
  intro T hT X
  obtain ⟨v0, st₀, t, T', L, h0, X', hL, e1, e2, ⟨hv, hz, hk⟩, st⟩ := hr T hT X
  cases hv
  rw [h0] at hz hk
  have hk' : ∀ q : Nat, q < H.size → T'.heap[q]? = H[q]? := fun q h => by
    rw [e1]
    refine hk q h fun z => ?_
    rcases z with ⟨k, e, z⟩ | z
    · simp at z
    · omega
  obtain ⟨t2, a1, b1⟩ := kk T'.heap (locs ++ L) (hP.kept fun k q hq => hk' q.1 (hP k q hq).lt) ⟨Nat.le_trans hS.1 (by rw [e1]; exact hz), fun q h1 h2 => by rw [hk' q (Nat.lt_of_lt_of_le h1 hS.1)]; exact hS.2.1 q h1 h2, fun q hq => by
      rcases List.mem_append.mp hq with h | h
      · exact hS.2.2 q h
      · exact fl_A0 hS hA _ (hL q h)⟩ T' rfl X'
  exact ⟨t2, st t2 a1, b1⟩
theorem fl_roV (C0 : CallFix p m c cc nL s args Ts own) (hM : fl_ro l y ws fr lo G (.ref b :: As) w0 v) (cw : CallW R s args own C index y bytes maxL ret ws (fl_rm fr lo) 0 0 n) (hK : fl_K G s) (hP : va_P G.1 vwCl W0 H) (is : List Nat) (his : is.filterMap (fun i => W0[i]?) = w0) (q0 ci : Nat) {q : vw_C} {fs : List Value} (hq : vwCl[ci]? = some q) (hqC : q.1 = C) (h0 : W0[q0]? = some (b, .inr (ci, fs))) (hS : va_S A H0 H locs) (hA : ∀ q : Nat, H0.size ≤ q → A q)
    (hn : As.length = n) (hls : ls.size = nL) (hst : st0 = As.reverse ++ .ref b :: rest) (hW : (rest.map fun v => v.category).sum ≤ 8) (hdg : decode cc pc = .ok (.invokevirtual index, 3)) (hc : cells ≤ R.cells ∧ slots ≤ R.slots)
    (kk : ∀ (H1 : Heap) (locs1 : List Loc), va_P G.1 vwCl W0 H1 → va_S A H0 H1 locs1 → W p l e R s m args below meth c H1 locs1 cells slots Q (F0 m (pc + 3) ls (v :: rest))) : W p l e R s m args below meth c H locs cells slots Q (F0 m pc ls st0) := by
  subst hqC
  exact fl_ro_go (va_runV C0 (hM H.size) cw ⟨fl_ro_blind, va_recv hK.1 hP hq h0, fl_ro_pre (hP.sub is his) hK⟩ rfl hn hls hst (lv_room hW) hdg hc) hP hS hA kk
theorem fl_roS (C0 : CallFix p m c cc nL s args Ts own) (hM : fl_ro l y ws fr lo G As w0 v) (cw : CallB R s args own index y bytes maxL ret ws (fl_rm fr lo) 0 0 n ∧ (Cond.static y).before args s = true) (hK : fl_K G s) (hP : va_P G.1 vwCl W0 H) (is : List Nat) (his : is.filterMap (fun i => W0[i]?) = w0) (hS : va_S A H0 H locs) (hA : ∀ q : Nat, H0.size ≤ q → A q)
    (hn : As.length = n) (hls : ls.size = nL) (hst : st0 = As.reverse ++ rest) (hW : (rest.map fun v => v.category).sum ≤ 8) (hdg : decode cc pc = .ok (.invokestatic index, 3)) (hc : cells ≤ R.cells ∧ slots ≤ R.slots)
    (kk : ∀ (H1 : Heap) (locs1 : List Loc), va_P G.1 vwCl W0 H1 → va_S A H0 H1 locs1 → W p l e R s m args below meth c H1 locs1 cells slots Q (F0 m (pc + 3) ls (v :: rest))) : W p l e R s m args below meth c H locs cells slots Q (F0 m pc ls st0) :=
  fl_ro_go (va_runS C0 (hM H.size) cw ⟨fl_ro_blind, fl_ro_pre (hP.sub is his) hK⟩ rfl hn hls hst (lv_room hW) hdg hc) hP hS hA kk
theorem fl_roSN (C0 : CallFix p m c cc nL s args Ts own) (hM : fl_ro l y ws fr lo G As w0 v) (cw : va_CN R s args own index y host bytes maxL ret ws (fl_rm fr lo) 0 0 n ∧ (Cond.static y).before args s = true ∧ True) (hK : fl_K G s) (hP : va_P G.1 vwCl W0 H) (is : List Nat) (his : is.filterMap (fun i => W0[i]?) = w0) (hS : va_S A H0 H locs) (hA : ∀ q : Nat, H0.size ≤ q → A q)
    (hn : As.length = n) (hls : ls.size = nL) (hst : st0 = As.reverse ++ rest) (hW : (rest.map fun v => v.category).sum ≤ 8) (hdg : decode cc pc = .ok (.invokestatic index, 3)) (hc : cells ≤ R.cells ∧ slots ≤ R.slots)
    (kk : ∀ (H1 : Heap) (locs1 : List Loc), va_P G.1 vwCl W0 H1 → va_S A H0 H1 locs1 → W p l e R s m args below meth c H1 locs1 cells slots Q (F0 m (pc + 3) ls (v :: rest))) : W p l e R s m args below meth c H locs cells slots Q (F0 m pc ls st0) :=
  fl_ro_go (va_runSN C0 (hM H.size) cw ⟨fl_ro_blind, fl_ro_pre (hP.sub is his) hK⟩ rfl hn hls hst (lv_room hW) hdg hc) hP hS hA kk
theorem fl_mu_pre (hP : va_P G.1 vwCl w0 H) (hD : va_D A w0) (hK : fl_K G s) {av : List Value} : ∀ U : State, U.heap = H → s.WarmedH U.vm → va_Pc av (fun U => U.heap.size = H.size ∧ va_P G.1 vwCl w0 U.heap ∧ fl_K G U ∧ va_D (fun _ => True) w0) av.toArray U := fun U hU hW => ⟨rfl, by rw [hU], by rw [hU]; exact hP, hK.warm hW, hD.weaken (fun _ _ _ _ => trivial)⟩
theorem fl_mu_blind {sz : Nat} {av : List Value} : FrameBlind (va_Pc av (fun U => U.heap.size = sz ∧ va_P G.1 vwCl w0 U.heap ∧ fl_K G U ∧ va_D (fun _ => True) w0)) := fun a U g mk q => ⟨q.1, q.2.1, q.2.2.1, q.2.2.2.1.call, q.2.2.2.2⟩
theorem fl_map_of (is : List Nat) (h : is.all (fun i => decide (i < W0.length)) = true) : is.map (fun i => W0[i]?) = (is.filterMap (fun i => W0[i]?)).map some := by
  induction is with
  | nil => rfl
  | cons i is ih =>
    simp only [List.all_cons, Bool.and_eq_true, decide_eq_true_eq] at h
    rw [List.map_cons, List.filterMap_cons, List.getElem?_eq_getElem h.1]
    simp only [List.map_cons]
    rw [ih h.2]
theorem fl_sub_of {is : List Nat} {w : va_W} (h : is.map (fun i => W0[i]?) = w.map some) : is.filterMap (fun i => W0[i]?) = w := by
  have h3 := congrArg (List.filterMap id) h
  rw [List.filterMap_map, List.filterMap_map] at h3
  simpa using h3
theorem fl_mu_go (wn : va_W) (hr : va_Run p l e R s m args below meth c H locs cells slots 0 0 (F0 m pc ls st0) rest (fun st oc t => oc = .returned vo ∧ (va_P G.1 vwCl w1 t.heap ∧ va_D (va_A w0 H.size) w1) ∧ va_F (va_A w0 H.size) st t) (va_A w0 H.size)) (hP : va_P G.1 vwCl W0 H) (hD : va_D A W0) (hS : va_S A H0 H locs) (hA : ∀ q : Nat, H0.size ≤ q → A q)
    (isC isR ip : List Nat) (hC : isC.map (fun i => W0[i]?) = w0.map some) (hR : isR.all (fun i => decide (i < W0.length)) = true) (hnd : va_nd isR = true ∧ va_nd ip = true ∧ isR.all (fun i => decide (i ∉ isC)) = true) (hip : ip.map (fun i => (isR.filterMap (fun i => W0[i]?) ++ w1)[i]?) = wn.map some)
    (kk : ∀ (H1 : Heap) (locs1 : List Loc), va_P G.1 vwCl wn H1 → va_D A wn → va_S A H0 H1 locs1 → W p l e R s m args below meth c H1 locs1 cells slots Q (F0 m (pc + 3) ls (vo.toList ++ rest))) : W p l e R s m args below meth c H locs cells slots Q (F0 m pc ls st0) := by
  intro T hT X
  obtain ⟨v0, st₀, t, T', L, h0, X', hL, e1, e2, ⟨hv, ⟨hP1, hD1⟩, hz, hk⟩, st⟩ := hr T hT X
  cases hv
  rw [h0] at hz hk
  have hF := va_free (wc := w0) hD hS hA isC hC
  have hk' : ∀ q : Nat, q < H.size → ¬ va_A w0 H.size q → T'.heap[q]? = H[q]? := fun q h1 h2 => by rw [e1]; exact hk q h1 h2
  obtain ⟨hP2, hD2⟩ := va_join (w1 := w1) hP hD isC isR hC (fl_map_of isR hR) hnd.1 (fun i hi => by have := List.all_eq_true.mp hnd.2.2 i hi; simpa using this) hk' hF (by rw [e1]; exact hP1) hD1
  obtain ⟨t2, a1, b1⟩ := kk T'.heap (locs ++ L) (hP2.sub ip (fl_sub_of hip)) (hD2.sub ip hnd.2.1 hip) ⟨Nat.le_trans hS.1 (by rw [e1]; exact hz), fun q h1 h2 => by
      rw [hk' q (Nat.lt_of_lt_of_le h1 hS.1) (fun z => h2 (hF q z))]; exact hS.2.1 q h1 h2, fun q hq => by
      rcases List.mem_append.mp hq with h | h
      · exact hS.2.2 q h
      · exact hF _ (hL q h)⟩ T' rfl X'
  exact ⟨t2, st t2 a1, b1⟩
theorem fl_muV (wn : va_W) (C0 : CallFix p m c cc nL s args Ts own) (hM : fl_mu l y ws fr lo G (.ref b :: As) w0 vo w1) (cw : CallW R s args own C index y bytes maxL ret ws (fl_rm fr lo) 0 0 n) (hK : fl_K G s) (hP : va_P G.1 vwCl W0 H) (hD : va_D A W0) (isC isR ip : List Nat) (hC : isC.map (fun i => W0[i]?) = w0.map some) (hR : isR.all (fun i => decide (i < W0.length)) = true) (hndC : va_nd isC = true) (hnd : va_nd isR = true ∧ va_nd ip = true ∧ isR.all (fun i => decide (i ∉ isC)) = true) (hip : ip.map (fun i => (isR.filterMap (fun i => W0[i]?) ++ w1)[i]?) = wn.map some)
    (q0 ci : Nat) {q : vw_C} {fs : List Value} (hq : vwCl[ci]? = some q) (hqC : q.1 = C) (h0 : W0[q0]? = some (b, .inr (ci, fs))) (hS : va_S A H0 H locs) (hA : ∀ q : Nat, H0.size ≤ q → A q)
    (hn : As.length = n) (hls : ls.size = nL) (hst : st0 = As.reverse ++ .ref b :: rest) (hW : (rest.map fun v => v.category).sum ≤ 8) (hdg : decode cc pc = .ok (.invokevirtual index, 3)) (hc : cells ≤ R.cells ∧ slots ≤ R.slots)
    (kk : ∀ (H1 : Heap) (locs1 : List Loc), va_P G.1 vwCl wn H1 → va_D A wn → va_S A H0 H1 locs1 → W p l e R s m args below meth c H1 locs1 cells slots Q (F0 m (pc + 3) ls (vo.toList ++ rest))) : W p l e R s m args below meth c H locs cells slots Q (F0 m pc ls st0) := by
  subst hqC
  exact fl_mu_go wn (va_runV C0 (hM H.size) cw ⟨fl_mu_blind, va_recv hK.1 hP hq h0, fl_mu_pre (hP.sub isC (fl_sub_of hC)) (hD.sub isC hndC hC) hK⟩ rfl hn hls hst (lv_room hW) hdg hc) hP hD hS hA isC isR ip hC hR hnd hip kk
theorem fl_muS (wn : va_W) (C0 : CallFix p m c cc nL s args Ts own) (hM : fl_mu l y ws fr lo G As w0 vo w1) (cw : CallB R s args own index y bytes maxL ret ws (fl_rm fr lo) 0 0 n ∧ (Cond.static y).before args s = true) (hK : fl_K G s) (hP : va_P G.1 vwCl W0 H) (hD : va_D A W0) (isC isR ip : List Nat) (hC : isC.map (fun i => W0[i]?) = w0.map some) (hR : isR.all (fun i => decide (i < W0.length)) = true) (hndC : va_nd isC = true) (hnd : va_nd isR = true ∧ va_nd ip = true ∧ isR.all (fun i => decide (i ∉ isC)) = true) (hip : ip.map (fun i => (isR.filterMap (fun i => W0[i]?) ++ w1)[i]?) = wn.map some)
    (hS : va_S A H0 H locs) (hA : ∀ q : Nat, H0.size ≤ q → A q)
    (hn : As.length = n) (hls : ls.size = nL) (hst : st0 = As.reverse ++ rest) (hW : (rest.map fun v => v.category).sum ≤ 8) (hdg : decode cc pc = .ok (.invokestatic index, 3)) (hc : cells ≤ R.cells ∧ slots ≤ R.slots)
    (kk : ∀ (H1 : Heap) (locs1 : List Loc), va_P G.1 vwCl wn H1 → va_D A wn → va_S A H0 H1 locs1 → W p l e R s m args below meth c H1 locs1 cells slots Q (F0 m (pc + 3) ls (vo.toList ++ rest))) : W p l e R s m args below meth c H locs cells slots Q (F0 m pc ls st0) :=
  fl_mu_go wn (va_runS C0 (hM H.size) cw ⟨fl_mu_blind, fl_mu_pre (hP.sub isC (fl_sub_of hC)) (hD.sub isC hndC hC) hK⟩ rfl hn hls hst (lv_room hW) hdg hc) hP hD hS hA isC isR ip hC hR hnd hip kk
theorem fl_muSN (wn : va_W) (C0 : CallFix p m c cc nL s args Ts own) (hM : fl_mu l y ws fr lo G As w0 vo w1) (cw : va_CN R s args own index y host bytes maxL ret ws (fl_rm fr lo) 0 0 n ∧ (Cond.static y).before args s = true ∧ True) (hK : fl_K G s) (hP : va_P G.1 vwCl W0 H) (hD : va_D A W0) (isC isR ip : List Nat) (hC : isC.map (fun i => W0[i]?) = w0.map some) (hR : isR.all (fun i => decide (i < W0.length)) = true) (hndC : va_nd isC = true) (hnd : va_nd isR = true ∧ va_nd ip = true ∧ isR.all (fun i => decide (i ∉ isC)) = true) (hip : ip.map (fun i => (isR.filterMap (fun i => W0[i]?) ++ w1)[i]?) = wn.map some)
    (hS : va_S A H0 H locs) (hA : ∀ q : Nat, H0.size ≤ q → A q)
    (hn : As.length = n) (hls : ls.size = nL) (hst : st0 = As.reverse ++ rest) (hW : (rest.map fun v => v.category).sum ≤ 8) (hdg : decode cc pc = .ok (.invokestatic index, 3)) (hc : cells ≤ R.cells ∧ slots ≤ R.slots)
    (kk : ∀ (H1 : Heap) (locs1 : List Loc), va_P G.1 vwCl wn H1 → va_D A wn → va_S A H0 H1 locs1 → W p l e R s m args below meth c H1 locs1 cells slots Q (F0 m (pc + 3) ls (vo.toList ++ rest))) : W p l e R s m args below meth c H locs cells slots Q (F0 m pc ls st0) :=
  fl_mu_go wn (va_runSN C0 (hM H.size) cw ⟨fl_mu_blind, fl_mu_pre (hP.sub isC (fl_sub_of hC)) (hD.sub isC hndC hC) hK⟩ rfl hn hls hst (lv_room hW) hdg hc) hP hD hS hA isC isR ip hC hR hnd hip kk
end FLC
