/-! THE REMEMBERED SONGS: a row of songs, by their addresses and values, and the ring that points to them. -/
def fl_w1 (G : fl_G) (a : Nat × Nat × Nat) (v : fl_Sg) : va_W := [(a.1, .inr (4, [.ref a.2.1, .ref a.2.2, .int v.2.2.1, .int v.2.2.2.1, .int v.2.2.2.2.1, .int v.2.2.2.2.2.1, .int v.2.2.2.2.2.2.1, .int v.2.2.2.2.2.2.2])), (a.2.1, .inl (G.2.1, 48, .inl v.1)), (a.2.2, .inl (G.2.1, 48, .inl v.2.1))]
def fl_ws (G : fl_G) : List (Nat × Nat × Nat) → List fl_Sg → va_W
  | a :: as, v :: vs => fl_w1 G a v ++ fl_ws G as vs
  | [], _ => []
  | _ :: _, [] => []
def fl_rg (as : List (Nat × Nat × Nat)) : Nat → Option Nat := fun i => (as[i]?).map (fun a => a.1)
theorem fl_ws_get (G : fl_G) : ∀ (as : List (Nat × Nat × Nat)) (vs : List fl_Sg) (i : Nat) (a : Nat × Nat × Nat) (v : fl_Sg), as[i]? = some a → vs[i]? = some v → (fl_ws G as vs).Perm (fl_w1 G a v ++ fl_ws G (as.eraseIdx i) (vs.eraseIdx i)) := by
  intro as
  induction as with
  | nil => intro vs i a v h; simp at h
  | cons b as ih =>
    intro vs i a v ha hv
    cases vs with
    | nil => simp at hv
    | cons u vs =>
      cases i with
      | zero =>
        simp only [List.getElem?_cons_zero, Option.some.injEq] at ha hv
        subst ha; subst hv
        exact List.Perm.refl _
      | succ i =>
        simp only [List.getElem?_cons_succ] at ha hv
        have h := ih vs i a v ha hv
        simp only [List.eraseIdx_cons_succ, fl_ws]
        refine (List.Perm.append_left _ h).trans ?_
        rw [← List.append_assoc, ← List.append_assoc]
        exact List.Perm.append_right _ List.perm_append_comm
theorem fl_ws_set (G : fl_G) (as : List (Nat × Nat × Nat)) (vs : List fl_Sg) (i : Nat) (a : Nat × Nat × Nat) (v v' : fl_Sg) (ha : as[i]? = some a) (hv : vs[i]? = some v) : (fl_ws G as (vs.set i v')).Perm (fl_w1 G a v' ++ fl_ws G (as.eraseIdx i) (vs.eraseIdx i)) := by
  have hi : i < vs.length := (List.getElem?_eq_some_iff.mp hv).1
  have h := fl_ws_get G as (vs.set i v') i a v' ha (by rw [List.getElem?_set_self hi])
  have e : (vs.set i v').eraseIdx i = vs.eraseIdx i := by
    first | exact List.eraseIdx_set_eq | (apply List.ext_getElem?; intro j; rw [List.getElem?_eraseIdx, List.getElem?_eraseIdx]; split <;> (rw [List.getElem?_set]; rw [if_neg (by omega)]))
  rwa [e] at h
theorem fl_ws_app (G : fl_G) : ∀ (as : List (Nat × Nat × Nat)) (vs : List fl_Sg) (a : Nat × Nat × Nat) (v : fl_Sg), as.length = vs.length → fl_ws G (as ++ [a]) (vs ++ [v]) = fl_ws G as vs ++ fl_w1 G a v := by
  intro as
  induction as with
  | nil =>
    intro vs a v h
    cases vs with
    | nil => simp [fl_ws]
    | cons u vs => simp at h
  | cons b as ih =>
    intro vs a v h
    cases vs with
    | nil => simp at h
    | cons u vs =>
      simp only [List.cons_append, fl_ws]
      rw [ih vs a v (by simpa using h), List.append_assoc]
theorem fl_rg_app (as : List (Nat × Nat × Nat)) (a : Nat × Nat × Nat) : va_up (fl_rg as) as.length (some a.1) = fl_rg (as ++ [a]) := by
  funext j
  unfold va_up fl_rg
  by_cases h : j = as.length
  · subst h; simp
  · rw [if_neg h]
    rcases Nat.lt_or_ge j as.length with q | q
    · rw [List.getElem?_append_left q]
    · rw [List.getElem?_eq_none q, List.getElem?_eq_none (by simp; omega)]
noncomputable def P_Hi_remA (ho : Int32) (hs : Int32) (g : fl_Sg) : Option (Int32 × Int32 × fl_Sg) := if ((ho + hs) - (ho + hs) / (14 : Int32) * (14 : Int32)) < 0 then none else if ((ho + hs) - (ho + hs) / (14 : Int32) * (14 : Int32)) < (nI 14) then fl_ck ((ho + hs) - (ho + hs) / (14 : Int32) * (14 : Int32)) 14 (fl_ck ((ho + hs) - (ho + hs) / (14 : Int32) * (14 : Int32)) 14 (fl_ck ((ho + hs) - (ho + hs) / (14 : Int32) * (14 : Int32)) 14 (fl_bd (P_Sg_copyFrom ((fun _ => 0), (fun _ => 0), (0 : Int32), (0 : Int32), (1 : Int32), (0 : Int32), (0 : Int32), (0 : Int32)) g) (fun q1 => if (14 : Int32) ≤ hs then some (((ho + (1 : Int32)) - (ho + (1 : Int32)) / (14 : Int32) * (14 : Int32)), hs, q1) else some (ho, (hs + (1 : Int32)), q1))))) else none
set_option maxHeartbeats 4000000 in
set_option maxRecDepth 100000 in
theorem c_Hi_remA (l : Launch) (G : fl_G) (h0 h1 g0 g1 g2 : Nat) (hf : Nat → Option Nat) (ho : Int32) (hs : Int32) (g : fl_Sg) (hq0 : hf ((ho + hs) - (ho + hs) / (14 : Int32) * (14 : Int32)).toNatClampNeg = none) {r : (Int32 × Int32 × fl_Sg)} (hp0 : P_Hi_remA ho hs g = some r) : fl_ma l yX1_remember wsX1_remember 3 68 3 104 G [.ref h0, .ref g0] [(h0, .inr (1, [.ref h1, .int ho, .int hs])), (h1, .inl (G.2.2.2.2, 14, .inr (.inr (.inr (.inr hf))))), (g0, .inr (4, [.ref g1, .ref g2, .int g.2.2.1, .int g.2.2.2.1, .int g.2.2.2.2.1, .int g.2.2.2.2.2.1, .int g.2.2.2.2.2.2.1, .int g.2.2.2.2.2.2.2])), (g1, .inl (G.2.1, 48, .inl g.1)), (g2, .inl (G.2.1, 48, .inl g.2.1))] none (fun w => ∃ n1 n2 n3 : Nat, w = [(h0, .inr (1, [.ref h1, .int r.1, .int r.2.1])), (h1, .inl (G.2.2.2.2, 14, .inr (.inr (.inr (.inr (va_up hf ((ho + hs) - (ho + hs) / (14 : Int32) * (14 : Int32)).toNatClampNeg (some n1))))))), (g0, .inr (4, [.ref g1, .ref g2, .int g.2.2.1, .int g.2.2.2.1, .int g.2.2.2.2.1, .int g.2.2.2.2.2.1, .int g.2.2.2.2.2.2.1, .int g.2.2.2.2.2.2.2])), (g1, .inl (G.2.1, 48, .inl g.1)), (g2, .inl (G.2.1, 48, .inl g.2.1)), (n1, .inr (4, [.ref n2, .ref n3, .int r.2.2.2.2.1, .int r.2.2.2.2.2.1, .int r.2.2.2.2.2.2.1, .int r.2.2.2.2.2.2.2.1, .int r.2.2.2.2.2.2.2.2.1, .int r.2.2.2.2.2.2.2.2.2])), (n2, .inl (G.2.1, 48, .inl r.2.2.1)), (n3, .inl (G.2.1, 48, .inl r.2.2.2.1))]) := by
  refine fl_mav_in cX1_remember 3 RX1 (by decide) rfl rfl (Nat.le_of_ble_eq_true rfl) ?_
  intro p e s m args below meth c ls A Q H locs C0 hK hP hD hS hA hl hname hfin
  obtain ⟨hx, hb, hml, hown, hts⟩ := id C0
  have iX1 : ∀ w ∈ u_ws RX1 TX1 3, w ∈ wsX1_remember := fun _ h => List.mem_cons_of_mem _ (List.mem_append_left _ (List.mem_append_right _ h))
  have iX4 : ∀ w ∈ u_ws RX4 TX4 8, w ∈ wsX1_remember := fun _ h => List.mem_cons_of_mem _ (List.mem_append_right _ h)
  have hl : lv_has ls 3 [(0, .ref h0), (1, .ref g0)] := hl
  have hp := hp0
  unfold P_Hi_remA at hp
  refine lv_aload_n hx hb dX1_remember_0 rfl (lv_at hl 0 rfl) ?_
  refine va_get (D := G.1) (ci := 1) (v := .int ho) (C := RX1) (T := TX1) (N := 3) hx hb hts iX1 hown hK.1 hP 0 rfl rfl 1 (by decide) (hts (.fieldLink RX1 17 "SongChoir$History" "oldest" "I") (List.mem_of_getElem? (i := 1) rfl)) (fun _ h9 => h9) rfl dX1_remember_1 ?_
  refine lv_aload_n hx hb dX1_remember_4 rfl (lv_at hl 0 rfl) ?_
  refine va_get (D := G.1) (ci := 1) (v := .int hs) (C := RX1) (T := TX1) (N := 3) hx hb hts iX1 hown hK.1 hP 0 rfl rfl 2 (by decide) (hts (.fieldLink RX1 21 "SongChoir$History" "states" "I") (List.mem_of_getElem? (i := 2) rfl)) (fun _ h9 => h9) rfl dX1_remember_5 ?_
  refine lv_iadd hx hb dX1_remember_8 ?_
  refine lv_bipush (v := (14 : Int32)) hx hb dX1_remember_9 (by decide) ?_
  refine lv_irem hx hb dX1_remember_11 (by decide) ?_
  refine lv_istore_n (lv' := [(2, .int ((ho + hs) - (ho + hs) / (14 : Int32) * (14 : Int32))), (0, .ref h0), (1, .ref g0)]) hx hb dX1_remember_12 rfl hl (by decide) rfl (fun ls hl => ?_)
  refine lv_iload_n hx hb dX1_remember_13 rfl (lv_at hl 0 rfl) ?_
  refine lv_if_lt (tgt := 26) hx hb dX1_remember_14 (by decide) (fun hc => ?_) (fun hc => ?_)
  · replace hp := fl_t hc hp
    cases hp
  · replace hp := fl_f hc hp
    refine lv_iload_n hx hb dX1_remember_17 rfl (lv_at hl 0 rfl) ?_
    refine lv_aload_n hx hb dX1_remember_18 rfl (lv_at hl 1 rfl) ?_
    refine va_get (D := G.1) (ci := 1) (v := .ref h1) (C := RX1) (T := TX1) (N := 3) hx hb hts iX1 hown hK.1 hP 0 rfl rfl 0 (by decide) (hts (.fieldLink RX1 11 "SongChoir$History" "ring" "[LSongChoir$Song;") (List.mem_of_getElem? (i := 3) rfl)) (fun _ h9 => h9) rfl dX1_remember_19 ?_
    refine va_alen (v := (nI 14)) hx hb hK.1 hP 1 3 rfl rfl rfl dX1_remember_22 ?_
    refine lv_icmp_lt (tgt := 27) hx hb dX1_remember_23 (by decide) (fun hc => ?_) (fun hc => ?_)
    · replace hp := fl_t hc hp
      refine lv_aload_n hx hb dX1_remember_27 rfl (lv_at hl 1 rfl) ?_
      refine va_get (D := G.1) (ci := 1) (v := .ref h1) (C := RX1) (T := TX1) (N := 3) hx hb hts iX1 hown hK.1 hP 0 rfl rfl 0 (by decide) (hts (.fieldLink RX1 11 "SongChoir$History" "ring" "[LSongChoir$Song;") (List.mem_of_getElem? (i := 3) rfl)) (fun _ h9 => h9) rfl dX1_remember_28 ?_
      refine lv_iload_n hx hb dX1_remember_31 rfl (lv_at hl 0 rfl) ?_
      obtain ⟨hck, hp⟩ := fl_ck_of hp
      refine va_aldq hx hb hK.1 hP 1 3 rfl rfl hck dX1_remember_32 ?_
      rw [show va_rf (hf ((ho + hs) - (ho + hs) / (14 : Int32) * (14 : Int32)).toNatClampNeg) = Value.null by rw [hq0]; rfl]
      refine lv_ifnonnullN hx hb dX1_remember_33 ?_
      refine lv_aload_n hx hb dX1_remember_36 rfl (lv_at hl 1 rfl) ?_
      refine va_get (D := G.1) (ci := 1) (v := .ref h1) (C := RX1) (T := TX1) (N := 3) hx hb hts iX1 hown hK.1 hP 0 rfl rfl 0 (by decide) (hts (.fieldLink RX1 11 "SongChoir$History" "ring" "[LSongChoir$Song;") (List.mem_of_getElem? (i := 3) rfl)) (fun _ h9 => h9) rfl dX1_remember_37 ?_
      refine lv_iload_n hx hb dX1_remember_40 rfl (lv_at hl 0 rfl) ?_
      refine va_new (ci := 4) (fs := [.null, .null, .int 0, .int 0, .int 0, .int 0, .int 0, .int 0]) (C := RX4) (T := TX4) (N := 8) hx hb hts iX4 tyX4 tyX4_ok hown (hts (.classLink RX1 9 RX4) (List.mem_of_getElem? (i := 4) rfl)) (hts (.instantiable RX4 8) (List.mem_of_getElem? (i := 5) rfl)) (hts (.initialized RX4) (List.mem_of_getElem? (i := 6) rfl)) hK.1 hP hD hS hA rfl (fun j hj => by rcases (show j = 0 ∨ j = 1 ∨ j = 2 ∨ j = 3 ∨ j = 4 ∨ j = 5 ∨ j = 6 ∨ j = 7 by omega) with rfl | rfl | rfl | rfl | rfl | rfl | rfl | rfl <;> rfl) (Nat.le_of_ble_eq_true rfl) (Nat.le_of_ble_eq_true rfl) dX1_remember_41 (fun n1 H hP hD hS => ?_)
      have hP : va_P G.1 vwCl ([(h0, .inr (1, [.ref h1, .int ho, .int hs])), (h1, .inl (G.2.2.2.2, 14, .inr (.inr (.inr (.inr hf))))), (g0, .inr (4, [.ref g1, .ref g2, .int g.2.2.1, .int g.2.2.2.1, .int g.2.2.2.2.1, .int g.2.2.2.2.2.1, .int g.2.2.2.2.2.2.1, .int g.2.2.2.2.2.2.2])), (g1, .inl (G.2.1, 48, .inl g.1)), (g2, .inl (G.2.1, 48, .inl g.2.1)), (n1, .inr (4, [.null, .null, .int 0, .int 0, .int 0, .int 0, .int 0, .int 0]))]) H := hP
      have hD : va_D A ([(h0, .inr (1, [.ref h1, .int ho, .int hs])), (h1, .inl (G.2.2.2.2, 14, .inr (.inr (.inr (.inr hf))))), (g0, .inr (4, [.ref g1, .ref g2, .int g.2.2.1, .int g.2.2.2.1, .int g.2.2.2.2.1, .int g.2.2.2.2.2.1, .int g.2.2.2.2.2.2.1, .int g.2.2.2.2.2.2.2])), (g1, .inl (G.2.1, 48, .inl g.1)), (g2, .inl (G.2.1, 48, .inl g.2.1)), (n1, .inr (4, [.null, .null, .int 0, .int 0, .int 0, .int 0, .int 0, .int 0]))]) := hD
      refine W.widen (k := 1) (n := 8) (Nat.le_refl _) (Nat.le_refl _) ?_
      refine lv_dup hx hb dX1_remember_44 rfl ?_
      refine fl_maIN (As := []) (rest := [.ref n1, .int ((ho + hs) - (ho + hs) / (14 : Int32) * (14 : Int32)), .ref h1]) (PW := fun w => ∃ n2 n3 : Nat, w = [(h0, .inr (1, [.ref h1, .int ho, .int hs])), (h1, .inl (G.2.2.2.2, 14, .inr (.inr (.inr (.inr hf))))), (g0, .inr (4, [.ref g1, .ref g2, .int g.2.2.1, .int g.2.2.2.1, .int g.2.2.2.2.1, .int g.2.2.2.2.2.1, .int g.2.2.2.2.2.2.1, .int g.2.2.2.2.2.2.2])), (g1, .inl (G.2.1, 48, .inl g.1)), (g2, .inl (G.2.1, 48, .inl g.2.1)), (n1, .inr (4, [.ref n2, .ref n3, .int (0 : Int32), .int (0 : Int32), .int (1 : Int32), .int (0 : Int32), .int (0 : Int32), .int (0 : Int32)])), (n2, .inl (G.2.1, 48, .inl (fun _ => 0))), (n3, .inl (G.2.1, 48, .inl (fun _ => 0)))]) C0 (fl_ma_adapt (c_Sg_init l G n1) (fl_pm (E := [(h0, .inr (1, [.ref h1, .int ho, .int hs])), (h1, .inl (G.2.2.2.2, 14, .inr (.inr (.inr (.inr hf))))), (g0, .inr (4, [.ref g1, .ref g2, .int g.2.2.1, .int g.2.2.2.1, .int g.2.2.2.2.1, .int g.2.2.2.2.2.1, .int g.2.2.2.2.2.2.1, .int g.2.2.2.2.2.2.2])), (g1, .inl (G.2.1, 48, .inl g.1)), (g2, .inl (G.2.1, 48, .inl g.2.1)), (n1, .inr (4, [.null, .null, .int 0, .int 0, .int 0, .int 0, .int 0, .int 0]))]) [] (n := 6) rfl [5] [0, 1, 2, 3, 4] (by decide)) (fun w1 h => by obtain ⟨n2, n3, rfl⟩ := h; exact ⟨_, List.perm_append_comm, n2, n3, rfl⟩)) ⟨va_cnB 0 hts gX1_remember_X4_init_n24 rfl rfl rfl (hK.nest 12 rfl) (hts (.initialized RX4) (List.mem_of_getElem? (i := 6) rfl)) (by decide +kernel) ⟨Nat.le_of_ble_eq_true rfl, Nat.le_of_ble_eq_true rfl⟩, rfl, (hts (.instanceMethod yX4_init) (List.mem_of_getElem? (i := 7) rfl))⟩ hK (by rw [List.append_nil]; exact hP) (by rw [List.append_nil]; exact hD) hS hA rfl hl.1 rfl (Nat.le_of_ble_eq_true rfl) dX1_remember_45 ⟨Nat.le_of_ble_eq_true rfl, Nat.le_of_ble_eq_true rfl⟩ (fun w1 H locs hw hP hD hS => ?_)
      obtain ⟨n2, n3, rfl⟩ := hw
      have hP : va_P G.1 vwCl [(h0, .inr (1, [.ref h1, .int ho, .int hs])), (h1, .inl (G.2.2.2.2, 14, .inr (.inr (.inr (.inr hf))))), (g0, .inr (4, [.ref g1, .ref g2, .int g.2.2.1, .int g.2.2.2.1, .int g.2.2.2.2.1, .int g.2.2.2.2.2.1, .int g.2.2.2.2.2.2.1, .int g.2.2.2.2.2.2.2])), (g1, .inl (G.2.1, 48, .inl g.1)), (g2, .inl (G.2.1, 48, .inl g.2.1)), (n1, .inr (4, [.ref n2, .ref n3, .int (0 : Int32), .int (0 : Int32), .int (1 : Int32), .int (0 : Int32), .int (0 : Int32), .int (0 : Int32)])), (n2, .inl (G.2.1, 48, .inl (fun _ => 0))), (n3, .inl (G.2.1, 48, .inl (fun _ => 0)))] H := hP
      have hD : va_D A [(h0, .inr (1, [.ref h1, .int ho, .int hs])), (h1, .inl (G.2.2.2.2, 14, .inr (.inr (.inr (.inr hf))))), (g0, .inr (4, [.ref g1, .ref g2, .int g.2.2.1, .int g.2.2.2.1, .int g.2.2.2.2.1, .int g.2.2.2.2.2.1, .int g.2.2.2.2.2.2.1, .int g.2.2.2.2.2.2.2])), (g1, .inl (G.2.1, 48, .inl g.1)), (g2, .inl (G.2.1, 48, .inl g.2.1)), (n1, .inr (4, [.ref n2, .ref n3, .int (0 : Int32), .int (0 : Int32), .int (1 : Int32), .int (0 : Int32), .int (0 : Int32), .int (0 : Int32)])), (n2, .inl (G.2.1, 48, .inl (fun _ => 0))), (n3, .inl (G.2.1, 48, .inl (fun _ => 0)))] := hD
      refine W.widen (k := 3) (n := 104) (Nat.le_refl _) (Nat.le_refl _) ?_
      obtain ⟨hck, hp⟩ := fl_ck_of hp
      refine va_astq (r := (RX4, TX4, 8)) hx hb hK.1 hP hD hS 1 3 5 4 rfl rfl rfl rfl hck dX1_remember_48 (fun H locs hP hD hS => ?_)
      have hP : va_P G.1 vwCl ([(h0, .inr (1, [.ref h1, .int ho, .int hs])), (h1, .inl (G.2.2.2.2, 14, .inr (.inr (.inr (.inr (va_up hf ((ho + hs) - (ho + hs) / (14 : Int32) * (14 : Int32)).toNatClampNeg (some n1))))))), (g0, .inr (4, [.ref g1, .ref g2, .int g.2.2.1, .int g.2.2.2.1, .int g.2.2.2.2.1, .int g.2.2.2.2.2.1, .int g.2.2.2.2.2.2.1, .int g.2.2.2.2.2.2.2])), (g1, .inl (G.2.1, 48, .inl g.1)), (g2, .inl (G.2.1, 48, .inl g.2.1)), (n1, .inr (4, [.ref n2, .ref n3, .int (0 : Int32), .int (0 : Int32), .int (1 : Int32), .int (0 : Int32), .int (0 : Int32), .int (0 : Int32)])), (n2, .inl (G.2.1, 48, .inl (fun _ => 0))), (n3, .inl (G.2.1, 48, .inl (fun _ => 0)))]) H := hP
      have hD : va_D A ([(h0, .inr (1, [.ref h1, .int ho, .int hs])), (h1, .inl (G.2.2.2.2, 14, .inr (.inr (.inr (.inr (va_up hf ((ho + hs) - (ho + hs) / (14 : Int32) * (14 : Int32)).toNatClampNeg (some n1))))))), (g0, .inr (4, [.ref g1, .ref g2, .int g.2.2.1, .int g.2.2.2.1, .int g.2.2.2.2.1, .int g.2.2.2.2.2.1, .int g.2.2.2.2.2.2.1, .int g.2.2.2.2.2.2.2])), (g1, .inl (G.2.1, 48, .inl g.1)), (g2, .inl (G.2.1, 48, .inl g.2.1)), (n1, .inr (4, [.ref n2, .ref n3, .int (0 : Int32), .int (0 : Int32), .int (1 : Int32), .int (0 : Int32), .int (0 : Int32), .int (0 : Int32)])), (n2, .inl (G.2.1, 48, .inl (fun _ => 0))), (n3, .inl (G.2.1, 48, .inl (fun _ => 0)))]) := hD
      refine lv_aload_n hx hb dX1_remember_49 rfl (lv_at hl 1 rfl) ?_
      refine va_get (D := G.1) (ci := 1) (v := .ref h1) (C := RX1) (T := TX1) (N := 3) hx hb hts iX1 hown hK.1 hP 0 rfl rfl 0 (by decide) (hts (.fieldLink RX1 11 "SongChoir$History" "ring" "[LSongChoir$Song;") (List.mem_of_getElem? (i := 3) rfl)) (fun _ h9 => h9) rfl dX1_remember_50 ?_
      refine lv_iload_n hx hb dX1_remember_53 rfl (lv_at hl 0 rfl) ?_
      obtain ⟨hck, hp⟩ := fl_ck_of hp
      refine va_aldq hx hb hK.1 hP 1 3 rfl rfl hck dX1_remember_54 ?_
      rw [show va_rf ((va_up hf ((ho + hs) - (ho + hs) / (14 : Int32) * (14 : Int32)).toNatClampNeg (some n1)) ((ho + hs) - (ho + hs) / (14 : Int32) * (14 : Int32)).toNatClampNeg) = Value.ref n1 by simp [va_up, va_rf]]
      refine lv_aload_n hx hb dX1_remember_55 rfl (lv_at hl 2 rfl) ?_
      obtain ⟨q1, hq1, hp⟩ := fl_bd_of hp
      refine fl_maV (As := [.ref g0]) (rest := []) (PW := fun w => w = [(h0, .inr (1, [.ref h1, .int ho, .int hs])), (h1, .inl (G.2.2.2.2, 14, .inr (.inr (.inr (.inr (va_up hf ((ho + hs) - (ho + hs) / (14 : Int32) * (14 : Int32)).toNatClampNeg (some n1))))))), (g0, .inr (4, [.ref g1, .ref g2, .int g.2.2.1, .int g.2.2.2.1, .int g.2.2.2.2.1, .int g.2.2.2.2.2.1, .int g.2.2.2.2.2.2.1, .int g.2.2.2.2.2.2.2])), (g1, .inl (G.2.1, 48, .inl g.1)), (g2, .inl (G.2.1, 48, .inl g.2.1)), (n1, .inr (4, [.ref n2, .ref n3, .int q1.2.2.1, .int q1.2.2.2.1, .int q1.2.2.2.2.1, .int q1.2.2.2.2.2.1, .int q1.2.2.2.2.2.2.1, .int q1.2.2.2.2.2.2.2])), (n2, .inl (G.2.1, 48, .inl q1.1)), (n3, .inl (G.2.1, 48, .inl q1.2.1))] ++ []) C0 (fl_ma_adapt (X := [(h0, .inr (1, [.ref h1, .int ho, .int hs])), (h1, .inl (G.2.2.2.2, 14, .inr (.inr (.inr (.inr (va_up hf ((ho + hs) - (ho + hs) / (14 : Int32) * (14 : Int32)).toNatClampNeg (some n1)))))))] ++ []) (fl_mu_ma (c_Sg_copyFrom l G n1 n2 n3 g0 g1 g2 ((fun _ => 0), (fun _ => 0), (0 : Int32), (0 : Int32), (1 : Int32), (0 : Int32), (0 : Int32), (0 : Int32)) g hq1)) (fl_pm (E := [(h0, .inr (1, [.ref h1, .int ho, .int hs])), (h1, .inl (G.2.2.2.2, 14, .inr (.inr (.inr (.inr (va_up hf ((ho + hs) - (ho + hs) / (14 : Int32) * (14 : Int32)).toNatClampNeg (some n1))))))), (g0, .inr (4, [.ref g1, .ref g2, .int g.2.2.1, .int g.2.2.2.1, .int g.2.2.2.2.1, .int g.2.2.2.2.2.1, .int g.2.2.2.2.2.2.1, .int g.2.2.2.2.2.2.2])), (g1, .inl (G.2.1, 48, .inl g.1)), (g2, .inl (G.2.1, 48, .inl g.2.1)), (n1, .inr (4, [.ref n2, .ref n3, .int (0 : Int32), .int (0 : Int32), .int (1 : Int32), .int (0 : Int32), .int (0 : Int32), .int (0 : Int32)])), (n2, .inl (G.2.1, 48, .inl (fun _ => 0))), (n3, .inl (G.2.1, 48, .inl (fun _ => 0)))]) [] (n := 8) rfl [5, 6, 7, 2, 3, 4] [0, 1] (by decide)) (fun w1 h => by subst h; exact ⟨_, (fl_pm (E := [(h0, .inr (1, [.ref h1, .int ho, .int hs])), (h1, .inl (G.2.2.2.2, 14, .inr (.inr (.inr (.inr (va_up hf ((ho + hs) - (ho + hs) / (14 : Int32) * (14 : Int32)).toNatClampNeg (some n1))))))), (g0, .inr (4, [.ref g1, .ref g2, .int g.2.2.1, .int g.2.2.2.1, .int g.2.2.2.2.1, .int g.2.2.2.2.2.1, .int g.2.2.2.2.2.2.1, .int g.2.2.2.2.2.2.2])), (g1, .inl (G.2.1, 48, .inl g.1)), (g2, .inl (G.2.1, 48, .inl g.2.1)), (n1, .inr (4, [.ref n2, .ref n3, .int q1.2.2.1, .int q1.2.2.2.1, .int q1.2.2.2.2.1, .int q1.2.2.2.2.2.1, .int q1.2.2.2.2.2.2.1, .int q1.2.2.2.2.2.2.2])), (n2, .inl (G.2.1, 48, .inl q1.1)), (n3, .inl (G.2.1, 48, .inl q1.2.1))]) [] (n := 8) rfl [5, 6, 7, 2, 3, 4] [0, 1] (by decide)).symm, rfl⟩)) (cwV 1 hts gX1_remember_X4_copyFrom rfl rfl rfl (by decide +kernel) ⟨Nat.le_of_ble_eq_true rfl, Nat.le_of_ble_eq_true rfl⟩) hK (by rw [List.append_nil]; exact hP) (by rw [List.append_nil]; exact hD) 5 4 rfl rfl rfl hS hA rfl hl.1 rfl (Nat.le_of_ble_eq_true rfl) dX1_remember_56 ⟨Nat.le_of_ble_eq_true rfl, Nat.le_of_ble_eq_true rfl⟩ (fun w1 H locs hw hP hD hS => ?_)
      subst hw
      have hP : va_P G.1 vwCl ([(h0, .inr (1, [.ref h1, .int ho, .int hs])), (h1, .inl (G.2.2.2.2, 14, .inr (.inr (.inr (.inr (va_up hf ((ho + hs) - (ho + hs) / (14 : Int32) * (14 : Int32)).toNatClampNeg (some n1))))))), (g0, .inr (4, [.ref g1, .ref g2, .int g.2.2.1, .int g.2.2.2.1, .int g.2.2.2.2.1, .int g.2.2.2.2.2.1, .int g.2.2.2.2.2.2.1, .int g.2.2.2.2.2.2.2])), (g1, .inl (G.2.1, 48, .inl g.1)), (g2, .inl (G.2.1, 48, .inl g.2.1)), (n1, .inr (4, [.ref n2, .ref n3, .int q1.2.2.1, .int q1.2.2.2.1, .int q1.2.2.2.2.1, .int q1.2.2.2.2.2.1, .int q1.2.2.2.2.2.2.1, .int q1.2.2.2.2.2.2.2])), (n2, .inl (G.2.1, 48, .inl q1.1)), (n3, .inl (G.2.1, 48, .inl q1.2.1))]) H := hP
      have hD : va_D A ([(h0, .inr (1, [.ref h1, .int ho, .int hs])), (h1, .inl (G.2.2.2.2, 14, .inr (.inr (.inr (.inr (va_up hf ((ho + hs) - (ho + hs) / (14 : Int32) * (14 : Int32)).toNatClampNeg (some n1))))))), (g0, .inr (4, [.ref g1, .ref g2, .int g.2.2.1, .int g.2.2.2.1, .int g.2.2.2.2.1, .int g.2.2.2.2.2.1, .int g.2.2.2.2.2.2.1, .int g.2.2.2.2.2.2.2])), (g1, .inl (G.2.1, 48, .inl g.1)), (g2, .inl (G.2.1, 48, .inl g.2.1)), (n1, .inr (4, [.ref n2, .ref n3, .int q1.2.2.1, .int q1.2.2.2.1, .int q1.2.2.2.2.1, .int q1.2.2.2.2.2.1, .int q1.2.2.2.2.2.2.1, .int q1.2.2.2.2.2.2.2])), (n2, .inl (G.2.1, 48, .inl q1.1)), (n3, .inl (G.2.1, 48, .inl q1.2.1))]) := hD
      refine W.widen (k := 3) (n := 104) (Nat.le_refl _) (Nat.le_refl _) ?_
      refine lv_aload_n hx hb dX1_remember_59 rfl (lv_at hl 1 rfl) ?_
      refine va_get (D := G.1) (ci := 1) (v := .int hs) (C := RX1) (T := TX1) (N := 3) hx hb hts iX1 hown hK.1 hP 0 rfl rfl 2 (by decide) (hts (.fieldLink RX1 21 "SongChoir$History" "states" "I") (List.mem_of_getElem? (i := 2) rfl)) (fun _ h9 => h9) rfl dX1_remember_60 ?_
      refine lv_bipush (v := (14 : Int32)) hx hb dX1_remember_63 (by decide) ?_
      refine lv_icmp_ge (tgt := 81) hx hb dX1_remember_65 (by decide) (fun hc => ?_) (fun hc => ?_)
      · replace hp := fl_t hc hp
        refine lv_aload_n hx hb dX1_remember_81 rfl (lv_at hl 1 rfl) ?_
        refine lv_aload_n hx hb dX1_remember_82 rfl (lv_at hl 1 rfl) ?_
        refine va_get (D := G.1) (ci := 1) (v := .int ho) (C := RX1) (T := TX1) (N := 3) hx hb hts iX1 hown hK.1 hP 0 rfl rfl 1 (by decide) (hts (.fieldLink RX1 17 "SongChoir$History" "oldest" "I") (List.mem_of_getElem? (i := 1) rfl)) (fun _ h9 => h9) rfl dX1_remember_83 ?_
        refine lv_iconst (v := (1 : Int32)) hx hb dX1_remember_86 (by decide) ?_
        refine lv_iadd hx hb dX1_remember_87 ?_
        refine lv_bipush (v := (14 : Int32)) hx hb dX1_remember_88 (by decide) ?_
        refine lv_irem hx hb dX1_remember_90 (by decide) ?_
        refine va_put (D := G.1) (ci := 1) (v := .int ((ho + (1 : Int32)) - (ho + (1 : Int32)) / (14 : Int32) * (14 : Int32))) (ty := .int) (C := RX1) (T := TX1) (N := 3) hx hb hts iX1 tyX1 tyX1_ok nmX1 hown hK.1 hP hD hS 0 rfl rfl 1 (by decide) (hts (.fieldLink RX1 17 "SongChoir$History" "oldest" "I") (List.mem_of_getElem? (i := 1) rfl)) (fun _ h9 => h9) rfl (by decide +kernel) rfl rfl (Nat.le_of_ble_eq_true rfl) dX1_remember_91 (fun H locs hP hD hS => ?_)
        have hP : va_P G.1 vwCl ([(h0, .inr (1, [.ref h1, .int ((ho + (1 : Int32)) - (ho + (1 : Int32)) / (14 : Int32) * (14 : Int32)), .int hs])), (h1, .inl (G.2.2.2.2, 14, .inr (.inr (.inr (.inr (va_up hf ((ho + hs) - (ho + hs) / (14 : Int32) * (14 : Int32)).toNatClampNeg (some n1))))))), (g0, .inr (4, [.ref g1, .ref g2, .int g.2.2.1, .int g.2.2.2.1, .int g.2.2.2.2.1, .int g.2.2.2.2.2.1, .int g.2.2.2.2.2.2.1, .int g.2.2.2.2.2.2.2])), (g1, .inl (G.2.1, 48, .inl g.1)), (g2, .inl (G.2.1, 48, .inl g.2.1)), (n1, .inr (4, [.ref n2, .ref n3, .int q1.2.2.1, .int q1.2.2.2.1, .int q1.2.2.2.2.1, .int q1.2.2.2.2.2.1, .int q1.2.2.2.2.2.2.1, .int q1.2.2.2.2.2.2.2])), (n2, .inl (G.2.1, 48, .inl q1.1)), (n3, .inl (G.2.1, 48, .inl q1.2.1))]) H := hP
        have hD : va_D A ([(h0, .inr (1, [.ref h1, .int ((ho + (1 : Int32)) - (ho + (1 : Int32)) / (14 : Int32) * (14 : Int32)), .int hs])), (h1, .inl (G.2.2.2.2, 14, .inr (.inr (.inr (.inr (va_up hf ((ho + hs) - (ho + hs) / (14 : Int32) * (14 : Int32)).toNatClampNeg (some n1))))))), (g0, .inr (4, [.ref g1, .ref g2, .int g.2.2.1, .int g.2.2.2.1, .int g.2.2.2.2.1, .int g.2.2.2.2.2.1, .int g.2.2.2.2.2.2.1, .int g.2.2.2.2.2.2.2])), (g1, .inl (G.2.1, 48, .inl g.1)), (g2, .inl (G.2.1, 48, .inl g.2.1)), (n1, .inr (4, [.ref n2, .ref n3, .int q1.2.2.1, .int q1.2.2.2.1, .int q1.2.2.2.2.1, .int q1.2.2.2.2.2.1, .int q1.2.2.2.2.2.2.1, .int q1.2.2.2.2.2.2.2])), (n2, .inl (G.2.1, 48, .inl q1.1)), (n3, .inl (G.2.1, 48, .inl q1.2.1))]) := hD
        obtain rfl := Option.some.inj hp
        exact hfin [(h0, .inr (1, [.ref h1, .int ((ho + (1 : Int32)) - (ho + (1 : Int32)) / (14 : Int32) * (14 : Int32)), .int hs])), (h1, .inl (G.2.2.2.2, 14, .inr (.inr (.inr (.inr (va_up hf ((ho + hs) - (ho + hs) / (14 : Int32) * (14 : Int32)).toNatClampNeg (some n1))))))), (g0, .inr (4, [.ref g1, .ref g2, .int g.2.2.1, .int g.2.2.2.1, .int g.2.2.2.2.1, .int g.2.2.2.2.2.1, .int g.2.2.2.2.2.2.1, .int g.2.2.2.2.2.2.2])), (g1, .inl (G.2.1, 48, .inl g.1)), (g2, .inl (G.2.1, 48, .inl g.2.1)), (n1, .inr (4, [.ref n2, .ref n3, .int q1.2.2.1, .int q1.2.2.2.1, .int q1.2.2.2.2.1, .int q1.2.2.2.2.2.1, .int q1.2.2.2.2.2.2.1, .int q1.2.2.2.2.2.2.2])), (n2, .inl (G.2.1, 48, .inl q1.1)), (n3, .inl (G.2.1, 48, .inl q1.2.1))] H locs _ 3 104 ls ⟨n1, n2, n3, rfl⟩ hP hD hS dX1_remember_94 (Nat.le_of_ble_eq_true rfl) (Nat.le_of_ble_eq_true rfl)
      · replace hp := fl_f hc hp
        refine lv_aload_n hx hb dX1_remember_68 rfl (lv_at hl 1 rfl) ?_
        refine lv_dup hx hb dX1_remember_69 rfl ?_
        refine va_get (D := G.1) (ci := 1) (v := .int hs) (C := RX1) (T := TX1) (N := 3) hx hb hts iX1 hown hK.1 hP 0 rfl rfl 2 (by decide) (hts (.fieldLink RX1 21 "SongChoir$History" "states" "I") (List.mem_of_getElem? (i := 2) rfl)) (fun _ h9 => h9) rfl dX1_remember_70 ?_
        refine lv_iconst (v := (1 : Int32)) hx hb dX1_remember_73 (by decide) ?_
        refine lv_iadd hx hb dX1_remember_74 ?_
        refine va_put (D := G.1) (ci := 1) (v := .int (hs + (1 : Int32))) (ty := .int) (C := RX1) (T := TX1) (N := 3) hx hb hts iX1 tyX1 tyX1_ok nmX1 hown hK.1 hP hD hS 0 rfl rfl 2 (by decide) (hts (.fieldLink RX1 21 "SongChoir$History" "states" "I") (List.mem_of_getElem? (i := 2) rfl)) (fun _ h9 => h9) rfl (by decide +kernel) rfl rfl (Nat.le_of_ble_eq_true rfl) dX1_remember_75 (fun H locs hP hD hS => ?_)
        have hP : va_P G.1 vwCl ([(h0, .inr (1, [.ref h1, .int ho, .int (hs + (1 : Int32))])), (h1, .inl (G.2.2.2.2, 14, .inr (.inr (.inr (.inr (va_up hf ((ho + hs) - (ho + hs) / (14 : Int32) * (14 : Int32)).toNatClampNeg (some n1))))))), (g0, .inr (4, [.ref g1, .ref g2, .int g.2.2.1, .int g.2.2.2.1, .int g.2.2.2.2.1, .int g.2.2.2.2.2.1, .int g.2.2.2.2.2.2.1, .int g.2.2.2.2.2.2.2])), (g1, .inl (G.2.1, 48, .inl g.1)), (g2, .inl (G.2.1, 48, .inl g.2.1)), (n1, .inr (4, [.ref n2, .ref n3, .int q1.2.2.1, .int q1.2.2.2.1, .int q1.2.2.2.2.1, .int q1.2.2.2.2.2.1, .int q1.2.2.2.2.2.2.1, .int q1.2.2.2.2.2.2.2])), (n2, .inl (G.2.1, 48, .inl q1.1)), (n3, .inl (G.2.1, 48, .inl q1.2.1))]) H := hP
        have hD : va_D A ([(h0, .inr (1, [.ref h1, .int ho, .int (hs + (1 : Int32))])), (h1, .inl (G.2.2.2.2, 14, .inr (.inr (.inr (.inr (va_up hf ((ho + hs) - (ho + hs) / (14 : Int32) * (14 : Int32)).toNatClampNeg (some n1))))))), (g0, .inr (4, [.ref g1, .ref g2, .int g.2.2.1, .int g.2.2.2.1, .int g.2.2.2.2.1, .int g.2.2.2.2.2.1, .int g.2.2.2.2.2.2.1, .int g.2.2.2.2.2.2.2])), (g1, .inl (G.2.1, 48, .inl g.1)), (g2, .inl (G.2.1, 48, .inl g.2.1)), (n1, .inr (4, [.ref n2, .ref n3, .int q1.2.2.1, .int q1.2.2.2.1, .int q1.2.2.2.2.1, .int q1.2.2.2.2.2.1, .int q1.2.2.2.2.2.2.1, .int q1.2.2.2.2.2.2.2])), (n2, .inl (G.2.1, 48, .inl q1.1)), (n3, .inl (G.2.1, 48, .inl q1.2.1))]) := hD
        refine lv_goto (tgt := 94) hx hb dX1_remember_78 (by decide) ?_
        obtain rfl := Option.some.inj hp
        exact hfin [(h0, .inr (1, [.ref h1, .int ho, .int (hs + (1 : Int32))])), (h1, .inl (G.2.2.2.2, 14, .inr (.inr (.inr (.inr (va_up hf ((ho + hs) - (ho + hs) / (14 : Int32) * (14 : Int32)).toNatClampNeg (some n1))))))), (g0, .inr (4, [.ref g1, .ref g2, .int g.2.2.1, .int g.2.2.2.1, .int g.2.2.2.2.1, .int g.2.2.2.2.2.1, .int g.2.2.2.2.2.2.1, .int g.2.2.2.2.2.2.2])), (g1, .inl (G.2.1, 48, .inl g.1)), (g2, .inl (G.2.1, 48, .inl g.2.1)), (n1, .inr (4, [.ref n2, .ref n3, .int q1.2.2.1, .int q1.2.2.2.1, .int q1.2.2.2.2.1, .int q1.2.2.2.2.2.1, .int q1.2.2.2.2.2.2.1, .int q1.2.2.2.2.2.2.2])), (n2, .inl (G.2.1, 48, .inl q1.1)), (n3, .inl (G.2.1, 48, .inl q1.2.1))] H locs _ 3 104 ls ⟨n1, n2, n3, rfl⟩ hP hD hS dX1_remember_94 (Nat.le_of_ble_eq_true rfl) (Nat.le_of_ble_eq_true rfl)
    · replace hp := fl_f hc hp
      cases hp

noncomputable def P_Hi_remB (ho : Int32) (hs : Int32) (g : fl_Sg) (tg : fl_Sg) : Option (Int32 × Int32 × fl_Sg) := if ((ho + hs) - (ho + hs) / (14 : Int32) * (14 : Int32)) < 0 then none else if ((ho + hs) - (ho + hs) / (14 : Int32) * (14 : Int32)) < (nI 14) then fl_ck ((ho + hs) - (ho + hs) / (14 : Int32) * (14 : Int32)) 14 (fl_ck ((ho + hs) - (ho + hs) / (14 : Int32) * (14 : Int32)) 14 (fl_bd (P_Sg_copyFrom tg g) (fun q1 => if (14 : Int32) ≤ hs then some (((ho + (1 : Int32)) - (ho + (1 : Int32)) / (14 : Int32) * (14 : Int32)), hs, q1) else some (ho, (hs + (1 : Int32)), q1)))) else none
set_option maxHeartbeats 4000000 in
set_option maxRecDepth 100000 in
theorem c_Hi_remB (l : Launch) (G : fl_G) (h0 h1 g0 g1 g2 tg0 tg1 tg2 : Nat) (hf : Nat → Option Nat) (ho : Int32) (hs : Int32) (g : fl_Sg) (tg : fl_Sg) (hq0 : hf ((ho + hs) - (ho + hs) / (14 : Int32) * (14 : Int32)).toNatClampNeg = some tg0) {r : (Int32 × Int32 × fl_Sg)} (hp0 : P_Hi_remB ho hs g tg = some r) : fl_ma l yX1_remember wsX1_remember 3 68 3 104 G [.ref h0, .ref g0] [(h0, .inr (1, [.ref h1, .int ho, .int hs])), (h1, .inl (G.2.2.2.2, 14, .inr (.inr (.inr (.inr hf))))), (g0, .inr (4, [.ref g1, .ref g2, .int g.2.2.1, .int g.2.2.2.1, .int g.2.2.2.2.1, .int g.2.2.2.2.2.1, .int g.2.2.2.2.2.2.1, .int g.2.2.2.2.2.2.2])), (g1, .inl (G.2.1, 48, .inl g.1)), (g2, .inl (G.2.1, 48, .inl g.2.1)), (tg0, .inr (4, [.ref tg1, .ref tg2, .int tg.2.2.1, .int tg.2.2.2.1, .int tg.2.2.2.2.1, .int tg.2.2.2.2.2.1, .int tg.2.2.2.2.2.2.1, .int tg.2.2.2.2.2.2.2])), (tg1, .inl (G.2.1, 48, .inl tg.1)), (tg2, .inl (G.2.1, 48, .inl tg.2.1))] none (fun w => w = [(h0, .inr (1, [.ref h1, .int r.1, .int r.2.1])), (h1, .inl (G.2.2.2.2, 14, .inr (.inr (.inr (.inr hf))))), (g0, .inr (4, [.ref g1, .ref g2, .int g.2.2.1, .int g.2.2.2.1, .int g.2.2.2.2.1, .int g.2.2.2.2.2.1, .int g.2.2.2.2.2.2.1, .int g.2.2.2.2.2.2.2])), (g1, .inl (G.2.1, 48, .inl g.1)), (g2, .inl (G.2.1, 48, .inl g.2.1)), (tg0, .inr (4, [.ref tg1, .ref tg2, .int r.2.2.2.2.1, .int r.2.2.2.2.2.1, .int r.2.2.2.2.2.2.1, .int r.2.2.2.2.2.2.2.1, .int r.2.2.2.2.2.2.2.2.1, .int r.2.2.2.2.2.2.2.2.2])), (tg1, .inl (G.2.1, 48, .inl r.2.2.1)), (tg2, .inl (G.2.1, 48, .inl r.2.2.2.1))]) := by
  refine fl_mav_in cX1_remember 3 RX1 (by decide) rfl rfl (Nat.le_of_ble_eq_true rfl) ?_
  intro p e s m args below meth c ls A Q H locs C0 hK hP hD hS hA hl hname hfin
  obtain ⟨hx, hb, hml, hown, hts⟩ := id C0
  have iX1 : ∀ w ∈ u_ws RX1 TX1 3, w ∈ wsX1_remember := fun _ h => List.mem_cons_of_mem _ (List.mem_append_left _ (List.mem_append_right _ h))
  have hl : lv_has ls 3 [(0, .ref h0), (1, .ref g0)] := hl
  have hp := hp0
  unfold P_Hi_remB at hp
  refine lv_aload_n hx hb dX1_remember_0 rfl (lv_at hl 0 rfl) ?_
  refine va_get (D := G.1) (ci := 1) (v := .int ho) (C := RX1) (T := TX1) (N := 3) hx hb hts iX1 hown hK.1 hP 0 rfl rfl 1 (by decide) (hts (.fieldLink RX1 17 "SongChoir$History" "oldest" "I") (List.mem_of_getElem? (i := 1) rfl)) (fun _ h9 => h9) rfl dX1_remember_1 ?_
  refine lv_aload_n hx hb dX1_remember_4 rfl (lv_at hl 0 rfl) ?_
  refine va_get (D := G.1) (ci := 1) (v := .int hs) (C := RX1) (T := TX1) (N := 3) hx hb hts iX1 hown hK.1 hP 0 rfl rfl 2 (by decide) (hts (.fieldLink RX1 21 "SongChoir$History" "states" "I") (List.mem_of_getElem? (i := 2) rfl)) (fun _ h9 => h9) rfl dX1_remember_5 ?_
  refine lv_iadd hx hb dX1_remember_8 ?_
  refine lv_bipush (v := (14 : Int32)) hx hb dX1_remember_9 (by decide) ?_
  refine lv_irem hx hb dX1_remember_11 (by decide) ?_
  refine lv_istore_n (lv' := [(2, .int ((ho + hs) - (ho + hs) / (14 : Int32) * (14 : Int32))), (0, .ref h0), (1, .ref g0)]) hx hb dX1_remember_12 rfl hl (by decide) rfl (fun ls hl => ?_)
  refine lv_iload_n hx hb dX1_remember_13 rfl (lv_at hl 0 rfl) ?_
  refine lv_if_lt (tgt := 26) hx hb dX1_remember_14 (by decide) (fun hc => ?_) (fun hc => ?_)
  · replace hp := fl_t hc hp
    cases hp
  · replace hp := fl_f hc hp
    refine lv_iload_n hx hb dX1_remember_17 rfl (lv_at hl 0 rfl) ?_
    refine lv_aload_n hx hb dX1_remember_18 rfl (lv_at hl 1 rfl) ?_
    refine va_get (D := G.1) (ci := 1) (v := .ref h1) (C := RX1) (T := TX1) (N := 3) hx hb hts iX1 hown hK.1 hP 0 rfl rfl 0 (by decide) (hts (.fieldLink RX1 11 "SongChoir$History" "ring" "[LSongChoir$Song;") (List.mem_of_getElem? (i := 3) rfl)) (fun _ h9 => h9) rfl dX1_remember_19 ?_
    refine va_alen (v := (nI 14)) hx hb hK.1 hP 1 3 rfl rfl rfl dX1_remember_22 ?_
    refine lv_icmp_lt (tgt := 27) hx hb dX1_remember_23 (by decide) (fun hc => ?_) (fun hc => ?_)
    · replace hp := fl_t hc hp
      refine lv_aload_n hx hb dX1_remember_27 rfl (lv_at hl 1 rfl) ?_
      refine va_get (D := G.1) (ci := 1) (v := .ref h1) (C := RX1) (T := TX1) (N := 3) hx hb hts iX1 hown hK.1 hP 0 rfl rfl 0 (by decide) (hts (.fieldLink RX1 11 "SongChoir$History" "ring" "[LSongChoir$Song;") (List.mem_of_getElem? (i := 3) rfl)) (fun _ h9 => h9) rfl dX1_remember_28 ?_
      refine lv_iload_n hx hb dX1_remember_31 rfl (lv_at hl 0 rfl) ?_
      obtain ⟨hck, hp⟩ := fl_ck_of hp
      refine va_aldq hx hb hK.1 hP 1 3 rfl rfl hck dX1_remember_32 ?_
      rw [show va_rf (hf ((ho + hs) - (ho + hs) / (14 : Int32) * (14 : Int32)).toNatClampNeg) = Value.ref tg0 by rw [hq0]; rfl]
      refine lv_ifnonnull (tgt := 49) hx hb dX1_remember_33 (by decide) ?_
      refine lv_aload_n hx hb dX1_remember_49 rfl (lv_at hl 1 rfl) ?_
      refine va_get (D := G.1) (ci := 1) (v := .ref h1) (C := RX1) (T := TX1) (N := 3) hx hb hts iX1 hown hK.1 hP 0 rfl rfl 0 (by decide) (hts (.fieldLink RX1 11 "SongChoir$History" "ring" "[LSongChoir$Song;") (List.mem_of_getElem? (i := 3) rfl)) (fun _ h9 => h9) rfl dX1_remember_50 ?_
      refine lv_iload_n hx hb dX1_remember_53 rfl (lv_at hl 0 rfl) ?_
      obtain ⟨hck, hp⟩ := fl_ck_of hp
      refine va_aldq hx hb hK.1 hP 1 3 rfl rfl hck dX1_remember_54 ?_
      rw [show va_rf (hf ((ho + hs) - (ho + hs) / (14 : Int32) * (14 : Int32)).toNatClampNeg) = Value.ref tg0 by rw [hq0]; rfl]
      refine lv_aload_n hx hb dX1_remember_55 rfl (lv_at hl 2 rfl) ?_
      obtain ⟨q1, hq1, hp⟩ := fl_bd_of hp
      refine fl_maV (As := [.ref g0]) (rest := []) (PW := fun w => w = [(h0, .inr (1, [.ref h1, .int ho, .int hs])), (h1, .inl (G.2.2.2.2, 14, .inr (.inr (.inr (.inr hf))))), (g0, .inr (4, [.ref g1, .ref g2, .int g.2.2.1, .int g.2.2.2.1, .int g.2.2.2.2.1, .int g.2.2.2.2.2.1, .int g.2.2.2.2.2.2.1, .int g.2.2.2.2.2.2.2])), (g1, .inl (G.2.1, 48, .inl g.1)), (g2, .inl (G.2.1, 48, .inl g.2.1)), (tg0, .inr (4, [.ref tg1, .ref tg2, .int q1.2.2.1, .int q1.2.2.2.1, .int q1.2.2.2.2.1, .int q1.2.2.2.2.2.1, .int q1.2.2.2.2.2.2.1, .int q1.2.2.2.2.2.2.2])), (tg1, .inl (G.2.1, 48, .inl q1.1)), (tg2, .inl (G.2.1, 48, .inl q1.2.1))] ++ []) C0 (fl_ma_adapt (X := [(h0, .inr (1, [.ref h1, .int ho, .int hs])), (h1, .inl (G.2.2.2.2, 14, .inr (.inr (.inr (.inr hf)))))] ++ []) (fl_mu_ma (c_Sg_copyFrom l G tg0 tg1 tg2 g0 g1 g2 tg g hq1)) (fl_pm (E := [(h0, .inr (1, [.ref h1, .int ho, .int hs])), (h1, .inl (G.2.2.2.2, 14, .inr (.inr (.inr (.inr hf))))), (g0, .inr (4, [.ref g1, .ref g2, .int g.2.2.1, .int g.2.2.2.1, .int g.2.2.2.2.1, .int g.2.2.2.2.2.1, .int g.2.2.2.2.2.2.1, .int g.2.2.2.2.2.2.2])), (g1, .inl (G.2.1, 48, .inl g.1)), (g2, .inl (G.2.1, 48, .inl g.2.1)), (tg0, .inr (4, [.ref tg1, .ref tg2, .int tg.2.2.1, .int tg.2.2.2.1, .int tg.2.2.2.2.1, .int tg.2.2.2.2.2.1, .int tg.2.2.2.2.2.2.1, .int tg.2.2.2.2.2.2.2])), (tg1, .inl (G.2.1, 48, .inl tg.1)), (tg2, .inl (G.2.1, 48, .inl tg.2.1))]) [] (n := 8) rfl [5, 6, 7, 2, 3, 4] [0, 1] (by decide)) (fun w1 h => by subst h; exact ⟨_, (fl_pm (E := [(h0, .inr (1, [.ref h1, .int ho, .int hs])), (h1, .inl (G.2.2.2.2, 14, .inr (.inr (.inr (.inr hf))))), (g0, .inr (4, [.ref g1, .ref g2, .int g.2.2.1, .int g.2.2.2.1, .int g.2.2.2.2.1, .int g.2.2.2.2.2.1, .int g.2.2.2.2.2.2.1, .int g.2.2.2.2.2.2.2])), (g1, .inl (G.2.1, 48, .inl g.1)), (g2, .inl (G.2.1, 48, .inl g.2.1)), (tg0, .inr (4, [.ref tg1, .ref tg2, .int q1.2.2.1, .int q1.2.2.2.1, .int q1.2.2.2.2.1, .int q1.2.2.2.2.2.1, .int q1.2.2.2.2.2.2.1, .int q1.2.2.2.2.2.2.2])), (tg1, .inl (G.2.1, 48, .inl q1.1)), (tg2, .inl (G.2.1, 48, .inl q1.2.1))]) [] (n := 8) rfl [5, 6, 7, 2, 3, 4] [0, 1] (by decide)).symm, rfl⟩)) (cwV 1 hts gX1_remember_X4_copyFrom rfl rfl rfl (by decide +kernel) ⟨Nat.le_of_ble_eq_true rfl, Nat.le_of_ble_eq_true rfl⟩) hK (by rw [List.append_nil]; exact hP) (by rw [List.append_nil]; exact hD) 5 4 rfl rfl rfl hS hA rfl hl.1 rfl (Nat.le_of_ble_eq_true rfl) dX1_remember_56 ⟨Nat.le_of_ble_eq_true rfl, Nat.le_of_ble_eq_true rfl⟩ (fun w1 H locs hw hP hD hS => ?_)
      subst hw
      have hP : va_P G.1 vwCl ([(h0, .inr (1, [.ref h1, .int ho, .int hs])), (h1, .inl (G.2.2.2.2, 14, .inr (.inr (.inr (.inr hf))))), (g0, .inr (4, [.ref g1, .ref g2, .int g.2.2.1, .int g.2.2.2.1, .int g.2.2.2.2.1, .int g.2.2.2.2.2.1, .int g.2.2.2.2.2.2.1, .int g.2.2.2.2.2.2.2])), (g1, .inl (G.2.1, 48, .inl g.1)), (g2, .inl (G.2.1, 48, .inl g.2.1)), (tg0, .inr (4, [.ref tg1, .ref tg2, .int q1.2.2.1, .int q1.2.2.2.1, .int q1.2.2.2.2.1, .int q1.2.2.2.2.2.1, .int q1.2.2.2.2.2.2.1, .int q1.2.2.2.2.2.2.2])), (tg1, .inl (G.2.1, 48, .inl q1.1)), (tg2, .inl (G.2.1, 48, .inl q1.2.1))]) H := hP
      have hD : va_D A ([(h0, .inr (1, [.ref h1, .int ho, .int hs])), (h1, .inl (G.2.2.2.2, 14, .inr (.inr (.inr (.inr hf))))), (g0, .inr (4, [.ref g1, .ref g2, .int g.2.2.1, .int g.2.2.2.1, .int g.2.2.2.2.1, .int g.2.2.2.2.2.1, .int g.2.2.2.2.2.2.1, .int g.2.2.2.2.2.2.2])), (g1, .inl (G.2.1, 48, .inl g.1)), (g2, .inl (G.2.1, 48, .inl g.2.1)), (tg0, .inr (4, [.ref tg1, .ref tg2, .int q1.2.2.1, .int q1.2.2.2.1, .int q1.2.2.2.2.1, .int q1.2.2.2.2.2.1, .int q1.2.2.2.2.2.2.1, .int q1.2.2.2.2.2.2.2])), (tg1, .inl (G.2.1, 48, .inl q1.1)), (tg2, .inl (G.2.1, 48, .inl q1.2.1))]) := hD
      refine W.widen (k := 0) (n := 0) (Nat.le_refl _) (Nat.le_refl _) ?_
      refine lv_aload_n hx hb dX1_remember_59 rfl (lv_at hl 1 rfl) ?_
      refine va_get (D := G.1) (ci := 1) (v := .int hs) (C := RX1) (T := TX1) (N := 3) hx hb hts iX1 hown hK.1 hP 0 rfl rfl 2 (by decide) (hts (.fieldLink RX1 21 "SongChoir$History" "states" "I") (List.mem_of_getElem? (i := 2) rfl)) (fun _ h9 => h9) rfl dX1_remember_60 ?_
      refine lv_bipush (v := (14 : Int32)) hx hb dX1_remember_63 (by decide) ?_
      refine lv_icmp_ge (tgt := 81) hx hb dX1_remember_65 (by decide) (fun hc => ?_) (fun hc => ?_)
      · replace hp := fl_t hc hp
        refine lv_aload_n hx hb dX1_remember_81 rfl (lv_at hl 1 rfl) ?_
        refine lv_aload_n hx hb dX1_remember_82 rfl (lv_at hl 1 rfl) ?_
        refine va_get (D := G.1) (ci := 1) (v := .int ho) (C := RX1) (T := TX1) (N := 3) hx hb hts iX1 hown hK.1 hP 0 rfl rfl 1 (by decide) (hts (.fieldLink RX1 17 "SongChoir$History" "oldest" "I") (List.mem_of_getElem? (i := 1) rfl)) (fun _ h9 => h9) rfl dX1_remember_83 ?_
        refine lv_iconst (v := (1 : Int32)) hx hb dX1_remember_86 (by decide) ?_
        refine lv_iadd hx hb dX1_remember_87 ?_
        refine lv_bipush (v := (14 : Int32)) hx hb dX1_remember_88 (by decide) ?_
        refine lv_irem hx hb dX1_remember_90 (by decide) ?_
        refine va_put (D := G.1) (ci := 1) (v := .int ((ho + (1 : Int32)) - (ho + (1 : Int32)) / (14 : Int32) * (14 : Int32))) (ty := .int) (C := RX1) (T := TX1) (N := 3) hx hb hts iX1 tyX1 tyX1_ok nmX1 hown hK.1 hP hD hS 0 rfl rfl 1 (by decide) (hts (.fieldLink RX1 17 "SongChoir$History" "oldest" "I") (List.mem_of_getElem? (i := 1) rfl)) (fun _ h9 => h9) rfl (by decide +kernel) rfl rfl (Nat.le_of_ble_eq_true rfl) dX1_remember_91 (fun H locs hP hD hS => ?_)
        have hP : va_P G.1 vwCl ([(h0, .inr (1, [.ref h1, .int ((ho + (1 : Int32)) - (ho + (1 : Int32)) / (14 : Int32) * (14 : Int32)), .int hs])), (h1, .inl (G.2.2.2.2, 14, .inr (.inr (.inr (.inr hf))))), (g0, .inr (4, [.ref g1, .ref g2, .int g.2.2.1, .int g.2.2.2.1, .int g.2.2.2.2.1, .int g.2.2.2.2.2.1, .int g.2.2.2.2.2.2.1, .int g.2.2.2.2.2.2.2])), (g1, .inl (G.2.1, 48, .inl g.1)), (g2, .inl (G.2.1, 48, .inl g.2.1)), (tg0, .inr (4, [.ref tg1, .ref tg2, .int q1.2.2.1, .int q1.2.2.2.1, .int q1.2.2.2.2.1, .int q1.2.2.2.2.2.1, .int q1.2.2.2.2.2.2.1, .int q1.2.2.2.2.2.2.2])), (tg1, .inl (G.2.1, 48, .inl q1.1)), (tg2, .inl (G.2.1, 48, .inl q1.2.1))]) H := hP
        have hD : va_D A ([(h0, .inr (1, [.ref h1, .int ((ho + (1 : Int32)) - (ho + (1 : Int32)) / (14 : Int32) * (14 : Int32)), .int hs])), (h1, .inl (G.2.2.2.2, 14, .inr (.inr (.inr (.inr hf))))), (g0, .inr (4, [.ref g1, .ref g2, .int g.2.2.1, .int g.2.2.2.1, .int g.2.2.2.2.1, .int g.2.2.2.2.2.1, .int g.2.2.2.2.2.2.1, .int g.2.2.2.2.2.2.2])), (g1, .inl (G.2.1, 48, .inl g.1)), (g2, .inl (G.2.1, 48, .inl g.2.1)), (tg0, .inr (4, [.ref tg1, .ref tg2, .int q1.2.2.1, .int q1.2.2.2.1, .int q1.2.2.2.2.1, .int q1.2.2.2.2.2.1, .int q1.2.2.2.2.2.2.1, .int q1.2.2.2.2.2.2.2])), (tg1, .inl (G.2.1, 48, .inl q1.1)), (tg2, .inl (G.2.1, 48, .inl q1.2.1))]) := hD
        obtain rfl := Option.some.inj hp
        exact hfin [(h0, .inr (1, [.ref h1, .int ((ho + (1 : Int32)) - (ho + (1 : Int32)) / (14 : Int32) * (14 : Int32)), .int hs])), (h1, .inl (G.2.2.2.2, 14, .inr (.inr (.inr (.inr hf))))), (g0, .inr (4, [.ref g1, .ref g2, .int g.2.2.1, .int g.2.2.2.1, .int g.2.2.2.2.1, .int g.2.2.2.2.2.1, .int g.2.2.2.2.2.2.1, .int g.2.2.2.2.2.2.2])), (g1, .inl (G.2.1, 48, .inl g.1)), (g2, .inl (G.2.1, 48, .inl g.2.1)), (tg0, .inr (4, [.ref tg1, .ref tg2, .int q1.2.2.1, .int q1.2.2.2.1, .int q1.2.2.2.2.1, .int q1.2.2.2.2.2.1, .int q1.2.2.2.2.2.2.1, .int q1.2.2.2.2.2.2.2])), (tg1, .inl (G.2.1, 48, .inl q1.1)), (tg2, .inl (G.2.1, 48, .inl q1.2.1))] H locs _ 0 0 ls rfl hP hD hS dX1_remember_94 (Nat.le_of_ble_eq_true rfl) (Nat.le_of_ble_eq_true rfl)
      · replace hp := fl_f hc hp
        refine lv_aload_n hx hb dX1_remember_68 rfl (lv_at hl 1 rfl) ?_
        refine lv_dup hx hb dX1_remember_69 rfl ?_
        refine va_get (D := G.1) (ci := 1) (v := .int hs) (C := RX1) (T := TX1) (N := 3) hx hb hts iX1 hown hK.1 hP 0 rfl rfl 2 (by decide) (hts (.fieldLink RX1 21 "SongChoir$History" "states" "I") (List.mem_of_getElem? (i := 2) rfl)) (fun _ h9 => h9) rfl dX1_remember_70 ?_
        refine lv_iconst (v := (1 : Int32)) hx hb dX1_remember_73 (by decide) ?_
        refine lv_iadd hx hb dX1_remember_74 ?_
        refine va_put (D := G.1) (ci := 1) (v := .int (hs + (1 : Int32))) (ty := .int) (C := RX1) (T := TX1) (N := 3) hx hb hts iX1 tyX1 tyX1_ok nmX1 hown hK.1 hP hD hS 0 rfl rfl 2 (by decide) (hts (.fieldLink RX1 21 "SongChoir$History" "states" "I") (List.mem_of_getElem? (i := 2) rfl)) (fun _ h9 => h9) rfl (by decide +kernel) rfl rfl (Nat.le_of_ble_eq_true rfl) dX1_remember_75 (fun H locs hP hD hS => ?_)
        have hP : va_P G.1 vwCl ([(h0, .inr (1, [.ref h1, .int ho, .int (hs + (1 : Int32))])), (h1, .inl (G.2.2.2.2, 14, .inr (.inr (.inr (.inr hf))))), (g0, .inr (4, [.ref g1, .ref g2, .int g.2.2.1, .int g.2.2.2.1, .int g.2.2.2.2.1, .int g.2.2.2.2.2.1, .int g.2.2.2.2.2.2.1, .int g.2.2.2.2.2.2.2])), (g1, .inl (G.2.1, 48, .inl g.1)), (g2, .inl (G.2.1, 48, .inl g.2.1)), (tg0, .inr (4, [.ref tg1, .ref tg2, .int q1.2.2.1, .int q1.2.2.2.1, .int q1.2.2.2.2.1, .int q1.2.2.2.2.2.1, .int q1.2.2.2.2.2.2.1, .int q1.2.2.2.2.2.2.2])), (tg1, .inl (G.2.1, 48, .inl q1.1)), (tg2, .inl (G.2.1, 48, .inl q1.2.1))]) H := hP
        have hD : va_D A ([(h0, .inr (1, [.ref h1, .int ho, .int (hs + (1 : Int32))])), (h1, .inl (G.2.2.2.2, 14, .inr (.inr (.inr (.inr hf))))), (g0, .inr (4, [.ref g1, .ref g2, .int g.2.2.1, .int g.2.2.2.1, .int g.2.2.2.2.1, .int g.2.2.2.2.2.1, .int g.2.2.2.2.2.2.1, .int g.2.2.2.2.2.2.2])), (g1, .inl (G.2.1, 48, .inl g.1)), (g2, .inl (G.2.1, 48, .inl g.2.1)), (tg0, .inr (4, [.ref tg1, .ref tg2, .int q1.2.2.1, .int q1.2.2.2.1, .int q1.2.2.2.2.1, .int q1.2.2.2.2.2.1, .int q1.2.2.2.2.2.2.1, .int q1.2.2.2.2.2.2.2])), (tg1, .inl (G.2.1, 48, .inl q1.1)), (tg2, .inl (G.2.1, 48, .inl q1.2.1))]) := hD
        refine lv_goto (tgt := 94) hx hb dX1_remember_78 (by decide) ?_
        obtain rfl := Option.some.inj hp
        exact hfin [(h0, .inr (1, [.ref h1, .int ho, .int (hs + (1 : Int32))])), (h1, .inl (G.2.2.2.2, 14, .inr (.inr (.inr (.inr hf))))), (g0, .inr (4, [.ref g1, .ref g2, .int g.2.2.1, .int g.2.2.2.1, .int g.2.2.2.2.1, .int g.2.2.2.2.2.1, .int g.2.2.2.2.2.2.1, .int g.2.2.2.2.2.2.2])), (g1, .inl (G.2.1, 48, .inl g.1)), (g2, .inl (G.2.1, 48, .inl g.2.1)), (tg0, .inr (4, [.ref tg1, .ref tg2, .int q1.2.2.1, .int q1.2.2.2.1, .int q1.2.2.2.2.1, .int q1.2.2.2.2.2.1, .int q1.2.2.2.2.2.2.1, .int q1.2.2.2.2.2.2.2])), (tg1, .inl (G.2.1, 48, .inl q1.1)), (tg2, .inl (G.2.1, 48, .inl q1.2.1))] H locs _ 0 0 ls rfl hP hD hS dX1_remember_94 (Nat.le_of_ble_eq_true rfl) (Nat.le_of_ble_eq_true rfl)
    · replace hp := fl_f hc hp
      cases hp

noncomputable def P_Hi_takeN (hs : Int32) : Option Unit := if hs = 0 then some () else none
set_option maxHeartbeats 4000000 in
set_option maxRecDepth 100000 in
theorem c_Hi_takeN (l : Launch) (G : fl_G) (h0 h1 : Nat) (ho : Int32) (hs : Int32) {r : Unit} (hp0 : P_Hi_takeN hs = some r) : fl_ma l yX1_takeLast wsX1_takeLast 0 0 0 0 G [.ref h0] [(h0, .inr (1, [.ref h1, .int ho, .int hs]))] (some (.null)) (fun w => w = [(h0, .inr (1, [.ref h1, .int ho, .int hs]))]) := by
  refine fl_mar_in cX1_takeLast 2 "SongChoir$Song" RX1 (by decide) rfl rfl (Nat.le_of_ble_eq_true rfl) (Or.inl rfl) ?_
  intro p e s m args below meth c ls A Q H locs C0 hK hP hD hS hA hl hname hfin
  obtain ⟨hx, hb, hml, hown, hts⟩ := id C0
  have iX1 : ∀ w ∈ u_ws RX1 TX1 3, w ∈ wsX1_takeLast := fun _ h => List.mem_cons_of_mem _ (List.mem_append_right _ h)
  have hl : lv_has ls 2 [(0, .ref h0)] := hl
  have hp := hp0
  unfold P_Hi_takeN at hp
  refine lv_aload_n hx hb dX1_takeLast_0 rfl (lv_at hl 0 rfl) ?_
  refine va_get (D := G.1) (ci := 1) (v := .int hs) (C := RX1) (T := TX1) (N := 3) hx hb hts iX1 hown hK.1 hP 0 rfl rfl 2 (by decide) (hts (.fieldLink RX1 21 "SongChoir$History" "states" "I") (List.mem_of_getElem? (i := 1) rfl)) (fun _ h9 => h9) rfl dX1_takeLast_1 ?_
  refine lv_if_ne (tgt := 9) hx hb dX1_takeLast_4 (by decide) (fun hc => ?_) (fun hc => ?_)
  · replace hp := fl_f hc hp
    cases hp
  · replace hp := fl_t hc hp
    refine lv_null hx hb dX1_takeLast_7 ?_
    obtain rfl := Option.some.inj hp
    exact hfin [(h0, .inr (1, [.ref h1, .int ho, .int hs]))] H locs _ 0 0 ls rfl hP hD hS dX1_takeLast_8 (Nat.le_of_ble_eq_true rfl) (Nat.le_of_ble_eq_true rfl)

noncomputable def P_Hi_takeS (ho : Int32) (hs : Int32) : Option Int32 := if hs = 0 then none else if ((ho + (hs - (1 : Int32))) - (ho + (hs - (1 : Int32))) / (14 : Int32) * (14 : Int32)) < 0 then none else if (nI 14) ≤ ((ho + (hs - (1 : Int32))) - (ho + (hs - (1 : Int32))) / (14 : Int32) * (14 : Int32)) then none else fl_ck ((ho + (hs - (1 : Int32))) - (ho + (hs - (1 : Int32))) / (14 : Int32) * (14 : Int32)) 14 (some (hs - (1 : Int32)))
set_option maxHeartbeats 4000000 in
set_option maxRecDepth 100000 in
theorem c_Hi_takeS (l : Launch) (G : fl_G) (h0 h1 : Nat) (hf : Nat → Option Nat) (tg0 : Nat) (ho : Int32) (hs : Int32) (hq0 : hf ((ho + (hs - (1 : Int32))) - (ho + (hs - (1 : Int32))) / (14 : Int32) * (14 : Int32)).toNatClampNeg = some tg0) {r : Int32} (hp0 : P_Hi_takeS ho hs = some r) : fl_ma l yX1_takeLast wsX1_takeLast 0 0 0 0 G [.ref h0] [(h0, .inr (1, [.ref h1, .int ho, .int hs])), (h1, .inl (G.2.2.2.2, 14, .inr (.inr (.inr (.inr hf)))))] (some (.ref tg0)) (fun w => w = [(h0, .inr (1, [.ref h1, .int ho, .int r])), (h1, .inl (G.2.2.2.2, 14, .inr (.inr (.inr (.inr hf)))))]) := by
  refine fl_mar_in cX1_takeLast 2 "SongChoir$Song" RX1 (by decide) rfl rfl (Nat.le_of_ble_eq_true rfl) (Or.inr ⟨_, rfl⟩) ?_
  intro p e s m args below meth c ls A Q H locs C0 hK hP hD hS hA hl hname hfin
  obtain ⟨hx, hb, hml, hown, hts⟩ := id C0
  have iX1 : ∀ w ∈ u_ws RX1 TX1 3, w ∈ wsX1_takeLast := fun _ h => List.mem_cons_of_mem _ (List.mem_append_right _ h)
  have hl : lv_has ls 2 [(0, .ref h0)] := hl
  have hp := hp0
  unfold P_Hi_takeS at hp
  refine lv_aload_n hx hb dX1_takeLast_0 rfl (lv_at hl 0 rfl) ?_
  refine va_get (D := G.1) (ci := 1) (v := .int hs) (C := RX1) (T := TX1) (N := 3) hx hb hts iX1 hown hK.1 hP 0 rfl rfl 2 (by decide) (hts (.fieldLink RX1 21 "SongChoir$History" "states" "I") (List.mem_of_getElem? (i := 1) rfl)) (fun _ h9 => h9) rfl dX1_takeLast_1 ?_
  refine lv_if_ne (tgt := 9) hx hb dX1_takeLast_4 (by decide) (fun hc => ?_) (fun hc => ?_)
  · replace hp := fl_f hc hp
    refine lv_aload_n hx hb dX1_takeLast_9 rfl (lv_at hl 0 rfl) ?_
    refine lv_dup hx hb dX1_takeLast_10 rfl ?_
    refine va_get (D := G.1) (ci := 1) (v := .int hs) (C := RX1) (T := TX1) (N := 3) hx hb hts iX1 hown hK.1 hP 0 rfl rfl 2 (by decide) (hts (.fieldLink RX1 21 "SongChoir$History" "states" "I") (List.mem_of_getElem? (i := 1) rfl)) (fun _ h9 => h9) rfl dX1_takeLast_11 ?_
    refine lv_iconst (v := (1 : Int32)) hx hb dX1_takeLast_14 (by decide) ?_
    refine lv_isub hx hb dX1_takeLast_15 ?_
    refine va_put (D := G.1) (ci := 1) (v := .int (hs - (1 : Int32))) (ty := .int) (C := RX1) (T := TX1) (N := 3) hx hb hts iX1 tyX1 tyX1_ok nmX1 hown hK.1 hP hD hS 0 rfl rfl 2 (by decide) (hts (.fieldLink RX1 21 "SongChoir$History" "states" "I") (List.mem_of_getElem? (i := 1) rfl)) (fun _ h9 => h9) rfl (by decide +kernel) rfl rfl (Nat.le_of_ble_eq_true rfl) dX1_takeLast_16 (fun H locs hP hD hS => ?_)
    have hP : va_P G.1 vwCl ([(h0, .inr (1, [.ref h1, .int ho, .int (hs - (1 : Int32))])), (h1, .inl (G.2.2.2.2, 14, .inr (.inr (.inr (.inr hf)))))]) H := hP
    have hD : va_D A ([(h0, .inr (1, [.ref h1, .int ho, .int (hs - (1 : Int32))])), (h1, .inl (G.2.2.2.2, 14, .inr (.inr (.inr (.inr hf)))))]) := hD
    refine lv_aload_n hx hb dX1_takeLast_19 rfl (lv_at hl 0 rfl) ?_
    refine va_get (D := G.1) (ci := 1) (v := .int ho) (C := RX1) (T := TX1) (N := 3) hx hb hts iX1 hown hK.1 hP 0 rfl rfl 1 (by decide) (hts (.fieldLink RX1 17 "SongChoir$History" "oldest" "I") (List.mem_of_getElem? (i := 2) rfl)) (fun _ h9 => h9) rfl dX1_takeLast_20 ?_
    refine lv_aload_n hx hb dX1_takeLast_23 rfl (lv_at hl 0 rfl) ?_
    refine va_get (D := G.1) (ci := 1) (v := .int (hs - (1 : Int32))) (C := RX1) (T := TX1) (N := 3) hx hb hts iX1 hown hK.1 hP 0 rfl rfl 2 (by decide) (hts (.fieldLink RX1 21 "SongChoir$History" "states" "I") (List.mem_of_getElem? (i := 1) rfl)) (fun _ h9 => h9) rfl dX1_takeLast_24 ?_
    refine lv_iadd hx hb dX1_takeLast_27 ?_
    refine lv_bipush (v := (14 : Int32)) hx hb dX1_takeLast_28 (by decide) ?_
    refine lv_irem hx hb dX1_takeLast_30 (by decide) ?_
    refine lv_istore_n (lv' := [(1, .int ((ho + (hs - (1 : Int32))) - (ho + (hs - (1 : Int32))) / (14 : Int32) * (14 : Int32))), (0, .ref h0)]) hx hb dX1_takeLast_31 rfl hl (by decide) rfl (fun ls hl => ?_)
    refine lv_iload_n hx hb dX1_takeLast_32 rfl (lv_at hl 0 rfl) ?_
    refine lv_if_lt (tgt := 54) hx hb dX1_takeLast_33 (by decide) (fun hc => ?_) (fun hc => ?_)
    · replace hp := fl_t hc hp
      cases hp
    · replace hp := fl_f hc hp
      refine lv_iload_n hx hb dX1_takeLast_36 rfl (lv_at hl 0 rfl) ?_
      refine lv_aload_n hx hb dX1_takeLast_37 rfl (lv_at hl 1 rfl) ?_
      refine va_get (D := G.1) (ci := 1) (v := .ref h1) (C := RX1) (T := TX1) (N := 3) hx hb hts iX1 hown hK.1 hP 0 rfl rfl 0 (by decide) (hts (.fieldLink RX1 11 "SongChoir$History" "ring" "[LSongChoir$Song;") (List.mem_of_getElem? (i := 3) rfl)) (fun _ h9 => h9) rfl dX1_takeLast_38 ?_
      refine va_alen (v := (nI 14)) hx hb hK.1 hP 1 3 rfl rfl rfl dX1_takeLast_41 ?_
      refine lv_icmp_ge (tgt := 54) hx hb dX1_takeLast_42 (by decide) (fun hc => ?_) (fun hc => ?_)
      · replace hp := fl_t hc hp
        cases hp
      · replace hp := fl_f hc hp
        refine lv_aload_n hx hb dX1_takeLast_45 rfl (lv_at hl 1 rfl) ?_
        refine va_get (D := G.1) (ci := 1) (v := .ref h1) (C := RX1) (T := TX1) (N := 3) hx hb hts iX1 hown hK.1 hP 0 rfl rfl 0 (by decide) (hts (.fieldLink RX1 11 "SongChoir$History" "ring" "[LSongChoir$Song;") (List.mem_of_getElem? (i := 3) rfl)) (fun _ h9 => h9) rfl dX1_takeLast_46 ?_
        refine lv_iload_n hx hb dX1_takeLast_49 rfl (lv_at hl 0 rfl) ?_
        obtain ⟨hck, hp⟩ := fl_ck_of hp
        refine va_aldq hx hb hK.1 hP 1 3 rfl rfl hck dX1_takeLast_50 ?_
        rw [show va_rf (hf ((ho + (hs - (1 : Int32))) - (ho + (hs - (1 : Int32))) / (14 : Int32) * (14 : Int32)).toNatClampNeg) = Value.ref tg0 by rw [hq0]; rfl]
        refine lv_goto (tgt := 55) hx hb dX1_takeLast_51 (by decide) ?_
        obtain rfl := Option.some.inj hp
        exact hfin [(h0, .inr (1, [.ref h1, .int ho, .int (hs - (1 : Int32))])), (h1, .inl (G.2.2.2.2, 14, .inr (.inr (.inr (.inr hf)))))] H locs _ 0 0 ls rfl hP hD hS dX1_takeLast_55 (Nat.le_of_ble_eq_true rfl) (Nat.le_of_ble_eq_true rfl)
  · replace hp := fl_t hc hp
    cases hp

noncomputable def P_Hi_empty (hs : Int32) : Option Int32 := some (0 : Int32)
set_option maxHeartbeats 4000000 in
set_option maxRecDepth 100000 in
theorem c_Hi_empty (l : Launch) (G : fl_G) (h0 h1 : Nat) (ho : Int32) (hs : Int32) {r : Int32} (hp0 : P_Hi_empty hs = some r) : fl_ma l yX1_empty wsX1_empty 0 0 0 0 G [.ref h0] [(h0, .inr (1, [.ref h1, .int ho, .int hs]))] none (fun w => w = [(h0, .inr (1, [.ref h1, .int ho, .int r]))]) := by
  refine fl_mav_in cX1_empty 1 RX1 (by decide) rfl rfl (Nat.le_of_ble_eq_true rfl) ?_
  intro p e s m args below meth c ls A Q H locs C0 hK hP hD hS hA hl hname hfin
  obtain ⟨hx, hb, hml, hown, hts⟩ := id C0
  have iX1 : ∀ w ∈ u_ws RX1 TX1 3, w ∈ wsX1_empty := fun _ h => List.mem_cons_of_mem _ (List.mem_append_right _ h)
  have hl : lv_has ls 1 [(0, .ref h0)] := hl
  have hp := hp0
  unfold P_Hi_empty at hp
  refine lv_aload_n hx hb dX1_empty_0 rfl (lv_at hl 0 rfl) ?_
  refine lv_iconst (v := (0 : Int32)) hx hb dX1_empty_1 (by decide) ?_
  refine va_put (D := G.1) (ci := 1) (v := .int (0 : Int32)) (ty := .int) (C := RX1) (T := TX1) (N := 3) hx hb hts iX1 tyX1 tyX1_ok nmX1 hown hK.1 hP hD hS 0 rfl rfl 2 (by decide) (hts (.fieldLink RX1 21 "SongChoir$History" "states" "I") (List.mem_of_getElem? (i := 1) rfl)) (fun _ h9 => h9) rfl (by decide +kernel) rfl rfl (Nat.le_of_ble_eq_true rfl) dX1_empty_2 (fun H locs hP hD hS => ?_)
  have hP : va_P G.1 vwCl ([(h0, .inr (1, [.ref h1, .int ho, .int (0 : Int32)]))]) H := hP
  have hD : va_D A ([(h0, .inr (1, [.ref h1, .int ho, .int (0 : Int32)]))]) := hD
  obtain rfl := Option.some.inj hp
  exact hfin [(h0, .inr (1, [.ref h1, .int ho, .int (0 : Int32)]))] H locs _ 0 0 ls rfl hP hD hS dX1_empty_5 (Nat.le_of_ble_eq_true rfl) (Nat.le_of_ble_eq_true rfl)

