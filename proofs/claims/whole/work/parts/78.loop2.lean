/-! THE LAW'S LOOP -/
set_option maxHeartbeats 4000000 in
theorem ls_loop {p : Program} {l : Launch} {e : Env} {s : State} {m : MethodId} {args : Array Value} {below : List Frame} {meth : Method} {c : Code} {A : Nat → Prop} {Q : State → Prop} {b L : Nat} {xs : Nat → Int32} (hfl : l.stackTraces = false) {G : fl_G} {sa : Nat → Nat} (C0 : CallFix p m c cL_law 7 s args wsL_law RL) (hX : va_X b L xs s s.heap) (hbl : b < s.heap.size) (hbA : ¬ A b) (hA : ∀ q : Nat, s.heap.size ≤ q → A q) (hK : fl_K G s) (hE : fl_E sa s) (hZ : fl_Z A s s.heap) (hL : L ≤ 2048) (ad : Nat → Nat)
    (kend : ∀ (H : Heap) (locs : List Loc) (ls : Array Slot) (cells slots : Nat), va_S A s.heap H locs → cells ≤ 2000 → slots ≤ 60000 → W p l e room_1 s m args below meth c H locs cells slots Q (F0 m 1447 ls [])) :
    ∀ (n i : Nat) (H : Heap) (locs : List Loc) (ls : Array Slot) (cells slots : Nat), L ≤ i + 4 * n → i ≤ L → cells + 3 * n ≤ 2000 → slots + 104 * n ≤ 60000 → ls_I G A ad H → va_S A s.heap H locs → lv_has ls 7 [(0, .ref b), (1, .ref (ad 0)), (2, .ref (ad 32)), (3, .ref (ad 43)), (4, .int (nI i))] → W p l e room_1 s m args below meth c H locs cells slots Q (F0 m 23 ls []) := by
  obtain ⟨hx, hb, hml, hown, hts⟩ := id C0
  have hcr : ∀ n, n ≤ 2000 → n ≤ room_1.cells := fun n h => Nat.le_trans h (Nat.le_of_ble_eq_true rfl)
  have hsr : ∀ n, n ≤ 60000 → n ≤ room_1.slots := fun n h => Nat.le_trans h (Nat.le_of_ble_eq_true rfl)
  intro n
  induction n with
  | zero =>
    intro i H locs ls cells slots hn hi hc hs hI hS hl
    refine lv_iload hx hb dL_law_23 (lv_at hl 4 rfl) ?_
    refine lv_aload_n hx hb dL_law_25 rfl (lv_at hl 0 rfl) ?_
    refine va_slen hx hb hX hbl hbA hS dL_law_26 ?_
    refine lv_iconst (v := (4 : Int32)) hx hb dL_law_27 (by decide) ?_
    refine lv_isub hx hb dL_law_28 ?_
    refine lv_icmp_gt (tgt := 1447) hx hb dL_law_29 (by decide) (fun _ => kend H locs ls cells slots hS (by omega) (by omega)) (fun hc9 => ?_)
    exfalso
    apply hc9
    rw [Int32.lt_iff_toInt_lt]
    have e1 : (Int32.ofNat L - (4 : Int32)).toInt = (L : Int) - 4 := pk_sub_toInt (a := L) (b := 4) (by omega) (by decide)
    rw [e1, nI_toInt (by omega)]
    omega
  | succ n ih =>
    intro i H locs ls cells slots hn hi hc hs hI hS hl
    refine lv_iload hx hb dL_law_23 (lv_at hl 4 rfl) ?_
    refine lv_aload_n hx hb dL_law_25 rfl (lv_at hl 0 rfl) ?_
    refine va_slen hx hb hX hbl hbA hS dL_law_26 ?_
    refine lv_iconst (v := (4 : Int32)) hx hb dL_law_27 (by decide) ?_
    refine lv_isub hx hb dL_law_28 ?_
    refine lv_icmp_gt (tgt := 1447) hx hb dL_law_29 (by decide) (fun _ => kend H locs ls cells slots hS (by omega) (by omega)) (fun hc9 => ?_)
    have hi4 : i + 4 ≤ L := by
      have e1 : (Int32.ofNat L - (4 : Int32)).toInt = (L : Int) - 4 := pk_sub_toInt (a := L) (b := 4) (by omega) (by decide)
      rw [Int32.lt_iff_toInt_lt, e1, nI_toInt (by omega)] at hc9
      omega
    refine lv_aload_n hx hb dL_law_32 rfl (lv_at hl 0 rfl) ?_
    refine lv_iload hx hb dL_law_33 (lv_at hl 4 rfl) ?_
    refine va_sld hx hb hX hbl hbA hS (vp_in_nI (show i < L by omega) (by omega)) dL_law_35 ?_
    refine lv_bipush (v := (31 : Int32)) hx hb dL_law_36 (by decide) ?_
    refine lv_iand hx hb dL_law_38 ?_
    have hi1 : vp_in (nI i + (1 : Int32)) L := by rw [nI_1]; exact vp_in_nI (by omega) (by omega)
    have hi2 : vp_in (nI i + (2 : Int32)) L := by rw [show nI i + (2 : Int32) = nI (i + 2) from nI_add i 2]; exact vp_in_nI (by omega) (by omega)
    have hi3 : vp_in (nI i + (3 : Int32)) L := by rw [show nI i + (3 : Int32) = nI (i + 3) from nI_add i 3]; exact vp_in_nI (by omega) (by omega)
    have kk : ∀ (H : Heap) (locs : List Loc) (ls : Array Slot), ls_I G A ad H → va_S A s.heap H locs → lv_has ls 7 [(0, .ref b), (1, .ref (ad 0)), (2, .ref (ad 32)), (3, .ref (ad 43)), (4, .int (nI i))] → W p l e room_1 s m args below meth c H locs (cells + 3) (slots + 104) Q (F0 m 1441 ls []) := by
      intro H locs ls hI hS hl
      refine lv_iinc (v := nI (i + 4)) (lv' := [(4, .int (nI (i + 4))), (0, .ref b), (1, .ref (ad 0)), (2, .ref (ad 32)), (3, .ref (ad 43))]) hx hb dL_law_1441 hl (k := 4) rfl (nI_add i 4) (by decide) rfl (fun ls hl => ?_)
      refine lv_goto (tgt := 23) hx hb dL_law_1444 (by decide) ?_
      exact ih (i + 4) H locs ls (cells + 3) (slots + 104) (by omega) (by omega) (by omega) (by omega) hI hS (lv_sub hl [1, 2, 3, 4, 0] rfl)
    obtain ⟨j, hj, ej⟩ := pk_andE (xs (nI i).toNatClampNeg) (m := (31 : Int32)) 5 (by decide)
    rw [ej]
    have hj : j < 32 := hj
    by_cases hj25 : 25 ≤ j
    · refine lv_tableOut (tgt := 1441) hx hb dL_law_39 (Or.inr ?_) (by decide) ?_
      · rw [nI_toInt (by omega)]
        omega
      · refine W.widen (k := cells + 3) (n := slots + 104) (by omega) (by omega) ?_
        exact kk H locs ls hI hS hl
    · rcases (show j = 0 ∨ j = 1 ∨ j = 2 ∨ j = 3 ∨ j = 4 ∨ j = 5 ∨ j = 6 ∨ j = 7 ∨ j = 8 ∨ j = 9 ∨ j = 10 ∨ j = 11 ∨ j = 12 ∨ j = 13 ∨ j = 14 ∨ j = 15 ∨ j = 16 ∨ j = 17 ∨ j = 18 ∨ j = 19 ∨ j = 20 ∨ j = 21 ∨ j = 22 ∨ j = 23 ∨ j = 24 by omega) with rfl | rfl | rfl | rfl | rfl | rfl | rfl | rfl | rfl | rfl | rfl | rfl | rfl | rfl | rfl | rfl | rfl | rfl | rfl | rfl | rfl | rfl | rfl | rfl | rfl
      · refine lv_tableIn (off := 113) (tgt := 152) hx hb dL_law_39 (by decide) (by decide) (by decide) (by decide) ?_
        exact ls_c0 hfl C0 hX hbl hbA hA hK hE hZ hS ad hI hi1 rfl hi2 rfl hi3 rfl (hcr _ (by omega)) (hsr _ (by omega)) hl kk
      · refine lv_tableIn (off := 169) (tgt := 208) hx hb dL_law_39 (by decide) (by decide) (by decide) (by decide) ?_
        exact ls_c1 hfl C0 hX hbl hbA hA hK hE hZ hS ad hI hi1 rfl hi2 rfl hi3 rfl (hcr _ (by omega)) (hsr _ (by omega)) hl kk
      · refine lv_tableIn (off := 182) (tgt := 221) hx hb dL_law_39 (by decide) (by decide) (by decide) (by decide) ?_
        exact ls_c2 hfl C0 hX hbl hbA hA hK hE hZ hS ad hI hi1 rfl hi2 rfl hi3 rfl (hcr _ (by omega)) (hsr _ (by omega)) hl kk
      · refine lv_tableIn (off := 195) (tgt := 234) hx hb dL_law_39 (by decide) (by decide) (by decide) (by decide) ?_
        exact ls_c3 hfl C0 hX hbl hbA hA hK hE hZ hS ad hI hi1 rfl hi2 rfl hi3 rfl (hcr _ (by omega)) (hsr _ (by omega)) hl kk
      · refine lv_tableIn (off := 251) (tgt := 290) hx hb dL_law_39 (by decide) (by decide) (by decide) (by decide) ?_
        exact ls_c4 hfl C0 hX hbl hbA hA hK hE hZ hS ad hI hi1 rfl hi2 rfl hi3 rfl (hcr _ (by omega)) (hsr _ (by omega)) hl kk
      · refine lv_tableIn (off := 319) (tgt := 358) hx hb dL_law_39 (by decide) (by decide) (by decide) (by decide) ?_
        exact ls_c5 hfl C0 hX hbl hbA hA hK hE hZ hS ad hI hi1 rfl hi2 rfl hi3 rfl (hcr _ (by omega)) (hsr _ (by omega)) hl kk
      · refine lv_tableIn (off := 375) (tgt := 414) hx hb dL_law_39 (by decide) (by decide) (by decide) (by decide) ?_
        exact ls_c6 hfl C0 hX hbl hbA hA hK hE hZ hS ad hI hi1 rfl hi2 rfl hi3 rfl (hcr _ (by omega)) (hsr _ (by omega)) hl kk
      · refine lv_tableIn (off := 443) (tgt := 482) hx hb dL_law_39 (by decide) (by decide) (by decide) (by decide) ?_
        exact ls_c7 hfl C0 hX hbl hbA hA hK hE hZ hS ad hI hi1 rfl hi2 rfl hi3 rfl (hcr _ (by omega)) (hsr _ (by omega)) hl kk
      · refine lv_tableIn (off := 511) (tgt := 550) hx hb dL_law_39 (by decide) (by decide) (by decide) (by decide) ?_
        exact ls_c8 hfl C0 hX hbl hbA hA hK hE hZ hS ad hI hi1 rfl hi2 rfl hi3 rfl (hcr _ (by omega)) (hsr _ (by omega)) hl kk
      · refine lv_tableIn (off := 555) (tgt := 594) hx hb dL_law_39 (by decide) (by decide) (by decide) (by decide) ?_
        exact ls_c9 hfl C0 hX hbl hbA hA hK hE hZ hS ad hI hi1 rfl hi2 rfl hi3 rfl (hcr _ (by omega)) (hsr _ (by omega)) hl kk
      · refine lv_tableIn (off := 611) (tgt := 650) hx hb dL_law_39 (by decide) (by decide) (by decide) (by decide) ?_
        exact ls_c10 hfl C0 hX hbl hbA hA hK hE hZ hS ad hI hi1 rfl hi2 rfl hi3 rfl (hcr _ (by omega)) (hsr _ (by omega)) hl kk
      · refine lv_tableIn (off := 655) (tgt := 694) hx hb dL_law_39 (by decide) (by decide) (by decide) (by decide) ?_
        exact ls_c11 hfl C0 hX hbl hbA hA hK hE hZ hS ad hI hi1 rfl hi2 rfl hi3 rfl (hcr _ (by omega)) (hsr _ (by omega)) hl kk
      · refine lv_tableIn (off := 723) (tgt := 762) hx hb dL_law_39 (by decide) (by decide) (by decide) (by decide) ?_
        exact ls_c12 hfl C0 hX hbl hbA hA hK hE hZ hS ad hI hi1 rfl hi2 rfl hi3 rfl (hcr _ (by omega)) (hsr _ (by omega)) hl kk
      · refine lv_tableIn (off := 807) (tgt := 846) hx hb dL_law_39 (by decide) (by decide) (by decide) (by decide) ?_
        exact ls_c13 hfl C0 hX hbl hbA hA hK hE hZ hS ad hI hi1 rfl hi2 rfl hi3 rfl (hcr _ (by omega)) (hsr _ (by omega)) hl kk
      · refine lv_tableIn (off := 851) (tgt := 890) hx hb dL_law_39 (by decide) (by decide) (by decide) (by decide) ?_
        exact ls_c14 hfl C0 hX hbl hbA hA hK hE hZ hS ad hI hi1 rfl hi2 rfl hi3 rfl (hcr _ (by omega)) (hsr _ (by omega)) hl kk
      · refine lv_tableIn (off := 907) (tgt := 946) hx hb dL_law_39 (by decide) (by decide) (by decide) (by decide) ?_
        exact ls_c15 hfl C0 hX hbl hbA hA hK hE hZ hS ad hI hi1 rfl hi2 rfl hi3 rfl (hcr _ (by omega)) (hsr _ (by omega)) hl kk
      · refine lv_tableIn (off := 951) (tgt := 990) hx hb dL_law_39 (by decide) (by decide) (by decide) (by decide) ?_
        exact ls_c16 hfl C0 hX hbl hbA hA hK hE hZ hS ad hI hi1 rfl hi2 rfl hi3 rfl (hcr _ (by omega)) (hsr _ (by omega)) hl kk
      · refine lv_tableIn (off := 1007) (tgt := 1046) hx hb dL_law_39 (by decide) (by decide) (by decide) (by decide) ?_
        exact ls_c17 hfl C0 hX hbl hbA hA hK hE hZ hS ad hI hi1 rfl hi2 rfl hi3 rfl (hcr _ (by omega)) (hsr _ (by omega)) hl kk
      · refine lv_tableIn (off := 1051) (tgt := 1090) hx hb dL_law_39 (by decide) (by decide) (by decide) (by decide) ?_
        exact ls_c18 hfl C0 hX hbl hbA hA hK hE hZ hS ad hI hi1 rfl hi2 rfl hi3 rfl (hcr _ (by omega)) (hsr _ (by omega)) hl kk
      · refine lv_tableIn (off := 1064) (tgt := 1103) hx hb dL_law_39 (by decide) (by decide) (by decide) (by decide) ?_
        exact ls_c19 hfl C0 hX hbl hbA hA hK hE hZ hS ad hI hi1 rfl hi2 rfl hi3 rfl (hcr _ (by omega)) (hsr _ (by omega)) hl kk
      · refine lv_tableIn (off := 1077) (tgt := 1116) hx hb dL_law_39 (by decide) (by decide) (by decide) (by decide) ?_
        exact ls_c20 hfl C0 hX hbl hbA hA hK hE hZ hS ad hI hi1 rfl hi2 rfl hi3 rfl (hcr _ (by omega)) (hsr _ (by omega)) hl kk
      · refine lv_tableIn (off := 1090) (tgt := 1129) hx hb dL_law_39 (by decide) (by decide) (by decide) (by decide) ?_
        exact ls_c21 hfl C0 hX hbl hbA hA hK hE hZ hS ad hI hi1 rfl hi2 rfl hi3 rfl (hcr _ (by omega)) (hsr _ (by omega)) hl kk
      · refine lv_tableIn (off := 1190) (tgt := 1229) hx hb dL_law_39 (by decide) (by decide) (by decide) (by decide) ?_
        exact ls_c22 hfl C0 hX hbl hbA hA hK hE hZ hS ad hI hi1 rfl hi2 rfl hi3 rfl (hcr _ (by omega)) (hsr _ (by omega)) hl kk
      · refine lv_tableIn (off := 1290) (tgt := 1329) hx hb dL_law_39 (by decide) (by decide) (by decide) (by decide) ?_
        exact ls_c23 hfl C0 hX hbl hbA hA hK hE hZ hS ad hI hi1 rfl hi2 rfl hi3 rfl (hcr _ (by omega)) (hsr _ (by omega)) hl kk
      · refine lv_tableIn (off := 1346) (tgt := 1385) hx hb dL_law_39 (by decide) (by decide) (by decide) (by decide) ?_
        exact ls_c24 hfl C0 hX hbl hbA hA hK hE hZ hS ad hI hi1 rfl hi2 rfl hi3 rfl (hcr _ (by omega)) (hsr _ (by omega)) hl kk
