/-! SINGING A VERSE, where only the answer counts -/
theorem pz_singW {ch : fl_Ch} {f od rk be fr : fl_A} {u : fl_Ln} {N V S l : Nat} {c : Nat → Int32} {len : Nat → Nat} (hg : pz_SG ch.1 N V c len) (hgS : ch.1.2.2.2.2.1 = nI S) (hf : pz_SF f N V c len) (hfS : f 2 = nI S) (hO : pz_OK N V S len) (hC : pz_CH ch N S) (hu : u.2 = nI l) (hl1 : 1 ≤ l) (hl : l ≤ 12) (hfr : ∀ i, i < l → fr i = u.1 i) :
    ∃ n ch' od' rk' be' f', n ≤ 48 ∧ P_Ch_addVerse 12 ch u = some (nI n, ch') ∧ P_M_singIn od rk be fr (nI l) f = some (nI n, od', rk', be', f') := by
  have hVN := pz_OK_V hO
  obtain ⟨hN, hsum, hlen, hS1, hS8⟩ := hO
  obtain ⟨k, a, b, hk, e1, ha, hb, hK⟩ := pz_makeRoom hg hsum hN (by omega) hl
  have hd : pz_sum len k ≤ N := by rw [← hsum]; exact pz_sum_mono V hk
  have hVk : V - k ≤ N - pz_sum len k := by
    have := pz_sum_ge (g := len) (a := k) V hk (fun v hv => (hlen v hv).1)
    omega
  have hN48 := hK.1
  obtain ⟨a2, b2, e2, h2a, h2b, h2c, h2d⟩ := pz_addVerse (g := (a, b, nI (N - pz_sum len k), nI (V - k), ch.1.2.2.2.2.1, ch.1.2.2.2.2.2.1 + nI (pz_sum len k), ch.1.2.2.2.2.2.2.1, ch.1.2.2.2.2.2.2.2)) (N := N - pz_sum len k) (V := V - k) (l := l) (c := fun i => c (i + pz_sum len k)) (len := fun v => len (v + k)) (u := u) ⟨rfl, rfl, ha, hb⟩ hu hl (by omega) (by omega)
  dsimp only at e2
  generalize hdd : pz_sum len k = d at *
  have hN' : N - d + l ≤ 48 := by omega
  -- the new song
  have hcA : ∀ i, i < N - d + l → a2 i = if i + d < N then c (i + d) else u.1 (i + d - N) := by
    intro i hi
    by_cases q : i + d < N
    · rw [if_pos q, h2a i (by omega)]
    · rw [if_neg q]
      have := h2b (i - (N - d)) (by omega)
      rw [show N - d + (i - (N - d)) = i by omega] at this
      have e9 : i - (N - d) = i + d - N := pz_sub9 hd q
      rw [this, e9]
  have hlA : ∀ v, v < V - k + 1 → b2 v = nI (if v + k < V then len (v + k) else l) := by
    intro v hv
    by_cases q : v + k < V
    · rw [if_pos q, h2c v (by omega)]
    · rw [if_neg q, show v = V - k by omega, h2d]
  obtain ⟨o', e3, ho⟩ := pz_arrange (o := ch.2.1) (g := (a2, b2, nI (N - d + l), nI (V - k + 1), ch.1.2.2.2.2.1, ch.1.2.2.2.2.2.1 + nI d, ch.1.2.2.2.2.2.2.1, ch.1.2.2.2.2.2.2.2 + 1)) (N := N - d + l) hN' rfl
  have hkp : ∀ i, i < N → pz_kp N S (pz_rk ch.1.1 N i) < 2 ^ 31 := fun i hi => pz_kp_bound hS1 hS8 (pz_rk_lt hi)
  obtain ⟨ke, kbf, e4, hke⟩ := pz_handOver (ch := ((a2, b2, nI (N - d + l), nI (V - k + 1), ch.1.2.2.2.2.1, ch.1.2.2.2.2.2.1 + nI d, ch.1.2.2.2.2.2.2.1, ch.1.2.2.2.2.2.2.2 + 1), o', ch.2.2.1, ch.2.2.2)) (N := N - d + l) (S := S) (d := d) (M := N) hN' hS1 hS8 rfl hgS ho (fun i => pz_kp N S (pz_rk ch.1.1 N i)) hN hd (by omega) (fun i hi => ⟨hC.2 i hi, hkp i hi⟩)
  dsimp only at e4 hke ho
  -- the component's answer
  have hcomp : P_Ch_addVerse 12 ch u = some (nI (pz_cnt (fun i => decide (pz_kp N S (pz_rk ch.1.1 N i) ≠ pz_kp (N - d + l) S (pz_rk a2 (N - d + l) (i - d)))) d N), ((a2, b2, nI (N - d + l), nI (V - k + 1), ch.1.2.2.2.2.1, ch.1.2.2.2.2.2.1 + nI d, ch.1.2.2.2.2.2.2.1 + nI (pz_cnt (fun i => decide (pz_kp N S (pz_rk ch.1.1 N i) ≠ pz_kp (N - d + l) S (pz_rk a2 (N - d + l) (i - d)))) d N), ch.1.2.2.2.2.2.2.2 + 1), o', ke, kbf)) := by
    unfold P_Ch_addVerse
    rw [hu, e1, fl_bd_some, e2, fl_bd_some, e3, fl_bd_some, pz_age0, hg.1, e4, fl_bd_some]
  generalize hcnt : pz_cnt (fun i => decide (pz_kp N S (pz_rk ch.1.1 N i) ≠ pz_kp (N - d + l) S (pz_rk a2 (N - d + l) (i - d)))) d N = cnt at hcomp
  -- the model
  have hcf : ∀ i, i < N → pz_c f i = ch.1.1 i := fun i hi => by rw [hg.2.2.1 i hi]; exact hf.2.2.1 i hi
  obtain ⟨od1, rk1, be1, e5, hbe⟩ := pz_watch (od := od) (rk := rk) (be := be) (f := f) (N := N) (S := S) (by omega) hS1 hS8 hf.1 hfS
  obtain ⟨q2, e6, h6a, h6b⟩ := pz_copy (A := 12) (B := 126) (s := 0) (d := 66 + N) (n := l) (f := fr) (g := f) (by decide) (by decide) (by omega) (by omega)
  have z0 : q2 0 = nI N := by rw [h6b 0 (by omega), hf.1]
  have z1 : q2 1 = nI V := by rw [h6b 1 (by omega), hf.2.1]
  have hmod := pz_M_drops (od := od1) (rk := rk1) (be := be1) (fr := fr) (fs := nI l) (v2 := nI N) (v3 := f 3) (f := upd (upd (upd (upd q2 (6 + V) (nI l)) 1 (nI (V + 1))) 0 (nI (N + l))) 5 (f 5 + 1)) (N := N + l) (V := V + 1) (c := fun i => if i < N then c i else u.1 (i - N)) (len := fun v => if v < V then len v else l) (R := fun x => ∃ od' rk' f', x = (nI cnt, od', rk', be1, f') ∧ pz_SF f' (N - d + l) (V - k + 1) a2 (fun v => if v + k < V then len (v + k) else l) ∧ f' 2 = nI S ∧ f' 3 = f 3 + nI d ∧ f' 4 = f 4 + nI cnt ∧ f' 5 = f 5 + 1)
    ⟨by rw [pz_updN (by decide), pz_updS], by rw [pz_updN (by decide), pz_updN (by decide), pz_updS], fun i hi => by
      rw [pz_updN (by omega), pz_updN (by omega), pz_updN (by omega), pz_updN (by omega)]
      show q2 (66 + i) = if i < N then c i else u.1 (i - N)
      by_cases q : i < N
      · rw [if_pos q, h6b _ (by omega)]; exact hf.2.2.1 i q
      · rw [if_neg q, show 66 + i = 66 + N + (i - N) by omega, h6a _ (by omega), Nat.zero_add]; exact hfr _ (by omega), fun v hv => by
      rw [pz_updN (by omega), pz_updN (by omega), pz_updN (by omega)]
      show upd q2 (6 + V) (nI l) (6 + v) = nI (if v < V then len v else l)
      by_cases q : v < V
      · rw [if_pos q, pz_updN (by omega), h6b _ (by omega)]; exact hf.2.2.2 v q
      · rw [if_neg q, show v = V by omega, pz_updS]⟩
    (by rw [pz_sum, pz_sum_congr (g := fun v => if v < V then len v else l) (h := len) V (fun v hv => if_pos hv), hsum, if_neg (Nat.lt_irrefl V)]) (by omega) (by omega) (by
      intro r k' hk' hr hr2 hr3 hr4 hr5 hr48 hrj
      have hsA : ∀ j, j ≤ V → pz_sum (fun v => if v < V then len v else l) j = pz_sum len j := fun j hj => pz_sum_congr j (fun v hv => if_pos (by omega))
      have hk'V : k' ≤ V := by
        rcases Nat.lt_or_ge V k' with y | y
        · have := hrj V y; rw [hsA V (Nat.le_refl _), hsum] at this; omega
        · exact y
      have hkk : k' = k := by
        refine pz_K_uniq (N := N) (l := l) (len := len) ⟨by rw [hsA k' hk'V] at hr48; exact hr48, fun j hj => ?_⟩ hK
        have := hrj j hj; rw [hsA j (by omega)] at this; exact this
      subst hkk
      rw [hsA k' hk'V, hdd] at hr hr3
      rw [show N + l - d = N - d + l by omega, show V + 1 - k' = V - k' + 1 by omega] at hr
      have hra : ∀ i, i < N - d + l → r (66 + i) = a2 i := fun i hi => by
        rw [hr.2.2.1 i hi, hcA i hi]
      have hcr : ∀ i, i < N - d + l → pz_c r i = a2 i := hra
      obtain ⟨od2, rk2, e7⟩ := pz_M_handOver (od := od1) (rk := rk1) (be := be1) (f := r) (N := N - d + l) (S := S) (d := d) (M := N) (a := f 3) (by omega) hS1 hS8 hr.1 (by rw [hr2, pz_updN (by decide), pz_updN (by decide), pz_updN (by decide), pz_updN (by omega), h6b 2 (by omega), hfS]) (by rw [hr3, pz_updN (by decide), pz_updN (by decide), pz_updN (by decide), pz_updN (by omega), h6b 3 (by omega)]) (fun i => pz_kp N S (pz_rk ch.1.1 N i)) (by omega) hd (by omega) (fun i hi => ⟨by rw [hbe i hi, pz_rk_congr hcf], hkp i hi⟩)
      have hc2 : pz_cnt (fun i => decide (pz_kp N S (pz_rk ch.1.1 N i) ≠ pz_kp (N - d + l) S (pz_rk (pz_c r) (N - d + l) (i - d)))) d N = cnt := by
        rw [← hcnt]
        refine pz_cnt_congr N (fun i _ _ => ?_)
        rw [pz_rk_congr hcr]
      rw [hc2] at e7
      unfold P_M_singIn_J81
      rw [e7, fl_bd_some]
      refine ⟨_, rfl, od2, rk2, _, rfl, ⟨?_, ?_, fun i hi => ?_, fun v hv => ?_⟩, ?_, ?_, ?_, ?_⟩
      · dsimp only; rw [pz_updN (by decide)]; exact hr.1
      · dsimp only; rw [pz_updN (by decide)]; exact hr.2.1
      · dsimp only; rw [pz_updN (by omega)]; exact hra i hi
      · dsimp only; rw [pz_updN (by omega)]; exact hr.2.2.2 v hv
      · dsimp only; rw [pz_updN (by decide), hr2, pz_updN (by decide), pz_updN (by decide), pz_updN (by decide), pz_updN (by omega), h6b 2 (by omega), hfS]
      · dsimp only; rw [pz_updN (by decide), hr3, pz_updN (by decide), pz_updN (by decide), pz_updN (by decide), pz_updN (by omega), h6b 3 (by omega)]
      · dsimp only; rw [pz_updS, hr4, pz_updN (by decide), pz_updN (by decide), pz_updN (by decide), pz_updN (by omega), h6b 4 (by omega)]
      · dsimp only; rw [pz_updN (by decide), hr5, pz_updS])
  obtain ⟨x, e8, od', rk', f', rfl, hSF, g2, g3, g4, g5⟩ := hmod
  have hcl : cnt ≤ 48 := by
    rw [← hcnt]
    exact Nat.le_trans (pz_cnt_le N) (by omega)
  refine ⟨cnt, _, od', rk', be1, f', hcl, hcomp, ?_⟩
  unfold P_M_singIn
  rw [pz_ck0, pz_ck3, e5, fl_bd_some, pz_c0, pz_c1, pz_c3, pz_c5, hf.1, pz_66, show (0 : Int32) = nI 0 from rfl, e6, fl_bd_some, pz_ck1, z1, pz_6, pz_ck (by omega) (by decide), pz_ck1, pz_ck1]
  rw [show (nI 0) = (0 : Int32) from rfl, pz_ck0, pz_ck0, pz_ck5, pz_ck5, nI_clamp (by omega)]
  have w1 : upd q2 (6 + V) (nI l) 1 + (1 : Int32) = nI (V + 1) := by rw [pz_updN (by omega), z1, nI_1]
  rw [w1]
  have w0 : upd (upd q2 (6 + V) (nI l)) 1 (nI (V + 1)) 0 + nI l = nI (N + l) := by rw [pz_updN (by decide), pz_updN (by omega), z0, nI_add]
  rw [w0]
  have w5 : upd (upd (upd q2 (6 + V) (nI l)) 1 (nI (V + 1))) 0 (nI (N + l)) 5 = f 5 := by rw [pz_updN (by decide), pz_updN (by decide), pz_updN (by omega), h6b 5 (by omega)]
  rw [w5]
  exact e8
