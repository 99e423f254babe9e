/-! FORGETTING THE OLDEST VERSE, AND A NEW NUMBER OF SINGERS, on both sides -/
theorem pz_forget {ch : fl_Ch} {f od rk be : fl_A} {N V S : Nat} {c : Nat → Int32} {len : Nat → Nat} (hR : pz_R ch.1 f N V S c len) (hO : pz_OK N V S len) (hC : pz_CH ch N S) (hV : 0 < V) :
    ∃ h ch' od' rk' be' f' N' V' c' len', P_Ch_dropOldest ch = some (h, ch') ∧ P_M_forgetIn od rk be f = some (h, od', rk', be', f') ∧ pz_R ch'.1 f' N' V' S c' len' ∧ pz_OK N' V' S len' ∧ pz_CH ch' N' S := by
  obtain ⟨hg, hgS, hf, hfS, hf3, hf4, hf5⟩ := hR
  have hVN := pz_OK_V hO
  obtain ⟨hN, hsum, hlen, hS1, hS8⟩ := hO
  have hd : len 0 ≤ N := by
    have := pz_sum_mono (g := len) (a := 1) V hV
    rw [hsum] at this
    have e : pz_sum len 1 = len 0 := Nat.zero_add _
    omega
  obtain ⟨a2, b2, e1, h2a, h2b⟩ := pz_dropVerse hg hN hV (by omega) hd
  generalize hdd : len 0 = d at *
  obtain ⟨o', e3, ho⟩ := pz_arrange (o := ch.2.1) (g := (a2, b2, nI (N - d), nI (V - 1), ch.1.2.2.2.2.1, ch.1.2.2.2.2.2.1 + nI d, ch.1.2.2.2.2.2.2.1, ch.1.2.2.2.2.2.2.2)) (N := N - d) (by omega) rfl
  have hkp : ∀ i, i < N → pz_kp N S (pz_rk ch.1.1 N i) < 2 ^ 31 := fun i hi => pz_kp_bound hS1 hS8 (pz_rk_lt hi)
  obtain ⟨ke, kbf, e4, hke⟩ := pz_handOver (ch := ((a2, b2, nI (N - d), nI (V - 1), ch.1.2.2.2.2.1, ch.1.2.2.2.2.2.1 + nI d, ch.1.2.2.2.2.2.2.1, ch.1.2.2.2.2.2.2.2), o', ch.2.2.1, ch.2.2.2)) (N := N - d) (S := S) (d := d) (M := N) (by omega) hS1 hS8 rfl hgS ho (fun i => pz_kp N S (pz_rk ch.1.1 N i)) hN hd (by omega) (fun i hi => ⟨hC.2 i hi, hkp i hi⟩)
  dsimp only at e4 hke ho
  have hcomp : P_Ch_dropOldest ch = some (nI (pz_cnt (fun i => decide (pz_kp N S (pz_rk ch.1.1 N i) ≠ pz_kp (N - d) S (pz_rk a2 (N - d) (i - d)))) d N), ((a2, b2, nI (N - d), nI (V - 1), ch.1.2.2.2.2.1, ch.1.2.2.2.2.2.1 + nI d, ch.1.2.2.2.2.2.2.1 + nI (pz_cnt (fun i => decide (pz_kp N S (pz_rk ch.1.1 N i) ≠ pz_kp (N - d) S (pz_rk a2 (N - d) (i - d)))) d N), ch.1.2.2.2.2.2.2.2), o', ke, kbf)) := by
    unfold P_Ch_dropOldest
    rw [e1, fl_bd_some, e3, fl_bd_some, pz_age0, hg.1, e4, fl_bd_some]
  generalize hcnt : pz_cnt (fun i => decide (pz_kp N S (pz_rk ch.1.1 N i) ≠ pz_kp (N - d) S (pz_rk a2 (N - d) (i - d)))) d N = cnt at hcomp
  have hcf : ∀ i, i < N → pz_c f i = ch.1.1 i := fun i hi => by rw [hg.2.2.1 i hi]; exact hf.2.2.1 i hi
  obtain ⟨od1, rk1, be1, e5, hbe⟩ := pz_watch (od := od) (rk := rk) (be := be) (f := f) (N := N) (S := S) (by omega) hS1 hS8 hf.1 hfS
  obtain ⟨r, e6, hr, hr2, hr3, hr4, hr5⟩ := pz_M_drop hf (by omega) hV (by omega) (by rw [hdd]; exact hd)
  rw [hdd] at hr hr3
  have hcr : ∀ i, i < N - d → pz_c r i = a2 i := fun i hi => by rw [h2a i hi]; exact hr.2.2.1 i hi
  obtain ⟨od2, rk2, e7⟩ := pz_M_handOver (od := od1) (rk := rk1) (be := be1) (f := r) (N := N - d) (S := S) (d := d) (M := N) (a := f 3) (by omega) hS1 hS8 hr.1 (by rw [hr2, hfS]) hr3 (fun i => pz_kp N S (pz_rk ch.1.1 N i)) (by omega) hd (by omega) (fun i hi => ⟨by rw [hbe i hi, pz_rk_congr hcf], hkp i hi⟩)
  have hc2 : pz_cnt (fun i => decide (pz_kp N S (pz_rk ch.1.1 N i) ≠ pz_kp (N - d) S (pz_rk (pz_c r) (N - d) (i - d)))) d N = cnt := by
    rw [← hcnt]
    refine pz_cnt_congr N (fun i _ _ => ?_)
    rw [pz_rk_congr hcr]
  rw [hc2] at e7
  refine ⟨_, _, od2, rk2, be1, upd r 4 (r 4 + nI cnt), N - d, V - 1, a2, fun v => len (v + 1), hcomp, ?_, ⟨⟨rfl, rfl, fun i _ => rfl, h2b⟩, hgS, ⟨?_, ?_, fun i hi => ?_, fun v hv => ?_⟩, ?_, ?_, ?_, ?_⟩, ⟨by omega, ?_, fun v hv => hlen _ (by omega), hS1, hS8⟩, ho, hke⟩
  · unfold P_M_forgetIn
    rw [pz_ck0, pz_ck3, e5, fl_bd_some, e6, fl_bd_some, pz_c0, pz_c3, hf.1, e7, fl_bd_some]
  · rw [pz_updN (by decide)]; exact hr.1
  · rw [pz_updN (by decide)]; exact hr.2.1
  · rw [pz_updN (by omega)]; exact hcr i hi
  · rw [pz_updN (by omega)]; exact hr.2.2.2 v hv
  · rw [pz_updN (by decide), hr2, hfS]
  · rw [pz_updN (by decide), hr3, hf3]
  · rw [pz_updS, hr4, hf4]
  · rw [pz_updN (by decide), hr5, hf5]
  · have hs2 : ∀ n, n ≤ V - 1 → pz_sum (fun v => len (v + 1)) n + d = pz_sum len (n + 1) := by
      intro n
      induction n with
      | zero => intro _; rw [pz_sum, pz_sum, pz_sum, hdd]
      | succ n ih =>
        intro hn
        have h1 := ih (by omega)
        rw [pz_sum, pz_sum]
        omega
    have h1 := hs2 (V - 1) (Nat.le_refl _)
    rw [show V - 1 + 1 = V by omega, hsum] at h1
    omega
theorem pz_setSingers {ch : fl_Ch} {f od rk be : fl_A} {N V S S2 : Nat} {c : Nat → Int32} {len : Nat → Nat} (hR : pz_R ch.1 f N V S c len) (hO : pz_OK N V S len) (hC : pz_CH ch N S) (h1 : 1 ≤ S2) (h8 : S2 ≤ 8) :
    ∃ h ch' od' rk' be' f', P_Ch_changeSingers ch (nI S2) = some (h, ch') ∧ P_M_setSingersIn od rk be f (nI S2) = some (h, od', rk', be', f') ∧ pz_R ch'.1 f' N V S2 c len ∧ pz_OK N V S2 len ∧ pz_CH ch' N S2 := by
  obtain ⟨hg, hgS, hf, hfS, hf3, hf4, hf5⟩ := hR
  have hVN := pz_OK_V hO
  obtain ⟨hN, hsum, hlen, hS1, hS8⟩ := hO
  have hkp : ∀ i, i < N → pz_kp N S (pz_rk ch.1.1 N i) < 2 ^ 31 := fun i hi => pz_kp_bound hS1 hS8 (pz_rk_lt hi)
  obtain ⟨ke, kbf, e4, hke⟩ := pz_handOver (ch := ((ch.1.1, ch.1.2.1, ch.1.2.2.1, ch.1.2.2.2.1, nI S2, ch.1.2.2.2.2.2.1, ch.1.2.2.2.2.2.2.1, ch.1.2.2.2.2.2.2.2), ch.2.1, ch.2.2.1, ch.2.2.2)) (N := N) (S := S2) (d := 0) (M := N) hN h1 h8 hg.1 rfl hC.1 (fun i => pz_kp N S (pz_rk ch.1.1 N i)) hN (Nat.zero_le _) (by omega) (fun i hi => ⟨hC.2 i hi, hkp i hi⟩)
  dsimp only at e4 hke
  have hcomp : P_Ch_changeSingers ch (nI S2) = some (nI (pz_cnt (fun i => decide (pz_kp N S (pz_rk ch.1.1 N i) ≠ pz_kp N S2 (pz_rk ch.1.1 N (i - 0)))) 0 N), ((ch.1.1, ch.1.2.1, ch.1.2.2.1, ch.1.2.2.2.1, nI S2, ch.1.2.2.2.2.2.1, ch.1.2.2.2.2.2.2.1 + nI (pz_cnt (fun i => decide (pz_kp N S (pz_rk ch.1.1 N i) ≠ pz_kp N S2 (pz_rk ch.1.1 N (i - 0)))) 0 N), ch.1.2.2.2.2.2.2.2), ch.2.1, ke, kbf)) := by
    unfold P_Ch_changeSingers
    rw [show (0 : Int32) = nI 0 from rfl, hg.1] 
    rw [hg.1] at e4
    rw [e4, fl_bd_some]
  generalize hcnt : pz_cnt (fun i => decide (pz_kp N S (pz_rk ch.1.1 N i) ≠ pz_kp N S2 (pz_rk ch.1.1 N (i - 0)))) 0 N = cnt at hcomp
  have hcf : ∀ i, i < N → pz_c f i = ch.1.1 i := fun i hi => by rw [hg.2.2.1 i hi]; exact hf.2.2.1 i hi
  obtain ⟨od1, rk1, be1, e5, hbe⟩ := pz_watch (od := od) (rk := rk) (be := be) (f := f) (N := N) (S := S) (by omega) hS1 hS8 hf.1 hfS
  have hcr : ∀ i, i < N → pz_c (upd f 2 (nI S2)) i = ch.1.1 i := fun i hi => by rw [← hcf i hi]; exact pz_updN (by omega)
  obtain ⟨od2, rk2, e7⟩ := pz_M_handOver (od := od1) (rk := rk1) (be := be1) (f := upd f 2 (nI S2)) (N := N) (S := S2) (d := 0) (M := N) (a := f 3) (by omega) h1 h8 (by rw [pz_updN (by decide)]; exact hf.1) pz_updS (by rw [pz_updN (by decide), show nI 0 = 0 from rfl, Int32.add_zero]) (fun i => pz_kp N S (pz_rk ch.1.1 N i)) (by omega) (Nat.zero_le _) (by omega) (fun i hi => ⟨by rw [hbe i hi, pz_rk_congr hcf], hkp i hi⟩)
  have hc2 : pz_cnt (fun i => decide (pz_kp N S (pz_rk ch.1.1 N i) ≠ pz_kp N S2 (pz_rk (pz_c (upd f 2 (nI S2))) N (i - 0)))) 0 N = cnt := by
    rw [← hcnt]
    refine pz_cnt_congr N (fun i _ _ => ?_)
    rw [pz_rk_congr hcr]
  rw [hc2] at e7
  refine ⟨_, _, od2, rk2, be1, upd (upd f 2 (nI S2)) 4 (upd f 2 (nI S2) 4 + nI cnt), hcomp, ?_, ⟨⟨hg.1, hg.2.1, hg.2.2.1, hg.2.2.2⟩, rfl, ⟨?_, ?_, fun i hi => ?_, fun v hv => ?_⟩, ?_, ?_, ?_, ?_⟩, ⟨hN, hsum, hlen, h1, h8⟩, hC.1, hke⟩
  · unfold P_M_setSingersIn
    rw [e5, fl_bd_some, pz_ck2, pz_ck0, pz_ck3, pz_c2, pz_c0, pz_c3]
    have w0 : upd f 2 (nI S2) 0 = nI N := by rw [pz_updN (by decide)]; exact hf.1
    have w3 : upd f 2 (nI S2) 3 = f 3 := pz_updN (by decide)
    rw [w0, w3, e7, fl_bd_some]
  · rw [pz_updN (by decide), pz_updN (by decide)]; exact hf.1
  · rw [pz_updN (by decide), pz_updN (by decide)]; exact hf.2.1
  · rw [pz_updN (by omega), pz_updN (by omega)]; exact hf.2.2.1 i hi
  · rw [pz_updN (by omega), pz_updN (by omega)]; exact hf.2.2.2 v hv
  · rw [pz_updN (by decide), pz_updS]
  · rw [pz_updN (by decide), pz_updN (by decide), hf3]
  · rw [pz_updS, pz_updN (by decide), hf4]
  · rw [pz_updN (by decide), pz_updN (by decide), hf5]
