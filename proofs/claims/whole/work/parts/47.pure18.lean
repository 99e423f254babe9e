/-! ABOUT: what is asked of the whole song; the pieces that need the codes' congruence -/
theorem pz_pcs_congr {c c' : Nat → Int32} {N : Nat} (h : ∀ i, i < N → c i = c' i) : pz_pcs c N = pz_pcs c' N := pz_sum_congr N (fun i _ => by rw [pz_sh_congr h])
theorem pz_lon_congr {c c' : Nat → Int32} {N : Nat} (h : ∀ i, i < N → c i = c' i) : pz_lon c N = pz_lon c' N := pz_max_congr N (fun i _ _ => ⟨rfl, pz_rp_congr h i⟩)
theorem pz_lp_congr {c c' : Nat → Int32} {N : Nat} {r : Int32} (h : ∀ i, i < N → c i = c' i) (hr : pz_lp c N r) : pz_lp c' N r := by
  unfold pz_lp at hr ⊢
  rw [pz_lon_congr h] at hr
  rcases hr with ⟨h1, h2⟩ | ⟨i, h1, h2, h3, h4, h5⟩
  · refine Or.inl ⟨h1, h2.imp id (fun z u hu => ?_)⟩
    rw [← pz_rp_congr h]; exact z u hu
  · refine Or.inr ⟨i, h1, h2, h3, by rw [← pz_rp_congr h]; exact h4, fun u hu => ?_⟩
    rw [← pz_rp_congr h]; exact h5 u hu
theorem pz_codes {g : fl_Sg} {f : fl_A} {N V S : Nat} {c : Nat → Int32} {len : Nat → Nat} (hR : pz_R g f N V S c len) : ∀ i, i < N → pz_c f i = g.1 i := fun i hi => by rw [hR.1.2.2.1 i hi]; exact hR.2.2.1.2.2.1 i hi
