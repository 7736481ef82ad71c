theorem op_ofGuest (v1 v2 : Int32) (σ τ : rp_St) (h : RR σ τ) : OK (fX6_ofGuest v1 v2 σ) (fX7_ofGuest v1 v2 τ) := by
  obtain ⟨β, hI, hX, hM⟩ := h.1.1
  have hX0 : BX β σ 0 := hX
  have h7 := hI.1
  unfold fX6_ofGuest fX7_ofGuest fX7_ofGuest_18
  rcases zGu v1 hI hX0 hM with ⟨a1, a2⟩ | ⟨g, hg, rfl, a1, a2⟩
  · simp only [a1, a2, z_bd, z_bi, ↓reduceIte]
    exact rf1 h
  simp only [a1, a2, z_bd, z_bi, z10, ↓reduceIte]
  have hp := zq_lt hI hg
  have p1 : fX0_pegOf 0 (nI g) σ = some (nI (zq β g), σ) := by
    have := zx_peg (b := 0) hI hX hp.1
    rw [hp.2] at this
    exact this
  have p2 : fX7_pegOf (nI g) τ = some (nI (zq β g), τ) := by
    have := zm_peg hI hM hp.1
    rw [hp.2] at this
    exact this
  have p3 : fX7_growsNow (nI g) τ = some (zgr (β 0 0) (β 1 g) (β 2 g) (β 4 g) (zq β g), τ) := by
    have := zm_grow hI hM hp.1
    rw [hp.2] at this
    exact this
  have p4 : fX0_growsOn 0 (nI (zq β g)) σ = some (zgr (β 0 0) (β 1 g) (β 2 g) (β 4 g) (zq β g), σ) := by
    have := zx_grow (b := 0) hI hX hp.1
    rw [hp.2] at this
    exact this
  have gX : rp_in (nI g) 7 = true := z_in (by omega) (by omega)
  have x1 : σ 1 g = nI (β 1 g) := hX0.2 g hg 1 (by decide) (by decide)
  have x2 : σ 2 g = nI (β 2 g) := hX0.2 g hg 2 (by decide) (by decide)
  have x3 : σ 3 g = nI (β 3 g) := hX0.2 g hg 3 (by decide) (by decide)
  have x4 : σ 4 g = nI (β 4 g) := hX0.2 g hg 4 (by decide) (by decide)
  have x5 : σ 5 g = nI (β 5 g) := hX0.2 g hg 5 (by decide) (by decide)
  rcases zW' v2 0 6 0 6 rfl rfl (by decide) (by decide) with ⟨b1, b2⟩ | ⟨f, _, hf, rfl, b1, b2⟩
  · have n : ∀ f, f ≤ 6 → ¬ v2 = nI f := by
      intro f hf z
      have := b1 σ
      rw [z] at this
      unfold fX6_isWithin at this
      rw [if_neg (nI_pos (by omega)), if_neg (show ¬ (6 : Int32) < nI f from fun z => by have := (z_lt (a := 6) (by omega) (by omega)).mp z; omega)] at this
      simp at this
    have n0 : ¬ v2 = 0 := n 0 (by decide)
    have n1 : ¬ v2 = 1 := n 1 (by decide)
    have n2 : ¬ v2 = 2 := n 2 (by decide)
    have n3 : ¬ v2 = 3 := n 3 (by decide)
    have n4 : ¬ v2 = 4 := n 4 (by decide)
    have n5 : ¬ v2 = 5 := n 5 (by decide)
    have n6 : ¬ v2 = 6 := n 6 (by decide)
    rw [if_neg n0, if_neg n1, if_neg n2, if_neg n3, if_neg n4, if_neg n5, if_neg n6, b2, z_bd, if_pos rfl]
    exact rf1 h
  · rw [b2, z_bd, if_neg (show ¬ (1 : Int32) = 0 by decide), z_g gX, z_g gX, z_g gX, z_g gX, z_g gX, z_cl (by omega), x1, x2, x3, x4, x5, p1, z_bd, p4, p2, p3]
    match f, hf with
    | 0, _ => rw [if_pos (show nI 0 = (0 : Int32) from rfl), if_neg (show ¬ (5 : Int32) ≤ nI 0 by decide +kernel), zm_is2 hI hM hg (j := 1) (by decide) (by decide) (nI 0) rfl]; exact ok_mk h
    | 1, _ => rw [if_neg (show ¬ nI 1 = (0 : Int32) by decide +kernel), if_pos (show nI 1 = (1 : Int32) from rfl), if_neg (show ¬ (5 : Int32) ≤ nI 1 by decide +kernel), zm_is2 hI hM hg (j := 2) (by decide) (by decide) (nI 1) rfl]; exact ok_mk h
    | 2, _ => rw [if_neg (show ¬ nI 2 = (0 : Int32) by decide +kernel), if_neg (show ¬ nI 2 = (1 : Int32) by decide +kernel), if_pos (show nI 2 = (2 : Int32) from rfl), if_neg (show ¬ (5 : Int32) ≤ nI 2 by decide +kernel), zm_is2 hI hM hg (j := 3) (by decide) (by decide) (nI 2) rfl]; exact ok_mk h
    | 3, _ => rw [if_neg (show ¬ nI 3 = (0 : Int32) by decide +kernel), if_neg (show ¬ nI 3 = (1 : Int32) by decide +kernel), if_neg (show ¬ nI 3 = (2 : Int32) by decide +kernel), if_pos (show nI 3 = (3 : Int32) from rfl), if_neg (show ¬ (5 : Int32) ≤ nI 3 by decide +kernel), zm_is2 hI hM hg (j := 4) (by decide) (by decide) (nI 3) rfl]; exact ok_mk h
    | 4, _ => rw [if_neg (show ¬ nI 4 = (0 : Int32) by decide +kernel), if_neg (show ¬ nI 4 = (1 : Int32) by decide +kernel), if_neg (show ¬ nI 4 = (2 : Int32) by decide +kernel), if_neg (show ¬ nI 4 = (3 : Int32) by decide +kernel), if_pos (show nI 4 = (4 : Int32) from rfl), if_neg (show ¬ (5 : Int32) ≤ nI 4 by decide +kernel), zm_is2 hI hM hg (j := 5) (by decide) (by decide) (nI 4) rfl]; exact ok_mk h
    | 5, _ => rw [if_neg (show ¬ nI 5 = (0 : Int32) by decide +kernel), if_neg (show ¬ nI 5 = (1 : Int32) by decide +kernel), if_neg (show ¬ nI 5 = (2 : Int32) by decide +kernel), if_neg (show ¬ nI 5 = (3 : Int32) by decide +kernel), if_neg (show ¬ nI 5 = (4 : Int32) by decide +kernel), if_pos (show nI 5 = (5 : Int32) from rfl), if_pos (show (5 : Int32) ≤ nI 5 by decide +kernel), if_pos (show nI 5 = (5 : Int32) from rfl)]; exact ok_mk h
    | 6, _ => rw [if_neg (show ¬ nI 6 = (0 : Int32) by decide +kernel), if_neg (show ¬ nI 6 = (1 : Int32) by decide +kernel), if_neg (show ¬ nI 6 = (2 : Int32) by decide +kernel), if_neg (show ¬ nI 6 = (3 : Int32) by decide +kernel), if_neg (show ¬ nI 6 = (4 : Int32) by decide +kernel), if_neg (show ¬ nI 6 = (5 : Int32) by decide +kernel), if_pos (show nI 6 = (6 : Int32) from rfl), if_pos (show (5 : Int32) ≤ nI 6 by decide +kernel), if_neg (show ¬ nI 6 = (5 : Int32) by decide +kernel)]; exact ok_mk h
/-- one entry of a guest written in both -/
theorem RR.ent {σ τ : rp_St} (h : RR σ τ) {β : zB} (hI : BI β) (hX : BX β σ 0) (hM : BM β (τ 1)) {j g v i : Nat} (hg : g < β 0 0) (h1 : 1 ≤ j) (h5 : j ≤ 5) (hv : v ≤ zm j (β 0 0)) (hi : i = zi j g) : RR (rp_put σ j g (nI v)) (rp_put τ 1 i (nI v)) ∧ BI (zp β j g v) ∧ BX (zp β j g v) (rp_put σ j g (nI v)) 0 ∧ BM (zp β j g v) (rp_put τ 1 i (nI v) 1) := by
  have a1 : BI (zp β j g v) := hI.put h1 h5 hv
  have h7 := hI.1
  have a2 : BX (zp β j g v) (rp_put σ (0 + j) g (nI v)) 0 := hX.put h1 (by omega)
  rw [Nat.zero_add] at a2
  have a3 : BM (zp β j g v) (rp_put τ 1 i (nI v) 1) := by
    rw [z_up1]
    exact hM.put h7 hg h1 (by omega) hi
  have zz : 12 ≤ i ∧ i < 47 := by
    rw [hi]
    unfold zi
    split <;> omega
  exact ⟨h.ball (fun k hk => z_putk _ _ _ _ (fun z => hk (Or.inl (by omega)))) (fun k hk => z_putk _ _ _ _ (by omega)) (fun i' hi' => z_pn _ _ _ _ (by omega)) ⟨_, a1, a2, a3⟩, a1, a2, a3⟩
theorem zx_repl {σ τ : rp_St} (h : RR σ τ) {β : zB} (hI : BI β) (hX : BX β σ 0) (hM : BM β (τ 1)) {j g M : Nat} (v3 m f : Int32) (hm : m = nI M) (hM2 : M = zm j (β 0 0)) (hM3 : M ≤ 999) (hg : g < β 0 0) (h3 : 3 ≤ j) (h5 : j ≤ 5) (hf : f = nI (j - 1)) (t0 : Int32) (ht : ∀ σ, fX7_within v3 0 m σ = some (t0, σ)) : OK (fX6_replace j (nI g) v3 m σ) (if t0 = 0 then fX7_finding (-1000000001) τ else rp_bd (fX7_guestAt (nI g) f τ) (fun r3 σ4 => fX7_turn r3 v3 σ4)) := by
  have h7 := hI.1
  unfold fX6_replace
  rcases zW' v3 0 m 0 M rfl hm (by decide) (by omega) with ⟨b1, b2⟩ | ⟨v, _, hv, rfl, b1, b2⟩
  · have e : t0 = 0 := by
      have := (ht σ).symm.trans (b2 σ)
      simp at this
      exact this
    subst e
    simp only [b1, z_bd, z_bi, ↓reduceIte]
    exact rf1 h
  · have e : t0 = 1 := by
      have := (ht σ).symm.trans (b2 σ)
      simp at this
      exact this
    subst e
    have ei : 12 + 5 * g + (j - 1) = zi j g := by unfold zi; rw [if_neg (by omega)]; omega
    have z1 : zi j g < 221 := by rw [← ei]; omega
    simp only [b1, z_bd, z10, ↓reduceIte]
    rw [hf, zm_at, z_bd, ei]
    unfold fX7_turn
    simp only [z_g (z_in (show g < 7 by omega) (by decide)), z_g (z_in z1 (by decide)), z_nm, z_cl (show g < 1000000 by omega), z_cl (show zi j g < 1000000 by omega)]
    have x := hX.2 g hg j (by omega) (by omega)
    rw [Nat.zero_add] at x
    rw [x, hM.2 g hg j (by omega) (by omega)]
    exact ok_mk (h.ent hI hX hM hg (by omega) h5 (by rw [← hM2]; exact hv) rfl).1
theorem op_change (v1 v2 v3 : Int32) (σ τ : rp_St) (h : RR σ τ) : OK (fX6_change v1 v2 v3 σ) (fX7_change v1 v2 v3 τ) := by
  obtain ⟨β, hI, hX, hM⟩ := h.1.1
  have hX : BX β σ 0 := hX
  have h7 := hI.1
  unfold fX6_change fX7_change fX7_change_9 fX7_change_34 fX7_change_35 fX7_change_65 fX7_isRue
  have ex : ∀ (m : Int32) (b : Nat), m = nI b → b < 1000000 → ∃ t0 : Int32, (t0 = 0 ∨ t0 = 1) ∧ ∀ σ, fX7_within v3 0 m σ = some (t0, σ) := by
    intro m b hm hb
    rcases zW' v3 0 m 0 b rfl hm (by decide) hb with ⟨b1, b2⟩ | ⟨v, _, hv, _, b1, b2⟩
    · exact ⟨0, Or.inl rfl, b2⟩
    · exact ⟨1, Or.inr rfl, b2⟩
  obtain ⟨t9, ht9, e9⟩ := ex 999 999 rfl (by decide)
  obtain ⟨t1, ht1, e1⟩ := ex 1 1 rfl (by decide)
  have g9 : ∀ (e : Option (Int32 × rp_St)), rp_gu (t9 == 0 || t9 == 1) e = e := by
    intro e
    rcases ht9 with rfl | rfl <;> rfl
  rcases zGu v1 hI hX hM with ⟨a1, a2⟩ | ⟨g, hg, rfl, a1, a2⟩
  · simp only [a1, a2, e9, e1, z_bd, z_bi, g9, ↓reduceIte]
    repeat' split
    all_goals exact rf1 h
  · simp only [a1, a2, e9, e1, z_bd, z_bi, g9, z10, ↓reduceIte]
    by_cases c0 : v2 = 0
    · subst c0
      rw [if_pos rfl, if_pos rfl]
      exact zx_repl h hI hX hM v3 999 (2 + 0) rfl rfl (by decide) hg (j := 3) (by decide) (by decide) rfl t9 e9
    rw [if_neg c0, if_neg c0]
    by_cases c1 : v2 = 1
    · subst c1
      rw [if_pos rfl, if_pos rfl]
      exact zx_repl h hI hX hM v3 999 (2 + 1) rfl rfl (by decide) hg (j := 4) (by decide) (by decide) rfl t9 e9
    rw [if_neg c1, if_neg c1]
    by_cases c2 : v2 = 2
    · subst c2
      rw [if_pos rfl, if_pos rfl]
      have := zx_repl h hI hX hM v3 1 (2 + 2) rfl rfl (by decide) hg (j := 5) (by decide) (by decide) rfl t1 e1
      rcases ht1 with rfl | rfl
      · simpa only [↓reduceIte] using this
      · simpa only [z10, ↓reduceIte] using this
    rw [if_neg c2, if_neg c2]
    exact rf1 h
theorem op_become (v1 v2 : Int32) (σ τ : rp_St) (h : RR σ τ) : OK (fX6_become v1 v2 σ) (fX7_become v1 v2 τ) := by
  obtain ⟨β, hI, hX, hM⟩ := h.1.1
  have hX : BX β σ 0 := hX
  have h7 := hI.1
  unfold fX6_become fX7_become fX6_isKindAndNumber fX7_isKindM fX6_become_15 fX7_become_15
  rcases zGu v1 hI hX hM with ⟨a1, a2⟩ | ⟨g, hg, rfl, a1, a2⟩
  · simp only [a1, a2, z_bd, z_bi, ↓reduceIte]
    exact rf1 h
  rcases zW' v2 0 69 0 69 rfl rfl (by decide) (by decide) with ⟨b1, b2⟩ | ⟨k, _, hk, rfl, b1, b2⟩
  · simp only [a1, a2, b1, b2, z_bd, z_bi, z10, z_gb0, ↓reduceIte]
    exact rf1 h
  simp only [a1, a2, b1, b2, z_bd, z_bi, z10, z_gb1, ↓reduceIte]
  have d1 : (nI k / 10 : Int32) = nI (k / 10) := pk_div (a := k) (d := 10) (by omega) (by omega) (by omega)
  have d2 : (nI k - nI k / 10 * 10 : Int32) = nI (k % 10) := z_rem (d := 10) (by omega) (by omega) (by omega)
  have i1 : 12 + 5 * g + 0 = zi 1 g := by unfold zi; rw [if_neg (by decide)]; omega
  have i2 : 12 + 5 * g + 1 = zi 2 g := by unfold zi; rw [if_neg (by decide)]; omega
  have l1 : zi 1 g < 221 := by rw [← i1]; omega
  have l2 : zi 2 g < 221 := by rw [← i2]; omega
  have at0 : ∀ τ : rp_St, fX7_guestAt (nI g) 0 τ = some (nI (zi 1 g), τ) := fun τ => by rw [← i1]; exact zm_at g 0 τ
  have at1 : ∀ τ : rp_St, fX7_guestAt (nI g) 1 τ = some (nI (zi 2 g), τ) := fun τ => by rw [← i2]; exact zm_at g 1 τ
  rw [at1, z_bd, d2, d1, z_g (z_in (by omega) (by omega)), z_nm, z_g (z_in (by omega) (by omega)), z_nm, z_g (z_in (by omega) (by omega)), z_nm, z_cl (by omega), z_g (z_in l2 (by omega)), z_nm, z_cl (by omega), at0, z_bd]
  unfold fX7_turn
  rw [z_g (z_in l1 (by omega)), z_nm, z_g (z_in l1 (by omega)), z_nm, z_cl (by omega)]
  have q1 := h.ent hI hX hM (j := 2) (v := k % 10) hg (by decide) (by decide) (show k % 10 ≤ 9 by omega) (i := zi 2 g) rfl
  have q2 := q1.1.ent q1.2.1 q1.2.2.1 q1.2.2.2 (j := 1) (g := g) (v := k / 10) (by rw [zp0 _ (by decide)]; exact hg) (by decide) (by decide) (show k / 10 ≤ 6 by omega) (i := zi 1 g) rfl
  have r1 : rp_put τ 1 (zi 2 g) (nI (k % 10)) 1 (zi 1 g) = nI (β 1 g) := by
    rw [z_pn _ _ _ _ (by rw [← i1, ← i2]; omega)]
    exact hM.2 g hg 1 (by decide) (by decide)
  rw [r1, show σ 1 g = nI (β 1 g) from hX.2 g hg 1 (by decide) (by decide)]
  have sw : rp_put (rp_put σ 1 g (nI (k / 10))) 2 g (nI (k % 10)) = rp_put (rp_put σ 2 g (nI (k % 10))) 1 g (nI (k / 10)) := by
    funext a b
    rw [z_put, z_put, z_put, z_put]
    by_cases c1 : a = 1 ∧ b = g
    · rw [if_neg (by omega), if_pos c1, if_pos c1]
    · rw [if_neg c1, if_neg c1]
  rw [sw]
  exact ok_mk q2.1
