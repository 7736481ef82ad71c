theorem op_tell (v1 : Int32) (σ τ : rp_St) (h : RR σ τ) : OK (fX6_tell v1 σ) (fX7_tell v1 τ) := by
  obtain ⟨h1, h2, h3, h4, h5, h6⟩ := h.1
  obtain ⟨w, hw, e1, e2, e3⟩ := h5
  have e1 : σ 40 6 = nI w := e1
  unfold fX6_tell fX7_tell
  rw [z_g zc4, zl4, e1, e2]
  by_cases c : w = 20
  · rw [c, if_neg (show ¬ nI 20 < (20 : Int32) by decide +kernel), if_pos (show nI 20 = (20 : Int32) from rfl), z_bi, z_bi]
    exact rf4 h
  · rw [if_pos (show nI w < (20 : Int32) from (z_lt (b := 20) (by omega) (by omega)).mpr (by omega)), if_neg (show ¬ nI w = (20 : Int32) from fun z => c ((z_eq (b := 20) (by omega) (by omega)).mp z)), z_g (z_in (by omega) (by omega)), z_nm, z_nm, z_cl (by omega), z_g zc4, show (97 + nI w : Int32) = nI (97 + w) from nI_add 97 w, z_g (z_in (by omega) (by omega)), z_nm, z_g zc4, z_g zc4, z_nm, z_g zc4, z_cl (by omega)]
    rw [z_pn σ 42 w v1 (j := 40) (i' := 6) (by omega), e1, z_pn τ 1 (97 + w) v1 (j := 1) (i' := 4) (by omega), e2, show (nI w + 1 : Int32) = nI (w + 1) from nI_1 _, z_p, z_p]
    refine ok_mk (h.ev (fun k hk => ?_) (fun k hk => ?_) ⟨?_, ?_⟩ ⟨h1.cg (fun k _ q => ?_) (fun i p => ?_), h2.cg ?_ ?_, h3.cg ?_ ?_, h4.cg ?_ ?_ ?_ ?_, ?_, h6.cg (fun k hk => ?_) ?_⟩)
    · unfold kX at hk
      rw [z_putk _ _ _ _ (by omega), z_putk _ _ _ _ (by omega)]
    · rw [z_putk _ _ _ _ (by omega), z_putk _ _ _ _ (by omega)]
    · rw [z_putk _ _ _ _ (by omega), z_putk _ _ _ _ (by omega)]; exact h.2.1.1
    · rw [z_putk _ _ _ _ (by omega), z_putk _ _ _ _ (by omega)]; exact h.2.1.2
    · rw [z_putk _ _ _ _ (by omega), z_putk _ _ _ _ (by omega)]
    · rw [z_pn _ _ _ _ (by omega), z_pn _ _ _ _ (by omega)]
    · rw [z_pn _ _ _ _ (by omega), z_pn _ _ _ _ (by omega)]
    · rw [z_pn _ _ _ _ (by omega), z_pn _ _ _ _ (by omega)]
    · rw [z_pn _ _ _ _ (by omega), z_pn _ _ _ _ (by omega)]
    · rw [z_pn _ _ _ _ (by omega), z_pn _ _ _ _ (by omega)]
    · rw [z_pn _ _ _ _ (by omega), z_pn _ _ _ _ (by omega)]
    · intro i _
      rw [z_pn _ _ _ _ (by omega), z_pn _ _ _ _ (by omega)]
    · rw [z_pn _ _ _ _ (by omega), z_pn _ _ _ _ (by omega)]
    · intro i _ _
      rw [z_pn _ _ _ _ (by omega), z_pn _ _ _ _ (by omega)]
    · refine ⟨w + 1, by omega, z_p _ _ _ _, z_p _ _ _ _, fun i hi => ?_⟩
      show rp_put (rp_put τ 1 (97 + w) v1) 1 4 _ 1 (97 + i) = rp_put (rp_put σ 42 w v1) 40 6 _ 42 i
      rw [z_pn (rp_put τ 1 (97 + w) v1) 1 4 _ (j := 1) (i' := 97 + i) (by omega), z_pn (rp_put σ 42 w v1) 40 6 _ (j := 42) (i' := i) (by omega)]
      by_cases q : i = w
      · subst q
        rw [z_p, z_p]
      · rw [z_pn τ _ _ _ (by omega), z_pn σ _ _ _ (by omega)]
        exact e3 i (by omega)
    · rw [z_putk _ _ _ _ (by omega), z_putk _ _ _ _ (by omega)]
    · intro i _ _
      rw [z_pn _ _ _ _ (by omega), z_pn _ _ _ _ (by omega)]
theorem zx_last {β : zB} {σ : rp_St} {b : Nat} (hI : BI β) (hX : BX β σ (7 * b)) : fX0_lastGuest b σ = some (if β 0 0 = 0 then -1 else nI (β 6 (β 0 0 - 1)), σ) := by
  have h7 := hI.1
  unfold fX0_lastGuest
  rw [hX.1]
  by_cases c : β 0 0 = 0
  · rw [if_pos (by rw [c]; rfl), if_pos c]
  · rw [if_neg (show ¬ nI (β 0 0) = (0 : Int32) from fun z => c ((z_eq (b := 0) (by omega) (by omega)).mp z)), if_neg c, show (nI (β 0 0) - 1 : Int32) = nI (β 0 0 - 1) from pk_sub (a := β 0 0) (b := 1) (by omega), z_g (z_in (by omega) (by omega)), z_cl (by omega), hX.2 _ (by omega) 6 (by decide) (by decide)]
theorem op_count (v1 : Int32) (σ τ : rp_St) (h : RR σ τ) : OK (fX6_count v1 σ) (fX7_count v1 τ) := by
  obtain ⟨h1, h2, h3, h4, h5, h6⟩ := h.1
  obtain ⟨β, hI, hX, hM⟩ := h1
  have hX0 : BX β σ 0 := hX
  have h7 := hI.1
  unfold fX6_count fX7_count
  rw [zx_sum3 (b := 0) hI hX, zx_sum4 (b := 0) hI hX, zx_idle (b := 0) hI hX, zx_last (b := 0) hI hX, zm_sum hI hM (j := 3) (by decide) (by decide) 2 rfl, zm_sum hI hM (j := 4) (by decide) (by decide) 3 rfl, zm_idle hI hM]
  simp only [z_bd, z_bi]
  by_cases c0 : v1 = 0
  · rw [if_pos c0, if_pos c0, z_g zc1, zl1, hX0.1, hM.1]; exact ok_mk h
  rw [if_neg c0, if_neg c0]
  by_cases c1 : v1 = 1
  · obtain ⟨t, _, e1, e2⟩ := h2
    rw [if_pos c1, if_pos c1, z_g zc0, zl0, show σ 40 7 = nI t from e1, e2]; exact ok_mk h
  rw [if_neg c1, if_neg c1]
  by_cases c2 : v1 = 2
  · rw [if_pos c2, if_pos c2]; exact ok_mk h
  rw [if_neg c2, if_neg c2]
  by_cases c3 : v1 = 3
  · rw [if_pos c3, if_pos c3]; exact ok_mk h
  rw [if_neg c3, if_neg c3]
  by_cases c4 : v1 = 4
  · rw [if_pos c4, if_pos c4]; exact ok_mk h
  rw [if_neg c4, if_neg c4]
  by_cases c5 : v1 = 5
  · rw [if_pos c5, if_pos c5, z_g zc1, zl1, hM.1]
    by_cases c : β 0 0 = 0
    · rw [if_pos c, if_pos (by rw [c]; rfl)]; exact ok_mk h
    · rw [if_neg c, if_neg (show ¬ nI (β 0 0) = (0 : Int32) from fun z => c ((z_eq (b := 0) (by omega) (by omega)).mp z)), z_g zc1, show (5 + nI (β 0 0) : Int32) = nI (5 + β 0 0) from nI_add 5 _, show (nI (5 + β 0 0) - 1 : Int32) = nI (5 + β 0 0 - 1) from pk_sub (a := 5 + β 0 0) (b := 1) (by omega), show 5 + β 0 0 - 1 = 5 + (β 0 0 - 1) by omega, z_g (z_in (by omega) (by omega)), z_cl (by omega), z_ord hM (by omega)]
      exact ok_mk h
  rw [if_neg c5, if_neg c5]
  by_cases c6 : v1 = 6
  · obtain ⟨⟨t, _, e1, e2, _⟩, _⟩ := h4
    rw [if_pos c6, if_pos c6, z_g zc3, zl3, show σ 40 4 = nI t from e1, e2]; exact ok_mk h
  rw [if_neg c6, if_neg c6]
  by_cases c7 : v1 = 7
  · obtain ⟨t, _, e1, e2, _⟩ := h5
    rw [if_pos c7, if_pos c7, z_g zc4, zl4, show σ 40 6 = nI t from e1, e2]; exact ok_mk h
  rw [if_neg c7, if_neg c7]
  by_cases c8 : v1 = 8
  · obtain ⟨t, _, e1, e2, _⟩ := h.2.2.2.2.2
    rw [if_pos c8, if_pos c8, e1, e2]; exact ok_mk h
  rw [if_neg c8, if_neg c8]
  by_cases c9 : v1 = 9
  · rw [if_pos c9, if_pos c9, z_g zc2, zl2, show σ 40 8 = τ 1 2 from h3]; exact ok_mk h
  rw [if_neg c9, if_neg c9]
  exact rf1 h
/-- a guest comes -/
def zA (β : zB) (k v : Nat) : zB := fun j g => if j = 0 ∧ g = 0 then β 0 0 + 1 else if g = β 0 0 then (if j = 1 then k / 10 else if j = 2 then k % 10 else if j = 3 then v else if j = 4 then 0 else if j = 5 then 1 else if j = 6 then β 0 0 else β j g) else β j g
theorem zA_old {β : zB} {k v j g : Nat} (hg : g < β 0 0) (hj : 1 ≤ j) : zA β k v j g = β j g := by
  unfold zA
  rw [if_neg (by omega), if_neg (by omega)]
theorem zA_0 (β : zB) (k v : Nat) : zA β k v 0 0 = β 0 0 + 1 := rfl
theorem zA_new {β : zB} {k v j : Nat} (hj : 1 ≤ j) : zA β k v j (β 0 0) = if j = 1 then k / 10 else if j = 2 then k % 10 else if j = 3 then v else if j = 4 then 0 else if j = 5 then 1 else if j = 6 then β 0 0 else β j (β 0 0) := by
  unfold zA
  rw [if_neg (by omega), if_pos rfl]
theorem BI.A {β : zB} (hI : BI β) (hn : β 0 0 < 7) {k v : Nat} (hk : k ≤ 69) (hv : v ≤ 999) : BI (zA β k v) := by
  refine ⟨by rw [zA_0]; omega, fun g hg j h1 h6 => ?_, fun p q hp hq e => ?_⟩
  · rw [zA_0] at hg ⊢
    by_cases c : g = β 0 0
    · subst c
      rw [zA_new h1]
      match j, h1, h6 with
      | 1, _, _ => show k / 10 ≤ 6; omega
      | 2, _, _ => show k % 10 ≤ 9; omega
      | 3, _, _ => exact hv
      | 4, _, _ => exact Nat.zero_le _
      | 5, _, _ => exact Nat.le_refl 1
      | 6, _, _ => show β 0 0 ≤ β 0 0 + 1 - 1; omega
    · rw [zA_old (by omega) h1]
      have := hI.2.1 g (by omega) j h1 h6
      have m : zm j (β 0 0) ≤ zm j (β 0 0 + 1) := by
        match j, h1, h6 with
        | 1, _, _ => exact Nat.le_refl _
        | 2, _, _ => exact Nat.le_refl _
        | 3, _, _ => exact Nat.le_refl _
        | 4, _, _ => exact Nat.le_refl _
        | 5, _, _ => exact Nat.le_refl _
        | 6, _, _ => show β 0 0 - 1 ≤ β 0 0 + 1 - 1; omega
      omega
  · rw [zA_0] at hp hq
    have o : ∀ p, p < β 0 0 → β 6 p < β 0 0 := fun p hp => hI.ord hp
    have nw : zA β k v 6 (β 0 0) = β 0 0 := rfl.trans (zA_new (by decide))
    by_cases c1 : p = β 0 0
    · by_cases c2 : q = β 0 0
      · omega
      · rw [c1, nw, zA_old (by omega) (by decide)] at e
        have := o q (by omega)
        omega
    · by_cases c2 : q = β 0 0
      · rw [c2, nw, zA_old (by omega) (by decide)] at e
        have := o p (by omega)
        omega
      · rw [zA_old (by omega) (by decide), zA_old (by omega) (by decide)] at e
        exact hI.2.2 p q (by omega) (by omega) e
theorem op_guest (v1 v2 : Int32) (σ τ : rp_St) (h : RR σ τ) : OK (fX6_guest v1 v2 σ) (fX7_guest v1 v2 τ) := by
  obtain ⟨β, hI, hX, hM⟩ := h.1.1
  have hX : BX β σ 0 := hX
  have h7 := hI.1
  unfold fX6_guest fX7_guest fX6_isKindAndNumber fX7_isKindM fX7_isRue fX6_guest_18 fX7_guest_14
  rcases zW' v1 0 69 0 69 rfl rfl (by decide) (by decide) with ⟨a1, a2⟩ | ⟨k, _, hk, rfl, a1, a2⟩
  · simp only [a1, a2, z_bd, z_bi, z_gb0, ↓reduceIte]
    exact rf1 h
  rcases zW' v2 0 999 0 999 rfl rfl (by decide) (by decide) with ⟨b1, b2⟩ | ⟨v, _, hv, rfl, b1, b2⟩
  · simp only [a1, a2, b1, b2, z_bd, z_bi, z_gb0, z_gb1, z10, ↓reduceIte]
    exact rf1 h
  simp only [a1, a2, b1, b2, z_bd, z_bi, z_gb1, z10, ↓reduceIte]
  rw [z_g zc1, zl1, hX.1, hM.1]
  by_cases c : β 0 0 = 7
  · rw [c, if_neg (show ¬ nI 7 < (7 : Int32) by decide +kernel), if_pos (show nI 7 = (7 : Int32) from rfl)]
    exact rf4 h
  · rw [if_pos (show nI (β 0 0) < (7 : Int32) from (z_lt (b := 7) (by omega) (by omega)).mpr (by omega)), if_neg (show ¬ nI (β 0 0) = (7 : Int32) from fun z => c ((z_eq (b := 7) (by omega) (by omega)).mp z))]
    have hI' := hI.A (by omega) hk hv
    have d1 : (nI k / 10 : Int32) = nI (k / 10) := pk_div (a := k) (d := 10) (by omega) (by omega) (by omega)
    have d2 : (nI k - nI k / 10 * 10 : Int32) = nI (k % 10) := z_rem (d := 10) (by omega) (by omega) (by omega)
    unfold fX0_admit fX7_comes
    rw [z_nm, z_g zc1, zl1, z_nm, show σ (7 * 0) 0 = nI (β 0 0) from hX.1, hM.1, d2, d1, show (0 : Int32) = nI 0 from rfl, show (1 : Int32) = nI 1 from rfl, show (2 : Int32) = nI 2 from rfl, show (3 : Int32) = nI 3 from rfl, show (4 : Int32) = nI 4 from rfl]
    have e5 : (5 + nI (β 0 0) : Int32) = nI (5 + β 0 0) := nI_add 5 _
    have gX : rp_in (nI (β 0 0)) 7 = true := z_in (by omega) (by omega)
    have gM : ∀ f, f < 5 → rp_in (nI (12 + 5 * β 0 0 + f)) 221 = true := fun f hf => z_in (by omega) (by omega)
    have cM : ∀ f, f < 5 → (nI (12 + 5 * β 0 0 + f)).toNatClampNeg = 12 + 5 * β 0 0 + f := fun f hf => z_cl (by omega)
    have g5 : rp_in (nI (5 + β 0 0)) 221 = true := z_in (by omega) (by omega)
    have g1 : rp_in (nI 1) 221 = true := zc1
    have l1 : (nI 1).toNatClampNeg = 1 := zl1
    simp only [zm_at, z_bd, z_nm, z_g gX, e5, z_cl (show β 0 0 < 1000000 by omega), z_g (gM 0 (by decide)), z_g (gM 1 (by decide)), z_g (gM 2 (by decide)), z_g (gM 3 (by decide)), z_g (gM 4 (by decide)), cM 0 (by decide), cM 1 (by decide), cM 2 (by decide), cM 3 (by decide), cM 4 (by decide), z_g g5, z_cl (show 5 + β 0 0 < 1000000 by omega), z_g g1, l1]
    refine ok_mk (h.ball (fun j hj => ?_) (fun j hj => ?_) (fun i hi => ?_) ⟨zA β k v, hI', ⟨?_, fun g hg j j1 j6 => ?_⟩, ⟨?_, fun g hg j j1 j6 => ?_⟩⟩)
    · have hj : ¬ j < 7 := fun z => hj (Or.inl z)
      iterate 7 rw [z_putk _ _ _ _ (by omega)]
    · iterate 7 rw [z_putk _ _ _ _ (by omega)]
    · iterate 7 rw [z_pn _ _ _ _ (by omega)]
    · rw [z_p]
      iterate 6 rw [z_pn _ _ _ _ (by omega)]
      rw [show σ (7 * 0) 0 = nI (β 0 0) from hX.1, nI_add]
      rfl
    · rw [zA_0] at hg
      by_cases c : g = β 0 0
      · subst c
        rw [zA_new j1]
        match j, j1, j6 with
        | 1, _, _ => iterate 6 rw [z_pn _ _ _ _ (by omega)]
                     rw [z_p]; rfl
        | 2, _, _ => iterate 5 rw [z_pn _ _ _ _ (by omega)]
                     rw [z_p]; rfl
        | 3, _, _ => iterate 4 rw [z_pn _ _ _ _ (by omega)]
                     rw [z_p]; rfl
        | 4, _, _ => iterate 3 rw [z_pn _ _ _ _ (by omega)]
                     rw [z_p]; rfl
        | 5, _, _ => iterate 2 rw [z_pn _ _ _ _ (by omega)]
                     rw [z_p]; rfl
        | 6, _, _ => iterate 1 rw [z_pn _ _ _ _ (by omega)]
                     rw [z_p]; rfl
      · rw [zA_old (by omega) j1]
        iterate 7 rw [z_pn _ _ _ _ (by omega)]
        exact hX.2 g (by omega) j j1 j6
    · rw [z_p]
      iterate 6 rw [z_pn _ _ _ _ (by omega)]
      rw [hM.1, nI_add]
      rfl
    · rw [zA_0] at hg
      by_cases c : g = β 0 0
      · subst c
        rw [zA_new j1]
        match j, j1, j6 with
        | 1, _, _ => show _ = nI (k / 10)
                     rw [show zi 1 (β 0 0) = 12 + 5 * β 0 0 + 0 by unfold zi; rw [if_neg (by decide)]; omega]
                     iterate 6 rw [z_pn _ _ _ _ (by omega)]
                     rw [z_p]
        | 2, _, _ => show _ = nI (k % 10)
                     rw [show zi 2 (β 0 0) = 12 + 5 * β 0 0 + 1 by unfold zi; rw [if_neg (by decide)]; omega]
                     iterate 5 rw [z_pn _ _ _ _ (by omega)]
                     rw [z_p]
        | 3, _, _ => show _ = nI v
                     rw [show zi 3 (β 0 0) = 12 + 5 * β 0 0 + 2 by unfold zi; rw [if_neg (by decide)]; omega]
                     iterate 4 rw [z_pn _ _ _ _ (by omega)]
                     rw [z_p]
        | 4, _, _ => show _ = nI 0
                     rw [show zi 4 (β 0 0) = 12 + 5 * β 0 0 + 3 by unfold zi; rw [if_neg (by decide)]; omega]
                     iterate 3 rw [z_pn _ _ _ _ (by omega)]
                     rw [z_p]
        | 5, _, _ => show _ = nI 1
                     rw [show zi 5 (β 0 0) = 12 + 5 * β 0 0 + 4 by unfold zi; rw [if_neg (by decide)]; omega]
                     iterate 2 rw [z_pn _ _ _ _ (by omega)]
                     rw [z_p]
        | 6, _, _ => show _ = nI (β 0 0)
                     rw [show zi 6 (β 0 0) = 5 + β 0 0 by rfl]
                     iterate 1 rw [z_pn _ _ _ _ (by omega)]
                     rw [z_p]
      · rw [zA_old (by omega) j1]
        have z1 : zi j g < 47 ∧ zi j g ≠ 5 + β 0 0 ∧ zi j g ≠ 1 ∧ ¬ (12 + 5 * β 0 0 ≤ zi j g ∧ zi j g ≤ 12 + 5 * β 0 0 + 4) := by
          unfold zi
          split <;> omega
        iterate 7 rw [z_pn _ _ _ _ (by omega)]
        exact hM.2 g (by omega) j j1 j6
