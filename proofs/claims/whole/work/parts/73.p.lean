/-! the evening laid aside, and back -/
theorem zr_k (σ : rp_St) (c : Nat) (f : Nat → Int32) {k : Nat} (h : k ≠ c) : rp_row σ c f k = σ k := by rw [z_row, if_neg h]
theorem zr_c (σ : rp_St) (c : Nat) (f : Nat → Int32) : rp_row σ c f c = f := by rw [z_row, if_pos rfl]
def zcc (l j : Nat) (v : Int32) (σ : rp_St) : rp_St := rp_put (rp_row σ (28 + 3 * l + 1) (va_cpy (σ j) (σ (28 + 3 * l + 1)) 0 0 50)) (28 + 3 * l) 1 v
theorem zcc_eq (l j : Nat) {n : Nat} {v : Int32} {σ : rp_St} (hn : n ≤ 50) (hv : v = nI n) : fX2_takeCode l j v σ = some (0, zcc l j v σ) := by
  have h : (if (50 : Int32) < v then (50 : Int32) else v) = v := if_neg (fun z => by rw [hv] at z; have := (z_lt (a := 50) (by omega) (by omega)).mp z; omega)
  have e : fX2_takeCode l j v σ = some (0, zcc l j (if (50 : Int32) < v then (50 : Int32) else v) σ) := rfl
  rw [e, h]
theorem zcc_k {l j : Nat} {v : Int32} {σ : rp_St} {k : Nat} (h : k ≠ 28 + 3 * l) (h2 : k ≠ 28 + 3 * l + 1) : zcc l j v σ k = σ k := by
  unfold zcc
  rw [z_putk _ _ _ _ h, zr_k _ _ _ h2]
theorem zcc_c {l j : Nat} {v : Int32} {σ : rp_St} {i : Nat} (hi : i < 50) : zcc l j v σ (28 + 3 * l + 1) i = σ j i := by
  unfold zcc
  rw [z_putk _ _ _ _ (by omega), zr_c, pk_cpy_in (by omega) (by omega)]
  simp
theorem zcc_s {l j : Nat} {v : Int32} {σ : rp_St} : zcc l j v σ (28 + 3 * l) 1 = v := by
  unfold zcc
  rw [z_p]
theorem zcc_u {l j : Nat} {v : Int32} {σ : rp_St} : zcc l j v σ (28 + 3 * l) 0 = σ (28 + 3 * l) 0 := by
  unfold zcc
  rw [z_pn _ _ _ _ (by omega), zr_k _ _ _ (by omega)]
theorem z_take {g0 g1 : Nat} (hg : (g0 = 0 ∧ g1 = 1) ∨ (g0 = 1 ∧ g1 = 0)) {σ : rp_St} {ν : Nat → Int32} (h : ER g1 σ ν) : ∃ σ', fX1_takeFrom g0 g1 σ = some (0, σ') ∧ (∀ ν' : Nat → Int32, (∀ i, i < 221 → ν' i = ν i) → ER g0 σ' ν') ∧ (∀ k, ¬ eC g0 k → σ' k = σ k) ∧ σ' (28 + 6 * g0) 0 = σ (28 + 6 * g0) 0 ∧ σ' (31 + 6 * g0) 0 = σ (31 + 6 * g0) 0 ∧ σ' (40 + 3 * g0) 7 = ν 0 := by
  obtain ⟨⟨β, hI, hX, hM⟩, ⟨t, ht, e1, e2⟩, h3, ⟨h4, h4b⟩, h5, h6⟩ := h
  obtain ⟨σ2, d2⟩ : ∃ s, s = zt7 g0 g1 σ := ⟨_, rfl⟩
  have f2 : ∀ k, ¬ (7 * g0 ≤ k ∧ k < 7 * g0 + 7) → σ2 k = σ k := fun k hk => by rw [d2]; exact zt7_fr g0 g1 σ k hk
  have X2 : BX β σ2 (7 * g0) := by rw [d2]; exact zt7_X (by omega) hI hX
  obtain ⟨σ4, d4⟩ : ∃ s, s = zcc (2 * g0) (28 + 3 * (2 * g1) + 1) (σ2 (28 + 3 * (2 * g1)) 1) σ2 := ⟨_, rfl⟩
  have f4 : ∀ k, k ≠ 28 + 6 * g0 → k ≠ 29 + 6 * g0 → σ4 k = σ2 k := fun k p q => by rw [d4]; exact zcc_k (by omega) (by omega)
  have s4 : σ4 (28 + 6 * g0) 1 = σ (28 + 6 * g1) 1 := by
    rw [d4, show 28 + 6 * g0 = 28 + 3 * (2 * g0) by omega, zcc_s, f2 _ (by omega), show 28 + 3 * (2 * g1) = 28 + 6 * g1 by omega]
  have u4 : σ4 (28 + 6 * g0) 0 = σ (28 + 6 * g0) 0 := by
    rw [d4, show 28 + 6 * g0 = 28 + 3 * (2 * g0) by omega, zcc_u, f2 _ (by omega)]
  have c4 : ∀ i, i < 50 → σ4 (29 + 6 * g0) i = σ (29 + 6 * g1) i := by
    intro i hi
    rw [d4, show 29 + 6 * g0 = 28 + 3 * (2 * g0) + 1 by omega, zcc_c hi, f2 _ (by omega), show 28 + 3 * (2 * g1) + 1 = 29 + 6 * g1 by omega]
  obtain ⟨σ6, d6⟩ : ∃ s, s = zcc (2 * g0 + 1) (28 + 3 * (2 * g1 + 1) + 1) (σ4 (28 + 3 * (2 * g1 + 1)) 1) σ4 := ⟨_, rfl⟩
  have f6 : ∀ k, k ≠ 31 + 6 * g0 → k ≠ 32 + 6 * g0 → σ6 k = σ4 k := fun k p q => by rw [d6]; exact zcc_k (by omega) (by omega)
  have s6 : σ6 (31 + 6 * g0) 1 = σ (31 + 6 * g1) 1 := by
    rw [d6, show 31 + 6 * g0 = 28 + 3 * (2 * g0 + 1) by omega, zcc_s, f4 _ (by omega) (by omega), f2 _ (by omega), show 28 + 3 * (2 * g1 + 1) = 31 + 6 * g1 by omega]
  have u6 : σ6 (31 + 6 * g0) 0 = σ (31 + 6 * g0) 0 := by
    rw [d6, show 31 + 6 * g0 = 28 + 3 * (2 * g0 + 1) by omega, zcc_u, f4 _ (by omega) (by omega), f2 _ (by omega)]
  have c6 : ∀ i, i < 50 → σ6 (32 + 6 * g0) i = σ (32 + 6 * g1) i := by
    intro i hi
    rw [d6, show 32 + 6 * g0 = 28 + 3 * (2 * g0 + 1) + 1 by omega, zcc_c hi, f4 _ (by omega) (by omega), f2 _ (by omega), show 28 + 3 * (2 * g1 + 1) + 1 = 32 + 6 * g1 by omega]
  have t6 : σ6 (40 + 3 * g1 + 1) = σ (41 + 3 * g1) := by
    rw [f6 _ (by omega) (by omega), f4 _ (by omega) (by omega), f2 _ (by omega), show 40 + 3 * g1 + 1 = 41 + 3 * g1 by omega]
  have r6 : ∀ k, 40 ≤ k → σ6 k = σ k := fun k hk => by rw [f6 _ (by omega) (by omega), f4 _ (by omega) (by omega), f2 _ (by omega)]
  have gd : ((!decide (0 < 0) && !decide (0 < 0) && !decide (50 < 0) && decide ((0 : Int32).toNatClampNeg + (50 : Int32).toNatClampNeg ≤ 50) && decide ((0 : Int32).toNatClampNeg + (50 : Int32).toNatClampNeg ≤ 50)) && (List.range 50).all (fun i => (σ6 (40 + 3 * g1 + 1) i).toInt8.toInt32 == σ6 (40 + 3 * g1 + 1) i)) = true := by
    rw [Bool.and_eq_true]
    refine ⟨by decide +kernel, ?_⟩
    rw [List.all_eq_true]
    intro i hi
    rw [List.mem_range] at hi
    rw [t6, beq_iff_eq]
    exact h4b i hi
  have g2 : (!decide (0 < 0) && !decide (0 < 0) && !decide (20 < 0) && decide ((0 : Int32).toNatClampNeg + (20 : Int32).toNatClampNeg ≤ 20) && decide ((0 : Int32).toNatClampNeg + (20 : Int32).toNatClampNeg ≤ 20)) = true := by decide +kernel
  have l50 : (50 : Int32).toNatClampNeg = 50 := by decide +kernel
  have l20 : (20 : Int32).toNatClampNeg = 20 := by decide +kernel
  obtain ⟨n1, hn1, en1, _⟩ := h6.1
  obtain ⟨n2, hn2, en2, _⟩ := h6.2
  have q1 : σ2 (28 + 3 * (2 * g1)) 1 = nI n1 := by
    rw [f2 _ (by omega), show 28 + 3 * (2 * g1) = 28 + 6 * g1 by omega]
    exact en1
  have q2 : σ4 (28 + 3 * (2 * g1 + 1)) 1 = nI n2 := by
    rw [f4 _ (by omega) (by omega), f2 _ (by omega), show 28 + 3 * (2 * g1 + 1) = 31 + 6 * g1 by omega]
    exact en2
  unfold fX1_takeFrom
  rw [zt_eq, z_bd, ← d2, zcc_eq _ _ hn1 q1, z_bd, ← d4, zcc_eq _ _ hn2 q2, z_bd, ← d6, z_g gd, z_nm, z_nm, z_g g2, z_nm, z_nm, z_nm, z_nm, zl0, l50, l20]
  refine ⟨_, rfl, fun ν' hν => ?_, fun k hk => ?_, ?_, ?_, ?_⟩
  · refine ⟨⟨β, hI, X2.fr (fun k p q => ?_), hM.fr2 hI.1 (fun i hi => hν i (by omega))⟩, ⟨t, ht, ?_, (hν 0 (by omega)).trans e2⟩, ?_, ⟨?_, fun i hi => ?_⟩, ?_, ?_, ?_⟩
    · rw [z_putk _ _ _ _ (by omega), z_putk _ _ _ _ (by omega), z_putk _ _ _ _ (by omega), zr_k _ _ _ (by omega), z_putk _ _ _ _ (by omega), zr_k _ _ _ (by omega), f6 _ (by omega) (by omega), f4 _ (by omega) (by omega)]
    · rw [z_pn _ _ _ _ (by omega), z_p, z_pn _ _ _ _ (by omega), zr_k _ _ _ (by omega), z_pn _ _ _ _ (by omega), zr_k _ _ _ (by omega), r6 _ (by omega)]
      exact e1
    · unfold EZ
      rw [z_p, z_pn _ _ _ _ (by omega), z_pn _ _ _ _ (by omega), zr_k _ _ _ (by omega), z_pn _ _ _ _ (by omega), zr_k _ _ _ (by omega), r6 _ (by omega), hν 2 (by omega)]
      exact h3
    · obtain ⟨w, hw, a1, a2, a3⟩ := h4
      refine ⟨w, hw, ?_, (hν 3 (by omega)).trans a2, fun i hi => ?_⟩
      · rw [z_pn _ _ _ _ (by omega), z_pn _ _ _ _ (by omega), z_pn _ _ _ _ (by omega), zr_k _ _ _ (by omega), z_p, zr_k _ _ _ (by omega), r6 _ (by omega)]
        exact a1
      · rw [hν _ (by omega), a3 i hi, z_putk _ _ _ _ (by omega), z_putk _ _ _ _ (by omega), z_putk _ _ _ _ (by omega), zr_k _ _ _ (by omega), z_putk _ _ _ _ (by omega), show 41 + 3 * g0 = 40 + 3 * g0 + 1 by omega, zr_c, pk_cpy_in (by omega) (by omega), t6]
        simp
    · rw [z_putk _ _ _ _ (by omega), z_putk _ _ _ _ (by omega), z_putk _ _ _ _ (by omega), zr_k _ _ _ (by omega), z_putk _ _ _ _ (by omega), show 41 + 3 * g0 = 40 + 3 * g0 + 1 by omega, zr_c, pk_cpy_in (by omega) (by omega), t6, show 0 + (i - 0) = i by omega]
      exact h4b i hi
    · obtain ⟨w, hw, a1, a2, a3⟩ := h5
      refine ⟨w, hw, ?_, (hν 4 (by omega)).trans a2, fun i hi => ?_⟩
      · rw [z_pn _ _ _ _ (by omega), z_pn _ _ _ _ (by omega), z_p, zr_k _ _ _ (by omega), z_pn _ _ _ _ (by omega), zr_k _ _ _ (by omega), r6 _ (by omega)]
        exact a1
      · rw [hν _ (by omega), a3 i hi, z_putk _ _ _ _ (by omega), z_putk _ _ _ _ (by omega), z_putk _ _ _ _ (by omega), show 42 + 3 * g0 = 40 + 3 * g0 + 2 by omega, zr_c, pk_cpy_in (by omega) (by omega), z_putk _ _ _ _ (by omega), zr_k _ _ _ (by omega), r6 _ (by omega), show 40 + 3 * g1 + 2 = 42 + 3 * g1 by omega]
        simp
    · refine h6.1.cg (by decide) ?_ (fun i hi => ?_) (fun i _ _ => hν i (by omega))
      · rw [z_putk _ _ _ _ (by omega), z_putk _ _ _ _ (by omega), z_putk _ _ _ _ (by omega), zr_k _ _ _ (by omega), z_putk _ _ _ _ (by omega), zr_k _ _ _ (by omega), f6 _ (by omega) (by omega)]
        exact s4
      · rw [z_putk _ _ _ _ (by omega), z_putk _ _ _ _ (by omega), z_putk _ _ _ _ (by omega), zr_k _ _ _ (by omega), z_putk _ _ _ _ (by omega), zr_k _ _ _ (by omega), f6 _ (by omega) (by omega), show 28 + 6 * g0 + 1 = 29 + 6 * g0 by omega, show 28 + 6 * g1 + 1 = 29 + 6 * g1 by omega]
        exact c4 i hi
    · refine h6.2.cg (by decide) ?_ (fun i hi => ?_) (fun i _ _ => hν i (by omega))
      · rw [z_putk _ _ _ _ (by omega), z_putk _ _ _ _ (by omega), z_putk _ _ _ _ (by omega), zr_k _ _ _ (by omega), z_putk _ _ _ _ (by omega), zr_k _ _ _ (by omega)]
        exact s6
      · rw [z_putk _ _ _ _ (by omega), z_putk _ _ _ _ (by omega), z_putk _ _ _ _ (by omega), zr_k _ _ _ (by omega), z_putk _ _ _ _ (by omega), zr_k _ _ _ (by omega), show 31 + 6 * g0 + 1 = 32 + 6 * g0 by omega, show 31 + 6 * g1 + 1 = 32 + 6 * g1 by omega]
        exact c6 i hi
  · unfold eC at hk
    rw [z_putk _ _ _ _ (by omega), z_putk _ _ _ _ (by omega), z_putk _ _ _ _ (by omega), zr_k _ _ _ (by omega), z_putk _ _ _ _ (by omega), zr_k _ _ _ (by omega), f6 _ (by omega) (by omega), f4 _ (by omega) (by omega), f2 _ (by omega)]
  · rw [z_putk _ _ _ _ (by omega), z_putk _ _ _ _ (by omega), z_putk _ _ _ _ (by omega), zr_k _ _ _ (by omega), z_putk _ _ _ _ (by omega), zr_k _ _ _ (by omega), f6 _ (by omega) (by omega)]
    exact u4
  · rw [z_putk _ _ _ _ (by omega), z_putk _ _ _ _ (by omega), z_putk _ _ _ _ (by omega), zr_k _ _ _ (by omega), z_putk _ _ _ _ (by omega), zr_k _ _ _ (by omega)]
    exact u6
  · rw [z_pn _ _ _ _ (by omega), z_p, z_pn _ _ _ _ (by omega), zr_k _ _ _ (by omega), z_pn _ _ _ _ (by omega), zr_k _ _ _ (by omega), r6 _ (by omega), e2]
    exact e1
theorem op_image (σ τ : rp_St) (h : RR σ τ) : OK (fX6_image σ) (fX7_image τ) := by
  obtain ⟨h1, h2, ⟨g1, g2⟩, h4, h5, h6⟩ := h
  obtain ⟨σ', e1, e2, e3, e4, e5, e6⟩ := z_take (g0 := 1) (g1 := 0) (Or.inr ⟨rfl, rfl⟩) h1
  obtain ⟨τ', f1, f2, f3⟩ := zm_copy (j0 := 1) (j1 := 2) (by decide) τ
  have e3 : ∀ k, ¬ ((7 ≤ k ∧ k < 14) ∨ (k = 34 ∨ k = 35 ∨ k = 37 ∨ k = 38) ∨ k = 43 ∨ k = 44 ∨ k = 45) → σ' k = σ k := fun k hk => e3 k hk
  unfold fX6_image fX7_image
  rw [e1, z_bd, z_nm, f1, z_bd, z_nm, z_p, z_p, e3 54 (by omega), f3 0 (by decide), g1]
  have ee := e2 (τ' 2) f2
  refine ok_mk ⟨h1.cg (fun k hk => ?_) (fun i _ => ?_), ⟨?_, ?_⟩, ⟨?_, Or.inr (ee.cg (fun k hk => ?_) (fun i _ => ?_))⟩, fun i hi => ?_, h5.cg (fun k p q => ?_) (fun k p q => ?_), h6.cg ?_ ?_ ?_ ?_⟩
  · unfold eC at hk
    rw [z_putk _ _ _ _ (by omega), e3 k (by omega)]
  · rw [z_putk _ _ _ _ (by decide), f3 1 (by decide)]
  · rw [z_putk _ _ _ _ (by decide), e3 28 (by omega)]; exact h2.1
  · rw [z_putk _ _ _ _ (by decide), e3 31 (by omega)]; exact h2.2
  · rw [z_p, z_p]
  · unfold eC at hk
    exact z_putk _ _ _ _ (by omega)
  · rw [z_putk _ _ _ _ (by decide)]
  · rw [z_putk _ _ _ _ (by decide), e3 55 (by omega), z_putk _ _ _ _ (by decide), f3 4 (by decide)]; exact h4 i hi
  · rw [z_putk _ _ _ _ (by omega), e3 k (by omega)]
  · rw [z_putk _ _ _ _ (by omega), f3 k (by omega)]
  · rw [z_putk _ _ _ _ (by omega), e3 59 (by omega)]
  · rw [z_putk _ _ _ _ (by omega), e3 60 (by omega)]
  · rw [z_pn _ _ _ _ (by omega), f3 0 (by decide)]
  · rw [z_putk _ _ _ _ (by omega), f3 10 (by omega)]
theorem op_restore (σ τ : rp_St) (h : RR σ τ) : OK (fX6_restore σ) (fX7_restore τ) := by
  obtain ⟨h1, h2, ⟨g1, g2⟩, h4, h5, h6⟩ := id h
  unfold fX6_restore fX7_restore
  rw [g1, z_bi, z_bi]
  by_cases c : τ 0 3 = 0
  · rw [if_pos c, if_pos c]
    exact rf2 h
  rw [if_neg c, if_neg c]
  have g2 := g2.resolve_left (by rw [g1]; exact c)
  obtain ⟨σ', e1, e2, e3, e4, e5, e6⟩ := z_take (g0 := 0) (g1 := 1) (Or.inl ⟨rfl, rfl⟩) g2
  obtain ⟨τ', f1, f2, f3⟩ := zm_copy (j0 := 2) (j1 := 1) (by decide) τ
  have e3 : ∀ k, ¬ ((k < 7) ∨ (k = 28 ∨ k = 29 ∨ k = 31 ∨ k = 32) ∨ k = 40 ∨ k = 41 ∨ k = 42) → σ' k = σ k := fun k hk => e3 k (by unfold eC; omega)
  rw [e1, z_bd, f1, z_bd, z_g zc0, zl0, f2 0 (by decide), show σ' 40 7 = τ 2 0 from e6]
  refine ok_mk (h.ev (fun k hk => e3 k (by unfold kX at hk; omega)) (fun k hk => f3 k (by omega)) ⟨e4.trans h2.1, e5.trans h2.2⟩ (e2 _ f2))
