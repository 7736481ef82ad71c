/-! the calls, one after another -/
theorem zW' (v A B : Int32) (a b : Nat) (hA : A = nI a) (hB : B = nI b) (ha : a < 1000000) (hb : b < 1000000) : ((∀ σ, fX6_isWithin v A B σ = some (0, σ)) ∧ (∀ σ, fX7_within v A B σ = some (0, σ))) ∨ (∃ n, a ≤ n ∧ n ≤ b ∧ v = nI n ∧ (∀ σ, fX6_isWithin v A B σ = some (1, σ)) ∧ (∀ σ, fX7_within v A B σ = some (1, σ))) := by
  subst hA
  subst hB
  exact zW v a b ha hb
def sX (k : Nat) : Prop := (14 ≤ k ∧ k < 28) ∨ k = 30 ∨ k = 33 ∨ k = 57 ∨ k = 58
theorem RR.ev {σ σ' τ τ' : rp_St} (h : RR σ τ) (hX : ∀ k, kX k → σ' k = σ k) (hM : ∀ k, k = 0 ∨ k = 2 ∨ k = 4 ∨ k = 10 ∨ k = 11 ∨ k = 12 ∨ k = 13 → τ' k = τ k) (hU : UF σ') (hE : ER 0 σ' (τ' 1)) : RR σ' τ' :=
  ⟨hE, hU, h.2.2.cg hX (fun k hk => hM k (by omega)) (by rw [hM 0 (by omega)]) (by rw [hM 0 (by omega)])⟩
theorem RR.ball {σ σ' τ τ' : rp_St} (h : RR σ τ) (hX : ∀ k, ¬ (k < 7 ∨ sX k) → σ' k = σ k) (hM : ∀ k, k = 0 ∨ k = 2 ∨ k = 4 ∨ k = 10 ∨ k = 11 ∨ k = 12 ∨ k = 13 → τ' k = τ k) (h1 : ∀ i, i = 0 ∨ i = 2 ∨ i = 3 ∨ i = 4 ∨ (47 ≤ i ∧ i < 221) → τ' 1 i = τ 1 i) (hB : EB 0 σ' (τ' 1)) : RR σ' τ' := by
  have x : ∀ k, ¬ (k < 7 ∨ (14 ≤ k ∧ k < 28) ∨ k = 30 ∨ k = 33 ∨ k = 57 ∨ k = 58) → σ' k = σ k := hX
  obtain ⟨_, h2, h3, h4, h5, h6⟩ := h.1
  have x40 := x 40 (by omega)
  refine h.ev (fun k hk => hX k (by unfold kX at hk; unfold sX; omega)) hM ⟨by rw [x 28 (by omega)]; exact h.2.1.1, by rw [x 31 (by omega)]; exact h.2.1.2⟩ ⟨hB, h2.cg (by show σ' 40 7 = _; rw [x40]) (h1 0 (by omega)), h3.cg (by show σ' 40 8 = _; rw [x40]) (h1 2 (by omega)), h4.cg (by show σ' 40 4 = _; rw [x40]) (fun i _ => by show σ' 41 i = _; rw [x 41 (by omega)]) (h1 3 (by omega)) (fun i p q => h1 i (by omega)), h5.cg (by show σ' 40 6 = _; rw [x40]) (fun i _ => by show σ' 42 i = _; rw [x 42 (by omega)]) (h1 4 (by omega)) (fun i p q => h1 i (by omega)), h6.cg (fun k hk => x k (by omega)) (fun i p q => h1 i (by omega))⟩
/-- nothing but scratch -/
theorem RR.sc {σ σ' τ τ' : rp_St} (h : RR σ τ) (hX : ∀ k, ¬ sX k → σ' k = σ k) (hM : ∀ k, k = 0 ∨ k = 2 ∨ k = 4 ∨ k = 10 ∨ k = 11 ∨ k = 12 ∨ k = 13 → τ' k = τ k) (h1 : ∀ i, i < 221 → τ' 1 i = τ 1 i) : RR σ' τ' :=
  h.ball (fun k hk => hX k (fun z => hk (Or.inr z))) hM (fun i hi => h1 i (by omega)) (h.1.1.cg (fun k _ q => hX k (by unfold sX; omega)) (fun i _ => h1 i (by omega)))
/-- one slot of the evening's own cell, one of the reference's -/
theorem RR.one {σ τ : rp_St} (h : RR σ τ) {c i j : Nat} {v w : Int32} (hc : c = 40 ∨ c = 41 ∨ c = 42) (hE : ER 0 (rp_put σ c i v) (rp_put τ 1 j w 1)) : RR (rp_put σ c i v) (rp_put τ 1 j w) :=
  h.ev (fun k hk => z_putk _ _ _ _ (by unfold kX at hk; omega)) (fun k hk => z_putk _ _ _ _ (by omega)) ⟨by rw [z_putk _ _ _ _ (by omega)]; exact h.2.1.1, by rw [z_putk _ _ _ _ (by omega)]; exact h.2.1.2⟩ hE
theorem z_p (σ : rp_St) (k i : Nat) (v : Int32) : rp_put σ k i v k i = v := by rw [z_put, if_pos ⟨rfl, rfl⟩]
theorem z_pn (σ : rp_St) (k i : Nat) (v : Int32) {j i' : Nat} (h : ¬ (j = k ∧ i' = i)) : rp_put σ k i v j i' = σ j i' := by rw [z_put, if_neg h]
theorem op_seed (v1 : Int32) (σ τ : rp_St) (h : RR σ τ) : OK (fX6_seed v1 σ) (fX7_seed v1 τ) := by
  obtain ⟨h1, h2, h3, h4, h5, h6⟩ := h.1
  unfold fX6_seed fX7_seed fX7_turn
  rw [z_nm, z_nm, z_g zc2, z_nm, z_g zc2, z_nm, z_bd, zl2, show σ 40 8 = τ 1 2 from h3]
  refine ok_mk (h.one (Or.inl rfl) ⟨h1.cg (fun k _ q => z_putk _ _ _ _ (by omega)) (fun i _ => z_pn _ _ _ _ (by omega)), h2.cg (z_pn _ _ _ _ (by omega)) (z_pn _ _ _ _ (by omega)), ?_, h4.cg (z_pn _ _ _ _ (by omega)) (fun i _ => z_pn _ _ _ _ (by omega)) (z_pn _ _ _ _ (by omega)) (fun i _ _ => z_pn _ _ _ _ (by omega)), h5.cg (z_pn _ _ _ _ (by omega)) (fun i _ => z_pn _ _ _ _ (by omega)) (z_pn _ _ _ _ (by omega)) (fun i _ _ => z_pn _ _ _ _ (by omega)), h6.cg (fun k hk => z_putk _ _ _ _ (by omega)) (fun i _ _ => z_pn _ _ _ _ (by omega))⟩)
  · show rp_put σ 40 8 v1 40 8 = rp_put τ 1 2 v1 1 2
    rw [z_p, z_p]

theorem op_told (v1 : Int32) (σ τ : rp_St) (h : RR σ τ) : OK (fX6_told v1 σ) (fX7_told v1 τ) := by
  unfold fX6_told fX7_told
  rcases zW' v1 1 5 1 5 rfl rfl (by decide) (by decide) with ⟨a1, a2⟩ | ⟨k, hk0, hk, rfl, a1, a2⟩
  · simp only [a1, a2, z_bd, z_bi, ↓reduceIte]
    exact rf1 h
  · simp only [a1, a2, z_bd, z10, ↓reduceIte]
    rw [z_g (z_in (by omega) (by omega)), z_g (z_in (by omega) (by omega)), z_cl (by omega), h.2.2.2.1 k (by omega)]
    exact ok_mk h
theorem op_trace (v1 : Int32) (σ τ : rp_St) (h : RR σ τ) : OK (fX6_trace v1 σ) (fX7_trace v1 τ) := by
  unfold fX6_trace fX7_trace
  obtain ⟨t, ht, e1, e2, e3⟩ := h.2.2.2.2.2
  rw [e1, e2]
  by_cases t0 : t = 0
  · subst t0
    have w : fX6_isWithin v1 0 (nI 0 - 1) σ = some (0, σ) ∧ fX7_within v1 0 (nI 0 - 1) τ = some (0, τ) := by
      unfold fX6_isWithin fX7_within
      by_cases c : v1 < 0
      · rw [if_pos c, if_pos c]; exact ⟨rfl, rfl⟩
      · have c2 : nI 0 - 1 < v1 := by
          have e0 : (0 : Int32).toInt = 0 := by decide +kernel
          have em : (nI 0 - 1 : Int32).toInt = -1 := by decide +kernel
          rw [Int32.lt_iff_toInt_lt] at c ⊢
          omega
        rw [if_neg c, if_neg c, if_pos c2, if_pos c2]; exact ⟨rfl, rfl⟩
    simp only [w.1, w.2, z_bd, z_bi, ↓reduceIte]
    exact rf2 h
  · rw [show (nI t - 1 : Int32) = nI (t - 1) from pk_sub (a := t) (b := 1) (by omega)]
    rcases zW' v1 0 (nI (t - 1)) 0 (t - 1) rfl rfl (by decide) (by omega) with ⟨a1, a2⟩ | ⟨k, hk0, hk, rfl, a1, a2⟩
    · simp only [a1, a2, z_bd, z_bi, ↓reduceIte]
      exact rf2 h
    · simp only [a1, a2, z_bd, z10, ↓reduceIte]
      rw [z_g (z_in (by omega) (by omega)), z_g (z_in (by omega) (by omega)), z_cl (by omega), e3 k (by omega)]
      exact ok_mk h
theorem op_peg (v1 : Int32) (σ τ : rp_St) (h : RR σ τ) : OK (fX6_peg v1 σ) (fX7_peg v1 τ) := by
  obtain ⟨β, hI, hX, hM⟩ := h.1.1
  have hX : BX β σ 0 := hX
  have h7 := hI.1
  unfold fX6_peg fX7_peg fX6_isPeg
  rcases zGu v1 hI hX hM with ⟨a1, a2⟩ | ⟨g, hg, rfl, a1, a2⟩
  · simp only [a1, a2, z_bd, z_bi, z_gb0, ↓reduceIte]
    exact rf1 h
  · simp only [a1, a2, z_bd, z10, z_gb1, ↓reduceIte]
    rw [show (5 + nI g : Int32) = nI (5 + g) from nI_add 5 g, z_g (z_in (by omega) (by omega)), z_g (z_in (by omega) (by omega)), z_cl (by omega), z_cl (by omega), z_ord hM hg, show σ 6 g = nI (β 6 g) from hX.2 g hg 6 (by decide) (by decide)]
    exact ok_mk h
theorem op_wrongs (σ τ : rp_St) (h : RR σ τ) : OK (fX6_wrongs σ) (fX7_wrongs τ) := by
  obtain ⟨β, hI, hX, hM⟩ := h.1.1
  unfold fX6_wrongs
  rw [zx_wrong hI hX, zm_wrong hI hM, z_bd]
  exact ok_mk h
theorem op_hang (v1 v2 : Int32) (σ τ : rp_St) (h : RR σ τ) : OK (fX6_hang v1 v2 σ) (fX7_hang v1 v2 τ) := by
  obtain ⟨β, hI, hX, hM⟩ := h.1.1
  have hX : BX β σ 0 := hX
  have h7 := hI.1
  unfold fX6_hang fX7_hang fX6_isPeg fX6_hang_16 fX7_hang_25
  rcases zGu v1 hI hX hM with ⟨a1, a2⟩ | ⟨g, hg, rfl, a1, a2⟩
  · simp only [a1, a2, z_bd, z_bi, z_gb0, ↓reduceIte]
    exact rf1 h
  · rcases zGu v2 hI hX hM with ⟨b1, b2⟩ | ⟨g2, hg2, rfl, b1, b2⟩
    · simp only [a1, a2, b1, b2, z_bd, z_bi, z_gb0, z_gb1, z10, ↓reduceIte]
      exact rf1 h
    · simp only [a1, a2, b1, b2, z_bd, z_bi, z_gb1, z10, ↓reduceIte]
      obtain ⟨σ', e1, hX', f1⟩ := zx_xch (b := 0) hI hX hg hg2
      obtain ⟨τ', e2, hM', f2, f3⟩ := zm_xch hI hM hg hg2
      have hI' := hI.xch hg hg2
      rw [e1, e2, z_bd, z_g (z_in (by omega) (by omega)), z_cl (by omega), show σ' 6 g = nI (zx β g g2 6 g) from hX'.2 g (by rw [hI'.2]; exact hg) 6 (by decide) (by decide)]
      exact ok_mk (h.ball (fun k hk => f1 k (fun z => hk (Or.inl (by omega)))) (fun k hk => f2 k (by omega)) (fun i hi => f3 i (by omega)) ⟨_, hI'.1, hX', hM'⟩)
