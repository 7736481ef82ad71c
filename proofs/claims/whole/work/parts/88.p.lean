theorem CR.cg2 {c u : Nat} {σ σ' : rp_St} {ν ν' : Nat → Int32} (h : CR c u σ ν) (a : σ' c 1 = σ c 1) (a2 : ∀ i, i < 50 → σ' (c + 1) i = σ (c + 1) i) (b2 : ∀ i, 117 + 52 * u ≤ i → i < 168 + 52 * u → ν' i = ν i) : CR c u σ' ν' := by
  obtain ⟨n, h1, h2, h3, h4, h5⟩ := h
  refine ⟨n, h1, a.trans h2, (b2 _ (by omega) (by omega)).trans h3, fun i hi => ?_, h5.imp_right (fun h => (dp_cg (fun i hi => a2 i (by omega))).trans h)⟩
  rw [b2 _ (by omega) (by omega), a2 i (by omega)]
  exact h4 i hi
theorem RR.tclr {σ τ σ' τ' : rp_St} (h : RR σ τ) (x : ∀ k, k ≠ 57 → k ≠ 58 → k ≠ 40 → σ' k = σ k) (x4 : ∀ i, i ≠ 4 → σ' 40 i = σ 40 i) (x0 : σ' 40 4 = 0) (m : ∀ k, k ≠ 0 → k ≠ 7 → k ≠ 1 → τ' k = τ k) (m1 : ∀ i, i ≠ 3 → τ' 1 i = τ 1 i) (m0 : τ' 1 3 = 0) (m3 : τ' 0 3 = τ 0 3) (m16 : τ' 0 16 = τ 0 16) : RR σ' τ' := by
  obtain ⟨⟨h1, h2, h3, ⟨h4, h4b⟩, h5, h6⟩, hU, hK⟩ := h
  refine ⟨⟨h1.cg (fun k _ q => x k (by omega) (by omega) (by omega)) (fun i hi => m1 i (by omega)), h2.cg (x4 7 (by decide)) (m1 0 (by decide)), h3.cg (x4 8 (by decide)) (m1 2 (by decide)), ⟨⟨0, by decide, x0, m0, fun i hi => by omega⟩, fun i hi => ?_⟩, h5.cg (x4 6 (by decide)) (fun i _ => by show σ' 42 i = _; rw [x 42 (by decide) (by decide) (by decide)]) (m1 4 (by decide)) (fun i _ _ => m1 i (by omega)), h6.cg (fun k hk => x k (by omega) (by omega) (by omega)) (fun i _ _ => m1 i (by omega))⟩, ⟨by rw [x 28 (by decide) (by decide) (by decide)]; exact hU.1, by rw [x 31 (by decide) (by decide) (by decide)]; exact hU.2⟩, hK.cg (fun k hk => by unfold kX at hk; exact x k (by omega) (by omega) (by omega)) (fun k hk => m k (by omega) (by omega) (by omega)) m3 m16⟩
  show (σ' 41 i).toInt8.toInt32 = σ' 41 i
  rw [x 41 (by decide) (by decide) (by decide)]
  exact h4b i hi
theorem RR.newlaw {σ τ τ' : rp_St} (h : RR σ τ) {u n : Nat} (hu : u ≤ 1) (hn : n ≤ 50) (hd : dp (σ 58) n = some 1) (f : ∀ k, ¬ k = 1 → τ' k = τ k) (e1 : τ' 1 (117 + 52 * u) = nI n) (e2 : ∀ i, i < n → τ' 1 (118 + 52 * u + i) = enc (σ 58 i)) (e3 : ∀ i, ¬ (117 + 52 * u ≤ i ∧ i < 168 + 52 * u) → τ' 1 i = τ 1 i) : RR (zcc u 58 (nI n) σ) τ' := by
  obtain ⟨⟨h1, h2, h3, h4, h5, h6⟩, hU, hK⟩ := id h
  have x : ∀ k, k ≠ 28 + 3 * u → k ≠ 28 + 3 * u + 1 → zcc u 58 (nI n) σ k = σ k := fun k p q => zcc_k p q
  have nw : CR (28 + 3 * u) u (zcc u 58 (nI n) σ) (τ' 1) := ⟨n, hn, zcc_s, e1, fun i hi => by rw [zcc_c (by omega)]; exact e2 i hi, Or.inr ((dp_cg (fun i hi => zcc_c (by omega))).trans hd)⟩
  have hE : EL 0 (zcc u 58 (nI n) σ) (τ' 1) := by
    by_cases u0 : u = 0
    · subst u0
      exact ⟨nw, h6.2.cg2 (by rw [x _ (by omega) (by omega)]) (fun i _ => by rw [x _ (by omega) (by omega)]) (fun i p q => e3 i (by omega))⟩
    · have u1 : u = 1 := by omega
      subst u1
      exact ⟨h6.1.cg2 (by rw [x _ (by omega) (by omega)]) (fun i _ => by rw [x _ (by omega) (by omega)]) (fun i p q => e3 i (by omega)), nw⟩
  have hUF : UF (zcc u 58 (nI n) σ) := by
    by_cases u0 : u = 0
    · subst u0
      exact ⟨(zcc_u (l := 0)).trans hU.1, by rw [x 31 (by omega) (by omega)]; exact hU.2⟩
    · have u1 : u = 1 := by omega
      subst u1
      exact ⟨by rw [x 28 (by omega) (by omega)]; exact hU.1, (zcc_u (l := 1)).trans hU.2⟩
  exact h.ev (fun k hk => by unfold kX at hk; exact x k (by omega) (by omega)) (fun k hk => f k (by omega)) hUF ⟨h1.cg (fun k _ q => x k (by omega) (by omega)) (fun i hi => e3 i (by omega)), h2.cg (by rw [x _ (by omega) (by omega)]) (e3 0 (by omega)), h3.cg (by rw [x _ (by omega) (by omega)]) (e3 2 (by omega)), h4.cg (by rw [x _ (by omega) (by omega)]) (fun i _ => by rw [x _ (by omega) (by omega)]) (e3 3 (by omega)) (fun i _ _ => e3 i (by omega)), h5.cg (by rw [x _ (by omega) (by omega)]) (fun i _ => by rw [x _ (by omega) (by omega)]) (e3 4 (by omega)) (fun i _ _ => e3 i (by omega)), hE⟩
/-- the reference writes the code into its row -/
theorem zm_tx {u n : Nat} (hu : u ≤ 1) (hn : n ≤ 50) {τ : rp_St} (h9 : τ 0 9 = nI u) (h12 : τ 0 12 = nI n) : ∃ τ', rp_lp (fun _ _ => none) fX7_text_117 300 0 τ = some (1, τ') ∧ (∀ k, ¬ k = 1 → τ' k = τ k) ∧ (∀ i, i < n → τ' 1 (118 + 52 * u + i) = τ 7 i) ∧ ∀ i, ¬ (118 + 52 * u ≤ i ∧ i < 168 + 52 * u) → τ' 1 i = τ 1 i := by
  have key : ∀ (r k N : Nat) (τ1 : rp_St), k + r = n → r < N → (∀ j, ¬ j = 1 → τ1 j = τ j) → (∀ i, i < k → τ1 1 (118 + 52 * u + i) = τ 7 i) → (∀ i, ¬ (118 + 52 * u ≤ i ∧ i < 168 + 52 * u) → τ1 1 i = τ 1 i) → ∃ τ', rp_lp (fun _ _ => none) fX7_text_117 N (nI k) τ1 = some (1, τ') ∧ (∀ k, ¬ k = 1 → τ' k = τ k) ∧ (∀ i, i < n → τ' 1 (118 + 52 * u + i) = τ 7 i) ∧ ∀ i, ¬ (118 + 52 * u ≤ i ∧ i < 168 + 52 * u) → τ' 1 i = τ 1 i := by
    intro r
    induction r with
    | zero =>
      intro k N τ1 hk hN f1 f2 f3
      obtain ⟨N, rfl⟩ : ∃ X, N = X + 1 := ⟨N - 1, by omega⟩
      rw [z_lp, fX7_text_117, f1 0 (by decide), h12, if_pos ((z_le (by omega) (by omega)).mpr (by omega))]
      exact ⟨τ1, rfl, f1, fun i hi => f2 i (by omega), f3⟩
    | succ r ih =>
      intro k N τ1 hk hN f1 f2 f3
      obtain ⟨N, rfl⟩ : ∃ X, N = X + 1 := ⟨N - 1, by omega⟩
      rw [z_lp, fX7_text_117, f1 0 (by decide), h12, if_neg (show ¬ nI n ≤ nI k by rw [z_le (by omega) (by omega)]; omega), z_g (z_in (show k < 60 by omega) (by decide)), h9, show (52 * nI u : Int32) = nI (52 * u) from pk_mul 52 u, show (117 + nI (52 * u) : Int32) = nI (117 + 52 * u) from nI_add 117 _, show (nI (117 + 52 * u) + 1 : Int32) = nI (118 + 52 * u) by rw [nI_1]; congr 1; omega, nI_add, z_g (z_in (show 118 + 52 * u + k < 221 by omega) (by decide)), z_nm, z_nm, z_cl (by omega), z_cl (by omega), show (nI k + 1 : Int32) = nI (k + 1) from nI_1 _, f1 7 (by decide)]
      refine ih (k + 1) N _ (by omega) (by omega) (fun j hj => by rw [z_putk _ _ _ _ hj]; exact f1 j hj) (fun i hi => ?_) (fun i hi => by rw [z_pn _ _ _ _ (by omega)]; exact f3 i hi)
      by_cases q : i = k
      · subst q
        rw [z_p]
      · rw [z_pn _ _ _ _ (by omega)]
        exact f2 i (by omega)
  exact key n 0 300 τ (by omega) (by omega) (fun _ _ => rfl) (fun i hi => by omega) (fun _ _ => rfl)
/-- the reader's own bytes: nothing else shows them -/
theorem RR.b61 {σ τ : rp_St} (h : RR σ τ) (f : Nat → Int32) : RR (rp_row σ 61 f) τ :=
  ⟨h.1.cg (fun k hk => zr_k _ _ _ (by unfold eC at hk; omega)) (fun _ _ => rfl), ⟨by rw [zr_k _ _ _ (by decide)]; exact h.2.1.1, by rw [zr_k _ _ _ (by decide)]; exact h.2.1.2⟩, h.2.2.cg (fun k hk => zr_k _ _ _ (by unfold kX at hk; omega)) (fun _ _ => rfl) rfl rfl⟩
theorem op_text (v1 : Int32) (σ τ : rp_St) (h : RR σ τ) : OK (fX6_text v1 σ) (fX7_text v1 τ) := by
  unfold fX6_text fX7_text
  rcases zW' v1 0 1 0 1 rfl rfl (by decide) (by decide) with ⟨w1, w2⟩ | ⟨u, _, hu, rfl, w1, w2⟩
  · simp only [w1, w2, z_bd, z_bi, ↓reduceIte]
    exact rf1 h
  rw [w1, w2, z_bd, z_bd, if_neg (show ¬ (1 : Int32) = 0 by decide), if_neg (show ¬ (1 : Int32) = 0 by decide)]
  obtain ⟨_, _, _, ⟨⟨t, ht, t1, t2, t3⟩, t4⟩, _, _⟩ := h.1
  have t1 : σ 40 4 = nI t := t1
  have t3 : ∀ i, i < t → τ 1 (47 + i) = σ 41 i &&& 255 := t3
  have t4 : ∀ i, i < 50 → (σ 41 i).toInt8.toInt32 = σ 41 i := t4
  -- the bytes come to the reader's own row
  obtain ⟨σ1, d1⟩ : ∃ s, s = rp_put σ 57 1 (nI t) := ⟨_, rfl⟩
  obtain ⟨σc, dc⟩ : ∃ s, s = rp_row σ 61 (va_cpy (σ 41) (σ 61) 0 0 t) := ⟨_, rfl⟩
  have hc : RR σc τ := by rw [dc]; exact h.b61 _
  have e57 : σ1 57 1 = nI t := by rw [d1, z_p]
  have e41 : σ1 41 = σ 41 := by rw [d1, z_putk _ _ _ _ (by decide)]
  have e61 : σ1 61 = σ 61 := by rw [d1, z_putk _ _ _ _ (by decide)]
  have c61 : ∀ i, i < t → σc 61 i = σ 41 i := fun i hi => by rw [dc, zr_c, pk_cpy_in (by omega) (by omega), show 0 + (i - 0) = i by omega]
  have B : BS t u σc τ := ⟨ht, hu, t2, fun i hi => by rw [c61 i hi]; exact t3 i hi, fun i hi => by rw [c61 i hi]; exact t4 i (by omega)⟩
  have gd : ((!decide (0 < 0) && !decide (0 < 0) && !decide (nI t < 0) && decide ((0 : Int32).toNatClampNeg + (nI t : Int32).toNatClampNeg ≤ 50) && decide ((0 : Int32).toNatClampNeg + (nI t : Int32).toNatClampNeg ≤ 50)) && (List.range 50).all (fun i => (σ 41 i).toInt8.toInt32 == σ 41 i)) = true := by
    rw [Bool.and_eq_true]
    refine ⟨?_, ?_⟩
    · rw [zl0, z_cl (by omega), decide_eq_false (nI_pos (by omega)), decide_eq_true (show 0 + t ≤ 50 by omega)]
      rfl
    · rw [List.all_eq_true]
      intro i hi
      rw [List.mem_range] at hi
      rw [beq_iff_eq]
      exact t4 i hi
  obtain ⟨s1, ds1⟩ : ∃ s, s = rp_put (rp_put (rp_put (rp_row σ1 61 (va_cpy (σ 41) (σ 61) 0 0 t)) 57 2 (nI u)) 57 3 0) 57 4 0 := ⟨_, rfl⟩
  obtain ⟨τ1, dτ1⟩ : ∃ s, s = rp_put (rp_put (rp_put (rp_put (rp_put τ 0 9 (nI u)) 0 7 0) 0 8 0) 0 10 0) 0 12 0 := ⟨_, rfl⟩
  have P0 : PS t u σc τ 0 0 0 0 s1 τ1 := by
    refine ⟨⟨?_, ?_, ?_, ?_⟩, ⟨?_, ?_, ?_, ?_, ?_⟩, ⟨by omega, by omega, rfl, fun i hi => by omega⟩, fun j p q => ?_, fun j p q => ?_, ?_, ?_⟩
    · rw [ds1, z_pn _ _ _ _ (by omega), z_pn _ _ _ _ (by omega), z_pn _ _ _ _ (by omega), zr_k _ _ _ (by decide)]; exact e57
    · rw [ds1, z_pn _ _ _ _ (by omega), z_pn _ _ _ _ (by omega), z_p]
    · rw [ds1, z_pn _ _ _ _ (by omega), z_p]; rfl
    · rw [ds1, z_p]; rfl
    · rw [dτ1, z_pn _ _ _ _ (by omega), z_pn _ _ _ _ (by omega), z_pn _ _ _ _ (by omega), z_p]; rfl
    · rw [dτ1, z_pn _ _ _ _ (by omega), z_pn _ _ _ _ (by omega), z_p]; rfl
    · rw [dτ1, z_pn _ _ _ _ (by omega), z_pn _ _ _ _ (by omega), z_pn _ _ _ _ (by omega), z_pn _ _ _ _ (by omega), z_p]
    · rw [dτ1, z_pn _ _ _ _ (by omega), z_p]
    · rw [dτ1, z_p]; rfl
    · rw [ds1, z_putk _ _ _ _ p, z_putk _ _ _ _ p, z_putk _ _ _ _ p, dc]
      by_cases c : j = 61
      · subst c
        rw [zr_c, zr_c]
      · rw [zr_k _ _ _ c, zr_k _ _ _ c, d1, z_putk _ _ _ _ p]
    · rw [dτ1, z_putk _ _ _ _ p, z_putk _ _ _ _ p, z_putk _ _ _ _ p, z_putk _ _ _ _ p, z_putk _ _ _ _ p]
    · rw [dτ1, z_pn _ _ _ _ (by omega), z_pn _ _ _ _ (by omega), z_pn _ _ _ _ (by omega), z_pn _ _ _ _ (by omega), z_pn _ _ _ _ (by omega)]
    · rw [dτ1, z_pn _ _ _ _ (by omega), z_pn _ _ _ _ (by omega), z_pn _ _ _ _ (by omega), z_pn _ _ _ _ (by omega), z_pn _ _ _ _ (by omega)]
  obtain ⟨r, σ', v, τ', a1, a2, a3⟩ := text_all B 0 0 0 s1 τ1 P0
  have a1 : (fX3_grp 80).1 0 0 s1 = some (r, σ') := a1
  rw [z_nm, z_nm, z_nm, z_nm, z_nm, ← dτ1, a2, z_bd]
  unfold fX3_reads
  rw [t1, if_neg (show ¬ (50 : Int32) < nI t from fun z => by have := (z_lt (a := 50) (by omega) (by omega)).mp z; omega), z_nm, ← d1, e57, e41, e61, z_g gd, z_nm, z_nm, z_nm, z_nm, zl0, z_cl (by omega), ← ds1, a1, z_bd]
  -- the tape is cleared, whatever came of it
  have clr : ∀ (x : Int32), (∀ j, j ≠ 57 → j ≠ 58 → σ' j = σc j) → (∀ j, j ≠ 0 → j ≠ 7 → τ' j = τ j) → τ' 0 3 = τ 0 3 → τ' 0 16 = τ 0 16 → RR (rp_put σ' 40 4 0) (rp_put (rp_put τ' 0 10 x) 1 3 0) := by
    intro x f1 f2 f3 f4
    refine hc.tclr (fun k p q r => ?_) (fun i hi => ?_) (z_p _ _ _ _) (fun k p q r => ?_) (fun i hi => ?_) (z_p _ _ _ _) ?_ ?_
    · rw [z_putk _ _ _ _ r]; exact f1 k p q
    · rw [z_pn _ _ _ _ (by omega), f1 40 (by decide) (by decide)]
    · rw [z_putk _ _ _ _ r, z_putk _ _ _ _ p]; exact f2 k p q
    · rw [z_pn _ _ _ _ (by omega), z_putk _ _ _ _ (by decide), f2 1 (by decide) (by decide)]
    · rw [z_pn _ _ _ _ (by omega), z_pn _ _ _ _ (by omega)]; exact f3
    · rw [z_pn _ _ _ _ (by omega), z_pn _ _ _ _ (by omega)]; exact f4
  -- refused at k
  have bad : ∀ (k : Nat), (∀ j, j ≠ 57 → j ≠ 58 → σ' j = σc j) → (∀ j, j ≠ 0 → j ≠ 7 → τ' j = τ j) → τ' 0 3 = τ 0 3 → τ' 0 16 = τ 0 16 → σ' 57 3 = nI k → τ' 0 7 = nI k → OK (some ((-10) - rp_put σ' 40 4 0 57 3, rp_put σ' 40 4 0)) (fX7_text_66 τ') := by
    intro k f1 f2 f3 f4 g1 g2
    rw [fX7_text_66, fX7_text_71, z_gb1, z_nm, z_g zc3, zl3, z_nm, z_pn (rp_put τ' 0 10 1) 1 3 0 (j := 0) (i' := 10) (by omega), z_p, if_neg (show ¬ (1 : Int32) = 0 by decide), z_pn σ' 40 4 0 (j := 57) (i' := 3) (by omega), g1, z_pn (rp_put τ' 0 10 1) 1 3 0 (j := 0) (i' := 7) (by omega), z_pn τ' 0 10 1 (j := 0) (i' := 7) (by omega), g2]
    exact ok_mk (clr 1 f1 f2 f3 f4)
  rcases a3 with ⟨rfl, k', s', P, l1, l2⟩ | ⟨rfl, k', l1, ⟨b1, b1f⟩, b2, b3, b4, b5, b6, _⟩
  · obtain ⟨⟨j1, j2, j3, j4⟩, ⟨g1, g2, g3, g4, g5⟩, ⟨k1, k2, k3, k4⟩, f1, f2, f3, f4⟩ := P
    rw [if_neg (show ¬ (1 : Int32) = 0 by decide), g4, if_pos rfl, z_g zc3, zl3, f2 1 (by decide) (by decide), t2, g1, j3, j1]
    by_cases c : k' = t
    · rw [if_pos (show nI k' = nI t by rw [c]), if_pos (show nI t ≤ nI k' from (z_le (by omega) (by omega)).mpr (by omega)), z_bd, z_nm, if_neg (show ¬ (1 : Int32) = 0 by decide)]
      rw [fX7_text_71, z_gb0, z_nm, z_g zc3, z_nm, zl3]
      have R1 := clr 0 f1 f2 f3 f4
      obtain ⟨σa, da⟩ : ∃ s, s = rp_put σ' 40 4 0 := ⟨_, rfl⟩
      obtain ⟨τa, db⟩ : ∃ s, s = rp_put (rp_put τ' 0 10 0) 1 3 0 := ⟨_, rfl⟩
      rw [← da, ← db] at R1 ⊢
      have q10 : τa 0 10 = 0 := by rw [db, z_pn _ _ _ _ (by omega), z_p]
      have q9 : τa 0 9 = nI u := by rw [db, z_pn _ _ _ _ (by omega), z_pn _ _ _ _ (by omega)]; exact g3
      have q12 : τa 0 12 = nI s' := by rw [db, z_pn _ _ _ _ (by omega), z_pn _ _ _ _ (by omega)]; exact g5
      have q7 : τa 7 = τ' 7 := by rw [db, z_putk _ _ _ _ (by decide), z_putk _ _ _ _ (by decide)]
      have p4 : σa 57 4 = nI s' := by rw [da, z_pn _ _ _ _ (by omega)]; exact j4
      have p58 : σa 58 = σ' 58 := by rw [da, z_putk _ _ _ _ (by decide)]
      rw [q10, if_pos rfl, q9, show (52 * nI u : Int32) = nI (52 * u) from pk_mul 52 u, show (117 + nI (52 * u) : Int32) = nI (117 + 52 * u) from nI_add 117 _, z_g (z_in (show 117 + 52 * u < 221 by omega) (by decide)), z_nm, z_cl (by omega), q12]
      obtain ⟨τb, e1, e2, e3, e4⟩ := zm_tx hu (n := s') (τ := rp_put τa 1 (117 + 52 * u) (nI s')) (by omega) (by rw [z_pn _ _ _ _ (by omega)]; exact q9) (by rw [z_pn _ _ _ _ (by omega)]; exact q12)
      rw [e1]
      have ul : fX6_useLaw (nI u) σa = some (u, σa) := by
        unfold fX6_useLaw
        by_cases u0 : u = 0
        · rw [if_pos (by rw [u0]; rfl), u0]
        · rw [if_neg (nI_ne0 (by omega) (by omega)), show u = 1 by omega]
      rw [ul, z_bd, z_g (by rw [decide_eq_true (show u < 4 by omega)]), zcc_eq _ _ (n := s') (by omega) p4, z_bd, p4]
      refine ok_mk (R1.newlaw hu (by omega) (by rw [p58]; exact k3) (fun k hk => by rw [e2 k hk, z_putk _ _ _ _ hk]) (by rw [e4 _ (by omega), z_p]) (fun i hi => ?_) (fun i hi => ?_))
      · rw [e3 i hi, z_putk _ _ _ _ (by decide), q7, p58]
        exact k4 i hi
      · rw [e4 i (by omega), z_pn _ _ _ _ (by omega)]
    · rw [if_neg (show ¬ nI k' = nI t from fun z => c ((z_eq (by omega) (by omega)).mp z)), if_neg (show ¬ nI t ≤ nI k' from fun z => by have := (z_le (by omega) (by omega)).mp z; omega), z_bd, z_nm, if_pos rfl]
      exact bad k' f1 f2 f3 f4 j3 g1
  · rw [if_pos rfl, z_bd, z_nm, if_pos rfl, b3, if_neg (show ¬ (1 : Int32) = 0 by decide)]
    exact bad k' b1f b4 b5 b6 b1 b2
