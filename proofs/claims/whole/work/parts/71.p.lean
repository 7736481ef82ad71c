/-- who is under whom -/
def rU (k u : Nat) : Int32 := if u = 0 then 1 else if k = u then 1 else if k = 4 ∧ u = 1 then 1 else if k = 5 ∧ u = 2 then 1 else if k = 6 ∧ u = 3 then 1 else 0
theorem zU : ∀ (k u : Nat), k ≤ 6 → u ≤ 6 → (∀ σ : rp_St, fX6_isUnder (nI k) (nI u) σ = some (rU k u, σ)) ∧ (∀ τ : rp_St, fX7_isUnder (nI k) (nI u) τ = some (rU k u, τ))
  | 0, 0, _, _ => ⟨fun _ => rfl, fun _ => rfl⟩
  | 0, 1, _, _ => ⟨fun _ => rfl, fun _ => rfl⟩
  | 0, 2, _, _ => ⟨fun _ => rfl, fun _ => rfl⟩
  | 0, 3, _, _ => ⟨fun _ => rfl, fun _ => rfl⟩
  | 0, 4, _, _ => ⟨fun _ => rfl, fun _ => rfl⟩
  | 0, 5, _, _ => ⟨fun _ => rfl, fun _ => rfl⟩
  | 0, 6, _, _ => ⟨fun _ => rfl, fun _ => rfl⟩
  | 1, 0, _, _ => ⟨fun _ => rfl, fun _ => rfl⟩
  | 1, 1, _, _ => ⟨fun _ => rfl, fun _ => rfl⟩
  | 1, 2, _, _ => ⟨fun _ => rfl, fun _ => rfl⟩
  | 1, 3, _, _ => ⟨fun _ => rfl, fun _ => rfl⟩
  | 1, 4, _, _ => ⟨fun _ => rfl, fun _ => rfl⟩
  | 1, 5, _, _ => ⟨fun _ => rfl, fun _ => rfl⟩
  | 1, 6, _, _ => ⟨fun _ => rfl, fun _ => rfl⟩
  | 2, 0, _, _ => ⟨fun _ => rfl, fun _ => rfl⟩
  | 2, 1, _, _ => ⟨fun _ => rfl, fun _ => rfl⟩
  | 2, 2, _, _ => ⟨fun _ => rfl, fun _ => rfl⟩
  | 2, 3, _, _ => ⟨fun _ => rfl, fun _ => rfl⟩
  | 2, 4, _, _ => ⟨fun _ => rfl, fun _ => rfl⟩
  | 2, 5, _, _ => ⟨fun _ => rfl, fun _ => rfl⟩
  | 2, 6, _, _ => ⟨fun _ => rfl, fun _ => rfl⟩
  | 3, 0, _, _ => ⟨fun _ => rfl, fun _ => rfl⟩
  | 3, 1, _, _ => ⟨fun _ => rfl, fun _ => rfl⟩
  | 3, 2, _, _ => ⟨fun _ => rfl, fun _ => rfl⟩
  | 3, 3, _, _ => ⟨fun _ => rfl, fun _ => rfl⟩
  | 3, 4, _, _ => ⟨fun _ => rfl, fun _ => rfl⟩
  | 3, 5, _, _ => ⟨fun _ => rfl, fun _ => rfl⟩
  | 3, 6, _, _ => ⟨fun _ => rfl, fun _ => rfl⟩
  | 4, 0, _, _ => ⟨fun _ => rfl, fun _ => rfl⟩
  | 4, 1, _, _ => ⟨fun _ => rfl, fun _ => rfl⟩
  | 4, 2, _, _ => ⟨fun _ => rfl, fun _ => rfl⟩
  | 4, 3, _, _ => ⟨fun _ => rfl, fun _ => rfl⟩
  | 4, 4, _, _ => ⟨fun _ => rfl, fun _ => rfl⟩
  | 4, 5, _, _ => ⟨fun _ => rfl, fun _ => rfl⟩
  | 4, 6, _, _ => ⟨fun _ => rfl, fun _ => rfl⟩
  | 5, 0, _, _ => ⟨fun _ => rfl, fun _ => rfl⟩
  | 5, 1, _, _ => ⟨fun _ => rfl, fun _ => rfl⟩
  | 5, 2, _, _ => ⟨fun _ => rfl, fun _ => rfl⟩
  | 5, 3, _, _ => ⟨fun _ => rfl, fun _ => rfl⟩
  | 5, 4, _, _ => ⟨fun _ => rfl, fun _ => rfl⟩
  | 5, 5, _, _ => ⟨fun _ => rfl, fun _ => rfl⟩
  | 5, 6, _, _ => ⟨fun _ => rfl, fun _ => rfl⟩
  | 6, 0, _, _ => ⟨fun _ => rfl, fun _ => rfl⟩
  | 6, 1, _, _ => ⟨fun _ => rfl, fun _ => rfl⟩
  | 6, 2, _, _ => ⟨fun _ => rfl, fun _ => rfl⟩
  | 6, 3, _, _ => ⟨fun _ => rfl, fun _ => rfl⟩
  | 6, 4, _, _ => ⟨fun _ => rfl, fun _ => rfl⟩
  | 6, 5, _, _ => ⟨fun _ => rfl, fun _ => rfl⟩
  | 6, 6, _, _ => ⟨fun _ => rfl, fun _ => rfl⟩
theorem rU_01 (k u : Nat) : rU k u = 0 ∨ rU k u = 1 := by
  unfold rU
  repeat' split
  all_goals first | exact Or.inr rfl | exact Or.inl rfl
theorem op_as (v1 v2 : Int32) (σ τ : rp_St) (h : RR σ τ) : OK (fX6_as v1 v2 σ) (fX7_as v1 v2 τ) := by
  obtain ⟨β, hI, hX, hM⟩ := h.1.1
  have hX : BX β σ 0 := hX
  have h7 := hI.1
  unfold fX6_as fX7_as fX6_as_18 fX7_as_18
  rcases zGu v1 hI hX hM with ⟨a1, a2⟩ | ⟨g, hg, rfl, a1, a2⟩
  · simp only [a1, a2, z_bd, z_bi, ↓reduceIte]
    exact rf1 h
  rcases zW' v2 0 6 0 6 rfl rfl (by decide) (by decide) with ⟨b1, b2⟩ | ⟨u, _, hu, rfl, b1, b2⟩
  · simp only [a1, a2, b1, b2, z_bd, z_bi, z10, ↓reduceIte]
    exact rf1 h
  simp only [a1, a2, b1, b2, z_bd, z_bi, z10, ↓reduceIte]
  have k1 : β 1 g ≤ 6 := hI.2.1 g hg 1 (by decide) (by decide)
  obtain ⟨u1, u2⟩ := zU (β 1 g) u k1 hu
  rw [z_g (z_in (by omega) (by omega)), z_cl (by omega), show σ 1 g = nI (β 1 g) from hX.2 g hg 1 (by decide) (by decide), zm_is2 hI hM hg (j := 1) (by decide) (by decide) 0 rfl, z_bd, u1, u2, z_bd, z_bd, zm_is2 hI hM hg (j := 2) (by decide) (by decide) 1 rfl]
  rcases rU_01 (β 1 g) u with q | q
  · rw [q, if_pos rfl, if_pos rfl]
    exact rf5 h
  · rw [q, if_neg (by decide), if_neg (by decide), z_g (z_in (by omega) (by omega)), show σ 2 g = nI (β 2 g) from hX.2 g hg 2 (by decide) (by decide)]
    exact ok_mk h
/-! sheets -/
theorem zSh (v : Int32) : ((∀ σ, fX6_isSheet v σ = some (0, σ)) ∧ (∀ σ, fX7_isSheet v σ = some (0, σ))) ∨ (∃ s, s < 4 ∧ v = nI s ∧ (∀ σ, fX6_isSheet v σ = some (1, σ)) ∧ (∀ σ, fX7_isSheet v σ = some (1, σ))) := by
  have e4 : (4 : Int32).toInt = 4 := by decide +kernel
  have e3 : (3 : Int32).toInt = 3 := by decide +kernel
  have e0 : (0 : Int32).toInt = 0 := by decide +kernel
  rcases zW' v 0 3 0 3 rfl rfl (by decide) (by decide) with ⟨a1, a2⟩ | ⟨s, _, hs, rfl, a1, a2⟩
  · left
    refine ⟨fun σ => ?_, fun σ => by unfold fX7_isSheet; rw [a2, z_bd, z_gb0]⟩
    have a := a1 σ
    unfold fX6_isWithin at a
    unfold fX6_isSheet
    by_cases c : v < 0
    · rw [if_pos c]
    · rw [if_neg c]
      rw [if_neg c] at a
      by_cases c2 : 4 ≤ v
      · rw [if_pos c2]
      · rw [if_neg (show ¬ 3 < v by rw [Int32.lt_iff_toInt_lt]; rw [Int32.le_iff_toInt_le] at c2; omega)] at a
        simp at a
  · right
    refine ⟨s, by omega, rfl, fun σ => ?_, fun σ => by unfold fX7_isSheet; rw [a2, z_bd, z_gb1]⟩
    unfold fX6_isSheet
    rw [if_neg (nI_pos (by omega)), if_neg (show ¬ (4 : Int32) ≤ nI s from fun z => by have := (z_le (a := 4) (by omega) (by omega)).mp z; omega)]
theorem RR.sh {σ σ' τ τ' : rp_St} (h : RR σ τ) (hX : ∀ k, ¬ (46 ≤ k ∧ k < 54) → σ' k = σ k) (hM : ∀ k, ¬ (11 ≤ k ∧ k ≤ 14) → τ' k = τ k) (hS : SR σ' τ') : RR σ' τ' := by
  obtain ⟨h1, h2, ⟨g1, g2⟩, h4, h5, h6⟩ := h
  refine ⟨h1.cg (fun k hk => hX k (by unfold eC at hk; omega)) (fun i _ => by rw [hM 1 (by omega)]), ⟨by rw [hX 28 (by omega)]; exact h2.1, by rw [hX 31 (by omega)]; exact h2.2⟩, ⟨by rw [hX 54 (by omega), hM 0 (by omega)]; exact g1, ?_⟩, fun i hi => by rw [hX 55 (by omega), hM 4 (by omega)]; exact h4 i hi, hS, h6.cg (by rw [hX 59 (by omega)]) (hX 60 (by omega)) (by rw [hM 0 (by omega)]) (hM 10 (by omega))⟩
  rcases g2 with q | q
  · exact Or.inl (by rw [hX 54 (by omega)]; exact q)
  · exact Or.inr (q.cg (fun k hk => hX k (by unfold eC at hk; omega)) (fun i _ => by rw [hM 2 (by omega)]))
theorem zx_lay {w : Nat} : ∀ (r k N : Nat) (σ : rp_St), k + r = 40 → r < N → ∃ σ', rp_lp (fun _ _ => none) (fX4_lay_12 w) N (nI k) σ = some (0, σ') ∧ (∀ i, i < 40 → σ' (46 + 2 * w + 1) i = if k ≤ i then 0 else σ (46 + 2 * w + 1) i) ∧ fr (fun j => j = 46 + 2 * w + 1) σ σ' := by
  intro r
  induction r with
  | zero =>
    intro k N σ hk hN
    obtain ⟨N, rfl⟩ : ∃ M, N = M + 1 := ⟨N - 1, by omega⟩
    rw [z_lp, fX4_lay_12, if_pos (show (40 : Int32) ≤ nI k from (z_le (a := 40) (by omega) (by omega)).mpr (by omega))]
    exact ⟨σ, rfl, fun i hi => by rw [if_neg (by omega)], fr_rf⟩
  | succ r ih =>
    intro k N σ hk hN
    obtain ⟨N, rfl⟩ : ∃ M, N = M + 1 := ⟨N - 1, by omega⟩
    rw [z_lp, fX4_lay_12, if_neg (show ¬ (40 : Int32) ≤ nI k from fun z => by have := (z_le (a := 40) (by omega) (by omega)).mp z; omega), z_g (z_in (by omega) (by omega)), z_nm, z_nm, z_cl (by omega), show (nI k + 1 : Int32) = nI (k + 1) from nI_1 _]
    obtain ⟨σ', e1, e2, e3⟩ := ih (k + 1) N (rp_put σ (46 + 2 * w + 1) k 0) (by omega) (by omega)
    refine ⟨σ', e1, fun i hi => ?_, fr_tr (fr_put rfl) e3⟩
    rw [e2 i hi]
    by_cases c : k + 1 ≤ i
    · rw [if_pos c, if_pos (by omega)]
    · rw [if_neg c]
      by_cases c2 : i = k
      · rw [c2, z_p, if_pos (by omega)]
      · rw [z_pn _ _ _ _ (by omega), if_neg (by omega)]
theorem zm_lay {s : Nat} (hs : s < 4) : ∀ (r k N : Nat) (τ : rp_St), k + r = 40 → r < N → ∃ τ', rp_lp (fun _ _ _ => none) fX7_sheet_93 N (nI s) (nI k) τ = some (1, τ') ∧ (∀ j, τ' 13 j = if 40 * s + k ≤ j ∧ j < 40 * s + 40 then 0 else τ 13 j) ∧ fr (fun j => j = 13) τ τ' := by
  intro r
  induction r with
  | zero =>
    intro k N τ hk hN
    obtain ⟨N, rfl⟩ : ∃ M, N = M + 1 := ⟨N - 1, by omega⟩
    rw [z_lp, fX7_sheet_93, if_pos (show (40 : Int32) ≤ nI k from (z_le (a := 40) (by omega) (by omega)).mpr (by omega))]
    exact ⟨τ, rfl, fun j => by rw [if_neg (by omega)], fr_rf⟩
  | succ r ih =>
    intro k N τ hk hN
    obtain ⟨N, rfl⟩ : ∃ M, N = M + 1 := ⟨N - 1, by omega⟩
    rw [z_lp, fX7_sheet_93, if_neg (show ¬ (40 : Int32) ≤ nI k from fun z => by have := (z_le (a := 40) (by omega) (by omega)).mp z; omega), show (40 * nI s : Int32) = nI (40 * s) from pk_mul 40 s, nI_add, z_g (z_in (by omega) (by omega)), z_nm, z_nm, z_cl (by omega), show (nI k + 1 : Int32) = nI (k + 1) from nI_1 _]
    obtain ⟨τ', e1, e2, e3⟩ := ih (k + 1) N (rp_put τ 13 (40 * s + k) 0) (by omega) (by omega)
    refine ⟨τ', e1, fun j => ?_, fr_tr (fr_put rfl) e3⟩
    rw [e2 j]
    by_cases c : 40 * s + (k + 1) ≤ j ∧ j < 40 * s + 40
    · rw [if_pos c, if_pos (by omega)]
    · rw [if_neg c]
      by_cases c2 : j = 40 * s + k
      · rw [c2, z_p, if_pos (by omega)]
      · rw [z_pn _ _ _ _ (by omega), if_neg (by omega)]
/-- a sheet laid, in both -/
theorem ok_lay {σ τ : rp_St} (h : RR σ τ) {s n : Nat} (hs : s < 4) (hn : n ≤ 40) (b : Int32) (hb : zbt b) (hb0 : b = 0 → n = 0) : OK (rp_bd (fX4_lay s b (nI n) σ) (fun _ σ3 => some (1, σ3))) (rp_gu (rp_in (nI s) 4) (rp_nm (rp_put τ 11 (nI s).toNatClampNeg b) (fun σ1 => rp_gu (rp_in (nI s) 4) (rp_nm (rp_put σ1 12 (nI s).toNatClampNeg (nI n)) (fun σ2 => rp_lp (fun _ _ _ => none) fX7_sheet_93 300 (nI s) 0 σ2))))) := by
  unfold fX4_lay
  repeat (first | rw [z_nm] | rw [z_g (z_in hs (show 4 ≤ 1000 by decide))])
  rw [z_cl (show s < 1000000 by omega)]
  obtain ⟨σ', e1, e2, e3⟩ := zx_lay (w := s) 40 0 300 (rp_put (rp_put σ (46 + 2 * s) 0 b) (46 + 2 * s) 1 (nI n)) (by omega) (by omega)
  obtain ⟨τ', f1, f2, f3⟩ := zm_lay hs 40 0 300 (rp_put (rp_put τ 11 s b) 12 s (nI n)) (by omega) (by omega)
  rw [show (0 : Int32) = nI 0 from rfl, e1, f1, z_bd]
  refine ok_mk (h.sh (fun k hk => ?_) (fun k hk => ?_) (fun t ht => ?_))
  · rw [e3 k (by omega), z_putk _ _ _ _ (by omega), z_putk _ _ _ _ (by omega)]
  · rw [f3 k (by omega), z_putk _ _ _ _ (by omega), z_putk _ _ _ _ (by omega)]
  · obtain ⟨⟨g1, g2, g3, g4⟩, g5⟩ := h.2.2.2.2.1 t ht
    by_cases c : t = s
    · subst c
      rw [e3 (46 + 2 * t) (by omega), f3 11 (by decide), f3 12 (by decide), z_pn (rp_put σ (46 + 2 * t) 0 b) _ _ _ (by omega), z_p, z_p, z_putk _ _ _ _ (by decide), z_p, z_p]
      refine ⟨⟨rfl, rfl, hb, n, hn, rfl, hb0⟩, fun i hi => ?_⟩
      rw [f2, if_pos (by omega)]
      have := e2 i hi
      rw [if_pos (by omega)] at this
      rw [show 47 + 2 * t = 46 + 2 * t + 1 by omega]
      exact this
    · have x0 : σ' (46 + 2 * t) = σ (46 + 2 * t) := by rw [e3 (46 + 2 * t) (by omega), z_putk _ _ _ _ (by omega), z_putk _ _ _ _ (by omega)]
      have x1 : σ' (47 + 2 * t) = σ (47 + 2 * t) := by rw [e3 (47 + 2 * t) (by omega), z_putk _ _ _ _ (by omega), z_putk _ _ _ _ (by omega)]
      have m0 : τ' 11 t = τ 11 t := by rw [f3 11 (by decide), z_putk _ _ _ _ (by decide), z_pn _ _ _ _ (by omega)]
      have m1 : τ' 12 t = τ 12 t := by rw [f3 12 (by decide), z_pn _ _ _ _ (by omega), z_putk _ _ _ _ (by decide)]
      rw [x0, x1, m0, m1]
      refine ⟨⟨g1, g2, g3, g4⟩, fun i hi => ?_⟩
      rw [f2, if_neg (by omega), z_putk _ _ _ _ (by decide), z_putk _ _ _ _ (by decide)]
      exact g5 i hi
theorem op_sheet (v1 v2 v3 : Int32) (σ τ : rp_St) (h : RR σ τ) : OK (fX6_sheet v1 v2 v3 σ) (fX7_sheet v1 v2 v3 τ) := by
  unfold fX6_sheet fX7_sheet fX6_sheet_29 fX7_sheet_29
  rcases zSh v1 with ⟨a1, a2⟩ | ⟨s, hs, rfl, a1, a2⟩
  · simp only [a1, a2, z_bd, z_bi, ↓reduceIte]
    exact rf1 h
  simp only [a1, a2, z_bd, z_bi, z10, ↓reduceIte]
  have key : zbt v2 → OK (fX6_sheet_35 (nI s) v2 v3 σ) (fX7_sheet_36 (nI s) v2 v3 τ) := by
    intro hb
    unfold fX6_sheet_35 fX7_sheet_36 fX7_sheet_51 fX7_sheet_68 fX7_sheet_89
    by_cases c : v2 = 0
    · subst c
      rw [if_pos rfl, if_pos rfl, if_pos rfl]
      simp only [↓reduceIte]
      rw [z_g (z_in (by omega) (by omega)), z_nm, z_cl (by omega)]
      have := ok_lay h hs (n := 0) (by decide) 0 (Or.inl rfl) (fun _ => rfl)
      rw [z_cl (by omega)] at this
      exact this
    · rw [if_neg c, if_neg c]
      simp only [if_neg c, z_bi]
      by_cases c1 : 0 ≤ v3
      · rw [if_pos c1, if_pos c1]
        by_cases c2 : v3 ≤ 40
        · rw [if_pos c2, if_pos c2, z_g (z_in (by omega) (by omega)), z_nm, z_cl (by omega)]
          obtain ⟨n, hn, rfl⟩ := nI_of2 (M := 40) (n := 40) (by decide +kernel) (show ¬ v3 < 0 by rw [Int32.lt_iff_toInt_lt]; rw [Int32.le_iff_toInt_le] at c1; omega) c2
          have := ok_lay h hs hn v2 hb (fun z => absurd z c)
          rw [z_cl (by omega)] at this
          exact this
        · rw [if_neg c2, if_neg c2]
          exact rf1 h
      · rw [if_neg c1, if_neg c1]
        exact rf3 h
  by_cases c0 : v2 = 0
  · rw [if_pos c0, if_pos c0]; exact key (Or.inl c0)
  rw [if_neg c0, if_neg c0]
  by_cases c1 : v2 = 8
  · rw [if_pos c1, if_pos c1]; exact key (Or.inr (Or.inl c1))
  rw [if_neg c1, if_neg c1]
  by_cases c2 : v2 = 16
  · rw [if_pos c2, if_pos c2]; exact key (Or.inr (Or.inr (Or.inl c2)))
  rw [if_neg c2, if_neg c2]
  by_cases c3 : v2 = 32
  · rw [if_pos c3, if_pos c3]; exact key (Or.inr (Or.inr (Or.inr c3)))
  rw [if_neg c3, if_neg c3]
  exact rf1 h
