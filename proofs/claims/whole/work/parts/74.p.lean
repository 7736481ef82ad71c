theorem z_cmp1 (a b : Int64) : (0 < lg_cmp a b) ↔ b < a := by
  unfold lg_cmp
  by_cases c : a > b
  · rw [if_pos c]
    exact ⟨fun _ => c, fun _ => by decide +kernel⟩
  · rw [if_neg c]
    constructor
    · intro z
      split at z
      · exact absurd z (by decide +kernel)
      · exact absurd z (by decide +kernel)
    · intro z
      exact absurd z c
theorem z_cmp2 (a b : Int64) : (lg_cmp a b ≤ 0) ↔ ¬ b < a := by
  unfold lg_cmp
  by_cases c : a > b
  · rw [if_pos c]
    exact ⟨fun z => absurd z (by decide +kernel), fun z => absurd c z⟩
  · rw [if_neg c]
    constructor
    · intro _
      exact c
    · intro _
      split
      · decide +kernel
      · decide +kernel
theorem z_long {a c n : Nat} (ha : a < 2147483648) (hc : c < 2147483648) (hn : n < 1000000) : ((nI n).toInt64 < (nI a).toInt64 + (nI c).toInt64) ↔ n < a + c := by
  rw [nI_l (n := n) (by omega), nI_l (n := a) (by omega), nI_l (n := c) (by omega), lN_add]
  exact pk_lLT (by omega) (by omega)
theorem z_sub {a b : Nat} (ha : a < 1000000) (hb : b < 2147483648) (h : b ≤ a) : (nI a - nI b : Int32) = nI (a - b) := pk_sub h
/-- a stretch of a sheet -/
theorem zx_str {s n : Nat} (hn : n ≤ 40) (v w : Int32) : (∀ σ : rp_St, σ (46 + 2 * s) 1 = nI n → fX4_hasStretch s v w σ = some (0, σ)) ∧ (v < 0 ∨ w < 0 ∨ ∃ a c, a < 2147483648 ∧ c < 2147483648 ∧ v = nI a ∧ w = nI c ∧ n < a + c) ∨ (∃ a c, v = nI a ∧ w = nI c ∧ a + c ≤ n ∧ ∀ σ : rp_St, σ (46 + 2 * s) 1 = nI n → fX4_hasStretch s v w σ = some (1, σ)) := by
  by_cases c1 : w < 0
  · left
    exact ⟨fun σ _ => by unfold fX4_hasStretch; rw [if_pos c1], Or.inr (Or.inl c1)⟩
  by_cases c2 : v < 0
  · left
    exact ⟨fun σ _ => by unfold fX4_hasStretch; rw [if_neg c1, if_pos c2], Or.inl c2⟩
  obtain ⟨c, e1, hc⟩ := z_nat c1
  obtain ⟨a, e2, ha⟩ := z_nat c2
  by_cases c3 : n < a
  · left
    refine ⟨fun σ h => ?_, Or.inr (Or.inr ⟨a, c, ha, hc, e2, e1, by omega⟩)⟩
    unfold fX4_hasStretch
    rw [if_neg c1, if_neg c2, h, if_pos (by rw [e2]; exact nI_lt c3 ha)]
  have c3' : ¬ nI n < v := by rw [e2]; exact nI_nlt (by omega) (by omega)
  have e3 : (nI n - v : Int32) = nI (n - a) := by rw [e2]; exact pk_sub (by omega)
  by_cases c4 : n - a < c
  · left
    refine ⟨fun σ h => ?_, Or.inr (Or.inr ⟨a, c, ha, hc, e2, e1, by omega⟩)⟩
    unfold fX4_hasStretch
    rw [if_neg c1, if_neg c2, h, if_neg c3', e3, if_pos (by rw [e1]; exact nI_lt c4 hc)]
  · right
    refine ⟨a, c, e2, e1, by omega, fun σ h => ?_⟩
    unfold fX4_hasStretch
    rw [if_neg c1, if_neg c2, h, if_neg c3', e3, if_neg (by rw [e1]; exact nI_nlt (by omega) (by omega))]
theorem zm_car {s2 b c s1 a : Nat} (h1 : s1 < 4) (h2 : s2 < 4) (ha : a + c ≤ 40) (hb : b + c ≤ 40) (τ : rp_St) : ∃ τ', rp_lp (fun _ _ _ _ _ _ _ => none) fX7_move_127 300 (nI s1) (nI a) (nI s2) (nI b) (nI c) 0 τ = some (nI c, τ') ∧ fr (fun k => k = 13 ∨ k = 14) τ τ' ∧ ∀ j, τ' 13 j = if 40 * s2 + b ≤ j ∧ j < 40 * s2 + b + c then τ 13 (40 * s1 + a + (j - (40 * s2 + b))) else τ 13 j := by
  have second : ∀ (r k N : Nat) (τ1 : rp_St), k + r = c → r < N → ∃ τ', rp_lp (fun _ _ _ _ _ => none) fX7_move_164 N (nI s2) (nI b) (nI c) (nI k) τ1 = some (nI c, τ') ∧ fr (fun k => k = 13 ∨ k = 14) τ1 τ' ∧ ∀ j, τ' 13 j = if 40 * s2 + b + k ≤ j ∧ j < 40 * s2 + b + c then τ1 14 (j - (40 * s2 + b)) else τ1 13 j := by
    intro r
    induction r with
    | zero =>
      intro k N τ1 hk hN
      obtain ⟨N, rfl⟩ : ∃ M, N = M + 1 := ⟨N - 1, by omega⟩
      rw [z_lp, fX7_move_164, if_pos ((z_le (by omega) (by omega)).mpr (by omega))]
      exact ⟨τ1, rfl, fr_rf, fun j => by rw [if_neg (by omega)]⟩
    | succ r ih =>
      intro k N τ1 hk hN
      obtain ⟨N, rfl⟩ : ∃ M, N = M + 1 := ⟨N - 1, by omega⟩
      rw [z_lp, fX7_move_164, if_neg (by rw [z_le (by omega) (by omega)]; omega), z_g (z_in (by omega) (by omega)), show (40 * nI s2 : Int32) = nI (40 * s2) from pk_mul 40 s2, nI_add, nI_add, z_g (z_in (by omega) (by omega)), z_nm, z_nm, z_cl (by omega), z_cl (by omega), show (nI k + 1 : Int32) = nI (k + 1) from nI_1 _]
      obtain ⟨τ', e1, e2, e3⟩ := ih (k + 1) N (rp_put τ1 13 (40 * s2 + b + k) (τ1 14 k)) (by omega) (by omega)
      refine ⟨τ', e1, fr_tr (fr_put (Or.inl rfl)) e2, fun j => ?_⟩
      rw [e3 j]
      by_cases c1 : 40 * s2 + b + (k + 1) ≤ j ∧ j < 40 * s2 + b + c
      · rw [if_pos c1, if_pos (by omega), z_putk _ _ _ _ (by decide)]
      · rw [if_neg c1]
        by_cases c2 : j = 40 * s2 + b + k
        · rw [c2, z_p, if_pos (by omega), show 40 * s2 + b + k - (40 * s2 + b) = k by omega]
        · rw [z_pn _ _ _ _ (by omega), if_neg (by omega)]
  have first : ∀ (r k N : Nat) (τ1 : rp_St), k + r = c → r < N → fr (fun k => k = 14) τ τ1 → (∀ i, i < k → τ1 14 i = τ 13 (40 * s1 + a + i)) → ∃ τ', rp_lp (fun _ _ _ _ _ _ _ => none) fX7_move_127 N (nI s1) (nI a) (nI s2) (nI b) (nI c) (nI k) τ1 = some (nI c, τ') ∧ fr (fun k => k = 13 ∨ k = 14) τ τ' ∧ ∀ j, τ' 13 j = if 40 * s2 + b ≤ j ∧ j < 40 * s2 + b + c then τ 13 (40 * s1 + a + (j - (40 * s2 + b))) else τ 13 j := by
    intro r
    induction r with
    | zero =>
      intro k N τ1 hk hN f1 g1
      obtain ⟨N, rfl⟩ : ∃ M, N = M + 1 := ⟨N - 1, by omega⟩
      rw [z_lp, fX7_move_127, if_pos ((z_le (by omega) (by omega)).mpr (by omega))]
      obtain ⟨τ', e1, e2, e3⟩ := second c 0 300 τ1 (by omega) (by omega)
      refine ⟨τ', e1, fr_tr (fr_mo f1 (fun k hk => Or.inr hk)) e2, fun j => ?_⟩
      rw [e3 j]
      by_cases c1 : 40 * s2 + b ≤ j ∧ j < 40 * s2 + b + c
      · rw [if_pos c1, if_pos (by omega), g1 _ (by omega)]
      · rw [if_neg c1, if_neg (by omega), f1 13 (by decide)]
    | succ r ih =>
      intro k N τ1 hk hN f1 g1
      obtain ⟨N, rfl⟩ : ∃ M, N = M + 1 := ⟨N - 1, by omega⟩
      rw [z_lp, fX7_move_127, if_neg (by rw [z_le (by omega) (by omega)]; omega), show (40 * nI s1 : Int32) = nI (40 * s1) from pk_mul 40 s1, nI_add, nI_add, z_g (z_in (by omega) (by omega)), z_g (z_in (by omega) (by omega)), z_nm, z_nm, z_cl (by omega), z_cl (by omega), show (nI k + 1 : Int32) = nI (k + 1) from nI_1 _]
      refine ih (k + 1) N _ (by omega) (by omega) (fr_tr f1 (fr_put rfl)) (fun i hi => ?_)
      by_cases c2 : i = k
      · rw [c2, z_p, f1 13 (by decide)]
      · rw [z_pn _ _ _ _ (by omega)]
        exact g1 i (by omega)
  exact first c 0 300 τ (by omega) (by omega) fr_rf (fun i hi => by omega)
theorem op_move (v1 v2 v3 v4 v5 : Int32) (σ τ : rp_St) (h : RR σ τ) : OK (fX6_move v1 v2 v3 v4 v5 σ) (fX7_move v1 v2 v3 v4 v5 τ) := by
  unfold fX6_move fX7_move fX6_move_14 fX7_move_14 fX6_move_52 fX7_move_39 fX6_move_100 fX7_move_117
  rcases zSh v1 with ⟨a1, a2⟩ | ⟨s1, hs1, rfl, a1, a2⟩
  · simp only [a1, a2, z_bd, z_bi, ↓reduceIte]
    exact rf1 h
  rcases zSh v3 with ⟨b1, b2⟩ | ⟨s2, hs2, rfl, b1, b2⟩
  · simp only [a1, a2, b1, b2, z_bd, z_bi, z10, ↓reduceIte]
    exact rf1 h
  simp only [a1, a2, b1, b2, z_bd, z_bi, z10, ↓reduceIte]
  obtain ⟨⟨g1, g2, g3, n, hn, g4, g5⟩, g6⟩ := h.2.2.2.2.1 s1 hs1
  obtain ⟨⟨k1, k2, k3, m, hm, k4, k5⟩, k6⟩ := h.2.2.2.2.1 s2 hs2
  rw [z_cl (show s1 < 1000000 by omega), z_cl (show s2 < 1000000 by omega)]
  repeat (first | rw [z_nm] | rw [z_g (z_in hs1 (show 4 ≤ 1000 by decide))] | rw [z_g (z_in hs2 (show 4 ≤ 1000 by decide))])
  rw [g1, k1, g4, k4]
  by_cases c0 : τ 11 s1 = 0
  · rw [if_pos c0, if_pos c0]; exact rf2 h
  rw [if_neg c0, if_neg c0]
  by_cases d0 : τ 11 s2 = 0
  · rw [if_pos d0, if_pos d0]; exact rf2 h
  rw [if_neg d0, if_neg d0]
  repeat (first | rw [z_nm] | rw [z_g (z_in hs1 (show 4 ≤ 1000 by decide))] | rw [z_g (z_in hs2 (show 4 ≤ 1000 by decide))])
  by_cases q : τ 11 s1 = τ 11 s2
  · rw [if_pos q, if_pos q]
    rcases zx_str (s := s1) hn v2 v5 with ⟨x1, x2⟩ | ⟨a, c, rfl, rfl, hac, x1⟩
    · rw [x1 σ (g2.trans g4), z_bd, if_pos rfl]
      by_cases d1 : v5 < 0
      · rw [if_pos d1]; exact rf1 h
      rw [if_neg d1]
      by_cases d2 : v2 < 0
      · rw [if_pos d2]; exact rf1 h
      rw [if_neg d2]
      by_cases d3 : v4 < 0
      · rw [if_pos d3]; exact rf1 h
      rw [if_neg d3]
      obtain ⟨a, c, ha, hc, rfl, rfl, hac⟩ := (x2.resolve_left d2).resolve_left d1
      repeat (first | rw [z_g (z_in hs1 (show 4 ≤ 1000 by decide))])
      rw [if_pos ((z_cmp1 _ _).mpr ((z_long ha hc (by omega)).mpr hac))]
      exact rf1 h
    · rw [x1 σ (g2.trans g4), z_bd, if_neg (by decide), if_neg (nI_pos (by omega)), if_neg (nI_pos (by omega))]
      rcases zx_str (s := s2) hm v4 (nI c) with ⟨y1, y2⟩ | ⟨b, c', rfl, ec, hbc, y1⟩
      · rw [y1 σ (k2.trans k4), z_bd, if_pos rfl]
        by_cases d3 : v4 < 0
        · rw [if_pos d3]; exact rf1 h
        rw [if_neg d3]
        repeat (first | rw [z_g (z_in hs1 (show 4 ≤ 1000 by decide))])
        rw [if_neg (fun z => by have := (z_long (a := a) (c := c) (n := n) (by omega) (by omega) (by omega)).mp ((z_cmp1 _ _).mp z); omega)]
        repeat (first | rw [z_g (z_in hs2 (show 4 ≤ 1000 by decide))])
        obtain ⟨b, c', hb, hc', rfl, ec, hbc⟩ := (y2.resolve_left d3).resolve_left (nI_pos (by omega))
        have ec : c = c' := (nI_eq (by omega) (by omega)).mp ec
        subst ec
        rw [if_neg (fun z => (z_cmp2 _ _).mp z ((z_long hb (by omega) (by omega)).mpr hbc))]
        exact rf1 h
      · have ec : c = c' := by
          by_cases w : c = c'
          · exact w
          · exact absurd ((nI_eq (by omega) (by omega)).mp ec) w
        subst ec
        rw [y1 σ (k2.trans k4), z_bd, if_neg (by decide), if_neg (nI_pos (by omega))]
        repeat (first | rw [z_g (z_in hs1 (show 4 ≤ 1000 by decide))])
        rw [if_neg (fun z => by have := (z_long (a := a) (c := c) (n := n) (by omega) (by omega) (by omega)).mp ((z_cmp1 _ _).mp z); omega)]
        repeat (first | rw [z_g (z_in hs2 (show 4 ≤ 1000 by decide))])
        rw [if_pos ((z_cmp2 _ _).mpr (fun z => by have := (z_long (a := b) (c := c) (n := m) (by omega) (by omega) (by omega)).mp z; omega))]
        have gd : (!decide (nI a < 0) && !decide (nI b < 0) && !decide (nI c < 0) && decide ((nI a).toNatClampNeg + (nI c).toNatClampNeg ≤ 40) && decide ((nI b).toNatClampNeg + (nI c).toNatClampNeg ≤ 40)) = true := by
          rw [z_cl (by omega), z_cl (by omega), z_cl (by omega), decide_eq_false (nI_pos (by omega)), decide_eq_false (nI_pos (by omega)), decide_eq_false (nI_pos (by omega)), decide_eq_true (by omega), decide_eq_true (by omega)]
          rfl
        rw [z_g gd, z_nm, z_cl (by omega), z_cl (by omega), z_cl (by omega)]
        obtain ⟨τ', e1, e2, e3⟩ := zm_car (s1 := s1) (s2 := s2) (a := a) (b := b) (c := c) hs1 hs2 (by omega) (by omega) τ
        rw [e1]
        refine ok_mk (h.sh (fun k hk => zr_k _ _ _ (by omega)) (fun k hk => e2 k (by omega)) (fun t ht => ?_))
        obtain ⟨p1, p2⟩ := h.2.2.2.2.1 t ht
        rw [zr_k _ _ _ (show 46 + 2 * t ≠ 46 + 2 * s2 + 1 by omega), e2 11 (by omega), e2 12 (by omega)]
        refine ⟨p1, fun i hi => ?_⟩
        rw [e3]
        by_cases c1 : t = s2
        · subst c1
          rw [show 47 + 2 * t = 46 + 2 * t + 1 by omega, zr_c]
          by_cases c2 : b ≤ i ∧ i < b + c
          · rw [pk_cpy_in c2.1 c2.2, if_pos (by omega), show 46 + 2 * s1 + 1 = 47 + 2 * s1 by omega, g6 _ (by omega), show 40 * s1 + a + (40 * t + i - (40 * t + b)) = 40 * s1 + (a + (i - b)) by omega]
          · rw [pk_cpy_out (by omega), if_neg (by omega), show 46 + 2 * t + 1 = 47 + 2 * t by omega]
            exact p2 i hi
        · rw [zr_k _ _ _ (by omega), if_neg (by omega)]
          exact p2 i hi
  · rw [if_neg q, if_neg q]
    exact rf5 h
