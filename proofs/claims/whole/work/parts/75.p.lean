theorem zm_gst {β : zB} {τ : rp_St} (hI : BI β) (hM : BM β (τ 1)) {k : Nat} (hk : k < 1000) : fX7_isGuest (nI k) τ = some (if k < β 0 0 then 1 else 0, τ) := by
  have h7 := hI.1
  have em : (nI (β 0 0) - 1 : Int32).toInt = (β 0 0 : Int) - 1 := pk_sub_toInt (a := β 0 0) (b := 1) (by omega) (by omega)
  have ek : (nI k).toInt = (k : Int) := nI_toInt (by omega)
  unfold fX7_isGuest fX7_within
  rw [z_g zc1, zl1, hM.1, if_neg (nI_pos (by omega))]
  by_cases c : k < β 0 0
  · rw [if_neg (by rw [Int32.lt_iff_toInt_lt]; omega), if_pos c]
    rfl
  · rw [if_pos (by rw [Int32.lt_iff_toInt_lt]; omega), if_neg c]
    rfl
theorem z_min {a b : Nat} (ha : a < 1000000) (hb : b < 1000000) : (if nI a < nI b then nI a else nI b) = nI (min a b) := by
  by_cases c : a < b
  · rw [if_pos ((z_lt ha hb).mpr c), Nat.min_eq_left (by omega)]
  · rw [if_neg (fun z => c ((z_lt ha hb).mp z)), Nat.min_eq_right (by omega)]
theorem op_rues (v1 : Int32) (σ τ : rp_St) (h : RR σ τ) : OK (fX6_rues v1 σ) (fX7_rues v1 τ) := by
  obtain ⟨β, hI, hX, hM⟩ := h.1.1
  have hX : BX β σ 0 := hX
  have h7 := hI.1
  unfold fX6_rues fX7_rues
  rcases zSh v1 with ⟨a1, a2⟩ | ⟨s, hs, rfl, a1, a2⟩
  · simp only [a1, a2, z_bd, z_bi, ↓reduceIte]
    exact rf1 h
  simp only [a1, a2, z_bd, z_bi, z10, ↓reduceIte]
  obtain ⟨⟨g1, g2, g3, m, hm, g4, g5⟩, g6⟩ := h.2.2.2.2.1 s hs
  rw [z_cl (show s < 1000000 by omega)]
  repeat (first | rw [z_nm] | rw [z_g (z_in hs (show 4 ≤ 1000 by decide))])
  rw [g1]
  by_cases c0 : τ 11 s = 0
  · rw [if_pos c0, if_pos c0]; exact rf2 h
  rw [if_neg c0, if_neg c0, g2, g4, hX.1, z_min (by omega) (by omega)]
  have key : ∀ (r k N M : Nat) (σ1 τ1 : rp_St), k + r = min (β 0 0) m → r < N → r < M → RR σ1 τ1 → σ1 0 0 = nI (β 0 0) → τ1 12 s = nI m → OK (rp_lp (fun _ _ _ _ => none) fX6_rues_54 N s (nI (min (β 0 0) m)) (nI k) σ1) (rp_lp (fun _ _ _ => none) fX7_rues_32 M (nI s) (nI k) τ1) := by
    intro r
    induction r with
    | zero =>
      intro k N M σ1 τ1 hk hN hM1 h1 n1 m1
      obtain ⟨N, rfl⟩ : ∃ X, N = X + 1 := ⟨N - 1, by omega⟩
      obtain ⟨M, rfl⟩ : ∃ X, M = X + 1 := ⟨M - 1, by omega⟩
      obtain ⟨γ, jI, jX, jM⟩ := h1.1.1
      have jn : γ 0 0 = β 0 0 := by
        have := jX.1.symm.trans n1
        have j7 := jI.1
        exact (z_eq (by omega) (by omega)).mp this
      rw [z_lp, z_lp, fX6_rues_54, fX7_rues_32, if_pos ((z_le (by omega) (by omega)).mpr (by omega)), z_g (z_in hs (by decide)), z_cl (by omega), m1]
      by_cases c : m ≤ k
      · rw [if_pos ((z_le (by omega) (by omega)).mpr c), show min (β 0 0) m = k by omega]
        exact ok_mk h1
      · rw [if_neg (by rw [z_le (by omega) (by omega)]; exact c), zm_gst jI jM (by omega), jn, if_neg (by omega), z_bd, if_pos rfl, show min (β 0 0) m = k by omega]
        exact ok_mk h1
    | succ r ih =>
      intro k N M σ1 τ1 hk hN hM1 h1 n1 m1
      obtain ⟨N, rfl⟩ : ∃ X, N = X + 1 := ⟨N - 1, by omega⟩
      obtain ⟨M, rfl⟩ : ∃ X, M = X + 1 := ⟨M - 1, by omega⟩
      obtain ⟨γ, jI, jX, jM⟩ := h1.1.1
      have jX : BX γ σ1 0 := jX
      have jn : γ 0 0 = β 0 0 := by
        have := jX.1.symm.trans n1
        have j7 := jI.1
        exact (z_eq (by omega) (by omega)).mp this
      have g6' := (h1.2.2.2.2.1 s hs).2 k (by omega)
      rw [show 47 + 2 * s = 46 + 2 * s + 1 by omega] at g6'
      rw [z_lp, z_lp, fX6_rues_54, fX7_rues_32, if_neg (by rw [z_le (by omega) (by omega)]; omega), z_g (z_in hs (by decide)), z_cl (by omega), z_cl (by omega), m1, if_neg (by rw [z_le (by omega) (by omega)]; omega), zm_gst jI jM (by omega), jn, if_pos (by omega), z_bd, if_neg (by decide), z_g (z_in (show k < 40 by omega) (by decide)), show (40 * nI s : Int32) = nI (40 * s) from pk_mul 40 s, nI_add, z_g (z_in (show 40 * s + k < 160 by omega) (by decide)), z_cl (by omega), g6']
      unfold fX7_isRue
      rcases zW' (τ1 13 (40 * s + k)) 0 999 0 999 rfl rfl (by decide) (by decide) with ⟨b1, b2⟩ | ⟨v, _, hv, ev, b1, b2⟩
      · rw [b1, b2, z_bd, z_bd, z_gb0, z_bd, if_pos rfl, if_pos rfl]
        exact ok_mk h1
      · rw [b1, b2, z_bd, z_bd, z_gb1, z_bd, if_neg (by decide), if_neg (by decide), show (2 : Int32) = nI 2 from rfl, zm_at, z_bd, z_g (z_in (show k < 40 by omega) (by decide)), z_g (z_in (show k < 7 by omega) (by decide)), z_nm, z_nm, z_g (z_in (show 40 * s + k < 160 by omega) (by decide)), z_g (z_in (show 12 + 5 * k + 2 < 221 by omega) (by decide)), z_nm, z_nm, z_cl (by omega), g6', ev, show (nI k + 1 : Int32) = nI (k + 1) from nI_1 _]
        have q := h1.ent jI jX jM (j := 3) (g := k) (v := v) (by omega) (by decide) (by decide) hv (i := 12 + 5 * k + 2) (by unfold zi; rw [if_neg (by decide)]; omega)
        refine ih (k + 1) N M _ _ (by omega) (by omega) (by omega) q.1 ?_ ?_
        · rw [z_putk _ _ _ _ (by decide)]; exact n1
        · rw [z_putk _ _ _ _ (by decide)]; exact m1
  exact key (min (β 0 0) m) 0 300 300 σ τ (by omega) (by omega) (by omega) h hX.1 g4
theorem op_judge (v1 : Int32) (σ τ : rp_St) (h : RR σ τ) : OK (fX6_judge v1 σ) (fX7_judge v1 τ) := by
  obtain ⟨β, hI, hX, hM⟩ := h.1.1
  have hX : BX β σ 0 := hX
  have h7 := hI.1
  unfold fX6_judge fX7_judge
  rcases zSh v1 with ⟨a1, a2⟩ | ⟨s, hs, rfl, a1, a2⟩
  · simp only [a1, a2, z_bd, z_bi, ↓reduceIte]
    exact rf1 h
  simp only [a1, a2, z_bd, z_bi, z10, ↓reduceIte]
  obtain ⟨⟨g1, g2, g3, m, hm, g4, g5⟩, g6⟩ := h.2.2.2.2.1 s hs
  have g2' : σ (46 + 2 * s) 1 = nI m := g2.trans g4
  rw [z_cl (show s < 1000000 by omega)]
  repeat (first | rw [z_nm] | rw [z_g (z_in hs (show 4 ≤ 1000 by decide))])
  rw [g1]
  by_cases c0 : τ 11 s = 0
  · rw [if_pos c0, if_pos c0]; exact rf2 h
  rw [if_neg c0, if_neg c0, g2', hX.1, z_min (by omega) (by omega)]
  have j78 : ∀ k, k < 1000 → fX7_judge_78 (nI s) (nI k) τ = some (if k = m then (if k = β 0 0 then -1 else nI k) else nI k, τ) := by
    intro k hk
    unfold fX7_judge_78
    rw [z_g (z_in hs (by decide)), z_cl (by omega), g4, z_g zc1, zl1, hM.1]
    by_cases c : k = m
    · rw [if_pos (by rw [c]), if_pos c]
      by_cases d : k = β 0 0
      · rw [if_pos (by rw [d]), if_pos d]
      · rw [if_neg (fun z => d ((z_eq (by omega) (by omega)).mp z)), if_neg d]
    · rw [if_neg (fun z => c ((z_eq (by omega) (by omega)).mp z)), if_neg c]
  have key : ∀ (r k N M : Nat), k + r = min (β 0 0) m → r < N → r < M → OK (rp_lp (fun _ _ _ _ => none) fX6_judge_54 N s (nI (min (β 0 0) m)) (nI k) σ) (rp_lp (fun _ _ _ => none) fX7_judge_32 M (nI s) (nI k) τ) := by
    intro r
    induction r with
    | zero =>
      intro k N M hk hN hM1
      obtain ⟨N, rfl⟩ : ∃ X, N = X + 1 := ⟨N - 1, by omega⟩
      obtain ⟨M, rfl⟩ : ∃ X, M = X + 1 := ⟨M - 1, by omega⟩
      have e : fX7_judge_32 (rp_lp (fun _ _ _ => none) fX7_judge_32 M) (nI s) (nI k) τ = fX7_judge_78 (nI s) (nI k) τ := by
        rw [fX7_judge_32, z_g (z_in hs (by decide)), z_cl (by omega), g4]
        by_cases c : m ≤ k
        · rw [if_pos ((z_le (by omega) (by omega)).mpr c)]
        · rw [if_neg (by rw [z_le (by omega) (by omega)]; exact c), zm_gst hI hM (by omega), if_neg (by omega), z_bd, if_pos rfl]
      rw [z_lp, z_lp, fX6_judge_54, if_pos ((z_le (by omega) (by omega)).mpr (by omega)), e, j78 k (by omega), g2', hX.1]
      by_cases c : m = β 0 0
      · rw [if_pos (by rw [c]), if_pos (by omega), if_pos (by omega)]
        exact ok_mk h
      · rw [if_neg (fun z => c ((z_eq (by omega) (by omega)).mp z)), show min (β 0 0) m = k by omega]
        by_cases d : k = m
        · rw [if_pos d, if_neg (by omega)]
          exact ok_mk h
        · rw [if_neg d]
          exact ok_mk h
    | succ r ih =>
      intro k N M hk hN hM1
      obtain ⟨N, rfl⟩ : ∃ X, N = X + 1 := ⟨N - 1, by omega⟩
      obtain ⟨M, rfl⟩ : ∃ X, M = X + 1 := ⟨M - 1, by omega⟩
      have g6' := g6 k (by omega)
      rw [show 47 + 2 * s = 46 + 2 * s + 1 by omega] at g6'
      rw [z_lp, z_lp, fX6_judge_54, fX7_judge_32, if_neg (by rw [z_le (by omega) (by omega)]; omega), z_g (z_in hs (by decide)), z_cl (by omega), z_cl (by omega), g4, if_neg (show ¬ nI m ≤ nI k by rw [z_le (by omega) (by omega)]; omega), zm_gst hI hM (by omega), if_pos (show k < β 0 0 by omega), z_bd, if_neg (show ¬ (1 : Int32) = 0 by decide), z_g (z_in (show k < 40 by omega) (by decide)), z_g (z_in (show k < 7 by omega) (by decide)), show (40 * nI s : Int32) = nI (40 * s) from pk_mul 40 s, nI_add, show (5 + nI k : Int32) = nI (5 + k) from nI_add 5 k, z_g (z_in (show 40 * s + k < 160 by omega) (by decide)), z_g (z_in (show 5 + k < 221 by omega) (by decide)), z_cl (by omega), z_cl (by omega), g6', z_ord hM (by omega), show σ 6 k = nI (β 6 k) from hX.2 k (by omega) 6 (by decide) (by decide)]
      by_cases c : τ 13 (40 * s + k) = nI (β 6 k)
      · rw [if_pos c, if_pos c, z_nm, z_nm, show (nI k + 1 : Int32) = nI (k + 1) from nI_1 _]
        exact ih (k + 1) N M (by omega) (by omega) (by omega)
      · rw [if_neg c, if_neg c, j78 k (by omega), if_neg (by omega)]
        exact ok_mk h
  exact key (min (β 0 0) m) 0 300 300 (by omega) (by omega) (by omega)
/-! what a law gives -/
def jn (v x y : Int32) : Int32 := if v = 37 then (if y = 0 then 0 else x - x / y * y) else if v = 38 then (if x = 0 then 0 else if y = 0 then 0 else 1) else if v = 42 then x * y else if v = 43 then x + y else if v = 45 then x - y else if v = 47 then (if y = 0 then 0 else x / y) else if v = 60 then (if y ≤ x then 0 else 1) else if v = 61 then (if x = y then 1 else 0) else if v = 62 then (if x ≤ y then 0 else 1) else if v = 124 then (if x = 0 then (if y = 0 then 0 else 1) else 1) else 0
theorem z_nz {β : Type} {y : Int32} (h : ¬ y = 0) (e : Option β) : rp_gu (rp_nz0 y) e = e := z_g (by unfold rp_nz0; rw [decide_eq_false h]; rfl) e
theorem zx_join (v x y : Int32) (σ : rp_St) : fX2_join v x y σ = some (jn v x y, σ) := by
  unfold fX2_join jn fX2_join_100
  have dv : ∀ (a : Int32), (if y = 0 then some ((0 : Int32), σ) else rp_gu (rp_nz0 y) (some (a, σ))) = some (if y = 0 then 0 else a, σ) := by
    intro a
    by_cases c : y = 0
    · rw [if_pos c, if_pos c]
    · rw [if_neg c, if_neg c, z_nz c]
  by_cases c37 : v = 37
  · rw [if_pos c37, if_pos c37]
    exact dv _
  rw [if_neg c37, if_neg c37]
  by_cases c38 : v = 38
  · rw [if_pos c38, if_pos c38]
    (repeat' split) <;> rfl
  rw [if_neg c38, if_neg c38]
  by_cases c42 : v = 42
  · rw [if_pos c42, if_pos c42]
    try rfl
  rw [if_neg c42, if_neg c42]
  by_cases c43 : v = 43
  · rw [if_pos c43, if_pos c43]
    try rfl
  rw [if_neg c43, if_neg c43]
  by_cases c45 : v = 45
  · rw [if_pos c45, if_pos c45]
    try rfl
  rw [if_neg c45, if_neg c45]
  by_cases c47 : v = 47
  · rw [if_pos c47, if_pos c47]
    exact dv _
  rw [if_neg c47, if_neg c47]
  by_cases c60 : v = 60
  · rw [if_pos c60, if_pos c60]
    (repeat' split) <;> rfl
  rw [if_neg c60, if_neg c60]
  by_cases c61 : v = 61
  · rw [if_pos c61, if_pos c61]
    (repeat' split) <;> rfl
  rw [if_neg c61, if_neg c61]
  by_cases c62 : v = 62
  · rw [if_pos c62, if_pos c62]
    (repeat' split) <;> rfl
  rw [if_neg c62, if_neg c62]
  by_cases c124 : v = 124
  · rw [if_pos c124, if_pos c124]
    (repeat' split) <;> rfl
  rw [if_neg c124, if_neg c124]
theorem zm_done {v : Int32} (hv : kO v = true) (x y : Int32) (τ : rp_St) : fX7_done (enc v) x y τ = some (jn (-v) x y, τ) := by
  unfold kO at hv
  simp only [Bool.or_eq_true, decide_eq_true_eq] at hv
  have key : ∀ w, v = w → fX7_done (enc w) x y τ = some (jn (-w) x y, τ) → fX7_done (enc v) x y τ = some (jn (-v) x y, τ) := fun w e h => by rw [e]; exact h
  have dv : ∀ (a : Int32), (if y = 0 then some ((0 : Int32), τ) else rp_gu (rp_nz0 y) (some (a, τ))) = some (if y = 0 then 0 else a, τ) := by
    intro a
    by_cases c : y = 0
    · rw [if_pos c, if_pos c]
    · rw [if_neg c, if_neg c, z_nz c]
  rcases hv with (((((((((e | e) | e) | e) | e) | e) | e) | e) | e) | e)
  · refine key _ e ?_
    rw [show enc (-124) = 20000 by decide +kernel, show (-(-124) : Int32) = 124 by decide +kernel]
    show (if x = 0 then (if y = 0 then some ((0 : Int32), τ) else some (1, τ)) else some (1, τ)) = some (if x = 0 then (if y = 0 then 0 else 1) else 1, τ)
    repeat' split
    all_goals rfl
  · refine key _ e ?_
    rw [show enc (-38) = 20001 by decide +kernel, show (-(-38) : Int32) = 38 by decide +kernel]
    show (if x = 0 then some ((0 : Int32), τ) else if y = 0 then some (0, τ) else some (1, τ)) = some (if x = 0 then 0 else if y = 0 then 0 else 1, τ)
    repeat' split
    all_goals rfl
  · refine key _ e ?_
    rw [show enc (-60) = 20002 by decide +kernel, show (-(-60) : Int32) = 60 by decide +kernel]
    show (if y ≤ x then some ((0 : Int32), τ) else some (1, τ)) = some (if y ≤ x then 0 else 1, τ)
    repeat' split
    all_goals rfl
  · refine key _ e ?_
    rw [show enc (-61) = 20003 by decide +kernel, show (-(-61) : Int32) = 61 by decide +kernel]
    show (if x = y then some ((1 : Int32), τ) else some (0, τ)) = some (if x = y then 1 else 0, τ)
    repeat' split
    all_goals rfl
  · refine key _ e ?_
    rw [show enc (-62) = 20004 by decide +kernel, show (-(-62) : Int32) = 62 by decide +kernel]
    show (if x ≤ y then some ((0 : Int32), τ) else some (1, τ)) = some (if x ≤ y then 0 else 1, τ)
    repeat' split
    all_goals rfl
  · refine key _ e ?_
    rw [show enc (-43) = 20005 by decide +kernel, show (-(-43) : Int32) = 43 by decide +kernel]
    rfl
  · refine key _ e ?_
    rw [show enc (-45) = 20006 by decide +kernel, show (-(-45) : Int32) = 45 by decide +kernel]
    rfl
  · refine key _ e ?_
    rw [show enc (-42) = 20007 by decide +kernel, show (-(-42) : Int32) = 42 by decide +kernel]
    rfl
  · refine key _ e ?_
    rw [show enc (-47) = 20008 by decide +kernel, show (-(-47) : Int32) = 47 by decide +kernel]
    exact dv _
  · refine key _ e ?_
    rw [show enc (-37) = 20009 by decide +kernel, show (-(-37) : Int32) = 37 by decide +kernel]
    exact dv _
