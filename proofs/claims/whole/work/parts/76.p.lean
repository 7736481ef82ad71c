/-! a law's code at work -/
def vl (v a b c : Int32) : Int32 := if v = -3 then c else if v = -2 then b else if v = -1 then a else v
theorem zx_val (v a b c : Int32) (σ : rp_St) : fX2_valueOf v a b c σ = some (vl v a b c, σ) := by
  unfold fX2_valueOf vl
  by_cases c3 : v = -3
  · rw [if_pos c3, if_pos c3]
  rw [if_neg c3, if_neg c3]
  by_cases c2 : v = -2
  · rw [if_pos c2, if_pos c2]
  rw [if_neg c2, if_neg c2]
  by_cases c1 : v = -1
  · rw [if_pos c1, if_pos c1]
  rw [if_neg c1, if_neg c1]
def stp (a b c v : Int32) (d : Nat) (S : Nat → Int32) : Nat → Int32 := if kV v = true then upd S d (vl v a b c) else if v = -33 then upd S (d - 1) (if S (d - 1) = 0 then 1 else 0) else upd S (d - 2) (jn (-v) (S (d - 2)) (S (d - 1)))
def stk (a b c : Int32) (f : Nat → Int32) : Nat → (Nat → Int32)
  | 0 => fun _ => 0
  | k + 1 => stp a b c (f k) ((dp f k).getD 0) (stk a b c f k)
theorem dp_pre {f : Nat → Int32} : ∀ (n k e : Nat), dp f n = some e → k ≤ n → ∃ d, dp f k = some d := by
  intro n
  induction n with
  | zero =>
    intro k e h hk
    exact ⟨e, by rw [show k = 0 by omega]; exact h⟩
  | succ n ih =>
    intro k e h hk
    by_cases c : k = n + 1
    · exact ⟨e, by rw [c]; exact h⟩
    · unfold dp at h
      cases q : dp f n with
      | none => rw [q] at h; exact absurd h (by simp)
      | some d => exact ih k d q (by omega)
theorem ds_cases {v : Int32} {d d' : Nat} (h : ds v d = some d') : (kV v = true ∧ d' = d + 1) ∨ (kV v = false ∧ v = -33 ∧ 1 ≤ d ∧ d' = d) ∨ (kV v = false ∧ ¬ v = -33 ∧ kO v = true ∧ 2 ≤ d ∧ d' = d - 1) := by
  unfold ds at h
  by_cases c1 : kV v = true
  · rw [if_pos c1] at h
    exact Or.inl ⟨c1, by injection h with h; exact h.symm⟩
  · have c1' : kV v = false := by cases q : kV v with
      | false => rfl
      | true => exact absurd q c1
    rw [if_neg c1] at h
    by_cases c2 : v = -33
    · rw [if_pos c2] at h
      by_cases c3 : 1 ≤ d
      · rw [if_pos c3] at h
        exact Or.inr (Or.inl ⟨c1', c2, c3, by injection h with h; exact h.symm⟩)
      · rw [if_neg c3] at h
        exact absurd h (by simp)
    · rw [if_neg c2] at h
      by_cases c4 : kO v = true
      · rw [if_pos c4] at h
        by_cases c5 : 2 ≤ d
        · rw [if_pos c5] at h
          exact Or.inr (Or.inr ⟨c1', c2, c4, c5, by injection h with h; exact h.symm⟩)
        · rw [if_neg c5] at h
          exact absurd h (by simp)
      · rw [if_neg c4] at h
        exact absurd h (by simp)
theorem dp_le {f : Nat → Int32} : ∀ (n e : Nat), dp f n = some e → e ≤ n := by
  intro n
  induction n with
  | zero =>
    intro e h
    unfold dp at h
    injection h with h
    omega
  | succ n ih =>
    intro e h
    unfold dp at h
    cases q : dp f n with
    | none => rw [q] at h; exact absurd h (by simp)
    | some d =>
      rw [q] at h
      have h : ds (f n) d = some e := h
      have := ih d q
      rcases ds_cases h with ⟨_, r⟩ | ⟨_, _, _, r⟩ | ⟨_, _, _, _, r⟩ <;> omega
theorem dp_step {f : Nat → Int32} {n k e d : Nat} (h : dp f n = some e) (hk : k < n) (hd : dp f k = some d) : ∃ d', dp f (k + 1) = some d' ∧ ds (f k) d = some d' := by
  obtain ⟨d', q⟩ := dp_pre n (k + 1) e h (by omega)
  refine ⟨d', q, ?_⟩
  unfold dp at q
  rw [hd] at q
  exact q
theorem kV_ge {v : Int32} (h : kV v = true) : ¬ v < -3 ∧ ((0 ≤ v ∧ v ≤ 9999) ∨ v = -1 ∨ v = -2 ∨ v = -3) := by
  unfold kV at h
  simp only [Bool.or_eq_true, Bool.and_eq_true, decide_eq_true_eq] at h
  have e3 : (-3 : Int32).toInt = -3 := by decide +kernel
  have e0 : (0 : Int32).toInt = 0 := by decide +kernel
  rcases h with ((h | h) | h) | h
  · refine ⟨?_, Or.inl h⟩
    have := h.1
    rw [Int32.le_iff_toInt_le] at this
    rw [Int32.lt_iff_toInt_lt]
    omega
  · exact ⟨by rw [h]; decide +kernel, Or.inr (Or.inl h)⟩
  · exact ⟨by rw [h]; decide +kernel, Or.inr (Or.inr (Or.inl h))⟩
  · exact ⟨by rw [h]; decide +kernel, Or.inr (Or.inr (Or.inr h))⟩
theorem kO_c {v : Int32} (h : kO v = true) : v < -3 ∧ 20000 ≤ enc v ∧ ¬ enc v = 20010 := by
  unfold kO at h
  simp only [Bool.or_eq_true, decide_eq_true_eq] at h
  rcases h with (((((((((e | e) | e) | e) | e) | e) | e) | e) | e) | e) <;> (rw [e]; decide +kernel)
theorem zx_work {l n : Nat} {f : Nat → Int32} (hn : n ≤ 50) (hd : dp f n = some 1) (a b c : Int32) {σ : rp_St} (h1 : σ (28 + 3 * l) 1 = nI n) (h2 : σ (28 + 3 * l + 1) = f) : ∃ σ'', fX2_work l a b c σ = some (stk a b c f n 0, σ'') ∧ fr (fun k => k = 28 + 3 * l + 2) σ σ'' := by
  have key : ∀ (r k N d : Nat) (σ1 : rp_St), k + r = n → r < N → dp f k = some d → fr (fun k => k = 28 + 3 * l + 2) σ σ1 → (∀ i, i < d → σ1 (28 + 3 * l + 2) i = stk a b c f k i) → ∃ σ'', rp_lp (fun _ _ _ _ _ _ => none) (fX2_work_6 l) N a b c (nI d) (nI k) σ1 = some (stk a b c f n 0, σ'') ∧ fr (fun k => k = 28 + 3 * l + 2) σ σ'' := by
    intro r
    induction r with
    | zero =>
      intro k N d σ1 hk hN hdk f1 hs
      obtain ⟨N, rfl⟩ : ∃ M, N = M + 1 := ⟨N - 1, by omega⟩
      have hk : k = n := by omega
      subst hk
      have d1 : d = 1 := by rw [hd] at hdk; injection hdk with q; exact q.symm
      refine ⟨σ1, ?_, f1⟩
      rw [z_lp, fX2_work_6, f1 (28 + 3 * l) (by omega), h1, if_pos ((z_le (by omega) (by omega)).mpr (Nat.le_refl _)), z_g (show rp_in 0 50 = true by decide +kernel), zl0, hs 0 (by omega)]
    | succ r ih =>
      intro k N d σ1 hk hN hdk f1 hs
      obtain ⟨N, rfl⟩ : ∃ M, N = M + 1 := ⟨N - 1, by omega⟩
      have dk := dp_le k d hdk
      obtain ⟨d', hd', hds⟩ := dp_step hd (by omega) hdk
      have sS : stk a b c f (k + 1) = stp a b c (f k) d (stk a b c f k) := by
        show stp a b c (f k) ((dp f k).getD 0) (stk a b c f k) = _
        rw [hdk]
        rfl
      rw [z_lp, fX2_work_6, f1 (28 + 3 * l) (by omega), h1, if_neg (by rw [z_le (by omega) (by omega)]; omega), z_g (z_in (by omega) (by omega)), z_nm, z_cl (by omega), f1 (28 + 3 * l + 1) (by omega), h2]
      rcases ds_cases hds with ⟨q1, q2⟩ | ⟨q1, q2, q3, q4⟩ | ⟨q1, q2, q3, q4, q5⟩
      · rw [if_neg (kV_ge q1).1, if_neg (show ¬ (50 : Int32) ≤ nI d from fun z => by have := (z_le (a := 50) (by omega) (by omega)).mp z; omega), zx_val, z_bd, z_g (z_in (show d < 50 by omega) (by decide)), z_nm, z_nm, z_cl (by omega), show (nI d + 1 : Int32) = nI (d + 1) from nI_1 _, fX2_work_141, z_nm, show (nI k + 1 : Int32) = nI (k + 1) from nI_1 _, ← q2]
        refine ih (k + 1) N d' _ (by omega) (by omega) hd' (fr_tr f1 (fr_put rfl)) (fun i hi => ?_)
        rw [sS]
        unfold stp
        rw [if_pos q1, z_put]
        by_cases e : i = d
        · rw [if_pos ⟨rfl, e⟩, e, pk_us]
        · rw [if_neg (fun z => e z.2), pk_un e]
          exact hs i (by omega)
      · rw [if_pos (by rw [q2]; decide +kernel), if_pos q2, if_neg (show ¬ nI d < 1 from fun z => by have := (z_lt (b := 1) (by omega) (by omega)).mp z; omega), show (nI d - 1 : Int32) = nI (d - 1) from pk_sub (a := d) (b := 1) (by omega), z_g (z_in (show d - 1 < 50 by omega) (by decide)), z_cl (by omega), hs (d - 1) (by omega)]
        have go : ∀ v : Int32, v = (if stk a b c f k (d - 1) = 0 then 1 else 0) → ∃ σ'', fX2_work_97 l (rp_lp (fun _ _ _ _ _ _ => none) (fX2_work_6 l) N) a b c (nI d) (nI k) v (nI (d - 1)) σ1 = some (stk a b c f n 0, σ'') ∧ fr (fun k => k = 28 + 3 * l + 2) σ σ'' := by
          intro v hv
          rw [fX2_work_97, z_g (z_in (show d - 1 < 50 by omega) (by decide)), z_nm, z_cl (by omega), fX2_work_141, z_nm, show (nI k + 1 : Int32) = nI (k + 1) from nI_1 _]
          refine ih (k + 1) N d _ (by omega) (by omega) (by rw [hd', q4]) (fr_tr f1 (fr_put rfl)) (fun i hi => ?_)
          rw [sS]
          unfold stp
          rw [if_neg (by rw [q1]; simp), if_pos q2, z_put, ← hv]
          by_cases e : i = d - 1
          · rw [if_pos ⟨rfl, e⟩, e, pk_us]
          · rw [if_neg (fun z => e z.2), pk_un e]
            exact hs i (by omega)
        by_cases e : stk a b c f k (d - 1) = 0
        · rw [if_pos e]
          exact go 1 (by rw [if_pos e])
        · rw [if_neg e]
          exact go 0 (by rw [if_neg e])
      · rw [if_pos (kO_c q3).1, if_neg q2, if_neg (show ¬ nI d < 2 from fun z => by have := (z_lt (b := 2) (by omega) (by omega)).mp z; omega), z_nm]
        have e1 : (nI d + (-1) : Int32) = nI (d - 1) := by
          have := pk_m1 (d - 1)
          rw [show d - 1 + 1 = d by omega] at this
          exact this
        have e2 : (nI (d - 1) - 1 : Int32) = nI (d - 2) := pk_sub (a := d - 1) (b := 1) (by omega)
        rw [e1, e2, z_g (z_in (show d - 2 < 50 by omega) (by decide)), z_g (z_in (show d - 1 < 50 by omega) (by decide)), zx_join, z_bd, z_g (z_in (show d - 2 < 50 by omega) (by decide)), z_nm, z_cl (by omega), z_cl (by omega), hs (d - 2) (by omega), hs (d - 1) (by omega), fX2_work_141, z_nm, show (nI k + 1 : Int32) = nI (k + 1) from nI_1 _]
        refine ih (k + 1) N (d - 1) _ (by omega) (by omega) (by rw [hd', q5]) (fr_tr f1 (fr_put rfl)) (fun i hi => ?_)
        rw [sS]
        unfold stp
        rw [if_neg (by rw [q1]; simp), if_neg q2, z_put]
        by_cases e : i = d - 2
        · rw [if_pos ⟨rfl, e⟩, e, pk_us]
        · rw [if_neg (fun z => e z.2), pk_un e]
          exact hs i (by omega)
  exact key n 0 300 0 σ (by omega) (by omega) rfl fr_rf (fun i hi => by omega)
theorem enc_pos {v : Int32} (h : 0 ≤ v) : enc v = v := by unfold enc; rw [if_pos h]
theorem zm_work {u n : Nat} (hu : u ≤ 1) {f : Nat → Int32} (hn : n ≤ 50) (hd : dp f n = some 1) (a b c : Int32) {τ : rp_St} (h1 : τ 1 (117 + 52 * u) = nI n) (h2 : ∀ i, i < n → τ 1 (118 + 52 * u + i) = enc (f i)) (a1 : τ 8 0 = a) (a2 : τ 8 1 = b) (a3 : τ 8 2 = c) : ∃ τ'', fX7_worked (nI (118 + 52 * u)) τ = some (stk a b c f n 0, τ'') ∧ fr (fun k => k = 9) τ τ'' := by
  have key : ∀ (r k N d : Nat) (τ1 : rp_St), k + r = n → r < N → dp f k = some d → fr (fun k => k = 9) τ τ1 → (∀ i, i < d → τ1 9 i = stk a b c f k i) → ∃ τ'', rp_lp (fun _ _ _ _ => none) fX7_worked_4 N (nI (118 + 52 * u)) (nI d) (nI (118 + 52 * u + k)) τ1 = some (stk a b c f n 0, τ'') ∧ fr (fun k => k = 9) τ τ'' := by
    intro r
    induction r with
    | zero =>
      intro k N d τ1 hk hN hdk f1 hs
      obtain ⟨N, rfl⟩ : ∃ M, N = M + 1 := ⟨N - 1, by omega⟩
      have hk : k = n := by omega
      subst hk
      have d1 : d = 1 := by rw [hd] at hdk; injection hdk with q; exact q.symm
      refine ⟨τ1, ?_, f1⟩
      rw [z_lp, fX7_worked_4, show (nI (118 + 52 * u) - 1 : Int32) = nI (117 + 52 * u) by rw [show 118 + 52 * u = 117 + 52 * u + 1 by omega]; exact nI_pred _, z_g (z_in (show 117 + 52 * u < 221 by omega) (by decide)), z_cl (by omega), f1 1 (by decide), h1, nI_add, if_pos ((z_le (by omega) (by omega)).mpr (Nat.le_refl _)), z_g (show rp_in 0 60 = true by decide +kernel), zl0, hs 0 (by omega)]
    | succ r ih =>
      intro k N d τ1 hk hN hdk f1 hs
      obtain ⟨N, rfl⟩ : ∃ M, N = M + 1 := ⟨N - 1, by omega⟩
      have dk := dp_le k d hdk
      obtain ⟨d', hd', hds⟩ := dp_step hd (by omega) hdk
      have sS : stk a b c f (k + 1) = stp a b c (f k) d (stk a b c f k) := by
        show stp a b c (f k) ((dp f k).getD 0) (stk a b c f k) = _
        rw [hdk]
        rfl
      rw [z_lp, fX7_worked_4, show (nI (118 + 52 * u) - 1 : Int32) = nI (117 + 52 * u) by rw [show 118 + 52 * u = 117 + 52 * u + 1 by omega]; exact nI_pred _, z_g (z_in (show 117 + 52 * u < 221 by omega) (by decide)), z_cl (by omega), f1 1 (by decide), h1, nI_add, if_neg (by rw [z_le (by omega) (by omega)]; omega), z_g (z_in (show 118 + 52 * u + k < 221 by omega) (by decide)), z_nm, z_cl (by omega), h2 k (by omega), f1 8 (by decide)]
      have nx : (nI (118 + 52 * u + k) + 1 : Int32) = nI (118 + 52 * u + (k + 1)) := nI_1 _
      rcases ds_cases hds with ⟨q1, q2⟩ | ⟨q1, q2, q3, q4⟩ | ⟨q1, q2, q3, q4, q5⟩
      · have go : ∀ v : Int32, v = vl (f k) a b c → ∃ τ'', fX7_worked_63 (rp_lp (fun _ _ _ _ => none) fX7_worked_4 N) (nI (118 + 52 * u)) (nI d) (nI (118 + 52 * u + k)) v (nI d) τ1 = some (stk a b c f n 0, τ'') ∧ fr (fun k => k = 9) τ τ'' := by
          intro v hv
          rw [fX7_worked_63, z_g (z_in (show d < 60 by omega) (by decide)), z_nm, z_nm, z_cl (by omega), show (nI d + 1 : Int32) = nI (d + 1) from nI_1 _, fX7_worked_135, z_nm, nx, ← q2]
          refine ih (k + 1) N d' _ (by omega) (by omega) hd' (fr_tr f1 (fr_put rfl)) (fun i hi => ?_)
          rw [sS]
          unfold stp
          rw [if_pos q1, z_put, hv]
          by_cases e : i = d
          · rw [if_pos ⟨rfl, e⟩, e, pk_us]
          · rw [if_neg (fun z => e z.2), pk_un e]
            exact hs i (by omega)
        rcases (kV_ge q1).2 with ⟨p1, p2⟩ | e | e | e
        · have t0 : (0 : Int32).toInt = 0 := by decide +kernel
          have t9 : (9999 : Int32).toInt = 9999 := by decide +kernel
          have tA : (10000 : Int32).toInt = 10000 := by decide +kernel
          have tB : (20000 : Int32).toInt = 20000 := by decide +kernel
          have p1' := p1
          rw [Int32.le_iff_toInt_le] at p1 p2
          rw [enc_pos p1', if_neg (by rw [Int32.le_iff_toInt_le]; omega), if_neg (by rw [Int32.le_iff_toInt_le]; omega)]
          refine go _ ?_
          unfold vl
          rw [if_neg (fun z => by rw [z] at p1'; exact absurd p1' (by decide +kernel)), if_neg (fun z => by rw [z] at p1'; exact absurd p1' (by decide +kernel)), if_neg (fun z => by rw [z] at p1'; exact absurd p1' (by decide +kernel))]
        · rw [e, show enc (-1) = 10000 by decide +kernel, if_neg (show ¬ (20000 : Int32) ≤ 10000 by decide +kernel), if_pos (show (10000 : Int32) ≤ 10000 by decide +kernel), z_g (show rp_in (10000 - 10000) 4 = true by decide +kernel), show (10000 - 10000 : Int32).toNatClampNeg = 0 by decide +kernel, a1]
          exact go a (by rw [e]; rfl)
        · rw [e, show enc (-2) = 10001 by decide +kernel, if_neg (show ¬ (20000 : Int32) ≤ 10001 by decide +kernel), if_pos (show (10000 : Int32) ≤ 10001 by decide +kernel), z_g (show rp_in (10001 - 10000) 4 = true by decide +kernel), show (10001 - 10000 : Int32).toNatClampNeg = 1 by decide +kernel, a2]
          exact go b (by rw [e]; rfl)
        · rw [e, show enc (-3) = 10002 by decide +kernel, if_neg (show ¬ (20000 : Int32) ≤ 10002 by decide +kernel), if_pos (show (10000 : Int32) ≤ 10002 by decide +kernel), z_g (show rp_in (10002 - 10000) 4 = true by decide +kernel), show (10002 - 10000 : Int32).toNatClampNeg = 2 by decide +kernel, a3]
          exact go c (by rw [e]; rfl)
      · rw [q2, show enc (-33) = 20010 by decide +kernel, if_pos (show (20000 : Int32) ≤ 20010 by decide +kernel), if_pos rfl, show (nI d - 1 : Int32) = nI (d - 1) from pk_sub (a := d) (b := 1) (by omega), z_g (z_in (show d - 1 < 60 by omega) (by decide)), z_cl (by omega), hs (d - 1) (by omega)]
        have go : ∀ v : Int32, v = (if stk a b c f k (d - 1) = 0 then 1 else 0) → ∃ τ'', fX7_worked_101 (rp_lp (fun _ _ _ _ => none) fX7_worked_4 N) (nI (118 + 52 * u)) (nI d) (nI (118 + 52 * u + k)) v (nI (d - 1)) τ1 = some (stk a b c f n 0, τ'') ∧ fr (fun k => k = 9) τ τ'' := by
          intro v hv
          rw [fX7_worked_101, z_g (z_in (show d - 1 < 60 by omega) (by decide)), z_nm, z_cl (by omega), fX7_worked_135, z_nm, nx]
          refine ih (k + 1) N d _ (by omega) (by omega) (by rw [hd', q4]) (fr_tr f1 (fr_put rfl)) (fun i hi => ?_)
          rw [sS]
          unfold stp
          rw [if_neg (by rw [q1]; simp), if_pos q2, z_put, ← hv]
          by_cases e : i = d - 1
          · rw [if_pos ⟨rfl, e⟩, e, pk_us]
          · rw [if_neg (fun z => e z.2), pk_un e]
            exact hs i (by omega)
        by_cases e : stk a b c f k (d - 1) = 0
        · rw [if_pos e]
          exact go 1 (by rw [if_pos e])
        · rw [if_neg e]
          exact go 0 (by rw [if_neg e])
      · rw [if_pos (kO_c q3).2.1, if_neg (kO_c q3).2.2, z_nm]
        have e1 : (nI d + (-1) : Int32) = nI (d - 1) := by
          have := pk_m1 (d - 1)
          rw [show d - 1 + 1 = d by omega] at this
          exact this
        have e2 : (nI (d - 1) - 1 : Int32) = nI (d - 2) := pk_sub (a := d - 1) (b := 1) (by omega)
        rw [e1, e2, z_g (z_in (show d - 2 < 60 by omega) (by decide)), z_g (z_in (show d - 1 < 60 by omega) (by decide)), zm_done q3, z_bd, z_g (z_in (show d - 2 < 60 by omega) (by decide)), z_nm, z_cl (by omega), z_cl (by omega), hs (d - 2) (by omega), hs (d - 1) (by omega), fX7_worked_135, z_nm, nx]
        refine ih (k + 1) N (d - 1) _ (by omega) (by omega) (by rw [hd', q5]) (fr_tr f1 (fr_put rfl)) (fun i hi => ?_)
        rw [sS]
        unfold stp
        rw [if_neg (by rw [q1]; simp), if_neg q2, z_put]
        by_cases e : i = d - 2
        · rw [if_pos ⟨rfl, e⟩, e, pk_us]
        · rw [if_neg (fun z => e z.2), pk_un e]
          exact hs i (by omega)
  exact key n 0 300 0 τ (by omega) (by omega) rfl fr_rf (fun i hi => by omega)
/-- held between 0 and 1 -/
def zh1 (v : Int32) : Int32 := if 0 < (if 1 < v then 1 else v) then (if 1 < v then 1 else v) else 0
theorem zh1_m (v : Int32) (σ : rp_St) : fX7_held v 0 1 σ = some (zh1 v, σ) := by
  have e : (if v < 1 then v else (1 : Int32)) = (if 1 < v then (1 : Int32) else v) := by
    by_cases h : v < 1
    · have h2 : ¬ (1 : Int32) < v := by rw [Int32.lt_iff_toInt_lt] at h ⊢; omega
      rw [if_pos h, if_neg h2]
    · by_cases h2 : (1 : Int32) < v
      · rw [if_neg h, if_pos h2]
      · rw [if_neg h, if_neg h2]
        rw [Int32.lt_iff_toInt_lt] at h h2
        exact Int32.toInt_inj.mp (by omega)
  unfold fX7_held
  rw [e]
  rfl
/-- what the laws give is the same in both -/
theorem z_law {u l : Nat} (hu : u ≤ 1) {σ : rp_St} {ν : Nat → Int32} (h : CR (28 + 3 * l) u σ ν) (hU : σ (28 + 3 * l) 0 = nI u) : ∃ φ, GX φ l σ ∧ (∀ τ : rp_St, (∀ i, 117 ≤ i → i < 221 → τ 1 i = ν i) → GM φ (nI u) τ) ∧ (u = 0 → R0 φ) := by
  obtain ⟨n, hn, e1, e2, e3, e4⟩ := h
  obtain ⟨ψ, hψ⟩ : ∃ ψ : Int32 → Int32 → Int32 → Int32, ψ = fun a b c => if n = 0 then (if u = 0 then (a + b) / 2 else 1) else stk a b c (σ (28 + 3 * l + 1)) n 0 := ⟨_, rfl⟩
  have ap : ∀ a b c, ψ a b c = if n = 0 then (if u = 0 then (a + b) / 2 else 1) else stk a b c (σ (28 + 3 * l + 1)) n 0 := fun a b c => by rw [hψ]
  refine ⟨fun a b c => if u = 0 then zhv (ψ a b c) else zh1 (ψ a b c), ?_, ?_, ?_⟩
  · intro σ' s1 s2 a b c
    show ∃ σ'', fX2_give l a b c σ' = some (if u = 0 then zhv (ψ a b c) else zh1 (ψ a b c), σ'') ∧ fr (fun k => k = 28 + 3 * l + 2) σ' σ''
    unfold fX2_give fX2_give_29
    rw [s1, hU, e1]
    by_cases u0 : u = 0
    · rw [if_pos (by rw [u0]; rfl), if_pos u0, ap]
      by_cases n0 : n = 0
      · rw [if_pos (by rw [n0]; rfl), if_pos n0, if_pos u0, zhv_x, z_bd]
        exact ⟨σ', rfl, fr_rf⟩
      · rw [if_neg (nI_ne0 (by omega) (by omega)), if_neg n0]
        obtain ⟨σ'', w1, w2⟩ := zx_work (l := l) (f := σ (28 + 3 * l + 1)) hn (e4.resolve_left n0) a b c (σ := σ') (by rw [s1]; exact e1) s2
        rw [w1, z_bd, zhv_x, z_bd]
        exact ⟨σ'', rfl, w2⟩
    · have u1 : u = 1 := by omega
      rw [if_neg (nI_ne0 (by omega) (by omega)), if_neg u0, ap]
      by_cases n0 : n = 0
      · rw [if_pos (by rw [n0]; rfl), if_pos n0, if_neg u0, show zh1 1 = 1 by decide +kernel]
        exact ⟨σ', rfl, fr_rf⟩
      · rw [if_neg (nI_ne0 (by omega) (by omega)), if_neg n0]
        obtain ⟨σ'', w1, w2⟩ := zx_work (l := l) (f := σ (28 + 3 * l + 1)) hn (e4.resolve_left n0) a b c (σ := σ') (by rw [s1]; exact e1) s2
        rw [w1, z_bd]
        exact ⟨σ'', rfl, w2⟩
  · intro τ ht τ' ht' a b c
    show ∃ τ'', fX7_given (nI u) a b c τ' = some (if u = 0 then zhv (ψ a b c) else zh1 (ψ a b c), τ'') ∧ fr (fun k => k = 8 ∨ k = 9) τ' τ''
    have r1 : ∀ i, 117 ≤ i → i < 221 → τ' 1 i = ν i := fun i p q => (ht' i p q).trans (ht i p q)
    unfold fX7_given
    rw [z_g (show rp_in 0 4 = true by decide +kernel), z_nm, z_g (show rp_in 1 4 = true by decide +kernel), z_nm, z_g (show rp_in 2 4 = true by decide +kernel), z_nm, zl0, zl1, zl2]
    obtain ⟨τ3, d3⟩ : ∃ t, t = rp_put (rp_put (rp_put τ' 8 0 a) 8 1 b) 8 2 c := ⟨_, rfl⟩
    rw [← d3]
    have f3 : fr (fun k => k = 8) τ' τ3 := by rw [d3]; exact fr_tr (fr_put rfl) (fr_tr (fr_put rfl) (fr_put rfl))
    have b1 : τ3 8 0 = a := by rw [d3, z_pn _ _ _ _ (by omega), z_pn _ _ _ _ (by omega), z_p]
    have b2 : τ3 8 1 = b := by rw [d3, z_pn _ _ _ _ (by omega), z_p]
    have b3 : τ3 8 2 = c := by rw [d3, z_p]
    have t1 : τ3 1 (117 + 52 * u) = nI n := by rw [f3 1 (by decide), r1 _ (by omega) (by omega)]; exact e2
    have t2 : ∀ i, i < n → τ3 1 (118 + 52 * u + i) = enc (σ (28 + 3 * l + 1) i) := fun i hi => by rw [f3 1 (by decide), r1 _ (by omega) (by omega)]; exact e3 i hi
    have f3' : fr (fun k => k = 8 ∨ k = 9) τ' τ3 := fr_mo f3 (fun k hk => Or.inl hk)
    have fin : ∀ (x : Int32) (s : rp_St), fX7_given_63 (nI u) x s = some (if u = 0 then zhv x else zh1 x, s) := by
      intro x s
      unfold fX7_given_63 fX7_given_75
      by_cases u0 : u = 0
      · rw [if_pos (by rw [u0]; rfl), if_pos u0, zhv_m, z_bd]
      · rw [if_neg (nI_ne0 (by omega) (by omega)), if_neg u0, zh1_m, z_bd]
    have main : ∀ t0 : Int32, t0 = (if u = 0 then (a + b) / 2 else 1) → ∃ τ'', fX7_given_35 (nI u) t0 τ3 = some (if u = 0 then zhv (ψ a b c) else zh1 (ψ a b c), τ'') ∧ fr (fun k => k = 8 ∨ k = 9) τ' τ'' := by
      intro t0 h0
      unfold fX7_given_35 fX7_hasText
      rw [show (52 * nI u : Int32) = nI (52 * u) from pk_mul 52 u, show (117 + nI (52 * u) : Int32) = nI (117 + 52 * u) from nI_add 117 _, z_g (z_in (show 117 + 52 * u < 221 by omega) (by decide)), z_cl (by omega), t1]
      rw [ap]
      by_cases n0 : n = 0
      · rw [if_pos (by rw [n0]; decide +kernel), z_bd, if_pos rfl, fin, if_pos n0, ← h0]
        exact ⟨τ3, rfl, f3'⟩
      · rw [if_neg (nI_nle (by omega) (by omega)), z_bd, if_neg (by decide), show (nI (117 + 52 * u) + 1 : Int32) = nI (118 + 52 * u) by rw [nI_1]; congr 1; omega, if_neg n0]
        obtain ⟨τ'', w1, w2⟩ := zm_work hu hn (e4.resolve_left n0) a b c t1 t2 b1 b2 b3
        rw [w1, z_bd, fin]
        exact ⟨τ'', rfl, fr_tr f3' (fr_mo w2 (fun k hk => Or.inr hk))⟩
    by_cases u0 : u = 0
    · rw [if_pos (by rw [u0]; rfl)]
      exact main _ (by rw [if_pos u0])
    · rw [if_neg (nI_ne0 (by omega) (by omega))]
      exact main _ (by rw [if_neg u0])
  · intro u0 a b c
    show ∃ v, v ≤ 999 ∧ (if u = 0 then zhv (ψ a b c) else zh1 (ψ a b c)) = nI v
    rw [if_pos u0]
    exact ⟨_, (zhv_le _).2, (zhv_le _).1⟩
