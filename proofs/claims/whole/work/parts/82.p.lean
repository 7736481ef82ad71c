def f1 : Option Nat → Int32
  | none => -1
  | some _ => 1
def f2 : Option Nat → Int32
  | none => -1
  | some _ => 2
def g2 (k : Nat) : Option Nat → Int32
  | none => -1
  | some _ => nI k
theorem zm_one {φ0 φ1 : Int32 → Int32 → Int32 → Int32} {β : zB} {σ τ : rp_St} (W : WD φ0 φ1 β σ τ) {x pg n : Nat} (w : Int32) (hx : x < β 0 0) (hp : pg < 7) (hn : n ≤ 60) : ∀ (r k N : Nat) (τ1 : rp_St), k + r = 49 → r + 1 < N → SM τ τ1 → ∃ τ', rp_lp (fun _ _ _ _ _ _ _ _ => none) fX7_dances_68 N (nI x) (nI pg) (nI n) w (-1) (-1) (nI k) τ1 = fX7_dances_115 (nI x) (nI pg) (nI n) w (f1 (fd (PH φ0 φ1 n x pg β) r k)) (ao (fd (PH φ0 φ1 n x pg β) r k)) τ' ∧ SM τ τ' := by
  have h7 := W.1.1.1
  intro r
  induction r with
  | zero =>
    intro k N τ1 hk hN sm
    obtain ⟨N, rfl⟩ : ∃ X, N = X + 1 := ⟨N - 1, by omega⟩
    rw [z_lp, fX7_dances_68, if_pos (show (49 : Int32) ≤ nI k from (z_le (a := 49) (by omega) (by omega)).mpr (by omega))]
    exact ⟨τ1, rfl, sm⟩
  | succ r ih =>
    intro k N τ1 hk hN sm
    obtain ⟨N, rfl⟩ : ∃ X, N = X + 2 := ⟨N - 2, by omega⟩
    have st : fd (PH φ0 φ1 n x pg β) (r + 1) k = if PH φ0 φ1 n x pg β k = true then some k else fd (PH φ0 φ1 n x pg β) r (k + 1) := rfl
    rw [show N + 2 = N + 1 + 1 from rfl, z_lp (fun _ _ _ _ _ _ _ _ => none) fX7_dances_68 (N + 1), fX7_dances_68, if_neg (show ¬ (49 : Int32) ≤ nI k from fun z => by have := (z_le (a := 49) (by omega) (by omega)).mp z; omega), if_neg (show ¬ (0 : Int32) ≤ -1 by decide +kernel), zm_pair W sm (by omega), z_bd, st]
    by_cases c : k / 7 < k % 7 ∧ k % 7 < β 0 0
    · obtain ⟨τ2, e2, S2⟩ := zm_hb W sm (o1 := some k) (o2 := none) ⟨by omega, c.1, c.2⟩ trivial hx hp hn
      have PHe : PH φ0 φ1 n x pg β k = decide (zq (zhn φ1 n (zd φ0 (k / 7) (k % 7) β)) x ≤ pg) := by
        unfold PH
        rw [decide_eq_true c.1, decide_eq_true c.2]
        rfl
      have e2 : fX7_hangsBy (nI x) (nI pg) (nI n) (nI k) (-1) τ1 = some (if zq (zhn φ1 n (zd φ0 (k / 7) (k % 7) β)) x ≤ pg then 1 else 0, τ2) := e2
      rw [if_pos c, if_neg (show ¬ (1 : Int32) = 0 by decide), e2, z_bd, PHe]
      by_cases d : zq (zhn φ1 n (zd φ0 (k / 7) (k % 7) β)) x ≤ pg
      · rw [if_pos d, if_neg (show ¬ (1 : Int32) = 0 by decide), if_pos (decide_eq_true d), fX7_dances_109, z_nm, show (nI k + 1 : Int32) = nI (k + 1) from nI_1 _, z_lp (fun _ _ _ _ _ _ _ _ => none) fX7_dances_68 N, fX7_dances_68, if_pos (show (0 : Int32) ≤ 1 by decide +kernel), ite_self]
        exact ⟨τ2, rfl, S2⟩
      · rw [if_neg d, if_pos rfl, if_neg (by rw [decide_eq_false d]; simp), fX7_dances_109, z_nm, show (nI k + 1 : Int32) = nI (k + 1) from nI_1 _]
        exact ih (k + 1) (N + 1) τ2 (by omega) (by omega) S2
    · have PHf : PH φ0 φ1 n x pg β k = false := by
        unfold PH
        by_cases c1 : k / 7 < k % 7
        · have c2 : ¬ k % 7 < β 0 0 := fun z => c ⟨c1, z⟩
          simp [c2]
        · simp [c1]
      rw [if_neg c, if_pos rfl, PHf, if_neg (by simp), fX7_dances_109, z_nm, show (nI k + 1 : Int32) = nI (k + 1) from nI_1 _]
      exact ih (k + 1) (N + 1) τ1 (by omega) (by omega) sm
theorem zm_two {φ0 φ1 : Int32 → Int32 → Int32 → Int32} {β : zB} {σ τ : rp_St} (W : WD φ0 φ1 β σ τ) {x pg n : Nat} (w : Int32) (hx : x < β 0 0) (hp : pg < 7) (hn : n ≤ 60) {k : Nat} (hk : k < 49) (c : k / 7 < k % 7 ∧ k % 7 < β 0 0) (K : Int32 → Int32 → Int32 → Int32 → Int32 → Int32 → Int32 → rp_St → Option (Int32 × rp_St)) : ∀ (r j N : Nat) (τ1 : rp_St), j + r = 49 → r + 1 < N → SM τ τ1 → ∃ τ', rp_lp (fun _ _ _ _ _ _ _ _ _ => none) (fX7_dances_133 K) N (nI x) (nI pg) (nI n) w (-1) (-1) (nI k) (nI j) τ1 = fX7_dances_190 K (nI x) (nI pg) (nI n) w (f2 (fd (PH φ0 φ1 n x pg (zd φ0 (k / 7) (k % 7) β)) r j)) (g2 k (fd (PH φ0 φ1 n x pg (zd φ0 (k / 7) (k % 7) β)) r j)) (nI k) τ' ∧ SM τ τ' := by
  have h7 := W.1.1.1
  have d0 : zd φ0 (k / 7) (k % 7) β 0 0 = β 0 0 := (W.1.1.dance W.1.2 _ _).2
  intro r
  induction r with
  | zero =>
    intro j N τ1 hj hN sm
    obtain ⟨N, rfl⟩ : ∃ X, N = X + 1 := ⟨N - 1, by omega⟩
    rw [z_lp, fX7_dances_133, if_pos (show (49 : Int32) ≤ nI j from (z_le (a := 49) (by omega) (by omega)).mpr (by omega))]
    exact ⟨τ1, rfl, sm⟩
  | succ r ih =>
    intro j N τ1 hj hN sm
    obtain ⟨N, rfl⟩ : ∃ X, N = X + 2 := ⟨N - 2, by omega⟩
    have st : fd (PH φ0 φ1 n x pg (zd φ0 (k / 7) (k % 7) β)) (r + 1) j = if PH φ0 φ1 n x pg (zd φ0 (k / 7) (k % 7) β) j = true then some j else fd (PH φ0 φ1 n x pg (zd φ0 (k / 7) (k % 7) β)) r (j + 1) := rfl
    rw [show N + 2 = N + 1 + 1 from rfl, z_lp (fun _ _ _ _ _ _ _ _ _ => none) (fX7_dances_133 K) (N + 1), fX7_dances_133, if_neg (show ¬ (49 : Int32) ≤ nI j from fun z => by have := (z_le (a := 49) (by omega) (by omega)).mp z; omega), zm_pair W sm (k := k) (by omega), z_bd, if_pos c, if_neg (show ¬ (1 : Int32) = 0 by decide), if_neg (show ¬ (0 : Int32) ≤ -1 by decide +kernel), zm_pair W sm (k := j) (by omega), z_bd, st]
    by_cases cj : j / 7 < j % 7 ∧ j % 7 < β 0 0
    · obtain ⟨τ2, e2, S2⟩ := zm_hb W sm (o1 := some k) (o2 := some j) ⟨by omega, c.1, c.2⟩ ⟨by omega, cj.1, cj.2⟩ hx hp hn
      have PHe : PH φ0 φ1 n x pg (zd φ0 (k / 7) (k % 7) β) j = decide (zq (zhn φ1 n (zd φ0 (j / 7) (j % 7) (zd φ0 (k / 7) (k % 7) β))) x ≤ pg) := by
        unfold PH
        rw [decide_eq_true cj.1, d0, decide_eq_true cj.2]
        rfl
      have e2 : fX7_hangsBy (nI x) (nI pg) (nI n) (nI k) (nI j) τ1 = some (if zq (zhn φ1 n (zd φ0 (j / 7) (j % 7) (zd φ0 (k / 7) (k % 7) β))) x ≤ pg then 1 else 0, τ2) := e2
      rw [if_pos cj, if_neg (show ¬ (1 : Int32) = 0 by decide), e2, z_bd, PHe]
      by_cases d : zq (zhn φ1 n (zd φ0 (j / 7) (j % 7) (zd φ0 (k / 7) (k % 7) β))) x ≤ pg
      · rw [if_pos d, if_neg (show ¬ (1 : Int32) = 0 by decide), if_pos (decide_eq_true d), fX7_dances_184, z_nm, show (nI j + 1 : Int32) = nI (j + 1) from nI_1 _, z_lp (fun _ _ _ _ _ _ _ _ _ => none) (fX7_dances_133 K) N, fX7_dances_133, zm_pair W S2 (k := k) (by omega), z_bd, if_pos c, if_neg (show ¬ (1 : Int32) = 0 by decide), if_pos (show (0 : Int32) ≤ 2 by decide +kernel), ite_self]
        exact ⟨τ2, rfl, S2⟩
      · rw [if_neg d, if_pos rfl, if_neg (by rw [decide_eq_false d]; simp), fX7_dances_184, z_nm, show (nI j + 1 : Int32) = nI (j + 1) from nI_1 _]
        exact ih (j + 1) (N + 1) τ2 (by omega) (by omega) S2
    · have PHf : PH φ0 φ1 n x pg (zd φ0 (k / 7) (k % 7) β) j = false := by
        unfold PH
        rw [d0]
        by_cases c1 : j / 7 < j % 7
        · have c2 : ¬ j % 7 < β 0 0 := fun z => cj ⟨c1, z⟩
          simp [c2]
        · simp [c1]
      rw [if_neg cj, if_pos rfl, PHf, if_neg (by simp), fX7_dances_184, z_nm, show (nI j + 1 : Int32) = nI (j + 1) from nI_1 _]
      exact ih (j + 1) (N + 1) τ1 (by omega) (by omega) sm
theorem zm_outer {φ0 φ1 : Int32 → Int32 → Int32 → Int32} {β : zB} {σ τ : rp_St} (W : WD φ0 φ1 β σ τ) {x pg n : Nat} (w : Int32) (hx : x < β 0 0) (hp : pg < 7) (hn : n ≤ 60) : ∀ (r k N : Nat) (τ1 : rp_St), k + r = 49 → r + 1 < N → SM τ τ1 → ∃ τ', rp_lp (fun _ _ _ _ _ _ _ _ => none) fX7_dances_118 N (nI x) (nI pg) (nI n) w (-1) (-1) (nI k) τ1 = fX7_dances_196 w (f2 (fd (PQ φ0 φ1 n x pg β) r k)) (ao (fd (PQ φ0 φ1 n x pg β) r k)) τ' ∧ SM τ τ' := by
  have h7 := W.1.1.1
  intro r
  induction r with
  | zero =>
    intro k N τ1 hk hN sm
    obtain ⟨N, rfl⟩ : ∃ X, N = X + 1 := ⟨N - 1, by omega⟩
    rw [z_lp, fX7_dances_118, if_pos (show (49 : Int32) ≤ nI k from (z_le (a := 49) (by omega) (by omega)).mpr (by omega))]
    exact ⟨τ1, rfl, sm⟩
  | succ r ih =>
    intro k N τ1 hk hN sm
    obtain ⟨N, rfl⟩ : ∃ X, N = X + 2 := ⟨N - 2, by omega⟩
    have st : fd (PQ φ0 φ1 n x pg β) (r + 1) k = if PQ φ0 φ1 n x pg β k = true then some k else fd (PQ φ0 φ1 n x pg β) r (k + 1) := rfl
    rw [show N + 2 = N + 1 + 1 from rfl, z_lp (fun _ _ _ _ _ _ _ _ => none) fX7_dances_118 (N + 1), fX7_dances_118, if_neg (show ¬ (49 : Int32) ≤ nI k from fun z => by have := (z_le (a := 49) (by omega) (by omega)).mp z; omega), if_neg (show ¬ (0 : Int32) ≤ -1 by decide +kernel), st]
    by_cases c : k / 7 < k % 7 ∧ k % 7 < β 0 0
    · obtain ⟨τ2, e2, S2⟩ := zm_two W w hx hp hn (k := k) (by omega) c (rp_lp (fun _ _ _ _ _ _ _ _ => none) fX7_dances_118 (N + 1)) 49 0 300 τ1 (by omega) (by omega) sm
      have e2 : rp_lp (fun _ _ _ _ _ _ _ _ _ => none) (fX7_dances_133 (rp_lp (fun _ _ _ _ _ _ _ _ => none) fX7_dances_118 (N + 1))) 300 (nI x) (nI pg) (nI n) w (-1) (-1) (nI k) 0 τ1 = _ := e2
      have PQe : PQ φ0 φ1 n x pg β k = (fd (PH φ0 φ1 n x pg (zd φ0 (k / 7) (k % 7) β)) 49 0).isSome := by
        unfold PQ
        rw [decide_eq_true c.1, decide_eq_true c.2]
        rfl
      rw [e2, PQe, fX7_dances_190, z_nm, show (nI k + 1 : Int32) = nI (k + 1) from nI_1 _]
      cases q : fd (PH φ0 φ1 n x pg (zd φ0 (k / 7) (k % 7) β)) 49 0 with
      | none =>
        rw [if_neg (by simp)]
        exact ih (k + 1) (N + 1) τ2 (by omega) (by omega) S2
      | some j =>
        rw [if_pos (by simp), z_lp (fun _ _ _ _ _ _ _ _ => none) fX7_dances_118 N]
        show ∃ τ', fX7_dances_118 _ (nI x) (nI pg) (nI n) w 2 (nI k) (nI (k + 1)) τ2 = fX7_dances_196 w 2 (nI k) τ' ∧ SM τ τ'
        rw [fX7_dances_118, if_pos (show (0 : Int32) ≤ 2 by decide +kernel), ite_self]
        exact ⟨τ2, rfl, S2⟩
    · have PQf : PQ φ0 φ1 n x pg β k = false := by
        unfold PQ
        by_cases c1 : k / 7 < k % 7
        · have c2 : ¬ k % 7 < β 0 0 := fun z => c ⟨c1, z⟩
          simp [c2]
        · simp [c1]
      rw [PQf, if_neg (by simp), show (300 : Nat) = 299 + 1 from rfl, z_lp (fun _ _ _ _ _ _ _ _ _ => none) (fX7_dances_133 _) 299, fX7_dances_133, if_neg (show ¬ (49 : Int32) ≤ 0 by decide +kernel), zm_pair W sm (k := k) (by omega), z_bd, if_neg c, if_pos rfl, fX7_dances_190, z_nm, show (nI k + 1 : Int32) = nI (k + 1) from nI_1 _]
      exact ih (k + 1) (N + 1) τ1 (by omega) (by omega) sm
theorem op_dances (v1 v2 v3 v4 : Int32) (σ τ : rp_St) (h : RR σ τ) : OK (fX6_dances v1 v2 v3 v4 σ) (fX7_dances v1 v2 v3 v4 τ) := by
  obtain ⟨φ0, φ1, β, W⟩ := h.wd
  obtain ⟨⟨hI, hR⟩, ⟨hX, gx0, gx1⟩, hM, _, _⟩ := id W
  have h7 := hI.1
  unfold fX6_dances fX7_dances fX6_isPeg fX6_dances_36 fX7_dances_36
  rcases zGu v1 hI hX hM with ⟨b1, b2⟩ | ⟨x, hx, rfl, b1, b2⟩
  · simp only [b1, b2, z_bd, z_bi, ↓reduceIte]
    exact rf1 h
  rcases zGu v2 hI hX hM with ⟨d1, d2⟩ | ⟨pg, hg, rfl, d1, d2⟩
  · simp only [b1, b2, d1, d2, z_bd, z_bi, z10, z_gb0, ↓reduceIte]
    exact rf1 h
  rcases zW' v3 0 6 0 6 rfl rfl (by decide) (by decide) with ⟨a1, a2⟩ | ⟨n, _, hn, rfl, a1, a2⟩
  · simp only [b1, b2, d1, d2, a1, a2, z_bd, z_bi, z10, z_gb1, ↓reduceIte]
    exact rf1 h
  rcases zW' v4 0 1 0 1 rfl rfl (by decide) (by decide) with ⟨c1, c2⟩ | ⟨w, _, hw, rfl, c1, c2⟩
  · simp only [a1, a2, b1, b2, c1, c2, d1, d2, z_bd, z_bi, z_gb1, z10, ↓reduceIte]
    exact rf1 h
  simp only [a1, a2, b1, b2, c1, c2, d1, d2, z_bd, z_bi, z_gb1, z10, ↓reduceIte]
  obtain ⟨σ1, x1, X1⟩ := wx_take W SX.rf
  obtain ⟨σ2, x2, X2⟩ := tx_hours W X1 (n := n) (by omega)
  have n2 : zhn φ1 n β 0 0 = β 0 0 := hn_0 hI n
  have ql := (zq_lt X2.1 (g := x) (by rw [n2]; exact hx)).1
  rw [n2] at ql
  obtain ⟨τ1, y1, Y1⟩ := zm_hb W SM.rf (o1 := none) (o2 := none) trivial trivial hx (pg := pg) (by omega) (n := n) (by omega)
  have y1 : fX7_hangsBy (nI x) (nI pg) (nI n) (-1) (-1) τ = some (if zq (zhn φ1 n β) x ≤ pg then 1 else 0, τ1) := y1
  have w2 : ∀ (o : Option Nat) (τ' : rp_St), fX7_dances_115 (nI x) (nI pg) (nI n) (nI w) (f1 o) (ao o) τ' = match o with
      | none => rp_lp (fun _ _ _ _ _ _ _ _ => none) fX7_dances_118 300 (nI x) (nI pg) (nI n) (nI w) (-1) (-1) 0 τ'
      | some k => fX7_dances_196 (nI w) 1 (nI k) τ' := by
    intro o τ'
    cases o with
    | none => rfl
    | some k =>
      show rp_lp (fun _ _ _ _ _ _ _ _ => none) fX7_dances_118 300 (nI x) (nI pg) (nI n) (nI w) 1 (nI k) 0 τ' = _
      rw [show (300 : Nat) = 299 + 1 from rfl, z_lp (fun _ _ _ _ _ _ _ _ => none) fX7_dances_118 299, fX7_dances_118, if_neg (show ¬ (49 : Int32) ≤ 0 by decide +kernel), if_pos (show (0 : Int32) ≤ 1 by decide +kernel)]
  have fin : ∀ (v : Int32) (k : Nat) (σ' τ' : rp_St), 0 ≤ v → k < 49 → SX σ σ' → SM τ τ' → OK (if nI w = 0 then some (v, σ') else some (nI (10 * (k / 7) + k % 7), σ')) (fX7_dances_196 (nI w) v (nI k) τ') := by
    intro v k σ' τ' hv hk sx sm
    unfold fX7_dances_196
    rw [if_pos hv, if_pos (show (0 : Int32) ≤ nI k from nI_pos' (by omega)), show (nI k - nI k / 7 * 7 : Int32) = nI (k % 7) from pk_rem (a := k) (d := 7) (by omega) (by omega) (by omega), show (nI k / 7 : Int32) = nI (k / 7) from pk_div (a := k) (d := 7) (by omega) (by omega) (by omega), show (10 * nI (k / 7) : Int32) = nI (10 * (k / 7)) from pk_mul 10 _, nI_add]
    by_cases e : nI w = 0
    · rw [if_pos e, if_pos e]
      exact ok_mk (h.back sx sm)
    · rw [if_neg e, if_neg e]
      exact ok_mk (h.back sx sm)
  rw [x1, z_bd, x2, z_bd, tx_peg X2 (by rw [n2]; exact hx), z_bd, y1, z_bd]
  unfold fX7_dances_60
  by_cases c : zq (zhn φ1 n β) x ≤ pg
  · rw [if_neg (show ¬ nI pg < nI (zq (zhn φ1 n β) x) from fun z => by have := (z_lt (by omega) (by omega)).mp z; omega), if_pos c, if_neg (show ¬ (1 : Int32) = 0 by decide), show (300 : Nat) = 299 + 1 from rfl, z_lp (fun _ _ _ _ _ _ _ _ => none) fX7_dances_68 299, fX7_dances_68, if_neg (show ¬ (49 : Int32) ≤ 0 by decide +kernel), if_pos (show (0 : Int32) ≤ 0 by decide +kernel), fX7_dances_115, show (300 : Nat) = 299 + 1 from rfl, z_lp (fun _ _ _ _ _ _ _ _ => none) fX7_dances_118 299, fX7_dances_118, if_neg (show ¬ (49 : Int32) ≤ 0 by decide +kernel), if_pos (show (0 : Int32) ≤ 0 by decide +kernel), fX7_dances_196, if_pos (show (0 : Int32) ≤ 0 by decide +kernel), if_neg (show ¬ (0 : Int32) ≤ -1 by decide +kernel)]
    by_cases e : nI w = 0
    · rw [if_pos e, if_pos e]
      exact ok_mk (h.back X2.2.2 Y1)
    · rw [if_neg e, if_neg e]
      exact ok_mk (h.back X2.2.2 Y1)
  · rw [if_pos (show nI pg < nI (zq (zhn φ1 n β) x) from (z_lt (by omega) (by omega)).mpr (by omega)), if_neg c, if_pos rfl]
    obtain ⟨σ3, x3, s3⟩ := zx_helps (g1 := 0) (σb := σ2) hR (Or.inl rfl) hI (hX.fr (fun k _ q => X2.2.2 k (by omega))) (W.gx0 X2.2.2) (W.gx1 X2.2.2) (x := x) (pg := pg) (n := n) hx (by omega) (by omega)
    have sx3 : SX σ σ3 := X2.2.2.tr (fun k hk => s3 k (by omega))
    obtain ⟨τ2, y2, Y2⟩ := zm_one W (nI w) hx (pg := pg) (by omega) (n := n) (by omega) 49 0 300 τ1 (by omega) (by omega) Y1
    have y2 : rp_lp (fun _ _ _ _ _ _ _ _ => none) fX7_dances_68 300 (nI x) (nI pg) (nI n) (nI w) (-1) (-1) 0 τ1 = fX7_dances_115 (nI x) (nI pg) (nI n) (nI w) (f1 (fd (PH φ0 φ1 n x pg β) 49 0)) (ao (fd (PH φ0 φ1 n x pg β) 49 0)) τ2 := y2
    rw [x3, z_bd, y2, w2]
    cases q : fd (PH φ0 φ1 n x pg β) 49 0 with
    | some k =>
      have hk := fd_lt q
      rw [if_neg (show ¬ rs (some k) < 0 from nI_pos (by omega))]
      exact fin 1 k σ3 τ2 (by decide +kernel) hk sx3 Y2
    | none =>
      rw [if_pos (show rs none < 0 by decide +kernel)]
      obtain ⟨σ4, x4, s4⟩ := zx_two W sx3 hx (pg := pg) (by omega) (n := n) (by omega)
      obtain ⟨τ3, y3, Y3⟩ := zm_outer W (nI w) hx (pg := pg) (by omega) (n := n) (by omega) 49 0 300 τ2 (by omega) (by omega) Y2
      rw [x4, z_bd]
      show OK _ (rp_lp (fun _ _ _ _ _ _ _ _ => none) fX7_dances_118 300 (nI x) (nI pg) (nI n) (nI w) (-1) (-1) (nI 0) τ2)
      rw [y3]
      cases q2 : fd (PQ φ0 φ1 n x pg β) 49 0 with
      | some k =>
        have hk := fd_lt q2
        rw [if_neg (show ¬ rs (some k) < 0 from nI_pos (by omega))]
        exact fin 2 k σ4 τ3 (by decide +kernel) hk s4 Y3
      | none =>
        rw [if_pos (show rs none < 0 by decide +kernel)]
        show OK _ (fX7_dances_196 (nI w) (-1) (-1) τ3)
        rw [fX7_dances_196, if_neg (show ¬ (0 : Int32) ≤ -1 by decide +kernel), z_bi]
        exact rf2 (h.back s4 Y3)
