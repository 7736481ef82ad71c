/-- the reference copies a whole row -/
theorem zm_copy {j0 j1 : Nat} (hj : j0 ≠ j1) (τ : rp_St) : ∃ τ', fX7_copy j0 j1 τ = some (0, τ') ∧ (∀ i, i < 221 → τ' j1 i = τ j0 i) ∧ fr (fun k => k = j1) τ τ' := by
  have key : ∀ (r k N : Nat) (τ1 : rp_St), k + r = 221 → r < N → (∀ i, i < k → τ1 j1 i = τ j0 i) → fr (fun k => k = j1) τ τ1 → ∃ τ', rp_lp (fun _ _ => none) (fX7_copy_2 j0 j1) N (nI k) τ1 = some (0, τ') ∧ (∀ i, i < 221 → τ' j1 i = τ j0 i) ∧ fr (fun k => k = j1) τ τ' := by
    intro r
    induction r with
    | zero =>
      intro k N τ1 hk hN h1 f1
      obtain ⟨N, rfl⟩ : ∃ M, N = M + 1 := ⟨N - 1, by omega⟩
      rw [z_lp, fX7_copy_2, if_pos (show (221 : Int32) ≤ nI k from (z_le (a := 221) (by omega) (by omega)).mpr (by omega))]
      exact ⟨τ1, rfl, fun i hi => h1 i (by omega), f1⟩
    | succ r ih =>
      intro k N τ1 hk hN h1 f1
      obtain ⟨N, rfl⟩ : ∃ M, N = M + 1 := ⟨N - 1, by omega⟩
      rw [z_lp, fX7_copy_2, if_neg (show ¬ (221 : Int32) ≤ nI k from fun z => by have := (z_le (a := 221) (by omega) (by omega)).mp z; omega), z_g (z_in (by omega) (by omega)), z_g (z_in (by omega) (by omega)), z_nm, z_nm, z_cl (by omega), show (nI k + 1 : Int32) = nI (k + 1) from nI_1 _]
      refine ih (k + 1) N _ (by omega) (by omega) (fun i hi => ?_) (fr_tr f1 (fr_put rfl))
      rw [z_put]
      by_cases q : i = k
      · rw [if_pos ⟨rfl, q⟩, f1 j0 hj, q]
      · rw [if_neg (fun z => q z.2)]
        exact h1 i (by omega)
  exact key 221 0 300 τ (by omega) (by omega) (fun i hi => by omega) fr_rf
/-- the class takes a ball over from another -/
def zt1 (σ : rp_St) (g0 g1 j : Nat) : rp_St := rp_row σ (7 * g0 + j) (va_cpy (σ (7 * g1 + j)) (σ (7 * g0 + j)) 0 0 7)
def zt7 (g0 g1 : Nat) (σ : rp_St) : rp_St := zt1 (zt1 (zt1 (zt1 (zt1 (zt1 (rp_put σ (7 * g0) 0 (σ (7 * g1) 0)) g0 g1 1) g0 g1 2) g0 g1 3) g0 g1 4) g0 g1 5) g0 g1 6
theorem zt_eq (g0 g1 : Nat) (σ : rp_St) : fX0_takeFrom g0 g1 σ = some (0, zt7 g0 g1 σ) := rfl
theorem zt1_k (σ : rp_St) (g0 g1 j : Nat) {k : Nat} (h : k ≠ 7 * g0 + j) : zt1 σ g0 g1 j k = σ k := by unfold zt1 rp_row; rw [if_neg h]
theorem zt1_j (σ : rp_St) (g0 g1 j : Nat) {i : Nat} (h : i < 7) : zt1 σ g0 g1 j (7 * g0 + j) i = σ (7 * g1 + j) i := by
  unfold zt1 rp_row
  rw [if_pos rfl, pk_cpy_in (by omega) (by omega)]
  simp
theorem zt7_fr (g0 g1 : Nat) (σ : rp_St) : fr (fun k => 7 * g0 ≤ k ∧ k < 7 * g0 + 7) σ (zt7 g0 g1 σ) := by
  intro k hk
  unfold zt7
  rw [zt1_k _ _ _ _ (by omega), zt1_k _ _ _ _ (by omega), zt1_k _ _ _ _ (by omega), zt1_k _ _ _ _ (by omega), zt1_k _ _ _ _ (by omega), zt1_k _ _ _ _ (by omega), z_putk _ _ _ _ (by omega)]
theorem zt7_X {β : zB} {σ : rp_St} {g0 g1 : Nat} (hg : g0 ≠ g1) (hI : BI β) (hX : BX β σ (7 * g1)) : BX β (zt7 g0 g1 σ) (7 * g0) := by
  have h7 := hI.1
  refine ⟨?_, fun g hg' j h1 h6 => ?_⟩
  · unfold zt7
    rw [zt1_k _ _ _ _ (by omega), zt1_k _ _ _ _ (by omega), zt1_k _ _ _ _ (by omega), zt1_k _ _ _ _ (by omega), zt1_k _ _ _ _ (by omega), zt1_k _ _ _ _ (by omega), z_put, if_pos ⟨rfl, rfl⟩]
    exact hX.1
  · have hs := hX.2 g hg' j h1 h6
    unfold zt7
    match j, h1, h6 with
    | 1, _, _ => rw [zt1_k _ _ _ _ (by omega), zt1_k _ _ _ _ (by omega), zt1_k _ _ _ _ (by omega), zt1_k _ _ _ _ (by omega), zt1_k _ _ _ _ (by omega), zt1_j _ _ _ _ (by omega), z_putk _ _ _ _ (by omega)]; exact hs
    | 2, _, _ => rw [zt1_k _ _ _ _ (by omega), zt1_k _ _ _ _ (by omega), zt1_k _ _ _ _ (by omega), zt1_k _ _ _ _ (by omega), zt1_j _ _ _ _ (by omega), zt1_k _ _ _ _ (by omega), z_putk _ _ _ _ (by omega)]; exact hs
    | 3, _, _ => rw [zt1_k _ _ _ _ (by omega), zt1_k _ _ _ _ (by omega), zt1_k _ _ _ _ (by omega), zt1_j _ _ _ _ (by omega), zt1_k _ _ _ _ (by omega), zt1_k _ _ _ _ (by omega), z_putk _ _ _ _ (by omega)]; exact hs
    | 4, _, _ => rw [zt1_k _ _ _ _ (by omega), zt1_k _ _ _ _ (by omega), zt1_j _ _ _ _ (by omega), zt1_k _ _ _ _ (by omega), zt1_k _ _ _ _ (by omega), zt1_k _ _ _ _ (by omega), z_putk _ _ _ _ (by omega)]; exact hs
    | 5, _, _ => rw [zt1_k _ _ _ _ (by omega), zt1_j _ _ _ _ (by omega), zt1_k _ _ _ _ (by omega), zt1_k _ _ _ _ (by omega), zt1_k _ _ _ _ (by omega), zt1_k _ _ _ _ (by omega), z_putk _ _ _ _ (by omega)]; exact hs
    | 6, _, _ => rw [zt1_j _ _ _ _ (by omega), zt1_k _ _ _ _ (by omega), zt1_k _ _ _ _ (by omega), zt1_k _ _ _ _ (by omega), zt1_k _ _ _ _ (by omega), zt1_k _ _ _ _ (by omega), z_putk _ _ _ _ (by omega)]; exact hs
/-- sums -/
def zsm (f : Nat → Nat) : Nat → Nat
  | 0 => 0
  | n + 1 => zsm f n + f n
theorem zx_sum3 {β : zB} {σ : rp_St} {b : Nat} (hI : BI β) (hX : BX β σ (7 * b)) : fX0_rueTogether b σ = some (nI (zsm (β 3) (β 0 0)), σ) := by
  have h7 := hI.1
  have key : ∀ (r k N : Nat), k + r = β 0 0 → r < N → rp_lp (fun _ _ _ => none) (fX0_rueTogether_4 b) N (nI (zsm (β 3) k)) (nI k) σ = some (nI (zsm (β 3) (β 0 0)), σ) := by
    intro r
    induction r with
    | zero =>
      intro k N hk hN
      obtain ⟨N, rfl⟩ : ∃ M, N = M + 1 := ⟨N - 1, by omega⟩
      have hk : k = β 0 0 := by omega
      rw [z_lp, fX0_rueTogether_4, hX.1, if_pos ((z_le (by omega) (by omega)).mpr (by omega)), hk]
    | succ r ih =>
      intro k N hk hN
      obtain ⟨N, rfl⟩ : ∃ M, N = M + 1 := ⟨N - 1, by omega⟩
      rw [z_lp, fX0_rueTogether_4, hX.1, if_neg (by rw [z_le (by omega) (by omega)]; omega), z_g (z_in (by omega) (by omega)), z_nm, z_nm, z_cl (by omega), hX.2 k (by omega) 3 (by decide) (by decide), nI_add, show (nI k + 1 : Int32) = nI (k + 1) from nI_1 _]
      exact ih (k + 1) N (by omega) (by omega)
  exact key (β 0 0) 0 300 (by omega) (by omega)
theorem zx_sum4 {β : zB} {σ : rp_St} {b : Nat} (hI : BI β) (hX : BX β σ (7 * b)) : fX0_dancedTogether b σ = some (nI (zsm (β 4) (β 0 0)), σ) := by
  have h7 := hI.1
  have key : ∀ (r k N : Nat), k + r = β 0 0 → r < N → rp_lp (fun _ _ _ => none) (fX0_dancedTogether_4 b) N (nI (zsm (β 4) k)) (nI k) σ = some (nI (zsm (β 4) (β 0 0)), σ) := by
    intro r
    induction r with
    | zero =>
      intro k N hk hN
      obtain ⟨N, rfl⟩ : ∃ M, N = M + 1 := ⟨N - 1, by omega⟩
      have hk : k = β 0 0 := by omega
      rw [z_lp, fX0_dancedTogether_4, hX.1, if_pos ((z_le (by omega) (by omega)).mpr (by omega)), hk]
    | succ r ih =>
      intro k N hk hN
      obtain ⟨N, rfl⟩ : ∃ M, N = M + 1 := ⟨N - 1, by omega⟩
      rw [z_lp, fX0_dancedTogether_4, hX.1, if_neg (by rw [z_le (by omega) (by omega)]; omega), z_g (z_in (by omega) (by omega)), z_nm, z_nm, z_cl (by omega), hX.2 k (by omega) 4 (by decide) (by decide), nI_add, show (nI k + 1 : Int32) = nI (k + 1) from nI_1 _]
      exact ih (k + 1) N (by omega) (by omega)
  exact key (β 0 0) 0 300 (by omega) (by omega)
theorem zm_sum {β : zB} {τ : rp_St} (hI : BI β) (hM : BM β (τ 1)) {j : Nat} (h1 : 1 ≤ j) (h5 : j ≤ 5) (f : Int32) (hf : f = nI (j - 1)) : fX7_sumOf f τ = some (nI (zsm (β j) (β 0 0)), τ) := by
  have h7 := hI.1
  have key : ∀ (r k N : Nat), k + r = β 0 0 → r < N → rp_lp (fun _ _ _ _ => none) fX7_sumOf_4 N f (nI (zsm (β j) k)) (nI k) τ = some (nI (zsm (β j) (β 0 0)), τ) := by
    intro r
    induction r with
    | zero =>
      intro k N hk hN
      obtain ⟨N, rfl⟩ : ∃ M, N = M + 1 := ⟨N - 1, by omega⟩
      have hk : k = β 0 0 := by omega
      rw [z_lp, fX7_sumOf_4, z_g zc1, zl1, hM.1, if_pos ((z_le (by omega) (by omega)).mpr (by omega)), hk]
    | succ r ih =>
      intro k N hk hN
      obtain ⟨N, rfl⟩ : ∃ M, N = M + 1 := ⟨N - 1, by omega⟩
      rw [z_lp, fX7_sumOf_4, z_g zc1, zl1, hM.1, if_neg (by rw [z_le (by omega) (by omega)]; omega), zm_is2 hI hM (g := k) (by omega) h1 h5 f hf, z_bd, z_nm, z_nm, nI_add, show (nI k + 1 : Int32) = nI (k + 1) from nI_1 _]
      exact ih (k + 1) N (by omega) (by omega)
  exact key (β 0 0) 0 300 (by omega) (by omega)
def zor (β : zB) : Nat → Int32
  | 0 => 0
  | k + 1 => zor β k ||| (nI (β 5 k) <<< (nI k &&& 31))
theorem zx_idle {β : zB} {σ : rp_St} {b : Nat} (hI : BI β) (hX : BX β σ (7 * b)) : fX0_idleSet b σ = some (zor β (β 0 0), σ) := by
  have h7 := hI.1
  have key : ∀ (r k N : Nat), k + r = β 0 0 → r < N → rp_lp (fun _ _ _ => none) (fX0_idleSet_4 b) N (zor β k) (nI k) σ = some (zor β (β 0 0), σ) := by
    intro r
    induction r with
    | zero =>
      intro k N hk hN
      obtain ⟨N, rfl⟩ : ∃ M, N = M + 1 := ⟨N - 1, by omega⟩
      have hk : k = β 0 0 := by omega
      rw [z_lp, fX0_idleSet_4, hX.1, if_pos ((z_le (by omega) (by omega)).mpr (by omega)), hk]
    | succ r ih =>
      intro k N hk hN
      obtain ⟨N, rfl⟩ : ∃ M, N = M + 1 := ⟨N - 1, by omega⟩
      rw [z_lp, fX0_idleSet_4, hX.1, if_neg (by rw [z_le (by omega) (by omega)]; omega), z_g (z_in (by omega) (by omega)), z_nm, z_nm, z_cl (by omega), hX.2 k (by omega) 5 (by decide) (by decide), show (nI k + 1 : Int32) = nI (k + 1) from nI_1 _]
      exact ih (k + 1) N (by omega) (by omega)
  exact key (β 0 0) 0 300 (by omega) (by omega)
theorem zm_idle {β : zB} {τ : rp_St} (hI : BI β) (hM : BM β (τ 1)) : fX7_idleOnes τ = some (zor β (β 0 0), τ) := by
  have h7 := hI.1
  have key : ∀ (r k N : Nat), k + r = β 0 0 → r < N → rp_lp (fun _ _ _ => none) fX7_idleOnes_4 N (zor β k) (nI k) τ = some (zor β (β 0 0), τ) := by
    intro r
    induction r with
    | zero =>
      intro k N hk hN
      obtain ⟨N, rfl⟩ : ∃ M, N = M + 1 := ⟨N - 1, by omega⟩
      have hk : k = β 0 0 := by omega
      rw [z_lp, fX7_idleOnes_4, z_g zc1, zl1, hM.1, if_pos ((z_le (by omega) (by omega)).mpr (by omega)), hk]
    | succ r ih =>
      intro k N hk hN
      obtain ⟨N, rfl⟩ : ∃ M, N = M + 1 := ⟨N - 1, by omega⟩
      rw [z_lp, fX7_idleOnes_4, z_g zc1, zl1, hM.1, if_neg (by rw [z_le (by omega) (by omega)]; omega), zm_is2 hI hM (g := k) (by omega) (j := 5) (by decide) (by decide) 4 rfl, z_bd, z_nm, z_nm, show (nI k + 1 : Int32) = nI (k + 1) from nI_1 _]
      exact ih (k + 1) N (by omega) (by omega)
  exact key (β 0 0) 0 300 (by omega) (by omega)
/-- how wrong the order is -/
def zwi (β : zB) (p : Nat) : Nat → Nat → Nat → Nat
  | 0, _, acc => acc
  | r + 1, q, acc => zwi β p r (q + 1) (if β 3 (β 6 q) < β 3 (β 6 p) then acc + 1 else acc)
def zwo (β : zB) : Nat → Nat → Nat → Nat
  | 0, _, acc => acc
  | r + 1, p, acc => zwo β r (p + 1) (zwi β p (β 0 0 - (p + 1)) (p + 1) acc)
def zw (β : zB) : Nat := zwo β (β 0 0) 0 0
theorem zx_wrong {β : zB} {σ : rp_St} {b : Nat} (hI : BI β) (hX : BX β σ (7 * b)) : fX0_wrongPairs b σ = some (nI (zw β), σ) := by
  have h7 := hI.1
  have inn : ∀ (k4 : Int32 → Int32 → rp_St → Option (Int32 × rp_St)) (p : Nat), p < β 0 0 → ∀ (r q N acc : Nat), q + r = β 0 0 → r < N → rp_lp (fun _ _ _ _ => none) (fX0_wrongPairs_16 b k4) N (nI acc) (nI p) (nI q) σ = k4 (nI (zwi β p r q acc)) (nI (p + 1)) σ := by
    intro k4 p hp r
    induction r with
    | zero =>
      intro q N acc hq hN
      obtain ⟨N, rfl⟩ : ∃ M, N = M + 1 := ⟨N - 1, by omega⟩
      rw [z_lp, fX0_wrongPairs_16, hX.1, if_pos ((z_le (by omega) (by omega)).mpr (by omega)), z_nm, show (nI p + 1 : Int32) = nI (p + 1) from nI_1 _]
      rfl
    | succ r ih =>
      intro q N acc hq hN
      obtain ⟨N, rfl⟩ : ∃ M, N = M + 1 := ⟨N - 1, by omega⟩
      have hqn : q < β 0 0 := by omega
      have x0 := hI.ord hp
      have x1 := hI.ord hqn
      have r0 : β 3 (β 6 p) ≤ 999 := hI.2.1 _ x0 3 (by decide) (by decide)
      have r1 : β 3 (β 6 q) ≤ 999 := hI.2.1 _ x1 3 (by decide) (by decide)
      rw [z_lp, fX0_wrongPairs_16, hX.1, if_neg (by rw [z_le (by omega) (by omega)]; omega), z_g (z_in (by omega) (by omega)), z_cl (by omega), hX.2 p hp 6 (by decide) (by decide), z_g (z_in (by omega) (by omega)), z_g (z_in (by omega) (by omega)), z_cl (by omega), hX.2 q hqn 6 (by decide) (by decide), z_g (z_in (by omega) (by omega)), z_cl (by omega), z_cl (by omega), hX.2 _ x0 3 (by decide) (by decide), hX.2 _ x1 3 (by decide) (by decide)]
      unfold zwi
      by_cases c : β 3 (β 6 q) < β 3 (β 6 p)
      · rw [if_neg (by rw [z_le (by omega) (by omega)]; omega), if_pos c, z_nm, fX0_wrongPairs_52, z_nm, show (nI acc + 1 : Int32) = nI (acc + 1) from nI_1 _, show (nI q + 1 : Int32) = nI (q + 1) from nI_1 _]
        exact ih (q + 1) N (acc + 1) (by omega) (by omega)
      · rw [if_pos ((z_le (by omega) (by omega)).mpr (by omega)), if_neg c, fX0_wrongPairs_52, z_nm, show (nI q + 1 : Int32) = nI (q + 1) from nI_1 _]
        exact ih (q + 1) N acc (by omega) (by omega)
  have out : ∀ (r p N acc : Nat), p + r = β 0 0 → r < N → rp_lp (fun _ _ _ => none) (fX0_wrongPairs_4 b) N (nI acc) (nI p) σ = some (nI (zwo β r p acc), σ) := by
    intro r
    induction r with
    | zero =>
      intro p N acc hp hN
      obtain ⟨N, rfl⟩ : ∃ M, N = M + 1 := ⟨N - 1, by omega⟩
      rw [z_lp, fX0_wrongPairs_4, hX.1, if_pos ((z_le (by omega) (by omega)).mpr (by omega))]
      rfl
    | succ r ih =>
      intro p N acc hp hN
      obtain ⟨N, rfl⟩ : ∃ M, N = M + 1 := ⟨N - 1, by omega⟩
      rw [z_lp, fX0_wrongPairs_4, hX.1, if_neg (by rw [z_le (by omega) (by omega)]; omega), z_nm, show (nI p + 1 : Int32) = nI (p + 1) from nI_1 _, inn _ p (by omega) (β 0 0 - (p + 1)) (p + 1) 300 acc (by omega) (by omega)]
      exact ih (p + 1) N _ (by omega) (by omega)
  exact out (β 0 0) 0 300 0 (by omega) (by omega)
theorem zm_wrong {β : zB} {τ : rp_St} (hI : BI β) (hM : BM β (τ 1)) : fX7_wrongs τ = some (nI (zw β), τ) := by
  have h7 := hI.1
  have inn : ∀ (k4 : Int32 → Int32 → rp_St → Option (Int32 × rp_St)) (p : Nat), p < β 0 0 → ∀ (r q N acc : Nat), q + r = β 0 0 → r < N → rp_lp (fun _ _ _ _ => none) (fX7_wrongs_18 k4) N (nI acc) (nI p) (nI q) τ = k4 (nI (zwi β p r q acc)) (nI (p + 1)) τ := by
    intro k4 p hp r
    induction r with
    | zero =>
      intro q N acc hq hN
      obtain ⟨N, rfl⟩ : ∃ M, N = M + 1 := ⟨N - 1, by omega⟩
      rw [z_lp, fX7_wrongs_18, z_g zc1, zl1, hM.1, if_pos ((z_le (by omega) (by omega)).mpr (by omega)), z_nm, show (nI p + 1 : Int32) = nI (p + 1) from nI_1 _]
      rfl
    | succ r ih =>
      intro q N acc hq hN
      obtain ⟨N, rfl⟩ : ∃ M, N = M + 1 := ⟨N - 1, by omega⟩
      have hqn : q < β 0 0 := by omega
      have x0 := hI.ord hp
      have x1 := hI.ord hqn
      have r0 : β 3 (β 6 p) ≤ 999 := hI.2.1 _ x0 3 (by decide) (by decide)
      have r1 : β 3 (β 6 q) ≤ 999 := hI.2.1 _ x1 3 (by decide) (by decide)
      rw [z_lp, fX7_wrongs_18, z_g zc1, zl1, hM.1, if_neg (by rw [z_le (by omega) (by omega)]; omega), show (5 + nI p : Int32) = nI (5 + p) from nI_add 5 p, show (5 + nI q : Int32) = nI (5 + q) from nI_add 5 q, z_g (z_in (by omega) (by omega)), z_cl (by omega), z_cl (by omega), z_ord hM hp, zm_rue hI hM x0, z_bd, z_g (z_in (by omega) (by omega)), z_ord hM hqn, zm_rue hI hM x1, z_bd]
      unfold zwi
      by_cases c : β 3 (β 6 q) < β 3 (β 6 p)
      · rw [if_neg (by rw [z_le (by omega) (by omega)]; omega), if_pos c, fX7_wrongs_61, z_nm, z_nm, show (nI acc + 1 : Int32) = nI (acc + 1) from nI_1 _, show (nI q + 1 : Int32) = nI (q + 1) from nI_1 _]
        exact ih (q + 1) N (acc + 1) (by omega) (by omega)
      · rw [if_pos ((z_le (by omega) (by omega)).mpr (by omega)), if_neg c, fX7_wrongs_61, z_nm, z_nm, show (nI acc + 0 : Int32) = nI acc from nI_add acc 0, show (nI q + 1 : Int32) = nI (q + 1) from nI_1 _]
        exact ih (q + 1) N acc (by omega) (by omega)
  have out : ∀ (r p N acc : Nat), p + r = β 0 0 → r < N → rp_lp (fun _ _ _ => none) fX7_wrongs_4 N (nI acc) (nI p) τ = some (nI (zwo β r p acc), τ) := by
    intro r
    induction r with
    | zero =>
      intro p N acc hp hN
      obtain ⟨N, rfl⟩ : ∃ M, N = M + 1 := ⟨N - 1, by omega⟩
      rw [z_lp, fX7_wrongs_4, z_g zc1, zl1, hM.1, if_pos ((z_le (by omega) (by omega)).mpr (by omega))]
      rfl
    | succ r ih =>
      intro p N acc hp hN
      obtain ⟨N, rfl⟩ : ∃ M, N = M + 1 := ⟨N - 1, by omega⟩
      rw [z_lp, fX7_wrongs_4, z_g zc1, zl1, hM.1, if_neg (by rw [z_le (by omega) (by omega)]; omega), z_nm, show (nI p + 1 : Int32) = nI (p + 1) from nI_1 _, inn _ p (by omega) (β 0 0 - (p + 1)) (p + 1) 300 acc (by omega) (by omega)]
      exact ih (p + 1) N _ (by omega) (by omega)
  exact out (β 0 0) 0 300 0 (by omega) (by omega)
theorem zwi_le (β : zB) (p : Nat) : ∀ (r q acc : Nat), acc ≤ zwi β p r q acc ∧ zwi β p r q acc ≤ acc + r := by
  intro r
  induction r with
  | zero => intro q acc; unfold zwi; omega
  | succ r ih =>
    intro q acc
    unfold zwi
    have := ih (q + 1) (if β 3 (β 6 q) < β 3 (β 6 p) then acc + 1 else acc)
    split at this <;> rename_i c
    · rw [if_pos c]; omega
    · rw [if_neg c]; omega
theorem zwo_le (β : zB) : ∀ (r p acc : Nat), acc ≤ zwo β r p acc ∧ zwo β r p acc ≤ acc + r * β 0 0 := by
  intro r
  induction r with
  | zero => intro p acc; unfold zwo; omega
  | succ r ih =>
    intro p acc
    unfold zwo
    have h1 := ih (p + 1) (zwi β p (β 0 0 - (p + 1)) (p + 1) acc)
    have h2 := zwi_le β p (β 0 0 - (p + 1)) (p + 1) acc
    rw [Nat.succ_mul]
    omega
theorem zw_le {β : zB} (hI : BI β) : zw β ≤ 49 := by
  have := (zwo_le β (β 0 0) 0 0).2
  have h7 := hI.1
  have : β 0 0 * β 0 0 ≤ 7 * 7 := Nat.mul_le_mul h7 h7
  unfold zw
  omega
