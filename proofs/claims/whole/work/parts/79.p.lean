theorem RR.w0 {σ τ : rp_St} (h : RR σ τ) : RR (rp_put σ 40 6 0) (rp_put τ 1 4 0) := by
  obtain ⟨h1, h2, h3, h4, h5, h6⟩ := h.1
  refine h.one (Or.inl rfl) ⟨h1.cg (fun k _ q => z_putk _ _ _ _ (by omega)) (fun i _ => z_pn _ _ _ _ (by omega)), h2.cg (z_pn _ _ _ _ (by omega)) (z_pn _ _ _ _ (by omega)), h3.cg (z_pn _ _ _ _ (by omega)) (z_pn _ _ _ _ (by omega)), h4.cg (z_pn _ _ _ _ (by omega)) (fun i _ => z_pn _ _ _ _ (by omega)) (z_pn _ _ _ _ (by omega)) (fun i _ _ => z_pn _ _ _ _ (by omega)), ⟨0, by decide, z_p _ _ _ _, z_p _ _ _ _, fun i hi => by omega⟩, h6.cg (fun k hk => z_putk _ _ _ _ (by omega)) (fun i _ _ => z_pn _ _ _ _ (by omega))⟩
theorem op_check (σ τ : rp_St) (h0 : RR σ τ) : OK (fX6_check σ) (fX7_check τ) := by
  obtain ⟨_, _, _, _, ⟨w, hw, e1, e2, e3⟩, _⟩ := h0.1
  have e1 : σ 40 6 = nI w := e1
  have h := h0.w0
  obtain ⟨φ0, φ1, β, W⟩ := h.wd
  unfold fX6_check fX7_check
  rw [z_nm, z_nm, z_g zc4, zl4, z_nm, z_g zc4, z_nm, e1, e2]
  obtain ⟨σ0, dσ⟩ : ∃ s, s = rp_put σ 40 6 0 := ⟨_, rfl⟩
  obtain ⟨τ0, dτ⟩ : ∃ s, s = rp_put τ 1 4 0 := ⟨_, rfl⟩
  rw [← dσ, ← dτ] at W h ⊢
  have wt : ∀ i, i < w → τ0 1 (97 + i) = σ0 42 i := fun i hi => by
    rw [dσ, dτ, z_pn τ _ _ _ (by omega), z_pn σ _ _ _ (by omega)]
    exact e3 i hi
  obtain ⟨σ1, x1, X1⟩ := wx_take W SX.rf
  obtain ⟨τ1, y1, Y1⟩ := wm_take W SM.rf
  rw [x1, z_bd, y1, z_bd]
  have key : ∀ (r k N M : Nat) (γ : zB) (σ2 τ2 : rp_St), k + r = w → r < N → r < M → TX σ0 γ σ2 → TM τ0 γ τ2 → OK (rp_lp (fun _ _ _ => none) fX6_check_32 N (nI w) (nI k) σ2) (rp_lp (fun _ _ _ _ => none) fX7_check_29 M (nI w) 0 (nI k) τ2) := by
    intro r
    induction r with
    | zero =>
      intro k N M γ σ2 τ2 hk hN hM1 X2 Y2
      obtain ⟨N, rfl⟩ : ∃ X, N = X + 1 := ⟨N - 1, by omega⟩
      obtain ⟨M, rfl⟩ : ∃ X, M = X + 1 := ⟨M - 1, by omega⟩
      obtain ⟨τ3, y3, Y3⟩ := tm_back Y2
      rw [z_lp, z_lp, fX6_check_32, fX7_check_29, if_pos ((z_le (by omega) (by omega)).mpr (by omega)), if_pos ((z_le (by omega) (by omega)).mpr (by omega)), fX7_check_73, fX7_putBack, y3, z_bd, z_bd]
      exact ok_mk (h.back X2.2.2 Y3)
    | succ r ih =>
      intro k N M γ σ2 τ2 hk hN hM1 X2 Y2
      obtain ⟨N, rfl⟩ : ∃ X, N = X + 1 := ⟨N - 1, by omega⟩
      obtain ⟨M, rfl⟩ : ∃ X, M = X + 2 := ⟨M - 2, by omega⟩
      obtain ⟨σ3, x3, X3⟩ := tx_hours W X2 (n := 1) (by decide)
      obtain ⟨τ4, y4, Y4⟩ := tm_hour W Y2
      obtain ⟨τ5, y5, Y5⟩ := tm_back Y4
      rw [z_lp (fun _ _ _ => none) fX6_check_32 N, show M + 2 = M + 1 + 1 from rfl, z_lp (fun _ _ _ _ => none) fX7_check_29 (M + 1), fX6_check_32, fX7_check_29, if_neg (show ¬ nI w ≤ nI k by rw [z_le (by omega) (by omega)]; omega), if_neg (show ¬ nI w ≤ nI k by rw [z_le (by omega) (by omega)]; omega), if_pos rfl, show fX0_passHours 2 1 1 σ2 = some (0, σ3) from x3, z_bd, zx_sum3 X3.1 X3.2.1, z_bd, y4, z_bd, show (97 + nI k : Int32) = nI (97 + k) from nI_add 97 k, z_g (z_in (show 97 + k < 221 by omega) (by decide)), zm_sum Y4.1 Y4.2.1 (j := 3) (by decide) (by decide) 2 rfl, z_bd, z_g (z_in (show k < 20 by omega) (by decide)), z_cl (by omega), z_cl (by omega), Y4.2.2.2.2 (97 + k) (by omega) (by omega), wt k (by omega), X3.2.2 42 (by omega)]
      by_cases c : nI (zsm (zhn φ1 1 γ 3) (zhn φ1 1 γ 0 0)) = σ0 42 k
      · rw [if_pos c, if_pos c.symm, z_nm, fX7_check_66, z_nm, show (nI k + 1 : Int32) = nI (k + 1) from nI_1 _]
        exact ih (k + 1) N (M + 1) _ σ3 τ4 (by omega) (by omega) (by omega) X3 Y4
      · have n1 : ¬ (1 + nI k : Int32) = 0 := by
          rw [show (1 + nI k : Int32) = nI (1 + k) from nI_add 1 k]
          exact nI_ne0 (by omega) (by omega)
        rw [if_neg c, if_neg (fun z => c z.symm), fX7_check_66, z_nm, z_lp (fun _ _ _ _ => none) fX7_check_29 M, fX7_check_29, if_neg n1, ite_self, fX7_check_73, fX7_putBack, y5, z_bd, z_bd]
        exact ok_mk (h.back X3.2.2 Y5)
  exact key w 0 300 300 β σ1 τ1 (by omega) (by omega) (by omega) X1 Y1
/-! when the order is right -/
def zri (γ : zB) : Nat → Bool
  | 0 => true
  | k + 1 => zri γ k && !decide (γ 3 (γ 6 (k + 1)) < γ 3 (γ 6 k))
theorem zm_right {γ : zB} {τ : rp_St} (hI : BI γ) (hM : BM γ (τ 1)) : fX7_isRight τ = some (if zri γ (γ 0 0 - 1) = true then 1 else 0, τ) := by
  have h7 := hI.1
  have key : ∀ (r k N : Nat), k + r = γ 0 0 - 1 → r < N → rp_lp (fun _ _ _ => none) fX7_isRight_4 N (if zri γ k = true then 1 else 0) (nI k) τ = some (if zri γ (γ 0 0 - 1) = true then 1 else 0, τ) := by
    intro r
    induction r with
    | zero =>
      intro k N hk hN
      obtain ⟨N, rfl⟩ : ∃ X, N = X + 1 := ⟨N - 1, by omega⟩
      have hk : k = γ 0 0 - 1 := by omega
      rw [z_lp, fX7_isRight_4, z_g zc1, zl1, hM.1, show (nI k + 1 : Int32) = nI (k + 1) from nI_1 _, if_pos (show nI (γ 0 0) ≤ nI (k + 1) from (z_le (by omega) (by omega)).mpr (by omega)), ← hk]
      by_cases c : zri γ k = true
      · rw [if_pos c]; rfl
      · rw [if_neg c]; rfl
    | succ r ih =>
      intro k N hk hN
      obtain ⟨N, rfl⟩ : ∃ X, N = X + 1 := ⟨N - 1, by omega⟩
      have st : zri γ (k + 1) = (zri γ k && !decide (γ 3 (γ 6 (k + 1)) < γ 3 (γ 6 k))) := rfl
      have ih' := ih (k + 1) N (by omega) (by omega)
      rw [z_lp, fX7_isRight_4, z_g zc1, zl1, hM.1, show (nI k + 1 : Int32) = nI (k + 1) from nI_1 _, if_neg (show ¬ nI (γ 0 0) ≤ nI (k + 1) by rw [z_le (by omega) (by omega)]; omega)]
      by_cases c : zri γ k = true
      · rw [if_pos c, if_neg (show ¬ (1 : Int32) = 0 by decide), zm_wrongAt hI hM (by omega), z_bd]
        by_cases d : γ 3 (γ 6 (k + 1)) < γ 3 (γ 6 k)
        · have e : ¬ zri γ (k + 1) = true := by rw [st]; simp [d]
          rw [if_neg e] at ih'
          rw [if_pos d, if_neg (show ¬ (1 : Int32) = 0 by decide), fX7_isRight_32, fX7_isRight_33, z_nm, show (nI k + 1 : Int32) = nI (k + 1) from nI_1 _]
          exact ih'
        · have e : zri γ (k + 1) = true := by rw [st]; simp [c, d]
          rw [if_pos e] at ih'
          rw [if_neg d, if_pos rfl, fX7_isRight_33, z_nm, show (nI k + 1 : Int32) = nI (k + 1) from nI_1 _]
          exact ih'
      · have e : ¬ zri γ (k + 1) = true := by rw [st]; simp [c]
        rw [if_neg e] at ih'
        rw [if_neg c, if_pos rfl, fX7_isRight_32, fX7_isRight_33, z_nm, show (nI k + 1 : Int32) = nI (k + 1) from nI_1 _]
        exact ih'
  exact key (γ 0 0 - 1) 0 300 (by omega) (by omega)
theorem zri_iff (γ : zB) : ∀ k, zri γ k = true ↔ ∀ p, p < k → γ 3 (γ 6 p) ≤ γ 3 (γ 6 (p + 1)) := by
  intro k
  induction k with
  | zero => exact ⟨fun _ p hp => by omega, fun _ => rfl⟩
  | succ k ih =>
    have st : zri γ (k + 1) = (zri γ k && !decide (γ 3 (γ 6 (k + 1)) < γ 3 (γ 6 k))) := rfl
    rw [st, Bool.and_eq_true, ih]
    constructor
    · intro h p hp
      by_cases c : p = k
      · subst c
        have := h.2
        simp at this
        omega
      · exact h.1 p (by omega)
    · intro h
      refine ⟨fun p hp => h p (by omega), ?_⟩
      have := h k (by omega)
      simp
      omega
theorem zwi_iff (γ : zB) (p : Nat) : ∀ (r q acc : Nat), zwi γ p r q acc = acc ↔ ∀ j, q ≤ j → j < q + r → γ 3 (γ 6 p) ≤ γ 3 (γ 6 j) := by
  intro r
  induction r with
  | zero => intro q acc; exact ⟨fun _ j a b => by omega, fun _ => rfl⟩
  | succ r ih =>
    intro q acc
    show zwi γ p r (q + 1) (if γ 3 (γ 6 q) < γ 3 (γ 6 p) then acc + 1 else acc) = acc ↔ _
    by_cases c : γ 3 (γ 6 q) < γ 3 (γ 6 p)
    · rw [if_pos c]
      have := (zwi_le γ p r (q + 1) (acc + 1)).1
      constructor
      · intro h; omega
      · intro h
        have := h q (by omega) (by omega)
        omega
    · rw [if_neg c, ih (q + 1) acc]
      constructor
      · intro h j a b
        by_cases e : j = q
        · subst e; omega
        · exact h j (by omega) (by omega)
      · intro h j a b
        exact h j (by omega) (by omega)
theorem zwo_iff (γ : zB) : ∀ (r p acc : Nat), zwo γ r p acc = acc ↔ ∀ i, p ≤ i → i < p + r → ∀ j, i + 1 ≤ j → j < γ 0 0 → γ 3 (γ 6 i) ≤ γ 3 (γ 6 j) := by
  intro r
  induction r with
  | zero => intro p acc; exact ⟨fun _ j a b => by omega, fun _ => rfl⟩
  | succ r ih =>
    intro p acc
    show zwo γ r (p + 1) (zwi γ p (γ 0 0 - (p + 1)) (p + 1) acc) = acc ↔ _
    have a1 := (zwo_le γ r (p + 1) (zwi γ p (γ 0 0 - (p + 1)) (p + 1) acc)).1
    have a2 := (zwi_le γ p (γ 0 0 - (p + 1)) (p + 1) acc).1
    constructor
    · intro h i hi1 hi2 j hj1 hj2
      have e1 : zwi γ p (γ 0 0 - (p + 1)) (p + 1) acc = acc := by omega
      rw [e1] at h
      by_cases e : i = p
      · subst e
        exact (zwi_iff γ i _ _ _).mp e1 j hj1 (by omega)
      · exact (ih (p + 1) acc).mp h i (by omega) (by omega) j hj1 hj2
    · intro h
      have e1 : zwi γ p (γ 0 0 - (p + 1)) (p + 1) acc = acc := (zwi_iff γ p _ _ _).mpr (fun j a b => h p (by omega) (by omega) j a (by omega))
      rw [e1]
      exact (ih (p + 1) acc).mpr (fun i a b j c d => h i (by omega) (by omega) j c d)
theorem zw_ri (γ : zB) : zw γ = 0 ↔ zri γ (γ 0 0 - 1) = true := by
  unfold zw
  rw [zwo_iff, zri_iff]
  constructor
  · intro h p hp
    exact h p (by omega) (by omega) (p + 1) (by omega) (by omega)
  · intro h i _ hi j hj1 hj2
    have key : ∀ d, i + d < γ 0 0 → γ 3 (γ 6 i) ≤ γ 3 (γ 6 (i + d)) := by
      intro d
      induction d with
      | zero => intro _; exact Nat.le_refl _
      | succ d ih =>
        intro hd
        have a := ih (by omega)
        have b := h (i + d) (by omega)
        have : i + (d + 1) = i + d + 1 := by omega
        rw [this]
        omega
    have := key (j - i) (by omega)
    rw [show i + (j - i) = j by omega] at this
    exact this
theorem op_inOrder (σ τ : rp_St) (h : RR σ τ) : OK (fX6_inOrder σ) (fX7_inOrder τ) := by
  obtain ⟨φ0, φ1, β, W⟩ := h.wd
  unfold fX6_inOrder fX7_inOrder
  obtain ⟨σ1, x1, X1⟩ := wx_take W SX.rf
  obtain ⟨τ1, y1, Y1⟩ := wm_take W SM.rf
  rw [x1, z_bd, y1, z_bd]
  have fin : ∀ (γ : zB) (k : Nat) (σ2 τ2 : rp_St), TX σ γ σ2 → TM τ γ τ2 → zw γ = 0 → OK (some (nI k, σ2)) (fX7_inOrder_36 (nI k) τ2) := by
    intro γ k σ2 τ2 X2 Y2 c
    obtain ⟨τ3, y3, Y3⟩ := tm_back Y2
    rw [fX7_inOrder_36, zm_right Y2.1 Y2.2.1, z_bd, if_pos ((zw_ri γ).mp c), y3, z_bd, if_neg (show ¬ (1 : Int32) = 0 by decide)]
    exact ok_mk (h.back X2.2.2 Y3)
  have key : ∀ (r k N M : Nat) (γ : zB) (σ2 τ2 : rp_St), k + r = 60 → r + 1 < N → r + 1 < M → TX σ γ σ2 → TM τ γ τ2 → OK (rp_lp (fun _ _ => none) fX6_inOrder_16 N (nI k) σ2) (rp_lp (fun _ _ => none) fX7_inOrder_13 M (nI k) τ2) := by
    intro r
    induction r with
    | zero =>
      intro k N M γ σ2 τ2 hk hN hM1 X2 Y2
      obtain ⟨N, rfl⟩ : ∃ X, N = X + 2 := ⟨N - 2, by omega⟩
      obtain ⟨M, rfl⟩ : ∃ X, M = X + 1 := ⟨M - 1, by omega⟩
      have hk : k = 60 := by omega
      subst hk
      have wl := zw_le X2.1
      obtain ⟨σ3, x3, X3⟩ := tx_hours W X2 (n := 1) (by decide)
      obtain ⟨τ3, y3, Y3⟩ := tm_back Y2
      rw [show N + 2 = N + 1 + 1 from rfl, z_lp (fun _ _ => none) fX6_inOrder_16 (N + 1), z_lp (fun _ _ => none) fX7_inOrder_13 M, fX6_inOrder_16, fX7_inOrder_13, if_neg (show ¬ (60 : Int32) < nI 60 by decide +kernel), if_pos (show (60 : Int32) ≤ nI 60 by decide +kernel), zx_wrong X2.1 X2.2.1, z_bd]
      by_cases c : zw γ = 0
      · rw [if_pos (by rw [c]; rfl)]
        exact fin γ 60 σ2 τ2 X2 Y2 c
      · rw [if_neg (nI_ne0 (by omega) (by omega)), show fX0_passHours 2 1 1 σ2 = some (0, σ3) from x3, z_bd, z_nm, show (nI 60 + 1 : Int32) = nI 61 by decide +kernel, z_lp, fX6_inOrder_16, if_pos (show (60 : Int32) < nI 61 by decide +kernel), fX7_inOrder_36, zm_right Y2.1 Y2.2.1, z_bd, if_neg (fun z => c ((zw_ri γ).mpr z)), y3, z_bd, if_pos rfl, z_bi, z_bi]
        exact rf2 (h.back X3.2.2 Y3)
    | succ r ih =>
      intro k N M γ σ2 τ2 hk hN hM1 X2 Y2
      obtain ⟨N, rfl⟩ : ∃ X, N = X + 1 := ⟨N - 1, by omega⟩
      obtain ⟨M, rfl⟩ : ∃ X, M = X + 1 := ⟨M - 1, by omega⟩
      have wl := zw_le X2.1
      obtain ⟨σ3, x3, X3⟩ := tx_hours W X2 (n := 1) (by decide)
      obtain ⟨τ4, y4, Y4⟩ := tm_hour W Y2
      rw [z_lp, z_lp, fX6_inOrder_16, fX7_inOrder_13, if_neg (show ¬ (60 : Int32) < nI k from fun z => by have := (z_lt (a := 60) (by omega) (by omega)).mp z; omega), if_neg (show ¬ (60 : Int32) ≤ nI k from fun z => by have := (z_le (a := 60) (by omega) (by omega)).mp z; omega), zx_wrong X2.1 X2.2.1, z_bd, zm_right Y2.1 Y2.2.1, z_bd]
      by_cases c : zw γ = 0
      · rw [if_pos (show nI (zw γ) = 0 by rw [c]; rfl), if_pos ((zw_ri γ).mp c), if_neg (show ¬ (1 : Int32) = 0 by decide)]
        exact fin γ k σ2 τ2 X2 Y2 c
      · rw [if_neg (nI_ne0 (by omega) (by omega)), if_neg (fun z => c ((zw_ri γ).mpr z)), if_pos rfl, show fX0_passHours 2 1 1 σ2 = some (0, σ3) from x3, z_bd, z_nm, y4, z_bd, z_nm, show (nI k + 1 : Int32) = nI (k + 1) from nI_1 _]
        exact ih (k + 1) N M _ σ3 τ4 (by omega) (by omega) (by omega) X3 Y4
  exact key 60 0 300 300 β σ1 τ1 (by omega) (by omega) (by omega) X1 Y1
/-! with whom to dance -/
theorem px_peg {φ0 φ1 : Int32 → Int32 → Int32 → Int32} {β : zB} {σ τ : rp_St} (W : WD φ0 φ1 β σ τ) {σ' : rp_St} (h : SX σ σ') {x y n : Nat} (hx : x < β 0 0) (hy : y < β 0 0) (hn : n ≤ 60) : ∃ σ1, fX6_pegHavingDanced (nI x) (nI y) (nI n) σ' = some (nI (zq (zhn φ1 n (zd φ0 x y β)) x), σ1) ∧ SX σ σ1 := by
  obtain ⟨σ1, x1, X1⟩ := wx_take W h
  obtain ⟨σ2, x2, X2⟩ := tx_dance W X1 hx hy
  obtain ⟨σ3, x3, X3⟩ := tx_hours W X2 hn
  have d0 := (W.1.1.dance W.1.2 x y).2
  unfold fX6_pegHavingDanced
  rw [x1, z_bd, x2, z_bd, x3, z_bd, tx_peg X3 (by rw [hn_0 X2.1, d0]; exact hx), z_bd]
  exact ⟨σ3, rfl, X3.2.2⟩
theorem pm_peg {φ0 φ1 : Int32 → Int32 → Int32 → Int32} {β : zB} {σ τ : rp_St} (W : WD φ0 φ1 β σ τ) {τ' : rp_St} (h : SM τ τ') {x y n : Nat} (hx : x < β 0 0) (hy : y < β 0 0) (hxy : x ≠ y) (hn : n ≤ 60) : ∃ τ1, fX7_pegWith (nI x) (nI y) (nI n) τ' = some (nI (zq (zhn φ1 n (zd φ0 x y β)) x), τ1) ∧ SM τ τ1 := by
  obtain ⟨τ1, x1, X1⟩ := wm_take W h
  obtain ⟨τ2, x2, X2⟩ := tm_dance W X1 hx hy hxy
  obtain ⟨τ3, x3, X3⟩ := tm_hours W X2 hn
  obtain ⟨τ4, x4, X4⟩ := tm_back X3
  have d0 := (W.1.1.dance W.1.2 x y).2
  unfold fX7_pegWith fX7_putBack
  rw [x1, z_bd, x2, z_bd, x3, z_bd, tm_peg X3 (by rw [hn_0 X2.1, d0]; exact hx), z_bd, x4, z_bd, z_bd]
  exact ⟨τ4, rfl, X4⟩
theorem pq_lt {φ0 φ1 : Int32 → Int32 → Int32 → Int32} {β : zB} (hI : BI β) (hR : R0 φ0) {x y n : Nat} (hx : x < β 0 0) : zq (zhn φ1 n (zd φ0 x y β)) x < β 0 0 := by
  have a := hI.dance hR x y
  have b := a.1.hn (φ := φ1) n
  have := (zq_lt b.1 (g := x) (by rw [b.2, a.2]; exact hx)).1
  rw [b.2, a.2] at this
  exact this
theorem op_partner (v1 v2 v3 : Int32) (σ τ : rp_St) (h : RR σ τ) : OK (fX6_partner v1 v2 v3 σ) (fX7_partner v1 v2 v3 τ) := by
  obtain ⟨φ0, φ1, β, W⟩ := h.wd
  obtain ⟨⟨hI, hR⟩, ⟨hX, _, _⟩, hM, _, _⟩ := id W
  have h7 := hI.1
  unfold fX6_partner fX7_partner fX7_isSoon fX6_partner_27 fX7_partner_24
  rcases zGu v1 hI hX hM with ⟨b1, b2⟩ | ⟨x, hx, rfl, b1, b2⟩
  · simp only [b1, b2, z_bd, z_bi, ↓reduceIte]
    exact rf1 h
  rcases zW' v2 0 20 0 20 rfl rfl (by decide) (by decide) with ⟨a1, a2⟩ | ⟨n, _, hn, rfl, a1, a2⟩
  · simp only [b1, b2, a1, a2, z_bd, z_bi, z10, z_gb0, ↓reduceIte]
    exact rf1 h
  rcases zW' v3 0 1 0 1 rfl rfl (by decide) (by decide) with ⟨c1, c2⟩ | ⟨w, _, hw, rfl, c1, c2⟩
  · simp only [a1, a2, b1, b2, c1, c2, z_bd, z_bi, z_gb1, z10, ↓reduceIte]
    exact rf1 h
  simp only [a1, a2, b1, b2, c1, c2, z_bd, z_bi, z_gb1, z10, ↓reduceIte]
  have key : ∀ (r k N M p : Nat) (v4 : Int32) (σ1 τ1 : rp_St), k + r = β 0 0 → r < N → r < M → p ≤ 7 → (v4 = -1 ∨ ∃ g, g < 7 ∧ v4 = nI g) → SX σ σ1 → SM τ τ1 → OK (rp_lp (fun _ _ _ _ _ _ _ => none) fX6_partner_43 N (nI x) (nI n) (nI w) v4 (nI p) (nI k) σ1) (rp_lp (fun _ _ _ _ _ _ _ => none) fX7_partner_41 M (nI x) (nI n) (nI w) v4 (nI p) (nI k) τ1) := by
    intro r
    induction r with
    | zero =>
      intro k N M p v4 σ1 τ1 hk hN hM1 hp hv sx sm
      obtain ⟨N, rfl⟩ : ∃ X, N = X + 1 := ⟨N - 1, by omega⟩
      obtain ⟨M, rfl⟩ : ∃ X, M = X + 1 := ⟨M - 1, by omega⟩
      rw [z_lp, z_lp, fX6_partner_43, fX7_partner_41, sx 0 (by omega), hX.1, z_g zc1, zl1, sm.2 1 (by decide), hM.1, if_pos ((z_le (by omega) (by omega)).mpr (by omega)), if_pos ((z_le (by omega) (by omega)).mpr (by omega)), z_bi, z_bi]
      rcases hv with rfl | ⟨g, hg, rfl⟩
      · rw [if_pos rfl, if_neg (show ¬ (0 : Int32) ≤ -1 by decide +kernel)]
        exact rf2 (h.back sx sm)
      · have g0 : ¬ nI g = -1 := fun z => by
          have : (nI g).toInt = (g : Int) := nI_toInt (by omega)
          rw [z] at this
          have e : (-1 : Int32).toInt = -1 := by decide +kernel
          omega
        rw [if_neg g0, if_pos (nI_pos' (by omega))]
        by_cases c : nI w = 0
        · rw [if_pos c, if_pos c]
          exact ok_mk (h.back sx sm)
        · rw [if_neg c, if_neg c]
          exact ok_mk (h.back sx sm)
    | succ r ih =>
      intro k N M p v4 σ1 τ1 hk hN hM1 hp hv sx sm
      obtain ⟨N, rfl⟩ : ∃ X, N = X + 1 := ⟨N - 1, by omega⟩
      obtain ⟨M, rfl⟩ : ∃ X, M = X + 1 := ⟨M - 1, by omega⟩
      rw [z_lp, z_lp, fX6_partner_43, fX7_partner_41, sx 0 (by omega), hX.1, z_g zc1, zl1, sm.2 1 (by decide), hM.1, if_neg (show ¬ nI (β 0 0) ≤ nI k by rw [z_le (by omega) (by omega)]; omega), if_neg (show ¬ nI (β 0 0) ≤ nI k by rw [z_le (by omega) (by omega)]; omega)]
      by_cases c : k = x
      · rw [if_pos (show nI k = nI x by rw [c]), if_pos (show nI k = nI x by rw [c]), fX6_partner_89, z_nm, fX7_partner_71, if_pos (show nI p ≤ (7 : Int32) from (z_le (b := 7) (by omega) (by omega)).mpr hp), fX7_partner_87, z_nm, z_nm, if_neg (show ¬ (7 : Int32) < nI p from fun z => by have := (z_lt (a := 7) (by omega) (by omega)).mp z; omega), show (nI k + 1 : Int32) = nI (k + 1) from nI_1 _]
        exact ih (k + 1) N M p v4 σ1 τ1 (by omega) (by omega) (by omega) hp hv sx sm
      · have cn : ¬ nI k = nI x := fun z => c ((z_eq (by omega) (by omega)).mp z)
        obtain ⟨σ2, x2, X2⟩ := px_peg W sx hx (y := k) (by omega) (n := n) (by omega)
        obtain ⟨τ2, y2, Y2⟩ := pm_peg W sm hx (y := k) (by omega) (fun z => c z.symm) (n := n) (by omega)
        have ql := pq_lt (φ1 := φ1) hI hR (y := k) (n := n) hx
        obtain ⟨q, dq⟩ : ∃ q, q = zq (zhn φ1 n (zd φ0 x k β)) x := ⟨_, rfl⟩
        rw [← dq] at x2 y2 ql
        rw [if_neg cn, if_neg cn, x2, z_bd, y2, z_bd, fX7_partner_71]
        by_cases d : p ≤ q
        · rw [if_pos (show nI p ≤ nI q from (z_le (by omega) (by omega)).mpr d), if_pos (show nI p ≤ nI q from (z_le (by omega) (by omega)).mpr d), fX6_partner_89, z_nm, fX7_partner_87, z_nm, z_nm, if_neg (show ¬ nI q < nI p from fun z => by have := (z_lt (by omega) (by omega)).mp z; omega), show (nI k + 1 : Int32) = nI (k + 1) from nI_1 _]
          exact ih (k + 1) N M p v4 σ2 τ2 (by omega) (by omega) (by omega) hp hv X2 Y2
        · rw [if_neg (show ¬ nI p ≤ nI q from fun z => d ((z_le (by omega) (by omega)).mp z)), if_neg (show ¬ nI p ≤ nI q from fun z => d ((z_le (by omega) (by omega)).mp z)), fX6_partner_89, z_nm, fX7_partner_87, z_nm, z_nm, if_pos (show nI q < nI p from (z_lt (by omega) (by omega)).mpr (by omega)), show (nI k + 1 : Int32) = nI (k + 1) from nI_1 _]
          exact ih (k + 1) N M q (nI k) σ2 τ2 (by omega) (by omega) (by omega) (by omega) (Or.inr ⟨k, by omega, rfl⟩) X2 Y2
  exact key (β 0 0) 0 300 300 7 (-1) σ τ (by omega) (by omega) (by omega) (by decide) (Or.inl rfl) SX.rf SM.rf
/-! who should rue nothing -/
theorem op_go (v1 v2 : Int32) (σ τ : rp_St) (h : RR σ τ) : OK (fX6_go v1 v2 σ) (fX7_go v1 v2 τ) := by
  obtain ⟨φ0, φ1, β, W⟩ := h.wd
  obtain ⟨⟨hI, hR⟩, ⟨hX, _, _⟩, hM, _, _⟩ := id W
  have h7 := hI.1
  unfold fX6_go fX7_go fX7_isSoon fX6_go_18 fX7_go_15
  rcases zGu v1 hI hX hM with ⟨b1, b2⟩ | ⟨x, hx, rfl, b1, b2⟩
  · simp only [b1, b2, z_bd, z_bi, ↓reduceIte]
    exact rf1 h
  rcases zW' v2 0 20 0 20 rfl rfl (by decide) (by decide) with ⟨a1, a2⟩ | ⟨n, _, hn, rfl, a1, a2⟩
  · simp only [b1, b2, a1, a2, z_bd, z_bi, z10, z_gb0, ↓reduceIte]
    exact rf1 h
  simp only [a1, a2, b1, b2, z_bd, z_bi, z_gb1, z10, ↓reduceIte]
  have key : ∀ (r k N M p : Nat) (v4 : Int32) (σ1 τ1 : rp_St), k + r = β 0 0 → r < N → r < M → p ≤ 7 → (v4 = -1 ∨ ∃ g, g < 7 ∧ v4 = nI g) → SX σ σ1 → SM τ τ1 → OK (rp_lp (fun _ _ _ _ _ _ => none) fX6_go_33 N (nI x) (nI n) v4 (nI p) (nI k) σ1) (rp_lp (fun _ _ _ _ _ _ => none) fX7_go_31 M (nI x) (nI n) v4 (nI p) (nI k) τ1) := by
    intro r
    induction r with
    | zero =>
      intro k N M p v4 σ1 τ1 hk hN hM1 hp hv sx sm
      obtain ⟨N, rfl⟩ : ∃ X, N = X + 1 := ⟨N - 1, by omega⟩
      obtain ⟨M, rfl⟩ : ∃ X, M = X + 1 := ⟨M - 1, by omega⟩
      rw [z_lp, z_lp, fX6_go_33, fX7_go_31, sx 0 (by omega), hX.1, z_g zc1, zl1, sm.2 1 (by decide), hM.1, if_pos ((z_le (by omega) (by omega)).mpr (by omega)), if_pos ((z_le (by omega) (by omega)).mpr (by omega)), z_bi, z_bi]
      rcases hv with rfl | ⟨g, hg, rfl⟩
      · rw [if_pos rfl, if_neg (show ¬ (0 : Int32) ≤ -1 by decide +kernel)]
        exact rf2 (h.back sx sm)
      · have g0 : ¬ nI g = -1 := fun z => by
          have : (nI g).toInt = (g : Int) := nI_toInt (by omega)
          rw [z] at this
          have e : (-1 : Int32).toInt = -1 := by decide +kernel
          omega
        rw [if_neg g0, if_pos (nI_pos' (by omega))]
        exact ok_mk (h.back sx sm)
    | succ r ih =>
      intro k N M p v4 σ1 τ1 hk hN hM1 hp hv sx sm
      obtain ⟨N, rfl⟩ : ∃ X, N = X + 1 := ⟨N - 1, by omega⟩
      obtain ⟨M, rfl⟩ : ∃ X, M = X + 1 := ⟨M - 1, by omega⟩
      rw [z_lp, z_lp, fX6_go_33, fX7_go_31, sx 0 (by omega), hX.1, z_g zc1, zl1, sm.2 1 (by decide), hM.1, if_neg (show ¬ nI (β 0 0) ≤ nI k by rw [z_le (by omega) (by omega)]; omega), if_neg (show ¬ nI (β 0 0) ≤ nI k by rw [z_le (by omega) (by omega)]; omega)]
      by_cases c : k = x
      · rw [if_pos (show nI k = nI x by rw [c]), if_pos (show nI k = nI x by rw [c]), fX6_go_118, z_nm, fX7_go_110, z_nm, show (nI k + 1 : Int32) = nI (k + 1) from nI_1 _]
        exact ih (k + 1) N M p v4 σ1 τ1 (by omega) (by omega) (by omega) hp hv sx sm
      · have cn : ¬ nI k = nI x := fun z => c ((z_eq (by omega) (by omega)).mp z)
        have ei : 12 + 5 * k + 2 = zi 3 k := by unfold zi; rw [if_neg (by decide)]; omega
        have I' : BI (zp β 3 k 0) := hI.put (by decide) (by decide) (Nat.zero_le _)
        have n' : zp β 3 k 0 0 0 = β 0 0 := zp0 _ (by decide) _ _
        obtain ⟨σ2, x2, X2⟩ := wx_take W sx
        have X2' : TX σ (zp β 3 k 0) (rp_put σ2 17 k 0) := ⟨I', X2.2.1.put (c := 7 * 2) (by decide) (by decide), X2.2.2.tr (fun j hj => z_putk _ _ _ _ (by omega))⟩
        obtain ⟨σ3, x3, X3⟩ := tx_hours W X2' (n := n) (by omega)
        obtain ⟨τ2, y2, Y2⟩ := wm_take W sm
        have Y2' : TM τ (zp β 3 k 0) (rp_put τ2 1 (12 + 5 * k + 2) 0) := ⟨I', by rw [z_up1]; exact Y2.2.1.put h7 (by omega) (by decide) (by decide) ei, fun j hj => by rw [z_putk _ _ _ _ (by omega)]; exact Y2.2.2.1 j hj, fun i hi => by rw [z_putk _ _ _ _ (by omega)]; exact Y2.2.2.2.1 i hi, fun i p q => by rw [z_pn _ _ _ _ (by omega)]; exact Y2.2.2.2.2 i p q⟩
        obtain ⟨τ3, y3, Y3⟩ := tm_hours W Y2' (n := n) (by omega)
        obtain ⟨τ4, y4, Y4⟩ := tm_back Y3
        have gx : x < zhn φ1 n (zp β 3 k 0) 0 0 := by rw [hn_0 I', n']; exact hx
        have ql : zq (zhn φ1 n (zp β 3 k 0)) x < β 0 0 := by
          have := (zq_lt X3.1 gx).1
          rw [hn_0 I', n'] at this
          exact this
        rw [if_neg cn, if_neg cn, x2, z_bd, z_g (z_in (show k < 7 by omega) (by decide)), z_nm, z_cl (by omega), x3, z_bd, tx_peg X3 gx, z_bd, y2, z_bd, show (2 : Int32) = nI 2 from rfl, zm_at, z_bd, z_g (z_in (show 12 + 5 * k + 2 < 221 by omega) (by decide)), z_nm, z_cl (by omega), y3, z_bd, tm_peg Y3 gx, z_bd]
        unfold fX7_putBack
        rw [y4, z_bd, z_bd]
        obtain ⟨q, dq⟩ : ∃ q, q = zq (zhn φ1 n (zp β 3 k 0)) x := ⟨_, rfl⟩
        rw [← dq] at ql ⊢
        by_cases d : p ≤ q
        · rw [if_pos (show nI p ≤ nI q from (z_le (by omega) (by omega)).mpr d), if_pos (show nI p ≤ nI q from (z_le (by omega) (by omega)).mpr d), fX6_go_118, z_nm, fX7_go_100, z_nm, if_neg (show ¬ nI q < nI p from fun z => by have := (z_lt (by omega) (by omega)).mp z; omega), fX7_go_110, z_nm, show (nI k + 1 : Int32) = nI (k + 1) from nI_1 _]
          exact ih (k + 1) N M p v4 σ3 τ4 (by omega) (by omega) (by omega) hp hv X3.2.2 Y4
        · rw [if_neg (show ¬ nI p ≤ nI q from fun z => d ((z_le (by omega) (by omega)).mp z)), if_neg (show ¬ nI p ≤ nI q from fun z => d ((z_le (by omega) (by omega)).mp z)), fX6_go_118, z_nm, fX7_go_100, z_nm, if_pos (show nI q < nI p from (z_lt (by omega) (by omega)).mpr (by omega)), fX7_go_110, z_nm, show (nI k + 1 : Int32) = nI (k + 1) from nI_1 _]
          exact ih (k + 1) N M q (nI k) σ3 τ4 (by omega) (by omega) (by omega) (by omega) (Or.inr ⟨k, by omega, rfl⟩) X3.2.2 Y4
  exact key (β 0 0) 0 300 300 7 (-1) σ τ (by omega) (by omega) (by omega) (by decide) (Or.inl rfl) SX.rf SM.rf
/-! odds -/
def gX : Nat → Int32 → Int32 → Int32 → Option Int32
  | 0, _, _, _ => none
  | n + 1, a, b, v => if v ≤ 1 then some 1 else if a - a / v * v = 0 then (if b - b / v * v = 0 then some v else gX n a b (v + (-1))) else gX n a b (v + (-1))
def gM : Nat → Int32 → Int32 → Option Int32
  | 0, _, _ => none
  | n + 1, a, b => if b = 0 then some a else gM n b (a - a / b * b)
theorem z_gX (a b : Int32) (σ : rp_St) : ∀ (N : Nat) (v : Int32), rp_lp (fun _ _ _ _ => none) fX6_greatestCommon_2 N a b v σ = (gX N a b v).map (fun r => (r, σ)) := by
  intro N
  induction N with
  | zero => intro v; rfl
  | succ N ih =>
    intro v
    rw [z_lp, fX6_greatestCommon_2]
    unfold gX
    by_cases c : v ≤ 1
    · rw [if_pos c, if_pos c]; rfl
    · have v0 : ¬ v = 0 := fun z => c (by rw [z]; decide +kernel)
      rw [if_neg c, if_neg c, z_nz v0, z_nz v0, fX6_greatestCommon_21, z_nm, ih]
      by_cases d : a - a / v * v = 0
      · rw [if_pos d, if_pos d]
        by_cases e : b - b / v * v = 0
        · rw [if_pos e, if_pos e]; rfl
        · rw [if_neg e, if_neg e]
      · rw [if_neg d, if_neg d]
theorem z_gM (w m c : Int32) (τ : rp_St) : ∀ (N : Nat) (a b g : Int32), gM N a b = some g → ¬ g = 0 → rp_lp (fun _ _ _ _ _ _ => none) fX7_odds_117 N w m c a b τ = some (if w = 0 then c / g else m / g, τ) := by
  intro N
  induction N with
  | zero => intro a b g h _; exact absurd h (by unfold gM; simp)
  | succ N ih =>
    intro a b g h h0
    unfold gM at h
    rw [z_lp, fX7_odds_117]
    by_cases d : b = 0
    · rw [if_pos d] at h
      injection h with h
      rw [h, if_pos d, z_nz h0, z_nz h0]
      by_cases e : w = 0
      · rw [if_pos e, if_pos e]
      · rw [if_neg e, if_neg e]
    · rw [if_neg d] at h
      rw [if_neg d, z_nz d, z_nm]
      exact ih _ _ g h h0
theorem z_gf' : ∀ m : Fin 7, ∀ c : Fin 7, (decide (1 ≤ m.val) && decide (c.val ≤ m.val)) = true → (gX 10 (nI c.val) (nI m.val) (nI m.val) == some (nI (Nat.gcd c.val m.val)) && gM 10 (nI m.val) (nI c.val) == some (nI (Nat.gcd c.val m.val)) && decide (1 ≤ Nat.gcd c.val m.val) && decide (Nat.gcd c.val m.val ≤ 6)) = true := by decide +kernel
theorem z_gf (m : Nat) (hm : m < 7) (c : Nat) (hc : c < 7) (h1 : 1 ≤ m) (h2 : c ≤ m) : (gX 10 (nI c) (nI m) (nI m) = some (nI (Nat.gcd c m)) ∧ gM 10 (nI m) (nI c) = some (nI (Nat.gcd c m))) ∧ (1 ≤ Nat.gcd c m ∧ Nat.gcd c m ≤ 6) := by
  have h := z_gf' ⟨m, hm⟩ ⟨c, hc⟩ (by rw [Bool.and_eq_true, decide_eq_true_eq, decide_eq_true_eq]; exact ⟨h1, h2⟩)
  rw [Bool.and_eq_true, Bool.and_eq_true, Bool.and_eq_true, decide_eq_true_eq, decide_eq_true_eq, beq_iff_eq, beq_iff_eq] at h
  exact ⟨⟨h.1.1.1, h.1.1.2⟩, h.1.2, h.2⟩
theorem gX_mono (a b r : Int32) : ∀ (N : Nat) (v : Int32), gX N a b v = some r → gX (N + 1) a b v = some r := by
  intro N
  induction N with
  | zero => intro v h; exact absurd h (by unfold gX; simp)
  | succ N ih =>
    intro v h
    unfold gX at h ⊢
    by_cases c : v ≤ 1
    · rw [if_pos c] at h ⊢; exact h
    · rw [if_neg c] at h ⊢
      by_cases d : a - a / v * v = 0
      · rw [if_pos d] at h ⊢
        by_cases e : b - b / v * v = 0
        · rw [if_pos e] at h ⊢; exact h
        · rw [if_neg e] at h ⊢; exact ih _ h
      · rw [if_neg d] at h ⊢; exact ih _ h
theorem gM_mono (r : Int32) : ∀ (N : Nat) (a b : Int32), gM N a b = some r → gM (N + 1) a b = some r := by
  intro N
  induction N with
  | zero => intro a b h; exact absurd h (by unfold gM; simp)
  | succ N ih =>
    intro a b h
    unfold gM at h ⊢
    by_cases d : b = 0
    · rw [if_pos d] at h ⊢; exact h
    · rw [if_neg d] at h ⊢; exact ih _ _ h
theorem gX_up (a b r v : Int32) (N : Nat) (h : gX N a b v = some r) : ∀ k, gX (N + k) a b v = some r := by
  intro k
  induction k with
  | zero => exact h
  | succ k ih => exact gX_mono a b r _ v ih
theorem gM_up (a b r : Int32) (N : Nat) (h : gM N a b = some r) : ∀ k, gM (N + k) a b = some r := by
  intro k
  induction k with
  | zero => exact h
  | succ k ih => exact gM_mono r _ a b ih
theorem z_gcd (m c w : Nat) (h1 : 1 ≤ m) (h6 : m ≤ 6) (hc : c ≤ m) : ∃ r : Int32, (∀ σ : rp_St, rp_bd (fX6_greatestCommon (nI c) (nI m) σ) (fun r1 σ2 => if nI w = 0 then rp_gu (rp_nz0 r1) (some ((nI c / r1), σ2)) else rp_gu (rp_nz0 r1) (some ((nI m / r1), σ2))) = some (r, σ)) ∧ (∀ τ : rp_St, rp_lp (fun _ _ _ _ _ _ => none) fX7_odds_117 300 (nI w) (nI m) (nI c) (nI m) (nI c) τ = some (r, τ)) := by
  obtain ⟨⟨a1, a2⟩, a3, a4⟩ := z_gf m (by omega) c (by omega) h1 hc
  have g0 : ¬ nI (Nat.gcd c m) = 0 := nI_ne0 (by omega) (by omega)
  refine ⟨if nI w = 0 then nI c / nI (Nat.gcd c m) else nI m / nI (Nat.gcd c m), fun σ => ?_, fun τ => z_gM _ _ _ τ 300 _ _ _ (gM_up _ _ _ 10 a2 290) g0⟩
  unfold fX6_greatestCommon
  rw [z_gX, show (300 : Nat) = 10 + 290 from rfl, gX_up _ _ _ _ 10 a1 290]
  show (if nI w = 0 then rp_gu (rp_nz0 (nI (Nat.gcd c m))) (some ((nI c / nI (Nat.gcd c m)), σ)) else rp_gu (rp_nz0 (nI (Nat.gcd c m))) (some ((nI m / nI (Nat.gcd c m)), σ))) = _
  rw [z_nz g0, z_nz g0]
  by_cases e : nI w = 0
  · rw [if_pos e, if_pos e]
  · rw [if_neg e, if_neg e]

theorem op_odds (v1 v2 v3 v4 : Int32) (σ τ : rp_St) (h : RR σ τ) : OK (fX6_odds v1 v2 v3 v4 σ) (fX7_odds v1 v2 v3 v4 τ) := by
  obtain ⟨φ0, φ1, β, W⟩ := h.wd
  obtain ⟨⟨hI, hR⟩, ⟨hX, _, _⟩, hM, _, _⟩ := id W
  have h7 := hI.1
  unfold fX6_odds fX7_odds fX7_isBehind fX6_isPeg fX6_odds_36 fX7_odds_33
  rcases zGu v1 hI hX hM with ⟨b1, b2⟩ | ⟨x, hx, rfl, b1, b2⟩
  · simp only [b1, b2, z_bd, z_bi, ↓reduceIte]
    exact rf1 h
  rcases zGu v2 hI hX hM with ⟨d1, d2⟩ | ⟨g, hg, rfl, d1, d2⟩
  · simp only [b1, b2, d1, d2, z_bd, z_bi, z10, z_gb0, ↓reduceIte]
    exact rf1 h
  rcases zW' v3 0 60 0 60 rfl rfl (by decide) (by decide) with ⟨a1, a2⟩ | ⟨n, _, hn, rfl, a1, a2⟩
  · simp only [b1, b2, d1, d2, a1, a2, z_bd, z_bi, z10, z_gb0, z_gb1, ↓reduceIte]
    exact rf1 h
  rcases zW' v4 0 1 0 1 rfl rfl (by decide) (by decide) with ⟨c1, c2⟩ | ⟨w, _, hw, rfl, c1, c2⟩
  · simp only [a1, a2, b1, b2, c1, c2, d1, d2, z_bd, z_bi, z_gb1, z10, ↓reduceIte]
    exact rf1 h
  simp only [a1, a2, b1, b2, c1, c2, d1, d2, z_bd, z_bi, z_gb1, z10, ↓reduceIte]
  rw [z_nm, z_g zc1, zl1, z_nm, hX.1, hM.1, show (nI (β 0 0) - 1 : Int32) = nI (β 0 0 - 1) from pk_sub (a := β 0 0) (b := 1) (by omega)]
  by_cases n0 : β 0 0 - 1 = 0
  · rw [if_pos (by rw [n0]; rfl), if_pos (by rw [n0]; rfl)]
    exact rf2 h
  rw [if_neg (nI_ne0 (by omega) (by omega)), if_neg (nI_ne0 (by omega) (by omega))]
  have key : ∀ (r k N M p : Nat) (σ1 τ1 : rp_St), k + r = β 0 0 → r < N → r < M → p ≤ k → (x < k → p + 1 ≤ k) → SX σ σ1 → SM τ τ1 → OK (rp_lp (fun _ _ _ _ _ _ _ _ => none) fX6_odds_73 N (nI x) (nI g) (nI n) (nI w) (nI (β 0 0 - 1)) (nI p) (nI k) σ1) (rp_lp (fun _ _ _ _ _ _ _ _ => none) fX7_odds_68 M (nI x) (nI g) (nI n) (nI w) (nI (β 0 0 - 1)) (nI p) (nI k) τ1) := by
    intro r
    induction r with
    | zero =>
      intro k N M p σ1 τ1 hk hN hM1 hp hp2 sx sm
      obtain ⟨N, rfl⟩ : ∃ X, N = X + 1 := ⟨N - 1, by omega⟩
      obtain ⟨M, rfl⟩ : ∃ X, M = X + 1 := ⟨M - 1, by omega⟩
      obtain ⟨q, q1, q2⟩ := z_gcd (β 0 0 - 1) p w (by omega) (by omega) (by omega)
      rw [z_lp, z_lp, fX6_odds_73, fX7_odds_68, if_pos (show nI (β 0 0 - 1) < nI k from (z_lt (by omega) (by omega)).mpr (by omega)), if_pos (show nI (β 0 0 - 1) < nI k from (z_lt (by omega) (by omega)).mpr (by omega)), q1, q2]
      exact ok_mk (h.back sx sm)
    | succ r ih =>
      intro k N M p σ1 τ1 hk hN hM1 hp hp2 sx sm
      obtain ⟨N, rfl⟩ : ∃ X, N = X + 1 := ⟨N - 1, by omega⟩
      obtain ⟨M, rfl⟩ : ∃ X, M = X + 1 := ⟨M - 1, by omega⟩
      rw [z_lp, z_lp, fX6_odds_73, fX7_odds_68, if_neg (show ¬ nI (β 0 0 - 1) < nI k from fun z => by have := (z_lt (by omega) (by omega)).mp z; omega), if_neg (show ¬ nI (β 0 0 - 1) < nI k from fun z => by have := (z_lt (by omega) (by omega)).mp z; omega)]
      by_cases c : k = x
      · rw [if_pos (show nI k = nI x by rw [c]), if_pos (show nI k = nI x by rw [c]), fX6_odds_101, z_nm, fX7_odds_99, fX7_odds_100, z_nm, z_nm, show (nI k + 1 : Int32) = nI (k + 1) from nI_1 _, show (nI p + 0 : Int32) = nI p from nI_add p 0]
        exact ih (k + 1) N M p σ1 τ1 (by omega) (by omega) (by omega) (by omega) (fun _ => by omega) sx sm
      · have cn : ¬ nI k = nI x := fun z => c ((z_eq (by omega) (by omega)).mp z)
        obtain ⟨σ2, x2, X2⟩ := px_peg W sx hx (y := k) (by omega) (n := n) (by omega)
        obtain ⟨τ2, y2, Y2⟩ := pm_peg W sm hx (y := k) (by omega) (fun z => c z.symm) (n := n) (by omega)
        rw [if_neg cn, if_neg cn, x2, z_bd, y2, z_bd]
        by_cases d : nI g < nI (zq (zhn φ1 n (zd φ0 x k β)) x)
        · rw [if_pos d, if_pos d, fX6_odds_101, z_nm, fX7_odds_99, fX7_odds_100, z_nm, z_nm, show (nI k + 1 : Int32) = nI (k + 1) from nI_1 _, show (nI p + 0 : Int32) = nI p from nI_add p 0]
          exact ih (k + 1) N M p σ2 τ2 (by omega) (by omega) (by omega) (by omega) (fun _ => by omega) X2 Y2
        · rw [if_neg d, if_neg d, z_nm, fX6_odds_101, z_nm, fX7_odds_100, z_nm, z_nm, show (nI k + 1 : Int32) = nI (k + 1) from nI_1 _, show (nI p + 1 : Int32) = nI (p + 1) from nI_1 _]
          exact ih (k + 1) N M (p + 1) σ2 τ2 (by omega) (by omega) (by omega) (by omega) (fun z => by omega) X2 Y2
  exact key (β 0 0) 0 300 300 0 σ τ (by omega) (by omega) (by omega) (by omega) (fun z => by omega) SX.rf SM.rf
