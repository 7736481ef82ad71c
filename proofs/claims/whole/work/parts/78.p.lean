/-! thinking ahead -/
def WD (φ0 φ1 : Int32 → Int32 → Int32 → Int32) (β : zB) (σ τ : rp_St) : Prop := (BI β ∧ R0 φ0) ∧ (BX β σ 0 ∧ GX φ0 0 σ ∧ GX φ1 1 σ) ∧ BM β (τ 1) ∧ GM φ0 0 τ ∧ GM φ1 1 τ
theorem RR.wd {σ τ : rp_St} (h : RR σ τ) : ∃ φ0 φ1 β, WD φ0 φ1 β σ τ := by
  obtain ⟨β, hI, hX, hM⟩ := h.1.1
  obtain ⟨φ0, φ1, a1, a2, a3, b1, b2⟩ := h.laws
  exact ⟨φ0, φ1, β, ⟨hI, a3⟩, ⟨hX, a1, b1⟩, hM, a2, b2⟩
def SX (σ σ' : rp_St) : Prop := ∀ k, ¬ ((14 ≤ k ∧ k < 28) ∨ k = 30 ∨ k = 33 ∨ k = 57 ∨ k = 58) → σ' k = σ k
def SM (τ τ' : rp_St) : Prop := (∀ k, ¬ (k = 1 ∨ k = 3 ∨ k = 5 ∨ k = 8 ∨ k = 9) → τ' k = τ k) ∧ ∀ i, i < 221 → τ' 1 i = τ 1 i
theorem SX.rf {σ : rp_St} : SX σ σ := fun _ _ => rfl
theorem SX.tr {σ σ' σ'' : rp_St} (h : SX σ σ') (h2 : SX σ' σ'') : SX σ σ'' := fun k hk => (h2 k hk).trans (h k hk)
theorem SM.rf {τ : rp_St} : SM τ τ := ⟨fun _ _ => rfl, fun _ _ => rfl⟩
theorem RR.back {σ σ' τ τ' : rp_St} (h : RR σ τ) (a : SX σ σ') (b : SM τ τ') : RR σ' τ' := h.sc (fun k hk => a k hk) (fun k hk => b.1 k (by omega)) b.2
theorem WD.gx0 {φ0 φ1 : Int32 → Int32 → Int32 → Int32} {β : zB} {σ τ : rp_St} (W : WD φ0 φ1 β σ τ) {σ' : rp_St} (h : SX σ σ') : GX φ0 0 σ' := W.2.1.2.1.mv (h _ (by omega)) (h _ (by omega))
theorem WD.gx1 {φ0 φ1 : Int32 → Int32 → Int32 → Int32} {β : zB} {σ τ : rp_St} (W : WD φ0 φ1 β σ τ) {σ' : rp_St} (h : SX σ σ') : GX φ1 1 σ' := W.2.1.2.2.mv (h _ (by omega)) (h _ (by omega))
def TX (σ : rp_St) (γ : zB) (σ' : rp_St) : Prop := BI γ ∧ BX γ σ' (7 * 2) ∧ SX σ σ'
def TM (τ : rp_St) (γ : zB) (τ' : rp_St) : Prop := BI γ ∧ BM γ (τ' 1) ∧ (∀ k, ¬ (k = 1 ∨ k = 3 ∨ k = 5 ∨ k = 8 ∨ k = 9) → τ' k = τ k) ∧ (∀ i, i < 221 → τ' 3 i = τ 1 i) ∧ ∀ i, 47 ≤ i → i < 221 → τ' 1 i = τ 1 i
theorem WD.gm0 {φ0 φ1 : Int32 → Int32 → Int32 → Int32} {β : zB} {σ τ : rp_St} (W : WD φ0 φ1 β σ τ) {γ : zB} {τ' : rp_St} (h : TM τ γ τ') : GM φ0 0 τ' := W.2.2.2.1.mv (fun i p q => h.2.2.2.2 i (by omega) q)
theorem WD.gm1 {φ0 φ1 : Int32 → Int32 → Int32 → Int32} {β : zB} {σ τ : rp_St} (W : WD φ0 φ1 β σ τ) {γ : zB} {τ' : rp_St} (h : TM τ γ τ') : GM φ1 1 τ' := W.2.2.2.2.mv (fun i p q => h.2.2.2.2 i (by omega) q)
theorem wx_take {φ0 φ1 : Int32 → Int32 → Int32 → Int32} {β : zB} {σ τ : rp_St} (W : WD φ0 φ1 β σ τ) {σ' : rp_St} (h : SX σ σ') : ∃ σ1, fX0_takeFrom 2 0 σ' = some (0, σ1) ∧ TX σ β σ1 := by
  have hX : BX β σ' (7 * 0) := W.2.1.1.fr (fun k _ q => h k (by omega))
  refine ⟨zt7 2 0 σ', zt_eq 2 0 σ', W.1.1, zt7_X (by decide) W.1.1 hX, h.tr (fun k hk => zt7_fr 2 0 σ' k (by omega))⟩
theorem wm_take {φ0 φ1 : Int32 → Int32 → Int32 → Int32} {β : zB} {σ τ : rp_St} (W : WD φ0 φ1 β σ τ) {τ' : rp_St} (h : SM τ τ') : ∃ τ1, fX7_copy 1 3 τ' = some (0, τ1) ∧ TM τ β τ1 := by
  obtain ⟨τ1, e1, e2, e3⟩ := zm_copy (j0 := 1) (j1 := 3) (by decide) τ'
  have k1 : τ1 1 = τ' 1 := e3 1 (by decide)
  refine ⟨τ1, e1, W.1.1, ?_, fun k hk => (e3 k (by omega)).trans (h.1 k hk), fun i hi => (e2 i hi).trans (h.2 i hi), fun i p q => by rw [k1]; exact h.2 i q⟩
  rw [k1]
  exact W.2.2.1.fr2 W.1.1.1 (fun i hi => h.2 i (by omega))
theorem tx_hours {φ0 φ1 : Int32 → Int32 → Int32 → Int32} {β : zB} {σ τ : rp_St} (W : WD φ0 φ1 β σ τ) {γ : zB} {σ' : rp_St} (h : TX σ γ σ') {n : Nat} (hn : n ≤ 60) : ∃ σ1, fX0_passHours 2 1 (nI n) σ' = some (0, σ1) ∧ TX σ (zhn φ1 n γ) σ1 := by
  obtain ⟨σ1, e1, X1, f1⟩ := zx_hours (b := 2) (l := 1) (by decide) (by decide) hn (W.gx1 h.2.2) h.1 h.2.1
  exact ⟨σ1, e1, (h.1.hn n).1, X1, h.2.2.tr (fun k hk => f1 k (by unfold wX; omega))⟩
theorem tx_dance {φ0 φ1 : Int32 → Int32 → Int32 → Int32} {β : zB} {σ τ : rp_St} (W : WD φ0 φ1 β σ τ) {γ : zB} {σ' : rp_St} (h : TX σ γ σ') {x y : Nat} (hx : x < γ 0 0) (hy : y < γ 0 0) : ∃ σ1, fX0_pairUp 2 0 (nI x) (nI y) σ' = some (0, σ1) ∧ TX σ (zd φ0 x y γ) σ1 := by
  obtain ⟨σ1, e1, X1, f1⟩ := zx_dance (b := 2) (l := 0) W.1.2 (by decide) (by decide) (W.gx0 h.2.2) h.1 h.2.1 hx hy
  exact ⟨σ1, e1, (h.1.dance W.1.2 x y).1, X1, h.2.2.tr (fun k hk => f1 k (by unfold wX; omega))⟩
theorem tm_hours {φ0 φ1 : Int32 → Int32 → Int32 → Int32} {β : zB} {σ τ : rp_St} (W : WD φ0 φ1 β σ τ) {γ : zB} {τ' : rp_St} (h : TM τ γ τ') {n : Nat} (hn : n ≤ 60) : ∃ τ1, fX7_hoursGo (nI n) τ' = some (0, τ1) ∧ TM τ (zhn φ1 n γ) τ1 := by
  obtain ⟨τ1, e1, M1, _, f1⟩ := zm_hours hn (W.gm1 h) h.1 h.2.1
  exact ⟨τ1, e1, (h.1.hn n).1, M1, fun k hk => (f1.1 k (by omega)).trans (h.2.2.1 k hk), fun i hi => by rw [f1.1 3 (by decide)]; exact h.2.2.2.1 i hi, fun i p q => (f1.2 i (by omega)).trans (h.2.2.2.2 i p q)⟩
theorem tm_hour {φ0 φ1 : Int32 → Int32 → Int32 → Int32} {β : zB} {σ τ : rp_St} (W : WD φ0 φ1 β σ τ) {γ : zB} {τ' : rp_St} (h : TM τ γ τ') : ∃ τ1, fX7_hour τ' = some (0, τ1) ∧ TM τ (zhn φ1 1 γ) τ1 := by
  obtain ⟨τ1, e1, M1, _, f1⟩ := zm_hour (W.gm1 h) h.1 h.2.1
  exact ⟨τ1, e1, (h.1.hn 1).1, M1, fun k hk => (f1.1 k (by omega)).trans (h.2.2.1 k hk), fun i hi => by rw [f1.1 3 (by decide)]; exact h.2.2.2.1 i hi, fun i p q => (f1.2 i (by omega)).trans (h.2.2.2.2 i p q)⟩
theorem tm_dance {φ0 φ1 : Int32 → Int32 → Int32 → Int32} {β : zB} {σ τ : rp_St} (W : WD φ0 φ1 β σ τ) {γ : zB} {τ' : rp_St} (h : TM τ γ τ') {x y : Nat} (hx : x < γ 0 0) (hy : y < γ 0 0) (hxy : x ≠ y) : ∃ τ1, fX7_dancing (nI x) (nI y) τ' = some (0, τ1) ∧ TM τ (zd φ0 x y γ) τ1 := by
  obtain ⟨τ1, e1, M1, f1⟩ := zm_dance W.1.2 (W.gm0 h) h.1 h.2.1 hx hy hxy
  exact ⟨τ1, e1, (h.1.dance W.1.2 x y).1, M1, fun k hk => (f1.1 k (by omega)).trans (h.2.2.1 k hk), fun i hi => by rw [f1.1 3 (by decide)]; exact h.2.2.2.1 i hi, fun i p q => (f1.2 i (by omega)).trans (h.2.2.2.2 i p q)⟩
theorem tm_back {τ : rp_St} {γ : zB} {τ' : rp_St} (h : TM τ γ τ') : ∃ τ1, fX7_copy 3 1 τ' = some (0, τ1) ∧ SM τ τ1 := by
  obtain ⟨τ1, e1, e2, e3⟩ := zm_copy (j0 := 3) (j1 := 1) (by decide) τ'
  exact ⟨τ1, e1, fun k hk => (e3 k (by omega)).trans (h.2.2.1 k hk), fun i hi => (e2 i hi).trans (h.2.2.2.1 i hi)⟩
theorem tx_peg {σ : rp_St} {γ : zB} {σ' : rp_St} (h : TX σ γ σ') {g : Nat} (hg : g < γ 0 0) : fX0_pegOf 2 (nI g) σ' = some (nI (zq γ g), σ') := by
  have hp := zq_lt h.1 hg
  have := zx_peg (b := 2) h.1 h.2.1 hp.1
  rw [hp.2] at this
  exact this
theorem tm_peg {τ : rp_St} {γ : zB} {τ' : rp_St} (h : TM τ γ τ') {g : Nat} (hg : g < γ 0 0) : fX7_pegOf (nI g) τ' = some (nI (zq γ g), τ') := by
  have hp := zq_lt h.1 hg
  have := zm_peg h.1 h.2.1 hp.1
  rw [hp.2] at this
  exact this
theorem hn_0 {φ : Int32 → Int32 → Int32 → Int32} {γ : zB} (h : BI γ) (n : Nat) : zhn φ n γ 0 0 = γ 0 0 := (h.hn n).2
theorem tx_last {σ : rp_St} {γ : zB} {σ' : rp_St} (h : TX σ γ σ') (hg : 0 < γ 0 0) : fX0_lastGuest 2 σ' = some (nI (γ 6 (γ 0 0 - 1)), σ') := by
  rw [zx_last h.1 h.2.1, if_neg (by omega)]
theorem op_then (v1 v2 v3 : Int32) (σ τ : rp_St) (h : RR σ τ) : OK (fX6_then v1 v2 v3 σ) (fX7_then v1 v2 v3 τ) := by
  obtain ⟨φ0, φ1, β, W⟩ := h.wd
  obtain ⟨⟨hI, _⟩, ⟨hX, _, _⟩, hM, _, _⟩ := id W
  have h7 := hI.1
  unfold fX6_then fX7_then fX7_isBehind fX6_then_27 fX7_then_24 fX7_then_65 fX7_putBack
  rcases zW' v1 0 60 0 60 rfl rfl (by decide) (by decide) with ⟨a1, a2⟩ | ⟨n, _, hn, rfl, a1, a2⟩
  · simp only [a1, a2, z_bd, z_bi, z_gb0, ↓reduceIte]
    exact rf1 h
  rcases zGu v2 hI hX hM with ⟨b1, b2⟩ | ⟨g, hg, rfl, b1, b2⟩
  · simp only [a1, a2, b1, b2, z_bd, z_bi, z_gb1, z10, ↓reduceIte]
    exact rf1 h
  rcases zW' v3 0 1 0 1 rfl rfl (by decide) (by decide) with ⟨c1, c2⟩ | ⟨w, _, hw, rfl, c1, c2⟩
  · simp only [a1, a2, b1, b2, c1, c2, z_bd, z_bi, z_gb1, z10, ↓reduceIte]
    exact rf1 h
  simp only [a1, a2, b1, b2, c1, c2, z_bd, z_bi, z_gb1, z10, ↓reduceIte]
  obtain ⟨σ1, x1, X1⟩ := wx_take W SX.rf
  obtain ⟨σ2, x2, X2⟩ := tx_hours W X1 hn
  obtain ⟨τ1, y1, Y1⟩ := wm_take W SM.rf
  obtain ⟨τ2, y2, Y2⟩ := tm_hours W Y1 hn
  obtain ⟨τ3, y3, Y3⟩ := tm_back Y2
  have hg' : g < zhn φ1 n β 0 0 := by rw [hn_0 hI]; exact hg
  rw [x1, z_bd, x2, z_bd, y1, z_bd, y2, z_bd, tx_peg X2 hg', tm_peg Y2 hg', z_bd, zm_rue Y2.1 Y2.2.1 hg', z_bd, y3]
  repeat rw [z_bd]
  rw [z_g (z_in (by omega) (by omega)), z_cl (by omega), show σ2 17 g = nI (zhn φ1 n β 3 g) from X2.2.1.2 g hg' 3 (by decide) (by decide)]
  by_cases c : nI w = 0
  · rw [if_pos c, if_pos c]
    exact ok_mk (h.back X2.2.2 Y3)
  · rw [if_neg c, if_neg c]
    exact ok_mk (h.back X2.2.2 Y3)
theorem op_allRue (v1 : Int32) (σ τ : rp_St) (h : RR σ τ) : OK (fX6_allRue v1 σ) (fX7_allRue v1 τ) := by
  obtain ⟨φ0, φ1, β, W⟩ := h.wd
  unfold fX6_allRue fX7_allRue fX7_isBehind fX7_putBack
  rcases zW' v1 0 60 0 60 rfl rfl (by decide) (by decide) with ⟨a1, a2⟩ | ⟨n, _, hn, rfl, a1, a2⟩
  · simp only [a1, a2, z_bd, z_bi, z_gb0, ↓reduceIte]
    exact rf1 h
  simp only [a1, a2, z_bd, z_bi, z_gb1, z10, ↓reduceIte]
  obtain ⟨σ1, x1, X1⟩ := wx_take W SX.rf
  obtain ⟨σ2, x2, X2⟩ := tx_hours W X1 hn
  obtain ⟨τ1, y1, Y1⟩ := wm_take W SM.rf
  obtain ⟨τ2, y2, Y2⟩ := tm_hours W Y1 hn
  obtain ⟨τ3, y3, Y3⟩ := tm_back Y2
  rw [x1, z_bd, x2, z_bd, y1, z_bd, y2, z_bd, zx_sum3 X2.1 X2.2.1, zm_sum Y2.1 Y2.2.1 (j := 3) (by decide) (by decide) 2 rfl, z_bd, y3, z_bd]
  exact ok_mk (h.back X2.2.2 Y3)
theorem op_sorriest (v1 v2 : Int32) (σ τ : rp_St) (h : RR σ τ) : OK (fX6_sorriest v1 v2 σ) (fX7_sorriest v1 v2 τ) := by
  obtain ⟨φ0, φ1, β, W⟩ := h.wd
  obtain ⟨⟨hI, _⟩, ⟨hX, _, _⟩, hM, _, _⟩ := id W
  have h7 := hI.1
  unfold fX6_sorriest fX7_sorriest fX7_isBehind fX6_sorriest_19 fX7_sorriest_16
  rcases zW' v1 0 60 0 60 rfl rfl (by decide) (by decide) with ⟨a1, a2⟩ | ⟨n, _, hn, rfl, a1, a2⟩
  · simp only [a1, a2, z_bd, z_bi, z_gb0, ↓reduceIte]
    exact rf1 h
  rcases zW' v2 0 1 0 1 rfl rfl (by decide) (by decide) with ⟨c1, c2⟩ | ⟨w, _, hw, rfl, c1, c2⟩
  · simp only [a1, a2, c1, c2, z_bd, z_bi, z_gb1, z10, ↓reduceIte]
    exact rf1 h
  simp only [a1, a2, c1, c2, z_bd, z_bi, z_gb1, z10, ↓reduceIte]
  rw [z_g zc1, zl1, hX.1, hM.1]
  by_cases n0 : β 0 0 = 0
  · rw [if_pos (by rw [n0]; rfl), if_pos (by rw [n0]; rfl)]
    exact rf2 h
  rw [if_neg (nI_ne0 (by omega) (by omega)), if_neg (nI_ne0 (by omega) (by omega))]
  obtain ⟨σ1, x1, X1⟩ := wx_take W SX.rf
  obtain ⟨σ2, x2, X2⟩ := tx_hours W X1 hn
  obtain ⟨τ1, y1, Y1⟩ := wm_take W SM.rf
  obtain ⟨τ2, y2, Y2⟩ := tm_hours W Y1 hn
  obtain ⟨τ3, y3, Y3⟩ := tm_back Y2
  obtain ⟨γ, dγ⟩ : ∃ γ, γ = zhn φ1 n β := ⟨_, rfl⟩
  have gn : γ 0 0 = β 0 0 := by rw [dγ, hn_0 hI]
  rw [← dγ] at X2 Y2
  rw [x1, z_bd, x2, z_bd, y1, z_bd, y2, z_bd]
  have e17 : ∀ g, g < β 0 0 → σ2 17 g = nI (γ 3 g) := fun g hg => X2.2.1.2 g (by omega) 3 (by decide) (by decide)
  have key : ∀ (r k s N M : Nat), k + r = β 0 0 → r < N → r < M → s < β 0 0 → OK (rp_lp (fun _ _ _ _ => none) fX6_sorriest_78 N (nI w) (nI s) (nI k) σ2) (rp_lp (fun _ _ _ _ => none) fX7_sorriest_60 M (nI w) (nI s) (nI k) τ2) := by
    intro r
    induction r with
    | zero =>
      intro k s N M hk hN hM1 hs
      obtain ⟨N, rfl⟩ : ∃ X, N = X + 1 := ⟨N - 1, by omega⟩
      obtain ⟨M, rfl⟩ : ∃ X, M = X + 1 := ⟨M - 1, by omega⟩
      rw [z_lp, z_lp, fX6_sorriest_78, fX7_sorriest_60, show σ2 14 0 = nI (γ 0 0) from X2.2.1.1, z_g zc1, zl1, Y2.2.1.1, gn, if_pos ((z_le (by omega) (by omega)).mpr (by omega)), if_pos ((z_le (by omega) (by omega)).mpr (by omega)), zm_rue Y2.1 Y2.2.1 (by omega), z_bd]
      unfold fX7_sorriest_112 fX7_putBack
      rw [y3, z_bd, z_bd, z_bd, z_bd, z_g (z_in (by omega) (by omega)), z_cl (by omega), e17 s hs]
      by_cases c : nI w = 0
      · rw [if_pos c, if_pos c]
        exact ok_mk (h.back X2.2.2 Y3)
      · rw [if_neg c, if_neg c]
        exact ok_mk (h.back X2.2.2 Y3)
    | succ r ih =>
      intro k s N M hk hN hM1 hs
      obtain ⟨N, rfl⟩ : ∃ X, N = X + 1 := ⟨N - 1, by omega⟩
      obtain ⟨M, rfl⟩ : ∃ X, M = X + 1 := ⟨M - 1, by omega⟩
      rw [z_lp, z_lp, fX6_sorriest_78, fX7_sorriest_60, show σ2 14 0 = nI (γ 0 0) from X2.2.1.1, z_g zc1, zl1, Y2.2.1.1, gn, if_neg (show ¬ nI (β 0 0) ≤ nI k by rw [z_le (by omega) (by omega)]; omega), if_neg (show ¬ nI (β 0 0) ≤ nI k by rw [z_le (by omega) (by omega)]; omega), zm_rue Y2.1 Y2.2.1 (g := k) (by omega), z_bd, zm_rue Y2.1 Y2.2.1 (g := s) (by omega), z_bd, z_g (z_in (show k < 7 by omega) (by decide)), z_g (z_in (show s < 7 by omega) (by decide)), z_cl (show k < 1000000 by omega), z_cl (show s < 1000000 by omega), e17 k (by omega), e17 s hs]
      by_cases c : nI (γ 3 k) ≤ nI (γ 3 s)
      · rw [if_pos c, if_pos c, fX6_sorriest_115, fX7_sorriest_91, z_nm, z_nm, show (nI k + 1 : Int32) = nI (k + 1) from nI_1 _]
        exact ih (k + 1) s N M (by omega) (by omega) (by omega) hs
      · rw [if_neg c, if_neg c, fX6_sorriest_115, fX7_sorriest_91, z_nm, z_nm, show (nI k + 1 : Int32) = nI (k + 1) from nI_1 _]
        exact ih (k + 1) k N M (by omega) (by omega) (by omega) (by omega)
  exact key (β 0 0 - 1) 1 0 300 300 (by omega) (by omega) (by omega) (by omega)
theorem op_last (v1 : Int32) (σ τ : rp_St) (h : RR σ τ) : OK (fX6_last v1 σ) (fX7_last v1 τ) := by
  obtain ⟨φ0, φ1, β, W⟩ := h.wd
  obtain ⟨⟨hI, _⟩, ⟨hX, _, _⟩, hM, _, _⟩ := id W
  have h7 := hI.1
  unfold fX6_last fX7_last
  rcases zGu v1 hI hX hM with ⟨b1, b2⟩ | ⟨g, hg, rfl, b1, b2⟩
  · simp only [b1, b2, z_bd, z_bi, ↓reduceIte]
    exact rf1 h
  simp only [b1, b2, z_bd, z_bi, z10, ↓reduceIte]
  obtain ⟨σ1, x1, X1⟩ := wx_take W SX.rf
  obtain ⟨τ1, y1, Y1⟩ := wm_take W SM.rf
  rw [x1, z_bd, y1, z_bd, z_g zc1, zl1, z_nm, Y1.2.1.1, show (nI (β 0 0) - 1 : Int32) = nI (β 0 0 - 1) from pk_sub (a := β 0 0) (b := 1) (by omega)]
  have key : ∀ (r k N M : Nat) (γ : zB) (σ2 τ2 : rp_St), k + r = 60 → r + 1 < N → r + 1 < M → γ 0 0 = β 0 0 → TX σ γ σ2 → TM τ γ τ2 → OK (rp_lp (fun _ _ _ => none) fX6_last_30 N (nI g) (nI k) σ2) (rp_lp (fun _ _ _ _ => none) fX7_last_37 M (nI g) (nI (β 0 0 - 1)) (nI k) τ2) := by
    intro r
    induction r with
    | zero =>
      intro k N M γ σ2 τ2 hk hN hM1 gn X2 Y2
      obtain ⟨N, rfl⟩ : ∃ X, N = X + 2 := ⟨N - 2, by omega⟩
      obtain ⟨M, rfl⟩ : ∃ X, M = X + 1 := ⟨M - 1, by omega⟩
      have hk : k = 60 := by omega
      subst hk
      have zl := zq_lt X2.1 (g := g) (by omega)
      obtain ⟨τ3, y3, Y3⟩ := tm_back Y2
      obtain ⟨σ3, x3, X3⟩ := tx_hours W X2 (n := 1) (by decide)
      rw [show N + 2 = N + 1 + 1 from rfl, z_lp (fun _ _ _ => none) fX6_last_30 (N + 1), z_lp (fun _ _ _ _ => none) fX7_last_37 M, fX6_last_30, fX7_last_37, if_neg (show ¬ (60 : Int32) < nI 60 by decide +kernel), if_pos (show (60 : Int32) ≤ nI 60 by decide +kernel), tx_last X2 (by omega), z_bd, fX7_last_62, tm_peg Y2 (by omega), z_bd, fX7_last_76, fX7_last_76, y3, z_bd, z_bd]
      by_cases c : zq γ g = β 0 0 - 1
      · have c' : γ 6 (γ 0 0 - 1) = g := by rw [gn, ← c]; exact zl.2
        rw [if_pos (show nI (γ 6 (γ 0 0 - 1)) = nI g by rw [c']), if_pos (show nI (zq γ g) = nI (β 0 0 - 1) by rw [c]), if_neg (show ¬ (1 : Int32) = 0 by decide)]
        exact ok_mk (h.back X2.2.2 Y3)
      · have c' : ¬ γ 6 (γ 0 0 - 1) = g := fun z => by
          have := zq_eq X2.1 (p := γ 0 0 - 1) (by omega)
          rw [z] at this
          omega
        have l6 := X2.1.ord (p := γ 0 0 - 1) (by omega)
        rw [if_neg (show ¬ nI (γ 6 (γ 0 0 - 1)) = nI g from fun z => c' ((z_eq (by omega) (by omega)).mp z)), if_neg (show ¬ nI (zq γ g) = nI (β 0 0 - 1) from fun z => c ((z_eq (by omega) (by omega)).mp z)), if_pos rfl, show (1 : Int32) = nI 1 from rfl, x3, z_bd, z_nm, nI_add, z_lp, fX6_last_30, if_pos (show (60 : Int32) < nI (60 + 1) by decide +kernel), z_bi, z_bi]
        exact rf2 (h.back X3.2.2 Y3)
    | succ r ih =>
      intro k N M γ σ2 τ2 hk hN hM1 gn X2 Y2
      obtain ⟨N, rfl⟩ : ∃ X, N = X + 1 := ⟨N - 1, by omega⟩
      obtain ⟨M, rfl⟩ : ∃ X, M = X + 1 := ⟨M - 1, by omega⟩
      have zl := zq_lt X2.1 (g := g) (by omega)
      obtain ⟨τ3, y3, Y3⟩ := tm_back Y2
      obtain ⟨σ3, x3, X3⟩ := tx_hours W X2 (n := 1) (by decide)
      obtain ⟨τ4, y4, Y4⟩ := tm_hour W Y2
      rw [z_lp, z_lp, fX6_last_30, fX7_last_37, if_neg (show ¬ (60 : Int32) < nI k from fun z => by have := (z_lt (a := 60) (by omega) (by omega)).mp z; omega), if_neg (show ¬ (60 : Int32) ≤ nI k from fun z => by have := (z_le (a := 60) (by omega) (by omega)).mp z; omega), tx_last X2 (by omega), z_bd, tm_peg Y2 (by omega), z_bd]
      by_cases c : zq γ g = β 0 0 - 1
      · have c' : γ 6 (γ 0 0 - 1) = g := by rw [gn, ← c]; exact zl.2
        rw [if_pos (show nI (γ 6 (γ 0 0 - 1)) = nI g by rw [c']), if_pos (show nI (zq γ g) = nI (β 0 0 - 1) by rw [c]), fX7_last_62, tm_peg Y2 (by omega), z_bd, if_pos (show nI (zq γ g) = nI (β 0 0 - 1) by rw [c]), fX7_last_76, y3, z_bd, if_neg (show ¬ (1 : Int32) = 0 by decide)]
        exact ok_mk (h.back X2.2.2 Y3)
      · have c' : ¬ γ 6 (γ 0 0 - 1) = g := fun z => by
          have := zq_eq X2.1 (p := γ 0 0 - 1) (by omega)
          rw [z] at this
          omega
        have l6 := X2.1.ord (p := γ 0 0 - 1) (by omega)
        rw [if_neg (show ¬ nI (γ 6 (γ 0 0 - 1)) = nI g from fun z => c' ((z_eq (by omega) (by omega)).mp z)), if_neg (show ¬ nI (zq γ g) = nI (β 0 0 - 1) from fun z => c ((z_eq (by omega) (by omega)).mp z)), show (1 : Int32) = nI 1 from rfl, x3, z_bd, z_nm, y4, z_bd, z_nm, nI_add]
        exact ih (k + 1) N M _ σ3 τ4 (by omega) (by omega) (by omega) (by rw [hn_0 X2.1]; exact gn) X3 Y4
  exact key 60 0 300 300 β σ1 τ1 (by omega) (by omega) (by omega) rfl X1 Y1
