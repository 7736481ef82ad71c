theorem RR.laws {σ τ : rp_St} (h : RR σ τ) : ∃ φ0 φ1, GX φ0 0 σ ∧ GM φ0 0 τ ∧ R0 φ0 ∧ GX φ1 1 σ ∧ GM φ1 1 τ := by
  obtain ⟨_, _, _, _, _, h6⟩ := h.1
  obtain ⟨φ0, a1, a2, a3⟩ := z_law (u := 0) (l := 0) (by decide) h6.1 h.2.1.1
  obtain ⟨φ1, b1, b2, _⟩ := z_law (u := 1) (l := 1) (by decide) h6.2 h.2.1.2
  exact ⟨φ0, φ1, a1, a2 τ (fun _ _ _ => rfl), a3 rfl, b1, b2 τ (fun _ _ _ => rfl)⟩
theorem op_law (v1 v2 v3 v4 : Int32) (σ τ : rp_St) (h : RR σ τ) : OK (fX6_law v1 v2 v3 v4 σ) (fX7_law v1 v2 v3 v4 τ) := by
  obtain ⟨φ0, φ1, a1, a2, a3, b1, b2⟩ := h.laws
  unfold fX6_law fX7_law fX6_useLaw
  rcases zW' v1 0 1 0 1 rfl rfl (by decide) (by decide) with ⟨w1, w2⟩ | ⟨u, _, hu, rfl, w1, w2⟩
  · simp only [w1, w2, z_bd, z_bi, ↓reduceIte]
    exact rf1 h
  simp only [w1, w2, z_bd, z_bi, z10, ↓reduceIte]
  by_cases u0 : u = 0
  · subst u0
    obtain ⟨σ', e1, f1⟩ := a1 σ rfl rfl v2 v3 v4
    obtain ⟨τ', e2, f2⟩ := a2 τ (fun _ _ _ => rfl) v2 v3 v4
    rw [if_pos (show nI 0 = (0 : Int32) from rfl), z_bd, z_g (by decide), e1, show fX7_given (nI 0) v2 v3 v4 τ = some (φ0 v2 v3 v4, τ') from e2]
    exact ok_mk (h.sc (fun k hk => f1 k (fun z => hk (by unfold sX; omega))) (fun k hk => f2 k (by omega)) (fun i _ => by rw [f2 1 (by omega)]))
  · have u1 : u = 1 := by omega
    subst u1
    obtain ⟨σ', e1, f1⟩ := b1 σ rfl rfl v2 v3 v4
    obtain ⟨τ', e2, f2⟩ := b2 τ (fun _ _ _ => rfl) v2 v3 v4
    rw [if_neg (show ¬ nI 1 = (0 : Int32) by decide), z_bd, z_g (by decide), e1, show fX7_given (nI 1) v2 v3 v4 τ = some (φ1 v2 v3 v4, τ') from e2]
    exact ok_mk (h.sc (fun k hk => f1 k (fun z => hk (by unfold sX; omega))) (fun k hk => f2 k (by omega)) (fun i _ => by rw [f2 1 (by omega)]))
theorem RR.dance {σ τ : rp_St} (h : RR σ τ) {β : zB} (hI : BI β) (hX : BX β σ 0) (hM : BM β (τ 1)) {x y : Nat} (hx : x < β 0 0) (hy : y < β 0 0) (hxy : x ≠ y) : ∃ γ σ' τ', fX0_pairUp 0 0 (nI x) (nI y) σ = some (0, σ') ∧ fX7_dancing (nI x) (nI y) τ = some (0, τ') ∧ RR σ' τ' ∧ σ' 40 = σ 40 ∧ BI γ ∧ BX γ σ' 0 ∧ BM γ (τ' 1) ∧ γ 0 0 = β 0 0 := by
  obtain ⟨φ0, φ1, a1, a2, a3, b1, b2⟩ := h.laws
  obtain ⟨σ', e1, X1, f1⟩ := zx_dance (b := 0) (l := 0) a3 (by decide) (by decide) a1 hI hX hx hy
  obtain ⟨τ', e2, M1, f2⟩ := zm_dance a3 a2 hI hM hx hy hxy
  have I1 := hI.dance a3 x y
  refine ⟨_, σ', τ', e1, e2, h.ball (fun k hk => f1 k (fun z => hk ?_)) (fun k hk => f2.1 k (by omega)) (fun i hi => f2.2 i (by omega)) ⟨_, I1.1, X1, M1⟩, f1 40 (by unfold wX; omega), I1.1, X1, M1, I1.2⟩
  unfold wX at z
  unfold sX
  omega
theorem op_dance (v1 v2 : Int32) (σ τ : rp_St) (h : RR σ τ) : OK (fX6_dance v1 v2 σ) (fX7_dance v1 v2 τ) := by
  obtain ⟨β, hI, hX, hM⟩ := h.1.1
  have hX : BX β σ 0 := hX
  have h7 := hI.1
  unfold fX6_dance fX7_dance fX7_areTwo fX6_dance_21 fX6_dance_57 fX7_dance_34
  rcases zGu v1 hI hX hM with ⟨a1, a2⟩ | ⟨x, hx, rfl, a1, a2⟩
  · simp only [a1, a2, z_bd, z_bi, ↓reduceIte]
    exact rf1 h
  rcases zGu v2 hI hX hM with ⟨b1, b2⟩ | ⟨y, hy, rfl, b1, b2⟩
  · simp only [a1, a2, b1, b2, z_bd, z_bi, z10, ↓reduceIte]
    exact rf1 h
  simp only [a1, a2, b1, b2, z_bd, z_bi, z10, ↓reduceIte]
  by_cases c : x = y
  · rw [if_pos (by rw [c]), if_pos (by rw [c]), z_bd, if_pos rfl]
    exact rf1 h
  have cn : ¬ nI x = nI y := fun z => c ((z_eq (by omega) (by omega)).mp z)
  have ix : β 5 x ≤ 1 := hI.2.1 x hx 5 (by decide) (by decide)
  have iy : β 5 y ≤ 1 := hI.2.1 y hy 5 (by decide) (by decide)
  rw [if_neg cn, if_neg cn, z_bd, if_neg (show ¬ (1 : Int32) = 0 by decide), z_g (z_in (by omega) (by omega)), z_cl (by omega), show σ 5 x = nI (β 5 x) from hX.2 x hx 5 (by decide) (by decide), zm_is2 hI hM hx (j := 5) (by decide) (by decide) 4 rfl, z_bd]
  by_cases c1 : β 5 x = 0
  · rw [if_pos (by rw [c1]; rfl), if_pos (by rw [c1]; rfl)]
    exact rf3 h
  rw [if_neg (nI_ne0 (by omega) (by omega)), if_neg (nI_ne0 (by omega) (by omega)), z_g (z_in (by omega) (by omega)), z_cl (by omega), show σ 5 y = nI (β 5 y) from hX.2 y hy 5 (by decide) (by decide), zm_is2 hI hM hy (j := 5) (by decide) (by decide) 4 rfl, z_bd]
  by_cases c2 : β 5 y = 0
  · rw [if_pos (by rw [c2]; rfl), if_pos (by rw [c2]; rfl)]
    exact rf3 h
  rw [if_neg (nI_ne0 (by omega) (by omega)), if_neg (nI_ne0 (by omega) (by omega))]
  obtain ⟨γ, σ', τ', e1, e2, hR, _, gI, gX, gM, gn⟩ := h.dance hI hX hM hx hy c
  rw [e1, e2, z_bd, z_bd, z_g (z_in (by omega) (by omega)), show σ' 3 x = nI (γ 3 x) from gX.2 x (by omega) 3 (by decide) (by decide), zm_rue gI gM (by omega)]
  exact ok_mk hR
/-- the ball, the hour, the draw -/
theorem RR.hr {σ σ' τ τ' : rp_St} (h : RR σ τ) (hX : ∀ k, ¬ (k < 7 ∨ sX k ∨ k = 40) → σ' k = σ k) (h40 : ∀ i, i ≠ 7 → i ≠ 8 → σ' 40 i = σ 40 i) (hM : ∀ k, k = 0 ∨ k = 2 ∨ k = 4 ∨ k = 10 ∨ k = 11 ∨ k = 12 ∨ k = 13 → τ' k = τ k) (h1 : ∀ i, i = 3 ∨ i = 4 ∨ (47 ≤ i ∧ i < 221) → τ' 1 i = τ 1 i) (hB : EB 0 σ' (τ' 1)) (hH : EH 0 σ' (τ' 1)) (hZ : EZ 0 σ' (τ' 1)) : RR σ' τ' := by
  have x : ∀ k, ¬ (k < 7 ∨ ((14 ≤ k ∧ k < 28) ∨ k = 30 ∨ k = 33 ∨ k = 57 ∨ k = 58) ∨ k = 40) → σ' k = σ k := hX
  obtain ⟨_, _, _, h4, h5, h6⟩ := h.1
  exact h.ev (fun k hk => x k (by unfold kX at hk; omega)) hM ⟨by rw [x 28 (by omega)]; exact h.2.1.1, by rw [x 31 (by omega)]; exact h.2.1.2⟩ ⟨hB, hH, hZ, h4.cg (h40 4 (by decide) (by decide)) (fun i _ => by show σ' 41 i = _; rw [x 41 (by omega)]) (h1 3 (by omega)) (fun i p q => h1 i (by omega)), h5.cg (h40 6 (by decide) (by decide)) (fun i _ => by show σ' 42 i = _; rw [x 42 (by omega)]) (h1 4 (by omega)) (fun i p q => h1 i (by omega)), h6.cg (fun k hk => x k (by omega)) (fun i p q => h1 i (by omega))⟩
theorem RR.hours {σ τ : rp_St} (h : RR σ τ) {t n : Nat} (hn : n ≤ 60) (ht : t + n ≤ 9999) (e : σ 40 7 = nI t) : ∃ σ', fX0_passHours 0 1 (nI n) σ = some (0, σ') ∧ σ' 40 = σ 40 ∧ (∃ γ, BI γ ∧ BX γ σ' 0) ∧ (∀ τ' : rp_St, (∃ γ, BI γ ∧ BX γ σ' 0 ∧ BM γ (τ' 1)) → τ' 1 0 = τ 1 0 + nI n → frH τ τ' → RR (rp_put σ' 40 7 (nI (t + n))) τ') ∧ ∃ τ', fX7_hoursGo (nI n) τ = some (0, τ') ∧ (∃ γ, BI γ ∧ BX γ σ' 0 ∧ BM γ (τ' 1)) ∧ τ' 1 0 = τ 1 0 + nI n ∧ frH τ τ' := by
  obtain ⟨β, hI, hX, hM⟩ := h.1.1
  obtain ⟨φ0, φ1, a1, a2, a3, b1, b2⟩ := h.laws
  obtain ⟨σ', e1, X1, f1⟩ := zx_hours (b := 0) (l := 1) (by decide) (by decide) hn b1 hI hX
  obtain ⟨τ', e2, M1, q1, q2⟩ := zm_hours hn b2 hI hM
  have I1 := (hI.hn (φ := φ1) n).1
  have h40 : σ' 40 = σ 40 := f1 40 (by unfold wX; omega)
  refine ⟨σ', e1, h40, ⟨_, I1, X1⟩, fun τ2 hγ hh hf => ?_, τ', e2, ⟨_, I1, X1, M1⟩, q1, q2⟩
  obtain ⟨γ, gI, gX, gM⟩ := hγ
  obtain ⟨_, ⟨t', ht', t1, t2⟩, h3, _, _, _⟩ := h.1
  have tt : t' = t := by
    have := t1.symm.trans e
    exact (z_eq (by omega) (by omega)).mp this
  refine h.hr (fun k hk => ?_) (fun i p q => ?_) (fun k hk => hf.1 k (by omega)) (fun i hi => hf.2 i (by omega)) ⟨γ, gI, ?_, gM⟩ ⟨t + n, ht, z_p _ _ _ _, ?_⟩ ?_
  · rw [z_putk _ _ _ _ (fun z => hk (by omega)), f1 k (fun z => hk (by unfold wX at z; unfold sX; omega))]
  · rw [z_pn _ _ _ _ (by omega), h40]
  · exact gX.fr (fun k _ q => z_putk _ _ _ _ (by omega))
  · rw [hh, t2, tt, nI_add]
  · show rp_put σ' 40 7 _ 40 8 = τ2 1 2
    rw [z_pn _ _ _ _ (by omega), h40, hf.2 2 (by omega)]
    exact h3
theorem op_hours (v1 : Int32) (σ τ : rp_St) (h : RR σ τ) : OK (fX6_hours v1 σ) (fX7_hours v1 τ) := by
  unfold fX6_hours fX7_hours
  rcases zW' v1 1 60 1 60 rfl rfl (by decide) (by decide) with ⟨w1, w2⟩ | ⟨n, hn0, hn, rfl, w1, w2⟩
  · simp only [w1, w2, z_bd, z_bi, ↓reduceIte]
    exact rf1 h
  simp only [w1, w2, z_bd, z_bi, z10, ↓reduceIte]
  obtain ⟨_, ⟨t, ht, t1, t2⟩, _, _, _, _⟩ := h.1
  have t1 : σ 40 7 = nI t := t1
  rw [z_g zc0, zl0, t1, t2, nI_add]
  by_cases c : t + n ≤ 9999
  · rw [if_pos (show nI (t + n) ≤ (9999 : Int32) from (z_le (b := 9999) (by omega) (by omega)).mpr c), if_pos (show nI (t + n) ≤ (9999 : Int32) from (z_le (b := 9999) (by omega) (by omega)).mpr c)]
    obtain ⟨σ', e1, h40, _, hR, τ', e2, ⟨γ, gI, gX, gM⟩, q1, q2⟩ := h.hours hn c t1
    have R := hR τ' ⟨γ, gI, gX, gM⟩ q1 q2
    have gX' : BX γ (rp_put σ' 40 7 (nI (t + n))) (7 * 0) := gX.fr (fun k _ q => z_putk _ _ _ _ (by omega))
    rw [e1, e2, z_bd, z_bd, z_nm, h40, t1, nI_add, zx_sum3 gI gX', zm_sum gI gM (j := 3) (by decide) (by decide) 2 rfl]
    exact ok_mk R
  · rw [if_neg (show ¬ nI (t + n) ≤ (9999 : Int32) from fun z => c ((z_le (b := 9999) (by omega) (by omega)).mp z)), if_neg (show ¬ nI (t + n) ≤ (9999 : Int32) from fun z => c ((z_le (b := 9999) (by omega) (by omega)).mp z))]
    exact rf3 h
theorem RR.seed {σ τ : rp_St} (h : RR σ τ) (z : Int32) : RR (rp_put σ 40 8 z) (rp_put τ 1 2 z) := by
  obtain ⟨r, σ', τ', e1, e2, e3⟩ := op_seed z σ τ h
  have e1 : some (σ 40 8, rp_put σ 40 8 z) = some (r, σ') := e1
  unfold fX7_seed fX7_turn at e2
  rw [z_g zc2, z_nm, z_g zc2, z_nm, z_bd, zl2] at e2
  injection e1 with e1
  injection e1 with _ e1
  injection e2 with e2
  injection e2 with _ e2
  rw [e1, e2]
  exact e3
theorem z_drw (x : Int32) : ∃ m, m < 16777216 ∧ (x.toUInt32 >>> ((8 : Int32).toUInt32 &&& Int32.toUInt32 31)).toInt32 = nI m := by
  have e := pk_ushr x 8 8 (by decide +kernel)
  have hx : x.toBitVec.toNat < 2 ^ 32 := x.toBitVec.isLt
  refine ⟨x.toBitVec.toNat / 2 ^ 8, by omega, ?_⟩
  refine Int32.toBitVec_inj.mp (BitVec.eq_of_toNat_eq ?_)
  rw [e, pk_tn (by omega)]
/-- an hour of the loose ball, in both -/
theorem zm_hour1' {σ τ : rp_St} (h : RR σ τ) : ∃ β φ1, BI β ∧ BX β σ 0 ∧ BM β (τ 1) ∧ GX φ1 1 σ ∧ ∃ τ', fX7_hour τ = some (0, τ') ∧ BM (zhn φ1 1 β) (τ' 1) ∧ τ' 1 0 = τ 1 0 + nI 1 ∧ frH τ τ' := by
  obtain ⟨β, hI, hX, hM⟩ := h.1.1
  obtain ⟨φ0, φ1, a1, a2, a3, b1, b2⟩ := h.laws
  obtain ⟨τ', e2, M1, q1, q2⟩ := zm_hour b2 hI hM
  exact ⟨β, φ1, hI, hX, hM, b1, τ', e2, M1, q1, q2⟩
theorem RR.hour {σ τ : rp_St} (h : RR σ τ) {t : Nat} (ht : t + 1 ≤ 9999) (e : σ 40 7 = nI t) : ∃ σ' τ', fX1_holdBall_55 0 σ = some (0, σ') ∧ fX7_hour τ = some (0, τ') ∧ RR σ' τ' ∧ σ' 40 7 = nI (t + 1) := by
  obtain ⟨β, φ1, hI, hX, hM, b1, τ', e2, M1, q1, q2⟩ := zm_hour1' h
  obtain ⟨σ2, e1, X1, f1⟩ := zx_hours (b := 0) (l := 1) (n := 1) (by decide) (by decide) (by decide) b1 hI hX
  have I1 := (hI.hn (φ := φ1) 1).1
  obtain ⟨σ', e1', h40, _, hR, _⟩ := h.hours (n := 1) (by decide) ht e
  have ee : σ2 = σ' := by
    rw [e1] at e1'
    injection e1' with w
    injection w
  refine ⟨rp_put σ' 40 7 (nI (t + 1)), τ', ?_, e2, hR τ' ⟨_, I1, by rw [← ee]; exact X1, M1⟩ q1 q2, z_p _ _ _ _⟩
  unfold fX1_holdBall_55
  rw [show fX0_passHours 0 (2 * 0 + 1) 1 σ = some (0, σ') from e1', z_bd, z_nm]
  show some ((0 : Int32), rp_put σ' 40 7 (σ' 40 7 + 1)) = _
  rw [h40, e, show (nI t + 1 : Int32) = nI (t + 1) from nI_1 _]
theorem op_loose (v1 : Int32) (σ τ : rp_St) (h : RR σ τ) : OK (fX6_loose v1 σ) (fX7_loose v1 τ) := by
  unfold fX6_loose fX7_loose
  rcases zW' v1 1 40 1 40 rfl rfl (by decide) (by decide) with ⟨w1, w2⟩ | ⟨n, hn0, hn, rfl, w1, w2⟩
  · simp only [w1, w2, z_bd, z_bi, ↓reduceIte]
    exact rf1 h
  simp only [w1, w2, z_bd, z_bi, z10, ↓reduceIte]
  obtain ⟨_, ⟨t, ht, t1, t2⟩, _, _, _, _⟩ := h.1
  have t1 : σ 40 7 = nI t := t1
  rw [z_g zc0, zl0, t1, t2, nI_add]
  by_cases c : t + n ≤ 9999
  · rw [if_pos (show nI (t + n) ≤ (9999 : Int32) from (z_le (b := 9999) (by omega) (by omega)).mpr c), if_pos (show nI (t + n) ≤ (9999 : Int32) from (z_le (b := 9999) (by omega) (by omega)).mpr c)]
    have key : ∀ (r k N M : Nat) (σ1 τ1 : rp_St), k + r = n → r < N → r < M → RR σ1 τ1 → σ1 40 7 = nI (t + k) → OK (rp_lp (fun _ _ _ => none) fX6_loose_39 N (nI n) (nI k) σ1) (rp_lp (fun _ _ _ => none) fX7_loose_40 M (nI n) (nI k) τ1) := by
      intro r
      induction r with
      | zero =>
        intro k N M σ1 τ1 hk hN hM h1 e1
        obtain ⟨N, rfl⟩ : ∃ X, N = X + 1 := ⟨N - 1, by omega⟩
        obtain ⟨M, rfl⟩ : ∃ X, M = X + 1 := ⟨M - 1, by omega⟩
        obtain ⟨γ, gI, gX, gM⟩ := h1.1.1
        rw [z_lp, z_lp, fX6_loose_39, fX7_loose_40, if_pos ((z_le (by omega) (by omega)).mpr (by omega)), if_pos ((z_le (by omega) (by omega)).mpr (by omega)), zx_sum3 gI gX, zm_sum gI gM (j := 3) (by decide) (by decide) 2 rfl, z_bd, z_bd]
        exact ok_mk h1
      | succ r ih =>
        intro k N M σ1 τ1 hk hN hM h1 e1
        obtain ⟨N, rfl⟩ : ∃ X, N = X + 1 := ⟨N - 1, by omega⟩
        obtain ⟨M, rfl⟩ : ∃ X, M = X + 1 := ⟨M - 1, by omega⟩
        obtain ⟨γ, gI, gX, gM⟩ := h1.1.1
        have gX : BX γ σ1 0 := gX
        have g7 := gI.1
        rw [z_lp, z_lp, fX6_loose_39, fX7_loose_40, if_neg (show ¬ nI n ≤ nI k by rw [z_le (by omega) (by omega)]; omega), if_neg (show ¬ nI n ≤ nI k by rw [z_le (by omega) (by omega)]; omega), z_g zc1, zl1, gM.1]
        unfold fX1_holdBall
        rw [show σ1 (7 * 0) 0 = nI (γ 0 0) from gX.1]
        have go : ∀ σ2 τ2 : rp_St, RR σ2 τ2 → σ2 40 7 = nI (t + k) → OK (rp_bd (fX1_holdBall_55 0 σ2) (fun _ σ4 => rp_nm (nI k + 1) (fun x5 => rp_lp (fun _ _ _ => none) fX6_loose_39 N (nI n) x5 σ4))) (fX7_loose_59 (rp_lp (fun _ _ _ => none) fX7_loose_40 M) (nI n) (nI k) τ2) := by
          intro σ2 τ2 h2 e2
          obtain ⟨σ3, τ3, p1, p2, p3, p4⟩ := h2.hour (by omega) e2
          rw [fX7_loose_59, p1, p2, z_bd, z_bd, z_nm, z_nm, show (nI k + 1 : Int32) = nI (k + 1) from nI_1 _]
          exact ih (k + 1) N M σ3 τ3 (by omega) (by omega) (by omega) p3 p4
        by_cases c2 : γ 0 0 < 2
        · rw [if_pos (show nI (γ 0 0) < (2 : Int32) from (z_lt (b := 2) (by omega) (by omega)).mpr c2), if_pos (show nI (γ 0 0) ≤ (1 : Int32) from (z_le (b := 1) (by omega) (by omega)).mpr (by omega))]
          exact go σ1 τ1 h1 e1
        · rw [if_neg (show ¬ nI (γ 0 0) < (2 : Int32) from fun z => c2 ((z_lt (b := 2) (by omega) (by omega)).mp z)), if_neg (show ¬ nI (γ 0 0) ≤ (1 : Int32) from fun z => by have := (z_le (b := 1) (by omega) (by omega)).mp z; omega)]
          have dX : ∀ s : rp_St, fX1_draw 0 s = some ((((s 40 8 * 1103515245 + 12345 : Int32).toUInt32 >>> ((8 : Int32).toUInt32 &&& Int32.toUInt32 31)).toInt32), rp_put s 40 8 (s 40 8 * 1103515245 + 12345)) := by
            intro s
            unfold fX1_draw
            rw [z_nm]
            show some ((((rp_put s 40 8 (s 40 8 * 1103515245 + 12345) 40 8).toUInt32 >>> ((8 : Int32).toUInt32 &&& Int32.toUInt32 31)).toInt32), rp_put s 40 8 (s 40 8 * 1103515245 + 12345)) = _
            rw [z_p]
          have dM : ∀ s : rp_St, fX7_drawn s = some ((((s 1 2 * 1103515245 + 12345 : Int32).toUInt32 >>> ((8 : Int32).toUInt32 &&& Int32.toUInt32 31)).toInt32), rp_put s 1 2 (s 1 2 * 1103515245 + 12345)) := by
            intro s
            unfold fX7_drawn
            rw [z_g zc2, z_g zc2, z_nm, z_g zc2, zl2, z_p]
          obtain ⟨_, _, y3, _, _, _⟩ := h1.1
          have y3 : σ1 40 8 = τ1 1 2 := y3
          obtain ⟨m1, hm1, em1⟩ := z_drw (τ1 1 2 * 1103515245 + 12345)
          have h2 := h1.seed (τ1 1 2 * 1103515245 + 12345)
          obtain ⟨m2, hm2, em2⟩ := z_drw ((τ1 1 2 * 1103515245 + 12345) * 1103515245 + 12345)
          have h3 := h2.seed ((τ1 1 2 * 1103515245 + 12345) * 1103515245 + 12345)
          have n0 : ¬ nI (γ 0 0) = 0 := nI_ne0 (by omega) (by omega)
          unfold fX7_dancesByDraws
          rw [dX, z_bd, y3, em1, show rp_put σ1 40 8 (τ1 1 2 * 1103515245 + 12345) (7 * 0) 0 = nI (γ 0 0) from by rw [z_putk _ _ _ _ (by decide)]; exact gX.1, z_nz n0, z_nm, dX, z_bd, z_p, em2, show rp_put (rp_put σ1 40 8 (τ1 1 2 * 1103515245 + 12345)) 40 8 ((τ1 1 2 * 1103515245 + 12345) * 1103515245 + 12345) (7 * 0) 0 = nI (γ 0 0) from by rw [z_putk _ _ _ _ (by decide), z_putk _ _ _ _ (by decide)]; exact gX.1, z_nz n0, z_nm, dM, z_bd, em1, z_g zc1, zl1, z_pn τ1 1 2 _ (j := 1) (i' := 1) (by omega), gM.1, z_nz n0, z_nm, dM, z_bd, z_p, em2, z_g zc1, z_pn (rp_put τ1 1 2 (τ1 1 2 * 1103515245 + 12345)) 1 2 _ (j := 1) (i' := 1) (by omega), z_pn τ1 1 2 _ (j := 1) (i' := 1) (by omega), gM.1, z_nz n0, z_nm]
          rw [pk_rem (a := m1) (d := γ 0 0) (by omega) (by omega) (by omega), pk_rem (a := m2) (d := γ 0 0) (by omega) (by omega) (by omega)]
          have k40 : ∀ (s : rp_St) (a b : Int32), rp_put (rp_put s 40 8 a) 40 8 b 40 7 = s 40 7 := fun s a b => by rw [z_pn _ _ _ _ (by omega), z_pn _ _ _ _ (by omega)]
          have l1 := Nat.mod_lt m1 (show γ 0 0 > 0 by omega)
          have l2 := Nat.mod_lt m2 (show γ 0 0 > 0 by omega)
          by_cases c3 : m1 % γ 0 0 = m2 % γ 0 0
          · rw [if_pos (by rw [c3]), if_pos (by rw [c3]), z_bd]
            exact go _ _ h3 (by rw [k40]; exact e1)
          · have cn : ¬ nI (m1 % γ 0 0) = nI (m2 % γ 0 0) := fun z => c3 ((z_eq (by omega) (by omega)).mp z)
            rw [if_neg cn, if_neg cn]
            obtain ⟨δ, jI, jX, jM⟩ := h3.1.1
            have jn : δ 0 0 = γ 0 0 := by
              have a1 := jX.1
              have a2 : rp_put (rp_put σ1 40 8 (τ1 1 2 * 1103515245 + 12345)) 40 8 ((τ1 1 2 * 1103515245 + 12345) * 1103515245 + 12345) (7 * 0) 0 = nI (γ 0 0) := by rw [z_putk _ _ _ _ (by decide), z_putk _ _ _ _ (by decide)]; exact gX.1
              have j7 := jI.1
              exact (z_eq (by omega) (by omega)).mp (a1.symm.trans a2)
            obtain ⟨ε, σ', τ', p1, p2, p3, p4, _⟩ := h3.dance jI jX jM (x := m1 % γ 0 0) (y := m2 % γ 0 0) (by omega) (by omega) c3
            rw [show fX0_pairUp 0 (2 * 0) (nI (m1 % γ 0 0)) (nI (m2 % γ 0 0)) _ = some (0, σ') from p1, z_bd, p2, z_bd, z_bd]
            exact go σ' τ' p3 (by rw [p4, k40]; exact e1)
    exact key n 0 300 300 σ τ (by omega) (by omega) (by omega) h t1
  · rw [if_neg (show ¬ nI (t + n) ≤ (9999 : Int32) from fun z => c ((z_le (b := 9999) (by omega) (by omega)).mp z)), if_neg (show ¬ nI (t + n) ≤ (9999 : Int32) from fun z => c ((z_le (b := 9999) (by omega) (by omega)).mp z))]
    exact rf3 h
