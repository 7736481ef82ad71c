theorem zW1 (v : Int32) {n : Nat} (hn : n ≤ 1000) : ((∀ σ, fX6_isWithin v 0 (nI n - 1) σ = some (0, σ)) ∧ (∀ σ, fX7_within v 0 (nI n - 1) σ = some (0, σ))) ∨ (∃ k, k < n ∧ v = nI k ∧ (∀ σ, fX6_isWithin v 0 (nI n - 1) σ = some (1, σ)) ∧ (∀ σ, fX7_within v 0 (nI n - 1) σ = some (1, σ))) := by
  by_cases n0 : n = 0
  · left
    subst n0
    by_cases c : v < 0
    · exact ⟨fun σ => by unfold fX6_isWithin; rw [if_pos c], fun σ => by unfold fX7_within; rw [if_pos c]⟩
    · have c2 : nI 0 - 1 < v := by
        have e0 : (0 : Int32).toInt = 0 := by decide +kernel
        have em : (nI 0 - 1 : Int32).toInt = -1 := by decide +kernel
        rw [Int32.lt_iff_toInt_lt] at c ⊢
        omega
      exact ⟨fun σ => by unfold fX6_isWithin; rw [if_neg c, if_pos c2], fun σ => by unfold fX7_within; rw [if_neg c, if_pos c2]⟩
  · rw [show (nI n - 1 : Int32) = nI (n - 1) from pk_sub (a := n) (b := 1) (by omega)]
    rcases zW' v 0 (nI (n - 1)) 0 (n - 1) rfl rfl (by decide) (by omega) with a | ⟨k, _, hk, e, a1, a2⟩
    · exact Or.inl a
    · exact Or.inr ⟨k, by omega, e, a1, a2⟩
theorem RR.wr {σ τ : rp_St} (h : RR σ τ) {s k : Nat} (hs : s < 4) (hk : k < 40) (x : Int32) : RR (rp_put σ (46 + 2 * s + 1) k x) (rp_put τ 13 (40 * s + k) x) := by
  refine h.sh (fun j hj => z_putk _ _ _ _ (by omega)) (fun j hj => z_putk _ _ _ _ (by omega)) (fun t ht => ?_)
  obtain ⟨g1, g2⟩ := h.2.2.2.2.1 t ht
  rw [z_putk _ _ _ _ (show 46 + 2 * t ≠ 46 + 2 * s + 1 by omega), z_putk _ _ _ _ (show 11 ≠ 13 by decide), z_putk _ _ _ _ (show 12 ≠ 13 by decide)]
  refine ⟨g1, fun i hi => ?_⟩
  by_cases c : t = s ∧ i = k
  · rw [c.1, c.2, z_p, show 47 + 2 * s = 46 + 2 * s + 1 by omega, z_p]
  · rw [z_pn σ _ _ _ (by omega), z_pn τ _ _ _ (by omega)]
    exact g2 i hi
theorem op_put (v1 v2 v3 : Int32) (σ τ : rp_St) (h : RR σ τ) : OK (fX6_put v1 v2 v3 σ) (fX7_put v1 v2 v3 τ) := by
  unfold fX6_put fX7_put
  rcases zSh v1 with ⟨a1, a2⟩ | ⟨s, hs, rfl, a1, a2⟩
  · simp only [a1, a2, z_bd, z_bi, ↓reduceIte]
    exact rf1 h
  simp only [a1, a2, z_bd, z_bi, z10, ↓reduceIte]
  obtain ⟨⟨g1, g2, g3, n, hn, g4, g5⟩, g6⟩ := h.2.2.2.2.1 s hs
  repeat (first | rw [z_nm] | rw [z_g (z_in hs (show 4 ≤ 1000 by decide))])
  rw [z_cl (show s < 1000000 by omega), g1, g2, g4]
  by_cases c : τ 11 s = 0
  · rw [if_pos c, if_pos c]
    exact rf2 h
  rw [if_neg c, if_neg c]
  repeat (first | rw [z_nm] | rw [z_g (z_in hs (show 4 ≤ 1000 by decide))])
  rcases zW1 v2 (n := n) (by omega) with ⟨b1, b2⟩ | ⟨k, hk, rfl, b1, b2⟩
  · rw [b1, b2, z_bd, z_bd, if_pos rfl, if_pos rfl]
    exact rf1 h
  rw [b1, b2, z_bd, z_bd, if_neg (by decide), if_neg (by decide)]
  repeat (first | rw [z_nm] | rw [z_g (z_in hs (show 4 ≤ 1000 by decide))])
  unfold fX4_write fX7_put_96
  rw [g1, show (40 * nI s : Int32) = nI (40 * s) from pk_mul 40 s, nI_add, z_cl (show 40 * s + k < 1000000 by omega), z_cl (show k < 1000000 by omega)]
  by_cases c8 : τ 11 s = 8
  · rw [if_pos c8, if_pos c8, z_g (z_in (show k < 40 by omega) (by decide)), z_g (z_in (show 40 * s + k < 160 by omega) (by decide))]
    exact ok_mk (h.wr hs (by omega) _)
  · rw [if_neg c8, if_neg c8]
    by_cases c16 : τ 11 s = 16
    · rw [if_pos c16, if_pos c16, z_g (z_in (show k < 40 by omega) (by decide)), z_g (z_in (show 40 * s + k < 160 by omega) (by decide))]
      exact ok_mk (h.wr hs (by omega) _)
    · rw [if_neg c16, if_neg c16, z_g (z_in (show k < 40 by omega) (by decide)), z_g (z_in (show 40 * s + k < 160 by omega) (by decide))]
      exact ok_mk (h.wr hs (by omega) _)
/-! a byte of a long -/
theorem zf1 : ∀ i, i < 8 → ((((8 : Int32) * nI i).toInt64 &&& 63).toBitVec.smod 64).toNat = 8 * i := by decide +kernel
theorem zf2 : ∀ i, i < 8 → ((((8 : Int32) * nI i).toInt64.toUInt64 &&& Int64.toUInt64 63).toBitVec % 64).toNat = 8 * i := by decide +kernel
theorem zf3 : ∀ j, j < 32 → (255 : Int64).toBitVec.getLsbD j = decide (j < 8) := by decide +kernel
theorem zf4 : ∀ j, j < 32 → (255 : Int32).toBitVec.getLsbD j = decide (j < 8) := by decide +kernel
theorem zfb (v : Int64) {i : Nat} (hi : i < 8) : (((v >>> (((8 : Int32) * nI i).toInt64 &&& 63)) &&& (255 : Int64)) : Int64).toInt32 = ((((v.toUInt64 >>> (((8 : Int32) * nI i).toInt64.toUInt64 &&& Int64.toUInt64 63)).toInt64 : Int64).toInt32 : Int32).toInt8.toInt32) &&& 255 := by
  refine Int32.toBitVec_inj.mp (BitVec.eq_of_getLsbD_eq (fun j hj => ?_))
  rw [Int64.toBitVec_toInt32, BitVec.getLsbD_signExtend, Int64.toBitVec_and, BitVec.getLsbD_and, Int64.toBitVec_shiftRight, BitVec.getLsbD_sshiftRight', zf1 i hi, zf3 j hj, Int32.toBitVec_and, BitVec.getLsbD_and, zf4 j hj, Int8.toBitVec_toInt32, BitVec.getLsbD_signExtend, Int32.toBitVec_toInt8, BitVec.getLsbD_signExtend, Int64.toBitVec_toInt32, BitVec.getLsbD_signExtend, UInt64.toBitVec_toInt64, UInt64.toBitVec_shiftRight, BitVec.ushiftRight_eq', BitVec.getLsbD_ushiftRight, zf2 i hi]
  by_cases c : j < 8
  · have c1 : 8 * i + j < 64 := by omega
    have c2 : j < 64 := by omega
    have c3 : ¬ 64 ≤ j := by omega
    simp only [c, hj, c1, c2, c3, decide_true, decide_false, if_true, Bool.true_and, Bool.and_true, Bool.not_false]
    rfl
  · simp [c, show j < 64 by omega]
theorem zfit (x : Int32) : (x.toInt8.toInt32).toInt8.toInt32 = x.toInt8.toInt32 := by simp
theorem op_feed (v1 : Int64) (v3 : Int32) (σ τ : rp_St) (h : RR σ τ) : OK (fX6_feed v1 v3 σ) (fX7_feed v1 v3 τ) := by
  obtain ⟨h1, h2, h3, h4, h5, h6⟩ := h.1
  obtain ⟨⟨t, ht, e1, e2, e3⟩, e4⟩ := h4
  have e1 : σ 40 4 = nI t := e1
  unfold fX6_feed fX7_feed
  rcases zW' v3 1 8 1 8 rfl rfl (by decide) (by decide) with ⟨a1, a2⟩ | ⟨c, hc0, hc, rfl, a1, a2⟩
  · simp only [a1, a2, z_bd, z_bi, ↓reduceIte]
    exact rf1 h
  simp only [a1, a2, z_bd, z_bi, z10, ↓reduceIte]
  rw [z_g zc3, zl3, e1, e2, nI_add]
  by_cases q : t + c ≤ 50
  · rw [if_pos (show nI (t + c) ≤ (50 : Int32) from (z_le (b := 50) (by omega) (by omega)).mpr q), if_pos (show nI (t + c) ≤ (50 : Int32) from (z_le (b := 50) (by omega) (by omega)).mpr q)]
    have key : ∀ (r k N M : Nat) (σ1 τ1 : rp_St), k + r = c → r < N → r < M → fr (fun j => j = 41) σ σ1 → fr (fun j => j = 1) τ τ1 → (∀ i, i ≠ 3 → ¬ (47 ≤ i ∧ i < 97) → τ1 1 i = τ 1 i) → τ1 1 3 = nI (t + k) → (∀ i, i < t + k → τ1 1 (47 + i) = σ1 41 i &&& 255) → (∀ i, i < 50 → (σ1 41 i).toInt8.toInt32 = σ1 41 i) → OK (rp_lp (fun _ _ _ _ => none) fX6_feed_39 N v1 (nI c) (nI k) σ1) (rp_lp (fun _ _ _ _ => none) fX7_feed_40 M v1 (nI c) (nI k) τ1) := by
      intro r
      induction r with
      | zero =>
        intro k N M σ1 τ1 hk hN hM f1 f2 f3 f4 f5 f6
        obtain ⟨N, rfl⟩ : ∃ X, N = X + 1 := ⟨N - 1, by omega⟩
        obtain ⟨M, rfl⟩ : ∃ X, M = X + 1 := ⟨M - 1, by omega⟩
        have hk : k = c := by omega
        subst hk
        have s40 : σ1 40 4 = nI t := by rw [f1 40 (by omega)]; exact e1
        rw [z_lp, z_lp, fX6_feed_39, fX7_feed_40, if_pos ((z_le (by omega) (by omega)).mpr (Nat.le_refl _)), if_pos ((z_le (by omega) (by omega)).mpr (Nat.le_refl _)), z_nm, z_g zc3, zl3, s40, f4, nI_add, z_p]
        refine ok_mk (h.ev (fun j hj => ?_) (fun j hj => f2 j (by omega)) ⟨?_, ?_⟩ ⟨h1.cg (fun j _ p => ?_) (fun i p => f3 i (by omega) (by omega)), h2.cg ?_ (f3 0 (by omega) (by omega)), h3.cg ?_ (f3 2 (by omega) (by omega)), ⟨⟨t + k, by omega, z_p _ _ _ _, f4, fun i hi => ?_⟩, fun i hi => ?_⟩, h5.cg ?_ (fun i _ => ?_) (f3 4 (by omega) (by omega)) (fun i _ _ => f3 i (by omega) (by omega)), h6.cg (fun j hj => ?_) (fun i _ _ => f3 i (by omega) (by omega))⟩)
        · unfold kX at hj
          rw [z_putk _ _ _ _ (by omega), f1 j (by omega)]
        · rw [z_putk _ _ _ _ (by omega), f1 28 (by omega)]; exact h.2.1.1
        · rw [z_putk _ _ _ _ (by omega), f1 31 (by omega)]; exact h.2.1.2
        · rw [z_putk _ _ _ _ (by omega), f1 j (by omega)]
        · rw [z_pn _ _ _ _ (by omega), f1 _ (by omega)]
        · rw [z_pn _ _ _ _ (by omega), f1 _ (by omega)]
        · rw [z_putk _ _ _ _ (by omega)]; exact f5 i hi
        · rw [z_putk _ _ _ _ (by omega)]; exact f6 i hi
        · rw [z_pn _ _ _ _ (by omega), f1 _ (by omega)]
        · rw [z_pn _ _ _ _ (by omega), f1 _ (by omega)]
        · rw [z_putk _ _ _ _ (by omega), f1 j (by omega)]
      | succ r ih =>
        intro k N M σ1 τ1 hk hN hM f1 f2 f3 f4 f5 f6
        obtain ⟨N, rfl⟩ : ∃ X, N = X + 1 := ⟨N - 1, by omega⟩
        obtain ⟨M, rfl⟩ : ∃ X, M = X + 1 := ⟨M - 1, by omega⟩
        have s40 : σ1 40 4 = nI t := by rw [f1 40 (by omega)]; exact e1
        rw [z_lp, z_lp, fX6_feed_39, fX7_feed_40, if_neg (by rw [z_le (by omega) (by omega)]; omega), if_neg (by rw [z_le (by omega) (by omega)]; omega), s40, nI_add, z_g (z_in (show t + k < 50 by omega) (by decide)), z_nm, z_nm, z_g zc3, zl3, f4, show (47 + nI (t + k) : Int32) = nI (47 + (t + k)) from nI_add 47 _, z_g (z_in (show 47 + (t + k) < 221 by omega) (by decide)), z_nm, z_g zc3, z_g zc3, z_nm, z_nm, z_cl (show t + k < 1000000 by omega), z_cl (show 47 + (t + k) < 1000000 by omega), show (nI k + 1 : Int32) = nI (k + 1) from nI_1 _, z_pn τ1 1 _ _ (j := 1) (i' := 3) (by omega), f4, show (nI (t + k) + 1 : Int32) = nI (t + (k + 1)) from nI_1 _, pk_vb, zfb v1 (show k < 8 by omega)]
        refine ih (k + 1) N M _ _ (by omega) (by omega) (by omega) (fr_tr f1 (fr_put rfl)) (fr_tr f2 (fr_tr (fr_put rfl) (fr_put rfl))) (fun i p1 p2 => ?_) (z_p _ _ _ _) (fun i hi => ?_) (fun i hi => ?_)
        · rw [z_pn _ _ _ _ (by omega), z_pn _ _ _ _ (by omega)]
          exact f3 i p1 p2
        · rw [z_pn (rp_put τ1 1 (47 + (t + k)) _) _ _ _ (by omega)]
          by_cases c2 : i = t + k
          · subst c2
            rw [z_p, z_p]
          · rw [z_pn τ1 _ _ _ (by omega), z_pn σ1 _ _ _ (by omega)]
            exact f5 i (by omega)
        · by_cases c2 : i = t + k
          · subst c2
            rw [z_p]
            exact zfit _
          · rw [z_pn σ1 _ _ _ (by omega)]
            exact f6 i hi
    exact key c 0 300 300 σ τ (by omega) (by omega) (by omega) fr_rf fr_rf (fun _ _ _ => rfl) e2 e3 e4
  · rw [if_neg (show ¬ nI (t + c) ≤ (50 : Int32) from fun z => q ((z_le (b := 50) (by omega) (by omega)).mp z)), if_neg (show ¬ nI (t + c) ≤ (50 : Int32) from fun z => q ((z_le (b := 50) (by omega) (by omega)).mp z))]
    exact rf4 h
