theorem z_ord {β : zB} {τ : rp_St} (hM : BM β (τ 1)) {p : Nat} (hp : p < β 0 0) : τ 1 (5 + p) = nI (β 6 p) := hM.2 p hp 6 (by decide) (by decide)
/-- the reference: who grows by how much, laid aside first -/
theorem zm_hour1 {β : zB} {τ : rp_St} (hI : BI β) (hM : BM β (τ 1)) {X : Type} (post : Option (Int32 × rp_St) → Prop) (hk : ∀ τ' : rp_St, fr (fun k => k = 5) τ τ' → (∀ g, g < β 0 0 → τ' 5 g = if β 5 g = 1 then zgr (β 0 0) (β 1 g) (β 2 g) (β 4 g) (zq β g) else 0) → post (rp_lp (fun _ _ => none) fX7_hour_45 300 0 τ')) : post (fX7_hour τ) := by
  have h7 := hI.1
  have key : ∀ (r k N : Nat) (τ1 : rp_St), k + r = β 0 0 → r < N → fr (fun k => k = 5) τ τ1 → (∀ g, g < k → τ1 5 g = if β 5 g = 1 then zgr (β 0 0) (β 1 g) (β 2 g) (β 4 g) (zq β g) else 0) → post (rp_lp (fun _ _ => none) fX7_hour_2 N (nI k) τ1) := by
    intro r
    induction r with
    | zero =>
      intro k N τ1 hkk hN f1 hg1
      obtain ⟨N, rfl⟩ : ∃ M, N = M + 1 := ⟨N - 1, by omega⟩
      have hM1 : BM β (τ1 1) := by rw [f1 1 (by decide)]; exact hM
      rw [z_lp, fX7_hour_2, z_g zc1, zl1, hM1.1, if_pos ((z_le (by omega) (by omega)).mpr (by omega))]
      exact hk τ1 f1 (fun g hg => hg1 g (by omega))
    | succ r ih =>
      intro k N τ1 hkk hN f1 hg1
      obtain ⟨N, rfl⟩ : ∃ M, N = M + 1 := ⟨N - 1, by omega⟩
      have hM1 : BM β (τ1 1) := by rw [f1 1 (by decide)]; exact hM
      have hkn : k < β 0 0 := by omega
      have a := zq_lt hI hkn
      have b5 : β 5 k ≤ 1 := hI.2.1 k hkn 5 (by decide) (by decide)
      have hgr : fX7_growsNow (nI k) τ1 = some (zgr (β 0 0) (β 1 k) (β 2 k) (β 4 k) (zq β k), τ1) := by
        have := zm_grow hI hM1 a.1
        rw [a.2] at this
        exact this
      have go : ∀ v : Int32, v = (if β 5 k = 1 then zgr (β 0 0) (β 1 k) (β 2 k) (β 4 k) (zq β k) else 0) → post (fX7_hour_36 (rp_lp (fun _ _ => none) fX7_hour_2 N) (nI k) v (nI k) τ1) := by
        intro v hv
        rw [fX7_hour_36, z_g (z_in (by omega) (by omega)), z_nm, z_nm, z_cl (by omega), show (nI k + 1 : Int32) = nI (k + 1) from nI_1 _]
        refine ih (k + 1) N _ (by omega) (by omega) (fr_tr f1 (fr_put rfl)) (fun g hg => ?_)
        rw [z_put]
        by_cases q : g = k
        · rw [if_pos ⟨rfl, q⟩, hv, q]
        · rw [if_neg (fun z => q z.2)]
          exact hg1 g (by omega)
      rw [z_lp, fX7_hour_2, z_g zc1, zl1, hM1.1, if_neg (by rw [z_le (by omega) (by omega)]; omega), zm_is2 hI hM1 hkn (j := 5) (by decide) (by decide) 4 rfl, z_bd]
      by_cases q : β 5 k = 1
      · rw [q, if_pos (show nI 1 = (1 : Int32) from rfl), hgr, z_bd]
        exact go _ (by rw [if_pos q])
      · rw [if_neg (by rw [show (1 : Int32) = nI 1 from rfl, z_eq (by omega) (by omega)]; exact q)]
        exact go _ (by rw [if_neg q])
  exact key (β 0 0) 0 300 τ (by omega) (by omega) fr_rf (fun g hg => by omega)
/-- then all grow -/
theorem zm_hour2 {β : zB} {τ : rp_St} (hI : BI β) (hM : BM β (τ 1)) (hg5 : ∀ g, g < β 0 0 → τ 5 g = if β 5 g = 1 then zgr (β 0 0) (β 1 g) (β 2 g) (β 4 g) (zq β g) else 0) (post : Option (Int32 × rp_St) → Prop) (hk : ∀ τ' : rp_St, frM τ τ' → BM (zG β) (τ' 1) → post (rp_lp (fun _ _ => none) fX7_hour_103 300 0 τ')) : post (rp_lp (fun _ _ => none) fX7_hour_45 300 0 τ) := by
  have h7 := hI.1
  have key : ∀ (r k N : Nat) (τ1 : rp_St), k + r = β 0 0 → r < N → frM τ τ1 → τ1 5 = τ 5 → BM (zGk β (fun g => decide (g < k))) (τ1 1) → post (rp_lp (fun _ _ => none) fX7_hour_45 N (nI k) τ1) := by
    intro r
    induction r with
    | zero =>
      intro k N τ1 hkk hN f1 h5 hM1
      obtain ⟨N, rfl⟩ : ∃ M, N = M + 1 := ⟨N - 1, by omega⟩
      rw [z_lp, fX7_hour_45, z_g zc1, zl1, hM1.1, zGk0, if_pos ((z_le (by omega) (by omega)).mpr (by omega))]
      refine hk τ1 f1 (hM1.cg (by rw [zGk0]; rfl) (fun g hg j h1 h6 => ?_))
      rw [zGk0] at hg
      unfold zGk
      rw [if_pos ⟨by omega, decide_eq_true (by omega)⟩]
    | succ r ih =>
      intro k N τ1 hkk hN f1 h5 hM1
      obtain ⟨N, rfl⟩ : ∃ M, N = M + 1 := ⟨N - 1, by omega⟩
      have hkn : k < β 0 0 := by omega
      have hI1 := hI.G (fun g => decide (g < k))
      have n1 := zGk0 β (fun g => decide (g < k))
      have hPx : (fun g => decide (g < k)) k = false := by simp
      have hno : ∀ j, zGk β (fun g => decide (g < k)) j k = β j k := fun j => zGk_no hPx
      have b5 : β 5 k ≤ 1 := hI.2.1 k hkn 5 (by decide) (by decide)
      have b3 : β 3 k ≤ 999 := hI.2.1 k hkn 3 (by decide) (by decide)
      have h3 : zhv (nI (β 3 k) + τ1 5 k) = nI (zG β 3 k) := by
        rw [h5, hg5 k hkn]
        unfold zG
        rw [if_pos rfl]
        by_cases q : β 5 k = 1
        · rw [if_pos q, if_neg (by omega)]
          exact (zhv_le _).1
        · rw [if_neg q, if_pos (by omega), show (nI (β 3 k) + 0 : Int32) = nI (β 3 k) from nI_add _ 0]
          exact zhv_id b3
      have e3 : 12 + 5 * k + 2 = zi 3 k := by unfold zi; rw [if_neg (by decide)]; omega
      have e5 : 12 + 5 * k + 4 = zi 5 k := by unfold zi; rw [if_neg (by decide)]; omega
      rw [z_lp, fX7_hour_45, z_g zc1, zl1, hM1.1, n1, if_neg (by rw [z_le (by omega) (by omega)]; omega), show (2 : Int32) = nI 2 from rfl, show (4 : Int32) = nI 4 from rfl]
      simp only [zm_at, z_bd, z_nm]
      rw [zm_rue hI1 hM1 (g := k) (by rw [n1]; exact hkn), z_bd, hno, z_g (z_in (by omega) (by omega)), z_cl (by omega), zhv_m, z_bd, h3, z_g (z_in (by omega) (by omega)), z_cl (by omega), z_g (z_in (by omega) (by omega)), z_cl (by omega), show (nI k + 1 : Int32) = nI (k + 1) from nI_1 _]
      refine ih (k + 1) N _ (by omega) (by omega) (frM_tr f1 (frM_tr (frM_put (by omega)) (frM_put (by omega)))) ?_ ?_
      · rw [z_putk _ _ _ _ (by decide), z_putk _ _ _ _ (by decide)]
        exact h5
      · rw [z_up1, z_up1]
        have a1 := hM1.put (v := zG β 3 k) (by rw [n1]; exact h7) (g := k) (by rw [n1]; exact hkn) (j := 3) (by decide) (by decide) e3
        have a2 := a1.put (v := 1) (by rw [zp0 _ (by decide), n1]; exact h7) (g := k) (by rw [zp0 _ (by decide), n1]; exact hkn) (j := 5) (by decide) (by decide) e5
        refine a2.cg (by rw [zGk0, zp0 _ (by decide), zp0 _ (by decide), n1]) (fun g hg j h1 h6 => ?_)
        rw [zp0 _ (by decide), zp0 _ (by decide), n1] at hg
        exact zGk_step _ _ k hPx (fun g _ => by show decide (g < k + 1) = (decide (g < k) || decide (g = k)); by_cases q1 : g < k <;> by_cases q2 : g = k <;> simp [q1, q2] <;> omega) hg h1
  exact key (β 0 0) 0 300 τ (by omega) (by omega) frM_rf rfl (hM.cg (by rw [zGk0]) (fun g hg j h1 h6 => zGk_no (by simp)))
theorem zm_wrongAt {β : zB} {τ : rp_St} (hI : BI β) (hM : BM β (τ 1)) {p : Nat} (hp : p + 1 < β 0 0) : fX7_isWrongAt (nI p) τ = some (if β 3 (β 6 (p + 1)) < β 3 (β 6 p) then 1 else 0, τ) := by
  have h7 := hI.1
  have x0 := hI.ord (p := p) (by omega)
  have x1 := hI.ord hp
  have r0 : β 3 (β 6 p) ≤ 999 := hI.2.1 _ x0 3 (by decide) (by decide)
  have r1 : β 3 (β 6 (p + 1)) ≤ 999 := hI.2.1 _ x1 3 (by decide) (by decide)
  unfold fX7_isWrongAt
  rw [show (5 + nI p : Int32) = nI (5 + p) from nI_add 5 p, show (nI (5 + p) + 1 : Int32) = nI (5 + (p + 1)) from nI_1 _, z_g (z_in (by omega) (by omega)), z_cl (by omega), z_cl (by omega), z_ord hM (by omega), zm_rue hI hM x0, z_bd, z_g (z_in (by omega) (by omega)), z_ord hM hp, zm_rue hI hM x1, z_bd]
  by_cases q : β 3 (β 6 (p + 1)) < β 3 (β 6 p)
  · rw [if_neg (by rw [z_le (by omega) (by omega)]; omega), if_pos q]
  · rw [if_pos ((z_le (by omega) (by omega)).mpr (by omega)), if_neg q]
/-- then she shifts, and the hour is counted -/
theorem zm_hour3 {φ : Int32 → Int32 → Int32 → Int32} {γ : zB} {τ : rp_St} (hG : GM φ 1 τ) (hI : BI γ) (hM : BM γ (τ 1)) : ∃ τ', rp_lp (fun _ _ => none) fX7_hour_103 300 0 τ = some (0, τ') ∧ BM (zS φ γ (γ 0 0 - 1)) (τ' 1) ∧ τ' 1 0 = τ 1 0 + 1 ∧ frH τ τ' := by
  have h7 := hI.1
  have key : ∀ (r k N : Nat) (τ1 : rp_St), k + r = γ 0 0 - 1 → r < N → GM φ 1 τ1 → BM (zS φ γ k) (τ1 1) → ∃ τ', rp_lp (fun _ _ => none) fX7_hour_103 N (nI k) τ1 = some (0, τ') ∧ BM (zS φ γ (γ 0 0 - 1)) (τ' 1) ∧ τ' 1 0 = τ1 1 0 + 1 ∧ frH τ1 τ' := by
    intro r
    induction r with
    | zero =>
      intro k N τ1 hk hN hG1 hM1
      obtain ⟨N, rfl⟩ : ∃ M, N = M + 1 := ⟨N - 1, by omega⟩
      have hk : k = γ 0 0 - 1 := by omega
      subst hk
      have hs := hI.S (φ := φ) (γ 0 0 - 1) (Nat.le_refl _)
      rw [z_lp, fX7_hour_103, z_g zc1, zl1, hM1.1, hs.2, show (nI (γ 0 0 - 1) + 1 : Int32) = nI (γ 0 0 - 1 + 1) from nI_1 _, if_pos ((z_le (by omega) (by omega)).mpr (by omega)), z_g zc0, z_g zc0, z_nm, zl0]
      refine ⟨_, rfl, hM1.fr hs.1.1 (fun i h1 h2 => ?_), ?_, fr_put (Or.inl rfl), fun i hi => ?_⟩
      · rw [z_put, if_neg (by omega)]
      · rw [z_put, if_pos ⟨rfl, rfl⟩]
      · rw [z_put, if_neg (by omega)]
    | succ r ih =>
      intro k N τ1 hk hN hG1 hM1
      obtain ⟨N, rfl⟩ : ∃ M, N = M + 1 := ⟨N - 1, by omega⟩
      have hs := hI.S (φ := φ) k (by omega)
      obtain ⟨δ, eδ⟩ : ∃ δ, δ = zS φ γ k := ⟨_, rfl⟩
      have hstep : zS φ γ (k + 1) = if zcd φ δ k = true then zx δ k (k + 1) else δ := by rw [eδ]; rfl
      rw [← eδ] at hM1 hs
      obtain ⟨hI1, n1⟩ := hs
      have k0 : k < δ 0 0 := by rw [n1]; omega
      have k1 : k + 1 < δ 0 0 := by rw [n1]; omega
      have x0 := hI1.ord k0
      have x1 := hI1.ord k1
      have r0 : δ 3 (δ 6 k) ≤ 999 := hI1.2.1 _ x0 3 (by decide) (by decide)
      have r1 : δ 3 (δ 6 (k + 1)) ≤ 999 := hI1.2.1 _ x1 3 (by decide) (by decide)
      have go : ∀ τ2 : rp_St, BM (zS φ γ (k + 1)) (τ2 1) → frM τ1 τ2 → ∃ τ', fX7_hour_176 (rp_lp (fun _ _ => none) fX7_hour_103 N) (nI k) τ2 = some (0, τ') ∧ BM (zS φ γ (γ 0 0 - 1)) (τ' 1) ∧ τ' 1 0 = τ1 1 0 + 1 ∧ frH τ1 τ' := by
        intro τ2 hM2 f2
        rw [fX7_hour_176, z_nm, show (nI k + 1 : Int32) = nI (k + 1) from nI_1 _]
        obtain ⟨τ', e1, e2, e3, e4⟩ := ih (k + 1) N τ2 (by omega) (by omega) (hG1.mv (fun i h1 h2 => f2.2 i (by omega))) hM2
        exact ⟨τ', e1, e2, by rw [e3, f2.2 0 (Or.inl rfl)], frH_tr (frH_of f2) e4⟩
      rw [z_lp, fX7_hour_103, z_g zc1, zl1, hM1.1, n1, show (nI k + 1 : Int32) = nI (k + 1) from nI_1 _, if_neg (by rw [z_le (by omega) (by omega)]; omega), show (5 + nI k : Int32) = nI (5 + k) from nI_add 5 k, show (nI (5 + k) + 1 : Int32) = nI (5 + (k + 1)) from nI_1 _, z_g (z_in (by omega) (by omega)), z_nm, z_cl (by omega), z_cl (by omega), z_ord hM1 k0, zm_wrongAt hI1 hM1 k1, z_bd]
      by_cases d1 : δ 3 (δ 6 (k + 1)) < δ 3 (δ 6 k)
      · rw [if_pos d1, if_neg (by decide), zm_rue hI1 hM1 x0, z_bd, z_g (z_in (by omega) (by omega)), z_ord hM1 k1, zm_rue hI1 hM1 x1, z_bd, zm_is2 hI1 hM1 x0 (j := 2) (by decide) (by decide) 1 rfl, z_bd, show (nI (δ 3 (δ 6 k)) - nI (δ 3 (δ 6 (k + 1))) : Int32) = nI (δ 3 (δ 6 k) - δ 3 (δ 6 (k + 1))) from pk_sub (by omega)]
        obtain ⟨τ4, e4, f4⟩ := hG1 τ1 (fun _ _ _ => rfl) (nI (δ 3 (δ 6 k) - δ 3 (δ 6 (k + 1)))) (nI (δ 2 (δ 6 k))) (nI k)
        have f4' := frM_89 f4
        have hM4 : BM δ (τ4 1) := by rw [f4 1 (by omega)]; exact hM1
        rw [e4, z_bd]
        by_cases c : φ (nI (δ 3 (δ 6 k) - δ 3 (δ 6 (k + 1)))) (nI (δ 2 (δ 6 k))) (nI k) = 0
        · rw [if_pos c]
          have hz : zcd φ δ k = false := by unfold zcd; simp [c]
          exact go τ4 (by rw [hstep, hz]; exact hM4) f4'
        · rw [if_neg c]
          obtain ⟨τ6, e6, hM6, f6, g6⟩ := zm_xch hI1 hM4 k0 k1
          rw [e6, z_bd]
          have hz : zcd φ δ k = true := by unfold zcd; simp [c, d1]
          exact go τ6 (by rw [hstep, if_pos hz]; exact hM6) (frM_tr f4' ⟨fr_mo f6 (fun j hj => Or.inl hj), fun i hi => g6 i (by omega)⟩)
      · rw [if_neg d1, if_pos rfl]
        have hz : zcd φ δ k = false := by unfold zcd; simp [d1]
        exact go τ1 (by rw [hstep, hz]; exact hM1) frM_rf
  exact key (γ 0 0 - 1) 0 300 τ (by omega) (by omega) hG hM
theorem zm_hour {φ : Int32 → Int32 → Int32 → Int32} {β : zB} {τ : rp_St} (hG : GM φ 1 τ) (hI : BI β) (hM : BM β (τ 1)) : ∃ τ', fX7_hour τ = some (0, τ') ∧ BM (zh φ β) (τ' 1) ∧ τ' 1 0 = τ 1 0 + 1 ∧ frH τ τ' := by
  refine zm_hour1 (X := Nat) hI hM (fun o => ∃ τ', o = some (0, τ') ∧ BM (zh φ β) (τ' 1) ∧ τ' 1 0 = τ 1 0 + 1 ∧ frH τ τ') (fun τ1 f1 h1 => ?_)
  have e1 : τ1 1 = τ 1 := f1 1 (by decide)
  refine zm_hour2 hI (by rw [e1]; exact hM) h1 (fun o => ∃ τ', o = some (0, τ') ∧ BM (zh φ β) (τ' 1) ∧ τ' 1 0 = τ 1 0 + 1 ∧ frH τ τ') (fun τ2 f2 hM2 => ?_)
  obtain ⟨τ', a1, a2, a3, a4⟩ := zm_hour3 (hG.mv (fun i h1 h2 => by rw [f2.2 i (by omega), e1])) hI.G' hM2
  refine ⟨τ', a1, a2, by rw [a3, f2.2 0 (Or.inl rfl), e1], frH_tr ⟨fr_mo f1 (fun k hk => Or.inr (Or.inl hk)), fun i _ => by rw [e1]⟩ (frH_tr (frH_of f2) a4)⟩
theorem zm_hours {φ : Int32 → Int32 → Int32 → Int32} {n : Nat} (hn : n ≤ 60) {β : zB} {τ : rp_St} (hG : GM φ 1 τ) (hI : BI β) (hM : BM β (τ 1)) : ∃ τ', fX7_hoursGo (nI n) τ = some (0, τ') ∧ BM (zhn φ n β) (τ' 1) ∧ τ' 1 0 = τ 1 0 + nI n ∧ frH τ τ' := by
  have key : ∀ (r k N : Nat) (β : zB) (τ1 : rp_St), k + r = n → r < N → BI β → GM φ 1 τ1 → BM β (τ1 1) → ∃ τ', rp_lp (fun _ _ _ => none) fX7_hoursGo_2 N (nI n) (nI k) τ1 = some (0, τ') ∧ BM (zhn φ r β) (τ' 1) ∧ τ' 1 0 = τ1 1 0 + nI r ∧ frH τ1 τ' := by
    intro r
    induction r with
    | zero =>
      intro k N β τ1 hk hN hI1 hG1 hM1
      obtain ⟨N, rfl⟩ : ∃ M, N = M + 1 := ⟨N - 1, by omega⟩
      rw [z_lp, fX7_hoursGo_2, if_pos ((z_le (by omega) (by omega)).mpr (by omega))]
      exact ⟨τ1, rfl, hM1, by rw [show (nI 0 : Int32) = 0 from rfl, Int32.add_zero], frH_rf⟩
    | succ r ih =>
      intro k N β τ1 hk hN hI1 hG1 hM1
      obtain ⟨N, rfl⟩ : ∃ M, N = M + 1 := ⟨N - 1, by omega⟩
      rw [z_lp, fX7_hoursGo_2, if_neg (by rw [z_le (by omega) (by omega)]; omega)]
      obtain ⟨τ2, e2, hM2, h2, f2⟩ := zm_hour hG1 hI1 hM1
      rw [e2, z_bd, z_nm, show (nI k + 1 : Int32) = nI (k + 1) from nI_1 _]
      obtain ⟨τ', e', hM', h', f'⟩ := ih (k + 1) N (zh φ β) τ2 (by omega) (by omega) hI1.h.1 (hG1.mv (fun i h1 h2 => f2.2 i (by omega))) hM2
      exact ⟨τ', e', hM', by rw [h', h2, Int32.add_assoc, show (1 + nI r : Int32) = nI (1 + r) from nI_add 1 r, Nat.add_comm 1 r], frH_tr f2 f'⟩
  exact key n 0 300 β τ (by omega) (by omega) hI hG hM
