/-- she shifts neighbours -/
def zcd (φ : Int32 → Int32 → Int32 → Int32) (γ : zB) (k : Nat) : Bool := decide (γ 3 (γ 6 (k + 1)) < γ 3 (γ 6 k)) && !decide (φ (nI (γ 3 (γ 6 k) - γ 3 (γ 6 (k + 1)))) (nI (γ 2 (γ 6 k))) (nI k) = 0)
def zS (φ : Int32 → Int32 → Int32 → Int32) (γ : zB) : Nat → zB
  | 0 => γ
  | k + 1 => if zcd φ (zS φ γ k) k = true then zx (zS φ γ k) k (k + 1) else zS φ γ k
theorem BI.S {φ : Int32 → Int32 → Int32 → Int32} {γ : zB} (hI : BI γ) : ∀ k, k ≤ γ 0 0 - 1 → BI (zS φ γ k) ∧ zS φ γ k 0 0 = γ 0 0 := by
  intro k
  induction k with
  | zero => intro _; exact ⟨hI, rfl⟩
  | succ k ih =>
    intro hk
    obtain ⟨h1, h2⟩ := ih (by omega)
    unfold zS
    split
    · have := h1.xch (p := k) (q := k + 1) (by rw [h2]; omega) (by rw [h2]; omega)
      exact ⟨this.1, this.2.trans h2⟩
    · exact ⟨h1, h2⟩
theorem z_dif {a b : Nat} (ha : a ≤ 999) (hb : b ≤ 999) : (b < a ∧ (nI a - nI b : Int32) = nI (a - b) ∧ ¬ (nI a - nI b : Int32) ≤ 0) ∨ (¬ b < a ∧ (nI a - nI b : Int32) ≤ 0) := by
  by_cases h : b < a
  · refine Or.inl ⟨h, pk_sub (by omega), ?_⟩
    rw [pk_sub (by omega)]
    intro z
    have := (z_le (b := 0) (by omega) (by omega)).mp z
    omega
  · refine Or.inr ⟨h, ?_⟩
    rw [Int32.le_iff_toInt_le, pk_sub_toInt (by omega) (by omega)]
    have e2 : (0 : Int32).toInt = 0 := by decide +kernel
    omega
theorem zx_shift {φ : Int32 → Int32 → Int32 → Int32} {γ : zB} {σ : rp_St} {b l : Nat} (hb : b < 4) (hl : l < 4) (hG : GX φ l σ) (hI : BI γ) (hX : BX γ σ (7 * b)) : ∃ σ', fX0_shiftNeighbours b l σ = some (0, σ') ∧ BX (zS φ γ (γ 0 0 - 1)) σ' (7 * b) ∧ fr (wX b l) σ σ' := by
  have h7 := hI.1
  have key : ∀ (r k N : Nat) (σ1 : rp_St), k + r = γ 0 0 - 1 → r < N → GX φ l σ1 → BX (zS φ γ k) σ1 (7 * b) → ∃ σ', rp_lp (fun _ _ => none) (fX0_shiftNeighbours_2 b l) N (nI k) σ1 = some (0, σ') ∧ BX (zS φ γ (γ 0 0 - 1)) σ' (7 * b) ∧ fr (wX b l) σ1 σ' := by
    intro r
    induction r with
    | zero =>
      intro k N σ1 hk hN hG1 hX1
      obtain ⟨N, rfl⟩ : ∃ M, N = M + 1 := ⟨N - 1, by omega⟩
      have hk : k = γ 0 0 - 1 := by omega
      subst hk
      have hs := hI.S (φ := φ) (γ 0 0 - 1) (Nat.le_refl _)
      rw [z_lp, fX0_shiftNeighbours_2]
      refine ⟨σ1, ?_, hX1, fr_rf⟩
      rw [hX1.1, hs.2, show (nI (γ 0 0 - 1) + 1 : Int32) = nI (γ 0 0 - 1 + 1) from nI_1 _, if_pos ((z_le (by omega) (by omega)).mpr (by omega))]
    | succ r ih =>
      intro k N σ1 hk hN hG1 hX1
      obtain ⟨N, rfl⟩ : ∃ M, N = M + 1 := ⟨N - 1, by omega⟩
      have hs := hI.S (φ := φ) k (by omega)
      obtain ⟨δ, eδ⟩ : ∃ δ, δ = zS φ γ k := ⟨_, rfl⟩
      have hstep : zS φ γ (k + 1) = if zcd φ δ k = true then zx δ k (k + 1) else δ := by rw [eδ]; rfl
      rw [← eδ] at hX1 hs
      obtain ⟨hI1, n1⟩ := hs
      have k0 : k < δ 0 0 := by rw [n1]; omega
      have k1 : k + 1 < δ 0 0 := by rw [n1]; omega
      have x0 := hI1.ord k0
      have x1 := hI1.ord k1
      have r0 : δ 3 (δ 6 k) ≤ 999 := hI1.2.1 _ x0 3 (by decide) (by decide)
      have r1 : δ 3 (δ 6 (k + 1)) ≤ 999 := hI1.2.1 _ x1 3 (by decide) (by decide)
      have go : ∀ σ2 : rp_St, BX (zS φ γ (k + 1)) σ2 (7 * b) → fr (wX b l) σ1 σ2 → ∃ σ', rp_lp (fun _ _ => none) (fX0_shiftNeighbours_2 b l) N (nI (k + 1)) σ2 = some (0, σ') ∧ BX (zS φ γ (γ 0 0 - 1)) σ' (7 * b) ∧ fr (wX b l) σ1 σ' := by
        intro σ2 hX2 f2
        obtain ⟨σ', e1, e2, e3⟩ := ih (k + 1) N σ2 (by omega) (by omega) (hG1.mv (f2 _ (by unfold wX; omega)) (f2 _ (by unfold wX; omega))) hX2
        exact ⟨σ', e1, e2, fr_tr f2 e3⟩
      rw [z_lp, fX0_shiftNeighbours_2]
      rw [hX1.1, n1, show (nI k + 1 : Int32) = nI (k + 1) from nI_1 _, if_neg (by rw [z_le (by omega) (by omega)]; omega), z_g (z_in (by omega) (by omega)), z_nm, z_cl (by omega), hX1.2 k k0 6 (by decide) (by decide), z_g (z_in (by omega) (by omega)), z_g (z_in (by omega) (by omega)), z_cl (by omega), hX1.2 _ k1 6 (by decide) (by decide), z_g (z_in (by omega) (by omega)), z_nm, z_cl (by omega), z_cl (by omega), hX1.2 _ x0 3 (by decide) (by decide), hX1.2 _ x1 3 (by decide) (by decide)]
      rcases z_dif r0 r1 with ⟨d1, d2, d3⟩ | ⟨d1, d2⟩
      · rw [if_neg d3, d2, z_g (z_in (by omega) (by omega)), hX1.2 _ x0 2 (by decide) (by decide)]
        obtain ⟨σ4, e4, f4⟩ := hG1 σ1 rfl rfl (nI (δ 3 (δ 6 k) - δ 3 (δ 6 (k + 1)))) (nI (δ 2 (δ 6 k))) (nI k)
        have hX4 : BX δ σ4 (7 * b) := hX1.fr (fun j h1 h2 => f4 j (by omega))
        have f4' : fr (wX b l) σ1 σ4 := fr_mo f4 (fun j hj => Or.inr hj)
        rw [e4, z_bd]
        by_cases c : φ (nI (δ 3 (δ 6 k) - δ 3 (δ 6 (k + 1)))) (nI (δ 2 (δ 6 k))) (nI k) = 0
        · rw [if_pos c, fX0_shiftNeighbours_70, z_nm, show (nI k + 1 : Int32) = nI (k + 1) from nI_1 _]
          have hz : zcd φ δ k = false := by unfold zcd; simp [c]
          exact go σ4 (by rw [hstep, hz]; exact hX4) f4'
        · rw [if_neg c]
          obtain ⟨σ6, e6, hX6, f6⟩ := zx_xch hI1 hX4 k0 k1
          rw [e6, z_bd, fX0_shiftNeighbours_70, z_nm, show (nI k + 1 : Int32) = nI (k + 1) from nI_1 _]
          have hz : zcd φ δ k = true := by unfold zcd; simp [c, d1]
          exact go σ6 (by rw [hstep, if_pos hz]; exact hX6) (fr_tr f4' (fr_mo f6 (fun j hj => Or.inl (by omega))))
      · rw [if_pos d2, fX0_shiftNeighbours_70, z_nm, show (nI k + 1 : Int32) = nI (k + 1) from nI_1 _]
        have hz : zcd φ δ k = false := by unfold zcd; simp [d1]
        exact go σ1 (by rw [hstep, hz]; exact hX1) fr_rf
  exact key (γ 0 0 - 1) 0 300 σ (by omega) (by omega) hG hX
/-- an hour -/
def zh (φ : Int32 → Int32 → Int32 → Int32) (β : zB) : zB := zS φ (zG β) (β 0 0 - 1)
theorem zG_k (β : zB) : ∀ g, g < β 0 0 → ∀ j, 1 ≤ j → j ≤ 6 → zG β j g = zGk β (fun _ => true) j g := fun g _ j h1 _ => by unfold zGk; rw [if_pos ⟨by omega, rfl⟩]
theorem BI.G' {β : zB} (hI : BI β) : BI (zG β) := by
  have h := hI.G (fun _ => true)
  have h0 := zGk0 β (fun _ => true)
  refine ⟨hI.1, fun g hg j h1 h6 => ?_, fun p q hp hq e => hI.2.2 p q hp hq e⟩
  have hg' : g < β 0 0 := hg
  rw [zG_k β g hg' j h1 h6]
  have := h.2.1 g (by rw [h0]; exact hg') j h1 h6
  rw [h0] at this
  exact this
theorem BI.h {φ : Int32 → Int32 → Int32 → Int32} {β : zB} (hI : BI β) : BI (zh φ β) ∧ zh φ β 0 0 = β 0 0 := by
  have := hI.G'.S (φ := φ) (β 0 0 - 1) (Nat.le_refl _)
  exact ⟨this.1, this.2⟩
def zhn (φ : Int32 → Int32 → Int32 → Int32) : Nat → zB → zB
  | 0, β => β
  | n + 1, β => zhn φ n (zh φ β)
theorem BI.hn {φ : Int32 → Int32 → Int32 → Int32} : ∀ (n : Nat) {β : zB}, BI β → BI (zhn φ n β) ∧ zhn φ n β 0 0 = β 0 0 := by
  intro n
  induction n with
  | zero => intro β h; exact ⟨h, rfl⟩
  | succ n ih =>
    intro β h
    have h1 := h.h (φ := φ)
    have h2 := ih h1.1
    exact ⟨h2.1, h2.2.trans h1.2⟩
theorem zx_hours {φ : Int32 → Int32 → Int32 → Int32} {b l : Nat} (hb : b < 4) (hl : l < 4) {n : Nat} (hn : n ≤ 60) {β : zB} {σ : rp_St} (hG : GX φ l σ) (hI : BI β) (hX : BX β σ (7 * b)) : ∃ σ', fX0_passHours b l (nI n) σ = some (0, σ') ∧ BX (zhn φ n β) σ' (7 * b) ∧ fr (wX b l) σ σ' := by
  have key : ∀ (r k N : Nat) (β : zB) (σ1 : rp_St), k + r = n → r < N → BI β → GX φ l σ1 → BX β σ1 (7 * b) → ∃ σ', rp_lp (fun _ _ _ => none) (fX0_passHours_2 b l) N (nI n) (nI k) σ1 = some (0, σ') ∧ BX (zhn φ r β) σ' (7 * b) ∧ fr (wX b l) σ1 σ' := by
    intro r
    induction r with
    | zero =>
      intro k N β σ1 hk hN hI1 hG1 hX1
      obtain ⟨N, rfl⟩ : ∃ M, N = M + 1 := ⟨N - 1, by omega⟩
      rw [z_lp, fX0_passHours_2, if_pos ((z_le (by omega) (by omega)).mpr (by omega))]
      exact ⟨σ1, rfl, hX1, fr_rf⟩
    | succ r ih =>
      intro k N β σ1 hk hN hI1 hG1 hX1
      obtain ⟨N, rfl⟩ : ∃ M, N = M + 1 := ⟨N - 1, by omega⟩
      rw [z_lp, fX0_passHours_2, if_neg (by rw [z_le (by omega) (by omega)]; omega)]
      obtain ⟨σ2, e2, hX2, f2⟩ := zx_growRue (l := l) hI1 hX1
      obtain ⟨σ4, e4, hX4, f4⟩ := zx_shift hb hl (hG1.mv (f2 _ (by unfold wX; omega)) (f2 _ (by unfold wX; omega))) hI1.G' hX2
      have f24 := fr_tr f2 f4
      rw [e2, z_bd, e4, z_bd, z_nm, show (nI k + 1 : Int32) = nI (k + 1) from nI_1 _]
      obtain ⟨σ', e', hX', f'⟩ := ih (k + 1) N (zh φ β) σ4 (by omega) (by omega) hI1.h.1 (hG1.mv (f24 _ (by unfold wX; omega)) (f24 _ (by unfold wX; omega))) hX4
      exact ⟨σ', e', hX', fr_tr f24 f'⟩
  exact key n 0 300 β σ (by omega) (by omega) hI hG hX
