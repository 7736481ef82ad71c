theorem z_bX {β : zB} {σ : rp_St} {c : Nat} (h : BX β σ c) {g j : Nat} (hg : g < β 0 0) (h1 : 1 ≤ j) (h6 : j ≤ 6) : σ (c + j) g = nI (β j g) := h.2 g hg j h1 h6
/-- pegOf, in both -/
theorem zx_peg {β : zB} {σ : rp_St} {b : Nat} (hI : BI β) (hX : BX β σ (7 * b)) {p : Nat} (hp : p < β 0 0) : fX0_pegOf b (nI (β 6 p)) σ = some (nI p, σ) := by
  have h7 := hI.1
  have key : ∀ (r k N : Nat), k + r = p → r < N → rp_lp (fun _ _ _ => none) (fX0_pegOf_2 b) N (nI (β 6 p)) (nI k) σ = some (nI p, σ) := by
    intro r
    induction r with
    | zero =>
      intro k N hk hN
      obtain ⟨N, rfl⟩ : ∃ M, N = M + 1 := ⟨N - 1, by omega⟩
      have hk : k = p := by omega
      subst hk
      rw [z_lp]
      unfold fX0_pegOf_2
      rw [hX.1, if_neg (by rw [z_le (by omega) (by omega)]; omega), z_g (z_in (by omega) (by omega)), z_cl (by omega), hX.2 k hp 6 (by decide) (by decide), if_pos rfl]
    | succ r ih =>
      intro k N hk hN
      obtain ⟨N, rfl⟩ : ∃ M, N = M + 1 := ⟨N - 1, by omega⟩
      rw [z_lp]
      unfold fX0_pegOf_2
      have a1 := hI.ord (p := k) (by omega)
      have a2 := hI.ord hp
      rw [hX.1, if_neg (by rw [z_le (by omega) (by omega)]; omega), z_g (z_in (by omega) (by omega)), z_cl (by omega), hX.2 k (by omega) 6 (by decide) (by decide), if_neg (by
        rw [z_eq (by omega) (by omega)]
        intro q
        have := hI.2.2 k p (by omega) hp q
        omega), z_nm, show (nI k + 1 : Int32) = nI (k + 1) from nI_1 k]
      exact ih (k + 1) N (by omega) (by omega)
  exact key p 0 300 (by omega) (by omega)
theorem zm_peg {β : zB} {τ : rp_St} (hI : BI β) (hM : BM β (τ 1)) {p : Nat} (hp : p < β 0 0) : fX7_pegOf (nI (β 6 p)) τ = some (nI p, τ) := by
  have h7 := hI.1
  have key : ∀ (r k N : Nat), k + r = p → r < N → rp_lp (fun _ _ _ => none) fX7_pegOf_2 N (nI (β 6 p)) (nI k) τ = some (nI p, τ) := by
    intro r
    induction r with
    | zero =>
      intro k N hk hN
      obtain ⟨N, rfl⟩ : ∃ M, N = M + 1 := ⟨N - 1, by omega⟩
      have hk : k = p := by omega
      subst hk
      rw [z_lp]
      unfold fX7_pegOf_2
      rw [show (5 + nI k : Int32) = nI (5 + k) from nI_add 5 k, z_g (z_in (by omega) (by omega)), z_cl (by omega), show 5 + k = zi 6 k from rfl, hM.2 k hp 6 (by decide) (by decide), if_pos rfl]
    | succ r ih =>
      intro k N hk hN
      obtain ⟨N, rfl⟩ : ∃ M, N = M + 1 := ⟨N - 1, by omega⟩
      rw [z_lp]
      unfold fX7_pegOf_2
      have a1 := hI.ord (p := k) (by omega)
      have a2 := hI.ord hp
      rw [show (5 + nI k : Int32) = nI (5 + k) from nI_add 5 k, z_g (z_in (by omega) (by omega)), z_cl (by omega), show 5 + k = zi 6 k from rfl, hM.2 k (by omega) 6 (by decide) (by decide), if_neg (by
        rw [z_eq (by omega) (by omega)]
        intro q
        have := hI.2.2 k p (by omega) hp q
        omega), z_nm, show (nI k + 1 : Int32) = nI (k + 1) from nI_1 k]
      exact ih (k + 1) N (by omega) (by omega)
  exact key p 0 300 (by omega) (by omega)
/-- what the reference's reads of a guest are -/
theorem zm_at (g f : Nat) (τ : rp_St) : fX7_guestAt (nI g) (nI f) τ = some (nI (12 + 5 * g + f), τ) := by
  unfold fX7_guestAt
  rw [show (12 + 5 * nI g + nI f : Int32) = nI (12 + 5 * g + f) from by rw [show (5 * nI g : Int32) = nI (5 * g) from pk_mul 5 g, show (12 + nI (5 * g) : Int32) = nI (12 + 5 * g) from nI_add 12 (5 * g), nI_add]]
theorem zm_is {g : Nat} (hg : g < 7) {f : Nat} (hf : f < 5) (τ : rp_St) : fX7_guestIs (nI g) (nI f) τ = some (τ 1 (12 + 5 * g + f), τ) := by
  unfold fX7_guestIs
  rw [zm_at, z_bd, z_g (z_in (by omega) (by omega)), z_cl (by omega)]
theorem zm_is2 {β : zB} {τ : rp_St} (hI : BI β) (hM : BM β (τ 1)) {g : Nat} (hg : g < β 0 0) {j : Nat} (h1 : 1 ≤ j) (h5 : j ≤ 5) (f : Int32) (hf : f = nI (j - 1)) : fX7_guestIs (nI g) f τ = some (nI (β j g), τ) := by
  have h7 := hI.1
  rw [hf, zm_is (by omega) (by omega), show 12 + 5 * g + (j - 1) = zi j g by unfold zi; split <;> omega, hM.2 g hg j h1 (by omega)]
theorem zm_rue {β : zB} {τ : rp_St} (hI : BI β) (hM : BM β (τ 1)) {g : Nat} (hg : g < β 0 0) : fX7_rue (nI g) τ = some (nI (β 3 g), τ) := by
  unfold fX7_rue
  rw [zm_is2 hI hM hg (j := 3) (by decide) (by decide) 2 rfl, z_bd]
/-- how a guest's regret grows, by peg -/
def zgr (n k m d p : Nat) : Int32 := if k = 1 then nI (1 + m % 3) else if k = 2 then 2 else if k = 3 then 0 else if k = 4 then (if d = 0 then nI (4 * (1 + m % 3)) else nI (1 + m % 3)) else if k = 5 then nI (2 + (n - 1 - p)) else if k = 6 then -(nI m) else 1
theorem z_rem {a d : Nat} (ha : a < 1000000) (h0 : 0 < d) (hd : d < 1000000) : (nI a - nI a / nI d * nI d : Int32) = nI (a % d) := pk_rem (by omega) h0 (by omega)
theorem zx_grow {β : zB} {σ : rp_St} {b : Nat} (hI : BI β) (hX : BX β σ (7 * b)) {p : Nat} (hp : p < β 0 0) : fX0_growsOn b (nI p) σ = some (zgr (β 0 0) (β 1 (β 6 p)) (β 2 (β 6 p)) (β 4 (β 6 p)) p, σ) := by
  have h7 := hI.1
  have hg := hI.ord hp
  have k1 : β 1 (β 6 p) ≤ 6 := hI.2.1 _ hg 1 (by decide) (by decide)
  have k2 : β 2 (β 6 p) ≤ 9 := hI.2.1 _ hg 2 (by decide) (by decide)
  have k4 : β 4 (β 6 p) ≤ 999 := hI.2.1 _ hg 4 (by decide) (by decide)
  unfold fX0_growsOn
  rw [z_g (z_in (by omega) (by omega)), z_cl (by omega), hX.2 p hp 6 (by decide) (by decide)]
  simp only [z_nm]
  rw [z_g (z_in (by omega) (by omega)), z_g (z_in (by omega) (by omega)), z_cl (by omega), hX.2 _ hg 1 (by decide) (by decide), hX.2 _ hg 2 (by decide) (by decide), hX.2 _ hg 4 (by decide) (by decide), hX.1]
  rw [show (nI (β 2 (β 6 p)) - nI (β 2 (β 6 p)) / 3 * 3 : Int32) = nI (β 2 (β 6 p) % 3) from z_rem (d := 3) (by omega) (by omega) (by omega), show (1 + nI (β 2 (β 6 p) % 3) : Int32) = nI (1 + β 2 (β 6 p) % 3) from nI_add 1 _, show (4 * nI (1 + β 2 (β 6 p) % 3) : Int32) = nI (4 * (1 + β 2 (β 6 p) % 3)) from pk_mul 4 _]
  rw [show (nI (β 0 0) - 1 : Int32) = nI (β 0 0 - 1) from pk_sub (a := β 0 0) (b := 1) (by omega), show (nI (β 0 0 - 1) - nI p : Int32) = nI (β 0 0 - 1 - p) from pk_sub (by omega), show (2 + nI (β 0 0 - 1 - p) : Int32) = nI (2 + (β 0 0 - 1 - p)) from nI_add 2 _]
  generalize β 1 (β 6 p) = k at k1 ⊢
  unfold zgr
  have e1 : (nI k = 1) ↔ k = 1 := z_eq (b := 1) (by omega) (by omega)
  have e2 : (nI k = 2) ↔ k = 2 := z_eq (b := 2) (by omega) (by omega)
  have e3 : (nI k = 3) ↔ k = 3 := z_eq (b := 3) (by omega) (by omega)
  have e4 : (nI k = 4) ↔ k = 4 := z_eq (b := 4) (by omega) (by omega)
  have e5 : (nI k = 5) ↔ k = 5 := z_eq (b := 5) (by omega) (by omega)
  have e6 : (nI k = 6) ↔ k = 6 := z_eq (b := 6) (by omega) (by omega)
  have e0 : (nI (β 4 (β 6 p)) = 0) ↔ β 4 (β 6 p) = 0 := z_eq (b := 0) (by omega) (by omega)
  simp only [e1, e2, e3, e4, e5, e6, e0]
  rw [z_g (z_in (by omega) (by omega)), z_g (z_in (by omega) (by omega))]
  repeat' split
  all_goals rfl
theorem zm_grow {β : zB} {τ : rp_St} (hI : BI β) (hM : BM β (τ 1)) {p : Nat} (hp : p < β 0 0) : fX7_growsNow (nI (β 6 p)) τ = some (zgr (β 0 0) (β 1 (β 6 p)) (β 2 (β 6 p)) (β 4 (β 6 p)) p, τ) := by
  have h7 := hI.1
  have hg := hI.ord hp
  have k1 : β 1 (β 6 p) ≤ 6 := hI.2.1 _ hg 1 (by decide) (by decide)
  have k2 : β 2 (β 6 p) ≤ 9 := hI.2.1 _ hg 2 (by decide) (by decide)
  have k4 : β 4 (β 6 p) ≤ 999 := hI.2.1 _ hg 4 (by decide) (by decide)
  unfold fX7_growsNow
  rw [zm_is2 hI hM hg (j := 2) (by decide) (by decide) 1 rfl, z_bd, z_nm, zm_is2 hI hM hg (j := 1) (by decide) (by decide) 0 rfl, z_bd, zm_is2 hI hM hg (j := 4) (by decide) (by decide) 3 rfl, z_bd, zm_peg hI hM hp, z_bd, z_g zc1, zl1, hM.1]
  rw [show (nI (β 2 (β 6 p)) - nI (β 2 (β 6 p)) / 3 * 3 : Int32) = nI (β 2 (β 6 p) % 3) from z_rem (d := 3) (by omega) (by omega) (by omega), show (1 + nI (β 2 (β 6 p) % 3) : Int32) = nI (1 + β 2 (β 6 p) % 3) from nI_add 1 _, show (4 * nI (1 + β 2 (β 6 p) % 3) : Int32) = nI (4 * (1 + β 2 (β 6 p) % 3)) from pk_mul 4 _]
  rw [show (2 + nI (β 0 0) : Int32) = nI (2 + β 0 0) from nI_add 2 _, show (nI (2 + β 0 0) - 1 : Int32) = nI (2 + β 0 0 - 1) from pk_sub (a := 2 + β 0 0) (b := 1) (by omega), show (nI (2 + β 0 0 - 1) - nI p : Int32) = nI (2 + β 0 0 - 1 - p) from pk_sub (by omega), show 2 + β 0 0 - 1 - p = 2 + (β 0 0 - 1 - p) by omega]
  generalize β 1 (β 6 p) = k at k1 ⊢
  unfold zgr
  have e1 : (nI k = 1) ↔ k = 1 := z_eq (b := 1) (by omega) (by omega)
  have e2 : (nI k = 2) ↔ k = 2 := z_eq (b := 2) (by omega) (by omega)
  have e3 : (nI k = 3) ↔ k = 3 := z_eq (b := 3) (by omega) (by omega)
  have e4 : (nI k = 4) ↔ k = 4 := z_eq (b := 4) (by omega) (by omega)
  have e5 : (nI k = 5) ↔ k = 5 := z_eq (b := 5) (by omega) (by omega)
  have e6 : (nI k = 6) ↔ k = 6 := z_eq (b := 6) (by omega) (by omega)
  have e0 : (nI (β 4 (β 6 p)) = 0) ↔ β 4 (β 6 p) = 0 := z_eq (b := 0) (by omega) (by omega)
  simp only [e1, e2, e3, e4, e5, e6, e0]
  repeat' split
  all_goals rfl
/-- two change pegs -/
def zx (β : zB) (p q : Nat) : zB := zp (zp β 6 p (β 6 q)) 6 q (β 6 p)
theorem zx_xch {β : zB} {σ : rp_St} {b : Nat} (hI : BI β) (hX : BX β σ (7 * b)) {p q : Nat} (hp : p < β 0 0) (hq : q < β 0 0) : ∃ σ', fX0_exchange b (nI p) (nI q) σ = some (0, σ') ∧ BX (zx β p q) σ' (7 * b) ∧ fr (fun k => k = 7 * b + 6) σ σ' := by
  have h7 := hI.1
  unfold fX0_exchange
  refine ⟨rp_put (rp_put σ (7 * b + 6) p (nI (β 6 q))) (7 * b + 6) q (nI (β 6 p)), ?_, ?_, ?_⟩
  · rw [z_g (z_in (by omega) (by omega)), z_nm, z_g (z_in (by omega) (by omega)), z_g (z_in (by omega) (by omega)), z_nm, z_g (z_in (by omega) (by omega)), z_nm, z_cl (by omega), z_cl (by omega), hX.2 p hp 6 (by decide) (by decide), hX.2 q hq 6 (by decide) (by decide)]
  · exact (hX.put (by decide) (by decide)).put (by decide) (by decide)
  · exact fr_tr (fr_put rfl) (fr_put rfl)
theorem zm_xch {β : zB} {τ : rp_St} (hI : BI β) (hM : BM β (τ 1)) {p q : Nat} (hp : p < β 0 0) (hq : q < β 0 0) : ∃ τ', fX7_hangs (nI p) (nI q) τ = some (nI (zx β p q 6 p), τ') ∧ BM (zx β p q) (τ' 1) ∧ fr (fun k => k = 1) τ τ' ∧ (∀ i, ¬ (5 ≤ i ∧ i < 12) → τ' 1 i = τ 1 i) := by
  have h7 := hI.1
  unfold fX7_hangs fX7_turn
  have hM2 : BM (zx β p q) ((rp_put (rp_put τ 1 (5 + p) (nI (β 6 q))) 1 (5 + q) (nI (β 6 p))) 1) := by
    have h1 := hM.put (v := β 6 q) h7 hp (j := 6) (by decide) (by decide) (i := 5 + p) rfl
    have h2 := h1.put (v := β 6 p) (by rw [zp0 β (by decide)]; exact h7) (g := q) (by rw [zp0 β (by decide)]; exact hq) (j := 6) (by decide) (by decide) (i := 5 + q) rfl
    have e : (rp_put (rp_put τ 1 (5 + p) (nI (β 6 q))) 1 (5 + q) (nI (β 6 p))) 1 = upd (upd (τ 1) (5 + p) (nI (β 6 q))) (5 + q) (nI (β 6 p)) := by
      unfold rp_put rp_row
      simp
    rw [e]
    exact h2
  refine ⟨rp_put (rp_put τ 1 (5 + p) (nI (β 6 q))) 1 (5 + q) (nI (β 6 p)), ?_, hM2, fr_tr (fr_put rfl) (fr_put rfl), fun i hi => ?_⟩
  · rw [show (5 + nI q : Int32) = nI (5 + q) from nI_add 5 q, show (5 + nI p : Int32) = nI (5 + p) from nI_add 5 p, z_g (z_in (by omega) (by omega)), z_g (z_in (by omega) (by omega)), z_nm, z_g (z_in (by omega) (by omega)), z_nm, z_bd, z_g (z_in (by omega) (by omega)), z_nm, z_g (z_in (by omega) (by omega)), z_cl (by omega), z_cl (by omega)]
    rw [show τ 1 (5 + q) = nI (β 6 q) from hM.2 q hq 6 (by decide) (by decide), show τ 1 (5 + p) = nI (β 6 p) from hM.2 p hp 6 (by decide) (by decide)]
    congr 2
    exact hM2.2 p (by unfold zx; rw [zp0 _ (by decide), zp0 _ (by decide)]; exact hp) 6 (by decide) (by decide)
  · rw [z_put, if_neg (by omega), z_put, if_neg (by omega)]
theorem BI.xch {β : zB} (hI : BI β) {p q : Nat} (hp : p < β 0 0) (hq : q < β 0 0) : BI (zx β p q) ∧ zx β p q 0 0 = β 0 0 := by
  have h0 : zx β p q 0 0 = β 0 0 := by unfold zx; rw [zp0 _ (by decide), zp0 _ (by decide)]
  refine ⟨⟨by rw [h0]; exact hI.1, fun g hg j h1 h6 => ?_, fun x y hx hy e => ?_⟩, h0⟩
  · rw [h0] at hg ⊢
    unfold zx zp
    by_cases a : j = 6 ∧ g = q
    · rw [if_pos a, a.1]
      exact hI.2.1 p hp 6 (by decide) (by decide)
    · rw [if_neg a]
      by_cases c : j = 6 ∧ g = p
      · rw [if_pos c, c.1]
        exact hI.2.1 q hq 6 (by decide) (by decide)
      · rw [if_neg c]
        exact hI.2.1 g hg j h1 h6
  · rw [h0] at hx hy
    unfold zx zp at e
    have i1 := hI.2.2
    by_cases a : x = q
    · by_cases c : y = q
      · omega
      · by_cases d : y = p
        · rw [if_pos ⟨rfl, a⟩, if_neg (fun z => c z.2), if_pos ⟨rfl, d⟩] at e
          have := i1 p q hp hq e
          omega
        · rw [if_pos ⟨rfl, a⟩, if_neg (fun z => c z.2), if_neg (fun z => d z.2)] at e
          have := i1 p y hp hy e
          omega
    · by_cases b : x = p
      · by_cases c : y = q
        · rw [if_neg (fun z => a z.2), if_pos ⟨rfl, b⟩, if_pos ⟨rfl, c⟩] at e
          have := i1 q p hq hp e
          omega
        · by_cases d : y = p
          · omega
          · rw [if_neg (fun z => a z.2), if_pos ⟨rfl, b⟩, if_neg (fun z => c z.2), if_neg (fun z => d z.2)] at e
            have := i1 q y hq hy e
            omega
      · by_cases c : y = q
        · rw [if_neg (fun z => a z.2), if_neg (fun z => b z.2), if_pos ⟨rfl, c⟩] at e
          have := i1 x p hx hp e
          omega
        · by_cases d : y = p
          · rw [if_neg (fun z => a z.2), if_neg (fun z => b z.2), if_neg (fun z => c z.2), if_pos ⟨rfl, d⟩] at e
            have := i1 x q hx hq e
            omega
          · rw [if_neg (fun z => a z.2), if_neg (fun z => b z.2), if_neg (fun z => c z.2), if_neg (fun z => d z.2)] at e
            exact i1 x y hx hy e
