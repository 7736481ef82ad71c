/-- which peg: the reverse of the order -/
def zqr (O : Nat → Nat) (g : Nat) : Nat → Nat
  | 0 => 0
  | k + 1 => if O k = g then k else zqr O g k
def zq (β : zB) (g : Nat) : Nat := zqr (β 6) g (β 0 0)
theorem zqr_eq {O : Nat → Nat} {g p : Nat} : ∀ m, p < m → (∀ k, k < m → O k = g → k = p) → O p = g → zqr O g m = p := by
  intro m
  induction m with
  | zero => intro h; omega
  | succ m ih =>
    intro h hu hp
    unfold zqr
    by_cases q : O m = g
    · rw [if_pos q]
      exact hu m (by omega) q
    · rw [if_neg q]
      have : p ≠ m := fun z => q (z ▸ hp)
      exact ih (by omega) (fun k hk => hu k (by omega)) hp
theorem zq_eq {β : zB} (hI : BI β) {p : Nat} (hp : p < β 0 0) : zq β (β 6 p) = p := zqr_eq _ hp (fun k hk e => hI.2.2 k p hk hp e) rfl
theorem zq_lt {β : zB} (hI : BI β) {g : Nat} (hg : g < β 0 0) : zq β g < β 0 0 ∧ β 6 (zq β g) = g := by
  obtain ⟨p, hp, rfl⟩ := z_on hI hg
  rw [zq_eq hI hp]
  exact ⟨hp, rfl⟩
/-- held between 0 and 999 -/
def zhv (v : Int32) : Int32 := if 0 < (if 999 < v then 999 else v) then (if 999 < v then 999 else v) else 0
theorem zhv_x (v : Int32) (σ : rp_St) : fX6_heldRue v σ = some (zhv v, σ) := rfl
theorem zhv_m (v : Int32) (σ : rp_St) : fX7_held v 0 999 σ = some (zhv v, σ) := by
  have e : (if v < 999 then v else (999 : Int32)) = (if 999 < v then (999 : Int32) else v) := by
    by_cases h : v < 999
    · have h2 : ¬ (999 : Int32) < v := by rw [Int32.lt_iff_toInt_lt] at h ⊢; omega
      rw [if_pos h, if_neg h2]
    · by_cases h2 : (999 : Int32) < v
      · rw [if_neg h, if_pos h2]
      · rw [if_neg h, if_neg h2]
        rw [Int32.lt_iff_toInt_lt] at h h2
        exact Int32.toInt_inj.mp (by omega)
  unfold fX7_held
  rw [e]
  rfl
theorem zhv_le (v : Int32) : zhv v = nI (zhv v).toNatClampNeg ∧ (zhv v).toNatClampNeg ≤ 999 := by
  have key : 0 ≤ (zhv v).toInt ∧ (zhv v).toInt ≤ 999 := by
    unfold zhv
    by_cases h : (999 : Int32) < v
    · rw [if_pos h]
      decide +kernel
    · rw [if_neg h]
      by_cases h2 : (0 : Int32) < v
      · rw [if_pos h2]
        rw [Int32.lt_iff_toInt_lt] at h h2
        have e1 : (999 : Int32).toInt = 999 := by decide +kernel
        have e2 : (0 : Int32).toInt = 0 := by decide +kernel
        omega
      · rw [if_neg h2]
        decide +kernel
  obtain ⟨j, hj, e⟩ := nI_of (x := zhv v) (by
    rw [Int32.lt_iff_toInt_lt]
    have e2 : (0 : Int32).toInt = 0 := by decide +kernel
    omega)
  have ej : (zhv v).toInt = j := by rw [e]; exact nI_toInt hj
  rw [e, nI_clamp hj]
  exact ⟨rfl, by omega⟩
theorem zhv_id {r : Nat} (h : r ≤ 999) : zhv (nI r) = nI r := by
  unfold zhv
  have e1 : ¬ ((999 : Int32) < nI r) := fun z => by have := (z_lt (a := 999) (by omega) (by omega)).mp z; omega
  rw [if_neg e1]
  by_cases h0 : 0 < r
  · rw [if_pos (show (0 : Int32) < nI r from (z_lt (a := 0) (by omega) (by omega)).mpr h0)]
  · have : r = 0 := by omega
    subst this
    decide +kernel
def zc (r : Nat) (d : Int32) : Nat := (zhv (nI r + d)).toNatClampNeg
/-- an hour's growth -/
def zG (β : zB) : zB := fun j g => if j = 3 then (if β 5 g = 0 then β 3 g else zc (β 3 g) (zgr (β 0 0) (β 1 g) (β 2 g) (β 4 g) (zq β g))) else if j = 5 then 1 else β j g
theorem zG0 (β : zB) : zG β 0 0 = β 0 0 := rfl
/-- growth of some guests only -/
def zGk (β : zB) (P : Nat → Bool) : zB := fun j g => if j ≠ 0 ∧ P g = true then zG β j g else β j g
theorem zGk0 (β : zB) (P : Nat → Bool) : zGk β P 0 0 = β 0 0 := by unfold zGk; rw [if_neg (by omega)]
theorem BI.G {β : zB} (hI : BI β) (P : Nat → Bool) : BI (zGk β P) := by
  have h0 := zGk0 β P
  refine ⟨by rw [h0]; exact hI.1, fun g hg j h1 h6 => ?_, fun p q hp hq e => ?_⟩
  · rw [h0] at hg ⊢
    have hb := hI.2.1 g hg j h1 h6
    unfold zGk
    split
    · unfold zG
      split
      · rename_i e
        subst e
        split
        · exact hb
        · exact (zhv_le _).2
      · split
        · rename_i e
          subst e
          exact Nat.le_refl 1
        · exact hb
    · exact hb
  · rw [h0] at hp hq
    have e6 : ∀ x, zGk β P 6 x = β 6 x := by
      intro x
      unfold zGk
      split
      · rfl
      · rfl
    rw [e6, e6] at e
    exact hI.2.2 p q hp hq e
theorem zGk6 (β : zB) (P : Nat → Bool) (x : Nat) : zGk β P 6 x = β 6 x := by
  unfold zGk
  split <;> rfl
theorem zGk_no {β : zB} {P : Nat → Bool} {j g : Nat} (h : P g = false) : zGk β P j g = β j g := by
  unfold zGk
  rw [if_neg (by rw [h]; simp)]
/-- one guest more -/
theorem zGk_step {β : zB} (P Q : Nat → Bool) (x : Nat) (hx : P x = false) (hQ : ∀ g, g < β 0 0 → Q g = (P g || decide (g = x))) {g j : Nat} (hg : g < β 0 0) (h1 : 1 ≤ j) : zGk β Q j g = zp (zp (zGk β P) 3 x (zG β 3 x)) 5 x 1 j g := by
  unfold zp
  by_cases c5 : j = 5 ∧ g = x
  · rw [if_pos c5]
    have q : Q g = true := by rw [hQ g hg, c5.2]; simp
    unfold zGk
    rw [if_pos ⟨by omega, q⟩, c5.1]
    rfl
  · rw [if_neg c5]
    by_cases c3 : j = 3 ∧ g = x
    · rw [if_pos c3]
      have q : Q g = true := by rw [hQ g hg, c3.2]; simp
      unfold zGk
      rw [if_pos ⟨by omega, q⟩, c3.1, c3.2]
    · rw [if_neg c3]
      by_cases gx : g = x
      · have q : Q g = true := by rw [hQ g hg, gx]; simp
        rw [gx] at q ⊢
        rw [zGk_no hx]
        unfold zGk
        rw [if_pos ⟨by omega, q⟩]
        unfold zG
        rw [if_neg (fun z => c3 ⟨z, gx⟩), if_neg (fun z => c5 ⟨z, gx⟩)]
      · have q : Q g = P g := by rw [hQ g hg]; simp [gx]
        unfold zGk
        rw [q]
theorem z_put2 (σ : rp_St) (c g : Nat) (v : Int32) : rp_put σ c g v = rp_put σ c g v := rfl
/-- growRue: the class goes by pegs -/
theorem zx_growRue {β : zB} {σ : rp_St} {b l : Nat} (hI : BI β) (hX : BX β σ (7 * b)) : ∃ σ', fX0_growRue b σ = some (0, σ') ∧ BX (zG β) σ' (7 * b) ∧ fr (wX b l) σ σ' := by
  have h7 := hI.1
  have key : ∀ (r k N : Nat) (σ1 : rp_St), k + r = β 0 0 → r < N → BX (zGk β (fun g => decide (zq β g < k))) σ1 (7 * b) → ∃ σ', rp_lp (fun _ _ => none) (fX0_growRue_2 b) N (nI k) σ1 = some (0, σ') ∧ BX (zG β) σ' (7 * b) ∧ fr (wX b l) σ1 σ' := by
    intro r
    induction r with
    | zero =>
      intro k N σ1 hk hN hX1
      obtain ⟨N, rfl⟩ : ∃ M, N = M + 1 := ⟨N - 1, by omega⟩
      have hk : k = β 0 0 := by omega
      subst hk
      rw [z_lp]
      rw [fX0_growRue_2]
      refine ⟨σ1, ?_, hX1.cg (by rw [zGk0]; rfl) ?_, fr_rf⟩
      · rw [hX1.1, zGk0, if_pos ((z_le (by omega) (by omega)).mpr (Nat.le_refl _))]
      · intro g hg j h1 h6
        rw [zGk0] at hg
        unfold zGk
        rw [if_pos ⟨by omega, decide_eq_true (zq_lt hI hg).1⟩]
    | succ r ih =>
      intro k N σ1 hk hN hX1
      obtain ⟨N, rfl⟩ : ∃ M, N = M + 1 := ⟨N - 1, by omega⟩
      have hkn : k < β 0 0 := by omega
      rw [z_lp]
      have hI1 := hI.G (fun g => decide (zq β g < k))
      have n1 := zGk0 β (fun g => decide (zq β g < k))
      obtain ⟨x, ex⟩ : ∃ x, x = β 6 k := ⟨_, rfl⟩
      have hx : x < β 0 0 := by rw [ex]; exact hI.ord hkn
      have hPx : (fun g => decide (zq β g < k)) x = false := by show decide (zq β x < k) = false; rw [ex, zq_eq hI hkn]; simp
      have b5 : β 5 x ≤ 1 := hI.2.1 x hx 5 (by decide) (by decide)
      have b3 : β 3 x ≤ 999 := hI.2.1 x hx 3 (by decide) (by decide)
      have hstep : ∀ g, g < β 0 0 → (fun g => decide (zq β g < k + 1)) g = ((fun g => decide (zq β g < k)) g || decide (g = x)) := by
        intro g hg
        show decide (zq β g < k + 1) = (decide (zq β g < k) || decide (g = x))
        have a := zq_lt hI hg
        by_cases q : g = x
        · rw [q, ex, zq_eq hI hkn]
          simp
        · have : zq β g ≠ k := fun z => q (by rw [← a.2, z, ex])
          simp [q]
          omega
      have hno : ∀ j, zGk β (fun g => decide (zq β g < k)) j x = β j x := fun j => zGk_no hPx
      -- the two writes
      have go : ∀ σ2 : rp_St, BX (zp (zp (zGk β (fun g => decide (zq β g < k))) 3 x (zG β 3 x)) 5 x 1) σ2 (7 * b) → fr (wX b l) σ1 σ2 → ∃ σ', rp_lp (fun _ _ => none) (fX0_growRue_2 b) N (nI (k + 1)) σ2 = some (0, σ') ∧ BX (zG β) σ' (7 * b) ∧ fr (wX b l) σ1 σ' := by
        intro σ2 hX2 f2
        obtain ⟨σ', e1, e2, e3⟩ := ih (k + 1) N σ2 (by omega) (by omega) (hX2.cg (by rw [zGk0, zp0 _ (by decide), zp0 _ (by decide), zGk0]) (fun g hg j h1 h6 => by
          rw [zp0 _ (by decide), zp0 _ (by decide), zGk0] at hg
          exact zGk_step _ _ x hPx hstep hg h1))
        exact ⟨σ', e1, e2, fr_tr f2 e3⟩
      rw [fX0_growRue_2]
      rw [hX1.1, n1, if_neg (by rw [z_le (by omega) (by omega)]; omega), z_g (z_in (by omega) (by omega)), z_nm, z_cl (by omega), hX1.2 k (by rw [n1]; exact hkn) 6 (by decide) (by decide), zGk6, ← ex, z_g (z_in (by omega) (by omega)), z_cl (by omega), hX1.2 x (by rw [n1]; exact hx) 5 (by decide) (by decide), hno]
      by_cases i0 : β 5 x = 0
      · rw [i0, if_pos (show nI 0 = (0 : Int32) from rfl), fX0_growRue_47]
        rw [z_g (z_in (by omega) (by omega)), z_nm, z_nm, z_cl (by omega), show (nI k + 1 : Int32) = nI (k + 1) from nI_1 k]
        refine go _ ?_ (fr_put (Or.inl (by omega)))
        have h3 : zG β 3 x = β 3 x := by unfold zG; rw [if_pos rfl, if_pos i0]
        have hX2 := hX1.put (j := 5) (g := x) (v := 1) (by decide) (by decide)
        refine hX2.cg ?_ ?_
        · rw [zp0 _ (by decide), zp0 _ (by decide), zp0 _ (by decide)]
        · intro g hg j h1 h6
          unfold zp
          by_cases c5 : j = 5 ∧ g = x
          · rw [if_pos c5, if_pos c5]
          · rw [if_neg c5, if_neg c5]
            by_cases c3 : j = 3 ∧ g = x
            · rw [if_pos c3, h3, c3.1, c3.2, zGk_no hPx]
            · rw [if_neg c3]
      · have i1 : β 5 x = 1 := by omega
        rw [if_neg (by rw [show (0 : Int32) = nI 0 from rfl, z_eq (by omega) (by omega)]; omega), z_g (z_in (by omega) (by omega)), zx_grow hI1 hX1 (p := k) (by rw [n1]; exact hkn), z_bd, n1, zGk6, ← ex, hno, hno, hno, hX1.2 x (by rw [n1]; exact hx) 3 (by decide) (by decide), hno, zhv_x, z_bd, z_g (z_in (by omega) (by omega)), z_nm]
        rw [fX0_growRue_47]
        rw [z_g (z_in (by omega) (by omega)), z_nm, z_nm, z_cl (by omega), show (nI k + 1 : Int32) = nI (k + 1) from nI_1 k]
        have h3 : zhv (nI (β 3 x) + zgr (β 0 0) (β 1 x) (β 2 x) (β 4 x) k) = nI (zG β 3 x) := by
          unfold zG
          rw [if_pos rfl, if_neg i0, show zq β x = k by rw [ex, zq_eq hI hkn]]
          exact (zhv_le _).1
        rw [h3]
        exact go _ ((hX1.put (by decide) (by decide)).put (by decide) (by decide)) (fr_tr (fr_put (Or.inl (by omega))) (fr_put (Or.inl (by omega))))
  exact key (β 0 0) 0 300 σ (by omega) (by omega) (hX.cg (by rw [zGk0]) (fun g hg j h1 h6 => zGk_no (by show decide (zq β g < 0) = false; simp)))
