/-! PURE: what the methods' values are -/
theorem z_bd {α β : Type} (r : α) (τ : rp_St) (k : α → rp_St → Option β) : rp_bd (some (r, τ)) k = k r τ := rfl
theorem z_nm {α β : Type} (v : α) (k : α → Option β) : rp_nm v k = k v := rfl
theorem z_gu {β : Type} (e : Option β) : rp_gu true e = e := rfl
theorem z_g {β : Type} {b : Bool} (h : b = true) (e : Option β) : rp_gu b e = e := by rw [h]; rfl
theorem z_lp {X : Type} (z : X) (f : X → X) (n : Nat) : rp_lp z f (n + 1) = f (rp_lp z f n) := rfl
theorem z_in {k n : Nat} (h : k < n) (hn : n ≤ 1000) : rp_in (nI k) n = true := by
  have h1 : ¬ nI k < 0 := nI_pos (by omega)
  have h2 : (nI k).toNatClampNeg = k := nI_clamp (by omega)
  simp [rp_in, h1, h2, h]
theorem z_cl {k : Nat} (h : k < 1000000) : (nI k).toNatClampNeg = k := nI_clamp (by omega)
theorem z_le {a b : Nat} (ha : a < 1000000) (hb : b < 1000000) : nI a ≤ nI b ↔ a ≤ b := nI_leI (by omega) (by omega)
theorem z_lt {a b : Nat} (ha : a < 1000000) (hb : b < 1000000) : nI a < nI b ↔ a < b := nI_ltI (by omega) (by omega)
theorem z_eq {a b : Nat} (ha : a < 1000000) (hb : b < 1000000) : nI a = nI b ↔ a = b := nI_eq (by omega) (by omega)
theorem z_b0 (h : Prop) [Decidable h] {α : Type} (c : h) (a b : α) : (if h then a else b) = a := if_pos c
/-- a cell's row after a write -/
theorem z_put (σ : rp_St) (k i : Nat) (v : Int32) (j i' : Nat) : rp_put σ k i v j i' = if j = k ∧ i' = i then v else σ j i' := by
  unfold rp_put rp_row
  by_cases h1 : j = k
  · subst h1
    by_cases h2 : i' = i
    · subst h2
      simp [upd]
    · simp [upd, h2]
  · simp [h1]
theorem z_putk (σ : rp_St) (k i : Nat) (v : Int32) {j : Nat} (h : j ≠ k) : rp_put σ k i v j = σ j := by
  unfold rp_put rp_row
  simp [h]
theorem z_row (σ : rp_St) (k : Nat) (f : Nat → Int32) (j : Nat) : rp_row σ k f j = if j = k then f else σ j := rfl
/-- nothing but the cells P has changed -/
def fr (P : Nat → Prop) (σ σ' : rp_St) : Prop := ∀ k, ¬ P k → σ' k = σ k
theorem fr_rf {P : Nat → Prop} {σ : rp_St} : fr P σ σ := fun _ _ => rfl
theorem fr_tr {P : Nat → Prop} {σ σ' σ'' : rp_St} (h : fr P σ σ') (h2 : fr P σ' σ'') : fr P σ σ'' := fun k hk => (h2 k hk).trans (h k hk)
theorem fr_mo {P Q : Nat → Prop} {σ σ' : rp_St} (h : fr P σ σ') (hq : ∀ k, P k → Q k) : fr Q σ σ' := fun k hk => h k (fun z => hk (hq k z))
theorem fr_put {P : Nat → Prop} {σ : rp_St} {k i : Nat} {v : Int32} (h : P k) : fr P σ (rp_put σ k i v) := fun j hj => z_putk σ k i v (fun e => hj (e ▸ h))
/-! the guests, as numbers: 0 0: how many; 1 kind, 2 m, 3 rue, 4 danced, 5 idle, by guest; 6 the guest by peg -/
abbrev zB : Type := Nat → Nat → Nat
def zp (β : zB) (j g v : Nat) : zB := fun j' g' => if j' = j ∧ g' = g then v else β j' g'
def BX (β : zB) (σ : rp_St) (c : Nat) : Prop := σ c 0 = nI (β 0 0) ∧ ∀ g, g < β 0 0 → ∀ j, 1 ≤ j → j ≤ 6 → σ (c + j) g = nI (β j g)
/-- where the reference keeps them -/
def zi (j g : Nat) : Nat := if j = 6 then 5 + g else 11 + j + 5 * g
def BM (β : zB) (ν : Nat → Int32) : Prop := ν 1 = nI (β 0 0) ∧ ∀ g, g < β 0 0 → ∀ j, 1 ≤ j → j ≤ 6 → ν (zi j g) = nI (β j g)
def zm (j : Nat) (n : Nat) : Nat := match j with
  | 1 => 6 | 2 => 9 | 3 => 999 | 4 => 999 | 5 => 1 | _ => n - 1
def BI (β : zB) : Prop := β 0 0 ≤ 7 ∧ (∀ g, g < β 0 0 → ∀ j, 1 ≤ j → j ≤ 6 → β j g ≤ zm j (β 0 0)) ∧ ∀ p q, p < β 0 0 → q < β 0 0 → β 6 p = β 6 q → p = q
theorem BI.small {β : zB} (h : BI β) {g j : Nat} (hg : g < β 0 0) (h1 : 1 ≤ j) (h6 : j ≤ 6) : β j g < 1000 := by
  have h2 := h.2.1 g hg j h1 h6
  have h3 := h.1
  have h4 : zm j (β 0 0) ≤ 999 := by
    match j, h1, h6 with
    | 1, _, _ => show 6 ≤ 999; omega
    | 2, _, _ => show 9 ≤ 999; omega
    | 3, _, _ => show 999 ≤ 999; omega
    | 4, _, _ => show 999 ≤ 999; omega
    | 5, _, _ => show 1 ≤ 999; omega
    | 6, _, _ => show β 0 0 - 1 ≤ 999; omega
  omega
theorem BI.ord {β : zB} (h : BI β) {p : Nat} (hp : p < β 0 0) : β 6 p < β 0 0 := by
  have h2 : β 6 p ≤ β 0 0 - 1 := h.2.1 p hp 6 (by decide) (by decide)
  omega
theorem BX.cg {β γ : zB} {σ : rp_St} {c : Nat} (h : BX β σ c) (h0 : γ 0 0 = β 0 0) (hj : ∀ g, g < β 0 0 → ∀ j, 1 ≤ j → j ≤ 6 → γ j g = β j g) : BX γ σ c := ⟨by rw [h0]; exact h.1, fun g hg j h1 h6 => by rw [h0] at hg; rw [hj g hg j h1 h6]; exact h.2 g hg j h1 h6⟩
theorem BM.cg {β γ : zB} {ν : Nat → Int32} (h : BM β ν) (h0 : γ 0 0 = β 0 0) (hj : ∀ g, g < β 0 0 → ∀ j, 1 ≤ j → j ≤ 6 → γ j g = β j g) : BM γ ν := ⟨by rw [h0]; exact h.1, fun g hg j h1 h6 => by rw [h0] at hg; rw [hj g hg j h1 h6]; exact h.2 g hg j h1 h6⟩
theorem BX.fr {β : zB} {σ σ' : rp_St} {c : Nat} (h : BX β σ c) (e : ∀ k, c ≤ k → k ≤ c + 6 → σ' k = σ k) : BX β σ' c := ⟨by rw [e c (by omega) (by omega)]; exact h.1, fun g hg j h1 h6 => by rw [e (c + j) (by omega) (by omega)]; exact h.2 g hg j h1 h6⟩
theorem BM.fr {β : zB} {ν ν' : Nat → Int32} (h : BM β ν) (hn : β 0 0 ≤ 7) (e : ∀ i, 1 ≤ i → i < 47 → ν' i = ν i) : BM β ν' := ⟨by rw [e 1 (by omega) (by omega)]; exact h.1, fun g hg j h1 h6 => by
  rw [e (zi j g) (by unfold zi; split <;> omega) (by unfold zi; split <;> omega)]; exact h.2 g hg j h1 h6⟩
theorem zp0 (β : zB) {j : Nat} (h : 1 ≤ j) (g v : Nat) : zp β j g v 0 0 = β 0 0 := by
  unfold zp
  rw [if_neg (by omega)]
theorem BX.put {β : zB} {σ : rp_St} {c j g v : Nat} (h : BX β σ c) (h1 : 1 ≤ j) (h6 : j ≤ 6) : BX (zp β j g v) (rp_put σ (c + j) g (nI v)) c := by
  refine ⟨?_, fun g' hg j' h1' h6' => ?_⟩
  · rw [zp0 β h1, z_put, if_neg (by omega)]
    exact h.1
  · rw [zp0 β h1] at hg
    rw [z_put]
    unfold zp
    by_cases q : j' = j ∧ g' = g
    · rw [if_pos q, if_pos ⟨by omega, q.2⟩]
    · rw [if_neg q, if_neg (fun z => q ⟨by omega, z.2⟩)]
      exact h.2 g' hg j' h1' h6'
theorem BM.put {β : zB} {ν : Nat → Int32} {j g v i : Nat} (h : BM β ν) (hn : β 0 0 ≤ 7) (hg : g < β 0 0) (h1 : 1 ≤ j) (h6 : j ≤ 6) (hi : i = zi j g) : BM (zp β j g v) (upd ν i (nI v)) := by
  refine ⟨?_, fun g' hg' j' h1' h6' => ?_⟩
  · rw [zp0 β h1, pk_un (by rw [hi]; unfold zi; split <;> omega)]
    exact h.1
  · rw [zp0 β h1] at hg'
    unfold zp
    by_cases q : j' = j ∧ g' = g
    · rw [if_pos q, q.1, q.2, hi, pk_us]
    · rw [if_neg q, pk_un (by rw [hi]; unfold zi; split <;> split <;> omega)]
      exact h.2 g' hg' j' h1' h6'
/-- where a guest hangs -/
theorem z_on {β : zB} (h : BI β) {g : Nat} (hg : g < β 0 0) : ∃ p, p < β 0 0 ∧ β 6 p = g := by
  have key : ∀ (n : Nat) (f : Nat → Nat), n ≤ 7 → (∀ i, i < n → f i < n) → (∀ i j, i < n → j < n → f i = f j → i = j) → ∀ y, y < n → ∃ i, i < n ∧ f i = y := by
    intro n
    induction n with
    | zero => intro f _ _ _ y hy; omega
    | succ n ih =>
      intro f hn h1 h2 y hy
      by_cases hy2 : f n = y
      · exact ⟨n, by omega, hy2⟩
      -- put what hangs last in the place of n
      have ih2 := ih (fun i => if f i = n then f n else f i) (by omega) (by
        intro i hi
        show (if f i = n then f n else f i) < n
        have a1 := h1 i (by omega)
        have a2 := h1 n (by omega)
        by_cases q : f i = n
        · rw [if_pos q]
          have : f n ≠ n := fun z => by
            have := h2 i n (by omega) (by omega) (by omega)
            omega
          omega
        · rw [if_neg q]
          omega) (by
        intro i j hi hj he
        have he : (if f i = n then f n else f i) = (if f j = n then f n else f j) := he
        by_cases q1 : f i = n
        · by_cases q2 : f j = n
          · exact h2 i j (by omega) (by omega) (by omega)
          · rw [if_pos q1, if_neg q2] at he
            have := h2 n j (by omega) (by omega) he
            omega
        · by_cases q2 : f j = n
          · rw [if_neg q1, if_pos q2] at he
            have := h2 i n (by omega) (by omega) he
            omega
          · rw [if_neg q1, if_neg q2] at he
            exact h2 i j (by omega) (by omega) he)
      by_cases hyn : y = n
      · -- y = n is hit by some i < n, as f n isn't
        by_cases hex : ∃ i, i < n ∧ f i = n
        · obtain ⟨i, hi, e⟩ := hex
          exact ⟨i, by omega, by omega⟩
        · exfalso
          -- f maps 0..n into 0..n-1: f n < n is hit by some i < n of ih2
          have hfn : f n < n := by
            have := h1 n (by omega)
            omega
          obtain ⟨i, hi, e⟩ := ih2 (f n) hfn
          have e : (if f i = n then f n else f i) = f n := e
          rw [if_neg (fun z => hex ⟨i, hi, z⟩)] at e
          have := h2 i n (by omega) (by omega) e
          omega
      · obtain ⟨i, hi, e⟩ := ih2 y (by omega)
        have e : (if f i = n then f n else f i) = y := e
        by_cases q : f i = n
        · rw [if_pos q] at e
          exact absurd e hy2
        · rw [if_neg q] at e
          exact ⟨i, by omega, e⟩
  exact key (β 0 0) (β 6) h.1 (fun i hi => h.ord hi) (fun i j hi hj => h.2.2 i j hi hj) g hg
theorem zc0 : rp_in 0 221 = true := by decide +kernel
theorem zc1 : rp_in 1 221 = true := by decide +kernel
theorem zc2 : rp_in 2 221 = true := by decide +kernel
theorem zc3 : rp_in 3 221 = true := by decide +kernel
theorem zc4 : rp_in 4 221 = true := by decide +kernel
theorem zl0 : (0 : Int32).toNatClampNeg = 0 := by decide +kernel
theorem zl1 : (1 : Int32).toNatClampNeg = 1 := by decide +kernel
theorem zl2 : (2 : Int32).toNatClampNeg = 2 := by decide +kernel
theorem zl3 : (3 : Int32).toNatClampNeg = 3 := by decide +kernel
theorem zl4 : (4 : Int32).toNatClampNeg = 4 := by decide +kernel
