/-! the fewest dances -/
def fd (P : Nat → Bool) : Nat → Nat → Option Nat
  | 0, _ => none
  | r + 1, k => if P k = true then some k else fd P r (k + 1)
def rs : Option Nat → Int32
  | none => -1
  | some k => nI (10 * (k / 7) + k % 7)
theorem fd_skip {P : Nat → Bool} : ∀ (d k e : Nat), k + d ≤ e → (∀ j, k ≤ j → j < k + d → P j = false) → fd P (e - k) k = fd P (e - (k + d)) (k + d) := by
  intro d
  induction d with
  | zero => intro k e _ _; rfl
  | succ d ih =>
    intro k e h hP
    obtain ⟨m, hm⟩ : ∃ m, e - k = m + 1 := ⟨e - k - 1, by omega⟩
    rw [hm]
    show (if P k = true then some k else fd P m (k + 1)) = _
    rw [if_neg (by rw [hP k (by omega) (by omega)]; simp), show m = e - (k + 1) by omega, ih (k + 1) e (by omega) (fun j a b => hP j (by omega) (by omega)), show k + 1 + d = k + (d + 1) by omega]
theorem fd_none {P : Nat → Bool} : ∀ (r k : Nat), (∀ j, k ≤ j → j < k + r → P j = false) → fd P r k = none := by
  intro r
  induction r with
  | zero => intro k _; rfl
  | succ r ih =>
    intro k h
    show (if P k = true then some k else fd P r (k + 1)) = _
    rw [if_neg (by rw [h k (by omega) (by omega)]; simp)]
    exact ih (k + 1) (fun j a b => h j (by omega) (by omega))
theorem fd_some {P : Nat → Bool} : ∀ (r k q : Nat), fd P r k = some q → P q = true ∧ k ≤ q ∧ q < k + r := by
  intro r
  induction r with
  | zero => intro k q h; exact absurd h (by unfold fd; simp)
  | succ r ih =>
    intro k q h
    unfold fd at h
    by_cases c : P k = true
    · rw [if_pos c] at h
      injection h with h
      subst h
      exact ⟨c, by omega, by omega⟩
    · rw [if_neg c] at h
      have := ih (k + 1) q h
      exact ⟨this.1, by omega, by omega⟩
def PH (φ0 φ1 : Int32 → Int32 → Int32 → Int32) (n x pg : Nat) (δ : zB) (k : Nat) : Bool := decide (k / 7 < k % 7) && decide (k % 7 < δ 0 0) && decide (zq (zhn φ1 n (zd φ0 (k / 7) (k % 7) δ)) x ≤ pg)
def S3 (σ σ' : rp_St) : Prop := ∀ k, ¬ ((14 ≤ k ∧ k < 21) ∨ k = 30 ∨ k = 33) → σ' k = σ k
theorem zx_helps {φ0 φ1 : Int32 → Int32 → Int32 → Int32} {δ : zB} {σb : rp_St} {g1 : Nat} (hR : R0 φ0) (hg : g1 = 0 ∨ g1 = 3) (hI : BI δ) (hX : BX δ σb (7 * g1)) (G0 : GX φ0 0 σb) (G1 : GX φ1 1 σb) {x pg n : Nat} (hx : x < δ 0 0) (hp : pg < 7) (hn : n ≤ 60) : ∃ σ', fX6_danceThatHelps g1 (nI x) (nI pg) (nI n) σb = some (rs (fd (PH φ0 φ1 n x pg δ) 49 0), σ') ∧ S3 σb σ' := by
  have h7 := hI.1
  have inn : ∀ (K : Int32 → Int32 → Int32 → Int32 → rp_St → Option (Int32 × rp_St)) (a : Nat), a < δ 0 0 → (∀ σ1 : rp_St, S3 σb σ1 → ∃ σ', K (nI x) (nI pg) (nI n) (nI (a + 1)) σ1 = some (rs (fd (PH φ0 φ1 n x pg δ) (49 - 7 * (a + 1)) (7 * (a + 1))), σ') ∧ S3 σb σ') → ∀ (r b N : Nat) (σ1 : rp_St), b + r = δ 0 0 → a < b → r < N → S3 σb σ1 → ∃ σ', rp_lp (fun _ _ _ _ _ _ => none) (fX6_danceThatHelps_18 g1 K) N (nI x) (nI pg) (nI n) (nI a) (nI b) σ1 = some (rs (fd (PH φ0 φ1 n x pg δ) (49 - (7 * a + b)) (7 * a + b)), σ') ∧ S3 σb σ' := by
    intro K a ha hK r
    induction r with
    | zero =>
      intro b N σ1 hb hab hN s1
      obtain ⟨N, rfl⟩ : ∃ X, N = X + 1 := ⟨N - 1, by omega⟩
      have hX1 : BX δ σ1 (7 * g1) := hX.fr (fun k p q => s1 k (by omega))
      rw [z_lp, fX6_danceThatHelps_18, hX1.1, if_pos ((z_le (by omega) (by omega)).mpr (by omega)), z_nm, show (nI a + 1 : Int32) = nI (a + 1) from nI_1 _]
      have sk := fd_skip (P := PH φ0 φ1 n x pg δ) (7 * (a + 1) - (7 * a + b)) (7 * a + b) 49 (by omega) (fun j p q => by
        unfold PH
        have : ¬ j % 7 < δ 0 0 := by omega
        simp [this])
      rw [show 7 * a + b + (7 * (a + 1) - (7 * a + b)) = 7 * (a + 1) by omega] at sk
      rw [sk]
      exact hK σ1 s1
    | succ r ih =>
      intro b N σ1 hb hab hN s1
      obtain ⟨N, rfl⟩ : ∃ X, N = X + 1 := ⟨N - 1, by omega⟩
      have hX1 : BX δ σ1 (7 * g1) := hX.fr (fun k p q => s1 k (by omega))
      have e2 : fX0_takeFrom 2 g1 σ1 = some (0, zt7 2 g1 σ1) := zt_eq 2 g1 σ1
      have X2 : BX δ (zt7 2 g1 σ1) (7 * 2) := zt7_X (by omega) hI hX1
      have f2 : S3 σb (zt7 2 g1 σ1) := fun k hk => (zt7_fr 2 g1 σ1 k (by omega)).trans (s1 k hk)
      obtain ⟨σ3, e3, X3, f3⟩ := zx_dance (b := 2) (l := 0) hR (by decide) (by decide) (G0.mv (f2 _ (by omega)) (f2 _ (by omega))) hI X2 ha (y := b) (by omega)
      have f3' : S3 σb σ3 := fun k hk => (f3 k (by unfold wX; omega)).trans (f2 k hk)
      have I3 := hI.dance hR a b
      obtain ⟨σ4, e4, X4, f4⟩ := zx_hours (b := 2) (l := 1) (by decide) (by decide) hn (G1.mv (f3' _ (by omega)) (f3' _ (by omega))) I3.1 X3
      have f4' : S3 σb σ4 := fun k hk => (f4 k (by unfold wX; omega)).trans (f3' k hk)
      have I4 := I3.1.hn (φ := φ1) n
      have hp4 := zq_lt I4.1 (g := x) (by rw [I4.2, I3.2]; exact hx)
      have e5 := zx_peg (b := 2) I4.1 X4 hp4.1
      rw [hp4.2] at e5
      have q7 := hp4.1
      rw [I4.2, I3.2] at q7
      have dv : (7 * a + b) / 7 = a := by omega
      have md : (7 * a + b) % 7 = b := by omega
      have PHe : PH φ0 φ1 n x pg δ (7 * a + b) = decide (zq (zhn φ1 n (zd φ0 a b δ)) x ≤ pg) := by
        unfold PH
        rw [dv, md, decide_eq_true (show a < b from hab), decide_eq_true (show b < δ 0 0 by omega)]
        rfl
      obtain ⟨m, hm⟩ : ∃ m, 49 - (7 * a + b) = m + 1 := ⟨49 - (7 * a + b) - 1, by omega⟩
      rw [z_lp, fX6_danceThatHelps_18, hX1.1, if_neg (show ¬ nI (δ 0 0) ≤ nI b by rw [z_le (by omega) (by omega)]; omega), e2, z_bd, e3, z_bd, e4, z_bd, e5, z_bd, hm]
      show ∃ σ', _ = some (rs (if PH φ0 φ1 n x pg δ (7 * a + b) = true then some (7 * a + b) else fd (PH φ0 φ1 n x pg δ) m (7 * a + b + 1)), σ') ∧ S3 σb σ'
      rw [PHe]
      by_cases c : zq (zhn φ1 n (zd φ0 a b δ)) x ≤ pg
      · rw [if_neg (show ¬ nI pg < nI (zq (zhn φ1 n (zd φ0 a b δ)) x) from fun z => by have := (z_lt (by omega) (by omega)).mp z; omega), if_pos (decide_eq_true c)]
        refine ⟨σ4, ?_, f4'⟩
        show _ = some (nI (10 * ((7 * a + b) / 7) + (7 * a + b) % 7), σ4)
        rw [dv, md, show (10 * nI a : Int32) = nI (10 * a) from pk_mul 10 a, nI_add]
      · rw [if_pos (show nI pg < nI (zq (zhn φ1 n (zd φ0 a b δ)) x) from (z_lt (by omega) (by omega)).mpr (by omega)), if_neg (by rw [decide_eq_false c]; simp), z_nm, show (nI b + 1 : Int32) = nI (b + 1) from nI_1 _, show m = 49 - (7 * a + (b + 1)) by omega, show 7 * a + b + 1 = 7 * a + (b + 1) by omega]
        exact ih (b + 1) N σ4 (by omega) (by omega) (by omega) f4'
  have out : ∀ (r a N : Nat) (σ1 : rp_St), a + r = δ 0 0 → r < N → S3 σb σ1 → ∃ σ', rp_lp (fun _ _ _ _ _ => none) (fX6_danceThatHelps_3 g1) N (nI x) (nI pg) (nI n) (nI a) σ1 = some (rs (fd (PH φ0 φ1 n x pg δ) (49 - 7 * a) (7 * a)), σ') ∧ S3 σb σ' := by
    intro r
    induction r with
    | zero =>
      intro a N σ1 ha hN s1
      obtain ⟨N, rfl⟩ : ∃ X, N = X + 1 := ⟨N - 1, by omega⟩
      have hX1 : BX δ σ1 (7 * g1) := hX.fr (fun k p q => s1 k (by omega))
      rw [z_lp, fX6_danceThatHelps_3, hX1.1, if_pos ((z_le (by omega) (by omega)).mpr (by omega)), fd_none (P := PH φ0 φ1 n x pg δ) (49 - 7 * a) (7 * a) (fun j p q => by
        unfold PH
        by_cases c : j / 7 < j % 7
        · have : ¬ j % 7 < δ 0 0 := by omega
          simp [this]
        · simp [c])]
      exact ⟨σ1, rfl, s1⟩
    | succ r ih =>
      intro a N σ1 ha hN s1
      obtain ⟨N, rfl⟩ : ∃ X, N = X + 1 := ⟨N - 1, by omega⟩
      have hX1 : BX δ σ1 (7 * g1) := hX.fr (fun k p q => s1 k (by omega))
      rw [z_lp, fX6_danceThatHelps_3, hX1.1, if_neg (show ¬ nI (δ 0 0) ≤ nI a by rw [z_le (by omega) (by omega)]; omega), z_nm, show (nI a + 1 : Int32) = nI (a + 1) from nI_1 _]
      have sk := fd_skip (P := PH φ0 φ1 n x pg δ) (a + 1) (7 * a) 49 (by omega) (fun j p q => by
        unfold PH
        have : ¬ j / 7 < j % 7 := by omega
        simp [this])
      rw [sk]
      exact inn _ a (by omega) (fun σ1 s1 => ih (a + 1) N σ1 (by omega) (by omega) s1) (δ 0 0 - (a + 1)) (a + 1) 300 σ1 (by omega) (by omega) (by omega) s1
  exact out (δ 0 0) 0 300 σb (by omega) (by omega) (fun _ _ => rfl)
/-- two dances -/
def PQ (φ0 φ1 : Int32 → Int32 → Int32 → Int32) (n x pg : Nat) (β : zB) (k : Nat) : Bool := decide (k / 7 < k % 7) && decide (k % 7 < β 0 0) && (fd (PH φ0 φ1 n x pg (zd φ0 (k / 7) (k % 7) β)) 49 0).isSome
theorem rs_neg (o : Option Nat) (h : ∀ k, o = some k → k < 49) : (rs o < 0) ↔ o.isSome = false := by
  cases o with
  | none => exact ⟨fun _ => rfl, fun _ => by decide +kernel⟩
  | some k =>
    have := h k rfl
    constructor
    · intro z
      exact absurd z (nI_pos (by omega))
    · intro z
      exact absurd z (by simp)
theorem fd_lt {P : Nat → Bool} {k : Nat} (h : fd P 49 0 = some k) : k < 49 := by
  have := (fd_some 49 0 k h).2.2
  omega
theorem zx_two {φ0 φ1 : Int32 → Int32 → Int32 → Int32} {β : zB} {σ τ : rp_St} (W : WD φ0 φ1 β σ τ) {σ0 : rp_St} (s0 : SX σ σ0) {x pg n : Nat} (hx : x < β 0 0) (hp : pg < 7) (hn : n ≤ 60) : ∃ σ', fX6_firstOfTwoThatHelp (nI x) (nI pg) (nI n) σ0 = some (rs (fd (PQ φ0 φ1 n x pg β) 49 0), σ') ∧ SX σ σ' := by
  obtain ⟨⟨hI, hR⟩, ⟨hX, _, _⟩, _, _, _⟩ := id W
  have h7 := hI.1
  have inn : ∀ (K : Int32 → Int32 → Int32 → Int32 → rp_St → Option (Int32 × rp_St)) (a : Nat), a < β 0 0 → (∀ σ1 : rp_St, SX σ σ1 → ∃ σ', K (nI x) (nI pg) (nI n) (nI (a + 1)) σ1 = some (rs (fd (PQ φ0 φ1 n x pg β) (49 - 7 * (a + 1)) (7 * (a + 1))), σ') ∧ SX σ σ') → ∀ (r b N : Nat) (σ1 : rp_St), b + r = β 0 0 → a < b → r < N → SX σ σ1 → ∃ σ', rp_lp (fun _ _ _ _ _ _ => none) (fX6_firstOfTwoThatHelp_24 K) N (nI x) (nI pg) (nI n) (nI a) (nI b) σ1 = some (rs (fd (PQ φ0 φ1 n x pg β) (49 - (7 * a + b)) (7 * a + b)), σ') ∧ SX σ σ' := by
    intro K a ha hK r
    induction r with
    | zero =>
      intro b N σ1 hb hab hN s1
      obtain ⟨N, rfl⟩ : ∃ X, N = X + 1 := ⟨N - 1, by omega⟩
      rw [z_lp, fX6_firstOfTwoThatHelp_24, s1 0 (by omega), hX.1, if_pos ((z_le (by omega) (by omega)).mpr (by omega)), z_nm, show (nI a + 1 : Int32) = nI (a + 1) from nI_1 _]
      have sk := fd_skip (P := PQ φ0 φ1 n x pg β) (7 * (a + 1) - (7 * a + b)) (7 * a + b) 49 (by omega) (fun j p q => by
        unfold PQ
        have : ¬ j % 7 < β 0 0 := by omega
        simp [this])
      rw [show 7 * a + b + (7 * (a + 1) - (7 * a + b)) = 7 * (a + 1) by omega] at sk
      rw [sk]
      exact hK σ1 s1
    | succ r ih =>
      intro b N σ1 hb hab hN s1
      obtain ⟨N, rfl⟩ : ∃ X, N = X + 1 := ⟨N - 1, by omega⟩
      have hX1 : BX β σ1 (7 * 0) := hX.fr (fun k p q => s1 k (by omega))
      have e2 : fX0_takeFrom 3 0 σ1 = some (0, zt7 3 0 σ1) := zt_eq 3 0 σ1
      have X2 : BX β (zt7 3 0 σ1) (7 * 3) := zt7_X (by omega) hI hX1
      have f2 : SX σ (zt7 3 0 σ1) := s1.tr (fun k hk => zt7_fr 3 0 σ1 k (by omega))
      obtain ⟨σ3, e3, X3, f3⟩ := zx_dance (b := 3) (l := 0) hR (by decide) (by decide) (W.gx0 f2) hI X2 ha (y := b) (by omega)
      have f3' : SX σ σ3 := f2.tr (fun k hk => f3 k (by unfold wX; omega))
      have I3 := hI.dance hR a b
      obtain ⟨σ4, e4, s4⟩ := zx_helps (g1 := 3) hR (Or.inr rfl) I3.1 X3 (W.gx0 f3') (W.gx1 f3') (x := x) (pg := pg) (n := n) (by rw [I3.2]; exact hx) hp hn
      have f4' : SX σ σ4 := f3'.tr (fun k hk => s4 k (by omega))
      have dv : (7 * a + b) / 7 = a := by omega
      have md : (7 * a + b) % 7 = b := by omega
      obtain ⟨o, ho⟩ : ∃ o, o = fd (PH φ0 φ1 n x pg (zd φ0 a b β)) 49 0 := ⟨_, rfl⟩
      have PQe : PQ φ0 φ1 n x pg β (7 * a + b) = o.isSome := by
        unfold PQ
        rw [dv, md, decide_eq_true (show a < b from hab), decide_eq_true (show b < β 0 0 by omega), ← ho]
        rfl
      have ng := rs_neg o (fun k hk => fd_lt (by rw [← ho]; exact hk))
      obtain ⟨m, hm⟩ : ∃ m, 49 - (7 * a + b) = m + 1 := ⟨49 - (7 * a + b) - 1, by omega⟩
      rw [z_lp, fX6_firstOfTwoThatHelp_24, s1 0 (by omega), hX.1, if_neg (show ¬ nI (β 0 0) ≤ nI b by rw [z_le (by omega) (by omega)]; omega), e2, z_bd, e3, z_bd, e4, z_bd, hm, ← ho]
      show ∃ σ', _ = some (rs (if PQ φ0 φ1 n x pg β (7 * a + b) = true then some (7 * a + b) else fd (PQ φ0 φ1 n x pg β) m (7 * a + b + 1)), σ') ∧ SX σ σ'
      rw [PQe]
      by_cases c : o.isSome = true
      · rw [if_neg (fun z => by rw [ng.mp z] at c; exact absurd c (by simp)), if_pos c]
        refine ⟨σ4, ?_, f4'⟩
        show _ = some (nI (10 * ((7 * a + b) / 7) + (7 * a + b) % 7), σ4)
        rw [dv, md, show (10 * nI a : Int32) = nI (10 * a) from pk_mul 10 a, nI_add]
      · rw [if_pos (ng.mpr (by cases q : o.isSome with
          | false => rfl
          | true => exact absurd q c)), if_neg c, z_nm, show (nI b + 1 : Int32) = nI (b + 1) from nI_1 _, show m = 49 - (7 * a + (b + 1)) by omega, show 7 * a + b + 1 = 7 * a + (b + 1) by omega]
        exact ih (b + 1) N σ4 (by omega) (by omega) (by omega) f4'
  have out : ∀ (r a N : Nat) (σ1 : rp_St), a + r = β 0 0 → r < N → SX σ σ1 → ∃ σ', rp_lp (fun _ _ _ _ _ => none) fX6_firstOfTwoThatHelp_3 N (nI x) (nI pg) (nI n) (nI a) σ1 = some (rs (fd (PQ φ0 φ1 n x pg β) (49 - 7 * a) (7 * a)), σ') ∧ SX σ σ' := by
    intro r
    induction r with
    | zero =>
      intro a N σ1 ha hN s1
      obtain ⟨N, rfl⟩ : ∃ X, N = X + 1 := ⟨N - 1, by omega⟩
      rw [z_lp, fX6_firstOfTwoThatHelp_3, s1 0 (by omega), hX.1, if_pos ((z_le (by omega) (by omega)).mpr (by omega)), fd_none (P := PQ φ0 φ1 n x pg β) (49 - 7 * a) (7 * a) (fun j p q => by
        unfold PQ
        by_cases c : j / 7 < j % 7
        · have : ¬ j % 7 < β 0 0 := by omega
          simp [this]
        · simp [c])]
      exact ⟨σ1, rfl, s1⟩
    | succ r ih =>
      intro a N σ1 ha hN s1
      obtain ⟨N, rfl⟩ : ∃ X, N = X + 1 := ⟨N - 1, by omega⟩
      rw [z_lp, fX6_firstOfTwoThatHelp_3, s1 0 (by omega), hX.1, if_neg (show ¬ nI (β 0 0) ≤ nI a by rw [z_le (by omega) (by omega)]; omega), z_nm, show (nI a + 1 : Int32) = nI (a + 1) from nI_1 _]
      have sk := fd_skip (P := PQ φ0 φ1 n x pg β) (a + 1) (7 * a) 49 (by omega) (fun j p q => by
        unfold PQ
        have : ¬ j / 7 < j % 7 := by omega
        simp [this])
      rw [sk]
      exact inn _ a (by omega) (fun σ1 s1 => ih (a + 1) N σ1 (by omega) (by omega) s1) (β 0 0 - (a + 1)) (a + 1) 300 σ1 (by omega) (by omega) (by omega) s1
  exact out (β 0 0) 0 300 σ0 (by omega) (by omega) s0
/-! the reference's side -/
def ao : Option Nat → Int32
  | none => -1
  | some k => nI k
def dn (φ : Int32 → Int32 → Int32 → Int32) (o : Option Nat) (γ : zB) : zB := match o with
  | none => γ
  | some k => zd φ (k / 7) (k % 7) γ
def po (n : Nat) : Option Nat → Prop
  | none => True
  | some k => k < 49 ∧ k / 7 < k % 7 ∧ k % 7 < n
theorem tm_dn {φ0 φ1 : Int32 → Int32 → Int32 → Int32} {β : zB} {σ τ : rp_St} (W : WD φ0 φ1 β σ τ) {γ : zB} {τ1 : rp_St} (h : TM τ γ τ1) {o : Option Nat} (hn : po (γ 0 0) o) : ∃ τ2, TM τ (dn φ0 o γ) τ2 ∧ dn φ0 o γ 0 0 = γ 0 0 ∧ ∀ (F : rp_St → Option (Int32 × rp_St)), (if ao o < 0 then F τ1 else rp_bd (fX7_dancing (ao o / 7) (ao o - ao o / 7 * 7) τ1) (fun _ s => F s)) = F τ2 := by
  cases o with
  | none =>
    refine ⟨τ1, h, rfl, fun F => ?_⟩
    rw [if_pos (show ao none < 0 by decide +kernel)]
  | some k =>
    obtain ⟨k1, k2, k3⟩ := hn
    obtain ⟨τ2, e, T⟩ := tm_dance W h (x := k / 7) (y := k % 7) (by omega) k3 (by omega)
    refine ⟨τ2, T, (h.1.dance W.1.2 _ _).2, fun F => ?_⟩
    rw [if_neg (show ¬ ao (some k) < 0 from nI_pos (by omega)), show (ao (some k) / 7 : Int32) = nI (k / 7) from pk_div (a := k) (d := 7) (by omega) (by omega) (by omega)]
    rw [show (ao (some k) - nI (k / 7) * 7 : Int32) = nI (k % 7) by
      have := pk_rem (a := k) (d := 7) (by omega) (by omega) (by omega)
      rw [pk_div (a := k) (d := 7) (by omega) (by omega) (by omega)] at this
      exact this, e, z_bd]
theorem zm_hb {φ0 φ1 : Int32 → Int32 → Int32 → Int32} {β : zB} {σ τ : rp_St} (W : WD φ0 φ1 β σ τ) {τ1 : rp_St} (h : SM τ τ1) {o1 o2 : Option Nat} (h1 : po (β 0 0) o1) (h2 : po (β 0 0) o2) {x pg n : Nat} (hx : x < β 0 0) (hp : pg < 7) (hn : n ≤ 60) : ∃ τ', fX7_hangsBy (nI x) (nI pg) (nI n) (ao o1) (ao o2) τ1 = some (if zq (zhn φ1 n (dn φ0 o2 (dn φ0 o1 β))) x ≤ pg then 1 else 0, τ') ∧ SM τ τ' := by
  have h7 := W.1.1.1
  obtain ⟨τ2, e2, T2⟩ := wm_take W h
  obtain ⟨τ3, T3, n3, F3⟩ := tm_dn W T2 h1
  obtain ⟨τ4, T4, n4, F4⟩ := tm_dn W T3 (o := o2) (by rw [n3]; exact h2)
  obtain ⟨τ5, e5, T5⟩ := tm_hours W T4 hn
  obtain ⟨τ6, e6, S6⟩ := tm_back T5
  have n5 : zhn φ1 n (dn φ0 o2 (dn φ0 o1 β)) 0 0 = β 0 0 := by rw [hn_0 T4.1, n4, n3]
  have q := (zq_lt T5.1 (g := x) (by rw [n5]; exact hx)).1
  rw [n5] at q
  refine ⟨τ6, ?_, S6⟩
  unfold fX7_hangsBy
  rw [e2, z_bd, F3 (fX7_hangsBy_30 (nI x) (nI pg) (nI n) (ao o2))]
  unfold fX7_hangsBy_30
  rw [F4 (fX7_hangsBy_49 (nI x) (nI pg) (nI n))]
  unfold fX7_hangsBy_49 fX7_hangsBy_68
  rw [e5, z_bd, tm_peg T5 (by rw [n5]; exact hx), z_bd, e6, z_bd, z_bd]
  by_cases c : zq (zhn φ1 n (dn φ0 o2 (dn φ0 o1 β))) x ≤ pg
  · rw [if_neg (show ¬ nI pg < nI (zq (zhn φ1 n (dn φ0 o2 (dn φ0 o1 β))) x) from fun z => by have := (z_lt (by omega) (by omega)).mp z; omega), if_pos c]
    rfl
  · rw [if_pos (show nI pg < nI (zq (zhn φ1 n (dn φ0 o2 (dn φ0 o1 β))) x) from (z_lt (by omega) (by omega)).mpr (by omega)), if_neg c]
    rfl
theorem zm_pair {φ0 φ1 : Int32 → Int32 → Int32 → Int32} {β : zB} {σ τ : rp_St} (W : WD φ0 φ1 β σ τ) {τ1 : rp_St} (h : SM τ τ1) {k : Nat} (hk : k < 1000) : fX7_isPair (nI k) τ1 = some (if k / 7 < k % 7 ∧ k % 7 < β 0 0 then 1 else 0, τ1) := by
  have h7 := W.1.1.1
  have hM : BM β (τ1 1) := W.2.2.1.fr2 h7 (fun i hi => h.2 i (by omega))
  unfold fX7_isPair
  rw [show (nI k - nI k / 7 * 7 : Int32) = nI (k % 7) from pk_rem (a := k) (d := 7) (by omega) (by omega) (by omega), show (nI k / 7 : Int32) = nI (k / 7) from pk_div (a := k) (d := 7) (by omega) (by omega) (by omega), zm_gst W.1.1 hM (by omega), z_bd]
  by_cases c1 : k / 7 < k % 7
  · rw [if_neg (show ¬ nI (k % 7) ≤ nI (k / 7) from fun z => by have := (z_le (by omega) (by omega)).mp z; omega)]
    by_cases c2 : k % 7 < β 0 0
    · rw [if_pos c2, if_neg (by decide), if_pos ⟨c1, c2⟩]
    · rw [if_neg c2, if_pos rfl, if_neg (fun z => c2 z.2)]
  · rw [if_pos (show nI (k % 7) ≤ nI (k / 7) from (z_le (by omega) (by omega)).mpr (by omega)), if_neg (fun z => c1 z.1)]
