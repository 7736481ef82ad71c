/-! the texts -/
def lv (c : Int32) : Int32 := if c = 37 then 4 else if c = 38 then 1 else if c = 42 then 4 else if c = 43 then 3 else if c = 45 then 3 else if c = 47 then 4 else if c = 60 then 2 else if c = 61 then 2 else if c = 62 then 2 else if c = 124 then 0 else -1
theorem zx_lv (c : Int32) (σ : rp_St) : fX3_levelOf c σ = some (lv c, σ) := by
  unfold fX3_levelOf lv
  by_cases c37 : c = 37
  · rw [if_pos c37, if_pos c37]
  rw [if_neg c37, if_neg c37]
  by_cases c38 : c = 38
  · rw [if_pos c38, if_pos c38]
  rw [if_neg c38, if_neg c38]
  by_cases c42 : c = 42
  · rw [if_pos c42, if_pos c42]
  rw [if_neg c42, if_neg c42]
  by_cases c43 : c = 43
  · rw [if_pos c43, if_pos c43]
  rw [if_neg c43, if_neg c43]
  by_cases c45 : c = 45
  · rw [if_pos c45, if_pos c45]
  rw [if_neg c45, if_neg c45]
  by_cases c47 : c = 47
  · rw [if_pos c47, if_pos c47]
  rw [if_neg c47, if_neg c47]
  by_cases c60 : c = 60
  · rw [if_pos c60, if_pos c60]
  rw [if_neg c60, if_neg c60]
  by_cases c61 : c = 61
  · rw [if_pos c61, if_pos c61]
  rw [if_neg c61, if_neg c61]
  by_cases c62 : c = 62
  · rw [if_pos c62, if_pos c62]
  rw [if_neg c62, if_neg c62]
  by_cases c124 : c = 124
  · rw [if_pos c124, if_pos c124]
  rw [if_neg c124, if_neg c124]
theorem lv0 (c : Int32) : lv c = 0 ↔ c = 124 := by
  constructor
  · intro h
    unfold lv at h
    by_cases c37 : c = 37
    · rw [if_pos c37] at h
      exact absurd h (by decide +kernel)
    rw [if_neg c37] at h
    by_cases c38 : c = 38
    · rw [if_pos c38] at h
      exact absurd h (by decide +kernel)
    rw [if_neg c38] at h
    by_cases c42 : c = 42
    · rw [if_pos c42] at h
      exact absurd h (by decide +kernel)
    rw [if_neg c42] at h
    by_cases c43 : c = 43
    · rw [if_pos c43] at h
      exact absurd h (by decide +kernel)
    rw [if_neg c43] at h
    by_cases c45 : c = 45
    · rw [if_pos c45] at h
      exact absurd h (by decide +kernel)
    rw [if_neg c45] at h
    by_cases c47 : c = 47
    · rw [if_pos c47] at h
      exact absurd h (by decide +kernel)
    rw [if_neg c47] at h
    by_cases c60 : c = 60
    · rw [if_pos c60] at h
      exact absurd h (by decide +kernel)
    rw [if_neg c60] at h
    by_cases c61 : c = 61
    · rw [if_pos c61] at h
      exact absurd h (by decide +kernel)
    rw [if_neg c61] at h
    by_cases c62 : c = 62
    · rw [if_pos c62] at h
      exact absurd h (by decide +kernel)
    rw [if_neg c62] at h
    by_cases c124 : c = 124
    · exact c124
    rw [if_neg c124] at h
    exact absurd h (by decide +kernel)
  · intro h
    rw [h]
    decide +kernel
theorem lv1 (c : Int32) : lv c = 1 ↔ c = 38 := by
  constructor
  · intro h
    unfold lv at h
    by_cases c37 : c = 37
    · rw [if_pos c37] at h
      exact absurd h (by decide +kernel)
    rw [if_neg c37] at h
    by_cases c38 : c = 38
    · exact c38
    rw [if_neg c38] at h
    by_cases c42 : c = 42
    · rw [if_pos c42] at h
      exact absurd h (by decide +kernel)
    rw [if_neg c42] at h
    by_cases c43 : c = 43
    · rw [if_pos c43] at h
      exact absurd h (by decide +kernel)
    rw [if_neg c43] at h
    by_cases c45 : c = 45
    · rw [if_pos c45] at h
      exact absurd h (by decide +kernel)
    rw [if_neg c45] at h
    by_cases c47 : c = 47
    · rw [if_pos c47] at h
      exact absurd h (by decide +kernel)
    rw [if_neg c47] at h
    by_cases c60 : c = 60
    · rw [if_pos c60] at h
      exact absurd h (by decide +kernel)
    rw [if_neg c60] at h
    by_cases c61 : c = 61
    · rw [if_pos c61] at h
      exact absurd h (by decide +kernel)
    rw [if_neg c61] at h
    by_cases c62 : c = 62
    · rw [if_pos c62] at h
      exact absurd h (by decide +kernel)
    rw [if_neg c62] at h
    by_cases c124 : c = 124
    · rw [if_pos c124] at h
      exact absurd h (by decide +kernel)
    rw [if_neg c124] at h
    exact absurd h (by decide +kernel)
  · intro h
    rw [h]
    decide +kernel
theorem lv2 (c : Int32) : lv c = 2 ↔ c = 60 ∨ c = 61 ∨ c = 62 := by
  constructor
  · intro h
    unfold lv at h
    by_cases c37 : c = 37
    · rw [if_pos c37] at h
      exact absurd h (by decide +kernel)
    rw [if_neg c37] at h
    by_cases c38 : c = 38
    · rw [if_pos c38] at h
      exact absurd h (by decide +kernel)
    rw [if_neg c38] at h
    by_cases c42 : c = 42
    · rw [if_pos c42] at h
      exact absurd h (by decide +kernel)
    rw [if_neg c42] at h
    by_cases c43 : c = 43
    · rw [if_pos c43] at h
      exact absurd h (by decide +kernel)
    rw [if_neg c43] at h
    by_cases c45 : c = 45
    · rw [if_pos c45] at h
      exact absurd h (by decide +kernel)
    rw [if_neg c45] at h
    by_cases c47 : c = 47
    · rw [if_pos c47] at h
      exact absurd h (by decide +kernel)
    rw [if_neg c47] at h
    by_cases c60 : c = 60
    · exact Or.inl c60
    rw [if_neg c60] at h
    by_cases c61 : c = 61
    · exact Or.inr (Or.inl c61)
    rw [if_neg c61] at h
    by_cases c62 : c = 62
    · exact Or.inr (Or.inr c62)
    rw [if_neg c62] at h
    by_cases c124 : c = 124
    · rw [if_pos c124] at h
      exact absurd h (by decide +kernel)
    rw [if_neg c124] at h
    exact absurd h (by decide +kernel)
  · intro h
    rcases h with h | h | h <;> (rw [h]; decide +kernel)
theorem lv3 (c : Int32) : lv c = 3 ↔ c = 43 ∨ c = 45 := by
  constructor
  · intro h
    unfold lv at h
    by_cases c37 : c = 37
    · rw [if_pos c37] at h
      exact absurd h (by decide +kernel)
    rw [if_neg c37] at h
    by_cases c38 : c = 38
    · rw [if_pos c38] at h
      exact absurd h (by decide +kernel)
    rw [if_neg c38] at h
    by_cases c42 : c = 42
    · rw [if_pos c42] at h
      exact absurd h (by decide +kernel)
    rw [if_neg c42] at h
    by_cases c43 : c = 43
    · exact Or.inl c43
    rw [if_neg c43] at h
    by_cases c45 : c = 45
    · exact Or.inr c45
    rw [if_neg c45] at h
    by_cases c47 : c = 47
    · rw [if_pos c47] at h
      exact absurd h (by decide +kernel)
    rw [if_neg c47] at h
    by_cases c60 : c = 60
    · rw [if_pos c60] at h
      exact absurd h (by decide +kernel)
    rw [if_neg c60] at h
    by_cases c61 : c = 61
    · rw [if_pos c61] at h
      exact absurd h (by decide +kernel)
    rw [if_neg c61] at h
    by_cases c62 : c = 62
    · rw [if_pos c62] at h
      exact absurd h (by decide +kernel)
    rw [if_neg c62] at h
    by_cases c124 : c = 124
    · rw [if_pos c124] at h
      exact absurd h (by decide +kernel)
    rw [if_neg c124] at h
    exact absurd h (by decide +kernel)
  · intro h
    rcases h with h | h <;> (rw [h]; decide +kernel)
theorem lv4 (c : Int32) : lv c = 4 ↔ c = 37 ∨ c = 42 ∨ c = 47 := by
  constructor
  · intro h
    unfold lv at h
    by_cases c37 : c = 37
    · exact Or.inl c37
    rw [if_neg c37] at h
    by_cases c38 : c = 38
    · rw [if_pos c38] at h
      exact absurd h (by decide +kernel)
    rw [if_neg c38] at h
    by_cases c42 : c = 42
    · exact Or.inr (Or.inl c42)
    rw [if_neg c42] at h
    by_cases c43 : c = 43
    · rw [if_pos c43] at h
      exact absurd h (by decide +kernel)
    rw [if_neg c43] at h
    by_cases c45 : c = 45
    · rw [if_pos c45] at h
      exact absurd h (by decide +kernel)
    rw [if_neg c45] at h
    by_cases c47 : c = 47
    · exact Or.inr (Or.inr c47)
    rw [if_neg c47] at h
    by_cases c60 : c = 60
    · rw [if_pos c60] at h
      exact absurd h (by decide +kernel)
    rw [if_neg c60] at h
    by_cases c61 : c = 61
    · rw [if_pos c61] at h
      exact absurd h (by decide +kernel)
    rw [if_neg c61] at h
    by_cases c62 : c = 62
    · rw [if_pos c62] at h
      exact absurd h (by decide +kernel)
    rw [if_neg c62] at h
    by_cases c124 : c = 124
    · rw [if_pos c124] at h
      exact absurd h (by decide +kernel)
    rw [if_neg c124] at h
    exact absurd h (by decide +kernel)
  · intro h
    rcases h with h | h | h <;> (rw [h]; decide +kernel)
def CH (c h : Int32) : Prop := (c = 0 ∧ h = -1) ∨ ∃ b, b < 256 ∧ h = nI b ∧ ((b < 128 ∧ c = nI b) ∨ (128 ≤ b ∧ c < 0))
theorem m1_ne {x : Nat} (hx : x < 1000000) : ¬ (-1 : Int32) = nI x := by
  intro z
  have e : (nI x).toInt = (x : Int) := nI_toInt (by omega)
  rw [← z] at e
  have e2 : (-1 : Int32).toInt = -1 := by decide +kernel
  omega
theorem CH.eq {c h : Int32} (H : CH c h) {x : Nat} (h1 : 1 ≤ x) (h2 : x < 128) : h = nI x ↔ c = nI x := by
  rcases H with ⟨rfl, rfl⟩ | ⟨b, hb, rfl, ⟨b1, rfl⟩ | ⟨b1, b2⟩⟩
  · constructor
    · intro z; exact absurd z (m1_ne (by omega))
    · intro z
      have := (z_eq (a := 0) (b := x) (by omega) (by omega)).mp z
      omega
  · exact Iff.rfl
  · constructor
    · intro z
      have := (z_eq (by omega) (by omega)).mp z
      omega
    · intro z
      rw [z] at b2
      exact absurd b2 (nI_pos (by omega))
theorem CH.dg {c h : Int32} (H : CH c h) : ((∀ σ, fX3_isDigit c σ = some (0, σ)) ∧ (∀ σ, fX7_within h 48 57 σ = some (0, σ))) ∨ (∃ b, 48 ≤ b ∧ b ≤ 57 ∧ c = nI b ∧ h = nI b ∧ (∀ σ, fX3_isDigit c σ = some (1, σ)) ∧ (∀ σ, fX7_within h 48 57 σ = some (1, σ))) := by
  have key : ∀ b : Nat, b < 256 → (48 ≤ b ∧ b ≤ 57 ∧ (∀ σ, fX3_isDigit (nI b) σ = some (1, σ)) ∧ (∀ σ, fX7_within (nI b) 48 57 σ = some (1, σ))) ∨ ((∀ σ, fX3_isDigit (nI b) σ = some (0, σ)) ∧ (∀ σ, fX7_within (nI b) 48 57 σ = some (0, σ))) := by
    intro b hb
    unfold fX3_isDigit fX7_within
    by_cases c1 : b < 48
    · right
      have q : nI b < (48 : Int32) := (z_lt (b := 48) (by omega) (by omega)).mpr c1
      exact ⟨fun σ => by rw [if_pos q], fun σ => by rw [if_pos q]⟩
    · have q : ¬ nI b < (48 : Int32) := fun z => c1 ((z_lt (b := 48) (by omega) (by omega)).mp z)
      by_cases c2 : 57 < b
      · right
        have q2 : (57 : Int32) < nI b := (z_lt (a := 57) (by omega) (by omega)).mpr c2
        exact ⟨fun σ => by rw [if_neg q, if_pos q2], fun σ => by rw [if_neg q, if_pos q2]⟩
      · left
        have q2 : ¬ (57 : Int32) < nI b := fun z => c2 ((z_lt (a := 57) (by omega) (by omega)).mp z)
        exact ⟨by omega, by omega, fun σ => by rw [if_neg q, if_neg q2], fun σ => by rw [if_neg q, if_neg q2]⟩
  rcases H with ⟨rfl, rfl⟩ | ⟨b, hb, rfl, ⟨b1, rfl⟩ | ⟨b1, b2⟩⟩
  · left
    exact ⟨fun σ => rfl, fun σ => rfl⟩
  · rcases key b hb with ⟨k1, k2, k3, k4⟩ | ⟨k1, k2⟩
    · right
      exact ⟨b, k1, k2, rfl, rfl, k3, k4⟩
    · left
      exact ⟨k1, k2⟩
  · left
    rcases key b hb with ⟨k1, k2, k3, k4⟩ | ⟨k1, k2⟩
    · omega
    · refine ⟨fun σ => ?_, k2⟩
      unfold fX3_isDigit
      have e0 : (0 : Int32).toInt = 0 := by decide +kernel
      have e48 : (48 : Int32).toInt = 48 := by decide +kernel
      rw [if_pos (by rw [Int32.lt_iff_toInt_lt] at b2 ⊢; omega)]
theorem zch {c : Int32} (h : c.toInt8.toInt32 = c) : CH c (c &&& 255) := by
  right
  have e := pk_and c (m := 255) 8 (by decide +kernel)
  refine ⟨c.toBitVec.toNat % 2 ^ 8, Nat.mod_lt _ (by decide), e, ?_⟩
  have e1 : c.toInt = c.toInt8.toInt := by
    have q : (c.toInt8.toInt32).toInt = c.toInt8.toInt := Int8.toInt_toInt32 _
    rw [h] at q
    exact q
  have l1 := Int8.toInt_lt c.toInt8
  have l2 := Int8.le_toInt c.toInt8
  have e0 : (0 : Int32).toInt = 0 := by decide +kernel
  have hb : c.toBitVec.toNat < 2 ^ 32 := c.toBitVec.isLt
  have ti : c.toInt = if 2 * c.toBitVec.toNat < 2 ^ 32 then (c.toBitVec.toNat : Int) else (c.toBitVec.toNat : Int) - 2 ^ 32 := by
    show c.toBitVec.toInt = _
    rw [BitVec.toInt_eq_toNat_cond]
    rfl
  by_cases q : 2 * c.toBitVec.toNat < 2 ^ 32
  · left
    rw [if_pos q] at ti
    refine ⟨by omega, Int32.toInt_inj.mp ?_⟩
    rw [show (nI (c.toBitVec.toNat % 2 ^ 8)).toInt = ((c.toBitVec.toNat % 2 ^ 8 : Nat) : Int) from nI_toInt (by omega)]
    omega
  · right
    rw [if_neg q] at ti
    refine ⟨by omega, ?_⟩
    rw [Int32.lt_iff_toInt_lt]
    omega
/-- where both read -/
def BS (t u : Nat) (σ0 τ0 : rp_St) : Prop := t ≤ 50 ∧ u ≤ 1 ∧ τ0 1 3 = nI t ∧ (∀ i, i < t → τ0 1 (47 + i) = σ0 61 i &&& 255) ∧ ∀ i, i < t → (σ0 61 i).toInt8.toInt32 = σ0 61 i
def PS (t u : Nat) (σ0 τ0 : rp_St) (d k s e : Nat) (σ τ : rp_St) : Prop := (σ 57 1 = nI t ∧ σ 57 2 = nI u ∧ σ 57 3 = nI k ∧ σ 57 4 = nI s) ∧ (τ 0 7 = nI k ∧ τ 0 8 = nI d ∧ τ 0 9 = nI u ∧ τ 0 10 = 0 ∧ τ 0 12 = nI s) ∧ (k ≤ t ∧ s ≤ k ∧ dp (σ 58) s = some e ∧ ∀ i, i < s → τ 7 i = enc (σ 58 i)) ∧ (∀ j, j ≠ 57 → j ≠ 58 → σ j = σ0 j) ∧ (∀ j, j ≠ 0 → j ≠ 7 → τ j = τ0 j) ∧ τ 0 3 = τ0 0 3 ∧ τ 0 16 = τ0 0 16
def BDx (σ0 : rp_St) (k : Nat) (σ : rp_St) : Prop := σ 57 3 = nI k ∧ ∀ j, j ≠ 57 → j ≠ 58 → σ j = σ0 j
def BDm (τ0 : rp_St) (k : Nat) (τ : rp_St) : Prop := τ 0 7 = nI k ∧ τ 0 10 = 1 ∧ (∀ j, j ≠ 0 → j ≠ 7 → τ j = τ0 j) ∧ τ 0 3 = τ0 0 3 ∧ τ 0 16 = τ0 0 16 ∧ ∃ u, u ≤ 1 ∧ τ 0 9 = nI u
def cx (σ0 : rp_St) (t k : Nat) : Int32 := if k < t then σ0 61 k else 0
def cm (τ0 : rp_St) (t k : Nat) : Int32 := if k < t then τ0 1 (47 + k) else -1
theorem cx_lt {σ0 : rp_St} {t k : Nat} (h : ¬ cx σ0 t k = 0) : k < t := by
  unfold cx at h
  by_cases c : k < t
  · exact c
  · rw [if_neg c] at h
    exact absurd rfl h
theorem BS.ch {t u : Nat} {σ0 τ0 : rp_St} (B : BS t u σ0 τ0) (k : Nat) : CH (cx σ0 t k) (cm τ0 t k) := by
  unfold cx cm
  by_cases c : k < t
  · have h50 := B.1
    rw [if_pos c, if_pos c, B.2.2.2.1 k c]
    exact zch (B.2.2.2.2 k c)
  · rw [if_neg c, if_neg c]
    exact Or.inl ⟨rfl, rfl⟩
theorem PS.ax {t u : Nat} {σ0 τ0 : rp_St} (B : BS t u σ0 τ0) {d k s e : Nat} {σ τ : rp_St} (h : PS t u σ0 τ0 d k s e σ τ) : fX3_ahead σ = some (cx σ0 t k, σ) := by
  have h50 := B.1
  have hk := h.2.2.1.1
  unfold fX3_ahead cx
  rw [h.1.1, h.1.2.2.1]
  by_cases c : k < t
  · rw [if_neg (show ¬ nI t ≤ nI k by rw [z_le (by omega) (by omega)]; omega), if_pos c, z_g (z_in (show k < 50 by omega) (by decide)), z_cl (by omega), h.2.2.2.1 61 (by decide) (by decide)]
  · rw [if_pos ((z_le (by omega) (by omega)).mpr (by omega)), if_neg c]
theorem PS.am {t u : Nat} {σ0 τ0 : rp_St} (B : BS t u σ0 τ0) {d k s e : Nat} {σ τ : rp_St} (h : PS t u σ0 τ0 d k s e σ τ) : fX7_here τ = some (cm τ0 t k, τ) := by
  have h50 := B.1
  have hk := h.2.2.1.1
  unfold fX7_here cm
  rw [h.2.1.2.2.2.1, if_pos rfl, z_g zc3, zl3, h.2.2.2.2.1 1 (by decide) (by decide), B.2.2.1, h.2.1.1]
  by_cases c : k < t
  · rw [if_neg (show ¬ nI t ≤ nI k by rw [z_le (by omega) (by omega)]; omega), if_pos c, show (47 + nI k : Int32) = nI (47 + k) from nI_add 47 k, z_g (z_in (show 47 + k < 221 by omega) (by decide)), z_cl (by omega)]
  · rw [if_pos ((z_le (by omega) (by omega)).mpr (by omega)), if_neg c]
theorem PS.tk {t u : Nat} {σ0 τ0 : rp_St} (B : BS t u σ0 τ0) {d k s e : Nat} {σ τ : rp_St} (h : PS t u σ0 τ0 d k s e σ τ) (v : Int32) (x : Nat) (hv : v = nI x) (h1 : 1 ≤ x) (h2 : x < 128) : fX7_takes v τ = if cx σ0 t k = v then some (1, rp_put τ 0 7 (nI (k + 1))) else some (0, rp_put τ 0 7 (nI k)) := by
  subst hv
  have eq := (B.ch k).eq h1 h2
  unfold fX7_takes
  rw [h.am B, z_bd]
  by_cases c : cx σ0 t k = nI x
  · rw [if_pos (eq.mpr c), if_pos c]
    unfold fX7_takes_13 fX7_takes_28
    rw [if_neg (show ¬ (1 : Int32) = 0 by decide), z_nm, z_gb1, h.2.1.1, show (nI k + 1 : Int32) = nI (k + 1) from nI_1 _]
  · rw [if_neg (fun z => c (eq.mp z)), if_neg c]
    unfold fX7_takes_13 fX7_takes_28
    rw [if_pos rfl, z_nm, z_gb0, h.2.1.1, show (nI k + 0 : Int32) = nI k from nI_add k 0]
theorem BDm.tk {τ0 : rp_St} {k : Nat} {τ : rp_St} (h : BDm τ0 k τ) (v : Int32) (x : Nat) (hv : v = nI x) (h2 : x < 128) : fX7_takes v τ = some (0, rp_put τ 0 7 (nI k)) := by
  subst hv
  unfold fX7_takes fX7_here
  rw [h.2.1, if_neg (show ¬ (1 : Int32) = 0 by decide), z_bd, if_neg (m1_ne (by omega))]
  unfold fX7_takes_13 fX7_takes_28
  rw [if_pos rfl, z_nm, z_gb0, h.1, show (nI k + 0 : Int32) = nI k from nI_add k 0]
theorem BDm.cd {τ0 : rp_St} {k : Nat} {τ : rp_St} (h : BDm τ0 k τ) (v : Int32) : fX7_codes v τ = some (0, τ) := by
  unfold fX7_codes
  rw [h.2.1, if_neg (show ¬ (1 : Int32) = 0 by decide)]
theorem BDm.nop {τ0 : rp_St} {k : Nat} {τ : rp_St} (h : BDm τ0 k τ) : BDm τ0 k (rp_put τ 0 7 (nI k)) := by
  obtain ⟨h1, h2, h3, h4, h5, w, hw, h6⟩ := h
  exact ⟨z_p _ _ _ _, by rw [z_pn _ _ _ _ (by omega)]; exact h2, fun j p q => by rw [z_putk _ _ _ _ p]; exact h3 j p q, by rw [z_pn _ _ _ _ (by omega)]; exact h4, by rw [z_pn _ _ _ _ (by omega)]; exact h5, w, hw, by rw [z_pn _ _ _ _ (by omega)]; exact h6⟩
theorem PS.nop {t u : Nat} {σ0 τ0 : rp_St} {d k s e : Nat} {σ τ : rp_St} (h : PS t u σ0 τ0 d k s e σ τ) : PS t u σ0 τ0 d k s e σ (rp_put τ 0 7 (nI k)) := by
  obtain ⟨h1, ⟨g1, g2, g3, g4, g5⟩, ⟨k1, k2, k3, k4⟩, h4, h5, h6, h7⟩ := h
  exact ⟨h1, ⟨z_p _ _ _ _, by rw [z_pn _ _ _ _ (by omega)]; exact g2, by rw [z_pn _ _ _ _ (by omega)]; exact g3, by rw [z_pn _ _ _ _ (by omega)]; exact g4, by rw [z_pn _ _ _ _ (by omega)]; exact g5⟩, ⟨k1, k2, k3, fun i hi => by rw [z_putk _ _ _ _ (by decide)]; exact k4 i hi⟩, h4, fun j p q => by rw [z_putk _ _ _ _ p]; exact h5 j p q, by rw [z_pn _ _ _ _ (by omega)]; exact h6, by rw [z_pn _ _ _ _ (by omega)]; exact h7⟩
theorem PS.adv {t u : Nat} {σ0 τ0 : rp_St} {d k s e : Nat} {σ τ : rp_St} (h : PS t u σ0 τ0 d k s e σ τ) (hk : k < t) : PS t u σ0 τ0 d (k + 1) s e (rp_put σ 57 3 (nI (k + 1))) (rp_put τ 0 7 (nI (k + 1))) := by
  obtain ⟨⟨j1, j2, j3, j4⟩, ⟨g1, g2, g3, g4, g5⟩, ⟨k1, k2, k3, k4⟩, h4, h5, h6, h7⟩ := h
  exact ⟨⟨by rw [z_pn _ _ _ _ (by omega)]; exact j1, by rw [z_pn _ _ _ _ (by omega)]; exact j2, z_p _ _ _ _, by rw [z_pn _ _ _ _ (by omega)]; exact j4⟩, ⟨z_p _ _ _ _, by rw [z_pn _ _ _ _ (by omega)]; exact g2, by rw [z_pn _ _ _ _ (by omega)]; exact g3, by rw [z_pn _ _ _ _ (by omega)]; exact g4, by rw [z_pn _ _ _ _ (by omega)]; exact g5⟩, ⟨by omega, by omega, by rw [z_putk _ _ _ _ (by decide)]; exact k3, fun i hi => by rw [z_putk _ _ _ _ (by decide), z_putk _ _ _ _ (by decide)]; exact k4 i hi⟩, fun j p q => by rw [z_putk _ _ _ _ p]; exact h4 j p q, fun j p q => by rw [z_putk _ _ _ _ p]; exact h5 j p q, by rw [z_pn _ _ _ _ (by omega)]; exact h6, by rw [z_pn _ _ _ _ (by omega)]; exact h7⟩
/-- how deep in brackets: the reference's count -/
theorem PS.op {t u : Nat} {σ0 τ0 : rp_St} {d k s e : Nat} {σ τ : rp_St} (h : PS t u σ0 τ0 d k s e σ τ) (d' : Nat) : PS t u σ0 τ0 d' k s e σ (rp_put τ 0 8 (nI d')) := by
  obtain ⟨h1, ⟨g1, g2, g3, g4, g5⟩, ⟨k1, k2, k3, k4⟩, h4, h5, h6, h7⟩ := h
  exact ⟨h1, ⟨by rw [z_pn _ _ _ _ (by omega)]; exact g1, z_p _ _ _ _, by rw [z_pn _ _ _ _ (by omega)]; exact g3, by rw [z_pn _ _ _ _ (by omega)]; exact g4, by rw [z_pn _ _ _ _ (by omega)]; exact g5⟩, ⟨k1, k2, k3, fun i hi => by rw [z_putk _ _ _ _ (by decide)]; exact k4 i hi⟩, h4, fun j p q => by rw [z_putk _ _ _ _ p]; exact h5 j p q, by rw [z_pn _ _ _ _ (by omega)]; exact h6, by rw [z_pn _ _ _ _ (by omega)]; exact h7⟩
theorem PS.w0 {t u : Nat} {σ0 τ0 : rp_St} {d k s e : Nat} {σ τ : rp_St} (h : PS t u σ0 τ0 d k s e σ τ) : PS t u σ0 τ0 d k s e σ (rp_put τ 0 10 0) := by
  obtain ⟨h1, ⟨g1, g2, g3, g4, g5⟩, ⟨k1, k2, k3, k4⟩, h4, h5, h6, h7⟩ := h
  exact ⟨h1, ⟨by rw [z_pn _ _ _ _ (by omega)]; exact g1, by rw [z_pn _ _ _ _ (by omega)]; exact g2, by rw [z_pn _ _ _ _ (by omega)]; exact g3, z_p _ _ _ _, by rw [z_pn _ _ _ _ (by omega)]; exact g5⟩, ⟨k1, k2, k3, fun i hi => by rw [z_putk _ _ _ _ (by decide)]; exact k4 i hi⟩, h4, fun j p q => by rw [z_putk _ _ _ _ p]; exact h5 j p q, by rw [z_pn _ _ _ _ (by omega)]; exact h6, by rw [z_pn _ _ _ _ (by omega)]; exact h7⟩
theorem PS.w1 {t u : Nat} {σ0 τ0 : rp_St} (B : BS t u σ0 τ0) {d k s e : Nat} {σ τ : rp_St} (h : PS t u σ0 τ0 d k s e σ τ) : BDx σ0 k σ ∧ BDm τ0 k (rp_put τ 0 10 1) := by
  obtain ⟨⟨j1, j2, j3, j4⟩, ⟨g1, g2, g3, g4, g5⟩, ⟨k1, k2, k3, k4⟩, h4, h5, h6, h7⟩ := h
  exact ⟨⟨j3, h4⟩, by rw [z_pn _ _ _ _ (by omega)]; exact g1, z_p _ _ _ _, fun j p q => by rw [z_putk _ _ _ _ p]; exact h5 j p q, by rw [z_pn _ _ _ _ (by omega)]; exact h6, by rw [z_pn _ _ _ _ (by omega)]; exact h7, u, B.2.1, by rw [z_pn _ _ _ _ (by omega)]; exact g3⟩
theorem BDm.w1 {τ0 : rp_St} {k : Nat} {τ : rp_St} (h : BDm τ0 k τ) : BDm τ0 k (rp_put τ 0 10 1) := by
  obtain ⟨h1, h2, h3, h4, h5, w, hw, h6⟩ := h
  exact ⟨by rw [z_pn _ _ _ _ (by omega)]; exact h1, z_p _ _ _ _, fun j p q => by rw [z_putk _ _ _ _ p]; exact h3 j p q, by rw [z_pn _ _ _ _ (by omega)]; exact h4, by rw [z_pn _ _ _ _ (by omega)]; exact h5, w, hw, by rw [z_pn _ _ _ _ (by omega)]; exact h6⟩
theorem BDm.op {τ0 : rp_St} {k : Nat} {τ : rp_St} (h : BDm τ0 k τ) (v : Int32) : BDm τ0 k (rp_put τ 0 8 v) := by
  obtain ⟨h1, h2, h3, h4, h5, w, hw, h6⟩ := h
  exact ⟨by rw [z_pn _ _ _ _ (by omega)]; exact h1, by rw [z_pn _ _ _ _ (by omega)]; exact h2, fun j p q => by rw [z_putk _ _ _ _ p]; exact h3 j p q, by rw [z_pn _ _ _ _ (by omega)]; exact h4, by rw [z_pn _ _ _ _ (by omega)]; exact h5, w, hw, by rw [z_pn _ _ _ _ (by omega)]; exact h6⟩
/-- a code, in both -/
theorem PS.em {t u : Nat} {σ0 τ0 : rp_St} (B : BS t u σ0 τ0) {d k s e e' : Nat} {σ τ : rp_St} (h : PS t u σ0 τ0 d k s e σ τ) (v : Int32) (hs : s < k) (hd : ds v e = some e') : ∃ σ' τ', fX3_emit v σ = some (0, σ') ∧ fX7_codes (enc v) τ = some (0, τ') ∧ PS t u σ0 τ0 d k (s + 1) e' σ' τ' := by
  have h50 := B.1
  obtain ⟨⟨j1, j2, j3, j4⟩, ⟨g1, g2, g3, g4, g5⟩, ⟨k1, k2, k3, k4⟩, h4, h5, h6, h7⟩ := h
  unfold fX3_emit fX7_codes
  rw [j4, if_neg (show ¬ (50 : Int32) ≤ nI s from fun z => by have := (z_le (a := 50) (by omega) (by omega)).mp z; omega), z_g (z_in (show s < 50 by omega) (by decide)), z_nm, z_nm, z_cl (by omega), g4, if_pos rfl, g5, z_g (z_in (show s < 60 by omega) (by decide)), z_nm, z_nm, z_cl (by omega), z_pn σ 58 s v (j := 57) (i' := 4) (by omega), j4, z_pn τ 7 s _ (j := 0) (i' := 12) (by omega), g5, show (nI s + 1 : Int32) = nI (s + 1) from nI_1 _]
  refine ⟨_, _, rfl, rfl, ⟨?_, ?_, ?_, z_p _ _ _ _⟩, ⟨?_, ?_, ?_, ?_, z_p _ _ _ _⟩, ⟨k1, by omega, ?_, fun i hi => ?_⟩, fun j p q => ?_, fun j p q => ?_, ?_, ?_⟩
  · rw [z_pn _ _ _ _ (by omega), z_pn _ _ _ _ (by omega)]; exact j1
  · rw [z_pn _ _ _ _ (by omega), z_pn _ _ _ _ (by omega)]; exact j2
  · rw [z_pn _ _ _ _ (by omega), z_pn _ _ _ _ (by omega)]; exact j3
  · rw [z_pn _ _ _ _ (by omega), z_pn _ _ _ _ (by omega)]; exact g1
  · rw [z_pn _ _ _ _ (by omega), z_pn _ _ _ _ (by omega)]; exact g2
  · rw [z_pn _ _ _ _ (by omega), z_pn _ _ _ _ (by omega)]; exact g3
  · rw [z_pn _ _ _ _ (by omega), z_pn _ _ _ _ (by omega)]; exact g4
  · rw [z_putk _ _ _ _ (by decide)]
    show (dp (rp_put σ 58 s v 58) s).bind (ds (rp_put σ 58 s v 58 s)) = some e'
    rw [z_p, dp_cg (f := σ 58) (fun i hi => z_pn _ _ _ _ (by omega)), k3]
    exact hd
  · rw [z_putk _ _ _ _ (show 7 ≠ 0 by decide), z_putk _ _ _ _ (show 58 ≠ 57 by decide)]
    by_cases q : i = s
    · subst q
      rw [z_p, z_p]
    · rw [z_pn τ _ _ _ (by omega), z_pn σ _ _ _ (by omega)]
      exact k4 i (by omega)
  · rw [z_putk _ _ _ _ p, z_putk _ _ _ _ q]; exact h4 j p q
  · rw [z_putk _ _ _ _ p, z_putk _ _ _ _ q]; exact h5 j p q
  · rw [z_pn _ _ _ _ (by omega), z_pn _ _ _ _ (by omega)]; exact h6
  · rw [z_pn _ _ _ _ (by omega), z_pn _ _ _ _ (by omega)]; exact h7

