/-! names, numbers, brackets -/
def nmc (u : Nat) (c : Int32) : Int32 := if u = 0 then (if c = 114 then -1 else if c = 111 then -2 else if c = 109 then -3 else 0) else (if c = 100 then -1 else if c = 109 then -2 else if c = 112 then -3 else 0)
def nmv (u : Nat) (h : Int32) : Int32 := if sCh u 2 = h then nI 2 else if sCh u 1 = h then nI 1 else if sCh u 0 = h then nI 0 else -1
theorem zx_nm (c : Int32) {u : Nat} (hu : u ≤ 1) {σ : rp_St} (h : σ 57 2 = nI u) : fX3_nameOf c σ = some (nmc u c, σ) := by
  unfold fX3_nameOf
  rw [h]
  have n0 : u = 0 → nI u = (0 : Int32) := fun z => by rw [z]; rfl
  have n1 : u = 1 → nI u = (1 : Int32) := fun z => by rw [z]; rfl
  have key : ∀ x : Int32, c = x → nmc u c = nmc u x := fun x z => by rw [z]
  by_cases c100 : c = 100
  · rw [if_pos c100, key _ c100]
    by_cases q : u = 0
    · rw [n0 q, if_neg (show ¬ (0 : Int32) = 1 by decide), q]
      rfl
    · have q : u = 1 := by omega
      rw [n1 q, if_pos rfl, q]
      rfl
  rw [if_neg c100]
  by_cases c101 : c = 101
  · rw [if_pos c101, key _ c101]
    by_cases q : u = 0
    · rw [q]
      rfl
    · have q : u = 1 := by omega
      rw [q]
      rfl
  rw [if_neg c101]
  by_cases c102 : c = 102
  · rw [if_pos c102, key _ c102]
    by_cases q : u = 0
    · rw [q]
      rfl
    · have q : u = 1 := by omega
      rw [q]
      rfl
  rw [if_neg c102]
  by_cases c103 : c = 103
  · rw [if_pos c103, key _ c103]
    by_cases q : u = 0
    · rw [q]
      rfl
    · have q : u = 1 := by omega
      rw [q]
      rfl
  rw [if_neg c103]
  by_cases c104 : c = 104
  · rw [if_pos c104, key _ c104]
    by_cases q : u = 0
    · rw [q]
      rfl
    · have q : u = 1 := by omega
      rw [q]
      rfl
  rw [if_neg c104]
  by_cases c105 : c = 105
  · rw [if_pos c105, key _ c105]
    by_cases q : u = 0
    · rw [q]
      rfl
    · have q : u = 1 := by omega
      rw [q]
      rfl
  rw [if_neg c105]
  by_cases c106 : c = 106
  · rw [if_pos c106, key _ c106]
    by_cases q : u = 0
    · rw [q]
      rfl
    · have q : u = 1 := by omega
      rw [q]
      rfl
  rw [if_neg c106]
  by_cases c107 : c = 107
  · rw [if_pos c107, key _ c107]
    by_cases q : u = 0
    · rw [q]
      rfl
    · have q : u = 1 := by omega
      rw [q]
      rfl
  rw [if_neg c107]
  by_cases c108 : c = 108
  · rw [if_pos c108, key _ c108]
    by_cases q : u = 0
    · rw [q]
      rfl
    · have q : u = 1 := by omega
      rw [q]
      rfl
  rw [if_neg c108]
  by_cases c109 : c = 109
  · rw [if_pos c109, key _ c109]
    by_cases q : u = 0
    · rw [n0 q, if_pos rfl, q]
      rfl
    · have q : u = 1 := by omega
      rw [n1 q, if_neg (show ¬ (1 : Int32) = 0 by decide), q]
      rfl
  rw [if_neg c109]
  by_cases c110 : c = 110
  · rw [if_pos c110, key _ c110]
    by_cases q : u = 0
    · rw [q]
      rfl
    · have q : u = 1 := by omega
      rw [q]
      rfl
  rw [if_neg c110]
  by_cases c111 : c = 111
  · rw [if_pos c111, key _ c111]
    by_cases q : u = 0
    · rw [n0 q, if_pos rfl, q]
      rfl
    · have q : u = 1 := by omega
      rw [n1 q, if_neg (show ¬ (1 : Int32) = 0 by decide), q]
      rfl
  rw [if_neg c111]
  by_cases c112 : c = 112
  · rw [if_pos c112, key _ c112]
    by_cases q : u = 0
    · rw [n0 q, if_neg (show ¬ (0 : Int32) = 1 by decide), q]
      rfl
    · have q : u = 1 := by omega
      rw [n1 q, if_pos rfl, q]
      rfl
  rw [if_neg c112]
  by_cases c113 : c = 113
  · rw [if_pos c113, key _ c113]
    by_cases q : u = 0
    · rw [q]
      rfl
    · have q : u = 1 := by omega
      rw [q]
      rfl
  rw [if_neg c113]
  by_cases c114 : c = 114
  · rw [if_pos c114, key _ c114]
    by_cases q : u = 0
    · rw [n0 q, if_pos rfl, q]
      rfl
    · have q : u = 1 := by omega
      rw [n1 q, if_neg (show ¬ (1 : Int32) = 0 by decide), q]
      rfl
  rw [if_neg c114]
  unfold nmc
  rw [if_neg c114, if_neg c111, if_neg c109, if_neg c100, if_neg c109, if_neg c112, ite_self]
theorem zm_nm (h : Int32) {u : Nat} (hu : u ≤ 1) {τ : rp_St} (e : τ 0 9 = nI u) : fX7_nameOf h τ = some (nmv u h, τ) := by
  have st : ∀ (K : Int32 → Int32 → Int32 → rp_St → Option (Int32 × rp_St)) (v : Int32) (i : Nat), i < 3 → fX7_nameOf_4 K h v (nI i) τ = K h (if sCh u i = h then nI i else v) (nI (i + 1)) τ := by
    intro K v i hi
    rw [fX7_nameOf_4, e, z_g (z_in (show u < 2 by omega) (by decide)), z_nm, if_neg (show ¬ (3 : Int32) ≤ nI i from fun z => by have := (z_le (a := 3) (by omega) (by omega)).mp z; omega), z_g (z_in (show u < 2 by omega) (by decide)), z_nm, z_g (z_in (show i < 3 by omega) (by decide)), z_cl (by omega), z_cl (by omega)]
    by_cases c : sCh u i = h
    · rw [if_pos c, if_pos c, fX7_nameOf_42, z_nm, show (nI i + 1 : Int32) = nI (i + 1) from nI_1 _]
    · rw [if_neg c, if_neg c, fX7_nameOf_42, z_nm, show (nI i + 1 : Int32) = nI (i + 1) from nI_1 _]
  unfold fX7_nameOf
  rw [show (300 : Nat) = 296 + 1 + 1 + 1 + 1 from rfl, z_lp (fun _ _ _ _ => none) fX7_nameOf_4 (296 + 1 + 1 + 1), show (0 : Int32) = nI 0 from rfl, st _ _ 0 (by decide), z_lp (fun _ _ _ _ => none) fX7_nameOf_4 (296 + 1 + 1), st _ _ 1 (by decide), z_lp (fun _ _ _ _ => none) fX7_nameOf_4 (296 + 1), st _ _ 2 (by decide), z_lp (fun _ _ _ _ => none) fX7_nameOf_4 296, fX7_nameOf_4, e, z_g (z_in (show u < 2 by omega) (by decide)), z_nm, if_pos (show (3 : Int32) ≤ nI (2 + 1) by decide +kernel)]
  unfold nmv
  rfl
theorem nm_both {c h : Int32} (H : CH c h) {u : Nat} (hu : u ≤ 1) : (nmc u c = 0 ∧ nmv u h = -1) ∨ (∃ x i, 100 ≤ x ∧ x < 128 ∧ i < 3 ∧ c = nI x ∧ h = nI x ∧ nmv u h = nI i ∧ enc (nmc u c) = 10000 + nI i ∧ kV (nmc u c) = true ∧ ¬ nmc u c = 0) := by
  have mk : ∀ (x i : Nat) (v : Int32), 100 ≤ x → x < 128 → i < 3 → c = nI x → nmc u (nI x) = v → nmv u (nI x) = nI i → enc v = 10000 + nI i → kV v = true → ¬ v = 0 → (∃ x i, 100 ≤ x ∧ x < 128 ∧ i < 3 ∧ c = nI x ∧ h = nI x ∧ nmv u h = nI i ∧ enc (nmc u c) = 10000 + nI i ∧ kV (nmc u c) = true ∧ ¬ nmc u c = 0) := by
    intro x i v h1 h2 h3 h4 h5 h6 h7 h8 h9
    have hh := (H.eq (x := x) (by omega) h2).mpr h4
    exact ⟨x, i, h1, h2, h3, h4, hh, by rw [hh]; exact h6, by rw [h4, h5]; exact h7, by rw [h4, h5]; exact h8, by rw [h4, h5]; exact h9⟩
  by_cases q : u = 0
  · subst q
    by_cases c1 : c = 114
    · exact Or.inr (mk 114 0 (-1) (by decide) (by decide) (by decide) c1 (by decide +kernel) (by decide +kernel) (by decide +kernel) (by decide +kernel) (by decide +kernel))
    by_cases c2 : c = 111
    · exact Or.inr (mk 111 1 (-2) (by decide) (by decide) (by decide) c2 (by decide +kernel) (by decide +kernel) (by decide +kernel) (by decide +kernel) (by decide +kernel))
    by_cases c3 : c = 109
    · exact Or.inr (mk 109 2 (-3) (by decide) (by decide) (by decide) c3 (by decide +kernel) (by decide +kernel) (by decide +kernel) (by decide +kernel) (by decide +kernel))
    left
    unfold nmc nmv
    rw [if_pos rfl, if_neg c1, if_neg c2, if_neg c3, if_neg (show ¬ sCh 0 2 = h from fun z => c3 ((H.eq (x := 109) (by decide) (by decide)).mp z.symm)), if_neg (show ¬ sCh 0 1 = h from fun z => c2 ((H.eq (x := 111) (by decide) (by decide)).mp z.symm)), if_neg (show ¬ sCh 0 0 = h from fun z => c1 ((H.eq (x := 114) (by decide) (by decide)).mp z.symm))]
    exact ⟨rfl, rfl⟩
  · have q1 : u = 1 := by omega
    subst q1
    by_cases c1 : c = 100
    · exact Or.inr (mk 100 0 (-1) (by decide) (by decide) (by decide) c1 (by decide +kernel) (by decide +kernel) (by decide +kernel) (by decide +kernel) (by decide +kernel))
    by_cases c2 : c = 109
    · exact Or.inr (mk 109 1 (-2) (by decide) (by decide) (by decide) c2 (by decide +kernel) (by decide +kernel) (by decide +kernel) (by decide +kernel) (by decide +kernel))
    by_cases c3 : c = 112
    · exact Or.inr (mk 112 2 (-3) (by decide) (by decide) (by decide) c3 (by decide +kernel) (by decide +kernel) (by decide +kernel) (by decide +kernel) (by decide +kernel))
    left
    unfold nmc nmv
    rw [if_neg (by decide), if_neg c1, if_neg c2, if_neg c3, if_neg (show ¬ sCh 1 2 = h from fun z => c3 ((H.eq (x := 112) (by decide) (by decide)).mp z.symm)), if_neg (show ¬ sCh 1 1 = h from fun z => c2 ((H.eq (x := 109) (by decide) (by decide)).mp z.symm)), if_neg (show ¬ sCh 1 0 = h from fun z => c1 ((H.eq (x := 100) (by decide) (by decide)).mp z.symm))]
    exact ⟨rfl, rfl⟩
theorem PS.nm {t u : Nat} {σ0 τ0 : rp_St} (B : BS t u σ0 τ0) {d k s e e' : Nat} {σ τ : rp_St} (h : PS t u σ0 τ0 d k s e σ τ) (hk : k < t) (v : Int32) (hd : ds v e = some e') : ∃ σ' τ2, fX3_emit v (rp_put σ 57 3 (nI (k + 1))) = some (0, σ') ∧ fX7_codes (enc v) τ = some (0, τ2) ∧ τ2 0 7 = nI k ∧ PS t u σ0 τ0 d (k + 1) (s + 1) e' σ' (rp_put τ2 0 7 (nI (k + 1))) := by
  have h50 := B.1
  have hsk := h.2.2.1.2.1
  obtain ⟨σ', τ', a1, a2, a3⟩ := (h.adv hk).em B v (by omega) hd
  have g4 := h.2.1.2.2.2.1
  have g5 := h.2.1.2.2.2.2
  have c2 : fX7_codes (enc v) τ = some (0, rp_put (rp_put τ 7 s (enc v)) 0 12 (nI (s + 1))) := by
    unfold fX7_codes
    rw [g4, if_pos rfl, g5, z_g (z_in (show s < 60 by omega) (by decide)), z_nm, z_nm, z_cl (by omega), z_pn τ 7 s _ (j := 0) (i' := 12) (by omega), g5, show (nI s + 1 : Int32) = nI (s + 1) from nI_1 _]
  have c3 : fX7_codes (enc v) (rp_put τ 0 7 (nI (k + 1))) = some (0, rp_put (rp_put (rp_put τ 0 7 (nI (k + 1))) 7 s (enc v)) 0 12 (nI (s + 1))) := by
    unfold fX7_codes
    rw [z_pn τ 0 7 _ (j := 0) (i' := 10) (by omega), g4, if_pos rfl, z_pn τ 0 7 _ (j := 0) (i' := 12) (by omega), g5, z_g (z_in (show s < 60 by omega) (by decide)), z_nm, z_nm, z_cl (by omega), z_pn (rp_put τ 0 7 (nI (k + 1))) 7 s _ (j := 0) (i' := 12) (by omega), z_pn τ 0 7 _ (j := 0) (i' := 12) (by omega), g5, show (nI s + 1 : Int32) = nI (s + 1) from nI_1 _]
  rw [c3] at a2
  injection a2 with a2
  injection a2 with _ a2
  refine ⟨σ', _, a1, c2, ?_, ?_⟩
  · rw [z_pn _ _ _ _ (by omega), z_pn _ _ _ _ (by omega)]
    exact h.2.1.1
  · have sw : rp_put (rp_put (rp_put τ 7 s (enc v)) 0 12 (nI (s + 1))) 0 7 (nI (k + 1)) = τ' := by
      rw [← a2]
      funext a b
      simp only [z_put]
      by_cases q1 : a = 0 ∧ b = 7
      · rw [if_pos q1, if_neg (by omega), if_neg (by omega), if_pos q1]
      · rw [if_neg q1, if_neg q1]
    rw [sw]
    exact a3
/-- a number, in both -/
theorem zNum {t u : Nat} {σ0 τ0 : rp_St} (B : BS t u σ0 τ0) {d s e k0 : Nat} (hs0 : s ≤ k0) {rc0 rc1 rc2 rc3 rc4 rc5 : rp_St → Option (Int32 × rp_St)} : ∀ (r i a k N M : Nat) (σ τ : rp_St), i + r = 4 → r < N → r < M → a < 10 ^ i → PS t u σ0 τ0 d k s e σ τ → ((1 ≤ i ∧ k0 < k) ∨ (i = 0 ∧ k = k0 ∧ ∃ b, 48 ≤ b ∧ b ≤ 57 ∧ cx σ0 t k = nI b)) → ∃ σ' τ' k', rp_lp (fun _ _ _ => none) fX3_readNumber_4 N (nI a) (nI i) σ = some (0, σ') ∧ rp_lp (fun _ _ _ => none) (fX7_one_131 rc0 rc1 rc2 rc3 rc4 rc5) M (nI a) (nI i) τ = some (0, τ') ∧ PS t u σ0 τ0 d k' (s + 1) (e + 1) σ' τ' ∧ k0 < k' := by
  have h50 := B.1
  have fin : ∀ (i a k : Nat) (σ τ : rp_St), i ≤ 4 → a < 10 ^ i → PS t u σ0 τ0 d k s e σ τ → k0 < k → ∃ σ' τ', fX3_readNumber_48 (nI a) σ = some (0, σ') ∧ fX7_one_179 rc0 rc1 rc2 rc3 rc4 rc5 (nI a) τ = some (0, τ') ∧ PS t u σ0 τ0 d k (s + 1) (e + 1) σ' τ' := by
    intro i a k σ τ hi ha h hk
    have p4 : (10 : Nat) ^ i ≤ 10 ^ 4 := Nat.pow_le_pow_right (by decide) hi
    have e4 : (10 : Nat) ^ 4 = 10000 := by decide
    have kv : kV (nI a) = true := by
      unfold kV
      rw [decide_eq_true (show (0 : Int32) ≤ nI a from nI_pos' (by omega)), decide_eq_true (show nI a ≤ (9999 : Int32) from (z_le (b := 9999) (by omega) (by omega)).mpr (by omega))]
      rfl
    obtain ⟨σ', τ', a1, a2, a3⟩ := h.em B (nI a) (e' := e + 1) (by omega) (by unfold ds; rw [if_pos kv])
    rw [enc_pos (nI_pos' (by omega))] at a2
    exact ⟨σ', τ', by rw [fX3_readNumber_48, a1, z_bd], by rw [fX7_one_179, a2, z_bd], a3⟩
  intro r
  induction r with
  | zero =>
    intro i a k N M σ τ hi hN hM ha h hq
    obtain ⟨N, rfl⟩ : ∃ X, N = X + 1 := ⟨N - 1, by omega⟩
    obtain ⟨M, rfl⟩ : ∃ X, M = X + 1 := ⟨M - 1, by omega⟩
    obtain ⟨_, hk⟩ := hq.resolve_right (fun z => by omega)
    obtain ⟨σ', τ', a1, a2, a3⟩ := fin i a k σ τ (by omega) ha h hk
    refine ⟨σ', τ', k, ?_, ?_, a3, hk⟩
    · rw [z_lp, fX3_readNumber_4, if_pos (show (4 : Int32) ≤ nI i from (z_le (a := 4) (by omega) (by omega)).mpr (by omega))]
      exact a1
    · rw [z_lp, fX7_one_131, if_pos (show (4 : Int32) ≤ nI i from (z_le (a := 4) (by omega) (by omega)).mpr (by omega))]
      exact a2
  | succ r ih =>
    intro i a k N M σ τ hi hN hM ha h hq
    obtain ⟨N, rfl⟩ : ∃ X, N = X + 1 := ⟨N - 1, by omega⟩
    obtain ⟨M, rfl⟩ : ∃ X, M = X + 1 := ⟨M - 1, by omega⟩
    have hk0 : k0 ≤ k := by omega
    rw [z_lp, fX3_readNumber_4, if_neg (show ¬ (4 : Int32) ≤ nI i from fun z => by have := (z_le (a := 4) (by omega) (by omega)).mp z; omega), h.ax B, z_bd, z_lp, fX7_one_131, if_neg (show ¬ (4 : Int32) ≤ nI i from fun z => by have := (z_le (a := 4) (by omega) (by omega)).mp z; omega), h.am B, z_bd]
    rcases (B.ch k).dg with ⟨d1, d2⟩ | ⟨b, b1, b2, b3, b4, d1, d2⟩
    · have hk : k0 < k := by
        rcases hq with q | ⟨q1, q2, b, b1, b2, b3⟩
        · exact q.2
        · exfalso
          have := d1 σ
          rw [b3] at this
          unfold fX3_isDigit at this
          rw [if_neg (show ¬ nI b < (48 : Int32) from fun z => by have := (z_lt (b := 48) (by omega) (by omega)).mp z; omega), if_neg (show ¬ (57 : Int32) < nI b from fun z => by have := (z_lt (a := 57) (by omega) (by omega)).mp z; omega)] at this
          simp at this
      obtain ⟨σ', τ', a1, a2, a3⟩ := fin i a k σ τ (by omega) ha h hk
      refine ⟨σ', τ', k, ?_, ?_, a3, hk⟩
      · rw [d1, z_bd, if_pos rfl]
        exact a1
      · rw [d2, z_bd, if_pos rfl]
        exact a2
    · have hkt : k < t := cx_lt (σ0 := σ0) (fun z => by rw [b3] at z; exact nI_ne0 (by omega) (by omega) z)
      rw [d1, z_bd, if_neg (show ¬ (1 : Int32) = 0 by decide), h.ax B, z_bd, z_nm, z_nm, z_nm, d2, z_bd, if_neg (show ¬ (1 : Int32) = 0 by decide), h.am B, z_bd, z_nm, z_nm, z_nm, h.1.2.2.1, h.2.1.1, b3, b4, show (nI k + 1 : Int32) = nI (k + 1) from nI_1 _, show (nI i + 1 : Int32) = nI (i + 1) from nI_1 _, show (10 * nI a : Int32) = nI (10 * a) from pk_mul 10 a, show (nI b - 48 : Int32) = nI (b - 48) from pk_sub (a := b) (b := 48) b1, nI_add, nI_add, show (nI (10 * a + b) - 48 : Int32) = nI (10 * a + b - 48) from pk_sub (a := 10 * a + b) (b := 48) (by omega), show 10 * a + b - 48 = 10 * a + (b - 48) by omega]
      exact ih (i + 1) (10 * a + (b - 48)) (k + 1) N M _ _ (by omega) (by omega) (by omega) (by rw [Nat.pow_succ]; omega) (h.adv hkt) (Or.inl ⟨by omega, by omega⟩)
/-- what stands between the signs, in both -/
theorem q_one {t u : Nat} {σ0 τ0 : rp_St} (B : BS t u σ0 τ0) {d X G : Nat} (hd : d ≤ 5) (sub : d < 5 → ∃ Y, X = Y + 1 ∧ LSP t u σ0 τ0 (d + 1) (fun σ => (fX3_grp Y).2.1 (nI (d + 1)) σ) (fX7_grp G).2.2.2.2.2 ∧ LSP t u σ0 τ0 (d + 1) (fun σ => (fX3_grp Y).1 (nI 0) (nI (d + 1)) σ) (fX7_grp G).1) : LSP t u σ0 τ0 d (fun σ => (fX3_grp (X + 1)).2.1 (nI d) σ) (fX7_grp (G + 1)).2.2.2.2.2 := by
  have h50 := B.1
  intro k s e σ τ h
  show RES t u σ0 τ0 d k s e (fX3_readQ (fX3_grp X).1 (fX3_grp X).2.1 (fX3_grp X).2.2.1 (fX3_grp X).2.2.2 (nI d) σ) (fX7_one (fX7_grp G).1 (fX7_grp G).2.1 (fX7_grp G).2.2.1 (fX7_grp G).2.2.2.1 (fX7_grp G).2.2.2.2.1 (fX7_grp G).2.2.2.2.2 τ)
  have H := B.ch k
  have hk := h.2.2.1.1
  have hsk := h.2.2.1.2.1
  rw [fX3_readQ, h.ax B, z_bd, fX7_one, h.am B, z_bd]
  rcases H.dg with ⟨d1, d2⟩ | ⟨b, b1, b2, b3, b4, d1, d2⟩
  · rw [d1, z_bd, if_pos rfl, zx_nm _ B.2.1 h.1.2.1, z_bd]
    -- a bracket, or not
    have brk : ∀ x : Nat, (x = 33 ∨ x = 40) → cx σ0 t k = nI x → RES t u σ0 τ0 d k s e (fX3_readQ_57 (fX3_grp X).1 (fX3_grp X).2.1 (fX3_grp X).2.2.1 (fX3_grp X).2.2.2 (nI d) (nI x) σ) (fX7_one_17 (fX7_grp G).1 (fX7_grp G).2.1 (fX7_grp G).2.2.1 (fX7_grp G).2.2.2.1 (fX7_grp G).2.2.2.2.1 (fX7_grp G).2.2.2.2.2 (nI x) τ) := by
      intro x hx cxk
      have hkt : k < t := cx_lt (σ0 := σ0) (fun z => by rw [cxk] at z; exact nI_ne0 (by omega) (by omega) z)
      rw [fX3_readQ_57, fX7_one_17, h.2.1.2.1]
      by_cases d5 : d = 5
      · rw [if_neg (show ¬ nI d < (5 : Int32) from fun z => by have := (z_lt (b := 5) (by omega) (by omega)).mp z; omega), if_pos (show nI d = (5 : Int32) by rw [d5]; rfl), fX7_one_31, z_gb1, z_nm, z_p, if_neg (show ¬ (1 : Int32) = 0 by decide)]
        obtain ⟨w1, w2⟩ := h.w1 B
        exact ⟨0, σ, 0, _, rfl, rfl, Or.inr ⟨rfl, k, hk, w1, w2⟩⟩
      · obtain ⟨Y, rfl, hN, hC⟩ := sub (by omega)
        have P1 := (h.w0.op (d + 1)).adv hkt
        rw [if_pos (show nI d < (5 : Int32) from (z_lt (b := 5) (by omega) (by omega)).mpr (by omega)), z_nm, if_neg (show ¬ nI d = (5 : Int32) from fun z => d5 ((z_eq (b := 5) (by omega) (by omega)).mp z)), fX7_one_31, z_gb0, z_nm, z_p, if_pos rfl, z_nm, z_nm, h.w0.2.1.2.1, show (nI d + 1 : Int32) = nI (d + 1) from nI_1 _, (h.w0.op (d + 1)).2.1.1, h.1.2.2.1, show (nI k + 1 : Int32) = nI (k + 1) from nI_1 _]
        have e103 : ∀ (τ' : rp_St) (v : Int32), τ' 0 8 = v → fX7_one_103 (fX7_grp G).1 (fX7_grp G).2.1 (fX7_grp G).2.2.1 (fX7_grp G).2.2.2.1 (fX7_grp G).2.2.2.2.1 (fX7_grp G).2.2.2.2.2 τ' = some (0, rp_put τ' 0 8 (v - 1)) := by
          intro τ' v hv
          rw [fX7_one_103, z_nm, hv]
        have dm : (nI (d + 1) - 1 : Int32) = nI d := nI_pred d
        by_cases x33 : x = 33
        · rw [if_pos (show nI x = (33 : Int32) by rw [x33]; rfl), if_pos (show nI x = (33 : Int32) by rw [x33]; rfl)]
          show RES t u σ0 τ0 d k s e (rp_bd (fX3_readNot (fX3_grp Y).1 (fX3_grp Y).2.1 (fX3_grp Y).2.2.1 (fX3_grp Y).2.2.2 (nI (d + 1)) (rp_put σ 57 3 (nI (k + 1)))) (fun r4 σ5 => rp_gu (r4 == 0 || r4 == 1) (some (r4, σ5)))) _
          obtain ⟨r1, σ2, v2, τ2, a1, a2, a3⟩ := hN (k + 1) s e _ _ P1
          have a1 : (fX3_grp Y).2.1 (nI (d + 1)) (rp_put σ 57 3 (nI (k + 1))) = some (r1, σ2) := a1
          rw [fX3_readNot, a1, z_bd, a2, z_bd]
          rcases a3 with ⟨rfl, k', s', P2, l1, l2⟩ | ⟨rfl, k', l1, b1, b2⟩
          · obtain ⟨σ3, τ3, c1, c2, P3⟩ := P2.em B (-33) (e' := e + 1) (by omega) (by unfold ds; rw [if_neg (by decide +kernel), if_pos rfl, if_pos (by omega)])
            rw [show enc (-33) = 20010 by decide +kernel] at c2
            rw [if_neg (show ¬ (1 : Int32) = 0 by decide), c1, z_bd, z_bd, z_gb1, c2, z_bd, e103 τ3 _ P3.2.1.2.1, dm]
            exact ⟨1, σ3, 0, _, rfl, rfl, Or.inl ⟨rfl, k', s' + 1, P3.op d, by omega, by omega⟩⟩
          · rw [if_pos rfl, z_bd, z_gb0, b2.cd, z_bd, e103 τ2 _ rfl]
            exact ⟨0, σ2, 0, _, rfl, rfl, Or.inr ⟨rfl, k', l1, b1, b2.op _⟩⟩
        · have x40 : x = 40 := hx.resolve_left x33
          have n33 : ¬ nI x = (33 : Int32) := fun z => x33 ((z_eq (b := 33) (by omega) (by omega)).mp z)
          rw [if_neg n33, if_neg n33]
          show RES t u σ0 τ0 d k s e (rp_bd (fX3_readClosed (fX3_grp Y).1 (fX3_grp Y).2.1 (fX3_grp Y).2.2.1 (fX3_grp Y).2.2.2 (nI (d + 1)) (rp_put σ 57 3 (nI (k + 1)))) (fun r4 σ5 => rp_gu (r4 == 0 || r4 == 1) (some (r4, σ5)))) _
          obtain ⟨r1, σ2, v2, τ2, a1, a2, a3⟩ := hC (k + 1) s e _ _ P1
          have a1 : (fX3_grp Y).1 0 (nI (d + 1)) (rp_put σ 57 3 (nI (k + 1))) = some (r1, σ2) := a1
          rw [fX3_readClosed, a1, z_bd, a2, z_bd]
          rcases a3 with ⟨rfl, k', s', P2, l1, l2⟩ | ⟨rfl, k', l1, b1, b2⟩
          · have hk' := P2.2.2.1.1
            rw [if_neg (show ¬ (1 : Int32) = 0 by decide), P2.ax B, z_bd, P2.tk B 41 41 rfl (by decide) (by decide)]
            by_cases c41 : cx σ0 t k' = 41
            · have hkt' : k' < t := cx_lt (σ0 := σ0) (fun z => by rw [c41] at z; exact absurd z (by decide))
              have P3 := (P2.adv hkt').w0
              rw [if_pos c41, if_pos c41, z_nm, z_bd, z_gb1, z_bd, if_neg (show ¬ (1 : Int32) = 0 by decide), fX7_one_100, z_gb0, z_nm, e103 _ _ P3.2.1.2.1, dm, P2.1.2.2.1, show (nI k' + 1 : Int32) = nI (k' + 1) from nI_1 _]
              exact ⟨1, _, 0, _, rfl, rfl, Or.inl ⟨rfl, k' + 1, s', P3.op d, by omega, by omega⟩⟩
            · obtain ⟨w1, w2⟩ := P2.nop.w1 B
              rw [if_neg c41, if_neg c41, z_bd, z_gb0, z_bd, if_pos rfl, fX7_one_100, z_gb1, z_nm, e103 _ _ rfl]
              exact ⟨0, σ2, 0, _, rfl, rfl, Or.inr ⟨rfl, k', hk', w1, w2.op _⟩⟩
          · rw [if_pos rfl, z_bd, z_gb0, b2.tk 41 41 rfl (by decide), z_bd, if_pos rfl, fX7_one_100, z_gb1, z_nm, e103 _ _ rfl]
            exact ⟨0, σ2, 0, _, rfl, rfl, Or.inr ⟨rfl, k', l1, b1, b2.nop.w1.op _⟩⟩
    by_cases c33 : cx σ0 t k = nI 33
    · rw [c33, show nmc u (nI 33) = 0 by
        unfold nmc
        rw [if_neg (show ¬ nI 33 = (114 : Int32) by decide), if_neg (show ¬ nI 33 = (111 : Int32) by decide), if_neg (show ¬ nI 33 = (109 : Int32) by decide), if_neg (show ¬ nI 33 = (100 : Int32) by decide), if_neg (show ¬ nI 33 = (109 : Int32) by decide), if_neg (show ¬ nI 33 = (112 : Int32) by decide), ite_self], if_pos rfl, if_pos (show nI 33 = (33 : Int32) from rfl), (H.eq (x := 33) (by decide) (by decide)).mpr c33, if_pos (show nI 33 = (33 : Int32) from rfl)]
      exact brk 33 (Or.inl rfl) c33
    by_cases c40 : cx σ0 t k = nI 40
    · rw [c40, show nmc u (nI 40) = 0 by
        unfold nmc
        rw [if_neg (show ¬ nI 40 = (114 : Int32) by decide), if_neg (show ¬ nI 40 = (111 : Int32) by decide), if_neg (show ¬ nI 40 = (109 : Int32) by decide), if_neg (show ¬ nI 40 = (100 : Int32) by decide), if_neg (show ¬ nI 40 = (109 : Int32) by decide), if_neg (show ¬ nI 40 = (112 : Int32) by decide), ite_self], if_pos rfl, if_neg (show ¬ nI 40 = (33 : Int32) by decide), if_pos (show nI 40 = (40 : Int32) from rfl), (H.eq (x := 40) (by decide) (by decide)).mpr c40, if_neg (show ¬ nI 40 = (33 : Int32) by decide), if_pos (show nI 40 = (40 : Int32) from rfl)]
      exact brk 40 (Or.inr rfl) c40
    have h33 : ¬ cm τ0 t k = (33 : Int32) := fun z => c33 ((H.eq (x := 33) (by decide) (by decide)).mp z)
    have h40 : ¬ cm τ0 t k = (40 : Int32) := fun z => c40 ((H.eq (x := 40) (by decide) (by decide)).mp z)
    rw [if_neg h33, if_neg h40, d2, z_bd, if_pos rfl, zm_nm _ B.2.1 h.2.1.2.2.1, z_bd]
    rcases nm_both H B.2.1 with ⟨n1, n2⟩ | ⟨x, i, x1, x2, hi, x3, x4, x5, x6, x7, x8⟩
    · rw [n1, if_pos rfl, if_neg (show ¬ cx σ0 t k = (33 : Int32) from c33), if_neg (show ¬ cx σ0 t k = (40 : Int32) from c40), n2, ite_self, fX7_one_200, h.2.1.2.2.2.1, if_pos rfl, if_neg (show ¬ (0 : Int32) ≤ -1 by decide +kernel), fX7_one_213, fX7_one_218, z_gb1, z_nm, z_p, if_neg (show ¬ (1 : Int32) = 0 by decide)]
      obtain ⟨w1, w2⟩ := h.w1 B
      exact ⟨0, σ, 0, _, rfl, rfl, Or.inr ⟨rfl, k, hk, w1, w2⟩⟩
    · have hkt : k < t := cx_lt (σ0 := σ0) (fun z => by rw [x3] at z; exact nI_ne0 (by omega) (by omega) z)
      obtain ⟨σ', τ2, a1, a2, a3, a4⟩ := h.w0.nm B hkt (nmc u (cx σ0 t k)) (e' := e + 1) (by unfold ds; rw [if_pos x7])
      rw [x6] at a2
      rw [if_neg x8, z_nm, h.1.2.2.1, show (nI k + 1 : Int32) = nI (k + 1) from nI_1 _, a1, z_bd, if_pos (show (0 : Int32) ≤ cm τ0 t k by rw [x4]; exact nI_pos' (by omega)), x5, fX7_one_200, h.2.1.2.2.2.1, if_pos rfl, if_pos (show (0 : Int32) ≤ nI i from nI_pos' (by omega)), fX7_one_218, z_gb0, z_nm, z_p, if_pos rfl, a2, z_bd, z_nm, a3, show (nI k + 1 : Int32) = nI (k + 1) from nI_1 _]
      exact ⟨1, σ', 0, _, rfl, rfl, Or.inl ⟨rfl, k + 1, s + 1, a4, by omega, by omega⟩⟩
  · obtain ⟨σ', τ', k', a1, a2, a3, a4⟩ := zNum B (d := d) (s := s) (e := e) (k0 := k) hsk (rc0 := (fX7_grp G).1) (rc1 := (fX7_grp G).2.1) (rc2 := (fX7_grp G).2.2.1) (rc3 := (fX7_grp G).2.2.2.1) (rc4 := (fX7_grp G).2.2.2.2.1) (rc5 := (fX7_grp G).2.2.2.2.2) 4 0 0 k 300 300 σ τ (by omega) (by omega) (by omega) (by decide) h (Or.inr ⟨rfl, rfl, b, b1, b2, b3⟩)
    have a1 : fX3_readNumber σ = some (0, σ') := a1
    have a2 : rp_lp (fun _ _ _ => none) (fX7_one_131 (fX7_grp G).1 (fX7_grp G).2.1 (fX7_grp G).2.2.1 (fX7_grp G).2.2.2.1 (fX7_grp G).2.2.2.2.1 (fX7_grp G).2.2.2.2.2) 300 0 0 τ = some (0, τ') := a2
    rw [d1, z_bd, if_neg (show ¬ (1 : Int32) = 0 by decide), a1, z_bd, if_neg (show ¬ cm τ0 t k = (33 : Int32) by rw [b4]; exact fun z => by have := (z_eq (b := 33) (by omega) (by omega)).mp z; omega), if_neg (show ¬ cm τ0 t k = (40 : Int32) by rw [b4]; exact fun z => by have := (z_eq (b := 40) (by omega) (by omega)).mp z; omega), d2, z_bd, if_neg (show ¬ (1 : Int32) = 0 by decide), a2]
    exact ⟨1, σ', 0, τ', rfl, rfl, Or.inl ⟨rfl, k', s + 1, a3, a4, by omega⟩⟩
theorem q_all {t u : Nat} {σ0 τ0 : rp_St} (B : BS t u σ0 τ0) : ∀ (j d : Nat), d + j = 5 → ∀ F G, LSP t u σ0 τ0 d (fun σ => (fX3_grp (F + 8 * j + 1)).2.1 (nI d) σ) (fX7_grp (G + 6 * j + 1)).2.2.2.2.2 := by
  intro j
  induction j with
  | zero =>
    intro d hd F G
    exact q_one B (X := F + 8 * 0) (G := G + 6 * 0) (by omega) (fun z => by omega)
  | succ j ih =>
    intro d hd F G
    refine q_one B (X := F + 8 * (j + 1)) (G := G + 6 * (j + 1)) (by omega) (fun _ => ⟨F + 8 * j + 7, by omega, ?_, ?_⟩)
    · have := ih (d + 1) (by omega) (F + 6) (G + 5)
      rw [show F + 6 + 8 * j + 1 = F + 8 * j + 7 by omega, show G + 5 + 6 * j + 1 = G + 6 * (j + 1) by omega] at this
      exact this
    · have := lvl_all B (ih (d + 1) (by omega) F G)
      rw [show F + 8 * j + 1 + 6 = F + 8 * j + 7 by omega, show G + 6 * j + 1 + 5 = G + 6 * (j + 1) by omega] at this
      exact this
theorem text_all {t u : Nat} {σ0 τ0 : rp_St} (B : BS t u σ0 τ0) : LSP t u σ0 τ0 0 (fun σ => (fX3_grp 80).1 (nI 0) (nI 0) σ) (fX7_grp 80).1 := lvl_all B (q_all B 5 0 (by decide) 33 44)

