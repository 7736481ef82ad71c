def RES (t u : Nat) (σ0 τ0 : rp_St) (d k s e : Nat) (a b : Option (Int32 × rp_St)) : Prop := ∃ r σ' v τ', a = some (r, σ') ∧ b = some (v, τ') ∧ ((r = 1 ∧ ∃ k' s', PS t u σ0 τ0 d k' s' (e + 1) σ' τ' ∧ k < k' ∧ k + s' ≤ k' + s) ∨ (r = 0 ∧ ∃ k', k' ≤ t ∧ BDx σ0 k' σ' ∧ BDm τ0 k' τ'))
def LSP (t u : Nat) (σ0 τ0 : rp_St) (d : Nat) (C R : rp_St → Option (Int32 × rp_St)) : Prop := ∀ k s e σ τ, PS t u σ0 τ0 d k s e σ τ → RES t u σ0 τ0 d k s e (C σ) (R τ)
def LR (t u : Nat) (σ0 τ0 : rp_St) (d l : Nat) (Rs : rp_St → Option (Int32 × rp_St)) (R : Nat → rp_St → Option (Int32 × rp_St)) : Prop := (∀ M k s e σ τ, PS t u σ0 τ0 d k s e σ τ → ¬ lv (cx σ0 t k) = nI l → ∃ v τ', R (M + 1) τ = some (v, τ') ∧ PS t u σ0 τ0 d k s e σ τ') ∧ (∀ M k s e σ τ, PS t u σ0 τ0 d k s e σ τ → lv (cx σ0 t k) = nI l → ∃ τ', PS t u σ0 τ0 d (k + 1) s e (rp_put σ 57 3 (nI (k + 1))) τ' ∧ R (M + 1) τ = rp_bd (Rs τ') (fun _ σ4 => rp_bd (fX7_codes (enc (-(cx σ0 t k))) σ4) (fun _ σ6 => R M σ6))) ∧ (∀ M k τ, BDm τ0 k τ → ∃ v τ', R (M + 1) τ = some (v, τ') ∧ BDm τ0 k τ')
theorem lvk_0 : lv 0 = -1 := by decide +kernel
theorem lvk_ds {c : Int32} {l : Nat} (hl : l ≤ 4) (h : lv c = nI l) (e : Nat) : ds (-c) (e + 2) = some (e + 1) := by
  have key : ∀ x : Int32, c = x → kV (-x) = false → ¬ (-x) = -33 → kO (-x) = true → ds (-c) (e + 2) = some (e + 1) := by
    intro x hx k1 k2 k3
    rw [hx]
    unfold ds
    rw [if_neg (by rw [k1]; simp), if_neg k2, if_pos k3, if_pos (by omega)]
    rfl
  match l, hl with
  | 0, _ => exact key _ ((lv0 c).mp h) (by decide +kernel) (by decide +kernel) (by decide +kernel)
  | 1, _ => exact key _ ((lv1 c).mp h) (by decide +kernel) (by decide +kernel) (by decide +kernel)
  | 2, _ =>
    rcases (lv2 c).mp h with q | q | q
    · exact key _ q (by decide +kernel) (by decide +kernel) (by decide +kernel)
    · exact key _ q (by decide +kernel) (by decide +kernel) (by decide +kernel)
    · exact key _ q (by decide +kernel) (by decide +kernel) (by decide +kernel)
  | 3, _ =>
    rcases (lv3 c).mp h with q | q
    · exact key _ q (by decide +kernel) (by decide +kernel) (by decide +kernel)
    · exact key _ q (by decide +kernel) (by decide +kernel) (by decide +kernel)
  | 4, _ =>
    rcases (lv4 c).mp h with q | q | q
    · exact key _ q (by decide +kernel) (by decide +kernel) (by decide +kernel)
    · exact key _ q (by decide +kernel) (by decide +kernel) (by decide +kernel)
    · exact key _ q (by decide +kernel) (by decide +kernel) (by decide +kernel)
theorem lvk_lt {σ0 : rp_St} {t k l : Nat} (hl : l ≤ 4) (h : lv (cx σ0 t k) = nI l) : k < t := by
  refine cx_lt (σ0 := σ0) (fun z => ?_)
  rw [z, lvk_0] at h
  exact m1_ne (by omega) h
/-- the loop of a level: the class's -/
theorem x39 {t u : Nat} {σ0 τ0 : rp_St} (B : BS t u σ0 τ0) {rc0 : Int32 → Int32 → rp_St → Option (Int32 × rp_St)} {rc1 rc2 rc3 : Int32 → rp_St → Option (Int32 × rp_St)} (K : Int32 → Int32 → Int32 → Int32 → rp_St → Option (Int32 × rp_St)) {d k s e : Nat} {σ τ : rp_St} (h : PS t u σ0 τ0 d k s e σ τ) (l : Nat) (m i : Int32) (hm : ¬ m ≤ i) : fX3_readLevel_39 rc0 rc1 rc2 rc3 K (nI l) (nI d) m i σ = if lv (cx σ0 t k) = nI l then rp_bd (rc0 (nI (l + 1)) (nI d) (rp_put σ 57 3 (nI (k + 1)))) (fun r8 σ9 => if r8 = 0 then some (0, σ9) else rp_bd (fX3_emit (-(cx σ0 t k)) σ9) (fun _ σ11 => K (nI l) (nI d) m (i + 1) σ11)) else some (1, σ) := by
  rw [fX3_readLevel_39, if_neg hm, h.ax B, z_bd, zx_lv, z_bd]
  by_cases c : lv (cx σ0 t k) = nI l
  · rw [if_pos c, if_pos c, h.ax B, z_bd, z_nm, h.1.2.2.1, show (nI k + 1 : Int32) = nI (k + 1) from nI_1 _, show (nI l + 1 : Int32) = nI (l + 1) from nI_1 _]
    rfl
  · rw [if_neg c, if_neg c]
theorem lp_lvl {t u : Nat} {σ0 τ0 : rp_St} (B : BS t u σ0 τ0) {rc0 : Int32 → Int32 → rp_St → Option (Int32 × rp_St)} {rc1 rc2 rc3 : Int32 → rp_St → Option (Int32 × rp_St)} {d l : Nat} (hl : l ≤ 4) {Rs : rp_St → Option (Int32 × rp_St)} {R : Nat → rp_St → Option (Int32 × rp_St)} (hs : LSP t u σ0 τ0 d (fun σ => rc0 (nI (l + 1)) (nI d) σ) Rs) (hR : LR t u σ0 τ0 d l Rs R) : ∀ (r k s e i N M : Nat) (σ τ : rp_St), PS t u σ0 τ0 d k s (e + 1) σ τ → t - k ≤ r → i < k → r < N → r + 1 < M → ∃ r σ' v τ', rp_lp (fun _ _ _ _ _ => none) (fX3_readLevel_39 rc0 rc1 rc2 rc3) N (nI l) (nI d) (nI 50) (nI i) σ = some (r, σ') ∧ R M τ = some (v, τ') ∧ ((r = 1 ∧ ∃ k' s', PS t u σ0 τ0 d k' s' (e + 1) σ' τ' ∧ k ≤ k' ∧ k + s' ≤ k' + s) ∨ (r = 0 ∧ ∃ k', k' ≤ t ∧ BDx σ0 k' σ' ∧ BDm τ0 k' τ')) := by
  have h50 := B.1
  intro r
  induction r with
  | zero =>
    intro k s e i N M σ τ h hr hi hN hM
    obtain ⟨N, rfl⟩ : ∃ X, N = X + 1 := ⟨N - 1, by omega⟩
    obtain ⟨M, rfl⟩ : ∃ X, M = X + 1 := ⟨M - 1, by omega⟩
    have hk := h.2.2.1.1
    have nl : ¬ lv (cx σ0 t k) = nI l := fun z => by have := lvk_lt hl z; omega
    obtain ⟨v, τ', e1, e2⟩ := hR.1 M k s (e + 1) σ τ h nl
    refine ⟨1, σ, v, τ', ?_, e1, Or.inl ⟨rfl, k, s, e2, by omega, by omega⟩⟩
    rw [z_lp, x39 B _ h l (nI 50) (nI i) (by rw [z_le (by omega) (by omega)]; omega), if_neg nl]
  | succ r ih =>
    intro k s e i N M σ τ h hr hi hN hM
    obtain ⟨N, rfl⟩ : ∃ X, N = X + 1 := ⟨N - 1, by omega⟩
    obtain ⟨M, rfl⟩ : ∃ X, M = X + 1 := ⟨M - 1, by omega⟩
    have hk := h.2.2.1.1
    have hsk := h.2.2.1.2.1
    by_cases c : lv (cx σ0 t k) = nI l
    · have hkt := lvk_lt hl c
      obtain ⟨τ1, P1, e1⟩ := hR.2.1 M k s (e + 1) σ τ h c
      rw [z_lp, x39 B _ h l (nI 50) (nI i) (by rw [z_le (by omega) (by omega)]; omega), if_pos c, e1]
      obtain ⟨r1, σ2, v2, τ2, a1, a2, a3⟩ := hs (k + 1) s (e + 1) _ τ1 P1
      have a1 : rc0 (nI (l + 1)) (nI d) (rp_put σ 57 3 (nI (k + 1))) = some (r1, σ2) := a1
      rw [a1, z_bd, a2, z_bd]
      rcases a3 with ⟨rfl, k', s', P2, l1, l2⟩ | ⟨rfl, k', l1, b1, b2⟩
      · obtain ⟨σ3, τ3, c1, c2, P3⟩ := P2.em B (-(cx σ0 t k)) (by omega) (lvk_ds hl c e)
        rw [if_neg (show ¬ (1 : Int32) = 0 by decide), c1, z_bd, c2, z_bd, show (nI i + 1 : Int32) = nI (i + 1) from nI_1 _]
        obtain ⟨r', σ', v', τ', d1, d2, d3⟩ := ih k' (s' + 1) e (i + 1) N M σ3 τ3 P3 (by omega) (by omega) (by omega) (by omega)
        refine ⟨r', σ', v', τ', d1, d2, ?_⟩
        rcases d3 with ⟨q1, k2, s2, P4, m1, m2⟩ | q
        · exact Or.inl ⟨q1, k2, s2, P4, by omega, by omega⟩
        · exact Or.inr q
      · obtain ⟨M, rfl⟩ : ∃ X, M = X + 1 := ⟨M - 1, by omega⟩
        obtain ⟨v3, τ3, c1, c2⟩ := hR.2.2 M k' τ2 b2
        rw [if_pos rfl, b2.cd, z_bd, c1]
        exact ⟨0, σ2, v3, τ3, rfl, rfl, Or.inr ⟨rfl, k', l1, b1, c2⟩⟩
    · obtain ⟨v, τ', e1, e2⟩ := hR.1 M k s (e + 1) σ τ h c
      refine ⟨1, σ, v, τ', ?_, e1, Or.inl ⟨rfl, k, s, e2, by omega, by omega⟩⟩
      rw [z_lp, x39 B _ h l (nI 50) (nI i) (by rw [z_le (by omega) (by omega)]; omega), if_neg c]
theorem g31 (F : Nat) : (fX3_grp (F + 1)).1 = fX3_readLevel (fX3_grp F).1 (fX3_grp F).2.1 (fX3_grp F).2.2.1 (fX3_grp F).2.2.2 := rfl
theorem lvl_gen {t u : Nat} {σ0 τ0 : rp_St} (B : BS t u σ0 τ0) {d l F : Nat} (hl : l ≤ 4) (h2 : l ≠ 2) {Rs : rp_St → Option (Int32 × rp_St)} {R : Nat → rp_St → Option (Int32 × rp_St)} (hs : LSP t u σ0 τ0 d (fun σ => (fX3_grp F).1 (nI (l + 1)) (nI d) σ) Rs) (hR : LR t u σ0 τ0 d l Rs R) : LSP t u σ0 τ0 d (fun σ => (fX3_grp (F + 1)).1 (nI l) (nI d) σ) (fun τ => rp_bd (Rs τ) (fun _ σ2 => R 300 σ2)) := by
  have h50 := B.1
  intro k s e σ τ h
  show RES t u σ0 τ0 d k s e ((fX3_grp (F + 1)).1 (nI l) (nI d) σ) (rp_bd (Rs τ) (fun _ σ2 => R 300 σ2))
  rw [g31, fX3_readLevel, if_pos (show nI l ≤ (4 : Int32) from (z_le (b := 4) (by omega) (by omega)).mpr hl), show (nI l + 1 : Int32) = nI (l + 1) from nI_1 _]
  obtain ⟨r1, σ2, v2, τ2, a1, a2, a3⟩ := hs k s e σ τ h
  have a1 : (fX3_grp F).1 (nI (l + 1)) (nI d) σ = some (r1, σ2) := a1
  rw [a1, z_bd, a2, z_bd, if_neg (show ¬ nI l = (2 : Int32) from fun z => h2 ((z_eq (b := 2) (by omega) (by omega)).mp z)), fX3_readLevel_35]
  rcases a3 with ⟨rfl, k', s', P2, l1, l2⟩ | ⟨rfl, k', l1, b1, b2⟩
  · rw [if_neg (show ¬ (1 : Int32) = 0 by decide)]
    obtain ⟨r', σ', v', τ', d1, d2, d3⟩ := lp_lvl B (rc1 := (fX3_grp F).2.1) (rc2 := (fX3_grp F).2.2.1) (rc3 := (fX3_grp F).2.2.2) hl hs hR (t - k') k' s' e 0 300 300 σ2 τ2 P2 (by omega) (by omega) (by omega) (by omega)
    refine ⟨r', σ', v', τ', d1, d2, ?_⟩
    rcases d3 with ⟨q1, k2, s2, P4, m1, m2⟩ | q
    · exact Or.inl ⟨q1, k2, s2, P4, by omega, by omega⟩
    · exact Or.inr q
  · obtain ⟨v3, τ3, c1, c2⟩ := hR.2.2 299 k' τ2 b2
    rw [if_pos rfl, c1]
    exact ⟨0, σ2, v3, τ3, rfl, rfl, Or.inr ⟨rfl, k', l1, b1, c2⟩⟩
/-! the reference's loops -/

theorem LR_either {t u : Nat} {σ0 τ0 : rp_St} (B : BS t u σ0 τ0) {d : Nat} {rc0 rc1 rc2 rc3 rc4 rc5 : rp_St → Option (Int32 × rp_St)} : LR t u σ0 τ0 d 0 rc1 (fun M => rp_lp (fun _ => none) (fX7_either_4 rc0 rc1 rc2 rc3 rc4 rc5) M) := by
  refine ⟨fun M k s e σ τ h c => ?_, fun M k s e σ τ h c => ?_, fun M k τ h => ?_⟩
  · show ∃ v τ', rp_lp (fun _ => none) (fX7_either_4 rc0 rc1 rc2 rc3 rc4 rc5) (M + 1) τ = some (v, τ') ∧ _
    rw [z_lp, fX7_either_4, h.tk B 124 124 rfl (by decide) (by decide), if_neg (fun z => c ((lv0 _).mpr z)), z_bd, if_pos rfl]
    exact ⟨_, _, rfl, h.nop⟩
  · have c' := (lv0 _).mp c
    refine ⟨_, h.adv (lvk_lt (by decide) c), ?_⟩
    show rp_lp (fun _ => none) (fX7_either_4 rc0 rc1 rc2 rc3 rc4 rc5) (M + 1) τ = _
    rw [z_lp, fX7_either_4, h.tk B 124 124 rfl (by decide) (by decide), if_pos c', z_bd, if_neg (show ¬ (1 : Int32) = 0 by decide), c', show enc (-124) = 20000 by decide +kernel]
  · show ∃ v τ', rp_lp (fun _ => none) (fX7_either_4 rc0 rc1 rc2 rc3 rc4 rc5) (M + 1) τ = some (v, τ') ∧ _
    rw [z_lp, fX7_either_4, h.tk 124 124 rfl (by decide), z_bd, if_pos rfl]
    exact ⟨_, _, rfl, h.nop⟩
theorem LR_both {t u : Nat} {σ0 τ0 : rp_St} (B : BS t u σ0 τ0) {d : Nat} {rc0 rc1 rc2 rc3 rc4 rc5 : rp_St → Option (Int32 × rp_St)} : LR t u σ0 τ0 d 1 rc2 (fun M => rp_lp (fun _ => none) (fX7_both_4 rc0 rc1 rc2 rc3 rc4 rc5) M) := by
  refine ⟨fun M k s e σ τ h c => ?_, fun M k s e σ τ h c => ?_, fun M k τ h => ?_⟩
  · show ∃ v τ', rp_lp (fun _ => none) (fX7_both_4 rc0 rc1 rc2 rc3 rc4 rc5) (M + 1) τ = some (v, τ') ∧ _
    rw [z_lp, fX7_both_4, h.tk B 38 38 rfl (by decide) (by decide), if_neg (fun z => c ((lv1 _).mpr z)), z_bd, if_pos rfl]
    exact ⟨_, _, rfl, h.nop⟩
  · have c' := (lv1 _).mp c
    refine ⟨_, h.adv (lvk_lt (by decide) c), ?_⟩
    show rp_lp (fun _ => none) (fX7_both_4 rc0 rc1 rc2 rc3 rc4 rc5) (M + 1) τ = _
    rw [z_lp, fX7_both_4, h.tk B 38 38 rfl (by decide) (by decide), if_pos c', z_bd, if_neg (show ¬ (1 : Int32) = 0 by decide), c', show enc (-38) = 20001 by decide +kernel]
  · show ∃ v τ', rp_lp (fun _ => none) (fX7_both_4 rc0 rc1 rc2 rc3 rc4 rc5) (M + 1) τ = some (v, τ') ∧ _
    rw [z_lp, fX7_both_4, h.tk 38 38 rfl (by decide), z_bd, if_pos rfl]
    exact ⟨_, _, rfl, h.nop⟩
def pk2 (K : Int32 → rp_St → Option (Int32 × rp_St)) (τ : rp_St) : Option (Int32 × rp_St) := rp_bd (fX7_takes 60 τ) (fun r0 s0 => if r0 = 0 then rp_bd (fX7_takes 61 s0) (fun r1 s1 => if r1 = 0 then rp_bd (fX7_takes 62 s1) (fun r2 s2 => if r2 = 0 then K 0 s2 else K 20004 s2) else K 20003 s1) else K 20002 s0)
theorem pk2_P {t u : Nat} {σ0 τ0 : rp_St} (B : BS t u σ0 τ0) {d k s e : Nat} {σ τ : rp_St} (h : PS t u σ0 τ0 d k s e σ τ) (K : Int32 → rp_St → Option (Int32 × rp_St)) : (¬ lv (cx σ0 t k) = 2 ∧ ∃ τ', PS t u σ0 τ0 d k s e σ τ' ∧ pk2 K τ = K 0 τ') ∨ (lv (cx σ0 t k) = 2 ∧ ∃ τ', PS t u σ0 τ0 d (k + 1) s e (rp_put σ 57 3 (nI (k + 1))) τ' ∧ pk2 K τ = K (enc (-(cx σ0 t k))) τ') := by
  unfold pk2
  by_cases c60 : cx σ0 t k = 60
  · right
    have cl : lv (cx σ0 t k) = 2 := (lv2 _).mpr (Or.inl c60)
    refine ⟨cl, _, (h).adv (lvk_lt (l := 2) (by decide) cl), ?_⟩
    rw [(h).tk B 60 60 rfl (by decide) (by decide), if_pos c60, z_bd, if_neg (show ¬ (1 : Int32) = 0 by decide), c60, show enc (-60) = 20002 by decide +kernel]
  rw [(h).tk B 60 60 rfl (by decide) (by decide), if_neg c60, z_bd, if_pos rfl]
  by_cases c61 : cx σ0 t k = 61
  · right
    have cl : lv (cx σ0 t k) = 2 := (lv2 _).mpr (Or.inr (Or.inl c61))
    refine ⟨cl, _, (h.nop).adv (lvk_lt (l := 2) (by decide) cl), ?_⟩
    rw [(h.nop).tk B 61 61 rfl (by decide) (by decide), if_pos c61, z_bd, if_neg (show ¬ (1 : Int32) = 0 by decide), c61, show enc (-61) = 20003 by decide +kernel]
  rw [(h.nop).tk B 61 61 rfl (by decide) (by decide), if_neg c61, z_bd, if_pos rfl]
  by_cases c62 : cx σ0 t k = 62
  · right
    have cl : lv (cx σ0 t k) = 2 := (lv2 _).mpr (Or.inr (Or.inr c62))
    refine ⟨cl, _, (h.nop.nop).adv (lvk_lt (l := 2) (by decide) cl), ?_⟩
    rw [(h.nop.nop).tk B 62 62 rfl (by decide) (by decide), if_pos c62, z_bd, if_neg (show ¬ (1 : Int32) = 0 by decide), c62, show enc (-62) = 20004 by decide +kernel]
  rw [(h.nop.nop).tk B 62 62 rfl (by decide) (by decide), if_neg c62, z_bd, if_pos rfl]
  left
  refine ⟨fun z => ?_, _, h.nop.nop.nop, rfl⟩
  rcases (lv2 _).mp z with q | q | q
  · exact c60 q
  · exact c61 q
  · exact c62 q
theorem pk2_B {τ0 : rp_St} {k : Nat} {τ : rp_St} (h : BDm τ0 k τ) (K : Int32 → rp_St → Option (Int32 × rp_St)) : ∃ τ', BDm τ0 k τ' ∧ pk2 K τ = K 0 τ' := by
  unfold pk2
  rw [(h).tk 60 60 rfl (by decide), z_bd, if_pos rfl]
  rw [(h.nop).tk 61 61 rfl (by decide), z_bd, if_pos rfl]
  rw [(h.nop.nop).tk 62 62 rfl (by decide), z_bd, if_pos rfl]
  exact ⟨_, h.nop.nop.nop, rfl⟩
def pk3 (K : Int32 → rp_St → Option (Int32 × rp_St)) (τ : rp_St) : Option (Int32 × rp_St) := rp_bd (fX7_takes 43 τ) (fun r0 s0 => if r0 = 0 then rp_bd (fX7_takes 45 s0) (fun r1 s1 => if r1 = 0 then K 0 s1 else K 20006 s1) else K 20005 s0)
theorem pk3_P {t u : Nat} {σ0 τ0 : rp_St} (B : BS t u σ0 τ0) {d k s e : Nat} {σ τ : rp_St} (h : PS t u σ0 τ0 d k s e σ τ) (K : Int32 → rp_St → Option (Int32 × rp_St)) : (¬ lv (cx σ0 t k) = 3 ∧ ∃ τ', PS t u σ0 τ0 d k s e σ τ' ∧ pk3 K τ = K 0 τ') ∨ (lv (cx σ0 t k) = 3 ∧ ∃ τ', PS t u σ0 τ0 d (k + 1) s e (rp_put σ 57 3 (nI (k + 1))) τ' ∧ pk3 K τ = K (enc (-(cx σ0 t k))) τ') := by
  unfold pk3
  by_cases c43 : cx σ0 t k = 43
  · right
    have cl : lv (cx σ0 t k) = 3 := (lv3 _).mpr (Or.inl c43)
    refine ⟨cl, _, (h).adv (lvk_lt (l := 3) (by decide) cl), ?_⟩
    rw [(h).tk B 43 43 rfl (by decide) (by decide), if_pos c43, z_bd, if_neg (show ¬ (1 : Int32) = 0 by decide), c43, show enc (-43) = 20005 by decide +kernel]
  rw [(h).tk B 43 43 rfl (by decide) (by decide), if_neg c43, z_bd, if_pos rfl]
  by_cases c45 : cx σ0 t k = 45
  · right
    have cl : lv (cx σ0 t k) = 3 := (lv3 _).mpr (Or.inr c45)
    refine ⟨cl, _, (h.nop).adv (lvk_lt (l := 3) (by decide) cl), ?_⟩
    rw [(h.nop).tk B 45 45 rfl (by decide) (by decide), if_pos c45, z_bd, if_neg (show ¬ (1 : Int32) = 0 by decide), c45, show enc (-45) = 20006 by decide +kernel]
  rw [(h.nop).tk B 45 45 rfl (by decide) (by decide), if_neg c45, z_bd, if_pos rfl]
  left
  refine ⟨fun z => ?_, _, h.nop.nop, rfl⟩
  rcases (lv3 _).mp z with q | q
  · exact c43 q
  · exact c45 q
theorem pk3_B {τ0 : rp_St} {k : Nat} {τ : rp_St} (h : BDm τ0 k τ) (K : Int32 → rp_St → Option (Int32 × rp_St)) : ∃ τ', BDm τ0 k τ' ∧ pk3 K τ = K 0 τ' := by
  unfold pk3
  rw [(h).tk 43 43 rfl (by decide), z_bd, if_pos rfl]
  rw [(h.nop).tk 45 45 rfl (by decide), z_bd, if_pos rfl]
  exact ⟨_, h.nop.nop, rfl⟩
def pk4 (K : Int32 → rp_St → Option (Int32 × rp_St)) (τ : rp_St) : Option (Int32 × rp_St) := rp_bd (fX7_takes 42 τ) (fun r0 s0 => if r0 = 0 then rp_bd (fX7_takes 47 s0) (fun r1 s1 => if r1 = 0 then rp_bd (fX7_takes 37 s1) (fun r2 s2 => if r2 = 0 then K 0 s2 else K 20009 s2) else K 20008 s1) else K 20007 s0)
theorem pk4_P {t u : Nat} {σ0 τ0 : rp_St} (B : BS t u σ0 τ0) {d k s e : Nat} {σ τ : rp_St} (h : PS t u σ0 τ0 d k s e σ τ) (K : Int32 → rp_St → Option (Int32 × rp_St)) : (¬ lv (cx σ0 t k) = 4 ∧ ∃ τ', PS t u σ0 τ0 d k s e σ τ' ∧ pk4 K τ = K 0 τ') ∨ (lv (cx σ0 t k) = 4 ∧ ∃ τ', PS t u σ0 τ0 d (k + 1) s e (rp_put σ 57 3 (nI (k + 1))) τ' ∧ pk4 K τ = K (enc (-(cx σ0 t k))) τ') := by
  unfold pk4
  by_cases c42 : cx σ0 t k = 42
  · right
    have cl : lv (cx σ0 t k) = 4 := (lv4 _).mpr (Or.inr (Or.inl c42))
    refine ⟨cl, _, (h).adv (lvk_lt (l := 4) (by decide) cl), ?_⟩
    rw [(h).tk B 42 42 rfl (by decide) (by decide), if_pos c42, z_bd, if_neg (show ¬ (1 : Int32) = 0 by decide), c42, show enc (-42) = 20007 by decide +kernel]
  rw [(h).tk B 42 42 rfl (by decide) (by decide), if_neg c42, z_bd, if_pos rfl]
  by_cases c47 : cx σ0 t k = 47
  · right
    have cl : lv (cx σ0 t k) = 4 := (lv4 _).mpr (Or.inr (Or.inr c47))
    refine ⟨cl, _, (h.nop).adv (lvk_lt (l := 4) (by decide) cl), ?_⟩
    rw [(h.nop).tk B 47 47 rfl (by decide) (by decide), if_pos c47, z_bd, if_neg (show ¬ (1 : Int32) = 0 by decide), c47, show enc (-47) = 20008 by decide +kernel]
  rw [(h.nop).tk B 47 47 rfl (by decide) (by decide), if_neg c47, z_bd, if_pos rfl]
  by_cases c37 : cx σ0 t k = 37
  · right
    have cl : lv (cx σ0 t k) = 4 := (lv4 _).mpr (Or.inl c37)
    refine ⟨cl, _, (h.nop.nop).adv (lvk_lt (l := 4) (by decide) cl), ?_⟩
    rw [(h.nop.nop).tk B 37 37 rfl (by decide) (by decide), if_pos c37, z_bd, if_neg (show ¬ (1 : Int32) = 0 by decide), c37, show enc (-37) = 20009 by decide +kernel]
  rw [(h.nop.nop).tk B 37 37 rfl (by decide) (by decide), if_neg c37, z_bd, if_pos rfl]
  left
  refine ⟨fun z => ?_, _, h.nop.nop.nop, rfl⟩
  rcases (lv4 _).mp z with q | q | q
  · exact c37 q
  · exact c42 q
  · exact c47 q
theorem pk4_B {τ0 : rp_St} {k : Nat} {τ : rp_St} (h : BDm τ0 k τ) (K : Int32 → rp_St → Option (Int32 × rp_St)) : ∃ τ', BDm τ0 k τ' ∧ pk4 K τ = K 0 τ' := by
  unfold pk4
  rw [(h).tk 42 42 rfl (by decide), z_bd, if_pos rfl]
  rw [(h.nop).tk 47 47 rfl (by decide), z_bd, if_pos rfl]
  rw [(h.nop.nop).tk 37 37 rfl (by decide), z_bd, if_pos rfl]
  exact ⟨_, h.nop.nop.nop, rfl⟩
theorem pos_enc3 {c : Int32} (h : lv c = 3) : ¬ enc (-c) ≤ 0 := by
  rcases (lv3 _).mp h with q | q <;> (rw [q]; decide +kernel)
theorem LR_sum {t u : Nat} {σ0 τ0 : rp_St} (B : BS t u σ0 τ0) {d : Nat} {rc0 rc1 rc2 rc3 rc4 rc5 : rp_St → Option (Int32 × rp_St)} : LR t u σ0 τ0 d 3 rc4 (fun M => pk3 (rp_lp (fun _ _ => none) (fX7_sum_36 rc0 rc1 rc2 rc3 rc4 rc5) M)) := by
  refine ⟨fun M k s e σ τ h c => ?_, fun M k s e σ τ h c => ?_, fun M k τ h => ?_⟩
  · show ∃ v τ', pk3 (rp_lp (fun _ _ => none) (fX7_sum_36 rc0 rc1 rc2 rc3 rc4 rc5) (M + 1)) τ = some (v, τ') ∧ _
    rcases pk3_P B h (rp_lp (fun _ _ => none) (fX7_sum_36 rc0 rc1 rc2 rc3 rc4 rc5) (M + 1)) with ⟨_, τ', P1, e1⟩ | ⟨q, _⟩
    · rw [e1, z_lp, fX7_sum_36, if_pos (show (0 : Int32) ≤ 0 by decide +kernel)]
      exact ⟨_, _, rfl, P1⟩
    · exact absurd q c
  · rcases pk3_P B h (rp_lp (fun _ _ => none) (fX7_sum_36 rc0 rc1 rc2 rc3 rc4 rc5) (M + 1)) with ⟨q, _⟩ | ⟨q, τ', P1, e1⟩
    · exact absurd c q
    · refine ⟨τ', P1, ?_⟩
      show pk3 (rp_lp (fun _ _ => none) (fX7_sum_36 rc0 rc1 rc2 rc3 rc4 rc5) (M + 1)) τ = _
      rw [e1, z_lp, fX7_sum_36, if_neg (pos_enc3 q)]
      rfl
  · show ∃ v τ', pk3 (rp_lp (fun _ _ => none) (fX7_sum_36 rc0 rc1 rc2 rc3 rc4 rc5) (M + 1)) τ = some (v, τ') ∧ _
    obtain ⟨τ', P1, e1⟩ := pk3_B h (rp_lp (fun _ _ => none) (fX7_sum_36 rc0 rc1 rc2 rc3 rc4 rc5) (M + 1))
    rw [e1, z_lp, fX7_sum_36, if_pos (show (0 : Int32) ≤ 0 by decide +kernel)]
    exact ⟨_, _, rfl, P1⟩
theorem pos_enc4 {c : Int32} (h : lv c = 4) : ¬ enc (-c) ≤ 0 := by
  rcases (lv4 _).mp h with q | q | q <;> (rw [q]; decide +kernel)
theorem LR_product {t u : Nat} {σ0 τ0 : rp_St} (B : BS t u σ0 τ0) {d : Nat} {rc0 rc1 rc2 rc3 rc4 rc5 : rp_St → Option (Int32 × rp_St)} : LR t u σ0 τ0 d 4 rc5 (fun M => pk4 (rp_lp (fun _ _ => none) (fX7_product_51 rc0 rc1 rc2 rc3 rc4 rc5) M)) := by
  refine ⟨fun M k s e σ τ h c => ?_, fun M k s e σ τ h c => ?_, fun M k τ h => ?_⟩
  · show ∃ v τ', pk4 (rp_lp (fun _ _ => none) (fX7_product_51 rc0 rc1 rc2 rc3 rc4 rc5) (M + 1)) τ = some (v, τ') ∧ _
    rcases pk4_P B h (rp_lp (fun _ _ => none) (fX7_product_51 rc0 rc1 rc2 rc3 rc4 rc5) (M + 1)) with ⟨_, τ', P1, e1⟩ | ⟨q, _⟩
    · rw [e1, z_lp, fX7_product_51, if_pos (show (0 : Int32) ≤ 0 by decide +kernel)]
      exact ⟨_, _, rfl, P1⟩
    · exact absurd q c
  · rcases pk4_P B h (rp_lp (fun _ _ => none) (fX7_product_51 rc0 rc1 rc2 rc3 rc4 rc5) (M + 1)) with ⟨q, _⟩ | ⟨q, τ', P1, e1⟩
    · exact absurd c q
    · refine ⟨τ', P1, ?_⟩
      show pk4 (rp_lp (fun _ _ => none) (fX7_product_51 rc0 rc1 rc2 rc3 rc4 rc5) (M + 1)) τ = _
      rw [e1, z_lp, fX7_product_51, if_neg (pos_enc4 q)]
      rfl
  · show ∃ v τ', pk4 (rp_lp (fun _ _ => none) (fX7_product_51 rc0 rc1 rc2 rc3 rc4 rc5) (M + 1)) τ = some (v, τ') ∧ _
    obtain ⟨τ', P1, e1⟩ := pk4_B h (rp_lp (fun _ _ => none) (fX7_product_51 rc0 rc1 rc2 rc3 rc4 rc5) (M + 1))
    rw [e1, z_lp, fX7_product_51, if_pos (show (0 : Int32) ≤ 0 by decide +kernel)]
    exact ⟨_, _, rfl, P1⟩
theorem tp_either {rc0 rc1 rc2 rc3 rc4 rc5 : rp_St → Option (Int32 × rp_St)} (τ : rp_St) : fX7_either rc0 rc1 rc2 rc3 rc4 rc5 τ = rp_bd (rc1 τ) (fun _ σ2 => rp_lp (fun _ => none) (fX7_either_4 rc0 rc1 rc2 rc3 rc4 rc5) 300 σ2) := rfl
theorem tp_both {rc0 rc1 rc2 rc3 rc4 rc5 : rp_St → Option (Int32 × rp_St)} (τ : rp_St) : fX7_both rc0 rc1 rc2 rc3 rc4 rc5 τ = rp_bd (rc2 τ) (fun _ σ2 => rp_lp (fun _ => none) (fX7_both_4 rc0 rc1 rc2 rc3 rc4 rc5) 300 σ2) := rfl
theorem tp_sum {rc0 rc1 rc2 rc3 rc4 rc5 : rp_St → Option (Int32 × rp_St)} (τ : rp_St) : fX7_sum rc0 rc1 rc2 rc3 rc4 rc5 τ = rp_bd (rc4 τ) (fun _ σ2 => pk3 (rp_lp (fun _ _ => none) (fX7_sum_36 rc0 rc1 rc2 rc3 rc4 rc5) 300) σ2) := rfl
theorem tp_product {rc0 rc1 rc2 rc3 rc4 rc5 : rp_St → Option (Int32 × rp_St)} (τ : rp_St) : fX7_product rc0 rc1 rc2 rc3 rc4 rc5 τ = rp_bd (rc5 τ) (fun _ σ2 => pk4 (rp_lp (fun _ _ => none) (fX7_product_51 rc0 rc1 rc2 rc3 rc4 rc5) 300) σ2) := rfl
theorem tp_compared {rc0 rc1 rc2 rc3 rc4 rc5 : rp_St → Option (Int32 × rp_St)} (τ : rp_St) : fX7_compared rc0 rc1 rc2 rc3 rc4 rc5 τ = rp_bd (rc3 τ) (fun _ σ2 => pk2 (fX7_compared_50 rc0 rc1 rc2 rc3 rc4 rc5) σ2) := rfl
theorem pos_enc2 {c : Int32} (h : lv c = 2) : ¬ enc (-c) ≤ 0 := by
  rcases (lv2 _).mp h with q | q | q <;> (rw [q]; decide +kernel)
theorem lvl_2 {t u : Nat} {σ0 τ0 : rp_St} (B : BS t u σ0 τ0) {d F : Nat} {rc0 rc1 rc2 rc3 rc4 rc5 : rp_St → Option (Int32 × rp_St)} (hs : LSP t u σ0 τ0 d (fun σ => (fX3_grp F).1 (nI 3) (nI d) σ) rc3) : LSP t u σ0 τ0 d (fun σ => (fX3_grp (F + 1)).1 (nI 2) (nI d) σ) (fX7_compared rc0 rc1 rc2 rc3 rc4 rc5) := by
  have h50 := B.1
  intro k s e σ τ h
  show RES t u σ0 τ0 d k s e ((fX3_grp (F + 1)).1 (nI 2) (nI d) σ) (fX7_compared rc0 rc1 rc2 rc3 rc4 rc5 τ)
  have hsk := h.2.2.1.2.1
  rw [tp_compared, g31, fX3_readLevel, if_pos (show nI 2 ≤ (4 : Int32) by decide +kernel), show (nI 2 + 1 : Int32) = nI 3 from nI_1 _]
  obtain ⟨r1, σ2, v2, τ2, a1, a2, a3⟩ := hs k s e σ τ h
  have a1 : (fX3_grp F).1 (nI 3) (nI d) σ = some (r1, σ2) := a1
  rw [a1, z_bd, a2, z_bd, if_pos (show nI 2 = (2 : Int32) from rfl), fX3_readLevel_35]
  rcases a3 with ⟨rfl, k', s', P2, l1, l2⟩ | ⟨rfl, k', l1, b1, b2⟩
  · rw [if_neg (show ¬ (1 : Int32) = 0 by decide), show (300 : Nat) = 299 + 1 from rfl, z_lp, x39 B _ P2 2 1 0 (by decide +kernel)]
    rcases pk2_P B P2 (fX7_compared_50 rc0 rc1 rc2 rc3 rc4 rc5) with ⟨q, τ', P3, e1⟩ | ⟨q, τ', P3, e1⟩
    · rw [if_neg (show ¬ lv (cx σ0 t k') = nI 2 from q), e1, fX7_compared_50, if_pos (show (0 : Int32) ≤ 0 by decide +kernel)]
      exact ⟨1, σ2, 0, τ', rfl, rfl, Or.inl ⟨rfl, k', s', P3, l1, l2⟩⟩
    · rw [if_pos (show lv (cx σ0 t k') = nI 2 from q), e1, fX7_compared_50, if_neg (pos_enc2 q)]
      have hkt := lvk_lt (l := 2) (by decide) q
      have hsk' := P2.2.2.1.2.1
      obtain ⟨r3, σ4, v4, τ4, c1, c2, c3⟩ := hs (k' + 1) s' (e + 1) _ τ' P3
      have c1 : (fX3_grp F).1 (nI 3) (nI d) (rp_put σ2 57 3 (nI (k' + 1))) = some (r3, σ4) := c1
      rw [show nI (2 + 1) = nI 3 from rfl, c1, z_bd, c2, z_bd]
      rcases c3 with ⟨rfl, k2, s2, P4, m1, m2⟩ | ⟨rfl, k2, m1, b1, b2⟩
      · obtain ⟨σ5, τ5, g1, g2, P5⟩ := P4.em B (-(cx σ0 t k')) (by omega) (lvk_ds (l := 2) (by decide) q e)
        rw [if_neg (show ¬ (1 : Int32) = 0 by decide), g1, z_bd, g2, z_bd, show (299 : Nat) = 298 + 1 from rfl, z_lp, fX3_readLevel_39, if_pos (show (1 : Int32) ≤ 0 + 1 by decide +kernel)]
        exact ⟨1, σ5, 0, τ5, rfl, rfl, Or.inl ⟨rfl, k2, s2 + 1, P5, by omega, by omega⟩⟩
      · rw [if_pos rfl, b2.cd, z_bd]
        exact ⟨0, σ4, 0, τ4, rfl, rfl, Or.inr ⟨rfl, k2, m1, b1, b2⟩⟩
  · obtain ⟨τ3, c1, e1⟩ := pk2_B b2 (fX7_compared_50 rc0 rc1 rc2 rc3 rc4 rc5)
    rw [if_pos rfl, e1, fX7_compared_50, if_pos (show (0 : Int32) ≤ 0 by decide +kernel)]
    exact ⟨0, σ2, 0, τ3, rfl, rfl, Or.inr ⟨rfl, k', l1, b1, c1⟩⟩
/-- all levels, over what stands between the signs -/
theorem lvl_all {t u : Nat} {σ0 τ0 : rp_St} (B : BS t u σ0 τ0) {d F G : Nat} (hq : LSP t u σ0 τ0 d (fun σ => (fX3_grp F).2.1 (nI d) σ) (fX7_grp G).2.2.2.2.2) : LSP t u σ0 τ0 d (fun σ => (fX3_grp (F + 6)).1 (nI 0) (nI d) σ) (fX7_grp (G + 5)).1 := by
  have h5 : LSP t u σ0 τ0 d (fun σ => (fX3_grp (F + 1)).1 (nI 5) (nI d) σ) (fX7_grp G).2.2.2.2.2 := by
    intro k s e σ τ h
    obtain ⟨r, σ', v, τ', a1, a2, a3⟩ := hq k s e σ τ h
    refine ⟨r, σ', v, τ', ?_, a2, a3⟩
    have a1 : (fX3_grp F).2.1 (nI d) σ = some (r, σ') := a1
    show (fX3_grp (F + 1)).1 (nI 5) (nI d) σ = some (r, σ')
    rw [g31, fX3_readLevel, if_neg (show ¬ nI 5 ≤ (4 : Int32) by decide +kernel), a1, z_bd]
    rcases a3 with ⟨rfl, _⟩ | ⟨rfl, _⟩ <;> rfl
  have h4 : LSP t u σ0 τ0 d (fun σ => (fX3_grp (F + 2)).1 (nI 4) (nI d) σ) (fX7_grp (G + 1)).2.2.2.2.1 := by
    intro k s e σ τ h
    have := lvl_gen B (l := 4) (F := F + 1) (by decide) (by decide) h5 (LR_product B (rc0 := (fX7_grp G).1) (rc1 := (fX7_grp G).2.1) (rc2 := (fX7_grp G).2.2.1) (rc3 := (fX7_grp G).2.2.2.1) (rc4 := (fX7_grp G).2.2.2.2.1)) k s e σ τ h
    exact this
  have h3 : LSP t u σ0 τ0 d (fun σ => (fX3_grp (F + 3)).1 (nI 3) (nI d) σ) (fX7_grp (G + 2)).2.2.2.1 := by
    intro k s e σ τ h
    have := lvl_gen B (l := 3) (F := F + 2) (by decide) (by decide) h4 (LR_sum B (rc0 := (fX7_grp (G + 1)).1) (rc1 := (fX7_grp (G + 1)).2.1) (rc2 := (fX7_grp (G + 1)).2.2.1) (rc3 := (fX7_grp (G + 1)).2.2.2.1) (rc5 := (fX7_grp (G + 1)).2.2.2.2.2)) k s e σ τ h
    exact this
  have h2 : LSP t u σ0 τ0 d (fun σ => (fX3_grp (F + 4)).1 (nI 2) (nI d) σ) (fX7_grp (G + 3)).2.2.1 := lvl_2 B (F := F + 3) (rc0 := (fX7_grp (G + 2)).1) (rc1 := (fX7_grp (G + 2)).2.1) (rc2 := (fX7_grp (G + 2)).2.2.1) (rc4 := (fX7_grp (G + 2)).2.2.2.2.1) (rc5 := (fX7_grp (G + 2)).2.2.2.2.2) h3
  have h1 : LSP t u σ0 τ0 d (fun σ => (fX3_grp (F + 5)).1 (nI 1) (nI d) σ) (fX7_grp (G + 4)).2.1 := by
    intro k s e σ τ h
    have := lvl_gen B (l := 1) (F := F + 4) (by decide) (by decide) h2 (LR_both B (rc0 := (fX7_grp (G + 3)).1) (rc1 := (fX7_grp (G + 3)).2.1) (rc3 := (fX7_grp (G + 3)).2.2.2.1) (rc4 := (fX7_grp (G + 3)).2.2.2.2.1) (rc5 := (fX7_grp (G + 3)).2.2.2.2.2)) k s e σ τ h
    exact this
  intro k s e σ τ h
  have := lvl_gen B (l := 0) (F := F + 5) (by decide) (by decide) h1 (LR_either B (rc0 := (fX7_grp (G + 4)).1) (rc2 := (fX7_grp (G + 4)).2.2.1) (rc3 := (fX7_grp (G + 4)).2.2.2.1) (rc4 := (fX7_grp (G + 4)).2.2.2.2.1) (rc5 := (fX7_grp (G + 4)).2.2.2.2.2)) k s e σ τ h
  exact this

