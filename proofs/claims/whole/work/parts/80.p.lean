/-! two who'd change places -/
def SW (β : zB) (τ τ' : rp_St) : Prop := (∀ k, ¬ k = 1 → τ' k = τ k) ∧ BM β (τ' 1) ∧ ∀ i, ¬ (5 ≤ i ∧ i < 12) → τ' 1 i = τ 1 i
theorem zx_zx {β : zB} {p q : Nat} (hpq : p ≠ q) (j g : Nat) : zx (zx β p q) p q j g = β j g := by
  unfold zx zp
  by_cases c1 : j = 6 ∧ g = q
  · rw [if_pos c1, if_neg (by omega), if_pos ⟨rfl, rfl⟩, c1.1, c1.2]
  · rw [if_neg c1]
    by_cases c2 : j = 6 ∧ g = p
    · rw [if_pos c2, if_pos ⟨rfl, rfl⟩, c2.1, c2.2]
    · rw [if_neg c2, if_neg c1, if_neg c2]
theorem op_swap (σ τ : rp_St) (h : RR σ τ) : OK (fX6_swap σ) (fX7_swap τ) := by
  obtain ⟨φ0, φ1, β, W⟩ := h.wd
  obtain ⟨⟨hI, hR⟩, ⟨hX, _, _⟩, hM, _, _⟩ := id W
  have h7 := hI.1
  have wl := zw_le hI
  unfold fX6_swap fX7_swap
  rw [zx_wrong (b := 0) hI hX, z_bd, zm_wrong hI hM, z_bd]
  have fin : ∀ (v : Int32) (σ1 τ1 : rp_St), SX σ σ1 → SW β τ τ1 → OK (some (v, σ1)) (some (v, τ1)) := by
    intro v σ1 τ1 sx sw
    exact ok_mk (h.ball (fun k hk => sx k (fun z => hk (Or.inr z))) (fun k hk => sw.1 k (by omega)) (fun i hi => sw.2.2 i (by omega)) ⟨β, hI, hX.fr (fun k _ q => sx k (by omega)), sw.2.1⟩)
  have inn : ∀ (K : Int32 → Int32 → Int32 → rp_St → Option (Int32 × rp_St)) (K' : Int32 → Int32 → Int32 → rp_St → Option (Int32 × rp_St)) (a : Nat), a < β 0 0 → (∀ (best : Nat) (code : Int32) (σ1 τ1 : rp_St), best ≤ 49 → SX σ σ1 → SW β τ τ1 → OK (K (nI best) code (nI (a + 1)) σ1) (K' code (nI best) (nI (a + 1)) τ1)) → ∀ (r b N M best : Nat) (code : Int32) (σ1 τ1 : rp_St), b + r = β 0 0 → a < b → r < N → r < M → best ≤ 49 → SX σ σ1 → SW β τ τ1 → OK (rp_lp (fun _ _ _ _ _ => none) (fX6_swap_34 K) N (nI best) code (nI a) (nI b) σ1) (rp_lp (fun _ _ _ _ _ => none) (fX7_swap_24 K') M code (nI best) (nI a) (nI b) τ1) := by
    intro K K' a ha hK r
    induction r with
    | zero =>
      intro b N M best code σ1 τ1 hb hab hN hM1 hbest sx sw
      obtain ⟨N, rfl⟩ : ∃ X, N = X + 1 := ⟨N - 1, by omega⟩
      obtain ⟨M, rfl⟩ : ∃ X, M = X + 1 := ⟨M - 1, by omega⟩
      rw [z_lp, z_lp, fX6_swap_34, fX7_swap_24, sx 0 (by omega), hX.1, z_g zc1, zl1, sw.2.1.1, if_pos ((z_le (by omega) (by omega)).mpr (by omega)), if_pos ((z_le (by omega) (by omega)).mpr (by omega)), z_nm, z_nm, show (nI a + 1 : Int32) = nI (a + 1) from nI_1 _]
      exact hK best code σ1 τ1 hbest sx sw
    | succ r ih =>
      intro b N M best code σ1 τ1 hb hab hN hM1 hbest sx sw
      obtain ⟨N, rfl⟩ : ∃ X, N = X + 1 := ⟨N - 1, by omega⟩
      obtain ⟨M, rfl⟩ : ∃ X, M = X + 1 := ⟨M - 1, by omega⟩
      obtain ⟨σ2, x2, X2⟩ := wx_take W sx
      have pa := zq_lt hI ha
      have pb := zq_lt hI (g := b) (by omega)
      obtain ⟨p, dp⟩ : ∃ p, p = zq β a := ⟨_, rfl⟩
      obtain ⟨q, dq⟩ : ∃ q, q = zq β b := ⟨_, rfl⟩
      have tpa := tx_peg X2 ha
      have tpb := tx_peg X2 (g := b) (by omega)
      have mpa : fX7_pegOf (nI a) τ1 = some (nI p, τ1) := by
        have := zm_peg hI sw.2.1 pa.1
        rw [pa.2] at this
        rw [dp]
        exact this
      have mpb : fX7_pegOf (nI b) τ1 = some (nI q, τ1) := by
        have := zm_peg hI sw.2.1 pb.1
        rw [pb.2] at this
        rw [dq]
        exact this
      rw [← dp] at pa tpa
      rw [← dq] at pb tpb
      have pq : p ≠ q := fun z => by
        have e1 := pa.2
        have e2 := pb.2
        rw [z] at e1
        omega
      obtain ⟨σ3, x3, X3, f3⟩ := zx_xch (b := 2) hI X2.2.1 pa.1 pb.1
      have I3 := hI.xch pa.1 pb.1
      have wl3 := zw_le I3.1
      obtain ⟨τ2, y2, M2, f2, g2⟩ := zm_xch hI sw.2.1 pa.1 pb.1
      obtain ⟨τ3, y3, M3, f4, g4⟩ := zm_xch I3.1 M2 (p := p) (q := q) (by rw [I3.2]; exact pa.1) (by rw [I3.2]; exact pb.1)
      have sx3 : SX σ σ3 := X2.2.2.tr (fun k hk => f3 k (by omega))
      have sw3 : SW β τ τ3 := ⟨fun k hk => (f4 k hk).trans ((f2 k hk).trans (sw.1 k hk)), M3.cg (by rw [(I3.1.xch (p := p) (q := q) (by rw [I3.2]; exact pa.1) (by rw [I3.2]; exact pb.1)).2, I3.2]) (fun g _ j _ _ => (zx_zx pq j g).symm), fun i hi => (g4 i hi).trans ((g2 i hi).trans (sw.2.2 i hi))⟩
      rw [z_lp, z_lp, fX6_swap_34, fX7_swap_24, sx 0 (by omega), hX.1, z_g zc1, zl1, sw.2.1.1, if_neg (show ¬ nI (β 0 0) ≤ nI b by rw [z_le (by omega) (by omega)]; omega), if_neg (show ¬ nI (β 0 0) ≤ nI b by rw [z_le (by omega) (by omega)]; omega), x2, z_bd, tpa, z_bd, tpb, z_bd, x3, z_bd, zx_wrong I3.1 X3, z_bd, mpa, z_bd, mpb, z_bd, y2, z_bd, zm_wrong I3.1 M2, z_bd, y3, z_bd]
      by_cases c : best ≤ zw (zx β p q)
      · rw [if_pos (show nI best ≤ nI (zw (zx β p q)) from (z_le (by omega) (by omega)).mpr c), if_pos (show nI best ≤ nI (zw (zx β p q)) from (z_le (by omega) (by omega)).mpr c), fX6_swap_113, z_nm, fX7_swap_93, z_nm, z_nm, if_neg (show ¬ nI (zw (zx β p q)) < nI best from fun z => by have := (z_lt (by omega) (by omega)).mp z; omega), show (nI b + 1 : Int32) = nI (b + 1) from nI_1 _]
        exact ih (b + 1) N M best code σ3 τ3 (by omega) (by omega) (by omega) (by omega) hbest sx3 sw3
      · rw [if_neg (show ¬ nI best ≤ nI (zw (zx β p q)) from fun z => c ((z_le (by omega) (by omega)).mp z)), if_neg (show ¬ nI best ≤ nI (zw (zx β p q)) from fun z => c ((z_le (by omega) (by omega)).mp z)), z_nm, fX6_swap_113, z_nm, fX7_swap_93, z_nm, z_nm, if_pos (show nI (zw (zx β p q)) < nI best from (z_lt (by omega) (by omega)).mpr (by omega)), show (nI b + 1 : Int32) = nI (b + 1) from nI_1 _]
        exact ih (b + 1) N M _ _ σ3 τ3 (by omega) (by omega) (by omega) (by omega) wl3 sx3 sw3
  have out : ∀ (r a N M best : Nat) (code : Int32) (σ1 τ1 : rp_St), a + r = β 0 0 → r < N → r < M → best ≤ 49 → SX σ σ1 → SW β τ τ1 → OK (rp_lp (fun _ _ _ _ => none) fX6_swap_15 N (nI best) code (nI a) σ1) (rp_lp (fun _ _ _ _ => none) fX7_swap_9 M code (nI best) (nI a) τ1) := by
    intro r
    induction r with
    | zero =>
      intro a N M best code σ1 τ1 ha hN hM1 hbest sx sw
      obtain ⟨N, rfl⟩ : ∃ X, N = X + 1 := ⟨N - 1, by omega⟩
      obtain ⟨M, rfl⟩ : ∃ X, M = X + 1 := ⟨M - 1, by omega⟩
      rw [z_lp, z_lp, fX6_swap_15, fX7_swap_9, sx 0 (by omega), hX.1, z_g zc1, zl1, sw.2.1.1, if_pos ((z_le (by omega) (by omega)).mpr (by omega)), if_pos ((z_le (by omega) (by omega)).mpr (by omega))]
      exact fin code σ1 τ1 sx sw
    | succ r ih =>
      intro a N M best code σ1 τ1 ha hN hM1 hbest sx sw
      obtain ⟨N, rfl⟩ : ∃ X, N = X + 1 := ⟨N - 1, by omega⟩
      obtain ⟨M, rfl⟩ : ∃ X, M = X + 1 := ⟨M - 1, by omega⟩
      rw [z_lp, z_lp, fX6_swap_15, fX7_swap_9, sx 0 (by omega), hX.1, z_g zc1, zl1, sw.2.1.1, if_neg (show ¬ nI (β 0 0) ≤ nI a by rw [z_le (by omega) (by omega)]; omega), if_neg (show ¬ nI (β 0 0) ≤ nI a by rw [z_le (by omega) (by omega)]; omega), z_nm, z_nm, show (nI a + 1 : Int32) = nI (a + 1) from nI_1 _]
      exact inn _ _ a (by omega) (fun best code σ1 τ1 hb sx sw => ih (a + 1) N M best code σ1 τ1 (by omega) (by omega) (by omega) hb sx sw) (β 0 0 - (a + 1)) (a + 1) 300 300 best code σ1 τ1 (by omega) (by omega) (by omega) (by omega) hbest sx sw
  exact out (β 0 0) 0 300 300 (zw β) (-1) σ τ (by omega) (by omega) (by omega) wl SX.rf ⟨fun _ _ => rfl, hM, fun _ _ => rfl⟩
/-! who danced -/
def zso (f : Nat → Int32) (γ : zB) : Nat → Bool
  | 0 => true
  | k + 1 => zso f γ k && decide (f k = nI (γ 3 k))
theorem zd3 {φ : Int32 → Int32 → Int32 → Int32} (β : zB) {x y : Nat} (hxy : x ≠ y) (g : Nat) : zd φ x y β 3 g = if g = x then zv φ β x y else if g = y then zv φ β y x else β 3 g := by
  unfold zd zn zp
  by_cases c1 : g = x
  · rw [if_pos c1]
    simp [c1]
  · rw [if_neg c1]
    by_cases c2 : g = y
    · rw [if_pos c2]
      simp [c2, fun z : y = x => hxy z.symm]
      exact fun z => absurd z.symm hxy
    · rw [if_neg c2]
      simp [c1, c2]
theorem zx_tells {σ : rp_St} {γ : zB} {σ' : rp_St} (h : TX σ γ σ') {s : Nat} (hs : s < 4) (hn : σ' (46 + 2 * s) 1 = nI (γ 0 0)) : fX4_tellsRueOf s 2 σ' = some (if zso (σ' (46 + 2 * s + 1)) γ (γ 0 0) = true then 1 else 0, σ') := by
  have h7 := h.1.1
  have dead : ∀ r k, zso (σ' (46 + 2 * s + 1)) γ k = false → zso (σ' (46 + 2 * s + 1)) γ (k + r) = false := by
    intro r
    induction r with
    | zero => intro k q; exact q
    | succ r ih =>
      intro k q
      show (zso (σ' (46 + 2 * s + 1)) γ (k + r) && _) = false
      rw [ih k q]
      rfl
  have key : ∀ (r k N : Nat), k + r = γ 0 0 → r < N → zso (σ' (46 + 2 * s + 1)) γ k = true → rp_lp (fun _ _ => none) (fX4_tellsRueOf_2 s 2) N (nI k) σ' = some (if zso (σ' (46 + 2 * s + 1)) γ (γ 0 0) = true then 1 else 0, σ') := by
    intro r
    induction r with
    | zero =>
      intro k N hk hN q
      obtain ⟨N, rfl⟩ : ∃ X, N = X + 1 := ⟨N - 1, by omega⟩
      have hk : k = γ 0 0 := by omega
      rw [z_lp, fX4_tellsRueOf_2, hn, if_pos ((z_le (by omega) (by omega)).mpr (by omega)), ← hk, if_pos q]
    | succ r ih =>
      intro k N hk hN q
      obtain ⟨N, rfl⟩ : ∃ X, N = X + 1 := ⟨N - 1, by omega⟩
      have st : zso (σ' (46 + 2 * s + 1)) γ (k + 1) = (zso (σ' (46 + 2 * s + 1)) γ k && decide (σ' (46 + 2 * s + 1) k = nI (γ 3 k))) := rfl
      rw [z_lp, fX4_tellsRueOf_2, hn, if_neg (show ¬ nI (γ 0 0) ≤ nI k by rw [z_le (by omega) (by omega)]; omega), h.2.1.1, if_neg (show ¬ nI (γ 0 0) ≤ nI k by rw [z_le (by omega) (by omega)]; omega), z_g (z_in (show k < 40 by omega) (by decide)), z_g (z_in (show k < 7 by omega) (by decide)), z_cl (by omega), h.2.1.2 k (by omega) 3 (by decide) (by decide)]
      by_cases c : σ' (46 + 2 * s + 1) k = nI (γ 3 k)
      · rw [if_pos c, z_nm, show (nI k + 1 : Int32) = nI (k + 1) from nI_1 _]
        exact ih (k + 1) N (by omega) (by omega) (by rw [st, q]; simp [c])
      · have d := dead r (k + 1) (by rw [st, q]; simp [c])
        rw [show k + 1 + r = γ 0 0 by omega] at d
        rw [if_neg c, d]
        rfl
  exact key (γ 0 0) 0 300 (by omega) (by omega) rfl
theorem zm_so {φ0 φ1 : Int32 → Int32 → Int32 → Int32} {β : zB} {σ τ : rp_St} (W : WD φ0 φ1 β σ τ) {τ' : rp_St} (h : SM τ τ') {s x y : Nat} (hs : s < 4) (hx : x < β 0 0) (hy : y < β 0 0) (hxy : x ≠ y) (f : Nat → Int32) (hf : ∀ i, i < 40 → f i = τ' 13 (40 * s + i)) : ∃ τ1, fX7_isSoDanced (nI s) (nI x) (nI y) τ' = some (if zso f (zd φ0 x y β) (β 0 0) = true then 1 else 0, τ1) ∧ SM τ τ1 ∧ τ1 13 = τ' 13 := by
  obtain ⟨⟨hI, hR⟩, ⟨hX, _, _⟩, hM, gm, _⟩ := id W
  have h7 := hI.1
  have hM' : BM β (τ' 1) := hM.fr2 h7 (fun i hi => h.2 i (by omega))
  have vx := zv_eq hR β x y
  have vy := zv_eq hR β y x
  obtain ⟨τ2, e2, f2⟩ := gm τ' (fun i p q => h.2 i q) (nI (β 3 x)) (nI (β 3 y)) (nI (β 2 x))
  have k2 : τ2 1 = τ' 1 := f2 1 (by omega)
  have hM2 : BM β (τ2 1) := by rw [k2]; exact hM'
  obtain ⟨τ3, e3, f3⟩ := gm τ2 (fun i p q => by rw [k2]; exact h.2 i q) (nI (β 3 y)) (nI (β 3 x)) (nI (β 2 y))
  have k3 : τ3 1 = τ' 1 := (f3 1 (by omega)).trans k2
  have hM3 : BM β (τ3 1) := by rw [k3]; exact hM'
  have k13 : τ3 13 = τ' 13 := (f3 13 (by omega)).trans (f2 13 (by omega))
  refine ⟨τ3, ?_, ⟨fun k hk => ((f3 k (by omega)).trans (f2 k (by omega))).trans (h.1 k hk), fun i hi => by rw [k3]; exact h.2 i hi⟩, k13⟩
  have key : ∀ (r k N : Nat), k + r = β 0 0 → r < N → rp_lp (fun _ _ _ _ _ _ _ _ => none) fX7_isSoDanced_52 N (nI s) (nI x) (nI y) (nI (zv φ0 β x y)) (nI (zv φ0 β y x)) (if zso f (zd φ0 x y β) k = true then 1 else 0) (nI k) τ3 = some (if zso f (zd φ0 x y β) (β 0 0) = true then 1 else 0, τ3) := by
    intro r
    induction r with
    | zero =>
      intro k N hk hN
      obtain ⟨N, rfl⟩ : ∃ X, N = X + 1 := ⟨N - 1, by omega⟩
      have hk : k = β 0 0 := by omega
      rw [z_lp, fX7_isSoDanced_52, z_g zc1, zl1, hM3.1, if_pos ((z_le (by omega) (by omega)).mpr (by omega)), ← hk]
      by_cases c : zso f (zd φ0 x y β) k = true
      · rw [if_pos c]; rfl
      · rw [if_neg c]; rfl
    | succ r ih =>
      intro k N hk hN
      obtain ⟨N, rfl⟩ : ∃ X, N = X + 1 := ⟨N - 1, by omega⟩
      have st : zso f (zd φ0 x y β) (k + 1) = (zso f (zd φ0 x y β) k && decide (f k = nI (zd φ0 x y β 3 k))) := rfl
      have ih' := ih (k + 1) N (by omega) (by omega)
      rw [z_lp, fX7_isSoDanced_52, z_g zc1, zl1, hM3.1, if_neg (show ¬ nI (β 0 0) ≤ nI k by rw [z_le (by omega) (by omega)]; omega)]
      by_cases c : zso f (zd φ0 x y β) k = true
      · have go : fX7_isSoDanced_108 (rp_lp (fun _ _ _ _ _ _ _ _ => none) fX7_isSoDanced_52 N) (nI s) (nI x) (nI y) (nI (zv φ0 β x y)) (nI (zv φ0 β y x)) (nI k) (nI (zd φ0 x y β 3 k)) (f k) τ3 = some (if zso f (zd φ0 x y β) (β 0 0) = true then 1 else 0, τ3) := by
          rw [fX7_isSoDanced_108]
          by_cases d : f k = nI (zd φ0 x y β 3 k)
          · have e : zso f (zd φ0 x y β) (k + 1) = true := by rw [st]; simp [c, d]
            rw [if_pos e] at ih'
            rw [if_pos d, fX7_isSoDanced_116, z_nm, show (nI k + 1 : Int32) = nI (k + 1) from nI_1 _]
            exact ih'
          · have e : ¬ zso f (zd φ0 x y β) (k + 1) = true := by rw [st]; simp [d]
            rw [if_neg e] at ih'
            rw [if_neg d, fX7_isSoDanced_115, fX7_isSoDanced_116, z_nm, show (nI k + 1 : Int32) = nI (k + 1) from nI_1 _]
            exact ih'
        rw [if_pos c, if_neg (show ¬ (1 : Int32) = 0 by decide), show (40 * nI s : Int32) = nI (40 * s) from pk_mul 40 s, nI_add, z_g (z_in (show 40 * s + k < 160 by omega) (by decide)), z_cl (by omega), k13, ← hf k (by omega), zm_rue hI hM3 (by omega), z_bd]
        have v3 := zd3 (φ := φ0) β hxy k
        by_cases c1 : k = x
        · rw [if_pos c1] at v3
          rw [if_pos (by rw [c1])]
          rw [v3] at go
          exact go
        · rw [if_neg c1] at v3
          rw [if_neg (fun z => c1 ((z_eq (by omega) (by omega)).mp z))]
          by_cases c2 : k = y
          · rw [if_pos c2] at v3
            rw [if_pos (by rw [c2])]
            rw [v3] at go
            exact go
          · rw [if_neg c2] at v3
            rw [if_neg (fun z => c2 ((z_eq (by omega) (by omega)).mp z))]
            rw [v3] at go
            exact go
      · have e : ¬ zso f (zd φ0 x y β) (k + 1) = true := by rw [st]; simp [c]
        rw [if_neg e] at ih'
        rw [if_neg c, if_pos rfl, fX7_isSoDanced_115, fX7_isSoDanced_116, z_nm, show (nI k + 1 : Int32) = nI (k + 1) from nI_1 _]
        exact ih'
  unfold fX7_isSoDanced
  rw [zm_rue hI hM' hx, z_bd, zm_rue hI hM' hy, z_bd, zm_is2 hI hM' hx (j := 2) (by decide) (by decide) 1 rfl, z_bd, e2, z_bd, zm_rue hI hM2 hy, z_bd, zm_rue hI hM2 hx, z_bd, zm_is2 hI hM2 hy (j := 2) (by decide) (by decide) 1 rfl, z_bd, e3, z_bd, vx.1, vy.1]
  exact key (β 0 0) 0 300 (by omega) (by omega)
theorem op_whoDanced (v1 v2 : Int32) (σ τ : rp_St) (h : RR σ τ) : OK (fX6_whoDanced v1 v2 σ) (fX7_whoDanced v1 v2 τ) := by
  obtain ⟨φ0, φ1, β, W⟩ := h.wd
  obtain ⟨⟨hI, hR⟩, ⟨hX, _, _⟩, hM, _, _⟩ := id W
  have h7 := hI.1
  unfold fX6_whoDanced fX7_whoDanced fX6_whoDanced_16 fX7_whoDanced_16 fX6_whoDanced_53 fX7_whoDanced_47
  rcases zSh v1 with ⟨a1, a2⟩ | ⟨s, hs, rfl, a1, a2⟩
  · simp only [a1, a2, z_bd, z_bi, ↓reduceIte]
    exact rf1 h
  rcases zW' v2 0 1 0 1 rfl rfl (by decide) (by decide) with ⟨c1, c2⟩ | ⟨w, _, hw, rfl, c1, c2⟩
  · simp only [a1, a2, c1, c2, z_bd, z_bi, z10, ↓reduceIte]
    exact rf1 h
  simp only [a1, a2, c1, c2, z_bd, z_bi, z10, ↓reduceIte]
  obtain ⟨⟨g1, g2, g3, m, hm, g4, g5⟩, g6⟩ := h.2.2.2.2.1 s hs
  have g2' : σ (46 + 2 * s) 1 = nI m := g2.trans g4
  rw [z_cl (show s < 1000000 by omega)]
  repeat (first | rw [z_nm] | rw [z_g (z_in hs (show 4 ≤ 1000 by decide))])
  rw [g1]
  by_cases q0 : τ 11 s = 0
  · rw [if_pos q0, if_pos q0]; exact rf2 h
  rw [if_neg q0, if_neg q0, z_g zc1, zl1, g2', g4, hX.1, hM.1]
  by_cases q1 : ¬ m = β 0 0
  · have qn : ¬ nI m = nI (β 0 0) := fun z => q1 ((z_eq (by omega) (by omega)).mp z)
    rw [if_neg qn, if_neg qn]; exact rf2 h
  have q1 : m = β 0 0 := by omega
  rw [if_pos (by rw [q1]), if_pos (by rw [q1])]
  have inn : ∀ (K : Int32 → Nat → Int32 → Int32 → Int32 → rp_St → Option (Int32 × rp_St)) (K' : Int32 → Int32 → Int32 → Int32 → Int32 → rp_St → Option (Int32 × rp_St)) (a : Nat), a < β 0 0 → (∀ (c : Nat) (code : Int32) (σ1 τ1 : rp_St), c ≤ 7 * (a + 1) → ((c = 0 ∧ code = -1) ∨ (1 ≤ c ∧ 0 ≤ code)) → SX σ σ1 → SM τ τ1 → OK (K (nI w) s (nI c) code (nI (a + 1)) σ1) (K' (nI s) (nI w) (nI c) code (nI (a + 1)) τ1)) → ∀ (r b N M c : Nat) (code : Int32) (σ1 τ1 : rp_St), b + r = β 0 0 → a < b → r < N → r < M → c ≤ 7 * a + b → ((c = 0 ∧ code = -1) ∨ (1 ≤ c ∧ 0 ≤ code)) → SX σ σ1 → SM τ τ1 → OK (rp_lp (fun _ _ _ _ _ _ _ => none) (fX6_whoDanced_89 K) N (nI w) s (nI c) code (nI a) (nI b) σ1) (rp_lp (fun _ _ _ _ _ _ _ => none) (fX7_whoDanced_79 K') M (nI s) (nI w) (nI c) code (nI a) (nI b) τ1) := by
    intro K K' a ha hK r
    induction r with
    | zero =>
      intro b N M c code σ1 τ1 hb hab hN hM1 hc hcode sx sm
      obtain ⟨N, rfl⟩ : ∃ X, N = X + 1 := ⟨N - 1, by omega⟩
      obtain ⟨M, rfl⟩ : ∃ X, M = X + 1 := ⟨M - 1, by omega⟩
      rw [z_lp, z_lp, fX6_whoDanced_89, fX7_whoDanced_79, sx 0 (by omega), hX.1, z_g zc1, zl1, sm.2 1 (by decide), hM.1, if_pos ((z_le (by omega) (by omega)).mpr (by omega)), if_pos ((z_le (by omega) (by omega)).mpr (by omega)), z_nm, z_nm, show (nI a + 1 : Int32) = nI (a + 1) from nI_1 _]
      exact hK c code σ1 τ1 (by omega) hcode sx sm
    | succ r ih =>
      intro b N M c code σ1 τ1 hb hab hN hM1 hc hcode sx sm
      obtain ⟨N, rfl⟩ : ∃ X, N = X + 1 := ⟨N - 1, by omega⟩
      obtain ⟨M, rfl⟩ : ∃ X, M = X + 1 := ⟨M - 1, by omega⟩
      obtain ⟨σ2, x2, X2⟩ := wx_take W sx
      obtain ⟨σ3, x3, X3⟩ := tx_dance W X2 ha (y := b) (by omega)
      have d0 := (hI.dance hR a b).2
      have t3 := zx_tells X3 hs (by rw [X3.2.2 _ (by omega), g2', q1, d0])
      rw [d0, X3.2.2 (46 + 2 * s + 1) (by omega)] at t3
      obtain ⟨τ2, y2, Y2, _⟩ := zm_so W sm hs ha (y := b) (by omega) (by omega) (σ (46 + 2 * s + 1)) (fun i hi => by rw [sm.1 13 (by omega), show 46 + 2 * s + 1 = 47 + 2 * s by omega]; exact g6 i hi)
      rw [z_lp, z_lp, fX6_whoDanced_89, fX7_whoDanced_79, sx 0 (by omega), hX.1, z_g zc1, zl1, sm.2 1 (by decide), hM.1, if_neg (show ¬ nI (β 0 0) ≤ nI b by rw [z_le (by omega) (by omega)]; omega), if_neg (show ¬ nI (β 0 0) ≤ nI b by rw [z_le (by omega) (by omega)]; omega), x2, z_bd, x3, z_bd, t3, z_bd, y2, z_bd]
      by_cases q : zso (σ (46 + 2 * s + 1)) (zd φ0 a b β) (β 0 0) = true
      · rw [if_pos q, if_neg (show ¬ (1 : Int32) = 0 by decide), if_neg (show ¬ (1 : Int32) = 0 by decide), fX7_whoDanced_112, z_nm, if_neg (show ¬ (1 : Int32) = 0 by decide), show (nI c + 1 : Int32) = nI (c + 1) from nI_1 _]
        rcases hcode with ⟨k1, k2⟩ | ⟨k1, k2⟩
        · have p0 : (0 : Int32) ≤ 10 * nI a + nI b := by
            rw [show (10 * nI a : Int32) = nI (10 * a) from pk_mul 10 a, nI_add]
            exact nI_pos' (by omega)
          rw [if_pos (show nI c = 0 by rw [k1]; rfl), fX6_whoDanced_165, z_nm, fX6_whoDanced_170, z_nm, k2, if_neg (show ¬ (0 : Int32) ≤ -1 by decide +kernel), fX7_whoDanced_137, z_nm, show (nI c + 1 : Int32) = nI (c + 1) from nI_1 _, show (nI b + 1 : Int32) = nI (b + 1) from nI_1 _]
          exact ih (b + 1) N M (c + 1) _ σ3 τ2 (by omega) (by omega) (by omega) (by omega) (by omega) (Or.inr ⟨by omega, p0⟩) X3.2.2 Y2
        · rw [if_neg (show ¬ nI c = 0 from nI_ne0 (by omega) (by omega)), fX6_whoDanced_165, z_nm, fX6_whoDanced_170, z_nm, if_pos k2, fX7_whoDanced_135, fX7_whoDanced_137, z_nm, show (nI c + 1 : Int32) = nI (c + 1) from nI_1 _, show (nI b + 1 : Int32) = nI (b + 1) from nI_1 _]
          exact ih (b + 1) N M (c + 1) _ σ3 τ2 (by omega) (by omega) (by omega) (by omega) (by omega) (Or.inr ⟨by omega, k2⟩) X3.2.2 Y2
      · rw [if_neg q, if_pos rfl, if_pos rfl, fX6_whoDanced_170, z_nm, fX7_whoDanced_112, z_nm, if_pos rfl, fX7_whoDanced_135, fX7_whoDanced_137, z_nm, show (nI c + 0 : Int32) = nI c from nI_add c 0, show (nI b + 1 : Int32) = nI (b + 1) from nI_1 _]
        exact ih (b + 1) N M c code σ3 τ2 (by omega) (by omega) (by omega) (by omega) (by omega) hcode X3.2.2 Y2
  have out : ∀ (r a N M c : Nat) (code : Int32) (σ1 τ1 : rp_St), a + r = β 0 0 → r < N → r < M → c ≤ 7 * a → ((c = 0 ∧ code = -1) ∨ (1 ≤ c ∧ 0 ≤ code)) → SX σ σ1 → SM τ τ1 → OK (rp_lp (fun _ _ _ _ _ _ => none) fX6_whoDanced_68 N (nI w) s (nI c) code (nI a) σ1) (rp_lp (fun _ _ _ _ _ _ => none) fX7_whoDanced_62 M (nI s) (nI w) (nI c) code (nI a) τ1) := by
    intro r
    induction r with
    | zero =>
      intro a N M c code σ1 τ1 ha hN hM1 hc hcode sx sm
      obtain ⟨N, rfl⟩ : ∃ X, N = X + 1 := ⟨N - 1, by omega⟩
      obtain ⟨M, rfl⟩ : ∃ X, M = X + 1 := ⟨M - 1, by omega⟩
      rw [z_lp, z_lp, fX6_whoDanced_68, fX7_whoDanced_62, sx 0 (by omega), hX.1, z_g zc1, zl1, sm.2 1 (by decide), hM.1, if_pos ((z_le (by omega) (by omega)).mpr (by omega)), if_pos ((z_le (by omega) (by omega)).mpr (by omega)), z_bi, z_bi]
      by_cases w0 : nI w = 0
      · rw [if_pos w0, if_pos w0]
        exact ok_mk (h.back sx sm)
      · rw [if_neg w0, if_neg w0]
        rcases hcode with ⟨k1, k2⟩ | ⟨k1, k2⟩
        · rw [if_pos (show nI c = 0 by rw [k1]; rfl), k2, if_neg (show ¬ (0 : Int32) ≤ -1 by decide +kernel)]
          exact rf2 (h.back sx sm)
        · rw [if_neg (show ¬ nI c = 0 from nI_ne0 (by omega) (by omega)), if_pos k2]
          exact ok_mk (h.back sx sm)
    | succ r ih =>
      intro a N M c code σ1 τ1 ha hN hM1 hc hcode sx sm
      obtain ⟨N, rfl⟩ : ∃ X, N = X + 1 := ⟨N - 1, by omega⟩
      obtain ⟨M, rfl⟩ : ∃ X, M = X + 1 := ⟨M - 1, by omega⟩
      rw [z_lp, z_lp, fX6_whoDanced_68, fX7_whoDanced_62, sx 0 (by omega), hX.1, z_g zc1, zl1, sm.2 1 (by decide), hM.1, if_neg (show ¬ nI (β 0 0) ≤ nI a by rw [z_le (by omega) (by omega)]; omega), if_neg (show ¬ nI (β 0 0) ≤ nI a by rw [z_le (by omega) (by omega)]; omega), z_nm, z_nm, show (nI a + 1 : Int32) = nI (a + 1) from nI_1 _]
      exact inn _ _ a (by omega) (fun c code σ1 τ1 hc hcode sx sm => ih (a + 1) N M c code σ1 τ1 (by omega) (by omega) (by omega) hc hcode sx sm) (β 0 0 - (a + 1)) (a + 1) 300 300 c code σ1 τ1 (by omega) (by omega) (by omega) (by omega) (by omega) hcode sx sm
  exact out (β 0 0) 0 300 300 0 (-1) σ τ (by omega) (by omega) (by omega) (by omega) (Or.inl ⟨rfl, rfl⟩) SX.rf SM.rf
