/-! the relation between the class's cells and the reference's -/
def kV (v : Int32) : Bool := (decide (0 ≤ v) && decide (v ≤ 9999)) || decide (v = -1) || decide (v = -2) || decide (v = -3)
def kO (v : Int32) : Bool := decide (v = -124) || decide (v = -38) || decide (v = -60) || decide (v = -61) || decide (v = -62) || decide (v = -43) || decide (v = -45) || decide (v = -42) || decide (v = -47) || decide (v = -37)
def ds (v : Int32) (d : Nat) : Option Nat := if kV v = true then some (d + 1) else if v = -33 then (if 1 ≤ d then some d else none) else if kO v = true then (if 2 ≤ d then some (d - 1) else none) else none
def dp (f : Nat → Int32) : Nat → Option Nat
  | 0 => some 0
  | n + 1 => (dp f n).bind (ds (f n))
def enc (v : Int32) : Int32 := if 0 ≤ v then v else if v = -1 then 10000 else if v = -2 then 10001 else if v = -3 then 10002 else if v = -124 then 20000 else if v = -38 then 20001 else if v = -60 then 20002 else if v = -61 then 20003 else if v = -62 then 20004 else if v = -43 then 20005 else if v = -45 then 20006 else if v = -42 then 20007 else if v = -47 then 20008 else if v = -37 then 20009 else 20010
/-- a law's code, in both -/
def CR (c : Nat) (u : Nat) (σ : rp_St) (ν : Nat → Int32) : Prop := ∃ n, n ≤ 50 ∧ σ c 1 = nI n ∧ ν (117 + 52 * u) = nI n ∧ (∀ i, i < n → ν (118 + 52 * u + i) = enc (σ (c + 1) i)) ∧ (n = 0 ∨ dp (σ (c + 1)) n = some 1)
def EB (e : Nat) (σ : rp_St) (ν : Nat → Int32) : Prop := ∃ β, BI β ∧ BX β σ (7 * e) ∧ BM β ν
def EH (e : Nat) (σ : rp_St) (ν : Nat → Int32) : Prop := ∃ h, h ≤ 9999 ∧ σ (40 + 3 * e) 7 = nI h ∧ ν 0 = nI h
def EZ (e : Nat) (σ : rp_St) (ν : Nat → Int32) : Prop := σ (40 + 3 * e) 8 = ν 2
def ET (e : Nat) (σ : rp_St) (ν : Nat → Int32) : Prop := (∃ t, t ≤ 50 ∧ σ (40 + 3 * e) 4 = nI t ∧ ν 3 = nI t ∧ ∀ i, i < t → ν (47 + i) = σ (41 + 3 * e) i &&& 255) ∧ ∀ i, i < 50 → (σ (41 + 3 * e) i).toInt8.toInt32 = σ (41 + 3 * e) i
def EW (e : Nat) (σ : rp_St) (ν : Nat → Int32) : Prop := ∃ w, w ≤ 20 ∧ σ (40 + 3 * e) 6 = nI w ∧ ν 4 = nI w ∧ ∀ i, i < w → ν (97 + i) = σ (42 + 3 * e) i
def EL (e : Nat) (σ : rp_St) (ν : Nat → Int32) : Prop := CR (28 + 6 * e) 0 σ ν ∧ CR (31 + 6 * e) 1 σ ν
def ER (e : Nat) (σ : rp_St) (ν : Nat → Int32) : Prop := EB e σ ν ∧ EH e σ ν ∧ EZ e σ ν ∧ ET e σ ν ∧ EW e σ ν ∧ EL e σ ν
theorem BM.fr2 {β : zB} {ν ν' : Nat → Int32} (h : BM β ν) (hn : β 0 0 ≤ 7) (e : ∀ i, i = 1 ∨ (5 ≤ i ∧ i < 47) → ν' i = ν i) : BM β ν' := ⟨by rw [e 1 (by omega)]; exact h.1, fun g hg j h1 h6 => by
  rw [e (zi j g) (by unfold zi; split <;> omega)]; exact h.2 g hg j h1 h6⟩
theorem EB.cg {e : Nat} {σ σ' : rp_St} {ν ν' : Nat → Int32} (h : EB e σ ν) (a : ∀ k, 7 * e ≤ k → k < 7 * e + 7 → σ' k = σ k) (b : ∀ i, i = 1 ∨ (5 ≤ i ∧ i < 47) → ν' i = ν i) : EB e σ' ν' := by
  obtain ⟨β, h1, h2, h3⟩ := h
  exact ⟨β, h1, h2.fr (fun k p q => a k p (by omega)), h3.fr2 h1.1 b⟩
theorem EH.cg {e : Nat} {σ σ' : rp_St} {ν ν' : Nat → Int32} (h : EH e σ ν) (a : σ' (40 + 3 * e) 7 = σ (40 + 3 * e) 7) (b : ν' 0 = ν 0) : EH e σ' ν' := by
  obtain ⟨t, h1, h2, h3⟩ := h
  exact ⟨t, h1, a.trans h2, b.trans h3⟩
theorem EZ.cg {e : Nat} {σ σ' : rp_St} {ν ν' : Nat → Int32} (h : EZ e σ ν) (a : σ' (40 + 3 * e) 8 = σ (40 + 3 * e) 8) (b : ν' 2 = ν 2) : EZ e σ' ν' := a.trans (h.trans b.symm)
theorem ET.cg {e : Nat} {σ σ' : rp_St} {ν ν' : Nat → Int32} (h : ET e σ ν) (a : σ' (40 + 3 * e) 4 = σ (40 + 3 * e) 4) (a2 : ∀ i, i < 50 → σ' (41 + 3 * e) i = σ (41 + 3 * e) i) (b : ν' 3 = ν 3) (b2 : ∀ i, 47 ≤ i → i < 97 → ν' i = ν i) : ET e σ' ν' := by
  obtain ⟨⟨t, h1, h2, h3, h4⟩, h5⟩ := h
  exact ⟨⟨t, h1, a.trans h2, b.trans h3, fun i hi => by rw [b2 _ (by omega) (by omega), a2 i (by omega)]; exact h4 i hi⟩, fun i hi => by rw [a2 i hi]; exact h5 i hi⟩
theorem EW.cg {e : Nat} {σ σ' : rp_St} {ν ν' : Nat → Int32} (h : EW e σ ν) (a : σ' (40 + 3 * e) 6 = σ (40 + 3 * e) 6) (a2 : ∀ i, i < 20 → σ' (42 + 3 * e) i = σ (42 + 3 * e) i) (b : ν' 4 = ν 4) (b2 : ∀ i, 97 ≤ i → i < 117 → ν' i = ν i) : EW e σ' ν' := by
  obtain ⟨t, h1, h2, h3, h4⟩ := h
  exact ⟨t, h1, a.trans h2, b.trans h3, fun i hi => by rw [b2 _ (by omega) (by omega), a2 i (by omega)]; exact h4 i hi⟩
theorem dp_cg {f g : Nat → Int32} : ∀ {n : Nat}, (∀ i, i < n → g i = f i) → dp g n = dp f n := by
  intro n
  induction n with
  | zero => intro _; rfl
  | succ n ih =>
    intro h
    unfold dp
    rw [ih (fun i hi => h i (by omega)), h n (by omega)]
theorem CR.cg {c c' u : Nat} {σ σ' : rp_St} {ν ν' : Nat → Int32} (h : CR c u σ ν) (hu : u ≤ 1) (a : σ' c' 1 = σ c 1) (a2 : ∀ i, i < 50 → σ' (c' + 1) i = σ (c + 1) i) (b2 : ∀ i, 117 ≤ i → i < 221 → ν' i = ν i) : CR c' u σ' ν' := by
  obtain ⟨n, h1, h2, h3, h4, h5⟩ := h
  refine ⟨n, h1, a.trans h2, (b2 _ (by omega) (by omega)).trans h3, fun i hi => ?_, h5.imp_right (fun h => (dp_cg (fun i hi => a2 i (by omega))).trans h)⟩
  rw [b2 _ (by omega) (by omega), a2 i (by omega)]
  exact h4 i hi
theorem EL.cg {e : Nat} {σ σ' : rp_St} {ν ν' : Nat → Int32} (h : EL e σ ν) (a : ∀ k, k = 28 + 6 * e ∨ k = 29 + 6 * e ∨ k = 31 + 6 * e ∨ k = 32 + 6 * e → σ' k = σ k) (b2 : ∀ i, 117 ≤ i → i < 221 → ν' i = ν i) : EL e σ' ν' :=
  ⟨h.1.cg (by decide) (by rw [a _ (by omega)]) (fun i _ => by rw [a _ (by omega)]) b2, h.2.cg (by decide) (by rw [a _ (by omega)]) (fun i _ => by rw [a _ (by omega)]) b2⟩
/-- the evening's cells -/
def eC (e k : Nat) : Prop := (7 * e ≤ k ∧ k < 7 * e + 7) ∨ (k = 28 + 6 * e ∨ k = 29 + 6 * e ∨ k = 31 + 6 * e ∨ k = 32 + 6 * e) ∨ k = 40 + 3 * e ∨ k = 41 + 3 * e ∨ k = 42 + 3 * e
theorem ER.cg {e : Nat} {σ σ' : rp_St} {ν ν' : Nat → Int32} (h : ER e σ ν) (a : ∀ k, eC e k → σ' k = σ k) (b : ∀ i, i < 221 → ν' i = ν i) : ER e σ' ν' := by
  obtain ⟨h1, h2, h3, h4, h5, h6⟩ := h
  have a40 := a (40 + 3 * e) (by unfold eC; omega)
  have a41 := a (41 + 3 * e) (by unfold eC; omega)
  have a42 := a (42 + 3 * e) (by unfold eC; omega)
  exact ⟨h1.cg (fun k p q => a k (Or.inl ⟨p, q⟩)) (fun i q => b i (by omega)), h2.cg (by rw [a40]) (b 0 (by omega)), h3.cg (by rw [a40]) (b 2 (by omega)), h4.cg (by rw [a40]) (fun i _ => by rw [a41]) (b 3 (by omega)) (fun i _ _ => b i (by omega)), h5.cg (by rw [a40]) (fun i _ => by rw [a42]) (b 4 (by omega)) (fun i _ _ => b i (by omega)), h6.cg (fun k hk => a k (Or.inr (Or.inl hk))) (fun i _ _ => b i (by omega))⟩
/-- what isn't the evening's -/
def zbt (b : Int32) : Prop := b = 0 ∨ b = 8 ∨ b = 16 ∨ b = 32
def SR (σ τ : rp_St) : Prop := ∀ s, s < 4 → (σ (46 + 2 * s) 0 = τ 11 s ∧ σ (46 + 2 * s) 1 = τ 12 s ∧ zbt (τ 11 s) ∧ (∃ n, n ≤ 40 ∧ τ 12 s = nI n ∧ (τ 11 s = 0 → n = 0))) ∧ ∀ i, i < 40 → σ (47 + 2 * s) i = τ 13 (40 * s + i)
def VR (σ τ : rp_St) : Prop := ∃ t, t ≤ 40 ∧ σ 59 3 = nI t ∧ τ 0 16 = nI t ∧ ∀ i, i < t → σ 60 i = τ 10 i
def KR (σ τ : rp_St) : Prop := (σ 54 2 = τ 0 3 ∧ (σ 54 2 = 0 ∨ ER 1 σ (τ 2))) ∧ (∀ i, i < 6 → σ 55 i = τ 4 i) ∧ SR σ τ ∧ VR σ τ
def UF (σ : rp_St) : Prop := σ 28 0 = 0 ∧ σ 31 0 = 1
def RR (σ τ : rp_St) : Prop := ER 0 σ (τ 1) ∧ UF σ ∧ KR σ τ
theorem SR.cg {σ σ' τ τ' : rp_St} (h : SR σ τ) (a : ∀ k, 46 ≤ k → k < 54 → σ' k = σ k) (b : ∀ k, 11 ≤ k → k ≤ 13 → τ' k = τ k) : SR σ' τ' := by
  intro s hs
  obtain ⟨h1, h2⟩ := h s hs
  rw [a (46 + 2 * s) (by omega) (by omega), a (47 + 2 * s) (by omega) (by omega), b 11 (by omega) (by omega), b 12 (by omega) (by omega), b 13 (by omega) (by omega)]
  exact ⟨h1, h2⟩
theorem VR.cg {σ σ' τ τ' : rp_St} (h : VR σ τ) (a : σ' 59 3 = σ 59 3) (a2 : σ' 60 = σ 60) (b : τ' 0 16 = τ 0 16) (b2 : τ' 10 = τ 10) : VR σ' τ' := by
  obtain ⟨t, h1, h2, h3, h4⟩ := h
  exact ⟨t, h1, a.trans h2, b.trans h3, fun i hi => by rw [a2, b2]; exact h4 i hi⟩
def kX (k : Nat) : Prop := (7 ≤ k ∧ k < 14) ∨ (k = 34 ∨ k = 35 ∨ k = 37 ∨ k = 38) ∨ (43 ≤ k ∧ k ≤ 55) ∨ k = 59 ∨ k = 60
theorem KR.cg {σ σ' τ τ' : rp_St} (h : KR σ τ) (a : ∀ k, kX k → σ' k = σ k) (b : ∀ k, k = 2 ∨ k = 4 ∨ k = 10 ∨ k = 11 ∨ k = 12 ∨ k = 13 → τ' k = τ k) (b3 : τ' 0 3 = τ 0 3) (b16 : τ' 0 16 = τ 0 16) : KR σ' τ' := by
  obtain ⟨⟨h1, h2⟩, h3, h4, h5⟩ := h
  have a54 := a 54 (by unfold kX; omega)
  refine ⟨⟨by rw [a54, b3]; exact h1, ?_⟩, fun i hi => by rw [a 55 (by unfold kX; omega), b 4 (by omega)]; exact h3 i hi, h4.cg (fun k p q => a k (by unfold kX; omega)) (fun k p q => b k (by omega)), h5.cg (by rw [a 59 (by unfold kX; omega)]) (a 60 (by unfold kX; omega)) b16 (b 10 (by omega))⟩
  rcases h2 with h2 | h2
  · exact Or.inl (by rw [a54]; exact h2)
  · exact Or.inr (h2.cg (fun k hk => a k (by unfold eC at hk; unfold kX; omega)) (fun i _ => by rw [b 2 (by omega)]))
/-- both answer the same, and stay related -/
def OK (a b : Option (Int32 × rp_St)) : Prop := ∃ r σ' τ', a = some (r, σ') ∧ b = some (r, τ') ∧ RR σ' τ'
theorem ok_mk {r : Int32} {σ τ : rp_St} (h : RR σ τ) : OK (some (r, σ)) (some (r, τ)) := ⟨r, σ, τ, rfl, rfl, h⟩
theorem z_bi (x : Option (Int32 × rp_St)) : rp_bd x (fun r s => some (r, s)) = x := by
  cases x with
  | none => rfl
  | some p => rfl
theorem z10 : ((1 : Int32) = 0) = False := by simp
theorem z_gb0 {β : Type} (e : Option β) : rp_gu ((0 : Int32) == 0 || (0 : Int32) == 1) e = e := rfl
theorem z_gb1 {β : Type} (e : Option β) : rp_gu ((1 : Int32) == 0 || (1 : Int32) == 1) e = e := rfl
/-- a finding -/
theorem ok_ref (k : Nat) (hk : k < 6) (v : Int32) (w : Int32) (hv : v = nI k) (hw : (-1000000000) - w = nI k) (hvw : (-1000000000) - v = w) {σ τ : rp_St} (h : RR σ τ) : OK (fX6_refuse v σ) (fX7_finding w τ) := by
  unfold fX6_refuse fX7_finding
  rw [hw, hvw, hv, z_g (z_in (by omega) (by omega)), z_g (z_in (by omega) (by omega)), z_nm, z_g (z_in (by omega) (by omega)), z_g (z_in (by omega) (by omega)), z_nm, z_cl (by omega)]
  refine ok_mk ?_
  obtain ⟨h1, h2, h3⟩ := h
  obtain ⟨g1, g2, g3, g4⟩ := h3
  refine ⟨h1.cg (fun j hj => z_putk _ _ _ _ (by unfold eC at hj; omega)) (fun i _ => by rw [z_putk _ _ _ _ (by decide)]), ⟨by rw [z_putk _ _ _ _ (by decide)]; exact h2.1, by rw [z_putk _ _ _ _ (by decide)]; exact h2.2⟩, ⟨?_, ?_⟩, ?_, ?_, ?_⟩
  · rw [z_putk _ _ _ _ (by decide), z_putk _ _ _ _ (by decide)]; exact g1.1
  · rcases g1.2 with q | q
    · exact Or.inl (by rw [z_putk _ _ _ _ (by decide)]; exact q)
    · exact Or.inr (q.cg (fun j hj => z_putk _ _ _ _ (by unfold eC at hj; omega)) (fun i _ => by rw [z_putk _ _ _ _ (by decide)]))
  · intro i hi
    rw [z_put, z_put, g2 i hi, g2 k hk]
    by_cases q : i = k
    · rw [if_pos ⟨rfl, q⟩, if_pos ⟨rfl, q⟩]
    · rw [if_neg (fun z => q z.2), if_neg (fun z => q z.2)]
  · exact g3.cg (fun j p q => z_putk _ _ _ _ (by omega)) (fun j p q => z_putk _ _ _ _ (by omega))
  · exact g4.cg (by rw [z_putk _ _ _ _ (by decide)]) (z_putk _ _ _ _ (by decide)) (by rw [z_putk _ _ _ _ (by decide)]) (z_putk _ _ _ _ (by decide))
theorem rf1 {σ τ : rp_St} (h : RR σ τ) : OK (fX6_refuse 1 σ) (fX7_finding (-1000000001) τ) := ok_ref 1 (by decide) _ _ rfl (by decide +kernel) (by decide +kernel) h
theorem rf2 {σ τ : rp_St} (h : RR σ τ) : OK (fX6_refuse 2 σ) (fX7_finding (-1000000002) τ) := ok_ref 2 (by decide) _ _ rfl (by decide +kernel) (by decide +kernel) h
theorem rf3 {σ τ : rp_St} (h : RR σ τ) : OK (fX6_refuse 3 σ) (fX7_finding (-1000000003) τ) := ok_ref 3 (by decide) _ _ rfl (by decide +kernel) (by decide +kernel) h
theorem rf4 {σ τ : rp_St} (h : RR σ τ) : OK (fX6_refuse 4 σ) (fX7_finding (-1000000004) τ) := ok_ref 4 (by decide) _ _ rfl (by decide +kernel) (by decide +kernel) h
theorem rf5 {σ τ : rp_St} (h : RR σ τ) : OK (fX6_refuse 5 σ) (fX7_finding (-1000000005) τ) := ok_ref 5 (by decide) _ _ rfl (by decide +kernel) (by decide +kernel) h
/-- a number that is at least 0 -/
theorem z_nat {v : Int32} (h : ¬ v < 0) : ∃ n, v = nI n ∧ n < 2147483648 := by
  rw [Int32.lt_iff_toInt_lt] at h
  have e0 : (0 : Int32).toInt = 0 := by decide +kernel
  have h2 := Int32.toInt_lt v
  refine ⟨v.toInt.toNat, ?_, by omega⟩
  apply Int32.toInt_inj.mp
  rw [show (nI v.toInt.toNat).toInt = (v.toInt.toNat : Int) from nI_toInt (by omega)]
  omega
/-- within, in both -/
theorem zW (v : Int32) (a b : Nat) (ha : a < 1000000) (hb : b < 1000000) : ((∀ σ, fX6_isWithin v (nI a) (nI b) σ = some (0, σ)) ∧ (∀ σ, fX7_within v (nI a) (nI b) σ = some (0, σ))) ∨ (∃ n, a ≤ n ∧ n ≤ b ∧ v = nI n ∧ (∀ σ, fX6_isWithin v (nI a) (nI b) σ = some (1, σ)) ∧ (∀ σ, fX7_within v (nI a) (nI b) σ = some (1, σ))) := by
  by_cases h1 : v < nI a
  · left
    exact ⟨fun σ => by unfold fX6_isWithin; rw [if_pos h1], fun σ => by unfold fX7_within; rw [if_pos h1]⟩
  · by_cases h2 : nI b < v
    · left
      exact ⟨fun σ => by unfold fX6_isWithin; rw [if_neg h1, if_pos h2], fun σ => by unfold fX7_within; rw [if_neg h1, if_pos h2]⟩
    · right
      have e1 : (nI a).toInt = a := nI_toInt (by omega)
      have e2 : (nI b).toInt = b := nI_toInt (by omega)
      have h1' := h1
      have h2' := h2
      rw [Int32.lt_iff_toInt_lt] at h1' h2'
      refine ⟨v.toInt.toNat, by omega, by omega, ?_, fun σ => by unfold fX6_isWithin; rw [if_neg h1, if_neg h2], fun σ => by unfold fX7_within; rw [if_neg h1, if_neg h2]⟩
      apply Int32.toInt_inj.mp
      rw [show (nI v.toInt.toNat).toInt = (v.toInt.toNat : Int) from nI_toInt (by omega)]
      omega
/-- a guest, in both -/
theorem zGu (v : Int32) {β : zB} {σ τ : rp_St} (hI : BI β) (hX : BX β σ 0) (hM : BM β (τ 1)) : (fX6_isGuest v σ = some (0, σ) ∧ fX7_isGuest v τ = some (0, τ)) ∨ (∃ g, g < β 0 0 ∧ v = nI g ∧ fX6_isGuest v σ = some (1, σ) ∧ fX7_isGuest v τ = some (1, τ)) := by
  have h7 := hI.1
  have e0 : (0 : Int32).toInt = 0 := by decide +kernel
  have e1 : (1 : Int32).toInt = 1 := by decide +kernel
  have en : (nI (β 0 0)).toInt = (β 0 0 : Int) := nI_toInt (by omega)
  have em : (nI (β 0 0) - 1 : Int32).toInt = (β 0 0 : Int) - 1 := pk_sub_toInt (a := β 0 0) (b := 1) (by omega) (by omega)
  unfold fX6_isGuest fX7_isGuest fX7_within
  rw [hX.1, z_g zc1, zl1, hM.1]
  by_cases h1 : v < 0
  · left
    rw [if_pos h1, if_pos h1]
    exact ⟨rfl, rfl⟩
  · by_cases h2 : nI (β 0 0) ≤ v
    · left
      have h3 : nI (β 0 0) - 1 < v := by
        rw [Int32.le_iff_toInt_le] at h2
        rw [Int32.lt_iff_toInt_lt]
        omega
      rw [if_neg h1, if_neg h1, if_pos h2, if_pos h3]
      exact ⟨rfl, rfl⟩
    · right
      have h3 : ¬ nI (β 0 0) - 1 < v := by
        rw [Int32.le_iff_toInt_le] at h2
        rw [Int32.lt_iff_toInt_lt]
        omega
      rw [if_neg h1, if_neg h1, if_neg h2, if_neg h3]
      have h1' := h1
      rw [Int32.lt_iff_toInt_lt] at h1'
      rw [Int32.le_iff_toInt_le] at h2
      refine ⟨v.toInt.toNat, by omega, ?_, rfl, rfl⟩
      apply Int32.toInt_inj.mp
      rw [show (nI v.toInt.toNat).toInt = (v.toInt.toNat : Int) from nI_toInt (by omega)]
      omega
