/-- what a law gives, whatever else has changed -/
def GX (φ : Int32 → Int32 → Int32 → Int32) (l : Nat) (σ : rp_St) : Prop := ∀ σ' : rp_St, σ' (28 + 3 * l) = σ (28 + 3 * l) → σ' (28 + 3 * l + 1) = σ (28 + 3 * l + 1) → ∀ a b c, ∃ σ'', fX2_give l a b c σ' = some (φ a b c, σ'') ∧ fr (fun k => k = 28 + 3 * l + 2) σ' σ''
def GM (φ : Int32 → Int32 → Int32 → Int32) (u : Int32) (τ : rp_St) : Prop := ∀ τ' : rp_St, (∀ i, 117 ≤ i → i < 221 → τ' 1 i = τ 1 i) → ∀ a b c, ∃ τ'', fX7_given u a b c τ' = some (φ a b c, τ'') ∧ fr (fun k => k = 8 ∨ k = 9) τ' τ''
theorem GX.mv {φ : Int32 → Int32 → Int32 → Int32} {l : Nat} {σ σ1 : rp_St} (h : GX φ l σ) (e1 : σ1 (28 + 3 * l) = σ (28 + 3 * l)) (e2 : σ1 (28 + 3 * l + 1) = σ (28 + 3 * l + 1)) : GX φ l σ1 := fun σ' a b => h σ' (a.trans e1) (b.trans e2)
theorem GM.mv {φ : Int32 → Int32 → Int32 → Int32} {u : Int32} {τ τ1 : rp_St} (h : GM φ u τ) (e : ∀ i, 117 ≤ i → i < 221 → τ1 1 i = τ 1 i) : GM φ u τ1 := fun τ' a => h τ' (fun i h1 h2 => (a i h1 h2).trans (e i h1 h2))
def R0 (φ : Int32 → Int32 → Int32 → Int32) : Prop := ∀ a b c, ∃ v, v ≤ 999 ∧ φ a b c = nI v
/-- the class's cells that work on a ball writes; the reference's -/
def wX (b l : Nat) (k : Nat) : Prop := (7 * b ≤ k ∧ k < 7 * b + 7) ∨ k = 28 + 3 * l + 2
def frM (τ τ' : rp_St) : Prop := fr (fun k => k = 1 ∨ k = 5 ∨ k = 8 ∨ k = 9) τ τ' ∧ ∀ i, (i = 0 ∨ i = 2 ∨ i = 3 ∨ i = 4 ∨ 47 ≤ i) → τ' 1 i = τ 1 i
/-- the same, and hours may have gone by -/
def frH (τ τ' : rp_St) : Prop := fr (fun k => k = 1 ∨ k = 5 ∨ k = 8 ∨ k = 9) τ τ' ∧ ∀ i, (i = 2 ∨ i = 3 ∨ i = 4 ∨ 47 ≤ i) → τ' 1 i = τ 1 i
theorem frH_rf {τ : rp_St} : frH τ τ := ⟨fr_rf, fun _ _ => rfl⟩
theorem frH_tr {τ τ' τ'' : rp_St} (h : frH τ τ') (h2 : frH τ' τ'') : frH τ τ'' := ⟨fr_tr h.1 h2.1, fun i hi => (h2.2 i hi).trans (h.2 i hi)⟩
theorem frH_of {τ τ' : rp_St} (h : frM τ τ') : frH τ τ' := ⟨h.1, fun i hi => h.2 i (Or.inr hi)⟩
theorem frM_rf {τ : rp_St} : frM τ τ := ⟨fr_rf, fun _ _ => rfl⟩
theorem frM_tr {τ τ' τ'' : rp_St} (h : frM τ τ') (h2 : frM τ' τ'') : frM τ τ'' := ⟨fr_tr h.1 h2.1, fun i hi => (h2.2 i hi).trans (h.2 i hi)⟩
theorem frM_89 {τ τ' : rp_St} (h : fr (fun k => k = 8 ∨ k = 9) τ τ') : frM τ τ' := ⟨fr_mo h (fun k hk => by omega), fun i _ => by rw [h 1 (by omega)]⟩
theorem frM_put {τ : rp_St} {i : Nat} {v : Int32} (h : ¬ (i = 0 ∨ i = 2 ∨ i = 3 ∨ i = 4 ∨ 47 ≤ i)) : frM τ (rp_put τ 1 i v) := ⟨fr_put (Or.inl rfl), fun j hj => by rw [z_put, if_neg (fun (z : 1 = 1 ∧ j = i) => h (z.2 ▸ hj))]⟩
theorem frM_put5 {τ : rp_St} {i : Nat} {v : Int32} : frM τ (rp_put τ 5 i v) := ⟨fr_put (Or.inr (Or.inl rfl)), fun j hj => by rw [z_put, if_neg (by omega)]⟩
theorem z_up1 (τ : rp_St) (i : Nat) (v : Int32) : rp_put τ 1 i v 1 = upd (τ 1) i v := by unfold rp_put rp_row; simp
/-- noteDanced, hasDanced -/
def zn (β : zB) (g : Nat) : zB := zp (zp β 4 g (min (β 4 g + 1) 999)) 5 g 0
theorem zx_note {β : zB} {σ : rp_St} {b : Nat} (hI : BI β) (hX : BX β σ (7 * b)) {g : Nat} (hg : g < β 0 0) (l : Nat) : ∃ σ', fX0_noteDanced b (nI g) σ = some (0, σ') ∧ BX (zn β g) σ' (7 * b) ∧ fr (wX b l) σ σ' := by
  have h7 := hI.1
  have h4 : β 4 g ≤ 999 := hI.2.1 g hg 4 (by decide) (by decide)
  unfold fX0_noteDanced
  refine ⟨rp_put (rp_put σ (7 * b + 4) g (nI (min (β 4 g + 1) 999))) (7 * b + 5) g (nI 0), ?_, (hX.put (by decide) (by decide)).put (by decide) (by decide), fr_tr (fr_put (Or.inl (by omega))) (fr_put (Or.inl (by omega)))⟩
  rw [z_g (z_in (by omega) (by omega)), z_g (z_in (by omega) (by omega)), z_nm, z_g (z_in (by omega) (by omega)), z_nm, z_cl (by omega), hX.2 g hg 4 (by decide) (by decide), show (nI (β 4 g) + 1 : Int32) = nI (β 4 g + 1) from nI_1 _]
  have e : (if (999 : Int32) < nI (β 4 g + 1) then (999 : Int32) else nI (β 4 g + 1)) = nI (min (β 4 g + 1) 999) := by
    show (if nI 999 < nI (β 4 g + 1) then nI 999 else nI (β 4 g + 1)) = nI (min (β 4 g + 1) 999)
    by_cases q : 999 < β 4 g + 1
    · rw [if_pos ((z_lt (a := 999) (by omega) (by omega)).mpr q), Nat.min_eq_right (by omega)]
    · rw [if_neg (fun z => q ((z_lt (a := 999) (by omega) (by omega)).mp z)), Nat.min_eq_left (by omega)]
  rw [e]
  rfl
theorem zm_has {β : zB} {τ : rp_St} (hI : BI β) (hM : BM β (τ 1)) {g : Nat} (hg : g < β 0 0) (v : Nat) : ∃ τ', fX7_hasDanced (nI g) (nI v) τ = some (0, τ') ∧ BM (zn (zp β 3 g v) g) (τ' 1) ∧ frM τ τ' := by
  have h7 := hI.1
  have h4 : β 4 g ≤ 999 := hI.2.1 g hg 4 (by decide) (by decide)
  have e34 : zp β 3 g v 4 g = β 4 g := by unfold zp; rw [if_neg (by omega)]
  unfold fX7_hasDanced
  refine ⟨rp_put (rp_put (rp_put τ 1 (12 + 5 * g + 2) (nI v)) 1 (12 + 5 * g + 3) (nI (min (β 4 g + 1) 999))) 1 (12 + 5 * g + 4) (nI 0), ?_, ?_, ?_⟩
  · rw [show (2 : Int32) = nI 2 from rfl, show (3 : Int32) = nI 3 from rfl, show (4 : Int32) = nI 4 from rfl]
    simp only [zm_at, z_bd, z_nm]
    rw [z_g (z_in (by omega) (by omega)), z_cl (by omega), zm_is (by omega) (by omega), z_bd, z_g (z_in (by omega) (by omega)), z_cl (by omega), z_g (z_in (by omega) (by omega)), z_cl (by omega)]
    have e0 : rp_put τ 1 (12 + 5 * g + 2) (nI v) 1 (12 + 5 * g + 3) = nI (β 4 g) := by
      rw [z_put, if_neg (by omega), show 12 + 5 * g + 3 = zi 4 g by unfold zi; rw [if_neg (by decide)]; omega]
      exact hM.2 g hg 4 (by decide) (by decide)
    rw [e0, show (nI (β 4 g) + 1 : Int32) = nI (β 4 g + 1) from nI_1 _]
    have e : (if nI (β 4 g + 1) < (999 : Int32) then nI (β 4 g + 1) else (999 : Int32)) = nI (min (β 4 g + 1) 999) := by
      show (if nI (β 4 g + 1) < nI 999 then nI (β 4 g + 1) else nI 999) = nI (min (β 4 g + 1) 999)
      by_cases q : β 4 g + 1 < 999
      · rw [if_pos ((z_lt (b := 999) (by omega) (by omega)).mpr q), Nat.min_eq_left (by omega)]
      · rw [if_neg (fun z => q ((z_lt (b := 999) (by omega) (by omega)).mp z)), Nat.min_eq_right (by omega)]
    rw [e]
    rfl
  · rw [z_up1, z_up1, z_up1]
    have a1 := hM.put (v := v) h7 hg (j := 3) (by decide) (by decide) (i := 12 + 5 * g + 2) (by unfold zi; rw [if_neg (by decide)]; omega)
    have a2 := a1.put (v := min (β 4 g + 1) 999) (by rw [zp0 _ (by decide)]; exact h7) (g := g) (by rw [zp0 _ (by decide)]; exact hg) (j := 4) (by decide) (by decide) (i := 12 + 5 * g + 3) (by unfold zi; rw [if_neg (by decide)]; omega)
    have a3 := a2.put (v := 0) (by rw [zp0 _ (by decide), zp0 _ (by decide)]; exact h7) (g := g) (by rw [zp0 _ (by decide), zp0 _ (by decide)]; exact hg) (j := 5) (by decide) (by decide) (i := 12 + 5 * g + 4) (by unfold zi; rw [if_neg (by decide)]; omega)
    unfold zn
    rw [e34]
    exact a3
  · exact frM_tr (frM_put (by omega)) (frM_tr (frM_put (by omega)) (frM_put (by omega)))
/-- a dance of two -/
def zv (φ : Int32 → Int32 → Int32 → Int32) (β : zB) (x y : Nat) : Nat := (φ (nI (β 3 x)) (nI (β 3 y)) (nI (β 2 x))).toNatClampNeg
def zd (φ : Int32 → Int32 → Int32 → Int32) (x y : Nat) (β : zB) : zB := zn (zn (zp (zp β 3 y (zv φ β y x)) 3 x (zv φ β x y)) x) y
theorem zv_eq {φ : Int32 → Int32 → Int32 → Int32} (hR : R0 φ) (β : zB) (x y : Nat) : φ (nI (β 3 x)) (nI (β 3 y)) (nI (β 2 x)) = nI (zv φ β x y) ∧ zv φ β x y ≤ 999 := by
  obtain ⟨v, hv, e⟩ := hR (nI (β 3 x)) (nI (β 3 y)) (nI (β 2 x))
  unfold zv
  rw [e, z_cl (by omega)]
  exact ⟨rfl, hv⟩
theorem BI.put {β : zB} (hI : BI β) {j g v : Nat} (h1 : 1 ≤ j) (h5 : j ≤ 5) (hv : v ≤ zm j (β 0 0)) : BI (zp β j g v) := by
  have h0 := zp0 β h1 g v
  refine ⟨by rw [h0]; exact hI.1, fun g' hg j' a1 a6 => ?_, fun p q hp hq e => ?_⟩
  · rw [h0] at hg ⊢
    unfold zp
    by_cases c : j' = j ∧ g' = g
    · rw [if_pos c, c.1]
      exact hv
    · rw [if_neg c]
      exact hI.2.1 g' hg j' a1 a6
  · rw [h0] at hp hq
    unfold zp at e
    rw [if_neg (by omega), if_neg (by omega)] at e
    exact hI.2.2 p q hp hq e
theorem BI.note {β : zB} (hI : BI β) (g : Nat) : BI (zn β g) ∧ zn β g 0 0 = β 0 0 := by
  unfold zn
  have a1 : BI (zp β 4 g (min (β 4 g + 1) 999)) := hI.put (by decide) (by decide) (show min (β 4 g + 1) 999 ≤ 999 by omega)
  exact ⟨a1.put (by decide) (by decide) (Nat.zero_le _), by rw [zp0 _ (by decide), zp0 _ (by decide)]⟩
theorem BI.dance {φ : Int32 → Int32 → Int32 → Int32} (hR : R0 φ) {β : zB} (hI : BI β) (x y : Nat) : BI (zd φ x y β) ∧ zd φ x y β 0 0 = β 0 0 := by
  unfold zd
  have a1 : BI (zp β 3 y (zv φ β y x)) := hI.put (by decide) (by decide) (zv_eq hR β y x).2
  have a2 : BI (zp (zp β 3 y (zv φ β y x)) 3 x (zv φ β x y)) := a1.put (by decide) (by decide) (zv_eq hR β x y).2
  have a3 := a2.note x
  have a4 := a3.1.note y
  exact ⟨a4.1, by rw [a4.2, a3.2, zp0 _ (by decide), zp0 _ (by decide)]⟩
theorem zx_dance {φ : Int32 → Int32 → Int32 → Int32} (hR : R0 φ) {β : zB} {σ : rp_St} {b l : Nat} (hb : b < 4) (hl : l < 4) (hG : GX φ l σ) (hI : BI β) (hX : BX β σ (7 * b)) {x y : Nat} (hx : x < β 0 0) (hy : y < β 0 0) : ∃ σ', fX0_pairUp b l (nI x) (nI y) σ = some (0, σ') ∧ BX (zd φ x y β) σ' (7 * b) ∧ fr (wX b l) σ σ' := by
  have h7 := hI.1
  unfold fX0_pairUp
  obtain ⟨σ2, e2, f2⟩ := hG σ rfl rfl (nI (β 3 x)) (nI (β 3 y)) (nI (β 2 x))
  have hG2 : GX φ l σ2 := hG.mv (f2 _ (by omega)) (f2 _ (by omega))
  have hX2 : BX β σ2 (7 * b) := hX.fr (fun k h1 h2 => f2 k (by omega))
  obtain ⟨σ4, e4, f4⟩ := hG2 σ2 rfl rfl (nI (β 3 y)) (nI (β 3 x)) (nI (β 2 y))
  have hX4 : BX β σ4 (7 * b) := hX2.fr (fun k h1 h2 => f4 k (by omega))
  have vx := zv_eq hR β x y
  have vy := zv_eq hR β y x
  have hX6 := (hX4.put (j := 3) (g := y) (v := zv φ β y x) (by decide) (by decide)).put (j := 3) (g := x) (v := zv φ β x y) (by decide) (by decide)
  have a1 : BI (zp β 3 y (zv φ β y x)) := hI.put (by decide) (by decide) vy.2
  have a2 : BI (zp (zp β 3 y (zv φ β y x)) 3 x (zv φ β x y)) := a1.put (by decide) (by decide) vx.2
  have n2 : zp (zp β 3 y (zv φ β y x)) 3 x (zv φ β x y) 0 0 = β 0 0 := by rw [zp0 _ (by decide), zp0 _ (by decide)]
  obtain ⟨σ8, e8, hX8, f8⟩ := zx_note a2 hX6 (g := x) (by rw [n2]; exact hx) l
  have a3 := a2.note x
  obtain ⟨σ10, e10, hX10, f10⟩ := zx_note a3.1 hX8 (g := y) (by rw [a3.2, n2]; exact hy) l
  refine ⟨σ10, ?_, hX10, ?_⟩
  · rw [z_g (z_in (by omega) (by omega)), z_g (z_in (by omega) (by omega)), z_g (z_in (by omega) (by omega)), z_cl (by omega), z_cl (by omega), hX.2 x hx 3 (by decide) (by decide), hX.2 y hy 3 (by decide) (by decide), hX.2 x hx 2 (by decide) (by decide), e2, z_bd, z_g (z_in (by omega) (by omega)), z_g (z_in (by omega) (by omega)), z_g (z_in (by omega) (by omega)), hX2.2 x hx 3 (by decide) (by decide), hX2.2 y hy 3 (by decide) (by decide), hX2.2 y hy 2 (by decide) (by decide), e4, z_bd, z_g (z_in (by omega) (by omega)), z_nm, z_g (z_in (by omega) (by omega)), z_nm, vx.1, vy.1, e8, z_bd, e10, z_bd]
  · refine fr_tr (fr_mo f2 (fun k hk => Or.inr hk)) (fr_tr (fr_mo f4 (fun k hk => Or.inr hk)) (fr_tr (fr_put (Or.inl (by omega))) (fr_tr (fr_put (Or.inl (by omega))) (fr_tr f8 f10))))
theorem zm_dance {φ : Int32 → Int32 → Int32 → Int32} (hR : R0 φ) {β : zB} {τ : rp_St} (hG : GM φ 0 τ) (hI : BI β) (hM : BM β (τ 1)) {x y : Nat} (hx : x < β 0 0) (hy : y < β 0 0) (hxy : x ≠ y) : ∃ τ', fX7_dancing (nI x) (nI y) τ = some (0, τ') ∧ BM (zd φ x y β) (τ' 1) ∧ frM τ τ' := by
  have h7 := hI.1
  unfold fX7_dancing
  obtain ⟨τ2, e2, f2⟩ := hG τ (fun _ _ _ => rfl) (nI (β 3 x)) (nI (β 3 y)) (nI (β 2 x))
  have k1 : τ2 1 = τ 1 := f2 1 (by omega)
  have hG2 : GM φ 0 τ2 := hG.mv (fun i _ _ => by rw [k1])
  have hM2 : BM β (τ2 1) := by rw [k1]; exact hM
  obtain ⟨τ4, e4, f4⟩ := hG2 τ2 (fun _ _ _ => rfl) (nI (β 3 y)) (nI (β 3 x)) (nI (β 2 y))
  have k2 : τ4 1 = τ2 1 := f4 1 (by omega)
  have hM4 : BM β (τ4 1) := by rw [k2]; exact hM2
  have vx := zv_eq hR β x y
  have vy := zv_eq hR β y x
  obtain ⟨τ6, e6, hM6, f6⟩ := zm_has hI hM4 hx (zv φ β x y)
  have a1 : BI (zp β 3 x (zv φ β x y)) := hI.put (by decide) (by decide) vx.2
  have a2 := a1.note x
  obtain ⟨τ8, e8, hM8, f8⟩ := zm_has a2.1 hM6 (g := y) (by rw [a2.2, zp0 _ (by decide)]; exact hy) (zv φ β y x)
  refine ⟨τ8, ?_, hM8.cg ?_ ?_, frM_tr (frM_89 f2) (frM_tr (frM_89 f4) (frM_tr f6 f8))⟩
  · rw [zm_rue hI hM hx, z_bd, zm_rue hI hM hy, z_bd, zm_is2 hI hM hx (j := 2) (by decide) (by decide) 1 rfl, z_bd, e2, z_bd, zm_rue hI hM2 hy, z_bd, zm_rue hI hM2 hx, z_bd, zm_is2 hI hM2 hy (j := 2) (by decide) (by decide) 1 rfl, z_bd, e4, z_bd, vx.1, vy.1, e6, z_bd, e8, z_bd]
  · unfold zd zn
    rw [zp0 _ (by decide), zp0 _ (by decide), zp0 _ (by decide), zp0 _ (by decide), zp0 _ (by decide), zp0 _ (by decide), zp0 _ (by decide), zp0 _ (by decide), zp0 _ (by decide), zp0 _ (by decide), zp0 _ (by decide), zp0 _ (by decide)]
  · intro g hg j h1 h6
    unfold zd zn zp
    have d1 : ¬ (3 = 4) := by decide
    by_cases gx : g = x
    · subst gx
      have q : ¬ g = y := hxy
      match j, h1, h6 with
      | 1, _, _ => simp [q]
      | 2, _, _ => simp [q]
      | 3, _, _ => simp [q]
      | 4, _, _ => simp [q]
      | 5, _, _ => simp [q]
      | 6, _, _ => simp [q]
    · by_cases gy : g = y
      · subst gy
        match j, h1, h6 with
        | 1, _, _ => simp [gx]
        | 2, _, _ => simp [gx]
        | 3, _, _ => simp [gx]
        | 4, _, _ => simp [gx]
        | 5, _, _ => simp [gx]
        | 6, _, _ => simp [gx]
      · match j, h1, h6 with
        | 1, _, _ => simp [gx, gy]
        | 2, _, _ => simp [gx, gy]
        | 3, _, _ => simp [gx, gy]
        | 4, _, _ => simp [gx, gy]
        | 5, _, _ => simp [gx, gy]
        | 6, _, _ => simp [gx, gy]
