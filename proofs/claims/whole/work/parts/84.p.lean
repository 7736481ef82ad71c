def VN (k : Nat) (n m : Int32) (σ0 τ0 σ τ : rp_St) : Prop := (σ 59 0 = nI k ∧ σ 59 1 = n ∧ σ 59 2 = m) ∧ (τ 0 17 = nI k ∧ τ 0 18 = n ∧ τ 0 19 = m) ∧ VR σ τ ∧ (∀ j, j ≠ 59 → j ≠ 60 → σ j = σ0 j) ∧ (∀ j, j ≠ 0 → j ≠ 10 → τ j = τ0 j) ∧ τ 0 3 = τ0 0 3
theorem vN {k : Nat} {n m : Int32} {σ0 τ0 σ τ : rp_St} (h : VN k n m σ0 τ0 σ τ) (v : Int32) : ∃ σ' τ', fX5_note v σ = some (0, σ') ∧ fX7_ran v τ = some (0, τ') ∧ VN k n m σ0 τ0 σ' τ' := by
  obtain ⟨⟨h1, h2, h3⟩, ⟨g1, g2, g3⟩, ⟨t, ht, e1, e2, e3⟩, f1, f2, f3⟩ := id h
  unfold fX5_note fX7_ran
  rw [e1, e2]
  by_cases c : t = 40
  · rw [if_pos (show (40 : Int32) ≤ nI t from (z_le (a := 40) (by omega) (by omega)).mpr (by omega)), if_pos (show (40 : Int32) ≤ nI t from (z_le (a := 40) (by omega) (by omega)).mpr (by omega))]
    exact ⟨σ, τ, rfl, rfl, h⟩
  · rw [if_neg (show ¬ (40 : Int32) ≤ nI t from fun z => by have := (z_le (a := 40) (by omega) (by omega)).mp z; omega), if_neg (show ¬ (40 : Int32) ≤ nI t from fun z => by have := (z_le (a := 40) (by omega) (by omega)).mp z; omega), z_g (z_in (show t < 40 by omega) (by decide)), z_g (z_in (show t < 40 by omega) (by decide)), z_nm, z_nm, z_nm, z_nm, z_cl (by omega), z_pn σ 60 t v (j := 59) (i' := 3) (by omega), e1, z_pn τ 10 t v (j := 0) (i' := 16) (by omega), e2, show (nI t + 1 : Int32) = nI (t + 1) from nI_1 _]
    refine ⟨_, _, rfl, rfl, ⟨?_, ?_, ?_⟩, ⟨?_, ?_, ?_⟩, ⟨t + 1, by omega, z_p _ _ _ _, z_p _ _ _ _, fun i hi => ?_⟩, fun j p q => ?_, fun j p q => ?_, ?_⟩
    · rw [z_pn _ _ _ _ (by omega), z_pn _ _ _ _ (by omega)]; exact h1
    · rw [z_pn _ _ _ _ (by omega), z_pn _ _ _ _ (by omega)]; exact h2
    · rw [z_pn _ _ _ _ (by omega), z_pn _ _ _ _ (by omega)]; exact h3
    · rw [z_pn _ _ _ _ (by omega), z_pn _ _ _ _ (by omega)]; exact g1
    · rw [z_pn _ _ _ _ (by omega), z_pn _ _ _ _ (by omega)]; exact g2
    · rw [z_pn _ _ _ _ (by omega), z_pn _ _ _ _ (by omega)]; exact g3
    · rw [z_pn (rp_put σ 60 t v) _ _ _ (by omega), z_pn (rp_put τ 10 t v) _ _ _ (by omega)]
      by_cases q : i = t
      · subst q
        rw [z_p, z_p]
      · rw [z_pn σ _ _ _ (by omega), z_pn τ _ _ _ (by omega)]
        exact e3 i (by omega)
    · rw [z_putk _ _ _ _ p, z_putk _ _ _ _ q]; exact f1 j p q
    · rw [z_putk _ _ _ _ p, z_putk _ _ _ _ q]; exact f2 j p q
    · rw [z_pn _ _ _ _ (by omega), z_pn _ _ _ _ (by omega)]; exact f3
theorem z_16 : ¬ (1 : Int32) = 0 := by decide
theorem vD0 {n m : Int32} {σ0 τ0 : rp_St} (F d : Nat) (hd : d ≤ 20) (g : Int32) {σ τ : rp_St} (h : VN 0 n m σ0 τ0 σ τ) : ∃ r σ' τ', (fX5_grp (F + 4)).1 (nI 0) (nI 0) g (nI d) σ = some (r, σ') ∧ fX7_dancesOf g τ = some (r, τ') ∧ VN 0 n m σ0 τ0 σ' τ' := by
  have u1 : ∀ τ : rp_St, fX7_isUnder (nI 0) 1 τ = some (0, τ) := fun τ => (zU 0 1 (by decide) (by decide)).2 τ
  obtain ⟨σ1, τ1, a1, b1, h1⟩ := vN h 10
  refine ⟨g + n, σ1, τ1, ?_, ?_, h1⟩
  · rw [gS00 (F + 3) d (by omega) g σ, a1, z_bd, gA10 (F + 2), h1.1.2.1]
  · rw [fX7_dancesOf, h.2.1.1, u1, z_bd, if_pos rfl, fX7_dancesOf_19, b1, z_bd, if_pos rfl, h1.2.1.2.1]
theorem vL0 {n m : Int32} {σ0 τ0 : rp_St} (F d : Nat) (hd : d ≤ 20) (g : Int32) {σ τ : rp_St} (h : VN 0 n m σ0 τ0 σ τ) : ∃ r σ' τ', (fX5_grp (F + 6)).1 (nI 0) (nI 2) g (nI d) σ = some (r, σ') ∧ fX7_looksOf g τ = some (r, τ') ∧ VN 0 n m σ0 τ0 σ' τ' := by
  have u3 : ∀ τ : rp_St, fX7_isUnder (nI 0) 3 τ = some (0, τ) := fun τ => (zU 0 3 (by decide) (by decide)).2 τ
  obtain ⟨σ1, τ1, a1, b1, h1⟩ := vN h 12
  refine ⟨g - m, σ1, τ1, ?_, ?_, h1⟩
  · rw [gS02 (F + 5) d (by omega) g σ, a1, z_bd, gA12 (F + 4), h1.1.2.2]
  · rw [fX7_looksOf, h.2.1.1, if_neg (show ¬ nI 0 = (6 : Int32) by decide +kernel), fX7_looksOf_15, h.2.1.1, u3, z_bd, if_pos rfl, fX7_looksOf_34, b1, z_bd, if_pos rfl, fX7_looksOf_60, h1.2.1.1, if_neg (show ¬ nI 0 = (6 : Int32) by decide +kernel), h1.2.1.2.2]
theorem vS0 {n m : Int32} {σ0 τ0 : rp_St} (F d : Nat) (hd : d ≤ 15) (g : Int32) {σ τ : rp_St} (h : VN 0 n m σ0 τ0 σ τ) : ∃ r σ' τ', (fX5_grp (F + 10)).1 (nI 0) (nI 1) g (nI d) σ = some (r, σ') ∧ fX7_sighsOf g τ = some (r, τ') ∧ VN 0 n m σ0 τ0 σ' τ' := by
  have u2 : ∀ τ : rp_St, fX7_isUnder (nI 0) 2 τ = some (0, τ) := fun τ => (zU 0 2 (by decide) (by decide)).2 τ
  obtain ⟨σ1, τ1, a1, b1, h1⟩ := vN h 11
  obtain ⟨r, σ4, τ4, c4, e4, h4⟩ := vD0 (F + 4) (d + 1) (by omega) g h1
  refine ⟨r * 2, σ4, τ4, ?_, ?_, h4⟩
  · rw [gS01 (F + 9) d (by omega) g σ, a1, z_bd, gA11 (F + 8), h1.1.1, c4, z_bd]
  · rw [fX7_sighsOf, h.2.1.1, if_neg (show ¬ nI 0 = (5 : Int32) by decide +kernel), fX7_sighsOf_19, h.2.1.1, u2, z_bd, if_pos rfl, fX7_sighsOf_38, b1, z_bd, e4, z_bd, z_nm, if_pos rfl]
theorem vP0 {n m : Int32} {σ0 τ0 : rp_St} (F d : Nat) (hd : d ≤ 12) (g : Int32) {σ τ : rp_St} (h : VN 0 n m σ0 τ0 σ τ) : ∃ r σ' τ', rp_bd (fX5_note 13 σ) (fun _ s => (fX5_grp (F + 11)).2 13 (-1) g (nI (d + 1)) s) = some (r, σ') ∧ fX7_plainTells g τ = some (r, τ') ∧ VN 0 n m σ0 τ0 σ' τ' := by
  obtain ⟨σ1, τ1, a1, b1, h1⟩ := vN h 13
  obtain ⟨r, σ4, τ4, c4, e4, h4⟩ := vS0 F (d + 1) (by omega) g h1
  obtain ⟨q, σ5, τ5, c5, e5, h5⟩ := vL0 (F + 4) (d + 1) (by omega) g h4
  refine ⟨r ^^^ q, σ5, τ5, ?_, ?_, h5⟩
  · rw [a1, z_bd, gA13 (F + 10), h1.1.1, c4, z_bd, h4.1.1, c5, z_bd]
  · rw [fX7_plainTells, b1, z_bd, e4, z_bd, e5, z_bd]
theorem vT0 {n m : Int32} {σ0 τ0 : rp_St} (F d : Nat) (hd : d ≤ 8) (g : Int32) {σ τ : rp_St} (h : VN 0 n m σ0 τ0 σ τ) : ∃ r σ' τ', (fX5_grp (F + 14)).1 (nI 0) (nI 3) g (nI d) σ = some (r, σ') ∧ fX7_tellsOf g τ = some (r, τ') ∧ VN 0 n m σ0 τ0 σ' τ' := by
  obtain ⟨r, σ4, τ4, c4, e4, h4⟩ := vP0 (F + 2) d (by omega) g h
  refine ⟨r, σ4, τ4, ?_, ?_, h4⟩
  · rw [gS03 (F + 13) d (by omega) g σ]
    exact c4
  · rw [fX7_tellsOf, h.2.1.1, if_neg (show ¬ nI 0 = (6 : Int32) by decide +kernel), if_neg (show ¬ nI 0 = (4 : Int32) by decide +kernel), e4, z_bd]
theorem vD1 {n m : Int32} {σ0 τ0 : rp_St} (F d : Nat) (hd : d ≤ 20) (g : Int32) {σ τ : rp_St} (h : VN 1 n m σ0 τ0 σ τ) : ∃ r σ' τ', (fX5_grp (F + 4)).1 (nI 1) (nI 0) g (nI d) σ = some (r, σ') ∧ fX7_dancesOf g τ = some (r, τ') ∧ VN 1 n m σ0 τ0 σ' τ' := by
  have u1 : ∀ τ : rp_St, fX7_isUnder (nI 1) 1 τ = some (1, τ) := fun τ => (zU 1 1 (by decide) (by decide)).2 τ
  obtain ⟨σ1, τ1, a1, b1, h1⟩ := vN h 20
  obtain ⟨σ2, τ2, a2, b2, h2⟩ := vN h1 10
  refine ⟨(g + n) * 3, σ2, τ2, ?_, ?_, h2⟩
  · rw [gS10 (F + 3) d (by omega) g σ, a1, z_bd, gA20 (F + 2), gS00 (F + 1) (d + 1) (by omega) g σ1, a2, z_bd, gA10 F, z_bd, h2.1.2.1]
  · rw [fX7_dancesOf, h.2.1.1, u1, z_bd, if_neg z_16, b1, z_bd, fX7_dancesOf_19, b2, z_bd, if_neg z_16, h2.2.1.2.1]
theorem vL1 {n m : Int32} {σ0 τ0 : rp_St} (F d : Nat) (hd : d ≤ 20) (g : Int32) {σ τ : rp_St} (h : VN 1 n m σ0 τ0 σ τ) : ∃ r σ' τ', (fX5_grp (F + 6)).1 (nI 1) (nI 2) g (nI d) σ = some (r, σ') ∧ fX7_looksOf g τ = some (r, τ') ∧ VN 1 n m σ0 τ0 σ' τ' := by
  have u3 : ∀ τ : rp_St, fX7_isUnder (nI 1) 3 τ = some (0, τ) := fun τ => (zU 1 3 (by decide) (by decide)).2 τ
  obtain ⟨σ1, τ1, a1, b1, h1⟩ := vN h 12
  refine ⟨g - m, σ1, τ1, ?_, ?_, h1⟩
  · rw [gS12 (F + 5) d (by omega) g σ, a1, z_bd, gA12 (F + 4), h1.1.2.2]
  · rw [fX7_looksOf, h.2.1.1, if_neg (show ¬ nI 1 = (6 : Int32) by decide +kernel), fX7_looksOf_15, h.2.1.1, u3, z_bd, if_pos rfl, fX7_looksOf_34, b1, z_bd, if_pos rfl, fX7_looksOf_60, h1.2.1.1, if_neg (show ¬ nI 1 = (6 : Int32) by decide +kernel), h1.2.1.2.2]
theorem vS1 {n m : Int32} {σ0 τ0 : rp_St} (F d : Nat) (hd : d ≤ 15) (g : Int32) {σ τ : rp_St} (h : VN 1 n m σ0 τ0 σ τ) : ∃ r σ' τ', (fX5_grp (F + 10)).1 (nI 1) (nI 1) g (nI d) σ = some (r, σ') ∧ fX7_sighsOf g τ = some (r, τ') ∧ VN 1 n m σ0 τ0 σ' τ' := by
  have u2 : ∀ τ : rp_St, fX7_isUnder (nI 1) 2 τ = some (0, τ) := fun τ => (zU 1 2 (by decide) (by decide)).2 τ
  obtain ⟨σ1, τ1, a1, b1, h1⟩ := vN h 11
  obtain ⟨r, σ4, τ4, c4, e4, h4⟩ := vD1 (F + 4) (d + 1) (by omega) g h1
  refine ⟨r * 2, σ4, τ4, ?_, ?_, h4⟩
  · rw [gS11 (F + 9) d (by omega) g σ, a1, z_bd, gA11 (F + 8), h1.1.1, c4, z_bd]
  · rw [fX7_sighsOf, h.2.1.1, if_neg (show ¬ nI 1 = (5 : Int32) by decide +kernel), fX7_sighsOf_19, h.2.1.1, u2, z_bd, if_pos rfl, fX7_sighsOf_38, b1, z_bd, e4, z_bd, z_nm, if_pos rfl]
theorem vP1 {n m : Int32} {σ0 τ0 : rp_St} (F d : Nat) (hd : d ≤ 12) (g : Int32) {σ τ : rp_St} (h : VN 1 n m σ0 τ0 σ τ) : ∃ r σ' τ', rp_bd (fX5_note 13 σ) (fun _ s => (fX5_grp (F + 11)).2 13 (-1) g (nI (d + 1)) s) = some (r, σ') ∧ fX7_plainTells g τ = some (r, τ') ∧ VN 1 n m σ0 τ0 σ' τ' := by
  obtain ⟨σ1, τ1, a1, b1, h1⟩ := vN h 13
  obtain ⟨r, σ4, τ4, c4, e4, h4⟩ := vS1 F (d + 1) (by omega) g h1
  obtain ⟨q, σ5, τ5, c5, e5, h5⟩ := vL1 (F + 4) (d + 1) (by omega) g h4
  refine ⟨r ^^^ q, σ5, τ5, ?_, ?_, h5⟩
  · rw [a1, z_bd, gA13 (F + 10), h1.1.1, c4, z_bd, h4.1.1, c5, z_bd]
  · rw [fX7_plainTells, b1, z_bd, e4, z_bd, e5, z_bd]
theorem vT1 {n m : Int32} {σ0 τ0 : rp_St} (F d : Nat) (hd : d ≤ 8) (g : Int32) {σ τ : rp_St} (h : VN 1 n m σ0 τ0 σ τ) : ∃ r σ' τ', (fX5_grp (F + 14)).1 (nI 1) (nI 3) g (nI d) σ = some (r, σ') ∧ fX7_tellsOf g τ = some (r, τ') ∧ VN 1 n m σ0 τ0 σ' τ' := by
  obtain ⟨r, σ4, τ4, c4, e4, h4⟩ := vP1 (F + 2) d (by omega) g h
  refine ⟨r, σ4, τ4, ?_, ?_, h4⟩
  · rw [gS13 (F + 13) d (by omega) g σ]
    exact c4
  · rw [fX7_tellsOf, h.2.1.1, if_neg (show ¬ nI 1 = (6 : Int32) by decide +kernel), if_neg (show ¬ nI 1 = (4 : Int32) by decide +kernel), e4, z_bd]
theorem vD2 {n m : Int32} {σ0 τ0 : rp_St} (F d : Nat) (hd : d ≤ 20) (g : Int32) {σ τ : rp_St} (h : VN 2 n m σ0 τ0 σ τ) : ∃ r σ' τ', (fX5_grp (F + 4)).1 (nI 2) (nI 0) g (nI d) σ = some (r, σ') ∧ fX7_dancesOf g τ = some (r, τ') ∧ VN 2 n m σ0 τ0 σ' τ' := by
  have u1 : ∀ τ : rp_St, fX7_isUnder (nI 2) 1 τ = some (0, τ) := fun τ => (zU 2 1 (by decide) (by decide)).2 τ
  obtain ⟨σ1, τ1, a1, b1, h1⟩ := vN h 10
  refine ⟨g + n, σ1, τ1, ?_, ?_, h1⟩
  · rw [gS20 (F + 3) d (by omega) g σ, a1, z_bd, gA10 (F + 2), h1.1.2.1]
  · rw [fX7_dancesOf, h.2.1.1, u1, z_bd, if_pos rfl, fX7_dancesOf_19, b1, z_bd, if_pos rfl, h1.2.1.2.1]
theorem vL2 {n m : Int32} {σ0 τ0 : rp_St} (F d : Nat) (hd : d ≤ 20) (g : Int32) {σ τ : rp_St} (h : VN 2 n m σ0 τ0 σ τ) : ∃ r σ' τ', (fX5_grp (F + 6)).1 (nI 2) (nI 2) g (nI d) σ = some (r, σ') ∧ fX7_looksOf g τ = some (r, τ') ∧ VN 2 n m σ0 τ0 σ' τ' := by
  have u3 : ∀ τ : rp_St, fX7_isUnder (nI 2) 3 τ = some (0, τ) := fun τ => (zU 2 3 (by decide) (by decide)).2 τ
  obtain ⟨σ1, τ1, a1, b1, h1⟩ := vN h 12
  refine ⟨g - m, σ1, τ1, ?_, ?_, h1⟩
  · rw [gS22 (F + 5) d (by omega) g σ, a1, z_bd, gA12 (F + 4), h1.1.2.2]
  · rw [fX7_looksOf, h.2.1.1, if_neg (show ¬ nI 2 = (6 : Int32) by decide +kernel), fX7_looksOf_15, h.2.1.1, u3, z_bd, if_pos rfl, fX7_looksOf_34, b1, z_bd, if_pos rfl, fX7_looksOf_60, h1.2.1.1, if_neg (show ¬ nI 2 = (6 : Int32) by decide +kernel), h1.2.1.2.2]
theorem vS2 {n m : Int32} {σ0 τ0 : rp_St} (F d : Nat) (hd : d ≤ 15) (g : Int32) {σ τ : rp_St} (h : VN 2 n m σ0 τ0 σ τ) : ∃ r σ' τ', (fX5_grp (F + 10)).1 (nI 2) (nI 1) g (nI d) σ = some (r, σ') ∧ fX7_sighsOf g τ = some (r, τ') ∧ VN 2 n m σ0 τ0 σ' τ' := by
  have u2 : ∀ τ : rp_St, fX7_isUnder (nI 2) 2 τ = some (1, τ) := fun τ => (zU 2 2 (by decide) (by decide)).2 τ
  obtain ⟨σ1, τ1, a1, b1, h1⟩ := vN h 30
  obtain ⟨σ2, τ2, a2, b2, h2⟩ := vN h1 11
  obtain ⟨r, σ4, τ4, c4, e4, h4⟩ := vD2 (F + 2) (d + 1 + 1) (by omega) g h2
  obtain ⟨q, σ5, τ5, c5, e5, h5⟩ := vL2 (F + 2) (d + 1) (by omega) 1 h4
  refine ⟨r * 2 - q, σ5, τ5, ?_, ?_, h5⟩
  · rw [gS21 (F + 9) d (by omega) g σ, a1, z_bd, gA30 (F + 8), gS01 (F + 7) (d + 1) (by omega) g σ1, a2, z_bd, gA11 (F + 6), h2.1.1, c4, z_bd, z_bd, h4.1.1, c5, z_bd]
  · rw [fX7_sighsOf, h.2.1.1, if_neg (show ¬ nI 2 = (5 : Int32) by decide +kernel), fX7_sighsOf_19, h.2.1.1, u2, z_bd, if_neg z_16, b1, z_bd, fX7_sighsOf_38, b2, z_bd, e4, z_bd, z_nm, if_neg z_16, e5, z_bd]
theorem vP2 {n m : Int32} {σ0 τ0 : rp_St} (F d : Nat) (hd : d ≤ 12) (g : Int32) {σ τ : rp_St} (h : VN 2 n m σ0 τ0 σ τ) : ∃ r σ' τ', rp_bd (fX5_note 13 σ) (fun _ s => (fX5_grp (F + 11)).2 13 (-1) g (nI (d + 1)) s) = some (r, σ') ∧ fX7_plainTells g τ = some (r, τ') ∧ VN 2 n m σ0 τ0 σ' τ' := by
  obtain ⟨σ1, τ1, a1, b1, h1⟩ := vN h 13
  obtain ⟨r, σ4, τ4, c4, e4, h4⟩ := vS2 F (d + 1) (by omega) g h1
  obtain ⟨q, σ5, τ5, c5, e5, h5⟩ := vL2 (F + 4) (d + 1) (by omega) g h4
  refine ⟨r ^^^ q, σ5, τ5, ?_, ?_, h5⟩
  · rw [a1, z_bd, gA13 (F + 10), h1.1.1, c4, z_bd, h4.1.1, c5, z_bd]
  · rw [fX7_plainTells, b1, z_bd, e4, z_bd, e5, z_bd]
theorem vT2 {n m : Int32} {σ0 τ0 : rp_St} (F d : Nat) (hd : d ≤ 8) (g : Int32) {σ τ : rp_St} (h : VN 2 n m σ0 τ0 σ τ) : ∃ r σ' τ', (fX5_grp (F + 14)).1 (nI 2) (nI 3) g (nI d) σ = some (r, σ') ∧ fX7_tellsOf g τ = some (r, τ') ∧ VN 2 n m σ0 τ0 σ' τ' := by
  obtain ⟨r, σ4, τ4, c4, e4, h4⟩ := vP2 (F + 2) d (by omega) g h
  refine ⟨r, σ4, τ4, ?_, ?_, h4⟩
  · rw [gS23 (F + 13) d (by omega) g σ]
    exact c4
  · rw [fX7_tellsOf, h.2.1.1, if_neg (show ¬ nI 2 = (6 : Int32) by decide +kernel), if_neg (show ¬ nI 2 = (4 : Int32) by decide +kernel), e4, z_bd]
theorem vD3 {n m : Int32} {σ0 τ0 : rp_St} (F d : Nat) (hd : d ≤ 20) (g : Int32) {σ τ : rp_St} (h : VN 3 n m σ0 τ0 σ τ) : ∃ r σ' τ', (fX5_grp (F + 4)).1 (nI 3) (nI 0) g (nI d) σ = some (r, σ') ∧ fX7_dancesOf g τ = some (r, τ') ∧ VN 3 n m σ0 τ0 σ' τ' := by
  have u1 : ∀ τ : rp_St, fX7_isUnder (nI 3) 1 τ = some (0, τ) := fun τ => (zU 3 1 (by decide) (by decide)).2 τ
  obtain ⟨σ1, τ1, a1, b1, h1⟩ := vN h 10
  refine ⟨g + n, σ1, τ1, ?_, ?_, h1⟩
  · rw [gS30 (F + 3) d (by omega) g σ, a1, z_bd, gA10 (F + 2), h1.1.2.1]
  · rw [fX7_dancesOf, h.2.1.1, u1, z_bd, if_pos rfl, fX7_dancesOf_19, b1, z_bd, if_pos rfl, h1.2.1.2.1]
theorem vL3 {n m : Int32} {σ0 τ0 : rp_St} (F d : Nat) (hd : d ≤ 20) (g : Int32) {σ τ : rp_St} (h : VN 3 n m σ0 τ0 σ τ) : ∃ r σ' τ', (fX5_grp (F + 6)).1 (nI 3) (nI 2) g (nI d) σ = some (r, σ') ∧ fX7_looksOf g τ = some (r, τ') ∧ VN 3 n m σ0 τ0 σ' τ' := by
  have u3 : ∀ τ : rp_St, fX7_isUnder (nI 3) 3 τ = some (1, τ) := fun τ => (zU 3 3 (by decide) (by decide)).2 τ
  obtain ⟨σ1, τ1, a1, b1, h1⟩ := vN h 40
  obtain ⟨σ2, τ2, a2, b2, h2⟩ := vN h1 12
  refine ⟨-(g - m), σ2, τ2, ?_, ?_, h2⟩
  · rw [gS32 (F + 5) d (by omega) g σ, a1, z_bd, gA40 (F + 4), gS02 (F + 3) (d + 1) (by omega) g σ1, a2, z_bd, gA12 (F + 2), z_bd, h2.1.2.2]
  · rw [fX7_looksOf, h.2.1.1, if_neg (show ¬ nI 3 = (6 : Int32) by decide +kernel), fX7_looksOf_15, h.2.1.1, u3, z_bd, if_neg z_16, b1, z_bd, fX7_looksOf_34, b2, z_bd, if_neg z_16, fX7_looksOf_60, h2.2.1.1, if_neg (show ¬ nI 3 = (6 : Int32) by decide +kernel), h2.2.1.2.2]
theorem vS3 {n m : Int32} {σ0 τ0 : rp_St} (F d : Nat) (hd : d ≤ 15) (g : Int32) {σ τ : rp_St} (h : VN 3 n m σ0 τ0 σ τ) : ∃ r σ' τ', (fX5_grp (F + 10)).1 (nI 3) (nI 1) g (nI d) σ = some (r, σ') ∧ fX7_sighsOf g τ = some (r, τ') ∧ VN 3 n m σ0 τ0 σ' τ' := by
  have u2 : ∀ τ : rp_St, fX7_isUnder (nI 3) 2 τ = some (0, τ) := fun τ => (zU 3 2 (by decide) (by decide)).2 τ
  obtain ⟨σ1, τ1, a1, b1, h1⟩ := vN h 11
  obtain ⟨r, σ4, τ4, c4, e4, h4⟩ := vD3 (F + 4) (d + 1) (by omega) g h1
  refine ⟨r * 2, σ4, τ4, ?_, ?_, h4⟩
  · rw [gS31 (F + 9) d (by omega) g σ, a1, z_bd, gA11 (F + 8), h1.1.1, c4, z_bd]
  · rw [fX7_sighsOf, h.2.1.1, if_neg (show ¬ nI 3 = (5 : Int32) by decide +kernel), fX7_sighsOf_19, h.2.1.1, u2, z_bd, if_pos rfl, fX7_sighsOf_38, b1, z_bd, e4, z_bd, z_nm, if_pos rfl]
theorem vP3 {n m : Int32} {σ0 τ0 : rp_St} (F d : Nat) (hd : d ≤ 12) (g : Int32) {σ τ : rp_St} (h : VN 3 n m σ0 τ0 σ τ) : ∃ r σ' τ', rp_bd (fX5_note 13 σ) (fun _ s => (fX5_grp (F + 11)).2 13 (-1) g (nI (d + 1)) s) = some (r, σ') ∧ fX7_plainTells g τ = some (r, τ') ∧ VN 3 n m σ0 τ0 σ' τ' := by
  obtain ⟨σ1, τ1, a1, b1, h1⟩ := vN h 13
  obtain ⟨r, σ4, τ4, c4, e4, h4⟩ := vS3 F (d + 1) (by omega) g h1
  obtain ⟨q, σ5, τ5, c5, e5, h5⟩ := vL3 (F + 4) (d + 1) (by omega) g h4
  refine ⟨r ^^^ q, σ5, τ5, ?_, ?_, h5⟩
  · rw [a1, z_bd, gA13 (F + 10), h1.1.1, c4, z_bd, h4.1.1, c5, z_bd]
  · rw [fX7_plainTells, b1, z_bd, e4, z_bd, e5, z_bd]
theorem vT3 {n m : Int32} {σ0 τ0 : rp_St} (F d : Nat) (hd : d ≤ 8) (g : Int32) {σ τ : rp_St} (h : VN 3 n m σ0 τ0 σ τ) : ∃ r σ' τ', (fX5_grp (F + 14)).1 (nI 3) (nI 3) g (nI d) σ = some (r, σ') ∧ fX7_tellsOf g τ = some (r, τ') ∧ VN 3 n m σ0 τ0 σ' τ' := by
  obtain ⟨r, σ4, τ4, c4, e4, h4⟩ := vP3 (F + 2) d (by omega) g h
  refine ⟨r, σ4, τ4, ?_, ?_, h4⟩
  · rw [gS33 (F + 13) d (by omega) g σ]
    exact c4
  · rw [fX7_tellsOf, h.2.1.1, if_neg (show ¬ nI 3 = (6 : Int32) by decide +kernel), if_neg (show ¬ nI 3 = (4 : Int32) by decide +kernel), e4, z_bd]
theorem vD4 {n m : Int32} {σ0 τ0 : rp_St} (F d : Nat) (hd : d ≤ 20) (g : Int32) {σ τ : rp_St} (h : VN 4 n m σ0 τ0 σ τ) : ∃ r σ' τ', (fX5_grp (F + 4)).1 (nI 4) (nI 0) g (nI d) σ = some (r, σ') ∧ fX7_dancesOf g τ = some (r, τ') ∧ VN 4 n m σ0 τ0 σ' τ' := by
  have u1 : ∀ τ : rp_St, fX7_isUnder (nI 4) 1 τ = some (1, τ) := fun τ => (zU 4 1 (by decide) (by decide)).2 τ
  obtain ⟨σ1, τ1, a1, b1, h1⟩ := vN h 20
  obtain ⟨σ2, τ2, a2, b2, h2⟩ := vN h1 10
  refine ⟨(g + n) * 3, σ2, τ2, ?_, ?_, h2⟩
  · rw [gS40 (F + 3) d (by omega) g σ, a1, z_bd, gA20 (F + 2), gS00 (F + 1) (d + 1) (by omega) g σ1, a2, z_bd, gA10 F, z_bd, h2.1.2.1]
  · rw [fX7_dancesOf, h.2.1.1, u1, z_bd, if_neg z_16, b1, z_bd, fX7_dancesOf_19, b2, z_bd, if_neg z_16, h2.2.1.2.1]
theorem vL4 {n m : Int32} {σ0 τ0 : rp_St} (F d : Nat) (hd : d ≤ 20) (g : Int32) {σ τ : rp_St} (h : VN 4 n m σ0 τ0 σ τ) : ∃ r σ' τ', (fX5_grp (F + 6)).1 (nI 4) (nI 2) g (nI d) σ = some (r, σ') ∧ fX7_looksOf g τ = some (r, τ') ∧ VN 4 n m σ0 τ0 σ' τ' := by
  have u3 : ∀ τ : rp_St, fX7_isUnder (nI 4) 3 τ = some (0, τ) := fun τ => (zU 4 3 (by decide) (by decide)).2 τ
  obtain ⟨σ1, τ1, a1, b1, h1⟩ := vN h 12
  refine ⟨g - m, σ1, τ1, ?_, ?_, h1⟩
  · rw [gS42 (F + 5) d (by omega) g σ, a1, z_bd, gA12 (F + 4), h1.1.2.2]
  · rw [fX7_looksOf, h.2.1.1, if_neg (show ¬ nI 4 = (6 : Int32) by decide +kernel), fX7_looksOf_15, h.2.1.1, u3, z_bd, if_pos rfl, fX7_looksOf_34, b1, z_bd, if_pos rfl, fX7_looksOf_60, h1.2.1.1, if_neg (show ¬ nI 4 = (6 : Int32) by decide +kernel), h1.2.1.2.2]
theorem vS4 {n m : Int32} {σ0 τ0 : rp_St} (F d : Nat) (hd : d ≤ 15) (g : Int32) {σ τ : rp_St} (h : VN 4 n m σ0 τ0 σ τ) : ∃ r σ' τ', (fX5_grp (F + 10)).1 (nI 4) (nI 1) g (nI d) σ = some (r, σ') ∧ fX7_sighsOf g τ = some (r, τ') ∧ VN 4 n m σ0 τ0 σ' τ' := by
  have u2 : ∀ τ : rp_St, fX7_isUnder (nI 4) 2 τ = some (0, τ) := fun τ => (zU 4 2 (by decide) (by decide)).2 τ
  obtain ⟨σ1, τ1, a1, b1, h1⟩ := vN h 11
  obtain ⟨r, σ4, τ4, c4, e4, h4⟩ := vD4 (F + 4) (d + 1) (by omega) g h1
  refine ⟨r * 2, σ4, τ4, ?_, ?_, h4⟩
  · rw [gS41 (F + 9) d (by omega) g σ, a1, z_bd, gA11 (F + 8), h1.1.1, c4, z_bd]
  · rw [fX7_sighsOf, h.2.1.1, if_neg (show ¬ nI 4 = (5 : Int32) by decide +kernel), fX7_sighsOf_19, h.2.1.1, u2, z_bd, if_pos rfl, fX7_sighsOf_38, b1, z_bd, e4, z_bd, z_nm, if_pos rfl]
theorem vP4 {n m : Int32} {σ0 τ0 : rp_St} (F d : Nat) (hd : d ≤ 12) (g : Int32) {σ τ : rp_St} (h : VN 4 n m σ0 τ0 σ τ) : ∃ r σ' τ', rp_bd (fX5_note 13 σ) (fun _ s => (fX5_grp (F + 11)).2 13 (-1) g (nI (d + 1)) s) = some (r, σ') ∧ fX7_plainTells g τ = some (r, τ') ∧ VN 4 n m σ0 τ0 σ' τ' := by
  obtain ⟨σ1, τ1, a1, b1, h1⟩ := vN h 13
  obtain ⟨r, σ4, τ4, c4, e4, h4⟩ := vS4 F (d + 1) (by omega) g h1
  obtain ⟨q, σ5, τ5, c5, e5, h5⟩ := vL4 (F + 4) (d + 1) (by omega) g h4
  refine ⟨r ^^^ q, σ5, τ5, ?_, ?_, h5⟩
  · rw [a1, z_bd, gA13 (F + 10), h1.1.1, c4, z_bd, h4.1.1, c5, z_bd]
  · rw [fX7_plainTells, b1, z_bd, e4, z_bd, e5, z_bd]
theorem vT4 {n m : Int32} {σ0 τ0 : rp_St} (F d : Nat) (hd : d ≤ 8) (g : Int32) {σ τ : rp_St} (h : VN 4 n m σ0 τ0 σ τ) : ∃ r σ' τ', (fX5_grp (F + 14)).1 (nI 4) (nI 3) g (nI d) σ = some (r, σ') ∧ fX7_tellsOf g τ = some (r, τ') ∧ VN 4 n m σ0 τ0 σ' τ' := by
  obtain ⟨σ1, τ1, a1, b1, h1⟩ := vN h 50
  obtain ⟨r, σ4, τ4, c4, e4, h4⟩ := vP4 F (d + 1) (by omega) g h1
  obtain ⟨q, σ5, τ5, c5, e5, h5⟩ := vD4 (F + 8) (d + 1) (by omega) 2 h4
  refine ⟨r - q, σ5, τ5, ?_, ?_, h5⟩
  · rw [gS43 (F + 13) d (by omega) g σ, a1, z_bd, gA50 (F + 12), gS13 (F + 11) (d + 1) (by omega) g σ1, c4, z_bd, h4.1.1, c5, z_bd]
  · rw [fX7_tellsOf, h.2.1.1, if_neg (show ¬ nI 4 = (6 : Int32) by decide +kernel), if_pos (show nI 4 = (4 : Int32) from rfl), b1, z_bd, e4, z_bd, e5, z_bd]
theorem vD5 {n m : Int32} {σ0 τ0 : rp_St} (F d : Nat) (hd : d ≤ 20) (g : Int32) {σ τ : rp_St} (h : VN 5 n m σ0 τ0 σ τ) : ∃ r σ' τ', (fX5_grp (F + 4)).1 (nI 5) (nI 0) g (nI d) σ = some (r, σ') ∧ fX7_dancesOf g τ = some (r, τ') ∧ VN 5 n m σ0 τ0 σ' τ' := by
  have u1 : ∀ τ : rp_St, fX7_isUnder (nI 5) 1 τ = some (0, τ) := fun τ => (zU 5 1 (by decide) (by decide)).2 τ
  obtain ⟨σ1, τ1, a1, b1, h1⟩ := vN h 10
  refine ⟨g + n, σ1, τ1, ?_, ?_, h1⟩
  · rw [gS50 (F + 3) d (by omega) g σ, a1, z_bd, gA10 (F + 2), h1.1.2.1]
  · rw [fX7_dancesOf, h.2.1.1, u1, z_bd, if_pos rfl, fX7_dancesOf_19, b1, z_bd, if_pos rfl, h1.2.1.2.1]
theorem vL5 {n m : Int32} {σ0 τ0 : rp_St} (F d : Nat) (hd : d ≤ 20) (g : Int32) {σ τ : rp_St} (h : VN 5 n m σ0 τ0 σ τ) : ∃ r σ' τ', (fX5_grp (F + 6)).1 (nI 5) (nI 2) g (nI d) σ = some (r, σ') ∧ fX7_looksOf g τ = some (r, τ') ∧ VN 5 n m σ0 τ0 σ' τ' := by
  have u3 : ∀ τ : rp_St, fX7_isUnder (nI 5) 3 τ = some (0, τ) := fun τ => (zU 5 3 (by decide) (by decide)).2 τ
  obtain ⟨σ1, τ1, a1, b1, h1⟩ := vN h 12
  refine ⟨g - m, σ1, τ1, ?_, ?_, h1⟩
  · rw [gS52 (F + 5) d (by omega) g σ, a1, z_bd, gA12 (F + 4), h1.1.2.2]
  · rw [fX7_looksOf, h.2.1.1, if_neg (show ¬ nI 5 = (6 : Int32) by decide +kernel), fX7_looksOf_15, h.2.1.1, u3, z_bd, if_pos rfl, fX7_looksOf_34, b1, z_bd, if_pos rfl, fX7_looksOf_60, h1.2.1.1, if_neg (show ¬ nI 5 = (6 : Int32) by decide +kernel), h1.2.1.2.2]
theorem vS5 {n m : Int32} {σ0 τ0 : rp_St} (F d : Nat) (hd : d ≤ 15) (g : Int32) {σ τ : rp_St} (h : VN 5 n m σ0 τ0 σ τ) : ∃ r σ' τ', (fX5_grp (F + 10)).1 (nI 5) (nI 1) g (nI d) σ = some (r, σ') ∧ fX7_sighsOf g τ = some (r, τ') ∧ VN 5 n m σ0 τ0 σ' τ' := by
  have u2 : ∀ τ : rp_St, fX7_isUnder (nI 5) 2 τ = some (1, τ) := fun τ => (zU 5 2 (by decide) (by decide)).2 τ
  obtain ⟨σ1, τ1, a1, b1, h1⟩ := vN h 60
  obtain ⟨σ2, τ2, a2, b2, h2⟩ := vN h1 30
  obtain ⟨σ3, τ3, a3, b3, h3⟩ := vN h2 11
  obtain ⟨r, σ4, τ4, c4, e4, h4⟩ := vD5 F (d + 1 + 1 + 1) (by omega) (g + 1) h3
  obtain ⟨q, σ5, τ5, c5, e5, h5⟩ := vL5 F (d + 1 + 1) (by omega) 1 h4
  refine ⟨r * 2 - q, σ5, τ5, ?_, ?_, h5⟩
  · rw [gS51 (F + 9) d (by omega) g σ, a1, z_bd, gA60 (F + 8), z_bi, gS21 (F + 7) (d + 1) (by omega) (g + 1) σ1, a2, z_bd, gA30 (F + 6), gS01 (F + 5) (d + 1 + 1) (by omega) (g + 1) σ2, a3, z_bd, gA11 (F + 4), h3.1.1, c4, z_bd, z_bd, h4.1.1, c5, z_bd]
  · rw [fX7_sighsOf, h.2.1.1, if_pos (show nI 5 = (5 : Int32) from rfl), b1, z_bd, z_nm, fX7_sighsOf_19, h1.2.1.1, u2, z_bd, if_neg z_16, b2, z_bd, fX7_sighsOf_38, b3, z_bd, e4, z_bd, z_nm, if_neg z_16, e5, z_bd]
theorem vP5 {n m : Int32} {σ0 τ0 : rp_St} (F d : Nat) (hd : d ≤ 12) (g : Int32) {σ τ : rp_St} (h : VN 5 n m σ0 τ0 σ τ) : ∃ r σ' τ', rp_bd (fX5_note 13 σ) (fun _ s => (fX5_grp (F + 11)).2 13 (-1) g (nI (d + 1)) s) = some (r, σ') ∧ fX7_plainTells g τ = some (r, τ') ∧ VN 5 n m σ0 τ0 σ' τ' := by
  obtain ⟨σ1, τ1, a1, b1, h1⟩ := vN h 13
  obtain ⟨r, σ4, τ4, c4, e4, h4⟩ := vS5 F (d + 1) (by omega) g h1
  obtain ⟨q, σ5, τ5, c5, e5, h5⟩ := vL5 (F + 4) (d + 1) (by omega) g h4
  refine ⟨r ^^^ q, σ5, τ5, ?_, ?_, h5⟩
  · rw [a1, z_bd, gA13 (F + 10), h1.1.1, c4, z_bd, h4.1.1, c5, z_bd]
  · rw [fX7_plainTells, b1, z_bd, e4, z_bd, e5, z_bd]
theorem vT5 {n m : Int32} {σ0 τ0 : rp_St} (F d : Nat) (hd : d ≤ 8) (g : Int32) {σ τ : rp_St} (h : VN 5 n m σ0 τ0 σ τ) : ∃ r σ' τ', (fX5_grp (F + 14)).1 (nI 5) (nI 3) g (nI d) σ = some (r, σ') ∧ fX7_tellsOf g τ = some (r, τ') ∧ VN 5 n m σ0 τ0 σ' τ' := by
  obtain ⟨r, σ4, τ4, c4, e4, h4⟩ := vP5 (F + 2) d (by omega) g h
  refine ⟨r, σ4, τ4, ?_, ?_, h4⟩
  · rw [gS53 (F + 13) d (by omega) g σ]
    exact c4
  · rw [fX7_tellsOf, h.2.1.1, if_neg (show ¬ nI 5 = (6 : Int32) by decide +kernel), if_neg (show ¬ nI 5 = (4 : Int32) by decide +kernel), e4, z_bd]
theorem vD6 {n m : Int32} {σ0 τ0 : rp_St} (F d : Nat) (hd : d ≤ 20) (g : Int32) {σ τ : rp_St} (h : VN 6 n m σ0 τ0 σ τ) : ∃ r σ' τ', (fX5_grp (F + 4)).1 (nI 6) (nI 0) g (nI d) σ = some (r, σ') ∧ fX7_dancesOf g τ = some (r, τ') ∧ VN 6 n m σ0 τ0 σ' τ' := by
  have u1 : ∀ τ : rp_St, fX7_isUnder (nI 6) 1 τ = some (0, τ) := fun τ => (zU 6 1 (by decide) (by decide)).2 τ
  obtain ⟨σ1, τ1, a1, b1, h1⟩ := vN h 10
  refine ⟨g + n, σ1, τ1, ?_, ?_, h1⟩
  · rw [gS60 (F + 3) d (by omega) g σ, a1, z_bd, gA10 (F + 2), h1.1.2.1]
  · rw [fX7_dancesOf, h.2.1.1, u1, z_bd, if_pos rfl, fX7_dancesOf_19, b1, z_bd, if_pos rfl, h1.2.1.2.1]
theorem vL6 {n m : Int32} {σ0 τ0 : rp_St} (F d : Nat) (hd : d ≤ 20) (g : Int32) {σ τ : rp_St} (h : VN 6 n m σ0 τ0 σ τ) : ∃ r σ' τ', (fX5_grp (F + 6)).1 (nI 6) (nI 2) g (nI d) σ = some (r, σ') ∧ fX7_looksOf g τ = some (r, τ') ∧ VN 6 n m σ0 τ0 σ' τ' := by
  have u3 : ∀ τ : rp_St, fX7_isUnder (nI 6) 3 τ = some (1, τ) := fun τ => (zU 6 3 (by decide) (by decide)).2 τ
  obtain ⟨σ1, τ1, a1, b1, h1⟩ := vN h 70
  obtain ⟨σ2, τ2, a2, b2, h2⟩ := vN h1 40
  obtain ⟨σ3, τ3, a3, b3, h3⟩ := vN h2 12
  refine ⟨(-(g - m)) ^^^ n, σ3, τ3, ?_, ?_, h3⟩
  · rw [gS62 (F + 5) d (by omega) g σ, a1, z_bd, gA70 (F + 4), gS32 (F + 3) (d + 1) (by omega) g σ1, a2, z_bd, gA40 (F + 2), gS02 (F + 1) (d + 1 + 1) (by omega) g σ2, a3, z_bd, gA12 F, z_bd, z_bd, h3.1.2.1, h3.1.2.2]
  · rw [fX7_looksOf, h.2.1.1, if_pos (show nI 6 = (6 : Int32) from rfl), b1, z_bd, fX7_looksOf_15, h1.2.1.1, u3, z_bd, if_neg z_16, b2, z_bd, fX7_looksOf_34, b3, z_bd, if_neg z_16, fX7_looksOf_60, h3.2.1.1, if_pos (show nI 6 = (6 : Int32) from rfl), h3.2.1.2.1, h3.2.1.2.2]
theorem vS6 {n m : Int32} {σ0 τ0 : rp_St} (F d : Nat) (hd : d ≤ 15) (g : Int32) {σ τ : rp_St} (h : VN 6 n m σ0 τ0 σ τ) : ∃ r σ' τ', (fX5_grp (F + 10)).1 (nI 6) (nI 1) g (nI d) σ = some (r, σ') ∧ fX7_sighsOf g τ = some (r, τ') ∧ VN 6 n m σ0 τ0 σ' τ' := by
  have u2 : ∀ τ : rp_St, fX7_isUnder (nI 6) 2 τ = some (0, τ) := fun τ => (zU 6 2 (by decide) (by decide)).2 τ
  obtain ⟨σ1, τ1, a1, b1, h1⟩ := vN h 11
  obtain ⟨r, σ4, τ4, c4, e4, h4⟩ := vD6 (F + 4) (d + 1) (by omega) g h1
  refine ⟨r * 2, σ4, τ4, ?_, ?_, h4⟩
  · rw [gS61 (F + 9) d (by omega) g σ, a1, z_bd, gA11 (F + 8), h1.1.1, c4, z_bd]
  · rw [fX7_sighsOf, h.2.1.1, if_neg (show ¬ nI 6 = (5 : Int32) by decide +kernel), fX7_sighsOf_19, h.2.1.1, u2, z_bd, if_pos rfl, fX7_sighsOf_38, b1, z_bd, e4, z_bd, z_nm, if_pos rfl]
theorem vP6 {n m : Int32} {σ0 τ0 : rp_St} (F d : Nat) (hd : d ≤ 12) (g : Int32) {σ τ : rp_St} (h : VN 6 n m σ0 τ0 σ τ) : ∃ r σ' τ', rp_bd (fX5_note 13 σ) (fun _ s => (fX5_grp (F + 11)).2 13 (-1) g (nI (d + 1)) s) = some (r, σ') ∧ fX7_plainTells g τ = some (r, τ') ∧ VN 6 n m σ0 τ0 σ' τ' := by
  obtain ⟨σ1, τ1, a1, b1, h1⟩ := vN h 13
  obtain ⟨r, σ4, τ4, c4, e4, h4⟩ := vS6 F (d + 1) (by omega) g h1
  obtain ⟨q, σ5, τ5, c5, e5, h5⟩ := vL6 (F + 4) (d + 1) (by omega) g h4
  refine ⟨r ^^^ q, σ5, τ5, ?_, ?_, h5⟩
  · rw [a1, z_bd, gA13 (F + 10), h1.1.1, c4, z_bd, h4.1.1, c5, z_bd]
  · rw [fX7_plainTells, b1, z_bd, e4, z_bd, e5, z_bd]
theorem vT6 {n m : Int32} {σ0 τ0 : rp_St} (F d : Nat) (hd : d ≤ 8) (g : Int32) {σ τ : rp_St} (h : VN 6 n m σ0 τ0 σ τ) : ∃ r σ' τ', (fX5_grp (F + 14)).1 (nI 6) (nI 3) g (nI d) σ = some (r, σ') ∧ fX7_tellsOf g τ = some (r, τ') ∧ VN 6 n m σ0 τ0 σ' τ' := by
  obtain ⟨σ1, τ1, a1, b1, h1⟩ := vN h 71
  obtain ⟨r, σ4, τ4, c4, e4, h4⟩ := vS6 (F + 2) (d + 1) (by omega) g h1
  obtain ⟨q, σ5, τ5, c5, e5, h5⟩ := vP6 F (d + 1) (by omega) g h4
  refine ⟨r - q, σ5, τ5, ?_, ?_, h5⟩
  · rw [gS63 (F + 13) d (by omega) g σ, a1, z_bd, gA71 (F + 12), h1.1.1, c4, z_bd, gS33 (F + 11) (d + 1) (by omega) g σ4, c5, z_bd]
  · rw [fX7_tellsOf, h.2.1.1, if_pos (show nI 6 = (6 : Int32) from rfl), b1, z_bd, e4, z_bd, e5, z_bd]
theorem vD : ∀ (k : Nat) (_ : k ≤ 6) (n m : Int32) (σ0 τ0 : rp_St) (F d : Nat) (_ : d ≤ 20) (g : Int32) (σ τ : rp_St), VN k n m σ0 τ0 σ τ → ∃ r σ' τ', (fX5_grp (F + 4)).1 (nI k) (nI 0) g (nI d) σ = some (r, σ') ∧ fX7_dancesOf g τ = some (r, τ') ∧ VN k n m σ0 τ0 σ' τ'
  | 0, _, _, _, _, _, F, d, hd, g, _, _, h => vD0 F d hd g h
  | 1, _, _, _, _, _, F, d, hd, g, _, _, h => vD1 F d hd g h
  | 2, _, _, _, _, _, F, d, hd, g, _, _, h => vD2 F d hd g h
  | 3, _, _, _, _, _, F, d, hd, g, _, _, h => vD3 F d hd g h
  | 4, _, _, _, _, _, F, d, hd, g, _, _, h => vD4 F d hd g h
  | 5, _, _, _, _, _, F, d, hd, g, _, _, h => vD5 F d hd g h
  | 6, _, _, _, _, _, F, d, hd, g, _, _, h => vD6 F d hd g h
theorem vL : ∀ (k : Nat) (_ : k ≤ 6) (n m : Int32) (σ0 τ0 : rp_St) (F d : Nat) (_ : d ≤ 20) (g : Int32) (σ τ : rp_St), VN k n m σ0 τ0 σ τ → ∃ r σ' τ', (fX5_grp (F + 6)).1 (nI k) (nI 2) g (nI d) σ = some (r, σ') ∧ fX7_looksOf g τ = some (r, τ') ∧ VN k n m σ0 τ0 σ' τ'
  | 0, _, _, _, _, _, F, d, hd, g, _, _, h => vL0 F d hd g h
  | 1, _, _, _, _, _, F, d, hd, g, _, _, h => vL1 F d hd g h
  | 2, _, _, _, _, _, F, d, hd, g, _, _, h => vL2 F d hd g h
  | 3, _, _, _, _, _, F, d, hd, g, _, _, h => vL3 F d hd g h
  | 4, _, _, _, _, _, F, d, hd, g, _, _, h => vL4 F d hd g h
  | 5, _, _, _, _, _, F, d, hd, g, _, _, h => vL5 F d hd g h
  | 6, _, _, _, _, _, F, d, hd, g, _, _, h => vL6 F d hd g h
theorem vS : ∀ (k : Nat) (_ : k ≤ 6) (n m : Int32) (σ0 τ0 : rp_St) (F d : Nat) (_ : d ≤ 15) (g : Int32) (σ τ : rp_St), VN k n m σ0 τ0 σ τ → ∃ r σ' τ', (fX5_grp (F + 10)).1 (nI k) (nI 1) g (nI d) σ = some (r, σ') ∧ fX7_sighsOf g τ = some (r, τ') ∧ VN k n m σ0 τ0 σ' τ'
  | 0, _, _, _, _, _, F, d, hd, g, _, _, h => vS0 F d hd g h
  | 1, _, _, _, _, _, F, d, hd, g, _, _, h => vS1 F d hd g h
  | 2, _, _, _, _, _, F, d, hd, g, _, _, h => vS2 F d hd g h
  | 3, _, _, _, _, _, F, d, hd, g, _, _, h => vS3 F d hd g h
  | 4, _, _, _, _, _, F, d, hd, g, _, _, h => vS4 F d hd g h
  | 5, _, _, _, _, _, F, d, hd, g, _, _, h => vS5 F d hd g h
  | 6, _, _, _, _, _, F, d, hd, g, _, _, h => vS6 F d hd g h
theorem vT : ∀ (k : Nat) (_ : k ≤ 6) (n m : Int32) (σ0 τ0 : rp_St) (F d : Nat) (_ : d ≤ 8) (g : Int32) (σ τ : rp_St), VN k n m σ0 τ0 σ τ → ∃ r σ' τ', (fX5_grp (F + 14)).1 (nI k) (nI 3) g (nI d) σ = some (r, σ') ∧ fX7_tellsOf g τ = some (r, τ') ∧ VN k n m σ0 τ0 σ' τ'
  | 0, _, _, _, _, _, F, d, hd, g, _, _, h => vT0 F d hd g h
  | 1, _, _, _, _, _, F, d, hd, g, _, _, h => vT1 F d hd g h
  | 2, _, _, _, _, _, F, d, hd, g, _, _, h => vT2 F d hd g h
  | 3, _, _, _, _, _, F, d, hd, g, _, _, h => vT3 F d hd g h
  | 4, _, _, _, _, _, F, d, hd, g, _, _, h => vT4 F d hd g h
  | 5, _, _, _, _, _, F, d, hd, g, _, _, h => vT5 F d hd g h
  | 6, _, _, _, _, _, F, d, hd, g, _, _, h => vT6 F d hd g h
theorem RR.vo {k : Nat} {n m : Int32} {σ τ σ' τ' : rp_St} (h : RR σ τ) (v : VN k n m σ τ σ' τ') : RR σ' τ' := by
  obtain ⟨h1, h2, ⟨g1, g2⟩, h4, h5, h6⟩ := h
  obtain ⟨_, _, w, f1, f2, f3⟩ := v
  refine ⟨h1.cg (fun k hk => f1 k (by unfold eC at hk; omega) (by unfold eC at hk; omega)) (fun i _ => by rw [f2 1 (by decide) (by decide)]), ⟨by rw [f1 28 (by decide) (by decide)]; exact h2.1, by rw [f1 31 (by decide) (by decide)]; exact h2.2⟩, ⟨by rw [f1 54 (by decide) (by decide), f3]; exact g1, ?_⟩, fun i hi => by rw [f1 55 (by decide) (by decide), f2 4 (by decide) (by decide)]; exact h4 i hi, h5.cg (fun k p q => f1 k (by omega) (by omega)) (fun k p q => f2 k (by omega) (by omega)), w⟩
  rcases g2 with q | q
  · exact Or.inl (by rw [f1 54 (by decide) (by decide)]; exact q)
  · exact Or.inr (q.cg (fun k hk => f1 k (by unfold eC at hk; omega) (by unfold eC at hk; omega)) (fun i _ => by rw [f2 2 (by decide) (by decide)]))
theorem op_voice (v1 v2 v3 : Int32) (σ τ : rp_St) (h : RR σ τ) : OK (fX6_voice v1 v2 v3 σ) (fX7_voice v1 v2 v3 τ) := by
  obtain ⟨β, hI, hX, hM⟩ := h.1.1
  have hX : BX β σ 0 := hX
  have h7 := hI.1
  unfold fX6_voice fX7_voice fX6_voice_17 fX7_voice_17
  rcases zGu v1 hI hX hM with ⟨a1, a2⟩ | ⟨x, hx, rfl, a1, a2⟩
  · simp only [a1, a2, z_bd, z_bi, ↓reduceIte]
    exact rf1 h
  rcases zW' v2 0 3 0 3 rfl rfl (by decide) (by decide) with ⟨b1, b2⟩ | ⟨w, _, hw, rfl, b1, b2⟩
  · simp only [a1, a2, b1, b2, z_bd, z_bi, z10, ↓reduceIte]
    exact rf1 h
  simp only [a1, a2, b1, b2, z_bd, z_bi, z10, ↓reduceIte]
  have k1 : β 1 x ≤ 6 := hI.2.1 x hx 1 (by decide) (by decide)
  rw [z_g (z_in (by omega) (by omega)), z_g (z_in (by omega) (by omega)), z_cl (by omega), show σ 1 x = nI (β 1 x) from hX.2 x hx 1 (by decide) (by decide), show σ 2 x = nI (β 2 x) from hX.2 x hx 2 (by decide) (by decide)]
  unfold fX5_hear
  rw [z_nm, z_nm, z_nm, z_nm]
  obtain ⟨s, ds⟩ : ∃ s, s = rp_put (rp_put (rp_put (rp_put σ 59 1 (nI x)) 59 0 (nI (β 1 x))) 59 2 (nI (β 2 x))) 59 3 0 := ⟨_, rfl⟩
  have p1 : fX7_guestIs (nI x) 0 (rp_put τ 0 16 0) = some (nI (β 1 x), rp_put τ 0 16 0) := zm_is2 hI (by rw [z_putk _ _ _ _ (by decide)]; exact hM) hx (j := 1) (by decide) (by decide) 0 rfl
  have p2 : fX7_guestIs (nI x) 1 (rp_put (rp_put (rp_put τ 0 16 0) 0 17 (nI (β 1 x))) 0 18 (nI x)) = some (nI (β 2 x), rp_put (rp_put (rp_put τ 0 16 0) 0 17 (nI (β 1 x))) 0 18 (nI x)) := zm_is2 hI (by rw [z_putk _ _ _ _ (by decide), z_putk _ _ _ _ (by decide), z_putk _ _ _ _ (by decide)]; exact hM) hx (j := 2) (by decide) (by decide) 1 rfl
  rw [z_nm, p1, z_bd, z_nm, z_nm, p2, z_bd, z_nm, ← ds]
  obtain ⟨t, dt⟩ : ∃ t, t = rp_put (rp_put (rp_put (rp_put τ 0 16 0) 0 17 (nI (β 1 x))) 0 18 (nI x)) 0 19 (nI (β 2 x)) := ⟨_, rfl⟩
  rw [← dt]
  have V : VN (β 1 x) (nI x) (nI (β 2 x)) σ τ s t := by
    refine ⟨⟨?_, ?_, ?_⟩, ⟨?_, ?_, ?_⟩, ⟨0, by decide, ?_, ?_, fun i hi => by omega⟩, fun j p q => ?_, fun j p q => ?_, ?_⟩
    · rw [ds, z_pn _ _ _ _ (by omega), z_pn _ _ _ _ (by omega), z_p]
    · rw [ds, z_pn _ _ _ _ (by omega), z_pn _ _ _ _ (by omega), z_pn _ _ _ _ (by omega), z_p]
    · rw [ds, z_pn _ _ _ _ (by omega), z_p]
    · rw [dt, z_pn _ _ _ _ (by omega), z_pn _ _ _ _ (by omega), z_p]
    · rw [dt, z_pn _ _ _ _ (by omega), z_p]
    · rw [dt, z_p]
    · rw [ds, z_p]; rfl
    · rw [dt, z_pn _ _ _ _ (by omega), z_pn _ _ _ _ (by omega), z_pn _ _ _ _ (by omega), z_p]; rfl
    · rw [ds, z_putk _ _ _ _ p, z_putk _ _ _ _ p, z_putk _ _ _ _ p, z_putk _ _ _ _ p]
    · rw [dt, z_putk _ _ _ _ p, z_putk _ _ _ _ p, z_putk _ _ _ _ p, z_putk _ _ _ _ p]
    · rw [dt, z_pn _ _ _ _ (by omega), z_pn _ _ _ _ (by omega), z_pn _ _ _ _ (by omega), z_pn _ _ _ _ (by omega)]
  rw [V.1.1, z_bi]
  have fin : ∀ (a b : Option (Int32 × rp_St)), (∃ r σ' τ', a = some (r, σ') ∧ b = some (r, τ') ∧ VN (β 1 x) (nI x) (nI (β 2 x)) σ τ σ' τ') → OK a b := by
    intro a b hh
    obtain ⟨r, σ', τ', e1, e2, e3⟩ := hh
    exact ⟨r, σ', τ', e1, e2, h.vo e3⟩
  match w, hw with
  | 0, _ =>
    rw [if_pos (show nI 0 = (0 : Int32) from rfl)]
    exact fin _ _ (vD (β 1 x) k1 (nI x) (nI (β 2 x)) σ τ 76 0 (by decide) v3 s t V)
  | 1, _ =>
    rw [if_neg (show ¬ nI 1 = (0 : Int32) by decide +kernel), if_pos (show nI 1 = (1 : Int32) from rfl)]
    exact fin _ _ (vS (β 1 x) k1 (nI x) (nI (β 2 x)) σ τ 70 0 (by decide) v3 s t V)
  | 2, _ =>
    rw [if_neg (show ¬ nI 2 = (0 : Int32) by decide +kernel), if_neg (show ¬ nI 2 = (1 : Int32) by decide +kernel), if_pos (show nI 2 = (2 : Int32) from rfl)]
    exact fin _ _ (vL (β 1 x) k1 (nI x) (nI (β 2 x)) σ τ 74 0 (by decide) v3 s t V)
  | 3, _ =>
    rw [if_neg (show ¬ nI 3 = (0 : Int32) by decide +kernel), if_neg (show ¬ nI 3 = (1 : Int32) by decide +kernel), if_neg (show ¬ nI 3 = (2 : Int32) by decide +kernel)]
    exact fin _ _ (vT (β 1 x) k1 (nI x) (nI (β 2 x)) σ τ 66 0 (by decide) v3 s t V)

