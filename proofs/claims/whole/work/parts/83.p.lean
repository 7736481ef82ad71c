/-! voices -/
theorem gr1 (F : Nat) : (fX5_grp (F + 1)).1 = fX5_speak (fX5_grp F).1 (fX5_grp F).2 := rfl
theorem gr2 (F : Nat) : (fX5_grp (F + 1)).2 = fX5_answer (fX5_grp F).1 (fX5_grp F).2 := rfl
theorem z_bi2 (x : Option (Int32 × rp_St)) (y : Option (Int32 × rp_St)) (h : x = y) : rp_bd x (fun r s => some (r, s)) = y := by rw [z_bi, h]
theorem gS00 (F d : Nat) (hd : d ≤ 30) (g : Int32) (σ : rp_St) : (fX5_grp (F + 1)).1 (nI 0) (nI 0) g (nI d) σ = rp_bd (fX5_note 10 σ) (fun _ s => (fX5_grp F).2 10 (-1) g (nI (d + 1)) s) := by
  rw [gr1]
  unfold fX5_speak
  rw [if_pos (show nI d ≤ (30 : Int32) from (z_le (b := 30) (by omega) (by omega)).mpr hd)]
  have key : rp_lp (fun _ _ _ _ _ _ => none) (fX5_speak_15 (fX5_grp F).1 (fX5_grp F).2) 300 (nI 0) g (nI d) (nI 0) 0 σ = rp_bd (fX5_note 10 σ) (fun _ s => rp_bd ((fX5_grp F).2 10 (-1) g (nI d + 1) s) (fun r s => some (r, s))) := by
    rw [show (300 : Nat) = 299 + 1 from rfl, z_lp, fX5_speak_15, if_neg (show ¬ (7 : Int32) ≤ 0 by decide +kernel), if_neg (show ¬ (nI 0) < (0 : Int32) by decide +kernel), z_g (show rp_in (4 * (nI 0) + (nI 0)) 28 = true by decide +kernel), z_nm, show xBo (4 * (nI 0) + (nI 0) : Int32).toNatClampNeg = 10 by decide +kernel, if_neg (show ¬ (10 : Int32) = 0 by decide +kernel)]
    refine congrArg (rp_bd (fX5_note 10 σ)) (funext fun _ => funext fun s => ?_)
    rw [z_g (show rp_in (nI 0) 7 = true by decide +kernel), show xAb ((nI 0) : Int32).toNatClampNeg = (-1) by decide +kernel]
  rw [key, show (nI d + 1 : Int32) = nI (d + 1) from nI_1 _]
  simp only [z_bi]
theorem gS01 (F d : Nat) (hd : d ≤ 30) (g : Int32) (σ : rp_St) : (fX5_grp (F + 1)).1 (nI 0) (nI 1) g (nI d) σ = rp_bd (fX5_note 11 σ) (fun _ s => (fX5_grp F).2 11 (-1) g (nI (d + 1)) s) := by
  rw [gr1]
  unfold fX5_speak
  rw [if_pos (show nI d ≤ (30 : Int32) from (z_le (b := 30) (by omega) (by omega)).mpr hd)]
  have key : rp_lp (fun _ _ _ _ _ _ => none) (fX5_speak_15 (fX5_grp F).1 (fX5_grp F).2) 300 (nI 1) g (nI d) (nI 0) 0 σ = rp_bd (fX5_note 11 σ) (fun _ s => rp_bd ((fX5_grp F).2 11 (-1) g (nI d + 1) s) (fun r s => some (r, s))) := by
    rw [show (300 : Nat) = 299 + 1 from rfl, z_lp, fX5_speak_15, if_neg (show ¬ (7 : Int32) ≤ 0 by decide +kernel), if_neg (show ¬ (nI 0) < (0 : Int32) by decide +kernel), z_g (show rp_in (4 * (nI 0) + (nI 1)) 28 = true by decide +kernel), z_nm, show xBo (4 * (nI 0) + (nI 1) : Int32).toNatClampNeg = 11 by decide +kernel, if_neg (show ¬ (11 : Int32) = 0 by decide +kernel)]
    refine congrArg (rp_bd (fX5_note 11 σ)) (funext fun _ => funext fun s => ?_)
    rw [z_g (show rp_in (nI 0) 7 = true by decide +kernel), show xAb ((nI 0) : Int32).toNatClampNeg = (-1) by decide +kernel]
  rw [key, show (nI d + 1 : Int32) = nI (d + 1) from nI_1 _]
  simp only [z_bi]
theorem gS02 (F d : Nat) (hd : d ≤ 30) (g : Int32) (σ : rp_St) : (fX5_grp (F + 1)).1 (nI 0) (nI 2) g (nI d) σ = rp_bd (fX5_note 12 σ) (fun _ s => (fX5_grp F).2 12 (-1) g (nI (d + 1)) s) := by
  rw [gr1]
  unfold fX5_speak
  rw [if_pos (show nI d ≤ (30 : Int32) from (z_le (b := 30) (by omega) (by omega)).mpr hd)]
  have key : rp_lp (fun _ _ _ _ _ _ => none) (fX5_speak_15 (fX5_grp F).1 (fX5_grp F).2) 300 (nI 2) g (nI d) (nI 0) 0 σ = rp_bd (fX5_note 12 σ) (fun _ s => rp_bd ((fX5_grp F).2 12 (-1) g (nI d + 1) s) (fun r s => some (r, s))) := by
    rw [show (300 : Nat) = 299 + 1 from rfl, z_lp, fX5_speak_15, if_neg (show ¬ (7 : Int32) ≤ 0 by decide +kernel), if_neg (show ¬ (nI 0) < (0 : Int32) by decide +kernel), z_g (show rp_in (4 * (nI 0) + (nI 2)) 28 = true by decide +kernel), z_nm, show xBo (4 * (nI 0) + (nI 2) : Int32).toNatClampNeg = 12 by decide +kernel, if_neg (show ¬ (12 : Int32) = 0 by decide +kernel)]
    refine congrArg (rp_bd (fX5_note 12 σ)) (funext fun _ => funext fun s => ?_)
    rw [z_g (show rp_in (nI 0) 7 = true by decide +kernel), show xAb ((nI 0) : Int32).toNatClampNeg = (-1) by decide +kernel]
  rw [key, show (nI d + 1 : Int32) = nI (d + 1) from nI_1 _]
  simp only [z_bi]
theorem gS03 (F d : Nat) (hd : d ≤ 30) (g : Int32) (σ : rp_St) : (fX5_grp (F + 1)).1 (nI 0) (nI 3) g (nI d) σ = rp_bd (fX5_note 13 σ) (fun _ s => (fX5_grp F).2 13 (-1) g (nI (d + 1)) s) := by
  rw [gr1]
  unfold fX5_speak
  rw [if_pos (show nI d ≤ (30 : Int32) from (z_le (b := 30) (by omega) (by omega)).mpr hd)]
  have key : rp_lp (fun _ _ _ _ _ _ => none) (fX5_speak_15 (fX5_grp F).1 (fX5_grp F).2) 300 (nI 3) g (nI d) (nI 0) 0 σ = rp_bd (fX5_note 13 σ) (fun _ s => rp_bd ((fX5_grp F).2 13 (-1) g (nI d + 1) s) (fun r s => some (r, s))) := by
    rw [show (300 : Nat) = 299 + 1 from rfl, z_lp, fX5_speak_15, if_neg (show ¬ (7 : Int32) ≤ 0 by decide +kernel), if_neg (show ¬ (nI 0) < (0 : Int32) by decide +kernel), z_g (show rp_in (4 * (nI 0) + (nI 3)) 28 = true by decide +kernel), z_nm, show xBo (4 * (nI 0) + (nI 3) : Int32).toNatClampNeg = 13 by decide +kernel, if_neg (show ¬ (13 : Int32) = 0 by decide +kernel)]
    refine congrArg (rp_bd (fX5_note 13 σ)) (funext fun _ => funext fun s => ?_)
    rw [z_g (show rp_in (nI 0) 7 = true by decide +kernel), show xAb ((nI 0) : Int32).toNatClampNeg = (-1) by decide +kernel]
  rw [key, show (nI d + 1 : Int32) = nI (d + 1) from nI_1 _]
  simp only [z_bi]
theorem gS10 (F d : Nat) (hd : d ≤ 30) (g : Int32) (σ : rp_St) : (fX5_grp (F + 1)).1 (nI 1) (nI 0) g (nI d) σ = rp_bd (fX5_note 20 σ) (fun _ s => (fX5_grp F).2 20 (nI 0) g (nI (d + 1)) s) := by
  rw [gr1]
  unfold fX5_speak
  rw [if_pos (show nI d ≤ (30 : Int32) from (z_le (b := 30) (by omega) (by omega)).mpr hd)]
  have key : rp_lp (fun _ _ _ _ _ _ => none) (fX5_speak_15 (fX5_grp F).1 (fX5_grp F).2) 300 (nI 0) g (nI d) (nI 1) 0 σ = rp_bd (fX5_note 20 σ) (fun _ s => rp_bd ((fX5_grp F).2 20 (nI 0) g (nI d + 1) s) (fun r s => some (r, s))) := by
    rw [show (300 : Nat) = 299 + 1 from rfl, z_lp, fX5_speak_15, if_neg (show ¬ (7 : Int32) ≤ 0 by decide +kernel), if_neg (show ¬ (nI 1) < (0 : Int32) by decide +kernel), z_g (show rp_in (4 * (nI 1) + (nI 0)) 28 = true by decide +kernel), z_nm, show xBo (4 * (nI 1) + (nI 0) : Int32).toNatClampNeg = 20 by decide +kernel, if_neg (show ¬ (20 : Int32) = 0 by decide +kernel)]
    refine congrArg (rp_bd (fX5_note 20 σ)) (funext fun _ => funext fun s => ?_)
    rw [z_g (show rp_in (nI 1) 7 = true by decide +kernel), show xAb ((nI 1) : Int32).toNatClampNeg = (nI 0) by decide +kernel]
  rw [key, show (nI d + 1 : Int32) = nI (d + 1) from nI_1 _]
  simp only [z_bi]
theorem gS11 (F d : Nat) (hd : d ≤ 30) (g : Int32) (σ : rp_St) : (fX5_grp (F + 1)).1 (nI 1) (nI 1) g (nI d) σ = rp_bd (fX5_note 11 σ) (fun _ s => (fX5_grp F).2 11 (-1) g (nI (d + 1)) s) := by
  rw [gr1]
  unfold fX5_speak
  rw [if_pos (show nI d ≤ (30 : Int32) from (z_le (b := 30) (by omega) (by omega)).mpr hd)]
  have key : rp_lp (fun _ _ _ _ _ _ => none) (fX5_speak_15 (fX5_grp F).1 (fX5_grp F).2) 300 (nI 1) g (nI d) (nI 1) 0 σ = rp_bd (fX5_note 11 σ) (fun _ s => rp_bd ((fX5_grp F).2 11 (-1) g (nI d + 1) s) (fun r s => some (r, s))) := by
    rw [show (300 : Nat) = 299 + 1 from rfl, z_lp, fX5_speak_15, if_neg (show ¬ (7 : Int32) ≤ 0 by decide +kernel), if_neg (show ¬ (nI 1) < (0 : Int32) by decide +kernel), z_g (show rp_in (4 * (nI 1) + (nI 1)) 28 = true by decide +kernel), z_nm, show xBo (4 * (nI 1) + (nI 1) : Int32).toNatClampNeg = 0 by decide +kernel, if_pos rfl, z_g (show rp_in (nI 1) 7 = true by decide +kernel), z_nm, z_nm, show xAb ((nI 1) : Int32).toNatClampNeg = 0 by decide +kernel, show (0 + 1 : Int32) = 1 by decide +kernel]
    rw [show (299 : Nat) = 298 + 1 from rfl, z_lp, fX5_speak_15, if_neg (show ¬ (7 : Int32) ≤ 1 by decide +kernel), if_neg (show ¬ 0 < (0 : Int32) by decide +kernel), z_g (show rp_in (4 * 0 + (nI 1)) 28 = true by decide +kernel), z_nm, show xBo (4 * 0 + (nI 1) : Int32).toNatClampNeg = 11 by decide +kernel, if_neg (show ¬ (11 : Int32) = 0 by decide +kernel)]
    refine congrArg (rp_bd (fX5_note 11 σ)) (funext fun _ => funext fun s => ?_)
    rw [z_g (show rp_in 0 7 = true by decide +kernel), show xAb (0 : Int32).toNatClampNeg = (-1) by decide +kernel]
  rw [key, show (nI d + 1 : Int32) = nI (d + 1) from nI_1 _]
  simp only [z_bi]
theorem gS12 (F d : Nat) (hd : d ≤ 30) (g : Int32) (σ : rp_St) : (fX5_grp (F + 1)).1 (nI 1) (nI 2) g (nI d) σ = rp_bd (fX5_note 12 σ) (fun _ s => (fX5_grp F).2 12 (-1) g (nI (d + 1)) s) := by
  rw [gr1]
  unfold fX5_speak
  rw [if_pos (show nI d ≤ (30 : Int32) from (z_le (b := 30) (by omega) (by omega)).mpr hd)]
  have key : rp_lp (fun _ _ _ _ _ _ => none) (fX5_speak_15 (fX5_grp F).1 (fX5_grp F).2) 300 (nI 2) g (nI d) (nI 1) 0 σ = rp_bd (fX5_note 12 σ) (fun _ s => rp_bd ((fX5_grp F).2 12 (-1) g (nI d + 1) s) (fun r s => some (r, s))) := by
    rw [show (300 : Nat) = 299 + 1 from rfl, z_lp, fX5_speak_15, if_neg (show ¬ (7 : Int32) ≤ 0 by decide +kernel), if_neg (show ¬ (nI 1) < (0 : Int32) by decide +kernel), z_g (show rp_in (4 * (nI 1) + (nI 2)) 28 = true by decide +kernel), z_nm, show xBo (4 * (nI 1) + (nI 2) : Int32).toNatClampNeg = 0 by decide +kernel, if_pos rfl, z_g (show rp_in (nI 1) 7 = true by decide +kernel), z_nm, z_nm, show xAb ((nI 1) : Int32).toNatClampNeg = 0 by decide +kernel, show (0 + 1 : Int32) = 1 by decide +kernel]
    rw [show (299 : Nat) = 298 + 1 from rfl, z_lp, fX5_speak_15, if_neg (show ¬ (7 : Int32) ≤ 1 by decide +kernel), if_neg (show ¬ 0 < (0 : Int32) by decide +kernel), z_g (show rp_in (4 * 0 + (nI 2)) 28 = true by decide +kernel), z_nm, show xBo (4 * 0 + (nI 2) : Int32).toNatClampNeg = 12 by decide +kernel, if_neg (show ¬ (12 : Int32) = 0 by decide +kernel)]
    refine congrArg (rp_bd (fX5_note 12 σ)) (funext fun _ => funext fun s => ?_)
    rw [z_g (show rp_in 0 7 = true by decide +kernel), show xAb (0 : Int32).toNatClampNeg = (-1) by decide +kernel]
  rw [key, show (nI d + 1 : Int32) = nI (d + 1) from nI_1 _]
  simp only [z_bi]
theorem gS13 (F d : Nat) (hd : d ≤ 30) (g : Int32) (σ : rp_St) : (fX5_grp (F + 1)).1 (nI 1) (nI 3) g (nI d) σ = rp_bd (fX5_note 13 σ) (fun _ s => (fX5_grp F).2 13 (-1) g (nI (d + 1)) s) := by
  rw [gr1]
  unfold fX5_speak
  rw [if_pos (show nI d ≤ (30 : Int32) from (z_le (b := 30) (by omega) (by omega)).mpr hd)]
  have key : rp_lp (fun _ _ _ _ _ _ => none) (fX5_speak_15 (fX5_grp F).1 (fX5_grp F).2) 300 (nI 3) g (nI d) (nI 1) 0 σ = rp_bd (fX5_note 13 σ) (fun _ s => rp_bd ((fX5_grp F).2 13 (-1) g (nI d + 1) s) (fun r s => some (r, s))) := by
    rw [show (300 : Nat) = 299 + 1 from rfl, z_lp, fX5_speak_15, if_neg (show ¬ (7 : Int32) ≤ 0 by decide +kernel), if_neg (show ¬ (nI 1) < (0 : Int32) by decide +kernel), z_g (show rp_in (4 * (nI 1) + (nI 3)) 28 = true by decide +kernel), z_nm, show xBo (4 * (nI 1) + (nI 3) : Int32).toNatClampNeg = 0 by decide +kernel, if_pos rfl, z_g (show rp_in (nI 1) 7 = true by decide +kernel), z_nm, z_nm, show xAb ((nI 1) : Int32).toNatClampNeg = 0 by decide +kernel, show (0 + 1 : Int32) = 1 by decide +kernel]
    rw [show (299 : Nat) = 298 + 1 from rfl, z_lp, fX5_speak_15, if_neg (show ¬ (7 : Int32) ≤ 1 by decide +kernel), if_neg (show ¬ 0 < (0 : Int32) by decide +kernel), z_g (show rp_in (4 * 0 + (nI 3)) 28 = true by decide +kernel), z_nm, show xBo (4 * 0 + (nI 3) : Int32).toNatClampNeg = 13 by decide +kernel, if_neg (show ¬ (13 : Int32) = 0 by decide +kernel)]
    refine congrArg (rp_bd (fX5_note 13 σ)) (funext fun _ => funext fun s => ?_)
    rw [z_g (show rp_in 0 7 = true by decide +kernel), show xAb (0 : Int32).toNatClampNeg = (-1) by decide +kernel]
  rw [key, show (nI d + 1 : Int32) = nI (d + 1) from nI_1 _]
  simp only [z_bi]
theorem gS20 (F d : Nat) (hd : d ≤ 30) (g : Int32) (σ : rp_St) : (fX5_grp (F + 1)).1 (nI 2) (nI 0) g (nI d) σ = rp_bd (fX5_note 10 σ) (fun _ s => (fX5_grp F).2 10 (-1) g (nI (d + 1)) s) := by
  rw [gr1]
  unfold fX5_speak
  rw [if_pos (show nI d ≤ (30 : Int32) from (z_le (b := 30) (by omega) (by omega)).mpr hd)]
  have key : rp_lp (fun _ _ _ _ _ _ => none) (fX5_speak_15 (fX5_grp F).1 (fX5_grp F).2) 300 (nI 0) g (nI d) (nI 2) 0 σ = rp_bd (fX5_note 10 σ) (fun _ s => rp_bd ((fX5_grp F).2 10 (-1) g (nI d + 1) s) (fun r s => some (r, s))) := by
    rw [show (300 : Nat) = 299 + 1 from rfl, z_lp, fX5_speak_15, if_neg (show ¬ (7 : Int32) ≤ 0 by decide +kernel), if_neg (show ¬ (nI 2) < (0 : Int32) by decide +kernel), z_g (show rp_in (4 * (nI 2) + (nI 0)) 28 = true by decide +kernel), z_nm, show xBo (4 * (nI 2) + (nI 0) : Int32).toNatClampNeg = 0 by decide +kernel, if_pos rfl, z_g (show rp_in (nI 2) 7 = true by decide +kernel), z_nm, z_nm, show xAb ((nI 2) : Int32).toNatClampNeg = 0 by decide +kernel, show (0 + 1 : Int32) = 1 by decide +kernel]
    rw [show (299 : Nat) = 298 + 1 from rfl, z_lp, fX5_speak_15, if_neg (show ¬ (7 : Int32) ≤ 1 by decide +kernel), if_neg (show ¬ 0 < (0 : Int32) by decide +kernel), z_g (show rp_in (4 * 0 + (nI 0)) 28 = true by decide +kernel), z_nm, show xBo (4 * 0 + (nI 0) : Int32).toNatClampNeg = 10 by decide +kernel, if_neg (show ¬ (10 : Int32) = 0 by decide +kernel)]
    refine congrArg (rp_bd (fX5_note 10 σ)) (funext fun _ => funext fun s => ?_)
    rw [z_g (show rp_in 0 7 = true by decide +kernel), show xAb (0 : Int32).toNatClampNeg = (-1) by decide +kernel]
  rw [key, show (nI d + 1 : Int32) = nI (d + 1) from nI_1 _]
  simp only [z_bi]
theorem gS21 (F d : Nat) (hd : d ≤ 30) (g : Int32) (σ : rp_St) : (fX5_grp (F + 1)).1 (nI 2) (nI 1) g (nI d) σ = rp_bd (fX5_note 30 σ) (fun _ s => (fX5_grp F).2 30 (nI 0) g (nI (d + 1)) s) := by
  rw [gr1]
  unfold fX5_speak
  rw [if_pos (show nI d ≤ (30 : Int32) from (z_le (b := 30) (by omega) (by omega)).mpr hd)]
  have key : rp_lp (fun _ _ _ _ _ _ => none) (fX5_speak_15 (fX5_grp F).1 (fX5_grp F).2) 300 (nI 1) g (nI d) (nI 2) 0 σ = rp_bd (fX5_note 30 σ) (fun _ s => rp_bd ((fX5_grp F).2 30 (nI 0) g (nI d + 1) s) (fun r s => some (r, s))) := by
    rw [show (300 : Nat) = 299 + 1 from rfl, z_lp, fX5_speak_15, if_neg (show ¬ (7 : Int32) ≤ 0 by decide +kernel), if_neg (show ¬ (nI 2) < (0 : Int32) by decide +kernel), z_g (show rp_in (4 * (nI 2) + (nI 1)) 28 = true by decide +kernel), z_nm, show xBo (4 * (nI 2) + (nI 1) : Int32).toNatClampNeg = 30 by decide +kernel, if_neg (show ¬ (30 : Int32) = 0 by decide +kernel)]
    refine congrArg (rp_bd (fX5_note 30 σ)) (funext fun _ => funext fun s => ?_)
    rw [z_g (show rp_in (nI 2) 7 = true by decide +kernel), show xAb ((nI 2) : Int32).toNatClampNeg = (nI 0) by decide +kernel]
  rw [key, show (nI d + 1 : Int32) = nI (d + 1) from nI_1 _]
  simp only [z_bi]
theorem gS22 (F d : Nat) (hd : d ≤ 30) (g : Int32) (σ : rp_St) : (fX5_grp (F + 1)).1 (nI 2) (nI 2) g (nI d) σ = rp_bd (fX5_note 12 σ) (fun _ s => (fX5_grp F).2 12 (-1) g (nI (d + 1)) s) := by
  rw [gr1]
  unfold fX5_speak
  rw [if_pos (show nI d ≤ (30 : Int32) from (z_le (b := 30) (by omega) (by omega)).mpr hd)]
  have key : rp_lp (fun _ _ _ _ _ _ => none) (fX5_speak_15 (fX5_grp F).1 (fX5_grp F).2) 300 (nI 2) g (nI d) (nI 2) 0 σ = rp_bd (fX5_note 12 σ) (fun _ s => rp_bd ((fX5_grp F).2 12 (-1) g (nI d + 1) s) (fun r s => some (r, s))) := by
    rw [show (300 : Nat) = 299 + 1 from rfl, z_lp, fX5_speak_15, if_neg (show ¬ (7 : Int32) ≤ 0 by decide +kernel), if_neg (show ¬ (nI 2) < (0 : Int32) by decide +kernel), z_g (show rp_in (4 * (nI 2) + (nI 2)) 28 = true by decide +kernel), z_nm, show xBo (4 * (nI 2) + (nI 2) : Int32).toNatClampNeg = 0 by decide +kernel, if_pos rfl, z_g (show rp_in (nI 2) 7 = true by decide +kernel), z_nm, z_nm, show xAb ((nI 2) : Int32).toNatClampNeg = 0 by decide +kernel, show (0 + 1 : Int32) = 1 by decide +kernel]
    rw [show (299 : Nat) = 298 + 1 from rfl, z_lp, fX5_speak_15, if_neg (show ¬ (7 : Int32) ≤ 1 by decide +kernel), if_neg (show ¬ 0 < (0 : Int32) by decide +kernel), z_g (show rp_in (4 * 0 + (nI 2)) 28 = true by decide +kernel), z_nm, show xBo (4 * 0 + (nI 2) : Int32).toNatClampNeg = 12 by decide +kernel, if_neg (show ¬ (12 : Int32) = 0 by decide +kernel)]
    refine congrArg (rp_bd (fX5_note 12 σ)) (funext fun _ => funext fun s => ?_)
    rw [z_g (show rp_in 0 7 = true by decide +kernel), show xAb (0 : Int32).toNatClampNeg = (-1) by decide +kernel]
  rw [key, show (nI d + 1 : Int32) = nI (d + 1) from nI_1 _]
  simp only [z_bi]
theorem gS23 (F d : Nat) (hd : d ≤ 30) (g : Int32) (σ : rp_St) : (fX5_grp (F + 1)).1 (nI 2) (nI 3) g (nI d) σ = rp_bd (fX5_note 13 σ) (fun _ s => (fX5_grp F).2 13 (-1) g (nI (d + 1)) s) := by
  rw [gr1]
  unfold fX5_speak
  rw [if_pos (show nI d ≤ (30 : Int32) from (z_le (b := 30) (by omega) (by omega)).mpr hd)]
  have key : rp_lp (fun _ _ _ _ _ _ => none) (fX5_speak_15 (fX5_grp F).1 (fX5_grp F).2) 300 (nI 3) g (nI d) (nI 2) 0 σ = rp_bd (fX5_note 13 σ) (fun _ s => rp_bd ((fX5_grp F).2 13 (-1) g (nI d + 1) s) (fun r s => some (r, s))) := by
    rw [show (300 : Nat) = 299 + 1 from rfl, z_lp, fX5_speak_15, if_neg (show ¬ (7 : Int32) ≤ 0 by decide +kernel), if_neg (show ¬ (nI 2) < (0 : Int32) by decide +kernel), z_g (show rp_in (4 * (nI 2) + (nI 3)) 28 = true by decide +kernel), z_nm, show xBo (4 * (nI 2) + (nI 3) : Int32).toNatClampNeg = 0 by decide +kernel, if_pos rfl, z_g (show rp_in (nI 2) 7 = true by decide +kernel), z_nm, z_nm, show xAb ((nI 2) : Int32).toNatClampNeg = 0 by decide +kernel, show (0 + 1 : Int32) = 1 by decide +kernel]
    rw [show (299 : Nat) = 298 + 1 from rfl, z_lp, fX5_speak_15, if_neg (show ¬ (7 : Int32) ≤ 1 by decide +kernel), if_neg (show ¬ 0 < (0 : Int32) by decide +kernel), z_g (show rp_in (4 * 0 + (nI 3)) 28 = true by decide +kernel), z_nm, show xBo (4 * 0 + (nI 3) : Int32).toNatClampNeg = 13 by decide +kernel, if_neg (show ¬ (13 : Int32) = 0 by decide +kernel)]
    refine congrArg (rp_bd (fX5_note 13 σ)) (funext fun _ => funext fun s => ?_)
    rw [z_g (show rp_in 0 7 = true by decide +kernel), show xAb (0 : Int32).toNatClampNeg = (-1) by decide +kernel]
  rw [key, show (nI d + 1 : Int32) = nI (d + 1) from nI_1 _]
  simp only [z_bi]
theorem gS30 (F d : Nat) (hd : d ≤ 30) (g : Int32) (σ : rp_St) : (fX5_grp (F + 1)).1 (nI 3) (nI 0) g (nI d) σ = rp_bd (fX5_note 10 σ) (fun _ s => (fX5_grp F).2 10 (-1) g (nI (d + 1)) s) := by
  rw [gr1]
  unfold fX5_speak
  rw [if_pos (show nI d ≤ (30 : Int32) from (z_le (b := 30) (by omega) (by omega)).mpr hd)]
  have key : rp_lp (fun _ _ _ _ _ _ => none) (fX5_speak_15 (fX5_grp F).1 (fX5_grp F).2) 300 (nI 0) g (nI d) (nI 3) 0 σ = rp_bd (fX5_note 10 σ) (fun _ s => rp_bd ((fX5_grp F).2 10 (-1) g (nI d + 1) s) (fun r s => some (r, s))) := by
    rw [show (300 : Nat) = 299 + 1 from rfl, z_lp, fX5_speak_15, if_neg (show ¬ (7 : Int32) ≤ 0 by decide +kernel), if_neg (show ¬ (nI 3) < (0 : Int32) by decide +kernel), z_g (show rp_in (4 * (nI 3) + (nI 0)) 28 = true by decide +kernel), z_nm, show xBo (4 * (nI 3) + (nI 0) : Int32).toNatClampNeg = 0 by decide +kernel, if_pos rfl, z_g (show rp_in (nI 3) 7 = true by decide +kernel), z_nm, z_nm, show xAb ((nI 3) : Int32).toNatClampNeg = 0 by decide +kernel, show (0 + 1 : Int32) = 1 by decide +kernel]
    rw [show (299 : Nat) = 298 + 1 from rfl, z_lp, fX5_speak_15, if_neg (show ¬ (7 : Int32) ≤ 1 by decide +kernel), if_neg (show ¬ 0 < (0 : Int32) by decide +kernel), z_g (show rp_in (4 * 0 + (nI 0)) 28 = true by decide +kernel), z_nm, show xBo (4 * 0 + (nI 0) : Int32).toNatClampNeg = 10 by decide +kernel, if_neg (show ¬ (10 : Int32) = 0 by decide +kernel)]
    refine congrArg (rp_bd (fX5_note 10 σ)) (funext fun _ => funext fun s => ?_)
    rw [z_g (show rp_in 0 7 = true by decide +kernel), show xAb (0 : Int32).toNatClampNeg = (-1) by decide +kernel]
  rw [key, show (nI d + 1 : Int32) = nI (d + 1) from nI_1 _]
  simp only [z_bi]
theorem gS31 (F d : Nat) (hd : d ≤ 30) (g : Int32) (σ : rp_St) : (fX5_grp (F + 1)).1 (nI 3) (nI 1) g (nI d) σ = rp_bd (fX5_note 11 σ) (fun _ s => (fX5_grp F).2 11 (-1) g (nI (d + 1)) s) := by
  rw [gr1]
  unfold fX5_speak
  rw [if_pos (show nI d ≤ (30 : Int32) from (z_le (b := 30) (by omega) (by omega)).mpr hd)]
  have key : rp_lp (fun _ _ _ _ _ _ => none) (fX5_speak_15 (fX5_grp F).1 (fX5_grp F).2) 300 (nI 1) g (nI d) (nI 3) 0 σ = rp_bd (fX5_note 11 σ) (fun _ s => rp_bd ((fX5_grp F).2 11 (-1) g (nI d + 1) s) (fun r s => some (r, s))) := by
    rw [show (300 : Nat) = 299 + 1 from rfl, z_lp, fX5_speak_15, if_neg (show ¬ (7 : Int32) ≤ 0 by decide +kernel), if_neg (show ¬ (nI 3) < (0 : Int32) by decide +kernel), z_g (show rp_in (4 * (nI 3) + (nI 1)) 28 = true by decide +kernel), z_nm, show xBo (4 * (nI 3) + (nI 1) : Int32).toNatClampNeg = 0 by decide +kernel, if_pos rfl, z_g (show rp_in (nI 3) 7 = true by decide +kernel), z_nm, z_nm, show xAb ((nI 3) : Int32).toNatClampNeg = 0 by decide +kernel, show (0 + 1 : Int32) = 1 by decide +kernel]
    rw [show (299 : Nat) = 298 + 1 from rfl, z_lp, fX5_speak_15, if_neg (show ¬ (7 : Int32) ≤ 1 by decide +kernel), if_neg (show ¬ 0 < (0 : Int32) by decide +kernel), z_g (show rp_in (4 * 0 + (nI 1)) 28 = true by decide +kernel), z_nm, show xBo (4 * 0 + (nI 1) : Int32).toNatClampNeg = 11 by decide +kernel, if_neg (show ¬ (11 : Int32) = 0 by decide +kernel)]
    refine congrArg (rp_bd (fX5_note 11 σ)) (funext fun _ => funext fun s => ?_)
    rw [z_g (show rp_in 0 7 = true by decide +kernel), show xAb (0 : Int32).toNatClampNeg = (-1) by decide +kernel]
  rw [key, show (nI d + 1 : Int32) = nI (d + 1) from nI_1 _]
  simp only [z_bi]
theorem gS32 (F d : Nat) (hd : d ≤ 30) (g : Int32) (σ : rp_St) : (fX5_grp (F + 1)).1 (nI 3) (nI 2) g (nI d) σ = rp_bd (fX5_note 40 σ) (fun _ s => (fX5_grp F).2 40 (nI 0) g (nI (d + 1)) s) := by
  rw [gr1]
  unfold fX5_speak
  rw [if_pos (show nI d ≤ (30 : Int32) from (z_le (b := 30) (by omega) (by omega)).mpr hd)]
  have key : rp_lp (fun _ _ _ _ _ _ => none) (fX5_speak_15 (fX5_grp F).1 (fX5_grp F).2) 300 (nI 2) g (nI d) (nI 3) 0 σ = rp_bd (fX5_note 40 σ) (fun _ s => rp_bd ((fX5_grp F).2 40 (nI 0) g (nI d + 1) s) (fun r s => some (r, s))) := by
    rw [show (300 : Nat) = 299 + 1 from rfl, z_lp, fX5_speak_15, if_neg (show ¬ (7 : Int32) ≤ 0 by decide +kernel), if_neg (show ¬ (nI 3) < (0 : Int32) by decide +kernel), z_g (show rp_in (4 * (nI 3) + (nI 2)) 28 = true by decide +kernel), z_nm, show xBo (4 * (nI 3) + (nI 2) : Int32).toNatClampNeg = 40 by decide +kernel, if_neg (show ¬ (40 : Int32) = 0 by decide +kernel)]
    refine congrArg (rp_bd (fX5_note 40 σ)) (funext fun _ => funext fun s => ?_)
    rw [z_g (show rp_in (nI 3) 7 = true by decide +kernel), show xAb ((nI 3) : Int32).toNatClampNeg = (nI 0) by decide +kernel]
  rw [key, show (nI d + 1 : Int32) = nI (d + 1) from nI_1 _]
  simp only [z_bi]
theorem gS33 (F d : Nat) (hd : d ≤ 30) (g : Int32) (σ : rp_St) : (fX5_grp (F + 1)).1 (nI 3) (nI 3) g (nI d) σ = rp_bd (fX5_note 13 σ) (fun _ s => (fX5_grp F).2 13 (-1) g (nI (d + 1)) s) := by
  rw [gr1]
  unfold fX5_speak
  rw [if_pos (show nI d ≤ (30 : Int32) from (z_le (b := 30) (by omega) (by omega)).mpr hd)]
  have key : rp_lp (fun _ _ _ _ _ _ => none) (fX5_speak_15 (fX5_grp F).1 (fX5_grp F).2) 300 (nI 3) g (nI d) (nI 3) 0 σ = rp_bd (fX5_note 13 σ) (fun _ s => rp_bd ((fX5_grp F).2 13 (-1) g (nI d + 1) s) (fun r s => some (r, s))) := by
    rw [show (300 : Nat) = 299 + 1 from rfl, z_lp, fX5_speak_15, if_neg (show ¬ (7 : Int32) ≤ 0 by decide +kernel), if_neg (show ¬ (nI 3) < (0 : Int32) by decide +kernel), z_g (show rp_in (4 * (nI 3) + (nI 3)) 28 = true by decide +kernel), z_nm, show xBo (4 * (nI 3) + (nI 3) : Int32).toNatClampNeg = 0 by decide +kernel, if_pos rfl, z_g (show rp_in (nI 3) 7 = true by decide +kernel), z_nm, z_nm, show xAb ((nI 3) : Int32).toNatClampNeg = 0 by decide +kernel, show (0 + 1 : Int32) = 1 by decide +kernel]
    rw [show (299 : Nat) = 298 + 1 from rfl, z_lp, fX5_speak_15, if_neg (show ¬ (7 : Int32) ≤ 1 by decide +kernel), if_neg (show ¬ 0 < (0 : Int32) by decide +kernel), z_g (show rp_in (4 * 0 + (nI 3)) 28 = true by decide +kernel), z_nm, show xBo (4 * 0 + (nI 3) : Int32).toNatClampNeg = 13 by decide +kernel, if_neg (show ¬ (13 : Int32) = 0 by decide +kernel)]
    refine congrArg (rp_bd (fX5_note 13 σ)) (funext fun _ => funext fun s => ?_)
    rw [z_g (show rp_in 0 7 = true by decide +kernel), show xAb (0 : Int32).toNatClampNeg = (-1) by decide +kernel]
  rw [key, show (nI d + 1 : Int32) = nI (d + 1) from nI_1 _]
  simp only [z_bi]
theorem gS40 (F d : Nat) (hd : d ≤ 30) (g : Int32) (σ : rp_St) : (fX5_grp (F + 1)).1 (nI 4) (nI 0) g (nI d) σ = rp_bd (fX5_note 20 σ) (fun _ s => (fX5_grp F).2 20 (nI 0) g (nI (d + 1)) s) := by
  rw [gr1]
  unfold fX5_speak
  rw [if_pos (show nI d ≤ (30 : Int32) from (z_le (b := 30) (by omega) (by omega)).mpr hd)]
  have key : rp_lp (fun _ _ _ _ _ _ => none) (fX5_speak_15 (fX5_grp F).1 (fX5_grp F).2) 300 (nI 0) g (nI d) (nI 4) 0 σ = rp_bd (fX5_note 20 σ) (fun _ s => rp_bd ((fX5_grp F).2 20 (nI 0) g (nI d + 1) s) (fun r s => some (r, s))) := by
    rw [show (300 : Nat) = 299 + 1 from rfl, z_lp, fX5_speak_15, if_neg (show ¬ (7 : Int32) ≤ 0 by decide +kernel), if_neg (show ¬ (nI 4) < (0 : Int32) by decide +kernel), z_g (show rp_in (4 * (nI 4) + (nI 0)) 28 = true by decide +kernel), z_nm, show xBo (4 * (nI 4) + (nI 0) : Int32).toNatClampNeg = 0 by decide +kernel, if_pos rfl, z_g (show rp_in (nI 4) 7 = true by decide +kernel), z_nm, z_nm, show xAb ((nI 4) : Int32).toNatClampNeg = 1 by decide +kernel, show (0 + 1 : Int32) = 1 by decide +kernel]
    rw [show (299 : Nat) = 298 + 1 from rfl, z_lp, fX5_speak_15, if_neg (show ¬ (7 : Int32) ≤ 1 by decide +kernel), if_neg (show ¬ 1 < (0 : Int32) by decide +kernel), z_g (show rp_in (4 * 1 + (nI 0)) 28 = true by decide +kernel), z_nm, show xBo (4 * 1 + (nI 0) : Int32).toNatClampNeg = 20 by decide +kernel, if_neg (show ¬ (20 : Int32) = 0 by decide +kernel)]
    refine congrArg (rp_bd (fX5_note 20 σ)) (funext fun _ => funext fun s => ?_)
    rw [z_g (show rp_in 1 7 = true by decide +kernel), show xAb (1 : Int32).toNatClampNeg = (nI 0) by decide +kernel]
  rw [key, show (nI d + 1 : Int32) = nI (d + 1) from nI_1 _]
  simp only [z_bi]
theorem gS41 (F d : Nat) (hd : d ≤ 30) (g : Int32) (σ : rp_St) : (fX5_grp (F + 1)).1 (nI 4) (nI 1) g (nI d) σ = rp_bd (fX5_note 11 σ) (fun _ s => (fX5_grp F).2 11 (-1) g (nI (d + 1)) s) := by
  rw [gr1]
  unfold fX5_speak
  rw [if_pos (show nI d ≤ (30 : Int32) from (z_le (b := 30) (by omega) (by omega)).mpr hd)]
  have key : rp_lp (fun _ _ _ _ _ _ => none) (fX5_speak_15 (fX5_grp F).1 (fX5_grp F).2) 300 (nI 1) g (nI d) (nI 4) 0 σ = rp_bd (fX5_note 11 σ) (fun _ s => rp_bd ((fX5_grp F).2 11 (-1) g (nI d + 1) s) (fun r s => some (r, s))) := by
    rw [show (300 : Nat) = 299 + 1 from rfl, z_lp, fX5_speak_15, if_neg (show ¬ (7 : Int32) ≤ 0 by decide +kernel), if_neg (show ¬ (nI 4) < (0 : Int32) by decide +kernel), z_g (show rp_in (4 * (nI 4) + (nI 1)) 28 = true by decide +kernel), z_nm, show xBo (4 * (nI 4) + (nI 1) : Int32).toNatClampNeg = 0 by decide +kernel, if_pos rfl, z_g (show rp_in (nI 4) 7 = true by decide +kernel), z_nm, z_nm, show xAb ((nI 4) : Int32).toNatClampNeg = 1 by decide +kernel, show (0 + 1 : Int32) = 1 by decide +kernel]
    rw [show (299 : Nat) = 298 + 1 from rfl, z_lp, fX5_speak_15, if_neg (show ¬ (7 : Int32) ≤ 1 by decide +kernel), if_neg (show ¬ 1 < (0 : Int32) by decide +kernel), z_g (show rp_in (4 * 1 + (nI 1)) 28 = true by decide +kernel), z_nm, show xBo (4 * 1 + (nI 1) : Int32).toNatClampNeg = 0 by decide +kernel, if_pos rfl, z_g (show rp_in 1 7 = true by decide +kernel), z_nm, z_nm, show xAb (1 : Int32).toNatClampNeg = 0 by decide +kernel, show (1 + 1 : Int32) = 2 by decide +kernel]
    rw [show (298 : Nat) = 297 + 1 from rfl, z_lp, fX5_speak_15, if_neg (show ¬ (7 : Int32) ≤ 2 by decide +kernel), if_neg (show ¬ 0 < (0 : Int32) by decide +kernel), z_g (show rp_in (4 * 0 + (nI 1)) 28 = true by decide +kernel), z_nm, show xBo (4 * 0 + (nI 1) : Int32).toNatClampNeg = 11 by decide +kernel, if_neg (show ¬ (11 : Int32) = 0 by decide +kernel)]
    refine congrArg (rp_bd (fX5_note 11 σ)) (funext fun _ => funext fun s => ?_)
    rw [z_g (show rp_in 0 7 = true by decide +kernel), show xAb (0 : Int32).toNatClampNeg = (-1) by decide +kernel]
  rw [key, show (nI d + 1 : Int32) = nI (d + 1) from nI_1 _]
  simp only [z_bi]
theorem gS42 (F d : Nat) (hd : d ≤ 30) (g : Int32) (σ : rp_St) : (fX5_grp (F + 1)).1 (nI 4) (nI 2) g (nI d) σ = rp_bd (fX5_note 12 σ) (fun _ s => (fX5_grp F).2 12 (-1) g (nI (d + 1)) s) := by
  rw [gr1]
  unfold fX5_speak
  rw [if_pos (show nI d ≤ (30 : Int32) from (z_le (b := 30) (by omega) (by omega)).mpr hd)]
  have key : rp_lp (fun _ _ _ _ _ _ => none) (fX5_speak_15 (fX5_grp F).1 (fX5_grp F).2) 300 (nI 2) g (nI d) (nI 4) 0 σ = rp_bd (fX5_note 12 σ) (fun _ s => rp_bd ((fX5_grp F).2 12 (-1) g (nI d + 1) s) (fun r s => some (r, s))) := by
    rw [show (300 : Nat) = 299 + 1 from rfl, z_lp, fX5_speak_15, if_neg (show ¬ (7 : Int32) ≤ 0 by decide +kernel), if_neg (show ¬ (nI 4) < (0 : Int32) by decide +kernel), z_g (show rp_in (4 * (nI 4) + (nI 2)) 28 = true by decide +kernel), z_nm, show xBo (4 * (nI 4) + (nI 2) : Int32).toNatClampNeg = 0 by decide +kernel, if_pos rfl, z_g (show rp_in (nI 4) 7 = true by decide +kernel), z_nm, z_nm, show xAb ((nI 4) : Int32).toNatClampNeg = 1 by decide +kernel, show (0 + 1 : Int32) = 1 by decide +kernel]
    rw [show (299 : Nat) = 298 + 1 from rfl, z_lp, fX5_speak_15, if_neg (show ¬ (7 : Int32) ≤ 1 by decide +kernel), if_neg (show ¬ 1 < (0 : Int32) by decide +kernel), z_g (show rp_in (4 * 1 + (nI 2)) 28 = true by decide +kernel), z_nm, show xBo (4 * 1 + (nI 2) : Int32).toNatClampNeg = 0 by decide +kernel, if_pos rfl, z_g (show rp_in 1 7 = true by decide +kernel), z_nm, z_nm, show xAb (1 : Int32).toNatClampNeg = 0 by decide +kernel, show (1 + 1 : Int32) = 2 by decide +kernel]
    rw [show (298 : Nat) = 297 + 1 from rfl, z_lp, fX5_speak_15, if_neg (show ¬ (7 : Int32) ≤ 2 by decide +kernel), if_neg (show ¬ 0 < (0 : Int32) by decide +kernel), z_g (show rp_in (4 * 0 + (nI 2)) 28 = true by decide +kernel), z_nm, show xBo (4 * 0 + (nI 2) : Int32).toNatClampNeg = 12 by decide +kernel, if_neg (show ¬ (12 : Int32) = 0 by decide +kernel)]
    refine congrArg (rp_bd (fX5_note 12 σ)) (funext fun _ => funext fun s => ?_)
    rw [z_g (show rp_in 0 7 = true by decide +kernel), show xAb (0 : Int32).toNatClampNeg = (-1) by decide +kernel]
  rw [key, show (nI d + 1 : Int32) = nI (d + 1) from nI_1 _]
  simp only [z_bi]
theorem gS43 (F d : Nat) (hd : d ≤ 30) (g : Int32) (σ : rp_St) : (fX5_grp (F + 1)).1 (nI 4) (nI 3) g (nI d) σ = rp_bd (fX5_note 50 σ) (fun _ s => (fX5_grp F).2 50 (nI 1) g (nI (d + 1)) s) := by
  rw [gr1]
  unfold fX5_speak
  rw [if_pos (show nI d ≤ (30 : Int32) from (z_le (b := 30) (by omega) (by omega)).mpr hd)]
  have key : rp_lp (fun _ _ _ _ _ _ => none) (fX5_speak_15 (fX5_grp F).1 (fX5_grp F).2) 300 (nI 3) g (nI d) (nI 4) 0 σ = rp_bd (fX5_note 50 σ) (fun _ s => rp_bd ((fX5_grp F).2 50 (nI 1) g (nI d + 1) s) (fun r s => some (r, s))) := by
    rw [show (300 : Nat) = 299 + 1 from rfl, z_lp, fX5_speak_15, if_neg (show ¬ (7 : Int32) ≤ 0 by decide +kernel), if_neg (show ¬ (nI 4) < (0 : Int32) by decide +kernel), z_g (show rp_in (4 * (nI 4) + (nI 3)) 28 = true by decide +kernel), z_nm, show xBo (4 * (nI 4) + (nI 3) : Int32).toNatClampNeg = 50 by decide +kernel, if_neg (show ¬ (50 : Int32) = 0 by decide +kernel)]
    refine congrArg (rp_bd (fX5_note 50 σ)) (funext fun _ => funext fun s => ?_)
    rw [z_g (show rp_in (nI 4) 7 = true by decide +kernel), show xAb ((nI 4) : Int32).toNatClampNeg = (nI 1) by decide +kernel]
  rw [key, show (nI d + 1 : Int32) = nI (d + 1) from nI_1 _]
  simp only [z_bi]
theorem gS50 (F d : Nat) (hd : d ≤ 30) (g : Int32) (σ : rp_St) : (fX5_grp (F + 1)).1 (nI 5) (nI 0) g (nI d) σ = rp_bd (fX5_note 10 σ) (fun _ s => (fX5_grp F).2 10 (-1) g (nI (d + 1)) s) := by
  rw [gr1]
  unfold fX5_speak
  rw [if_pos (show nI d ≤ (30 : Int32) from (z_le (b := 30) (by omega) (by omega)).mpr hd)]
  have key : rp_lp (fun _ _ _ _ _ _ => none) (fX5_speak_15 (fX5_grp F).1 (fX5_grp F).2) 300 (nI 0) g (nI d) (nI 5) 0 σ = rp_bd (fX5_note 10 σ) (fun _ s => rp_bd ((fX5_grp F).2 10 (-1) g (nI d + 1) s) (fun r s => some (r, s))) := by
    rw [show (300 : Nat) = 299 + 1 from rfl, z_lp, fX5_speak_15, if_neg (show ¬ (7 : Int32) ≤ 0 by decide +kernel), if_neg (show ¬ (nI 5) < (0 : Int32) by decide +kernel), z_g (show rp_in (4 * (nI 5) + (nI 0)) 28 = true by decide +kernel), z_nm, show xBo (4 * (nI 5) + (nI 0) : Int32).toNatClampNeg = 0 by decide +kernel, if_pos rfl, z_g (show rp_in (nI 5) 7 = true by decide +kernel), z_nm, z_nm, show xAb ((nI 5) : Int32).toNatClampNeg = 2 by decide +kernel, show (0 + 1 : Int32) = 1 by decide +kernel]
    rw [show (299 : Nat) = 298 + 1 from rfl, z_lp, fX5_speak_15, if_neg (show ¬ (7 : Int32) ≤ 1 by decide +kernel), if_neg (show ¬ 2 < (0 : Int32) by decide +kernel), z_g (show rp_in (4 * 2 + (nI 0)) 28 = true by decide +kernel), z_nm, show xBo (4 * 2 + (nI 0) : Int32).toNatClampNeg = 0 by decide +kernel, if_pos rfl, z_g (show rp_in 2 7 = true by decide +kernel), z_nm, z_nm, show xAb (2 : Int32).toNatClampNeg = 0 by decide +kernel, show (1 + 1 : Int32) = 2 by decide +kernel]
    rw [show (298 : Nat) = 297 + 1 from rfl, z_lp, fX5_speak_15, if_neg (show ¬ (7 : Int32) ≤ 2 by decide +kernel), if_neg (show ¬ 0 < (0 : Int32) by decide +kernel), z_g (show rp_in (4 * 0 + (nI 0)) 28 = true by decide +kernel), z_nm, show xBo (4 * 0 + (nI 0) : Int32).toNatClampNeg = 10 by decide +kernel, if_neg (show ¬ (10 : Int32) = 0 by decide +kernel)]
    refine congrArg (rp_bd (fX5_note 10 σ)) (funext fun _ => funext fun s => ?_)
    rw [z_g (show rp_in 0 7 = true by decide +kernel), show xAb (0 : Int32).toNatClampNeg = (-1) by decide +kernel]
  rw [key, show (nI d + 1 : Int32) = nI (d + 1) from nI_1 _]
  simp only [z_bi]
theorem gS51 (F d : Nat) (hd : d ≤ 30) (g : Int32) (σ : rp_St) : (fX5_grp (F + 1)).1 (nI 5) (nI 1) g (nI d) σ = rp_bd (fX5_note 60 σ) (fun _ s => (fX5_grp F).2 60 (nI 2) g (nI (d + 1)) s) := by
  rw [gr1]
  unfold fX5_speak
  rw [if_pos (show nI d ≤ (30 : Int32) from (z_le (b := 30) (by omega) (by omega)).mpr hd)]
  have key : rp_lp (fun _ _ _ _ _ _ => none) (fX5_speak_15 (fX5_grp F).1 (fX5_grp F).2) 300 (nI 1) g (nI d) (nI 5) 0 σ = rp_bd (fX5_note 60 σ) (fun _ s => rp_bd ((fX5_grp F).2 60 (nI 2) g (nI d + 1) s) (fun r s => some (r, s))) := by
    rw [show (300 : Nat) = 299 + 1 from rfl, z_lp, fX5_speak_15, if_neg (show ¬ (7 : Int32) ≤ 0 by decide +kernel), if_neg (show ¬ (nI 5) < (0 : Int32) by decide +kernel), z_g (show rp_in (4 * (nI 5) + (nI 1)) 28 = true by decide +kernel), z_nm, show xBo (4 * (nI 5) + (nI 1) : Int32).toNatClampNeg = 60 by decide +kernel, if_neg (show ¬ (60 : Int32) = 0 by decide +kernel)]
    refine congrArg (rp_bd (fX5_note 60 σ)) (funext fun _ => funext fun s => ?_)
    rw [z_g (show rp_in (nI 5) 7 = true by decide +kernel), show xAb ((nI 5) : Int32).toNatClampNeg = (nI 2) by decide +kernel]
  rw [key, show (nI d + 1 : Int32) = nI (d + 1) from nI_1 _]
  simp only [z_bi]
theorem gS52 (F d : Nat) (hd : d ≤ 30) (g : Int32) (σ : rp_St) : (fX5_grp (F + 1)).1 (nI 5) (nI 2) g (nI d) σ = rp_bd (fX5_note 12 σ) (fun _ s => (fX5_grp F).2 12 (-1) g (nI (d + 1)) s) := by
  rw [gr1]
  unfold fX5_speak
  rw [if_pos (show nI d ≤ (30 : Int32) from (z_le (b := 30) (by omega) (by omega)).mpr hd)]
  have key : rp_lp (fun _ _ _ _ _ _ => none) (fX5_speak_15 (fX5_grp F).1 (fX5_grp F).2) 300 (nI 2) g (nI d) (nI 5) 0 σ = rp_bd (fX5_note 12 σ) (fun _ s => rp_bd ((fX5_grp F).2 12 (-1) g (nI d + 1) s) (fun r s => some (r, s))) := by
    rw [show (300 : Nat) = 299 + 1 from rfl, z_lp, fX5_speak_15, if_neg (show ¬ (7 : Int32) ≤ 0 by decide +kernel), if_neg (show ¬ (nI 5) < (0 : Int32) by decide +kernel), z_g (show rp_in (4 * (nI 5) + (nI 2)) 28 = true by decide +kernel), z_nm, show xBo (4 * (nI 5) + (nI 2) : Int32).toNatClampNeg = 0 by decide +kernel, if_pos rfl, z_g (show rp_in (nI 5) 7 = true by decide +kernel), z_nm, z_nm, show xAb ((nI 5) : Int32).toNatClampNeg = 2 by decide +kernel, show (0 + 1 : Int32) = 1 by decide +kernel]
    rw [show (299 : Nat) = 298 + 1 from rfl, z_lp, fX5_speak_15, if_neg (show ¬ (7 : Int32) ≤ 1 by decide +kernel), if_neg (show ¬ 2 < (0 : Int32) by decide +kernel), z_g (show rp_in (4 * 2 + (nI 2)) 28 = true by decide +kernel), z_nm, show xBo (4 * 2 + (nI 2) : Int32).toNatClampNeg = 0 by decide +kernel, if_pos rfl, z_g (show rp_in 2 7 = true by decide +kernel), z_nm, z_nm, show xAb (2 : Int32).toNatClampNeg = 0 by decide +kernel, show (1 + 1 : Int32) = 2 by decide +kernel]
    rw [show (298 : Nat) = 297 + 1 from rfl, z_lp, fX5_speak_15, if_neg (show ¬ (7 : Int32) ≤ 2 by decide +kernel), if_neg (show ¬ 0 < (0 : Int32) by decide +kernel), z_g (show rp_in (4 * 0 + (nI 2)) 28 = true by decide +kernel), z_nm, show xBo (4 * 0 + (nI 2) : Int32).toNatClampNeg = 12 by decide +kernel, if_neg (show ¬ (12 : Int32) = 0 by decide +kernel)]
    refine congrArg (rp_bd (fX5_note 12 σ)) (funext fun _ => funext fun s => ?_)
    rw [z_g (show rp_in 0 7 = true by decide +kernel), show xAb (0 : Int32).toNatClampNeg = (-1) by decide +kernel]
  rw [key, show (nI d + 1 : Int32) = nI (d + 1) from nI_1 _]
  simp only [z_bi]
theorem gS53 (F d : Nat) (hd : d ≤ 30) (g : Int32) (σ : rp_St) : (fX5_grp (F + 1)).1 (nI 5) (nI 3) g (nI d) σ = rp_bd (fX5_note 13 σ) (fun _ s => (fX5_grp F).2 13 (-1) g (nI (d + 1)) s) := by
  rw [gr1]
  unfold fX5_speak
  rw [if_pos (show nI d ≤ (30 : Int32) from (z_le (b := 30) (by omega) (by omega)).mpr hd)]
  have key : rp_lp (fun _ _ _ _ _ _ => none) (fX5_speak_15 (fX5_grp F).1 (fX5_grp F).2) 300 (nI 3) g (nI d) (nI 5) 0 σ = rp_bd (fX5_note 13 σ) (fun _ s => rp_bd ((fX5_grp F).2 13 (-1) g (nI d + 1) s) (fun r s => some (r, s))) := by
    rw [show (300 : Nat) = 299 + 1 from rfl, z_lp, fX5_speak_15, if_neg (show ¬ (7 : Int32) ≤ 0 by decide +kernel), if_neg (show ¬ (nI 5) < (0 : Int32) by decide +kernel), z_g (show rp_in (4 * (nI 5) + (nI 3)) 28 = true by decide +kernel), z_nm, show xBo (4 * (nI 5) + (nI 3) : Int32).toNatClampNeg = 0 by decide +kernel, if_pos rfl, z_g (show rp_in (nI 5) 7 = true by decide +kernel), z_nm, z_nm, show xAb ((nI 5) : Int32).toNatClampNeg = 2 by decide +kernel, show (0 + 1 : Int32) = 1 by decide +kernel]
    rw [show (299 : Nat) = 298 + 1 from rfl, z_lp, fX5_speak_15, if_neg (show ¬ (7 : Int32) ≤ 1 by decide +kernel), if_neg (show ¬ 2 < (0 : Int32) by decide +kernel), z_g (show rp_in (4 * 2 + (nI 3)) 28 = true by decide +kernel), z_nm, show xBo (4 * 2 + (nI 3) : Int32).toNatClampNeg = 0 by decide +kernel, if_pos rfl, z_g (show rp_in 2 7 = true by decide +kernel), z_nm, z_nm, show xAb (2 : Int32).toNatClampNeg = 0 by decide +kernel, show (1 + 1 : Int32) = 2 by decide +kernel]
    rw [show (298 : Nat) = 297 + 1 from rfl, z_lp, fX5_speak_15, if_neg (show ¬ (7 : Int32) ≤ 2 by decide +kernel), if_neg (show ¬ 0 < (0 : Int32) by decide +kernel), z_g (show rp_in (4 * 0 + (nI 3)) 28 = true by decide +kernel), z_nm, show xBo (4 * 0 + (nI 3) : Int32).toNatClampNeg = 13 by decide +kernel, if_neg (show ¬ (13 : Int32) = 0 by decide +kernel)]
    refine congrArg (rp_bd (fX5_note 13 σ)) (funext fun _ => funext fun s => ?_)
    rw [z_g (show rp_in 0 7 = true by decide +kernel), show xAb (0 : Int32).toNatClampNeg = (-1) by decide +kernel]
  rw [key, show (nI d + 1 : Int32) = nI (d + 1) from nI_1 _]
  simp only [z_bi]
theorem gS60 (F d : Nat) (hd : d ≤ 30) (g : Int32) (σ : rp_St) : (fX5_grp (F + 1)).1 (nI 6) (nI 0) g (nI d) σ = rp_bd (fX5_note 10 σ) (fun _ s => (fX5_grp F).2 10 (-1) g (nI (d + 1)) s) := by
  rw [gr1]
  unfold fX5_speak
  rw [if_pos (show nI d ≤ (30 : Int32) from (z_le (b := 30) (by omega) (by omega)).mpr hd)]
  have key : rp_lp (fun _ _ _ _ _ _ => none) (fX5_speak_15 (fX5_grp F).1 (fX5_grp F).2) 300 (nI 0) g (nI d) (nI 6) 0 σ = rp_bd (fX5_note 10 σ) (fun _ s => rp_bd ((fX5_grp F).2 10 (-1) g (nI d + 1) s) (fun r s => some (r, s))) := by
    rw [show (300 : Nat) = 299 + 1 from rfl, z_lp, fX5_speak_15, if_neg (show ¬ (7 : Int32) ≤ 0 by decide +kernel), if_neg (show ¬ (nI 6) < (0 : Int32) by decide +kernel), z_g (show rp_in (4 * (nI 6) + (nI 0)) 28 = true by decide +kernel), z_nm, show xBo (4 * (nI 6) + (nI 0) : Int32).toNatClampNeg = 0 by decide +kernel, if_pos rfl, z_g (show rp_in (nI 6) 7 = true by decide +kernel), z_nm, z_nm, show xAb ((nI 6) : Int32).toNatClampNeg = 3 by decide +kernel, show (0 + 1 : Int32) = 1 by decide +kernel]
    rw [show (299 : Nat) = 298 + 1 from rfl, z_lp, fX5_speak_15, if_neg (show ¬ (7 : Int32) ≤ 1 by decide +kernel), if_neg (show ¬ 3 < (0 : Int32) by decide +kernel), z_g (show rp_in (4 * 3 + (nI 0)) 28 = true by decide +kernel), z_nm, show xBo (4 * 3 + (nI 0) : Int32).toNatClampNeg = 0 by decide +kernel, if_pos rfl, z_g (show rp_in 3 7 = true by decide +kernel), z_nm, z_nm, show xAb (3 : Int32).toNatClampNeg = 0 by decide +kernel, show (1 + 1 : Int32) = 2 by decide +kernel]
    rw [show (298 : Nat) = 297 + 1 from rfl, z_lp, fX5_speak_15, if_neg (show ¬ (7 : Int32) ≤ 2 by decide +kernel), if_neg (show ¬ 0 < (0 : Int32) by decide +kernel), z_g (show rp_in (4 * 0 + (nI 0)) 28 = true by decide +kernel), z_nm, show xBo (4 * 0 + (nI 0) : Int32).toNatClampNeg = 10 by decide +kernel, if_neg (show ¬ (10 : Int32) = 0 by decide +kernel)]
    refine congrArg (rp_bd (fX5_note 10 σ)) (funext fun _ => funext fun s => ?_)
    rw [z_g (show rp_in 0 7 = true by decide +kernel), show xAb (0 : Int32).toNatClampNeg = (-1) by decide +kernel]
  rw [key, show (nI d + 1 : Int32) = nI (d + 1) from nI_1 _]
  simp only [z_bi]
theorem gS61 (F d : Nat) (hd : d ≤ 30) (g : Int32) (σ : rp_St) : (fX5_grp (F + 1)).1 (nI 6) (nI 1) g (nI d) σ = rp_bd (fX5_note 11 σ) (fun _ s => (fX5_grp F).2 11 (-1) g (nI (d + 1)) s) := by
  rw [gr1]
  unfold fX5_speak
  rw [if_pos (show nI d ≤ (30 : Int32) from (z_le (b := 30) (by omega) (by omega)).mpr hd)]
  have key : rp_lp (fun _ _ _ _ _ _ => none) (fX5_speak_15 (fX5_grp F).1 (fX5_grp F).2) 300 (nI 1) g (nI d) (nI 6) 0 σ = rp_bd (fX5_note 11 σ) (fun _ s => rp_bd ((fX5_grp F).2 11 (-1) g (nI d + 1) s) (fun r s => some (r, s))) := by
    rw [show (300 : Nat) = 299 + 1 from rfl, z_lp, fX5_speak_15, if_neg (show ¬ (7 : Int32) ≤ 0 by decide +kernel), if_neg (show ¬ (nI 6) < (0 : Int32) by decide +kernel), z_g (show rp_in (4 * (nI 6) + (nI 1)) 28 = true by decide +kernel), z_nm, show xBo (4 * (nI 6) + (nI 1) : Int32).toNatClampNeg = 0 by decide +kernel, if_pos rfl, z_g (show rp_in (nI 6) 7 = true by decide +kernel), z_nm, z_nm, show xAb ((nI 6) : Int32).toNatClampNeg = 3 by decide +kernel, show (0 + 1 : Int32) = 1 by decide +kernel]
    rw [show (299 : Nat) = 298 + 1 from rfl, z_lp, fX5_speak_15, if_neg (show ¬ (7 : Int32) ≤ 1 by decide +kernel), if_neg (show ¬ 3 < (0 : Int32) by decide +kernel), z_g (show rp_in (4 * 3 + (nI 1)) 28 = true by decide +kernel), z_nm, show xBo (4 * 3 + (nI 1) : Int32).toNatClampNeg = 0 by decide +kernel, if_pos rfl, z_g (show rp_in 3 7 = true by decide +kernel), z_nm, z_nm, show xAb (3 : Int32).toNatClampNeg = 0 by decide +kernel, show (1 + 1 : Int32) = 2 by decide +kernel]
    rw [show (298 : Nat) = 297 + 1 from rfl, z_lp, fX5_speak_15, if_neg (show ¬ (7 : Int32) ≤ 2 by decide +kernel), if_neg (show ¬ 0 < (0 : Int32) by decide +kernel), z_g (show rp_in (4 * 0 + (nI 1)) 28 = true by decide +kernel), z_nm, show xBo (4 * 0 + (nI 1) : Int32).toNatClampNeg = 11 by decide +kernel, if_neg (show ¬ (11 : Int32) = 0 by decide +kernel)]
    refine congrArg (rp_bd (fX5_note 11 σ)) (funext fun _ => funext fun s => ?_)
    rw [z_g (show rp_in 0 7 = true by decide +kernel), show xAb (0 : Int32).toNatClampNeg = (-1) by decide +kernel]
  rw [key, show (nI d + 1 : Int32) = nI (d + 1) from nI_1 _]
  simp only [z_bi]
theorem gS62 (F d : Nat) (hd : d ≤ 30) (g : Int32) (σ : rp_St) : (fX5_grp (F + 1)).1 (nI 6) (nI 2) g (nI d) σ = rp_bd (fX5_note 70 σ) (fun _ s => (fX5_grp F).2 70 (nI 3) g (nI (d + 1)) s) := by
  rw [gr1]
  unfold fX5_speak
  rw [if_pos (show nI d ≤ (30 : Int32) from (z_le (b := 30) (by omega) (by omega)).mpr hd)]
  have key : rp_lp (fun _ _ _ _ _ _ => none) (fX5_speak_15 (fX5_grp F).1 (fX5_grp F).2) 300 (nI 2) g (nI d) (nI 6) 0 σ = rp_bd (fX5_note 70 σ) (fun _ s => rp_bd ((fX5_grp F).2 70 (nI 3) g (nI d + 1) s) (fun r s => some (r, s))) := by
    rw [show (300 : Nat) = 299 + 1 from rfl, z_lp, fX5_speak_15, if_neg (show ¬ (7 : Int32) ≤ 0 by decide +kernel), if_neg (show ¬ (nI 6) < (0 : Int32) by decide +kernel), z_g (show rp_in (4 * (nI 6) + (nI 2)) 28 = true by decide +kernel), z_nm, show xBo (4 * (nI 6) + (nI 2) : Int32).toNatClampNeg = 70 by decide +kernel, if_neg (show ¬ (70 : Int32) = 0 by decide +kernel)]
    refine congrArg (rp_bd (fX5_note 70 σ)) (funext fun _ => funext fun s => ?_)
    rw [z_g (show rp_in (nI 6) 7 = true by decide +kernel), show xAb ((nI 6) : Int32).toNatClampNeg = (nI 3) by decide +kernel]
  rw [key, show (nI d + 1 : Int32) = nI (d + 1) from nI_1 _]
  simp only [z_bi]
theorem gS63 (F d : Nat) (hd : d ≤ 30) (g : Int32) (σ : rp_St) : (fX5_grp (F + 1)).1 (nI 6) (nI 3) g (nI d) σ = rp_bd (fX5_note 71 σ) (fun _ s => (fX5_grp F).2 71 (nI 3) g (nI (d + 1)) s) := by
  rw [gr1]
  unfold fX5_speak
  rw [if_pos (show nI d ≤ (30 : Int32) from (z_le (b := 30) (by omega) (by omega)).mpr hd)]
  have key : rp_lp (fun _ _ _ _ _ _ => none) (fX5_speak_15 (fX5_grp F).1 (fX5_grp F).2) 300 (nI 3) g (nI d) (nI 6) 0 σ = rp_bd (fX5_note 71 σ) (fun _ s => rp_bd ((fX5_grp F).2 71 (nI 3) g (nI d + 1) s) (fun r s => some (r, s))) := by
    rw [show (300 : Nat) = 299 + 1 from rfl, z_lp, fX5_speak_15, if_neg (show ¬ (7 : Int32) ≤ 0 by decide +kernel), if_neg (show ¬ (nI 6) < (0 : Int32) by decide +kernel), z_g (show rp_in (4 * (nI 6) + (nI 3)) 28 = true by decide +kernel), z_nm, show xBo (4 * (nI 6) + (nI 3) : Int32).toNatClampNeg = 71 by decide +kernel, if_neg (show ¬ (71 : Int32) = 0 by decide +kernel)]
    refine congrArg (rp_bd (fX5_note 71 σ)) (funext fun _ => funext fun s => ?_)
    rw [z_g (show rp_in (nI 6) 7 = true by decide +kernel), show xAb ((nI 6) : Int32).toNatClampNeg = (nI 3) by decide +kernel]
  rw [key, show (nI d + 1 : Int32) = nI (d + 1) from nI_1 _]
  simp only [z_bi]
theorem gA10 (F : Nat) (c g d : Int32) (σ : rp_St) : (fX5_grp (F + 1)).2 10 c g d σ = some (g + σ 59 1, σ) := rfl
theorem gA11 (F : Nat) (c g d : Int32) (σ : rp_St) : (fX5_grp (F + 1)).2 11 c g d σ = rp_bd ((fX5_grp F).1 (σ 59 0) (nI 0) g d σ) (fun r s => some (r * 2, s)) := rfl
theorem gA12 (F : Nat) (c g d : Int32) (σ : rp_St) : (fX5_grp (F + 1)).2 12 c g d σ = some (g - σ 59 2, σ) := rfl
theorem gA13 (F : Nat) (c g d : Int32) (σ : rp_St) : (fX5_grp (F + 1)).2 13 c g d σ = rp_bd ((fX5_grp F).1 (σ 59 0) (nI 1) g d σ) (fun r s => rp_bd ((fX5_grp F).1 (s 59 0) (nI 2) g d s) (fun r' s' => some (r ^^^ r', s'))) := rfl
theorem gA20 (F : Nat) (c g d : Int32) (σ : rp_St) : (fX5_grp (F + 1)).2 20 c g d σ = rp_bd ((fX5_grp F).1 c (nI 0) g d σ) (fun r s => some (r * 3, s)) := rfl
theorem gA30 (F : Nat) (c g d : Int32) (σ : rp_St) : (fX5_grp (F + 1)).2 30 c g d σ = rp_bd ((fX5_grp F).1 c (nI 1) g d σ) (fun r s => rp_bd ((fX5_grp F).1 (s 59 0) (nI 2) 1 d s) (fun r' s' => some (r - r', s'))) := rfl
theorem gA40 (F : Nat) (c g d : Int32) (σ : rp_St) : (fX5_grp (F + 1)).2 40 c g d σ = rp_bd ((fX5_grp F).1 c (nI 2) g d σ) (fun r s => some (-r, s)) := rfl
theorem gA50 (F : Nat) (c g d : Int32) (σ : rp_St) : (fX5_grp (F + 1)).2 50 c g d σ = rp_bd ((fX5_grp F).1 c (nI 3) g d σ) (fun r s => rp_bd ((fX5_grp F).1 (s 59 0) (nI 0) 2 d s) (fun r' s' => some (r - r', s'))) := rfl
theorem gA60 (F : Nat) (c g d : Int32) (σ : rp_St) : (fX5_grp (F + 1)).2 60 c g d σ = rp_bd ((fX5_grp F).1 c (nI 1) (g + 1) d σ) (fun r s => some (r, s)) := rfl
theorem gA70 (F : Nat) (c g d : Int32) (σ : rp_St) : (fX5_grp (F + 1)).2 70 c g d σ = rp_bd ((fX5_grp F).1 c (nI 2) g d σ) (fun r s => some (r ^^^ s 59 1, s)) := rfl
theorem gA71 (F : Nat) (c g d : Int32) (σ : rp_St) : (fX5_grp (F + 1)).2 71 c g d σ = rp_bd ((fX5_grp F).1 (σ 59 0) (nI 1) g d σ) (fun r s => rp_bd ((fX5_grp F).1 c (nI 3) g d s) (fun r' s' => some (r - r', s'))) := rfl
