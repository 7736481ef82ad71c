theorem k_front1 (x : Nat × va_E) (T : va_W) (c : Nat × va_E) : ((x :: T) ++ [c]).Perm (x :: c :: T) := by
  rw [List.cons_append]
  exact List.Perm.cons x (List.perm_append_comm (l₁ := T) (l₂ := [c]))
theorem k_front2 (x y : Nat × va_E) (T : va_W) (c d : Nat × va_E) : ((x :: y :: T) ++ [c, d]).Perm (x :: y :: c :: (T ++ [d])) := by
  rw [List.cons_append, List.cons_append]
  refine List.Perm.cons x (List.Perm.cons y ?_)
  have h : (T ++ [c, d]).Perm ((c :: T) ++ [d]) := by
    rw [show T ++ [c, d] = (T ++ [c]) ++ [d] by simp]
    exact List.Perm.append_right [d] (List.perm_append_comm (l₁ := T) (l₂ := [c]))
  exact h
set_option maxRecDepth 100000 in
set_option maxHeartbeats 8000000 in
theorem kX_X6 {l : Launch} {D : va_G} {cI cB cS : ClassId} (h0 sz : Nat) : kM l D (xTy cI cB cS) kN yX6_init cX6_init 1 3 61 1103 [.ref h0] [(h0, .inr (6, [.null, .null, .int 0, .null, .null, .null, .null, .null, .null]))] sz (fun t => ∃ q52 q59 q57 q55 q53 q1 q2 q3 q4 q5 q6 q7 q8 q9 q10 q11 q12 q13 q14 q15 q16 q17 q18 q19 q20 q21 q22 q23 q24 q25 q26 q27 q28 q29 q30 q31 q32 q33 q34 q35 q36 q37 q38 q39 q40 q41 q42 q43 q44 q45 q46 q47 q48 q49 q50 q51 q54 q56 q58 q60 q61 : Nat, va_P D vwCl [(h0, .inr (6, [.ref q1, .ref q17, .int 0, .ref q33, .ref q40, .ref q47, .ref q50, .ref q52, .ref q61])), (q52, .inl (cS, 4, .inr (.inr (.inr (.inr (va_up (va_up (va_up (va_up (fun _ => none) (0 : Int32).toNatClampNeg (some q53)) (1 : Int32).toNatClampNeg (some q55)) (2 : Int32).toNatClampNeg (some q57)) (3 : Int32).toNatClampNeg (some q59))))))), (q59, .inr (4, [.int 0, .int 0, .ref q60])), (q57, .inr (4, [.int 0, .int 0, .ref q58])), (q55, .inr (4, [.int 0, .int 0, .ref q56])), (q53, .inr (4, [.int 0, .int 0, .ref q54])), (q1, .inr (1, [.ref q2, .ref q9, .ref q12, .ref q15, .int 0, .ref q16, .int 0, .int 0, .int 1])), (q2, .inr (0, [.int 0, .ref q3, .ref q4, .ref q5, .ref q6, .ref q7, .ref q8])), (q3, .inl (cI, 7, .inl (fun _ => 0))), (q4, .inl (cI, 7, .inl (fun _ => 0))), (q5, .inl (cI, 7, .inl (fun _ => 0))), (q6, .inl (cI, 7, .inl (fun _ => 0))), (q7, .inl (cI, 7, .inl (fun _ => 0))), (q8, .inl (cI, 7, .inl (fun _ => 0))), (q9, .inr (2, [.int 0, .int 0, .ref q10, .ref q11])), (q10, .inl (cI, 50, .inl (fun _ => 0))), (q11, .inl (cI, 50, .inl (fun _ => 0))), (q12, .inr (2, [.int 1, .int 0, .ref q13, .ref q14])), (q13, .inl (cI, 50, .inl (fun _ => 0))), (q14, .inl (cI, 50, .inl (fun _ => 0))), (q15, .inl (cB, 50, .inl (fun _ => 0))), (q16, .inl (cI, 20, .inl (fun _ => 0))), (q17, .inr (1, [.ref q18, .ref q25, .ref q28, .ref q31, .int 0, .ref q32, .int 0, .int 0, .int 1])), (q18, .inr (0, [.int 0, .ref q19, .ref q20, .ref q21, .ref q22, .ref q23, .ref q24])), (q19, .inl (cI, 7, .inl (fun _ => 0))), (q20, .inl (cI, 7, .inl (fun _ => 0))), (q21, .inl (cI, 7, .inl (fun _ => 0))), (q22, .inl (cI, 7, .inl (fun _ => 0))), (q23, .inl (cI, 7, .inl (fun _ => 0))), (q24, .inl (cI, 7, .inl (fun _ => 0))), (q25, .inr (2, [.int 0, .int 0, .ref q26, .ref q27])), (q26, .inl (cI, 50, .inl (fun _ => 0))), (q27, .inl (cI, 50, .inl (fun _ => 0))), (q28, .inr (2, [.int 1, .int 0, .ref q29, .ref q30])), (q29, .inl (cI, 50, .inl (fun _ => 0))), (q30, .inl (cI, 50, .inl (fun _ => 0))), (q31, .inl (cB, 50, .inl (fun _ => 0))), (q32, .inl (cI, 20, .inl (fun _ => 0))), (q33, .inr (0, [.int 0, .ref q34, .ref q35, .ref q36, .ref q37, .ref q38, .ref q39])), (q34, .inl (cI, 7, .inl (fun _ => 0))), (q35, .inl (cI, 7, .inl (fun _ => 0))), (q36, .inl (cI, 7, .inl (fun _ => 0))), (q37, .inl (cI, 7, .inl (fun _ => 0))), (q38, .inl (cI, 7, .inl (fun _ => 0))), (q39, .inl (cI, 7, .inl (fun _ => 0))), (q40, .inr (0, [.int 0, .ref q41, .ref q42, .ref q43, .ref q44, .ref q45, .ref q46])), (q41, .inl (cI, 7, .inl (fun _ => 0))), (q42, .inl (cI, 7, .inl (fun _ => 0))), (q43, .inl (cI, 7, .inl (fun _ => 0))), (q44, .inl (cI, 7, .inl (fun _ => 0))), (q45, .inl (cI, 7, .inl (fun _ => 0))), (q46, .inl (cI, 7, .inl (fun _ => 0))), (q47, .inr (3, [.ref q48, .int 0, .int 0, .int 0, .int 0, .ref q49])), (q48, .inl (cB, 50, .inl (fun _ => 0))), (q49, .inl (cI, 50, .inl (fun _ => 0))), (q50, .inr (5, [.int 0, .int 0, .int 0, .int 0, .ref q51])), (q51, .inl (cI, 40, .inl (fun _ => 0))), (q54, .inl (cI, 40, .inl (fun _ => 0))), (q56, .inl (cI, 40, .inl (fun _ => 0))), (q58, .inl (cI, 40, .inl (fun _ => 0))), (q60, .inl (cI, 40, .inl (fun _ => 0))), (q61, .inl (cI, 6, .inl (fun _ => 0)))] t.heap ∧ va_D (va_A [(h0, .inr (6, [.null, .null, .int 0, .null, .null, .null, .null, .null, .null]))] sz) [(h0, .inr (6, [.ref q1, .ref q17, .int 0, .ref q33, .ref q40, .ref q47, .ref q50, .ref q52, .ref q61])), (q52, .inl (cS, 4, .inr (.inr (.inr (.inr (va_up (va_up (va_up (va_up (fun _ => none) (0 : Int32).toNatClampNeg (some q53)) (1 : Int32).toNatClampNeg (some q55)) (2 : Int32).toNatClampNeg (some q57)) (3 : Int32).toNatClampNeg (some q59))))))), (q59, .inr (4, [.int 0, .int 0, .ref q60])), (q57, .inr (4, [.int 0, .int 0, .ref q58])), (q55, .inr (4, [.int 0, .int 0, .ref q56])), (q53, .inr (4, [.int 0, .int 0, .ref q54])), (q1, .inr (1, [.ref q2, .ref q9, .ref q12, .ref q15, .int 0, .ref q16, .int 0, .int 0, .int 1])), (q2, .inr (0, [.int 0, .ref q3, .ref q4, .ref q5, .ref q6, .ref q7, .ref q8])), (q3, .inl (cI, 7, .inl (fun _ => 0))), (q4, .inl (cI, 7, .inl (fun _ => 0))), (q5, .inl (cI, 7, .inl (fun _ => 0))), (q6, .inl (cI, 7, .inl (fun _ => 0))), (q7, .inl (cI, 7, .inl (fun _ => 0))), (q8, .inl (cI, 7, .inl (fun _ => 0))), (q9, .inr (2, [.int 0, .int 0, .ref q10, .ref q11])), (q10, .inl (cI, 50, .inl (fun _ => 0))), (q11, .inl (cI, 50, .inl (fun _ => 0))), (q12, .inr (2, [.int 1, .int 0, .ref q13, .ref q14])), (q13, .inl (cI, 50, .inl (fun _ => 0))), (q14, .inl (cI, 50, .inl (fun _ => 0))), (q15, .inl (cB, 50, .inl (fun _ => 0))), (q16, .inl (cI, 20, .inl (fun _ => 0))), (q17, .inr (1, [.ref q18, .ref q25, .ref q28, .ref q31, .int 0, .ref q32, .int 0, .int 0, .int 1])), (q18, .inr (0, [.int 0, .ref q19, .ref q20, .ref q21, .ref q22, .ref q23, .ref q24])), (q19, .inl (cI, 7, .inl (fun _ => 0))), (q20, .inl (cI, 7, .inl (fun _ => 0))), (q21, .inl (cI, 7, .inl (fun _ => 0))), (q22, .inl (cI, 7, .inl (fun _ => 0))), (q23, .inl (cI, 7, .inl (fun _ => 0))), (q24, .inl (cI, 7, .inl (fun _ => 0))), (q25, .inr (2, [.int 0, .int 0, .ref q26, .ref q27])), (q26, .inl (cI, 50, .inl (fun _ => 0))), (q27, .inl (cI, 50, .inl (fun _ => 0))), (q28, .inr (2, [.int 1, .int 0, .ref q29, .ref q30])), (q29, .inl (cI, 50, .inl (fun _ => 0))), (q30, .inl (cI, 50, .inl (fun _ => 0))), (q31, .inl (cB, 50, .inl (fun _ => 0))), (q32, .inl (cI, 20, .inl (fun _ => 0))), (q33, .inr (0, [.int 0, .ref q34, .ref q35, .ref q36, .ref q37, .ref q38, .ref q39])), (q34, .inl (cI, 7, .inl (fun _ => 0))), (q35, .inl (cI, 7, .inl (fun _ => 0))), (q36, .inl (cI, 7, .inl (fun _ => 0))), (q37, .inl (cI, 7, .inl (fun _ => 0))), (q38, .inl (cI, 7, .inl (fun _ => 0))), (q39, .inl (cI, 7, .inl (fun _ => 0))), (q40, .inr (0, [.int 0, .ref q41, .ref q42, .ref q43, .ref q44, .ref q45, .ref q46])), (q41, .inl (cI, 7, .inl (fun _ => 0))), (q42, .inl (cI, 7, .inl (fun _ => 0))), (q43, .inl (cI, 7, .inl (fun _ => 0))), (q44, .inl (cI, 7, .inl (fun _ => 0))), (q45, .inl (cI, 7, .inl (fun _ => 0))), (q46, .inl (cI, 7, .inl (fun _ => 0))), (q47, .inr (3, [.ref q48, .int 0, .int 0, .int 0, .int 0, .ref q49])), (q48, .inl (cB, 50, .inl (fun _ => 0))), (q49, .inl (cI, 50, .inl (fun _ => 0))), (q50, .inr (5, [.int 0, .int 0, .int 0, .int 0, .ref q51])), (q51, .inl (cI, 40, .inl (fun _ => 0))), (q54, .inl (cI, 40, .inl (fun _ => 0))), (q56, .inl (cI, 40, .inl (fun _ => 0))), (q58, .inl (cI, 40, .inl (fun _ => 0))), (q60, .inl (cI, 40, .inl (fun _ => 0))), (q61, .inl (cI, 6, .inl (fun _ => 0)))]) := by
  refine k_entry (by decide) rfl (Nat.le_of_ble_eq_true rfl) (fun p e s m below meth c ls A hsz hAe hC hP hD hA hl => ?_)
  subst hsz
  have hx := hC.1
  have hb := hC.2.1
  have hml := hC.2.2.1
  have hown := hC.2.2.2.1
  have hts := hC.2.2.2.2.1
  have hK := hC.2.2.2.2.2.2.2.1
  have hin := hC.2.2.2.2.2.2.2.2.1
  have hE := hC.2.2.2.2.2.2.2.2.2
  have hS : va_S A s.heap s.heap [] := va_S.rf
  have hl : lv_has ls 1 [(0, .ref h0)] := hl
  obtain ⟨T0, eT0⟩ : ∃ T : va_W, T = [] := ⟨_, rfl⟩
  replace hP : va_P D vwCl ((h0, .inr (6, [.null, .null, .int 0, .null, .null, .null, .null, .null, .null])) :: T0) s.heap := by rw [eT0]; exact hP
  replace hD : va_D A ((h0, .inr (6, [.null, .null, .int 0, .null, .null, .null, .null, .null, .null])) :: T0) := by rw [eT0]; exact hD
  refine lv_aload_n (pc := 0) hx hb dX6_init_0 rfl (lv_at hl 0 rfl) ?_
  refine W.objInit (g := F0 m 1 ls [.ref h0]) hx hb hown (hts _ wd_20) (hts _ wd_21) (hts _ wd_22) rfl (by rw [hml]; exact hl.1) rfl dX6_init_1 (Nat.le_of_ble_eq_true rfl) (Nat.le_of_ble_eq_true rfl) ?_
  refine W.eq (g2 := F0 m 4 ls []) rfl ?_
  refine lv_aload_n (pc := 4) hx hb dX6_init_4 rfl (lv_at hl 0 rfl) ?_
  refine va_new (pc := 5) (ci := 1) (fs := [.null, .null, .null, .null, .int 0, .null, .int 0, .int 0, .int 0]) (C := RX1) (T := TX1) (N := 9) hx hb hts uwX1 tyX1 tyX1_ok hown (hts _ wd_23) (hts _ wd_24) (hts _ wd_2) hK hP hD hS hA rfl dv_X1 (Nat.le_of_ble_eq_true rfl) (Nat.le_of_ble_eq_true rfl) dX6_init_5 (fun q1 H hP hD hS => ?_)
  refine lv_dup (pc := 8) hx hb dX6_init_8 rfl ?_
  refine k_callL (As := []) (b := q1) (rest := [.ref q1, .ref h0]) (cell := (q1, .inr (1, [.null, .null, .null, .null, .int 0, .null, .int 0, .int 0, .int 0]))) (wr := (h0, .inr (6, [.null, .null, .int 0, .null, .null, .null, .null, .null, .null])) :: T0) (en' := kN) hK hP hD hS hA (k_runN (n := 0) (pc := 9) hx hb hml hown hts hl.1 (kX_X1 (l := l) (D := D) q1 H.size) hE.1.1 wd_26 wd_2 wd_27 ⟨by decide, by decide, by decide +kernel⟩ rfl (by decide) rfl rfl (Nat.le_of_ble_eq_true rfl) (by decide) dX6_init_9 ⟨Nat.le_of_ble_eq_true rfl, Nat.le_of_ble_eq_true rfl⟩) kN_blind (fun U hU hW => kN_warm hW hE) (fun t H1 locs ht hB hj hS => ?_)
  obtain ⟨q2, q3, q4, q5, q6, q7, q8, q9, q10, q11, q12, q13, q14, q15, q16, hP1, hD1⟩ := hB
  rw [ht] at hP1
  obtain ⟨hP, hD⟩ := hj _ hP1 hD1
  clear hP1 hD1 ht hj
  generalize H1 = H at hP hS ⊢
  obtain ⟨T1, eT1⟩ : ∃ T : va_W, T = T0 ++ [(q1, .inr (1, [.ref q2, .ref q9, .ref q12, .ref q15, .int 0, .ref q16, .int 0, .int 0, .int 1])), (q2, .inr (0, [.int 0, .ref q3, .ref q4, .ref q5, .ref q6, .ref q7, .ref q8])), (q3, .inl (cI, 7, .inl (fun _ => 0))), (q4, .inl (cI, 7, .inl (fun _ => 0))), (q5, .inl (cI, 7, .inl (fun _ => 0))), (q6, .inl (cI, 7, .inl (fun _ => 0))), (q7, .inl (cI, 7, .inl (fun _ => 0))), (q8, .inl (cI, 7, .inl (fun _ => 0))), (q9, .inr (2, [.int 0, .int 0, .ref q10, .ref q11])), (q10, .inl (cI, 50, .inl (fun _ => 0))), (q11, .inl (cI, 50, .inl (fun _ => 0))), (q12, .inr (2, [.int 1, .int 0, .ref q13, .ref q14])), (q13, .inl (cI, 50, .inl (fun _ => 0))), (q14, .inl (cI, 50, .inl (fun _ => 0))), (q15, .inl (cB, 50, .inl (fun _ => 0))), (q16, .inl (cI, 20, .inl (fun _ => 0)))] := ⟨_, rfl⟩
  replace hP : va_P D vwCl ((h0, .inr (6, [.null, .null, .int 0, .null, .null, .null, .null, .null, .null])) :: T1) H := by rw [eT1]; exact hP
  replace hD : va_D A ((h0, .inr (6, [.null, .null, .int 0, .null, .null, .null, .null, .null, .null])) :: T1) := by rw [eT1]; exact hD
  refine va_putF (pc := 12) hx hb hts uwX6 tyX6 tyX6_ok nmX6 hown hK hP hD hS 0 rfl rfl 0 (by decide) (hts _ wd_201) (fun _ h => h) rfl hin rfl (tyX6_ok 0 (by decide)) rfl rfl (Nat.le_of_ble_eq_true rfl) dX6_init_12 (fun H locs hP hD hS => ?_)
  have hP : va_P D vwCl ((h0, .inr (6, [.ref q1, .null, .int 0, .null, .null, .null, .null, .null, .null])) :: T1) H := hP
  have hD : va_D A ((h0, .inr (6, [.ref q1, .null, .int 0, .null, .null, .null, .null, .null, .null])) :: T1) := hD
  refine lv_aload_n (pc := 15) hx hb dX6_init_15 rfl (lv_at hl 0 rfl) ?_
  refine va_new (pc := 16) (ci := 1) (fs := [.null, .null, .null, .null, .int 0, .null, .int 0, .int 0, .int 0]) (C := RX1) (T := TX1) (N := 9) hx hb hts uwX1 tyX1 tyX1_ok hown (hts _ wd_23) (hts _ wd_24) (hts _ wd_2) hK hP hD hS hA rfl dv_X1 (Nat.le_of_ble_eq_true rfl) (Nat.le_of_ble_eq_true rfl) dX6_init_16 (fun q17 H hP hD hS => ?_)
  refine lv_dup (pc := 19) hx hb dX6_init_19 rfl ?_
  refine k_callL (As := []) (b := q17) (rest := [.ref q17, .ref h0]) (cell := (q17, .inr (1, [.null, .null, .null, .null, .int 0, .null, .int 0, .int 0, .int 0]))) (wr := (h0, .inr (6, [.ref q1, .null, .int 0, .null, .null, .null, .null, .null, .null])) :: T1) (en' := kN) hK hP hD hS hA (k_runN (n := 0) (pc := 20) hx hb hml hown hts hl.1 (kX_X1 (l := l) (D := D) q17 H.size) hE.1.1 wd_26 wd_2 wd_27 ⟨by decide, by decide, by decide +kernel⟩ rfl (by decide) rfl rfl (Nat.le_of_ble_eq_true rfl) (by decide) dX6_init_20 ⟨Nat.le_of_ble_eq_true rfl, Nat.le_of_ble_eq_true rfl⟩) kN_blind (fun U hU hW => kN_warm hW hE) (fun t H1 locs ht hB hj hS => ?_)
  obtain ⟨q18, q19, q20, q21, q22, q23, q24, q25, q26, q27, q28, q29, q30, q31, q32, hP1, hD1⟩ := hB
  rw [ht] at hP1
  obtain ⟨hP, hD⟩ := hj _ hP1 hD1
  clear hP1 hD1 ht hj
  generalize H1 = H at hP hS ⊢
  obtain ⟨T2, eT2⟩ : ∃ T : va_W, T = T1 ++ [(q17, .inr (1, [.ref q18, .ref q25, .ref q28, .ref q31, .int 0, .ref q32, .int 0, .int 0, .int 1])), (q18, .inr (0, [.int 0, .ref q19, .ref q20, .ref q21, .ref q22, .ref q23, .ref q24])), (q19, .inl (cI, 7, .inl (fun _ => 0))), (q20, .inl (cI, 7, .inl (fun _ => 0))), (q21, .inl (cI, 7, .inl (fun _ => 0))), (q22, .inl (cI, 7, .inl (fun _ => 0))), (q23, .inl (cI, 7, .inl (fun _ => 0))), (q24, .inl (cI, 7, .inl (fun _ => 0))), (q25, .inr (2, [.int 0, .int 0, .ref q26, .ref q27])), (q26, .inl (cI, 50, .inl (fun _ => 0))), (q27, .inl (cI, 50, .inl (fun _ => 0))), (q28, .inr (2, [.int 1, .int 0, .ref q29, .ref q30])), (q29, .inl (cI, 50, .inl (fun _ => 0))), (q30, .inl (cI, 50, .inl (fun _ => 0))), (q31, .inl (cB, 50, .inl (fun _ => 0))), (q32, .inl (cI, 20, .inl (fun _ => 0)))] := ⟨_, rfl⟩
  replace hP : va_P D vwCl ((h0, .inr (6, [.ref q1, .null, .int 0, .null, .null, .null, .null, .null, .null])) :: T2) H := by rw [eT2]; exact hP
  replace hD : va_D A ((h0, .inr (6, [.ref q1, .null, .int 0, .null, .null, .null, .null, .null, .null])) :: T2) := by rw [eT2]; exact hD
  refine va_putF (pc := 23) hx hb hts uwX6 tyX6 tyX6_ok nmX6 hown hK hP hD hS 0 rfl rfl 1 (by decide) (hts _ wd_202) (fun _ h => h) rfl hin rfl (tyX6_ok 1 (by decide)) rfl rfl (Nat.le_of_ble_eq_true rfl) dX6_init_23 (fun H locs hP hD hS => ?_)
  have hP : va_P D vwCl ((h0, .inr (6, [.ref q1, .ref q17, .int 0, .null, .null, .null, .null, .null, .null])) :: T2) H := hP
  have hD : va_D A ((h0, .inr (6, [.ref q1, .ref q17, .int 0, .null, .null, .null, .null, .null, .null])) :: T2) := hD
  refine lv_aload_n (pc := 26) hx hb dX6_init_26 rfl (lv_at hl 0 rfl) ?_
  refine lv_iconst (pc := 27) (v := 0) hx hb dX6_init_27 (by decide) ?_
  refine va_put (pc := 28) hx hb hts uwX6 tyX6 tyX6_ok nmX6 hown hK hP hD hS 0 rfl rfl 2 (by decide) (hts _ wd_203) (fun _ h => h) rfl (tyX6_ok 2 (by decide)) rfl rfl (Nat.le_of_ble_eq_true rfl) dX6_init_28 (fun H locs hP hD hS => ?_)
  have hP : va_P D vwCl ((h0, .inr (6, [.ref q1, .ref q17, .int 0, .null, .null, .null, .null, .null, .null])) :: T2) H := hP
  have hD : va_D A ((h0, .inr (6, [.ref q1, .ref q17, .int 0, .null, .null, .null, .null, .null, .null])) :: T2) := hD
  refine lv_aload_n (pc := 31) hx hb dX6_init_31 rfl (lv_at hl 0 rfl) ?_
  refine va_new (pc := 32) (ci := 0) (fs := [.int 0, .null, .null, .null, .null, .null, .null]) (C := RX0) (T := TX0) (N := 7) hx hb hts uwX0 tyX0 tyX0_ok hown (hts _ wd_127) (hts _ wd_30) (hts _ wd_3) hK hP hD hS hA rfl dv_X0 (Nat.le_of_ble_eq_true rfl) (Nat.le_of_ble_eq_true rfl) dX6_init_32 (fun q33 H hP hD hS => ?_)
  refine lv_dup (pc := 35) hx hb dX6_init_35 rfl ?_
  refine k_callL (As := []) (b := q33) (rest := [.ref q33, .ref h0]) (cell := (q33, .inr (0, [.int 0, .null, .null, .null, .null, .null, .null]))) (wr := (h0, .inr (6, [.ref q1, .ref q17, .int 0, .null, .null, .null, .null, .null, .null])) :: T2) (en' := kN) hK hP hD hS hA (k_runN (n := 0) (pc := 36) hx hb hml hown hts hl.1 (kX_X0 (l := l) (D := D) q33 H.size) hE.1.2.2.1 wd_32 wd_3 wd_33 ⟨by decide, by decide, by decide +kernel⟩ rfl (by decide) rfl rfl (Nat.le_of_ble_eq_true rfl) (by decide) dX6_init_36 ⟨Nat.le_of_ble_eq_true rfl, Nat.le_of_ble_eq_true rfl⟩) kN_blind (fun U hU hW => kN_warm hW hE) (fun t H1 locs ht hB hj hS => ?_)
  obtain ⟨q34, q35, q36, q37, q38, q39, hP1, hD1⟩ := hB
  rw [ht] at hP1
  obtain ⟨hP, hD⟩ := hj _ hP1 hD1
  clear hP1 hD1 ht hj
  generalize H1 = H at hP hS ⊢
  obtain ⟨T3, eT3⟩ : ∃ T : va_W, T = T2 ++ [(q33, .inr (0, [.int 0, .ref q34, .ref q35, .ref q36, .ref q37, .ref q38, .ref q39])), (q34, .inl (cI, 7, .inl (fun _ => 0))), (q35, .inl (cI, 7, .inl (fun _ => 0))), (q36, .inl (cI, 7, .inl (fun _ => 0))), (q37, .inl (cI, 7, .inl (fun _ => 0))), (q38, .inl (cI, 7, .inl (fun _ => 0))), (q39, .inl (cI, 7, .inl (fun _ => 0)))] := ⟨_, rfl⟩
  replace hP : va_P D vwCl ((h0, .inr (6, [.ref q1, .ref q17, .int 0, .null, .null, .null, .null, .null, .null])) :: T3) H := by rw [eT3]; exact hP
  replace hD : va_D A ((h0, .inr (6, [.ref q1, .ref q17, .int 0, .null, .null, .null, .null, .null, .null])) :: T3) := by rw [eT3]; exact hD
  refine va_putF (pc := 39) hx hb hts uwX6 tyX6 tyX6_ok nmX6 hown hK hP hD hS 0 rfl rfl 3 (by decide) (hts _ wd_204) (fun _ h => h) rfl hin rfl (tyX6_ok 3 (by decide)) rfl rfl (Nat.le_of_ble_eq_true rfl) dX6_init_39 (fun H locs hP hD hS => ?_)
  have hP : va_P D vwCl ((h0, .inr (6, [.ref q1, .ref q17, .int 0, .ref q33, .null, .null, .null, .null, .null])) :: T3) H := hP
  have hD : va_D A ((h0, .inr (6, [.ref q1, .ref q17, .int 0, .ref q33, .null, .null, .null, .null, .null])) :: T3) := hD
  refine lv_aload_n (pc := 42) hx hb dX6_init_42 rfl (lv_at hl 0 rfl) ?_
  refine va_new (pc := 43) (ci := 0) (fs := [.int 0, .null, .null, .null, .null, .null, .null]) (C := RX0) (T := TX0) (N := 7) hx hb hts uwX0 tyX0 tyX0_ok hown (hts _ wd_127) (hts _ wd_30) (hts _ wd_3) hK hP hD hS hA rfl dv_X0 (Nat.le_of_ble_eq_true rfl) (Nat.le_of_ble_eq_true rfl) dX6_init_43 (fun q40 H hP hD hS => ?_)
  refine lv_dup (pc := 46) hx hb dX6_init_46 rfl ?_
  refine k_callL (As := []) (b := q40) (rest := [.ref q40, .ref h0]) (cell := (q40, .inr (0, [.int 0, .null, .null, .null, .null, .null, .null]))) (wr := (h0, .inr (6, [.ref q1, .ref q17, .int 0, .ref q33, .null, .null, .null, .null, .null])) :: T3) (en' := kN) hK hP hD hS hA (k_runN (n := 0) (pc := 47) hx hb hml hown hts hl.1 (kX_X0 (l := l) (D := D) q40 H.size) hE.1.2.2.1 wd_32 wd_3 wd_33 ⟨by decide, by decide, by decide +kernel⟩ rfl (by decide) rfl rfl (Nat.le_of_ble_eq_true rfl) (by decide) dX6_init_47 ⟨Nat.le_of_ble_eq_true rfl, Nat.le_of_ble_eq_true rfl⟩) kN_blind (fun U hU hW => kN_warm hW hE) (fun t H1 locs ht hB hj hS => ?_)
  obtain ⟨q41, q42, q43, q44, q45, q46, hP1, hD1⟩ := hB
  rw [ht] at hP1
  obtain ⟨hP, hD⟩ := hj _ hP1 hD1
  clear hP1 hD1 ht hj
  generalize H1 = H at hP hS ⊢
  obtain ⟨T4, eT4⟩ : ∃ T : va_W, T = T3 ++ [(q40, .inr (0, [.int 0, .ref q41, .ref q42, .ref q43, .ref q44, .ref q45, .ref q46])), (q41, .inl (cI, 7, .inl (fun _ => 0))), (q42, .inl (cI, 7, .inl (fun _ => 0))), (q43, .inl (cI, 7, .inl (fun _ => 0))), (q44, .inl (cI, 7, .inl (fun _ => 0))), (q45, .inl (cI, 7, .inl (fun _ => 0))), (q46, .inl (cI, 7, .inl (fun _ => 0)))] := ⟨_, rfl⟩
  replace hP : va_P D vwCl ((h0, .inr (6, [.ref q1, .ref q17, .int 0, .ref q33, .null, .null, .null, .null, .null])) :: T4) H := by rw [eT4]; exact hP
  replace hD : va_D A ((h0, .inr (6, [.ref q1, .ref q17, .int 0, .ref q33, .null, .null, .null, .null, .null])) :: T4) := by rw [eT4]; exact hD
  refine va_putF (pc := 50) hx hb hts uwX6 tyX6 tyX6_ok nmX6 hown hK hP hD hS 0 rfl rfl 4 (by decide) (hts _ wd_205) (fun _ h => h) rfl hin rfl (tyX6_ok 4 (by decide)) rfl rfl (Nat.le_of_ble_eq_true rfl) dX6_init_50 (fun H locs hP hD hS => ?_)
  have hP : va_P D vwCl ((h0, .inr (6, [.ref q1, .ref q17, .int 0, .ref q33, .ref q40, .null, .null, .null, .null])) :: T4) H := hP
  have hD : va_D A ((h0, .inr (6, [.ref q1, .ref q17, .int 0, .ref q33, .ref q40, .null, .null, .null, .null])) :: T4) := hD
  refine lv_aload_n (pc := 53) hx hb dX6_init_53 rfl (lv_at hl 0 rfl) ?_
  refine va_new (pc := 54) (ci := 3) (fs := [.null, .int 0, .int 0, .int 0, .int 0, .null]) (C := RX3) (T := TX3) (N := 6) hx hb hts uwX3 tyX3 tyX3_ok hown (hts _ wd_129) (hts _ wd_130) (hts _ wd_5) hK hP hD hS hA rfl dv_X3 (Nat.le_of_ble_eq_true rfl) (Nat.le_of_ble_eq_true rfl) dX6_init_54 (fun q47 H hP hD hS => ?_)
  refine lv_dup (pc := 57) hx hb dX6_init_57 rfl ?_
  refine k_callL (As := []) (b := q47) (rest := [.ref q47, .ref h0]) (cell := (q47, .inr (3, [.null, .int 0, .int 0, .int 0, .int 0, .null]))) (wr := (h0, .inr (6, [.ref q1, .ref q17, .int 0, .ref q33, .ref q40, .null, .null, .null, .null])) :: T4) (en' := kN) hK hP hD hS hA (k_runN (n := 0) (pc := 58) hx hb hml hown hts hl.1 (kX_X3 (l := l) (D := D) q47 H.size) hE.1.2.2.2.1 wd_132 wd_5 wd_133 ⟨by decide, by decide, by decide +kernel⟩ rfl (by decide) rfl rfl (Nat.le_of_ble_eq_true rfl) (by decide) dX6_init_58 ⟨Nat.le_of_ble_eq_true rfl, Nat.le_of_ble_eq_true rfl⟩) kN_blind (fun U hU hW => kN_warm hW hE) (fun t H1 locs ht hB hj hS => ?_)
  obtain ⟨q48, q49, hP1, hD1⟩ := hB
  rw [ht] at hP1
  obtain ⟨hP, hD⟩ := hj _ hP1 hD1
  clear hP1 hD1 ht hj
  generalize H1 = H at hP hS ⊢
  obtain ⟨T5, eT5⟩ : ∃ T : va_W, T = T4 ++ [(q47, .inr (3, [.ref q48, .int 0, .int 0, .int 0, .int 0, .ref q49])), (q48, .inl (cB, 50, .inl (fun _ => 0))), (q49, .inl (cI, 50, .inl (fun _ => 0)))] := ⟨_, rfl⟩
  replace hP : va_P D vwCl ((h0, .inr (6, [.ref q1, .ref q17, .int 0, .ref q33, .ref q40, .null, .null, .null, .null])) :: T5) H := by rw [eT5]; exact hP
  replace hD : va_D A ((h0, .inr (6, [.ref q1, .ref q17, .int 0, .ref q33, .ref q40, .null, .null, .null, .null])) :: T5) := by rw [eT5]; exact hD
  refine va_putF (pc := 61) hx hb hts uwX6 tyX6 tyX6_ok nmX6 hown hK hP hD hS 0 rfl rfl 5 (by decide) (hts _ wd_206) (fun _ h => h) rfl hin rfl (tyX6_ok 5 (by decide)) rfl rfl (Nat.le_of_ble_eq_true rfl) dX6_init_61 (fun H locs hP hD hS => ?_)
  have hP : va_P D vwCl ((h0, .inr (6, [.ref q1, .ref q17, .int 0, .ref q33, .ref q40, .ref q47, .null, .null, .null])) :: T5) H := hP
  have hD : va_D A ((h0, .inr (6, [.ref q1, .ref q17, .int 0, .ref q33, .ref q40, .ref q47, .null, .null, .null])) :: T5) := hD
  refine lv_aload_n (pc := 64) hx hb dX6_init_64 rfl (lv_at hl 0 rfl) ?_
  refine va_new (pc := 65) (ci := 5) (fs := [.int 0, .int 0, .int 0, .int 0, .null]) (C := RX5) (T := TX5) (N := 5) hx hb hts uwX5 tyX5 tyX5_ok hown (hts _ wd_157) (hts _ wd_158) (hts _ wd_6) hK hP hD hS hA rfl dv_X5 (Nat.le_of_ble_eq_true rfl) (Nat.le_of_ble_eq_true rfl) dX6_init_65 (fun q50 H hP hD hS => ?_)
  refine lv_dup (pc := 68) hx hb dX6_init_68 rfl ?_
  refine k_callL (As := []) (b := q50) (rest := [.ref q50, .ref h0]) (cell := (q50, .inr (5, [.int 0, .int 0, .int 0, .int 0, .null]))) (wr := (h0, .inr (6, [.ref q1, .ref q17, .int 0, .ref q33, .ref q40, .ref q47, .null, .null, .null])) :: T5) (en' := kN) hK hP hD hS hA (k_runN (n := 0) (pc := 69) hx hb hml hown hts hl.1 (kX_X5 (l := l) (D := D) q50 H.size) hE.1.2.2.2.2.1 wd_160 wd_6 wd_161 ⟨by decide, by decide, by decide +kernel⟩ rfl (by decide) rfl rfl (Nat.le_of_ble_eq_true rfl) (by decide) dX6_init_69 ⟨Nat.le_of_ble_eq_true rfl, Nat.le_of_ble_eq_true rfl⟩) kN_blind (fun U hU hW => kN_warm hW hE) (fun t H1 locs ht hB hj hS => ?_)
  obtain ⟨q51, hP1, hD1⟩ := hB
  rw [ht] at hP1
  obtain ⟨hP, hD⟩ := hj _ hP1 hD1
  clear hP1 hD1 ht hj
  generalize H1 = H at hP hS ⊢
  obtain ⟨T6, eT6⟩ : ∃ T : va_W, T = T5 ++ [(q50, .inr (5, [.int 0, .int 0, .int 0, .int 0, .ref q51])), (q51, .inl (cI, 40, .inl (fun _ => 0)))] := ⟨_, rfl⟩
  replace hP : va_P D vwCl ((h0, .inr (6, [.ref q1, .ref q17, .int 0, .ref q33, .ref q40, .ref q47, .null, .null, .null])) :: T6) H := by rw [eT6]; exact hP
  replace hD : va_D A ((h0, .inr (6, [.ref q1, .ref q17, .int 0, .ref q33, .ref q40, .ref q47, .null, .null, .null])) :: T6) := by rw [eT6]; exact hD
  refine va_putF (pc := 72) hx hb hts uwX6 tyX6 tyX6_ok nmX6 hown hK hP hD hS 0 rfl rfl 6 (by decide) (hts _ wd_207) (fun _ h => h) rfl hin rfl (tyX6_ok 6 (by decide)) rfl rfl (Nat.le_of_ble_eq_true rfl) dX6_init_72 (fun H locs hP hD hS => ?_)
  have hP : va_P D vwCl ((h0, .inr (6, [.ref q1, .ref q17, .int 0, .ref q33, .ref q40, .ref q47, .ref q50, .null, .null])) :: T6) H := hP
  have hD : va_D A ((h0, .inr (6, [.ref q1, .ref q17, .int 0, .ref q33, .ref q40, .ref q47, .ref q50, .null, .null])) :: T6) := hD
  refine lv_aload_n (pc := 75) hx hb dX6_init_75 rfl (lv_at hl 0 rfl) ?_
  refine lv_iconst (pc := 76) (v := 4) hx hb dX6_init_76 (by decide) ?_
  refine k_newq (pc := 77) hx hb hown (hts _ wd_181) hE.2 hK hP hD hS hA 2 rfl 4 (by decide) (by decide) (by decide) (Nat.le_of_ble_eq_true rfl) (Nat.le_of_ble_eq_true rfl) dX6_init_77 (fun q52 H hP hD hS => ?_)
  have hpm := k_front1 (h0, .inr (6, [.ref q1, .ref q17, .int 0, .ref q33, .ref q40, .ref q47, .ref q50, .null, .null])) T6 (q52, .inl (cS, 4, .inr (.inr (.inr (.inr (fun _ => none))))))
  replace hP := kp_perm hpm hP
  replace hD := kd_perm hpm hD
  clear hpm
  have hP : va_P D vwCl ((h0, .inr (6, [.ref q1, .ref q17, .int 0, .ref q33, .ref q40, .ref q47, .ref q50, .null, .null])) :: (q52, .inl (cS, 4, .inr (.inr (.inr (.inr (fun _ => none)))))) :: T6) H := hP
  have hD : va_D A ((h0, .inr (6, [.ref q1, .ref q17, .int 0, .ref q33, .ref q40, .ref q47, .ref q50, .null, .null])) :: (q52, .inl (cS, 4, .inr (.inr (.inr (.inr (fun _ => none)))))) :: T6) := hD
  refine lv_dup (pc := 80) hx hb dX6_init_80 rfl ?_
  refine lv_iconst (pc := 81) (v := 0) hx hb dX6_init_81 (by decide) ?_
  refine va_new (pc := 82) (ci := 4) (fs := [.int 0, .int 0, .null]) (C := RX4) (T := TX4) (N := 3) hx hb hts uwX4 tyX4 tyX4_ok hown (hts _ wd_181) (hts _ wd_183) (hts _ wd_7) hK hP hD hS hA rfl dv_X4 (Nat.le_of_ble_eq_true rfl) (Nat.le_of_ble_eq_true rfl) dX6_init_82 (fun q53 H hP hD hS => ?_)
  refine lv_dup (pc := 85) hx hb dX6_init_85 rfl ?_
  refine k_callL (As := []) (b := q53) (rest := [.ref q53, .int 0, .ref q52, .ref q52, .ref h0]) (cell := (q53, .inr (4, [.int 0, .int 0, .null]))) (wr := (h0, .inr (6, [.ref q1, .ref q17, .int 0, .ref q33, .ref q40, .ref q47, .ref q50, .null, .null])) :: (q52, .inl (cS, 4, .inr (.inr (.inr (.inr (fun _ => none)))))) :: T6) (en' := kN) hK hP hD hS hA (k_runN (n := 0) (pc := 86) hx hb hml hown hts hl.1 (kX_X4 (l := l) (D := D) q53 H.size) hE.1.2.2.2.2.2 wd_185 wd_7 wd_186 ⟨by decide, by decide, by decide +kernel⟩ rfl (by decide) rfl rfl (Nat.le_of_ble_eq_true rfl) (by decide) dX6_init_86 ⟨Nat.le_of_ble_eq_true rfl, Nat.le_of_ble_eq_true rfl⟩) kN_blind (fun U hU hW => kN_warm hW hE) (fun t H1 locs ht hB hj hS => ?_)
  obtain ⟨q54, hP1, hD1⟩ := hB
  rw [ht] at hP1
  obtain ⟨hP, hD⟩ := hj _ hP1 hD1
  clear hP1 hD1 ht hj
  generalize H1 = H at hP hS ⊢
  have hpm := k_front2 (h0, .inr (6, [.ref q1, .ref q17, .int 0, .ref q33, .ref q40, .ref q47, .ref q50, .null, .null])) (q52, .inl (cS, 4, .inr (.inr (.inr (.inr (fun _ => none)))))) T6 (q53, .inr (4, [.int 0, .int 0, .ref q54])) (q54, .inl (cI, 40, .inl (fun _ => 0)))
  replace hP := kp_perm hpm hP
  replace hD := kd_perm hpm hD
  clear hpm
  obtain ⟨T7, eT7⟩ : ∃ T : va_W, T = T6 ++ [(q54, .inl (cI, 40, .inl (fun _ => 0)))] := ⟨_, rfl⟩
  replace hP : va_P D vwCl ((h0, .inr (6, [.ref q1, .ref q17, .int 0, .ref q33, .ref q40, .ref q47, .ref q50, .null, .null])) :: (q52, .inl (cS, 4, .inr (.inr (.inr (.inr (fun _ => none)))))) :: (q53, .inr (4, [.int 0, .int 0, .ref q54])) :: T7) H := by rw [eT7]; exact hP
  replace hD : va_D A ((h0, .inr (6, [.ref q1, .ref q17, .int 0, .ref q33, .ref q40, .ref q47, .ref q50, .null, .null])) :: (q52, .inl (cS, 4, .inr (.inr (.inr (.inr (fun _ => none)))))) :: (q53, .inr (4, [.int 0, .int 0, .ref q54])) :: T7) := by rw [eT7]; exact hD
  refine va_astq (pc := 89) (r := (RX4, TX4, 3)) hx hb hK hP hD hS 1 2 2 4 rfl rfl rfl rfl (vp_in_nI (n := 0) (N := 4) (by decide) (by decide)) dX6_init_89 (fun H locs hP hD hS => ?_)
  obtain ⟨T8, eT8⟩ : ∃ T : va_W, T = (q53, .inr (4, [.int 0, .int 0, .ref q54])) :: T7 := ⟨_, rfl⟩
  replace hP : va_P D vwCl ((h0, .inr (6, [.ref q1, .ref q17, .int 0, .ref q33, .ref q40, .ref q47, .ref q50, .null, .null])) :: (q52, .inl (cS, 4, .inr (.inr (.inr (.inr (va_up (fun _ => none) (0 : Int32).toNatClampNeg (some q53))))))) :: T8) H := by rw [eT8]; exact hP
  replace hD : va_D A ((h0, .inr (6, [.ref q1, .ref q17, .int 0, .ref q33, .ref q40, .ref q47, .ref q50, .null, .null])) :: (q52, .inl (cS, 4, .inr (.inr (.inr (.inr (va_up (fun _ => none) (0 : Int32).toNatClampNeg (some q53))))))) :: T8) := by rw [eT8]; exact hD
  refine lv_dup (pc := 90) hx hb dX6_init_90 rfl ?_
  refine lv_iconst (pc := 91) (v := 1) hx hb dX6_init_91 (by decide) ?_
  refine va_new (pc := 92) (ci := 4) (fs := [.int 0, .int 0, .null]) (C := RX4) (T := TX4) (N := 3) hx hb hts uwX4 tyX4 tyX4_ok hown (hts _ wd_181) (hts _ wd_183) (hts _ wd_7) hK hP hD hS hA rfl dv_X4 (Nat.le_of_ble_eq_true rfl) (Nat.le_of_ble_eq_true rfl) dX6_init_92 (fun q55 H hP hD hS => ?_)
  refine lv_dup (pc := 95) hx hb dX6_init_95 rfl ?_
  refine k_callL (As := []) (b := q55) (rest := [.ref q55, .int 1, .ref q52, .ref q52, .ref h0]) (cell := (q55, .inr (4, [.int 0, .int 0, .null]))) (wr := (h0, .inr (6, [.ref q1, .ref q17, .int 0, .ref q33, .ref q40, .ref q47, .ref q50, .null, .null])) :: (q52, .inl (cS, 4, .inr (.inr (.inr (.inr (va_up (fun _ => none) (0 : Int32).toNatClampNeg (some q53))))))) :: T8) (en' := kN) hK hP hD hS hA (k_runN (n := 0) (pc := 96) hx hb hml hown hts hl.1 (kX_X4 (l := l) (D := D) q55 H.size) hE.1.2.2.2.2.2 wd_185 wd_7 wd_186 ⟨by decide, by decide, by decide +kernel⟩ rfl (by decide) rfl rfl (Nat.le_of_ble_eq_true rfl) (by decide) dX6_init_96 ⟨Nat.le_of_ble_eq_true rfl, Nat.le_of_ble_eq_true rfl⟩) kN_blind (fun U hU hW => kN_warm hW hE) (fun t H1 locs ht hB hj hS => ?_)
  obtain ⟨q56, hP1, hD1⟩ := hB
  rw [ht] at hP1
  obtain ⟨hP, hD⟩ := hj _ hP1 hD1
  clear hP1 hD1 ht hj
  generalize H1 = H at hP hS ⊢
  have hpm := k_front2 (h0, .inr (6, [.ref q1, .ref q17, .int 0, .ref q33, .ref q40, .ref q47, .ref q50, .null, .null])) (q52, .inl (cS, 4, .inr (.inr (.inr (.inr (va_up (fun _ => none) (0 : Int32).toNatClampNeg (some q53))))))) T8 (q55, .inr (4, [.int 0, .int 0, .ref q56])) (q56, .inl (cI, 40, .inl (fun _ => 0)))
  replace hP := kp_perm hpm hP
  replace hD := kd_perm hpm hD
  clear hpm
  obtain ⟨T9, eT9⟩ : ∃ T : va_W, T = T8 ++ [(q56, .inl (cI, 40, .inl (fun _ => 0)))] := ⟨_, rfl⟩
  replace hP : va_P D vwCl ((h0, .inr (6, [.ref q1, .ref q17, .int 0, .ref q33, .ref q40, .ref q47, .ref q50, .null, .null])) :: (q52, .inl (cS, 4, .inr (.inr (.inr (.inr (va_up (fun _ => none) (0 : Int32).toNatClampNeg (some q53))))))) :: (q55, .inr (4, [.int 0, .int 0, .ref q56])) :: T9) H := by rw [eT9]; exact hP
  replace hD : va_D A ((h0, .inr (6, [.ref q1, .ref q17, .int 0, .ref q33, .ref q40, .ref q47, .ref q50, .null, .null])) :: (q52, .inl (cS, 4, .inr (.inr (.inr (.inr (va_up (fun _ => none) (0 : Int32).toNatClampNeg (some q53))))))) :: (q55, .inr (4, [.int 0, .int 0, .ref q56])) :: T9) := by rw [eT9]; exact hD
  refine va_astq (pc := 99) (r := (RX4, TX4, 3)) hx hb hK hP hD hS 1 2 2 4 rfl rfl rfl rfl (vp_in_nI (n := 1) (N := 4) (by decide) (by decide)) dX6_init_99 (fun H locs hP hD hS => ?_)
  obtain ⟨T10, eT10⟩ : ∃ T : va_W, T = (q55, .inr (4, [.int 0, .int 0, .ref q56])) :: T9 := ⟨_, rfl⟩
  replace hP : va_P D vwCl ((h0, .inr (6, [.ref q1, .ref q17, .int 0, .ref q33, .ref q40, .ref q47, .ref q50, .null, .null])) :: (q52, .inl (cS, 4, .inr (.inr (.inr (.inr (va_up (va_up (fun _ => none) (0 : Int32).toNatClampNeg (some q53)) (1 : Int32).toNatClampNeg (some q55))))))) :: T10) H := by rw [eT10]; exact hP
  replace hD : va_D A ((h0, .inr (6, [.ref q1, .ref q17, .int 0, .ref q33, .ref q40, .ref q47, .ref q50, .null, .null])) :: (q52, .inl (cS, 4, .inr (.inr (.inr (.inr (va_up (va_up (fun _ => none) (0 : Int32).toNatClampNeg (some q53)) (1 : Int32).toNatClampNeg (some q55))))))) :: T10) := by rw [eT10]; exact hD
  refine lv_dup (pc := 100) hx hb dX6_init_100 rfl ?_
  refine lv_iconst (pc := 101) (v := 2) hx hb dX6_init_101 (by decide) ?_
  refine va_new (pc := 102) (ci := 4) (fs := [.int 0, .int 0, .null]) (C := RX4) (T := TX4) (N := 3) hx hb hts uwX4 tyX4 tyX4_ok hown (hts _ wd_181) (hts _ wd_183) (hts _ wd_7) hK hP hD hS hA rfl dv_X4 (Nat.le_of_ble_eq_true rfl) (Nat.le_of_ble_eq_true rfl) dX6_init_102 (fun q57 H hP hD hS => ?_)
  refine lv_dup (pc := 105) hx hb dX6_init_105 rfl ?_
  refine k_callL (As := []) (b := q57) (rest := [.ref q57, .int 2, .ref q52, .ref q52, .ref h0]) (cell := (q57, .inr (4, [.int 0, .int 0, .null]))) (wr := (h0, .inr (6, [.ref q1, .ref q17, .int 0, .ref q33, .ref q40, .ref q47, .ref q50, .null, .null])) :: (q52, .inl (cS, 4, .inr (.inr (.inr (.inr (va_up (va_up (fun _ => none) (0 : Int32).toNatClampNeg (some q53)) (1 : Int32).toNatClampNeg (some q55))))))) :: T10) (en' := kN) hK hP hD hS hA (k_runN (n := 0) (pc := 106) hx hb hml hown hts hl.1 (kX_X4 (l := l) (D := D) q57 H.size) hE.1.2.2.2.2.2 wd_185 wd_7 wd_186 ⟨by decide, by decide, by decide +kernel⟩ rfl (by decide) rfl rfl (Nat.le_of_ble_eq_true rfl) (by decide) dX6_init_106 ⟨Nat.le_of_ble_eq_true rfl, Nat.le_of_ble_eq_true rfl⟩) kN_blind (fun U hU hW => kN_warm hW hE) (fun t H1 locs ht hB hj hS => ?_)
  obtain ⟨q58, hP1, hD1⟩ := hB
  rw [ht] at hP1
  obtain ⟨hP, hD⟩ := hj _ hP1 hD1
  clear hP1 hD1 ht hj
  generalize H1 = H at hP hS ⊢
  have hpm := k_front2 (h0, .inr (6, [.ref q1, .ref q17, .int 0, .ref q33, .ref q40, .ref q47, .ref q50, .null, .null])) (q52, .inl (cS, 4, .inr (.inr (.inr (.inr (va_up (va_up (fun _ => none) (0 : Int32).toNatClampNeg (some q53)) (1 : Int32).toNatClampNeg (some q55))))))) T10 (q57, .inr (4, [.int 0, .int 0, .ref q58])) (q58, .inl (cI, 40, .inl (fun _ => 0)))
  replace hP := kp_perm hpm hP
  replace hD := kd_perm hpm hD
  clear hpm
  obtain ⟨T11, eT11⟩ : ∃ T : va_W, T = T10 ++ [(q58, .inl (cI, 40, .inl (fun _ => 0)))] := ⟨_, rfl⟩
  replace hP : va_P D vwCl ((h0, .inr (6, [.ref q1, .ref q17, .int 0, .ref q33, .ref q40, .ref q47, .ref q50, .null, .null])) :: (q52, .inl (cS, 4, .inr (.inr (.inr (.inr (va_up (va_up (fun _ => none) (0 : Int32).toNatClampNeg (some q53)) (1 : Int32).toNatClampNeg (some q55))))))) :: (q57, .inr (4, [.int 0, .int 0, .ref q58])) :: T11) H := by rw [eT11]; exact hP
  replace hD : va_D A ((h0, .inr (6, [.ref q1, .ref q17, .int 0, .ref q33, .ref q40, .ref q47, .ref q50, .null, .null])) :: (q52, .inl (cS, 4, .inr (.inr (.inr (.inr (va_up (va_up (fun _ => none) (0 : Int32).toNatClampNeg (some q53)) (1 : Int32).toNatClampNeg (some q55))))))) :: (q57, .inr (4, [.int 0, .int 0, .ref q58])) :: T11) := by rw [eT11]; exact hD
  refine va_astq (pc := 109) (r := (RX4, TX4, 3)) hx hb hK hP hD hS 1 2 2 4 rfl rfl rfl rfl (vp_in_nI (n := 2) (N := 4) (by decide) (by decide)) dX6_init_109 (fun H locs hP hD hS => ?_)
  obtain ⟨T12, eT12⟩ : ∃ T : va_W, T = (q57, .inr (4, [.int 0, .int 0, .ref q58])) :: T11 := ⟨_, rfl⟩
  replace hP : va_P D vwCl ((h0, .inr (6, [.ref q1, .ref q17, .int 0, .ref q33, .ref q40, .ref q47, .ref q50, .null, .null])) :: (q52, .inl (cS, 4, .inr (.inr (.inr (.inr (va_up (va_up (va_up (fun _ => none) (0 : Int32).toNatClampNeg (some q53)) (1 : Int32).toNatClampNeg (some q55)) (2 : Int32).toNatClampNeg (some q57))))))) :: T12) H := by rw [eT12]; exact hP
  replace hD : va_D A ((h0, .inr (6, [.ref q1, .ref q17, .int 0, .ref q33, .ref q40, .ref q47, .ref q50, .null, .null])) :: (q52, .inl (cS, 4, .inr (.inr (.inr (.inr (va_up (va_up (va_up (fun _ => none) (0 : Int32).toNatClampNeg (some q53)) (1 : Int32).toNatClampNeg (some q55)) (2 : Int32).toNatClampNeg (some q57))))))) :: T12) := by rw [eT12]; exact hD
  refine lv_dup (pc := 110) hx hb dX6_init_110 rfl ?_
  refine lv_iconst (pc := 111) (v := 3) hx hb dX6_init_111 (by decide) ?_
  refine va_new (pc := 112) (ci := 4) (fs := [.int 0, .int 0, .null]) (C := RX4) (T := TX4) (N := 3) hx hb hts uwX4 tyX4 tyX4_ok hown (hts _ wd_181) (hts _ wd_183) (hts _ wd_7) hK hP hD hS hA rfl dv_X4 (Nat.le_of_ble_eq_true rfl) (Nat.le_of_ble_eq_true rfl) dX6_init_112 (fun q59 H hP hD hS => ?_)
  refine lv_dup (pc := 115) hx hb dX6_init_115 rfl ?_
  refine k_callL (As := []) (b := q59) (rest := [.ref q59, .int 3, .ref q52, .ref q52, .ref h0]) (cell := (q59, .inr (4, [.int 0, .int 0, .null]))) (wr := (h0, .inr (6, [.ref q1, .ref q17, .int 0, .ref q33, .ref q40, .ref q47, .ref q50, .null, .null])) :: (q52, .inl (cS, 4, .inr (.inr (.inr (.inr (va_up (va_up (va_up (fun _ => none) (0 : Int32).toNatClampNeg (some q53)) (1 : Int32).toNatClampNeg (some q55)) (2 : Int32).toNatClampNeg (some q57))))))) :: T12) (en' := kN) hK hP hD hS hA (k_runN (n := 0) (pc := 116) hx hb hml hown hts hl.1 (kX_X4 (l := l) (D := D) q59 H.size) hE.1.2.2.2.2.2 wd_185 wd_7 wd_186 ⟨by decide, by decide, by decide +kernel⟩ rfl (by decide) rfl rfl (Nat.le_of_ble_eq_true rfl) (by decide) dX6_init_116 ⟨Nat.le_of_ble_eq_true rfl, Nat.le_of_ble_eq_true rfl⟩) kN_blind (fun U hU hW => kN_warm hW hE) (fun t H1 locs ht hB hj hS => ?_)
  obtain ⟨q60, hP1, hD1⟩ := hB
  rw [ht] at hP1
  obtain ⟨hP, hD⟩ := hj _ hP1 hD1
  clear hP1 hD1 ht hj
  generalize H1 = H at hP hS ⊢
  have hpm := k_front2 (h0, .inr (6, [.ref q1, .ref q17, .int 0, .ref q33, .ref q40, .ref q47, .ref q50, .null, .null])) (q52, .inl (cS, 4, .inr (.inr (.inr (.inr (va_up (va_up (va_up (fun _ => none) (0 : Int32).toNatClampNeg (some q53)) (1 : Int32).toNatClampNeg (some q55)) (2 : Int32).toNatClampNeg (some q57))))))) T12 (q59, .inr (4, [.int 0, .int 0, .ref q60])) (q60, .inl (cI, 40, .inl (fun _ => 0)))
  replace hP := kp_perm hpm hP
  replace hD := kd_perm hpm hD
  clear hpm
  obtain ⟨T13, eT13⟩ : ∃ T : va_W, T = T12 ++ [(q60, .inl (cI, 40, .inl (fun _ => 0)))] := ⟨_, rfl⟩
  replace hP : va_P D vwCl ((h0, .inr (6, [.ref q1, .ref q17, .int 0, .ref q33, .ref q40, .ref q47, .ref q50, .null, .null])) :: (q52, .inl (cS, 4, .inr (.inr (.inr (.inr (va_up (va_up (va_up (fun _ => none) (0 : Int32).toNatClampNeg (some q53)) (1 : Int32).toNatClampNeg (some q55)) (2 : Int32).toNatClampNeg (some q57))))))) :: (q59, .inr (4, [.int 0, .int 0, .ref q60])) :: T13) H := by rw [eT13]; exact hP
  replace hD : va_D A ((h0, .inr (6, [.ref q1, .ref q17, .int 0, .ref q33, .ref q40, .ref q47, .ref q50, .null, .null])) :: (q52, .inl (cS, 4, .inr (.inr (.inr (.inr (va_up (va_up (va_up (fun _ => none) (0 : Int32).toNatClampNeg (some q53)) (1 : Int32).toNatClampNeg (some q55)) (2 : Int32).toNatClampNeg (some q57))))))) :: (q59, .inr (4, [.int 0, .int 0, .ref q60])) :: T13) := by rw [eT13]; exact hD
  refine va_astq (pc := 119) (r := (RX4, TX4, 3)) hx hb hK hP hD hS 1 2 2 4 rfl rfl rfl rfl (vp_in_nI (n := 3) (N := 4) (by decide) (by decide)) dX6_init_119 (fun H locs hP hD hS => ?_)
  obtain ⟨T14, eT14⟩ : ∃ T : va_W, T = (q59, .inr (4, [.int 0, .int 0, .ref q60])) :: T13 := ⟨_, rfl⟩
  replace hP : va_P D vwCl ((h0, .inr (6, [.ref q1, .ref q17, .int 0, .ref q33, .ref q40, .ref q47, .ref q50, .null, .null])) :: (q52, .inl (cS, 4, .inr (.inr (.inr (.inr (va_up (va_up (va_up (va_up (fun _ => none) (0 : Int32).toNatClampNeg (some q53)) (1 : Int32).toNatClampNeg (some q55)) (2 : Int32).toNatClampNeg (some q57)) (3 : Int32).toNatClampNeg (some q59))))))) :: T14) H := by rw [eT14]; exact hP
  replace hD : va_D A ((h0, .inr (6, [.ref q1, .ref q17, .int 0, .ref q33, .ref q40, .ref q47, .ref q50, .null, .null])) :: (q52, .inl (cS, 4, .inr (.inr (.inr (.inr (va_up (va_up (va_up (va_up (fun _ => none) (0 : Int32).toNatClampNeg (some q53)) (1 : Int32).toNatClampNeg (some q55)) (2 : Int32).toNatClampNeg (some q57)) (3 : Int32).toNatClampNeg (some q59))))))) :: T14) := by rw [eT14]; exact hD
  refine va_putF (pc := 120) hx hb hts uwX6 tyX6 tyX6_ok nmX6 hown hK hP hD hS 0 rfl rfl 7 (by decide) (hts _ wd_208) (fun _ h => h) rfl hin rfl (tyX6_ok 7 (by decide)) rfl rfl (Nat.le_of_ble_eq_true rfl) dX6_init_120 (fun H locs hP hD hS => ?_)
  have hP : va_P D vwCl ((h0, .inr (6, [.ref q1, .ref q17, .int 0, .ref q33, .ref q40, .ref q47, .ref q50, .ref q52, .null])) :: (q52, .inl (cS, 4, .inr (.inr (.inr (.inr (va_up (va_up (va_up (va_up (fun _ => none) (0 : Int32).toNatClampNeg (some q53)) (1 : Int32).toNatClampNeg (some q55)) (2 : Int32).toNatClampNeg (some q57)) (3 : Int32).toNatClampNeg (some q59))))))) :: T14) H := hP
  have hD : va_D A ((h0, .inr (6, [.ref q1, .ref q17, .int 0, .ref q33, .ref q40, .ref q47, .ref q50, .ref q52, .null])) :: (q52, .inl (cS, 4, .inr (.inr (.inr (.inr (va_up (va_up (va_up (va_up (fun _ => none) (0 : Int32).toNatClampNeg (some q53)) (1 : Int32).toNatClampNeg (some q55)) (2 : Int32).toNatClampNeg (some q57)) (3 : Int32).toNatClampNeg (some q59))))))) :: T14) := hD
  refine lv_aload_n (pc := 123) hx hb dX6_init_123 rfl (lv_at hl 0 rfl) ?_
  refine lv_bipush (pc := 124) (v := 6) hx hb dX6_init_124 (by decide) ?_
  refine k_newi (pc := 126) hx hb hts hK hP hD hS hA 0 rfl 6 (by decide) (by decide) (by decide) (Nat.le_of_ble_eq_true rfl) (Nat.le_of_ble_eq_true rfl) dX6_init_126 (fun q61 H hP hD hS => ?_)
  obtain ⟨T15, eT15⟩ : ∃ T : va_W, T = T14 ++ [(q61, .inl (cI, 6, .inl (fun _ => 0)))] := ⟨_, rfl⟩
  rw [show ((h0, .inr (6, [.ref q1, .ref q17, .int 0, .ref q33, .ref q40, .ref q47, .ref q50, .ref q52, .null])) :: (q52, .inl (cS, 4, .inr (.inr (.inr (.inr (va_up (va_up (va_up (va_up (fun _ => none) (0 : Int32).toNatClampNeg (some q53)) (1 : Int32).toNatClampNeg (some q55)) (2 : Int32).toNatClampNeg (some q57)) (3 : Int32).toNatClampNeg (some q59))))))) :: T14) ++ [(q61, .inl (cI, 6, .inl (fun _ => 0)))] = (h0, .inr (6, [.ref q1, .ref q17, .int 0, .ref q33, .ref q40, .ref q47, .ref q50, .ref q52, .null])) :: (q52, .inl (cS, 4, .inr (.inr (.inr (.inr (va_up (va_up (va_up (va_up (fun _ => none) (0 : Int32).toNatClampNeg (some q53)) (1 : Int32).toNatClampNeg (some q55)) (2 : Int32).toNatClampNeg (some q57)) (3 : Int32).toNatClampNeg (some q59))))))) :: T15 from by rw [eT15]; rfl] at hP hD
  have hP : va_P D vwCl ((h0, .inr (6, [.ref q1, .ref q17, .int 0, .ref q33, .ref q40, .ref q47, .ref q50, .ref q52, .null])) :: (q52, .inl (cS, 4, .inr (.inr (.inr (.inr (va_up (va_up (va_up (va_up (fun _ => none) (0 : Int32).toNatClampNeg (some q53)) (1 : Int32).toNatClampNeg (some q55)) (2 : Int32).toNatClampNeg (some q57)) (3 : Int32).toNatClampNeg (some q59))))))) :: T15) H := hP
  have hD : va_D A ((h0, .inr (6, [.ref q1, .ref q17, .int 0, .ref q33, .ref q40, .ref q47, .ref q50, .ref q52, .null])) :: (q52, .inl (cS, 4, .inr (.inr (.inr (.inr (va_up (va_up (va_up (va_up (fun _ => none) (0 : Int32).toNatClampNeg (some q53)) (1 : Int32).toNatClampNeg (some q55)) (2 : Int32).toNatClampNeg (some q57)) (3 : Int32).toNatClampNeg (some q59))))))) :: T15) := hD
  refine va_putF (pc := 128) hx hb hts uwX6 tyX6 tyX6_ok nmX6 hown hK hP hD hS 0 rfl rfl 8 (by decide) (hts _ wd_209) (fun _ h => h) rfl hin rfl (tyX6_ok 8 (by decide)) rfl rfl (Nat.le_of_ble_eq_true rfl) dX6_init_128 (fun H locs hP hD hS => ?_)
  have hP : va_P D vwCl ((h0, .inr (6, [.ref q1, .ref q17, .int 0, .ref q33, .ref q40, .ref q47, .ref q50, .ref q52, .ref q61])) :: (q52, .inl (cS, 4, .inr (.inr (.inr (.inr (va_up (va_up (va_up (va_up (fun _ => none) (0 : Int32).toNatClampNeg (some q53)) (1 : Int32).toNatClampNeg (some q55)) (2 : Int32).toNatClampNeg (some q57)) (3 : Int32).toNatClampNeg (some q59))))))) :: T15) H := hP
  have hD : va_D A ((h0, .inr (6, [.ref q1, .ref q17, .int 0, .ref q33, .ref q40, .ref q47, .ref q50, .ref q52, .ref q61])) :: (q52, .inl (cS, 4, .inr (.inr (.inr (.inr (va_up (va_up (va_up (va_up (fun _ => none) (0 : Int32).toNatClampNeg (some q53)) (1 : Int32).toNatClampNeg (some q55)) (2 : Int32).toNatClampNeg (some q57)) (3 : Int32).toNatClampNeg (some q59))))))) :: T15) := hD
  subst hAe
  rw [eT15, eT14, eT13, eT12, eT11, eT10, eT9, eT8, eT7, eT6, eT5, eT4, eT3, eT2, eT1, eT0] at hP hD
  exact k_ret (pc := 131) hC hS (fun t ht => ⟨q52, q59, q57, q55, q53, q1, q2, q3, q4, q5, q6, q7, q8, q9, q10, q11, q12, q13, q14, q15, q16, q17, q18, q19, q20, q21, q22, q23, q24, q25, q26, q27, q28, q29, q30, q31, q32, q33, q34, q35, q36, q37, q38, q39, q40, q41, q42, q43, q44, q45, q46, q47, q48, q49, q50, q51, q54, q56, q58, q60, q61, by rw [ht]; exact hP, hD⟩) dX6_init_131
