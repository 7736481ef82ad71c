theorem dv_X0 : ∀ j, j < 7 → defaultValue (tyX0 j) = vp_V [.int 0, .null, .null, .null, .null, .null, .null] j := fun j hj => by
  match j, hj with
  | 0, _ => rfl
  | 1, _ => rfl
  | 2, _ => rfl
  | 3, _ => rfl
  | 4, _ => rfl
  | 5, _ => rfl
  | 6, _ => rfl
  | k + 7, h => omega
theorem dv_X1 : ∀ j, j < 9 → defaultValue (tyX1 j) = vp_V [.null, .null, .null, .null, .int 0, .null, .int 0, .int 0, .int 0] j := fun j hj => by
  match j, hj with
  | 0, _ => rfl
  | 1, _ => rfl
  | 2, _ => rfl
  | 3, _ => rfl
  | 4, _ => rfl
  | 5, _ => rfl
  | 6, _ => rfl
  | 7, _ => rfl
  | 8, _ => rfl
  | k + 9, h => omega
theorem dv_X2 : ∀ j, j < 4 → defaultValue (tyX2 j) = vp_V [.int 0, .int 0, .null, .null] j := fun j hj => by
  match j, hj with
  | 0, _ => rfl
  | 1, _ => rfl
  | 2, _ => rfl
  | 3, _ => rfl
  | k + 4, h => omega
theorem dv_X3 : ∀ j, j < 6 → defaultValue (tyX3 j) = vp_V [.null, .int 0, .int 0, .int 0, .int 0, .null] j := fun j hj => by
  match j, hj with
  | 0, _ => rfl
  | 1, _ => rfl
  | 2, _ => rfl
  | 3, _ => rfl
  | 4, _ => rfl
  | 5, _ => rfl
  | k + 6, h => omega
theorem dv_X4 : ∀ j, j < 3 → defaultValue (tyX4 j) = vp_V [.int 0, .int 0, .null] j := fun j hj => by
  match j, hj with
  | 0, _ => rfl
  | 1, _ => rfl
  | 2, _ => rfl
  | k + 3, h => omega
theorem dv_X5 : ∀ j, j < 5 → defaultValue (tyX5 j) = vp_V [.int 0, .int 0, .int 0, .int 0, .null] j := fun j hj => by
  match j, hj with
  | 0, _ => rfl
  | 1, _ => rfl
  | 2, _ => rfl
  | 3, _ => rfl
  | 4, _ => rfl
  | k + 5, h => omega
theorem dv_X6 : ∀ j, j < 9 → defaultValue (tyX6 j) = vp_V [.null, .null, .int 0, .null, .null, .null, .null, .null, .null] j := fun j hj => by
  match j, hj with
  | 0, _ => rfl
  | 1, _ => rfl
  | 2, _ => rfl
  | 3, _ => rfl
  | 4, _ => rfl
  | 5, _ => rfl
  | 6, _ => rfl
  | 7, _ => rfl
  | 8, _ => rfl
  | k + 9, h => omega
theorem dv_X7 : ∀ j, j < 24 → defaultValue (tyX7 j) = vp_V [.null, .null, .null, .int 0, .null, .null, .null, .int 0, .int 0, .int 0, .int 0, .null, .int 0, .null, .null, .null, .int 0, .int 0, .int 0, .int 0, .null, .null, .null, .null] j := fun j hj => by
  match j, hj with
  | 0, _ => rfl
  | 1, _ => rfl
  | 2, _ => rfl
  | 3, _ => rfl
  | 4, _ => rfl
  | 5, _ => rfl
  | 6, _ => rfl
  | 7, _ => rfl
  | 8, _ => rfl
  | 9, _ => rfl
  | 10, _ => rfl
  | 11, _ => rfl
  | 12, _ => rfl
  | 13, _ => rfl
  | 14, _ => rfl
  | 15, _ => rfl
  | 16, _ => rfl
  | 17, _ => rfl
  | 18, _ => rfl
  | 19, _ => rfl
  | 20, _ => rfl
  | 21, _ => rfl
  | 22, _ => rfl
  | 23, _ => rfl
  | k + 24, h => omega
theorem k_any {s : State} {H : Heap} {locs : List Loc} {A : Nat → Prop} {a : Nat} (h : va_O "java/lang/String" a A s s.heap) (hS : va_S A s.heap H locs) : va_Any "java/lang/String" s H a := by
  obtain ⟨cell, h1, h2, h3, h4⟩ := h.kept hS.2.1
  obtain ⟨kC, hkC, -⟩ := Vm.findClass_spec h3
  exact ⟨cell, h1, h2, ⟨kC, hkC⟩, fun comp hc => by rw [Option.some.inj (h3.symm.trans hc)]; exact va_asg _ _⟩
set_option maxRecDepth 100000 in
set_option maxHeartbeats 8000000 in
theorem kX_X0 {l : Launch} {D : va_G} {cI cB cS : ClassId} (h0 sz : Nat) : kM l D (xTy cI cB cS) kN yX0_init cX0_init 1 1 6 42 [.ref h0] [(h0, .inr (0, [.int 0, .null, .null, .null, .null, .null, .null]))] sz (fun t => ∃ q1 q2 q3 q4 q5 q6 : Nat, va_P D vwCl [(h0, .inr (0, [.int 0, .ref q1, .ref q2, .ref q3, .ref q4, .ref q5, .ref q6])), (q1, .inl (cI, 7, .inl (fun _ => 0))), (q2, .inl (cI, 7, .inl (fun _ => 0))), (q3, .inl (cI, 7, .inl (fun _ => 0))), (q4, .inl (cI, 7, .inl (fun _ => 0))), (q5, .inl (cI, 7, .inl (fun _ => 0))), (q6, .inl (cI, 7, .inl (fun _ => 0)))] t.heap ∧ va_D (va_A [(h0, .inr (0, [.int 0, .null, .null, .null, .null, .null, .null]))] sz) [(h0, .inr (0, [.int 0, .ref q1, .ref q2, .ref q3, .ref q4, .ref q5, .ref q6])), (q1, .inl (cI, 7, .inl (fun _ => 0))), (q2, .inl (cI, 7, .inl (fun _ => 0))), (q3, .inl (cI, 7, .inl (fun _ => 0))), (q4, .inl (cI, 7, .inl (fun _ => 0))), (q5, .inl (cI, 7, .inl (fun _ => 0))), (q6, .inl (cI, 7, .inl (fun _ => 0)))]) := by
  refine k_entry (by decide) rfl (Nat.le_of_ble_eq_true rfl) (fun p e s m below meth c ls A hsz hAe hC hP hD hA hl => ?_)
  subst hsz
  have hx := hC.1
  have hb := hC.2.1
  have hml := hC.2.2.1
  have hown := hC.2.2.2.1
  have hts := hC.2.2.2.2.1
  have hK := hC.2.2.2.2.2.2.2.1
  have hin := hC.2.2.2.2.2.2.2.2.1
  have hE := hC.2.2.2.2.2.2.2.2.2
  have hS : va_S A s.heap s.heap [] := va_S.rf
  have hl : lv_has ls 1 [(0, .ref h0)] := hl
  refine lv_aload_n (pc := 0) hx hb dX0_init_0 rfl (lv_at hl 0 rfl) ?_
  refine W.objInit (g := F0 m 1 ls [.ref h0]) hx hb hown (hts _ wd_34) (hts _ wd_21) (hts _ wd_22) rfl (by rw [hml]; exact hl.1) rfl dX0_init_1 (Nat.le_of_ble_eq_true rfl) (Nat.le_of_ble_eq_true rfl) ?_
  refine W.eq (g2 := F0 m 4 ls []) rfl ?_
  refine lv_aload_n (pc := 4) hx hb dX0_init_4 rfl (lv_at hl 0 rfl) ?_
  refine lv_iconst (pc := 5) (v := 0) hx hb dX0_init_5 (by decide) ?_
  refine va_put (pc := 6) hx hb hts uwX0 tyX0 tyX0_ok nmX0 hown hK hP hD hS 0 rfl rfl 0 (by decide) (hts _ wd_35) (fun _ h => h) rfl (tyX0_ok 0 (by decide)) rfl rfl (Nat.le_of_ble_eq_true rfl) dX0_init_6 (fun H locs hP hD hS => ?_)
  have hP : va_P D vwCl [(h0, .inr (0, [.int 0, .null, .null, .null, .null, .null, .null]))] H := hP
  have hD : va_D A [(h0, .inr (0, [.int 0, .null, .null, .null, .null, .null, .null]))] := hD
  refine lv_aload_n (pc := 9) hx hb dX0_init_9 rfl (lv_at hl 0 rfl) ?_
  refine lv_bipush (pc := 10) (v := 7) hx hb dX0_init_10 (by decide) ?_
  refine k_newi (pc := 12) hx hb hts hK hP hD hS hA 0 rfl 7 (by decide) (by decide) (by decide) (Nat.le_of_ble_eq_true rfl) (Nat.le_of_ble_eq_true rfl) dX0_init_12 (fun q1 H hP hD hS => ?_)
  have hP : va_P D vwCl [(h0, .inr (0, [.int 0, .null, .null, .null, .null, .null, .null])), (q1, .inl (cI, 7, .inl (fun _ => 0)))] H := hP
  have hD : va_D A [(h0, .inr (0, [.int 0, .null, .null, .null, .null, .null, .null])), (q1, .inl (cI, 7, .inl (fun _ => 0)))] := hD
  refine va_putF (pc := 14) hx hb hts uwX0 tyX0 tyX0_ok nmX0 hown hK hP hD hS 0 rfl rfl 1 (by decide) (hts _ wd_39) (fun _ h => h) rfl hin rfl (tyX0_ok 1 (by decide)) rfl rfl (Nat.le_of_ble_eq_true rfl) dX0_init_14 (fun H locs hP hD hS => ?_)
  have hP : va_P D vwCl [(h0, .inr (0, [.int 0, .ref q1, .null, .null, .null, .null, .null])), (q1, .inl (cI, 7, .inl (fun _ => 0)))] H := hP
  have hD : va_D A [(h0, .inr (0, [.int 0, .ref q1, .null, .null, .null, .null, .null])), (q1, .inl (cI, 7, .inl (fun _ => 0)))] := hD
  refine lv_aload_n (pc := 17) hx hb dX0_init_17 rfl (lv_at hl 0 rfl) ?_
  refine lv_bipush (pc := 18) (v := 7) hx hb dX0_init_18 (by decide) ?_
  refine k_newi (pc := 20) hx hb hts hK hP hD hS hA 0 rfl 7 (by decide) (by decide) (by decide) (Nat.le_of_ble_eq_true rfl) (Nat.le_of_ble_eq_true rfl) dX0_init_20 (fun q2 H hP hD hS => ?_)
  have hP : va_P D vwCl [(h0, .inr (0, [.int 0, .ref q1, .null, .null, .null, .null, .null])), (q1, .inl (cI, 7, .inl (fun _ => 0))), (q2, .inl (cI, 7, .inl (fun _ => 0)))] H := hP
  have hD : va_D A [(h0, .inr (0, [.int 0, .ref q1, .null, .null, .null, .null, .null])), (q1, .inl (cI, 7, .inl (fun _ => 0))), (q2, .inl (cI, 7, .inl (fun _ => 0)))] := hD
  refine va_putF (pc := 22) hx hb hts uwX0 tyX0 tyX0_ok nmX0 hown hK hP hD hS 0 rfl rfl 2 (by decide) (hts _ wd_41) (fun _ h => h) rfl hin rfl (tyX0_ok 2 (by decide)) rfl rfl (Nat.le_of_ble_eq_true rfl) dX0_init_22 (fun H locs hP hD hS => ?_)
  have hP : va_P D vwCl [(h0, .inr (0, [.int 0, .ref q1, .ref q2, .null, .null, .null, .null])), (q1, .inl (cI, 7, .inl (fun _ => 0))), (q2, .inl (cI, 7, .inl (fun _ => 0)))] H := hP
  have hD : va_D A [(h0, .inr (0, [.int 0, .ref q1, .ref q2, .null, .null, .null, .null])), (q1, .inl (cI, 7, .inl (fun _ => 0))), (q2, .inl (cI, 7, .inl (fun _ => 0)))] := hD
  refine lv_aload_n (pc := 25) hx hb dX0_init_25 rfl (lv_at hl 0 rfl) ?_
  refine lv_bipush (pc := 26) (v := 7) hx hb dX0_init_26 (by decide) ?_
  refine k_newi (pc := 28) hx hb hts hK hP hD hS hA 0 rfl 7 (by decide) (by decide) (by decide) (Nat.le_of_ble_eq_true rfl) (Nat.le_of_ble_eq_true rfl) dX0_init_28 (fun q3 H hP hD hS => ?_)
  have hP : va_P D vwCl [(h0, .inr (0, [.int 0, .ref q1, .ref q2, .null, .null, .null, .null])), (q1, .inl (cI, 7, .inl (fun _ => 0))), (q2, .inl (cI, 7, .inl (fun _ => 0))), (q3, .inl (cI, 7, .inl (fun _ => 0)))] H := hP
  have hD : va_D A [(h0, .inr (0, [.int 0, .ref q1, .ref q2, .null, .null, .null, .null])), (q1, .inl (cI, 7, .inl (fun _ => 0))), (q2, .inl (cI, 7, .inl (fun _ => 0))), (q3, .inl (cI, 7, .inl (fun _ => 0)))] := hD
  refine va_putF (pc := 30) hx hb hts uwX0 tyX0 tyX0_ok nmX0 hown hK hP hD hS 0 rfl rfl 3 (by decide) (hts _ wd_43) (fun _ h => h) rfl hin rfl (tyX0_ok 3 (by decide)) rfl rfl (Nat.le_of_ble_eq_true rfl) dX0_init_30 (fun H locs hP hD hS => ?_)
  have hP : va_P D vwCl [(h0, .inr (0, [.int 0, .ref q1, .ref q2, .ref q3, .null, .null, .null])), (q1, .inl (cI, 7, .inl (fun _ => 0))), (q2, .inl (cI, 7, .inl (fun _ => 0))), (q3, .inl (cI, 7, .inl (fun _ => 0)))] H := hP
  have hD : va_D A [(h0, .inr (0, [.int 0, .ref q1, .ref q2, .ref q3, .null, .null, .null])), (q1, .inl (cI, 7, .inl (fun _ => 0))), (q2, .inl (cI, 7, .inl (fun _ => 0))), (q3, .inl (cI, 7, .inl (fun _ => 0)))] := hD
  refine lv_aload_n (pc := 33) hx hb dX0_init_33 rfl (lv_at hl 0 rfl) ?_
  refine lv_bipush (pc := 34) (v := 7) hx hb dX0_init_34 (by decide) ?_
  refine k_newi (pc := 36) hx hb hts hK hP hD hS hA 0 rfl 7 (by decide) (by decide) (by decide) (Nat.le_of_ble_eq_true rfl) (Nat.le_of_ble_eq_true rfl) dX0_init_36 (fun q4 H hP hD hS => ?_)
  have hP : va_P D vwCl [(h0, .inr (0, [.int 0, .ref q1, .ref q2, .ref q3, .null, .null, .null])), (q1, .inl (cI, 7, .inl (fun _ => 0))), (q2, .inl (cI, 7, .inl (fun _ => 0))), (q3, .inl (cI, 7, .inl (fun _ => 0))), (q4, .inl (cI, 7, .inl (fun _ => 0)))] H := hP
  have hD : va_D A [(h0, .inr (0, [.int 0, .ref q1, .ref q2, .ref q3, .null, .null, .null])), (q1, .inl (cI, 7, .inl (fun _ => 0))), (q2, .inl (cI, 7, .inl (fun _ => 0))), (q3, .inl (cI, 7, .inl (fun _ => 0))), (q4, .inl (cI, 7, .inl (fun _ => 0)))] := hD
  refine va_putF (pc := 38) hx hb hts uwX0 tyX0 tyX0_ok nmX0 hown hK hP hD hS 0 rfl rfl 4 (by decide) (hts _ wd_46) (fun _ h => h) rfl hin rfl (tyX0_ok 4 (by decide)) rfl rfl (Nat.le_of_ble_eq_true rfl) dX0_init_38 (fun H locs hP hD hS => ?_)
  have hP : va_P D vwCl [(h0, .inr (0, [.int 0, .ref q1, .ref q2, .ref q3, .ref q4, .null, .null])), (q1, .inl (cI, 7, .inl (fun _ => 0))), (q2, .inl (cI, 7, .inl (fun _ => 0))), (q3, .inl (cI, 7, .inl (fun _ => 0))), (q4, .inl (cI, 7, .inl (fun _ => 0)))] H := hP
  have hD : va_D A [(h0, .inr (0, [.int 0, .ref q1, .ref q2, .ref q3, .ref q4, .null, .null])), (q1, .inl (cI, 7, .inl (fun _ => 0))), (q2, .inl (cI, 7, .inl (fun _ => 0))), (q3, .inl (cI, 7, .inl (fun _ => 0))), (q4, .inl (cI, 7, .inl (fun _ => 0)))] := hD
  refine lv_aload_n (pc := 41) hx hb dX0_init_41 rfl (lv_at hl 0 rfl) ?_
  refine lv_bipush (pc := 42) (v := 7) hx hb dX0_init_42 (by decide) ?_
  refine k_newi (pc := 44) hx hb hts hK hP hD hS hA 0 rfl 7 (by decide) (by decide) (by decide) (Nat.le_of_ble_eq_true rfl) (Nat.le_of_ble_eq_true rfl) dX0_init_44 (fun q5 H hP hD hS => ?_)
  have hP : va_P D vwCl [(h0, .inr (0, [.int 0, .ref q1, .ref q2, .ref q3, .ref q4, .null, .null])), (q1, .inl (cI, 7, .inl (fun _ => 0))), (q2, .inl (cI, 7, .inl (fun _ => 0))), (q3, .inl (cI, 7, .inl (fun _ => 0))), (q4, .inl (cI, 7, .inl (fun _ => 0))), (q5, .inl (cI, 7, .inl (fun _ => 0)))] H := hP
  have hD : va_D A [(h0, .inr (0, [.int 0, .ref q1, .ref q2, .ref q3, .ref q4, .null, .null])), (q1, .inl (cI, 7, .inl (fun _ => 0))), (q2, .inl (cI, 7, .inl (fun _ => 0))), (q3, .inl (cI, 7, .inl (fun _ => 0))), (q4, .inl (cI, 7, .inl (fun _ => 0))), (q5, .inl (cI, 7, .inl (fun _ => 0)))] := hD
  refine va_putF (pc := 46) hx hb hts uwX0 tyX0 tyX0_ok nmX0 hown hK hP hD hS 0 rfl rfl 5 (by decide) (hts _ wd_48) (fun _ h => h) rfl hin rfl (tyX0_ok 5 (by decide)) rfl rfl (Nat.le_of_ble_eq_true rfl) dX0_init_46 (fun H locs hP hD hS => ?_)
  have hP : va_P D vwCl [(h0, .inr (0, [.int 0, .ref q1, .ref q2, .ref q3, .ref q4, .ref q5, .null])), (q1, .inl (cI, 7, .inl (fun _ => 0))), (q2, .inl (cI, 7, .inl (fun _ => 0))), (q3, .inl (cI, 7, .inl (fun _ => 0))), (q4, .inl (cI, 7, .inl (fun _ => 0))), (q5, .inl (cI, 7, .inl (fun _ => 0)))] H := hP
  have hD : va_D A [(h0, .inr (0, [.int 0, .ref q1, .ref q2, .ref q3, .ref q4, .ref q5, .null])), (q1, .inl (cI, 7, .inl (fun _ => 0))), (q2, .inl (cI, 7, .inl (fun _ => 0))), (q3, .inl (cI, 7, .inl (fun _ => 0))), (q4, .inl (cI, 7, .inl (fun _ => 0))), (q5, .inl (cI, 7, .inl (fun _ => 0)))] := hD
  refine lv_aload_n (pc := 49) hx hb dX0_init_49 rfl (lv_at hl 0 rfl) ?_
  refine lv_bipush (pc := 50) (v := 7) hx hb dX0_init_50 (by decide) ?_
  refine k_newi (pc := 52) hx hb hts hK hP hD hS hA 0 rfl 7 (by decide) (by decide) (by decide) (Nat.le_of_ble_eq_true rfl) (Nat.le_of_ble_eq_true rfl) dX0_init_52 (fun q6 H hP hD hS => ?_)
  have hP : va_P D vwCl [(h0, .inr (0, [.int 0, .ref q1, .ref q2, .ref q3, .ref q4, .ref q5, .null])), (q1, .inl (cI, 7, .inl (fun _ => 0))), (q2, .inl (cI, 7, .inl (fun _ => 0))), (q3, .inl (cI, 7, .inl (fun _ => 0))), (q4, .inl (cI, 7, .inl (fun _ => 0))), (q5, .inl (cI, 7, .inl (fun _ => 0))), (q6, .inl (cI, 7, .inl (fun _ => 0)))] H := hP
  have hD : va_D A [(h0, .inr (0, [.int 0, .ref q1, .ref q2, .ref q3, .ref q4, .ref q5, .null])), (q1, .inl (cI, 7, .inl (fun _ => 0))), (q2, .inl (cI, 7, .inl (fun _ => 0))), (q3, .inl (cI, 7, .inl (fun _ => 0))), (q4, .inl (cI, 7, .inl (fun _ => 0))), (q5, .inl (cI, 7, .inl (fun _ => 0))), (q6, .inl (cI, 7, .inl (fun _ => 0)))] := hD
  refine va_putF (pc := 54) hx hb hts uwX0 tyX0 tyX0_ok nmX0 hown hK hP hD hS 0 rfl rfl 6 (by decide) (hts _ wd_50) (fun _ h => h) rfl hin rfl (tyX0_ok 6 (by decide)) rfl rfl (Nat.le_of_ble_eq_true rfl) dX0_init_54 (fun H locs hP hD hS => ?_)
  have hP : va_P D vwCl [(h0, .inr (0, [.int 0, .ref q1, .ref q2, .ref q3, .ref q4, .ref q5, .ref q6])), (q1, .inl (cI, 7, .inl (fun _ => 0))), (q2, .inl (cI, 7, .inl (fun _ => 0))), (q3, .inl (cI, 7, .inl (fun _ => 0))), (q4, .inl (cI, 7, .inl (fun _ => 0))), (q5, .inl (cI, 7, .inl (fun _ => 0))), (q6, .inl (cI, 7, .inl (fun _ => 0)))] H := hP
  have hD : va_D A [(h0, .inr (0, [.int 0, .ref q1, .ref q2, .ref q3, .ref q4, .ref q5, .ref q6])), (q1, .inl (cI, 7, .inl (fun _ => 0))), (q2, .inl (cI, 7, .inl (fun _ => 0))), (q3, .inl (cI, 7, .inl (fun _ => 0))), (q4, .inl (cI, 7, .inl (fun _ => 0))), (q5, .inl (cI, 7, .inl (fun _ => 0))), (q6, .inl (cI, 7, .inl (fun _ => 0)))] := hD
  have hP9 := hP.sub (ws' := [(h0, .inr (0, [.int 0, .ref q1, .ref q2, .ref q3, .ref q4, .ref q5, .ref q6])), (q1, .inl (cI, 7, .inl (fun _ => 0))), (q2, .inl (cI, 7, .inl (fun _ => 0))), (q3, .inl (cI, 7, .inl (fun _ => 0))), (q4, .inl (cI, 7, .inl (fun _ => 0))), (q5, .inl (cI, 7, .inl (fun _ => 0))), (q6, .inl (cI, 7, .inl (fun _ => 0)))]) [0, 1, 2, 3, 4, 5, 6] rfl
  have hD9 := hD.sub (ws' := [(h0, .inr (0, [.int 0, .ref q1, .ref q2, .ref q3, .ref q4, .ref q5, .ref q6])), (q1, .inl (cI, 7, .inl (fun _ => 0))), (q2, .inl (cI, 7, .inl (fun _ => 0))), (q3, .inl (cI, 7, .inl (fun _ => 0))), (q4, .inl (cI, 7, .inl (fun _ => 0))), (q5, .inl (cI, 7, .inl (fun _ => 0))), (q6, .inl (cI, 7, .inl (fun _ => 0)))]) [0, 1, 2, 3, 4, 5, 6] (by decide) rfl
  subst hAe
  exact k_ret (pc := 57) hC hS (fun t ht => ⟨q1, q2, q3, q4, q5, q6, by rw [ht]; exact hP9, hD9⟩) dX0_init_57
set_option maxRecDepth 100000 in
set_option maxHeartbeats 8000000 in
theorem kX_X2 {l : Launch} {D : va_G} {cI cB cS : ClassId} (h0 sz : Nat) (u : Int32) : kM l D (xTy cI cB cS) kN yX2_init cX2_init 2 1 2 100 [.ref h0, .int u] [(h0, .inr (2, [.int 0, .int 0, .null, .null]))] sz (fun t => ∃ q1 q2 : Nat, va_P D vwCl [(h0, .inr (2, [.int u, .int 0, .ref q1, .ref q2])), (q1, .inl (cI, 50, .inl (fun _ => 0))), (q2, .inl (cI, 50, .inl (fun _ => 0)))] t.heap ∧ va_D (va_A [(h0, .inr (2, [.int 0, .int 0, .null, .null]))] sz) [(h0, .inr (2, [.int u, .int 0, .ref q1, .ref q2])), (q1, .inl (cI, 50, .inl (fun _ => 0))), (q2, .inl (cI, 50, .inl (fun _ => 0)))]) := by
  refine k_entry (by decide) rfl (Nat.le_of_ble_eq_true rfl) (fun p e s m below meth c ls A hsz hAe hC hP hD hA hl => ?_)
  subst hsz
  have hx := hC.1
  have hb := hC.2.1
  have hml := hC.2.2.1
  have hown := hC.2.2.2.1
  have hts := hC.2.2.2.2.1
  have hK := hC.2.2.2.2.2.2.2.1
  have hin := hC.2.2.2.2.2.2.2.2.1
  have hE := hC.2.2.2.2.2.2.2.2.2
  have hS : va_S A s.heap s.heap [] := va_S.rf
  have hl : lv_has ls 2 [(0, .ref h0), (1, .int u)] := hl
  refine lv_aload_n (pc := 0) hx hb dX2_init_0 rfl (lv_at hl 0 rfl) ?_
  refine W.objInit (g := F0 m 1 ls [.ref h0]) hx hb hown (hts _ wd_73) (hts _ wd_21) (hts _ wd_22) rfl (by rw [hml]; exact hl.1) rfl dX2_init_1 (Nat.le_of_ble_eq_true rfl) (Nat.le_of_ble_eq_true rfl) ?_
  refine W.eq (g2 := F0 m 4 ls []) rfl ?_
  refine lv_aload_n (pc := 4) hx hb dX2_init_4 rfl (lv_at hl 0 rfl) ?_
  refine lv_iconst (pc := 5) (v := 0) hx hb dX2_init_5 (by decide) ?_
  refine va_put (pc := 6) hx hb hts uwX2 tyX2 tyX2_ok nmX2 hown hK hP hD hS 0 rfl rfl 1 (by decide) (hts _ wd_75) (fun _ h => h) rfl (tyX2_ok 1 (by decide)) rfl rfl (Nat.le_of_ble_eq_true rfl) dX2_init_6 (fun H locs hP hD hS => ?_)
  have hP : va_P D vwCl [(h0, .inr (2, [.int 0, .int 0, .null, .null]))] H := hP
  have hD : va_D A [(h0, .inr (2, [.int 0, .int 0, .null, .null]))] := hD
  refine lv_aload_n (pc := 9) hx hb dX2_init_9 rfl (lv_at hl 0 rfl) ?_
  refine lv_bipush (pc := 10) (v := 50) hx hb dX2_init_10 (by decide) ?_
  refine k_newi (pc := 12) hx hb hts hK hP hD hS hA 0 rfl 50 (by decide) (by decide) (by decide) (Nat.le_of_ble_eq_true rfl) (Nat.le_of_ble_eq_true rfl) dX2_init_12 (fun q1 H hP hD hS => ?_)
  have hP : va_P D vwCl [(h0, .inr (2, [.int 0, .int 0, .null, .null])), (q1, .inl (cI, 50, .inl (fun _ => 0)))] H := hP
  have hD : va_D A [(h0, .inr (2, [.int 0, .int 0, .null, .null])), (q1, .inl (cI, 50, .inl (fun _ => 0)))] := hD
  refine va_putF (pc := 14) hx hb hts uwX2 tyX2 tyX2_ok nmX2 hown hK hP hD hS 0 rfl rfl 2 (by decide) (hts _ wd_77) (fun _ h => h) rfl hin rfl (tyX2_ok 2 (by decide)) rfl rfl (Nat.le_of_ble_eq_true rfl) dX2_init_14 (fun H locs hP hD hS => ?_)
  have hP : va_P D vwCl [(h0, .inr (2, [.int 0, .int 0, .ref q1, .null])), (q1, .inl (cI, 50, .inl (fun _ => 0)))] H := hP
  have hD : va_D A [(h0, .inr (2, [.int 0, .int 0, .ref q1, .null])), (q1, .inl (cI, 50, .inl (fun _ => 0)))] := hD
  refine lv_aload_n (pc := 17) hx hb dX2_init_17 rfl (lv_at hl 0 rfl) ?_
  refine lv_bipush (pc := 18) (v := 50) hx hb dX2_init_18 (by decide) ?_
  refine k_newi (pc := 20) hx hb hts hK hP hD hS hA 0 rfl 50 (by decide) (by decide) (by decide) (Nat.le_of_ble_eq_true rfl) (Nat.le_of_ble_eq_true rfl) dX2_init_20 (fun q2 H hP hD hS => ?_)
  have hP : va_P D vwCl [(h0, .inr (2, [.int 0, .int 0, .ref q1, .null])), (q1, .inl (cI, 50, .inl (fun _ => 0))), (q2, .inl (cI, 50, .inl (fun _ => 0)))] H := hP
  have hD : va_D A [(h0, .inr (2, [.int 0, .int 0, .ref q1, .null])), (q1, .inl (cI, 50, .inl (fun _ => 0))), (q2, .inl (cI, 50, .inl (fun _ => 0)))] := hD
  refine va_putF (pc := 22) hx hb hts uwX2 tyX2 tyX2_ok nmX2 hown hK hP hD hS 0 rfl rfl 3 (by decide) (hts _ wd_79) (fun _ h => h) rfl hin rfl (tyX2_ok 3 (by decide)) rfl rfl (Nat.le_of_ble_eq_true rfl) dX2_init_22 (fun H locs hP hD hS => ?_)
  have hP : va_P D vwCl [(h0, .inr (2, [.int 0, .int 0, .ref q1, .ref q2])), (q1, .inl (cI, 50, .inl (fun _ => 0))), (q2, .inl (cI, 50, .inl (fun _ => 0)))] H := hP
  have hD : va_D A [(h0, .inr (2, [.int 0, .int 0, .ref q1, .ref q2])), (q1, .inl (cI, 50, .inl (fun _ => 0))), (q2, .inl (cI, 50, .inl (fun _ => 0)))] := hD
  refine lv_aload_n (pc := 25) hx hb dX2_init_25 rfl (lv_at hl 0 rfl) ?_
  refine lv_iload_n (pc := 26) hx hb dX2_init_26 rfl (lv_at hl 1 rfl) ?_
  refine va_putF (pc := 27) hx hb hts uwX2 tyX2 tyX2_ok nmX2 hown hK hP hD hS 0 rfl rfl 0 (by decide) (hts _ wd_74) (fun _ h => h) rfl hin rfl (tyX2_ok 0 (by decide)) rfl rfl (Nat.le_of_ble_eq_true rfl) dX2_init_27 (fun H locs hP hD hS => ?_)
  have hP : va_P D vwCl [(h0, .inr (2, [.int u, .int 0, .ref q1, .ref q2])), (q1, .inl (cI, 50, .inl (fun _ => 0))), (q2, .inl (cI, 50, .inl (fun _ => 0)))] H := hP
  have hD : va_D A [(h0, .inr (2, [.int u, .int 0, .ref q1, .ref q2])), (q1, .inl (cI, 50, .inl (fun _ => 0))), (q2, .inl (cI, 50, .inl (fun _ => 0)))] := hD
  have hP9 := hP.sub (ws' := [(h0, .inr (2, [.int u, .int 0, .ref q1, .ref q2])), (q1, .inl (cI, 50, .inl (fun _ => 0))), (q2, .inl (cI, 50, .inl (fun _ => 0)))]) [0, 1, 2] rfl
  have hD9 := hD.sub (ws' := [(h0, .inr (2, [.int u, .int 0, .ref q1, .ref q2])), (q1, .inl (cI, 50, .inl (fun _ => 0))), (q2, .inl (cI, 50, .inl (fun _ => 0)))]) [0, 1, 2] (by decide) rfl
  subst hAe
  exact k_ret (pc := 30) hC hS (fun t ht => ⟨q1, q2, by rw [ht]; exact hP9, hD9⟩) dX2_init_30
set_option maxRecDepth 100000 in
set_option maxHeartbeats 8000000 in
theorem kX_X3 {l : Launch} {D : va_G} {cI cB cS : ClassId} (h0 sz : Nat) : kM l D (xTy cI cB cS) kN yX3_init cX3_init 1 1 2 100 [.ref h0] [(h0, .inr (3, [.null, .int 0, .int 0, .int 0, .int 0, .null]))] sz (fun t => ∃ q1 q2 : Nat, va_P D vwCl [(h0, .inr (3, [.ref q1, .int 0, .int 0, .int 0, .int 0, .ref q2])), (q1, .inl (cB, 50, .inl (fun _ => 0))), (q2, .inl (cI, 50, .inl (fun _ => 0)))] t.heap ∧ va_D (va_A [(h0, .inr (3, [.null, .int 0, .int 0, .int 0, .int 0, .null]))] sz) [(h0, .inr (3, [.ref q1, .int 0, .int 0, .int 0, .int 0, .ref q2])), (q1, .inl (cB, 50, .inl (fun _ => 0))), (q2, .inl (cI, 50, .inl (fun _ => 0)))]) := by
  refine k_entry (by decide) rfl (Nat.le_of_ble_eq_true rfl) (fun p e s m below meth c ls A hsz hAe hC hP hD hA hl => ?_)
  subst hsz
  have hx := hC.1
  have hb := hC.2.1
  have hml := hC.2.2.1
  have hown := hC.2.2.2.1
  have hts := hC.2.2.2.2.1
  have hK := hC.2.2.2.2.2.2.2.1
  have hin := hC.2.2.2.2.2.2.2.2.1
  have hE := hC.2.2.2.2.2.2.2.2.2
  have hS : va_S A s.heap s.heap [] := va_S.rf
  have hl : lv_has ls 1 [(0, .ref h0)] := hl
  refine lv_aload_n (pc := 0) hx hb dX3_init_0 rfl (lv_at hl 0 rfl) ?_
  refine W.objInit (g := F0 m 1 ls [.ref h0]) hx hb hown (hts _ wd_134) (hts _ wd_21) (hts _ wd_22) rfl (by rw [hml]; exact hl.1) rfl dX3_init_1 (Nat.le_of_ble_eq_true rfl) (Nat.le_of_ble_eq_true rfl) ?_
  refine W.eq (g2 := F0 m 4 ls []) rfl ?_
  refine lv_aload_n (pc := 4) hx hb dX3_init_4 rfl (lv_at hl 0 rfl) ?_
  refine lv_bipush (pc := 5) (v := 50) hx hb dX3_init_5 (by decide) ?_
  refine k_newb (pc := 7) hx hb hts hK hP hD hS hA 1 rfl 50 (by decide) (by decide) (by decide) (Nat.le_of_ble_eq_true rfl) (Nat.le_of_ble_eq_true rfl) dX3_init_7 (fun q1 H hP hD hS => ?_)
  have hP : va_P D vwCl [(h0, .inr (3, [.null, .int 0, .int 0, .int 0, .int 0, .null])), (q1, .inl (cB, 50, .inl (fun _ => 0)))] H := hP
  have hD : va_D A [(h0, .inr (3, [.null, .int 0, .int 0, .int 0, .int 0, .null])), (q1, .inl (cB, 50, .inl (fun _ => 0)))] := hD
  refine va_putF (pc := 9) hx hb hts uwX3 tyX3 tyX3_ok nmX3 hown hK hP hD hS 0 rfl rfl 0 (by decide) (hts _ wd_135) (fun _ h => h) rfl hin rfl (tyX3_ok 0 (by decide)) rfl rfl (Nat.le_of_ble_eq_true rfl) dX3_init_9 (fun H locs hP hD hS => ?_)
  have hP : va_P D vwCl [(h0, .inr (3, [.ref q1, .int 0, .int 0, .int 0, .int 0, .null])), (q1, .inl (cB, 50, .inl (fun _ => 0)))] H := hP
  have hD : va_D A [(h0, .inr (3, [.ref q1, .int 0, .int 0, .int 0, .int 0, .null])), (q1, .inl (cB, 50, .inl (fun _ => 0)))] := hD
  refine lv_aload_n (pc := 12) hx hb dX3_init_12 rfl (lv_at hl 0 rfl) ?_
  refine lv_iconst (pc := 13) (v := 0) hx hb dX3_init_13 (by decide) ?_
  refine va_put (pc := 14) hx hb hts uwX3 tyX3 tyX3_ok nmX3 hown hK hP hD hS 0 rfl rfl 1 (by decide) (hts _ wd_136) (fun _ h => h) rfl (tyX3_ok 1 (by decide)) rfl rfl (Nat.le_of_ble_eq_true rfl) dX3_init_14 (fun H locs hP hD hS => ?_)
  have hP : va_P D vwCl [(h0, .inr (3, [.ref q1, .int 0, .int 0, .int 0, .int 0, .null])), (q1, .inl (cB, 50, .inl (fun _ => 0)))] H := hP
  have hD : va_D A [(h0, .inr (3, [.ref q1, .int 0, .int 0, .int 0, .int 0, .null])), (q1, .inl (cB, 50, .inl (fun _ => 0)))] := hD
  refine lv_aload_n (pc := 17) hx hb dX3_init_17 rfl (lv_at hl 0 rfl) ?_
  refine lv_iconst (pc := 18) (v := 0) hx hb dX3_init_18 (by decide) ?_
  refine va_put (pc := 19) hx hb hts uwX3 tyX3 tyX3_ok nmX3 hown hK hP hD hS 0 rfl rfl 2 (by decide) (hts _ wd_137) (fun _ h => h) rfl (tyX3_ok 2 (by decide)) rfl rfl (Nat.le_of_ble_eq_true rfl) dX3_init_19 (fun H locs hP hD hS => ?_)
  have hP : va_P D vwCl [(h0, .inr (3, [.ref q1, .int 0, .int 0, .int 0, .int 0, .null])), (q1, .inl (cB, 50, .inl (fun _ => 0)))] H := hP
  have hD : va_D A [(h0, .inr (3, [.ref q1, .int 0, .int 0, .int 0, .int 0, .null])), (q1, .inl (cB, 50, .inl (fun _ => 0)))] := hD
  refine lv_aload_n (pc := 22) hx hb dX3_init_22 rfl (lv_at hl 0 rfl) ?_
  refine lv_iconst (pc := 23) (v := 0) hx hb dX3_init_23 (by decide) ?_
  refine va_put (pc := 24) hx hb hts uwX3 tyX3 tyX3_ok nmX3 hown hK hP hD hS 0 rfl rfl 3 (by decide) (hts _ wd_138) (fun _ h => h) rfl (tyX3_ok 3 (by decide)) rfl rfl (Nat.le_of_ble_eq_true rfl) dX3_init_24 (fun H locs hP hD hS => ?_)
  have hP : va_P D vwCl [(h0, .inr (3, [.ref q1, .int 0, .int 0, .int 0, .int 0, .null])), (q1, .inl (cB, 50, .inl (fun _ => 0)))] H := hP
  have hD : va_D A [(h0, .inr (3, [.ref q1, .int 0, .int 0, .int 0, .int 0, .null])), (q1, .inl (cB, 50, .inl (fun _ => 0)))] := hD
  refine lv_aload_n (pc := 27) hx hb dX3_init_27 rfl (lv_at hl 0 rfl) ?_
  refine lv_iconst (pc := 28) (v := 0) hx hb dX3_init_28 (by decide) ?_
  refine va_put (pc := 29) hx hb hts uwX3 tyX3 tyX3_ok nmX3 hown hK hP hD hS 0 rfl rfl 4 (by decide) (hts _ wd_140) (fun _ h => h) rfl (tyX3_ok 4 (by decide)) rfl rfl (Nat.le_of_ble_eq_true rfl) dX3_init_29 (fun H locs hP hD hS => ?_)
  have hP : va_P D vwCl [(h0, .inr (3, [.ref q1, .int 0, .int 0, .int 0, .int 0, .null])), (q1, .inl (cB, 50, .inl (fun _ => 0)))] H := hP
  have hD : va_D A [(h0, .inr (3, [.ref q1, .int 0, .int 0, .int 0, .int 0, .null])), (q1, .inl (cB, 50, .inl (fun _ => 0)))] := hD
  refine lv_aload_n (pc := 32) hx hb dX3_init_32 rfl (lv_at hl 0 rfl) ?_
  refine lv_bipush (pc := 33) (v := 50) hx hb dX3_init_33 (by decide) ?_
  refine k_newi (pc := 35) hx hb hts hK hP hD hS hA 0 rfl 50 (by decide) (by decide) (by decide) (Nat.le_of_ble_eq_true rfl) (Nat.le_of_ble_eq_true rfl) dX3_init_35 (fun q2 H hP hD hS => ?_)
  have hP : va_P D vwCl [(h0, .inr (3, [.ref q1, .int 0, .int 0, .int 0, .int 0, .null])), (q1, .inl (cB, 50, .inl (fun _ => 0))), (q2, .inl (cI, 50, .inl (fun _ => 0)))] H := hP
  have hD : va_D A [(h0, .inr (3, [.ref q1, .int 0, .int 0, .int 0, .int 0, .null])), (q1, .inl (cB, 50, .inl (fun _ => 0))), (q2, .inl (cI, 50, .inl (fun _ => 0)))] := hD
  refine va_putF (pc := 37) hx hb hts uwX3 tyX3 tyX3_ok nmX3 hown hK hP hD hS 0 rfl rfl 5 (by decide) (hts _ wd_142) (fun _ h => h) rfl hin rfl (tyX3_ok 5 (by decide)) rfl rfl (Nat.le_of_ble_eq_true rfl) dX3_init_37 (fun H locs hP hD hS => ?_)
  have hP : va_P D vwCl [(h0, .inr (3, [.ref q1, .int 0, .int 0, .int 0, .int 0, .ref q2])), (q1, .inl (cB, 50, .inl (fun _ => 0))), (q2, .inl (cI, 50, .inl (fun _ => 0)))] H := hP
  have hD : va_D A [(h0, .inr (3, [.ref q1, .int 0, .int 0, .int 0, .int 0, .ref q2])), (q1, .inl (cB, 50, .inl (fun _ => 0))), (q2, .inl (cI, 50, .inl (fun _ => 0)))] := hD
  have hP9 := hP.sub (ws' := [(h0, .inr (3, [.ref q1, .int 0, .int 0, .int 0, .int 0, .ref q2])), (q1, .inl (cB, 50, .inl (fun _ => 0))), (q2, .inl (cI, 50, .inl (fun _ => 0)))]) [0, 1, 2] rfl
  have hD9 := hD.sub (ws' := [(h0, .inr (3, [.ref q1, .int 0, .int 0, .int 0, .int 0, .ref q2])), (q1, .inl (cB, 50, .inl (fun _ => 0))), (q2, .inl (cI, 50, .inl (fun _ => 0)))]) [0, 1, 2] (by decide) rfl
  subst hAe
  exact k_ret (pc := 40) hC hS (fun t ht => ⟨q1, q2, by rw [ht]; exact hP9, hD9⟩) dX3_init_40
set_option maxRecDepth 100000 in
set_option maxHeartbeats 8000000 in
theorem kX_X5 {l : Launch} {D : va_G} {cI cB cS : ClassId} (h0 sz : Nat) : kM l D (xTy cI cB cS) kN yX5_init cX5_init 1 1 1 40 [.ref h0] [(h0, .inr (5, [.int 0, .int 0, .int 0, .int 0, .null]))] sz (fun t => ∃ q1 : Nat, va_P D vwCl [(h0, .inr (5, [.int 0, .int 0, .int 0, .int 0, .ref q1])), (q1, .inl (cI, 40, .inl (fun _ => 0)))] t.heap ∧ va_D (va_A [(h0, .inr (5, [.int 0, .int 0, .int 0, .int 0, .null]))] sz) [(h0, .inr (5, [.int 0, .int 0, .int 0, .int 0, .ref q1])), (q1, .inl (cI, 40, .inl (fun _ => 0)))]) := by
  refine k_entry (by decide) rfl (Nat.le_of_ble_eq_true rfl) (fun p e s m below meth c ls A hsz hAe hC hP hD hA hl => ?_)
  subst hsz
  have hx := hC.1
  have hb := hC.2.1
  have hml := hC.2.2.1
  have hown := hC.2.2.2.1
  have hts := hC.2.2.2.2.1
  have hK := hC.2.2.2.2.2.2.2.1
  have hin := hC.2.2.2.2.2.2.2.2.1
  have hE := hC.2.2.2.2.2.2.2.2.2
  have hS : va_S A s.heap s.heap [] := va_S.rf
  have hl : lv_has ls 1 [(0, .ref h0)] := hl
  refine lv_aload_n (pc := 0) hx hb dX5_init_0 rfl (lv_at hl 0 rfl) ?_
  refine W.objInit (g := F0 m 1 ls [.ref h0]) hx hb hown (hts _ wd_162) (hts _ wd_21) (hts _ wd_22) rfl (by rw [hml]; exact hl.1) rfl dX5_init_1 (Nat.le_of_ble_eq_true rfl) (Nat.le_of_ble_eq_true rfl) ?_
  refine W.eq (g2 := F0 m 4 ls []) rfl ?_
  refine lv_aload_n (pc := 4) hx hb dX5_init_4 rfl (lv_at hl 0 rfl) ?_
  refine lv_iconst (pc := 5) (v := 0) hx hb dX5_init_5 (by decide) ?_
  refine va_put (pc := 6) hx hb hts uwX5 tyX5 tyX5_ok nmX5 hown hK hP hD hS 0 rfl rfl 0 (by decide) (hts _ wd_163) (fun _ h => h) rfl (tyX5_ok 0 (by decide)) rfl rfl (Nat.le_of_ble_eq_true rfl) dX5_init_6 (fun H locs hP hD hS => ?_)
  have hP : va_P D vwCl [(h0, .inr (5, [.int 0, .int 0, .int 0, .int 0, .null]))] H := hP
  have hD : va_D A [(h0, .inr (5, [.int 0, .int 0, .int 0, .int 0, .null]))] := hD
  refine lv_aload_n (pc := 9) hx hb dX5_init_9 rfl (lv_at hl 0 rfl) ?_
  refine lv_iconst (pc := 10) (v := 0) hx hb dX5_init_10 (by decide) ?_
  refine va_put (pc := 11) hx hb hts uwX5 tyX5 tyX5_ok nmX5 hown hK hP hD hS 0 rfl rfl 1 (by decide) (hts _ wd_164) (fun _ h => h) rfl (tyX5_ok 1 (by decide)) rfl rfl (Nat.le_of_ble_eq_true rfl) dX5_init_11 (fun H locs hP hD hS => ?_)
  have hP : va_P D vwCl [(h0, .inr (5, [.int 0, .int 0, .int 0, .int 0, .null]))] H := hP
  have hD : va_D A [(h0, .inr (5, [.int 0, .int 0, .int 0, .int 0, .null]))] := hD
  refine lv_aload_n (pc := 14) hx hb dX5_init_14 rfl (lv_at hl 0 rfl) ?_
  refine lv_iconst (pc := 15) (v := 0) hx hb dX5_init_15 (by decide) ?_
  refine va_put (pc := 16) hx hb hts uwX5 tyX5 tyX5_ok nmX5 hown hK hP hD hS 0 rfl rfl 2 (by decide) (hts _ wd_165) (fun _ h => h) rfl (tyX5_ok 2 (by decide)) rfl rfl (Nat.le_of_ble_eq_true rfl) dX5_init_16 (fun H locs hP hD hS => ?_)
  have hP : va_P D vwCl [(h0, .inr (5, [.int 0, .int 0, .int 0, .int 0, .null]))] H := hP
  have hD : va_D A [(h0, .inr (5, [.int 0, .int 0, .int 0, .int 0, .null]))] := hD
  refine lv_aload_n (pc := 19) hx hb dX5_init_19 rfl (lv_at hl 0 rfl) ?_
  refine lv_iconst (pc := 20) (v := 0) hx hb dX5_init_20 (by decide) ?_
  refine va_put (pc := 21) hx hb hts uwX5 tyX5 tyX5_ok nmX5 hown hK hP hD hS 0 rfl rfl 3 (by decide) (hts _ wd_166) (fun _ h => h) rfl (tyX5_ok 3 (by decide)) rfl rfl (Nat.le_of_ble_eq_true rfl) dX5_init_21 (fun H locs hP hD hS => ?_)
  have hP : va_P D vwCl [(h0, .inr (5, [.int 0, .int 0, .int 0, .int 0, .null]))] H := hP
  have hD : va_D A [(h0, .inr (5, [.int 0, .int 0, .int 0, .int 0, .null]))] := hD
  refine lv_aload_n (pc := 24) hx hb dX5_init_24 rfl (lv_at hl 0 rfl) ?_
  refine lv_bipush (pc := 25) (v := 40) hx hb dX5_init_25 (by decide) ?_
  refine k_newi (pc := 27) hx hb hts hK hP hD hS hA 0 rfl 40 (by decide) (by decide) (by decide) (Nat.le_of_ble_eq_true rfl) (Nat.le_of_ble_eq_true rfl) dX5_init_27 (fun q1 H hP hD hS => ?_)
  have hP : va_P D vwCl [(h0, .inr (5, [.int 0, .int 0, .int 0, .int 0, .null])), (q1, .inl (cI, 40, .inl (fun _ => 0)))] H := hP
  have hD : va_D A [(h0, .inr (5, [.int 0, .int 0, .int 0, .int 0, .null])), (q1, .inl (cI, 40, .inl (fun _ => 0)))] := hD
  refine va_putF (pc := 29) hx hb hts uwX5 tyX5 tyX5_ok nmX5 hown hK hP hD hS 0 rfl rfl 4 (by decide) (hts _ wd_168) (fun _ h => h) rfl hin rfl (tyX5_ok 4 (by decide)) rfl rfl (Nat.le_of_ble_eq_true rfl) dX5_init_29 (fun H locs hP hD hS => ?_)
  have hP : va_P D vwCl [(h0, .inr (5, [.int 0, .int 0, .int 0, .int 0, .ref q1])), (q1, .inl (cI, 40, .inl (fun _ => 0)))] H := hP
  have hD : va_D A [(h0, .inr (5, [.int 0, .int 0, .int 0, .int 0, .ref q1])), (q1, .inl (cI, 40, .inl (fun _ => 0)))] := hD
  have hP9 := hP.sub (ws' := [(h0, .inr (5, [.int 0, .int 0, .int 0, .int 0, .ref q1])), (q1, .inl (cI, 40, .inl (fun _ => 0)))]) [0, 1] rfl
  have hD9 := hD.sub (ws' := [(h0, .inr (5, [.int 0, .int 0, .int 0, .int 0, .ref q1])), (q1, .inl (cI, 40, .inl (fun _ => 0)))]) [0, 1] (by decide) rfl
  subst hAe
  exact k_ret (pc := 32) hC hS (fun t ht => ⟨q1, by rw [ht]; exact hP9, hD9⟩) dX5_init_32
set_option maxRecDepth 100000 in
set_option maxHeartbeats 8000000 in
theorem kX_X4 {l : Launch} {D : va_G} {cI cB cS : ClassId} (h0 sz : Nat) : kM l D (xTy cI cB cS) kN yX4_init cX4_init 1 1 1 40 [.ref h0] [(h0, .inr (4, [.int 0, .int 0, .null]))] sz (fun t => ∃ q1 : Nat, va_P D vwCl [(h0, .inr (4, [.int 0, .int 0, .ref q1])), (q1, .inl (cI, 40, .inl (fun _ => 0)))] t.heap ∧ va_D (va_A [(h0, .inr (4, [.int 0, .int 0, .null]))] sz) [(h0, .inr (4, [.int 0, .int 0, .ref q1])), (q1, .inl (cI, 40, .inl (fun _ => 0)))]) := by
  refine k_entry (by decide) rfl (Nat.le_of_ble_eq_true rfl) (fun p e s m below meth c ls A hsz hAe hC hP hD hA hl => ?_)
  subst hsz
  have hx := hC.1
  have hb := hC.2.1
  have hml := hC.2.2.1
  have hown := hC.2.2.2.1
  have hts := hC.2.2.2.2.1
  have hK := hC.2.2.2.2.2.2.2.1
  have hin := hC.2.2.2.2.2.2.2.2.1
  have hE := hC.2.2.2.2.2.2.2.2.2
  have hS : va_S A s.heap s.heap [] := va_S.rf
  have hl : lv_has ls 1 [(0, .ref h0)] := hl
  refine lv_aload_n (pc := 0) hx hb dX4_init_0 rfl (lv_at hl 0 rfl) ?_
  refine W.objInit (g := F0 m 1 ls [.ref h0]) hx hb hown (hts _ wd_187) (hts _ wd_21) (hts _ wd_22) rfl (by rw [hml]; exact hl.1) rfl dX4_init_1 (Nat.le_of_ble_eq_true rfl) (Nat.le_of_ble_eq_true rfl) ?_
  refine W.eq (g2 := F0 m 4 ls []) rfl ?_
  refine lv_aload_n (pc := 4) hx hb dX4_init_4 rfl (lv_at hl 0 rfl) ?_
  refine lv_iconst (pc := 5) (v := 0) hx hb dX4_init_5 (by decide) ?_
  refine va_put (pc := 6) hx hb hts uwX4 tyX4 tyX4_ok nmX4 hown hK hP hD hS 0 rfl rfl 0 (by decide) (hts _ wd_188) (fun _ h => h) rfl (tyX4_ok 0 (by decide)) rfl rfl (Nat.le_of_ble_eq_true rfl) dX4_init_6 (fun H locs hP hD hS => ?_)
  have hP : va_P D vwCl [(h0, .inr (4, [.int 0, .int 0, .null]))] H := hP
  have hD : va_D A [(h0, .inr (4, [.int 0, .int 0, .null]))] := hD
  refine lv_aload_n (pc := 9) hx hb dX4_init_9 rfl (lv_at hl 0 rfl) ?_
  refine lv_iconst (pc := 10) (v := 0) hx hb dX4_init_10 (by decide) ?_
  refine va_put (pc := 11) hx hb hts uwX4 tyX4 tyX4_ok nmX4 hown hK hP hD hS 0 rfl rfl 1 (by decide) (hts _ wd_190) (fun _ h => h) rfl (tyX4_ok 1 (by decide)) rfl rfl (Nat.le_of_ble_eq_true rfl) dX4_init_11 (fun H locs hP hD hS => ?_)
  have hP : va_P D vwCl [(h0, .inr (4, [.int 0, .int 0, .null]))] H := hP
  have hD : va_D A [(h0, .inr (4, [.int 0, .int 0, .null]))] := hD
  refine lv_aload_n (pc := 14) hx hb dX4_init_14 rfl (lv_at hl 0 rfl) ?_
  refine lv_bipush (pc := 15) (v := 40) hx hb dX4_init_15 (by decide) ?_
  refine k_newi (pc := 17) hx hb hts hK hP hD hS hA 0 rfl 40 (by decide) (by decide) (by decide) (Nat.le_of_ble_eq_true rfl) (Nat.le_of_ble_eq_true rfl) dX4_init_17 (fun q1 H hP hD hS => ?_)
  have hP : va_P D vwCl [(h0, .inr (4, [.int 0, .int 0, .null])), (q1, .inl (cI, 40, .inl (fun _ => 0)))] H := hP
  have hD : va_D A [(h0, .inr (4, [.int 0, .int 0, .null])), (q1, .inl (cI, 40, .inl (fun _ => 0)))] := hD
  refine va_putF (pc := 19) hx hb hts uwX4 tyX4 tyX4_ok nmX4 hown hK hP hD hS 0 rfl rfl 2 (by decide) (hts _ wd_192) (fun _ h => h) rfl hin rfl (tyX4_ok 2 (by decide)) rfl rfl (Nat.le_of_ble_eq_true rfl) dX4_init_19 (fun H locs hP hD hS => ?_)
  have hP : va_P D vwCl [(h0, .inr (4, [.int 0, .int 0, .ref q1])), (q1, .inl (cI, 40, .inl (fun _ => 0)))] H := hP
  have hD : va_D A [(h0, .inr (4, [.int 0, .int 0, .ref q1])), (q1, .inl (cI, 40, .inl (fun _ => 0)))] := hD
  have hP9 := hP.sub (ws' := [(h0, .inr (4, [.int 0, .int 0, .ref q1])), (q1, .inl (cI, 40, .inl (fun _ => 0)))]) [0, 1] rfl
  have hD9 := hD.sub (ws' := [(h0, .inr (4, [.int 0, .int 0, .ref q1])), (q1, .inl (cI, 40, .inl (fun _ => 0)))]) [0, 1] (by decide) rfl
  subst hAe
  exact k_ret (pc := 22) hC hS (fun t ht => ⟨q1, by rw [ht]; exact hP9, hD9⟩) dX4_init_22
set_option maxRecDepth 100000 in
set_option maxHeartbeats 8000000 in
theorem kX_X1 {l : Launch} {D : va_G} {cI cB cS : ClassId} (h0 sz : Nat) : kM l D (xTy cI cB cS) kN yX1_init cX1_init 1 2 15 327 [.ref h0] [(h0, .inr (1, [.null, .null, .null, .null, .int 0, .null, .int 0, .int 0, .int 0]))] sz (fun t => ∃ q1 q2 q3 q4 q5 q6 q7 q8 q9 q10 q11 q12 q13 q14 q15 : Nat, va_P D vwCl [(h0, .inr (1, [.ref q1, .ref q8, .ref q11, .ref q14, .int 0, .ref q15, .int 0, .int 0, .int 1])), (q1, .inr (0, [.int 0, .ref q2, .ref q3, .ref q4, .ref q5, .ref q6, .ref q7])), (q2, .inl (cI, 7, .inl (fun _ => 0))), (q3, .inl (cI, 7, .inl (fun _ => 0))), (q4, .inl (cI, 7, .inl (fun _ => 0))), (q5, .inl (cI, 7, .inl (fun _ => 0))), (q6, .inl (cI, 7, .inl (fun _ => 0))), (q7, .inl (cI, 7, .inl (fun _ => 0))), (q8, .inr (2, [.int 0, .int 0, .ref q9, .ref q10])), (q9, .inl (cI, 50, .inl (fun _ => 0))), (q10, .inl (cI, 50, .inl (fun _ => 0))), (q11, .inr (2, [.int 1, .int 0, .ref q12, .ref q13])), (q12, .inl (cI, 50, .inl (fun _ => 0))), (q13, .inl (cI, 50, .inl (fun _ => 0))), (q14, .inl (cB, 50, .inl (fun _ => 0))), (q15, .inl (cI, 20, .inl (fun _ => 0)))] t.heap ∧ va_D (va_A [(h0, .inr (1, [.null, .null, .null, .null, .int 0, .null, .int 0, .int 0, .int 0]))] sz) [(h0, .inr (1, [.ref q1, .ref q8, .ref q11, .ref q14, .int 0, .ref q15, .int 0, .int 0, .int 1])), (q1, .inr (0, [.int 0, .ref q2, .ref q3, .ref q4, .ref q5, .ref q6, .ref q7])), (q2, .inl (cI, 7, .inl (fun _ => 0))), (q3, .inl (cI, 7, .inl (fun _ => 0))), (q4, .inl (cI, 7, .inl (fun _ => 0))), (q5, .inl (cI, 7, .inl (fun _ => 0))), (q6, .inl (cI, 7, .inl (fun _ => 0))), (q7, .inl (cI, 7, .inl (fun _ => 0))), (q8, .inr (2, [.int 0, .int 0, .ref q9, .ref q10])), (q9, .inl (cI, 50, .inl (fun _ => 0))), (q10, .inl (cI, 50, .inl (fun _ => 0))), (q11, .inr (2, [.int 1, .int 0, .ref q12, .ref q13])), (q12, .inl (cI, 50, .inl (fun _ => 0))), (q13, .inl (cI, 50, .inl (fun _ => 0))), (q14, .inl (cB, 50, .inl (fun _ => 0))), (q15, .inl (cI, 20, .inl (fun _ => 0)))]) := by
  refine k_entry (by decide) rfl (Nat.le_of_ble_eq_true rfl) (fun p e s m below meth c ls A hsz hAe hC hP hD hA hl => ?_)
  subst hsz
  have hx := hC.1
  have hb := hC.2.1
  have hml := hC.2.2.1
  have hown := hC.2.2.2.1
  have hts := hC.2.2.2.2.1
  have hK := hC.2.2.2.2.2.2.2.1
  have hin := hC.2.2.2.2.2.2.2.2.1
  have hE := hC.2.2.2.2.2.2.2.2.2
  have hS : va_S A s.heap s.heap [] := va_S.rf
  have hl : lv_has ls 1 [(0, .ref h0)] := hl
  refine lv_aload_n (pc := 0) hx hb dX1_init_0 rfl (lv_at hl 0 rfl) ?_
  refine W.objInit (g := F0 m 1 ls [.ref h0]) hx hb hown (hts _ wd_28) (hts _ wd_21) (hts _ wd_22) rfl (by rw [hml]; exact hl.1) rfl dX1_init_1 (Nat.le_of_ble_eq_true rfl) (Nat.le_of_ble_eq_true rfl) ?_
  refine W.eq (g2 := F0 m 4 ls []) rfl ?_
  refine lv_aload_n (pc := 4) hx hb dX1_init_4 rfl (lv_at hl 0 rfl) ?_
  refine va_new (pc := 5) (ci := 0) (fs := [.int 0, .null, .null, .null, .null, .null, .null]) (C := RX0) (T := TX0) (N := 7) hx hb hts uwX0 tyX0 tyX0_ok hown (hts _ wd_29) (hts _ wd_30) (hts _ wd_3) hK hP hD hS hA rfl dv_X0 (Nat.le_of_ble_eq_true rfl) (Nat.le_of_ble_eq_true rfl) dX1_init_5 (fun q1 H hP hD hS => ?_)
  have hP : va_P D vwCl [(h0, .inr (1, [.null, .null, .null, .null, .int 0, .null, .int 0, .int 0, .int 0])), (q1, .inr (0, [.int 0, .null, .null, .null, .null, .null, .null]))] H := hP
  have hD : va_D A [(h0, .inr (1, [.null, .null, .null, .null, .int 0, .null, .int 0, .int 0, .int 0])), (q1, .inr (0, [.int 0, .null, .null, .null, .null, .null, .null]))] := hD
  refine lv_dup (pc := 8) hx hb dX1_init_8 rfl ?_
  refine k_call (As := []) (b := q1) (rest := [.ref q1, .ref h0]) (wc := [(q1, .inr (0, [.int 0, .null, .null, .null, .null, .null, .null]))]) (wr := [(h0, .inr (1, [.null, .null, .null, .null, .int 0, .null, .int 0, .int 0, .int 0]))]) (en' := kN) hK hP hD hS hA [1] [0] rfl rfl (by decide) (by decide) (by decide) (k_runN (n := 0) (pc := 9) hx hb hml hown hts hl.1 (kX_X0 (l := l) (D := D) q1 H.size) hE.1.2.1 wd_32 wd_3 wd_33 ⟨by decide, by decide, by decide +kernel⟩ rfl (by decide) rfl rfl (Nat.le_of_ble_eq_true rfl) (by decide) dX1_init_9 ⟨Nat.le_of_ble_eq_true rfl, Nat.le_of_ble_eq_true rfl⟩) kN_blind (fun U hU hW => kN_warm hW hE) (fun t H1 locs ht hB hj hS => ?_)
  obtain ⟨q2, q3, q4, q5, q6, q7, hP1, hD1⟩ := hB
  rw [ht] at hP1
  obtain ⟨hP, hD⟩ := hj _ hP1 hD1
  clear hP1 hD1 ht hj
  generalize H1 = H at hP hS ⊢
  have hP : va_P D vwCl [(h0, .inr (1, [.null, .null, .null, .null, .int 0, .null, .int 0, .int 0, .int 0])), (q1, .inr (0, [.int 0, .ref q2, .ref q3, .ref q4, .ref q5, .ref q6, .ref q7])), (q2, .inl (cI, 7, .inl (fun _ => 0))), (q3, .inl (cI, 7, .inl (fun _ => 0))), (q4, .inl (cI, 7, .inl (fun _ => 0))), (q5, .inl (cI, 7, .inl (fun _ => 0))), (q6, .inl (cI, 7, .inl (fun _ => 0))), (q7, .inl (cI, 7, .inl (fun _ => 0)))] H := hP
  have hD : va_D A [(h0, .inr (1, [.null, .null, .null, .null, .int 0, .null, .int 0, .int 0, .int 0])), (q1, .inr (0, [.int 0, .ref q2, .ref q3, .ref q4, .ref q5, .ref q6, .ref q7])), (q2, .inl (cI, 7, .inl (fun _ => 0))), (q3, .inl (cI, 7, .inl (fun _ => 0))), (q4, .inl (cI, 7, .inl (fun _ => 0))), (q5, .inl (cI, 7, .inl (fun _ => 0))), (q6, .inl (cI, 7, .inl (fun _ => 0))), (q7, .inl (cI, 7, .inl (fun _ => 0)))] := hD
  refine va_putF (pc := 12) hx hb hts uwX1 tyX1 tyX1_ok nmX1 hown hK hP hD hS 0 rfl rfl 0 (by decide) (hts _ wd_89) (fun _ h => h) rfl hin rfl (tyX1_ok 0 (by decide)) rfl rfl (Nat.le_of_ble_eq_true rfl) dX1_init_12 (fun H locs hP hD hS => ?_)
  have hP : va_P D vwCl [(h0, .inr (1, [.ref q1, .null, .null, .null, .int 0, .null, .int 0, .int 0, .int 0])), (q1, .inr (0, [.int 0, .ref q2, .ref q3, .ref q4, .ref q5, .ref q6, .ref q7])), (q2, .inl (cI, 7, .inl (fun _ => 0))), (q3, .inl (cI, 7, .inl (fun _ => 0))), (q4, .inl (cI, 7, .inl (fun _ => 0))), (q5, .inl (cI, 7, .inl (fun _ => 0))), (q6, .inl (cI, 7, .inl (fun _ => 0))), (q7, .inl (cI, 7, .inl (fun _ => 0)))] H := hP
  have hD : va_D A [(h0, .inr (1, [.ref q1, .null, .null, .null, .int 0, .null, .int 0, .int 0, .int 0])), (q1, .inr (0, [.int 0, .ref q2, .ref q3, .ref q4, .ref q5, .ref q6, .ref q7])), (q2, .inl (cI, 7, .inl (fun _ => 0))), (q3, .inl (cI, 7, .inl (fun _ => 0))), (q4, .inl (cI, 7, .inl (fun _ => 0))), (q5, .inl (cI, 7, .inl (fun _ => 0))), (q6, .inl (cI, 7, .inl (fun _ => 0))), (q7, .inl (cI, 7, .inl (fun _ => 0)))] := hD
  refine lv_aload_n (pc := 15) hx hb dX1_init_15 rfl (lv_at hl 0 rfl) ?_
  refine va_new (pc := 16) (ci := 2) (fs := [.int 0, .int 0, .null, .null]) (C := RX2) (T := TX2) (N := 4) hx hb hts uwX2 tyX2 tyX2_ok hown (hts _ wd_68) (hts _ wd_69) (hts _ wd_4) hK hP hD hS hA rfl dv_X2 (Nat.le_of_ble_eq_true rfl) (Nat.le_of_ble_eq_true rfl) dX1_init_16 (fun q8 H hP hD hS => ?_)
  have hP : va_P D vwCl [(h0, .inr (1, [.ref q1, .null, .null, .null, .int 0, .null, .int 0, .int 0, .int 0])), (q1, .inr (0, [.int 0, .ref q2, .ref q3, .ref q4, .ref q5, .ref q6, .ref q7])), (q2, .inl (cI, 7, .inl (fun _ => 0))), (q3, .inl (cI, 7, .inl (fun _ => 0))), (q4, .inl (cI, 7, .inl (fun _ => 0))), (q5, .inl (cI, 7, .inl (fun _ => 0))), (q6, .inl (cI, 7, .inl (fun _ => 0))), (q7, .inl (cI, 7, .inl (fun _ => 0))), (q8, .inr (2, [.int 0, .int 0, .null, .null]))] H := hP
  have hD : va_D A [(h0, .inr (1, [.ref q1, .null, .null, .null, .int 0, .null, .int 0, .int 0, .int 0])), (q1, .inr (0, [.int 0, .ref q2, .ref q3, .ref q4, .ref q5, .ref q6, .ref q7])), (q2, .inl (cI, 7, .inl (fun _ => 0))), (q3, .inl (cI, 7, .inl (fun _ => 0))), (q4, .inl (cI, 7, .inl (fun _ => 0))), (q5, .inl (cI, 7, .inl (fun _ => 0))), (q6, .inl (cI, 7, .inl (fun _ => 0))), (q7, .inl (cI, 7, .inl (fun _ => 0))), (q8, .inr (2, [.int 0, .int 0, .null, .null]))] := hD
  refine lv_dup (pc := 19) hx hb dX1_init_19 rfl ?_
  refine lv_iconst (pc := 20) (v := 0) hx hb dX1_init_20 (by decide) ?_
  refine k_call (As := [.int 0]) (b := q8) (rest := [.ref q8, .ref h0]) (wc := [(q8, .inr (2, [.int 0, .int 0, .null, .null]))]) (wr := [(h0, .inr (1, [.ref q1, .null, .null, .null, .int 0, .null, .int 0, .int 0, .int 0])), (q1, .inr (0, [.int 0, .ref q2, .ref q3, .ref q4, .ref q5, .ref q6, .ref q7])), (q2, .inl (cI, 7, .inl (fun _ => 0))), (q3, .inl (cI, 7, .inl (fun _ => 0))), (q4, .inl (cI, 7, .inl (fun _ => 0))), (q5, .inl (cI, 7, .inl (fun _ => 0))), (q6, .inl (cI, 7, .inl (fun _ => 0))), (q7, .inl (cI, 7, .inl (fun _ => 0)))]) (en' := kN) hK hP hD hS hA [8] [0, 1, 2, 3, 4, 5, 6, 7] rfl rfl (by decide) (by decide) (by decide) (k_runI (n := 1) (pc := 21) hx hb hml hown hts hl.1 (kX_X2 (l := l) (D := D) q8 H.size 0) wd_70 wd_71 wd_4 wd_72 ⟨by decide, by decide, by decide +kernel⟩ rfl (by decide) rfl rfl (Nat.le_of_ble_eq_true rfl) ⟨Nat.le_of_ble_eq_true rfl, Nat.le_of_ble_eq_true rfl⟩ dX1_init_21 ⟨Nat.le_of_ble_eq_true rfl, Nat.le_of_ble_eq_true rfl⟩) kN_blind (fun U hU hW => kN_warm hW hE) (fun t H1 locs ht hB hj hS => ?_)
  obtain ⟨q9, q10, hP1, hD1⟩ := hB
  rw [ht] at hP1
  obtain ⟨hP, hD⟩ := hj _ hP1 hD1
  clear hP1 hD1 ht hj
  generalize H1 = H at hP hS ⊢
  have hP : va_P D vwCl [(h0, .inr (1, [.ref q1, .null, .null, .null, .int 0, .null, .int 0, .int 0, .int 0])), (q1, .inr (0, [.int 0, .ref q2, .ref q3, .ref q4, .ref q5, .ref q6, .ref q7])), (q2, .inl (cI, 7, .inl (fun _ => 0))), (q3, .inl (cI, 7, .inl (fun _ => 0))), (q4, .inl (cI, 7, .inl (fun _ => 0))), (q5, .inl (cI, 7, .inl (fun _ => 0))), (q6, .inl (cI, 7, .inl (fun _ => 0))), (q7, .inl (cI, 7, .inl (fun _ => 0))), (q8, .inr (2, [.int 0, .int 0, .ref q9, .ref q10])), (q9, .inl (cI, 50, .inl (fun _ => 0))), (q10, .inl (cI, 50, .inl (fun _ => 0)))] H := hP
  have hD : va_D A [(h0, .inr (1, [.ref q1, .null, .null, .null, .int 0, .null, .int 0, .int 0, .int 0])), (q1, .inr (0, [.int 0, .ref q2, .ref q3, .ref q4, .ref q5, .ref q6, .ref q7])), (q2, .inl (cI, 7, .inl (fun _ => 0))), (q3, .inl (cI, 7, .inl (fun _ => 0))), (q4, .inl (cI, 7, .inl (fun _ => 0))), (q5, .inl (cI, 7, .inl (fun _ => 0))), (q6, .inl (cI, 7, .inl (fun _ => 0))), (q7, .inl (cI, 7, .inl (fun _ => 0))), (q8, .inr (2, [.int 0, .int 0, .ref q9, .ref q10])), (q9, .inl (cI, 50, .inl (fun _ => 0))), (q10, .inl (cI, 50, .inl (fun _ => 0)))] := hD
  refine va_putF (pc := 24) hx hb hts uwX1 tyX1 tyX1_ok nmX1 hown hK hP hD hS 0 rfl rfl 1 (by decide) (hts _ wd_91) (fun _ h => h) rfl hin rfl (tyX1_ok 1 (by decide)) rfl rfl (Nat.le_of_ble_eq_true rfl) dX1_init_24 (fun H locs hP hD hS => ?_)
  have hP : va_P D vwCl [(h0, .inr (1, [.ref q1, .ref q8, .null, .null, .int 0, .null, .int 0, .int 0, .int 0])), (q1, .inr (0, [.int 0, .ref q2, .ref q3, .ref q4, .ref q5, .ref q6, .ref q7])), (q2, .inl (cI, 7, .inl (fun _ => 0))), (q3, .inl (cI, 7, .inl (fun _ => 0))), (q4, .inl (cI, 7, .inl (fun _ => 0))), (q5, .inl (cI, 7, .inl (fun _ => 0))), (q6, .inl (cI, 7, .inl (fun _ => 0))), (q7, .inl (cI, 7, .inl (fun _ => 0))), (q8, .inr (2, [.int 0, .int 0, .ref q9, .ref q10])), (q9, .inl (cI, 50, .inl (fun _ => 0))), (q10, .inl (cI, 50, .inl (fun _ => 0)))] H := hP
  have hD : va_D A [(h0, .inr (1, [.ref q1, .ref q8, .null, .null, .int 0, .null, .int 0, .int 0, .int 0])), (q1, .inr (0, [.int 0, .ref q2, .ref q3, .ref q4, .ref q5, .ref q6, .ref q7])), (q2, .inl (cI, 7, .inl (fun _ => 0))), (q3, .inl (cI, 7, .inl (fun _ => 0))), (q4, .inl (cI, 7, .inl (fun _ => 0))), (q5, .inl (cI, 7, .inl (fun _ => 0))), (q6, .inl (cI, 7, .inl (fun _ => 0))), (q7, .inl (cI, 7, .inl (fun _ => 0))), (q8, .inr (2, [.int 0, .int 0, .ref q9, .ref q10])), (q9, .inl (cI, 50, .inl (fun _ => 0))), (q10, .inl (cI, 50, .inl (fun _ => 0)))] := hD
  refine lv_aload_n (pc := 27) hx hb dX1_init_27 rfl (lv_at hl 0 rfl) ?_
  refine va_new (pc := 28) (ci := 2) (fs := [.int 0, .int 0, .null, .null]) (C := RX2) (T := TX2) (N := 4) hx hb hts uwX2 tyX2 tyX2_ok hown (hts _ wd_68) (hts _ wd_69) (hts _ wd_4) hK hP hD hS hA rfl dv_X2 (Nat.le_of_ble_eq_true rfl) (Nat.le_of_ble_eq_true rfl) dX1_init_28 (fun q11 H hP hD hS => ?_)
  have hP : va_P D vwCl [(h0, .inr (1, [.ref q1, .ref q8, .null, .null, .int 0, .null, .int 0, .int 0, .int 0])), (q1, .inr (0, [.int 0, .ref q2, .ref q3, .ref q4, .ref q5, .ref q6, .ref q7])), (q2, .inl (cI, 7, .inl (fun _ => 0))), (q3, .inl (cI, 7, .inl (fun _ => 0))), (q4, .inl (cI, 7, .inl (fun _ => 0))), (q5, .inl (cI, 7, .inl (fun _ => 0))), (q6, .inl (cI, 7, .inl (fun _ => 0))), (q7, .inl (cI, 7, .inl (fun _ => 0))), (q8, .inr (2, [.int 0, .int 0, .ref q9, .ref q10])), (q9, .inl (cI, 50, .inl (fun _ => 0))), (q10, .inl (cI, 50, .inl (fun _ => 0))), (q11, .inr (2, [.int 0, .int 0, .null, .null]))] H := hP
  have hD : va_D A [(h0, .inr (1, [.ref q1, .ref q8, .null, .null, .int 0, .null, .int 0, .int 0, .int 0])), (q1, .inr (0, [.int 0, .ref q2, .ref q3, .ref q4, .ref q5, .ref q6, .ref q7])), (q2, .inl (cI, 7, .inl (fun _ => 0))), (q3, .inl (cI, 7, .inl (fun _ => 0))), (q4, .inl (cI, 7, .inl (fun _ => 0))), (q5, .inl (cI, 7, .inl (fun _ => 0))), (q6, .inl (cI, 7, .inl (fun _ => 0))), (q7, .inl (cI, 7, .inl (fun _ => 0))), (q8, .inr (2, [.int 0, .int 0, .ref q9, .ref q10])), (q9, .inl (cI, 50, .inl (fun _ => 0))), (q10, .inl (cI, 50, .inl (fun _ => 0))), (q11, .inr (2, [.int 0, .int 0, .null, .null]))] := hD
  refine lv_dup (pc := 31) hx hb dX1_init_31 rfl ?_
  refine lv_iconst (pc := 32) (v := 1) hx hb dX1_init_32 (by decide) ?_
  refine k_call (As := [.int 1]) (b := q11) (rest := [.ref q11, .ref h0]) (wc := [(q11, .inr (2, [.int 0, .int 0, .null, .null]))]) (wr := [(h0, .inr (1, [.ref q1, .ref q8, .null, .null, .int 0, .null, .int 0, .int 0, .int 0])), (q1, .inr (0, [.int 0, .ref q2, .ref q3, .ref q4, .ref q5, .ref q6, .ref q7])), (q2, .inl (cI, 7, .inl (fun _ => 0))), (q3, .inl (cI, 7, .inl (fun _ => 0))), (q4, .inl (cI, 7, .inl (fun _ => 0))), (q5, .inl (cI, 7, .inl (fun _ => 0))), (q6, .inl (cI, 7, .inl (fun _ => 0))), (q7, .inl (cI, 7, .inl (fun _ => 0))), (q8, .inr (2, [.int 0, .int 0, .ref q9, .ref q10])), (q9, .inl (cI, 50, .inl (fun _ => 0))), (q10, .inl (cI, 50, .inl (fun _ => 0)))]) (en' := kN) hK hP hD hS hA [11] [0, 1, 2, 3, 4, 5, 6, 7, 8, 9, 10] rfl rfl (by decide) (by decide) (by decide) (k_runI (n := 1) (pc := 33) hx hb hml hown hts hl.1 (kX_X2 (l := l) (D := D) q11 H.size 1) wd_70 wd_71 wd_4 wd_72 ⟨by decide, by decide, by decide +kernel⟩ rfl (by decide) rfl rfl (Nat.le_of_ble_eq_true rfl) ⟨Nat.le_of_ble_eq_true rfl, Nat.le_of_ble_eq_true rfl⟩ dX1_init_33 ⟨Nat.le_of_ble_eq_true rfl, Nat.le_of_ble_eq_true rfl⟩) kN_blind (fun U hU hW => kN_warm hW hE) (fun t H1 locs ht hB hj hS => ?_)
  obtain ⟨q12, q13, hP1, hD1⟩ := hB
  rw [ht] at hP1
  obtain ⟨hP, hD⟩ := hj _ hP1 hD1
  clear hP1 hD1 ht hj
  generalize H1 = H at hP hS ⊢
  have hP : va_P D vwCl [(h0, .inr (1, [.ref q1, .ref q8, .null, .null, .int 0, .null, .int 0, .int 0, .int 0])), (q1, .inr (0, [.int 0, .ref q2, .ref q3, .ref q4, .ref q5, .ref q6, .ref q7])), (q2, .inl (cI, 7, .inl (fun _ => 0))), (q3, .inl (cI, 7, .inl (fun _ => 0))), (q4, .inl (cI, 7, .inl (fun _ => 0))), (q5, .inl (cI, 7, .inl (fun _ => 0))), (q6, .inl (cI, 7, .inl (fun _ => 0))), (q7, .inl (cI, 7, .inl (fun _ => 0))), (q8, .inr (2, [.int 0, .int 0, .ref q9, .ref q10])), (q9, .inl (cI, 50, .inl (fun _ => 0))), (q10, .inl (cI, 50, .inl (fun _ => 0))), (q11, .inr (2, [.int 1, .int 0, .ref q12, .ref q13])), (q12, .inl (cI, 50, .inl (fun _ => 0))), (q13, .inl (cI, 50, .inl (fun _ => 0)))] H := hP
  have hD : va_D A [(h0, .inr (1, [.ref q1, .ref q8, .null, .null, .int 0, .null, .int 0, .int 0, .int 0])), (q1, .inr (0, [.int 0, .ref q2, .ref q3, .ref q4, .ref q5, .ref q6, .ref q7])), (q2, .inl (cI, 7, .inl (fun _ => 0))), (q3, .inl (cI, 7, .inl (fun _ => 0))), (q4, .inl (cI, 7, .inl (fun _ => 0))), (q5, .inl (cI, 7, .inl (fun _ => 0))), (q6, .inl (cI, 7, .inl (fun _ => 0))), (q7, .inl (cI, 7, .inl (fun _ => 0))), (q8, .inr (2, [.int 0, .int 0, .ref q9, .ref q10])), (q9, .inl (cI, 50, .inl (fun _ => 0))), (q10, .inl (cI, 50, .inl (fun _ => 0))), (q11, .inr (2, [.int 1, .int 0, .ref q12, .ref q13])), (q12, .inl (cI, 50, .inl (fun _ => 0))), (q13, .inl (cI, 50, .inl (fun _ => 0)))] := hD
  refine va_putF (pc := 36) hx hb hts uwX1 tyX1 tyX1_ok nmX1 hown hK hP hD hS 0 rfl rfl 2 (by decide) (hts _ wd_93) (fun _ h => h) rfl hin rfl (tyX1_ok 2 (by decide)) rfl rfl (Nat.le_of_ble_eq_true rfl) dX1_init_36 (fun H locs hP hD hS => ?_)
  have hP : va_P D vwCl [(h0, .inr (1, [.ref q1, .ref q8, .ref q11, .null, .int 0, .null, .int 0, .int 0, .int 0])), (q1, .inr (0, [.int 0, .ref q2, .ref q3, .ref q4, .ref q5, .ref q6, .ref q7])), (q2, .inl (cI, 7, .inl (fun _ => 0))), (q3, .inl (cI, 7, .inl (fun _ => 0))), (q4, .inl (cI, 7, .inl (fun _ => 0))), (q5, .inl (cI, 7, .inl (fun _ => 0))), (q6, .inl (cI, 7, .inl (fun _ => 0))), (q7, .inl (cI, 7, .inl (fun _ => 0))), (q8, .inr (2, [.int 0, .int 0, .ref q9, .ref q10])), (q9, .inl (cI, 50, .inl (fun _ => 0))), (q10, .inl (cI, 50, .inl (fun _ => 0))), (q11, .inr (2, [.int 1, .int 0, .ref q12, .ref q13])), (q12, .inl (cI, 50, .inl (fun _ => 0))), (q13, .inl (cI, 50, .inl (fun _ => 0)))] H := hP
  have hD : va_D A [(h0, .inr (1, [.ref q1, .ref q8, .ref q11, .null, .int 0, .null, .int 0, .int 0, .int 0])), (q1, .inr (0, [.int 0, .ref q2, .ref q3, .ref q4, .ref q5, .ref q6, .ref q7])), (q2, .inl (cI, 7, .inl (fun _ => 0))), (q3, .inl (cI, 7, .inl (fun _ => 0))), (q4, .inl (cI, 7, .inl (fun _ => 0))), (q5, .inl (cI, 7, .inl (fun _ => 0))), (q6, .inl (cI, 7, .inl (fun _ => 0))), (q7, .inl (cI, 7, .inl (fun _ => 0))), (q8, .inr (2, [.int 0, .int 0, .ref q9, .ref q10])), (q9, .inl (cI, 50, .inl (fun _ => 0))), (q10, .inl (cI, 50, .inl (fun _ => 0))), (q11, .inr (2, [.int 1, .int 0, .ref q12, .ref q13])), (q12, .inl (cI, 50, .inl (fun _ => 0))), (q13, .inl (cI, 50, .inl (fun _ => 0)))] := hD
  refine lv_aload_n (pc := 39) hx hb dX1_init_39 rfl (lv_at hl 0 rfl) ?_
  refine lv_bipush (pc := 40) (v := 50) hx hb dX1_init_40 (by decide) ?_
  refine k_newb (pc := 42) hx hb hts hK hP hD hS hA 1 rfl 50 (by decide) (by decide) (by decide) (Nat.le_of_ble_eq_true rfl) (Nat.le_of_ble_eq_true rfl) dX1_init_42 (fun q14 H hP hD hS => ?_)
  have hP : va_P D vwCl [(h0, .inr (1, [.ref q1, .ref q8, .ref q11, .null, .int 0, .null, .int 0, .int 0, .int 0])), (q1, .inr (0, [.int 0, .ref q2, .ref q3, .ref q4, .ref q5, .ref q6, .ref q7])), (q2, .inl (cI, 7, .inl (fun _ => 0))), (q3, .inl (cI, 7, .inl (fun _ => 0))), (q4, .inl (cI, 7, .inl (fun _ => 0))), (q5, .inl (cI, 7, .inl (fun _ => 0))), (q6, .inl (cI, 7, .inl (fun _ => 0))), (q7, .inl (cI, 7, .inl (fun _ => 0))), (q8, .inr (2, [.int 0, .int 0, .ref q9, .ref q10])), (q9, .inl (cI, 50, .inl (fun _ => 0))), (q10, .inl (cI, 50, .inl (fun _ => 0))), (q11, .inr (2, [.int 1, .int 0, .ref q12, .ref q13])), (q12, .inl (cI, 50, .inl (fun _ => 0))), (q13, .inl (cI, 50, .inl (fun _ => 0))), (q14, .inl (cB, 50, .inl (fun _ => 0)))] H := hP
  have hD : va_D A [(h0, .inr (1, [.ref q1, .ref q8, .ref q11, .null, .int 0, .null, .int 0, .int 0, .int 0])), (q1, .inr (0, [.int 0, .ref q2, .ref q3, .ref q4, .ref q5, .ref q6, .ref q7])), (q2, .inl (cI, 7, .inl (fun _ => 0))), (q3, .inl (cI, 7, .inl (fun _ => 0))), (q4, .inl (cI, 7, .inl (fun _ => 0))), (q5, .inl (cI, 7, .inl (fun _ => 0))), (q6, .inl (cI, 7, .inl (fun _ => 0))), (q7, .inl (cI, 7, .inl (fun _ => 0))), (q8, .inr (2, [.int 0, .int 0, .ref q9, .ref q10])), (q9, .inl (cI, 50, .inl (fun _ => 0))), (q10, .inl (cI, 50, .inl (fun _ => 0))), (q11, .inr (2, [.int 1, .int 0, .ref q12, .ref q13])), (q12, .inl (cI, 50, .inl (fun _ => 0))), (q13, .inl (cI, 50, .inl (fun _ => 0))), (q14, .inl (cB, 50, .inl (fun _ => 0)))] := hD
  refine va_putF (pc := 44) hx hb hts uwX1 tyX1 tyX1_ok nmX1 hown hK hP hD hS 0 rfl rfl 3 (by decide) (hts _ wd_95) (fun _ h => h) rfl hin rfl (tyX1_ok 3 (by decide)) rfl rfl (Nat.le_of_ble_eq_true rfl) dX1_init_44 (fun H locs hP hD hS => ?_)
  have hP : va_P D vwCl [(h0, .inr (1, [.ref q1, .ref q8, .ref q11, .ref q14, .int 0, .null, .int 0, .int 0, .int 0])), (q1, .inr (0, [.int 0, .ref q2, .ref q3, .ref q4, .ref q5, .ref q6, .ref q7])), (q2, .inl (cI, 7, .inl (fun _ => 0))), (q3, .inl (cI, 7, .inl (fun _ => 0))), (q4, .inl (cI, 7, .inl (fun _ => 0))), (q5, .inl (cI, 7, .inl (fun _ => 0))), (q6, .inl (cI, 7, .inl (fun _ => 0))), (q7, .inl (cI, 7, .inl (fun _ => 0))), (q8, .inr (2, [.int 0, .int 0, .ref q9, .ref q10])), (q9, .inl (cI, 50, .inl (fun _ => 0))), (q10, .inl (cI, 50, .inl (fun _ => 0))), (q11, .inr (2, [.int 1, .int 0, .ref q12, .ref q13])), (q12, .inl (cI, 50, .inl (fun _ => 0))), (q13, .inl (cI, 50, .inl (fun _ => 0))), (q14, .inl (cB, 50, .inl (fun _ => 0)))] H := hP
  have hD : va_D A [(h0, .inr (1, [.ref q1, .ref q8, .ref q11, .ref q14, .int 0, .null, .int 0, .int 0, .int 0])), (q1, .inr (0, [.int 0, .ref q2, .ref q3, .ref q4, .ref q5, .ref q6, .ref q7])), (q2, .inl (cI, 7, .inl (fun _ => 0))), (q3, .inl (cI, 7, .inl (fun _ => 0))), (q4, .inl (cI, 7, .inl (fun _ => 0))), (q5, .inl (cI, 7, .inl (fun _ => 0))), (q6, .inl (cI, 7, .inl (fun _ => 0))), (q7, .inl (cI, 7, .inl (fun _ => 0))), (q8, .inr (2, [.int 0, .int 0, .ref q9, .ref q10])), (q9, .inl (cI, 50, .inl (fun _ => 0))), (q10, .inl (cI, 50, .inl (fun _ => 0))), (q11, .inr (2, [.int 1, .int 0, .ref q12, .ref q13])), (q12, .inl (cI, 50, .inl (fun _ => 0))), (q13, .inl (cI, 50, .inl (fun _ => 0))), (q14, .inl (cB, 50, .inl (fun _ => 0)))] := hD
  refine lv_aload_n (pc := 47) hx hb dX1_init_47 rfl (lv_at hl 0 rfl) ?_
  refine lv_iconst (pc := 48) (v := 0) hx hb dX1_init_48 (by decide) ?_
  refine va_put (pc := 49) hx hb hts uwX1 tyX1 tyX1_ok nmX1 hown hK hP hD hS 0 rfl rfl 4 (by decide) (hts _ wd_97) (fun _ h => h) rfl (tyX1_ok 4 (by decide)) rfl rfl (Nat.le_of_ble_eq_true rfl) dX1_init_49 (fun H locs hP hD hS => ?_)
  have hP : va_P D vwCl [(h0, .inr (1, [.ref q1, .ref q8, .ref q11, .ref q14, .int 0, .null, .int 0, .int 0, .int 0])), (q1, .inr (0, [.int 0, .ref q2, .ref q3, .ref q4, .ref q5, .ref q6, .ref q7])), (q2, .inl (cI, 7, .inl (fun _ => 0))), (q3, .inl (cI, 7, .inl (fun _ => 0))), (q4, .inl (cI, 7, .inl (fun _ => 0))), (q5, .inl (cI, 7, .inl (fun _ => 0))), (q6, .inl (cI, 7, .inl (fun _ => 0))), (q7, .inl (cI, 7, .inl (fun _ => 0))), (q8, .inr (2, [.int 0, .int 0, .ref q9, .ref q10])), (q9, .inl (cI, 50, .inl (fun _ => 0))), (q10, .inl (cI, 50, .inl (fun _ => 0))), (q11, .inr (2, [.int 1, .int 0, .ref q12, .ref q13])), (q12, .inl (cI, 50, .inl (fun _ => 0))), (q13, .inl (cI, 50, .inl (fun _ => 0))), (q14, .inl (cB, 50, .inl (fun _ => 0)))] H := hP
  have hD : va_D A [(h0, .inr (1, [.ref q1, .ref q8, .ref q11, .ref q14, .int 0, .null, .int 0, .int 0, .int 0])), (q1, .inr (0, [.int 0, .ref q2, .ref q3, .ref q4, .ref q5, .ref q6, .ref q7])), (q2, .inl (cI, 7, .inl (fun _ => 0))), (q3, .inl (cI, 7, .inl (fun _ => 0))), (q4, .inl (cI, 7, .inl (fun _ => 0))), (q5, .inl (cI, 7, .inl (fun _ => 0))), (q6, .inl (cI, 7, .inl (fun _ => 0))), (q7, .inl (cI, 7, .inl (fun _ => 0))), (q8, .inr (2, [.int 0, .int 0, .ref q9, .ref q10])), (q9, .inl (cI, 50, .inl (fun _ => 0))), (q10, .inl (cI, 50, .inl (fun _ => 0))), (q11, .inr (2, [.int 1, .int 0, .ref q12, .ref q13])), (q12, .inl (cI, 50, .inl (fun _ => 0))), (q13, .inl (cI, 50, .inl (fun _ => 0))), (q14, .inl (cB, 50, .inl (fun _ => 0)))] := hD
  refine lv_aload_n (pc := 52) hx hb dX1_init_52 rfl (lv_at hl 0 rfl) ?_
  refine lv_bipush (pc := 53) (v := 20) hx hb dX1_init_53 (by decide) ?_
  refine k_newi (pc := 55) hx hb hts hK hP hD hS hA 0 rfl 20 (by decide) (by decide) (by decide) (Nat.le_of_ble_eq_true rfl) (Nat.le_of_ble_eq_true rfl) dX1_init_55 (fun q15 H hP hD hS => ?_)
  have hP : va_P D vwCl [(h0, .inr (1, [.ref q1, .ref q8, .ref q11, .ref q14, .int 0, .null, .int 0, .int 0, .int 0])), (q1, .inr (0, [.int 0, .ref q2, .ref q3, .ref q4, .ref q5, .ref q6, .ref q7])), (q2, .inl (cI, 7, .inl (fun _ => 0))), (q3, .inl (cI, 7, .inl (fun _ => 0))), (q4, .inl (cI, 7, .inl (fun _ => 0))), (q5, .inl (cI, 7, .inl (fun _ => 0))), (q6, .inl (cI, 7, .inl (fun _ => 0))), (q7, .inl (cI, 7, .inl (fun _ => 0))), (q8, .inr (2, [.int 0, .int 0, .ref q9, .ref q10])), (q9, .inl (cI, 50, .inl (fun _ => 0))), (q10, .inl (cI, 50, .inl (fun _ => 0))), (q11, .inr (2, [.int 1, .int 0, .ref q12, .ref q13])), (q12, .inl (cI, 50, .inl (fun _ => 0))), (q13, .inl (cI, 50, .inl (fun _ => 0))), (q14, .inl (cB, 50, .inl (fun _ => 0))), (q15, .inl (cI, 20, .inl (fun _ => 0)))] H := hP
  have hD : va_D A [(h0, .inr (1, [.ref q1, .ref q8, .ref q11, .ref q14, .int 0, .null, .int 0, .int 0, .int 0])), (q1, .inr (0, [.int 0, .ref q2, .ref q3, .ref q4, .ref q5, .ref q6, .ref q7])), (q2, .inl (cI, 7, .inl (fun _ => 0))), (q3, .inl (cI, 7, .inl (fun _ => 0))), (q4, .inl (cI, 7, .inl (fun _ => 0))), (q5, .inl (cI, 7, .inl (fun _ => 0))), (q6, .inl (cI, 7, .inl (fun _ => 0))), (q7, .inl (cI, 7, .inl (fun _ => 0))), (q8, .inr (2, [.int 0, .int 0, .ref q9, .ref q10])), (q9, .inl (cI, 50, .inl (fun _ => 0))), (q10, .inl (cI, 50, .inl (fun _ => 0))), (q11, .inr (2, [.int 1, .int 0, .ref q12, .ref q13])), (q12, .inl (cI, 50, .inl (fun _ => 0))), (q13, .inl (cI, 50, .inl (fun _ => 0))), (q14, .inl (cB, 50, .inl (fun _ => 0))), (q15, .inl (cI, 20, .inl (fun _ => 0)))] := hD
  refine va_putF (pc := 57) hx hb hts uwX1 tyX1 tyX1_ok nmX1 hown hK hP hD hS 0 rfl rfl 5 (by decide) (hts _ wd_99) (fun _ h => h) rfl hin rfl (tyX1_ok 5 (by decide)) rfl rfl (Nat.le_of_ble_eq_true rfl) dX1_init_57 (fun H locs hP hD hS => ?_)
  have hP : va_P D vwCl [(h0, .inr (1, [.ref q1, .ref q8, .ref q11, .ref q14, .int 0, .ref q15, .int 0, .int 0, .int 0])), (q1, .inr (0, [.int 0, .ref q2, .ref q3, .ref q4, .ref q5, .ref q6, .ref q7])), (q2, .inl (cI, 7, .inl (fun _ => 0))), (q3, .inl (cI, 7, .inl (fun _ => 0))), (q4, .inl (cI, 7, .inl (fun _ => 0))), (q5, .inl (cI, 7, .inl (fun _ => 0))), (q6, .inl (cI, 7, .inl (fun _ => 0))), (q7, .inl (cI, 7, .inl (fun _ => 0))), (q8, .inr (2, [.int 0, .int 0, .ref q9, .ref q10])), (q9, .inl (cI, 50, .inl (fun _ => 0))), (q10, .inl (cI, 50, .inl (fun _ => 0))), (q11, .inr (2, [.int 1, .int 0, .ref q12, .ref q13])), (q12, .inl (cI, 50, .inl (fun _ => 0))), (q13, .inl (cI, 50, .inl (fun _ => 0))), (q14, .inl (cB, 50, .inl (fun _ => 0))), (q15, .inl (cI, 20, .inl (fun _ => 0)))] H := hP
  have hD : va_D A [(h0, .inr (1, [.ref q1, .ref q8, .ref q11, .ref q14, .int 0, .ref q15, .int 0, .int 0, .int 0])), (q1, .inr (0, [.int 0, .ref q2, .ref q3, .ref q4, .ref q5, .ref q6, .ref q7])), (q2, .inl (cI, 7, .inl (fun _ => 0))), (q3, .inl (cI, 7, .inl (fun _ => 0))), (q4, .inl (cI, 7, .inl (fun _ => 0))), (q5, .inl (cI, 7, .inl (fun _ => 0))), (q6, .inl (cI, 7, .inl (fun _ => 0))), (q7, .inl (cI, 7, .inl (fun _ => 0))), (q8, .inr (2, [.int 0, .int 0, .ref q9, .ref q10])), (q9, .inl (cI, 50, .inl (fun _ => 0))), (q10, .inl (cI, 50, .inl (fun _ => 0))), (q11, .inr (2, [.int 1, .int 0, .ref q12, .ref q13])), (q12, .inl (cI, 50, .inl (fun _ => 0))), (q13, .inl (cI, 50, .inl (fun _ => 0))), (q14, .inl (cB, 50, .inl (fun _ => 0))), (q15, .inl (cI, 20, .inl (fun _ => 0)))] := hD
  refine lv_aload_n (pc := 60) hx hb dX1_init_60 rfl (lv_at hl 0 rfl) ?_
  refine lv_iconst (pc := 61) (v := 0) hx hb dX1_init_61 (by decide) ?_
  refine va_put (pc := 62) hx hb hts uwX1 tyX1 tyX1_ok nmX1 hown hK hP hD hS 0 rfl rfl 6 (by decide) (hts _ wd_101) (fun _ h => h) rfl (tyX1_ok 6 (by decide)) rfl rfl (Nat.le_of_ble_eq_true rfl) dX1_init_62 (fun H locs hP hD hS => ?_)
  have hP : va_P D vwCl [(h0, .inr (1, [.ref q1, .ref q8, .ref q11, .ref q14, .int 0, .ref q15, .int 0, .int 0, .int 0])), (q1, .inr (0, [.int 0, .ref q2, .ref q3, .ref q4, .ref q5, .ref q6, .ref q7])), (q2, .inl (cI, 7, .inl (fun _ => 0))), (q3, .inl (cI, 7, .inl (fun _ => 0))), (q4, .inl (cI, 7, .inl (fun _ => 0))), (q5, .inl (cI, 7, .inl (fun _ => 0))), (q6, .inl (cI, 7, .inl (fun _ => 0))), (q7, .inl (cI, 7, .inl (fun _ => 0))), (q8, .inr (2, [.int 0, .int 0, .ref q9, .ref q10])), (q9, .inl (cI, 50, .inl (fun _ => 0))), (q10, .inl (cI, 50, .inl (fun _ => 0))), (q11, .inr (2, [.int 1, .int 0, .ref q12, .ref q13])), (q12, .inl (cI, 50, .inl (fun _ => 0))), (q13, .inl (cI, 50, .inl (fun _ => 0))), (q14, .inl (cB, 50, .inl (fun _ => 0))), (q15, .inl (cI, 20, .inl (fun _ => 0)))] H := hP
  have hD : va_D A [(h0, .inr (1, [.ref q1, .ref q8, .ref q11, .ref q14, .int 0, .ref q15, .int 0, .int 0, .int 0])), (q1, .inr (0, [.int 0, .ref q2, .ref q3, .ref q4, .ref q5, .ref q6, .ref q7])), (q2, .inl (cI, 7, .inl (fun _ => 0))), (q3, .inl (cI, 7, .inl (fun _ => 0))), (q4, .inl (cI, 7, .inl (fun _ => 0))), (q5, .inl (cI, 7, .inl (fun _ => 0))), (q6, .inl (cI, 7, .inl (fun _ => 0))), (q7, .inl (cI, 7, .inl (fun _ => 0))), (q8, .inr (2, [.int 0, .int 0, .ref q9, .ref q10])), (q9, .inl (cI, 50, .inl (fun _ => 0))), (q10, .inl (cI, 50, .inl (fun _ => 0))), (q11, .inr (2, [.int 1, .int 0, .ref q12, .ref q13])), (q12, .inl (cI, 50, .inl (fun _ => 0))), (q13, .inl (cI, 50, .inl (fun _ => 0))), (q14, .inl (cB, 50, .inl (fun _ => 0))), (q15, .inl (cI, 20, .inl (fun _ => 0)))] := hD
  refine lv_aload_n (pc := 65) hx hb dX1_init_65 rfl (lv_at hl 0 rfl) ?_
  refine lv_iconst (pc := 66) (v := 0) hx hb dX1_init_66 (by decide) ?_
  refine va_put (pc := 67) hx hb hts uwX1 tyX1 tyX1_ok nmX1 hown hK hP hD hS 0 rfl rfl 7 (by decide) (hts _ wd_103) (fun _ h => h) rfl (tyX1_ok 7 (by decide)) rfl rfl (Nat.le_of_ble_eq_true rfl) dX1_init_67 (fun H locs hP hD hS => ?_)
  have hP : va_P D vwCl [(h0, .inr (1, [.ref q1, .ref q8, .ref q11, .ref q14, .int 0, .ref q15, .int 0, .int 0, .int 0])), (q1, .inr (0, [.int 0, .ref q2, .ref q3, .ref q4, .ref q5, .ref q6, .ref q7])), (q2, .inl (cI, 7, .inl (fun _ => 0))), (q3, .inl (cI, 7, .inl (fun _ => 0))), (q4, .inl (cI, 7, .inl (fun _ => 0))), (q5, .inl (cI, 7, .inl (fun _ => 0))), (q6, .inl (cI, 7, .inl (fun _ => 0))), (q7, .inl (cI, 7, .inl (fun _ => 0))), (q8, .inr (2, [.int 0, .int 0, .ref q9, .ref q10])), (q9, .inl (cI, 50, .inl (fun _ => 0))), (q10, .inl (cI, 50, .inl (fun _ => 0))), (q11, .inr (2, [.int 1, .int 0, .ref q12, .ref q13])), (q12, .inl (cI, 50, .inl (fun _ => 0))), (q13, .inl (cI, 50, .inl (fun _ => 0))), (q14, .inl (cB, 50, .inl (fun _ => 0))), (q15, .inl (cI, 20, .inl (fun _ => 0)))] H := hP
  have hD : va_D A [(h0, .inr (1, [.ref q1, .ref q8, .ref q11, .ref q14, .int 0, .ref q15, .int 0, .int 0, .int 0])), (q1, .inr (0, [.int 0, .ref q2, .ref q3, .ref q4, .ref q5, .ref q6, .ref q7])), (q2, .inl (cI, 7, .inl (fun _ => 0))), (q3, .inl (cI, 7, .inl (fun _ => 0))), (q4, .inl (cI, 7, .inl (fun _ => 0))), (q5, .inl (cI, 7, .inl (fun _ => 0))), (q6, .inl (cI, 7, .inl (fun _ => 0))), (q7, .inl (cI, 7, .inl (fun _ => 0))), (q8, .inr (2, [.int 0, .int 0, .ref q9, .ref q10])), (q9, .inl (cI, 50, .inl (fun _ => 0))), (q10, .inl (cI, 50, .inl (fun _ => 0))), (q11, .inr (2, [.int 1, .int 0, .ref q12, .ref q13])), (q12, .inl (cI, 50, .inl (fun _ => 0))), (q13, .inl (cI, 50, .inl (fun _ => 0))), (q14, .inl (cB, 50, .inl (fun _ => 0))), (q15, .inl (cI, 20, .inl (fun _ => 0)))] := hD
  refine lv_aload_n (pc := 70) hx hb dX1_init_70 rfl (lv_at hl 0 rfl) ?_
  refine lv_iconst (pc := 71) (v := 1) hx hb dX1_init_71 (by decide) ?_
  refine va_put (pc := 72) hx hb hts uwX1 tyX1 tyX1_ok nmX1 hown hK hP hD hS 0 rfl rfl 8 (by decide) (hts _ wd_105) (fun _ h => h) rfl (tyX1_ok 8 (by decide)) rfl rfl (Nat.le_of_ble_eq_true rfl) dX1_init_72 (fun H locs hP hD hS => ?_)
  have hP : va_P D vwCl [(h0, .inr (1, [.ref q1, .ref q8, .ref q11, .ref q14, .int 0, .ref q15, .int 0, .int 0, .int 1])), (q1, .inr (0, [.int 0, .ref q2, .ref q3, .ref q4, .ref q5, .ref q6, .ref q7])), (q2, .inl (cI, 7, .inl (fun _ => 0))), (q3, .inl (cI, 7, .inl (fun _ => 0))), (q4, .inl (cI, 7, .inl (fun _ => 0))), (q5, .inl (cI, 7, .inl (fun _ => 0))), (q6, .inl (cI, 7, .inl (fun _ => 0))), (q7, .inl (cI, 7, .inl (fun _ => 0))), (q8, .inr (2, [.int 0, .int 0, .ref q9, .ref q10])), (q9, .inl (cI, 50, .inl (fun _ => 0))), (q10, .inl (cI, 50, .inl (fun _ => 0))), (q11, .inr (2, [.int 1, .int 0, .ref q12, .ref q13])), (q12, .inl (cI, 50, .inl (fun _ => 0))), (q13, .inl (cI, 50, .inl (fun _ => 0))), (q14, .inl (cB, 50, .inl (fun _ => 0))), (q15, .inl (cI, 20, .inl (fun _ => 0)))] H := hP
  have hD : va_D A [(h0, .inr (1, [.ref q1, .ref q8, .ref q11, .ref q14, .int 0, .ref q15, .int 0, .int 0, .int 1])), (q1, .inr (0, [.int 0, .ref q2, .ref q3, .ref q4, .ref q5, .ref q6, .ref q7])), (q2, .inl (cI, 7, .inl (fun _ => 0))), (q3, .inl (cI, 7, .inl (fun _ => 0))), (q4, .inl (cI, 7, .inl (fun _ => 0))), (q5, .inl (cI, 7, .inl (fun _ => 0))), (q6, .inl (cI, 7, .inl (fun _ => 0))), (q7, .inl (cI, 7, .inl (fun _ => 0))), (q8, .inr (2, [.int 0, .int 0, .ref q9, .ref q10])), (q9, .inl (cI, 50, .inl (fun _ => 0))), (q10, .inl (cI, 50, .inl (fun _ => 0))), (q11, .inr (2, [.int 1, .int 0, .ref q12, .ref q13])), (q12, .inl (cI, 50, .inl (fun _ => 0))), (q13, .inl (cI, 50, .inl (fun _ => 0))), (q14, .inl (cB, 50, .inl (fun _ => 0))), (q15, .inl (cI, 20, .inl (fun _ => 0)))] := hD
  have hP9 := hP.sub (ws' := [(h0, .inr (1, [.ref q1, .ref q8, .ref q11, .ref q14, .int 0, .ref q15, .int 0, .int 0, .int 1])), (q1, .inr (0, [.int 0, .ref q2, .ref q3, .ref q4, .ref q5, .ref q6, .ref q7])), (q2, .inl (cI, 7, .inl (fun _ => 0))), (q3, .inl (cI, 7, .inl (fun _ => 0))), (q4, .inl (cI, 7, .inl (fun _ => 0))), (q5, .inl (cI, 7, .inl (fun _ => 0))), (q6, .inl (cI, 7, .inl (fun _ => 0))), (q7, .inl (cI, 7, .inl (fun _ => 0))), (q8, .inr (2, [.int 0, .int 0, .ref q9, .ref q10])), (q9, .inl (cI, 50, .inl (fun _ => 0))), (q10, .inl (cI, 50, .inl (fun _ => 0))), (q11, .inr (2, [.int 1, .int 0, .ref q12, .ref q13])), (q12, .inl (cI, 50, .inl (fun _ => 0))), (q13, .inl (cI, 50, .inl (fun _ => 0))), (q14, .inl (cB, 50, .inl (fun _ => 0))), (q15, .inl (cI, 20, .inl (fun _ => 0)))]) [0, 1, 2, 3, 4, 5, 6, 7, 8, 9, 10, 11, 12, 13, 14, 15] rfl
  have hD9 := hD.sub (ws' := [(h0, .inr (1, [.ref q1, .ref q8, .ref q11, .ref q14, .int 0, .ref q15, .int 0, .int 0, .int 1])), (q1, .inr (0, [.int 0, .ref q2, .ref q3, .ref q4, .ref q5, .ref q6, .ref q7])), (q2, .inl (cI, 7, .inl (fun _ => 0))), (q3, .inl (cI, 7, .inl (fun _ => 0))), (q4, .inl (cI, 7, .inl (fun _ => 0))), (q5, .inl (cI, 7, .inl (fun _ => 0))), (q6, .inl (cI, 7, .inl (fun _ => 0))), (q7, .inl (cI, 7, .inl (fun _ => 0))), (q8, .inr (2, [.int 0, .int 0, .ref q9, .ref q10])), (q9, .inl (cI, 50, .inl (fun _ => 0))), (q10, .inl (cI, 50, .inl (fun _ => 0))), (q11, .inr (2, [.int 1, .int 0, .ref q12, .ref q13])), (q12, .inl (cI, 50, .inl (fun _ => 0))), (q13, .inl (cI, 50, .inl (fun _ => 0))), (q14, .inl (cB, 50, .inl (fun _ => 0))), (q15, .inl (cI, 20, .inl (fun _ => 0)))]) [0, 1, 2, 3, 4, 5, 6, 7, 8, 9, 10, 11, 12, 13, 14, 15] (by decide) rfl
  subst hAe
  exact k_ret (pc := 75) hC hS (fun t ht => ⟨q1, q2, q3, q4, q5, q6, q7, q8, q9, q10, q11, q12, q13, q14, q15, by rw [ht]; exact hP9, hD9⟩) dX1_init_75
