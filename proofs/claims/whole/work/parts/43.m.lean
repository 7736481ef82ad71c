def fX7_growsNow (v1 : Int32) (σ : rp_St) : Option (Int32 × rp_St) :=
  rp_bd (fX7_guestIs v1 1 σ) (fun r1 σ2 => rp_nm (1 + (r1 - r1 / 3 * 3)) (fun x3 => rp_bd (fX7_guestIs v1 0 σ2) (fun r4 σ5 => (if r4 = 1 then some (x3, σ5) else (if r4 = 2 then some (2, σ5) else (if r4 = 3 then some (0, σ5) else (if r4 = 4 then rp_bd (fX7_guestIs v1 3 σ5) (fun r6 σ7 => (if r6 = 0 then some ((4 * x3), σ7) else some (x3, σ7))) else (if r4 = 5 then rp_gu (rp_in 1 221) (rp_bd (fX7_pegOf v1 σ5) (fun r8 σ9 => some ((((2 + (σ5 1 (1 : Int32).toNatClampNeg)) - 1) - r8), σ9))) else (if r4 = 6 then some ((-r1), σ5) else some (1, σ5))))))))))
set_option maxRecDepth 100000 in
set_option maxHeartbeats 4000000 in
theorem kX7_growsNow_0 {p : Program} {l : Launch} {e : Env} {s : State} {m : MethodId} {args : Array Value} {below : List Frame} {meth : Method} {c : Code} {D : va_G} {cI cT : ClassId} {ad av a : Nat → Nat} {res : Int32 × rp_St} (hC : mC p s m args meth c cX7_growsNow 4 "RegretPegsModel" (some .int) D cI cT ad av a) (v1 : Int32) (σ : rp_St) (H : Heap) (locs : List Loc) (ls : Array Slot) (hF : fX7_growsNow v1 σ = some res) (hw : mW D cI cT ad av a s σ H locs) (hl : lv_has ls 4 [(0, .ref (a 0)), (1, .int v1)]) : W p l e (rp_rm 3) s m args below meth c H locs 0 0 (MQ below (rp_Qi D a (mt cI cT ad a) 15 res) args s 0 0 (rp_A a 15)) (F0 m 0 ls []) := by
  have hx := hC.1
  have hb := hC.2.1
  have hown := hC.2.2.2.1
  have hts := hC.2.2.2.2.1
  unfold fX7_growsNow at hF
  refine lv_aload_n (pc := 0) hx hb dX7_growsNow_0 rfl (lv_at hl 0 rfl) ?_
  refine lv_iload_n (pc := 1) hx hb dX7_growsNow_1 rfl (lv_at hl 1 rfl) ?_
  refine lv_iconst (pc := 2) (v := 1) hx hb dX7_growsNow_2 (by decide) ?_
  obtain ⟨r1, σ2, hq, hF⟩ := rp_bd_e hF
  refine rp_ki (rp_runV (rest := []) hC (mE_ok _) hw hl.1 (mX7_guestIs (l := l) v1 1 σ _ hq) vw_X7_165 (by decide) (mt_obj _) rfl rfl rfl (Nat.le_of_ble_eq_true rfl) (by decide) dX7_growsNow_3) hw (fun H locs hw => ?_)
  clear hq
  refine lv_istore_n (pc := 6) (lv' := [(2, .int r1), (0, .ref (a 0)), (1, .int v1)]) hx hb dX7_growsNow_6 rfl hl (by decide) rfl (fun ls hl => ?_)
  refine lv_iconst (pc := 7) (v := 1) hx hb dX7_growsNow_7 (by decide) ?_
  refine lv_iload_n (pc := 8) hx hb dX7_growsNow_8 rfl (lv_at hl 0 rfl) ?_
  refine lv_iconst (pc := 9) (v := 3) hx hb dX7_growsNow_9 (by decide) ?_
  refine lv_irem (pc := 10) hx hb dX7_growsNow_10 (by decide) ?_
  refine lv_iadd (pc := 11) hx hb dX7_growsNow_11 ?_
  obtain ⟨x3, ex3, hF⟩ := rp_nm_e hF
  refine rp_top ex3 ?_
  refine lv_istore_n (pc := 12) (lv' := [(3, .int x3), (2, .int r1), (0, .ref (a 0)), (1, .int v1)]) hx hb dX7_growsNow_12 rfl hl (by decide) rfl (fun ls hl => ?_)
  refine lv_aload_n (pc := 13) hx hb dX7_growsNow_13 rfl (lv_at hl 2 rfl) ?_
  refine lv_iload_n (pc := 14) hx hb dX7_growsNow_14 rfl (lv_at hl 3 rfl) ?_
  refine lv_iconst (pc := 15) (v := 0) hx hb dX7_growsNow_15 (by decide) ?_
  obtain ⟨r4, σ5, hq, hF⟩ := rp_bd_e hF
  refine rp_ki (rp_runV (rest := []) hC (mE_ok _) hw hl.1 (mX7_guestIs (l := l) v1 0 σ2 _ hq) vw_X7_165 (by decide) (mt_obj _) rfl rfl rfl (Nat.le_of_ble_eq_true rfl) (by decide) dX7_growsNow_16) hw (fun H locs hw => ?_)
  clear hq
  by_cases hs19_0 : r4 = 1
  · replace hF := rp_it hs19_0 hF
    refine lv_tableIn (pc := 19) (off := 37) (tgt := 56) hx hb dX7_growsNow_19 (by rw [hs19_0]; decide) (by rw [hs19_0]; decide) (by rw [hs19_0]; decide +kernel) (by decide) ?_
    refine lv_iload_n (pc := 56) hx hb dX7_growsNow_56 rfl (lv_at hl 0 rfl) ?_
    exact rp_reti (pc := 57) hC hw hF dX7_growsNow_57
  replace hF := rp_if hs19_0 hF
  by_cases hs19_1 : r4 = 2
  · replace hF := rp_it hs19_1 hF
    refine lv_tableIn (pc := 19) (off := 56) (tgt := 75) hx hb dX7_growsNow_19 (by rw [hs19_1]; decide) (by rw [hs19_1]; decide) (by rw [hs19_1]; decide +kernel) (by decide) ?_
    refine lv_iconst (pc := 75) (v := 2) hx hb dX7_growsNow_75 (by decide) ?_
    exact rp_reti (pc := 76) hC hw hF dX7_growsNow_76
  replace hF := rp_if hs19_1 hF
  by_cases hs19_2 : r4 = 3
  · replace hF := rp_it hs19_2 hF
    refine lv_tableIn (pc := 19) (off := 75) (tgt := 94) hx hb dX7_growsNow_19 (by rw [hs19_2]; decide) (by rw [hs19_2]; decide) (by rw [hs19_2]; decide +kernel) (by decide) ?_
    refine lv_iconst (pc := 94) (v := 0) hx hb dX7_growsNow_94 (by decide) ?_
    exact rp_reti (pc := 95) hC hw hF dX7_growsNow_95
  replace hF := rp_if hs19_2 hF
  by_cases hs19_3 : r4 = 4
  · replace hF := rp_it hs19_3 hF
    refine lv_tableIn (pc := 19) (off := 39) (tgt := 58) hx hb dX7_growsNow_19 (by rw [hs19_3]; decide) (by rw [hs19_3]; decide) (by rw [hs19_3]; decide +kernel) (by decide) ?_
    refine lv_aload_n (pc := 58) hx hb dX7_growsNow_58 rfl (lv_at hl 2 rfl) ?_
    refine lv_iload_n (pc := 59) hx hb dX7_growsNow_59 rfl (lv_at hl 3 rfl) ?_
    refine lv_iconst (pc := 60) (v := 3) hx hb dX7_growsNow_60 (by decide) ?_
    obtain ⟨r6, σ7, hq, hF⟩ := rp_bd_e hF
    refine rp_ki (rp_runV (rest := []) hC (mE_ok _) hw hl.1 (mX7_guestIs (l := l) v1 3 σ5 _ hq) vw_X7_165 (by decide) (mt_obj _) rfl rfl rfl (Nat.le_of_ble_eq_true rfl) (by decide) dX7_growsNow_61) hw (fun H locs hw => ?_)
    clear hq
    refine lv_if_ne (pc := 64) (tgt := 73) hx hb dX7_growsNow_64 (by decide) (fun hc => ?_) (fun hc => ?_)
    · replace hF := rp_if hc hF
      refine lv_iload_n (pc := 73) hx hb dX7_growsNow_73 rfl (lv_at hl 0 rfl) ?_
      exact rp_reti (pc := 74) hC hw hF dX7_growsNow_74
    · replace hF := rp_it hc hF
      refine lv_iconst (pc := 67) (v := 4) hx hb dX7_growsNow_67 (by decide) ?_
      refine lv_iload_n (pc := 68) hx hb dX7_growsNow_68 rfl (lv_at hl 0 rfl) ?_
      refine lv_imul (pc := 69) hx hb dX7_growsNow_69 ?_
      refine lv_goto (pc := 70) (tgt := 74) hx hb dX7_growsNow_70 (by decide) ?_
      exact rp_reti (pc := 74) hC hw hF dX7_growsNow_74
  replace hF := rp_if hs19_3 hF
  by_cases hs19_4 : r4 = 5
  · replace hF := rp_it hs19_4 hF
    refine lv_tableIn (pc := 19) (off := 58) (tgt := 77) hx hb dX7_growsNow_19 (by rw [hs19_4]; decide) (by rw [hs19_4]; decide) (by rw [hs19_4]; decide +kernel) (by decide) ?_
    refine lv_iconst (pc := 77) (v := 2) hx hb dX7_growsNow_77 (by decide) ?_
    refine lv_aload_n (pc := 78) hx hb dX7_growsNow_78 rfl (lv_at hl 2 rfl) ?_
    refine rp_get (pc := 79) hC hw 0 (by decide) (mt_obj _) fl_X7_9 (.ref (a 1)) rfl dX7_growsNow_79 ?_
    refine lv_iconst (pc := 82) (v := 1) hx hb dX7_growsNow_82 (by decide) ?_
    obtain ⟨hg, hF⟩ := rp_gu_e hF
    refine rp_ald (pc := 83) hC hw 1 (by decide) (mt_arr 1 221 rfl) 0 rfl hg dX7_growsNow_83 ?_
    refine lv_iadd (pc := 84) hx hb dX7_growsNow_84 ?_
    refine lv_iconst (pc := 85) (v := 1) hx hb dX7_growsNow_85 (by decide) ?_
    refine lv_isub (pc := 86) hx hb dX7_growsNow_86 ?_
    refine lv_aload_n (pc := 87) hx hb dX7_growsNow_87 rfl (lv_at hl 2 rfl) ?_
    refine lv_iload_n (pc := 88) hx hb dX7_growsNow_88 rfl (lv_at hl 3 rfl) ?_
    obtain ⟨r8, σ9, hq, hF⟩ := rp_bd_e hF
    refine rp_ki (rp_runV (rest := [.int ((2 + (σ5 1 (1 : Int32).toNatClampNeg)) - 1)]) hC (mE_ok _) hw hl.1 (mX7_pegOf (l := l) v1 σ5 _ hq) vw_X7_180 (by decide) (mt_obj _) rfl rfl rfl (Nat.le_of_ble_eq_true rfl) (by decide) dX7_growsNow_89) hw (fun H locs hw => ?_)
    clear hq
    refine lv_isub (pc := 92) hx hb dX7_growsNow_92 ?_
    exact rp_reti (pc := 93) hC hw hF dX7_growsNow_93
  replace hF := rp_if hs19_4 hF
  by_cases hs19_5 : r4 = 6
  · replace hF := rp_it hs19_5 hF
    refine lv_tableIn (pc := 19) (off := 77) (tgt := 96) hx hb dX7_growsNow_19 (by rw [hs19_5]; decide) (by rw [hs19_5]; decide) (by rw [hs19_5]; decide +kernel) (by decide) ?_
    refine lv_iload_n (pc := 96) hx hb dX7_growsNow_96 rfl (lv_at hl 1 rfl) ?_
    refine lv_ineg (pc := 97) hx hb dX7_growsNow_97 ?_
    exact rp_reti (pc := 98) hC hw hF dX7_growsNow_98
  replace hF := rp_if hs19_5 hF
  refine lv_tableOut (pc := 19) (tgt := 99) hx hb dX7_growsNow_19 (by have := rp_ne 1 1 (by decide) hs19_0; have := rp_ne 2 2 (by decide) hs19_1; have := rp_ne 3 3 (by decide) hs19_2; have := rp_ne 4 4 (by decide) hs19_3; have := rp_ne 5 5 (by decide) hs19_4; have := rp_ne 6 6 (by decide) hs19_5; omega) (by decide) ?_
  refine lv_iconst (pc := 99) (v := 1) hx hb dX7_growsNow_99 (by decide) ?_
  exact rp_reti (pc := 100) hC hw hF dX7_growsNow_100
theorem mX7_growsNow {l : Launch} {D : va_G} {cI cT : ClassId} {ad av a : Nat → Nat} (v1 : Int32) (σ : rp_St) (res : Int32 × rp_St) (hF : fX7_growsNow v1 σ = some res) : mM l D cI cT ad av a yX7_growsNow cX7_growsNow 4 (some .int) 3 [.ref (a 0), .int v1] σ (rp_Qi D a (mt cI cT ad a) 15 res) :=
  rp_entry (by decide) (Nat.le_of_ble_eq_true rfl) (fun p e s m below meth c ls hC hw hl => kX7_growsNow_0 hC v1 σ _ _ _ hF hw (lv_sub hl [0, 1] rfl))
def fX7_ofGuest_18 (σ : rp_St) : Option (Int32 × rp_St) :=
  rp_bd (fX7_finding (-1000000001) σ) (fun r1 σ2 => some (r1, σ2))
set_option maxRecDepth 100000 in
set_option maxHeartbeats 4000000 in
theorem kX7_ofGuest_18 {p : Program} {l : Launch} {e : Env} {s : State} {m : MethodId} {args : Array Value} {below : List Frame} {meth : Method} {c : Code} {D : va_G} {cI cT : ClassId} {ad av a : Nat → Nat} {res : Int32 × rp_St} (hC : mC p s m args meth c cX7_ofGuest 3 "RegretPegsModel" (some .int) D cI cT ad av a) (σ : rp_St) (H : Heap) (locs : List Loc) (ls : Array Slot) (hF : fX7_ofGuest_18 σ = some res) (hw : mW D cI cT ad av a s σ H locs) (hl : lv_has ls 3 [(0, .ref (a 0))]) : W p l e (rp_rm 4) s m args below meth c H locs 0 0 (MQ below (rp_Qi D a (mt cI cT ad a) 15 res) args s 0 0 (rp_A a 15)) (F0 m 18 ls []) := by
  have hx := hC.1
  have hb := hC.2.1
  have hown := hC.2.2.2.1
  have hts := hC.2.2.2.2.1
  unfold fX7_ofGuest_18 at hF
  refine lv_aload_n (pc := 18) hx hb dX7_ofGuest_18 rfl (lv_at hl 0 rfl) ?_
  refine lv_ldc (pc := 19) (v := (-1000000001)) hx hb hown (hts _ wd_721) dX7_ofGuest_19 ?_
  obtain ⟨r1, σ2, hq, hF⟩ := rp_bd_e hF
  refine rp_ki (rp_runV (rest := []) hC (mE_ok _) hw hl.1 (mX7_finding (l := l) (-1000000001) σ _ hq) vw_X7_78 (by decide) (mt_obj _) rfl rfl rfl (Nat.le_of_ble_eq_true rfl) (by decide) dX7_ofGuest_21) hw (fun H locs hw => ?_)
  clear hq
  exact rp_reti (pc := 24) hC hw hF dX7_ofGuest_24
def fX7_ofGuest (v1 : Int32) (v2 : Int32) (σ : rp_St) : Option (Int32 × rp_St) :=
  rp_bd (fX7_isGuest v1 σ) (fun r1 σ2 => (if r1 = 0 then fX7_ofGuest_18 σ2 else rp_bd (fX7_within v2 0 6 σ2) (fun r3 σ4 => (if r3 = 0 then fX7_ofGuest_18 σ4 else (if 5 ≤ v2 then (if v2 = 5 then rp_bd (fX7_pegOf v1 σ4) (fun r7 σ8 => some (r7, σ8)) else rp_bd (fX7_growsNow v1 σ4) (fun r5 σ6 => some (r5, σ6))) else rp_bd (fX7_guestIs v1 v2 σ4) (fun r9 σ10 => some (r9, σ10)))))))
set_option maxRecDepth 100000 in
set_option maxHeartbeats 4000000 in
theorem kX7_ofGuest_0 {p : Program} {l : Launch} {e : Env} {s : State} {m : MethodId} {args : Array Value} {below : List Frame} {meth : Method} {c : Code} {D : va_G} {cI cT : ClassId} {ad av a : Nat → Nat} {res : Int32 × rp_St} (hC : mC p s m args meth c cX7_ofGuest 3 "RegretPegsModel" (some .int) D cI cT ad av a) (v1 : Int32) (v2 : Int32) (σ : rp_St) (H : Heap) (locs : List Loc) (ls : Array Slot) (hF : fX7_ofGuest v1 v2 σ = some res) (hw : mW D cI cT ad av a s σ H locs) (hl : lv_has ls 3 [(0, .ref (a 0)), (1, .int v1), (2, .int v2)]) : W p l e (rp_rm 4) s m args below meth c H locs 0 0 (MQ below (rp_Qi D a (mt cI cT ad a) 15 res) args s 0 0 (rp_A a 15)) (F0 m 0 ls []) := by
  have hx := hC.1
  have hb := hC.2.1
  have hown := hC.2.2.2.1
  have hts := hC.2.2.2.2.1
  unfold fX7_ofGuest at hF
  refine lv_aload_n (pc := 0) hx hb dX7_ofGuest_0 rfl (lv_at hl 0 rfl) ?_
  refine lv_iload_n (pc := 1) hx hb dX7_ofGuest_1 rfl (lv_at hl 1 rfl) ?_
  obtain ⟨r1, σ2, hq, hF⟩ := rp_bd_e hF
  refine rp_ki (rp_runV (rest := []) hC (mE_ok _) hw hl.1 (mX7_isGuest (l := l) v1 σ _ hq) vw_X7_159 (by decide) (mt_obj _) rfl rfl rfl (Nat.le_of_ble_eq_true rfl) (by decide) dX7_ofGuest_2) hw (fun H locs hw => ?_)
  clear hq
  refine lv_if_eq (pc := 5) (tgt := 18) hx hb dX7_ofGuest_5 (by decide) (fun hc => ?_) (fun hc => ?_)
  · replace hF := rp_it hc hF
    exact kX7_ofGuest_18 hC σ2 _ _ _ hF hw (lv_sub hl [0] rfl)
  · replace hF := rp_if hc hF
    refine lv_iload_n (pc := 8) hx hb dX7_ofGuest_8 rfl (lv_at hl 2 rfl) ?_
    refine lv_iconst (pc := 9) (v := 0) hx hb dX7_ofGuest_9 (by decide) ?_
    refine lv_bipush (pc := 10) (v := 6) hx hb dX7_ofGuest_10 (by decide) ?_
    obtain ⟨r3, σ4, hq, hF⟩ := rp_bd_e hF
    refine rp_ki (rp_runZ (rest := []) hC (mE_ok _) hw hl.1 (mX7_within (l := l) v2 0 6 σ2 _ hq) zw_X7_73 rfl rfl (Nat.le_of_ble_eq_true rfl) (by decide) dX7_ofGuest_12) hw (fun H locs hw => ?_)
    clear hq
    refine lv_if_ne (pc := 15) (tgt := 25) hx hb dX7_ofGuest_15 (by decide) (fun hc => ?_) (fun hc => ?_)
    · replace hF := rp_if hc hF
      refine lv_iload_n (pc := 25) hx hb dX7_ofGuest_25 rfl (lv_at hl 2 rfl) ?_
      refine lv_iconst (pc := 26) (v := 5) hx hb dX7_ofGuest_26 (by decide) ?_
      refine lv_icmp_ge (pc := 27) (tgt := 39) hx hb dX7_ofGuest_27 (by decide) (fun hc => ?_) (fun hc => ?_)
      · replace hF := rp_it hc hF
        refine lv_iload_n (pc := 39) hx hb dX7_ofGuest_39 rfl (lv_at hl 2 rfl) ?_
        refine lv_iconst (pc := 40) (v := 5) hx hb dX7_ofGuest_40 (by decide) ?_
        refine lv_icmp_ne (pc := 41) (tgt := 52) hx hb dX7_ofGuest_41 (by decide) (fun hc => ?_) (fun hc => ?_)
        · replace hF := rp_if hc hF
          refine lv_aload_n (pc := 52) hx hb dX7_ofGuest_52 rfl (lv_at hl 0 rfl) ?_
          refine lv_iload_n (pc := 53) hx hb dX7_ofGuest_53 rfl (lv_at hl 1 rfl) ?_
          obtain ⟨r5, σ6, hq, hF⟩ := rp_bd_e hF
          refine rp_ki (rp_runV (rest := []) hC (mE_ok _) hw hl.1 (mX7_growsNow (l := l) v1 σ4 _ hq) vw_X7_183 (by decide) (mt_obj _) rfl rfl rfl (Nat.le_of_ble_eq_true rfl) (by decide) dX7_ofGuest_54) hw (fun H locs hw => ?_)
          clear hq
          exact rp_reti (pc := 57) hC hw hF dX7_ofGuest_57
        · replace hF := rp_it hc hF
          refine lv_aload_n (pc := 44) hx hb dX7_ofGuest_44 rfl (lv_at hl 0 rfl) ?_
          refine lv_iload_n (pc := 45) hx hb dX7_ofGuest_45 rfl (lv_at hl 1 rfl) ?_
          obtain ⟨r7, σ8, hq, hF⟩ := rp_bd_e hF
          refine rp_ki (rp_runV (rest := []) hC (mE_ok _) hw hl.1 (mX7_pegOf (l := l) v1 σ4 _ hq) vw_X7_180 (by decide) (mt_obj _) rfl rfl rfl (Nat.le_of_ble_eq_true rfl) (by decide) dX7_ofGuest_46) hw (fun H locs hw => ?_)
          clear hq
          refine lv_goto (pc := 49) (tgt := 57) hx hb dX7_ofGuest_49 (by decide) ?_
          exact rp_reti (pc := 57) hC hw hF dX7_ofGuest_57
      · replace hF := rp_if hc hF
        refine lv_aload_n (pc := 30) hx hb dX7_ofGuest_30 rfl (lv_at hl 0 rfl) ?_
        refine lv_iload_n (pc := 31) hx hb dX7_ofGuest_31 rfl (lv_at hl 1 rfl) ?_
        refine lv_iload_n (pc := 32) hx hb dX7_ofGuest_32 rfl (lv_at hl 2 rfl) ?_
        obtain ⟨r9, σ10, hq, hF⟩ := rp_bd_e hF
        refine rp_ki (rp_runV (rest := []) hC (mE_ok _) hw hl.1 (mX7_guestIs (l := l) v1 v2 σ4 _ hq) vw_X7_165 (by decide) (mt_obj _) rfl rfl rfl (Nat.le_of_ble_eq_true rfl) (by decide) dX7_ofGuest_33) hw (fun H locs hw => ?_)
        clear hq
        refine lv_goto (pc := 36) (tgt := 57) hx hb dX7_ofGuest_36 (by decide) ?_
        exact rp_reti (pc := 57) hC hw hF dX7_ofGuest_57
    · replace hF := rp_it hc hF
      exact kX7_ofGuest_18 hC σ4 _ _ _ hF hw (lv_sub hl [0] rfl)
theorem mX7_ofGuest {l : Launch} {D : va_G} {cI cT : ClassId} {ad av a : Nat → Nat} (v1 : Int32) (v2 : Int32) (σ : rp_St) (res : Int32 × rp_St) (hF : fX7_ofGuest v1 v2 σ = some res) : mM l D cI cT ad av a yX7_ofGuest cX7_ofGuest 3 (some .int) 4 [.ref (a 0), .int v1, .int v2] σ (rp_Qi D a (mt cI cT ad a) 15 res) :=
  rp_entry (by decide) (Nat.le_of_ble_eq_true rfl) (fun p e s m below meth c ls hC hw hl => kX7_ofGuest_0 hC v1 v2 σ _ _ _ hF hw (lv_sub hl [0, 1, 2] rfl))
def fX7_change_65 (σ : rp_St) : Option (Int32 × rp_St) :=
  rp_bd (fX7_finding (-1000000001) σ) (fun r1 σ2 => some (r1, σ2))
set_option maxRecDepth 100000 in
set_option maxHeartbeats 4000000 in
theorem kX7_change_65 {p : Program} {l : Launch} {e : Env} {s : State} {m : MethodId} {args : Array Value} {below : List Frame} {meth : Method} {c : Code} {D : va_G} {cI cT : ClassId} {ad av a : Nat → Nat} {res : Int32 × rp_St} (hC : mC p s m args meth c cX7_change 5 "RegretPegsModel" (some .int) D cI cT ad av a) (σ : rp_St) (H : Heap) (locs : List Loc) (ls : Array Slot) (hF : fX7_change_65 σ = some res) (hw : mW D cI cT ad av a s σ H locs) (hl : lv_has ls 5 [(0, .ref (a 0))]) : W p l e (rp_rm 3) s m args below meth c H locs 0 0 (MQ below (rp_Qi D a (mt cI cT ad a) 15 res) args s 0 0 (rp_A a 15)) (F0 m 65 ls []) := by
  have hx := hC.1
  have hb := hC.2.1
  have hown := hC.2.2.2.1
  have hts := hC.2.2.2.2.1
  unfold fX7_change_65 at hF
  refine lv_aload_n (pc := 65) hx hb dX7_change_65 rfl (lv_at hl 0 rfl) ?_
  refine lv_ldc (pc := 66) (v := (-1000000001)) hx hb hown (hts _ wd_721) dX7_change_66 ?_
  obtain ⟨r1, σ2, hq, hF⟩ := rp_bd_e hF
  refine rp_ki (rp_runV (rest := []) hC (mE_ok _) hw hl.1 (mX7_finding (l := l) (-1000000001) σ _ hq) vw_X7_78 (by decide) (mt_obj _) rfl rfl rfl (Nat.le_of_ble_eq_true rfl) (by decide) dX7_change_68) hw (fun H locs hw => ?_)
  clear hq
  exact rp_reti (pc := 71) hC hw hF dX7_change_71
def fX7_change_35 (v1 : Int32) (v2 : Int32) (v3 : Int32) (t0 : Int32) (σ : rp_St) : Option (Int32 × rp_St) :=
  rp_bd (fX7_isGuest v1 σ) (fun r1 σ2 => (if r1 = 0 then fX7_change_65 σ2 else (if t0 = 0 then fX7_change_65 σ2 else rp_bd (fX7_guestAt v1 (2 + v2) σ2) (fun r3 σ4 => rp_bd (fX7_turn r3 v3 σ4) (fun r5 σ6 => some (r5, σ6))))))
set_option maxRecDepth 100000 in
set_option maxHeartbeats 4000000 in
theorem kX7_change_35 {p : Program} {l : Launch} {e : Env} {s : State} {m : MethodId} {args : Array Value} {below : List Frame} {meth : Method} {c : Code} {D : va_G} {cI cT : ClassId} {ad av a : Nat → Nat} {res : Int32 × rp_St} (hC : mC p s m args meth c cX7_change 5 "RegretPegsModel" (some .int) D cI cT ad av a) (v1 : Int32) (v2 : Int32) (v3 : Int32) (t0 : Int32) (σ : rp_St) (H : Heap) (locs : List Loc) (ls : Array Slot) (hF : fX7_change_35 v1 v2 v3 t0 σ = some res) (hw : mW D cI cT ad av a s σ H locs) (hl : lv_has ls 5 [(0, .ref (a 0)), (1, .int v1), (2, .int v2), (3, .int v3)]) : W p l e (rp_rm 3) s m args below meth c H locs 0 0 (MQ below (rp_Qi D a (mt cI cT ad a) 15 res) args s 0 0 (rp_A a 15)) (F0 m 35 ls [.int t0]) := by
  have hx := hC.1
  have hb := hC.2.1
  have hown := hC.2.2.2.1
  have hts := hC.2.2.2.2.1
  unfold fX7_change_35 at hF
  refine lv_istore (pc := 35) (lv' := [(4, .int t0), (0, .ref (a 0)), (1, .int v1), (2, .int v2), (3, .int v3)]) hx hb dX7_change_35 hl (by decide) rfl (fun ls hl => ?_)
  refine lv_aload_n (pc := 37) hx hb dX7_change_37 rfl (lv_at hl 1 rfl) ?_
  refine lv_iload_n (pc := 38) hx hb dX7_change_38 rfl (lv_at hl 2 rfl) ?_
  obtain ⟨r1, σ2, hq, hF⟩ := rp_bd_e hF
  refine rp_ki (rp_runV (rest := []) hC (mE_ok _) hw hl.1 (mX7_isGuest (l := l) v1 σ _ hq) vw_X7_159 (by decide) (mt_obj _) rfl rfl rfl (Nat.le_of_ble_eq_true rfl) (by decide) dX7_change_39) hw (fun H locs hw => ?_)
  clear hq
  refine lv_if_eq (pc := 42) (tgt := 65) hx hb dX7_change_42 (by decide) (fun hc => ?_) (fun hc => ?_)
  · replace hF := rp_it hc hF
    exact kX7_change_65 hC σ2 _ _ _ hF hw (lv_sub hl [1] rfl)
  · replace hF := rp_if hc hF
    refine lv_iload (pc := 45) hx hb dX7_change_45 (lv_at hl 0 rfl) ?_
    refine lv_if_eq (pc := 47) (tgt := 65) hx hb dX7_change_47 (by decide) (fun hc => ?_) (fun hc => ?_)
    · replace hF := rp_it hc hF
      exact kX7_change_65 hC σ2 _ _ _ hF hw (lv_sub hl [1] rfl)
    · replace hF := rp_if hc hF
      refine lv_aload_n (pc := 50) hx hb dX7_change_50 rfl (lv_at hl 1 rfl) ?_
      refine lv_iload_n (pc := 51) hx hb dX7_change_51 rfl (lv_at hl 2 rfl) ?_
      refine lv_iconst (pc := 52) (v := 2) hx hb dX7_change_52 (by decide) ?_
      refine lv_iload_n (pc := 53) hx hb dX7_change_53 rfl (lv_at hl 3 rfl) ?_
      refine lv_iadd (pc := 54) hx hb dX7_change_54 ?_
      obtain ⟨r3, σ4, hq, hF⟩ := rp_bd_e hF
      refine rp_ki (rp_runZ (rest := [.ref (a 0)]) hC (mE_ok _) hw hl.1 (mX7_guestAt (l := l) v1 (2 + v2) σ2 _ hq) zw_X7_162 rfl rfl (Nat.le_of_ble_eq_true rfl) (by decide) dX7_change_55) hw (fun H locs hw => ?_)
      clear hq
      refine lv_iload_n (pc := 58) hx hb dX7_change_58 rfl (lv_at hl 4 rfl) ?_
      obtain ⟨r5, σ6, hq, hF⟩ := rp_bd_e hF
      refine rp_ki (rp_runV (rest := []) hC (mE_ok _) hw hl.1 (mX7_turn (l := l) r3 v3 σ4 _ hq) vw_X7_186 (by decide) (mt_obj _) rfl rfl rfl (Nat.le_of_ble_eq_true rfl) (by decide) dX7_change_59) hw (fun H locs hw => ?_)
      clear hq
      refine lv_goto (pc := 62) (tgt := 71) hx hb dX7_change_62 (by decide) ?_
      exact rp_reti (pc := 71) hC hw hF dX7_change_71
def fX7_change_9 (v1 : Int32) (v2 : Int32) (v3 : Int32) (σ : rp_St) : Option (Int32 × rp_St) :=
  rp_bd (fX7_isRue v3 σ) (fun r1 σ2 => fX7_change_35 v1 v2 v3 r1 σ2)
set_option maxRecDepth 100000 in
set_option maxHeartbeats 4000000 in
theorem kX7_change_9 {p : Program} {l : Launch} {e : Env} {s : State} {m : MethodId} {args : Array Value} {below : List Frame} {meth : Method} {c : Code} {D : va_G} {cI cT : ClassId} {ad av a : Nat → Nat} {res : Int32 × rp_St} (hC : mC p s m args meth c cX7_change 5 "RegretPegsModel" (some .int) D cI cT ad av a) (v1 : Int32) (v2 : Int32) (v3 : Int32) (σ : rp_St) (H : Heap) (locs : List Loc) (ls : Array Slot) (hF : fX7_change_9 v1 v2 v3 σ = some res) (hw : mW D cI cT ad av a s σ H locs) (hl : lv_has ls 5 [(0, .ref (a 0)), (1, .int v1), (2, .int v2), (3, .int v3)]) : W p l e (rp_rm 3) s m args below meth c H locs 0 0 (MQ below (rp_Qi D a (mt cI cT ad a) 15 res) args s 0 0 (rp_A a 15)) (F0 m 9 ls []) := by
  have hx := hC.1
  have hb := hC.2.1
  have hown := hC.2.2.2.1
  have hts := hC.2.2.2.2.1
  unfold fX7_change_9 at hF
  refine lv_iload_n (pc := 9) hx hb dX7_change_9 rfl (lv_at hl 3 rfl) ?_
  obtain ⟨r1, σ2, hq, hF⟩ := rp_bd_e hF
  refine rp_ki (rp_runZ (rest := []) hC (mE_ok _) hw hl.1 (mX7_isRue (l := l) v3 σ _ hq) zw_X7_171 rfl rfl (Nat.le_of_ble_eq_true rfl) (by decide) dX7_change_10) hw (fun H locs hw => ?_)
  clear hq
  refine lv_goto (pc := 13) (tgt := 35) hx hb dX7_change_13 (by decide) ?_
  exact kX7_change_35 hC v1 v2 v3 r1 σ2 _ _ _ hF hw (lv_sub hl [0, 1, 2, 3] rfl)
def fX7_change_34 (v1 : Int32) (v2 : Int32) (v3 : Int32) (σ : rp_St) : Option (Int32 × rp_St) :=
  fX7_change_35 v1 v2 v3 0 σ
set_option maxRecDepth 100000 in
set_option maxHeartbeats 4000000 in
theorem kX7_change_34 {p : Program} {l : Launch} {e : Env} {s : State} {m : MethodId} {args : Array Value} {below : List Frame} {meth : Method} {c : Code} {D : va_G} {cI cT : ClassId} {ad av a : Nat → Nat} {res : Int32 × rp_St} (hC : mC p s m args meth c cX7_change 5 "RegretPegsModel" (some .int) D cI cT ad av a) (v1 : Int32) (v2 : Int32) (v3 : Int32) (σ : rp_St) (H : Heap) (locs : List Loc) (ls : Array Slot) (hF : fX7_change_34 v1 v2 v3 σ = some res) (hw : mW D cI cT ad av a s σ H locs) (hl : lv_has ls 5 [(0, .ref (a 0)), (1, .int v1), (2, .int v2), (3, .int v3)]) : W p l e (rp_rm 3) s m args below meth c H locs 0 0 (MQ below (rp_Qi D a (mt cI cT ad a) 15 res) args s 0 0 (rp_A a 15)) (F0 m 34 ls []) := by
  have hx := hC.1
  have hb := hC.2.1
  have hown := hC.2.2.2.1
  have hts := hC.2.2.2.2.1
  unfold fX7_change_34 at hF
  refine lv_iconst (pc := 34) (v := 0) hx hb dX7_change_34 (by decide) ?_
  exact kX7_change_35 hC v1 v2 v3 0 σ _ _ _ hF hw (lv_sub hl [0, 1, 2, 3] rfl)
def fX7_change (v1 : Int32) (v2 : Int32) (v3 : Int32) (σ : rp_St) : Option (Int32 × rp_St) :=
  (if v2 = 0 then fX7_change_9 v1 v2 v3 σ else (if v2 = 1 then fX7_change_9 v1 v2 v3 σ else (if v2 = 2 then rp_bd (fX7_within v3 0 1 σ) (fun r1 σ2 => (if r1 = 0 then fX7_change_34 v1 v2 v3 σ2 else fX7_change_35 v1 v2 v3 1 σ2)) else fX7_change_34 v1 v2 v3 σ)))
set_option maxRecDepth 100000 in
set_option maxHeartbeats 4000000 in
theorem kX7_change_0 {p : Program} {l : Launch} {e : Env} {s : State} {m : MethodId} {args : Array Value} {below : List Frame} {meth : Method} {c : Code} {D : va_G} {cI cT : ClassId} {ad av a : Nat → Nat} {res : Int32 × rp_St} (hC : mC p s m args meth c cX7_change 5 "RegretPegsModel" (some .int) D cI cT ad av a) (v1 : Int32) (v2 : Int32) (v3 : Int32) (σ : rp_St) (H : Heap) (locs : List Loc) (ls : Array Slot) (hF : fX7_change v1 v2 v3 σ = some res) (hw : mW D cI cT ad av a s σ H locs) (hl : lv_has ls 5 [(0, .ref (a 0)), (1, .int v1), (2, .int v2), (3, .int v3)]) : W p l e (rp_rm 3) s m args below meth c H locs 0 0 (MQ below (rp_Qi D a (mt cI cT ad a) 15 res) args s 0 0 (rp_A a 15)) (F0 m 0 ls []) := by
  have hx := hC.1
  have hb := hC.2.1
  have hown := hC.2.2.2.1
  have hts := hC.2.2.2.2.1
  unfold fX7_change at hF
  refine lv_iload_n (pc := 0) hx hb dX7_change_0 rfl (lv_at hl 2 rfl) ?_
  refine lv_if_eq (pc := 1) (tgt := 9) hx hb dX7_change_1 (by decide) (fun hc => ?_) (fun hc => ?_)
  · replace hF := rp_it hc hF
    exact kX7_change_9 hC v1 v2 v3 σ _ _ _ hF hw (lv_sub hl [0, 1, 2, 3] rfl)
  · replace hF := rp_if hc hF
    refine lv_iload_n (pc := 4) hx hb dX7_change_4 rfl (lv_at hl 2 rfl) ?_
    refine lv_iconst (pc := 5) (v := 1) hx hb dX7_change_5 (by decide) ?_
    refine lv_icmp_ne (pc := 6) (tgt := 16) hx hb dX7_change_6 (by decide) (fun hc => ?_) (fun hc => ?_)
    · replace hF := rp_if hc hF
      refine lv_iload_n (pc := 16) hx hb dX7_change_16 rfl (lv_at hl 2 rfl) ?_
      refine lv_iconst (pc := 17) (v := 2) hx hb dX7_change_17 (by decide) ?_
      refine lv_icmp_ne (pc := 18) (tgt := 34) hx hb dX7_change_18 (by decide) (fun hc => ?_) (fun hc => ?_)
      · replace hF := rp_if hc hF
        exact kX7_change_34 hC v1 v2 v3 σ _ _ _ hF hw (lv_sub hl [0, 1, 2, 3] rfl)
      · replace hF := rp_it hc hF
        refine lv_iload_n (pc := 21) hx hb dX7_change_21 rfl (lv_at hl 3 rfl) ?_
        refine lv_iconst (pc := 22) (v := 0) hx hb dX7_change_22 (by decide) ?_
        refine lv_iconst (pc := 23) (v := 1) hx hb dX7_change_23 (by decide) ?_
        obtain ⟨r1, σ2, hq, hF⟩ := rp_bd_e hF
        refine rp_ki (rp_runZ (rest := []) hC (mE_ok _) hw hl.1 (mX7_within (l := l) v3 0 1 σ _ hq) zw_X7_73 rfl rfl (Nat.le_of_ble_eq_true rfl) (by decide) dX7_change_24) hw (fun H locs hw => ?_)
        clear hq
        refine lv_if_eq (pc := 27) (tgt := 34) hx hb dX7_change_27 (by decide) (fun hc => ?_) (fun hc => ?_)
        · replace hF := rp_it hc hF
          exact kX7_change_34 hC v1 v2 v3 σ2 _ _ _ hF hw (lv_sub hl [0, 1, 2, 3] rfl)
        · replace hF := rp_if hc hF
          refine lv_iconst (pc := 30) (v := 1) hx hb dX7_change_30 (by decide) ?_
          refine lv_goto (pc := 31) (tgt := 35) hx hb dX7_change_31 (by decide) ?_
          exact kX7_change_35 hC v1 v2 v3 1 σ2 _ _ _ hF hw (lv_sub hl [0, 1, 2, 3] rfl)
    · replace hF := rp_it hc hF
      exact kX7_change_9 hC v1 v2 v3 σ _ _ _ hF hw (lv_sub hl [0, 1, 2, 3] rfl)
theorem mX7_change {l : Launch} {D : va_G} {cI cT : ClassId} {ad av a : Nat → Nat} (v1 : Int32) (v2 : Int32) (v3 : Int32) (σ : rp_St) (res : Int32 × rp_St) (hF : fX7_change v1 v2 v3 σ = some res) : mM l D cI cT ad av a yX7_change cX7_change 5 (some .int) 3 [.ref (a 0), .int v1, .int v2, .int v3] σ (rp_Qi D a (mt cI cT ad a) 15 res) :=
  rp_entry (by decide) (Nat.le_of_ble_eq_true rfl) (fun p e s m below meth c ls hC hw hl => kX7_change_0 hC v1 v2 v3 σ _ _ _ hF hw (lv_sub hl [0, 1, 2, 3] rfl))
def fX7_peg (v1 : Int32) (σ : rp_St) : Option (Int32 × rp_St) :=
  rp_bd (fX7_isGuest v1 σ) (fun r1 σ2 => (if r1 = 0 then rp_bd (fX7_finding (-1000000001) σ2) (fun r3 σ4 => some (r3, σ4)) else rp_gu (rp_in (5 + v1) 221) (some ((σ2 1 ((5 + v1) : Int32).toNatClampNeg), σ2))))
set_option maxRecDepth 100000 in
set_option maxHeartbeats 4000000 in
theorem kX7_peg_0 {p : Program} {l : Launch} {e : Env} {s : State} {m : MethodId} {args : Array Value} {below : List Frame} {meth : Method} {c : Code} {D : va_G} {cI cT : ClassId} {ad av a : Nat → Nat} {res : Int32 × rp_St} (hC : mC p s m args meth c cX7_peg 2 "RegretPegsModel" (some .int) D cI cT ad av a) (v1 : Int32) (σ : rp_St) (H : Heap) (locs : List Loc) (ls : Array Slot) (hF : fX7_peg v1 σ = some res) (hw : mW D cI cT ad av a s σ H locs) (hl : lv_has ls 2 [(0, .ref (a 0)), (1, .int v1)]) : W p l e (rp_rm 3) s m args below meth c H locs 0 0 (MQ below (rp_Qi D a (mt cI cT ad a) 15 res) args s 0 0 (rp_A a 15)) (F0 m 0 ls []) := by
  have hx := hC.1
  have hb := hC.2.1
  have hown := hC.2.2.2.1
  have hts := hC.2.2.2.2.1
  unfold fX7_peg at hF
  refine lv_aload_n (pc := 0) hx hb dX7_peg_0 rfl (lv_at hl 0 rfl) ?_
  refine lv_iload_n (pc := 1) hx hb dX7_peg_1 rfl (lv_at hl 1 rfl) ?_
  obtain ⟨r1, σ2, hq, hF⟩ := rp_bd_e hF
  refine rp_ki (rp_runV (rest := []) hC (mE_ok _) hw hl.1 (mX7_isGuest (l := l) v1 σ _ hq) vw_X7_159 (by decide) (mt_obj _) rfl rfl rfl (Nat.le_of_ble_eq_true rfl) (by decide) dX7_peg_2) hw (fun H locs hw => ?_)
  clear hq
  refine lv_if_eq (pc := 5) (tgt := 19) hx hb dX7_peg_5 (by decide) (fun hc => ?_) (fun hc => ?_)
  · replace hF := rp_it hc hF
    refine lv_aload_n (pc := 19) hx hb dX7_peg_19 rfl (lv_at hl 0 rfl) ?_
    refine lv_ldc (pc := 20) (v := (-1000000001)) hx hb hown (hts _ wd_721) dX7_peg_20 ?_
    obtain ⟨r3, σ4, hq, hF⟩ := rp_bd_e hF
    refine rp_ki (rp_runV (rest := []) hC (mE_ok _) hw hl.1 (mX7_finding (l := l) (-1000000001) σ2 _ hq) vw_X7_78 (by decide) (mt_obj _) rfl rfl rfl (Nat.le_of_ble_eq_true rfl) (by decide) dX7_peg_22) hw (fun H locs hw => ?_)
    clear hq
    exact rp_reti (pc := 25) hC hw hF dX7_peg_25
  · replace hF := rp_if hc hF
    refine lv_aload_n (pc := 8) hx hb dX7_peg_8 rfl (lv_at hl 0 rfl) ?_
    refine rp_get (pc := 9) hC hw 0 (by decide) (mt_obj _) fl_X7_9 (.ref (a 1)) rfl dX7_peg_9 ?_
    refine lv_iconst (pc := 12) (v := 5) hx hb dX7_peg_12 (by decide) ?_
    refine lv_iload_n (pc := 13) hx hb dX7_peg_13 rfl (lv_at hl 1 rfl) ?_
    refine lv_iadd (pc := 14) hx hb dX7_peg_14 ?_
    obtain ⟨hg, hF⟩ := rp_gu_e hF
    refine rp_ald (pc := 15) hC hw 1 (by decide) (mt_arr 1 221 rfl) 0 rfl hg dX7_peg_15 ?_
    refine lv_goto (pc := 16) (tgt := 25) hx hb dX7_peg_16 (by decide) ?_
    exact rp_reti (pc := 25) hC hw hF dX7_peg_25
theorem mX7_peg {l : Launch} {D : va_G} {cI cT : ClassId} {ad av a : Nat → Nat} (v1 : Int32) (σ : rp_St) (res : Int32 × rp_St) (hF : fX7_peg v1 σ = some res) : mM l D cI cT ad av a yX7_peg cX7_peg 2 (some .int) 3 [.ref (a 0), .int v1] σ (rp_Qi D a (mt cI cT ad a) 15 res) :=
  rp_entry (by decide) (Nat.le_of_ble_eq_true rfl) (fun p e s m below meth c ls hC hw hl => kX7_peg_0 hC v1 σ _ _ _ hF hw (lv_sub hl [0, 1] rfl))
def fX7_hangs (v1 : Int32) (v2 : Int32) (σ : rp_St) : Option (Int32 × rp_St) :=
  rp_gu (rp_in (5 + v2) 221) (rp_bd (fX7_turn (5 + v1) (σ 1 ((5 + v2) : Int32).toNatClampNeg) σ) (fun r1 σ2 => rp_gu (rp_in (5 + v2) 221) (rp_nm (rp_put σ2 1 ((5 + v2) : Int32).toNatClampNeg r1) (fun σ3 => rp_gu (rp_in (5 + v1) 221) (some ((σ3 1 ((5 + v1) : Int32).toNatClampNeg), σ3))))))
set_option maxRecDepth 100000 in
set_option maxHeartbeats 4000000 in
theorem kX7_hangs_0 {p : Program} {l : Launch} {e : Env} {s : State} {m : MethodId} {args : Array Value} {below : List Frame} {meth : Method} {c : Code} {D : va_G} {cI cT : ClassId} {ad av a : Nat → Nat} {res : Int32 × rp_St} (hC : mC p s m args meth c cX7_hangs 4 "RegretPegsModel" (some .int) D cI cT ad av a) (v1 : Int32) (v2 : Int32) (σ : rp_St) (H : Heap) (locs : List Loc) (ls : Array Slot) (hF : fX7_hangs v1 v2 σ = some res) (hw : mW D cI cT ad av a s σ H locs) (hl : lv_has ls 4 [(0, .ref (a 0)), (1, .int v1), (2, .int v2)]) : W p l e (rp_rm 2) s m args below meth c H locs 0 0 (MQ below (rp_Qi D a (mt cI cT ad a) 15 res) args s 0 0 (rp_A a 15)) (F0 m 0 ls []) := by
  have hx := hC.1
  have hb := hC.2.1
  have hown := hC.2.2.2.1
  have hts := hC.2.2.2.2.1
  unfold fX7_hangs at hF
  refine lv_aload_n (pc := 0) hx hb dX7_hangs_0 rfl (lv_at hl 0 rfl) ?_
  refine lv_iconst (pc := 1) (v := 5) hx hb dX7_hangs_1 (by decide) ?_
  refine lv_iload_n (pc := 2) hx hb dX7_hangs_2 rfl (lv_at hl 1 rfl) ?_
  refine lv_iadd (pc := 3) hx hb dX7_hangs_3 ?_
  refine lv_aload_n (pc := 4) hx hb dX7_hangs_4 rfl (lv_at hl 0 rfl) ?_
  refine rp_get (pc := 5) hC hw 0 (by decide) (mt_obj _) fl_X7_9 (.ref (a 1)) rfl dX7_hangs_5 ?_
  refine lv_iconst (pc := 8) (v := 5) hx hb dX7_hangs_8 (by decide) ?_
  refine lv_iload_n (pc := 9) hx hb dX7_hangs_9 rfl (lv_at hl 2 rfl) ?_
  refine lv_iadd (pc := 10) hx hb dX7_hangs_10 ?_
  obtain ⟨hg, hF⟩ := rp_gu_e hF
  refine rp_ald (pc := 11) hC hw 1 (by decide) (mt_arr 1 221 rfl) 0 rfl hg dX7_hangs_11 ?_
  obtain ⟨r1, σ2, hq, hF⟩ := rp_bd_e hF
  refine rp_ki (rp_runV (rest := []) hC (mE_ok _) hw hl.1 (mX7_turn (l := l) (5 + v1) (σ 1 ((5 + v2) : Int32).toNatClampNeg) σ _ hq) vw_X7_186 (by decide) (mt_obj _) rfl rfl rfl (Nat.le_of_ble_eq_true rfl) (by decide) dX7_hangs_12) hw (fun H locs hw => ?_)
  clear hq
  refine lv_istore_n (pc := 15) (lv' := [(3, .int r1), (0, .ref (a 0)), (1, .int v1), (2, .int v2)]) hx hb dX7_hangs_15 rfl hl (by decide) rfl (fun ls hl => ?_)
  refine lv_aload_n (pc := 16) hx hb dX7_hangs_16 rfl (lv_at hl 1 rfl) ?_
  refine rp_get (pc := 17) hC hw 0 (by decide) (mt_obj _) fl_X7_9 (.ref (a 1)) rfl dX7_hangs_17 ?_
  refine lv_iconst (pc := 20) (v := 5) hx hb dX7_hangs_20 (by decide) ?_
  refine lv_iload_n (pc := 21) hx hb dX7_hangs_21 rfl (lv_at hl 3 rfl) ?_
  refine lv_iadd (pc := 22) hx hb dX7_hangs_22 ?_
  refine lv_iload_n (pc := 23) hx hb dX7_hangs_23 rfl (lv_at hl 0 rfl) ?_
  obtain ⟨hg, hF⟩ := rp_gu_e hF
  refine rp_ast (pc := 24) hC hw 1 (by decide) (mt_arr 1 221 rfl) 0 rfl hg dX7_hangs_24 (fun H locs hw => ?_)
  obtain ⟨σ3, eσ3, hF⟩ := rp_nm_e hF
  replace hw := rp_Wn eσ3 hw
  clear eσ3
  refine lv_aload_n (pc := 25) hx hb dX7_hangs_25 rfl (lv_at hl 1 rfl) ?_
  refine rp_get (pc := 26) hC hw 0 (by decide) (mt_obj _) fl_X7_9 (.ref (a 1)) rfl dX7_hangs_26 ?_
  refine lv_iconst (pc := 29) (v := 5) hx hb dX7_hangs_29 (by decide) ?_
  refine lv_iload_n (pc := 30) hx hb dX7_hangs_30 rfl (lv_at hl 2 rfl) ?_
  refine lv_iadd (pc := 31) hx hb dX7_hangs_31 ?_
  obtain ⟨hg, hF⟩ := rp_gu_e hF
  refine rp_ald (pc := 32) hC hw 1 (by decide) (mt_arr 1 221 rfl) 0 rfl hg dX7_hangs_32 ?_
  exact rp_reti (pc := 33) hC hw hF dX7_hangs_33
theorem mX7_hangs {l : Launch} {D : va_G} {cI cT : ClassId} {ad av a : Nat → Nat} (v1 : Int32) (v2 : Int32) (σ : rp_St) (res : Int32 × rp_St) (hF : fX7_hangs v1 v2 σ = some res) : mM l D cI cT ad av a yX7_hangs cX7_hangs 4 (some .int) 2 [.ref (a 0), .int v1, .int v2] σ (rp_Qi D a (mt cI cT ad a) 15 res) :=
  rp_entry (by decide) (Nat.le_of_ble_eq_true rfl) (fun p e s m below meth c ls hC hw hl => kX7_hangs_0 hC v1 v2 σ _ _ _ hF hw (lv_sub hl [0, 1, 2] rfl))
def fX7_hang_25 (σ : rp_St) : Option (Int32 × rp_St) :=
  rp_bd (fX7_finding (-1000000001) σ) (fun r1 σ2 => some (r1, σ2))
set_option maxRecDepth 100000 in
set_option maxHeartbeats 4000000 in
theorem kX7_hang_25 {p : Program} {l : Launch} {e : Env} {s : State} {m : MethodId} {args : Array Value} {below : List Frame} {meth : Method} {c : Code} {D : va_G} {cI cT : ClassId} {ad av a : Nat → Nat} {res : Int32 × rp_St} (hC : mC p s m args meth c cX7_hang 3 "RegretPegsModel" (some .int) D cI cT ad av a) (σ : rp_St) (H : Heap) (locs : List Loc) (ls : Array Slot) (hF : fX7_hang_25 σ = some res) (hw : mW D cI cT ad av a s σ H locs) (hl : lv_has ls 3 [(0, .ref (a 0))]) : W p l e (rp_rm 3) s m args below meth c H locs 0 0 (MQ below (rp_Qi D a (mt cI cT ad a) 15 res) args s 0 0 (rp_A a 15)) (F0 m 25 ls []) := by
  have hx := hC.1
  have hb := hC.2.1
  have hown := hC.2.2.2.1
  have hts := hC.2.2.2.2.1
  unfold fX7_hang_25 at hF
  refine lv_aload_n (pc := 25) hx hb dX7_hang_25 rfl (lv_at hl 0 rfl) ?_
  refine lv_ldc (pc := 26) (v := (-1000000001)) hx hb hown (hts _ wd_721) dX7_hang_26 ?_
  obtain ⟨r1, σ2, hq, hF⟩ := rp_bd_e hF
  refine rp_ki (rp_runV (rest := []) hC (mE_ok _) hw hl.1 (mX7_finding (l := l) (-1000000001) σ _ hq) vw_X7_78 (by decide) (mt_obj _) rfl rfl rfl (Nat.le_of_ble_eq_true rfl) (by decide) dX7_hang_28) hw (fun H locs hw => ?_)
  clear hq
  exact rp_reti (pc := 31) hC hw hF dX7_hang_31
def fX7_hang (v1 : Int32) (v2 : Int32) (σ : rp_St) : Option (Int32 × rp_St) :=
  rp_bd (fX7_isGuest v1 σ) (fun r1 σ2 => (if r1 = 0 then fX7_hang_25 σ2 else rp_bd (fX7_isGuest v2 σ2) (fun r3 σ4 => (if r3 = 0 then fX7_hang_25 σ4 else rp_bd (fX7_hangs v1 v2 σ4) (fun r5 σ6 => some (r5, σ6))))))
set_option maxRecDepth 100000 in
set_option maxHeartbeats 4000000 in
theorem kX7_hang_0 {p : Program} {l : Launch} {e : Env} {s : State} {m : MethodId} {args : Array Value} {below : List Frame} {meth : Method} {c : Code} {D : va_G} {cI cT : ClassId} {ad av a : Nat → Nat} {res : Int32 × rp_St} (hC : mC p s m args meth c cX7_hang 3 "RegretPegsModel" (some .int) D cI cT ad av a) (v1 : Int32) (v2 : Int32) (σ : rp_St) (H : Heap) (locs : List Loc) (ls : Array Slot) (hF : fX7_hang v1 v2 σ = some res) (hw : mW D cI cT ad av a s σ H locs) (hl : lv_has ls 3 [(0, .ref (a 0)), (1, .int v1), (2, .int v2)]) : W p l e (rp_rm 3) s m args below meth c H locs 0 0 (MQ below (rp_Qi D a (mt cI cT ad a) 15 res) args s 0 0 (rp_A a 15)) (F0 m 0 ls []) := by
  have hx := hC.1
  have hb := hC.2.1
  have hown := hC.2.2.2.1
  have hts := hC.2.2.2.2.1
  unfold fX7_hang at hF
  refine lv_aload_n (pc := 0) hx hb dX7_hang_0 rfl (lv_at hl 0 rfl) ?_
  refine lv_iload_n (pc := 1) hx hb dX7_hang_1 rfl (lv_at hl 1 rfl) ?_
  obtain ⟨r1, σ2, hq, hF⟩ := rp_bd_e hF
  refine rp_ki (rp_runV (rest := []) hC (mE_ok _) hw hl.1 (mX7_isGuest (l := l) v1 σ _ hq) vw_X7_159 (by decide) (mt_obj _) rfl rfl rfl (Nat.le_of_ble_eq_true rfl) (by decide) dX7_hang_2) hw (fun H locs hw => ?_)
  clear hq
  refine lv_if_eq (pc := 5) (tgt := 25) hx hb dX7_hang_5 (by decide) (fun hc => ?_) (fun hc => ?_)
  · replace hF := rp_it hc hF
    exact kX7_hang_25 hC σ2 _ _ _ hF hw (lv_sub hl [0] rfl)
  · replace hF := rp_if hc hF
    refine lv_aload_n (pc := 8) hx hb dX7_hang_8 rfl (lv_at hl 0 rfl) ?_
    refine lv_iload_n (pc := 9) hx hb dX7_hang_9 rfl (lv_at hl 2 rfl) ?_
    obtain ⟨r3, σ4, hq, hF⟩ := rp_bd_e hF
    refine rp_ki (rp_runV (rest := []) hC (mE_ok _) hw hl.1 (mX7_isGuest (l := l) v2 σ2 _ hq) vw_X7_159 (by decide) (mt_obj _) rfl rfl rfl (Nat.le_of_ble_eq_true rfl) (by decide) dX7_hang_10) hw (fun H locs hw => ?_)
    clear hq
    refine lv_if_eq (pc := 13) (tgt := 25) hx hb dX7_hang_13 (by decide) (fun hc => ?_) (fun hc => ?_)
    · replace hF := rp_it hc hF
      exact kX7_hang_25 hC σ4 _ _ _ hF hw (lv_sub hl [0] rfl)
    · replace hF := rp_if hc hF
      refine lv_aload_n (pc := 16) hx hb dX7_hang_16 rfl (lv_at hl 0 rfl) ?_
      refine lv_iload_n (pc := 17) hx hb dX7_hang_17 rfl (lv_at hl 1 rfl) ?_
      refine lv_iload_n (pc := 18) hx hb dX7_hang_18 rfl (lv_at hl 2 rfl) ?_
      obtain ⟨r5, σ6, hq, hF⟩ := rp_bd_e hF
      refine rp_ki (rp_runV (rest := []) hC (mE_ok _) hw hl.1 (mX7_hangs (l := l) v1 v2 σ4 _ hq) vw_X7_189 (by decide) (mt_obj _) rfl rfl rfl (Nat.le_of_ble_eq_true rfl) (by decide) dX7_hang_19) hw (fun H locs hw => ?_)
      clear hq
      refine lv_goto (pc := 22) (tgt := 31) hx hb dX7_hang_22 (by decide) ?_
      exact rp_reti (pc := 31) hC hw hF dX7_hang_31
theorem mX7_hang {l : Launch} {D : va_G} {cI cT : ClassId} {ad av a : Nat → Nat} (v1 : Int32) (v2 : Int32) (σ : rp_St) (res : Int32 × rp_St) (hF : fX7_hang v1 v2 σ = some res) : mM l D cI cT ad av a yX7_hang cX7_hang 3 (some .int) 3 [.ref (a 0), .int v1, .int v2] σ (rp_Qi D a (mt cI cT ad a) 15 res) :=
  rp_entry (by decide) (Nat.le_of_ble_eq_true rfl) (fun p e s m below meth c ls hC hw hl => kX7_hang_0 hC v1 v2 σ _ _ _ hF hw (lv_sub hl [0, 1, 2] rfl))
def fX7_become_15 (σ : rp_St) : Option (Int32 × rp_St) :=
  rp_bd (fX7_finding (-1000000001) σ) (fun r1 σ2 => some (r1, σ2))
set_option maxRecDepth 100000 in
set_option maxHeartbeats 4000000 in
theorem kX7_become_15 {p : Program} {l : Launch} {e : Env} {s : State} {m : MethodId} {args : Array Value} {below : List Frame} {meth : Method} {c : Code} {D : va_G} {cI cT : ClassId} {ad av a : Nat → Nat} {res : Int32 × rp_St} (hC : mC p s m args meth c cX7_become 3 "RegretPegsModel" (some .int) D cI cT ad av a) (σ : rp_St) (H : Heap) (locs : List Loc) (ls : Array Slot) (hF : fX7_become_15 σ = some res) (hw : mW D cI cT ad av a s σ H locs) (hl : lv_has ls 3 [(0, .ref (a 0))]) : W p l e (rp_rm 3) s m args below meth c H locs 0 0 (MQ below (rp_Qi D a (mt cI cT ad a) 15 res) args s 0 0 (rp_A a 15)) (F0 m 15 ls []) := by
  have hx := hC.1
  have hb := hC.2.1
  have hown := hC.2.2.2.1
  have hts := hC.2.2.2.2.1
  unfold fX7_become_15 at hF
  refine lv_aload_n (pc := 15) hx hb dX7_become_15 rfl (lv_at hl 0 rfl) ?_
  refine lv_ldc (pc := 16) (v := (-1000000001)) hx hb hown (hts _ wd_721) dX7_become_16 ?_
  obtain ⟨r1, σ2, hq, hF⟩ := rp_bd_e hF
  refine rp_ki (rp_runV (rest := []) hC (mE_ok _) hw hl.1 (mX7_finding (l := l) (-1000000001) σ _ hq) vw_X7_78 (by decide) (mt_obj _) rfl rfl rfl (Nat.le_of_ble_eq_true rfl) (by decide) dX7_become_18) hw (fun H locs hw => ?_)
  clear hq
  exact rp_reti (pc := 21) hC hw hF dX7_become_21
def fX7_become (v1 : Int32) (v2 : Int32) (σ : rp_St) : Option (Int32 × rp_St) :=
  rp_bd (fX7_isGuest v1 σ) (fun r1 σ2 => (if r1 = 0 then fX7_become_15 σ2 else rp_bd (fX7_isKindM v2 σ2) (fun r3 σ4 => (if r3 = 0 then fX7_become_15 σ4 else rp_bd (fX7_guestAt v1 1 σ4) (fun r5 σ6 => rp_gu (rp_in r5 221) (rp_nm (rp_put σ6 1 (r5 : Int32).toNatClampNeg (v2 - v2 / 10 * 10)) (fun σ7 => rp_bd (fX7_guestAt v1 0 σ7) (fun r8 σ9 => rp_bd (fX7_turn r8 (v2 / 10) σ9) (fun r10 σ11 => some (r10, σ11))))))))))
set_option maxRecDepth 100000 in
set_option maxHeartbeats 4000000 in
theorem kX7_become_0 {p : Program} {l : Launch} {e : Env} {s : State} {m : MethodId} {args : Array Value} {below : List Frame} {meth : Method} {c : Code} {D : va_G} {cI cT : ClassId} {ad av a : Nat → Nat} {res : Int32 × rp_St} (hC : mC p s m args meth c cX7_become 3 "RegretPegsModel" (some .int) D cI cT ad av a) (v1 : Int32) (v2 : Int32) (σ : rp_St) (H : Heap) (locs : List Loc) (ls : Array Slot) (hF : fX7_become v1 v2 σ = some res) (hw : mW D cI cT ad av a s σ H locs) (hl : lv_has ls 3 [(0, .ref (a 0)), (1, .int v1), (2, .int v2)]) : W p l e (rp_rm 3) s m args below meth c H locs 0 0 (MQ below (rp_Qi D a (mt cI cT ad a) 15 res) args s 0 0 (rp_A a 15)) (F0 m 0 ls []) := by
  have hx := hC.1
  have hb := hC.2.1
  have hown := hC.2.2.2.1
  have hts := hC.2.2.2.2.1
  unfold fX7_become at hF
  refine lv_aload_n (pc := 0) hx hb dX7_become_0 rfl (lv_at hl 0 rfl) ?_
  refine lv_iload_n (pc := 1) hx hb dX7_become_1 rfl (lv_at hl 1 rfl) ?_
  obtain ⟨r1, σ2, hq, hF⟩ := rp_bd_e hF
  refine rp_ki (rp_runV (rest := []) hC (mE_ok _) hw hl.1 (mX7_isGuest (l := l) v1 σ _ hq) vw_X7_159 (by decide) (mt_obj _) rfl rfl rfl (Nat.le_of_ble_eq_true rfl) (by decide) dX7_become_2) hw (fun H locs hw => ?_)
  clear hq
  refine lv_if_eq (pc := 5) (tgt := 15) hx hb dX7_become_5 (by decide) (fun hc => ?_) (fun hc => ?_)
  · replace hF := rp_it hc hF
    exact kX7_become_15 hC σ2 _ _ _ hF hw (lv_sub hl [0] rfl)
  · replace hF := rp_if hc hF
    refine lv_iload_n (pc := 8) hx hb dX7_become_8 rfl (lv_at hl 2 rfl) ?_
    obtain ⟨r3, σ4, hq, hF⟩ := rp_bd_e hF
    refine rp_ki (rp_runZ (rest := []) hC (mE_ok _) hw hl.1 (mX7_isKindM (l := l) v2 σ2 _ hq) zw_X7_168 rfl rfl (Nat.le_of_ble_eq_true rfl) (by decide) dX7_become_9) hw (fun H locs hw => ?_)
    clear hq
    refine lv_if_ne (pc := 12) (tgt := 22) hx hb dX7_become_12 (by decide) (fun hc => ?_) (fun hc => ?_)
    · replace hF := rp_if hc hF
      refine lv_aload_n (pc := 22) hx hb dX7_become_22 rfl (lv_at hl 0 rfl) ?_
      refine rp_get (pc := 23) hC hw 0 (by decide) (mt_obj _) fl_X7_9 (.ref (a 1)) rfl dX7_become_23 ?_
      refine lv_iload_n (pc := 26) hx hb dX7_become_26 rfl (lv_at hl 1 rfl) ?_
      refine lv_iconst (pc := 27) (v := 1) hx hb dX7_become_27 (by decide) ?_
      obtain ⟨r5, σ6, hq, hF⟩ := rp_bd_e hF
      refine rp_ki (rp_runZ (rest := [.ref (a 1)]) hC (mE_ok _) hw hl.1 (mX7_guestAt (l := l) v1 1 σ4 _ hq) zw_X7_162 rfl rfl (Nat.le_of_ble_eq_true rfl) (by decide) dX7_become_28) hw (fun H locs hw => ?_)
      clear hq
      refine lv_iload_n (pc := 31) hx hb dX7_become_31 rfl (lv_at hl 2 rfl) ?_
      refine lv_bipush (pc := 32) (v := 10) hx hb dX7_become_32 (by decide) ?_
      refine lv_irem (pc := 34) hx hb dX7_become_34 (by decide) ?_
      obtain ⟨hg, hF⟩ := rp_gu_e hF
      refine rp_ast (pc := 35) hC hw 1 (by decide) (mt_arr 1 221 rfl) 0 rfl hg dX7_become_35 (fun H locs hw => ?_)
      obtain ⟨σ7, eσ7, hF⟩ := rp_nm_e hF
      replace hw := rp_Wn eσ7 hw
      clear eσ7
      refine lv_aload_n (pc := 36) hx hb dX7_become_36 rfl (lv_at hl 0 rfl) ?_
      refine lv_iload_n (pc := 37) hx hb dX7_become_37 rfl (lv_at hl 1 rfl) ?_
      refine lv_iconst (pc := 38) (v := 0) hx hb dX7_become_38 (by decide) ?_
      obtain ⟨r8, σ9, hq, hF⟩ := rp_bd_e hF
      refine rp_ki (rp_runZ (rest := [.ref (a 0)]) hC (mE_ok _) hw hl.1 (mX7_guestAt (l := l) v1 0 σ7 _ hq) zw_X7_162 rfl rfl (Nat.le_of_ble_eq_true rfl) (by decide) dX7_become_39) hw (fun H locs hw => ?_)
      clear hq
      refine lv_iload_n (pc := 42) hx hb dX7_become_42 rfl (lv_at hl 2 rfl) ?_
      refine lv_bipush (pc := 43) (v := 10) hx hb dX7_become_43 (by decide) ?_
      refine lv_idiv (pc := 45) hx hb dX7_become_45 (by decide) ?_
      obtain ⟨r10, σ11, hq, hF⟩ := rp_bd_e hF
      refine rp_ki (rp_runV (rest := []) hC (mE_ok _) hw hl.1 (mX7_turn (l := l) r8 (v2 / 10) σ9 _ hq) vw_X7_186 (by decide) (mt_obj _) rfl rfl rfl (Nat.le_of_ble_eq_true rfl) (by decide) dX7_become_46) hw (fun H locs hw => ?_)
      clear hq
      exact rp_reti (pc := 49) hC hw hF dX7_become_49
    · replace hF := rp_it hc hF
      exact kX7_become_15 hC σ4 _ _ _ hF hw (lv_sub hl [0] rfl)
theorem mX7_become {l : Launch} {D : va_G} {cI cT : ClassId} {ad av a : Nat → Nat} (v1 : Int32) (v2 : Int32) (σ : rp_St) (res : Int32 × rp_St) (hF : fX7_become v1 v2 σ = some res) : mM l D cI cT ad av a yX7_become cX7_become 3 (some .int) 3 [.ref (a 0), .int v1, .int v2] σ (rp_Qi D a (mt cI cT ad a) 15 res) :=
  rp_entry (by decide) (Nat.le_of_ble_eq_true rfl) (fun p e s m below meth c ls hC hw hl => kX7_become_0 hC v1 v2 σ _ _ _ hF hw (lv_sub hl [0, 1, 2] rfl))
def fX7_as_18 (σ : rp_St) : Option (Int32 × rp_St) :=
  rp_bd (fX7_finding (-1000000001) σ) (fun r1 σ2 => some (r1, σ2))
set_option maxRecDepth 100000 in
set_option maxHeartbeats 4000000 in
theorem kX7_as_18 {p : Program} {l : Launch} {e : Env} {s : State} {m : MethodId} {args : Array Value} {below : List Frame} {meth : Method} {c : Code} {D : va_G} {cI cT : ClassId} {ad av a : Nat → Nat} {res : Int32 × rp_St} (hC : mC p s m args meth c cX7_as 3 "RegretPegsModel" (some .int) D cI cT ad av a) (σ : rp_St) (H : Heap) (locs : List Loc) (ls : Array Slot) (hF : fX7_as_18 σ = some res) (hw : mW D cI cT ad av a s σ H locs) (hl : lv_has ls 3 [(0, .ref (a 0))]) : W p l e (rp_rm 3) s m args below meth c H locs 0 0 (MQ below (rp_Qi D a (mt cI cT ad a) 15 res) args s 0 0 (rp_A a 15)) (F0 m 18 ls []) := by
  have hx := hC.1
  have hb := hC.2.1
  have hown := hC.2.2.2.1
  have hts := hC.2.2.2.2.1
  unfold fX7_as_18 at hF
  refine lv_aload_n (pc := 18) hx hb dX7_as_18 rfl (lv_at hl 0 rfl) ?_
  refine lv_ldc (pc := 19) (v := (-1000000001)) hx hb hown (hts _ wd_721) dX7_as_19 ?_
  obtain ⟨r1, σ2, hq, hF⟩ := rp_bd_e hF
  refine rp_ki (rp_runV (rest := []) hC (mE_ok _) hw hl.1 (mX7_finding (l := l) (-1000000001) σ _ hq) vw_X7_78 (by decide) (mt_obj _) rfl rfl rfl (Nat.le_of_ble_eq_true rfl) (by decide) dX7_as_21) hw (fun H locs hw => ?_)
  clear hq
  exact rp_reti (pc := 24) hC hw hF dX7_as_24
def fX7_as (v1 : Int32) (v2 : Int32) (σ : rp_St) : Option (Int32 × rp_St) :=
  rp_bd (fX7_isGuest v1 σ) (fun r1 σ2 => (if r1 = 0 then fX7_as_18 σ2 else rp_bd (fX7_within v2 0 6 σ2) (fun r3 σ4 => (if r3 = 0 then fX7_as_18 σ4 else rp_bd (fX7_guestIs v1 0 σ4) (fun r5 σ6 => rp_bd (fX7_isUnder r5 v2 σ6) (fun r7 σ8 => (if r7 = 0 then rp_bd (fX7_finding (-1000000005) σ8) (fun r9 σ10 => some (r9, σ10)) else rp_bd (fX7_guestIs v1 1 σ8) (fun r11 σ12 => some (r11, σ12)))))))))
set_option maxRecDepth 100000 in
set_option maxHeartbeats 4000000 in
theorem kX7_as_0 {p : Program} {l : Launch} {e : Env} {s : State} {m : MethodId} {args : Array Value} {below : List Frame} {meth : Method} {c : Code} {D : va_G} {cI cT : ClassId} {ad av a : Nat → Nat} {res : Int32 × rp_St} (hC : mC p s m args meth c cX7_as 3 "RegretPegsModel" (some .int) D cI cT ad av a) (v1 : Int32) (v2 : Int32) (σ : rp_St) (H : Heap) (locs : List Loc) (ls : Array Slot) (hF : fX7_as v1 v2 σ = some res) (hw : mW D cI cT ad av a s σ H locs) (hl : lv_has ls 3 [(0, .ref (a 0)), (1, .int v1), (2, .int v2)]) : W p l e (rp_rm 3) s m args below meth c H locs 0 0 (MQ below (rp_Qi D a (mt cI cT ad a) 15 res) args s 0 0 (rp_A a 15)) (F0 m 0 ls []) := by
  have hx := hC.1
  have hb := hC.2.1
  have hown := hC.2.2.2.1
  have hts := hC.2.2.2.2.1
  unfold fX7_as at hF
  refine lv_aload_n (pc := 0) hx hb dX7_as_0 rfl (lv_at hl 0 rfl) ?_
  refine lv_iload_n (pc := 1) hx hb dX7_as_1 rfl (lv_at hl 1 rfl) ?_
  obtain ⟨r1, σ2, hq, hF⟩ := rp_bd_e hF
  refine rp_ki (rp_runV (rest := []) hC (mE_ok _) hw hl.1 (mX7_isGuest (l := l) v1 σ _ hq) vw_X7_159 (by decide) (mt_obj _) rfl rfl rfl (Nat.le_of_ble_eq_true rfl) (by decide) dX7_as_2) hw (fun H locs hw => ?_)
  clear hq
  refine lv_if_eq (pc := 5) (tgt := 18) hx hb dX7_as_5 (by decide) (fun hc => ?_) (fun hc => ?_)
  · replace hF := rp_it hc hF
    exact kX7_as_18 hC σ2 _ _ _ hF hw (lv_sub hl [0] rfl)
  · replace hF := rp_if hc hF
    refine lv_iload_n (pc := 8) hx hb dX7_as_8 rfl (lv_at hl 2 rfl) ?_
    refine lv_iconst (pc := 9) (v := 0) hx hb dX7_as_9 (by decide) ?_
    refine lv_bipush (pc := 10) (v := 6) hx hb dX7_as_10 (by decide) ?_
    obtain ⟨r3, σ4, hq, hF⟩ := rp_bd_e hF
    refine rp_ki (rp_runZ (rest := []) hC (mE_ok _) hw hl.1 (mX7_within (l := l) v2 0 6 σ2 _ hq) zw_X7_73 rfl rfl (Nat.le_of_ble_eq_true rfl) (by decide) dX7_as_12) hw (fun H locs hw => ?_)
    clear hq
    refine lv_if_ne (pc := 15) (tgt := 25) hx hb dX7_as_15 (by decide) (fun hc => ?_) (fun hc => ?_)
    · replace hF := rp_if hc hF
      refine lv_aload_n (pc := 25) hx hb dX7_as_25 rfl (lv_at hl 0 rfl) ?_
      refine lv_iload_n (pc := 26) hx hb dX7_as_26 rfl (lv_at hl 1 rfl) ?_
      refine lv_iconst (pc := 27) (v := 0) hx hb dX7_as_27 (by decide) ?_
      obtain ⟨r5, σ6, hq, hF⟩ := rp_bd_e hF
      refine rp_ki (rp_runV (rest := []) hC (mE_ok _) hw hl.1 (mX7_guestIs (l := l) v1 0 σ4 _ hq) vw_X7_165 (by decide) (mt_obj _) rfl rfl rfl (Nat.le_of_ble_eq_true rfl) (by decide) dX7_as_28) hw (fun H locs hw => ?_)
      clear hq
      refine lv_iload_n (pc := 31) hx hb dX7_as_31 rfl (lv_at hl 2 rfl) ?_
      obtain ⟨r7, σ8, hq, hF⟩ := rp_bd_e hF
      refine rp_ki (rp_runZ (rest := []) hC (mE_ok _) hw hl.1 (mX7_isUnder (l := l) r5 v2 σ6 _ hq) zw_X7_192 rfl rfl (Nat.le_of_ble_eq_true rfl) (by decide) dX7_as_32) hw (fun H locs hw => ?_)
      clear hq
      refine lv_if_eq (pc := 35) (tgt := 47) hx hb dX7_as_35 (by decide) (fun hc => ?_) (fun hc => ?_)
      · replace hF := rp_it hc hF
        refine lv_aload_n (pc := 47) hx hb dX7_as_47 rfl (lv_at hl 0 rfl) ?_
        refine lv_ldc (pc := 48) (v := (-1000000005)) hx hb hown (hts _ wd_916) dX7_as_48 ?_
        obtain ⟨r9, σ10, hq, hF⟩ := rp_bd_e hF
        refine rp_ki (rp_runV (rest := []) hC (mE_ok _) hw hl.1 (mX7_finding (l := l) (-1000000005) σ8 _ hq) vw_X7_78 (by decide) (mt_obj _) rfl rfl rfl (Nat.le_of_ble_eq_true rfl) (by decide) dX7_as_50) hw (fun H locs hw => ?_)
        clear hq
        exact rp_reti (pc := 53) hC hw hF dX7_as_53
      · replace hF := rp_if hc hF
        refine lv_aload_n (pc := 38) hx hb dX7_as_38 rfl (lv_at hl 0 rfl) ?_
        refine lv_iload_n (pc := 39) hx hb dX7_as_39 rfl (lv_at hl 1 rfl) ?_
        refine lv_iconst (pc := 40) (v := 1) hx hb dX7_as_40 (by decide) ?_
        obtain ⟨r11, σ12, hq, hF⟩ := rp_bd_e hF
        refine rp_ki (rp_runV (rest := []) hC (mE_ok _) hw hl.1 (mX7_guestIs (l := l) v1 1 σ8 _ hq) vw_X7_165 (by decide) (mt_obj _) rfl rfl rfl (Nat.le_of_ble_eq_true rfl) (by decide) dX7_as_41) hw (fun H locs hw => ?_)
        clear hq
        refine lv_goto (pc := 44) (tgt := 53) hx hb dX7_as_44 (by decide) ?_
        exact rp_reti (pc := 53) hC hw hF dX7_as_53
    · replace hF := rp_it hc hF
      exact kX7_as_18 hC σ4 _ _ _ hF hw (lv_sub hl [0] rfl)
theorem mX7_as {l : Launch} {D : va_G} {cI cT : ClassId} {ad av a : Nat → Nat} (v1 : Int32) (v2 : Int32) (σ : rp_St) (res : Int32 × rp_St) (hF : fX7_as v1 v2 σ = some res) : mM l D cI cT ad av a yX7_as cX7_as 3 (some .int) 3 [.ref (a 0), .int v1, .int v2] σ (rp_Qi D a (mt cI cT ad a) 15 res) :=
  rp_entry (by decide) (Nat.le_of_ble_eq_true rfl) (fun p e s m below meth c ls hC hw hl => kX7_as_0 hC v1 v2 σ _ _ _ hF hw (lv_sub hl [0, 1, 2] rfl))
def fX7_hasDanced (v1 : Int32) (v2 : Int32) (σ : rp_St) : Option (Int32 × rp_St) :=
  rp_bd (fX7_guestAt v1 2 σ) (fun r1 σ2 => rp_gu (rp_in r1 221) (rp_nm (rp_put σ2 1 (r1 : Int32).toNatClampNeg v2) (fun σ3 => rp_bd (fX7_guestAt v1 3 σ3) (fun r4 σ5 => rp_bd (fX7_guestIs v1 3 σ5) (fun r6 σ7 => rp_gu (rp_in r4 221) (rp_nm (rp_put σ7 1 (r4 : Int32).toNatClampNeg (if (r6 + 1) < 999 then (r6 + 1) else 999)) (fun σ8 => rp_bd (fX7_guestAt v1 4 σ8) (fun r9 σ10 => rp_gu (rp_in r9 221) (rp_nm (rp_put σ10 1 (r9 : Int32).toNatClampNeg 0) (fun σ11 => some (0, σ11)))))))))))
set_option maxRecDepth 100000 in
set_option maxHeartbeats 4000000 in
theorem kX7_hasDanced_0 {p : Program} {l : Launch} {e : Env} {s : State} {m : MethodId} {args : Array Value} {below : List Frame} {meth : Method} {c : Code} {D : va_G} {cI cT : ClassId} {ad av a : Nat → Nat} {res : Int32 × rp_St} (hC : mC p s m args meth c cX7_hasDanced 3 "RegretPegsModel" none D cI cT ad av a) (v1 : Int32) (v2 : Int32) (σ : rp_St) (H : Heap) (locs : List Loc) (ls : Array Slot) (hF : fX7_hasDanced v1 v2 σ = some res) (hw : mW D cI cT ad av a s σ H locs) (hl : lv_has ls 3 [(0, .ref (a 0)), (1, .int v1), (2, .int v2)]) : W p l e (rp_rm 3) s m args below meth c H locs 0 0 (MQ below (rp_Qv D a (mt cI cT ad a) 15 res) args s 0 0 (rp_A a 15)) (F0 m 0 ls []) := by
  have hx := hC.1
  have hb := hC.2.1
  have hown := hC.2.2.2.1
  have hts := hC.2.2.2.2.1
  unfold fX7_hasDanced at hF
  refine lv_aload_n (pc := 0) hx hb dX7_hasDanced_0 rfl (lv_at hl 0 rfl) ?_
  refine rp_get (pc := 1) hC hw 0 (by decide) (mt_obj _) fl_X7_9 (.ref (a 1)) rfl dX7_hasDanced_1 ?_
  refine lv_iload_n (pc := 4) hx hb dX7_hasDanced_4 rfl (lv_at hl 1 rfl) ?_
  refine lv_iconst (pc := 5) (v := 2) hx hb dX7_hasDanced_5 (by decide) ?_
  obtain ⟨r1, σ2, hq, hF⟩ := rp_bd_e hF
  refine rp_ki (rp_runZ (rest := [.ref (a 1)]) hC (mE_ok _) hw hl.1 (mX7_guestAt (l := l) v1 2 σ _ hq) zw_X7_162 rfl rfl (Nat.le_of_ble_eq_true rfl) (by decide) dX7_hasDanced_6) hw (fun H locs hw => ?_)
  clear hq
  refine lv_iload_n (pc := 9) hx hb dX7_hasDanced_9 rfl (lv_at hl 2 rfl) ?_
  obtain ⟨hg, hF⟩ := rp_gu_e hF
  refine rp_ast (pc := 10) hC hw 1 (by decide) (mt_arr 1 221 rfl) 0 rfl hg dX7_hasDanced_10 (fun H locs hw => ?_)
  obtain ⟨σ3, eσ3, hF⟩ := rp_nm_e hF
  replace hw := rp_Wn eσ3 hw
  clear eσ3
  refine lv_aload_n (pc := 11) hx hb dX7_hasDanced_11 rfl (lv_at hl 0 rfl) ?_
  refine rp_get (pc := 12) hC hw 0 (by decide) (mt_obj _) fl_X7_9 (.ref (a 1)) rfl dX7_hasDanced_12 ?_
  refine lv_iload_n (pc := 15) hx hb dX7_hasDanced_15 rfl (lv_at hl 1 rfl) ?_
  refine lv_iconst (pc := 16) (v := 3) hx hb dX7_hasDanced_16 (by decide) ?_
  obtain ⟨r4, σ5, hq, hF⟩ := rp_bd_e hF
  refine rp_ki (rp_runZ (rest := [.ref (a 1)]) hC (mE_ok _) hw hl.1 (mX7_guestAt (l := l) v1 3 σ3 _ hq) zw_X7_162 rfl rfl (Nat.le_of_ble_eq_true rfl) (by decide) dX7_hasDanced_17) hw (fun H locs hw => ?_)
  clear hq
  refine lv_sipush (pc := 20) (v := 999) hx hb dX7_hasDanced_20 (by decide) ?_
  refine lv_aload_n (pc := 23) hx hb dX7_hasDanced_23 rfl (lv_at hl 0 rfl) ?_
  refine lv_iload_n (pc := 24) hx hb dX7_hasDanced_24 rfl (lv_at hl 1 rfl) ?_
  refine lv_iconst (pc := 25) (v := 3) hx hb dX7_hasDanced_25 (by decide) ?_
  obtain ⟨r6, σ7, hq, hF⟩ := rp_bd_e hF
  refine rp_ki (rp_runV (rest := [.int 999, .int r4, .ref (a 1)]) hC (mE_ok _) hw hl.1 (mX7_guestIs (l := l) v1 3 σ5 _ hq) vw_X7_165 (by decide) (mt_obj _) rfl rfl rfl (Nat.le_of_ble_eq_true rfl) (by decide) dX7_hasDanced_26) hw (fun H locs hw => ?_)
  clear hq
  refine lv_iconst (pc := 29) (v := 1) hx hb dX7_hasDanced_29 (by decide) ?_
  refine lv_iadd (pc := 30) hx hb dX7_hasDanced_30 ?_
  refine rp_min (pc := 31) hC hl.1 wd_843 wd_314 wd_9 wd_315 (Nat.le_of_ble_eq_true rfl) (by omega) dX7_hasDanced_31 ?_
  obtain ⟨hg, hF⟩ := rp_gu_e hF
  refine rp_ast (pc := 34) hC hw 1 (by decide) (mt_arr 1 221 rfl) 0 rfl hg dX7_hasDanced_34 (fun H locs hw => ?_)
  obtain ⟨σ8, eσ8, hF⟩ := rp_nm_e hF
  replace hw := rp_Wn eσ8 hw
  clear eσ8
  refine lv_aload_n (pc := 35) hx hb dX7_hasDanced_35 rfl (lv_at hl 0 rfl) ?_
  refine rp_get (pc := 36) hC hw 0 (by decide) (mt_obj _) fl_X7_9 (.ref (a 1)) rfl dX7_hasDanced_36 ?_
  refine lv_iload_n (pc := 39) hx hb dX7_hasDanced_39 rfl (lv_at hl 1 rfl) ?_
  refine lv_iconst (pc := 40) (v := 4) hx hb dX7_hasDanced_40 (by decide) ?_
  obtain ⟨r9, σ10, hq, hF⟩ := rp_bd_e hF
  refine rp_ki (rp_runZ (rest := [.ref (a 1)]) hC (mE_ok _) hw hl.1 (mX7_guestAt (l := l) v1 4 σ8 _ hq) zw_X7_162 rfl rfl (Nat.le_of_ble_eq_true rfl) (by decide) dX7_hasDanced_41) hw (fun H locs hw => ?_)
  clear hq
  refine lv_iconst (pc := 44) (v := 0) hx hb dX7_hasDanced_44 (by decide) ?_
  obtain ⟨hg, hF⟩ := rp_gu_e hF
  refine rp_ast (pc := 45) hC hw 1 (by decide) (mt_arr 1 221 rfl) 0 rfl hg dX7_hasDanced_45 (fun H locs hw => ?_)
  obtain ⟨σ11, eσ11, hF⟩ := rp_nm_e hF
  replace hw := rp_Wn eσ11 hw
  clear eσ11
  exact rp_retv (pc := 46) hC hw hF dX7_hasDanced_46
theorem mX7_hasDanced {l : Launch} {D : va_G} {cI cT : ClassId} {ad av a : Nat → Nat} (v1 : Int32) (v2 : Int32) (σ : rp_St) (res : Int32 × rp_St) (hF : fX7_hasDanced v1 v2 σ = some res) : mM l D cI cT ad av a yX7_hasDanced cX7_hasDanced 3 none 3 [.ref (a 0), .int v1, .int v2] σ (rp_Qv D a (mt cI cT ad a) 15 res) :=
  rp_entry (by decide) (Nat.le_of_ble_eq_true rfl) (fun p e s m below meth c ls hC hw hl => kX7_hasDanced_0 hC v1 v2 σ _ _ _ hF hw (lv_sub hl [0, 1, 2] rfl))
def fX7_dancing (v1 : Int32) (v2 : Int32) (σ : rp_St) : Option (Int32 × rp_St) :=
  rp_bd (fX7_rue v1 σ) (fun r1 σ2 => rp_bd (fX7_rue v2 σ2) (fun r3 σ4 => rp_bd (fX7_guestIs v1 1 σ4) (fun r5 σ6 => rp_bd (fX7_given 0 r1 r3 r5 σ6) (fun r7 σ8 => rp_bd (fX7_rue v2 σ8) (fun r9 σ10 => rp_bd (fX7_rue v1 σ10) (fun r11 σ12 => rp_bd (fX7_guestIs v2 1 σ12) (fun r13 σ14 => rp_bd (fX7_given 0 r9 r11 r13 σ14) (fun r15 σ16 => rp_bd (fX7_hasDanced v1 r7 σ16) (fun _ σ18 => rp_bd (fX7_hasDanced v2 r15 σ18) (fun _ σ20 => some (0, σ20)))))))))))
set_option maxRecDepth 100000 in
set_option maxHeartbeats 4000000 in
theorem kX7_dancing_0 {p : Program} {l : Launch} {e : Env} {s : State} {m : MethodId} {args : Array Value} {below : List Frame} {meth : Method} {c : Code} {D : va_G} {cI cT : ClassId} {ad av a : Nat → Nat} {res : Int32 × rp_St} (hC : mC p s m args meth c cX7_dancing 5 "RegretPegsModel" none D cI cT ad av a) (v1 : Int32) (v2 : Int32) (σ : rp_St) (H : Heap) (locs : List Loc) (ls : Array Slot) (hF : fX7_dancing v1 v2 σ = some res) (hw : mW D cI cT ad av a s σ H locs) (hl : lv_has ls 5 [(0, .ref (a 0)), (1, .int v1), (2, .int v2)]) : W p l e (rp_rm 4) s m args below meth c H locs 0 0 (MQ below (rp_Qv D a (mt cI cT ad a) 15 res) args s 0 0 (rp_A a 15)) (F0 m 0 ls []) := by
  have hx := hC.1
  have hb := hC.2.1
  have hown := hC.2.2.2.1
  have hts := hC.2.2.2.2.1
  unfold fX7_dancing at hF
  refine lv_aload_n (pc := 0) hx hb dX7_dancing_0 rfl (lv_at hl 0 rfl) ?_
  refine lv_iconst (pc := 1) (v := 0) hx hb dX7_dancing_1 (by decide) ?_
  refine lv_aload_n (pc := 2) hx hb dX7_dancing_2 rfl (lv_at hl 0 rfl) ?_
  refine lv_iload_n (pc := 3) hx hb dX7_dancing_3 rfl (lv_at hl 1 rfl) ?_
  obtain ⟨r1, σ2, hq, hF⟩ := rp_bd_e hF
  refine rp_ki (rp_runV (rest := [.int 0, .ref (a 0)]) hC (mE_ok _) hw hl.1 (mX7_rue (l := l) v1 σ _ hq) vw_X7_197 (by decide) (mt_obj _) rfl rfl rfl (Nat.le_of_ble_eq_true rfl) (by decide) dX7_dancing_4) hw (fun H locs hw => ?_)
  clear hq
  refine lv_aload_n (pc := 7) hx hb dX7_dancing_7 rfl (lv_at hl 0 rfl) ?_
  refine lv_iload_n (pc := 8) hx hb dX7_dancing_8 rfl (lv_at hl 2 rfl) ?_
  obtain ⟨r3, σ4, hq, hF⟩ := rp_bd_e hF
  refine rp_ki (rp_runV (rest := [.int r1, .int 0, .ref (a 0)]) hC (mE_ok _) hw hl.1 (mX7_rue (l := l) v2 σ2 _ hq) vw_X7_197 (by decide) (mt_obj _) rfl rfl rfl (Nat.le_of_ble_eq_true rfl) (by decide) dX7_dancing_9) hw (fun H locs hw => ?_)
  clear hq
  refine lv_aload_n (pc := 12) hx hb dX7_dancing_12 rfl (lv_at hl 0 rfl) ?_
  refine lv_iload_n (pc := 13) hx hb dX7_dancing_13 rfl (lv_at hl 1 rfl) ?_
  refine lv_iconst (pc := 14) (v := 1) hx hb dX7_dancing_14 (by decide) ?_
  obtain ⟨r5, σ6, hq, hF⟩ := rp_bd_e hF
  refine rp_ki (rp_runV (rest := [.int r3, .int r1, .int 0, .ref (a 0)]) hC (mE_ok _) hw hl.1 (mX7_guestIs (l := l) v1 1 σ4 _ hq) vw_X7_165 (by decide) (mt_obj _) rfl rfl rfl (Nat.le_of_ble_eq_true rfl) (by decide) dX7_dancing_15) hw (fun H locs hw => ?_)
  clear hq
  obtain ⟨r7, σ8, hq, hF⟩ := rp_bd_e hF
  refine rp_ki (rp_runV (rest := []) hC (mE_ok _) hw hl.1 (mX7_given (l := l) 0 r1 r3 r5 σ6 _ hq) vw_X7_155 (by decide) (mt_obj _) rfl rfl rfl (Nat.le_of_ble_eq_true rfl) (by decide) dX7_dancing_18) hw (fun H locs hw => ?_)
  clear hq
  refine lv_istore_n (pc := 21) (lv' := [(3, .int r7), (0, .ref (a 0)), (1, .int v1), (2, .int v2)]) hx hb dX7_dancing_21 rfl hl (by decide) rfl (fun ls hl => ?_)
  refine lv_aload_n (pc := 22) hx hb dX7_dancing_22 rfl (lv_at hl 1 rfl) ?_
  refine lv_iconst (pc := 23) (v := 0) hx hb dX7_dancing_23 (by decide) ?_
  refine lv_aload_n (pc := 24) hx hb dX7_dancing_24 rfl (lv_at hl 1 rfl) ?_
  refine lv_iload_n (pc := 25) hx hb dX7_dancing_25 rfl (lv_at hl 3 rfl) ?_
  obtain ⟨r9, σ10, hq, hF⟩ := rp_bd_e hF
  refine rp_ki (rp_runV (rest := [.int 0, .ref (a 0)]) hC (mE_ok _) hw hl.1 (mX7_rue (l := l) v2 σ8 _ hq) vw_X7_197 (by decide) (mt_obj _) rfl rfl rfl (Nat.le_of_ble_eq_true rfl) (by decide) dX7_dancing_26) hw (fun H locs hw => ?_)
  clear hq
  refine lv_aload_n (pc := 29) hx hb dX7_dancing_29 rfl (lv_at hl 1 rfl) ?_
  refine lv_iload_n (pc := 30) hx hb dX7_dancing_30 rfl (lv_at hl 2 rfl) ?_
  obtain ⟨r11, σ12, hq, hF⟩ := rp_bd_e hF
  refine rp_ki (rp_runV (rest := [.int r9, .int 0, .ref (a 0)]) hC (mE_ok _) hw hl.1 (mX7_rue (l := l) v1 σ10 _ hq) vw_X7_197 (by decide) (mt_obj _) rfl rfl rfl (Nat.le_of_ble_eq_true rfl) (by decide) dX7_dancing_31) hw (fun H locs hw => ?_)
  clear hq
  refine lv_aload_n (pc := 34) hx hb dX7_dancing_34 rfl (lv_at hl 1 rfl) ?_
  refine lv_iload_n (pc := 35) hx hb dX7_dancing_35 rfl (lv_at hl 3 rfl) ?_
  refine lv_iconst (pc := 36) (v := 1) hx hb dX7_dancing_36 (by decide) ?_
  obtain ⟨r13, σ14, hq, hF⟩ := rp_bd_e hF
  refine rp_ki (rp_runV (rest := [.int r11, .int r9, .int 0, .ref (a 0)]) hC (mE_ok _) hw hl.1 (mX7_guestIs (l := l) v2 1 σ12 _ hq) vw_X7_165 (by decide) (mt_obj _) rfl rfl rfl (Nat.le_of_ble_eq_true rfl) (by decide) dX7_dancing_37) hw (fun H locs hw => ?_)
  clear hq
  obtain ⟨r15, σ16, hq, hF⟩ := rp_bd_e hF
  refine rp_ki (rp_runV (rest := []) hC (mE_ok _) hw hl.1 (mX7_given (l := l) 0 r9 r11 r13 σ14 _ hq) vw_X7_155 (by decide) (mt_obj _) rfl rfl rfl (Nat.le_of_ble_eq_true rfl) (by decide) dX7_dancing_40) hw (fun H locs hw => ?_)
  clear hq
  refine lv_istore (pc := 43) (lv' := [(4, .int r15), (3, .int r7), (0, .ref (a 0)), (1, .int v1), (2, .int v2)]) hx hb dX7_dancing_43 hl (by decide) rfl (fun ls hl => ?_)
  refine lv_aload_n (pc := 45) hx hb dX7_dancing_45 rfl (lv_at hl 2 rfl) ?_
  refine lv_iload_n (pc := 46) hx hb dX7_dancing_46 rfl (lv_at hl 3 rfl) ?_
  refine lv_iload_n (pc := 47) hx hb dX7_dancing_47 rfl (lv_at hl 1 rfl) ?_
  obtain ⟨r17, σ18, hq, hF⟩ := rp_bd_e hF
  refine rp_kv (rp_runV (rest := []) hC (mE_ok _) hw hl.1 (mX7_hasDanced (l := l) v1 r7 σ16 _ hq) vw_X7_200 (by decide) (mt_obj _) rfl rfl rfl (Nat.le_of_ble_eq_true rfl) (by decide) dX7_dancing_48) hw (fun H locs hw => ?_)
  clear hq
  refine lv_aload_n (pc := 51) hx hb dX7_dancing_51 rfl (lv_at hl 2 rfl) ?_
  refine lv_iload_n (pc := 52) hx hb dX7_dancing_52 rfl (lv_at hl 4 rfl) ?_
  refine lv_iload (pc := 53) hx hb dX7_dancing_53 (lv_at hl 0 rfl) ?_
  obtain ⟨r19, σ20, hq, hF⟩ := rp_bd_e hF
  refine rp_kv (rp_runV (rest := []) hC (mE_ok _) hw hl.1 (mX7_hasDanced (l := l) v2 r15 σ18 _ hq) vw_X7_200 (by decide) (mt_obj _) rfl rfl rfl (Nat.le_of_ble_eq_true rfl) (by decide) dX7_dancing_55) hw (fun H locs hw => ?_)
  clear hq
  exact rp_retv (pc := 58) hC hw hF dX7_dancing_58
theorem mX7_dancing {l : Launch} {D : va_G} {cI cT : ClassId} {ad av a : Nat → Nat} (v1 : Int32) (v2 : Int32) (σ : rp_St) (res : Int32 × rp_St) (hF : fX7_dancing v1 v2 σ = some res) : mM l D cI cT ad av a yX7_dancing cX7_dancing 5 none 4 [.ref (a 0), .int v1, .int v2] σ (rp_Qv D a (mt cI cT ad a) 15 res) :=
  rp_entry (by decide) (Nat.le_of_ble_eq_true rfl) (fun p e s m below meth c ls hC hw hl => kX7_dancing_0 hC v1 v2 σ _ _ _ hF hw (lv_sub hl [0, 1, 2] rfl))
def fX7_dance_34 (σ : rp_St) : Option (Int32 × rp_St) :=
  rp_bd (fX7_finding (-1000000003) σ) (fun r1 σ2 => some (r1, σ2))
set_option maxRecDepth 100000 in
set_option maxHeartbeats 4000000 in
theorem kX7_dance_34 {p : Program} {l : Launch} {e : Env} {s : State} {m : MethodId} {args : Array Value} {below : List Frame} {meth : Method} {c : Code} {D : va_G} {cI cT : ClassId} {ad av a : Nat → Nat} {res : Int32 × rp_St} (hC : mC p s m args meth c cX7_dance 3 "RegretPegsModel" (some .int) D cI cT ad av a) (σ : rp_St) (H : Heap) (locs : List Loc) (ls : Array Slot) (hF : fX7_dance_34 σ = some res) (hw : mW D cI cT ad av a s σ H locs) (hl : lv_has ls 3 [(0, .ref (a 0))]) : W p l e (rp_rm 5) s m args below meth c H locs 0 0 (MQ below (rp_Qi D a (mt cI cT ad a) 15 res) args s 0 0 (rp_A a 15)) (F0 m 34 ls []) := by
  have hx := hC.1
  have hb := hC.2.1
  have hown := hC.2.2.2.1
  have hts := hC.2.2.2.2.1
  unfold fX7_dance_34 at hF
  refine lv_aload_n (pc := 34) hx hb dX7_dance_34 rfl (lv_at hl 0 rfl) ?_
  refine lv_ldc (pc := 35) (v := (-1000000003)) hx hb hown (hts _ wd_925) dX7_dance_35 ?_
  obtain ⟨r1, σ2, hq, hF⟩ := rp_bd_e hF
  refine rp_ki (rp_runV (rest := []) hC (mE_ok _) hw hl.1 (mX7_finding (l := l) (-1000000003) σ _ hq) vw_X7_78 (by decide) (mt_obj _) rfl rfl rfl (Nat.le_of_ble_eq_true rfl) (by decide) dX7_dance_37) hw (fun H locs hw => ?_)
  clear hq
  exact rp_reti (pc := 40) hC hw hF dX7_dance_40
def fX7_dance (v1 : Int32) (v2 : Int32) (σ : rp_St) : Option (Int32 × rp_St) :=
  rp_bd (fX7_areTwo v1 v2 σ) (fun r1 σ2 => (if r1 = 0 then rp_bd (fX7_finding (-1000000001) σ2) (fun r11 σ12 => some (r11, σ12)) else rp_bd (fX7_guestIs v1 4 σ2) (fun r3 σ4 => (if r3 = 0 then fX7_dance_34 σ4 else rp_bd (fX7_guestIs v2 4 σ4) (fun r5 σ6 => (if r5 = 0 then fX7_dance_34 σ6 else rp_bd (fX7_dancing v1 v2 σ6) (fun _ σ8 => rp_bd (fX7_rue v1 σ8) (fun r9 σ10 => some (r9, σ10)))))))))
set_option maxRecDepth 100000 in
set_option maxHeartbeats 4000000 in
theorem kX7_dance_0 {p : Program} {l : Launch} {e : Env} {s : State} {m : MethodId} {args : Array Value} {below : List Frame} {meth : Method} {c : Code} {D : va_G} {cI cT : ClassId} {ad av a : Nat → Nat} {res : Int32 × rp_St} (hC : mC p s m args meth c cX7_dance 3 "RegretPegsModel" (some .int) D cI cT ad av a) (v1 : Int32) (v2 : Int32) (σ : rp_St) (H : Heap) (locs : List Loc) (ls : Array Slot) (hF : fX7_dance v1 v2 σ = some res) (hw : mW D cI cT ad av a s σ H locs) (hl : lv_has ls 3 [(0, .ref (a 0)), (1, .int v1), (2, .int v2)]) : W p l e (rp_rm 5) s m args below meth c H locs 0 0 (MQ below (rp_Qi D a (mt cI cT ad a) 15 res) args s 0 0 (rp_A a 15)) (F0 m 0 ls []) := by
  have hx := hC.1
  have hb := hC.2.1
  have hown := hC.2.2.2.1
  have hts := hC.2.2.2.2.1
  unfold fX7_dance at hF
  refine lv_aload_n (pc := 0) hx hb dX7_dance_0 rfl (lv_at hl 0 rfl) ?_
  refine lv_iload_n (pc := 1) hx hb dX7_dance_1 rfl (lv_at hl 1 rfl) ?_
  refine lv_iload_n (pc := 2) hx hb dX7_dance_2 rfl (lv_at hl 2 rfl) ?_
  obtain ⟨r1, σ2, hq, hF⟩ := rp_bd_e hF
  refine rp_ki (rp_runV (rest := []) hC (mE_ok _) hw hl.1 (mX7_areTwo (l := l) v1 v2 σ _ hq) vw_X7_204 (by decide) (mt_obj _) rfl rfl rfl (Nat.le_of_ble_eq_true rfl) (by decide) dX7_dance_3) hw (fun H locs hw => ?_)
  clear hq
  refine lv_if_ne (pc := 6) (tgt := 16) hx hb dX7_dance_6 (by decide) (fun hc => ?_) (fun hc => ?_)
  · replace hF := rp_if hc hF
    refine lv_aload_n (pc := 16) hx hb dX7_dance_16 rfl (lv_at hl 0 rfl) ?_
    refine lv_iload_n (pc := 17) hx hb dX7_dance_17 rfl (lv_at hl 1 rfl) ?_
    refine lv_iconst (pc := 18) (v := 4) hx hb dX7_dance_18 (by decide) ?_
    obtain ⟨r3, σ4, hq, hF⟩ := rp_bd_e hF
    refine rp_ki (rp_runV (rest := []) hC (mE_ok _) hw hl.1 (mX7_guestIs (l := l) v1 4 σ2 _ hq) vw_X7_165 (by decide) (mt_obj _) rfl rfl rfl (Nat.le_of_ble_eq_true rfl) (by decide) dX7_dance_19) hw (fun H locs hw => ?_)
    clear hq
    refine lv_if_eq (pc := 22) (tgt := 34) hx hb dX7_dance_22 (by decide) (fun hc => ?_) (fun hc => ?_)
    · replace hF := rp_it hc hF
      exact kX7_dance_34 hC σ4 _ _ _ hF hw (lv_sub hl [0] rfl)
    · replace hF := rp_if hc hF
      refine lv_aload_n (pc := 25) hx hb dX7_dance_25 rfl (lv_at hl 0 rfl) ?_
      refine lv_iload_n (pc := 26) hx hb dX7_dance_26 rfl (lv_at hl 2 rfl) ?_
      refine lv_iconst (pc := 27) (v := 4) hx hb dX7_dance_27 (by decide) ?_
      obtain ⟨r5, σ6, hq, hF⟩ := rp_bd_e hF
      refine rp_ki (rp_runV (rest := []) hC (mE_ok _) hw hl.1 (mX7_guestIs (l := l) v2 4 σ4 _ hq) vw_X7_165 (by decide) (mt_obj _) rfl rfl rfl (Nat.le_of_ble_eq_true rfl) (by decide) dX7_dance_28) hw (fun H locs hw => ?_)
      clear hq
      refine lv_if_ne (pc := 31) (tgt := 41) hx hb dX7_dance_31 (by decide) (fun hc => ?_) (fun hc => ?_)
      · replace hF := rp_if hc hF
        refine lv_aload_n (pc := 41) hx hb dX7_dance_41 rfl (lv_at hl 0 rfl) ?_
        refine lv_iload_n (pc := 42) hx hb dX7_dance_42 rfl (lv_at hl 1 rfl) ?_
        refine lv_iload_n (pc := 43) hx hb dX7_dance_43 rfl (lv_at hl 2 rfl) ?_
        obtain ⟨r7, σ8, hq, hF⟩ := rp_bd_e hF
        refine rp_kv (rp_runV (rest := []) hC (mE_ok _) hw hl.1 (mX7_dancing (l := l) v1 v2 σ6 _ hq) vw_X7_208 (by decide) (mt_obj _) rfl rfl rfl (Nat.le_of_ble_eq_true rfl) (by decide) dX7_dance_44) hw (fun H locs hw => ?_)
        clear hq
        refine lv_aload_n (pc := 47) hx hb dX7_dance_47 rfl (lv_at hl 0 rfl) ?_
        refine lv_iload_n (pc := 48) hx hb dX7_dance_48 rfl (lv_at hl 1 rfl) ?_
        obtain ⟨r9, σ10, hq, hF⟩ := rp_bd_e hF
        refine rp_ki (rp_runV (rest := []) hC (mE_ok _) hw hl.1 (mX7_rue (l := l) v1 σ8 _ hq) vw_X7_197 (by decide) (mt_obj _) rfl rfl rfl (Nat.le_of_ble_eq_true rfl) (by decide) dX7_dance_49) hw (fun H locs hw => ?_)
        clear hq
        exact rp_reti (pc := 52) hC hw hF dX7_dance_52
      · replace hF := rp_it hc hF
        exact kX7_dance_34 hC σ6 _ _ _ hF hw (lv_sub hl [0] rfl)
  · replace hF := rp_it hc hF
    refine lv_aload_n (pc := 9) hx hb dX7_dance_9 rfl (lv_at hl 0 rfl) ?_
    refine lv_ldc (pc := 10) (v := (-1000000001)) hx hb hown (hts _ wd_721) dX7_dance_10 ?_
    obtain ⟨r11, σ12, hq, hF⟩ := rp_bd_e hF
    refine rp_ki (rp_runV (rest := []) hC (mE_ok _) hw hl.1 (mX7_finding (l := l) (-1000000001) σ2 _ hq) vw_X7_78 (by decide) (mt_obj _) rfl rfl rfl (Nat.le_of_ble_eq_true rfl) (by decide) dX7_dance_12) hw (fun H locs hw => ?_)
    clear hq
    exact rp_reti (pc := 15) hC hw hF dX7_dance_15
theorem mX7_dance {l : Launch} {D : va_G} {cI cT : ClassId} {ad av a : Nat → Nat} (v1 : Int32) (v2 : Int32) (σ : rp_St) (res : Int32 × rp_St) (hF : fX7_dance v1 v2 σ = some res) : mM l D cI cT ad av a yX7_dance cX7_dance 3 (some .int) 5 [.ref (a 0), .int v1, .int v2] σ (rp_Qi D a (mt cI cT ad a) 15 res) :=
  rp_entry (by decide) (Nat.le_of_ble_eq_true rfl) (fun p e s m below meth c ls hC hw hl => kX7_dance_0 hC v1 v2 σ _ _ _ hF hw (lv_sub hl [0, 1, 2] rfl))
def fX7_isWrongAt (v1 : Int32) (σ : rp_St) : Option (Int32 × rp_St) :=
  rp_gu (rp_in (5 + v1) 221) (rp_bd (fX7_rue (σ 1 ((5 + v1) : Int32).toNatClampNeg) σ) (fun r1 σ2 => rp_gu (rp_in ((5 + v1) + 1) 221) (rp_bd (fX7_rue (σ2 1 (((5 + v1) + 1) : Int32).toNatClampNeg) σ2) (fun r3 σ4 => (if r1 ≤ r3 then some (0, σ4) else some (1, σ4))))))
set_option maxRecDepth 100000 in
set_option maxHeartbeats 4000000 in
theorem kX7_isWrongAt_0 {p : Program} {l : Launch} {e : Env} {s : State} {m : MethodId} {args : Array Value} {below : List Frame} {meth : Method} {c : Code} {D : va_G} {cI cT : ClassId} {ad av a : Nat → Nat} {res : Int32 × rp_St} (hC : mC p s m args meth c cX7_isWrongAt 2 "RegretPegsModel" (some .boolean) D cI cT ad av a) (v1 : Int32) (σ : rp_St) (H : Heap) (locs : List Loc) (ls : Array Slot) (hF : fX7_isWrongAt v1 σ = some res) (hw : mW D cI cT ad av a s σ H locs) (hl : lv_has ls 2 [(0, .ref (a 0)), (1, .int v1)]) : W p l e (rp_rm 4) s m args below meth c H locs 0 0 (MQ below (rp_Qi D a (mt cI cT ad a) 15 res) args s 0 0 (rp_A a 15)) (F0 m 0 ls []) := by
  have hx := hC.1
  have hb := hC.2.1
  have hown := hC.2.2.2.1
  have hts := hC.2.2.2.2.1
  unfold fX7_isWrongAt at hF
  refine lv_aload_n (pc := 0) hx hb dX7_isWrongAt_0 rfl (lv_at hl 0 rfl) ?_
  refine lv_aload_n (pc := 1) hx hb dX7_isWrongAt_1 rfl (lv_at hl 0 rfl) ?_
  refine rp_get (pc := 2) hC hw 0 (by decide) (mt_obj _) fl_X7_9 (.ref (a 1)) rfl dX7_isWrongAt_2 ?_
  refine lv_iconst (pc := 5) (v := 5) hx hb dX7_isWrongAt_5 (by decide) ?_
  refine lv_iload_n (pc := 6) hx hb dX7_isWrongAt_6 rfl (lv_at hl 1 rfl) ?_
  refine lv_iadd (pc := 7) hx hb dX7_isWrongAt_7 ?_
  obtain ⟨hg, hF⟩ := rp_gu_e hF
  refine rp_ald (pc := 8) hC hw 1 (by decide) (mt_arr 1 221 rfl) 0 rfl hg dX7_isWrongAt_8 ?_
  obtain ⟨r1, σ2, hq, hF⟩ := rp_bd_e hF
  refine rp_ki (rp_runV (rest := []) hC (mE_ok _) hw hl.1 (mX7_rue (l := l) (σ 1 ((5 + v1) : Int32).toNatClampNeg) σ _ hq) vw_X7_197 (by decide) (mt_obj _) rfl rfl rfl (Nat.le_of_ble_eq_true rfl) (by decide) dX7_isWrongAt_9) hw (fun H locs hw => ?_)
  clear hq
  refine lv_aload_n (pc := 12) hx hb dX7_isWrongAt_12 rfl (lv_at hl 0 rfl) ?_
  refine lv_aload_n (pc := 13) hx hb dX7_isWrongAt_13 rfl (lv_at hl 0 rfl) ?_
  refine rp_get (pc := 14) hC hw 0 (by decide) (mt_obj _) fl_X7_9 (.ref (a 1)) rfl dX7_isWrongAt_14 ?_
  refine lv_iconst (pc := 17) (v := 5) hx hb dX7_isWrongAt_17 (by decide) ?_
  refine lv_iload_n (pc := 18) hx hb dX7_isWrongAt_18 rfl (lv_at hl 1 rfl) ?_
  refine lv_iadd (pc := 19) hx hb dX7_isWrongAt_19 ?_
  refine lv_iconst (pc := 20) (v := 1) hx hb dX7_isWrongAt_20 (by decide) ?_
  refine lv_iadd (pc := 21) hx hb dX7_isWrongAt_21 ?_
  obtain ⟨hg, hF⟩ := rp_gu_e hF
  refine rp_ald (pc := 22) hC hw 1 (by decide) (mt_arr 1 221 rfl) 0 rfl hg dX7_isWrongAt_22 ?_
  obtain ⟨r3, σ4, hq, hF⟩ := rp_bd_e hF
  refine rp_ki (rp_runV (rest := [.int r1]) hC (mE_ok _) hw hl.1 (mX7_rue (l := l) (σ2 1 (((5 + v1) + 1) : Int32).toNatClampNeg) σ2 _ hq) vw_X7_197 (by decide) (mt_obj _) rfl rfl rfl (Nat.le_of_ble_eq_true rfl) (by decide) dX7_isWrongAt_23) hw (fun H locs hw => ?_)
  clear hq
  refine lv_icmp_le (pc := 26) (tgt := 33) hx hb dX7_isWrongAt_26 (by decide) (fun hc => ?_) (fun hc => ?_)
  · replace hF := rp_it hc hF
    refine lv_iconst (pc := 33) (v := 0) hx hb dX7_isWrongAt_33 (by decide) ?_
    exact rp_retz (pc := 34) hC hw rfl hF dX7_isWrongAt_34
  · replace hF := rp_if hc hF
    refine lv_iconst (pc := 29) (v := 1) hx hb dX7_isWrongAt_29 (by decide) ?_
    refine lv_goto (pc := 30) (tgt := 34) hx hb dX7_isWrongAt_30 (by decide) ?_
    exact rp_retz (pc := 34) hC hw rfl hF dX7_isWrongAt_34
theorem mX7_isWrongAt {l : Launch} {D : va_G} {cI cT : ClassId} {ad av a : Nat → Nat} (v1 : Int32) (σ : rp_St) (res : Int32 × rp_St) (hF : fX7_isWrongAt v1 σ = some res) : mM l D cI cT ad av a yX7_isWrongAt cX7_isWrongAt 2 (some .boolean) 4 [.ref (a 0), .int v1] σ (rp_Qi D a (mt cI cT ad a) 15 res) :=
  rp_entry (by decide) (Nat.le_of_ble_eq_true rfl) (fun p e s m below meth c ls hC hw hl => kX7_isWrongAt_0 hC v1 σ _ _ _ hF hw (lv_sub hl [0, 1] rfl))
