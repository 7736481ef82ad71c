def fX7_sighsOf_38 (v2 : Int32) (v3 : Int32) (σ : rp_St) : Option (Int32 × rp_St) :=
  rp_bd (fX7_ran 11 σ) (fun _ σ2 => rp_bd (fX7_dancesOf v2 σ2) (fun r3 σ4 => rp_nm (r3 * 2) (fun x5 => (if v3 = 0 then some (x5, σ4) else rp_bd (fX7_looksOf 1 σ4) (fun r6 σ7 => some ((x5 - r6), σ7))))))
set_option maxRecDepth 100000 in
set_option maxHeartbeats 4000000 in
theorem kX7_sighsOf_38 {p : Program} {l : Launch} {e : Env} {s : State} {m : MethodId} {args : Array Value} {below : List Frame} {meth : Method} {c : Code} {D : va_G} {cI cT : ClassId} {ad av a : Nat → Nat} {res : Int32 × rp_St} (hC : mC p s m args meth c cX7_sighsOf 5 "RegretPegsModel" (some .int) D cI cT ad av a) (v2 : Int32) (v3 : Int32) (σ : rp_St) (H : Heap) (locs : List Loc) (ls : Array Slot) (hF : fX7_sighsOf_38 v2 v3 σ = some res) (hw : mW D cI cT ad av a s σ H locs) (hl : lv_has ls 5 [(0, .ref (a 0)), (2, .int v2), (3, .int v3)]) : W p l e (rp_rm 4) s m args below meth c H locs 0 0 (MQ below (rp_Qi D a (mt cI cT ad a) 15 res) args s 0 0 (rp_A a 15)) (F0 m 38 ls []) := by
  have hx := hC.1
  have hb := hC.2.1
  have hown := hC.2.2.2.1
  have hts := hC.2.2.2.2.1
  unfold fX7_sighsOf_38 at hF
  refine lv_aload_n (pc := 38) hx hb dX7_sighsOf_38 rfl (lv_at hl 0 rfl) ?_
  refine lv_bipush (pc := 39) (v := 11) hx hb dX7_sighsOf_39 (by decide) ?_
  obtain ⟨r1, σ2, hq, hF⟩ := rp_bd_e hF
  refine rp_kv (rp_runV (rest := []) hC (mE_ok _) hw hl.1 (mX7_ran (l := l) 11 σ _ hq) vw_X7_269 (by decide) (mt_obj _) rfl rfl rfl (Nat.le_of_ble_eq_true rfl) (by decide) dX7_sighsOf_41) hw (fun H locs hw => ?_)
  clear hq
  refine lv_aload_n (pc := 44) hx hb dX7_sighsOf_44 rfl (lv_at hl 0 rfl) ?_
  refine lv_iload_n (pc := 45) hx hb dX7_sighsOf_45 rfl (lv_at hl 1 rfl) ?_
  obtain ⟨r3, σ4, hq, hF⟩ := rp_bd_e hF
  refine rp_ki (rp_runV (rest := []) hC (mE_ok _) hw hl.1 (mX7_dancesOf (l := l) v2 σ2 _ hq) vw_X7_275 (by decide) (mt_obj _) rfl rfl rfl (Nat.le_of_ble_eq_true rfl) (by decide) dX7_sighsOf_46) hw (fun H locs hw => ?_)
  clear hq
  refine lv_iconst (pc := 49) (v := 2) hx hb dX7_sighsOf_49 (by decide) ?_
  refine lv_imul (pc := 50) hx hb dX7_sighsOf_50 ?_
  obtain ⟨x5, ex5, hF⟩ := rp_nm_e hF
  refine rp_top ex5 ?_
  refine lv_istore (pc := 51) (lv' := [(4, .int x5), (0, .ref (a 0)), (2, .int v2), (3, .int v3)]) hx hb dX7_sighsOf_51 hl (by decide) rfl (fun ls hl => ?_)
  refine lv_iload_n (pc := 53) hx hb dX7_sighsOf_53 rfl (lv_at hl 3 rfl) ?_
  refine lv_if_eq (pc := 54) (tgt := 68) hx hb dX7_sighsOf_54 (by decide) (fun hc => ?_) (fun hc => ?_)
  · replace hF := rp_it hc hF
    refine lv_iload (pc := 68) hx hb dX7_sighsOf_68 (lv_at hl 0 rfl) ?_
    exact rp_reti (pc := 70) hC hw hF dX7_sighsOf_70
  · replace hF := rp_if hc hF
    refine lv_iload (pc := 57) hx hb dX7_sighsOf_57 (lv_at hl 0 rfl) ?_
    refine lv_aload_n (pc := 59) hx hb dX7_sighsOf_59 rfl (lv_at hl 1 rfl) ?_
    refine lv_iconst (pc := 60) (v := 1) hx hb dX7_sighsOf_60 (by decide) ?_
    obtain ⟨r6, σ7, hq, hF⟩ := rp_bd_e hF
    refine rp_ki (rp_runV (rest := [.int x5]) hC (mE_ok _) hw hl.1 (mX7_looksOf (l := l) 1 σ4 _ hq) vw_X7_278 (by decide) (mt_obj _) rfl rfl rfl (Nat.le_of_ble_eq_true rfl) (by decide) dX7_sighsOf_61) hw (fun H locs hw => ?_)
    clear hq
    refine lv_isub (pc := 64) hx hb dX7_sighsOf_64 ?_
    refine lv_goto (pc := 65) (tgt := 70) hx hb dX7_sighsOf_65 (by decide) ?_
    exact rp_reti (pc := 70) hC hw hF dX7_sighsOf_70
def fX7_sighsOf_19 (v2 : Int32) (σ : rp_St) : Option (Int32 × rp_St) :=
  rp_bd (fX7_isUnder (σ 0 17) 2 σ) (fun r1 σ2 => (if r1 = 0 then fX7_sighsOf_38 v2 r1 σ2 else rp_bd (fX7_ran 30 σ2) (fun _ σ4 => fX7_sighsOf_38 v2 r1 σ4)))
set_option maxRecDepth 100000 in
set_option maxHeartbeats 4000000 in
theorem kX7_sighsOf_19 {p : Program} {l : Launch} {e : Env} {s : State} {m : MethodId} {args : Array Value} {below : List Frame} {meth : Method} {c : Code} {D : va_G} {cI cT : ClassId} {ad av a : Nat → Nat} {res : Int32 × rp_St} (hC : mC p s m args meth c cX7_sighsOf 5 "RegretPegsModel" (some .int) D cI cT ad av a) (v2 : Int32) (σ : rp_St) (H : Heap) (locs : List Loc) (ls : Array Slot) (hF : fX7_sighsOf_19 v2 σ = some res) (hw : mW D cI cT ad av a s σ H locs) (hl : lv_has ls 5 [(0, .ref (a 0)), (2, .int v2)]) : W p l e (rp_rm 4) s m args below meth c H locs 0 0 (MQ below (rp_Qi D a (mt cI cT ad a) 15 res) args s 0 0 (rp_A a 15)) (F0 m 19 ls []) := by
  have hx := hC.1
  have hb := hC.2.1
  have hown := hC.2.2.2.1
  have hts := hC.2.2.2.2.1
  unfold fX7_sighsOf_19 at hF
  refine lv_aload_n (pc := 19) hx hb dX7_sighsOf_19 rfl (lv_at hl 0 rfl) ?_
  refine rp_get (pc := 20) hC hw 0 (by decide) (mt_obj _) fl_X7_266 (.int (σ 0 17)) rfl dX7_sighsOf_20 ?_
  refine lv_iconst (pc := 23) (v := 2) hx hb dX7_sighsOf_23 (by decide) ?_
  obtain ⟨r1, σ2, hq, hF⟩ := rp_bd_e hF
  refine rp_ki (rp_runZ (rest := []) hC (mE_ok _) hw hl.1 (mX7_isUnder (l := l) (σ 0 17) 2 σ _ hq) zw_X7_192 rfl rfl (Nat.le_of_ble_eq_true rfl) (by decide) dX7_sighsOf_24) hw (fun H locs hw => ?_)
  clear hq
  refine lv_istore_n (pc := 27) (lv' := [(3, .int r1), (0, .ref (a 0)), (2, .int v2)]) hx hb dX7_sighsOf_27 rfl hl (by decide) rfl (fun ls hl => ?_)
  refine lv_iload_n (pc := 28) hx hb dX7_sighsOf_28 rfl (lv_at hl 0 rfl) ?_
  refine lv_if_eq (pc := 29) (tgt := 38) hx hb dX7_sighsOf_29 (by decide) (fun hc => ?_) (fun hc => ?_)
  · replace hF := rp_it hc hF
    exact kX7_sighsOf_38 hC v2 r1 σ2 _ _ _ hF hw (lv_sub hl [1, 2, 0] rfl)
  · replace hF := rp_if hc hF
    refine lv_aload_n (pc := 32) hx hb dX7_sighsOf_32 rfl (lv_at hl 1 rfl) ?_
    refine lv_bipush (pc := 33) (v := 30) hx hb dX7_sighsOf_33 (by decide) ?_
    obtain ⟨r3, σ4, hq, hF⟩ := rp_bd_e hF
    refine rp_kv (rp_runV (rest := []) hC (mE_ok _) hw hl.1 (mX7_ran (l := l) 30 σ2 _ hq) vw_X7_269 (by decide) (mt_obj _) rfl rfl rfl (Nat.le_of_ble_eq_true rfl) (by decide) dX7_sighsOf_35) hw (fun H locs hw => ?_)
    clear hq
    exact kX7_sighsOf_38 hC v2 r1 σ4 _ _ _ hF hw (lv_sub hl [1, 2, 0] rfl)
def fX7_sighsOf (v1 : Int32) (σ : rp_St) : Option (Int32 × rp_St) :=
  (if (σ 0 17) = 5 then rp_bd (fX7_ran 60 σ) (fun _ σ2 => rp_nm (v1 + 1) (fun x3 => fX7_sighsOf_19 x3 σ2)) else fX7_sighsOf_19 v1 σ)
set_option maxRecDepth 100000 in
set_option maxHeartbeats 4000000 in
theorem kX7_sighsOf_0 {p : Program} {l : Launch} {e : Env} {s : State} {m : MethodId} {args : Array Value} {below : List Frame} {meth : Method} {c : Code} {D : va_G} {cI cT : ClassId} {ad av a : Nat → Nat} {res : Int32 × rp_St} (hC : mC p s m args meth c cX7_sighsOf 5 "RegretPegsModel" (some .int) D cI cT ad av a) (v1 : Int32) (σ : rp_St) (H : Heap) (locs : List Loc) (ls : Array Slot) (hF : fX7_sighsOf v1 σ = some res) (hw : mW D cI cT ad av a s σ H locs) (hl : lv_has ls 5 [(0, .ref (a 0)), (1, .int v1)]) : W p l e (rp_rm 4) s m args below meth c H locs 0 0 (MQ below (rp_Qi D a (mt cI cT ad a) 15 res) args s 0 0 (rp_A a 15)) (F0 m 0 ls []) := by
  have hx := hC.1
  have hb := hC.2.1
  have hown := hC.2.2.2.1
  have hts := hC.2.2.2.2.1
  unfold fX7_sighsOf at hF
  refine lv_iload_n (pc := 0) hx hb dX7_sighsOf_0 rfl (lv_at hl 1 rfl) ?_
  refine lv_istore_n (pc := 1) (lv' := [(2, .int v1), (0, .ref (a 0)), (1, .int v1)]) hx hb dX7_sighsOf_1 rfl hl (by decide) rfl (fun ls hl => ?_)
  refine lv_aload_n (pc := 2) hx hb dX7_sighsOf_2 rfl (lv_at hl 1 rfl) ?_
  refine rp_get (pc := 3) hC hw 0 (by decide) (mt_obj _) fl_X7_266 (.int (σ 0 17)) rfl dX7_sighsOf_3 ?_
  refine lv_iconst (pc := 6) (v := 5) hx hb dX7_sighsOf_6 (by decide) ?_
  refine lv_icmp_ne (pc := 7) (tgt := 19) hx hb dX7_sighsOf_7 (by decide) (fun hc => ?_) (fun hc => ?_)
  · replace hF := rp_if hc hF
    exact kX7_sighsOf_19 hC v1 σ _ _ _ hF hw (lv_sub hl [1, 0] rfl)
  · replace hF := rp_it hc hF
    refine lv_aload_n (pc := 10) hx hb dX7_sighsOf_10 rfl (lv_at hl 1 rfl) ?_
    refine lv_bipush (pc := 11) (v := 60) hx hb dX7_sighsOf_11 (by decide) ?_
    obtain ⟨r1, σ2, hq, hF⟩ := rp_bd_e hF
    refine rp_kv (rp_runV (rest := []) hC (mE_ok _) hw hl.1 (mX7_ran (l := l) 60 σ _ hq) vw_X7_269 (by decide) (mt_obj _) rfl rfl rfl (Nat.le_of_ble_eq_true rfl) (by decide) dX7_sighsOf_13) hw (fun H locs hw => ?_)
    clear hq
    obtain ⟨x3, ex3, hF⟩ := rp_nm_e hF
    refine lv_iinc (pc := 16) (v := x3) (lv' := [(2, .int x3), (0, .ref (a 0)), (1, .int v1)]) hx hb dX7_sighsOf_16 hl (k := 0) rfl (by rw [ex3]; rfl) (by decide) rfl (fun ls hl => ?_)
    exact kX7_sighsOf_19 hC x3 σ2 _ _ _ hF hw (lv_sub hl [1, 0] rfl)
theorem mX7_sighsOf {l : Launch} {D : va_G} {cI cT : ClassId} {ad av a : Nat → Nat} (v1 : Int32) (σ : rp_St) (res : Int32 × rp_St) (hF : fX7_sighsOf v1 σ = some res) : mM l D cI cT ad av a yX7_sighsOf cX7_sighsOf 5 (some .int) 4 [.ref (a 0), .int v1] σ (rp_Qi D a (mt cI cT ad a) 15 res) :=
  rp_entry (by decide) (Nat.le_of_ble_eq_true rfl) (fun p e s m below meth c ls hC hw hl => kX7_sighsOf_0 hC v1 σ _ _ _ hF hw (lv_sub hl [0, 1] rfl))
def fX7_plainTells (v1 : Int32) (σ : rp_St) : Option (Int32 × rp_St) :=
  rp_bd (fX7_ran 13 σ) (fun _ σ2 => rp_bd (fX7_sighsOf v1 σ2) (fun r3 σ4 => rp_bd (fX7_looksOf v1 σ4) (fun r5 σ6 => some ((r3 ^^^ r5), σ6))))
set_option maxRecDepth 100000 in
set_option maxHeartbeats 4000000 in
theorem kX7_plainTells_0 {p : Program} {l : Launch} {e : Env} {s : State} {m : MethodId} {args : Array Value} {below : List Frame} {meth : Method} {c : Code} {D : va_G} {cI cT : ClassId} {ad av a : Nat → Nat} {res : Int32 × rp_St} (hC : mC p s m args meth c cX7_plainTells 3 "RegretPegsModel" (some .int) D cI cT ad av a) (v1 : Int32) (σ : rp_St) (H : Heap) (locs : List Loc) (ls : Array Slot) (hF : fX7_plainTells v1 σ = some res) (hw : mW D cI cT ad av a s σ H locs) (hl : lv_has ls 3 [(0, .ref (a 0)), (1, .int v1)]) : W p l e (rp_rm 5) s m args below meth c H locs 0 0 (MQ below (rp_Qi D a (mt cI cT ad a) 15 res) args s 0 0 (rp_A a 15)) (F0 m 0 ls []) := by
  have hx := hC.1
  have hb := hC.2.1
  have hown := hC.2.2.2.1
  have hts := hC.2.2.2.2.1
  unfold fX7_plainTells at hF
  refine lv_aload_n (pc := 0) hx hb dX7_plainTells_0 rfl (lv_at hl 0 rfl) ?_
  refine lv_bipush (pc := 1) (v := 13) hx hb dX7_plainTells_1 (by decide) ?_
  obtain ⟨r1, σ2, hq, hF⟩ := rp_bd_e hF
  refine rp_kv (rp_runV (rest := []) hC (mE_ok _) hw hl.1 (mX7_ran (l := l) 13 σ _ hq) vw_X7_269 (by decide) (mt_obj _) rfl rfl rfl (Nat.le_of_ble_eq_true rfl) (by decide) dX7_plainTells_3) hw (fun H locs hw => ?_)
  clear hq
  refine lv_aload_n (pc := 6) hx hb dX7_plainTells_6 rfl (lv_at hl 0 rfl) ?_
  refine lv_iload_n (pc := 7) hx hb dX7_plainTells_7 rfl (lv_at hl 1 rfl) ?_
  obtain ⟨r3, σ4, hq, hF⟩ := rp_bd_e hF
  refine rp_ki (rp_runV (rest := []) hC (mE_ok _) hw hl.1 (mX7_sighsOf (l := l) v1 σ2 _ hq) vw_X7_284 (by decide) (mt_obj _) rfl rfl rfl (Nat.le_of_ble_eq_true rfl) (by decide) dX7_plainTells_8) hw (fun H locs hw => ?_)
  clear hq
  refine lv_istore_n (pc := 11) (lv' := [(2, .int r3), (0, .ref (a 0)), (1, .int v1)]) hx hb dX7_plainTells_11 rfl hl (by decide) rfl (fun ls hl => ?_)
  refine lv_iload_n (pc := 12) hx hb dX7_plainTells_12 rfl (lv_at hl 0 rfl) ?_
  refine lv_aload_n (pc := 13) hx hb dX7_plainTells_13 rfl (lv_at hl 1 rfl) ?_
  refine lv_iload_n (pc := 14) hx hb dX7_plainTells_14 rfl (lv_at hl 2 rfl) ?_
  obtain ⟨r5, σ6, hq, hF⟩ := rp_bd_e hF
  refine rp_ki (rp_runV (rest := [.int r3]) hC (mE_ok _) hw hl.1 (mX7_looksOf (l := l) v1 σ4 _ hq) vw_X7_278 (by decide) (mt_obj _) rfl rfl rfl (Nat.le_of_ble_eq_true rfl) (by decide) dX7_plainTells_15) hw (fun H locs hw => ?_)
  clear hq
  refine lv_ixor (pc := 18) hx hb dX7_plainTells_18 ?_
  exact rp_reti (pc := 19) hC hw hF dX7_plainTells_19
theorem mX7_plainTells {l : Launch} {D : va_G} {cI cT : ClassId} {ad av a : Nat → Nat} (v1 : Int32) (σ : rp_St) (res : Int32 × rp_St) (hF : fX7_plainTells v1 σ = some res) : mM l D cI cT ad av a yX7_plainTells cX7_plainTells 3 (some .int) 5 [.ref (a 0), .int v1] σ (rp_Qi D a (mt cI cT ad a) 15 res) :=
  rp_entry (by decide) (Nat.le_of_ble_eq_true rfl) (fun p e s m below meth c ls hC hw hl => kX7_plainTells_0 hC v1 σ _ _ _ hF hw (lv_sub hl [0, 1] rfl))
def fX7_tellsOf (v1 : Int32) (σ : rp_St) : Option (Int32 × rp_St) :=
  (if (σ 0 17) = 6 then rp_bd (fX7_ran 71 σ) (fun _ σ10 => rp_bd (fX7_sighsOf v1 σ10) (fun r11 σ12 => rp_bd (fX7_plainTells v1 σ12) (fun r13 σ14 => some ((r11 - r13), σ14)))) else (if (σ 0 17) = 4 then rp_bd (fX7_ran 50 σ) (fun _ σ4 => rp_bd (fX7_plainTells v1 σ4) (fun r5 σ6 => rp_bd (fX7_dancesOf 2 σ6) (fun r7 σ8 => some ((r5 - r7), σ8)))) else rp_bd (fX7_plainTells v1 σ) (fun r1 σ2 => some (r1, σ2))))
set_option maxRecDepth 100000 in
set_option maxHeartbeats 4000000 in
theorem kX7_tellsOf_0 {p : Program} {l : Launch} {e : Env} {s : State} {m : MethodId} {args : Array Value} {below : List Frame} {meth : Method} {c : Code} {D : va_G} {cI cT : ClassId} {ad av a : Nat → Nat} {res : Int32 × rp_St} (hC : mC p s m args meth c cX7_tellsOf 3 "RegretPegsModel" (some .int) D cI cT ad av a) (v1 : Int32) (σ : rp_St) (H : Heap) (locs : List Loc) (ls : Array Slot) (hF : fX7_tellsOf v1 σ = some res) (hw : mW D cI cT ad av a s σ H locs) (hl : lv_has ls 3 [(0, .ref (a 0)), (1, .int v1)]) : W p l e (rp_rm 6) s m args below meth c H locs 0 0 (MQ below (rp_Qi D a (mt cI cT ad a) 15 res) args s 0 0 (rp_A a 15)) (F0 m 0 ls []) := by
  have hx := hC.1
  have hb := hC.2.1
  have hown := hC.2.2.2.1
  have hts := hC.2.2.2.2.1
  unfold fX7_tellsOf at hF
  refine lv_aload_n (pc := 0) hx hb dX7_tellsOf_0 rfl (lv_at hl 0 rfl) ?_
  refine rp_get (pc := 1) hC hw 0 (by decide) (mt_obj _) fl_X7_266 (.int (σ 0 17)) rfl dX7_tellsOf_1 ?_
  refine lv_bipush (pc := 4) (v := 6) hx hb dX7_tellsOf_4 (by decide) ?_
  refine lv_icmp_ne (pc := 6) (tgt := 29) hx hb dX7_tellsOf_6 (by decide) (fun hc => ?_) (fun hc => ?_)
  · replace hF := rp_if hc hF
    refine lv_aload_n (pc := 29) hx hb dX7_tellsOf_29 rfl (lv_at hl 0 rfl) ?_
    refine rp_get (pc := 30) hC hw 0 (by decide) (mt_obj _) fl_X7_266 (.int (σ 0 17)) rfl dX7_tellsOf_30 ?_
    refine lv_iconst (pc := 33) (v := 4) hx hb dX7_tellsOf_33 (by decide) ?_
    refine lv_icmp_ne (pc := 34) (tgt := 57) hx hb dX7_tellsOf_34 (by decide) (fun hc => ?_) (fun hc => ?_)
    · replace hF := rp_if hc hF
      refine lv_aload_n (pc := 57) hx hb dX7_tellsOf_57 rfl (lv_at hl 0 rfl) ?_
      refine lv_iload_n (pc := 58) hx hb dX7_tellsOf_58 rfl (lv_at hl 1 rfl) ?_
      obtain ⟨r1, σ2, hq, hF⟩ := rp_bd_e hF
      refine rp_ki (rp_runV (rest := []) hC (mE_ok _) hw hl.1 (mX7_plainTells (l := l) v1 σ _ hq) vw_X7_287 (by decide) (mt_obj _) rfl rfl rfl (Nat.le_of_ble_eq_true rfl) (by decide) dX7_tellsOf_59) hw (fun H locs hw => ?_)
      clear hq
      exact rp_reti (pc := 62) hC hw hF dX7_tellsOf_62
    · replace hF := rp_it hc hF
      refine lv_aload_n (pc := 37) hx hb dX7_tellsOf_37 rfl (lv_at hl 0 rfl) ?_
      refine lv_bipush (pc := 38) (v := 50) hx hb dX7_tellsOf_38 (by decide) ?_
      obtain ⟨r3, σ4, hq, hF⟩ := rp_bd_e hF
      refine rp_kv (rp_runV (rest := []) hC (mE_ok _) hw hl.1 (mX7_ran (l := l) 50 σ _ hq) vw_X7_269 (by decide) (mt_obj _) rfl rfl rfl (Nat.le_of_ble_eq_true rfl) (by decide) dX7_tellsOf_40) hw (fun H locs hw => ?_)
      clear hq
      refine lv_aload_n (pc := 43) hx hb dX7_tellsOf_43 rfl (lv_at hl 0 rfl) ?_
      refine lv_iload_n (pc := 44) hx hb dX7_tellsOf_44 rfl (lv_at hl 1 rfl) ?_
      obtain ⟨r5, σ6, hq, hF⟩ := rp_bd_e hF
      refine rp_ki (rp_runV (rest := []) hC (mE_ok _) hw hl.1 (mX7_plainTells (l := l) v1 σ4 _ hq) vw_X7_287 (by decide) (mt_obj _) rfl rfl rfl (Nat.le_of_ble_eq_true rfl) (by decide) dX7_tellsOf_45) hw (fun H locs hw => ?_)
      clear hq
      refine lv_istore_n (pc := 48) (lv' := [(2, .int r5), (0, .ref (a 0)), (1, .int v1)]) hx hb dX7_tellsOf_48 rfl hl (by decide) rfl (fun ls hl => ?_)
      refine lv_iload_n (pc := 49) hx hb dX7_tellsOf_49 rfl (lv_at hl 0 rfl) ?_
      refine lv_aload_n (pc := 50) hx hb dX7_tellsOf_50 rfl (lv_at hl 1 rfl) ?_
      refine lv_iconst (pc := 51) (v := 2) hx hb dX7_tellsOf_51 (by decide) ?_
      obtain ⟨r7, σ8, hq, hF⟩ := rp_bd_e hF
      refine rp_ki (rp_runV (rest := [.int r5]) hC (mE_ok _) hw hl.1 (mX7_dancesOf (l := l) 2 σ6 _ hq) vw_X7_275 (by decide) (mt_obj _) rfl rfl rfl (Nat.le_of_ble_eq_true rfl) (by decide) dX7_tellsOf_52) hw (fun H locs hw => ?_)
      clear hq
      refine lv_isub (pc := 55) hx hb dX7_tellsOf_55 ?_
      exact rp_reti (pc := 56) hC hw hF dX7_tellsOf_56
  · replace hF := rp_it hc hF
    refine lv_aload_n (pc := 9) hx hb dX7_tellsOf_9 rfl (lv_at hl 0 rfl) ?_
    refine lv_bipush (pc := 10) (v := 71) hx hb dX7_tellsOf_10 (by decide) ?_
    obtain ⟨r9, σ10, hq, hF⟩ := rp_bd_e hF
    refine rp_kv (rp_runV (rest := []) hC (mE_ok _) hw hl.1 (mX7_ran (l := l) 71 σ _ hq) vw_X7_269 (by decide) (mt_obj _) rfl rfl rfl (Nat.le_of_ble_eq_true rfl) (by decide) dX7_tellsOf_12) hw (fun H locs hw => ?_)
    clear hq
    refine lv_aload_n (pc := 15) hx hb dX7_tellsOf_15 rfl (lv_at hl 0 rfl) ?_
    refine lv_iload_n (pc := 16) hx hb dX7_tellsOf_16 rfl (lv_at hl 1 rfl) ?_
    obtain ⟨r11, σ12, hq, hF⟩ := rp_bd_e hF
    refine rp_ki (rp_runV (rest := []) hC (mE_ok _) hw hl.1 (mX7_sighsOf (l := l) v1 σ10 _ hq) vw_X7_284 (by decide) (mt_obj _) rfl rfl rfl (Nat.le_of_ble_eq_true rfl) (by decide) dX7_tellsOf_17) hw (fun H locs hw => ?_)
    clear hq
    refine lv_istore_n (pc := 20) (lv' := [(2, .int r11), (0, .ref (a 0)), (1, .int v1)]) hx hb dX7_tellsOf_20 rfl hl (by decide) rfl (fun ls hl => ?_)
    refine lv_iload_n (pc := 21) hx hb dX7_tellsOf_21 rfl (lv_at hl 0 rfl) ?_
    refine lv_aload_n (pc := 22) hx hb dX7_tellsOf_22 rfl (lv_at hl 1 rfl) ?_
    refine lv_iload_n (pc := 23) hx hb dX7_tellsOf_23 rfl (lv_at hl 2 rfl) ?_
    obtain ⟨r13, σ14, hq, hF⟩ := rp_bd_e hF
    refine rp_ki (rp_runV (rest := [.int r11]) hC (mE_ok _) hw hl.1 (mX7_plainTells (l := l) v1 σ12 _ hq) vw_X7_287 (by decide) (mt_obj _) rfl rfl rfl (Nat.le_of_ble_eq_true rfl) (by decide) dX7_tellsOf_24) hw (fun H locs hw => ?_)
    clear hq
    refine lv_isub (pc := 27) hx hb dX7_tellsOf_27 ?_
    exact rp_reti (pc := 28) hC hw hF dX7_tellsOf_28
theorem mX7_tellsOf {l : Launch} {D : va_G} {cI cT : ClassId} {ad av a : Nat → Nat} (v1 : Int32) (σ : rp_St) (res : Int32 × rp_St) (hF : fX7_tellsOf v1 σ = some res) : mM l D cI cT ad av a yX7_tellsOf cX7_tellsOf 3 (some .int) 6 [.ref (a 0), .int v1] σ (rp_Qi D a (mt cI cT ad a) 15 res) :=
  rp_entry (by decide) (Nat.le_of_ble_eq_true rfl) (fun p e s m below meth c ls hC hw hl => kX7_tellsOf_0 hC v1 σ _ _ _ hF hw (lv_sub hl [0, 1] rfl))
def fX7_voice_17 (σ : rp_St) : Option (Int32 × rp_St) :=
  rp_bd (fX7_finding (-1000000001) σ) (fun r1 σ2 => some (r1, σ2))
set_option maxRecDepth 100000 in
set_option maxHeartbeats 4000000 in
theorem kX7_voice_17 {p : Program} {l : Launch} {e : Env} {s : State} {m : MethodId} {args : Array Value} {below : List Frame} {meth : Method} {c : Code} {D : va_G} {cI cT : ClassId} {ad av a : Nat → Nat} {res : Int32 × rp_St} (hC : mC p s m args meth c cX7_voice 4 "RegretPegsModel" (some .int) D cI cT ad av a) (σ : rp_St) (H : Heap) (locs : List Loc) (ls : Array Slot) (hF : fX7_voice_17 σ = some res) (hw : mW D cI cT ad av a s σ H locs) (hl : lv_has ls 4 [(0, .ref (a 0))]) : W p l e (rp_rm 7) s m args below meth c H locs 0 0 (MQ below (rp_Qi D a (mt cI cT ad a) 15 res) args s 0 0 (rp_A a 15)) (F0 m 17 ls []) := by
  have hx := hC.1
  have hb := hC.2.1
  have hown := hC.2.2.2.1
  have hts := hC.2.2.2.2.1
  unfold fX7_voice_17 at hF
  refine lv_aload_n (pc := 17) hx hb dX7_voice_17 rfl (lv_at hl 0 rfl) ?_
  refine lv_ldc (pc := 18) (v := (-1000000001)) hx hb hown (hts _ wd_721) dX7_voice_18 ?_
  obtain ⟨r1, σ2, hq, hF⟩ := rp_bd_e hF
  refine rp_ki (rp_runV (rest := []) hC (mE_ok _) hw hl.1 (mX7_finding (l := l) (-1000000001) σ _ hq) vw_X7_78 (by decide) (mt_obj _) rfl rfl rfl (Nat.le_of_ble_eq_true rfl) (by decide) dX7_voice_20) hw (fun H locs hw => ?_)
  clear hq
  exact rp_reti (pc := 23) hC hw hF dX7_voice_23
def fX7_voice (v1 : Int32) (v2 : Int32) (v3 : Int32) (σ : rp_St) : Option (Int32 × rp_St) :=
  rp_bd (fX7_isGuest v1 σ) (fun r1 σ2 => (if r1 = 0 then fX7_voice_17 σ2 else rp_bd (fX7_within v2 0 3 σ2) (fun r3 σ4 => (if r3 = 0 then fX7_voice_17 σ4 else rp_nm (rp_put σ4 0 16 0) (fun σ5 => rp_bd (fX7_guestIs v1 0 σ5) (fun r6 σ7 => rp_nm (rp_put σ7 0 17 r6) (fun σ8 => rp_nm (rp_put σ8 0 18 v1) (fun σ9 => rp_bd (fX7_guestIs v1 1 σ9) (fun r10 σ11 => rp_nm (rp_put σ11 0 19 r10) (fun σ12 => (if v2 = 0 then rp_bd (fX7_dancesOf v3 σ12) (fun r19 σ20 => some (r19, σ20)) else (if v2 = 1 then rp_bd (fX7_sighsOf v3 σ12) (fun r17 σ18 => some (r17, σ18)) else (if v2 = 2 then rp_bd (fX7_looksOf v3 σ12) (fun r15 σ16 => some (r15, σ16)) else rp_bd (fX7_tellsOf v3 σ12) (fun r13 σ14 => some (r13, σ14)))))))))))))))
set_option maxRecDepth 100000 in
set_option maxHeartbeats 4000000 in
theorem kX7_voice_0 {p : Program} {l : Launch} {e : Env} {s : State} {m : MethodId} {args : Array Value} {below : List Frame} {meth : Method} {c : Code} {D : va_G} {cI cT : ClassId} {ad av a : Nat → Nat} {res : Int32 × rp_St} (hC : mC p s m args meth c cX7_voice 4 "RegretPegsModel" (some .int) D cI cT ad av a) (v1 : Int32) (v2 : Int32) (v3 : Int32) (σ : rp_St) (H : Heap) (locs : List Loc) (ls : Array Slot) (hF : fX7_voice v1 v2 v3 σ = some res) (hw : mW D cI cT ad av a s σ H locs) (hl : lv_has ls 4 [(0, .ref (a 0)), (1, .int v1), (2, .int v2), (3, .int v3)]) : W p l e (rp_rm 7) s m args below meth c H locs 0 0 (MQ below (rp_Qi D a (mt cI cT ad a) 15 res) args s 0 0 (rp_A a 15)) (F0 m 0 ls []) := by
  have hx := hC.1
  have hb := hC.2.1
  have hown := hC.2.2.2.1
  have hts := hC.2.2.2.2.1
  unfold fX7_voice at hF
  refine lv_aload_n (pc := 0) hx hb dX7_voice_0 rfl (lv_at hl 0 rfl) ?_
  refine lv_iload_n (pc := 1) hx hb dX7_voice_1 rfl (lv_at hl 1 rfl) ?_
  obtain ⟨r1, σ2, hq, hF⟩ := rp_bd_e hF
  refine rp_ki (rp_runV (rest := []) hC (mE_ok _) hw hl.1 (mX7_isGuest (l := l) v1 σ _ hq) vw_X7_159 (by decide) (mt_obj _) rfl rfl rfl (Nat.le_of_ble_eq_true rfl) (by decide) dX7_voice_2) hw (fun H locs hw => ?_)
  clear hq
  refine lv_if_eq (pc := 5) (tgt := 17) hx hb dX7_voice_5 (by decide) (fun hc => ?_) (fun hc => ?_)
  · replace hF := rp_it hc hF
    exact kX7_voice_17 hC σ2 _ _ _ hF hw (lv_sub hl [0] rfl)
  · replace hF := rp_if hc hF
    refine lv_iload_n (pc := 8) hx hb dX7_voice_8 rfl (lv_at hl 2 rfl) ?_
    refine lv_iconst (pc := 9) (v := 0) hx hb dX7_voice_9 (by decide) ?_
    refine lv_iconst (pc := 10) (v := 3) hx hb dX7_voice_10 (by decide) ?_
    obtain ⟨r3, σ4, hq, hF⟩ := rp_bd_e hF
    refine rp_ki (rp_runZ (rest := []) hC (mE_ok _) hw hl.1 (mX7_within (l := l) v2 0 3 σ2 _ hq) zw_X7_73 rfl rfl (Nat.le_of_ble_eq_true rfl) (by decide) dX7_voice_11) hw (fun H locs hw => ?_)
    clear hq
    refine lv_if_ne (pc := 14) (tgt := 24) hx hb dX7_voice_14 (by decide) (fun hc => ?_) (fun hc => ?_)
    · replace hF := rp_if hc hF
      refine lv_aload_n (pc := 24) hx hb dX7_voice_24 rfl (lv_at hl 0 rfl) ?_
      refine lv_iconst (pc := 25) (v := 0) hx hb dX7_voice_25 (by decide) ?_
      refine rp_set (pc := 26) (fs := mb_obj a) hC hw 0 (by decide) mt_obj fg_X7_263 rfl (Nat.le_of_ble_eq_true rfl) rfl rfl dX7_voice_26 (fun H locs hw => ?_)
      obtain ⟨σ5, eσ5, hF⟩ := rp_nm_e hF
      replace hw := rp_Wn eσ5 hw
      clear eσ5
      refine lv_aload_n (pc := 29) hx hb dX7_voice_29 rfl (lv_at hl 0 rfl) ?_
      refine lv_aload_n (pc := 30) hx hb dX7_voice_30 rfl (lv_at hl 0 rfl) ?_
      refine lv_iload_n (pc := 31) hx hb dX7_voice_31 rfl (lv_at hl 1 rfl) ?_
      refine lv_iconst (pc := 32) (v := 0) hx hb dX7_voice_32 (by decide) ?_
      obtain ⟨r6, σ7, hq, hF⟩ := rp_bd_e hF
      refine rp_ki (rp_runV (rest := [.ref (a 0)]) hC (mE_ok _) hw hl.1 (mX7_guestIs (l := l) v1 0 σ5 _ hq) vw_X7_165 (by decide) (mt_obj _) rfl rfl rfl (Nat.le_of_ble_eq_true rfl) (by decide) dX7_voice_33) hw (fun H locs hw => ?_)
      clear hq
      refine rp_set (pc := 36) (fs := mb_obj a) hC hw 0 (by decide) mt_obj fg_X7_266 rfl (Nat.le_of_ble_eq_true rfl) rfl rfl dX7_voice_36 (fun H locs hw => ?_)
      obtain ⟨σ8, eσ8, hF⟩ := rp_nm_e hF
      replace hw := rp_Wn eσ8 hw
      clear eσ8
      refine lv_aload_n (pc := 39) hx hb dX7_voice_39 rfl (lv_at hl 0 rfl) ?_
      refine lv_iload_n (pc := 40) hx hb dX7_voice_40 rfl (lv_at hl 1 rfl) ?_
      refine rp_set (pc := 41) (fs := mb_obj a) hC hw 0 (by decide) mt_obj fg_X7_272 rfl (Nat.le_of_ble_eq_true rfl) rfl rfl dX7_voice_41 (fun H locs hw => ?_)
      obtain ⟨σ9, eσ9, hF⟩ := rp_nm_e hF
      replace hw := rp_Wn eσ9 hw
      clear eσ9
      refine lv_aload_n (pc := 44) hx hb dX7_voice_44 rfl (lv_at hl 0 rfl) ?_
      refine lv_aload_n (pc := 45) hx hb dX7_voice_45 rfl (lv_at hl 0 rfl) ?_
      refine lv_iload_n (pc := 46) hx hb dX7_voice_46 rfl (lv_at hl 1 rfl) ?_
      refine lv_iconst (pc := 47) (v := 1) hx hb dX7_voice_47 (by decide) ?_
      obtain ⟨r10, σ11, hq, hF⟩ := rp_bd_e hF
      refine rp_ki (rp_runV (rest := [.ref (a 0)]) hC (mE_ok _) hw hl.1 (mX7_guestIs (l := l) v1 1 σ9 _ hq) vw_X7_165 (by decide) (mt_obj _) rfl rfl rfl (Nat.le_of_ble_eq_true rfl) (by decide) dX7_voice_48) hw (fun H locs hw => ?_)
      clear hq
      refine rp_set (pc := 51) (fs := mb_obj a) hC hw 0 (by decide) mt_obj fg_X7_281 rfl (Nat.le_of_ble_eq_true rfl) rfl rfl dX7_voice_51 (fun H locs hw => ?_)
      obtain ⟨σ12, eσ12, hF⟩ := rp_nm_e hF
      replace hw := rp_Wn eσ12 hw
      clear eσ12
      refine lv_iload_n (pc := 54) hx hb dX7_voice_54 rfl (lv_at hl 2 rfl) ?_
      refine lv_if_ne (pc := 55) (tgt := 66) hx hb dX7_voice_55 (by decide) (fun hc => ?_) (fun hc => ?_)
      · replace hF := rp_if hc hF
        refine lv_iload_n (pc := 66) hx hb dX7_voice_66 rfl (lv_at hl 2 rfl) ?_
        refine lv_iconst (pc := 67) (v := 1) hx hb dX7_voice_67 (by decide) ?_
        refine lv_icmp_ne (pc := 68) (tgt := 79) hx hb dX7_voice_68 (by decide) (fun hc => ?_) (fun hc => ?_)
        · replace hF := rp_if hc hF
          refine lv_iload_n (pc := 79) hx hb dX7_voice_79 rfl (lv_at hl 2 rfl) ?_
          refine lv_iconst (pc := 80) (v := 2) hx hb dX7_voice_80 (by decide) ?_
          refine lv_icmp_ne (pc := 81) (tgt := 92) hx hb dX7_voice_81 (by decide) (fun hc => ?_) (fun hc => ?_)
          · replace hF := rp_if hc hF
            refine lv_aload_n (pc := 92) hx hb dX7_voice_92 rfl (lv_at hl 0 rfl) ?_
            refine lv_iload_n (pc := 93) hx hb dX7_voice_93 rfl (lv_at hl 3 rfl) ?_
            obtain ⟨r13, σ14, hq, hF⟩ := rp_bd_e hF
            refine rp_ki (rp_runV (rest := []) hC (mE_ok _) hw hl.1 (mX7_tellsOf (l := l) v3 σ12 _ hq) vw_X7_290 (by decide) (mt_obj _) rfl rfl rfl (Nat.le_of_ble_eq_true rfl) (by decide) dX7_voice_94) hw (fun H locs hw => ?_)
            clear hq
            exact rp_reti (pc := 97) hC hw hF dX7_voice_97
          · replace hF := rp_it hc hF
            refine lv_aload_n (pc := 84) hx hb dX7_voice_84 rfl (lv_at hl 0 rfl) ?_
            refine lv_iload_n (pc := 85) hx hb dX7_voice_85 rfl (lv_at hl 3 rfl) ?_
            obtain ⟨r15, σ16, hq, hF⟩ := rp_bd_e hF
            refine rp_ki (rp_runV (rest := []) hC (mE_ok _) hw hl.1 (mX7_looksOf (l := l) v3 σ12 _ hq) vw_X7_278 (by decide) (mt_obj _) rfl rfl rfl (Nat.le_of_ble_eq_true rfl) (by decide) dX7_voice_86) hw (fun H locs hw => ?_)
            clear hq
            refine lv_goto (pc := 89) (tgt := 97) hx hb dX7_voice_89 (by decide) ?_
            exact rp_reti (pc := 97) hC hw hF dX7_voice_97
        · replace hF := rp_it hc hF
          refine lv_aload_n (pc := 71) hx hb dX7_voice_71 rfl (lv_at hl 0 rfl) ?_
          refine lv_iload_n (pc := 72) hx hb dX7_voice_72 rfl (lv_at hl 3 rfl) ?_
          obtain ⟨r17, σ18, hq, hF⟩ := rp_bd_e hF
          refine rp_ki (rp_runV (rest := []) hC (mE_ok _) hw hl.1 (mX7_sighsOf (l := l) v3 σ12 _ hq) vw_X7_284 (by decide) (mt_obj _) rfl rfl rfl (Nat.le_of_ble_eq_true rfl) (by decide) dX7_voice_73) hw (fun H locs hw => ?_)
          clear hq
          refine lv_goto (pc := 76) (tgt := 97) hx hb dX7_voice_76 (by decide) ?_
          exact rp_reti (pc := 97) hC hw hF dX7_voice_97
      · replace hF := rp_it hc hF
        refine lv_aload_n (pc := 58) hx hb dX7_voice_58 rfl (lv_at hl 0 rfl) ?_
        refine lv_iload_n (pc := 59) hx hb dX7_voice_59 rfl (lv_at hl 3 rfl) ?_
        obtain ⟨r19, σ20, hq, hF⟩ := rp_bd_e hF
        refine rp_ki (rp_runV (rest := []) hC (mE_ok _) hw hl.1 (mX7_dancesOf (l := l) v3 σ12 _ hq) vw_X7_275 (by decide) (mt_obj _) rfl rfl rfl (Nat.le_of_ble_eq_true rfl) (by decide) dX7_voice_60) hw (fun H locs hw => ?_)
        clear hq
        refine lv_goto (pc := 63) (tgt := 97) hx hb dX7_voice_63 (by decide) ?_
        exact rp_reti (pc := 97) hC hw hF dX7_voice_97
    · replace hF := rp_it hc hF
      exact kX7_voice_17 hC σ4 _ _ _ hF hw (lv_sub hl [0] rfl)
theorem mX7_voice {l : Launch} {D : va_G} {cI cT : ClassId} {ad av a : Nat → Nat} (v1 : Int32) (v2 : Int32) (v3 : Int32) (σ : rp_St) (res : Int32 × rp_St) (hF : fX7_voice v1 v2 v3 σ = some res) : mM l D cI cT ad av a yX7_voice cX7_voice 4 (some .int) 7 [.ref (a 0), .int v1, .int v2, .int v3] σ (rp_Qi D a (mt cI cT ad a) 15 res) :=
  rp_entry (by decide) (Nat.le_of_ble_eq_true rfl) (fun p e s m below meth c ls hC hw hl => kX7_voice_0 hC v1 v2 v3 σ _ _ _ hF hw (lv_sub hl [0, 1, 2, 3] rfl))
def fX7_trace (v1 : Int32) (σ : rp_St) : Option (Int32 × rp_St) :=
  rp_bd (fX7_within v1 0 ((σ 0 16) - 1) σ) (fun r1 σ2 => (if r1 = 0 then rp_bd (fX7_finding (-1000000002) σ2) (fun r3 σ4 => some (r3, σ4)) else rp_gu (rp_in v1 40) (some ((σ2 10 (v1 : Int32).toNatClampNeg), σ2))))
set_option maxRecDepth 100000 in
set_option maxHeartbeats 4000000 in
theorem kX7_trace_0 {p : Program} {l : Launch} {e : Env} {s : State} {m : MethodId} {args : Array Value} {below : List Frame} {meth : Method} {c : Code} {D : va_G} {cI cT : ClassId} {ad av a : Nat → Nat} {res : Int32 × rp_St} (hC : mC p s m args meth c cX7_trace 2 "RegretPegsModel" (some .int) D cI cT ad av a) (v1 : Int32) (σ : rp_St) (H : Heap) (locs : List Loc) (ls : Array Slot) (hF : fX7_trace v1 σ = some res) (hw : mW D cI cT ad av a s σ H locs) (hl : lv_has ls 2 [(0, .ref (a 0)), (1, .int v1)]) : W p l e (rp_rm 2) s m args below meth c H locs 0 0 (MQ below (rp_Qi D a (mt cI cT ad a) 15 res) args s 0 0 (rp_A a 15)) (F0 m 0 ls []) := by
  have hx := hC.1
  have hb := hC.2.1
  have hown := hC.2.2.2.1
  have hts := hC.2.2.2.2.1
  unfold fX7_trace at hF
  refine lv_iload_n (pc := 0) hx hb dX7_trace_0 rfl (lv_at hl 1 rfl) ?_
  refine lv_iconst (pc := 1) (v := 0) hx hb dX7_trace_1 (by decide) ?_
  refine lv_aload_n (pc := 2) hx hb dX7_trace_2 rfl (lv_at hl 0 rfl) ?_
  refine rp_get (pc := 3) hC hw 0 (by decide) (mt_obj _) fl_X7_263 (.int (σ 0 16)) rfl dX7_trace_3 ?_
  refine lv_iconst (pc := 6) (v := 1) hx hb dX7_trace_6 (by decide) ?_
  refine lv_isub (pc := 7) hx hb dX7_trace_7 ?_
  obtain ⟨r1, σ2, hq, hF⟩ := rp_bd_e hF
  refine rp_ki (rp_runZ (rest := []) hC (mE_ok _) hw hl.1 (mX7_within (l := l) v1 0 ((σ 0 16) - 1) σ _ hq) zw_X7_73 rfl rfl (Nat.le_of_ble_eq_true rfl) (by decide) dX7_trace_8) hw (fun H locs hw => ?_)
  clear hq
  refine lv_if_eq (pc := 11) (tgt := 23) hx hb dX7_trace_11 (by decide) (fun hc => ?_) (fun hc => ?_)
  · replace hF := rp_it hc hF
    refine lv_aload_n (pc := 23) hx hb dX7_trace_23 rfl (lv_at hl 0 rfl) ?_
    refine lv_ldc (pc := 24) (v := (-1000000002)) hx hb hown (hts _ wd_989) dX7_trace_24 ?_
    obtain ⟨r3, σ4, hq, hF⟩ := rp_bd_e hF
    refine rp_ki (rp_runV (rest := []) hC (mE_ok _) hw hl.1 (mX7_finding (l := l) (-1000000002) σ2 _ hq) vw_X7_78 (by decide) (mt_obj _) rfl rfl rfl (Nat.le_of_ble_eq_true rfl) (by decide) dX7_trace_26) hw (fun H locs hw => ?_)
    clear hq
    exact rp_reti (pc := 29) hC hw hF dX7_trace_29
  · replace hF := rp_if hc hF
    refine lv_aload_n (pc := 14) hx hb dX7_trace_14 rfl (lv_at hl 0 rfl) ?_
    refine rp_get (pc := 15) hC hw 0 (by decide) (mt_obj _) fl_X7_44 (.ref (a 10)) rfl dX7_trace_15 ?_
    refine lv_iload_n (pc := 18) hx hb dX7_trace_18 rfl (lv_at hl 1 rfl) ?_
    obtain ⟨hg, hF⟩ := rp_gu_e hF
    refine rp_ald (pc := 19) hC hw 10 (by decide) (mt_arr 10 40 rfl) 0 rfl hg dX7_trace_19 ?_
    refine lv_goto (pc := 20) (tgt := 29) hx hb dX7_trace_20 (by decide) ?_
    exact rp_reti (pc := 29) hC hw hF dX7_trace_29
theorem mX7_trace {l : Launch} {D : va_G} {cI cT : ClassId} {ad av a : Nat → Nat} (v1 : Int32) (σ : rp_St) (res : Int32 × rp_St) (hF : fX7_trace v1 σ = some res) : mM l D cI cT ad av a yX7_trace cX7_trace 2 (some .int) 2 [.ref (a 0), .int v1] σ (rp_Qi D a (mt cI cT ad a) 15 res) :=
  rp_entry (by decide) (Nat.le_of_ble_eq_true rfl) (fun p e s m below meth c ls hC hw hl => kX7_trace_0 hC v1 σ _ _ _ hF hw (lv_sub hl [0, 1] rfl))
def fX7_sheet_29 (σ : rp_St) : Option (Int32 × rp_St) :=
  rp_bd (fX7_finding (-1000000001) σ) (fun r1 σ2 => some (r1, σ2))
set_option maxRecDepth 100000 in
set_option maxHeartbeats 4000000 in
theorem kX7_sheet_29 {p : Program} {l : Launch} {e : Env} {s : State} {m : MethodId} {args : Array Value} {below : List Frame} {meth : Method} {c : Code} {D : va_G} {cI cT : ClassId} {ad av a : Nat → Nat} {res : Int32 × rp_St} (hC : mC p s m args meth c cX7_sheet 5 "RegretPegsModel" (some .int) D cI cT ad av a) (σ : rp_St) (H : Heap) (locs : List Loc) (ls : Array Slot) (hF : fX7_sheet_29 σ = some res) (hw : mW D cI cT ad av a s σ H locs) (hl : lv_has ls 5 [(0, .ref (a 0))]) : W p l e (rp_rm 3) s m args below meth c H locs 0 0 (MQ below (rp_Qi D a (mt cI cT ad a) 15 res) args s 0 0 (rp_A a 15)) (F0 m 29 ls []) := by
  have hx := hC.1
  have hb := hC.2.1
  have hown := hC.2.2.2.1
  have hts := hC.2.2.2.2.1
  unfold fX7_sheet_29 at hF
  refine lv_aload_n (pc := 29) hx hb dX7_sheet_29 rfl (lv_at hl 0 rfl) ?_
  refine lv_ldc (pc := 30) (v := (-1000000001)) hx hb hown (hts _ wd_721) dX7_sheet_30 ?_
  obtain ⟨r1, σ2, hq, hF⟩ := rp_bd_e hF
  refine rp_ki (rp_runV (rest := []) hC (mE_ok _) hw hl.1 (mX7_finding (l := l) (-1000000001) σ _ hq) vw_X7_78 (by decide) (mt_obj _) rfl rfl rfl (Nat.le_of_ble_eq_true rfl) (by decide) dX7_sheet_32) hw (fun H locs hw => ?_)
  clear hq
  exact rp_reti (pc := 35) hC hw hF dX7_sheet_35
def fX7_sheet_93 (k93 : Int32 → Int32 → rp_St → Option (Int32 × rp_St)) (v1 : Int32) (v4 : Int32) (σ : rp_St) : Option (Int32 × rp_St) :=
  (if 40 ≤ v4 then some (1, σ) else rp_gu (rp_in ((40 * v1) + v4) 160) (rp_nm (rp_put σ 13 (((40 * v1) + v4) : Int32).toNatClampNeg 0) (fun σ1 => rp_nm (v4 + 1) (fun x2 => k93 v1 x2 σ1))))
set_option maxRecDepth 100000 in
set_option maxHeartbeats 4000000 in
theorem kX7_sheet_93 {p : Program} {l : Launch} {e : Env} {s : State} {m : MethodId} {args : Array Value} {below : List Frame} {meth : Method} {c : Code} {D : va_G} {cI cT : ClassId} {ad av a : Nat → Nat} {res : Int32 × rp_St} (hC : mC p s m args meth c cX7_sheet 5 "RegretPegsModel" (some .int) D cI cT ad av a) (k93 : Int32 → Int32 → rp_St → Option (Int32 × rp_St)) (hk93 : ∀ (v1 : Int32) (v4 : Int32) (σ : rp_St) (H : Heap) (locs : List Loc) (ls : Array Slot), k93 v1 v4 σ = some res → mW D cI cT ad av a s σ H locs → lv_has ls 5 [(0, .ref (a 0)), (1, .int v1), (4, .int v4)] → W p l e (rp_rm 3) s m args below meth c H locs 0 0 (MQ below (rp_Qi D a (mt cI cT ad a) 15 res) args s 0 0 (rp_A a 15)) (F0 m 93 ls [])) (v1 : Int32) (v4 : Int32) (σ : rp_St) (H : Heap) (locs : List Loc) (ls : Array Slot) (hF : fX7_sheet_93 k93 v1 v4 σ = some res) (hw : mW D cI cT ad av a s σ H locs) (hl : lv_has ls 5 [(0, .ref (a 0)), (1, .int v1), (4, .int v4)]) : W p l e (rp_rm 3) s m args below meth c H locs 0 0 (MQ below (rp_Qi D a (mt cI cT ad a) 15 res) args s 0 0 (rp_A a 15)) (F0 m 93 ls []) := by
  have hx := hC.1
  have hb := hC.2.1
  have hown := hC.2.2.2.1
  have hts := hC.2.2.2.2.1
  unfold fX7_sheet_93 at hF
  refine lv_iload (pc := 93) hx hb dX7_sheet_93 (lv_at hl 2 rfl) ?_
  refine lv_bipush (pc := 95) (v := 40) hx hb dX7_sheet_95 (by decide) ?_
  refine lv_icmp_ge (pc := 97) (tgt := 119) hx hb dX7_sheet_97 (by decide) (fun hc => ?_) (fun hc => ?_)
  · replace hF := rp_it hc hF
    refine lv_iconst (pc := 119) (v := 1) hx hb dX7_sheet_119 (by decide) ?_
    exact rp_reti (pc := 120) hC hw hF dX7_sheet_120
  · replace hF := rp_if hc hF
    refine lv_aload_n (pc := 100) hx hb dX7_sheet_100 rfl (lv_at hl 0 rfl) ?_
    refine rp_get (pc := 101) hC hw 0 (by decide) (mt_obj _) fl_X7_53 (.ref (a 13)) rfl dX7_sheet_101 ?_
    refine lv_bipush (pc := 104) (v := 40) hx hb dX7_sheet_104 (by decide) ?_
    refine lv_iload_n (pc := 106) hx hb dX7_sheet_106 rfl (lv_at hl 1 rfl) ?_
    refine lv_imul (pc := 107) hx hb dX7_sheet_107 ?_
    refine lv_iload (pc := 108) hx hb dX7_sheet_108 (lv_at hl 2 rfl) ?_
    refine lv_iadd (pc := 110) hx hb dX7_sheet_110 ?_
    refine lv_iconst (pc := 111) (v := 0) hx hb dX7_sheet_111 (by decide) ?_
    obtain ⟨hg, hF⟩ := rp_gu_e hF
    refine rp_ast (pc := 112) hC hw 13 (by decide) (mt_arr 13 160 rfl) 0 rfl hg dX7_sheet_112 (fun H locs hw => ?_)
    obtain ⟨σ1, eσ1, hF⟩ := rp_nm_e hF
    replace hw := rp_Wn eσ1 hw
    clear eσ1
    obtain ⟨x2, ex2, hF⟩ := rp_nm_e hF
    refine lv_iinc (pc := 113) (v := x2) (lv' := [(4, .int x2), (0, .ref (a 0)), (1, .int v1)]) hx hb dX7_sheet_113 hl (k := 2) rfl (by rw [ex2]; rfl) (by decide) rfl (fun ls hl => ?_)
    refine lv_goto (pc := 116) (tgt := 93) hx hb dX7_sheet_116 (by decide) ?_
    exact hk93 v1 x2 σ1 _ _ _ hF hw (lv_sub hl [1, 2, 0] rfl)
theorem lX7_sheet_93 {p : Program} {l : Launch} {e : Env} {s : State} {m : MethodId} {args : Array Value} {below : List Frame} {meth : Method} {c : Code} {D : va_G} {cI cT : ClassId} {ad av a : Nat → Nat} {res : Int32 × rp_St} (hC : mC p s m args meth c cX7_sheet 5 "RegretPegsModel" (some .int) D cI cT ad av a) : ∀ (n : Nat) (v1 : Int32) (v4 : Int32) (σ : rp_St) (H : Heap) (locs : List Loc) (ls : Array Slot), rp_lp (fun _ _ _ => none) (fX7_sheet_93) n v1 v4 σ = some res → mW D cI cT ad av a s σ H locs → lv_has ls 5 [(0, .ref (a 0)), (1, .int v1), (4, .int v4)] → W p l e (rp_rm 3) s m args below meth c H locs 0 0 (MQ below (rp_Qi D a (mt cI cT ad a) 15 res) args s 0 0 (rp_A a 15)) (F0 m 93 ls [])
  | 0, _, _, _, _, _, _, hF, _, _ => nomatch hF
  | n + 1, v1, v4, σ, H, locs, ls, hF, hw, hl => kX7_sheet_93 hC (rp_lp (fun _ _ _ => none) (fX7_sheet_93) n) (lX7_sheet_93 hC n) v1 v4 σ H locs ls hF hw hl
def fX7_sheet_89 (v1 : Int32) (t0 : Int32) (t1 : Int32) (σ : rp_St) : Option (Int32 × rp_St) :=
  rp_gu (rp_in t1 4) (rp_nm (rp_put σ 12 (t1 : Int32).toNatClampNeg t0) (fun σ1 => rp_lp (fun _ _ _ => none) (fX7_sheet_93) 300 v1 0 σ1))
set_option maxRecDepth 100000 in
set_option maxHeartbeats 4000000 in
theorem kX7_sheet_89 {p : Program} {l : Launch} {e : Env} {s : State} {m : MethodId} {args : Array Value} {below : List Frame} {meth : Method} {c : Code} {D : va_G} {cI cT : ClassId} {ad av a : Nat → Nat} {res : Int32 × rp_St} (hC : mC p s m args meth c cX7_sheet 5 "RegretPegsModel" (some .int) D cI cT ad av a) (v1 : Int32) (t0 : Int32) (t1 : Int32) (σ : rp_St) (H : Heap) (locs : List Loc) (ls : Array Slot) (hF : fX7_sheet_89 v1 t0 t1 σ = some res) (hw : mW D cI cT ad av a s σ H locs) (hl : lv_has ls 5 [(0, .ref (a 0)), (1, .int v1)]) : W p l e (rp_rm 3) s m args below meth c H locs 0 0 (MQ below (rp_Qi D a (mt cI cT ad a) 15 res) args s 0 0 (rp_A a 15)) (F0 m 89 ls [.int t0, .int t1, .ref (a 12)]) := by
  have hx := hC.1
  have hb := hC.2.1
  have hown := hC.2.2.2.1
  have hts := hC.2.2.2.2.1
  unfold fX7_sheet_89 at hF
  obtain ⟨hg, hF⟩ := rp_gu_e hF
  refine rp_ast (pc := 89) hC hw 12 (by decide) (mt_arr 12 4 rfl) 0 rfl hg dX7_sheet_89 (fun H locs hw => ?_)
  obtain ⟨σ1, eσ1, hF⟩ := rp_nm_e hF
  replace hw := rp_Wn eσ1 hw
  clear eσ1
  refine lv_iconst (pc := 90) (v := 0) hx hb dX7_sheet_90 (by decide) ?_
  refine lv_istore (pc := 91) (lv' := [(4, .int 0), (0, .ref (a 0)), (1, .int v1)]) hx hb dX7_sheet_91 hl (by decide) rfl (fun ls hl => ?_)
  exact lX7_sheet_93 hC 300 v1 0 σ1 _ _ _ hF hw (lv_sub hl [1, 2, 0] rfl)
def fX7_sheet_68 (v1 : Int32) (v2 : Int32) (v3 : Int32) (σ : rp_St) : Option (Int32 × rp_St) :=
  rp_gu (rp_in v1 4) (rp_nm (rp_put σ 11 (v1 : Int32).toNatClampNeg v2) (fun σ1 => (if v2 = 0 then fX7_sheet_89 v1 0 v1 σ1 else fX7_sheet_89 v1 v3 v1 σ1)))
set_option maxRecDepth 100000 in
set_option maxHeartbeats 4000000 in
theorem kX7_sheet_68 {p : Program} {l : Launch} {e : Env} {s : State} {m : MethodId} {args : Array Value} {below : List Frame} {meth : Method} {c : Code} {D : va_G} {cI cT : ClassId} {ad av a : Nat → Nat} {res : Int32 × rp_St} (hC : mC p s m args meth c cX7_sheet 5 "RegretPegsModel" (some .int) D cI cT ad av a) (v1 : Int32) (v2 : Int32) (v3 : Int32) (σ : rp_St) (H : Heap) (locs : List Loc) (ls : Array Slot) (hF : fX7_sheet_68 v1 v2 v3 σ = some res) (hw : mW D cI cT ad av a s σ H locs) (hl : lv_has ls 5 [(0, .ref (a 0)), (1, .int v1), (2, .int v2), (3, .int v3)]) : W p l e (rp_rm 3) s m args below meth c H locs 0 0 (MQ below (rp_Qi D a (mt cI cT ad a) 15 res) args s 0 0 (rp_A a 15)) (F0 m 68 ls []) := by
  have hx := hC.1
  have hb := hC.2.1
  have hown := hC.2.2.2.1
  have hts := hC.2.2.2.2.1
  unfold fX7_sheet_68 at hF
  refine lv_aload_n (pc := 68) hx hb dX7_sheet_68 rfl (lv_at hl 0 rfl) ?_
  refine rp_get (pc := 69) hC hw 0 (by decide) (mt_obj _) fl_X7_47 (.ref (a 11)) rfl dX7_sheet_69 ?_
  refine lv_iload_n (pc := 72) hx hb dX7_sheet_72 rfl (lv_at hl 1 rfl) ?_
  refine lv_iload_n (pc := 73) hx hb dX7_sheet_73 rfl (lv_at hl 2 rfl) ?_
  obtain ⟨hg, hF⟩ := rp_gu_e hF
  refine rp_ast (pc := 74) hC hw 11 (by decide) (mt_arr 11 4 rfl) 0 rfl hg dX7_sheet_74 (fun H locs hw => ?_)
  obtain ⟨σ1, eσ1, hF⟩ := rp_nm_e hF
  replace hw := rp_Wn eσ1 hw
  clear eσ1
  refine lv_aload_n (pc := 75) hx hb dX7_sheet_75 rfl (lv_at hl 0 rfl) ?_
  refine rp_get (pc := 76) hC hw 0 (by decide) (mt_obj _) fl_X7_50 (.ref (a 12)) rfl dX7_sheet_76 ?_
  refine lv_iload_n (pc := 79) hx hb dX7_sheet_79 rfl (lv_at hl 1 rfl) ?_
  refine lv_iload_n (pc := 80) hx hb dX7_sheet_80 rfl (lv_at hl 2 rfl) ?_
  refine lv_if_ne (pc := 81) (tgt := 88) hx hb dX7_sheet_81 (by decide) (fun hc => ?_) (fun hc => ?_)
  · replace hF := rp_if hc hF
    refine lv_iload_n (pc := 88) hx hb dX7_sheet_88 rfl (lv_at hl 3 rfl) ?_
    exact kX7_sheet_89 hC v1 v3 v1 σ1 _ _ _ hF hw (lv_sub hl [0, 1] rfl)
  · replace hF := rp_it hc hF
    refine lv_iconst (pc := 84) (v := 0) hx hb dX7_sheet_84 (by decide) ?_
    refine lv_goto (pc := 85) (tgt := 89) hx hb dX7_sheet_85 (by decide) ?_
    exact kX7_sheet_89 hC v1 0 v1 σ1 _ _ _ hF hw (lv_sub hl [0, 1] rfl)
def fX7_sheet_51 (v1 : Int32) (v2 : Int32) (v3 : Int32) (σ : rp_St) : Option (Int32 × rp_St) :=
  (if v2 = 0 then fX7_sheet_68 v1 v2 v3 σ else (if v3 ≤ 40 then fX7_sheet_68 v1 v2 v3 σ else rp_bd (fX7_finding (-1000000001) σ) (fun r1 σ2 => some (r1, σ2))))
set_option maxRecDepth 100000 in
set_option maxHeartbeats 4000000 in
theorem kX7_sheet_51 {p : Program} {l : Launch} {e : Env} {s : State} {m : MethodId} {args : Array Value} {below : List Frame} {meth : Method} {c : Code} {D : va_G} {cI cT : ClassId} {ad av a : Nat → Nat} {res : Int32 × rp_St} (hC : mC p s m args meth c cX7_sheet 5 "RegretPegsModel" (some .int) D cI cT ad av a) (v1 : Int32) (v2 : Int32) (v3 : Int32) (σ : rp_St) (H : Heap) (locs : List Loc) (ls : Array Slot) (hF : fX7_sheet_51 v1 v2 v3 σ = some res) (hw : mW D cI cT ad av a s σ H locs) (hl : lv_has ls 5 [(0, .ref (a 0)), (1, .int v1), (2, .int v2), (3, .int v3)]) : W p l e (rp_rm 3) s m args below meth c H locs 0 0 (MQ below (rp_Qi D a (mt cI cT ad a) 15 res) args s 0 0 (rp_A a 15)) (F0 m 51 ls []) := by
  have hx := hC.1
  have hb := hC.2.1
  have hown := hC.2.2.2.1
  have hts := hC.2.2.2.2.1
  unfold fX7_sheet_51 at hF
  refine lv_iload_n (pc := 51) hx hb dX7_sheet_51 rfl (lv_at hl 2 rfl) ?_
  refine lv_if_eq (pc := 52) (tgt := 68) hx hb dX7_sheet_52 (by decide) (fun hc => ?_) (fun hc => ?_)
  · replace hF := rp_it hc hF
    exact kX7_sheet_68 hC v1 v2 v3 σ _ _ _ hF hw (lv_sub hl [0, 1, 2, 3] rfl)
  · replace hF := rp_if hc hF
    refine lv_iload_n (pc := 55) hx hb dX7_sheet_55 rfl (lv_at hl 3 rfl) ?_
    refine lv_bipush (pc := 56) (v := 40) hx hb dX7_sheet_56 (by decide) ?_
    refine lv_icmp_le (pc := 58) (tgt := 68) hx hb dX7_sheet_58 (by decide) (fun hc => ?_) (fun hc => ?_)
    · replace hF := rp_it hc hF
      exact kX7_sheet_68 hC v1 v2 v3 σ _ _ _ hF hw (lv_sub hl [0, 1, 2, 3] rfl)
    · replace hF := rp_if hc hF
      refine lv_aload_n (pc := 61) hx hb dX7_sheet_61 rfl (lv_at hl 0 rfl) ?_
      refine lv_ldc (pc := 62) (v := (-1000000001)) hx hb hown (hts _ wd_721) dX7_sheet_62 ?_
      obtain ⟨r1, σ2, hq, hF⟩ := rp_bd_e hF
      refine rp_ki (rp_runV (rest := []) hC (mE_ok _) hw hl.1 (mX7_finding (l := l) (-1000000001) σ _ hq) vw_X7_78 (by decide) (mt_obj _) rfl rfl rfl (Nat.le_of_ble_eq_true rfl) (by decide) dX7_sheet_64) hw (fun H locs hw => ?_)
      clear hq
      exact rp_reti (pc := 67) hC hw hF dX7_sheet_67
def fX7_sheet_36 (v1 : Int32) (v2 : Int32) (v3 : Int32) (σ : rp_St) : Option (Int32 × rp_St) :=
  (if v2 = 0 then fX7_sheet_51 v1 v2 v3 σ else (if 0 ≤ v3 then fX7_sheet_51 v1 v2 v3 σ else rp_bd (fX7_finding (-1000000003) σ) (fun r1 σ2 => some (r1, σ2))))
set_option maxRecDepth 100000 in
set_option maxHeartbeats 4000000 in
theorem kX7_sheet_36 {p : Program} {l : Launch} {e : Env} {s : State} {m : MethodId} {args : Array Value} {below : List Frame} {meth : Method} {c : Code} {D : va_G} {cI cT : ClassId} {ad av a : Nat → Nat} {res : Int32 × rp_St} (hC : mC p s m args meth c cX7_sheet 5 "RegretPegsModel" (some .int) D cI cT ad av a) (v1 : Int32) (v2 : Int32) (v3 : Int32) (σ : rp_St) (H : Heap) (locs : List Loc) (ls : Array Slot) (hF : fX7_sheet_36 v1 v2 v3 σ = some res) (hw : mW D cI cT ad av a s σ H locs) (hl : lv_has ls 5 [(0, .ref (a 0)), (1, .int v1), (2, .int v2), (3, .int v3)]) : W p l e (rp_rm 3) s m args below meth c H locs 0 0 (MQ below (rp_Qi D a (mt cI cT ad a) 15 res) args s 0 0 (rp_A a 15)) (F0 m 36 ls []) := by
  have hx := hC.1
  have hb := hC.2.1
  have hown := hC.2.2.2.1
  have hts := hC.2.2.2.2.1
  unfold fX7_sheet_36 at hF
  refine lv_iload_n (pc := 36) hx hb dX7_sheet_36 rfl (lv_at hl 2 rfl) ?_
  refine lv_if_eq (pc := 37) (tgt := 51) hx hb dX7_sheet_37 (by decide) (fun hc => ?_) (fun hc => ?_)
  · replace hF := rp_it hc hF
    exact kX7_sheet_51 hC v1 v2 v3 σ _ _ _ hF hw (lv_sub hl [0, 1, 2, 3] rfl)
  · replace hF := rp_if hc hF
    refine lv_iload_n (pc := 40) hx hb dX7_sheet_40 rfl (lv_at hl 3 rfl) ?_
    refine lv_if_ge (pc := 41) (tgt := 51) hx hb dX7_sheet_41 (by decide) (fun hc => ?_) (fun hc => ?_)
    · replace hF := rp_it hc hF
      exact kX7_sheet_51 hC v1 v2 v3 σ _ _ _ hF hw (lv_sub hl [0, 1, 2, 3] rfl)
    · replace hF := rp_if hc hF
      refine lv_aload_n (pc := 44) hx hb dX7_sheet_44 rfl (lv_at hl 0 rfl) ?_
      refine lv_ldc (pc := 45) (v := (-1000000003)) hx hb hown (hts _ wd_925) dX7_sheet_45 ?_
      obtain ⟨r1, σ2, hq, hF⟩ := rp_bd_e hF
      refine rp_ki (rp_runV (rest := []) hC (mE_ok _) hw hl.1 (mX7_finding (l := l) (-1000000003) σ _ hq) vw_X7_78 (by decide) (mt_obj _) rfl rfl rfl (Nat.le_of_ble_eq_true rfl) (by decide) dX7_sheet_47) hw (fun H locs hw => ?_)
      clear hq
      exact rp_reti (pc := 50) hC hw hF dX7_sheet_50
def fX7_sheet (v1 : Int32) (v2 : Int32) (v3 : Int32) (σ : rp_St) : Option (Int32 × rp_St) :=
  rp_bd (fX7_isSheet v1 σ) (fun r1 σ2 => (if r1 = 0 then fX7_sheet_29 σ2 else (if v2 = 0 then fX7_sheet_36 v1 v2 v3 σ2 else (if v2 = 8 then fX7_sheet_36 v1 v2 v3 σ2 else (if v2 = 16 then fX7_sheet_36 v1 v2 v3 σ2 else (if v2 = 32 then fX7_sheet_36 v1 v2 v3 σ2 else fX7_sheet_29 σ2))))))
set_option maxRecDepth 100000 in
set_option maxHeartbeats 4000000 in
theorem kX7_sheet_0 {p : Program} {l : Launch} {e : Env} {s : State} {m : MethodId} {args : Array Value} {below : List Frame} {meth : Method} {c : Code} {D : va_G} {cI cT : ClassId} {ad av a : Nat → Nat} {res : Int32 × rp_St} (hC : mC p s m args meth c cX7_sheet 5 "RegretPegsModel" (some .int) D cI cT ad av a) (v1 : Int32) (v2 : Int32) (v3 : Int32) (σ : rp_St) (H : Heap) (locs : List Loc) (ls : Array Slot) (hF : fX7_sheet v1 v2 v3 σ = some res) (hw : mW D cI cT ad av a s σ H locs) (hl : lv_has ls 5 [(0, .ref (a 0)), (1, .int v1), (2, .int v2), (3, .int v3)]) : W p l e (rp_rm 3) s m args below meth c H locs 0 0 (MQ below (rp_Qi D a (mt cI cT ad a) 15 res) args s 0 0 (rp_A a 15)) (F0 m 0 ls []) := by
  have hx := hC.1
  have hb := hC.2.1
  have hown := hC.2.2.2.1
  have hts := hC.2.2.2.2.1
  unfold fX7_sheet at hF
  refine lv_iload_n (pc := 0) hx hb dX7_sheet_0 rfl (lv_at hl 1 rfl) ?_
  obtain ⟨r1, σ2, hq, hF⟩ := rp_bd_e hF
  refine rp_ki (rp_runZ (rest := []) hC (mE_ok _) hw hl.1 (mX7_isSheet (l := l) v1 σ _ hq) zw_X7_250 rfl rfl (Nat.le_of_ble_eq_true rfl) (by decide) dX7_sheet_1) hw (fun H locs hw => ?_)
  clear hq
  refine lv_if_eq (pc := 4) (tgt := 29) hx hb dX7_sheet_4 (by decide) (fun hc => ?_) (fun hc => ?_)
  · replace hF := rp_it hc hF
    exact kX7_sheet_29 hC σ2 _ _ _ hF hw (lv_sub hl [0] rfl)
  · replace hF := rp_if hc hF
    refine lv_iload_n (pc := 7) hx hb dX7_sheet_7 rfl (lv_at hl 2 rfl) ?_
    refine lv_if_eq (pc := 8) (tgt := 36) hx hb dX7_sheet_8 (by decide) (fun hc => ?_) (fun hc => ?_)
    · replace hF := rp_it hc hF
      exact kX7_sheet_36 hC v1 v2 v3 σ2 _ _ _ hF hw (lv_sub hl [0, 1, 2, 3] rfl)
    · replace hF := rp_if hc hF
      refine lv_iload_n (pc := 11) hx hb dX7_sheet_11 rfl (lv_at hl 2 rfl) ?_
      refine lv_bipush (pc := 12) (v := 8) hx hb dX7_sheet_12 (by decide) ?_
      refine lv_icmp_eq (pc := 14) (tgt := 36) hx hb dX7_sheet_14 (by decide) (fun hc => ?_) (fun hc => ?_)
      · replace hF := rp_it hc hF
        exact kX7_sheet_36 hC v1 v2 v3 σ2 _ _ _ hF hw (lv_sub hl [0, 1, 2, 3] rfl)
      · replace hF := rp_if hc hF
        refine lv_iload_n (pc := 17) hx hb dX7_sheet_17 rfl (lv_at hl 2 rfl) ?_
        refine lv_bipush (pc := 18) (v := 16) hx hb dX7_sheet_18 (by decide) ?_
        refine lv_icmp_eq (pc := 20) (tgt := 36) hx hb dX7_sheet_20 (by decide) (fun hc => ?_) (fun hc => ?_)
        · replace hF := rp_it hc hF
          exact kX7_sheet_36 hC v1 v2 v3 σ2 _ _ _ hF hw (lv_sub hl [0, 1, 2, 3] rfl)
        · replace hF := rp_if hc hF
          refine lv_iload_n (pc := 23) hx hb dX7_sheet_23 rfl (lv_at hl 2 rfl) ?_
          refine lv_bipush (pc := 24) (v := 32) hx hb dX7_sheet_24 (by decide) ?_
          refine lv_icmp_eq (pc := 26) (tgt := 36) hx hb dX7_sheet_26 (by decide) (fun hc => ?_) (fun hc => ?_)
          · replace hF := rp_it hc hF
            exact kX7_sheet_36 hC v1 v2 v3 σ2 _ _ _ hF hw (lv_sub hl [0, 1, 2, 3] rfl)
          · replace hF := rp_if hc hF
            exact kX7_sheet_29 hC σ2 _ _ _ hF hw (lv_sub hl [0] rfl)
theorem mX7_sheet {l : Launch} {D : va_G} {cI cT : ClassId} {ad av a : Nat → Nat} (v1 : Int32) (v2 : Int32) (v3 : Int32) (σ : rp_St) (res : Int32 × rp_St) (hF : fX7_sheet v1 v2 v3 σ = some res) : mM l D cI cT ad av a yX7_sheet cX7_sheet 5 (some .int) 3 [.ref (a 0), .int v1, .int v2, .int v3] σ (rp_Qi D a (mt cI cT ad a) 15 res) :=
  rp_entry (by decide) (Nat.le_of_ble_eq_true rfl) (fun p e s m below meth c ls hC hw hl => kX7_sheet_0 hC v1 v2 v3 σ _ _ _ hF hw (lv_sub hl [0, 1, 2, 3] rfl))
def fX7_put_96 (t0 : Int32) (t1 : Int32) (σ : rp_St) : Option (Int32 × rp_St) :=
  rp_gu (rp_in t1 160) (rp_nm (rp_put σ 13 (t1 : Int32).toNatClampNeg t0) (fun σ1 => some (1, σ1)))
set_option maxRecDepth 100000 in
set_option maxHeartbeats 4000000 in
theorem kX7_put_96 {p : Program} {l : Launch} {e : Env} {s : State} {m : MethodId} {args : Array Value} {below : List Frame} {meth : Method} {c : Code} {D : va_G} {cI cT : ClassId} {ad av a : Nat → Nat} {res : Int32 × rp_St} (hC : mC p s m args meth c cX7_put 4 "RegretPegsModel" (some .int) D cI cT ad av a) (t0 : Int32) (t1 : Int32) (σ : rp_St) (H : Heap) (locs : List Loc) (ls : Array Slot) (hF : fX7_put_96 t0 t1 σ = some res) (hw : mW D cI cT ad av a s σ H locs) (hl : lv_has ls 4 []) : W p l e (rp_rm 3) s m args below meth c H locs 0 0 (MQ below (rp_Qi D a (mt cI cT ad a) 15 res) args s 0 0 (rp_A a 15)) (F0 m 96 ls [.int t0, .int t1, .ref (a 13)]) := by
  have hx := hC.1
  have hb := hC.2.1
  have hown := hC.2.2.2.1
  have hts := hC.2.2.2.2.1
  unfold fX7_put_96 at hF
  obtain ⟨hg, hF⟩ := rp_gu_e hF
  refine rp_ast (pc := 96) hC hw 13 (by decide) (mt_arr 13 160 rfl) 0 rfl hg dX7_put_96 (fun H locs hw => ?_)
  obtain ⟨σ1, eσ1, hF⟩ := rp_nm_e hF
  replace hw := rp_Wn eσ1 hw
  clear eσ1
  refine lv_iconst (pc := 97) (v := 1) hx hb dX7_put_97 (by decide) ?_
  exact rp_reti (pc := 98) hC hw hF dX7_put_98
def fX7_put (v1 : Int32) (v2 : Int32) (v3 : Int32) (σ : rp_St) : Option (Int32 × rp_St) :=
  rp_bd (fX7_isSheet v1 σ) (fun r1 σ2 => (if r1 = 0 then rp_bd (fX7_finding (-1000000001) σ2) (fun r9 σ10 => some (r9, σ10)) else rp_gu (rp_in v1 4) ((if (σ2 11 (v1 : Int32).toNatClampNeg) = 0 then rp_bd (fX7_finding (-1000000002) σ2) (fun r7 σ8 => some (r7, σ8)) else rp_gu (rp_in v1 4) (rp_bd (fX7_within v2 0 ((σ2 12 (v1 : Int32).toNatClampNeg) - 1) σ2) (fun r3 σ4 => (if r3 = 0 then rp_bd (fX7_finding (-1000000001) σ4) (fun r5 σ6 => some (r5, σ6)) else rp_gu (rp_in v1 4) ((if (σ4 11 (v1 : Int32).toNatClampNeg) = 8 then fX7_put_96 ((v3 : Int32).toInt8.toInt32) ((40 * v1) + v2) σ4 else rp_gu (rp_in v1 4) ((if (σ4 11 (v1 : Int32).toNatClampNeg) = 16 then fX7_put_96 ((v3 : Int32).toInt16.toInt32) ((40 * v1) + v2) σ4 else fX7_put_96 v3 ((40 * v1) + v2) σ4)))))))))))
set_option maxRecDepth 100000 in
set_option maxHeartbeats 4000000 in
theorem kX7_put_0 {p : Program} {l : Launch} {e : Env} {s : State} {m : MethodId} {args : Array Value} {below : List Frame} {meth : Method} {c : Code} {D : va_G} {cI cT : ClassId} {ad av a : Nat → Nat} {res : Int32 × rp_St} (hC : mC p s m args meth c cX7_put 4 "RegretPegsModel" (some .int) D cI cT ad av a) (v1 : Int32) (v2 : Int32) (v3 : Int32) (σ : rp_St) (H : Heap) (locs : List Loc) (ls : Array Slot) (hF : fX7_put v1 v2 v3 σ = some res) (hw : mW D cI cT ad av a s σ H locs) (hl : lv_has ls 4 [(0, .ref (a 0)), (1, .int v1), (2, .int v2), (3, .int v3)]) : W p l e (rp_rm 3) s m args below meth c H locs 0 0 (MQ below (rp_Qi D a (mt cI cT ad a) 15 res) args s 0 0 (rp_A a 15)) (F0 m 0 ls []) := by
  have hx := hC.1
  have hb := hC.2.1
  have hown := hC.2.2.2.1
  have hts := hC.2.2.2.2.1
  unfold fX7_put at hF
  refine lv_iload_n (pc := 0) hx hb dX7_put_0 rfl (lv_at hl 1 rfl) ?_
  obtain ⟨r1, σ2, hq, hF⟩ := rp_bd_e hF
  refine rp_ki (rp_runZ (rest := []) hC (mE_ok _) hw hl.1 (mX7_isSheet (l := l) v1 σ _ hq) zw_X7_250 rfl rfl (Nat.le_of_ble_eq_true rfl) (by decide) dX7_put_1) hw (fun H locs hw => ?_)
  clear hq
  refine lv_if_ne (pc := 4) (tgt := 14) hx hb dX7_put_4 (by decide) (fun hc => ?_) (fun hc => ?_)
  · replace hF := rp_if hc hF
    refine lv_aload_n (pc := 14) hx hb dX7_put_14 rfl (lv_at hl 0 rfl) ?_
    refine rp_get (pc := 15) hC hw 0 (by decide) (mt_obj _) fl_X7_47 (.ref (a 11)) rfl dX7_put_15 ?_
    refine lv_iload_n (pc := 18) hx hb dX7_put_18 rfl (lv_at hl 1 rfl) ?_
    obtain ⟨hg, hF⟩ := rp_gu_e hF
    refine rp_ald (pc := 19) hC hw 11 (by decide) (mt_arr 11 4 rfl) 0 rfl hg dX7_put_19 ?_
    refine lv_if_ne (pc := 20) (tgt := 30) hx hb dX7_put_20 (by decide) (fun hc => ?_) (fun hc => ?_)
    · replace hF := rp_if hc hF
      refine lv_iload_n (pc := 30) hx hb dX7_put_30 rfl (lv_at hl 2 rfl) ?_
      refine lv_iconst (pc := 31) (v := 0) hx hb dX7_put_31 (by decide) ?_
      refine lv_aload_n (pc := 32) hx hb dX7_put_32 rfl (lv_at hl 0 rfl) ?_
      refine rp_get (pc := 33) hC hw 0 (by decide) (mt_obj _) fl_X7_50 (.ref (a 12)) rfl dX7_put_33 ?_
      refine lv_iload_n (pc := 36) hx hb dX7_put_36 rfl (lv_at hl 1 rfl) ?_
      obtain ⟨hg, hF⟩ := rp_gu_e hF
      refine rp_ald (pc := 37) hC hw 12 (by decide) (mt_arr 12 4 rfl) 0 rfl hg dX7_put_37 ?_
      refine lv_iconst (pc := 38) (v := 1) hx hb dX7_put_38 (by decide) ?_
      refine lv_isub (pc := 39) hx hb dX7_put_39 ?_
      obtain ⟨r3, σ4, hq, hF⟩ := rp_bd_e hF
      refine rp_ki (rp_runZ (rest := []) hC (mE_ok _) hw hl.1 (mX7_within (l := l) v2 0 ((σ2 12 (v1 : Int32).toNatClampNeg) - 1) σ2 _ hq) zw_X7_73 rfl rfl (Nat.le_of_ble_eq_true rfl) (by decide) dX7_put_40) hw (fun H locs hw => ?_)
      clear hq
      refine lv_if_ne (pc := 43) (tgt := 53) hx hb dX7_put_43 (by decide) (fun hc => ?_) (fun hc => ?_)
      · replace hF := rp_if hc hF
        refine lv_aload_n (pc := 53) hx hb dX7_put_53 rfl (lv_at hl 0 rfl) ?_
        refine rp_get (pc := 54) hC hw 0 (by decide) (mt_obj _) fl_X7_53 (.ref (a 13)) rfl dX7_put_54 ?_
        refine lv_bipush (pc := 57) (v := 40) hx hb dX7_put_57 (by decide) ?_
        refine lv_iload_n (pc := 59) hx hb dX7_put_59 rfl (lv_at hl 1 rfl) ?_
        refine lv_imul (pc := 60) hx hb dX7_put_60 ?_
        refine lv_iload_n (pc := 61) hx hb dX7_put_61 rfl (lv_at hl 2 rfl) ?_
        refine lv_iadd (pc := 62) hx hb dX7_put_62 ?_
        refine lv_aload_n (pc := 63) hx hb dX7_put_63 rfl (lv_at hl 0 rfl) ?_
        refine rp_get (pc := 64) hC hw 0 (by decide) (mt_obj _) fl_X7_47 (.ref (a 11)) rfl dX7_put_64 ?_
        refine lv_iload_n (pc := 67) hx hb dX7_put_67 rfl (lv_at hl 1 rfl) ?_
        obtain ⟨hg, hF⟩ := rp_gu_e hF
        refine rp_ald (pc := 68) hC hw 11 (by decide) (mt_arr 11 4 rfl) 0 rfl hg dX7_put_68 ?_
        refine lv_bipush (pc := 69) (v := 8) hx hb dX7_put_69 (by decide) ?_
        refine lv_icmp_ne (pc := 71) (tgt := 79) hx hb dX7_put_71 (by decide) (fun hc => ?_) (fun hc => ?_)
        · replace hF := rp_if hc hF
          refine lv_aload_n (pc := 79) hx hb dX7_put_79 rfl (lv_at hl 0 rfl) ?_
          refine rp_get (pc := 80) hC hw 0 (by decide) (mt_obj _) fl_X7_47 (.ref (a 11)) rfl dX7_put_80 ?_
          refine lv_iload_n (pc := 83) hx hb dX7_put_83 rfl (lv_at hl 1 rfl) ?_
          obtain ⟨hg, hF⟩ := rp_gu_e hF
          refine rp_ald (pc := 84) hC hw 11 (by decide) (mt_arr 11 4 rfl) 0 rfl hg dX7_put_84 ?_
          refine lv_bipush (pc := 85) (v := 16) hx hb dX7_put_85 (by decide) ?_
          refine lv_icmp_ne (pc := 87) (tgt := 95) hx hb dX7_put_87 (by decide) (fun hc => ?_) (fun hc => ?_)
          · replace hF := rp_if hc hF
            refine lv_iload_n (pc := 95) hx hb dX7_put_95 rfl (lv_at hl 3 rfl) ?_
            exact kX7_put_96 hC v3 ((40 * v1) + v2) σ4 _ _ _ hF hw (lv_sub hl [] rfl)
          · replace hF := rp_it hc hF
            refine lv_iload_n (pc := 90) hx hb dX7_put_90 rfl (lv_at hl 3 rfl) ?_
            refine lv_i2s (pc := 91) hx hb dX7_put_91 rfl ?_
            refine lv_goto (pc := 92) (tgt := 96) hx hb dX7_put_92 (by decide) ?_
            exact kX7_put_96 hC ((v3 : Int32).toInt16.toInt32) ((40 * v1) + v2) σ4 _ _ _ hF hw (lv_sub hl [] rfl)
        · replace hF := rp_it hc hF
          refine lv_iload_n (pc := 74) hx hb dX7_put_74 rfl (lv_at hl 3 rfl) ?_
          refine lv_i2b (pc := 75) hx hb dX7_put_75 rfl ?_
          refine lv_goto (pc := 76) (tgt := 96) hx hb dX7_put_76 (by decide) ?_
          exact kX7_put_96 hC ((v3 : Int32).toInt8.toInt32) ((40 * v1) + v2) σ4 _ _ _ hF hw (lv_sub hl [] rfl)
      · replace hF := rp_it hc hF
        refine lv_aload_n (pc := 46) hx hb dX7_put_46 rfl (lv_at hl 0 rfl) ?_
        refine lv_ldc (pc := 47) (v := (-1000000001)) hx hb hown (hts _ wd_721) dX7_put_47 ?_
        obtain ⟨r5, σ6, hq, hF⟩ := rp_bd_e hF
        refine rp_ki (rp_runV (rest := []) hC (mE_ok _) hw hl.1 (mX7_finding (l := l) (-1000000001) σ4 _ hq) vw_X7_78 (by decide) (mt_obj _) rfl rfl rfl (Nat.le_of_ble_eq_true rfl) (by decide) dX7_put_49) hw (fun H locs hw => ?_)
        clear hq
        exact rp_reti (pc := 52) hC hw hF dX7_put_52
    · replace hF := rp_it hc hF
      refine lv_aload_n (pc := 23) hx hb dX7_put_23 rfl (lv_at hl 0 rfl) ?_
      refine lv_ldc (pc := 24) (v := (-1000000002)) hx hb hown (hts _ wd_989) dX7_put_24 ?_
      obtain ⟨r7, σ8, hq, hF⟩ := rp_bd_e hF
      refine rp_ki (rp_runV (rest := []) hC (mE_ok _) hw hl.1 (mX7_finding (l := l) (-1000000002) σ2 _ hq) vw_X7_78 (by decide) (mt_obj _) rfl rfl rfl (Nat.le_of_ble_eq_true rfl) (by decide) dX7_put_26) hw (fun H locs hw => ?_)
      clear hq
      exact rp_reti (pc := 29) hC hw hF dX7_put_29
  · replace hF := rp_it hc hF
    refine lv_aload_n (pc := 7) hx hb dX7_put_7 rfl (lv_at hl 0 rfl) ?_
    refine lv_ldc (pc := 8) (v := (-1000000001)) hx hb hown (hts _ wd_721) dX7_put_8 ?_
    obtain ⟨r9, σ10, hq, hF⟩ := rp_bd_e hF
    refine rp_ki (rp_runV (rest := []) hC (mE_ok _) hw hl.1 (mX7_finding (l := l) (-1000000001) σ2 _ hq) vw_X7_78 (by decide) (mt_obj _) rfl rfl rfl (Nat.le_of_ble_eq_true rfl) (by decide) dX7_put_10) hw (fun H locs hw => ?_)
    clear hq
    exact rp_reti (pc := 13) hC hw hF dX7_put_13
theorem mX7_put {l : Launch} {D : va_G} {cI cT : ClassId} {ad av a : Nat → Nat} (v1 : Int32) (v2 : Int32) (v3 : Int32) (σ : rp_St) (res : Int32 × rp_St) (hF : fX7_put v1 v2 v3 σ = some res) : mM l D cI cT ad av a yX7_put cX7_put 4 (some .int) 3 [.ref (a 0), .int v1, .int v2, .int v3] σ (rp_Qi D a (mt cI cT ad a) 15 res) :=
  rp_entry (by decide) (Nat.le_of_ble_eq_true rfl) (fun p e s m below meth c ls hC hw hl => kX7_put_0 hC v1 v2 v3 σ _ _ _ hF hw (lv_sub hl [0, 1, 2, 3] rfl))
def fX7_move_14 (σ : rp_St) : Option (Int32 × rp_St) :=
  rp_bd (fX7_finding (-1000000001) σ) (fun r1 σ2 => some (r1, σ2))
set_option maxRecDepth 100000 in
set_option maxHeartbeats 4000000 in
theorem kX7_move_14 {p : Program} {l : Launch} {e : Env} {s : State} {m : MethodId} {args : Array Value} {below : List Frame} {meth : Method} {c : Code} {D : va_G} {cI cT : ClassId} {ad av a : Nat → Nat} {res : Int32 × rp_St} (hC : mC p s m args meth c cX7_move 7 "RegretPegsModel" (some .int) D cI cT ad av a) (σ : rp_St) (H : Heap) (locs : List Loc) (ls : Array Slot) (hF : fX7_move_14 σ = some res) (hw : mW D cI cT ad av a s σ H locs) (hl : lv_has ls 7 [(0, .ref (a 0))]) : W p l e (rp_rm 3) s m args below meth c H locs 0 0 (MQ below (rp_Qi D a (mt cI cT ad a) 15 res) args s 0 0 (rp_A a 15)) (F0 m 14 ls []) := by
  have hx := hC.1
  have hb := hC.2.1
  have hown := hC.2.2.2.1
  have hts := hC.2.2.2.2.1
  unfold fX7_move_14 at hF
  refine lv_aload_n (pc := 14) hx hb dX7_move_14 rfl (lv_at hl 0 rfl) ?_
  refine lv_ldc (pc := 15) (v := (-1000000001)) hx hb hown (hts _ wd_721) dX7_move_15 ?_
  obtain ⟨r1, σ2, hq, hF⟩ := rp_bd_e hF
  refine rp_ki (rp_runV (rest := []) hC (mE_ok _) hw hl.1 (mX7_finding (l := l) (-1000000001) σ _ hq) vw_X7_78 (by decide) (mt_obj _) rfl rfl rfl (Nat.le_of_ble_eq_true rfl) (by decide) dX7_move_17) hw (fun H locs hw => ?_)
  clear hq
  exact rp_reti (pc := 20) hC hw hF dX7_move_20
def fX7_move_39 (σ : rp_St) : Option (Int32 × rp_St) :=
  rp_bd (fX7_finding (-1000000002) σ) (fun r1 σ2 => some (r1, σ2))
set_option maxRecDepth 100000 in
set_option maxHeartbeats 4000000 in
theorem kX7_move_39 {p : Program} {l : Launch} {e : Env} {s : State} {m : MethodId} {args : Array Value} {below : List Frame} {meth : Method} {c : Code} {D : va_G} {cI cT : ClassId} {ad av a : Nat → Nat} {res : Int32 × rp_St} (hC : mC p s m args meth c cX7_move 7 "RegretPegsModel" (some .int) D cI cT ad av a) (σ : rp_St) (H : Heap) (locs : List Loc) (ls : Array Slot) (hF : fX7_move_39 σ = some res) (hw : mW D cI cT ad av a s σ H locs) (hl : lv_has ls 7 [(0, .ref (a 0))]) : W p l e (rp_rm 3) s m args below meth c H locs 0 0 (MQ below (rp_Qi D a (mt cI cT ad a) 15 res) args s 0 0 (rp_A a 15)) (F0 m 39 ls []) := by
  have hx := hC.1
  have hb := hC.2.1
  have hown := hC.2.2.2.1
  have hts := hC.2.2.2.2.1
  unfold fX7_move_39 at hF
  refine lv_aload_n (pc := 39) hx hb dX7_move_39 rfl (lv_at hl 0 rfl) ?_
  refine lv_ldc (pc := 40) (v := (-1000000002)) hx hb hown (hts _ wd_989) dX7_move_40 ?_
  obtain ⟨r1, σ2, hq, hF⟩ := rp_bd_e hF
  refine rp_ki (rp_runV (rest := []) hC (mE_ok _) hw hl.1 (mX7_finding (l := l) (-1000000002) σ _ hq) vw_X7_78 (by decide) (mt_obj _) rfl rfl rfl (Nat.le_of_ble_eq_true rfl) (by decide) dX7_move_42) hw (fun H locs hw => ?_)
  clear hq
  exact rp_reti (pc := 45) hC hw hF dX7_move_45
def fX7_move_117 (σ : rp_St) : Option (Int32 × rp_St) :=
  rp_bd (fX7_finding (-1000000001) σ) (fun r1 σ2 => some (r1, σ2))
set_option maxRecDepth 100000 in
set_option maxHeartbeats 4000000 in
theorem kX7_move_117 {p : Program} {l : Launch} {e : Env} {s : State} {m : MethodId} {args : Array Value} {below : List Frame} {meth : Method} {c : Code} {D : va_G} {cI cT : ClassId} {ad av a : Nat → Nat} {res : Int32 × rp_St} (hC : mC p s m args meth c cX7_move 7 "RegretPegsModel" (some .int) D cI cT ad av a) (σ : rp_St) (H : Heap) (locs : List Loc) (ls : Array Slot) (hF : fX7_move_117 σ = some res) (hw : mW D cI cT ad av a s σ H locs) (hl : lv_has ls 7 [(0, .ref (a 0))]) : W p l e (rp_rm 3) s m args below meth c H locs 0 0 (MQ below (rp_Qi D a (mt cI cT ad a) 15 res) args s 0 0 (rp_A a 15)) (F0 m 117 ls []) := by
  have hx := hC.1
  have hb := hC.2.1
  have hown := hC.2.2.2.1
  have hts := hC.2.2.2.2.1
  unfold fX7_move_117 at hF
  refine lv_aload_n (pc := 117) hx hb dX7_move_117 rfl (lv_at hl 0 rfl) ?_
  refine lv_ldc (pc := 118) (v := (-1000000001)) hx hb hown (hts _ wd_721) dX7_move_118 ?_
  obtain ⟨r1, σ2, hq, hF⟩ := rp_bd_e hF
  refine rp_ki (rp_runV (rest := []) hC (mE_ok _) hw hl.1 (mX7_finding (l := l) (-1000000001) σ _ hq) vw_X7_78 (by decide) (mt_obj _) rfl rfl rfl (Nat.le_of_ble_eq_true rfl) (by decide) dX7_move_120) hw (fun H locs hw => ?_)
  clear hq
  exact rp_reti (pc := 123) hC hw hF dX7_move_123
def fX7_move_164 (k164 : Int32 → Int32 → Int32 → Int32 → rp_St → Option (Int32 × rp_St)) (v3 : Int32) (v4 : Int32) (v5 : Int32) (v6 : Int32) (σ : rp_St) : Option (Int32 × rp_St) :=
  (if v5 ≤ v6 then some (v5, σ) else rp_gu (rp_in v6 40) (rp_gu (rp_in (((40 * v3) + v4) + v6) 160) (rp_nm (rp_put σ 13 ((((40 * v3) + v4) + v6) : Int32).toNatClampNeg (σ 14 (v6 : Int32).toNatClampNeg)) (fun σ1 => rp_nm (v6 + 1) (fun x2 => k164 v3 v4 v5 x2 σ1)))))
set_option maxRecDepth 100000 in
set_option maxHeartbeats 4000000 in
theorem kX7_move_164 {p : Program} {l : Launch} {e : Env} {s : State} {m : MethodId} {args : Array Value} {below : List Frame} {meth : Method} {c : Code} {D : va_G} {cI cT : ClassId} {ad av a : Nat → Nat} {res : Int32 × rp_St} (hC : mC p s m args meth c cX7_move 7 "RegretPegsModel" (some .int) D cI cT ad av a) (k164 : Int32 → Int32 → Int32 → Int32 → rp_St → Option (Int32 × rp_St)) (hk164 : ∀ (v3 : Int32) (v4 : Int32) (v5 : Int32) (v6 : Int32) (σ : rp_St) (H : Heap) (locs : List Loc) (ls : Array Slot), k164 v3 v4 v5 v6 σ = some res → mW D cI cT ad av a s σ H locs → lv_has ls 7 [(0, .ref (a 0)), (3, .int v3), (4, .int v4), (5, .int v5), (6, .int v6)] → W p l e (rp_rm 3) s m args below meth c H locs 0 0 (MQ below (rp_Qi D a (mt cI cT ad a) 15 res) args s 0 0 (rp_A a 15)) (F0 m 164 ls [])) (v3 : Int32) (v4 : Int32) (v5 : Int32) (v6 : Int32) (σ : rp_St) (H : Heap) (locs : List Loc) (ls : Array Slot) (hF : fX7_move_164 k164 v3 v4 v5 v6 σ = some res) (hw : mW D cI cT ad av a s σ H locs) (hl : lv_has ls 7 [(0, .ref (a 0)), (3, .int v3), (4, .int v4), (5, .int v5), (6, .int v6)]) : W p l e (rp_rm 3) s m args below meth c H locs 0 0 (MQ below (rp_Qi D a (mt cI cT ad a) 15 res) args s 0 0 (rp_A a 15)) (F0 m 164 ls []) := by
  have hx := hC.1
  have hb := hC.2.1
  have hown := hC.2.2.2.1
  have hts := hC.2.2.2.2.1
  unfold fX7_move_164 at hF
  refine lv_iload (pc := 164) hx hb dX7_move_164 (lv_at hl 4 rfl) ?_
  refine lv_iload (pc := 166) hx hb dX7_move_166 (lv_at hl 3 rfl) ?_
  refine lv_icmp_ge (pc := 168) (tgt := 199) hx hb dX7_move_168 (by decide) (fun hc => ?_) (fun hc => ?_)
  · replace hF := rp_it hc hF
    refine lv_iload (pc := 199) hx hb dX7_move_199 (lv_at hl 3 rfl) ?_
    exact rp_reti (pc := 201) hC hw hF dX7_move_201
  · replace hF := rp_if hc hF
    refine lv_aload_n (pc := 171) hx hb dX7_move_171 rfl (lv_at hl 0 rfl) ?_
    refine rp_get (pc := 172) hC hw 0 (by decide) (mt_obj _) fl_X7_53 (.ref (a 13)) rfl dX7_move_172 ?_
    refine lv_bipush (pc := 175) (v := 40) hx hb dX7_move_175 (by decide) ?_
    refine lv_iload_n (pc := 177) hx hb dX7_move_177 rfl (lv_at hl 1 rfl) ?_
    refine lv_imul (pc := 178) hx hb dX7_move_178 ?_
    refine lv_iload (pc := 179) hx hb dX7_move_179 (lv_at hl 2 rfl) ?_
    refine lv_iadd (pc := 181) hx hb dX7_move_181 ?_
    refine lv_iload (pc := 182) hx hb dX7_move_182 (lv_at hl 4 rfl) ?_
    refine lv_iadd (pc := 184) hx hb dX7_move_184 ?_
    refine lv_aload_n (pc := 185) hx hb dX7_move_185 rfl (lv_at hl 0 rfl) ?_
    refine rp_get (pc := 186) hC hw 0 (by decide) (mt_obj _) fl_X7_56 (.ref (a 14)) rfl dX7_move_186 ?_
    refine lv_iload (pc := 189) hx hb dX7_move_189 (lv_at hl 4 rfl) ?_
    obtain ⟨hg, hF⟩ := rp_gu_e hF
    refine rp_ald (pc := 191) hC hw 14 (by decide) (mt_arr 14 40 rfl) 0 rfl hg dX7_move_191 ?_
    obtain ⟨hg, hF⟩ := rp_gu_e hF
    refine rp_ast (pc := 192) hC hw 13 (by decide) (mt_arr 13 160 rfl) 0 rfl hg dX7_move_192 (fun H locs hw => ?_)
    obtain ⟨σ1, eσ1, hF⟩ := rp_nm_e hF
    replace hw := rp_Wn eσ1 hw
    clear eσ1
    obtain ⟨x2, ex2, hF⟩ := rp_nm_e hF
    refine lv_iinc (pc := 193) (v := x2) (lv' := [(6, .int x2), (0, .ref (a 0)), (3, .int v3), (4, .int v4), (5, .int v5)]) hx hb dX7_move_193 hl (k := 4) rfl (by rw [ex2]; rfl) (by decide) rfl (fun ls hl => ?_)
    refine lv_goto (pc := 196) (tgt := 164) hx hb dX7_move_196 (by decide) ?_
    exact hk164 v3 v4 v5 x2 σ1 _ _ _ hF hw (lv_sub hl [1, 2, 3, 4, 0] rfl)
theorem lX7_move_164 {p : Program} {l : Launch} {e : Env} {s : State} {m : MethodId} {args : Array Value} {below : List Frame} {meth : Method} {c : Code} {D : va_G} {cI cT : ClassId} {ad av a : Nat → Nat} {res : Int32 × rp_St} (hC : mC p s m args meth c cX7_move 7 "RegretPegsModel" (some .int) D cI cT ad av a) : ∀ (n : Nat) (v3 : Int32) (v4 : Int32) (v5 : Int32) (v6 : Int32) (σ : rp_St) (H : Heap) (locs : List Loc) (ls : Array Slot), rp_lp (fun _ _ _ _ _ => none) (fX7_move_164) n v3 v4 v5 v6 σ = some res → mW D cI cT ad av a s σ H locs → lv_has ls 7 [(0, .ref (a 0)), (3, .int v3), (4, .int v4), (5, .int v5), (6, .int v6)] → W p l e (rp_rm 3) s m args below meth c H locs 0 0 (MQ below (rp_Qi D a (mt cI cT ad a) 15 res) args s 0 0 (rp_A a 15)) (F0 m 164 ls [])
  | 0, _, _, _, _, _, _, _, _, hF, _, _ => nomatch hF
  | n + 1, v3, v4, v5, v6, σ, H, locs, ls, hF, hw, hl => kX7_move_164 hC (rp_lp (fun _ _ _ _ _ => none) (fX7_move_164) n) (lX7_move_164 hC n) v3 v4 v5 v6 σ H locs ls hF hw hl
def fX7_move_127 (k127 : Int32 → Int32 → Int32 → Int32 → Int32 → Int32 → rp_St → Option (Int32 × rp_St)) (v1 : Int32) (v2 : Int32) (v3 : Int32) (v4 : Int32) (v5 : Int32) (v6 : Int32) (σ : rp_St) : Option (Int32 × rp_St) :=
  (if v5 ≤ v6 then rp_lp (fun _ _ _ _ _ => none) (fX7_move_164) 300 v3 v4 v5 0 σ else rp_gu (rp_in (((40 * v1) + v2) + v6) 160) (rp_gu (rp_in v6 40) (rp_nm (rp_put σ 14 (v6 : Int32).toNatClampNeg (σ 13 ((((40 * v1) + v2) + v6) : Int32).toNatClampNeg)) (fun σ1 => rp_nm (v6 + 1) (fun x2 => k127 v1 v2 v3 v4 v5 x2 σ1)))))
set_option maxRecDepth 100000 in
set_option maxHeartbeats 4000000 in
theorem kX7_move_127 {p : Program} {l : Launch} {e : Env} {s : State} {m : MethodId} {args : Array Value} {below : List Frame} {meth : Method} {c : Code} {D : va_G} {cI cT : ClassId} {ad av a : Nat → Nat} {res : Int32 × rp_St} (hC : mC p s m args meth c cX7_move 7 "RegretPegsModel" (some .int) D cI cT ad av a) (k127 : Int32 → Int32 → Int32 → Int32 → Int32 → Int32 → rp_St → Option (Int32 × rp_St)) (hk127 : ∀ (v1 : Int32) (v2 : Int32) (v3 : Int32) (v4 : Int32) (v5 : Int32) (v6 : Int32) (σ : rp_St) (H : Heap) (locs : List Loc) (ls : Array Slot), k127 v1 v2 v3 v4 v5 v6 σ = some res → mW D cI cT ad av a s σ H locs → lv_has ls 7 [(0, .ref (a 0)), (1, .int v1), (2, .int v2), (3, .int v3), (4, .int v4), (5, .int v5), (6, .int v6)] → W p l e (rp_rm 3) s m args below meth c H locs 0 0 (MQ below (rp_Qi D a (mt cI cT ad a) 15 res) args s 0 0 (rp_A a 15)) (F0 m 127 ls [])) (v1 : Int32) (v2 : Int32) (v3 : Int32) (v4 : Int32) (v5 : Int32) (v6 : Int32) (σ : rp_St) (H : Heap) (locs : List Loc) (ls : Array Slot) (hF : fX7_move_127 k127 v1 v2 v3 v4 v5 v6 σ = some res) (hw : mW D cI cT ad av a s σ H locs) (hl : lv_has ls 7 [(0, .ref (a 0)), (1, .int v1), (2, .int v2), (3, .int v3), (4, .int v4), (5, .int v5), (6, .int v6)]) : W p l e (rp_rm 3) s m args below meth c H locs 0 0 (MQ below (rp_Qi D a (mt cI cT ad a) 15 res) args s 0 0 (rp_A a 15)) (F0 m 127 ls []) := by
  have hx := hC.1
  have hb := hC.2.1
  have hown := hC.2.2.2.1
  have hts := hC.2.2.2.2.1
  unfold fX7_move_127 at hF
  refine lv_iload (pc := 127) hx hb dX7_move_127 (lv_at hl 6 rfl) ?_
  refine lv_iload (pc := 129) hx hb dX7_move_129 (lv_at hl 5 rfl) ?_
  refine lv_icmp_ge (pc := 131) (tgt := 161) hx hb dX7_move_131 (by decide) (fun hc => ?_) (fun hc => ?_)
  · replace hF := rp_it hc hF
    refine lv_iconst (pc := 161) (v := 0) hx hb dX7_move_161 (by decide) ?_
    refine lv_istore (pc := 162) (lv' := [(6, .int 0), (0, .ref (a 0)), (1, .int v1), (2, .int v2), (3, .int v3), (4, .int v4), (5, .int v5)]) hx hb dX7_move_162 hl (by decide) rfl (fun ls hl => ?_)
    exact lX7_move_164 hC 300 v3 v4 v5 0 σ _ _ _ hF hw (lv_sub hl [1, 4, 5, 6, 0] rfl)
  · replace hF := rp_if hc hF
    refine lv_aload_n (pc := 134) hx hb dX7_move_134 rfl (lv_at hl 0 rfl) ?_
    refine rp_get (pc := 135) hC hw 0 (by decide) (mt_obj _) fl_X7_56 (.ref (a 14)) rfl dX7_move_135 ?_
    refine lv_iload (pc := 138) hx hb dX7_move_138 (lv_at hl 6 rfl) ?_
    refine lv_aload_n (pc := 140) hx hb dX7_move_140 rfl (lv_at hl 0 rfl) ?_
    refine rp_get (pc := 141) hC hw 0 (by decide) (mt_obj _) fl_X7_53 (.ref (a 13)) rfl dX7_move_141 ?_
    refine lv_bipush (pc := 144) (v := 40) hx hb dX7_move_144 (by decide) ?_
    refine lv_iload_n (pc := 146) hx hb dX7_move_146 rfl (lv_at hl 1 rfl) ?_
    refine lv_imul (pc := 147) hx hb dX7_move_147 ?_
    refine lv_iload_n (pc := 148) hx hb dX7_move_148 rfl (lv_at hl 2 rfl) ?_
    refine lv_iadd (pc := 149) hx hb dX7_move_149 ?_
    refine lv_iload (pc := 150) hx hb dX7_move_150 (lv_at hl 6 rfl) ?_
    refine lv_iadd (pc := 152) hx hb dX7_move_152 ?_
    obtain ⟨hg, hF⟩ := rp_gu_e hF
    refine rp_ald (pc := 153) hC hw 13 (by decide) (mt_arr 13 160 rfl) 0 rfl hg dX7_move_153 ?_
    obtain ⟨hg, hF⟩ := rp_gu_e hF
    refine rp_ast (pc := 154) hC hw 14 (by decide) (mt_arr 14 40 rfl) 0 rfl hg dX7_move_154 (fun H locs hw => ?_)
    obtain ⟨σ1, eσ1, hF⟩ := rp_nm_e hF
    replace hw := rp_Wn eσ1 hw
    clear eσ1
    obtain ⟨x2, ex2, hF⟩ := rp_nm_e hF
    refine lv_iinc (pc := 155) (v := x2) (lv' := [(6, .int x2), (0, .ref (a 0)), (1, .int v1), (2, .int v2), (3, .int v3), (4, .int v4), (5, .int v5)]) hx hb dX7_move_155 hl (k := 6) rfl (by rw [ex2]; rfl) (by decide) rfl (fun ls hl => ?_)
    refine lv_goto (pc := 158) (tgt := 127) hx hb dX7_move_158 (by decide) ?_
    exact hk127 v1 v2 v3 v4 v5 x2 σ1 _ _ _ hF hw (lv_sub hl [1, 2, 3, 4, 5, 6, 0] rfl)
theorem lX7_move_127 {p : Program} {l : Launch} {e : Env} {s : State} {m : MethodId} {args : Array Value} {below : List Frame} {meth : Method} {c : Code} {D : va_G} {cI cT : ClassId} {ad av a : Nat → Nat} {res : Int32 × rp_St} (hC : mC p s m args meth c cX7_move 7 "RegretPegsModel" (some .int) D cI cT ad av a) : ∀ (n : Nat) (v1 : Int32) (v2 : Int32) (v3 : Int32) (v4 : Int32) (v5 : Int32) (v6 : Int32) (σ : rp_St) (H : Heap) (locs : List Loc) (ls : Array Slot), rp_lp (fun _ _ _ _ _ _ _ => none) (fX7_move_127) n v1 v2 v3 v4 v5 v6 σ = some res → mW D cI cT ad av a s σ H locs → lv_has ls 7 [(0, .ref (a 0)), (1, .int v1), (2, .int v2), (3, .int v3), (4, .int v4), (5, .int v5), (6, .int v6)] → W p l e (rp_rm 3) s m args below meth c H locs 0 0 (MQ below (rp_Qi D a (mt cI cT ad a) 15 res) args s 0 0 (rp_A a 15)) (F0 m 127 ls [])
  | 0, _, _, _, _, _, _, _, _, _, _, hF, _, _ => nomatch hF
  | n + 1, v1, v2, v3, v4, v5, v6, σ, H, locs, ls, hF, hw, hl => kX7_move_127 hC (rp_lp (fun _ _ _ _ _ _ _ => none) (fX7_move_127) n) (lX7_move_127 hC n) v1 v2 v3 v4 v5 v6 σ H locs ls hF hw hl
def fX7_move (v1 : Int32) (v2 : Int32) (v3 : Int32) (v4 : Int32) (v5 : Int32) (σ : rp_St) : Option (Int32 × rp_St) :=
  rp_bd (fX7_isSheet v1 σ) (fun r1 σ2 => (if r1 = 0 then fX7_move_14 σ2 else rp_bd (fX7_isSheet v3 σ2) (fun r3 σ4 => (if r3 = 0 then fX7_move_14 σ4 else rp_gu (rp_in v1 4) ((if (σ4 11 (v1 : Int32).toNatClampNeg) = 0 then fX7_move_39 σ4 else rp_gu (rp_in v3 4) ((if (σ4 11 (v3 : Int32).toNatClampNeg) = 0 then fX7_move_39 σ4 else rp_gu (rp_in v1 4) (rp_gu (rp_in v3 4) ((if (σ4 11 (v1 : Int32).toNatClampNeg) = (σ4 11 (v3 : Int32).toNatClampNeg) then (if v5 < 0 then fX7_move_117 σ4 else (if v2 < 0 then fX7_move_117 σ4 else (if v4 < 0 then fX7_move_117 σ4 else rp_gu (rp_in v1 4) ((if 0 < (lg_cmp (((v2 : Int32).toInt64) + ((v5 : Int32).toInt64)) (((σ4 12 (v1 : Int32).toNatClampNeg) : Int32).toInt64)) then fX7_move_117 σ4 else rp_gu (rp_in v3 4) ((if (lg_cmp (((v4 : Int32).toInt64) + ((v5 : Int32).toInt64)) (((σ4 12 (v3 : Int32).toNatClampNeg) : Int32).toInt64)) ≤ 0 then rp_lp (fun _ _ _ _ _ _ _ => none) (fX7_move_127) 300 v1 v2 v3 v4 v5 0 σ4 else fX7_move_117 σ4))))))) else rp_bd (fX7_finding (-1000000005) σ4) (fun r5 σ6 => some (r5, σ6)))))))))))))
set_option maxRecDepth 100000 in
set_option maxHeartbeats 4000000 in
theorem kX7_move_0 {p : Program} {l : Launch} {e : Env} {s : State} {m : MethodId} {args : Array Value} {below : List Frame} {meth : Method} {c : Code} {D : va_G} {cI cT : ClassId} {ad av a : Nat → Nat} {res : Int32 × rp_St} (hC : mC p s m args meth c cX7_move 7 "RegretPegsModel" (some .int) D cI cT ad av a) (v1 : Int32) (v2 : Int32) (v3 : Int32) (v4 : Int32) (v5 : Int32) (σ : rp_St) (H : Heap) (locs : List Loc) (ls : Array Slot) (hF : fX7_move v1 v2 v3 v4 v5 σ = some res) (hw : mW D cI cT ad av a s σ H locs) (hl : lv_has ls 7 [(0, .ref (a 0)), (1, .int v1), (2, .int v2), (3, .int v3), (4, .int v4), (5, .int v5)]) : W p l e (rp_rm 3) s m args below meth c H locs 0 0 (MQ below (rp_Qi D a (mt cI cT ad a) 15 res) args s 0 0 (rp_A a 15)) (F0 m 0 ls []) := by
  have hx := hC.1
  have hb := hC.2.1
  have hown := hC.2.2.2.1
  have hts := hC.2.2.2.2.1
  unfold fX7_move at hF
  refine lv_iload_n (pc := 0) hx hb dX7_move_0 rfl (lv_at hl 1 rfl) ?_
  obtain ⟨r1, σ2, hq, hF⟩ := rp_bd_e hF
  refine rp_ki (rp_runZ (rest := []) hC (mE_ok _) hw hl.1 (mX7_isSheet (l := l) v1 σ _ hq) zw_X7_250 rfl rfl (Nat.le_of_ble_eq_true rfl) (by decide) dX7_move_1) hw (fun H locs hw => ?_)
  clear hq
  refine lv_if_eq (pc := 4) (tgt := 14) hx hb dX7_move_4 (by decide) (fun hc => ?_) (fun hc => ?_)
  · replace hF := rp_it hc hF
    exact kX7_move_14 hC σ2 _ _ _ hF hw (lv_sub hl [0] rfl)
  · replace hF := rp_if hc hF
    refine lv_iload_n (pc := 7) hx hb dX7_move_7 rfl (lv_at hl 3 rfl) ?_
    obtain ⟨r3, σ4, hq, hF⟩ := rp_bd_e hF
    refine rp_ki (rp_runZ (rest := []) hC (mE_ok _) hw hl.1 (mX7_isSheet (l := l) v3 σ2 _ hq) zw_X7_250 rfl rfl (Nat.le_of_ble_eq_true rfl) (by decide) dX7_move_8) hw (fun H locs hw => ?_)
    clear hq
    refine lv_if_ne (pc := 11) (tgt := 21) hx hb dX7_move_11 (by decide) (fun hc => ?_) (fun hc => ?_)
    · replace hF := rp_if hc hF
      refine lv_aload_n (pc := 21) hx hb dX7_move_21 rfl (lv_at hl 0 rfl) ?_
      refine rp_get (pc := 22) hC hw 0 (by decide) (mt_obj _) fl_X7_47 (.ref (a 11)) rfl dX7_move_22 ?_
      refine lv_iload_n (pc := 25) hx hb dX7_move_25 rfl (lv_at hl 1 rfl) ?_
      obtain ⟨hg, hF⟩ := rp_gu_e hF
      refine rp_ald (pc := 26) hC hw 11 (by decide) (mt_arr 11 4 rfl) 0 rfl hg dX7_move_26 ?_
      refine lv_if_eq (pc := 27) (tgt := 39) hx hb dX7_move_27 (by decide) (fun hc => ?_) (fun hc => ?_)
      · replace hF := rp_it hc hF
        exact kX7_move_39 hC σ4 _ _ _ hF hw (lv_sub hl [0] rfl)
      · replace hF := rp_if hc hF
        refine lv_aload_n (pc := 30) hx hb dX7_move_30 rfl (lv_at hl 0 rfl) ?_
        refine rp_get (pc := 31) hC hw 0 (by decide) (mt_obj _) fl_X7_47 (.ref (a 11)) rfl dX7_move_31 ?_
        refine lv_iload_n (pc := 34) hx hb dX7_move_34 rfl (lv_at hl 3 rfl) ?_
        obtain ⟨hg, hF⟩ := rp_gu_e hF
        refine rp_ald (pc := 35) hC hw 11 (by decide) (mt_arr 11 4 rfl) 0 rfl hg dX7_move_35 ?_
        refine lv_if_ne (pc := 36) (tgt := 46) hx hb dX7_move_36 (by decide) (fun hc => ?_) (fun hc => ?_)
        · replace hF := rp_if hc hF
          refine lv_aload_n (pc := 46) hx hb dX7_move_46 rfl (lv_at hl 0 rfl) ?_
          refine rp_get (pc := 47) hC hw 0 (by decide) (mt_obj _) fl_X7_47 (.ref (a 11)) rfl dX7_move_47 ?_
          refine lv_iload_n (pc := 50) hx hb dX7_move_50 rfl (lv_at hl 1 rfl) ?_
          obtain ⟨hg, hF⟩ := rp_gu_e hF
          refine rp_ald (pc := 51) hC hw 11 (by decide) (mt_arr 11 4 rfl) 0 rfl hg dX7_move_51 ?_
          refine lv_aload_n (pc := 52) hx hb dX7_move_52 rfl (lv_at hl 0 rfl) ?_
          refine rp_get (pc := 53) hC hw 0 (by decide) (mt_obj _) fl_X7_47 (.ref (a 11)) rfl dX7_move_53 ?_
          refine lv_iload_n (pc := 56) hx hb dX7_move_56 rfl (lv_at hl 3 rfl) ?_
          obtain ⟨hg, hF⟩ := rp_gu_e hF
          refine rp_ald (pc := 57) hC hw 11 (by decide) (mt_arr 11 4 rfl) 0 rfl hg dX7_move_57 ?_
          refine lv_icmp_eq (pc := 58) (tgt := 68) hx hb dX7_move_58 (by decide) (fun hc => ?_) (fun hc => ?_)
          · replace hF := rp_it hc hF
            refine lv_iload (pc := 68) hx hb dX7_move_68 (lv_at hl 5 rfl) ?_
            refine lv_if_lt (pc := 70) (tgt := 117) hx hb dX7_move_70 (by decide) (fun hc => ?_) (fun hc => ?_)
            · replace hF := rp_it hc hF
              exact kX7_move_117 hC σ4 _ _ _ hF hw (lv_sub hl [0] rfl)
            · replace hF := rp_if hc hF
              refine lv_iload_n (pc := 73) hx hb dX7_move_73 rfl (lv_at hl 2 rfl) ?_
              refine lv_if_lt (pc := 74) (tgt := 117) hx hb dX7_move_74 (by decide) (fun hc => ?_) (fun hc => ?_)
              · replace hF := rp_it hc hF
                exact kX7_move_117 hC σ4 _ _ _ hF hw (lv_sub hl [0] rfl)
              · replace hF := rp_if hc hF
                refine lv_iload (pc := 77) hx hb dX7_move_77 (lv_at hl 4 rfl) ?_
                refine lv_if_lt (pc := 79) (tgt := 117) hx hb dX7_move_79 (by decide) (fun hc => ?_) (fun hc => ?_)
                · replace hF := rp_it hc hF
                  exact kX7_move_117 hC σ4 _ _ _ hF hw (lv_sub hl [0] rfl)
                · replace hF := rp_if hc hF
                  refine lv_iload_n (pc := 82) hx hb dX7_move_82 rfl (lv_at hl 2 rfl) ?_
                  refine lv_i2l (pc := 83) hx hb dX7_move_83 rfl ?_
                  refine lv_iload (pc := 84) hx hb dX7_move_84 (lv_at hl 5 rfl) ?_
                  refine lv_i2l (pc := 86) hx hb dX7_move_86 rfl ?_
                  refine lv_ladd (pc := 87) hx hb dX7_move_87 ?_
                  refine lv_aload_n (pc := 88) hx hb dX7_move_88 rfl (lv_at hl 0 rfl) ?_
                  refine rp_get (pc := 89) hC hw 0 (by decide) (mt_obj _) fl_X7_50 (.ref (a 12)) rfl dX7_move_89 ?_
                  refine lv_iload_n (pc := 92) hx hb dX7_move_92 rfl (lv_at hl 1 rfl) ?_
                  obtain ⟨hg, hF⟩ := rp_gu_e hF
                  refine rp_ald (pc := 93) hC hw 12 (by decide) (mt_arr 12 4 rfl) 0 rfl hg dX7_move_93 ?_
                  refine lv_i2l (pc := 94) hx hb dX7_move_94 rfl ?_
                  refine W.lcmp (pc := 95) hx hb dX7_move_95 ?_
                  refine lv_if_gt (pc := 96) (tgt := 117) hx hb dX7_move_96 (by decide) (fun hc => ?_) (fun hc => ?_)
                  · replace hF := rp_it hc hF
                    exact kX7_move_117 hC σ4 _ _ _ hF hw (lv_sub hl [0] rfl)
                  · replace hF := rp_if hc hF
                    refine lv_iload (pc := 99) hx hb dX7_move_99 (lv_at hl 4 rfl) ?_
                    refine lv_i2l (pc := 101) hx hb dX7_move_101 rfl ?_
                    refine lv_iload (pc := 102) hx hb dX7_move_102 (lv_at hl 5 rfl) ?_
                    refine lv_i2l (pc := 104) hx hb dX7_move_104 rfl ?_
                    refine lv_ladd (pc := 105) hx hb dX7_move_105 ?_
                    refine lv_aload_n (pc := 106) hx hb dX7_move_106 rfl (lv_at hl 0 rfl) ?_
                    refine rp_get (pc := 107) hC hw 0 (by decide) (mt_obj _) fl_X7_50 (.ref (a 12)) rfl dX7_move_107 ?_
                    refine lv_iload_n (pc := 110) hx hb dX7_move_110 rfl (lv_at hl 3 rfl) ?_
                    obtain ⟨hg, hF⟩ := rp_gu_e hF
                    refine rp_ald (pc := 111) hC hw 12 (by decide) (mt_arr 12 4 rfl) 0 rfl hg dX7_move_111 ?_
                    refine lv_i2l (pc := 112) hx hb dX7_move_112 rfl ?_
                    refine W.lcmp (pc := 113) hx hb dX7_move_113 ?_
                    refine lv_if_le (pc := 114) (tgt := 124) hx hb dX7_move_114 (by decide) (fun hc => ?_) (fun hc => ?_)
                    · replace hF := rp_it hc hF
                      refine lv_iconst (pc := 124) (v := 0) hx hb dX7_move_124 (by decide) ?_
                      refine lv_istore (pc := 125) (lv' := [(6, .int 0), (0, .ref (a 0)), (1, .int v1), (2, .int v2), (3, .int v3), (4, .int v4), (5, .int v5)]) hx hb dX7_move_125 hl (by decide) rfl (fun ls hl => ?_)
                      exact lX7_move_127 hC 300 v1 v2 v3 v4 v5 0 σ4 _ _ _ hF hw (lv_sub hl [1, 2, 3, 4, 5, 6, 0] rfl)
                    · replace hF := rp_if hc hF
                      exact kX7_move_117 hC σ4 _ _ _ hF hw (lv_sub hl [0] rfl)
          · replace hF := rp_if hc hF
            refine lv_aload_n (pc := 61) hx hb dX7_move_61 rfl (lv_at hl 0 rfl) ?_
            refine lv_ldc (pc := 62) (v := (-1000000005)) hx hb hown (hts _ wd_916) dX7_move_62 ?_
            obtain ⟨r5, σ6, hq, hF⟩ := rp_bd_e hF
            refine rp_ki (rp_runV (rest := []) hC (mE_ok _) hw hl.1 (mX7_finding (l := l) (-1000000005) σ4 _ hq) vw_X7_78 (by decide) (mt_obj _) rfl rfl rfl (Nat.le_of_ble_eq_true rfl) (by decide) dX7_move_64) hw (fun H locs hw => ?_)
            clear hq
            exact rp_reti (pc := 67) hC hw hF dX7_move_67
        · replace hF := rp_it hc hF
          exact kX7_move_39 hC σ4 _ _ _ hF hw (lv_sub hl [0] rfl)
    · replace hF := rp_it hc hF
      exact kX7_move_14 hC σ4 _ _ _ hF hw (lv_sub hl [0] rfl)
theorem mX7_move {l : Launch} {D : va_G} {cI cT : ClassId} {ad av a : Nat → Nat} (v1 : Int32) (v2 : Int32) (v3 : Int32) (v4 : Int32) (v5 : Int32) (σ : rp_St) (res : Int32 × rp_St) (hF : fX7_move v1 v2 v3 v4 v5 σ = some res) : mM l D cI cT ad av a yX7_move cX7_move 7 (some .int) 3 [.ref (a 0), .int v1, .int v2, .int v3, .int v4, .int v5] σ (rp_Qi D a (mt cI cT ad a) 15 res) :=
  rp_entry (by decide) (Nat.le_of_ble_eq_true rfl) (fun p e s m below meth c ls hC hw hl => kX7_move_0 hC v1 v2 v3 v4 v5 σ _ _ _ hF hw (lv_sub hl [0, 1, 2, 3, 4, 5] rfl))
def fX7_rues_32 (k32 : Int32 → Int32 → rp_St → Option (Int32 × rp_St)) (v1 : Int32) (v2 : Int32) (σ : rp_St) : Option (Int32 × rp_St) :=
  rp_gu (rp_in v1 4) ((if (σ 12 (v1 : Int32).toNatClampNeg) ≤ v2 then some (v2, σ) else rp_bd (fX7_isGuest v2 σ) (fun r1 σ2 => (if r1 = 0 then some (v2, σ2) else rp_gu (rp_in ((40 * v1) + v2) 160) (rp_bd (fX7_isRue (σ2 13 (((40 * v1) + v2) : Int32).toNatClampNeg) σ2) (fun r3 σ4 => (if r3 = 0 then some (v2, σ4) else rp_bd (fX7_guestAt v2 2 σ4) (fun r5 σ6 => rp_gu (rp_in ((40 * v1) + v2) 160) (rp_gu (rp_in r5 221) (rp_nm (rp_put σ6 1 (r5 : Int32).toNatClampNeg (σ6 13 (((40 * v1) + v2) : Int32).toNatClampNeg)) (fun σ7 => rp_nm (v2 + 1) (fun x8 => k32 v1 x8 σ7))))))))))))
set_option maxRecDepth 100000 in
set_option maxHeartbeats 4000000 in
theorem kX7_rues_32 {p : Program} {l : Launch} {e : Env} {s : State} {m : MethodId} {args : Array Value} {below : List Frame} {meth : Method} {c : Code} {D : va_G} {cI cT : ClassId} {ad av a : Nat → Nat} {res : Int32 × rp_St} (hC : mC p s m args meth c cX7_rues 3 "RegretPegsModel" (some .int) D cI cT ad av a) (k32 : Int32 → Int32 → rp_St → Option (Int32 × rp_St)) (hk32 : ∀ (v1 : Int32) (v2 : Int32) (σ : rp_St) (H : Heap) (locs : List Loc) (ls : Array Slot), k32 v1 v2 σ = some res → mW D cI cT ad av a s σ H locs → lv_has ls 3 [(0, .ref (a 0)), (1, .int v1), (2, .int v2)] → W p l e (rp_rm 3) s m args below meth c H locs 0 0 (MQ below (rp_Qi D a (mt cI cT ad a) 15 res) args s 0 0 (rp_A a 15)) (F0 m 32 ls [])) (v1 : Int32) (v2 : Int32) (σ : rp_St) (H : Heap) (locs : List Loc) (ls : Array Slot) (hF : fX7_rues_32 k32 v1 v2 σ = some res) (hw : mW D cI cT ad av a s σ H locs) (hl : lv_has ls 3 [(0, .ref (a 0)), (1, .int v1), (2, .int v2)]) : W p l e (rp_rm 3) s m args below meth c H locs 0 0 (MQ below (rp_Qi D a (mt cI cT ad a) 15 res) args s 0 0 (rp_A a 15)) (F0 m 32 ls []) := by
  have hx := hC.1
  have hb := hC.2.1
  have hown := hC.2.2.2.1
  have hts := hC.2.2.2.2.1
  unfold fX7_rues_32 at hF
  refine lv_iload_n (pc := 32) hx hb dX7_rues_32 rfl (lv_at hl 2 rfl) ?_
  refine lv_aload_n (pc := 33) hx hb dX7_rues_33 rfl (lv_at hl 0 rfl) ?_
  refine rp_get (pc := 34) hC hw 0 (by decide) (mt_obj _) fl_X7_50 (.ref (a 12)) rfl dX7_rues_34 ?_
  refine lv_iload_n (pc := 37) hx hb dX7_rues_37 rfl (lv_at hl 1 rfl) ?_
  obtain ⟨hg, hF⟩ := rp_gu_e hF
  refine rp_ald (pc := 38) hC hw 12 (by decide) (mt_arr 12 4 rfl) 0 rfl hg dX7_rues_38 ?_
  refine lv_icmp_ge (pc := 39) (tgt := 94) hx hb dX7_rues_39 (by decide) (fun hc => ?_) (fun hc => ?_)
  · replace hF := rp_it hc hF
    refine lv_iload_n (pc := 94) hx hb dX7_rues_94 rfl (lv_at hl 2 rfl) ?_
    exact rp_reti (pc := 95) hC hw hF dX7_rues_95
  · replace hF := rp_if hc hF
    refine lv_aload_n (pc := 42) hx hb dX7_rues_42 rfl (lv_at hl 0 rfl) ?_
    refine lv_iload_n (pc := 43) hx hb dX7_rues_43 rfl (lv_at hl 2 rfl) ?_
    obtain ⟨r1, σ2, hq, hF⟩ := rp_bd_e hF
    refine rp_ki (rp_runV (rest := []) hC (mE_ok _) hw hl.1 (mX7_isGuest (l := l) v2 σ _ hq) vw_X7_159 (by decide) (mt_obj _) rfl rfl rfl (Nat.le_of_ble_eq_true rfl) (by decide) dX7_rues_44) hw (fun H locs hw => ?_)
    clear hq
    refine lv_if_eq (pc := 47) (tgt := 94) hx hb dX7_rues_47 (by decide) (fun hc => ?_) (fun hc => ?_)
    · replace hF := rp_it hc hF
      refine lv_iload_n (pc := 94) hx hb dX7_rues_94 rfl (lv_at hl 2 rfl) ?_
      exact rp_reti (pc := 95) hC hw hF dX7_rues_95
    · replace hF := rp_if hc hF
      refine lv_aload_n (pc := 50) hx hb dX7_rues_50 rfl (lv_at hl 0 rfl) ?_
      refine rp_get (pc := 51) hC hw 0 (by decide) (mt_obj _) fl_X7_53 (.ref (a 13)) rfl dX7_rues_51 ?_
      refine lv_bipush (pc := 54) (v := 40) hx hb dX7_rues_54 (by decide) ?_
      refine lv_iload_n (pc := 56) hx hb dX7_rues_56 rfl (lv_at hl 1 rfl) ?_
      refine lv_imul (pc := 57) hx hb dX7_rues_57 ?_
      refine lv_iload_n (pc := 58) hx hb dX7_rues_58 rfl (lv_at hl 2 rfl) ?_
      refine lv_iadd (pc := 59) hx hb dX7_rues_59 ?_
      obtain ⟨hg, hF⟩ := rp_gu_e hF
      refine rp_ald (pc := 60) hC hw 13 (by decide) (mt_arr 13 160 rfl) 0 rfl hg dX7_rues_60 ?_
      obtain ⟨r3, σ4, hq, hF⟩ := rp_bd_e hF
      refine rp_ki (rp_runZ (rest := []) hC (mE_ok _) hw hl.1 (mX7_isRue (l := l) (σ2 13 (((40 * v1) + v2) : Int32).toNatClampNeg) σ2 _ hq) zw_X7_171 rfl rfl (Nat.le_of_ble_eq_true rfl) (by decide) dX7_rues_61) hw (fun H locs hw => ?_)
      clear hq
      refine lv_if_eq (pc := 64) (tgt := 94) hx hb dX7_rues_64 (by decide) (fun hc => ?_) (fun hc => ?_)
      · replace hF := rp_it hc hF
        refine lv_iload_n (pc := 94) hx hb dX7_rues_94 rfl (lv_at hl 2 rfl) ?_
        exact rp_reti (pc := 95) hC hw hF dX7_rues_95
      · replace hF := rp_if hc hF
        refine lv_aload_n (pc := 67) hx hb dX7_rues_67 rfl (lv_at hl 0 rfl) ?_
        refine rp_get (pc := 68) hC hw 0 (by decide) (mt_obj _) fl_X7_9 (.ref (a 1)) rfl dX7_rues_68 ?_
        refine lv_iload_n (pc := 71) hx hb dX7_rues_71 rfl (lv_at hl 2 rfl) ?_
        refine lv_iconst (pc := 72) (v := 2) hx hb dX7_rues_72 (by decide) ?_
        obtain ⟨r5, σ6, hq, hF⟩ := rp_bd_e hF
        refine rp_ki (rp_runZ (rest := [.ref (a 1)]) hC (mE_ok _) hw hl.1 (mX7_guestAt (l := l) v2 2 σ4 _ hq) zw_X7_162 rfl rfl (Nat.le_of_ble_eq_true rfl) (by decide) dX7_rues_73) hw (fun H locs hw => ?_)
        clear hq
        refine lv_aload_n (pc := 76) hx hb dX7_rues_76 rfl (lv_at hl 0 rfl) ?_
        refine rp_get (pc := 77) hC hw 0 (by decide) (mt_obj _) fl_X7_53 (.ref (a 13)) rfl dX7_rues_77 ?_
        refine lv_bipush (pc := 80) (v := 40) hx hb dX7_rues_80 (by decide) ?_
        refine lv_iload_n (pc := 82) hx hb dX7_rues_82 rfl (lv_at hl 1 rfl) ?_
        refine lv_imul (pc := 83) hx hb dX7_rues_83 ?_
        refine lv_iload_n (pc := 84) hx hb dX7_rues_84 rfl (lv_at hl 2 rfl) ?_
        refine lv_iadd (pc := 85) hx hb dX7_rues_85 ?_
        obtain ⟨hg, hF⟩ := rp_gu_e hF
        refine rp_ald (pc := 86) hC hw 13 (by decide) (mt_arr 13 160 rfl) 0 rfl hg dX7_rues_86 ?_
        obtain ⟨hg, hF⟩ := rp_gu_e hF
        refine rp_ast (pc := 87) hC hw 1 (by decide) (mt_arr 1 221 rfl) 0 rfl hg dX7_rues_87 (fun H locs hw => ?_)
        obtain ⟨σ7, eσ7, hF⟩ := rp_nm_e hF
        replace hw := rp_Wn eσ7 hw
        clear eσ7
        obtain ⟨x8, ex8, hF⟩ := rp_nm_e hF
        refine lv_iinc (pc := 88) (v := x8) (lv' := [(2, .int x8), (0, .ref (a 0)), (1, .int v1)]) hx hb dX7_rues_88 hl (k := 2) rfl (by rw [ex8]; rfl) (by decide) rfl (fun ls hl => ?_)
        refine lv_goto (pc := 91) (tgt := 32) hx hb dX7_rues_91 (by decide) ?_
        exact hk32 v1 x8 σ7 _ _ _ hF hw (lv_sub hl [1, 2, 0] rfl)
theorem lX7_rues_32 {p : Program} {l : Launch} {e : Env} {s : State} {m : MethodId} {args : Array Value} {below : List Frame} {meth : Method} {c : Code} {D : va_G} {cI cT : ClassId} {ad av a : Nat → Nat} {res : Int32 × rp_St} (hC : mC p s m args meth c cX7_rues 3 "RegretPegsModel" (some .int) D cI cT ad av a) : ∀ (n : Nat) (v1 : Int32) (v2 : Int32) (σ : rp_St) (H : Heap) (locs : List Loc) (ls : Array Slot), rp_lp (fun _ _ _ => none) (fX7_rues_32) n v1 v2 σ = some res → mW D cI cT ad av a s σ H locs → lv_has ls 3 [(0, .ref (a 0)), (1, .int v1), (2, .int v2)] → W p l e (rp_rm 3) s m args below meth c H locs 0 0 (MQ below (rp_Qi D a (mt cI cT ad a) 15 res) args s 0 0 (rp_A a 15)) (F0 m 32 ls [])
  | 0, _, _, _, _, _, _, hF, _, _ => nomatch hF
  | n + 1, v1, v2, σ, H, locs, ls, hF, hw, hl => kX7_rues_32 hC (rp_lp (fun _ _ _ => none) (fX7_rues_32) n) (lX7_rues_32 hC n) v1 v2 σ H locs ls hF hw hl
def fX7_rues (v1 : Int32) (σ : rp_St) : Option (Int32 × rp_St) :=
  rp_bd (fX7_isSheet v1 σ) (fun r1 σ2 => (if r1 = 0 then rp_bd (fX7_finding (-1000000001) σ2) (fun r5 σ6 => some (r5, σ6)) else rp_gu (rp_in v1 4) ((if (σ2 11 (v1 : Int32).toNatClampNeg) = 0 then rp_bd (fX7_finding (-1000000002) σ2) (fun r3 σ4 => some (r3, σ4)) else rp_lp (fun _ _ _ => none) (fX7_rues_32) 300 v1 0 σ2))))
set_option maxRecDepth 100000 in
set_option maxHeartbeats 4000000 in
theorem kX7_rues_0 {p : Program} {l : Launch} {e : Env} {s : State} {m : MethodId} {args : Array Value} {below : List Frame} {meth : Method} {c : Code} {D : va_G} {cI cT : ClassId} {ad av a : Nat → Nat} {res : Int32 × rp_St} (hC : mC p s m args meth c cX7_rues 3 "RegretPegsModel" (some .int) D cI cT ad av a) (v1 : Int32) (σ : rp_St) (H : Heap) (locs : List Loc) (ls : Array Slot) (hF : fX7_rues v1 σ = some res) (hw : mW D cI cT ad av a s σ H locs) (hl : lv_has ls 3 [(0, .ref (a 0)), (1, .int v1)]) : W p l e (rp_rm 3) s m args below meth c H locs 0 0 (MQ below (rp_Qi D a (mt cI cT ad a) 15 res) args s 0 0 (rp_A a 15)) (F0 m 0 ls []) := by
  have hx := hC.1
  have hb := hC.2.1
  have hown := hC.2.2.2.1
  have hts := hC.2.2.2.2.1
  unfold fX7_rues at hF
  refine lv_iload_n (pc := 0) hx hb dX7_rues_0 rfl (lv_at hl 1 rfl) ?_
  obtain ⟨r1, σ2, hq, hF⟩ := rp_bd_e hF
  refine rp_ki (rp_runZ (rest := []) hC (mE_ok _) hw hl.1 (mX7_isSheet (l := l) v1 σ _ hq) zw_X7_250 rfl rfl (Nat.le_of_ble_eq_true rfl) (by decide) dX7_rues_1) hw (fun H locs hw => ?_)
  clear hq
  refine lv_if_ne (pc := 4) (tgt := 14) hx hb dX7_rues_4 (by decide) (fun hc => ?_) (fun hc => ?_)
  · replace hF := rp_if hc hF
    refine lv_aload_n (pc := 14) hx hb dX7_rues_14 rfl (lv_at hl 0 rfl) ?_
    refine rp_get (pc := 15) hC hw 0 (by decide) (mt_obj _) fl_X7_47 (.ref (a 11)) rfl dX7_rues_15 ?_
    refine lv_iload_n (pc := 18) hx hb dX7_rues_18 rfl (lv_at hl 1 rfl) ?_
    obtain ⟨hg, hF⟩ := rp_gu_e hF
    refine rp_ald (pc := 19) hC hw 11 (by decide) (mt_arr 11 4 rfl) 0 rfl hg dX7_rues_19 ?_
    refine lv_if_ne (pc := 20) (tgt := 30) hx hb dX7_rues_20 (by decide) (fun hc => ?_) (fun hc => ?_)
    · replace hF := rp_if hc hF
      refine lv_iconst (pc := 30) (v := 0) hx hb dX7_rues_30 (by decide) ?_
      refine lv_istore_n (pc := 31) (lv' := [(2, .int 0), (0, .ref (a 0)), (1, .int v1)]) hx hb dX7_rues_31 rfl hl (by decide) rfl (fun ls hl => ?_)
      exact lX7_rues_32 hC 300 v1 0 σ2 _ _ _ hF hw (lv_sub hl [1, 2, 0] rfl)
    · replace hF := rp_it hc hF
      refine lv_aload_n (pc := 23) hx hb dX7_rues_23 rfl (lv_at hl 0 rfl) ?_
      refine lv_ldc (pc := 24) (v := (-1000000002)) hx hb hown (hts _ wd_989) dX7_rues_24 ?_
      obtain ⟨r3, σ4, hq, hF⟩ := rp_bd_e hF
      refine rp_ki (rp_runV (rest := []) hC (mE_ok _) hw hl.1 (mX7_finding (l := l) (-1000000002) σ2 _ hq) vw_X7_78 (by decide) (mt_obj _) rfl rfl rfl (Nat.le_of_ble_eq_true rfl) (by decide) dX7_rues_26) hw (fun H locs hw => ?_)
      clear hq
      exact rp_reti (pc := 29) hC hw hF dX7_rues_29
  · replace hF := rp_it hc hF
    refine lv_aload_n (pc := 7) hx hb dX7_rues_7 rfl (lv_at hl 0 rfl) ?_
    refine lv_ldc (pc := 8) (v := (-1000000001)) hx hb hown (hts _ wd_721) dX7_rues_8 ?_
    obtain ⟨r5, σ6, hq, hF⟩ := rp_bd_e hF
    refine rp_ki (rp_runV (rest := []) hC (mE_ok _) hw hl.1 (mX7_finding (l := l) (-1000000001) σ2 _ hq) vw_X7_78 (by decide) (mt_obj _) rfl rfl rfl (Nat.le_of_ble_eq_true rfl) (by decide) dX7_rues_10) hw (fun H locs hw => ?_)
    clear hq
    exact rp_reti (pc := 13) hC hw hF dX7_rues_13
theorem mX7_rues {l : Launch} {D : va_G} {cI cT : ClassId} {ad av a : Nat → Nat} (v1 : Int32) (σ : rp_St) (res : Int32 × rp_St) (hF : fX7_rues v1 σ = some res) : mM l D cI cT ad av a yX7_rues cX7_rues 3 (some .int) 3 [.ref (a 0), .int v1] σ (rp_Qi D a (mt cI cT ad a) 15 res) :=
  rp_entry (by decide) (Nat.le_of_ble_eq_true rfl) (fun p e s m below meth c ls hC hw hl => kX7_rues_0 hC v1 σ _ _ _ hF hw (lv_sub hl [0, 1] rfl))
