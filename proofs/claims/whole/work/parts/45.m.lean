def fX7_hangsBy_68 (t0 : Int32) (σ : rp_St) : Option (Int32 × rp_St) :=
  rp_bd (fX7_copy 3 1 σ) (fun _ σ2 => rp_gu (t0 == 0 || t0 == 1) (some (t0, σ2)))
set_option maxRecDepth 100000 in
set_option maxHeartbeats 4000000 in
theorem kX7_hangsBy_68 {p : Program} {l : Launch} {e : Env} {s : State} {m : MethodId} {args : Array Value} {below : List Frame} {meth : Method} {c : Code} {D : va_G} {cI cT : ClassId} {ad av a : Nat → Nat} {res : Int32 × rp_St} (hC : mC p s m args meth c cX7_hangsBy 7 "RegretPegsModel" (some .boolean) D cI cT ad av a) (t0 : Int32) (σ : rp_St) (H : Heap) (locs : List Loc) (ls : Array Slot) (hF : fX7_hangsBy_68 t0 σ = some res) (hw : mW D cI cT ad av a s σ H locs) (hl : lv_has ls 7 [(0, .ref (a 0))]) : W p l e (rp_rm 7) s m args below meth c H locs 0 0 (MQ below (rp_Qi D a (mt cI cT ad a) 15 res) args s 0 0 (rp_A a 15)) (F0 m 68 ls [.int t0]) := by
  have hx := hC.1
  have hb := hC.2.1
  have hown := hC.2.2.2.1
  have hts := hC.2.2.2.2.1
  unfold fX7_hangsBy_68 at hF
  refine lv_istore (pc := 68) (lv' := [(6, .int t0), (0, .ref (a 0))]) hx hb dX7_hangsBy_68 hl (by decide) rfl (fun ls hl => ?_)
  refine lv_aload_n (pc := 70) hx hb dX7_hangsBy_70 rfl (lv_at hl 1 rfl) ?_
  refine rp_get (pc := 71) hC hw 0 (by decide) (mt_obj _) fl_X7_16 (.ref (a 3)) rfl dX7_hangsBy_71 ?_
  refine lv_aload_n (pc := 74) hx hb dX7_hangsBy_74 rfl (lv_at hl 1 rfl) ?_
  refine rp_get (pc := 75) hC hw 0 (by decide) (mt_obj _) fl_X7_9 (.ref (a 1)) rfl dX7_hangsBy_75 ?_
  obtain ⟨r1, σ2, hq, hF⟩ := rp_bd_e hF
  refine rp_kv (rp_runZ (rest := []) hC (mE_ok _) hw hl.1 (mX7_copy (l := l) 3 (by decide) (mt_arr 3 221 rfl) 1 (by decide) (mt_arr 1 221 rfl) σ _ hq) zw_X7_69 rfl rfl (Nat.le_of_ble_eq_true rfl) (by decide) dX7_hangsBy_78) hw (fun H locs hw => ?_)
  clear hq
  refine lv_iload (pc := 81) hx hb dX7_hangsBy_81 (lv_at hl 0 rfl) ?_
  obtain ⟨hg, hF⟩ := rp_gu_e hF
  exact rp_retz (pc := 83) hC hw hg hF dX7_hangsBy_83
def fX7_hangsBy_49 (v1 : Int32) (v2 : Int32) (v3 : Int32) (σ : rp_St) : Option (Int32 × rp_St) :=
  rp_bd (fX7_hoursGo v3 σ) (fun _ σ2 => rp_bd (fX7_pegOf v1 σ2) (fun r3 σ4 => (if v2 < r3 then fX7_hangsBy_68 0 σ4 else fX7_hangsBy_68 1 σ4)))
set_option maxRecDepth 100000 in
set_option maxHeartbeats 4000000 in
theorem kX7_hangsBy_49 {p : Program} {l : Launch} {e : Env} {s : State} {m : MethodId} {args : Array Value} {below : List Frame} {meth : Method} {c : Code} {D : va_G} {cI cT : ClassId} {ad av a : Nat → Nat} {res : Int32 × rp_St} (hC : mC p s m args meth c cX7_hangsBy 7 "RegretPegsModel" (some .boolean) D cI cT ad av a) (v1 : Int32) (v2 : Int32) (v3 : Int32) (σ : rp_St) (H : Heap) (locs : List Loc) (ls : Array Slot) (hF : fX7_hangsBy_49 v1 v2 v3 σ = some res) (hw : mW D cI cT ad av a s σ H locs) (hl : lv_has ls 7 [(0, .ref (a 0)), (1, .int v1), (2, .int v2), (3, .int v3)]) : W p l e (rp_rm 7) s m args below meth c H locs 0 0 (MQ below (rp_Qi D a (mt cI cT ad a) 15 res) args s 0 0 (rp_A a 15)) (F0 m 49 ls []) := by
  have hx := hC.1
  have hb := hC.2.1
  have hown := hC.2.2.2.1
  have hts := hC.2.2.2.2.1
  unfold fX7_hangsBy_49 at hF
  refine lv_aload_n (pc := 49) hx hb dX7_hangsBy_49 rfl (lv_at hl 0 rfl) ?_
  refine lv_iload_n (pc := 50) hx hb dX7_hangsBy_50 rfl (lv_at hl 3 rfl) ?_
  obtain ⟨r1, σ2, hq, hF⟩ := rp_bd_e hF
  refine rp_kv (rp_runV (rest := []) hC (mE_ok _) hw hl.1 (mX7_hoursGo (l := l) v3 σ _ hq) vw_X7_217 (by decide) (mt_obj _) rfl rfl rfl (Nat.le_of_ble_eq_true rfl) (by decide) dX7_hangsBy_51) hw (fun H locs hw => ?_)
  clear hq
  refine lv_aload_n (pc := 54) hx hb dX7_hangsBy_54 rfl (lv_at hl 0 rfl) ?_
  refine lv_iload_n (pc := 55) hx hb dX7_hangsBy_55 rfl (lv_at hl 1 rfl) ?_
  obtain ⟨r3, σ4, hq, hF⟩ := rp_bd_e hF
  refine rp_ki (rp_runV (rest := []) hC (mE_ok _) hw hl.1 (mX7_pegOf (l := l) v1 σ2 _ hq) vw_X7_180 (by decide) (mt_obj _) rfl rfl rfl (Nat.le_of_ble_eq_true rfl) (by decide) dX7_hangsBy_56) hw (fun H locs hw => ?_)
  clear hq
  refine lv_iload_n (pc := 59) hx hb dX7_hangsBy_59 rfl (lv_at hl 2 rfl) ?_
  refine lv_icmp_gt (pc := 60) (tgt := 67) hx hb dX7_hangsBy_60 (by decide) (fun hc => ?_) (fun hc => ?_)
  · replace hF := rp_it hc hF
    refine lv_iconst (pc := 67) (v := 0) hx hb dX7_hangsBy_67 (by decide) ?_
    exact kX7_hangsBy_68 hC 0 σ4 _ _ _ hF hw (lv_sub hl [0] rfl)
  · replace hF := rp_if hc hF
    refine lv_iconst (pc := 63) (v := 1) hx hb dX7_hangsBy_63 (by decide) ?_
    refine lv_goto (pc := 64) (tgt := 68) hx hb dX7_hangsBy_64 (by decide) ?_
    exact kX7_hangsBy_68 hC 1 σ4 _ _ _ hF hw (lv_sub hl [0] rfl)
def fX7_hangsBy_30 (v1 : Int32) (v2 : Int32) (v3 : Int32) (v5 : Int32) (σ : rp_St) : Option (Int32 × rp_St) :=
  (if v5 < 0 then fX7_hangsBy_49 v1 v2 v3 σ else rp_bd (fX7_dancing (v5 / 7) (v5 - v5 / 7 * 7) σ) (fun _ σ2 => fX7_hangsBy_49 v1 v2 v3 σ2))
set_option maxRecDepth 100000 in
set_option maxHeartbeats 4000000 in
theorem kX7_hangsBy_30 {p : Program} {l : Launch} {e : Env} {s : State} {m : MethodId} {args : Array Value} {below : List Frame} {meth : Method} {c : Code} {D : va_G} {cI cT : ClassId} {ad av a : Nat → Nat} {res : Int32 × rp_St} (hC : mC p s m args meth c cX7_hangsBy 7 "RegretPegsModel" (some .boolean) D cI cT ad av a) (v1 : Int32) (v2 : Int32) (v3 : Int32) (v5 : Int32) (σ : rp_St) (H : Heap) (locs : List Loc) (ls : Array Slot) (hF : fX7_hangsBy_30 v1 v2 v3 v5 σ = some res) (hw : mW D cI cT ad av a s σ H locs) (hl : lv_has ls 7 [(0, .ref (a 0)), (1, .int v1), (2, .int v2), (3, .int v3), (5, .int v5)]) : W p l e (rp_rm 7) s m args below meth c H locs 0 0 (MQ below (rp_Qi D a (mt cI cT ad a) 15 res) args s 0 0 (rp_A a 15)) (F0 m 30 ls []) := by
  have hx := hC.1
  have hb := hC.2.1
  have hown := hC.2.2.2.1
  have hts := hC.2.2.2.2.1
  unfold fX7_hangsBy_30 at hF
  refine lv_iload (pc := 30) hx hb dX7_hangsBy_30 (lv_at hl 4 rfl) ?_
  refine lv_if_lt (pc := 32) (tgt := 49) hx hb dX7_hangsBy_32 (by decide) (fun hc => ?_) (fun hc => ?_)
  · replace hF := rp_it hc hF
    exact kX7_hangsBy_49 hC v1 v2 v3 σ _ _ _ hF hw (lv_sub hl [0, 1, 2, 3] rfl)
  · replace hF := rp_if hc hF
    refine lv_aload_n (pc := 35) hx hb dX7_hangsBy_35 rfl (lv_at hl 0 rfl) ?_
    refine lv_iload (pc := 36) hx hb dX7_hangsBy_36 (lv_at hl 4 rfl) ?_
    refine lv_bipush (pc := 38) (v := 7) hx hb dX7_hangsBy_38 (by decide) ?_
    refine lv_idiv (pc := 40) hx hb dX7_hangsBy_40 (by decide) ?_
    refine lv_iload (pc := 41) hx hb dX7_hangsBy_41 (lv_at hl 4 rfl) ?_
    refine lv_bipush (pc := 43) (v := 7) hx hb dX7_hangsBy_43 (by decide) ?_
    refine lv_irem (pc := 45) hx hb dX7_hangsBy_45 (by decide) ?_
    obtain ⟨r1, σ2, hq, hF⟩ := rp_bd_e hF
    refine rp_kv (rp_runV (rest := []) hC (mE_ok _) hw hl.1 (mX7_dancing (l := l) (v5 / 7) (v5 - v5 / 7 * 7) σ _ hq) vw_X7_208 (by decide) (mt_obj _) rfl rfl rfl (Nat.le_of_ble_eq_true rfl) (by decide) dX7_hangsBy_46) hw (fun H locs hw => ?_)
    clear hq
    exact kX7_hangsBy_49 hC v1 v2 v3 σ2 _ _ _ hF hw (lv_sub hl [0, 1, 2, 3] rfl)
def fX7_hangsBy (v1 : Int32) (v2 : Int32) (v3 : Int32) (v4 : Int32) (v5 : Int32) (σ : rp_St) : Option (Int32 × rp_St) :=
  rp_bd (fX7_copy 1 3 σ) (fun _ σ2 => (if v4 < 0 then fX7_hangsBy_30 v1 v2 v3 v5 σ2 else rp_bd (fX7_dancing (v4 / 7) (v4 - v4 / 7 * 7) σ2) (fun _ σ4 => fX7_hangsBy_30 v1 v2 v3 v5 σ4)))
set_option maxRecDepth 100000 in
set_option maxHeartbeats 4000000 in
theorem kX7_hangsBy_0 {p : Program} {l : Launch} {e : Env} {s : State} {m : MethodId} {args : Array Value} {below : List Frame} {meth : Method} {c : Code} {D : va_G} {cI cT : ClassId} {ad av a : Nat → Nat} {res : Int32 × rp_St} (hC : mC p s m args meth c cX7_hangsBy 7 "RegretPegsModel" (some .boolean) D cI cT ad av a) (v1 : Int32) (v2 : Int32) (v3 : Int32) (v4 : Int32) (v5 : Int32) (σ : rp_St) (H : Heap) (locs : List Loc) (ls : Array Slot) (hF : fX7_hangsBy v1 v2 v3 v4 v5 σ = some res) (hw : mW D cI cT ad av a s σ H locs) (hl : lv_has ls 7 [(0, .ref (a 0)), (1, .int v1), (2, .int v2), (3, .int v3), (4, .int v4), (5, .int v5)]) : W p l e (rp_rm 7) s m args below meth c H locs 0 0 (MQ below (rp_Qi D a (mt cI cT ad a) 15 res) args s 0 0 (rp_A a 15)) (F0 m 0 ls []) := by
  have hx := hC.1
  have hb := hC.2.1
  have hown := hC.2.2.2.1
  have hts := hC.2.2.2.2.1
  unfold fX7_hangsBy at hF
  refine lv_aload_n (pc := 0) hx hb dX7_hangsBy_0 rfl (lv_at hl 0 rfl) ?_
  refine rp_get (pc := 1) hC hw 0 (by decide) (mt_obj _) fl_X7_9 (.ref (a 1)) rfl dX7_hangsBy_1 ?_
  refine lv_aload_n (pc := 4) hx hb dX7_hangsBy_4 rfl (lv_at hl 0 rfl) ?_
  refine rp_get (pc := 5) hC hw 0 (by decide) (mt_obj _) fl_X7_16 (.ref (a 3)) rfl dX7_hangsBy_5 ?_
  obtain ⟨r1, σ2, hq, hF⟩ := rp_bd_e hF
  refine rp_kv (rp_runZ (rest := []) hC (mE_ok _) hw hl.1 (mX7_copy (l := l) 1 (by decide) (mt_arr 1 221 rfl) 3 (by decide) (mt_arr 3 221 rfl) σ _ hq) zw_X7_69 rfl rfl (Nat.le_of_ble_eq_true rfl) (by decide) dX7_hangsBy_8) hw (fun H locs hw => ?_)
  clear hq
  refine lv_iload (pc := 11) hx hb dX7_hangsBy_11 (lv_at hl 4 rfl) ?_
  refine lv_if_lt (pc := 13) (tgt := 30) hx hb dX7_hangsBy_13 (by decide) (fun hc => ?_) (fun hc => ?_)
  · replace hF := rp_it hc hF
    exact kX7_hangsBy_30 hC v1 v2 v3 v5 σ2 _ _ _ hF hw (lv_sub hl [0, 1, 2, 3, 5] rfl)
  · replace hF := rp_if hc hF
    refine lv_aload_n (pc := 16) hx hb dX7_hangsBy_16 rfl (lv_at hl 0 rfl) ?_
    refine lv_iload (pc := 17) hx hb dX7_hangsBy_17 (lv_at hl 4 rfl) ?_
    refine lv_bipush (pc := 19) (v := 7) hx hb dX7_hangsBy_19 (by decide) ?_
    refine lv_idiv (pc := 21) hx hb dX7_hangsBy_21 (by decide) ?_
    refine lv_iload (pc := 22) hx hb dX7_hangsBy_22 (lv_at hl 4 rfl) ?_
    refine lv_bipush (pc := 24) (v := 7) hx hb dX7_hangsBy_24 (by decide) ?_
    refine lv_irem (pc := 26) hx hb dX7_hangsBy_26 (by decide) ?_
    obtain ⟨r3, σ4, hq, hF⟩ := rp_bd_e hF
    refine rp_kv (rp_runV (rest := []) hC (mE_ok _) hw hl.1 (mX7_dancing (l := l) (v4 / 7) (v4 - v4 / 7 * 7) σ2 _ hq) vw_X7_208 (by decide) (mt_obj _) rfl rfl rfl (Nat.le_of_ble_eq_true rfl) (by decide) dX7_hangsBy_27) hw (fun H locs hw => ?_)
    clear hq
    exact kX7_hangsBy_30 hC v1 v2 v3 v5 σ4 _ _ _ hF hw (lv_sub hl [0, 1, 2, 3, 5] rfl)
theorem mX7_hangsBy {l : Launch} {D : va_G} {cI cT : ClassId} {ad av a : Nat → Nat} (v1 : Int32) (v2 : Int32) (v3 : Int32) (v4 : Int32) (v5 : Int32) (σ : rp_St) (res : Int32 × rp_St) (hF : fX7_hangsBy v1 v2 v3 v4 v5 σ = some res) : mM l D cI cT ad av a yX7_hangsBy cX7_hangsBy 7 (some .boolean) 7 [.ref (a 0), .int v1, .int v2, .int v3, .int v4, .int v5] σ (rp_Qi D a (mt cI cT ad a) 15 res) :=
  rp_entry (by decide) (Nat.le_of_ble_eq_true rfl) (fun p e s m below meth c ls hC hw hl => kX7_hangsBy_0 hC v1 v2 v3 v4 v5 σ _ _ _ hF hw (lv_sub hl [0, 1, 2, 3, 4, 5] rfl))
def fX7_isPair (v1 : Int32) (σ : rp_St) : Option (Int32 × rp_St) :=
  (if (v1 - v1 / 7 * 7) ≤ (v1 / 7) then some (0, σ) else rp_bd (fX7_isGuest (v1 - v1 / 7 * 7) σ) (fun r1 σ2 => (if r1 = 0 then some (0, σ2) else some (1, σ2))))
set_option maxRecDepth 100000 in
set_option maxHeartbeats 4000000 in
theorem kX7_isPair_0 {p : Program} {l : Launch} {e : Env} {s : State} {m : MethodId} {args : Array Value} {below : List Frame} {meth : Method} {c : Code} {D : va_G} {cI cT : ClassId} {ad av a : Nat → Nat} {res : Int32 × rp_St} (hC : mC p s m args meth c cX7_isPair 2 "RegretPegsModel" (some .boolean) D cI cT ad av a) (v1 : Int32) (σ : rp_St) (H : Heap) (locs : List Loc) (ls : Array Slot) (hF : fX7_isPair v1 σ = some res) (hw : mW D cI cT ad av a s σ H locs) (hl : lv_has ls 2 [(0, .ref (a 0)), (1, .int v1)]) : W p l e (rp_rm 3) s m args below meth c H locs 0 0 (MQ below (rp_Qi D a (mt cI cT ad a) 15 res) args s 0 0 (rp_A a 15)) (F0 m 0 ls []) := by
  have hx := hC.1
  have hb := hC.2.1
  have hown := hC.2.2.2.1
  have hts := hC.2.2.2.2.1
  unfold fX7_isPair at hF
  refine lv_iload_n (pc := 0) hx hb dX7_isPair_0 rfl (lv_at hl 1 rfl) ?_
  refine lv_bipush (pc := 1) (v := 7) hx hb dX7_isPair_1 (by decide) ?_
  refine lv_idiv (pc := 3) hx hb dX7_isPair_3 (by decide) ?_
  refine lv_iload_n (pc := 4) hx hb dX7_isPair_4 rfl (lv_at hl 1 rfl) ?_
  refine lv_bipush (pc := 5) (v := 7) hx hb dX7_isPair_5 (by decide) ?_
  refine lv_irem (pc := 7) hx hb dX7_isPair_7 (by decide) ?_
  refine lv_icmp_ge (pc := 8) (tgt := 26) hx hb dX7_isPair_8 (by decide) (fun hc => ?_) (fun hc => ?_)
  · replace hF := rp_it hc hF
    refine lv_iconst (pc := 26) (v := 0) hx hb dX7_isPair_26 (by decide) ?_
    exact rp_retz (pc := 27) hC hw rfl hF dX7_isPair_27
  · replace hF := rp_if hc hF
    refine lv_aload_n (pc := 11) hx hb dX7_isPair_11 rfl (lv_at hl 0 rfl) ?_
    refine lv_iload_n (pc := 12) hx hb dX7_isPair_12 rfl (lv_at hl 1 rfl) ?_
    refine lv_bipush (pc := 13) (v := 7) hx hb dX7_isPair_13 (by decide) ?_
    refine lv_irem (pc := 15) hx hb dX7_isPair_15 (by decide) ?_
    obtain ⟨r1, σ2, hq, hF⟩ := rp_bd_e hF
    refine rp_ki (rp_runV (rest := []) hC (mE_ok _) hw hl.1 (mX7_isGuest (l := l) (v1 - v1 / 7 * 7) σ _ hq) vw_X7_159 (by decide) (mt_obj _) rfl rfl rfl (Nat.le_of_ble_eq_true rfl) (by decide) dX7_isPair_16) hw (fun H locs hw => ?_)
    clear hq
    refine lv_if_eq (pc := 19) (tgt := 26) hx hb dX7_isPair_19 (by decide) (fun hc => ?_) (fun hc => ?_)
    · replace hF := rp_it hc hF
      refine lv_iconst (pc := 26) (v := 0) hx hb dX7_isPair_26 (by decide) ?_
      exact rp_retz (pc := 27) hC hw rfl hF dX7_isPair_27
    · replace hF := rp_if hc hF
      refine lv_iconst (pc := 22) (v := 1) hx hb dX7_isPair_22 (by decide) ?_
      refine lv_goto (pc := 23) (tgt := 27) hx hb dX7_isPair_23 (by decide) ?_
      exact rp_retz (pc := 27) hC hw rfl hF dX7_isPair_27
theorem mX7_isPair {l : Launch} {D : va_G} {cI cT : ClassId} {ad av a : Nat → Nat} (v1 : Int32) (σ : rp_St) (res : Int32 × rp_St) (hF : fX7_isPair v1 σ = some res) : mM l D cI cT ad av a yX7_isPair cX7_isPair 2 (some .boolean) 3 [.ref (a 0), .int v1] σ (rp_Qi D a (mt cI cT ad a) 15 res) :=
  rp_entry (by decide) (Nat.le_of_ble_eq_true rfl) (fun p e s m below meth c ls hC hw hl => kX7_isPair_0 hC v1 σ _ _ _ hF hw (lv_sub hl [0, 1] rfl))
def fX7_dances_36 (σ : rp_St) : Option (Int32 × rp_St) :=
  rp_bd (fX7_finding (-1000000001) σ) (fun r1 σ2 => some (r1, σ2))
set_option maxRecDepth 100000 in
set_option maxHeartbeats 4000000 in
theorem kX7_dances_36 {p : Program} {l : Launch} {e : Env} {s : State} {m : MethodId} {args : Array Value} {below : List Frame} {meth : Method} {c : Code} {D : va_G} {cI cT : ClassId} {ad av a : Nat → Nat} {res : Int32 × rp_St} (hC : mC p s m args meth c cX7_dances 9 "RegretPegsModel" (some .int) D cI cT ad av a) (σ : rp_St) (H : Heap) (locs : List Loc) (ls : Array Slot) (hF : fX7_dances_36 σ = some res) (hw : mW D cI cT ad av a s σ H locs) (hl : lv_has ls 9 [(0, .ref (a 0))]) : W p l e (rp_rm 8) s m args below meth c H locs 0 0 (MQ below (rp_Qi D a (mt cI cT ad a) 15 res) args s 0 0 (rp_A a 15)) (F0 m 36 ls []) := by
  have hx := hC.1
  have hb := hC.2.1
  have hown := hC.2.2.2.1
  have hts := hC.2.2.2.2.1
  unfold fX7_dances_36 at hF
  refine lv_aload_n (pc := 36) hx hb dX7_dances_36 rfl (lv_at hl 0 rfl) ?_
  refine lv_ldc (pc := 37) (v := (-1000000001)) hx hb hown (hts _ wd_721) dX7_dances_37 ?_
  obtain ⟨r1, σ2, hq, hF⟩ := rp_bd_e hF
  refine rp_ki (rp_runV (rest := []) hC (mE_ok _) hw hl.1 (mX7_finding (l := l) (-1000000001) σ _ hq) vw_X7_78 (by decide) (mt_obj _) rfl rfl rfl (Nat.le_of_ble_eq_true rfl) (by decide) dX7_dances_39) hw (fun H locs hw => ?_)
  clear hq
  exact rp_reti (pc := 42) hC hw hF dX7_dances_42
def fX7_dances_196 (v4 : Int32) (v5 : Int32) (v6 : Int32) (σ : rp_St) : Option (Int32 × rp_St) :=
  (if 0 ≤ v5 then (if v4 = 0 then some (v5, σ) else (if 0 ≤ v6 then some (((10 * (v6 / 7)) + (v6 - v6 / 7 * 7)), σ) else some ((-1), σ))) else rp_bd (fX7_finding (-1000000002) σ) (fun r1 σ2 => some (r1, σ2)))
set_option maxRecDepth 100000 in
set_option maxHeartbeats 4000000 in
theorem kX7_dances_196 {p : Program} {l : Launch} {e : Env} {s : State} {m : MethodId} {args : Array Value} {below : List Frame} {meth : Method} {c : Code} {D : va_G} {cI cT : ClassId} {ad av a : Nat → Nat} {res : Int32 × rp_St} (hC : mC p s m args meth c cX7_dances 9 "RegretPegsModel" (some .int) D cI cT ad av a) (v4 : Int32) (v5 : Int32) (v6 : Int32) (σ : rp_St) (H : Heap) (locs : List Loc) (ls : Array Slot) (hF : fX7_dances_196 v4 v5 v6 σ = some res) (hw : mW D cI cT ad av a s σ H locs) (hl : lv_has ls 9 [(0, .ref (a 0)), (4, .int v4), (5, .int v5), (6, .int v6)]) : W p l e (rp_rm 8) s m args below meth c H locs 0 0 (MQ below (rp_Qi D a (mt cI cT ad a) 15 res) args s 0 0 (rp_A a 15)) (F0 m 196 ls []) := by
  have hx := hC.1
  have hb := hC.2.1
  have hown := hC.2.2.2.1
  have hts := hC.2.2.2.2.1
  unfold fX7_dances_196 at hF
  refine lv_iload (pc := 196) hx hb dX7_dances_196 (lv_at hl 2 rfl) ?_
  refine lv_if_ge (pc := 198) (tgt := 208) hx hb dX7_dances_198 (by decide) (fun hc => ?_) (fun hc => ?_)
  · replace hF := rp_it hc hF
    refine lv_iload (pc := 208) hx hb dX7_dances_208 (lv_at hl 1 rfl) ?_
    refine lv_if_ne (pc := 210) (tgt := 218) hx hb dX7_dances_210 (by decide) (fun hc => ?_) (fun hc => ?_)
    · replace hF := rp_if hc hF
      refine lv_iload (pc := 218) hx hb dX7_dances_218 (lv_at hl 3 rfl) ?_
      refine lv_if_ge (pc := 220) (tgt := 227) hx hb dX7_dances_220 (by decide) (fun hc => ?_) (fun hc => ?_)
      · replace hF := rp_it hc hF
        refine lv_bipush (pc := 227) (v := 10) hx hb dX7_dances_227 (by decide) ?_
        refine lv_iload (pc := 229) hx hb dX7_dances_229 (lv_at hl 3 rfl) ?_
        refine lv_bipush (pc := 231) (v := 7) hx hb dX7_dances_231 (by decide) ?_
        refine lv_idiv (pc := 233) hx hb dX7_dances_233 (by decide) ?_
        refine lv_imul (pc := 234) hx hb dX7_dances_234 ?_
        refine lv_iload (pc := 235) hx hb dX7_dances_235 (lv_at hl 3 rfl) ?_
        refine lv_bipush (pc := 237) (v := 7) hx hb dX7_dances_237 (by decide) ?_
        refine lv_irem (pc := 239) hx hb dX7_dances_239 (by decide) ?_
        refine lv_iadd (pc := 240) hx hb dX7_dances_240 ?_
        exact rp_reti (pc := 241) hC hw hF dX7_dances_241
      · replace hF := rp_if hc hF
        refine lv_iconst (pc := 223) (v := (-1)) hx hb dX7_dances_223 (by decide) ?_
        refine lv_goto (pc := 224) (tgt := 241) hx hb dX7_dances_224 (by decide) ?_
        exact rp_reti (pc := 241) hC hw hF dX7_dances_241
    · replace hF := rp_it hc hF
      refine lv_iload (pc := 213) hx hb dX7_dances_213 (lv_at hl 2 rfl) ?_
      refine lv_goto (pc := 215) (tgt := 241) hx hb dX7_dances_215 (by decide) ?_
      exact rp_reti (pc := 241) hC hw hF dX7_dances_241
  · replace hF := rp_if hc hF
    refine lv_aload_n (pc := 201) hx hb dX7_dances_201 rfl (lv_at hl 0 rfl) ?_
    refine lv_ldc (pc := 202) (v := (-1000000002)) hx hb hown (hts _ wd_989) dX7_dances_202 ?_
    obtain ⟨r1, σ2, hq, hF⟩ := rp_bd_e hF
    refine rp_ki (rp_runV (rest := []) hC (mE_ok _) hw hl.1 (mX7_finding (l := l) (-1000000002) σ _ hq) vw_X7_78 (by decide) (mt_obj _) rfl rfl rfl (Nat.le_of_ble_eq_true rfl) (by decide) dX7_dances_204) hw (fun H locs hw => ?_)
    clear hq
    exact rp_reti (pc := 207) hC hw hF dX7_dances_207
def fX7_dances_190 (k118 : Int32 → Int32 → Int32 → Int32 → Int32 → Int32 → Int32 → rp_St → Option (Int32 × rp_St)) (v1 : Int32) (v2 : Int32) (v3 : Int32) (v4 : Int32) (v5 : Int32) (v6 : Int32) (v7 : Int32) (σ : rp_St) : Option (Int32 × rp_St) :=
  rp_nm (v7 + 1) (fun x1 => k118 v1 v2 v3 v4 v5 v6 x1 σ)
set_option maxRecDepth 100000 in
set_option maxHeartbeats 4000000 in
theorem kX7_dances_190 {p : Program} {l : Launch} {e : Env} {s : State} {m : MethodId} {args : Array Value} {below : List Frame} {meth : Method} {c : Code} {D : va_G} {cI cT : ClassId} {ad av a : Nat → Nat} {res : Int32 × rp_St} (hC : mC p s m args meth c cX7_dances 9 "RegretPegsModel" (some .int) D cI cT ad av a) (k118 : Int32 → Int32 → Int32 → Int32 → Int32 → Int32 → Int32 → rp_St → Option (Int32 × rp_St)) (hk118 : ∀ (v1 : Int32) (v2 : Int32) (v3 : Int32) (v4 : Int32) (v5 : Int32) (v6 : Int32) (v7 : Int32) (σ : rp_St) (H : Heap) (locs : List Loc) (ls : Array Slot), k118 v1 v2 v3 v4 v5 v6 v7 σ = some res → mW D cI cT ad av a s σ H locs → lv_has ls 9 [(0, .ref (a 0)), (1, .int v1), (2, .int v2), (3, .int v3), (4, .int v4), (5, .int v5), (6, .int v6), (7, .int v7)] → W p l e (rp_rm 8) s m args below meth c H locs 0 0 (MQ below (rp_Qi D a (mt cI cT ad a) 15 res) args s 0 0 (rp_A a 15)) (F0 m 118 ls [])) (v1 : Int32) (v2 : Int32) (v3 : Int32) (v4 : Int32) (v5 : Int32) (v6 : Int32) (v7 : Int32) (σ : rp_St) (H : Heap) (locs : List Loc) (ls : Array Slot) (hF : fX7_dances_190 k118 v1 v2 v3 v4 v5 v6 v7 σ = some res) (hw : mW D cI cT ad av a s σ H locs) (hl : lv_has ls 9 [(0, .ref (a 0)), (1, .int v1), (2, .int v2), (3, .int v3), (4, .int v4), (5, .int v5), (6, .int v6), (7, .int v7)]) : W p l e (rp_rm 8) s m args below meth c H locs 0 0 (MQ below (rp_Qi D a (mt cI cT ad a) 15 res) args s 0 0 (rp_A a 15)) (F0 m 190 ls []) := by
  have hx := hC.1
  have hb := hC.2.1
  have hown := hC.2.2.2.1
  have hts := hC.2.2.2.2.1
  unfold fX7_dances_190 at hF
  obtain ⟨x1, ex1, hF⟩ := rp_nm_e hF
  refine lv_iinc (pc := 190) (v := x1) (lv' := [(7, .int x1), (0, .ref (a 0)), (1, .int v1), (2, .int v2), (3, .int v3), (4, .int v4), (5, .int v5), (6, .int v6)]) hx hb dX7_dances_190 hl (k := 7) rfl (by rw [ex1]; rfl) (by decide) rfl (fun ls hl => ?_)
  refine lv_goto (pc := 193) (tgt := 118) hx hb dX7_dances_193 (by decide) ?_
  exact hk118 v1 v2 v3 v4 v5 v6 x1 σ _ _ _ hF hw (lv_sub hl [1, 2, 3, 4, 5, 6, 7, 0] rfl)
def fX7_dances_184 (k118 : Int32 → Int32 → Int32 → Int32 → Int32 → Int32 → Int32 → rp_St → Option (Int32 × rp_St)) (k133 : Int32 → Int32 → Int32 → Int32 → Int32 → Int32 → Int32 → Int32 → rp_St → Option (Int32 × rp_St)) (v1 : Int32) (v2 : Int32) (v3 : Int32) (v4 : Int32) (v5 : Int32) (v6 : Int32) (v7 : Int32) (v8 : Int32) (σ : rp_St) : Option (Int32 × rp_St) :=
  rp_nm (v8 + 1) (fun x1 => k133 v1 v2 v3 v4 v5 v6 v7 x1 σ)
set_option maxRecDepth 100000 in
set_option maxHeartbeats 4000000 in
theorem kX7_dances_184 {p : Program} {l : Launch} {e : Env} {s : State} {m : MethodId} {args : Array Value} {below : List Frame} {meth : Method} {c : Code} {D : va_G} {cI cT : ClassId} {ad av a : Nat → Nat} {res : Int32 × rp_St} (hC : mC p s m args meth c cX7_dances 9 "RegretPegsModel" (some .int) D cI cT ad av a) (k118 : Int32 → Int32 → Int32 → Int32 → Int32 → Int32 → Int32 → rp_St → Option (Int32 × rp_St)) (hk118 : ∀ (v1 : Int32) (v2 : Int32) (v3 : Int32) (v4 : Int32) (v5 : Int32) (v6 : Int32) (v7 : Int32) (σ : rp_St) (H : Heap) (locs : List Loc) (ls : Array Slot), k118 v1 v2 v3 v4 v5 v6 v7 σ = some res → mW D cI cT ad av a s σ H locs → lv_has ls 9 [(0, .ref (a 0)), (1, .int v1), (2, .int v2), (3, .int v3), (4, .int v4), (5, .int v5), (6, .int v6), (7, .int v7)] → W p l e (rp_rm 8) s m args below meth c H locs 0 0 (MQ below (rp_Qi D a (mt cI cT ad a) 15 res) args s 0 0 (rp_A a 15)) (F0 m 118 ls [])) (k133 : Int32 → Int32 → Int32 → Int32 → Int32 → Int32 → Int32 → Int32 → rp_St → Option (Int32 × rp_St)) (hk133 : ∀ (v1 : Int32) (v2 : Int32) (v3 : Int32) (v4 : Int32) (v5 : Int32) (v6 : Int32) (v7 : Int32) (v8 : Int32) (σ : rp_St) (H : Heap) (locs : List Loc) (ls : Array Slot), k133 v1 v2 v3 v4 v5 v6 v7 v8 σ = some res → mW D cI cT ad av a s σ H locs → lv_has ls 9 [(0, .ref (a 0)), (1, .int v1), (2, .int v2), (3, .int v3), (4, .int v4), (5, .int v5), (6, .int v6), (7, .int v7), (8, .int v8)] → W p l e (rp_rm 8) s m args below meth c H locs 0 0 (MQ below (rp_Qi D a (mt cI cT ad a) 15 res) args s 0 0 (rp_A a 15)) (F0 m 133 ls [])) (v1 : Int32) (v2 : Int32) (v3 : Int32) (v4 : Int32) (v5 : Int32) (v6 : Int32) (v7 : Int32) (v8 : Int32) (σ : rp_St) (H : Heap) (locs : List Loc) (ls : Array Slot) (hF : fX7_dances_184 k118 k133 v1 v2 v3 v4 v5 v6 v7 v8 σ = some res) (hw : mW D cI cT ad av a s σ H locs) (hl : lv_has ls 9 [(0, .ref (a 0)), (1, .int v1), (2, .int v2), (3, .int v3), (4, .int v4), (5, .int v5), (6, .int v6), (7, .int v7), (8, .int v8)]) : W p l e (rp_rm 8) s m args below meth c H locs 0 0 (MQ below (rp_Qi D a (mt cI cT ad a) 15 res) args s 0 0 (rp_A a 15)) (F0 m 184 ls []) := by
  have hx := hC.1
  have hb := hC.2.1
  have hown := hC.2.2.2.1
  have hts := hC.2.2.2.2.1
  unfold fX7_dances_184 at hF
  obtain ⟨x1, ex1, hF⟩ := rp_nm_e hF
  refine lv_iinc (pc := 184) (v := x1) (lv' := [(8, .int x1), (0, .ref (a 0)), (1, .int v1), (2, .int v2), (3, .int v3), (4, .int v4), (5, .int v5), (6, .int v6), (7, .int v7)]) hx hb dX7_dances_184 hl (k := 8) rfl (by rw [ex1]; rfl) (by decide) rfl (fun ls hl => ?_)
  refine lv_goto (pc := 187) (tgt := 133) hx hb dX7_dances_187 (by decide) ?_
  exact hk133 v1 v2 v3 v4 v5 v6 v7 x1 σ _ _ _ hF hw (lv_sub hl [1, 2, 3, 4, 5, 6, 7, 8, 0] rfl)
def fX7_dances_133 (k118 : Int32 → Int32 → Int32 → Int32 → Int32 → Int32 → Int32 → rp_St → Option (Int32 × rp_St)) (k133 : Int32 → Int32 → Int32 → Int32 → Int32 → Int32 → Int32 → Int32 → rp_St → Option (Int32 × rp_St)) (v1 : Int32) (v2 : Int32) (v3 : Int32) (v4 : Int32) (v5 : Int32) (v6 : Int32) (v7 : Int32) (v8 : Int32) (σ : rp_St) : Option (Int32 × rp_St) :=
  (if 49 ≤ v8 then fX7_dances_190 k118 v1 v2 v3 v4 v5 v6 v7 σ else rp_bd (fX7_isPair v7 σ) (fun r1 σ2 => (if r1 = 0 then fX7_dances_190 k118 v1 v2 v3 v4 v5 v6 v7 σ2 else (if 0 ≤ v5 then fX7_dances_190 k118 v1 v2 v3 v4 v5 v6 v7 σ2 else rp_bd (fX7_isPair v8 σ2) (fun r3 σ4 => (if r3 = 0 then fX7_dances_184 k118 k133 v1 v2 v3 v4 v5 v6 v7 v8 σ4 else rp_bd (fX7_hangsBy v1 v2 v3 v7 v8 σ4) (fun r5 σ6 => (if r5 = 0 then fX7_dances_184 k118 k133 v1 v2 v3 v4 v5 v6 v7 v8 σ6 else fX7_dances_184 k118 k133 v1 v2 v3 v4 2 v7 v7 v8 σ6))))))))
set_option maxRecDepth 100000 in
set_option maxHeartbeats 4000000 in
theorem kX7_dances_133 {p : Program} {l : Launch} {e : Env} {s : State} {m : MethodId} {args : Array Value} {below : List Frame} {meth : Method} {c : Code} {D : va_G} {cI cT : ClassId} {ad av a : Nat → Nat} {res : Int32 × rp_St} (hC : mC p s m args meth c cX7_dances 9 "RegretPegsModel" (some .int) D cI cT ad av a) (k118 : Int32 → Int32 → Int32 → Int32 → Int32 → Int32 → Int32 → rp_St → Option (Int32 × rp_St)) (hk118 : ∀ (v1 : Int32) (v2 : Int32) (v3 : Int32) (v4 : Int32) (v5 : Int32) (v6 : Int32) (v7 : Int32) (σ : rp_St) (H : Heap) (locs : List Loc) (ls : Array Slot), k118 v1 v2 v3 v4 v5 v6 v7 σ = some res → mW D cI cT ad av a s σ H locs → lv_has ls 9 [(0, .ref (a 0)), (1, .int v1), (2, .int v2), (3, .int v3), (4, .int v4), (5, .int v5), (6, .int v6), (7, .int v7)] → W p l e (rp_rm 8) s m args below meth c H locs 0 0 (MQ below (rp_Qi D a (mt cI cT ad a) 15 res) args s 0 0 (rp_A a 15)) (F0 m 118 ls [])) (k133 : Int32 → Int32 → Int32 → Int32 → Int32 → Int32 → Int32 → Int32 → rp_St → Option (Int32 × rp_St)) (hk133 : ∀ (v1 : Int32) (v2 : Int32) (v3 : Int32) (v4 : Int32) (v5 : Int32) (v6 : Int32) (v7 : Int32) (v8 : Int32) (σ : rp_St) (H : Heap) (locs : List Loc) (ls : Array Slot), k133 v1 v2 v3 v4 v5 v6 v7 v8 σ = some res → mW D cI cT ad av a s σ H locs → lv_has ls 9 [(0, .ref (a 0)), (1, .int v1), (2, .int v2), (3, .int v3), (4, .int v4), (5, .int v5), (6, .int v6), (7, .int v7), (8, .int v8)] → W p l e (rp_rm 8) s m args below meth c H locs 0 0 (MQ below (rp_Qi D a (mt cI cT ad a) 15 res) args s 0 0 (rp_A a 15)) (F0 m 133 ls [])) (v1 : Int32) (v2 : Int32) (v3 : Int32) (v4 : Int32) (v5 : Int32) (v6 : Int32) (v7 : Int32) (v8 : Int32) (σ : rp_St) (H : Heap) (locs : List Loc) (ls : Array Slot) (hF : fX7_dances_133 k118 k133 v1 v2 v3 v4 v5 v6 v7 v8 σ = some res) (hw : mW D cI cT ad av a s σ H locs) (hl : lv_has ls 9 [(0, .ref (a 0)), (1, .int v1), (2, .int v2), (3, .int v3), (4, .int v4), (5, .int v5), (6, .int v6), (7, .int v7), (8, .int v8)]) : W p l e (rp_rm 8) s m args below meth c H locs 0 0 (MQ below (rp_Qi D a (mt cI cT ad a) 15 res) args s 0 0 (rp_A a 15)) (F0 m 133 ls []) := by
  have hx := hC.1
  have hb := hC.2.1
  have hown := hC.2.2.2.1
  have hts := hC.2.2.2.2.1
  unfold fX7_dances_133 at hF
  refine lv_iload (pc := 133) hx hb dX7_dances_133 (lv_at hl 8 rfl) ?_
  refine lv_bipush (pc := 135) (v := 49) hx hb dX7_dances_135 (by decide) ?_
  refine lv_icmp_ge (pc := 137) (tgt := 190) hx hb dX7_dances_137 (by decide) (fun hc => ?_) (fun hc => ?_)
  · replace hF := rp_it hc hF
    exact kX7_dances_190 hC k118 hk118 v1 v2 v3 v4 v5 v6 v7 σ _ _ _ hF hw (lv_sub hl [0, 1, 2, 3, 4, 5, 6, 7] rfl)
  · replace hF := rp_if hc hF
    refine lv_aload_n (pc := 140) hx hb dX7_dances_140 rfl (lv_at hl 0 rfl) ?_
    refine lv_iload (pc := 141) hx hb dX7_dances_141 (lv_at hl 7 rfl) ?_
    obtain ⟨r1, σ2, hq, hF⟩ := rp_bd_e hF
    refine rp_ki (rp_runV (rest := []) hC (mE_ok _) hw hl.1 (mX7_isPair (l := l) v7 σ _ hq) vw_X7_247 (by decide) (mt_obj _) rfl rfl rfl (Nat.le_of_ble_eq_true rfl) (by decide) dX7_dances_143) hw (fun H locs hw => ?_)
    clear hq
    refine lv_if_eq (pc := 146) (tgt := 190) hx hb dX7_dances_146 (by decide) (fun hc => ?_) (fun hc => ?_)
    · replace hF := rp_it hc hF
      exact kX7_dances_190 hC k118 hk118 v1 v2 v3 v4 v5 v6 v7 σ2 _ _ _ hF hw (lv_sub hl [0, 1, 2, 3, 4, 5, 6, 7] rfl)
    · replace hF := rp_if hc hF
      refine lv_iload (pc := 149) hx hb dX7_dances_149 (lv_at hl 5 rfl) ?_
      refine lv_if_ge (pc := 151) (tgt := 190) hx hb dX7_dances_151 (by decide) (fun hc => ?_) (fun hc => ?_)
      · replace hF := rp_it hc hF
        exact kX7_dances_190 hC k118 hk118 v1 v2 v3 v4 v5 v6 v7 σ2 _ _ _ hF hw (lv_sub hl [0, 1, 2, 3, 4, 5, 6, 7] rfl)
      · replace hF := rp_if hc hF
        refine lv_aload_n (pc := 154) hx hb dX7_dances_154 rfl (lv_at hl 0 rfl) ?_
        refine lv_iload (pc := 155) hx hb dX7_dances_155 (lv_at hl 8 rfl) ?_
        obtain ⟨r3, σ4, hq, hF⟩ := rp_bd_e hF
        refine rp_ki (rp_runV (rest := []) hC (mE_ok _) hw hl.1 (mX7_isPair (l := l) v8 σ2 _ hq) vw_X7_247 (by decide) (mt_obj _) rfl rfl rfl (Nat.le_of_ble_eq_true rfl) (by decide) dX7_dances_157) hw (fun H locs hw => ?_)
        clear hq
        refine lv_if_eq (pc := 160) (tgt := 184) hx hb dX7_dances_160 (by decide) (fun hc => ?_) (fun hc => ?_)
        · replace hF := rp_it hc hF
          exact kX7_dances_184 hC k118 hk118 k133 hk133 v1 v2 v3 v4 v5 v6 v7 v8 σ4 _ _ _ hF hw (lv_sub hl [0, 1, 2, 3, 4, 5, 6, 7, 8] rfl)
        · replace hF := rp_if hc hF
          refine lv_aload_n (pc := 163) hx hb dX7_dances_163 rfl (lv_at hl 0 rfl) ?_
          refine lv_iload_n (pc := 164) hx hb dX7_dances_164 rfl (lv_at hl 1 rfl) ?_
          refine lv_iload_n (pc := 165) hx hb dX7_dances_165 rfl (lv_at hl 2 rfl) ?_
          refine lv_iload_n (pc := 166) hx hb dX7_dances_166 rfl (lv_at hl 3 rfl) ?_
          refine lv_iload (pc := 167) hx hb dX7_dances_167 (lv_at hl 7 rfl) ?_
          refine lv_iload (pc := 169) hx hb dX7_dances_169 (lv_at hl 8 rfl) ?_
          obtain ⟨r5, σ6, hq, hF⟩ := rp_bd_e hF
          refine rp_ki (rp_runV (rest := []) hC (mE_ok _) hw hl.1 (mX7_hangsBy (l := l) v1 v2 v3 v7 v8 σ4 _ hq) vw_X7_243 (by decide) (mt_obj _) rfl rfl rfl (Nat.le_of_ble_eq_true rfl) (by decide) dX7_dances_171) hw (fun H locs hw => ?_)
          clear hq
          refine lv_if_eq (pc := 174) (tgt := 184) hx hb dX7_dances_174 (by decide) (fun hc => ?_) (fun hc => ?_)
          · replace hF := rp_it hc hF
            exact kX7_dances_184 hC k118 hk118 k133 hk133 v1 v2 v3 v4 v5 v6 v7 v8 σ6 _ _ _ hF hw (lv_sub hl [0, 1, 2, 3, 4, 5, 6, 7, 8] rfl)
          · replace hF := rp_if hc hF
            refine lv_iconst (pc := 177) (v := 2) hx hb dX7_dances_177 (by decide) ?_
            refine lv_istore (pc := 178) (lv' := [(5, .int 2), (0, .ref (a 0)), (1, .int v1), (2, .int v2), (3, .int v3), (4, .int v4), (6, .int v6), (7, .int v7), (8, .int v8)]) hx hb dX7_dances_178 hl (by decide) rfl (fun ls hl => ?_)
            refine lv_iload (pc := 180) hx hb dX7_dances_180 (lv_at hl 7 rfl) ?_
            refine lv_istore (pc := 182) (lv' := [(6, .int v7), (5, .int 2), (0, .ref (a 0)), (1, .int v1), (2, .int v2), (3, .int v3), (4, .int v4), (7, .int v7), (8, .int v8)]) hx hb dX7_dances_182 hl (by decide) rfl (fun ls hl => ?_)
            exact kX7_dances_184 hC k118 hk118 k133 hk133 v1 v2 v3 v4 2 v7 v7 v8 σ6 _ _ _ hF hw (lv_sub hl [2, 3, 4, 5, 6, 1, 0, 7, 8] rfl)
theorem lX7_dances_133 {p : Program} {l : Launch} {e : Env} {s : State} {m : MethodId} {args : Array Value} {below : List Frame} {meth : Method} {c : Code} {D : va_G} {cI cT : ClassId} {ad av a : Nat → Nat} {res : Int32 × rp_St} (hC : mC p s m args meth c cX7_dances 9 "RegretPegsModel" (some .int) D cI cT ad av a) (k118 : Int32 → Int32 → Int32 → Int32 → Int32 → Int32 → Int32 → rp_St → Option (Int32 × rp_St)) (hk118 : ∀ (v1 : Int32) (v2 : Int32) (v3 : Int32) (v4 : Int32) (v5 : Int32) (v6 : Int32) (v7 : Int32) (σ : rp_St) (H : Heap) (locs : List Loc) (ls : Array Slot), k118 v1 v2 v3 v4 v5 v6 v7 σ = some res → mW D cI cT ad av a s σ H locs → lv_has ls 9 [(0, .ref (a 0)), (1, .int v1), (2, .int v2), (3, .int v3), (4, .int v4), (5, .int v5), (6, .int v6), (7, .int v7)] → W p l e (rp_rm 8) s m args below meth c H locs 0 0 (MQ below (rp_Qi D a (mt cI cT ad a) 15 res) args s 0 0 (rp_A a 15)) (F0 m 118 ls [])) : ∀ (n : Nat) (v1 : Int32) (v2 : Int32) (v3 : Int32) (v4 : Int32) (v5 : Int32) (v6 : Int32) (v7 : Int32) (v8 : Int32) (σ : rp_St) (H : Heap) (locs : List Loc) (ls : Array Slot), rp_lp (fun _ _ _ _ _ _ _ _ _ => none) (fX7_dances_133 k118) n v1 v2 v3 v4 v5 v6 v7 v8 σ = some res → mW D cI cT ad av a s σ H locs → lv_has ls 9 [(0, .ref (a 0)), (1, .int v1), (2, .int v2), (3, .int v3), (4, .int v4), (5, .int v5), (6, .int v6), (7, .int v7), (8, .int v8)] → W p l e (rp_rm 8) s m args below meth c H locs 0 0 (MQ below (rp_Qi D a (mt cI cT ad a) 15 res) args s 0 0 (rp_A a 15)) (F0 m 133 ls [])
  | 0, _, _, _, _, _, _, _, _, _, _, _, _, hF, _, _ => nomatch hF
  | n + 1, v1, v2, v3, v4, v5, v6, v7, v8, σ, H, locs, ls, hF, hw, hl => kX7_dances_133 hC k118 hk118 (rp_lp (fun _ _ _ _ _ _ _ _ _ => none) (fX7_dances_133 k118) n) (lX7_dances_133 hC k118 hk118 n) v1 v2 v3 v4 v5 v6 v7 v8 σ H locs ls hF hw hl
def fX7_dances_118 (k118 : Int32 → Int32 → Int32 → Int32 → Int32 → Int32 → Int32 → rp_St → Option (Int32 × rp_St)) (v1 : Int32) (v2 : Int32) (v3 : Int32) (v4 : Int32) (v5 : Int32) (v6 : Int32) (v7 : Int32) (σ : rp_St) : Option (Int32 × rp_St) :=
  (if 49 ≤ v7 then fX7_dances_196 v4 v5 v6 σ else (if 0 ≤ v5 then fX7_dances_196 v4 v5 v6 σ else rp_lp (fun _ _ _ _ _ _ _ _ _ => none) (fX7_dances_133 k118) 300 v1 v2 v3 v4 v5 v6 v7 0 σ))
set_option maxRecDepth 100000 in
set_option maxHeartbeats 4000000 in
theorem kX7_dances_118 {p : Program} {l : Launch} {e : Env} {s : State} {m : MethodId} {args : Array Value} {below : List Frame} {meth : Method} {c : Code} {D : va_G} {cI cT : ClassId} {ad av a : Nat → Nat} {res : Int32 × rp_St} (hC : mC p s m args meth c cX7_dances 9 "RegretPegsModel" (some .int) D cI cT ad av a) (k118 : Int32 → Int32 → Int32 → Int32 → Int32 → Int32 → Int32 → rp_St → Option (Int32 × rp_St)) (hk118 : ∀ (v1 : Int32) (v2 : Int32) (v3 : Int32) (v4 : Int32) (v5 : Int32) (v6 : Int32) (v7 : Int32) (σ : rp_St) (H : Heap) (locs : List Loc) (ls : Array Slot), k118 v1 v2 v3 v4 v5 v6 v7 σ = some res → mW D cI cT ad av a s σ H locs → lv_has ls 9 [(0, .ref (a 0)), (1, .int v1), (2, .int v2), (3, .int v3), (4, .int v4), (5, .int v5), (6, .int v6), (7, .int v7)] → W p l e (rp_rm 8) s m args below meth c H locs 0 0 (MQ below (rp_Qi D a (mt cI cT ad a) 15 res) args s 0 0 (rp_A a 15)) (F0 m 118 ls [])) (v1 : Int32) (v2 : Int32) (v3 : Int32) (v4 : Int32) (v5 : Int32) (v6 : Int32) (v7 : Int32) (σ : rp_St) (H : Heap) (locs : List Loc) (ls : Array Slot) (hF : fX7_dances_118 k118 v1 v2 v3 v4 v5 v6 v7 σ = some res) (hw : mW D cI cT ad av a s σ H locs) (hl : lv_has ls 9 [(0, .ref (a 0)), (1, .int v1), (2, .int v2), (3, .int v3), (4, .int v4), (5, .int v5), (6, .int v6), (7, .int v7)]) : W p l e (rp_rm 8) s m args below meth c H locs 0 0 (MQ below (rp_Qi D a (mt cI cT ad a) 15 res) args s 0 0 (rp_A a 15)) (F0 m 118 ls []) := by
  have hx := hC.1
  have hb := hC.2.1
  have hown := hC.2.2.2.1
  have hts := hC.2.2.2.2.1
  unfold fX7_dances_118 at hF
  refine lv_iload (pc := 118) hx hb dX7_dances_118 (lv_at hl 7 rfl) ?_
  refine lv_bipush (pc := 120) (v := 49) hx hb dX7_dances_120 (by decide) ?_
  refine lv_icmp_ge (pc := 122) (tgt := 196) hx hb dX7_dances_122 (by decide) (fun hc => ?_) (fun hc => ?_)
  · replace hF := rp_it hc hF
    exact kX7_dances_196 hC v4 v5 v6 σ _ _ _ hF hw (lv_sub hl [0, 4, 5, 6] rfl)
  · replace hF := rp_if hc hF
    refine lv_iload (pc := 125) hx hb dX7_dances_125 (lv_at hl 5 rfl) ?_
    refine lv_if_ge (pc := 127) (tgt := 196) hx hb dX7_dances_127 (by decide) (fun hc => ?_) (fun hc => ?_)
    · replace hF := rp_it hc hF
      exact kX7_dances_196 hC v4 v5 v6 σ _ _ _ hF hw (lv_sub hl [0, 4, 5, 6] rfl)
    · replace hF := rp_if hc hF
      refine lv_iconst (pc := 130) (v := 0) hx hb dX7_dances_130 (by decide) ?_
      refine lv_istore (pc := 131) (lv' := [(8, .int 0), (0, .ref (a 0)), (1, .int v1), (2, .int v2), (3, .int v3), (4, .int v4), (5, .int v5), (6, .int v6), (7, .int v7)]) hx hb dX7_dances_131 hl (by decide) rfl (fun ls hl => ?_)
      exact lX7_dances_133 hC k118 hk118 300 v1 v2 v3 v4 v5 v6 v7 0 σ _ _ _ hF hw (lv_sub hl [1, 2, 3, 4, 5, 6, 7, 8, 0] rfl)
theorem lX7_dances_118 {p : Program} {l : Launch} {e : Env} {s : State} {m : MethodId} {args : Array Value} {below : List Frame} {meth : Method} {c : Code} {D : va_G} {cI cT : ClassId} {ad av a : Nat → Nat} {res : Int32 × rp_St} (hC : mC p s m args meth c cX7_dances 9 "RegretPegsModel" (some .int) D cI cT ad av a) : ∀ (n : Nat) (v1 : Int32) (v2 : Int32) (v3 : Int32) (v4 : Int32) (v5 : Int32) (v6 : Int32) (v7 : Int32) (σ : rp_St) (H : Heap) (locs : List Loc) (ls : Array Slot), rp_lp (fun _ _ _ _ _ _ _ _ => none) (fX7_dances_118) n v1 v2 v3 v4 v5 v6 v7 σ = some res → mW D cI cT ad av a s σ H locs → lv_has ls 9 [(0, .ref (a 0)), (1, .int v1), (2, .int v2), (3, .int v3), (4, .int v4), (5, .int v5), (6, .int v6), (7, .int v7)] → W p l e (rp_rm 8) s m args below meth c H locs 0 0 (MQ below (rp_Qi D a (mt cI cT ad a) 15 res) args s 0 0 (rp_A a 15)) (F0 m 118 ls [])
  | 0, _, _, _, _, _, _, _, _, _, _, _, hF, _, _ => nomatch hF
  | n + 1, v1, v2, v3, v4, v5, v6, v7, σ, H, locs, ls, hF, hw, hl => kX7_dances_118 hC (rp_lp (fun _ _ _ _ _ _ _ _ => none) (fX7_dances_118) n) (lX7_dances_118 hC n) v1 v2 v3 v4 v5 v6 v7 σ H locs ls hF hw hl
def fX7_dances_115 (v1 : Int32) (v2 : Int32) (v3 : Int32) (v4 : Int32) (v5 : Int32) (v6 : Int32) (σ : rp_St) : Option (Int32 × rp_St) :=
  rp_lp (fun _ _ _ _ _ _ _ _ => none) (fX7_dances_118) 300 v1 v2 v3 v4 v5 v6 0 σ
set_option maxRecDepth 100000 in
set_option maxHeartbeats 4000000 in
theorem kX7_dances_115 {p : Program} {l : Launch} {e : Env} {s : State} {m : MethodId} {args : Array Value} {below : List Frame} {meth : Method} {c : Code} {D : va_G} {cI cT : ClassId} {ad av a : Nat → Nat} {res : Int32 × rp_St} (hC : mC p s m args meth c cX7_dances 9 "RegretPegsModel" (some .int) D cI cT ad av a) (v1 : Int32) (v2 : Int32) (v3 : Int32) (v4 : Int32) (v5 : Int32) (v6 : Int32) (σ : rp_St) (H : Heap) (locs : List Loc) (ls : Array Slot) (hF : fX7_dances_115 v1 v2 v3 v4 v5 v6 σ = some res) (hw : mW D cI cT ad av a s σ H locs) (hl : lv_has ls 9 [(0, .ref (a 0)), (1, .int v1), (2, .int v2), (3, .int v3), (4, .int v4), (5, .int v5), (6, .int v6)]) : W p l e (rp_rm 8) s m args below meth c H locs 0 0 (MQ below (rp_Qi D a (mt cI cT ad a) 15 res) args s 0 0 (rp_A a 15)) (F0 m 115 ls []) := by
  have hx := hC.1
  have hb := hC.2.1
  have hown := hC.2.2.2.1
  have hts := hC.2.2.2.2.1
  unfold fX7_dances_115 at hF
  refine lv_iconst (pc := 115) (v := 0) hx hb dX7_dances_115 (by decide) ?_
  refine lv_istore (pc := 116) (lv' := [(7, .int 0), (0, .ref (a 0)), (1, .int v1), (2, .int v2), (3, .int v3), (4, .int v4), (5, .int v5), (6, .int v6)]) hx hb dX7_dances_116 hl (by decide) rfl (fun ls hl => ?_)
  exact lX7_dances_118 hC 300 v1 v2 v3 v4 v5 v6 0 σ _ _ _ hF hw (lv_sub hl [1, 2, 3, 4, 5, 6, 7, 0] rfl)
def fX7_dances_109 (k68 : Int32 → Int32 → Int32 → Int32 → Int32 → Int32 → Int32 → rp_St → Option (Int32 × rp_St)) (v1 : Int32) (v2 : Int32) (v3 : Int32) (v4 : Int32) (v5 : Int32) (v6 : Int32) (v7 : Int32) (σ : rp_St) : Option (Int32 × rp_St) :=
  rp_nm (v7 + 1) (fun x1 => k68 v1 v2 v3 v4 v5 v6 x1 σ)
set_option maxRecDepth 100000 in
set_option maxHeartbeats 4000000 in
theorem kX7_dances_109 {p : Program} {l : Launch} {e : Env} {s : State} {m : MethodId} {args : Array Value} {below : List Frame} {meth : Method} {c : Code} {D : va_G} {cI cT : ClassId} {ad av a : Nat → Nat} {res : Int32 × rp_St} (hC : mC p s m args meth c cX7_dances 9 "RegretPegsModel" (some .int) D cI cT ad av a) (k68 : Int32 → Int32 → Int32 → Int32 → Int32 → Int32 → Int32 → rp_St → Option (Int32 × rp_St)) (hk68 : ∀ (v1 : Int32) (v2 : Int32) (v3 : Int32) (v4 : Int32) (v5 : Int32) (v6 : Int32) (v7 : Int32) (σ : rp_St) (H : Heap) (locs : List Loc) (ls : Array Slot), k68 v1 v2 v3 v4 v5 v6 v7 σ = some res → mW D cI cT ad av a s σ H locs → lv_has ls 9 [(0, .ref (a 0)), (1, .int v1), (2, .int v2), (3, .int v3), (4, .int v4), (5, .int v5), (6, .int v6), (7, .int v7)] → W p l e (rp_rm 8) s m args below meth c H locs 0 0 (MQ below (rp_Qi D a (mt cI cT ad a) 15 res) args s 0 0 (rp_A a 15)) (F0 m 68 ls [])) (v1 : Int32) (v2 : Int32) (v3 : Int32) (v4 : Int32) (v5 : Int32) (v6 : Int32) (v7 : Int32) (σ : rp_St) (H : Heap) (locs : List Loc) (ls : Array Slot) (hF : fX7_dances_109 k68 v1 v2 v3 v4 v5 v6 v7 σ = some res) (hw : mW D cI cT ad av a s σ H locs) (hl : lv_has ls 9 [(0, .ref (a 0)), (1, .int v1), (2, .int v2), (3, .int v3), (4, .int v4), (5, .int v5), (6, .int v6), (7, .int v7)]) : W p l e (rp_rm 8) s m args below meth c H locs 0 0 (MQ below (rp_Qi D a (mt cI cT ad a) 15 res) args s 0 0 (rp_A a 15)) (F0 m 109 ls []) := by
  have hx := hC.1
  have hb := hC.2.1
  have hown := hC.2.2.2.1
  have hts := hC.2.2.2.2.1
  unfold fX7_dances_109 at hF
  obtain ⟨x1, ex1, hF⟩ := rp_nm_e hF
  refine lv_iinc (pc := 109) (v := x1) (lv' := [(7, .int x1), (0, .ref (a 0)), (1, .int v1), (2, .int v2), (3, .int v3), (4, .int v4), (5, .int v5), (6, .int v6)]) hx hb dX7_dances_109 hl (k := 7) rfl (by rw [ex1]; rfl) (by decide) rfl (fun ls hl => ?_)
  refine lv_goto (pc := 112) (tgt := 68) hx hb dX7_dances_112 (by decide) ?_
  exact hk68 v1 v2 v3 v4 v5 v6 x1 σ _ _ _ hF hw (lv_sub hl [1, 2, 3, 4, 5, 6, 7, 0] rfl)
def fX7_dances_68 (k68 : Int32 → Int32 → Int32 → Int32 → Int32 → Int32 → Int32 → rp_St → Option (Int32 × rp_St)) (v1 : Int32) (v2 : Int32) (v3 : Int32) (v4 : Int32) (v5 : Int32) (v6 : Int32) (v7 : Int32) (σ : rp_St) : Option (Int32 × rp_St) :=
  (if 49 ≤ v7 then fX7_dances_115 v1 v2 v3 v4 v5 v6 σ else (if 0 ≤ v5 then fX7_dances_115 v1 v2 v3 v4 v5 v6 σ else rp_bd (fX7_isPair v7 σ) (fun r1 σ2 => (if r1 = 0 then fX7_dances_109 k68 v1 v2 v3 v4 v5 v6 v7 σ2 else rp_bd (fX7_hangsBy v1 v2 v3 v7 (-1) σ2) (fun r3 σ4 => (if r3 = 0 then fX7_dances_109 k68 v1 v2 v3 v4 v5 v6 v7 σ4 else fX7_dances_109 k68 v1 v2 v3 v4 1 v7 v7 σ4))))))
set_option maxRecDepth 100000 in
set_option maxHeartbeats 4000000 in
theorem kX7_dances_68 {p : Program} {l : Launch} {e : Env} {s : State} {m : MethodId} {args : Array Value} {below : List Frame} {meth : Method} {c : Code} {D : va_G} {cI cT : ClassId} {ad av a : Nat → Nat} {res : Int32 × rp_St} (hC : mC p s m args meth c cX7_dances 9 "RegretPegsModel" (some .int) D cI cT ad av a) (k68 : Int32 → Int32 → Int32 → Int32 → Int32 → Int32 → Int32 → rp_St → Option (Int32 × rp_St)) (hk68 : ∀ (v1 : Int32) (v2 : Int32) (v3 : Int32) (v4 : Int32) (v5 : Int32) (v6 : Int32) (v7 : Int32) (σ : rp_St) (H : Heap) (locs : List Loc) (ls : Array Slot), k68 v1 v2 v3 v4 v5 v6 v7 σ = some res → mW D cI cT ad av a s σ H locs → lv_has ls 9 [(0, .ref (a 0)), (1, .int v1), (2, .int v2), (3, .int v3), (4, .int v4), (5, .int v5), (6, .int v6), (7, .int v7)] → W p l e (rp_rm 8) s m args below meth c H locs 0 0 (MQ below (rp_Qi D a (mt cI cT ad a) 15 res) args s 0 0 (rp_A a 15)) (F0 m 68 ls [])) (v1 : Int32) (v2 : Int32) (v3 : Int32) (v4 : Int32) (v5 : Int32) (v6 : Int32) (v7 : Int32) (σ : rp_St) (H : Heap) (locs : List Loc) (ls : Array Slot) (hF : fX7_dances_68 k68 v1 v2 v3 v4 v5 v6 v7 σ = some res) (hw : mW D cI cT ad av a s σ H locs) (hl : lv_has ls 9 [(0, .ref (a 0)), (1, .int v1), (2, .int v2), (3, .int v3), (4, .int v4), (5, .int v5), (6, .int v6), (7, .int v7)]) : W p l e (rp_rm 8) s m args below meth c H locs 0 0 (MQ below (rp_Qi D a (mt cI cT ad a) 15 res) args s 0 0 (rp_A a 15)) (F0 m 68 ls []) := by
  have hx := hC.1
  have hb := hC.2.1
  have hown := hC.2.2.2.1
  have hts := hC.2.2.2.2.1
  unfold fX7_dances_68 at hF
  refine lv_iload (pc := 68) hx hb dX7_dances_68 (lv_at hl 7 rfl) ?_
  refine lv_bipush (pc := 70) (v := 49) hx hb dX7_dances_70 (by decide) ?_
  refine lv_icmp_ge (pc := 72) (tgt := 115) hx hb dX7_dances_72 (by decide) (fun hc => ?_) (fun hc => ?_)
  · replace hF := rp_it hc hF
    exact kX7_dances_115 hC v1 v2 v3 v4 v5 v6 σ _ _ _ hF hw (lv_sub hl [0, 1, 2, 3, 4, 5, 6] rfl)
  · replace hF := rp_if hc hF
    refine lv_iload (pc := 75) hx hb dX7_dances_75 (lv_at hl 5 rfl) ?_
    refine lv_if_ge (pc := 77) (tgt := 115) hx hb dX7_dances_77 (by decide) (fun hc => ?_) (fun hc => ?_)
    · replace hF := rp_it hc hF
      exact kX7_dances_115 hC v1 v2 v3 v4 v5 v6 σ _ _ _ hF hw (lv_sub hl [0, 1, 2, 3, 4, 5, 6] rfl)
    · replace hF := rp_if hc hF
      refine lv_aload_n (pc := 80) hx hb dX7_dances_80 rfl (lv_at hl 0 rfl) ?_
      refine lv_iload (pc := 81) hx hb dX7_dances_81 (lv_at hl 7 rfl) ?_
      obtain ⟨r1, σ2, hq, hF⟩ := rp_bd_e hF
      refine rp_ki (rp_runV (rest := []) hC (mE_ok _) hw hl.1 (mX7_isPair (l := l) v7 σ _ hq) vw_X7_247 (by decide) (mt_obj _) rfl rfl rfl (Nat.le_of_ble_eq_true rfl) (by decide) dX7_dances_83) hw (fun H locs hw => ?_)
      clear hq
      refine lv_if_eq (pc := 86) (tgt := 109) hx hb dX7_dances_86 (by decide) (fun hc => ?_) (fun hc => ?_)
      · replace hF := rp_it hc hF
        exact kX7_dances_109 hC k68 hk68 v1 v2 v3 v4 v5 v6 v7 σ2 _ _ _ hF hw (lv_sub hl [0, 1, 2, 3, 4, 5, 6, 7] rfl)
      · replace hF := rp_if hc hF
        refine lv_aload_n (pc := 89) hx hb dX7_dances_89 rfl (lv_at hl 0 rfl) ?_
        refine lv_iload_n (pc := 90) hx hb dX7_dances_90 rfl (lv_at hl 1 rfl) ?_
        refine lv_iload_n (pc := 91) hx hb dX7_dances_91 rfl (lv_at hl 2 rfl) ?_
        refine lv_iload_n (pc := 92) hx hb dX7_dances_92 rfl (lv_at hl 3 rfl) ?_
        refine lv_iload (pc := 93) hx hb dX7_dances_93 (lv_at hl 7 rfl) ?_
        refine lv_iconst (pc := 95) (v := (-1)) hx hb dX7_dances_95 (by decide) ?_
        obtain ⟨r3, σ4, hq, hF⟩ := rp_bd_e hF
        refine rp_ki (rp_runV (rest := []) hC (mE_ok _) hw hl.1 (mX7_hangsBy (l := l) v1 v2 v3 v7 (-1) σ2 _ hq) vw_X7_243 (by decide) (mt_obj _) rfl rfl rfl (Nat.le_of_ble_eq_true rfl) (by decide) dX7_dances_96) hw (fun H locs hw => ?_)
        clear hq
        refine lv_if_eq (pc := 99) (tgt := 109) hx hb dX7_dances_99 (by decide) (fun hc => ?_) (fun hc => ?_)
        · replace hF := rp_it hc hF
          exact kX7_dances_109 hC k68 hk68 v1 v2 v3 v4 v5 v6 v7 σ4 _ _ _ hF hw (lv_sub hl [0, 1, 2, 3, 4, 5, 6, 7] rfl)
        · replace hF := rp_if hc hF
          refine lv_iconst (pc := 102) (v := 1) hx hb dX7_dances_102 (by decide) ?_
          refine lv_istore (pc := 103) (lv' := [(5, .int 1), (0, .ref (a 0)), (1, .int v1), (2, .int v2), (3, .int v3), (4, .int v4), (6, .int v6), (7, .int v7)]) hx hb dX7_dances_103 hl (by decide) rfl (fun ls hl => ?_)
          refine lv_iload (pc := 105) hx hb dX7_dances_105 (lv_at hl 7 rfl) ?_
          refine lv_istore (pc := 107) (lv' := [(6, .int v7), (5, .int 1), (0, .ref (a 0)), (1, .int v1), (2, .int v2), (3, .int v3), (4, .int v4), (7, .int v7)]) hx hb dX7_dances_107 hl (by decide) rfl (fun ls hl => ?_)
          exact kX7_dances_109 hC k68 hk68 v1 v2 v3 v4 1 v7 v7 σ4 _ _ _ hF hw (lv_sub hl [2, 3, 4, 5, 6, 1, 0, 7] rfl)
theorem lX7_dances_68 {p : Program} {l : Launch} {e : Env} {s : State} {m : MethodId} {args : Array Value} {below : List Frame} {meth : Method} {c : Code} {D : va_G} {cI cT : ClassId} {ad av a : Nat → Nat} {res : Int32 × rp_St} (hC : mC p s m args meth c cX7_dances 9 "RegretPegsModel" (some .int) D cI cT ad av a) : ∀ (n : Nat) (v1 : Int32) (v2 : Int32) (v3 : Int32) (v4 : Int32) (v5 : Int32) (v6 : Int32) (v7 : Int32) (σ : rp_St) (H : Heap) (locs : List Loc) (ls : Array Slot), rp_lp (fun _ _ _ _ _ _ _ _ => none) (fX7_dances_68) n v1 v2 v3 v4 v5 v6 v7 σ = some res → mW D cI cT ad av a s σ H locs → lv_has ls 9 [(0, .ref (a 0)), (1, .int v1), (2, .int v2), (3, .int v3), (4, .int v4), (5, .int v5), (6, .int v6), (7, .int v7)] → W p l e (rp_rm 8) s m args below meth c H locs 0 0 (MQ below (rp_Qi D a (mt cI cT ad a) 15 res) args s 0 0 (rp_A a 15)) (F0 m 68 ls [])
  | 0, _, _, _, _, _, _, _, _, _, _, _, hF, _, _ => nomatch hF
  | n + 1, v1, v2, v3, v4, v5, v6, v7, σ, H, locs, ls, hF, hw, hl => kX7_dances_68 hC (rp_lp (fun _ _ _ _ _ _ _ _ => none) (fX7_dances_68) n) (lX7_dances_68 hC n) v1 v2 v3 v4 v5 v6 v7 σ H locs ls hF hw hl
def fX7_dances_60 (v1 : Int32) (v2 : Int32) (v3 : Int32) (v4 : Int32) (t0 : Int32) (σ : rp_St) : Option (Int32 × rp_St) :=
  rp_lp (fun _ _ _ _ _ _ _ _ => none) (fX7_dances_68) 300 v1 v2 v3 v4 t0 (-1) 0 σ
set_option maxRecDepth 100000 in
set_option maxHeartbeats 4000000 in
theorem kX7_dances_60 {p : Program} {l : Launch} {e : Env} {s : State} {m : MethodId} {args : Array Value} {below : List Frame} {meth : Method} {c : Code} {D : va_G} {cI cT : ClassId} {ad av a : Nat → Nat} {res : Int32 × rp_St} (hC : mC p s m args meth c cX7_dances 9 "RegretPegsModel" (some .int) D cI cT ad av a) (v1 : Int32) (v2 : Int32) (v3 : Int32) (v4 : Int32) (t0 : Int32) (σ : rp_St) (H : Heap) (locs : List Loc) (ls : Array Slot) (hF : fX7_dances_60 v1 v2 v3 v4 t0 σ = some res) (hw : mW D cI cT ad av a s σ H locs) (hl : lv_has ls 9 [(0, .ref (a 0)), (1, .int v1), (2, .int v2), (3, .int v3), (4, .int v4)]) : W p l e (rp_rm 8) s m args below meth c H locs 0 0 (MQ below (rp_Qi D a (mt cI cT ad a) 15 res) args s 0 0 (rp_A a 15)) (F0 m 60 ls [.int t0]) := by
  have hx := hC.1
  have hb := hC.2.1
  have hown := hC.2.2.2.1
  have hts := hC.2.2.2.2.1
  unfold fX7_dances_60 at hF
  refine lv_istore (pc := 60) (lv' := [(5, .int t0), (0, .ref (a 0)), (1, .int v1), (2, .int v2), (3, .int v3), (4, .int v4)]) hx hb dX7_dances_60 hl (by decide) rfl (fun ls hl => ?_)
  refine lv_iconst (pc := 62) (v := (-1)) hx hb dX7_dances_62 (by decide) ?_
  refine lv_istore (pc := 63) (lv' := [(6, .int (-1)), (5, .int t0), (0, .ref (a 0)), (1, .int v1), (2, .int v2), (3, .int v3), (4, .int v4)]) hx hb dX7_dances_63 hl (by decide) rfl (fun ls hl => ?_)
  refine lv_iconst (pc := 65) (v := 0) hx hb dX7_dances_65 (by decide) ?_
  refine lv_istore (pc := 66) (lv' := [(7, .int 0), (6, .int (-1)), (5, .int t0), (0, .ref (a 0)), (1, .int v1), (2, .int v2), (3, .int v3), (4, .int v4)]) hx hb dX7_dances_66 hl (by decide) rfl (fun ls hl => ?_)
  exact lX7_dances_68 hC 300 v1 v2 v3 v4 t0 (-1) 0 σ _ _ _ hF hw (lv_sub hl [3, 4, 5, 6, 7, 2, 1, 0] rfl)
def fX7_dances (v1 : Int32) (v2 : Int32) (v3 : Int32) (v4 : Int32) (σ : rp_St) : Option (Int32 × rp_St) :=
  rp_bd (fX7_isGuest v1 σ) (fun r1 σ2 => (if r1 = 0 then fX7_dances_36 σ2 else rp_bd (fX7_isGuest v2 σ2) (fun r3 σ4 => (if r3 = 0 then fX7_dances_36 σ4 else rp_bd (fX7_within v3 0 6 σ4) (fun r5 σ6 => (if r5 = 0 then fX7_dances_36 σ6 else rp_bd (fX7_within v4 0 1 σ6) (fun r7 σ8 => (if r7 = 0 then fX7_dances_36 σ8 else rp_bd (fX7_hangsBy v1 v2 v3 (-1) (-1) σ8) (fun r9 σ10 => (if r9 = 0 then fX7_dances_60 v1 v2 v3 v4 (-1) σ10 else fX7_dances_60 v1 v2 v3 v4 0 σ10))))))))))
set_option maxRecDepth 100000 in
set_option maxHeartbeats 4000000 in
theorem kX7_dances_0 {p : Program} {l : Launch} {e : Env} {s : State} {m : MethodId} {args : Array Value} {below : List Frame} {meth : Method} {c : Code} {D : va_G} {cI cT : ClassId} {ad av a : Nat → Nat} {res : Int32 × rp_St} (hC : mC p s m args meth c cX7_dances 9 "RegretPegsModel" (some .int) D cI cT ad av a) (v1 : Int32) (v2 : Int32) (v3 : Int32) (v4 : Int32) (σ : rp_St) (H : Heap) (locs : List Loc) (ls : Array Slot) (hF : fX7_dances v1 v2 v3 v4 σ = some res) (hw : mW D cI cT ad av a s σ H locs) (hl : lv_has ls 9 [(0, .ref (a 0)), (1, .int v1), (2, .int v2), (3, .int v3), (4, .int v4)]) : W p l e (rp_rm 8) s m args below meth c H locs 0 0 (MQ below (rp_Qi D a (mt cI cT ad a) 15 res) args s 0 0 (rp_A a 15)) (F0 m 0 ls []) := by
  have hx := hC.1
  have hb := hC.2.1
  have hown := hC.2.2.2.1
  have hts := hC.2.2.2.2.1
  unfold fX7_dances at hF
  refine lv_aload_n (pc := 0) hx hb dX7_dances_0 rfl (lv_at hl 0 rfl) ?_
  refine lv_iload_n (pc := 1) hx hb dX7_dances_1 rfl (lv_at hl 1 rfl) ?_
  obtain ⟨r1, σ2, hq, hF⟩ := rp_bd_e hF
  refine rp_ki (rp_runV (rest := []) hC (mE_ok _) hw hl.1 (mX7_isGuest (l := l) v1 σ _ hq) vw_X7_159 (by decide) (mt_obj _) rfl rfl rfl (Nat.le_of_ble_eq_true rfl) (by decide) dX7_dances_2) hw (fun H locs hw => ?_)
  clear hq
  refine lv_if_eq (pc := 5) (tgt := 36) hx hb dX7_dances_5 (by decide) (fun hc => ?_) (fun hc => ?_)
  · replace hF := rp_it hc hF
    exact kX7_dances_36 hC σ2 _ _ _ hF hw (lv_sub hl [0] rfl)
  · replace hF := rp_if hc hF
    refine lv_aload_n (pc := 8) hx hb dX7_dances_8 rfl (lv_at hl 0 rfl) ?_
    refine lv_iload_n (pc := 9) hx hb dX7_dances_9 rfl (lv_at hl 2 rfl) ?_
    obtain ⟨r3, σ4, hq, hF⟩ := rp_bd_e hF
    refine rp_ki (rp_runV (rest := []) hC (mE_ok _) hw hl.1 (mX7_isGuest (l := l) v2 σ2 _ hq) vw_X7_159 (by decide) (mt_obj _) rfl rfl rfl (Nat.le_of_ble_eq_true rfl) (by decide) dX7_dances_10) hw (fun H locs hw => ?_)
    clear hq
    refine lv_if_eq (pc := 13) (tgt := 36) hx hb dX7_dances_13 (by decide) (fun hc => ?_) (fun hc => ?_)
    · replace hF := rp_it hc hF
      exact kX7_dances_36 hC σ4 _ _ _ hF hw (lv_sub hl [0] rfl)
    · replace hF := rp_if hc hF
      refine lv_iload_n (pc := 16) hx hb dX7_dances_16 rfl (lv_at hl 3 rfl) ?_
      refine lv_iconst (pc := 17) (v := 0) hx hb dX7_dances_17 (by decide) ?_
      refine lv_bipush (pc := 18) (v := 6) hx hb dX7_dances_18 (by decide) ?_
      obtain ⟨r5, σ6, hq, hF⟩ := rp_bd_e hF
      refine rp_ki (rp_runZ (rest := []) hC (mE_ok _) hw hl.1 (mX7_within (l := l) v3 0 6 σ4 _ hq) zw_X7_73 rfl rfl (Nat.le_of_ble_eq_true rfl) (by decide) dX7_dances_20) hw (fun H locs hw => ?_)
      clear hq
      refine lv_if_eq (pc := 23) (tgt := 36) hx hb dX7_dances_23 (by decide) (fun hc => ?_) (fun hc => ?_)
      · replace hF := rp_it hc hF
        exact kX7_dances_36 hC σ6 _ _ _ hF hw (lv_sub hl [0] rfl)
      · replace hF := rp_if hc hF
        refine lv_iload (pc := 26) hx hb dX7_dances_26 (lv_at hl 4 rfl) ?_
        refine lv_iconst (pc := 28) (v := 0) hx hb dX7_dances_28 (by decide) ?_
        refine lv_iconst (pc := 29) (v := 1) hx hb dX7_dances_29 (by decide) ?_
        obtain ⟨r7, σ8, hq, hF⟩ := rp_bd_e hF
        refine rp_ki (rp_runZ (rest := []) hC (mE_ok _) hw hl.1 (mX7_within (l := l) v4 0 1 σ6 _ hq) zw_X7_73 rfl rfl (Nat.le_of_ble_eq_true rfl) (by decide) dX7_dances_30) hw (fun H locs hw => ?_)
        clear hq
        refine lv_if_ne (pc := 33) (tgt := 43) hx hb dX7_dances_33 (by decide) (fun hc => ?_) (fun hc => ?_)
        · replace hF := rp_if hc hF
          refine lv_aload_n (pc := 43) hx hb dX7_dances_43 rfl (lv_at hl 0 rfl) ?_
          refine lv_iload_n (pc := 44) hx hb dX7_dances_44 rfl (lv_at hl 1 rfl) ?_
          refine lv_iload_n (pc := 45) hx hb dX7_dances_45 rfl (lv_at hl 2 rfl) ?_
          refine lv_iload_n (pc := 46) hx hb dX7_dances_46 rfl (lv_at hl 3 rfl) ?_
          refine lv_iconst (pc := 47) (v := (-1)) hx hb dX7_dances_47 (by decide) ?_
          refine lv_iconst (pc := 48) (v := (-1)) hx hb dX7_dances_48 (by decide) ?_
          obtain ⟨r9, σ10, hq, hF⟩ := rp_bd_e hF
          refine rp_ki (rp_runV (rest := []) hC (mE_ok _) hw hl.1 (mX7_hangsBy (l := l) v1 v2 v3 (-1) (-1) σ8 _ hq) vw_X7_243 (by decide) (mt_obj _) rfl rfl rfl (Nat.le_of_ble_eq_true rfl) (by decide) dX7_dances_49) hw (fun H locs hw => ?_)
          clear hq
          refine lv_if_eq (pc := 52) (tgt := 59) hx hb dX7_dances_52 (by decide) (fun hc => ?_) (fun hc => ?_)
          · replace hF := rp_it hc hF
            refine lv_iconst (pc := 59) (v := (-1)) hx hb dX7_dances_59 (by decide) ?_
            exact kX7_dances_60 hC v1 v2 v3 v4 (-1) σ10 _ _ _ hF hw (lv_sub hl [0, 1, 2, 3, 4] rfl)
          · replace hF := rp_if hc hF
            refine lv_iconst (pc := 55) (v := 0) hx hb dX7_dances_55 (by decide) ?_
            refine lv_goto (pc := 56) (tgt := 60) hx hb dX7_dances_56 (by decide) ?_
            exact kX7_dances_60 hC v1 v2 v3 v4 0 σ10 _ _ _ hF hw (lv_sub hl [0, 1, 2, 3, 4] rfl)
        · replace hF := rp_it hc hF
          exact kX7_dances_36 hC σ8 _ _ _ hF hw (lv_sub hl [0] rfl)
theorem mX7_dances {l : Launch} {D : va_G} {cI cT : ClassId} {ad av a : Nat → Nat} (v1 : Int32) (v2 : Int32) (v3 : Int32) (v4 : Int32) (σ : rp_St) (res : Int32 × rp_St) (hF : fX7_dances v1 v2 v3 v4 σ = some res) : mM l D cI cT ad av a yX7_dances cX7_dances 9 (some .int) 8 [.ref (a 0), .int v1, .int v2, .int v3, .int v4] σ (rp_Qi D a (mt cI cT ad a) 15 res) :=
  rp_entry (by decide) (Nat.le_of_ble_eq_true rfl) (fun p e s m below meth c ls hC hw hl => kX7_dances_0 hC v1 v2 v3 v4 σ _ _ _ hF hw (lv_sub hl [0, 1, 2, 3, 4] rfl))
def fX7_isSoDanced_116 (k52 : Int32 → Int32 → Int32 → Int32 → Int32 → Int32 → Int32 → rp_St → Option (Int32 × rp_St)) (v1 : Int32) (v2 : Int32) (v3 : Int32) (v4 : Int32) (v5 : Int32) (v7 : Int32) (t0 : Int32) (σ : rp_St) : Option (Int32 × rp_St) :=
  rp_nm (v7 + 1) (fun x1 => k52 v1 v2 v3 v4 v5 t0 x1 σ)
set_option maxRecDepth 100000 in
set_option maxHeartbeats 4000000 in
theorem kX7_isSoDanced_116 {p : Program} {l : Launch} {e : Env} {s : State} {m : MethodId} {args : Array Value} {below : List Frame} {meth : Method} {c : Code} {D : va_G} {cI cT : ClassId} {ad av a : Nat → Nat} {res : Int32 × rp_St} (hC : mC p s m args meth c cX7_isSoDanced 8 "RegretPegsModel" (some .boolean) D cI cT ad av a) (k52 : Int32 → Int32 → Int32 → Int32 → Int32 → Int32 → Int32 → rp_St → Option (Int32 × rp_St)) (hk52 : ∀ (v1 : Int32) (v2 : Int32) (v3 : Int32) (v4 : Int32) (v5 : Int32) (v6 : Int32) (v7 : Int32) (σ : rp_St) (H : Heap) (locs : List Loc) (ls : Array Slot), k52 v1 v2 v3 v4 v5 v6 v7 σ = some res → mW D cI cT ad av a s σ H locs → lv_has ls 8 [(0, .ref (a 0)), (1, .int v1), (2, .int v2), (3, .int v3), (4, .int v4), (5, .int v5), (6, .int v6), (7, .int v7)] → W p l e (rp_rm 4) s m args below meth c H locs 0 0 (MQ below (rp_Qi D a (mt cI cT ad a) 15 res) args s 0 0 (rp_A a 15)) (F0 m 52 ls [])) (v1 : Int32) (v2 : Int32) (v3 : Int32) (v4 : Int32) (v5 : Int32) (v7 : Int32) (t0 : Int32) (σ : rp_St) (H : Heap) (locs : List Loc) (ls : Array Slot) (hF : fX7_isSoDanced_116 k52 v1 v2 v3 v4 v5 v7 t0 σ = some res) (hw : mW D cI cT ad av a s σ H locs) (hl : lv_has ls 8 [(0, .ref (a 0)), (1, .int v1), (2, .int v2), (3, .int v3), (4, .int v4), (5, .int v5), (7, .int v7)]) : W p l e (rp_rm 4) s m args below meth c H locs 0 0 (MQ below (rp_Qi D a (mt cI cT ad a) 15 res) args s 0 0 (rp_A a 15)) (F0 m 116 ls [.int t0]) := by
  have hx := hC.1
  have hb := hC.2.1
  have hown := hC.2.2.2.1
  have hts := hC.2.2.2.2.1
  unfold fX7_isSoDanced_116 at hF
  refine lv_istore (pc := 116) (lv' := [(6, .int t0), (0, .ref (a 0)), (1, .int v1), (2, .int v2), (3, .int v3), (4, .int v4), (5, .int v5), (7, .int v7)]) hx hb dX7_isSoDanced_116 hl (by decide) rfl (fun ls hl => ?_)
  obtain ⟨x1, ex1, hF⟩ := rp_nm_e hF
  refine lv_iinc (pc := 118) (v := x1) (lv' := [(7, .int x1), (6, .int t0), (0, .ref (a 0)), (1, .int v1), (2, .int v2), (3, .int v3), (4, .int v4), (5, .int v5)]) hx hb dX7_isSoDanced_118 hl (k := 7) rfl (by rw [ex1]; rfl) (by decide) rfl (fun ls hl => ?_)
  refine lv_goto (pc := 121) (tgt := 52) hx hb dX7_isSoDanced_121 (by decide) ?_
  exact hk52 v1 v2 v3 v4 v5 t0 x1 σ _ _ _ hF hw (lv_sub hl [2, 3, 4, 5, 6, 7, 1, 0] rfl)
def fX7_isSoDanced_115 (k52 : Int32 → Int32 → Int32 → Int32 → Int32 → Int32 → Int32 → rp_St → Option (Int32 × rp_St)) (v1 : Int32) (v2 : Int32) (v3 : Int32) (v4 : Int32) (v5 : Int32) (v7 : Int32) (σ : rp_St) : Option (Int32 × rp_St) :=
  fX7_isSoDanced_116 k52 v1 v2 v3 v4 v5 v7 0 σ
set_option maxRecDepth 100000 in
set_option maxHeartbeats 4000000 in
theorem kX7_isSoDanced_115 {p : Program} {l : Launch} {e : Env} {s : State} {m : MethodId} {args : Array Value} {below : List Frame} {meth : Method} {c : Code} {D : va_G} {cI cT : ClassId} {ad av a : Nat → Nat} {res : Int32 × rp_St} (hC : mC p s m args meth c cX7_isSoDanced 8 "RegretPegsModel" (some .boolean) D cI cT ad av a) (k52 : Int32 → Int32 → Int32 → Int32 → Int32 → Int32 → Int32 → rp_St → Option (Int32 × rp_St)) (hk52 : ∀ (v1 : Int32) (v2 : Int32) (v3 : Int32) (v4 : Int32) (v5 : Int32) (v6 : Int32) (v7 : Int32) (σ : rp_St) (H : Heap) (locs : List Loc) (ls : Array Slot), k52 v1 v2 v3 v4 v5 v6 v7 σ = some res → mW D cI cT ad av a s σ H locs → lv_has ls 8 [(0, .ref (a 0)), (1, .int v1), (2, .int v2), (3, .int v3), (4, .int v4), (5, .int v5), (6, .int v6), (7, .int v7)] → W p l e (rp_rm 4) s m args below meth c H locs 0 0 (MQ below (rp_Qi D a (mt cI cT ad a) 15 res) args s 0 0 (rp_A a 15)) (F0 m 52 ls [])) (v1 : Int32) (v2 : Int32) (v3 : Int32) (v4 : Int32) (v5 : Int32) (v7 : Int32) (σ : rp_St) (H : Heap) (locs : List Loc) (ls : Array Slot) (hF : fX7_isSoDanced_115 k52 v1 v2 v3 v4 v5 v7 σ = some res) (hw : mW D cI cT ad av a s σ H locs) (hl : lv_has ls 8 [(0, .ref (a 0)), (1, .int v1), (2, .int v2), (3, .int v3), (4, .int v4), (5, .int v5), (7, .int v7)]) : W p l e (rp_rm 4) s m args below meth c H locs 0 0 (MQ below (rp_Qi D a (mt cI cT ad a) 15 res) args s 0 0 (rp_A a 15)) (F0 m 115 ls []) := by
  have hx := hC.1
  have hb := hC.2.1
  have hown := hC.2.2.2.1
  have hts := hC.2.2.2.2.1
  unfold fX7_isSoDanced_115 at hF
  refine lv_iconst (pc := 115) (v := 0) hx hb dX7_isSoDanced_115 (by decide) ?_
  exact kX7_isSoDanced_116 hC k52 hk52 v1 v2 v3 v4 v5 v7 0 σ _ _ _ hF hw (lv_sub hl [0, 1, 2, 3, 4, 5, 6] rfl)
def fX7_isSoDanced_108 (k52 : Int32 → Int32 → Int32 → Int32 → Int32 → Int32 → Int32 → rp_St → Option (Int32 × rp_St)) (v1 : Int32) (v2 : Int32) (v3 : Int32) (v4 : Int32) (v5 : Int32) (v7 : Int32) (t0 : Int32) (t1 : Int32) (σ : rp_St) : Option (Int32 × rp_St) :=
  (if t1 = t0 then fX7_isSoDanced_116 k52 v1 v2 v3 v4 v5 v7 1 σ else fX7_isSoDanced_115 k52 v1 v2 v3 v4 v5 v7 σ)
set_option maxRecDepth 100000 in
set_option maxHeartbeats 4000000 in
theorem kX7_isSoDanced_108 {p : Program} {l : Launch} {e : Env} {s : State} {m : MethodId} {args : Array Value} {below : List Frame} {meth : Method} {c : Code} {D : va_G} {cI cT : ClassId} {ad av a : Nat → Nat} {res : Int32 × rp_St} (hC : mC p s m args meth c cX7_isSoDanced 8 "RegretPegsModel" (some .boolean) D cI cT ad av a) (k52 : Int32 → Int32 → Int32 → Int32 → Int32 → Int32 → Int32 → rp_St → Option (Int32 × rp_St)) (hk52 : ∀ (v1 : Int32) (v2 : Int32) (v3 : Int32) (v4 : Int32) (v5 : Int32) (v6 : Int32) (v7 : Int32) (σ : rp_St) (H : Heap) (locs : List Loc) (ls : Array Slot), k52 v1 v2 v3 v4 v5 v6 v7 σ = some res → mW D cI cT ad av a s σ H locs → lv_has ls 8 [(0, .ref (a 0)), (1, .int v1), (2, .int v2), (3, .int v3), (4, .int v4), (5, .int v5), (6, .int v6), (7, .int v7)] → W p l e (rp_rm 4) s m args below meth c H locs 0 0 (MQ below (rp_Qi D a (mt cI cT ad a) 15 res) args s 0 0 (rp_A a 15)) (F0 m 52 ls [])) (v1 : Int32) (v2 : Int32) (v3 : Int32) (v4 : Int32) (v5 : Int32) (v7 : Int32) (t0 : Int32) (t1 : Int32) (σ : rp_St) (H : Heap) (locs : List Loc) (ls : Array Slot) (hF : fX7_isSoDanced_108 k52 v1 v2 v3 v4 v5 v7 t0 t1 σ = some res) (hw : mW D cI cT ad av a s σ H locs) (hl : lv_has ls 8 [(0, .ref (a 0)), (1, .int v1), (2, .int v2), (3, .int v3), (4, .int v4), (5, .int v5), (7, .int v7)]) : W p l e (rp_rm 4) s m args below meth c H locs 0 0 (MQ below (rp_Qi D a (mt cI cT ad a) 15 res) args s 0 0 (rp_A a 15)) (F0 m 108 ls [.int t0, .int t1]) := by
  have hx := hC.1
  have hb := hC.2.1
  have hown := hC.2.2.2.1
  have hts := hC.2.2.2.2.1
  unfold fX7_isSoDanced_108 at hF
  refine lv_icmp_ne (pc := 108) (tgt := 115) hx hb dX7_isSoDanced_108 (by decide) (fun hc => ?_) (fun hc => ?_)
  · replace hF := rp_if hc hF
    exact kX7_isSoDanced_115 hC k52 hk52 v1 v2 v3 v4 v5 v7 σ _ _ _ hF hw (lv_sub hl [0, 1, 2, 3, 4, 5, 6] rfl)
  · replace hF := rp_it hc hF
    refine lv_iconst (pc := 111) (v := 1) hx hb dX7_isSoDanced_111 (by decide) ?_
    refine lv_goto (pc := 112) (tgt := 116) hx hb dX7_isSoDanced_112 (by decide) ?_
    exact kX7_isSoDanced_116 hC k52 hk52 v1 v2 v3 v4 v5 v7 1 σ _ _ _ hF hw (lv_sub hl [0, 1, 2, 3, 4, 5, 6] rfl)
def fX7_isSoDanced_52 (k52 : Int32 → Int32 → Int32 → Int32 → Int32 → Int32 → Int32 → rp_St → Option (Int32 × rp_St)) (v1 : Int32) (v2 : Int32) (v3 : Int32) (v4 : Int32) (v5 : Int32) (v6 : Int32) (v7 : Int32) (σ : rp_St) : Option (Int32 × rp_St) :=
  rp_gu (rp_in 1 221) ((if (σ 1 (1 : Int32).toNatClampNeg) ≤ v7 then rp_gu (v6 == 0 || v6 == 1) (some (v6, σ)) else (if v6 = 0 then fX7_isSoDanced_115 k52 v1 v2 v3 v4 v5 v7 σ else rp_gu (rp_in ((40 * v1) + v7) 160) ((if v7 = v2 then fX7_isSoDanced_108 k52 v1 v2 v3 v4 v5 v7 v4 (σ 13 (((40 * v1) + v7) : Int32).toNatClampNeg) σ else (if v7 = v3 then fX7_isSoDanced_108 k52 v1 v2 v3 v4 v5 v7 v5 (σ 13 (((40 * v1) + v7) : Int32).toNatClampNeg) σ else rp_bd (fX7_rue v7 σ) (fun r1 σ2 => fX7_isSoDanced_108 k52 v1 v2 v3 v4 v5 v7 r1 (σ 13 (((40 * v1) + v7) : Int32).toNatClampNeg) σ2)))))))
set_option maxRecDepth 100000 in
set_option maxHeartbeats 4000000 in
theorem kX7_isSoDanced_52 {p : Program} {l : Launch} {e : Env} {s : State} {m : MethodId} {args : Array Value} {below : List Frame} {meth : Method} {c : Code} {D : va_G} {cI cT : ClassId} {ad av a : Nat → Nat} {res : Int32 × rp_St} (hC : mC p s m args meth c cX7_isSoDanced 8 "RegretPegsModel" (some .boolean) D cI cT ad av a) (k52 : Int32 → Int32 → Int32 → Int32 → Int32 → Int32 → Int32 → rp_St → Option (Int32 × rp_St)) (hk52 : ∀ (v1 : Int32) (v2 : Int32) (v3 : Int32) (v4 : Int32) (v5 : Int32) (v6 : Int32) (v7 : Int32) (σ : rp_St) (H : Heap) (locs : List Loc) (ls : Array Slot), k52 v1 v2 v3 v4 v5 v6 v7 σ = some res → mW D cI cT ad av a s σ H locs → lv_has ls 8 [(0, .ref (a 0)), (1, .int v1), (2, .int v2), (3, .int v3), (4, .int v4), (5, .int v5), (6, .int v6), (7, .int v7)] → W p l e (rp_rm 4) s m args below meth c H locs 0 0 (MQ below (rp_Qi D a (mt cI cT ad a) 15 res) args s 0 0 (rp_A a 15)) (F0 m 52 ls [])) (v1 : Int32) (v2 : Int32) (v3 : Int32) (v4 : Int32) (v5 : Int32) (v6 : Int32) (v7 : Int32) (σ : rp_St) (H : Heap) (locs : List Loc) (ls : Array Slot) (hF : fX7_isSoDanced_52 k52 v1 v2 v3 v4 v5 v6 v7 σ = some res) (hw : mW D cI cT ad av a s σ H locs) (hl : lv_has ls 8 [(0, .ref (a 0)), (1, .int v1), (2, .int v2), (3, .int v3), (4, .int v4), (5, .int v5), (6, .int v6), (7, .int v7)]) : W p l e (rp_rm 4) s m args below meth c H locs 0 0 (MQ below (rp_Qi D a (mt cI cT ad a) 15 res) args s 0 0 (rp_A a 15)) (F0 m 52 ls []) := by
  have hx := hC.1
  have hb := hC.2.1
  have hown := hC.2.2.2.1
  have hts := hC.2.2.2.2.1
  unfold fX7_isSoDanced_52 at hF
  refine lv_iload (pc := 52) hx hb dX7_isSoDanced_52 (lv_at hl 7 rfl) ?_
  refine lv_aload_n (pc := 54) hx hb dX7_isSoDanced_54 rfl (lv_at hl 0 rfl) ?_
  refine rp_get (pc := 55) hC hw 0 (by decide) (mt_obj _) fl_X7_9 (.ref (a 1)) rfl dX7_isSoDanced_55 ?_
  refine lv_iconst (pc := 58) (v := 1) hx hb dX7_isSoDanced_58 (by decide) ?_
  obtain ⟨hg, hF⟩ := rp_gu_e hF
  refine rp_ald (pc := 59) hC hw 1 (by decide) (mt_arr 1 221 rfl) 0 rfl hg dX7_isSoDanced_59 ?_
  refine lv_icmp_ge (pc := 60) (tgt := 124) hx hb dX7_isSoDanced_60 (by decide) (fun hc => ?_) (fun hc => ?_)
  · replace hF := rp_it hc hF
    refine lv_iload (pc := 124) hx hb dX7_isSoDanced_124 (lv_at hl 6 rfl) ?_
    obtain ⟨hg, hF⟩ := rp_gu_e hF
    exact rp_retz (pc := 126) hC hw hg hF dX7_isSoDanced_126
  · replace hF := rp_if hc hF
    refine lv_iload (pc := 63) hx hb dX7_isSoDanced_63 (lv_at hl 6 rfl) ?_
    refine lv_if_eq (pc := 65) (tgt := 115) hx hb dX7_isSoDanced_65 (by decide) (fun hc => ?_) (fun hc => ?_)
    · replace hF := rp_it hc hF
      exact kX7_isSoDanced_115 hC k52 hk52 v1 v2 v3 v4 v5 v7 σ _ _ _ hF hw (lv_sub hl [0, 1, 2, 3, 4, 5, 7] rfl)
    · replace hF := rp_if hc hF
      refine lv_aload_n (pc := 68) hx hb dX7_isSoDanced_68 rfl (lv_at hl 0 rfl) ?_
      refine rp_get (pc := 69) hC hw 0 (by decide) (mt_obj _) fl_X7_53 (.ref (a 13)) rfl dX7_isSoDanced_69 ?_
      refine lv_bipush (pc := 72) (v := 40) hx hb dX7_isSoDanced_72 (by decide) ?_
      refine lv_iload_n (pc := 74) hx hb dX7_isSoDanced_74 rfl (lv_at hl 1 rfl) ?_
      refine lv_imul (pc := 75) hx hb dX7_isSoDanced_75 ?_
      refine lv_iload (pc := 76) hx hb dX7_isSoDanced_76 (lv_at hl 7 rfl) ?_
      refine lv_iadd (pc := 78) hx hb dX7_isSoDanced_78 ?_
      obtain ⟨hg, hF⟩ := rp_gu_e hF
      refine rp_ald (pc := 79) hC hw 13 (by decide) (mt_arr 13 160 rfl) 0 rfl hg dX7_isSoDanced_79 ?_
      refine lv_iload (pc := 80) hx hb dX7_isSoDanced_80 (lv_at hl 7 rfl) ?_
      refine lv_iload_n (pc := 82) hx hb dX7_isSoDanced_82 rfl (lv_at hl 2 rfl) ?_
      refine lv_icmp_ne (pc := 83) (tgt := 91) hx hb dX7_isSoDanced_83 (by decide) (fun hc => ?_) (fun hc => ?_)
      · replace hF := rp_if hc hF
        refine lv_iload (pc := 91) hx hb dX7_isSoDanced_91 (lv_at hl 7 rfl) ?_
        refine lv_iload_n (pc := 93) hx hb dX7_isSoDanced_93 rfl (lv_at hl 3 rfl) ?_
        refine lv_icmp_ne (pc := 94) (tgt := 102) hx hb dX7_isSoDanced_94 (by decide) (fun hc => ?_) (fun hc => ?_)
        · replace hF := rp_if hc hF
          refine lv_aload_n (pc := 102) hx hb dX7_isSoDanced_102 rfl (lv_at hl 0 rfl) ?_
          refine lv_iload (pc := 103) hx hb dX7_isSoDanced_103 (lv_at hl 7 rfl) ?_
          obtain ⟨r1, σ2, hq, hF⟩ := rp_bd_e hF
          refine rp_ki (rp_runV (rest := [.int (σ 13 (((40 * v1) + v7) : Int32).toNatClampNeg)]) hC (mE_ok _) hw hl.1 (mX7_rue (l := l) v7 σ _ hq) vw_X7_197 (by decide) (mt_obj _) rfl rfl rfl (Nat.le_of_ble_eq_true rfl) (by decide) dX7_isSoDanced_105) hw (fun H locs hw => ?_)
          clear hq
          exact kX7_isSoDanced_108 hC k52 hk52 v1 v2 v3 v4 v5 v7 r1 (σ 13 (((40 * v1) + v7) : Int32).toNatClampNeg) σ2 _ _ _ hF hw (lv_sub hl [0, 1, 2, 3, 4, 5, 7] rfl)
        · replace hF := rp_it hc hF
          refine lv_iload (pc := 97) hx hb dX7_isSoDanced_97 (lv_at hl 5 rfl) ?_
          refine lv_goto (pc := 99) (tgt := 108) hx hb dX7_isSoDanced_99 (by decide) ?_
          exact kX7_isSoDanced_108 hC k52 hk52 v1 v2 v3 v4 v5 v7 v5 (σ 13 (((40 * v1) + v7) : Int32).toNatClampNeg) σ _ _ _ hF hw (lv_sub hl [0, 1, 2, 3, 4, 5, 7] rfl)
      · replace hF := rp_it hc hF
        refine lv_iload (pc := 86) hx hb dX7_isSoDanced_86 (lv_at hl 4 rfl) ?_
        refine lv_goto (pc := 88) (tgt := 108) hx hb dX7_isSoDanced_88 (by decide) ?_
        exact kX7_isSoDanced_108 hC k52 hk52 v1 v2 v3 v4 v5 v7 v4 (σ 13 (((40 * v1) + v7) : Int32).toNatClampNeg) σ _ _ _ hF hw (lv_sub hl [0, 1, 2, 3, 4, 5, 7] rfl)
theorem lX7_isSoDanced_52 {p : Program} {l : Launch} {e : Env} {s : State} {m : MethodId} {args : Array Value} {below : List Frame} {meth : Method} {c : Code} {D : va_G} {cI cT : ClassId} {ad av a : Nat → Nat} {res : Int32 × rp_St} (hC : mC p s m args meth c cX7_isSoDanced 8 "RegretPegsModel" (some .boolean) D cI cT ad av a) : ∀ (n : Nat) (v1 : Int32) (v2 : Int32) (v3 : Int32) (v4 : Int32) (v5 : Int32) (v6 : Int32) (v7 : Int32) (σ : rp_St) (H : Heap) (locs : List Loc) (ls : Array Slot), rp_lp (fun _ _ _ _ _ _ _ _ => none) (fX7_isSoDanced_52) n v1 v2 v3 v4 v5 v6 v7 σ = some res → mW D cI cT ad av a s σ H locs → lv_has ls 8 [(0, .ref (a 0)), (1, .int v1), (2, .int v2), (3, .int v3), (4, .int v4), (5, .int v5), (6, .int v6), (7, .int v7)] → W p l e (rp_rm 4) s m args below meth c H locs 0 0 (MQ below (rp_Qi D a (mt cI cT ad a) 15 res) args s 0 0 (rp_A a 15)) (F0 m 52 ls [])
  | 0, _, _, _, _, _, _, _, _, _, _, _, hF, _, _ => nomatch hF
  | n + 1, v1, v2, v3, v4, v5, v6, v7, σ, H, locs, ls, hF, hw, hl => kX7_isSoDanced_52 hC (rp_lp (fun _ _ _ _ _ _ _ _ => none) (fX7_isSoDanced_52) n) (lX7_isSoDanced_52 hC n) v1 v2 v3 v4 v5 v6 v7 σ H locs ls hF hw hl
def fX7_isSoDanced (v1 : Int32) (v2 : Int32) (v3 : Int32) (σ : rp_St) : Option (Int32 × rp_St) :=
  rp_bd (fX7_rue v2 σ) (fun r1 σ2 => rp_bd (fX7_rue v3 σ2) (fun r3 σ4 => rp_bd (fX7_guestIs v2 1 σ4) (fun r5 σ6 => rp_bd (fX7_given 0 r1 r3 r5 σ6) (fun r7 σ8 => rp_bd (fX7_rue v3 σ8) (fun r9 σ10 => rp_bd (fX7_rue v2 σ10) (fun r11 σ12 => rp_bd (fX7_guestIs v3 1 σ12) (fun r13 σ14 => rp_bd (fX7_given 0 r9 r11 r13 σ14) (fun r15 σ16 => rp_lp (fun _ _ _ _ _ _ _ _ => none) (fX7_isSoDanced_52) 300 v1 v2 v3 r7 r15 1 0 σ16))))))))
set_option maxRecDepth 100000 in
set_option maxHeartbeats 4000000 in
theorem kX7_isSoDanced_0 {p : Program} {l : Launch} {e : Env} {s : State} {m : MethodId} {args : Array Value} {below : List Frame} {meth : Method} {c : Code} {D : va_G} {cI cT : ClassId} {ad av a : Nat → Nat} {res : Int32 × rp_St} (hC : mC p s m args meth c cX7_isSoDanced 8 "RegretPegsModel" (some .boolean) D cI cT ad av a) (v1 : Int32) (v2 : Int32) (v3 : Int32) (σ : rp_St) (H : Heap) (locs : List Loc) (ls : Array Slot) (hF : fX7_isSoDanced v1 v2 v3 σ = some res) (hw : mW D cI cT ad av a s σ H locs) (hl : lv_has ls 8 [(0, .ref (a 0)), (1, .int v1), (2, .int v2), (3, .int v3)]) : W p l e (rp_rm 4) s m args below meth c H locs 0 0 (MQ below (rp_Qi D a (mt cI cT ad a) 15 res) args s 0 0 (rp_A a 15)) (F0 m 0 ls []) := by
  have hx := hC.1
  have hb := hC.2.1
  have hown := hC.2.2.2.1
  have hts := hC.2.2.2.2.1
  unfold fX7_isSoDanced at hF
  refine lv_aload_n (pc := 0) hx hb dX7_isSoDanced_0 rfl (lv_at hl 0 rfl) ?_
  refine lv_iconst (pc := 1) (v := 0) hx hb dX7_isSoDanced_1 (by decide) ?_
  refine lv_aload_n (pc := 2) hx hb dX7_isSoDanced_2 rfl (lv_at hl 0 rfl) ?_
  refine lv_iload_n (pc := 3) hx hb dX7_isSoDanced_3 rfl (lv_at hl 2 rfl) ?_
  obtain ⟨r1, σ2, hq, hF⟩ := rp_bd_e hF
  refine rp_ki (rp_runV (rest := [.int 0, .ref (a 0)]) hC (mE_ok _) hw hl.1 (mX7_rue (l := l) v2 σ _ hq) vw_X7_197 (by decide) (mt_obj _) rfl rfl rfl (Nat.le_of_ble_eq_true rfl) (by decide) dX7_isSoDanced_4) hw (fun H locs hw => ?_)
  clear hq
  refine lv_aload_n (pc := 7) hx hb dX7_isSoDanced_7 rfl (lv_at hl 0 rfl) ?_
  refine lv_iload_n (pc := 8) hx hb dX7_isSoDanced_8 rfl (lv_at hl 3 rfl) ?_
  obtain ⟨r3, σ4, hq, hF⟩ := rp_bd_e hF
  refine rp_ki (rp_runV (rest := [.int r1, .int 0, .ref (a 0)]) hC (mE_ok _) hw hl.1 (mX7_rue (l := l) v3 σ2 _ hq) vw_X7_197 (by decide) (mt_obj _) rfl rfl rfl (Nat.le_of_ble_eq_true rfl) (by decide) dX7_isSoDanced_9) hw (fun H locs hw => ?_)
  clear hq
  refine lv_aload_n (pc := 12) hx hb dX7_isSoDanced_12 rfl (lv_at hl 0 rfl) ?_
  refine lv_iload_n (pc := 13) hx hb dX7_isSoDanced_13 rfl (lv_at hl 2 rfl) ?_
  refine lv_iconst (pc := 14) (v := 1) hx hb dX7_isSoDanced_14 (by decide) ?_
  obtain ⟨r5, σ6, hq, hF⟩ := rp_bd_e hF
  refine rp_ki (rp_runV (rest := [.int r3, .int r1, .int 0, .ref (a 0)]) hC (mE_ok _) hw hl.1 (mX7_guestIs (l := l) v2 1 σ4 _ hq) vw_X7_165 (by decide) (mt_obj _) rfl rfl rfl (Nat.le_of_ble_eq_true rfl) (by decide) dX7_isSoDanced_15) hw (fun H locs hw => ?_)
  clear hq
  obtain ⟨r7, σ8, hq, hF⟩ := rp_bd_e hF
  refine rp_ki (rp_runV (rest := []) hC (mE_ok _) hw hl.1 (mX7_given (l := l) 0 r1 r3 r5 σ6 _ hq) vw_X7_155 (by decide) (mt_obj _) rfl rfl rfl (Nat.le_of_ble_eq_true rfl) (by decide) dX7_isSoDanced_18) hw (fun H locs hw => ?_)
  clear hq
  refine lv_istore (pc := 21) (lv' := [(4, .int r7), (0, .ref (a 0)), (1, .int v1), (2, .int v2), (3, .int v3)]) hx hb dX7_isSoDanced_21 hl (by decide) rfl (fun ls hl => ?_)
  refine lv_aload_n (pc := 23) hx hb dX7_isSoDanced_23 rfl (lv_at hl 1 rfl) ?_
  refine lv_iconst (pc := 24) (v := 0) hx hb dX7_isSoDanced_24 (by decide) ?_
  refine lv_aload_n (pc := 25) hx hb dX7_isSoDanced_25 rfl (lv_at hl 1 rfl) ?_
  refine lv_iload_n (pc := 26) hx hb dX7_isSoDanced_26 rfl (lv_at hl 4 rfl) ?_
  obtain ⟨r9, σ10, hq, hF⟩ := rp_bd_e hF
  refine rp_ki (rp_runV (rest := [.int 0, .ref (a 0)]) hC (mE_ok _) hw hl.1 (mX7_rue (l := l) v3 σ8 _ hq) vw_X7_197 (by decide) (mt_obj _) rfl rfl rfl (Nat.le_of_ble_eq_true rfl) (by decide) dX7_isSoDanced_27) hw (fun H locs hw => ?_)
  clear hq
  refine lv_aload_n (pc := 30) hx hb dX7_isSoDanced_30 rfl (lv_at hl 1 rfl) ?_
  refine lv_iload_n (pc := 31) hx hb dX7_isSoDanced_31 rfl (lv_at hl 3 rfl) ?_
  obtain ⟨r11, σ12, hq, hF⟩ := rp_bd_e hF
  refine rp_ki (rp_runV (rest := [.int r9, .int 0, .ref (a 0)]) hC (mE_ok _) hw hl.1 (mX7_rue (l := l) v2 σ10 _ hq) vw_X7_197 (by decide) (mt_obj _) rfl rfl rfl (Nat.le_of_ble_eq_true rfl) (by decide) dX7_isSoDanced_32) hw (fun H locs hw => ?_)
  clear hq
  refine lv_aload_n (pc := 35) hx hb dX7_isSoDanced_35 rfl (lv_at hl 1 rfl) ?_
  refine lv_iload_n (pc := 36) hx hb dX7_isSoDanced_36 rfl (lv_at hl 4 rfl) ?_
  refine lv_iconst (pc := 37) (v := 1) hx hb dX7_isSoDanced_37 (by decide) ?_
  obtain ⟨r13, σ14, hq, hF⟩ := rp_bd_e hF
  refine rp_ki (rp_runV (rest := [.int r11, .int r9, .int 0, .ref (a 0)]) hC (mE_ok _) hw hl.1 (mX7_guestIs (l := l) v3 1 σ12 _ hq) vw_X7_165 (by decide) (mt_obj _) rfl rfl rfl (Nat.le_of_ble_eq_true rfl) (by decide) dX7_isSoDanced_38) hw (fun H locs hw => ?_)
  clear hq
  obtain ⟨r15, σ16, hq, hF⟩ := rp_bd_e hF
  refine rp_ki (rp_runV (rest := []) hC (mE_ok _) hw hl.1 (mX7_given (l := l) 0 r9 r11 r13 σ14 _ hq) vw_X7_155 (by decide) (mt_obj _) rfl rfl rfl (Nat.le_of_ble_eq_true rfl) (by decide) dX7_isSoDanced_41) hw (fun H locs hw => ?_)
  clear hq
  refine lv_istore (pc := 44) (lv' := [(5, .int r15), (4, .int r7), (0, .ref (a 0)), (1, .int v1), (2, .int v2), (3, .int v3)]) hx hb dX7_isSoDanced_44 hl (by decide) rfl (fun ls hl => ?_)
  refine lv_iconst (pc := 46) (v := 1) hx hb dX7_isSoDanced_46 (by decide) ?_
  refine lv_istore (pc := 47) (lv' := [(6, .int 1), (5, .int r15), (4, .int r7), (0, .ref (a 0)), (1, .int v1), (2, .int v2), (3, .int v3)]) hx hb dX7_isSoDanced_47 hl (by decide) rfl (fun ls hl => ?_)
  refine lv_iconst (pc := 49) (v := 0) hx hb dX7_isSoDanced_49 (by decide) ?_
  refine lv_istore (pc := 50) (lv' := [(7, .int 0), (6, .int 1), (5, .int r15), (4, .int r7), (0, .ref (a 0)), (1, .int v1), (2, .int v2), (3, .int v3)]) hx hb dX7_isSoDanced_50 hl (by decide) rfl (fun ls hl => ?_)
  exact lX7_isSoDanced_52 hC 300 v1 v2 v3 r7 r15 1 0 σ16 _ _ _ hF hw (lv_sub hl [4, 5, 6, 7, 3, 2, 1, 0] rfl)
theorem mX7_isSoDanced {l : Launch} {D : va_G} {cI cT : ClassId} {ad av a : Nat → Nat} (v1 : Int32) (v2 : Int32) (v3 : Int32) (σ : rp_St) (res : Int32 × rp_St) (hF : fX7_isSoDanced v1 v2 v3 σ = some res) : mM l D cI cT ad av a yX7_isSoDanced cX7_isSoDanced 8 (some .boolean) 4 [.ref (a 0), .int v1, .int v2, .int v3] σ (rp_Qi D a (mt cI cT ad a) 15 res) :=
  rp_entry (by decide) (Nat.le_of_ble_eq_true rfl) (fun p e s m below meth c ls hC hw hl => kX7_isSoDanced_0 hC v1 v2 v3 σ _ _ _ hF hw (lv_sub hl [0, 1, 2, 3] rfl))
def fX7_isSheet (v0 : Int32) (σ : rp_St) : Option (Int32 × rp_St) :=
  rp_bd (fX7_within v0 0 3 σ) (fun r1 σ2 => rp_gu (r1 == 0 || r1 == 1) (some (r1, σ2)))
set_option maxRecDepth 100000 in
set_option maxHeartbeats 4000000 in
theorem kX7_isSheet_0 {p : Program} {l : Launch} {e : Env} {s : State} {m : MethodId} {args : Array Value} {below : List Frame} {meth : Method} {c : Code} {D : va_G} {cI cT : ClassId} {ad av a : Nat → Nat} {res : Int32 × rp_St} (hC : mC p s m args meth c cX7_isSheet 1 "RegretPegsModel" (some .boolean) D cI cT ad av a) (v0 : Int32) (σ : rp_St) (H : Heap) (locs : List Loc) (ls : Array Slot) (hF : fX7_isSheet v0 σ = some res) (hw : mW D cI cT ad av a s σ H locs) (hl : lv_has ls 1 [(0, .int v0)]) : W p l e (rp_rm 2) s m args below meth c H locs 0 0 (MQ below (rp_Qi D a (mt cI cT ad a) 15 res) args s 0 0 (rp_A a 15)) (F0 m 0 ls []) := by
  have hx := hC.1
  have hb := hC.2.1
  have hown := hC.2.2.2.1
  have hts := hC.2.2.2.2.1
  unfold fX7_isSheet at hF
  refine lv_iload_n (pc := 0) hx hb dX7_isSheet_0 rfl (lv_at hl 0 rfl) ?_
  refine lv_iconst (pc := 1) (v := 0) hx hb dX7_isSheet_1 (by decide) ?_
  refine lv_iconst (pc := 2) (v := 3) hx hb dX7_isSheet_2 (by decide) ?_
  obtain ⟨r1, σ2, hq, hF⟩ := rp_bd_e hF
  refine rp_ki (rp_runZ (rest := []) hC (mE_ok _) hw hl.1 (mX7_within (l := l) v0 0 3 σ _ hq) zw_X7_73 rfl rfl (Nat.le_of_ble_eq_true rfl) (by decide) dX7_isSheet_3) hw (fun H locs hw => ?_)
  clear hq
  obtain ⟨hg, hF⟩ := rp_gu_e hF
  exact rp_retz (pc := 6) hC hw hg hF dX7_isSheet_6
theorem mX7_isSheet {l : Launch} {D : va_G} {cI cT : ClassId} {ad av a : Nat → Nat} (v0 : Int32) (σ : rp_St) (res : Int32 × rp_St) (hF : fX7_isSheet v0 σ = some res) : mM l D cI cT ad av a yX7_isSheet cX7_isSheet 1 (some .boolean) 2 [.int v0] σ (rp_Qi D a (mt cI cT ad a) 15 res) :=
  rp_entry (by decide) (Nat.le_of_ble_eq_true rfl) (fun p e s m below meth c ls hC hw hl => kX7_isSheet_0 hC v0 σ _ _ _ hF hw (lv_sub hl [0] rfl))
def fX7_whoDanced_16 (σ : rp_St) : Option (Int32 × rp_St) :=
  rp_bd (fX7_finding (-1000000001) σ) (fun r1 σ2 => some (r1, σ2))
set_option maxRecDepth 100000 in
set_option maxHeartbeats 4000000 in
theorem kX7_whoDanced_16 {p : Program} {l : Launch} {e : Env} {s : State} {m : MethodId} {args : Array Value} {below : List Frame} {meth : Method} {c : Code} {D : va_G} {cI cT : ClassId} {ad av a : Nat → Nat} {res : Int32 × rp_St} (hC : mC p s m args meth c cX7_whoDanced 8 "RegretPegsModel" (some .int) D cI cT ad av a) (σ : rp_St) (H : Heap) (locs : List Loc) (ls : Array Slot) (hF : fX7_whoDanced_16 σ = some res) (hw : mW D cI cT ad av a s σ H locs) (hl : lv_has ls 8 [(0, .ref (a 0))]) : W p l e (rp_rm 5) s m args below meth c H locs 0 0 (MQ below (rp_Qi D a (mt cI cT ad a) 15 res) args s 0 0 (rp_A a 15)) (F0 m 16 ls []) := by
  have hx := hC.1
  have hb := hC.2.1
  have hown := hC.2.2.2.1
  have hts := hC.2.2.2.2.1
  unfold fX7_whoDanced_16 at hF
  refine lv_aload_n (pc := 16) hx hb dX7_whoDanced_16 rfl (lv_at hl 0 rfl) ?_
  refine lv_ldc (pc := 17) (v := (-1000000001)) hx hb hown (hts _ wd_721) dX7_whoDanced_17 ?_
  obtain ⟨r1, σ2, hq, hF⟩ := rp_bd_e hF
  refine rp_ki (rp_runV (rest := []) hC (mE_ok _) hw hl.1 (mX7_finding (l := l) (-1000000001) σ _ hq) vw_X7_78 (by decide) (mt_obj _) rfl rfl rfl (Nat.le_of_ble_eq_true rfl) (by decide) dX7_whoDanced_19) hw (fun H locs hw => ?_)
  clear hq
  exact rp_reti (pc := 22) hC hw hF dX7_whoDanced_22
def fX7_whoDanced_47 (σ : rp_St) : Option (Int32 × rp_St) :=
  rp_bd (fX7_finding (-1000000002) σ) (fun r1 σ2 => some (r1, σ2))
set_option maxRecDepth 100000 in
set_option maxHeartbeats 4000000 in
theorem kX7_whoDanced_47 {p : Program} {l : Launch} {e : Env} {s : State} {m : MethodId} {args : Array Value} {below : List Frame} {meth : Method} {c : Code} {D : va_G} {cI cT : ClassId} {ad av a : Nat → Nat} {res : Int32 × rp_St} (hC : mC p s m args meth c cX7_whoDanced 8 "RegretPegsModel" (some .int) D cI cT ad av a) (σ : rp_St) (H : Heap) (locs : List Loc) (ls : Array Slot) (hF : fX7_whoDanced_47 σ = some res) (hw : mW D cI cT ad av a s σ H locs) (hl : lv_has ls 8 [(0, .ref (a 0))]) : W p l e (rp_rm 5) s m args below meth c H locs 0 0 (MQ below (rp_Qi D a (mt cI cT ad a) 15 res) args s 0 0 (rp_A a 15)) (F0 m 47 ls []) := by
  have hx := hC.1
  have hb := hC.2.1
  have hown := hC.2.2.2.1
  have hts := hC.2.2.2.2.1
  unfold fX7_whoDanced_47 at hF
  refine lv_aload_n (pc := 47) hx hb dX7_whoDanced_47 rfl (lv_at hl 0 rfl) ?_
  refine lv_ldc (pc := 48) (v := (-1000000002)) hx hb hown (hts _ wd_989) dX7_whoDanced_48 ?_
  obtain ⟨r1, σ2, hq, hF⟩ := rp_bd_e hF
  refine rp_ki (rp_runV (rest := []) hC (mE_ok _) hw hl.1 (mX7_finding (l := l) (-1000000002) σ _ hq) vw_X7_78 (by decide) (mt_obj _) rfl rfl rfl (Nat.le_of_ble_eq_true rfl) (by decide) dX7_whoDanced_50) hw (fun H locs hw => ?_)
  clear hq
  exact rp_reti (pc := 53) hC hw hF dX7_whoDanced_53
def fX7_whoDanced_137 (k62 : Int32 → Int32 → Int32 → Int32 → Int32 → rp_St → Option (Int32 × rp_St)) (k79 : Int32 → Int32 → Int32 → Int32 → Int32 → Int32 → rp_St → Option (Int32 × rp_St)) (v1 : Int32) (v2 : Int32) (v3 : Int32) (v5 : Int32) (v6 : Int32) (t0 : Int32) (σ : rp_St) : Option (Int32 × rp_St) :=
  rp_nm (v6 + 1) (fun x1 => k79 v1 v2 v3 t0 v5 x1 σ)
set_option maxRecDepth 100000 in
set_option maxHeartbeats 4000000 in
theorem kX7_whoDanced_137 {p : Program} {l : Launch} {e : Env} {s : State} {m : MethodId} {args : Array Value} {below : List Frame} {meth : Method} {c : Code} {D : va_G} {cI cT : ClassId} {ad av a : Nat → Nat} {res : Int32 × rp_St} (hC : mC p s m args meth c cX7_whoDanced 8 "RegretPegsModel" (some .int) D cI cT ad av a) (k62 : Int32 → Int32 → Int32 → Int32 → Int32 → rp_St → Option (Int32 × rp_St)) (hk62 : ∀ (v1 : Int32) (v2 : Int32) (v3 : Int32) (v4 : Int32) (v5 : Int32) (σ : rp_St) (H : Heap) (locs : List Loc) (ls : Array Slot), k62 v1 v2 v3 v4 v5 σ = some res → mW D cI cT ad av a s σ H locs → lv_has ls 8 [(0, .ref (a 0)), (1, .int v1), (2, .int v2), (3, .int v3), (4, .int v4), (5, .int v5)] → W p l e (rp_rm 5) s m args below meth c H locs 0 0 (MQ below (rp_Qi D a (mt cI cT ad a) 15 res) args s 0 0 (rp_A a 15)) (F0 m 62 ls [])) (k79 : Int32 → Int32 → Int32 → Int32 → Int32 → Int32 → rp_St → Option (Int32 × rp_St)) (hk79 : ∀ (v1 : Int32) (v2 : Int32) (v3 : Int32) (v4 : Int32) (v5 : Int32) (v6 : Int32) (σ : rp_St) (H : Heap) (locs : List Loc) (ls : Array Slot), k79 v1 v2 v3 v4 v5 v6 σ = some res → mW D cI cT ad av a s σ H locs → lv_has ls 8 [(0, .ref (a 0)), (1, .int v1), (2, .int v2), (3, .int v3), (4, .int v4), (5, .int v5), (6, .int v6)] → W p l e (rp_rm 5) s m args below meth c H locs 0 0 (MQ below (rp_Qi D a (mt cI cT ad a) 15 res) args s 0 0 (rp_A a 15)) (F0 m 79 ls [])) (v1 : Int32) (v2 : Int32) (v3 : Int32) (v5 : Int32) (v6 : Int32) (t0 : Int32) (σ : rp_St) (H : Heap) (locs : List Loc) (ls : Array Slot) (hF : fX7_whoDanced_137 k62 k79 v1 v2 v3 v5 v6 t0 σ = some res) (hw : mW D cI cT ad av a s σ H locs) (hl : lv_has ls 8 [(0, .ref (a 0)), (1, .int v1), (2, .int v2), (3, .int v3), (5, .int v5), (6, .int v6)]) : W p l e (rp_rm 5) s m args below meth c H locs 0 0 (MQ below (rp_Qi D a (mt cI cT ad a) 15 res) args s 0 0 (rp_A a 15)) (F0 m 137 ls [.int t0]) := by
  have hx := hC.1
  have hb := hC.2.1
  have hown := hC.2.2.2.1
  have hts := hC.2.2.2.2.1
  unfold fX7_whoDanced_137 at hF
  refine lv_istore (pc := 137) (lv' := [(4, .int t0), (0, .ref (a 0)), (1, .int v1), (2, .int v2), (3, .int v3), (5, .int v5), (6, .int v6)]) hx hb dX7_whoDanced_137 hl (by decide) rfl (fun ls hl => ?_)
  obtain ⟨x1, ex1, hF⟩ := rp_nm_e hF
  refine lv_iinc (pc := 139) (v := x1) (lv' := [(6, .int x1), (4, .int t0), (0, .ref (a 0)), (1, .int v1), (2, .int v2), (3, .int v3), (5, .int v5)]) hx hb dX7_whoDanced_139 hl (k := 6) rfl (by rw [ex1]; rfl) (by decide) rfl (fun ls hl => ?_)
  refine lv_goto (pc := 142) (tgt := 79) hx hb dX7_whoDanced_142 (by decide) ?_
  exact hk79 v1 v2 v3 t0 v5 x1 σ _ _ _ hF hw (lv_sub hl [2, 3, 4, 5, 1, 6, 0] rfl)
def fX7_whoDanced_135 (k62 : Int32 → Int32 → Int32 → Int32 → Int32 → rp_St → Option (Int32 × rp_St)) (k79 : Int32 → Int32 → Int32 → Int32 → Int32 → Int32 → rp_St → Option (Int32 × rp_St)) (v1 : Int32) (v2 : Int32) (v3 : Int32) (v4 : Int32) (v5 : Int32) (v6 : Int32) (σ : rp_St) : Option (Int32 × rp_St) :=
  fX7_whoDanced_137 k62 k79 v1 v2 v3 v5 v6 v4 σ
set_option maxRecDepth 100000 in
set_option maxHeartbeats 4000000 in
theorem kX7_whoDanced_135 {p : Program} {l : Launch} {e : Env} {s : State} {m : MethodId} {args : Array Value} {below : List Frame} {meth : Method} {c : Code} {D : va_G} {cI cT : ClassId} {ad av a : Nat → Nat} {res : Int32 × rp_St} (hC : mC p s m args meth c cX7_whoDanced 8 "RegretPegsModel" (some .int) D cI cT ad av a) (k62 : Int32 → Int32 → Int32 → Int32 → Int32 → rp_St → Option (Int32 × rp_St)) (hk62 : ∀ (v1 : Int32) (v2 : Int32) (v3 : Int32) (v4 : Int32) (v5 : Int32) (σ : rp_St) (H : Heap) (locs : List Loc) (ls : Array Slot), k62 v1 v2 v3 v4 v5 σ = some res → mW D cI cT ad av a s σ H locs → lv_has ls 8 [(0, .ref (a 0)), (1, .int v1), (2, .int v2), (3, .int v3), (4, .int v4), (5, .int v5)] → W p l e (rp_rm 5) s m args below meth c H locs 0 0 (MQ below (rp_Qi D a (mt cI cT ad a) 15 res) args s 0 0 (rp_A a 15)) (F0 m 62 ls [])) (k79 : Int32 → Int32 → Int32 → Int32 → Int32 → Int32 → rp_St → Option (Int32 × rp_St)) (hk79 : ∀ (v1 : Int32) (v2 : Int32) (v3 : Int32) (v4 : Int32) (v5 : Int32) (v6 : Int32) (σ : rp_St) (H : Heap) (locs : List Loc) (ls : Array Slot), k79 v1 v2 v3 v4 v5 v6 σ = some res → mW D cI cT ad av a s σ H locs → lv_has ls 8 [(0, .ref (a 0)), (1, .int v1), (2, .int v2), (3, .int v3), (4, .int v4), (5, .int v5), (6, .int v6)] → W p l e (rp_rm 5) s m args below meth c H locs 0 0 (MQ below (rp_Qi D a (mt cI cT ad a) 15 res) args s 0 0 (rp_A a 15)) (F0 m 79 ls [])) (v1 : Int32) (v2 : Int32) (v3 : Int32) (v4 : Int32) (v5 : Int32) (v6 : Int32) (σ : rp_St) (H : Heap) (locs : List Loc) (ls : Array Slot) (hF : fX7_whoDanced_135 k62 k79 v1 v2 v3 v4 v5 v6 σ = some res) (hw : mW D cI cT ad av a s σ H locs) (hl : lv_has ls 8 [(0, .ref (a 0)), (1, .int v1), (2, .int v2), (3, .int v3), (4, .int v4), (5, .int v5), (6, .int v6)]) : W p l e (rp_rm 5) s m args below meth c H locs 0 0 (MQ below (rp_Qi D a (mt cI cT ad a) 15 res) args s 0 0 (rp_A a 15)) (F0 m 135 ls []) := by
  have hx := hC.1
  have hb := hC.2.1
  have hown := hC.2.2.2.1
  have hts := hC.2.2.2.2.1
  unfold fX7_whoDanced_135 at hF
  refine lv_iload (pc := 135) hx hb dX7_whoDanced_135 (lv_at hl 4 rfl) ?_
  exact kX7_whoDanced_137 hC k62 hk62 k79 hk79 v1 v2 v3 v5 v6 v4 σ _ _ _ hF hw (lv_sub hl [0, 1, 2, 3, 5, 6] rfl)
def fX7_whoDanced_112 (k62 : Int32 → Int32 → Int32 → Int32 → Int32 → rp_St → Option (Int32 × rp_St)) (k79 : Int32 → Int32 → Int32 → Int32 → Int32 → Int32 → rp_St → Option (Int32 × rp_St)) (v1 : Int32) (v2 : Int32) (v4 : Int32) (v5 : Int32) (v6 : Int32) (v7 : Int32) (t0 : Int32) (t1 : Int32) (σ : rp_St) : Option (Int32 × rp_St) :=
  rp_nm (t1 + t0) (fun x1 => (if v7 = 0 then fX7_whoDanced_135 k62 k79 v1 v2 x1 v4 v5 v6 σ else (if 0 ≤ v4 then fX7_whoDanced_135 k62 k79 v1 v2 x1 v4 v5 v6 σ else fX7_whoDanced_137 k62 k79 v1 v2 x1 v5 v6 ((10 * v5) + v6) σ)))
set_option maxRecDepth 100000 in
set_option maxHeartbeats 4000000 in
theorem kX7_whoDanced_112 {p : Program} {l : Launch} {e : Env} {s : State} {m : MethodId} {args : Array Value} {below : List Frame} {meth : Method} {c : Code} {D : va_G} {cI cT : ClassId} {ad av a : Nat → Nat} {res : Int32 × rp_St} (hC : mC p s m args meth c cX7_whoDanced 8 "RegretPegsModel" (some .int) D cI cT ad av a) (k62 : Int32 → Int32 → Int32 → Int32 → Int32 → rp_St → Option (Int32 × rp_St)) (hk62 : ∀ (v1 : Int32) (v2 : Int32) (v3 : Int32) (v4 : Int32) (v5 : Int32) (σ : rp_St) (H : Heap) (locs : List Loc) (ls : Array Slot), k62 v1 v2 v3 v4 v5 σ = some res → mW D cI cT ad av a s σ H locs → lv_has ls 8 [(0, .ref (a 0)), (1, .int v1), (2, .int v2), (3, .int v3), (4, .int v4), (5, .int v5)] → W p l e (rp_rm 5) s m args below meth c H locs 0 0 (MQ below (rp_Qi D a (mt cI cT ad a) 15 res) args s 0 0 (rp_A a 15)) (F0 m 62 ls [])) (k79 : Int32 → Int32 → Int32 → Int32 → Int32 → Int32 → rp_St → Option (Int32 × rp_St)) (hk79 : ∀ (v1 : Int32) (v2 : Int32) (v3 : Int32) (v4 : Int32) (v5 : Int32) (v6 : Int32) (σ : rp_St) (H : Heap) (locs : List Loc) (ls : Array Slot), k79 v1 v2 v3 v4 v5 v6 σ = some res → mW D cI cT ad av a s σ H locs → lv_has ls 8 [(0, .ref (a 0)), (1, .int v1), (2, .int v2), (3, .int v3), (4, .int v4), (5, .int v5), (6, .int v6)] → W p l e (rp_rm 5) s m args below meth c H locs 0 0 (MQ below (rp_Qi D a (mt cI cT ad a) 15 res) args s 0 0 (rp_A a 15)) (F0 m 79 ls [])) (v1 : Int32) (v2 : Int32) (v4 : Int32) (v5 : Int32) (v6 : Int32) (v7 : Int32) (t0 : Int32) (t1 : Int32) (σ : rp_St) (H : Heap) (locs : List Loc) (ls : Array Slot) (hF : fX7_whoDanced_112 k62 k79 v1 v2 v4 v5 v6 v7 t0 t1 σ = some res) (hw : mW D cI cT ad av a s σ H locs) (hl : lv_has ls 8 [(0, .ref (a 0)), (1, .int v1), (2, .int v2), (4, .int v4), (5, .int v5), (6, .int v6), (7, .int v7)]) : W p l e (rp_rm 5) s m args below meth c H locs 0 0 (MQ below (rp_Qi D a (mt cI cT ad a) 15 res) args s 0 0 (rp_A a 15)) (F0 m 112 ls [.int t0, .int t1]) := by
  have hx := hC.1
  have hb := hC.2.1
  have hown := hC.2.2.2.1
  have hts := hC.2.2.2.2.1
  unfold fX7_whoDanced_112 at hF
  refine lv_iadd (pc := 112) hx hb dX7_whoDanced_112 ?_
  obtain ⟨x1, ex1, hF⟩ := rp_nm_e hF
  refine rp_top ex1 ?_
  refine lv_istore_n (pc := 113) (lv' := [(3, .int x1), (0, .ref (a 0)), (1, .int v1), (2, .int v2), (4, .int v4), (5, .int v5), (6, .int v6), (7, .int v7)]) hx hb dX7_whoDanced_113 rfl hl (by decide) rfl (fun ls hl => ?_)
  refine lv_iload (pc := 114) hx hb dX7_whoDanced_114 (lv_at hl 7 rfl) ?_
  refine lv_if_eq (pc := 116) (tgt := 135) hx hb dX7_whoDanced_116 (by decide) (fun hc => ?_) (fun hc => ?_)
  · replace hF := rp_it hc hF
    exact kX7_whoDanced_135 hC k62 hk62 k79 hk79 v1 v2 x1 v4 v5 v6 σ _ _ _ hF hw (lv_sub hl [1, 2, 3, 0, 4, 5, 6] rfl)
  · replace hF := rp_if hc hF
    refine lv_iload (pc := 119) hx hb dX7_whoDanced_119 (lv_at hl 4 rfl) ?_
    refine lv_if_ge (pc := 121) (tgt := 135) hx hb dX7_whoDanced_121 (by decide) (fun hc => ?_) (fun hc => ?_)
    · replace hF := rp_it hc hF
      exact kX7_whoDanced_135 hC k62 hk62 k79 hk79 v1 v2 x1 v4 v5 v6 σ _ _ _ hF hw (lv_sub hl [1, 2, 3, 0, 4, 5, 6] rfl)
    · replace hF := rp_if hc hF
      refine lv_bipush (pc := 124) (v := 10) hx hb dX7_whoDanced_124 (by decide) ?_
      refine lv_iload (pc := 126) hx hb dX7_whoDanced_126 (lv_at hl 5 rfl) ?_
      refine lv_imul (pc := 128) hx hb dX7_whoDanced_128 ?_
      refine lv_iload (pc := 129) hx hb dX7_whoDanced_129 (lv_at hl 6 rfl) ?_
      refine lv_iadd (pc := 131) hx hb dX7_whoDanced_131 ?_
      refine lv_goto (pc := 132) (tgt := 137) hx hb dX7_whoDanced_132 (by decide) ?_
      exact kX7_whoDanced_137 hC k62 hk62 k79 hk79 v1 v2 x1 v5 v6 ((10 * v5) + v6) σ _ _ _ hF hw (lv_sub hl [1, 2, 3, 0, 5, 6] rfl)
def fX7_whoDanced_79 (k62 : Int32 → Int32 → Int32 → Int32 → Int32 → rp_St → Option (Int32 × rp_St)) (k79 : Int32 → Int32 → Int32 → Int32 → Int32 → Int32 → rp_St → Option (Int32 × rp_St)) (v1 : Int32) (v2 : Int32) (v3 : Int32) (v4 : Int32) (v5 : Int32) (v6 : Int32) (σ : rp_St) : Option (Int32 × rp_St) :=
  rp_gu (rp_in 1 221) ((if (σ 1 (1 : Int32).toNatClampNeg) ≤ v6 then rp_nm (v5 + 1) (fun x1 => k62 v1 v2 v3 v4 x1 σ) else rp_bd (fX7_isSoDanced v1 v5 v6 σ) (fun r2 σ3 => (if r2 = 0 then fX7_whoDanced_112 k62 k79 v1 v2 v4 v5 v6 r2 0 v3 σ3 else fX7_whoDanced_112 k62 k79 v1 v2 v4 v5 v6 r2 1 v3 σ3))))
set_option maxRecDepth 100000 in
set_option maxHeartbeats 4000000 in
theorem kX7_whoDanced_79 {p : Program} {l : Launch} {e : Env} {s : State} {m : MethodId} {args : Array Value} {below : List Frame} {meth : Method} {c : Code} {D : va_G} {cI cT : ClassId} {ad av a : Nat → Nat} {res : Int32 × rp_St} (hC : mC p s m args meth c cX7_whoDanced 8 "RegretPegsModel" (some .int) D cI cT ad av a) (k62 : Int32 → Int32 → Int32 → Int32 → Int32 → rp_St → Option (Int32 × rp_St)) (hk62 : ∀ (v1 : Int32) (v2 : Int32) (v3 : Int32) (v4 : Int32) (v5 : Int32) (σ : rp_St) (H : Heap) (locs : List Loc) (ls : Array Slot), k62 v1 v2 v3 v4 v5 σ = some res → mW D cI cT ad av a s σ H locs → lv_has ls 8 [(0, .ref (a 0)), (1, .int v1), (2, .int v2), (3, .int v3), (4, .int v4), (5, .int v5)] → W p l e (rp_rm 5) s m args below meth c H locs 0 0 (MQ below (rp_Qi D a (mt cI cT ad a) 15 res) args s 0 0 (rp_A a 15)) (F0 m 62 ls [])) (k79 : Int32 → Int32 → Int32 → Int32 → Int32 → Int32 → rp_St → Option (Int32 × rp_St)) (hk79 : ∀ (v1 : Int32) (v2 : Int32) (v3 : Int32) (v4 : Int32) (v5 : Int32) (v6 : Int32) (σ : rp_St) (H : Heap) (locs : List Loc) (ls : Array Slot), k79 v1 v2 v3 v4 v5 v6 σ = some res → mW D cI cT ad av a s σ H locs → lv_has ls 8 [(0, .ref (a 0)), (1, .int v1), (2, .int v2), (3, .int v3), (4, .int v4), (5, .int v5), (6, .int v6)] → W p l e (rp_rm 5) s m args below meth c H locs 0 0 (MQ below (rp_Qi D a (mt cI cT ad a) 15 res) args s 0 0 (rp_A a 15)) (F0 m 79 ls [])) (v1 : Int32) (v2 : Int32) (v3 : Int32) (v4 : Int32) (v5 : Int32) (v6 : Int32) (σ : rp_St) (H : Heap) (locs : List Loc) (ls : Array Slot) (hF : fX7_whoDanced_79 k62 k79 v1 v2 v3 v4 v5 v6 σ = some res) (hw : mW D cI cT ad av a s σ H locs) (hl : lv_has ls 8 [(0, .ref (a 0)), (1, .int v1), (2, .int v2), (3, .int v3), (4, .int v4), (5, .int v5), (6, .int v6)]) : W p l e (rp_rm 5) s m args below meth c H locs 0 0 (MQ below (rp_Qi D a (mt cI cT ad a) 15 res) args s 0 0 (rp_A a 15)) (F0 m 79 ls []) := by
  have hx := hC.1
  have hb := hC.2.1
  have hown := hC.2.2.2.1
  have hts := hC.2.2.2.2.1
  unfold fX7_whoDanced_79 at hF
  refine lv_iload (pc := 79) hx hb dX7_whoDanced_79 (lv_at hl 6 rfl) ?_
  refine lv_aload_n (pc := 81) hx hb dX7_whoDanced_81 rfl (lv_at hl 0 rfl) ?_
  refine rp_get (pc := 82) hC hw 0 (by decide) (mt_obj _) fl_X7_9 (.ref (a 1)) rfl dX7_whoDanced_82 ?_
  refine lv_iconst (pc := 85) (v := 1) hx hb dX7_whoDanced_85 (by decide) ?_
  obtain ⟨hg, hF⟩ := rp_gu_e hF
  refine rp_ald (pc := 86) hC hw 1 (by decide) (mt_arr 1 221 rfl) 0 rfl hg dX7_whoDanced_86 ?_
  refine lv_icmp_ge (pc := 87) (tgt := 145) hx hb dX7_whoDanced_87 (by decide) (fun hc => ?_) (fun hc => ?_)
  · replace hF := rp_it hc hF
    obtain ⟨x1, ex1, hF⟩ := rp_nm_e hF
    refine lv_iinc (pc := 145) (v := x1) (lv' := [(5, .int x1), (0, .ref (a 0)), (1, .int v1), (2, .int v2), (3, .int v3), (4, .int v4), (6, .int v6)]) hx hb dX7_whoDanced_145 hl (k := 5) rfl (by rw [ex1]; rfl) (by decide) rfl (fun ls hl => ?_)
    refine lv_goto (pc := 148) (tgt := 62) hx hb dX7_whoDanced_148 (by decide) ?_
    exact hk62 v1 v2 v3 v4 x1 σ _ _ _ hF hw (lv_sub hl [1, 2, 3, 4, 5, 0] rfl)
  · replace hF := rp_if hc hF
    refine lv_aload_n (pc := 90) hx hb dX7_whoDanced_90 rfl (lv_at hl 0 rfl) ?_
    refine lv_iload_n (pc := 91) hx hb dX7_whoDanced_91 rfl (lv_at hl 1 rfl) ?_
    refine lv_iload (pc := 92) hx hb dX7_whoDanced_92 (lv_at hl 5 rfl) ?_
    refine lv_iload (pc := 94) hx hb dX7_whoDanced_94 (lv_at hl 6 rfl) ?_
    obtain ⟨r2, σ3, hq, hF⟩ := rp_bd_e hF
    refine rp_ki (rp_runV (rest := []) hC (mE_ok _) hw hl.1 (mX7_isSoDanced (l := l) v1 v5 v6 σ _ hq) vw_X7_253 (by decide) (mt_obj _) rfl rfl rfl (Nat.le_of_ble_eq_true rfl) (by decide) dX7_whoDanced_96) hw (fun H locs hw => ?_)
    clear hq
    refine lv_istore (pc := 99) (lv' := [(7, .int r2), (0, .ref (a 0)), (1, .int v1), (2, .int v2), (3, .int v3), (4, .int v4), (5, .int v5), (6, .int v6)]) hx hb dX7_whoDanced_99 hl (by decide) rfl (fun ls hl => ?_)
    refine lv_iload_n (pc := 101) hx hb dX7_whoDanced_101 rfl (lv_at hl 4 rfl) ?_
    refine lv_iload (pc := 102) hx hb dX7_whoDanced_102 (lv_at hl 0 rfl) ?_
    refine lv_if_eq (pc := 104) (tgt := 111) hx hb dX7_whoDanced_104 (by decide) (fun hc => ?_) (fun hc => ?_)
    · replace hF := rp_it hc hF
      refine lv_iconst (pc := 111) (v := 0) hx hb dX7_whoDanced_111 (by decide) ?_
      exact kX7_whoDanced_112 hC k62 hk62 k79 hk79 v1 v2 v4 v5 v6 r2 0 v3 σ3 _ _ _ hF hw (lv_sub hl [1, 2, 3, 5, 6, 7, 0] rfl)
    · replace hF := rp_if hc hF
      refine lv_iconst (pc := 107) (v := 1) hx hb dX7_whoDanced_107 (by decide) ?_
      refine lv_goto (pc := 108) (tgt := 112) hx hb dX7_whoDanced_108 (by decide) ?_
      exact kX7_whoDanced_112 hC k62 hk62 k79 hk79 v1 v2 v4 v5 v6 r2 1 v3 σ3 _ _ _ hF hw (lv_sub hl [1, 2, 3, 5, 6, 7, 0] rfl)
theorem lX7_whoDanced_79 {p : Program} {l : Launch} {e : Env} {s : State} {m : MethodId} {args : Array Value} {below : List Frame} {meth : Method} {c : Code} {D : va_G} {cI cT : ClassId} {ad av a : Nat → Nat} {res : Int32 × rp_St} (hC : mC p s m args meth c cX7_whoDanced 8 "RegretPegsModel" (some .int) D cI cT ad av a) (k62 : Int32 → Int32 → Int32 → Int32 → Int32 → rp_St → Option (Int32 × rp_St)) (hk62 : ∀ (v1 : Int32) (v2 : Int32) (v3 : Int32) (v4 : Int32) (v5 : Int32) (σ : rp_St) (H : Heap) (locs : List Loc) (ls : Array Slot), k62 v1 v2 v3 v4 v5 σ = some res → mW D cI cT ad av a s σ H locs → lv_has ls 8 [(0, .ref (a 0)), (1, .int v1), (2, .int v2), (3, .int v3), (4, .int v4), (5, .int v5)] → W p l e (rp_rm 5) s m args below meth c H locs 0 0 (MQ below (rp_Qi D a (mt cI cT ad a) 15 res) args s 0 0 (rp_A a 15)) (F0 m 62 ls [])) : ∀ (n : Nat) (v1 : Int32) (v2 : Int32) (v3 : Int32) (v4 : Int32) (v5 : Int32) (v6 : Int32) (σ : rp_St) (H : Heap) (locs : List Loc) (ls : Array Slot), rp_lp (fun _ _ _ _ _ _ _ => none) (fX7_whoDanced_79 k62) n v1 v2 v3 v4 v5 v6 σ = some res → mW D cI cT ad av a s σ H locs → lv_has ls 8 [(0, .ref (a 0)), (1, .int v1), (2, .int v2), (3, .int v3), (4, .int v4), (5, .int v5), (6, .int v6)] → W p l e (rp_rm 5) s m args below meth c H locs 0 0 (MQ below (rp_Qi D a (mt cI cT ad a) 15 res) args s 0 0 (rp_A a 15)) (F0 m 79 ls [])
  | 0, _, _, _, _, _, _, _, _, _, _, hF, _, _ => nomatch hF
  | n + 1, v1, v2, v3, v4, v5, v6, σ, H, locs, ls, hF, hw, hl => kX7_whoDanced_79 hC k62 hk62 (rp_lp (fun _ _ _ _ _ _ _ => none) (fX7_whoDanced_79 k62) n) (lX7_whoDanced_79 hC k62 hk62 n) v1 v2 v3 v4 v5 v6 σ H locs ls hF hw hl
def fX7_whoDanced_62 (k62 : Int32 → Int32 → Int32 → Int32 → Int32 → rp_St → Option (Int32 × rp_St)) (v1 : Int32) (v2 : Int32) (v3 : Int32) (v4 : Int32) (v5 : Int32) (σ : rp_St) : Option (Int32 × rp_St) :=
  rp_gu (rp_in 1 221) ((if (σ 1 (1 : Int32).toNatClampNeg) ≤ v5 then (if v2 = 0 then some (v3, σ) else (if 0 ≤ v4 then some (v4, σ) else rp_bd (fX7_finding (-1000000002) σ) (fun r1 σ2 => some (r1, σ2)))) else rp_nm (v5 + 1) (fun x3 => rp_lp (fun _ _ _ _ _ _ _ => none) (fX7_whoDanced_79 k62) 300 v1 v2 v3 v4 v5 x3 σ)))
set_option maxRecDepth 100000 in
set_option maxHeartbeats 4000000 in
theorem kX7_whoDanced_62 {p : Program} {l : Launch} {e : Env} {s : State} {m : MethodId} {args : Array Value} {below : List Frame} {meth : Method} {c : Code} {D : va_G} {cI cT : ClassId} {ad av a : Nat → Nat} {res : Int32 × rp_St} (hC : mC p s m args meth c cX7_whoDanced 8 "RegretPegsModel" (some .int) D cI cT ad av a) (k62 : Int32 → Int32 → Int32 → Int32 → Int32 → rp_St → Option (Int32 × rp_St)) (hk62 : ∀ (v1 : Int32) (v2 : Int32) (v3 : Int32) (v4 : Int32) (v5 : Int32) (σ : rp_St) (H : Heap) (locs : List Loc) (ls : Array Slot), k62 v1 v2 v3 v4 v5 σ = some res → mW D cI cT ad av a s σ H locs → lv_has ls 8 [(0, .ref (a 0)), (1, .int v1), (2, .int v2), (3, .int v3), (4, .int v4), (5, .int v5)] → W p l e (rp_rm 5) s m args below meth c H locs 0 0 (MQ below (rp_Qi D a (mt cI cT ad a) 15 res) args s 0 0 (rp_A a 15)) (F0 m 62 ls [])) (v1 : Int32) (v2 : Int32) (v3 : Int32) (v4 : Int32) (v5 : Int32) (σ : rp_St) (H : Heap) (locs : List Loc) (ls : Array Slot) (hF : fX7_whoDanced_62 k62 v1 v2 v3 v4 v5 σ = some res) (hw : mW D cI cT ad av a s σ H locs) (hl : lv_has ls 8 [(0, .ref (a 0)), (1, .int v1), (2, .int v2), (3, .int v3), (4, .int v4), (5, .int v5)]) : W p l e (rp_rm 5) s m args below meth c H locs 0 0 (MQ below (rp_Qi D a (mt cI cT ad a) 15 res) args s 0 0 (rp_A a 15)) (F0 m 62 ls []) := by
  have hx := hC.1
  have hb := hC.2.1
  have hown := hC.2.2.2.1
  have hts := hC.2.2.2.2.1
  unfold fX7_whoDanced_62 at hF
  refine lv_iload (pc := 62) hx hb dX7_whoDanced_62 (lv_at hl 5 rfl) ?_
  refine lv_aload_n (pc := 64) hx hb dX7_whoDanced_64 rfl (lv_at hl 0 rfl) ?_
  refine rp_get (pc := 65) hC hw 0 (by decide) (mt_obj _) fl_X7_9 (.ref (a 1)) rfl dX7_whoDanced_65 ?_
  refine lv_iconst (pc := 68) (v := 1) hx hb dX7_whoDanced_68 (by decide) ?_
  obtain ⟨hg, hF⟩ := rp_gu_e hF
  refine rp_ald (pc := 69) hC hw 1 (by decide) (mt_arr 1 221 rfl) 0 rfl hg dX7_whoDanced_69 ?_
  refine lv_icmp_ge (pc := 70) (tgt := 151) hx hb dX7_whoDanced_70 (by decide) (fun hc => ?_) (fun hc => ?_)
  · replace hF := rp_it hc hF
    refine lv_iload_n (pc := 151) hx hb dX7_whoDanced_151 rfl (lv_at hl 2 rfl) ?_
    refine lv_if_ne (pc := 152) (tgt := 159) hx hb dX7_whoDanced_152 (by decide) (fun hc => ?_) (fun hc => ?_)
    · replace hF := rp_if hc hF
      refine lv_iload (pc := 159) hx hb dX7_whoDanced_159 (lv_at hl 4 rfl) ?_
      refine lv_if_ge (pc := 161) (tgt := 173) hx hb dX7_whoDanced_161 (by decide) (fun hc => ?_) (fun hc => ?_)
      · replace hF := rp_it hc hF
        refine lv_iload (pc := 173) hx hb dX7_whoDanced_173 (lv_at hl 4 rfl) ?_
        exact rp_reti (pc := 175) hC hw hF dX7_whoDanced_175
      · replace hF := rp_if hc hF
        refine lv_aload_n (pc := 164) hx hb dX7_whoDanced_164 rfl (lv_at hl 0 rfl) ?_
        refine lv_ldc (pc := 165) (v := (-1000000002)) hx hb hown (hts _ wd_989) dX7_whoDanced_165 ?_
        obtain ⟨r1, σ2, hq, hF⟩ := rp_bd_e hF
        refine rp_ki (rp_runV (rest := []) hC (mE_ok _) hw hl.1 (mX7_finding (l := l) (-1000000002) σ _ hq) vw_X7_78 (by decide) (mt_obj _) rfl rfl rfl (Nat.le_of_ble_eq_true rfl) (by decide) dX7_whoDanced_167) hw (fun H locs hw => ?_)
        clear hq
        refine lv_goto (pc := 170) (tgt := 175) hx hb dX7_whoDanced_170 (by decide) ?_
        exact rp_reti (pc := 175) hC hw hF dX7_whoDanced_175
    · replace hF := rp_it hc hF
      refine lv_iload_n (pc := 155) hx hb dX7_whoDanced_155 rfl (lv_at hl 3 rfl) ?_
      refine lv_goto (pc := 156) (tgt := 175) hx hb dX7_whoDanced_156 (by decide) ?_
      exact rp_reti (pc := 175) hC hw hF dX7_whoDanced_175
  · replace hF := rp_if hc hF
    refine lv_iload (pc := 73) hx hb dX7_whoDanced_73 (lv_at hl 5 rfl) ?_
    refine lv_iconst (pc := 75) (v := 1) hx hb dX7_whoDanced_75 (by decide) ?_
    refine lv_iadd (pc := 76) hx hb dX7_whoDanced_76 ?_
    obtain ⟨x3, ex3, hF⟩ := rp_nm_e hF
    refine rp_top ex3 ?_
    refine lv_istore (pc := 77) (lv' := [(6, .int x3), (0, .ref (a 0)), (1, .int v1), (2, .int v2), (3, .int v3), (4, .int v4), (5, .int v5)]) hx hb dX7_whoDanced_77 hl (by decide) rfl (fun ls hl => ?_)
    exact lX7_whoDanced_79 hC k62 hk62 300 v1 v2 v3 v4 v5 x3 σ _ _ _ hF hw (lv_sub hl [1, 2, 3, 4, 5, 6, 0] rfl)
theorem lX7_whoDanced_62 {p : Program} {l : Launch} {e : Env} {s : State} {m : MethodId} {args : Array Value} {below : List Frame} {meth : Method} {c : Code} {D : va_G} {cI cT : ClassId} {ad av a : Nat → Nat} {res : Int32 × rp_St} (hC : mC p s m args meth c cX7_whoDanced 8 "RegretPegsModel" (some .int) D cI cT ad av a) : ∀ (n : Nat) (v1 : Int32) (v2 : Int32) (v3 : Int32) (v4 : Int32) (v5 : Int32) (σ : rp_St) (H : Heap) (locs : List Loc) (ls : Array Slot), rp_lp (fun _ _ _ _ _ _ => none) (fX7_whoDanced_62) n v1 v2 v3 v4 v5 σ = some res → mW D cI cT ad av a s σ H locs → lv_has ls 8 [(0, .ref (a 0)), (1, .int v1), (2, .int v2), (3, .int v3), (4, .int v4), (5, .int v5)] → W p l e (rp_rm 5) s m args below meth c H locs 0 0 (MQ below (rp_Qi D a (mt cI cT ad a) 15 res) args s 0 0 (rp_A a 15)) (F0 m 62 ls [])
  | 0, _, _, _, _, _, _, _, _, _, hF, _, _ => nomatch hF
  | n + 1, v1, v2, v3, v4, v5, σ, H, locs, ls, hF, hw, hl => kX7_whoDanced_62 hC (rp_lp (fun _ _ _ _ _ _ => none) (fX7_whoDanced_62) n) (lX7_whoDanced_62 hC n) v1 v2 v3 v4 v5 σ H locs ls hF hw hl
def fX7_whoDanced (v1 : Int32) (v2 : Int32) (σ : rp_St) : Option (Int32 × rp_St) :=
  rp_bd (fX7_isSheet v1 σ) (fun r1 σ2 => (if r1 = 0 then fX7_whoDanced_16 σ2 else rp_bd (fX7_within v2 0 1 σ2) (fun r3 σ4 => (if r3 = 0 then fX7_whoDanced_16 σ4 else rp_gu (rp_in v1 4) ((if (σ4 11 (v1 : Int32).toNatClampNeg) = 0 then fX7_whoDanced_47 σ4 else rp_gu (rp_in v1 4) (rp_gu (rp_in 1 221) ((if (σ4 12 (v1 : Int32).toNatClampNeg) = (σ4 1 (1 : Int32).toNatClampNeg) then rp_lp (fun _ _ _ _ _ _ => none) (fX7_whoDanced_62) 300 v1 v2 0 (-1) 0 σ4 else fX7_whoDanced_47 σ4)))))))))
set_option maxRecDepth 100000 in
set_option maxHeartbeats 4000000 in
theorem kX7_whoDanced_0 {p : Program} {l : Launch} {e : Env} {s : State} {m : MethodId} {args : Array Value} {below : List Frame} {meth : Method} {c : Code} {D : va_G} {cI cT : ClassId} {ad av a : Nat → Nat} {res : Int32 × rp_St} (hC : mC p s m args meth c cX7_whoDanced 8 "RegretPegsModel" (some .int) D cI cT ad av a) (v1 : Int32) (v2 : Int32) (σ : rp_St) (H : Heap) (locs : List Loc) (ls : Array Slot) (hF : fX7_whoDanced v1 v2 σ = some res) (hw : mW D cI cT ad av a s σ H locs) (hl : lv_has ls 8 [(0, .ref (a 0)), (1, .int v1), (2, .int v2)]) : W p l e (rp_rm 5) s m args below meth c H locs 0 0 (MQ below (rp_Qi D a (mt cI cT ad a) 15 res) args s 0 0 (rp_A a 15)) (F0 m 0 ls []) := by
  have hx := hC.1
  have hb := hC.2.1
  have hown := hC.2.2.2.1
  have hts := hC.2.2.2.2.1
  unfold fX7_whoDanced at hF
  refine lv_iload_n (pc := 0) hx hb dX7_whoDanced_0 rfl (lv_at hl 1 rfl) ?_
  obtain ⟨r1, σ2, hq, hF⟩ := rp_bd_e hF
  refine rp_ki (rp_runZ (rest := []) hC (mE_ok _) hw hl.1 (mX7_isSheet (l := l) v1 σ _ hq) zw_X7_250 rfl rfl (Nat.le_of_ble_eq_true rfl) (by decide) dX7_whoDanced_1) hw (fun H locs hw => ?_)
  clear hq
  refine lv_if_eq (pc := 4) (tgt := 16) hx hb dX7_whoDanced_4 (by decide) (fun hc => ?_) (fun hc => ?_)
  · replace hF := rp_it hc hF
    exact kX7_whoDanced_16 hC σ2 _ _ _ hF hw (lv_sub hl [0] rfl)
  · replace hF := rp_if hc hF
    refine lv_iload_n (pc := 7) hx hb dX7_whoDanced_7 rfl (lv_at hl 2 rfl) ?_
    refine lv_iconst (pc := 8) (v := 0) hx hb dX7_whoDanced_8 (by decide) ?_
    refine lv_iconst (pc := 9) (v := 1) hx hb dX7_whoDanced_9 (by decide) ?_
    obtain ⟨r3, σ4, hq, hF⟩ := rp_bd_e hF
    refine rp_ki (rp_runZ (rest := []) hC (mE_ok _) hw hl.1 (mX7_within (l := l) v2 0 1 σ2 _ hq) zw_X7_73 rfl rfl (Nat.le_of_ble_eq_true rfl) (by decide) dX7_whoDanced_10) hw (fun H locs hw => ?_)
    clear hq
    refine lv_if_ne (pc := 13) (tgt := 23) hx hb dX7_whoDanced_13 (by decide) (fun hc => ?_) (fun hc => ?_)
    · replace hF := rp_if hc hF
      refine lv_aload_n (pc := 23) hx hb dX7_whoDanced_23 rfl (lv_at hl 0 rfl) ?_
      refine rp_get (pc := 24) hC hw 0 (by decide) (mt_obj _) fl_X7_47 (.ref (a 11)) rfl dX7_whoDanced_24 ?_
      refine lv_iload_n (pc := 27) hx hb dX7_whoDanced_27 rfl (lv_at hl 1 rfl) ?_
      obtain ⟨hg, hF⟩ := rp_gu_e hF
      refine rp_ald (pc := 28) hC hw 11 (by decide) (mt_arr 11 4 rfl) 0 rfl hg dX7_whoDanced_28 ?_
      refine lv_if_eq (pc := 29) (tgt := 47) hx hb dX7_whoDanced_29 (by decide) (fun hc => ?_) (fun hc => ?_)
      · replace hF := rp_it hc hF
        exact kX7_whoDanced_47 hC σ4 _ _ _ hF hw (lv_sub hl [0] rfl)
      · replace hF := rp_if hc hF
        refine lv_aload_n (pc := 32) hx hb dX7_whoDanced_32 rfl (lv_at hl 0 rfl) ?_
        refine rp_get (pc := 33) hC hw 0 (by decide) (mt_obj _) fl_X7_50 (.ref (a 12)) rfl dX7_whoDanced_33 ?_
        refine lv_iload_n (pc := 36) hx hb dX7_whoDanced_36 rfl (lv_at hl 1 rfl) ?_
        obtain ⟨hg, hF⟩ := rp_gu_e hF
        refine rp_ald (pc := 37) hC hw 12 (by decide) (mt_arr 12 4 rfl) 0 rfl hg dX7_whoDanced_37 ?_
        refine lv_aload_n (pc := 38) hx hb dX7_whoDanced_38 rfl (lv_at hl 0 rfl) ?_
        refine rp_get (pc := 39) hC hw 0 (by decide) (mt_obj _) fl_X7_9 (.ref (a 1)) rfl dX7_whoDanced_39 ?_
        refine lv_iconst (pc := 42) (v := 1) hx hb dX7_whoDanced_42 (by decide) ?_
        obtain ⟨hg, hF⟩ := rp_gu_e hF
        refine rp_ald (pc := 43) hC hw 1 (by decide) (mt_arr 1 221 rfl) 0 rfl hg dX7_whoDanced_43 ?_
        refine lv_icmp_eq (pc := 44) (tgt := 54) hx hb dX7_whoDanced_44 (by decide) (fun hc => ?_) (fun hc => ?_)
        · replace hF := rp_it hc hF
          refine lv_iconst (pc := 54) (v := 0) hx hb dX7_whoDanced_54 (by decide) ?_
          refine lv_istore_n (pc := 55) (lv' := [(3, .int 0), (0, .ref (a 0)), (1, .int v1), (2, .int v2)]) hx hb dX7_whoDanced_55 rfl hl (by decide) rfl (fun ls hl => ?_)
          refine lv_iconst (pc := 56) (v := (-1)) hx hb dX7_whoDanced_56 (by decide) ?_
          refine lv_istore (pc := 57) (lv' := [(4, .int (-1)), (3, .int 0), (0, .ref (a 0)), (1, .int v1), (2, .int v2)]) hx hb dX7_whoDanced_57 hl (by decide) rfl (fun ls hl => ?_)
          refine lv_iconst (pc := 59) (v := 0) hx hb dX7_whoDanced_59 (by decide) ?_
          refine lv_istore (pc := 60) (lv' := [(5, .int 0), (4, .int (-1)), (3, .int 0), (0, .ref (a 0)), (1, .int v1), (2, .int v2)]) hx hb dX7_whoDanced_60 hl (by decide) rfl (fun ls hl => ?_)
          exact lX7_whoDanced_62 hC 300 v1 v2 0 (-1) 0 σ4 _ _ _ hF hw (lv_sub hl [3, 4, 5, 2, 1, 0] rfl)
        · replace hF := rp_if hc hF
          exact kX7_whoDanced_47 hC σ4 _ _ _ hF hw (lv_sub hl [0] rfl)
    · replace hF := rp_it hc hF
      exact kX7_whoDanced_16 hC σ4 _ _ _ hF hw (lv_sub hl [0] rfl)
theorem mX7_whoDanced {l : Launch} {D : va_G} {cI cT : ClassId} {ad av a : Nat → Nat} (v1 : Int32) (v2 : Int32) (σ : rp_St) (res : Int32 × rp_St) (hF : fX7_whoDanced v1 v2 σ = some res) : mM l D cI cT ad av a yX7_whoDanced cX7_whoDanced 8 (some .int) 5 [.ref (a 0), .int v1, .int v2] σ (rp_Qi D a (mt cI cT ad a) 15 res) :=
  rp_entry (by decide) (Nat.le_of_ble_eq_true rfl) (fun p e s m below meth c ls hC hw hl => kX7_whoDanced_0 hC v1 v2 σ _ _ _ hF hw (lv_sub hl [0, 1, 2] rfl))
def fX7_isRight_33 (k4 : Int32 → Int32 → rp_St → Option (Int32 × rp_St)) (v2 : Int32) (t0 : Int32) (σ : rp_St) : Option (Int32 × rp_St) :=
  rp_nm (v2 + 1) (fun x1 => k4 t0 x1 σ)
set_option maxRecDepth 100000 in
set_option maxHeartbeats 4000000 in
theorem kX7_isRight_33 {p : Program} {l : Launch} {e : Env} {s : State} {m : MethodId} {args : Array Value} {below : List Frame} {meth : Method} {c : Code} {D : va_G} {cI cT : ClassId} {ad av a : Nat → Nat} {res : Int32 × rp_St} (hC : mC p s m args meth c cX7_isRight 3 "RegretPegsModel" (some .boolean) D cI cT ad av a) (k4 : Int32 → Int32 → rp_St → Option (Int32 × rp_St)) (hk4 : ∀ (v1 : Int32) (v2 : Int32) (σ : rp_St) (H : Heap) (locs : List Loc) (ls : Array Slot), k4 v1 v2 σ = some res → mW D cI cT ad av a s σ H locs → lv_has ls 3 [(0, .ref (a 0)), (1, .int v1), (2, .int v2)] → W p l e (rp_rm 5) s m args below meth c H locs 0 0 (MQ below (rp_Qi D a (mt cI cT ad a) 15 res) args s 0 0 (rp_A a 15)) (F0 m 4 ls [])) (v2 : Int32) (t0 : Int32) (σ : rp_St) (H : Heap) (locs : List Loc) (ls : Array Slot) (hF : fX7_isRight_33 k4 v2 t0 σ = some res) (hw : mW D cI cT ad av a s σ H locs) (hl : lv_has ls 3 [(0, .ref (a 0)), (2, .int v2)]) : W p l e (rp_rm 5) s m args below meth c H locs 0 0 (MQ below (rp_Qi D a (mt cI cT ad a) 15 res) args s 0 0 (rp_A a 15)) (F0 m 33 ls [.int t0]) := by
  have hx := hC.1
  have hb := hC.2.1
  have hown := hC.2.2.2.1
  have hts := hC.2.2.2.2.1
  unfold fX7_isRight_33 at hF
  refine lv_istore_n (pc := 33) (lv' := [(1, .int t0), (0, .ref (a 0)), (2, .int v2)]) hx hb dX7_isRight_33 rfl hl (by decide) rfl (fun ls hl => ?_)
  obtain ⟨x1, ex1, hF⟩ := rp_nm_e hF
  refine lv_iinc (pc := 34) (v := x1) (lv' := [(2, .int x1), (1, .int t0), (0, .ref (a 0))]) hx hb dX7_isRight_34 hl (k := 2) rfl (by rw [ex1]; rfl) (by decide) rfl (fun ls hl => ?_)
  refine lv_goto (pc := 37) (tgt := 4) hx hb dX7_isRight_37 (by decide) ?_
  exact hk4 t0 x1 σ _ _ _ hF hw (lv_sub hl [2, 1, 0] rfl)
def fX7_isRight_32 (k4 : Int32 → Int32 → rp_St → Option (Int32 × rp_St)) (v2 : Int32) (σ : rp_St) : Option (Int32 × rp_St) :=
  fX7_isRight_33 k4 v2 0 σ
set_option maxRecDepth 100000 in
set_option maxHeartbeats 4000000 in
theorem kX7_isRight_32 {p : Program} {l : Launch} {e : Env} {s : State} {m : MethodId} {args : Array Value} {below : List Frame} {meth : Method} {c : Code} {D : va_G} {cI cT : ClassId} {ad av a : Nat → Nat} {res : Int32 × rp_St} (hC : mC p s m args meth c cX7_isRight 3 "RegretPegsModel" (some .boolean) D cI cT ad av a) (k4 : Int32 → Int32 → rp_St → Option (Int32 × rp_St)) (hk4 : ∀ (v1 : Int32) (v2 : Int32) (σ : rp_St) (H : Heap) (locs : List Loc) (ls : Array Slot), k4 v1 v2 σ = some res → mW D cI cT ad av a s σ H locs → lv_has ls 3 [(0, .ref (a 0)), (1, .int v1), (2, .int v2)] → W p l e (rp_rm 5) s m args below meth c H locs 0 0 (MQ below (rp_Qi D a (mt cI cT ad a) 15 res) args s 0 0 (rp_A a 15)) (F0 m 4 ls [])) (v2 : Int32) (σ : rp_St) (H : Heap) (locs : List Loc) (ls : Array Slot) (hF : fX7_isRight_32 k4 v2 σ = some res) (hw : mW D cI cT ad av a s σ H locs) (hl : lv_has ls 3 [(0, .ref (a 0)), (2, .int v2)]) : W p l e (rp_rm 5) s m args below meth c H locs 0 0 (MQ below (rp_Qi D a (mt cI cT ad a) 15 res) args s 0 0 (rp_A a 15)) (F0 m 32 ls []) := by
  have hx := hC.1
  have hb := hC.2.1
  have hown := hC.2.2.2.1
  have hts := hC.2.2.2.2.1
  unfold fX7_isRight_32 at hF
  refine lv_iconst (pc := 32) (v := 0) hx hb dX7_isRight_32 (by decide) ?_
  exact kX7_isRight_33 hC k4 hk4 v2 0 σ _ _ _ hF hw (lv_sub hl [0, 1] rfl)
def fX7_isRight_4 (k4 : Int32 → Int32 → rp_St → Option (Int32 × rp_St)) (v1 : Int32) (v2 : Int32) (σ : rp_St) : Option (Int32 × rp_St) :=
  rp_gu (rp_in 1 221) ((if (σ 1 (1 : Int32).toNatClampNeg) ≤ (v2 + 1) then rp_gu (v1 == 0 || v1 == 1) (some (v1, σ)) else (if v1 = 0 then fX7_isRight_32 k4 v2 σ else rp_bd (fX7_isWrongAt v2 σ) (fun r1 σ2 => (if r1 = 0 then fX7_isRight_33 k4 v2 1 σ2 else fX7_isRight_32 k4 v2 σ2)))))
set_option maxRecDepth 100000 in
set_option maxHeartbeats 4000000 in
theorem kX7_isRight_4 {p : Program} {l : Launch} {e : Env} {s : State} {m : MethodId} {args : Array Value} {below : List Frame} {meth : Method} {c : Code} {D : va_G} {cI cT : ClassId} {ad av a : Nat → Nat} {res : Int32 × rp_St} (hC : mC p s m args meth c cX7_isRight 3 "RegretPegsModel" (some .boolean) D cI cT ad av a) (k4 : Int32 → Int32 → rp_St → Option (Int32 × rp_St)) (hk4 : ∀ (v1 : Int32) (v2 : Int32) (σ : rp_St) (H : Heap) (locs : List Loc) (ls : Array Slot), k4 v1 v2 σ = some res → mW D cI cT ad av a s σ H locs → lv_has ls 3 [(0, .ref (a 0)), (1, .int v1), (2, .int v2)] → W p l e (rp_rm 5) s m args below meth c H locs 0 0 (MQ below (rp_Qi D a (mt cI cT ad a) 15 res) args s 0 0 (rp_A a 15)) (F0 m 4 ls [])) (v1 : Int32) (v2 : Int32) (σ : rp_St) (H : Heap) (locs : List Loc) (ls : Array Slot) (hF : fX7_isRight_4 k4 v1 v2 σ = some res) (hw : mW D cI cT ad av a s σ H locs) (hl : lv_has ls 3 [(0, .ref (a 0)), (1, .int v1), (2, .int v2)]) : W p l e (rp_rm 5) s m args below meth c H locs 0 0 (MQ below (rp_Qi D a (mt cI cT ad a) 15 res) args s 0 0 (rp_A a 15)) (F0 m 4 ls []) := by
  have hx := hC.1
  have hb := hC.2.1
  have hown := hC.2.2.2.1
  have hts := hC.2.2.2.2.1
  unfold fX7_isRight_4 at hF
  refine lv_iload_n (pc := 4) hx hb dX7_isRight_4 rfl (lv_at hl 2 rfl) ?_
  refine lv_iconst (pc := 5) (v := 1) hx hb dX7_isRight_5 (by decide) ?_
  refine lv_iadd (pc := 6) hx hb dX7_isRight_6 ?_
  refine lv_aload_n (pc := 7) hx hb dX7_isRight_7 rfl (lv_at hl 0 rfl) ?_
  refine rp_get (pc := 8) hC hw 0 (by decide) (mt_obj _) fl_X7_9 (.ref (a 1)) rfl dX7_isRight_8 ?_
  refine lv_iconst (pc := 11) (v := 1) hx hb dX7_isRight_11 (by decide) ?_
  obtain ⟨hg, hF⟩ := rp_gu_e hF
  refine rp_ald (pc := 12) hC hw 1 (by decide) (mt_arr 1 221 rfl) 0 rfl hg dX7_isRight_12 ?_
  refine lv_icmp_ge (pc := 13) (tgt := 40) hx hb dX7_isRight_13 (by decide) (fun hc => ?_) (fun hc => ?_)
  · replace hF := rp_it hc hF
    refine lv_iload_n (pc := 40) hx hb dX7_isRight_40 rfl (lv_at hl 1 rfl) ?_
    obtain ⟨hg, hF⟩ := rp_gu_e hF
    exact rp_retz (pc := 41) hC hw hg hF dX7_isRight_41
  · replace hF := rp_if hc hF
    refine lv_iload_n (pc := 16) hx hb dX7_isRight_16 rfl (lv_at hl 1 rfl) ?_
    refine lv_if_eq (pc := 17) (tgt := 32) hx hb dX7_isRight_17 (by decide) (fun hc => ?_) (fun hc => ?_)
    · replace hF := rp_it hc hF
      exact kX7_isRight_32 hC k4 hk4 v2 σ _ _ _ hF hw (lv_sub hl [0, 2] rfl)
    · replace hF := rp_if hc hF
      refine lv_aload_n (pc := 20) hx hb dX7_isRight_20 rfl (lv_at hl 0 rfl) ?_
      refine lv_iload_n (pc := 21) hx hb dX7_isRight_21 rfl (lv_at hl 2 rfl) ?_
      obtain ⟨r1, σ2, hq, hF⟩ := rp_bd_e hF
      refine rp_ki (rp_runV (rest := []) hC (mE_ok _) hw hl.1 (mX7_isWrongAt (l := l) v2 σ _ hq) vw_X7_211 (by decide) (mt_obj _) rfl rfl rfl (Nat.le_of_ble_eq_true rfl) (by decide) dX7_isRight_22) hw (fun H locs hw => ?_)
      clear hq
      refine lv_if_ne (pc := 25) (tgt := 32) hx hb dX7_isRight_25 (by decide) (fun hc => ?_) (fun hc => ?_)
      · replace hF := rp_if hc hF
        exact kX7_isRight_32 hC k4 hk4 v2 σ2 _ _ _ hF hw (lv_sub hl [0, 2] rfl)
      · replace hF := rp_it hc hF
        refine lv_iconst (pc := 28) (v := 1) hx hb dX7_isRight_28 (by decide) ?_
        refine lv_goto (pc := 29) (tgt := 33) hx hb dX7_isRight_29 (by decide) ?_
        exact kX7_isRight_33 hC k4 hk4 v2 1 σ2 _ _ _ hF hw (lv_sub hl [0, 2] rfl)
theorem lX7_isRight_4 {p : Program} {l : Launch} {e : Env} {s : State} {m : MethodId} {args : Array Value} {below : List Frame} {meth : Method} {c : Code} {D : va_G} {cI cT : ClassId} {ad av a : Nat → Nat} {res : Int32 × rp_St} (hC : mC p s m args meth c cX7_isRight 3 "RegretPegsModel" (some .boolean) D cI cT ad av a) : ∀ (n : Nat) (v1 : Int32) (v2 : Int32) (σ : rp_St) (H : Heap) (locs : List Loc) (ls : Array Slot), rp_lp (fun _ _ _ => none) (fX7_isRight_4) n v1 v2 σ = some res → mW D cI cT ad av a s σ H locs → lv_has ls 3 [(0, .ref (a 0)), (1, .int v1), (2, .int v2)] → W p l e (rp_rm 5) s m args below meth c H locs 0 0 (MQ below (rp_Qi D a (mt cI cT ad a) 15 res) args s 0 0 (rp_A a 15)) (F0 m 4 ls [])
  | 0, _, _, _, _, _, _, hF, _, _ => nomatch hF
  | n + 1, v1, v2, σ, H, locs, ls, hF, hw, hl => kX7_isRight_4 hC (rp_lp (fun _ _ _ => none) (fX7_isRight_4) n) (lX7_isRight_4 hC n) v1 v2 σ H locs ls hF hw hl
def fX7_isRight (σ : rp_St) : Option (Int32 × rp_St) :=
  rp_lp (fun _ _ _ => none) (fX7_isRight_4) 300 1 0 σ
set_option maxRecDepth 100000 in
set_option maxHeartbeats 4000000 in
theorem kX7_isRight_0 {p : Program} {l : Launch} {e : Env} {s : State} {m : MethodId} {args : Array Value} {below : List Frame} {meth : Method} {c : Code} {D : va_G} {cI cT : ClassId} {ad av a : Nat → Nat} {res : Int32 × rp_St} (hC : mC p s m args meth c cX7_isRight 3 "RegretPegsModel" (some .boolean) D cI cT ad av a) (σ : rp_St) (H : Heap) (locs : List Loc) (ls : Array Slot) (hF : fX7_isRight σ = some res) (hw : mW D cI cT ad av a s σ H locs) (hl : lv_has ls 3 [(0, .ref (a 0))]) : W p l e (rp_rm 5) s m args below meth c H locs 0 0 (MQ below (rp_Qi D a (mt cI cT ad a) 15 res) args s 0 0 (rp_A a 15)) (F0 m 0 ls []) := by
  have hx := hC.1
  have hb := hC.2.1
  have hown := hC.2.2.2.1
  have hts := hC.2.2.2.2.1
  unfold fX7_isRight at hF
  refine lv_iconst (pc := 0) (v := 1) hx hb dX7_isRight_0 (by decide) ?_
  refine lv_istore_n (pc := 1) (lv' := [(1, .int 1), (0, .ref (a 0))]) hx hb dX7_isRight_1 rfl hl (by decide) rfl (fun ls hl => ?_)
  refine lv_iconst (pc := 2) (v := 0) hx hb dX7_isRight_2 (by decide) ?_
  refine lv_istore_n (pc := 3) (lv' := [(2, .int 0), (1, .int 1), (0, .ref (a 0))]) hx hb dX7_isRight_3 rfl hl (by decide) rfl (fun ls hl => ?_)
  exact lX7_isRight_4 hC 300 1 0 σ _ _ _ hF hw (lv_sub hl [2, 1, 0] rfl)
theorem mX7_isRight {l : Launch} {D : va_G} {cI cT : ClassId} {ad av a : Nat → Nat}  (σ : rp_St) (res : Int32 × rp_St) (hF : fX7_isRight σ = some res) : mM l D cI cT ad av a yX7_isRight cX7_isRight 3 (some .boolean) 5 [.ref (a 0)] σ (rp_Qi D a (mt cI cT ad a) 15 res) :=
  rp_entry (by decide) (Nat.le_of_ble_eq_true rfl) (fun p e s m below meth c ls hC hw hl => kX7_isRight_0 hC σ _ _ _ hF hw (lv_sub hl [0] rfl))
def fX7_inOrder_36 (v1 : Int32) (σ : rp_St) : Option (Int32 × rp_St) :=
  rp_bd (fX7_isRight σ) (fun r1 σ2 => rp_bd (fX7_copy 3 1 σ2) (fun _ σ4 => (if r1 = 0 then rp_bd (fX7_finding (-1000000002) σ4) (fun r5 σ6 => some (r5, σ6)) else some (v1, σ4))))
set_option maxRecDepth 100000 in
set_option maxHeartbeats 4000000 in
theorem kX7_inOrder_36 {p : Program} {l : Launch} {e : Env} {s : State} {m : MethodId} {args : Array Value} {below : List Frame} {meth : Method} {c : Code} {D : va_G} {cI cT : ClassId} {ad av a : Nat → Nat} {res : Int32 × rp_St} (hC : mC p s m args meth c cX7_inOrder 3 "RegretPegsModel" (some .int) D cI cT ad av a) (v1 : Int32) (σ : rp_St) (H : Heap) (locs : List Loc) (ls : Array Slot) (hF : fX7_inOrder_36 v1 σ = some res) (hw : mW D cI cT ad av a s σ H locs) (hl : lv_has ls 3 [(0, .ref (a 0)), (1, .int v1)]) : W p l e (rp_rm 6) s m args below meth c H locs 0 0 (MQ below (rp_Qi D a (mt cI cT ad a) 15 res) args s 0 0 (rp_A a 15)) (F0 m 36 ls []) := by
  have hx := hC.1
  have hb := hC.2.1
  have hown := hC.2.2.2.1
  have hts := hC.2.2.2.2.1
  unfold fX7_inOrder_36 at hF
  refine lv_aload_n (pc := 36) hx hb dX7_inOrder_36 rfl (lv_at hl 0 rfl) ?_
  obtain ⟨r1, σ2, hq, hF⟩ := rp_bd_e hF
  refine rp_ki (rp_runV (rest := []) hC (mE_ok _) hw hl.1 (mX7_isRight (l := l) σ _ hq) vw_X7_256 (by decide) (mt_obj _) rfl rfl rfl (Nat.le_of_ble_eq_true rfl) (by decide) dX7_inOrder_37) hw (fun H locs hw => ?_)
  clear hq
  refine lv_istore_n (pc := 40) (lv' := [(2, .int r1), (0, .ref (a 0)), (1, .int v1)]) hx hb dX7_inOrder_40 rfl hl (by decide) rfl (fun ls hl => ?_)
  refine lv_aload_n (pc := 41) hx hb dX7_inOrder_41 rfl (lv_at hl 1 rfl) ?_
  refine rp_get (pc := 42) hC hw 0 (by decide) (mt_obj _) fl_X7_16 (.ref (a 3)) rfl dX7_inOrder_42 ?_
  refine lv_aload_n (pc := 45) hx hb dX7_inOrder_45 rfl (lv_at hl 1 rfl) ?_
  refine rp_get (pc := 46) hC hw 0 (by decide) (mt_obj _) fl_X7_9 (.ref (a 1)) rfl dX7_inOrder_46 ?_
  obtain ⟨r3, σ4, hq, hF⟩ := rp_bd_e hF
  refine rp_kv (rp_runZ (rest := []) hC (mE_ok _) hw hl.1 (mX7_copy (l := l) 3 (by decide) (mt_arr 3 221 rfl) 1 (by decide) (mt_arr 1 221 rfl) σ2 _ hq) zw_X7_69 rfl rfl (Nat.le_of_ble_eq_true rfl) (by decide) dX7_inOrder_49) hw (fun H locs hw => ?_)
  clear hq
  refine lv_iload_n (pc := 52) hx hb dX7_inOrder_52 rfl (lv_at hl 0 rfl) ?_
  refine lv_if_eq (pc := 53) (tgt := 60) hx hb dX7_inOrder_53 (by decide) (fun hc => ?_) (fun hc => ?_)
  · replace hF := rp_it hc hF
    refine lv_aload_n (pc := 60) hx hb dX7_inOrder_60 rfl (lv_at hl 1 rfl) ?_
    refine lv_ldc (pc := 61) (v := (-1000000002)) hx hb hown (hts _ wd_989) dX7_inOrder_61 ?_
    obtain ⟨r5, σ6, hq, hF⟩ := rp_bd_e hF
    refine rp_ki (rp_runV (rest := []) hC (mE_ok _) hw hl.1 (mX7_finding (l := l) (-1000000002) σ4 _ hq) vw_X7_78 (by decide) (mt_obj _) rfl rfl rfl (Nat.le_of_ble_eq_true rfl) (by decide) dX7_inOrder_63) hw (fun H locs hw => ?_)
    clear hq
    exact rp_reti (pc := 66) hC hw hF dX7_inOrder_66
  · replace hF := rp_if hc hF
    refine lv_iload_n (pc := 56) hx hb dX7_inOrder_56 rfl (lv_at hl 2 rfl) ?_
    refine lv_goto (pc := 57) (tgt := 66) hx hb dX7_inOrder_57 (by decide) ?_
    exact rp_reti (pc := 66) hC hw hF dX7_inOrder_66
def fX7_inOrder_13 (k13 : Int32 → rp_St → Option (Int32 × rp_St)) (v1 : Int32) (σ : rp_St) : Option (Int32 × rp_St) :=
  (if 60 ≤ v1 then fX7_inOrder_36 v1 σ else rp_bd (fX7_isRight σ) (fun r1 σ2 => (if r1 = 0 then rp_bd (fX7_hour σ2) (fun _ σ4 => rp_nm (v1 + 1) (fun x5 => k13 x5 σ4)) else fX7_inOrder_36 v1 σ2)))
set_option maxRecDepth 100000 in
set_option maxHeartbeats 4000000 in
theorem kX7_inOrder_13 {p : Program} {l : Launch} {e : Env} {s : State} {m : MethodId} {args : Array Value} {below : List Frame} {meth : Method} {c : Code} {D : va_G} {cI cT : ClassId} {ad av a : Nat → Nat} {res : Int32 × rp_St} (hC : mC p s m args meth c cX7_inOrder 3 "RegretPegsModel" (some .int) D cI cT ad av a) (k13 : Int32 → rp_St → Option (Int32 × rp_St)) (hk13 : ∀ (v1 : Int32) (σ : rp_St) (H : Heap) (locs : List Loc) (ls : Array Slot), k13 v1 σ = some res → mW D cI cT ad av a s σ H locs → lv_has ls 3 [(0, .ref (a 0)), (1, .int v1)] → W p l e (rp_rm 6) s m args below meth c H locs 0 0 (MQ below (rp_Qi D a (mt cI cT ad a) 15 res) args s 0 0 (rp_A a 15)) (F0 m 13 ls [])) (v1 : Int32) (σ : rp_St) (H : Heap) (locs : List Loc) (ls : Array Slot) (hF : fX7_inOrder_13 k13 v1 σ = some res) (hw : mW D cI cT ad av a s σ H locs) (hl : lv_has ls 3 [(0, .ref (a 0)), (1, .int v1)]) : W p l e (rp_rm 6) s m args below meth c H locs 0 0 (MQ below (rp_Qi D a (mt cI cT ad a) 15 res) args s 0 0 (rp_A a 15)) (F0 m 13 ls []) := by
  have hx := hC.1
  have hb := hC.2.1
  have hown := hC.2.2.2.1
  have hts := hC.2.2.2.2.1
  unfold fX7_inOrder_13 at hF
  refine lv_iload_n (pc := 13) hx hb dX7_inOrder_13 rfl (lv_at hl 1 rfl) ?_
  refine lv_bipush (pc := 14) (v := 60) hx hb dX7_inOrder_14 (by decide) ?_
  refine lv_icmp_ge (pc := 16) (tgt := 36) hx hb dX7_inOrder_16 (by decide) (fun hc => ?_) (fun hc => ?_)
  · replace hF := rp_it hc hF
    exact kX7_inOrder_36 hC v1 σ _ _ _ hF hw (lv_sub hl [0, 1] rfl)
  · replace hF := rp_if hc hF
    refine lv_aload_n (pc := 19) hx hb dX7_inOrder_19 rfl (lv_at hl 0 rfl) ?_
    obtain ⟨r1, σ2, hq, hF⟩ := rp_bd_e hF
    refine rp_ki (rp_runV (rest := []) hC (mE_ok _) hw hl.1 (mX7_isRight (l := l) σ _ hq) vw_X7_256 (by decide) (mt_obj _) rfl rfl rfl (Nat.le_of_ble_eq_true rfl) (by decide) dX7_inOrder_20) hw (fun H locs hw => ?_)
    clear hq
    refine lv_if_ne (pc := 23) (tgt := 36) hx hb dX7_inOrder_23 (by decide) (fun hc => ?_) (fun hc => ?_)
    · replace hF := rp_if hc hF
      exact kX7_inOrder_36 hC v1 σ2 _ _ _ hF hw (lv_sub hl [0, 1] rfl)
    · replace hF := rp_it hc hF
      refine lv_aload_n (pc := 26) hx hb dX7_inOrder_26 rfl (lv_at hl 0 rfl) ?_
      obtain ⟨r3, σ4, hq, hF⟩ := rp_bd_e hF
      refine rp_kv (rp_runV (rest := []) hC (mE_ok _) hw hl.1 (mX7_hour (l := l) σ2 _ hq) vw_X7_214 (by decide) (mt_obj _) rfl rfl rfl (Nat.le_of_ble_eq_true rfl) (by decide) dX7_inOrder_27) hw (fun H locs hw => ?_)
      clear hq
      obtain ⟨x5, ex5, hF⟩ := rp_nm_e hF
      refine lv_iinc (pc := 30) (v := x5) (lv' := [(1, .int x5), (0, .ref (a 0))]) hx hb dX7_inOrder_30 hl (k := 1) rfl (by rw [ex5]; rfl) (by decide) rfl (fun ls hl => ?_)
      refine lv_goto (pc := 33) (tgt := 13) hx hb dX7_inOrder_33 (by decide) ?_
      exact hk13 x5 σ4 _ _ _ hF hw (lv_sub hl [1, 0] rfl)
theorem lX7_inOrder_13 {p : Program} {l : Launch} {e : Env} {s : State} {m : MethodId} {args : Array Value} {below : List Frame} {meth : Method} {c : Code} {D : va_G} {cI cT : ClassId} {ad av a : Nat → Nat} {res : Int32 × rp_St} (hC : mC p s m args meth c cX7_inOrder 3 "RegretPegsModel" (some .int) D cI cT ad av a) : ∀ (n : Nat) (v1 : Int32) (σ : rp_St) (H : Heap) (locs : List Loc) (ls : Array Slot), rp_lp (fun _ _ => none) (fX7_inOrder_13) n v1 σ = some res → mW D cI cT ad av a s σ H locs → lv_has ls 3 [(0, .ref (a 0)), (1, .int v1)] → W p l e (rp_rm 6) s m args below meth c H locs 0 0 (MQ below (rp_Qi D a (mt cI cT ad a) 15 res) args s 0 0 (rp_A a 15)) (F0 m 13 ls [])
  | 0, _, _, _, _, _, hF, _, _ => nomatch hF
  | n + 1, v1, σ, H, locs, ls, hF, hw, hl => kX7_inOrder_13 hC (rp_lp (fun _ _ => none) (fX7_inOrder_13) n) (lX7_inOrder_13 hC n) v1 σ H locs ls hF hw hl
def fX7_inOrder (σ : rp_St) : Option (Int32 × rp_St) :=
  rp_bd (fX7_copy 1 3 σ) (fun _ σ2 => rp_lp (fun _ _ => none) (fX7_inOrder_13) 300 0 σ2)
set_option maxRecDepth 100000 in
set_option maxHeartbeats 4000000 in
theorem kX7_inOrder_0 {p : Program} {l : Launch} {e : Env} {s : State} {m : MethodId} {args : Array Value} {below : List Frame} {meth : Method} {c : Code} {D : va_G} {cI cT : ClassId} {ad av a : Nat → Nat} {res : Int32 × rp_St} (hC : mC p s m args meth c cX7_inOrder 3 "RegretPegsModel" (some .int) D cI cT ad av a) (σ : rp_St) (H : Heap) (locs : List Loc) (ls : Array Slot) (hF : fX7_inOrder σ = some res) (hw : mW D cI cT ad av a s σ H locs) (hl : lv_has ls 3 [(0, .ref (a 0))]) : W p l e (rp_rm 6) s m args below meth c H locs 0 0 (MQ below (rp_Qi D a (mt cI cT ad a) 15 res) args s 0 0 (rp_A a 15)) (F0 m 0 ls []) := by
  have hx := hC.1
  have hb := hC.2.1
  have hown := hC.2.2.2.1
  have hts := hC.2.2.2.2.1
  unfold fX7_inOrder at hF
  refine lv_aload_n (pc := 0) hx hb dX7_inOrder_0 rfl (lv_at hl 0 rfl) ?_
  refine rp_get (pc := 1) hC hw 0 (by decide) (mt_obj _) fl_X7_9 (.ref (a 1)) rfl dX7_inOrder_1 ?_
  refine lv_aload_n (pc := 4) hx hb dX7_inOrder_4 rfl (lv_at hl 0 rfl) ?_
  refine rp_get (pc := 5) hC hw 0 (by decide) (mt_obj _) fl_X7_16 (.ref (a 3)) rfl dX7_inOrder_5 ?_
  obtain ⟨r1, σ2, hq, hF⟩ := rp_bd_e hF
  refine rp_kv (rp_runZ (rest := []) hC (mE_ok _) hw hl.1 (mX7_copy (l := l) 1 (by decide) (mt_arr 1 221 rfl) 3 (by decide) (mt_arr 3 221 rfl) σ _ hq) zw_X7_69 rfl rfl (Nat.le_of_ble_eq_true rfl) (by decide) dX7_inOrder_8) hw (fun H locs hw => ?_)
  clear hq
  refine lv_iconst (pc := 11) (v := 0) hx hb dX7_inOrder_11 (by decide) ?_
  refine lv_istore_n (pc := 12) (lv' := [(1, .int 0), (0, .ref (a 0))]) hx hb dX7_inOrder_12 rfl hl (by decide) rfl (fun ls hl => ?_)
  exact lX7_inOrder_13 hC 300 0 σ2 _ _ _ hF hw (lv_sub hl [1, 0] rfl)
theorem mX7_inOrder {l : Launch} {D : va_G} {cI cT : ClassId} {ad av a : Nat → Nat}  (σ : rp_St) (res : Int32 × rp_St) (hF : fX7_inOrder σ = some res) : mM l D cI cT ad av a yX7_inOrder cX7_inOrder 3 (some .int) 6 [.ref (a 0)] σ (rp_Qi D a (mt cI cT ad a) 15 res) :=
  rp_entry (by decide) (Nat.le_of_ble_eq_true rfl) (fun p e s m below meth c ls hC hw hl => kX7_inOrder_0 hC σ _ _ _ hF hw (lv_sub hl [0] rfl))
