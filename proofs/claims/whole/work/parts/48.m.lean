def fX7_judge_78 (v1 : Int32) (v2 : Int32) (σ : rp_St) : Option (Int32 × rp_St) :=
  rp_gu (rp_in v1 4) ((if v2 = (σ 12 (v1 : Int32).toNatClampNeg) then rp_gu (rp_in 1 221) ((if v2 = (σ 1 (1 : Int32).toNatClampNeg) then some ((-1), σ) else some (v2, σ))) else some (v2, σ)))
set_option maxRecDepth 100000 in
set_option maxHeartbeats 4000000 in
theorem kX7_judge_78 {p : Program} {l : Launch} {e : Env} {s : State} {m : MethodId} {args : Array Value} {below : List Frame} {meth : Method} {c : Code} {D : va_G} {cI cT : ClassId} {ad av a : Nat → Nat} {res : Int32 × rp_St} (hC : mC p s m args meth c cX7_judge 3 "RegretPegsModel" (some .int) D cI cT ad av a) (v1 : Int32) (v2 : Int32) (σ : rp_St) (H : Heap) (locs : List Loc) (ls : Array Slot) (hF : fX7_judge_78 v1 v2 σ = some res) (hw : mW D cI cT ad av a s σ H locs) (hl : lv_has ls 3 [(0, .ref (a 0)), (1, .int v1), (2, .int v2)]) : W p l e (rp_rm 3) s m args below meth c H locs 0 0 (MQ below (rp_Qi D a (mt cI cT ad a) 15 res) args s 0 0 (rp_A a 15)) (F0 m 78 ls []) := by
  have hx := hC.1
  have hb := hC.2.1
  have hown := hC.2.2.2.1
  have hts := hC.2.2.2.2.1
  unfold fX7_judge_78 at hF
  refine lv_iload_n (pc := 78) hx hb dX7_judge_78 rfl (lv_at hl 2 rfl) ?_
  refine lv_aload_n (pc := 79) hx hb dX7_judge_79 rfl (lv_at hl 0 rfl) ?_
  refine rp_get (pc := 80) hC hw 0 (by decide) (mt_obj _) fl_X7_50 (.ref (a 12)) rfl dX7_judge_80 ?_
  refine lv_iload_n (pc := 83) hx hb dX7_judge_83 rfl (lv_at hl 1 rfl) ?_
  obtain ⟨hg, hF⟩ := rp_gu_e hF
  refine rp_ald (pc := 84) hC hw 12 (by decide) (mt_arr 12 4 rfl) 0 rfl hg dX7_judge_84 ?_
  refine lv_icmp_ne (pc := 85) (tgt := 102) hx hb dX7_judge_85 (by decide) (fun hc => ?_) (fun hc => ?_)
  · replace hF := rp_if hc hF
    refine lv_iload_n (pc := 102) hx hb dX7_judge_102 rfl (lv_at hl 2 rfl) ?_
    exact rp_reti (pc := 103) hC hw hF dX7_judge_103
  · replace hF := rp_it hc hF
    refine lv_iload_n (pc := 88) hx hb dX7_judge_88 rfl (lv_at hl 2 rfl) ?_
    refine lv_aload_n (pc := 89) hx hb dX7_judge_89 rfl (lv_at hl 0 rfl) ?_
    refine rp_get (pc := 90) hC hw 0 (by decide) (mt_obj _) fl_X7_9 (.ref (a 1)) rfl dX7_judge_90 ?_
    refine lv_iconst (pc := 93) (v := 1) hx hb dX7_judge_93 (by decide) ?_
    obtain ⟨hg, hF⟩ := rp_gu_e hF
    refine rp_ald (pc := 94) hC hw 1 (by decide) (mt_arr 1 221 rfl) 0 rfl hg dX7_judge_94 ?_
    refine lv_icmp_ne (pc := 95) (tgt := 102) hx hb dX7_judge_95 (by decide) (fun hc => ?_) (fun hc => ?_)
    · replace hF := rp_if hc hF
      refine lv_iload_n (pc := 102) hx hb dX7_judge_102 rfl (lv_at hl 2 rfl) ?_
      exact rp_reti (pc := 103) hC hw hF dX7_judge_103
    · replace hF := rp_it hc hF
      refine lv_iconst (pc := 98) (v := (-1)) hx hb dX7_judge_98 (by decide) ?_
      refine lv_goto (pc := 99) (tgt := 103) hx hb dX7_judge_99 (by decide) ?_
      exact rp_reti (pc := 103) hC hw hF dX7_judge_103
def fX7_judge_32 (k32 : Int32 → Int32 → rp_St → Option (Int32 × rp_St)) (v1 : Int32) (v2 : Int32) (σ : rp_St) : Option (Int32 × rp_St) :=
  rp_gu (rp_in v1 4) ((if (σ 12 (v1 : Int32).toNatClampNeg) ≤ v2 then fX7_judge_78 v1 v2 σ else rp_bd (fX7_isGuest v2 σ) (fun r1 σ2 => (if r1 = 0 then fX7_judge_78 v1 v2 σ2 else rp_gu (rp_in ((40 * v1) + v2) 160) (rp_gu (rp_in (5 + v2) 221) ((if (σ2 13 (((40 * v1) + v2) : Int32).toNatClampNeg) = (σ2 1 ((5 + v2) : Int32).toNatClampNeg) then rp_nm (v2 + 1) (fun x3 => k32 v1 x3 σ2) else fX7_judge_78 v1 v2 σ2)))))))
set_option maxRecDepth 100000 in
set_option maxHeartbeats 4000000 in
theorem kX7_judge_32 {p : Program} {l : Launch} {e : Env} {s : State} {m : MethodId} {args : Array Value} {below : List Frame} {meth : Method} {c : Code} {D : va_G} {cI cT : ClassId} {ad av a : Nat → Nat} {res : Int32 × rp_St} (hC : mC p s m args meth c cX7_judge 3 "RegretPegsModel" (some .int) D cI cT ad av a) (k32 : Int32 → Int32 → rp_St → Option (Int32 × rp_St)) (hk32 : ∀ (v1 : Int32) (v2 : Int32) (σ : rp_St) (H : Heap) (locs : List Loc) (ls : Array Slot), k32 v1 v2 σ = some res → mW D cI cT ad av a s σ H locs → lv_has ls 3 [(0, .ref (a 0)), (1, .int v1), (2, .int v2)] → W p l e (rp_rm 3) s m args below meth c H locs 0 0 (MQ below (rp_Qi D a (mt cI cT ad a) 15 res) args s 0 0 (rp_A a 15)) (F0 m 32 ls [])) (v1 : Int32) (v2 : Int32) (σ : rp_St) (H : Heap) (locs : List Loc) (ls : Array Slot) (hF : fX7_judge_32 k32 v1 v2 σ = some res) (hw : mW D cI cT ad av a s σ H locs) (hl : lv_has ls 3 [(0, .ref (a 0)), (1, .int v1), (2, .int v2)]) : W p l e (rp_rm 3) s m args below meth c H locs 0 0 (MQ below (rp_Qi D a (mt cI cT ad a) 15 res) args s 0 0 (rp_A a 15)) (F0 m 32 ls []) := by
  have hx := hC.1
  have hb := hC.2.1
  have hown := hC.2.2.2.1
  have hts := hC.2.2.2.2.1
  unfold fX7_judge_32 at hF
  refine lv_iload_n (pc := 32) hx hb dX7_judge_32 rfl (lv_at hl 2 rfl) ?_
  refine lv_aload_n (pc := 33) hx hb dX7_judge_33 rfl (lv_at hl 0 rfl) ?_
  refine rp_get (pc := 34) hC hw 0 (by decide) (mt_obj _) fl_X7_50 (.ref (a 12)) rfl dX7_judge_34 ?_
  refine lv_iload_n (pc := 37) hx hb dX7_judge_37 rfl (lv_at hl 1 rfl) ?_
  obtain ⟨hg, hF⟩ := rp_gu_e hF
  refine rp_ald (pc := 38) hC hw 12 (by decide) (mt_arr 12 4 rfl) 0 rfl hg dX7_judge_38 ?_
  refine lv_icmp_ge (pc := 39) (tgt := 78) hx hb dX7_judge_39 (by decide) (fun hc => ?_) (fun hc => ?_)
  · replace hF := rp_it hc hF
    exact kX7_judge_78 hC v1 v2 σ _ _ _ hF hw (lv_sub hl [0, 1, 2] rfl)
  · replace hF := rp_if hc hF
    refine lv_aload_n (pc := 42) hx hb dX7_judge_42 rfl (lv_at hl 0 rfl) ?_
    refine lv_iload_n (pc := 43) hx hb dX7_judge_43 rfl (lv_at hl 2 rfl) ?_
    obtain ⟨r1, σ2, hq, hF⟩ := rp_bd_e hF
    refine rp_ki (rp_runV (rest := []) hC (mE_ok _) hw hl.1 (mX7_isGuest (l := l) v2 σ _ hq) vw_X7_159 (by decide) (mt_obj _) rfl rfl rfl (Nat.le_of_ble_eq_true rfl) (by decide) dX7_judge_44) hw (fun H locs hw => ?_)
    clear hq
    refine lv_if_eq (pc := 47) (tgt := 78) hx hb dX7_judge_47 (by decide) (fun hc => ?_) (fun hc => ?_)
    · replace hF := rp_it hc hF
      exact kX7_judge_78 hC v1 v2 σ2 _ _ _ hF hw (lv_sub hl [0, 1, 2] rfl)
    · replace hF := rp_if hc hF
      refine lv_aload_n (pc := 50) hx hb dX7_judge_50 rfl (lv_at hl 0 rfl) ?_
      refine rp_get (pc := 51) hC hw 0 (by decide) (mt_obj _) fl_X7_53 (.ref (a 13)) rfl dX7_judge_51 ?_
      refine lv_bipush (pc := 54) (v := 40) hx hb dX7_judge_54 (by decide) ?_
      refine lv_iload_n (pc := 56) hx hb dX7_judge_56 rfl (lv_at hl 1 rfl) ?_
      refine lv_imul (pc := 57) hx hb dX7_judge_57 ?_
      refine lv_iload_n (pc := 58) hx hb dX7_judge_58 rfl (lv_at hl 2 rfl) ?_
      refine lv_iadd (pc := 59) hx hb dX7_judge_59 ?_
      obtain ⟨hg, hF⟩ := rp_gu_e hF
      refine rp_ald (pc := 60) hC hw 13 (by decide) (mt_arr 13 160 rfl) 0 rfl hg dX7_judge_60 ?_
      refine lv_aload_n (pc := 61) hx hb dX7_judge_61 rfl (lv_at hl 0 rfl) ?_
      refine rp_get (pc := 62) hC hw 0 (by decide) (mt_obj _) fl_X7_9 (.ref (a 1)) rfl dX7_judge_62 ?_
      refine lv_iconst (pc := 65) (v := 5) hx hb dX7_judge_65 (by decide) ?_
      refine lv_iload_n (pc := 66) hx hb dX7_judge_66 rfl (lv_at hl 2 rfl) ?_
      refine lv_iadd (pc := 67) hx hb dX7_judge_67 ?_
      obtain ⟨hg, hF⟩ := rp_gu_e hF
      refine rp_ald (pc := 68) hC hw 1 (by decide) (mt_arr 1 221 rfl) 0 rfl hg dX7_judge_68 ?_
      refine lv_icmp_ne (pc := 69) (tgt := 78) hx hb dX7_judge_69 (by decide) (fun hc => ?_) (fun hc => ?_)
      · replace hF := rp_if hc hF
        exact kX7_judge_78 hC v1 v2 σ2 _ _ _ hF hw (lv_sub hl [0, 1, 2] rfl)
      · replace hF := rp_it hc hF
        obtain ⟨x3, ex3, hF⟩ := rp_nm_e hF
        refine lv_iinc (pc := 72) (v := x3) (lv' := [(2, .int x3), (0, .ref (a 0)), (1, .int v1)]) hx hb dX7_judge_72 hl (k := 2) rfl (by rw [ex3]; rfl) (by decide) rfl (fun ls hl => ?_)
        refine lv_goto (pc := 75) (tgt := 32) hx hb dX7_judge_75 (by decide) ?_
        exact hk32 v1 x3 σ2 _ _ _ hF hw (lv_sub hl [1, 2, 0] rfl)
theorem lX7_judge_32 {p : Program} {l : Launch} {e : Env} {s : State} {m : MethodId} {args : Array Value} {below : List Frame} {meth : Method} {c : Code} {D : va_G} {cI cT : ClassId} {ad av a : Nat → Nat} {res : Int32 × rp_St} (hC : mC p s m args meth c cX7_judge 3 "RegretPegsModel" (some .int) D cI cT ad av a) : ∀ (n : Nat) (v1 : Int32) (v2 : Int32) (σ : rp_St) (H : Heap) (locs : List Loc) (ls : Array Slot), rp_lp (fun _ _ _ => none) (fX7_judge_32) n v1 v2 σ = some res → mW D cI cT ad av a s σ H locs → lv_has ls 3 [(0, .ref (a 0)), (1, .int v1), (2, .int v2)] → W p l e (rp_rm 3) s m args below meth c H locs 0 0 (MQ below (rp_Qi D a (mt cI cT ad a) 15 res) args s 0 0 (rp_A a 15)) (F0 m 32 ls [])
  | 0, _, _, _, _, _, _, hF, _, _ => nomatch hF
  | n + 1, v1, v2, σ, H, locs, ls, hF, hw, hl => kX7_judge_32 hC (rp_lp (fun _ _ _ => none) (fX7_judge_32) n) (lX7_judge_32 hC n) v1 v2 σ H locs ls hF hw hl
def fX7_judge (v1 : Int32) (σ : rp_St) : Option (Int32 × rp_St) :=
  rp_bd (fX7_isSheet v1 σ) (fun r1 σ2 => (if r1 = 0 then rp_bd (fX7_finding (-1000000001) σ2) (fun r5 σ6 => some (r5, σ6)) else rp_gu (rp_in v1 4) ((if (σ2 11 (v1 : Int32).toNatClampNeg) = 0 then rp_bd (fX7_finding (-1000000002) σ2) (fun r3 σ4 => some (r3, σ4)) else rp_lp (fun _ _ _ => none) (fX7_judge_32) 300 v1 0 σ2))))
set_option maxRecDepth 100000 in
set_option maxHeartbeats 4000000 in
theorem kX7_judge_0 {p : Program} {l : Launch} {e : Env} {s : State} {m : MethodId} {args : Array Value} {below : List Frame} {meth : Method} {c : Code} {D : va_G} {cI cT : ClassId} {ad av a : Nat → Nat} {res : Int32 × rp_St} (hC : mC p s m args meth c cX7_judge 3 "RegretPegsModel" (some .int) D cI cT ad av a) (v1 : Int32) (σ : rp_St) (H : Heap) (locs : List Loc) (ls : Array Slot) (hF : fX7_judge v1 σ = some res) (hw : mW D cI cT ad av a s σ H locs) (hl : lv_has ls 3 [(0, .ref (a 0)), (1, .int v1)]) : W p l e (rp_rm 3) s m args below meth c H locs 0 0 (MQ below (rp_Qi D a (mt cI cT ad a) 15 res) args s 0 0 (rp_A a 15)) (F0 m 0 ls []) := by
  have hx := hC.1
  have hb := hC.2.1
  have hown := hC.2.2.2.1
  have hts := hC.2.2.2.2.1
  unfold fX7_judge at hF
  refine lv_iload_n (pc := 0) hx hb dX7_judge_0 rfl (lv_at hl 1 rfl) ?_
  obtain ⟨r1, σ2, hq, hF⟩ := rp_bd_e hF
  refine rp_ki (rp_runZ (rest := []) hC (mE_ok _) hw hl.1 (mX7_isSheet (l := l) v1 σ _ hq) zw_X7_250 rfl rfl (Nat.le_of_ble_eq_true rfl) (by decide) dX7_judge_1) hw (fun H locs hw => ?_)
  clear hq
  refine lv_if_ne (pc := 4) (tgt := 14) hx hb dX7_judge_4 (by decide) (fun hc => ?_) (fun hc => ?_)
  · replace hF := rp_if hc hF
    refine lv_aload_n (pc := 14) hx hb dX7_judge_14 rfl (lv_at hl 0 rfl) ?_
    refine rp_get (pc := 15) hC hw 0 (by decide) (mt_obj _) fl_X7_47 (.ref (a 11)) rfl dX7_judge_15 ?_
    refine lv_iload_n (pc := 18) hx hb dX7_judge_18 rfl (lv_at hl 1 rfl) ?_
    obtain ⟨hg, hF⟩ := rp_gu_e hF
    refine rp_ald (pc := 19) hC hw 11 (by decide) (mt_arr 11 4 rfl) 0 rfl hg dX7_judge_19 ?_
    refine lv_if_ne (pc := 20) (tgt := 30) hx hb dX7_judge_20 (by decide) (fun hc => ?_) (fun hc => ?_)
    · replace hF := rp_if hc hF
      refine lv_iconst (pc := 30) (v := 0) hx hb dX7_judge_30 (by decide) ?_
      refine lv_istore_n (pc := 31) (lv' := [(2, .int 0), (0, .ref (a 0)), (1, .int v1)]) hx hb dX7_judge_31 rfl hl (by decide) rfl (fun ls hl => ?_)
      exact lX7_judge_32 hC 300 v1 0 σ2 _ _ _ hF hw (lv_sub hl [1, 2, 0] rfl)
    · replace hF := rp_it hc hF
      refine lv_aload_n (pc := 23) hx hb dX7_judge_23 rfl (lv_at hl 0 rfl) ?_
      refine lv_ldc (pc := 24) (v := (-1000000002)) hx hb hown (hts _ wd_989) dX7_judge_24 ?_
      obtain ⟨r3, σ4, hq, hF⟩ := rp_bd_e hF
      refine rp_ki (rp_runV (rest := []) hC (mE_ok _) hw hl.1 (mX7_finding (l := l) (-1000000002) σ2 _ hq) vw_X7_78 (by decide) (mt_obj _) rfl rfl rfl (Nat.le_of_ble_eq_true rfl) (by decide) dX7_judge_26) hw (fun H locs hw => ?_)
      clear hq
      exact rp_reti (pc := 29) hC hw hF dX7_judge_29
  · replace hF := rp_it hc hF
    refine lv_aload_n (pc := 7) hx hb dX7_judge_7 rfl (lv_at hl 0 rfl) ?_
    refine lv_ldc (pc := 8) (v := (-1000000001)) hx hb hown (hts _ wd_721) dX7_judge_8 ?_
    obtain ⟨r5, σ6, hq, hF⟩ := rp_bd_e hF
    refine rp_ki (rp_runV (rest := []) hC (mE_ok _) hw hl.1 (mX7_finding (l := l) (-1000000001) σ2 _ hq) vw_X7_78 (by decide) (mt_obj _) rfl rfl rfl (Nat.le_of_ble_eq_true rfl) (by decide) dX7_judge_10) hw (fun H locs hw => ?_)
    clear hq
    exact rp_reti (pc := 13) hC hw hF dX7_judge_13
theorem mX7_judge {l : Launch} {D : va_G} {cI cT : ClassId} {ad av a : Nat → Nat} (v1 : Int32) (σ : rp_St) (res : Int32 × rp_St) (hF : fX7_judge v1 σ = some res) : mM l D cI cT ad av a yX7_judge cX7_judge 3 (some .int) 3 [.ref (a 0), .int v1] σ (rp_Qi D a (mt cI cT ad a) 15 res) :=
  rp_entry (by decide) (Nat.le_of_ble_eq_true rfl) (fun p e s m below meth c ls hC hw hl => kX7_judge_0 hC v1 σ _ _ _ hF hw (lv_sub hl [0, 1] rfl))
def fX7_image (σ : rp_St) : Option (Int32 × rp_St) :=
  rp_bd (fX7_copy 1 2 σ) (fun _ σ2 => rp_nm (rp_put σ2 0 3 ((σ2 0 3) + 1)) (fun σ3 => some ((σ3 0 3), σ3)))
set_option maxRecDepth 100000 in
set_option maxHeartbeats 4000000 in
theorem kX7_image_0 {p : Program} {l : Launch} {e : Env} {s : State} {m : MethodId} {args : Array Value} {below : List Frame} {meth : Method} {c : Code} {D : va_G} {cI cT : ClassId} {ad av a : Nat → Nat} {res : Int32 × rp_St} (hC : mC p s m args meth c cX7_image 1 "RegretPegsModel" (some .int) D cI cT ad av a) (σ : rp_St) (H : Heap) (locs : List Loc) (ls : Array Slot) (hF : fX7_image σ = some res) (hw : mW D cI cT ad av a s σ H locs) (hl : lv_has ls 1 [(0, .ref (a 0))]) : W p l e (rp_rm 2) s m args below meth c H locs 0 0 (MQ below (rp_Qi D a (mt cI cT ad a) 15 res) args s 0 0 (rp_A a 15)) (F0 m 0 ls []) := by
  have hx := hC.1
  have hb := hC.2.1
  have hown := hC.2.2.2.1
  have hts := hC.2.2.2.2.1
  unfold fX7_image at hF
  refine lv_aload_n (pc := 0) hx hb dX7_image_0 rfl (lv_at hl 0 rfl) ?_
  refine rp_get (pc := 1) hC hw 0 (by decide) (mt_obj _) fl_X7_9 (.ref (a 1)) rfl dX7_image_1 ?_
  refine lv_aload_n (pc := 4) hx hb dX7_image_4 rfl (lv_at hl 0 rfl) ?_
  refine rp_get (pc := 5) hC hw 0 (by decide) (mt_obj _) fl_X7_13 (.ref (a 2)) rfl dX7_image_5 ?_
  obtain ⟨r1, σ2, hq, hF⟩ := rp_bd_e hF
  refine rp_kv (rp_runZ (rest := []) hC (mE_ok _) hw hl.1 (mX7_copy (l := l) 1 (by decide) (mt_arr 1 221 rfl) 2 (by decide) (mt_arr 2 221 rfl) σ _ hq) zw_X7_69 rfl rfl (Nat.le_of_ble_eq_true rfl) (by decide) dX7_image_8) hw (fun H locs hw => ?_)
  clear hq
  refine lv_aload_n (pc := 11) hx hb dX7_image_11 rfl (lv_at hl 0 rfl) ?_
  refine lv_dup (pc := 12) hx hb dX7_image_12 rfl ?_
  refine rp_get (pc := 13) hC hw 0 (by decide) (mt_obj _) fl_X7_293 (.int (σ2 0 3)) rfl dX7_image_13 ?_
  refine lv_iconst (pc := 16) (v := 1) hx hb dX7_image_16 (by decide) ?_
  refine lv_iadd (pc := 17) hx hb dX7_image_17 ?_
  refine rp_set (pc := 18) (fs := mb_obj a) hC hw 0 (by decide) mt_obj fg_X7_293 rfl (Nat.le_of_ble_eq_true rfl) rfl rfl dX7_image_18 (fun H locs hw => ?_)
  obtain ⟨σ3, eσ3, hF⟩ := rp_nm_e hF
  replace hw := rp_Wn eσ3 hw
  clear eσ3
  refine lv_aload_n (pc := 21) hx hb dX7_image_21 rfl (lv_at hl 0 rfl) ?_
  refine rp_get (pc := 22) hC hw 0 (by decide) (mt_obj _) fl_X7_293 (.int (σ3 0 3)) rfl dX7_image_22 ?_
  exact rp_reti (pc := 25) hC hw hF dX7_image_25
theorem mX7_image {l : Launch} {D : va_G} {cI cT : ClassId} {ad av a : Nat → Nat}  (σ : rp_St) (res : Int32 × rp_St) (hF : fX7_image σ = some res) : mM l D cI cT ad av a yX7_image cX7_image 1 (some .int) 2 [.ref (a 0)] σ (rp_Qi D a (mt cI cT ad a) 15 res) :=
  rp_entry (by decide) (Nat.le_of_ble_eq_true rfl) (fun p e s m below meth c ls hC hw hl => kX7_image_0 hC σ _ _ _ hF hw (lv_sub hl [0] rfl))
def fX7_restore (σ : rp_St) : Option (Int32 × rp_St) :=
  (if (σ 0 3) = 0 then rp_bd (fX7_finding (-1000000002) σ) (fun r3 σ4 => some (r3, σ4)) else rp_bd (fX7_copy 2 1 σ) (fun _ σ2 => rp_gu (rp_in 0 221) (some ((σ2 1 (0 : Int32).toNatClampNeg), σ2))))
set_option maxRecDepth 100000 in
set_option maxHeartbeats 4000000 in
theorem kX7_restore_0 {p : Program} {l : Launch} {e : Env} {s : State} {m : MethodId} {args : Array Value} {below : List Frame} {meth : Method} {c : Code} {D : va_G} {cI cT : ClassId} {ad av a : Nat → Nat} {res : Int32 × rp_St} (hC : mC p s m args meth c cX7_restore 1 "RegretPegsModel" (some .int) D cI cT ad av a) (σ : rp_St) (H : Heap) (locs : List Loc) (ls : Array Slot) (hF : fX7_restore σ = some res) (hw : mW D cI cT ad av a s σ H locs) (hl : lv_has ls 1 [(0, .ref (a 0))]) : W p l e (rp_rm 2) s m args below meth c H locs 0 0 (MQ below (rp_Qi D a (mt cI cT ad a) 15 res) args s 0 0 (rp_A a 15)) (F0 m 0 ls []) := by
  have hx := hC.1
  have hb := hC.2.1
  have hown := hC.2.2.2.1
  have hts := hC.2.2.2.2.1
  unfold fX7_restore at hF
  refine lv_aload_n (pc := 0) hx hb dX7_restore_0 rfl (lv_at hl 0 rfl) ?_
  refine rp_get (pc := 1) hC hw 0 (by decide) (mt_obj _) fl_X7_293 (.int (σ 0 3)) rfl dX7_restore_1 ?_
  refine lv_if_ne (pc := 4) (tgt := 14) hx hb dX7_restore_4 (by decide) (fun hc => ?_) (fun hc => ?_)
  · replace hF := rp_if hc hF
    refine lv_aload_n (pc := 14) hx hb dX7_restore_14 rfl (lv_at hl 0 rfl) ?_
    refine rp_get (pc := 15) hC hw 0 (by decide) (mt_obj _) fl_X7_13 (.ref (a 2)) rfl dX7_restore_15 ?_
    refine lv_aload_n (pc := 18) hx hb dX7_restore_18 rfl (lv_at hl 0 rfl) ?_
    refine rp_get (pc := 19) hC hw 0 (by decide) (mt_obj _) fl_X7_9 (.ref (a 1)) rfl dX7_restore_19 ?_
    obtain ⟨r1, σ2, hq, hF⟩ := rp_bd_e hF
    refine rp_kv (rp_runZ (rest := []) hC (mE_ok _) hw hl.1 (mX7_copy (l := l) 2 (by decide) (mt_arr 2 221 rfl) 1 (by decide) (mt_arr 1 221 rfl) σ _ hq) zw_X7_69 rfl rfl (Nat.le_of_ble_eq_true rfl) (by decide) dX7_restore_22) hw (fun H locs hw => ?_)
    clear hq
    refine lv_aload_n (pc := 25) hx hb dX7_restore_25 rfl (lv_at hl 0 rfl) ?_
    refine rp_get (pc := 26) hC hw 0 (by decide) (mt_obj _) fl_X7_9 (.ref (a 1)) rfl dX7_restore_26 ?_
    refine lv_iconst (pc := 29) (v := 0) hx hb dX7_restore_29 (by decide) ?_
    obtain ⟨hg, hF⟩ := rp_gu_e hF
    refine rp_ald (pc := 30) hC hw 1 (by decide) (mt_arr 1 221 rfl) 0 rfl hg dX7_restore_30 ?_
    exact rp_reti (pc := 31) hC hw hF dX7_restore_31
  · replace hF := rp_it hc hF
    refine lv_aload_n (pc := 7) hx hb dX7_restore_7 rfl (lv_at hl 0 rfl) ?_
    refine lv_ldc (pc := 8) (v := (-1000000002)) hx hb hown (hts _ wd_989) dX7_restore_8 ?_
    obtain ⟨r3, σ4, hq, hF⟩ := rp_bd_e hF
    refine rp_ki (rp_runV (rest := []) hC (mE_ok _) hw hl.1 (mX7_finding (l := l) (-1000000002) σ _ hq) vw_X7_78 (by decide) (mt_obj _) rfl rfl rfl (Nat.le_of_ble_eq_true rfl) (by decide) dX7_restore_10) hw (fun H locs hw => ?_)
    clear hq
    exact rp_reti (pc := 13) hC hw hF dX7_restore_13
theorem mX7_restore {l : Launch} {D : va_G} {cI cT : ClassId} {ad av a : Nat → Nat}  (σ : rp_St) (res : Int32 × rp_St) (hF : fX7_restore σ = some res) : mM l D cI cT ad av a yX7_restore cX7_restore 1 (some .int) 2 [.ref (a 0)] σ (rp_Qi D a (mt cI cT ad a) 15 res) :=
  rp_entry (by decide) (Nat.le_of_ble_eq_true rfl) (fun p e s m below meth c ls hC hw hl => kX7_restore_0 hC σ _ _ _ hF hw (lv_sub hl [0] rfl))
def fX7_tell (v1 : Int32) (σ : rp_St) : Option (Int32 × rp_St) :=
  rp_gu (rp_in 4 221) ((if (σ 1 (4 : Int32).toNatClampNeg) = 20 then rp_bd (fX7_finding (-1000000004) σ) (fun r3 σ4 => some (r3, σ4)) else rp_gu (rp_in 4 221) (rp_gu (rp_in (97 + (σ 1 (4 : Int32).toNatClampNeg)) 221) (rp_nm (rp_put σ 1 ((97 + (σ 1 (4 : Int32).toNatClampNeg)) : Int32).toNatClampNeg v1) (fun σ1 => rp_gu (rp_in 4 221) (rp_gu (rp_in 4 221) (rp_nm (rp_put σ1 1 (4 : Int32).toNatClampNeg ((σ1 1 (4 : Int32).toNatClampNeg) + 1)) (fun σ2 => rp_gu (rp_in 4 221) (some ((σ2 1 (4 : Int32).toNatClampNeg), σ2))))))))))
set_option maxRecDepth 100000 in
set_option maxHeartbeats 4000000 in
theorem kX7_tell_0 {p : Program} {l : Launch} {e : Env} {s : State} {m : MethodId} {args : Array Value} {below : List Frame} {meth : Method} {c : Code} {D : va_G} {cI cT : ClassId} {ad av a : Nat → Nat} {res : Int32 × rp_St} (hC : mC p s m args meth c cX7_tell 2 "RegretPegsModel" (some .int) D cI cT ad av a) (v1 : Int32) (σ : rp_St) (H : Heap) (locs : List Loc) (ls : Array Slot) (hF : fX7_tell v1 σ = some res) (hw : mW D cI cT ad av a s σ H locs) (hl : lv_has ls 2 [(0, .ref (a 0)), (1, .int v1)]) : W p l e (rp_rm 2) s m args below meth c H locs 0 0 (MQ below (rp_Qi D a (mt cI cT ad a) 15 res) args s 0 0 (rp_A a 15)) (F0 m 0 ls []) := by
  have hx := hC.1
  have hb := hC.2.1
  have hown := hC.2.2.2.1
  have hts := hC.2.2.2.2.1
  unfold fX7_tell at hF
  refine lv_aload_n (pc := 0) hx hb dX7_tell_0 rfl (lv_at hl 0 rfl) ?_
  refine rp_get (pc := 1) hC hw 0 (by decide) (mt_obj _) fl_X7_9 (.ref (a 1)) rfl dX7_tell_1 ?_
  refine lv_iconst (pc := 4) (v := 4) hx hb dX7_tell_4 (by decide) ?_
  obtain ⟨hg, hF⟩ := rp_gu_e hF
  refine rp_ald (pc := 5) hC hw 1 (by decide) (mt_arr 1 221 rfl) 0 rfl hg dX7_tell_5 ?_
  refine lv_bipush (pc := 6) (v := 20) hx hb dX7_tell_6 (by decide) ?_
  refine lv_icmp_ne (pc := 8) (tgt := 18) hx hb dX7_tell_8 (by decide) (fun hc => ?_) (fun hc => ?_)
  · replace hF := rp_if hc hF
    refine lv_aload_n (pc := 18) hx hb dX7_tell_18 rfl (lv_at hl 0 rfl) ?_
    refine rp_get (pc := 19) hC hw 0 (by decide) (mt_obj _) fl_X7_9 (.ref (a 1)) rfl dX7_tell_19 ?_
    refine lv_bipush (pc := 22) (v := 97) hx hb dX7_tell_22 (by decide) ?_
    refine lv_aload_n (pc := 24) hx hb dX7_tell_24 rfl (lv_at hl 0 rfl) ?_
    refine rp_get (pc := 25) hC hw 0 (by decide) (mt_obj _) fl_X7_9 (.ref (a 1)) rfl dX7_tell_25 ?_
    refine lv_iconst (pc := 28) (v := 4) hx hb dX7_tell_28 (by decide) ?_
    obtain ⟨hg, hF⟩ := rp_gu_e hF
    refine rp_ald (pc := 29) hC hw 1 (by decide) (mt_arr 1 221 rfl) 0 rfl hg dX7_tell_29 ?_
    refine lv_iadd (pc := 30) hx hb dX7_tell_30 ?_
    refine lv_iload_n (pc := 31) hx hb dX7_tell_31 rfl (lv_at hl 1 rfl) ?_
    obtain ⟨hg, hF⟩ := rp_gu_e hF
    refine rp_ast (pc := 32) hC hw 1 (by decide) (mt_arr 1 221 rfl) 0 rfl hg dX7_tell_32 (fun H locs hw => ?_)
    obtain ⟨σ1, eσ1, hF⟩ := rp_nm_e hF
    replace hw := rp_Wn eσ1 hw
    clear eσ1
    refine lv_aload_n (pc := 33) hx hb dX7_tell_33 rfl (lv_at hl 0 rfl) ?_
    refine rp_get (pc := 34) hC hw 0 (by decide) (mt_obj _) fl_X7_9 (.ref (a 1)) rfl dX7_tell_34 ?_
    refine lv_iconst (pc := 37) (v := 4) hx hb dX7_tell_37 (by decide) ?_
    refine lv_dup2_11 (pc := 38) hx hb dX7_tell_38 rfl rfl ?_
    obtain ⟨hg, hF⟩ := rp_gu_e hF
    refine rp_ald (pc := 39) hC hw 1 (by decide) (mt_arr 1 221 rfl) 0 rfl hg dX7_tell_39 ?_
    refine lv_iconst (pc := 40) (v := 1) hx hb dX7_tell_40 (by decide) ?_
    refine lv_iadd (pc := 41) hx hb dX7_tell_41 ?_
    obtain ⟨hg, hF⟩ := rp_gu_e hF
    refine rp_ast (pc := 42) hC hw 1 (by decide) (mt_arr 1 221 rfl) 0 rfl hg dX7_tell_42 (fun H locs hw => ?_)
    obtain ⟨σ2, eσ2, hF⟩ := rp_nm_e hF
    replace hw := rp_Wn eσ2 hw
    clear eσ2
    refine lv_aload_n (pc := 43) hx hb dX7_tell_43 rfl (lv_at hl 0 rfl) ?_
    refine rp_get (pc := 44) hC hw 0 (by decide) (mt_obj _) fl_X7_9 (.ref (a 1)) rfl dX7_tell_44 ?_
    refine lv_iconst (pc := 47) (v := 4) hx hb dX7_tell_47 (by decide) ?_
    obtain ⟨hg, hF⟩ := rp_gu_e hF
    refine rp_ald (pc := 48) hC hw 1 (by decide) (mt_arr 1 221 rfl) 0 rfl hg dX7_tell_48 ?_
    exact rp_reti (pc := 49) hC hw hF dX7_tell_49
  · replace hF := rp_it hc hF
    refine lv_aload_n (pc := 11) hx hb dX7_tell_11 rfl (lv_at hl 0 rfl) ?_
    refine lv_ldc (pc := 12) (v := (-1000000004)) hx hb hown (hts _ wd_727) dX7_tell_12 ?_
    obtain ⟨r3, σ4, hq, hF⟩ := rp_bd_e hF
    refine rp_ki (rp_runV (rest := []) hC (mE_ok _) hw hl.1 (mX7_finding (l := l) (-1000000004) σ _ hq) vw_X7_78 (by decide) (mt_obj _) rfl rfl rfl (Nat.le_of_ble_eq_true rfl) (by decide) dX7_tell_14) hw (fun H locs hw => ?_)
    clear hq
    exact rp_reti (pc := 17) hC hw hF dX7_tell_17
theorem mX7_tell {l : Launch} {D : va_G} {cI cT : ClassId} {ad av a : Nat → Nat} (v1 : Int32) (σ : rp_St) (res : Int32 × rp_St) (hF : fX7_tell v1 σ = some res) : mM l D cI cT ad av a yX7_tell cX7_tell 2 (some .int) 2 [.ref (a 0), .int v1] σ (rp_Qi D a (mt cI cT ad a) 15 res) :=
  rp_entry (by decide) (Nat.le_of_ble_eq_true rfl) (fun p e s m below meth c ls hC hw hl => kX7_tell_0 hC v1 σ _ _ _ hF hw (lv_sub hl [0, 1] rfl))
def fX7_check_73 (v2 : Int32) (σ : rp_St) : Option (Int32 × rp_St) :=
  rp_bd (fX7_putBack v2 σ) (fun r1 σ2 => some (r1, σ2))
set_option maxRecDepth 100000 in
set_option maxHeartbeats 4000000 in
theorem kX7_check_73 {p : Program} {l : Launch} {e : Env} {s : State} {m : MethodId} {args : Array Value} {below : List Frame} {meth : Method} {c : Code} {D : va_G} {cI cT : ClassId} {ad av a : Nat → Nat} {res : Int32 × rp_St} (hC : mC p s m args meth c cX7_check 4 "RegretPegsModel" (some .int) D cI cT ad av a) (v2 : Int32) (σ : rp_St) (H : Heap) (locs : List Loc) (ls : Array Slot) (hF : fX7_check_73 v2 σ = some res) (hw : mW D cI cT ad av a s σ H locs) (hl : lv_has ls 4 [(0, .ref (a 0)), (2, .int v2)]) : W p l e (rp_rm 6) s m args below meth c H locs 0 0 (MQ below (rp_Qi D a (mt cI cT ad a) 15 res) args s 0 0 (rp_A a 15)) (F0 m 73 ls []) := by
  have hx := hC.1
  have hb := hC.2.1
  have hown := hC.2.2.2.1
  have hts := hC.2.2.2.2.1
  unfold fX7_check_73 at hF
  refine lv_aload_n (pc := 73) hx hb dX7_check_73 rfl (lv_at hl 0 rfl) ?_
  refine lv_iload_n (pc := 74) hx hb dX7_check_74 rfl (lv_at hl 1 rfl) ?_
  obtain ⟨r1, σ2, hq, hF⟩ := rp_bd_e hF
  refine rp_ki (rp_runV (rest := []) hC (mE_ok _) hw hl.1 (mX7_putBack (l := l) v2 σ _ hq) vw_X7_233 (by decide) (mt_obj _) rfl rfl rfl (Nat.le_of_ble_eq_true rfl) (by decide) dX7_check_75) hw (fun H locs hw => ?_)
  clear hq
  exact rp_reti (pc := 78) hC hw hF dX7_check_78
def fX7_check_66 (k29 : Int32 → Int32 → Int32 → rp_St → Option (Int32 × rp_St)) (v1 : Int32) (v3 : Int32) (t0 : Int32) (σ : rp_St) : Option (Int32 × rp_St) :=
  rp_nm (v3 + 1) (fun x1 => k29 v1 t0 x1 σ)
set_option maxRecDepth 100000 in
set_option maxHeartbeats 4000000 in
theorem kX7_check_66 {p : Program} {l : Launch} {e : Env} {s : State} {m : MethodId} {args : Array Value} {below : List Frame} {meth : Method} {c : Code} {D : va_G} {cI cT : ClassId} {ad av a : Nat → Nat} {res : Int32 × rp_St} (hC : mC p s m args meth c cX7_check 4 "RegretPegsModel" (some .int) D cI cT ad av a) (k29 : Int32 → Int32 → Int32 → rp_St → Option (Int32 × rp_St)) (hk29 : ∀ (v1 : Int32) (v2 : Int32) (v3 : Int32) (σ : rp_St) (H : Heap) (locs : List Loc) (ls : Array Slot), k29 v1 v2 v3 σ = some res → mW D cI cT ad av a s σ H locs → lv_has ls 4 [(0, .ref (a 0)), (1, .int v1), (2, .int v2), (3, .int v3)] → W p l e (rp_rm 6) s m args below meth c H locs 0 0 (MQ below (rp_Qi D a (mt cI cT ad a) 15 res) args s 0 0 (rp_A a 15)) (F0 m 29 ls [])) (v1 : Int32) (v3 : Int32) (t0 : Int32) (σ : rp_St) (H : Heap) (locs : List Loc) (ls : Array Slot) (hF : fX7_check_66 k29 v1 v3 t0 σ = some res) (hw : mW D cI cT ad av a s σ H locs) (hl : lv_has ls 4 [(0, .ref (a 0)), (1, .int v1), (3, .int v3)]) : W p l e (rp_rm 6) s m args below meth c H locs 0 0 (MQ below (rp_Qi D a (mt cI cT ad a) 15 res) args s 0 0 (rp_A a 15)) (F0 m 66 ls [.int t0]) := by
  have hx := hC.1
  have hb := hC.2.1
  have hown := hC.2.2.2.1
  have hts := hC.2.2.2.2.1
  unfold fX7_check_66 at hF
  refine lv_istore_n (pc := 66) (lv' := [(2, .int t0), (0, .ref (a 0)), (1, .int v1), (3, .int v3)]) hx hb dX7_check_66 rfl hl (by decide) rfl (fun ls hl => ?_)
  obtain ⟨x1, ex1, hF⟩ := rp_nm_e hF
  refine lv_iinc (pc := 67) (v := x1) (lv' := [(3, .int x1), (2, .int t0), (0, .ref (a 0)), (1, .int v1)]) hx hb dX7_check_67 hl (k := 3) rfl (by rw [ex1]; rfl) (by decide) rfl (fun ls hl => ?_)
  refine lv_goto (pc := 70) (tgt := 29) hx hb dX7_check_70 (by decide) ?_
  exact hk29 v1 t0 x1 σ _ _ _ hF hw (lv_sub hl [2, 3, 1, 0] rfl)
def fX7_check_29 (k29 : Int32 → Int32 → Int32 → rp_St → Option (Int32 × rp_St)) (v1 : Int32) (v2 : Int32) (v3 : Int32) (σ : rp_St) : Option (Int32 × rp_St) :=
  (if v1 ≤ v3 then fX7_check_73 v2 σ else (if v2 = 0 then rp_bd (fX7_hour σ) (fun _ σ2 => rp_gu (rp_in (97 + v3) 221) (rp_bd (fX7_sumOf 2 σ2) (fun r3 σ4 => (if (σ2 1 ((97 + v3) : Int32).toNatClampNeg) = r3 then fX7_check_66 k29 v1 v3 0 σ4 else fX7_check_66 k29 v1 v3 (1 + v3) σ4)))) else fX7_check_73 v2 σ))
set_option maxRecDepth 100000 in
set_option maxHeartbeats 4000000 in
theorem kX7_check_29 {p : Program} {l : Launch} {e : Env} {s : State} {m : MethodId} {args : Array Value} {below : List Frame} {meth : Method} {c : Code} {D : va_G} {cI cT : ClassId} {ad av a : Nat → Nat} {res : Int32 × rp_St} (hC : mC p s m args meth c cX7_check 4 "RegretPegsModel" (some .int) D cI cT ad av a) (k29 : Int32 → Int32 → Int32 → rp_St → Option (Int32 × rp_St)) (hk29 : ∀ (v1 : Int32) (v2 : Int32) (v3 : Int32) (σ : rp_St) (H : Heap) (locs : List Loc) (ls : Array Slot), k29 v1 v2 v3 σ = some res → mW D cI cT ad av a s σ H locs → lv_has ls 4 [(0, .ref (a 0)), (1, .int v1), (2, .int v2), (3, .int v3)] → W p l e (rp_rm 6) s m args below meth c H locs 0 0 (MQ below (rp_Qi D a (mt cI cT ad a) 15 res) args s 0 0 (rp_A a 15)) (F0 m 29 ls [])) (v1 : Int32) (v2 : Int32) (v3 : Int32) (σ : rp_St) (H : Heap) (locs : List Loc) (ls : Array Slot) (hF : fX7_check_29 k29 v1 v2 v3 σ = some res) (hw : mW D cI cT ad av a s σ H locs) (hl : lv_has ls 4 [(0, .ref (a 0)), (1, .int v1), (2, .int v2), (3, .int v3)]) : W p l e (rp_rm 6) s m args below meth c H locs 0 0 (MQ below (rp_Qi D a (mt cI cT ad a) 15 res) args s 0 0 (rp_A a 15)) (F0 m 29 ls []) := by
  have hx := hC.1
  have hb := hC.2.1
  have hown := hC.2.2.2.1
  have hts := hC.2.2.2.2.1
  unfold fX7_check_29 at hF
  refine lv_iload_n (pc := 29) hx hb dX7_check_29 rfl (lv_at hl 3 rfl) ?_
  refine lv_iload_n (pc := 30) hx hb dX7_check_30 rfl (lv_at hl 1 rfl) ?_
  refine lv_icmp_ge (pc := 31) (tgt := 73) hx hb dX7_check_31 (by decide) (fun hc => ?_) (fun hc => ?_)
  · replace hF := rp_it hc hF
    exact kX7_check_73 hC v2 σ _ _ _ hF hw (lv_sub hl [0, 2] rfl)
  · replace hF := rp_if hc hF
    refine lv_iload_n (pc := 34) hx hb dX7_check_34 rfl (lv_at hl 2 rfl) ?_
    refine lv_if_ne (pc := 35) (tgt := 73) hx hb dX7_check_35 (by decide) (fun hc => ?_) (fun hc => ?_)
    · replace hF := rp_if hc hF
      exact kX7_check_73 hC v2 σ _ _ _ hF hw (lv_sub hl [0, 2] rfl)
    · replace hF := rp_it hc hF
      refine lv_aload_n (pc := 38) hx hb dX7_check_38 rfl (lv_at hl 0 rfl) ?_
      obtain ⟨r1, σ2, hq, hF⟩ := rp_bd_e hF
      refine rp_kv (rp_runV (rest := []) hC (mE_ok _) hw hl.1 (mX7_hour (l := l) σ _ hq) vw_X7_214 (by decide) (mt_obj _) rfl rfl rfl (Nat.le_of_ble_eq_true rfl) (by decide) dX7_check_39) hw (fun H locs hw => ?_)
      clear hq
      refine lv_aload_n (pc := 42) hx hb dX7_check_42 rfl (lv_at hl 0 rfl) ?_
      refine rp_get (pc := 43) hC hw 0 (by decide) (mt_obj _) fl_X7_9 (.ref (a 1)) rfl dX7_check_43 ?_
      refine lv_bipush (pc := 46) (v := 97) hx hb dX7_check_46 (by decide) ?_
      refine lv_iload_n (pc := 48) hx hb dX7_check_48 rfl (lv_at hl 3 rfl) ?_
      refine lv_iadd (pc := 49) hx hb dX7_check_49 ?_
      obtain ⟨hg, hF⟩ := rp_gu_e hF
      refine rp_ald (pc := 50) hC hw 1 (by decide) (mt_arr 1 221 rfl) 0 rfl hg dX7_check_50 ?_
      refine lv_aload_n (pc := 51) hx hb dX7_check_51 rfl (lv_at hl 0 rfl) ?_
      refine lv_iconst (pc := 52) (v := 2) hx hb dX7_check_52 (by decide) ?_
      obtain ⟨r3, σ4, hq, hF⟩ := rp_bd_e hF
      refine rp_ki (rp_runV (rest := [.int (σ2 1 ((97 + v3) : Int32).toNatClampNeg)]) hC (mE_ok _) hw hl.1 (mX7_sumOf (l := l) 2 σ2 _ hq) vw_X7_220 (by decide) (mt_obj _) rfl rfl rfl (Nat.le_of_ble_eq_true rfl) (by decide) dX7_check_53) hw (fun H locs hw => ?_)
      clear hq
      refine lv_icmp_ne (pc := 56) (tgt := 63) hx hb dX7_check_56 (by decide) (fun hc => ?_) (fun hc => ?_)
      · replace hF := rp_if hc hF
        refine lv_iconst (pc := 63) (v := 1) hx hb dX7_check_63 (by decide) ?_
        refine lv_iload_n (pc := 64) hx hb dX7_check_64 rfl (lv_at hl 3 rfl) ?_
        refine lv_iadd (pc := 65) hx hb dX7_check_65 ?_
        exact kX7_check_66 hC k29 hk29 v1 v3 (1 + v3) σ4 _ _ _ hF hw (lv_sub hl [0, 1, 3] rfl)
      · replace hF := rp_it hc hF
        refine lv_iconst (pc := 59) (v := 0) hx hb dX7_check_59 (by decide) ?_
        refine lv_goto (pc := 60) (tgt := 66) hx hb dX7_check_60 (by decide) ?_
        exact kX7_check_66 hC k29 hk29 v1 v3 0 σ4 _ _ _ hF hw (lv_sub hl [0, 1, 3] rfl)
theorem lX7_check_29 {p : Program} {l : Launch} {e : Env} {s : State} {m : MethodId} {args : Array Value} {below : List Frame} {meth : Method} {c : Code} {D : va_G} {cI cT : ClassId} {ad av a : Nat → Nat} {res : Int32 × rp_St} (hC : mC p s m args meth c cX7_check 4 "RegretPegsModel" (some .int) D cI cT ad av a) : ∀ (n : Nat) (v1 : Int32) (v2 : Int32) (v3 : Int32) (σ : rp_St) (H : Heap) (locs : List Loc) (ls : Array Slot), rp_lp (fun _ _ _ _ => none) (fX7_check_29) n v1 v2 v3 σ = some res → mW D cI cT ad av a s σ H locs → lv_has ls 4 [(0, .ref (a 0)), (1, .int v1), (2, .int v2), (3, .int v3)] → W p l e (rp_rm 6) s m args below meth c H locs 0 0 (MQ below (rp_Qi D a (mt cI cT ad a) 15 res) args s 0 0 (rp_A a 15)) (F0 m 29 ls [])
  | 0, _, _, _, _, _, _, _, hF, _, _ => nomatch hF
  | n + 1, v1, v2, v3, σ, H, locs, ls, hF, hw, hl => kX7_check_29 hC (rp_lp (fun _ _ _ _ => none) (fX7_check_29) n) (lX7_check_29 hC n) v1 v2 v3 σ H locs ls hF hw hl
def fX7_check (σ : rp_St) : Option (Int32 × rp_St) :=
  rp_gu (rp_in 4 221) (rp_nm (σ 1 (4 : Int32).toNatClampNeg) (fun x1 => rp_gu (rp_in 4 221) (rp_nm (rp_put σ 1 (4 : Int32).toNatClampNeg 0) (fun σ2 => rp_bd (fX7_copy 1 3 σ2) (fun _ σ4 => rp_lp (fun _ _ _ _ => none) (fX7_check_29) 300 x1 0 0 σ4)))))
set_option maxRecDepth 100000 in
set_option maxHeartbeats 4000000 in
theorem kX7_check_0 {p : Program} {l : Launch} {e : Env} {s : State} {m : MethodId} {args : Array Value} {below : List Frame} {meth : Method} {c : Code} {D : va_G} {cI cT : ClassId} {ad av a : Nat → Nat} {res : Int32 × rp_St} (hC : mC p s m args meth c cX7_check 4 "RegretPegsModel" (some .int) D cI cT ad av a) (σ : rp_St) (H : Heap) (locs : List Loc) (ls : Array Slot) (hF : fX7_check σ = some res) (hw : mW D cI cT ad av a s σ H locs) (hl : lv_has ls 4 [(0, .ref (a 0))]) : W p l e (rp_rm 6) s m args below meth c H locs 0 0 (MQ below (rp_Qi D a (mt cI cT ad a) 15 res) args s 0 0 (rp_A a 15)) (F0 m 0 ls []) := by
  have hx := hC.1
  have hb := hC.2.1
  have hown := hC.2.2.2.1
  have hts := hC.2.2.2.2.1
  unfold fX7_check at hF
  refine lv_aload_n (pc := 0) hx hb dX7_check_0 rfl (lv_at hl 0 rfl) ?_
  refine rp_get (pc := 1) hC hw 0 (by decide) (mt_obj _) fl_X7_9 (.ref (a 1)) rfl dX7_check_1 ?_
  refine lv_iconst (pc := 4) (v := 4) hx hb dX7_check_4 (by decide) ?_
  obtain ⟨hg, hF⟩ := rp_gu_e hF
  refine rp_ald (pc := 5) hC hw 1 (by decide) (mt_arr 1 221 rfl) 0 rfl hg dX7_check_5 ?_
  obtain ⟨x1, ex1, hF⟩ := rp_nm_e hF
  refine rp_top ex1 ?_
  refine lv_istore_n (pc := 6) (lv' := [(1, .int x1), (0, .ref (a 0))]) hx hb dX7_check_6 rfl hl (by decide) rfl (fun ls hl => ?_)
  refine lv_aload_n (pc := 7) hx hb dX7_check_7 rfl (lv_at hl 1 rfl) ?_
  refine rp_get (pc := 8) hC hw 0 (by decide) (mt_obj _) fl_X7_9 (.ref (a 1)) rfl dX7_check_8 ?_
  refine lv_iconst (pc := 11) (v := 4) hx hb dX7_check_11 (by decide) ?_
  refine lv_iconst (pc := 12) (v := 0) hx hb dX7_check_12 (by decide) ?_
  obtain ⟨hg, hF⟩ := rp_gu_e hF
  refine rp_ast (pc := 13) hC hw 1 (by decide) (mt_arr 1 221 rfl) 0 rfl hg dX7_check_13 (fun H locs hw => ?_)
  obtain ⟨σ2, eσ2, hF⟩ := rp_nm_e hF
  replace hw := rp_Wn eσ2 hw
  clear eσ2
  refine lv_aload_n (pc := 14) hx hb dX7_check_14 rfl (lv_at hl 1 rfl) ?_
  refine rp_get (pc := 15) hC hw 0 (by decide) (mt_obj _) fl_X7_9 (.ref (a 1)) rfl dX7_check_15 ?_
  refine lv_aload_n (pc := 18) hx hb dX7_check_18 rfl (lv_at hl 1 rfl) ?_
  refine rp_get (pc := 19) hC hw 0 (by decide) (mt_obj _) fl_X7_16 (.ref (a 3)) rfl dX7_check_19 ?_
  obtain ⟨r3, σ4, hq, hF⟩ := rp_bd_e hF
  refine rp_kv (rp_runZ (rest := []) hC (mE_ok _) hw hl.1 (mX7_copy (l := l) 1 (by decide) (mt_arr 1 221 rfl) 3 (by decide) (mt_arr 3 221 rfl) σ2 _ hq) zw_X7_69 rfl rfl (Nat.le_of_ble_eq_true rfl) (by decide) dX7_check_22) hw (fun H locs hw => ?_)
  clear hq
  refine lv_iconst (pc := 25) (v := 0) hx hb dX7_check_25 (by decide) ?_
  refine lv_istore_n (pc := 26) (lv' := [(2, .int 0), (1, .int x1), (0, .ref (a 0))]) hx hb dX7_check_26 rfl hl (by decide) rfl (fun ls hl => ?_)
  refine lv_iconst (pc := 27) (v := 0) hx hb dX7_check_27 (by decide) ?_
  refine lv_istore_n (pc := 28) (lv' := [(3, .int 0), (2, .int 0), (1, .int x1), (0, .ref (a 0))]) hx hb dX7_check_28 rfl hl (by decide) rfl (fun ls hl => ?_)
  exact lX7_check_29 hC 300 x1 0 0 σ4 _ _ _ hF hw (lv_sub hl [3, 2, 1, 0] rfl)
theorem mX7_check {l : Launch} {D : va_G} {cI cT : ClassId} {ad av a : Nat → Nat}  (σ : rp_St) (res : Int32 × rp_St) (hF : fX7_check σ = some res) : mM l D cI cT ad av a yX7_check cX7_check 4 (some .int) 6 [.ref (a 0)] σ (rp_Qi D a (mt cI cT ad a) 15 res) :=
  rp_entry (by decide) (Nat.le_of_ble_eq_true rfl) (fun p e s m below meth c ls hC hw hl => kX7_check_0 hC σ _ _ _ hF hw (lv_sub hl [0] rfl))
def fX7_idleOnes_4 (k4 : Int32 → Int32 → rp_St → Option (Int32 × rp_St)) (v1 : Int32) (v2 : Int32) (σ : rp_St) : Option (Int32 × rp_St) :=
  rp_gu (rp_in 1 221) ((if (σ 1 (1 : Int32).toNatClampNeg) ≤ v2 then some (v1, σ) else rp_bd (fX7_guestIs v2 4 σ) (fun r1 σ2 => rp_nm (v1 ||| (r1 <<< (v2 &&& 31))) (fun x3 => rp_nm (v2 + 1) (fun x4 => k4 x3 x4 σ2)))))
set_option maxRecDepth 100000 in
set_option maxHeartbeats 4000000 in
theorem kX7_idleOnes_4 {p : Program} {l : Launch} {e : Env} {s : State} {m : MethodId} {args : Array Value} {below : List Frame} {meth : Method} {c : Code} {D : va_G} {cI cT : ClassId} {ad av a : Nat → Nat} {res : Int32 × rp_St} (hC : mC p s m args meth c cX7_idleOnes 3 "RegretPegsModel" (some .int) D cI cT ad av a) (k4 : Int32 → Int32 → rp_St → Option (Int32 × rp_St)) (hk4 : ∀ (v1 : Int32) (v2 : Int32) (σ : rp_St) (H : Heap) (locs : List Loc) (ls : Array Slot), k4 v1 v2 σ = some res → mW D cI cT ad av a s σ H locs → lv_has ls 3 [(0, .ref (a 0)), (1, .int v1), (2, .int v2)] → W p l e (rp_rm 3) s m args below meth c H locs 0 0 (MQ below (rp_Qi D a (mt cI cT ad a) 15 res) args s 0 0 (rp_A a 15)) (F0 m 4 ls [])) (v1 : Int32) (v2 : Int32) (σ : rp_St) (H : Heap) (locs : List Loc) (ls : Array Slot) (hF : fX7_idleOnes_4 k4 v1 v2 σ = some res) (hw : mW D cI cT ad av a s σ H locs) (hl : lv_has ls 3 [(0, .ref (a 0)), (1, .int v1), (2, .int v2)]) : W p l e (rp_rm 3) s m args below meth c H locs 0 0 (MQ below (rp_Qi D a (mt cI cT ad a) 15 res) args s 0 0 (rp_A a 15)) (F0 m 4 ls []) := by
  have hx := hC.1
  have hb := hC.2.1
  have hown := hC.2.2.2.1
  have hts := hC.2.2.2.2.1
  unfold fX7_idleOnes_4 at hF
  refine lv_iload_n (pc := 4) hx hb dX7_idleOnes_4 rfl (lv_at hl 2 rfl) ?_
  refine lv_aload_n (pc := 5) hx hb dX7_idleOnes_5 rfl (lv_at hl 0 rfl) ?_
  refine rp_get (pc := 6) hC hw 0 (by decide) (mt_obj _) fl_X7_9 (.ref (a 1)) rfl dX7_idleOnes_6 ?_
  refine lv_iconst (pc := 9) (v := 1) hx hb dX7_idleOnes_9 (by decide) ?_
  obtain ⟨hg, hF⟩ := rp_gu_e hF
  refine rp_ald (pc := 10) hC hw 1 (by decide) (mt_arr 1 221 rfl) 0 rfl hg dX7_idleOnes_10 ?_
  refine lv_icmp_ge (pc := 11) (tgt := 31) hx hb dX7_idleOnes_11 (by decide) (fun hc => ?_) (fun hc => ?_)
  · replace hF := rp_it hc hF
    refine lv_iload_n (pc := 31) hx hb dX7_idleOnes_31 rfl (lv_at hl 1 rfl) ?_
    exact rp_reti (pc := 32) hC hw hF dX7_idleOnes_32
  · replace hF := rp_if hc hF
    refine lv_iload_n (pc := 14) hx hb dX7_idleOnes_14 rfl (lv_at hl 1 rfl) ?_
    refine lv_aload_n (pc := 15) hx hb dX7_idleOnes_15 rfl (lv_at hl 0 rfl) ?_
    refine lv_iload_n (pc := 16) hx hb dX7_idleOnes_16 rfl (lv_at hl 2 rfl) ?_
    refine lv_iconst (pc := 17) (v := 4) hx hb dX7_idleOnes_17 (by decide) ?_
    obtain ⟨r1, σ2, hq, hF⟩ := rp_bd_e hF
    refine rp_ki (rp_runV (rest := [.int v1]) hC (mE_ok _) hw hl.1 (mX7_guestIs (l := l) v2 4 σ _ hq) vw_X7_165 (by decide) (mt_obj _) rfl rfl rfl (Nat.le_of_ble_eq_true rfl) (by decide) dX7_idleOnes_18) hw (fun H locs hw => ?_)
    clear hq
    refine lv_iload_n (pc := 21) hx hb dX7_idleOnes_21 rfl (lv_at hl 2 rfl) ?_
    refine lv_ishl (pc := 22) hx hb dX7_idleOnes_22 ?_
    refine lv_ior (pc := 23) hx hb dX7_idleOnes_23 ?_
    obtain ⟨x3, ex3, hF⟩ := rp_nm_e hF
    refine rp_top ex3 ?_
    refine lv_istore_n (pc := 24) (lv' := [(1, .int x3), (0, .ref (a 0)), (2, .int v2)]) hx hb dX7_idleOnes_24 rfl hl (by decide) rfl (fun ls hl => ?_)
    obtain ⟨x4, ex4, hF⟩ := rp_nm_e hF
    refine lv_iinc (pc := 25) (v := x4) (lv' := [(2, .int x4), (1, .int x3), (0, .ref (a 0))]) hx hb dX7_idleOnes_25 hl (k := 2) rfl (by rw [ex4]; rfl) (by decide) rfl (fun ls hl => ?_)
    refine lv_goto (pc := 28) (tgt := 4) hx hb dX7_idleOnes_28 (by decide) ?_
    exact hk4 x3 x4 σ2 _ _ _ hF hw (lv_sub hl [2, 1, 0] rfl)
theorem lX7_idleOnes_4 {p : Program} {l : Launch} {e : Env} {s : State} {m : MethodId} {args : Array Value} {below : List Frame} {meth : Method} {c : Code} {D : va_G} {cI cT : ClassId} {ad av a : Nat → Nat} {res : Int32 × rp_St} (hC : mC p s m args meth c cX7_idleOnes 3 "RegretPegsModel" (some .int) D cI cT ad av a) : ∀ (n : Nat) (v1 : Int32) (v2 : Int32) (σ : rp_St) (H : Heap) (locs : List Loc) (ls : Array Slot), rp_lp (fun _ _ _ => none) (fX7_idleOnes_4) n v1 v2 σ = some res → mW D cI cT ad av a s σ H locs → lv_has ls 3 [(0, .ref (a 0)), (1, .int v1), (2, .int v2)] → W p l e (rp_rm 3) s m args below meth c H locs 0 0 (MQ below (rp_Qi D a (mt cI cT ad a) 15 res) args s 0 0 (rp_A a 15)) (F0 m 4 ls [])
  | 0, _, _, _, _, _, _, hF, _, _ => nomatch hF
  | n + 1, v1, v2, σ, H, locs, ls, hF, hw, hl => kX7_idleOnes_4 hC (rp_lp (fun _ _ _ => none) (fX7_idleOnes_4) n) (lX7_idleOnes_4 hC n) v1 v2 σ H locs ls hF hw hl
def fX7_idleOnes (σ : rp_St) : Option (Int32 × rp_St) :=
  rp_lp (fun _ _ _ => none) (fX7_idleOnes_4) 300 0 0 σ
set_option maxRecDepth 100000 in
set_option maxHeartbeats 4000000 in
theorem kX7_idleOnes_0 {p : Program} {l : Launch} {e : Env} {s : State} {m : MethodId} {args : Array Value} {below : List Frame} {meth : Method} {c : Code} {D : va_G} {cI cT : ClassId} {ad av a : Nat → Nat} {res : Int32 × rp_St} (hC : mC p s m args meth c cX7_idleOnes 3 "RegretPegsModel" (some .int) D cI cT ad av a) (σ : rp_St) (H : Heap) (locs : List Loc) (ls : Array Slot) (hF : fX7_idleOnes σ = some res) (hw : mW D cI cT ad av a s σ H locs) (hl : lv_has ls 3 [(0, .ref (a 0))]) : W p l e (rp_rm 3) s m args below meth c H locs 0 0 (MQ below (rp_Qi D a (mt cI cT ad a) 15 res) args s 0 0 (rp_A a 15)) (F0 m 0 ls []) := by
  have hx := hC.1
  have hb := hC.2.1
  have hown := hC.2.2.2.1
  have hts := hC.2.2.2.2.1
  unfold fX7_idleOnes at hF
  refine lv_iconst (pc := 0) (v := 0) hx hb dX7_idleOnes_0 (by decide) ?_
  refine lv_istore_n (pc := 1) (lv' := [(1, .int 0), (0, .ref (a 0))]) hx hb dX7_idleOnes_1 rfl hl (by decide) rfl (fun ls hl => ?_)
  refine lv_iconst (pc := 2) (v := 0) hx hb dX7_idleOnes_2 (by decide) ?_
  refine lv_istore_n (pc := 3) (lv' := [(2, .int 0), (1, .int 0), (0, .ref (a 0))]) hx hb dX7_idleOnes_3 rfl hl (by decide) rfl (fun ls hl => ?_)
  exact lX7_idleOnes_4 hC 300 0 0 σ _ _ _ hF hw (lv_sub hl [2, 1, 0] rfl)
theorem mX7_idleOnes {l : Launch} {D : va_G} {cI cT : ClassId} {ad av a : Nat → Nat}  (σ : rp_St) (res : Int32 × rp_St) (hF : fX7_idleOnes σ = some res) : mM l D cI cT ad av a yX7_idleOnes cX7_idleOnes 3 (some .int) 3 [.ref (a 0)] σ (rp_Qi D a (mt cI cT ad a) 15 res) :=
  rp_entry (by decide) (Nat.le_of_ble_eq_true rfl) (fun p e s m below meth c ls hC hw hl => kX7_idleOnes_0 hC σ _ _ _ hF hw (lv_sub hl [0] rfl))
def fX7_count (v1 : Int32) (σ : rp_St) : Option (Int32 × rp_St) :=
  (if v1 = 0 then rp_gu (rp_in 1 221) (some ((σ 1 (1 : Int32).toNatClampNeg), σ)) else (if v1 = 1 then rp_gu (rp_in 0 221) (some ((σ 1 (0 : Int32).toNatClampNeg), σ)) else (if v1 = 2 then rp_bd (fX7_sumOf 2 σ) (fun r1 σ2 => some (r1, σ2)) else (if v1 = 3 then rp_bd (fX7_sumOf 3 σ) (fun r3 σ4 => some (r3, σ4)) else (if v1 = 4 then rp_bd (fX7_idleOnes σ) (fun r5 σ6 => some (r5, σ6)) else (if v1 = 5 then rp_gu (rp_in 1 221) ((if (σ 1 (1 : Int32).toNatClampNeg) = 0 then some ((-1), σ) else rp_gu (rp_in 1 221) (rp_gu (rp_in ((5 + (σ 1 (1 : Int32).toNatClampNeg)) - 1) 221) (some ((σ 1 (((5 + (σ 1 (1 : Int32).toNatClampNeg)) - 1) : Int32).toNatClampNeg), σ))))) else (if v1 = 6 then rp_gu (rp_in 3 221) (some ((σ 1 (3 : Int32).toNatClampNeg), σ)) else (if v1 = 7 then rp_gu (rp_in 4 221) (some ((σ 1 (4 : Int32).toNatClampNeg), σ)) else (if v1 = 8 then some ((σ 0 16), σ) else (if v1 = 9 then rp_gu (rp_in 2 221) (some ((σ 1 (2 : Int32).toNatClampNeg), σ)) else rp_bd (fX7_finding (-1000000001) σ) (fun r7 σ8 => some (r7, σ8))))))))))))
set_option maxRecDepth 100000 in
set_option maxHeartbeats 4000000 in
theorem kX7_count_0 {p : Program} {l : Launch} {e : Env} {s : State} {m : MethodId} {args : Array Value} {below : List Frame} {meth : Method} {c : Code} {D : va_G} {cI cT : ClassId} {ad av a : Nat → Nat} {res : Int32 × rp_St} (hC : mC p s m args meth c cX7_count 2 "RegretPegsModel" (some .int) D cI cT ad av a) (v1 : Int32) (σ : rp_St) (H : Heap) (locs : List Loc) (ls : Array Slot) (hF : fX7_count v1 σ = some res) (hw : mW D cI cT ad av a s σ H locs) (hl : lv_has ls 2 [(0, .ref (a 0)), (1, .int v1)]) : W p l e (rp_rm 4) s m args below meth c H locs 0 0 (MQ below (rp_Qi D a (mt cI cT ad a) 15 res) args s 0 0 (rp_A a 15)) (F0 m 0 ls []) := by
  have hx := hC.1
  have hb := hC.2.1
  have hown := hC.2.2.2.1
  have hts := hC.2.2.2.2.1
  unfold fX7_count at hF
  refine lv_iload_n (pc := 0) hx hb dX7_count_0 rfl (lv_at hl 1 rfl) ?_
  by_cases hs1_0 : v1 = 0
  · replace hF := rp_it hs1_0 hF
    refine lv_tableIn (pc := 1) (off := 55) (tgt := 56) hx hb dX7_count_1 (by rw [hs1_0]; decide) (by rw [hs1_0]; decide) (by rw [hs1_0]; decide +kernel) (by decide) ?_
    refine lv_aload_n (pc := 56) hx hb dX7_count_56 rfl (lv_at hl 0 rfl) ?_
    refine rp_get (pc := 57) hC hw 0 (by decide) (mt_obj _) fl_X7_9 (.ref (a 1)) rfl dX7_count_57 ?_
    refine lv_iconst (pc := 60) (v := 1) hx hb dX7_count_60 (by decide) ?_
    obtain ⟨hg, hF⟩ := rp_gu_e hF
    refine rp_ald (pc := 61) hC hw 1 (by decide) (mt_arr 1 221 rfl) 0 rfl hg dX7_count_61 ?_
    exact rp_reti (pc := 62) hC hw hF dX7_count_62
  replace hF := rp_if hs1_0 hF
  by_cases hs1_1 : v1 = 1
  · replace hF := rp_it hs1_1 hF
    refine lv_tableIn (pc := 1) (off := 62) (tgt := 63) hx hb dX7_count_1 (by rw [hs1_1]; decide) (by rw [hs1_1]; decide) (by rw [hs1_1]; decide +kernel) (by decide) ?_
    refine lv_aload_n (pc := 63) hx hb dX7_count_63 rfl (lv_at hl 0 rfl) ?_
    refine rp_get (pc := 64) hC hw 0 (by decide) (mt_obj _) fl_X7_9 (.ref (a 1)) rfl dX7_count_64 ?_
    refine lv_iconst (pc := 67) (v := 0) hx hb dX7_count_67 (by decide) ?_
    obtain ⟨hg, hF⟩ := rp_gu_e hF
    refine rp_ald (pc := 68) hC hw 1 (by decide) (mt_arr 1 221 rfl) 0 rfl hg dX7_count_68 ?_
    exact rp_reti (pc := 69) hC hw hF dX7_count_69
  replace hF := rp_if hs1_1 hF
  by_cases hs1_2 : v1 = 2
  · replace hF := rp_it hs1_2 hF
    refine lv_tableIn (pc := 1) (off := 69) (tgt := 70) hx hb dX7_count_1 (by rw [hs1_2]; decide) (by rw [hs1_2]; decide) (by rw [hs1_2]; decide +kernel) (by decide) ?_
    refine lv_aload_n (pc := 70) hx hb dX7_count_70 rfl (lv_at hl 0 rfl) ?_
    refine lv_iconst (pc := 71) (v := 2) hx hb dX7_count_71 (by decide) ?_
    obtain ⟨r1, σ2, hq, hF⟩ := rp_bd_e hF
    refine rp_ki (rp_runV (rest := []) hC (mE_ok _) hw hl.1 (mX7_sumOf (l := l) 2 σ _ hq) vw_X7_220 (by decide) (mt_obj _) rfl rfl rfl (Nat.le_of_ble_eq_true rfl) (by decide) dX7_count_72) hw (fun H locs hw => ?_)
    clear hq
    exact rp_reti (pc := 75) hC hw hF dX7_count_75
  replace hF := rp_if hs1_2 hF
  by_cases hs1_3 : v1 = 3
  · replace hF := rp_it hs1_3 hF
    refine lv_tableIn (pc := 1) (off := 75) (tgt := 76) hx hb dX7_count_1 (by rw [hs1_3]; decide) (by rw [hs1_3]; decide) (by rw [hs1_3]; decide +kernel) (by decide) ?_
    refine lv_aload_n (pc := 76) hx hb dX7_count_76 rfl (lv_at hl 0 rfl) ?_
    refine lv_iconst (pc := 77) (v := 3) hx hb dX7_count_77 (by decide) ?_
    obtain ⟨r3, σ4, hq, hF⟩ := rp_bd_e hF
    refine rp_ki (rp_runV (rest := []) hC (mE_ok _) hw hl.1 (mX7_sumOf (l := l) 3 σ _ hq) vw_X7_220 (by decide) (mt_obj _) rfl rfl rfl (Nat.le_of_ble_eq_true rfl) (by decide) dX7_count_78) hw (fun H locs hw => ?_)
    clear hq
    exact rp_reti (pc := 81) hC hw hF dX7_count_81
  replace hF := rp_if hs1_3 hF
  by_cases hs1_4 : v1 = 4
  · replace hF := rp_it hs1_4 hF
    refine lv_tableIn (pc := 1) (off := 81) (tgt := 82) hx hb dX7_count_1 (by rw [hs1_4]; decide) (by rw [hs1_4]; decide) (by rw [hs1_4]; decide +kernel) (by decide) ?_
    refine lv_aload_n (pc := 82) hx hb dX7_count_82 rfl (lv_at hl 0 rfl) ?_
    obtain ⟨r5, σ6, hq, hF⟩ := rp_bd_e hF
    refine rp_ki (rp_runV (rest := []) hC (mE_ok _) hw hl.1 (mX7_idleOnes (l := l) σ _ hq) vw_X7_296 (by decide) (mt_obj _) rfl rfl rfl (Nat.le_of_ble_eq_true rfl) (by decide) dX7_count_83) hw (fun H locs hw => ?_)
    clear hq
    exact rp_reti (pc := 86) hC hw hF dX7_count_86
  replace hF := rp_if hs1_4 hF
  by_cases hs1_5 : v1 = 5
  · replace hF := rp_it hs1_5 hF
    refine lv_tableIn (pc := 1) (off := 86) (tgt := 87) hx hb dX7_count_1 (by rw [hs1_5]; decide) (by rw [hs1_5]; decide) (by rw [hs1_5]; decide +kernel) (by decide) ?_
    refine lv_aload_n (pc := 87) hx hb dX7_count_87 rfl (lv_at hl 0 rfl) ?_
    refine rp_get (pc := 88) hC hw 0 (by decide) (mt_obj _) fl_X7_9 (.ref (a 1)) rfl dX7_count_88 ?_
    refine lv_iconst (pc := 91) (v := 1) hx hb dX7_count_91 (by decide) ?_
    obtain ⟨hg, hF⟩ := rp_gu_e hF
    refine rp_ald (pc := 92) hC hw 1 (by decide) (mt_arr 1 221 rfl) 0 rfl hg dX7_count_92 ?_
    refine lv_if_ne (pc := 93) (tgt := 100) hx hb dX7_count_93 (by decide) (fun hc => ?_) (fun hc => ?_)
    · replace hF := rp_if hc hF
      refine lv_aload_n (pc := 100) hx hb dX7_count_100 rfl (lv_at hl 0 rfl) ?_
      refine rp_get (pc := 101) hC hw 0 (by decide) (mt_obj _) fl_X7_9 (.ref (a 1)) rfl dX7_count_101 ?_
      refine lv_iconst (pc := 104) (v := 5) hx hb dX7_count_104 (by decide) ?_
      refine lv_aload_n (pc := 105) hx hb dX7_count_105 rfl (lv_at hl 0 rfl) ?_
      refine rp_get (pc := 106) hC hw 0 (by decide) (mt_obj _) fl_X7_9 (.ref (a 1)) rfl dX7_count_106 ?_
      refine lv_iconst (pc := 109) (v := 1) hx hb dX7_count_109 (by decide) ?_
      obtain ⟨hg, hF⟩ := rp_gu_e hF
      refine rp_ald (pc := 110) hC hw 1 (by decide) (mt_arr 1 221 rfl) 0 rfl hg dX7_count_110 ?_
      refine lv_iadd (pc := 111) hx hb dX7_count_111 ?_
      refine lv_iconst (pc := 112) (v := 1) hx hb dX7_count_112 (by decide) ?_
      refine lv_isub (pc := 113) hx hb dX7_count_113 ?_
      obtain ⟨hg, hF⟩ := rp_gu_e hF
      refine rp_ald (pc := 114) hC hw 1 (by decide) (mt_arr 1 221 rfl) 0 rfl hg dX7_count_114 ?_
      exact rp_reti (pc := 115) hC hw hF dX7_count_115
    · replace hF := rp_it hc hF
      refine lv_iconst (pc := 96) (v := (-1)) hx hb dX7_count_96 (by decide) ?_
      refine lv_goto (pc := 97) (tgt := 115) hx hb dX7_count_97 (by decide) ?_
      exact rp_reti (pc := 115) hC hw hF dX7_count_115
  replace hF := rp_if hs1_5 hF
  by_cases hs1_6 : v1 = 6
  · replace hF := rp_it hs1_6 hF
    refine lv_tableIn (pc := 1) (off := 115) (tgt := 116) hx hb dX7_count_1 (by rw [hs1_6]; decide) (by rw [hs1_6]; decide) (by rw [hs1_6]; decide +kernel) (by decide) ?_
    refine lv_aload_n (pc := 116) hx hb dX7_count_116 rfl (lv_at hl 0 rfl) ?_
    refine rp_get (pc := 117) hC hw 0 (by decide) (mt_obj _) fl_X7_9 (.ref (a 1)) rfl dX7_count_117 ?_
    refine lv_iconst (pc := 120) (v := 3) hx hb dX7_count_120 (by decide) ?_
    obtain ⟨hg, hF⟩ := rp_gu_e hF
    refine rp_ald (pc := 121) hC hw 1 (by decide) (mt_arr 1 221 rfl) 0 rfl hg dX7_count_121 ?_
    exact rp_reti (pc := 122) hC hw hF dX7_count_122
  replace hF := rp_if hs1_6 hF
  by_cases hs1_7 : v1 = 7
  · replace hF := rp_it hs1_7 hF
    refine lv_tableIn (pc := 1) (off := 122) (tgt := 123) hx hb dX7_count_1 (by rw [hs1_7]; decide) (by rw [hs1_7]; decide) (by rw [hs1_7]; decide +kernel) (by decide) ?_
    refine lv_aload_n (pc := 123) hx hb dX7_count_123 rfl (lv_at hl 0 rfl) ?_
    refine rp_get (pc := 124) hC hw 0 (by decide) (mt_obj _) fl_X7_9 (.ref (a 1)) rfl dX7_count_124 ?_
    refine lv_iconst (pc := 127) (v := 4) hx hb dX7_count_127 (by decide) ?_
    obtain ⟨hg, hF⟩ := rp_gu_e hF
    refine rp_ald (pc := 128) hC hw 1 (by decide) (mt_arr 1 221 rfl) 0 rfl hg dX7_count_128 ?_
    exact rp_reti (pc := 129) hC hw hF dX7_count_129
  replace hF := rp_if hs1_7 hF
  by_cases hs1_8 : v1 = 8
  · replace hF := rp_it hs1_8 hF
    refine lv_tableIn (pc := 1) (off := 129) (tgt := 130) hx hb dX7_count_1 (by rw [hs1_8]; decide) (by rw [hs1_8]; decide) (by rw [hs1_8]; decide +kernel) (by decide) ?_
    refine lv_aload_n (pc := 130) hx hb dX7_count_130 rfl (lv_at hl 0 rfl) ?_
    refine rp_get (pc := 131) hC hw 0 (by decide) (mt_obj _) fl_X7_263 (.int (σ 0 16)) rfl dX7_count_131 ?_
    exact rp_reti (pc := 134) hC hw hF dX7_count_134
  replace hF := rp_if hs1_8 hF
  by_cases hs1_9 : v1 = 9
  · replace hF := rp_it hs1_9 hF
    refine lv_tableIn (pc := 1) (off := 134) (tgt := 135) hx hb dX7_count_1 (by rw [hs1_9]; decide) (by rw [hs1_9]; decide) (by rw [hs1_9]; decide +kernel) (by decide) ?_
    refine lv_aload_n (pc := 135) hx hb dX7_count_135 rfl (lv_at hl 0 rfl) ?_
    refine rp_get (pc := 136) hC hw 0 (by decide) (mt_obj _) fl_X7_9 (.ref (a 1)) rfl dX7_count_136 ?_
    refine lv_iconst (pc := 139) (v := 2) hx hb dX7_count_139 (by decide) ?_
    obtain ⟨hg, hF⟩ := rp_gu_e hF
    refine rp_ald (pc := 140) hC hw 1 (by decide) (mt_arr 1 221 rfl) 0 rfl hg dX7_count_140 ?_
    exact rp_reti (pc := 141) hC hw hF dX7_count_141
  replace hF := rp_if hs1_9 hF
  refine lv_tableOut (pc := 1) (tgt := 142) hx hb dX7_count_1 (by have := rp_ne 0 0 (by decide) hs1_0; have := rp_ne 1 1 (by decide) hs1_1; have := rp_ne 2 2 (by decide) hs1_2; have := rp_ne 3 3 (by decide) hs1_3; have := rp_ne 4 4 (by decide) hs1_4; have := rp_ne 5 5 (by decide) hs1_5; have := rp_ne 6 6 (by decide) hs1_6; have := rp_ne 7 7 (by decide) hs1_7; have := rp_ne 8 8 (by decide) hs1_8; have := rp_ne 9 9 (by decide) hs1_9; omega) (by decide) ?_
  refine lv_aload_n (pc := 142) hx hb dX7_count_142 rfl (lv_at hl 0 rfl) ?_
  refine lv_ldc (pc := 143) (v := (-1000000001)) hx hb hown (hts _ wd_721) dX7_count_143 ?_
  obtain ⟨r7, σ8, hq, hF⟩ := rp_bd_e hF
  refine rp_ki (rp_runV (rest := []) hC (mE_ok _) hw hl.1 (mX7_finding (l := l) (-1000000001) σ _ hq) vw_X7_78 (by decide) (mt_obj _) rfl rfl rfl (Nat.le_of_ble_eq_true rfl) (by decide) dX7_count_145) hw (fun H locs hw => ?_)
  clear hq
  exact rp_reti (pc := 148) hC hw hF dX7_count_148
theorem mX7_count {l : Launch} {D : va_G} {cI cT : ClassId} {ad av a : Nat → Nat} (v1 : Int32) (σ : rp_St) (res : Int32 × rp_St) (hF : fX7_count v1 σ = some res) : mM l D cI cT ad av a yX7_count cX7_count 2 (some .int) 4 [.ref (a 0), .int v1] σ (rp_Qi D a (mt cI cT ad a) 15 res) :=
  rp_entry (by decide) (Nat.le_of_ble_eq_true rfl) (fun p e s m below meth c ls hC hw hl => kX7_count_0 hC v1 σ _ _ _ hF hw (lv_sub hl [0, 1] rfl))
def fX7_told (v1 : Int32) (σ : rp_St) : Option (Int32 × rp_St) :=
  rp_bd (fX7_within v1 1 5 σ) (fun r1 σ2 => (if r1 = 0 then rp_bd (fX7_finding (-1000000001) σ2) (fun r3 σ4 => some (r3, σ4)) else rp_gu (rp_in v1 6) (some ((σ2 4 (v1 : Int32).toNatClampNeg), σ2))))
set_option maxRecDepth 100000 in
set_option maxHeartbeats 4000000 in
theorem kX7_told_0 {p : Program} {l : Launch} {e : Env} {s : State} {m : MethodId} {args : Array Value} {below : List Frame} {meth : Method} {c : Code} {D : va_G} {cI cT : ClassId} {ad av a : Nat → Nat} {res : Int32 × rp_St} (hC : mC p s m args meth c cX7_told 2 "RegretPegsModel" (some .int) D cI cT ad av a) (v1 : Int32) (σ : rp_St) (H : Heap) (locs : List Loc) (ls : Array Slot) (hF : fX7_told v1 σ = some res) (hw : mW D cI cT ad av a s σ H locs) (hl : lv_has ls 2 [(0, .ref (a 0)), (1, .int v1)]) : W p l e (rp_rm 2) s m args below meth c H locs 0 0 (MQ below (rp_Qi D a (mt cI cT ad a) 15 res) args s 0 0 (rp_A a 15)) (F0 m 0 ls []) := by
  have hx := hC.1
  have hb := hC.2.1
  have hown := hC.2.2.2.1
  have hts := hC.2.2.2.2.1
  unfold fX7_told at hF
  refine lv_iload_n (pc := 0) hx hb dX7_told_0 rfl (lv_at hl 1 rfl) ?_
  refine lv_iconst (pc := 1) (v := 1) hx hb dX7_told_1 (by decide) ?_
  refine lv_iconst (pc := 2) (v := 5) hx hb dX7_told_2 (by decide) ?_
  obtain ⟨r1, σ2, hq, hF⟩ := rp_bd_e hF
  refine rp_ki (rp_runZ (rest := []) hC (mE_ok _) hw hl.1 (mX7_within (l := l) v1 1 5 σ _ hq) zw_X7_73 rfl rfl (Nat.le_of_ble_eq_true rfl) (by decide) dX7_told_3) hw (fun H locs hw => ?_)
  clear hq
  refine lv_if_eq (pc := 6) (tgt := 18) hx hb dX7_told_6 (by decide) (fun hc => ?_) (fun hc => ?_)
  · replace hF := rp_it hc hF
    refine lv_aload_n (pc := 18) hx hb dX7_told_18 rfl (lv_at hl 0 rfl) ?_
    refine lv_ldc (pc := 19) (v := (-1000000001)) hx hb hown (hts _ wd_721) dX7_told_19 ?_
    obtain ⟨r3, σ4, hq, hF⟩ := rp_bd_e hF
    refine rp_ki (rp_runV (rest := []) hC (mE_ok _) hw hl.1 (mX7_finding (l := l) (-1000000001) σ2 _ hq) vw_X7_78 (by decide) (mt_obj _) rfl rfl rfl (Nat.le_of_ble_eq_true rfl) (by decide) dX7_told_21) hw (fun H locs hw => ?_)
    clear hq
    exact rp_reti (pc := 24) hC hw hF dX7_told_24
  · replace hF := rp_if hc hF
    refine lv_aload_n (pc := 9) hx hb dX7_told_9 rfl (lv_at hl 0 rfl) ?_
    refine rp_get (pc := 10) hC hw 0 (by decide) (mt_obj _) fl_X7_19 (.ref (a 4)) rfl dX7_told_10 ?_
    refine lv_iload_n (pc := 13) hx hb dX7_told_13 rfl (lv_at hl 1 rfl) ?_
    obtain ⟨hg, hF⟩ := rp_gu_e hF
    refine rp_ald (pc := 14) hC hw 4 (by decide) (mt_arr 4 6 rfl) 0 rfl hg dX7_told_14 ?_
    refine lv_goto (pc := 15) (tgt := 24) hx hb dX7_told_15 (by decide) ?_
    exact rp_reti (pc := 24) hC hw hF dX7_told_24
theorem mX7_told {l : Launch} {D : va_G} {cI cT : ClassId} {ad av a : Nat → Nat} (v1 : Int32) (σ : rp_St) (res : Int32 × rp_St) (hF : fX7_told v1 σ = some res) : mM l D cI cT ad av a yX7_told cX7_told 2 (some .int) 2 [.ref (a 0), .int v1] σ (rp_Qi D a (mt cI cT ad a) 15 res) :=
  rp_entry (by decide) (Nat.le_of_ble_eq_true rfl) (fun p e s m below meth c ls hC hw hl => kX7_told_0 hC v1 σ _ _ _ hF hw (lv_sub hl [0, 1] rfl))
