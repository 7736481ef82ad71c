def fX7_wrongs_61 (k4 : Int32 → Int32 → rp_St → Option (Int32 × rp_St)) (k18 : Int32 → Int32 → Int32 → rp_St → Option (Int32 × rp_St)) (v2 : Int32) (v3 : Int32) (t0 : Int32) (t1 : Int32) (σ : rp_St) : Option (Int32 × rp_St) :=
  rp_nm (t1 + t0) (fun x1 => rp_nm (v3 + 1) (fun x2 => k18 x1 v2 x2 σ))
set_option maxRecDepth 100000 in
set_option maxHeartbeats 4000000 in
theorem kX7_wrongs_61 {p : Program} {l : Launch} {e : Env} {s : State} {m : MethodId} {args : Array Value} {below : List Frame} {meth : Method} {c : Code} {D : va_G} {cI cT : ClassId} {ad av a : Nat → Nat} {res : Int32 × rp_St} (hC : mC p s m args meth c cX7_wrongs 4 "RegretPegsModel" (some .int) D cI cT ad av a) (k4 : Int32 → Int32 → rp_St → Option (Int32 × rp_St)) (hk4 : ∀ (v1 : Int32) (v2 : Int32) (σ : rp_St) (H : Heap) (locs : List Loc) (ls : Array Slot), k4 v1 v2 σ = some res → mW D cI cT ad av a s σ H locs → lv_has ls 4 [(0, .ref (a 0)), (1, .int v1), (2, .int v2)] → W p l e (rp_rm 4) s m args below meth c H locs 0 0 (MQ below (rp_Qi D a (mt cI cT ad a) 15 res) args s 0 0 (rp_A a 15)) (F0 m 4 ls [])) (k18 : Int32 → Int32 → Int32 → rp_St → Option (Int32 × rp_St)) (hk18 : ∀ (v1 : Int32) (v2 : Int32) (v3 : Int32) (σ : rp_St) (H : Heap) (locs : List Loc) (ls : Array Slot), k18 v1 v2 v3 σ = some res → mW D cI cT ad av a s σ H locs → lv_has ls 4 [(0, .ref (a 0)), (1, .int v1), (2, .int v2), (3, .int v3)] → W p l e (rp_rm 4) s m args below meth c H locs 0 0 (MQ below (rp_Qi D a (mt cI cT ad a) 15 res) args s 0 0 (rp_A a 15)) (F0 m 18 ls [])) (v2 : Int32) (v3 : Int32) (t0 : Int32) (t1 : Int32) (σ : rp_St) (H : Heap) (locs : List Loc) (ls : Array Slot) (hF : fX7_wrongs_61 k4 k18 v2 v3 t0 t1 σ = some res) (hw : mW D cI cT ad av a s σ H locs) (hl : lv_has ls 4 [(0, .ref (a 0)), (2, .int v2), (3, .int v3)]) : W p l e (rp_rm 4) s m args below meth c H locs 0 0 (MQ below (rp_Qi D a (mt cI cT ad a) 15 res) args s 0 0 (rp_A a 15)) (F0 m 61 ls [.int t0, .int t1]) := by
  have hx := hC.1
  have hb := hC.2.1
  have hown := hC.2.2.2.1
  have hts := hC.2.2.2.2.1
  unfold fX7_wrongs_61 at hF
  refine lv_iadd (pc := 61) hx hb dX7_wrongs_61 ?_
  obtain ⟨x1, ex1, hF⟩ := rp_nm_e hF
  refine rp_top ex1 ?_
  refine lv_istore_n (pc := 62) (lv' := [(1, .int x1), (0, .ref (a 0)), (2, .int v2), (3, .int v3)]) hx hb dX7_wrongs_62 rfl hl (by decide) rfl (fun ls hl => ?_)
  obtain ⟨x2, ex2, hF⟩ := rp_nm_e hF
  refine lv_iinc (pc := 63) (v := x2) (lv' := [(3, .int x2), (1, .int x1), (0, .ref (a 0)), (2, .int v2)]) hx hb dX7_wrongs_63 hl (k := 3) rfl (by rw [ex2]; rfl) (by decide) rfl (fun ls hl => ?_)
  refine lv_goto (pc := 66) (tgt := 18) hx hb dX7_wrongs_66 (by decide) ?_
  exact hk18 x1 v2 x2 σ _ _ _ hF hw (lv_sub hl [2, 1, 3, 0] rfl)
def fX7_wrongs_18 (k4 : Int32 → Int32 → rp_St → Option (Int32 × rp_St)) (k18 : Int32 → Int32 → Int32 → rp_St → Option (Int32 × rp_St)) (v1 : Int32) (v2 : Int32) (v3 : Int32) (σ : rp_St) : Option (Int32 × rp_St) :=
  rp_gu (rp_in 1 221) ((if (σ 1 (1 : Int32).toNatClampNeg) ≤ v3 then rp_nm (v2 + 1) (fun x1 => k4 v1 x1 σ) else rp_gu (rp_in (5 + v2) 221) (rp_bd (fX7_rue (σ 1 ((5 + v2) : Int32).toNatClampNeg) σ) (fun r2 σ3 => rp_gu (rp_in (5 + v3) 221) (rp_bd (fX7_rue (σ3 1 ((5 + v3) : Int32).toNatClampNeg) σ3) (fun r4 σ5 => (if r2 ≤ r4 then fX7_wrongs_61 k4 k18 v2 v3 0 v1 σ5 else fX7_wrongs_61 k4 k18 v2 v3 1 v1 σ5)))))))
set_option maxRecDepth 100000 in
set_option maxHeartbeats 4000000 in
theorem kX7_wrongs_18 {p : Program} {l : Launch} {e : Env} {s : State} {m : MethodId} {args : Array Value} {below : List Frame} {meth : Method} {c : Code} {D : va_G} {cI cT : ClassId} {ad av a : Nat → Nat} {res : Int32 × rp_St} (hC : mC p s m args meth c cX7_wrongs 4 "RegretPegsModel" (some .int) D cI cT ad av a) (k4 : Int32 → Int32 → rp_St → Option (Int32 × rp_St)) (hk4 : ∀ (v1 : Int32) (v2 : Int32) (σ : rp_St) (H : Heap) (locs : List Loc) (ls : Array Slot), k4 v1 v2 σ = some res → mW D cI cT ad av a s σ H locs → lv_has ls 4 [(0, .ref (a 0)), (1, .int v1), (2, .int v2)] → W p l e (rp_rm 4) s m args below meth c H locs 0 0 (MQ below (rp_Qi D a (mt cI cT ad a) 15 res) args s 0 0 (rp_A a 15)) (F0 m 4 ls [])) (k18 : Int32 → Int32 → Int32 → rp_St → Option (Int32 × rp_St)) (hk18 : ∀ (v1 : Int32) (v2 : Int32) (v3 : Int32) (σ : rp_St) (H : Heap) (locs : List Loc) (ls : Array Slot), k18 v1 v2 v3 σ = some res → mW D cI cT ad av a s σ H locs → lv_has ls 4 [(0, .ref (a 0)), (1, .int v1), (2, .int v2), (3, .int v3)] → W p l e (rp_rm 4) s m args below meth c H locs 0 0 (MQ below (rp_Qi D a (mt cI cT ad a) 15 res) args s 0 0 (rp_A a 15)) (F0 m 18 ls [])) (v1 : Int32) (v2 : Int32) (v3 : Int32) (σ : rp_St) (H : Heap) (locs : List Loc) (ls : Array Slot) (hF : fX7_wrongs_18 k4 k18 v1 v2 v3 σ = some res) (hw : mW D cI cT ad av a s σ H locs) (hl : lv_has ls 4 [(0, .ref (a 0)), (1, .int v1), (2, .int v2), (3, .int v3)]) : W p l e (rp_rm 4) s m args below meth c H locs 0 0 (MQ below (rp_Qi D a (mt cI cT ad a) 15 res) args s 0 0 (rp_A a 15)) (F0 m 18 ls []) := by
  have hx := hC.1
  have hb := hC.2.1
  have hown := hC.2.2.2.1
  have hts := hC.2.2.2.2.1
  unfold fX7_wrongs_18 at hF
  refine lv_iload_n (pc := 18) hx hb dX7_wrongs_18 rfl (lv_at hl 3 rfl) ?_
  refine lv_aload_n (pc := 19) hx hb dX7_wrongs_19 rfl (lv_at hl 0 rfl) ?_
  refine rp_get (pc := 20) hC hw 0 (by decide) (mt_obj _) fl_X7_9 (.ref (a 1)) rfl dX7_wrongs_20 ?_
  refine lv_iconst (pc := 23) (v := 1) hx hb dX7_wrongs_23 (by decide) ?_
  obtain ⟨hg, hF⟩ := rp_gu_e hF
  refine rp_ald (pc := 24) hC hw 1 (by decide) (mt_arr 1 221 rfl) 0 rfl hg dX7_wrongs_24 ?_
  refine lv_icmp_ge (pc := 25) (tgt := 69) hx hb dX7_wrongs_25 (by decide) (fun hc => ?_) (fun hc => ?_)
  · replace hF := rp_it hc hF
    obtain ⟨x1, ex1, hF⟩ := rp_nm_e hF
    refine lv_iinc (pc := 69) (v := x1) (lv' := [(2, .int x1), (0, .ref (a 0)), (1, .int v1), (3, .int v3)]) hx hb dX7_wrongs_69 hl (k := 2) rfl (by rw [ex1]; rfl) (by decide) rfl (fun ls hl => ?_)
    refine lv_goto (pc := 72) (tgt := 4) hx hb dX7_wrongs_72 (by decide) ?_
    exact hk4 v1 x1 σ _ _ _ hF hw (lv_sub hl [1, 2, 0] rfl)
  · replace hF := rp_if hc hF
    refine lv_iload_n (pc := 28) hx hb dX7_wrongs_28 rfl (lv_at hl 1 rfl) ?_
    refine lv_aload_n (pc := 29) hx hb dX7_wrongs_29 rfl (lv_at hl 0 rfl) ?_
    refine lv_aload_n (pc := 30) hx hb dX7_wrongs_30 rfl (lv_at hl 0 rfl) ?_
    refine rp_get (pc := 31) hC hw 0 (by decide) (mt_obj _) fl_X7_9 (.ref (a 1)) rfl dX7_wrongs_31 ?_
    refine lv_iconst (pc := 34) (v := 5) hx hb dX7_wrongs_34 (by decide) ?_
    refine lv_iload_n (pc := 35) hx hb dX7_wrongs_35 rfl (lv_at hl 2 rfl) ?_
    refine lv_iadd (pc := 36) hx hb dX7_wrongs_36 ?_
    obtain ⟨hg, hF⟩ := rp_gu_e hF
    refine rp_ald (pc := 37) hC hw 1 (by decide) (mt_arr 1 221 rfl) 0 rfl hg dX7_wrongs_37 ?_
    obtain ⟨r2, σ3, hq, hF⟩ := rp_bd_e hF
    refine rp_ki (rp_runV (rest := [.int v1]) hC (mE_ok _) hw hl.1 (mX7_rue (l := l) (σ 1 ((5 + v2) : Int32).toNatClampNeg) σ _ hq) vw_X7_197 (by decide) (mt_obj _) rfl rfl rfl (Nat.le_of_ble_eq_true rfl) (by decide) dX7_wrongs_38) hw (fun H locs hw => ?_)
    clear hq
    refine lv_aload_n (pc := 41) hx hb dX7_wrongs_41 rfl (lv_at hl 0 rfl) ?_
    refine lv_aload_n (pc := 42) hx hb dX7_wrongs_42 rfl (lv_at hl 0 rfl) ?_
    refine rp_get (pc := 43) hC hw 0 (by decide) (mt_obj _) fl_X7_9 (.ref (a 1)) rfl dX7_wrongs_43 ?_
    refine lv_iconst (pc := 46) (v := 5) hx hb dX7_wrongs_46 (by decide) ?_
    refine lv_iload_n (pc := 47) hx hb dX7_wrongs_47 rfl (lv_at hl 3 rfl) ?_
    refine lv_iadd (pc := 48) hx hb dX7_wrongs_48 ?_
    obtain ⟨hg, hF⟩ := rp_gu_e hF
    refine rp_ald (pc := 49) hC hw 1 (by decide) (mt_arr 1 221 rfl) 0 rfl hg dX7_wrongs_49 ?_
    obtain ⟨r4, σ5, hq, hF⟩ := rp_bd_e hF
    refine rp_ki (rp_runV (rest := [.int r2, .int v1]) hC (mE_ok _) hw hl.1 (mX7_rue (l := l) (σ3 1 ((5 + v3) : Int32).toNatClampNeg) σ3 _ hq) vw_X7_197 (by decide) (mt_obj _) rfl rfl rfl (Nat.le_of_ble_eq_true rfl) (by decide) dX7_wrongs_50) hw (fun H locs hw => ?_)
    clear hq
    refine lv_icmp_le (pc := 53) (tgt := 60) hx hb dX7_wrongs_53 (by decide) (fun hc => ?_) (fun hc => ?_)
    · replace hF := rp_it hc hF
      refine lv_iconst (pc := 60) (v := 0) hx hb dX7_wrongs_60 (by decide) ?_
      exact kX7_wrongs_61 hC k4 hk4 k18 hk18 v2 v3 0 v1 σ5 _ _ _ hF hw (lv_sub hl [0, 2, 3] rfl)
    · replace hF := rp_if hc hF
      refine lv_iconst (pc := 56) (v := 1) hx hb dX7_wrongs_56 (by decide) ?_
      refine lv_goto (pc := 57) (tgt := 61) hx hb dX7_wrongs_57 (by decide) ?_
      exact kX7_wrongs_61 hC k4 hk4 k18 hk18 v2 v3 1 v1 σ5 _ _ _ hF hw (lv_sub hl [0, 2, 3] rfl)
theorem lX7_wrongs_18 {p : Program} {l : Launch} {e : Env} {s : State} {m : MethodId} {args : Array Value} {below : List Frame} {meth : Method} {c : Code} {D : va_G} {cI cT : ClassId} {ad av a : Nat → Nat} {res : Int32 × rp_St} (hC : mC p s m args meth c cX7_wrongs 4 "RegretPegsModel" (some .int) D cI cT ad av a) (k4 : Int32 → Int32 → rp_St → Option (Int32 × rp_St)) (hk4 : ∀ (v1 : Int32) (v2 : Int32) (σ : rp_St) (H : Heap) (locs : List Loc) (ls : Array Slot), k4 v1 v2 σ = some res → mW D cI cT ad av a s σ H locs → lv_has ls 4 [(0, .ref (a 0)), (1, .int v1), (2, .int v2)] → W p l e (rp_rm 4) s m args below meth c H locs 0 0 (MQ below (rp_Qi D a (mt cI cT ad a) 15 res) args s 0 0 (rp_A a 15)) (F0 m 4 ls [])) : ∀ (n : Nat) (v1 : Int32) (v2 : Int32) (v3 : Int32) (σ : rp_St) (H : Heap) (locs : List Loc) (ls : Array Slot), rp_lp (fun _ _ _ _ => none) (fX7_wrongs_18 k4) n v1 v2 v3 σ = some res → mW D cI cT ad av a s σ H locs → lv_has ls 4 [(0, .ref (a 0)), (1, .int v1), (2, .int v2), (3, .int v3)] → W p l e (rp_rm 4) s m args below meth c H locs 0 0 (MQ below (rp_Qi D a (mt cI cT ad a) 15 res) args s 0 0 (rp_A a 15)) (F0 m 18 ls [])
  | 0, _, _, _, _, _, _, _, hF, _, _ => nomatch hF
  | n + 1, v1, v2, v3, σ, H, locs, ls, hF, hw, hl => kX7_wrongs_18 hC k4 hk4 (rp_lp (fun _ _ _ _ => none) (fX7_wrongs_18 k4) n) (lX7_wrongs_18 hC k4 hk4 n) v1 v2 v3 σ H locs ls hF hw hl
def fX7_wrongs_4 (k4 : Int32 → Int32 → rp_St → Option (Int32 × rp_St)) (v1 : Int32) (v2 : Int32) (σ : rp_St) : Option (Int32 × rp_St) :=
  rp_gu (rp_in 1 221) ((if (σ 1 (1 : Int32).toNatClampNeg) ≤ v2 then some (v1, σ) else rp_nm (v2 + 1) (fun x1 => rp_lp (fun _ _ _ _ => none) (fX7_wrongs_18 k4) 300 v1 v2 x1 σ)))
set_option maxRecDepth 100000 in
set_option maxHeartbeats 4000000 in
theorem kX7_wrongs_4 {p : Program} {l : Launch} {e : Env} {s : State} {m : MethodId} {args : Array Value} {below : List Frame} {meth : Method} {c : Code} {D : va_G} {cI cT : ClassId} {ad av a : Nat → Nat} {res : Int32 × rp_St} (hC : mC p s m args meth c cX7_wrongs 4 "RegretPegsModel" (some .int) D cI cT ad av a) (k4 : Int32 → Int32 → rp_St → Option (Int32 × rp_St)) (hk4 : ∀ (v1 : Int32) (v2 : Int32) (σ : rp_St) (H : Heap) (locs : List Loc) (ls : Array Slot), k4 v1 v2 σ = some res → mW D cI cT ad av a s σ H locs → lv_has ls 4 [(0, .ref (a 0)), (1, .int v1), (2, .int v2)] → W p l e (rp_rm 4) s m args below meth c H locs 0 0 (MQ below (rp_Qi D a (mt cI cT ad a) 15 res) args s 0 0 (rp_A a 15)) (F0 m 4 ls [])) (v1 : Int32) (v2 : Int32) (σ : rp_St) (H : Heap) (locs : List Loc) (ls : Array Slot) (hF : fX7_wrongs_4 k4 v1 v2 σ = some res) (hw : mW D cI cT ad av a s σ H locs) (hl : lv_has ls 4 [(0, .ref (a 0)), (1, .int v1), (2, .int v2)]) : W p l e (rp_rm 4) s m args below meth c H locs 0 0 (MQ below (rp_Qi D a (mt cI cT ad a) 15 res) args s 0 0 (rp_A a 15)) (F0 m 4 ls []) := by
  have hx := hC.1
  have hb := hC.2.1
  have hown := hC.2.2.2.1
  have hts := hC.2.2.2.2.1
  unfold fX7_wrongs_4 at hF
  refine lv_iload_n (pc := 4) hx hb dX7_wrongs_4 rfl (lv_at hl 2 rfl) ?_
  refine lv_aload_n (pc := 5) hx hb dX7_wrongs_5 rfl (lv_at hl 0 rfl) ?_
  refine rp_get (pc := 6) hC hw 0 (by decide) (mt_obj _) fl_X7_9 (.ref (a 1)) rfl dX7_wrongs_6 ?_
  refine lv_iconst (pc := 9) (v := 1) hx hb dX7_wrongs_9 (by decide) ?_
  obtain ⟨hg, hF⟩ := rp_gu_e hF
  refine rp_ald (pc := 10) hC hw 1 (by decide) (mt_arr 1 221 rfl) 0 rfl hg dX7_wrongs_10 ?_
  refine lv_icmp_ge (pc := 11) (tgt := 75) hx hb dX7_wrongs_11 (by decide) (fun hc => ?_) (fun hc => ?_)
  · replace hF := rp_it hc hF
    refine lv_iload_n (pc := 75) hx hb dX7_wrongs_75 rfl (lv_at hl 1 rfl) ?_
    exact rp_reti (pc := 76) hC hw hF dX7_wrongs_76
  · replace hF := rp_if hc hF
    refine lv_iload_n (pc := 14) hx hb dX7_wrongs_14 rfl (lv_at hl 2 rfl) ?_
    refine lv_iconst (pc := 15) (v := 1) hx hb dX7_wrongs_15 (by decide) ?_
    refine lv_iadd (pc := 16) hx hb dX7_wrongs_16 ?_
    obtain ⟨x1, ex1, hF⟩ := rp_nm_e hF
    refine rp_top ex1 ?_
    refine lv_istore_n (pc := 17) (lv' := [(3, .int x1), (0, .ref (a 0)), (1, .int v1), (2, .int v2)]) hx hb dX7_wrongs_17 rfl hl (by decide) rfl (fun ls hl => ?_)
    exact lX7_wrongs_18 hC k4 hk4 300 v1 v2 x1 σ _ _ _ hF hw (lv_sub hl [1, 2, 3, 0] rfl)
theorem lX7_wrongs_4 {p : Program} {l : Launch} {e : Env} {s : State} {m : MethodId} {args : Array Value} {below : List Frame} {meth : Method} {c : Code} {D : va_G} {cI cT : ClassId} {ad av a : Nat → Nat} {res : Int32 × rp_St} (hC : mC p s m args meth c cX7_wrongs 4 "RegretPegsModel" (some .int) D cI cT ad av a) : ∀ (n : Nat) (v1 : Int32) (v2 : Int32) (σ : rp_St) (H : Heap) (locs : List Loc) (ls : Array Slot), rp_lp (fun _ _ _ => none) (fX7_wrongs_4) n v1 v2 σ = some res → mW D cI cT ad av a s σ H locs → lv_has ls 4 [(0, .ref (a 0)), (1, .int v1), (2, .int v2)] → W p l e (rp_rm 4) s m args below meth c H locs 0 0 (MQ below (rp_Qi D a (mt cI cT ad a) 15 res) args s 0 0 (rp_A a 15)) (F0 m 4 ls [])
  | 0, _, _, _, _, _, _, hF, _, _ => nomatch hF
  | n + 1, v1, v2, σ, H, locs, ls, hF, hw, hl => kX7_wrongs_4 hC (rp_lp (fun _ _ _ => none) (fX7_wrongs_4) n) (lX7_wrongs_4 hC n) v1 v2 σ H locs ls hF hw hl
def fX7_wrongs (σ : rp_St) : Option (Int32 × rp_St) :=
  rp_lp (fun _ _ _ => none) (fX7_wrongs_4) 300 0 0 σ
set_option maxRecDepth 100000 in
set_option maxHeartbeats 4000000 in
theorem kX7_wrongs_0 {p : Program} {l : Launch} {e : Env} {s : State} {m : MethodId} {args : Array Value} {below : List Frame} {meth : Method} {c : Code} {D : va_G} {cI cT : ClassId} {ad av a : Nat → Nat} {res : Int32 × rp_St} (hC : mC p s m args meth c cX7_wrongs 4 "RegretPegsModel" (some .int) D cI cT ad av a) (σ : rp_St) (H : Heap) (locs : List Loc) (ls : Array Slot) (hF : fX7_wrongs σ = some res) (hw : mW D cI cT ad av a s σ H locs) (hl : lv_has ls 4 [(0, .ref (a 0))]) : W p l e (rp_rm 4) s m args below meth c H locs 0 0 (MQ below (rp_Qi D a (mt cI cT ad a) 15 res) args s 0 0 (rp_A a 15)) (F0 m 0 ls []) := by
  have hx := hC.1
  have hb := hC.2.1
  have hown := hC.2.2.2.1
  have hts := hC.2.2.2.2.1
  unfold fX7_wrongs at hF
  refine lv_iconst (pc := 0) (v := 0) hx hb dX7_wrongs_0 (by decide) ?_
  refine lv_istore_n (pc := 1) (lv' := [(1, .int 0), (0, .ref (a 0))]) hx hb dX7_wrongs_1 rfl hl (by decide) rfl (fun ls hl => ?_)
  refine lv_iconst (pc := 2) (v := 0) hx hb dX7_wrongs_2 (by decide) ?_
  refine lv_istore_n (pc := 3) (lv' := [(2, .int 0), (1, .int 0), (0, .ref (a 0))]) hx hb dX7_wrongs_3 rfl hl (by decide) rfl (fun ls hl => ?_)
  exact lX7_wrongs_4 hC 300 0 0 σ _ _ _ hF hw (lv_sub hl [2, 1, 0] rfl)
theorem mX7_wrongs {l : Launch} {D : va_G} {cI cT : ClassId} {ad av a : Nat → Nat}  (σ : rp_St) (res : Int32 × rp_St) (hF : fX7_wrongs σ = some res) : mM l D cI cT ad av a yX7_wrongs cX7_wrongs 4 (some .int) 4 [.ref (a 0)] σ (rp_Qi D a (mt cI cT ad a) 15 res) :=
  rp_entry (by decide) (Nat.le_of_ble_eq_true rfl) (fun p e s m below meth c ls hC hw hl => kX7_wrongs_0 hC σ _ _ _ hF hw (lv_sub hl [0] rfl))
def fX7_swap_93 (k9 : Int32 → Int32 → Int32 → rp_St → Option (Int32 × rp_St)) (k24 : Int32 → Int32 → Int32 → Int32 → rp_St → Option (Int32 × rp_St)) (v2 : Int32) (v3 : Int32) (v4 : Int32) (v8 : Int32) (t0 : Int32) (σ : rp_St) : Option (Int32 × rp_St) :=
  rp_nm (if v8 < v2 then v8 else v2) (fun x1 => rp_nm (v4 + 1) (fun x2 => k24 t0 x1 v3 x2 σ))
set_option maxRecDepth 100000 in
set_option maxHeartbeats 4000000 in
theorem kX7_swap_93 {p : Program} {l : Launch} {e : Env} {s : State} {m : MethodId} {args : Array Value} {below : List Frame} {meth : Method} {c : Code} {D : va_G} {cI cT : ClassId} {ad av a : Nat → Nat} {res : Int32 × rp_St} (hC : mC p s m args meth c cX7_swap 9 "RegretPegsModel" (some .int) D cI cT ad av a) (k9 : Int32 → Int32 → Int32 → rp_St → Option (Int32 × rp_St)) (hk9 : ∀ (v1 : Int32) (v2 : Int32) (v3 : Int32) (σ : rp_St) (H : Heap) (locs : List Loc) (ls : Array Slot), k9 v1 v2 v3 σ = some res → mW D cI cT ad av a s σ H locs → lv_has ls 9 [(0, .ref (a 0)), (1, .int v1), (2, .int v2), (3, .int v3)] → W p l e (rp_rm 5) s m args below meth c H locs 0 0 (MQ below (rp_Qi D a (mt cI cT ad a) 15 res) args s 0 0 (rp_A a 15)) (F0 m 9 ls [])) (k24 : Int32 → Int32 → Int32 → Int32 → rp_St → Option (Int32 × rp_St)) (hk24 : ∀ (v1 : Int32) (v2 : Int32) (v3 : Int32) (v4 : Int32) (σ : rp_St) (H : Heap) (locs : List Loc) (ls : Array Slot), k24 v1 v2 v3 v4 σ = some res → mW D cI cT ad av a s σ H locs → lv_has ls 9 [(0, .ref (a 0)), (1, .int v1), (2, .int v2), (3, .int v3), (4, .int v4)] → W p l e (rp_rm 5) s m args below meth c H locs 0 0 (MQ below (rp_Qi D a (mt cI cT ad a) 15 res) args s 0 0 (rp_A a 15)) (F0 m 24 ls [])) (v2 : Int32) (v3 : Int32) (v4 : Int32) (v8 : Int32) (t0 : Int32) (σ : rp_St) (H : Heap) (locs : List Loc) (ls : Array Slot) (hF : fX7_swap_93 k9 k24 v2 v3 v4 v8 t0 σ = some res) (hw : mW D cI cT ad av a s σ H locs) (hl : lv_has ls 9 [(0, .ref (a 0)), (2, .int v2), (3, .int v3), (4, .int v4), (8, .int v8)]) : W p l e (rp_rm 5) s m args below meth c H locs 0 0 (MQ below (rp_Qi D a (mt cI cT ad a) 15 res) args s 0 0 (rp_A a 15)) (F0 m 93 ls [.int t0]) := by
  have hx := hC.1
  have hb := hC.2.1
  have hown := hC.2.2.2.1
  have hts := hC.2.2.2.2.1
  unfold fX7_swap_93 at hF
  refine lv_istore_n (pc := 93) (lv' := [(1, .int t0), (0, .ref (a 0)), (2, .int v2), (3, .int v3), (4, .int v4), (8, .int v8)]) hx hb dX7_swap_93 rfl hl (by decide) rfl (fun ls hl => ?_)
  refine lv_iload_n (pc := 94) hx hb dX7_swap_94 rfl (lv_at hl 2 rfl) ?_
  refine lv_iload (pc := 95) hx hb dX7_swap_95 (lv_at hl 5 rfl) ?_
  refine rp_min (pc := 97) hC hl.1 wd_843 wd_314 wd_9 wd_315 (Nat.le_of_ble_eq_true rfl) (by omega) dX7_swap_97 ?_
  obtain ⟨x1, ex1, hF⟩ := rp_nm_e hF
  refine rp_top ex1 ?_
  refine lv_istore_n (pc := 100) (lv' := [(2, .int x1), (1, .int t0), (0, .ref (a 0)), (3, .int v3), (4, .int v4), (8, .int v8)]) hx hb dX7_swap_100 rfl hl (by decide) rfl (fun ls hl => ?_)
  obtain ⟨x2, ex2, hF⟩ := rp_nm_e hF
  refine lv_iinc (pc := 101) (v := x2) (lv' := [(4, .int x2), (2, .int x1), (1, .int t0), (0, .ref (a 0)), (3, .int v3), (8, .int v8)]) hx hb dX7_swap_101 hl (k := 4) rfl (by rw [ex2]; rfl) (by decide) rfl (fun ls hl => ?_)
  refine lv_goto (pc := 104) (tgt := 24) hx hb dX7_swap_104 (by decide) ?_
  exact hk24 t0 x1 v3 x2 σ _ _ _ hF hw (lv_sub hl [3, 2, 1, 4, 0] rfl)
def fX7_swap_24 (k9 : Int32 → Int32 → Int32 → rp_St → Option (Int32 × rp_St)) (k24 : Int32 → Int32 → Int32 → Int32 → rp_St → Option (Int32 × rp_St)) (v1 : Int32) (v2 : Int32) (v3 : Int32) (v4 : Int32) (σ : rp_St) : Option (Int32 × rp_St) :=
  rp_gu (rp_in 1 221) ((if (σ 1 (1 : Int32).toNatClampNeg) ≤ v4 then rp_nm (v3 + 1) (fun x1 => k9 v1 v2 x1 σ) else rp_bd (fX7_pegOf v3 σ) (fun r2 σ3 => rp_bd (fX7_pegOf v4 σ3) (fun r4 σ5 => rp_bd (fX7_hangs r2 r4 σ5) (fun r6 σ7 => rp_bd (fX7_wrongs σ7) (fun r8 σ9 => rp_bd (fX7_hangs r2 r4 σ9) (fun r10 σ11 => (if v2 ≤ r8 then fX7_swap_93 k9 k24 v2 v3 v4 r8 v1 σ11 else fX7_swap_93 k9 k24 v2 v3 v4 r8 ((10 * v3) + v4) σ11))))))))
set_option maxRecDepth 100000 in
set_option maxHeartbeats 4000000 in
theorem kX7_swap_24 {p : Program} {l : Launch} {e : Env} {s : State} {m : MethodId} {args : Array Value} {below : List Frame} {meth : Method} {c : Code} {D : va_G} {cI cT : ClassId} {ad av a : Nat → Nat} {res : Int32 × rp_St} (hC : mC p s m args meth c cX7_swap 9 "RegretPegsModel" (some .int) D cI cT ad av a) (k9 : Int32 → Int32 → Int32 → rp_St → Option (Int32 × rp_St)) (hk9 : ∀ (v1 : Int32) (v2 : Int32) (v3 : Int32) (σ : rp_St) (H : Heap) (locs : List Loc) (ls : Array Slot), k9 v1 v2 v3 σ = some res → mW D cI cT ad av a s σ H locs → lv_has ls 9 [(0, .ref (a 0)), (1, .int v1), (2, .int v2), (3, .int v3)] → W p l e (rp_rm 5) s m args below meth c H locs 0 0 (MQ below (rp_Qi D a (mt cI cT ad a) 15 res) args s 0 0 (rp_A a 15)) (F0 m 9 ls [])) (k24 : Int32 → Int32 → Int32 → Int32 → rp_St → Option (Int32 × rp_St)) (hk24 : ∀ (v1 : Int32) (v2 : Int32) (v3 : Int32) (v4 : Int32) (σ : rp_St) (H : Heap) (locs : List Loc) (ls : Array Slot), k24 v1 v2 v3 v4 σ = some res → mW D cI cT ad av a s σ H locs → lv_has ls 9 [(0, .ref (a 0)), (1, .int v1), (2, .int v2), (3, .int v3), (4, .int v4)] → W p l e (rp_rm 5) s m args below meth c H locs 0 0 (MQ below (rp_Qi D a (mt cI cT ad a) 15 res) args s 0 0 (rp_A a 15)) (F0 m 24 ls [])) (v1 : Int32) (v2 : Int32) (v3 : Int32) (v4 : Int32) (σ : rp_St) (H : Heap) (locs : List Loc) (ls : Array Slot) (hF : fX7_swap_24 k9 k24 v1 v2 v3 v4 σ = some res) (hw : mW D cI cT ad av a s σ H locs) (hl : lv_has ls 9 [(0, .ref (a 0)), (1, .int v1), (2, .int v2), (3, .int v3), (4, .int v4)]) : W p l e (rp_rm 5) s m args below meth c H locs 0 0 (MQ below (rp_Qi D a (mt cI cT ad a) 15 res) args s 0 0 (rp_A a 15)) (F0 m 24 ls []) := by
  have hx := hC.1
  have hb := hC.2.1
  have hown := hC.2.2.2.1
  have hts := hC.2.2.2.2.1
  unfold fX7_swap_24 at hF
  refine lv_iload (pc := 24) hx hb dX7_swap_24 (lv_at hl 4 rfl) ?_
  refine lv_aload_n (pc := 26) hx hb dX7_swap_26 rfl (lv_at hl 0 rfl) ?_
  refine rp_get (pc := 27) hC hw 0 (by decide) (mt_obj _) fl_X7_9 (.ref (a 1)) rfl dX7_swap_27 ?_
  refine lv_iconst (pc := 30) (v := 1) hx hb dX7_swap_30 (by decide) ?_
  obtain ⟨hg, hF⟩ := rp_gu_e hF
  refine rp_ald (pc := 31) hC hw 1 (by decide) (mt_arr 1 221 rfl) 0 rfl hg dX7_swap_31 ?_
  refine lv_icmp_ge (pc := 32) (tgt := 107) hx hb dX7_swap_32 (by decide) (fun hc => ?_) (fun hc => ?_)
  · replace hF := rp_it hc hF
    obtain ⟨x1, ex1, hF⟩ := rp_nm_e hF
    refine lv_iinc (pc := 107) (v := x1) (lv' := [(3, .int x1), (0, .ref (a 0)), (1, .int v1), (2, .int v2), (4, .int v4)]) hx hb dX7_swap_107 hl (k := 3) rfl (by rw [ex1]; rfl) (by decide) rfl (fun ls hl => ?_)
    refine lv_goto (pc := 110) (tgt := 9) hx hb dX7_swap_110 (by decide) ?_
    exact hk9 v1 v2 x1 σ _ _ _ hF hw (lv_sub hl [1, 2, 3, 0] rfl)
  · replace hF := rp_if hc hF
    refine lv_aload_n (pc := 35) hx hb dX7_swap_35 rfl (lv_at hl 0 rfl) ?_
    refine lv_iload_n (pc := 36) hx hb dX7_swap_36 rfl (lv_at hl 3 rfl) ?_
    obtain ⟨r2, σ3, hq, hF⟩ := rp_bd_e hF
    refine rp_ki (rp_runV (rest := []) hC (mE_ok _) hw hl.1 (mX7_pegOf (l := l) v3 σ _ hq) vw_X7_180 (by decide) (mt_obj _) rfl rfl rfl (Nat.le_of_ble_eq_true rfl) (by decide) dX7_swap_37) hw (fun H locs hw => ?_)
    clear hq
    refine lv_istore (pc := 40) (lv' := [(5, .int r2), (0, .ref (a 0)), (1, .int v1), (2, .int v2), (3, .int v3), (4, .int v4)]) hx hb dX7_swap_40 hl (by decide) rfl (fun ls hl => ?_)
    refine lv_aload_n (pc := 42) hx hb dX7_swap_42 rfl (lv_at hl 1 rfl) ?_
    refine lv_iload (pc := 43) hx hb dX7_swap_43 (lv_at hl 5 rfl) ?_
    obtain ⟨r4, σ5, hq, hF⟩ := rp_bd_e hF
    refine rp_ki (rp_runV (rest := []) hC (mE_ok _) hw hl.1 (mX7_pegOf (l := l) v4 σ3 _ hq) vw_X7_180 (by decide) (mt_obj _) rfl rfl rfl (Nat.le_of_ble_eq_true rfl) (by decide) dX7_swap_45) hw (fun H locs hw => ?_)
    clear hq
    refine lv_istore (pc := 48) (lv' := [(6, .int r4), (5, .int r2), (0, .ref (a 0)), (1, .int v1), (2, .int v2), (3, .int v3), (4, .int v4)]) hx hb dX7_swap_48 hl (by decide) rfl (fun ls hl => ?_)
    refine lv_aload_n (pc := 50) hx hb dX7_swap_50 rfl (lv_at hl 2 rfl) ?_
    refine lv_iload (pc := 51) hx hb dX7_swap_51 (lv_at hl 1 rfl) ?_
    refine lv_iload (pc := 53) hx hb dX7_swap_53 (lv_at hl 0 rfl) ?_
    obtain ⟨r6, σ7, hq, hF⟩ := rp_bd_e hF
    refine rp_ki (rp_runV (rest := []) hC (mE_ok _) hw hl.1 (mX7_hangs (l := l) r2 r4 σ5 _ hq) vw_X7_189 (by decide) (mt_obj _) rfl rfl rfl (Nat.le_of_ble_eq_true rfl) (by decide) dX7_swap_55) hw (fun H locs hw => ?_)
    clear hq
    refine lv_istore (pc := 58) (lv' := [(7, .int r6), (6, .int r4), (5, .int r2), (0, .ref (a 0)), (1, .int v1), (2, .int v2), (3, .int v3), (4, .int v4)]) hx hb dX7_swap_58 hl (by decide) rfl (fun ls hl => ?_)
    refine lv_aload_n (pc := 60) hx hb dX7_swap_60 rfl (lv_at hl 3 rfl) ?_
    obtain ⟨r8, σ9, hq, hF⟩ := rp_bd_e hF
    refine rp_ki (rp_runV (rest := []) hC (mE_ok _) hw hl.1 (mX7_wrongs (l := l) σ7 _ hq) vw_X7_260 (by decide) (mt_obj _) rfl rfl rfl (Nat.le_of_ble_eq_true rfl) (by decide) dX7_swap_61) hw (fun H locs hw => ?_)
    clear hq
    refine lv_istore (pc := 64) (lv' := [(8, .int r8), (7, .int r6), (6, .int r4), (5, .int r2), (0, .ref (a 0)), (1, .int v1), (2, .int v2), (3, .int v3), (4, .int v4)]) hx hb dX7_swap_64 hl (by decide) rfl (fun ls hl => ?_)
    refine lv_aload_n (pc := 66) hx hb dX7_swap_66 rfl (lv_at hl 4 rfl) ?_
    refine lv_iload (pc := 67) hx hb dX7_swap_67 (lv_at hl 3 rfl) ?_
    refine lv_iload (pc := 69) hx hb dX7_swap_69 (lv_at hl 2 rfl) ?_
    obtain ⟨r10, σ11, hq, hF⟩ := rp_bd_e hF
    refine rp_ki (rp_runV (rest := []) hC (mE_ok _) hw hl.1 (mX7_hangs (l := l) r2 r4 σ9 _ hq) vw_X7_189 (by decide) (mt_obj _) rfl rfl rfl (Nat.le_of_ble_eq_true rfl) (by decide) dX7_swap_71) hw (fun H locs hw => ?_)
    clear hq
    refine lv_istore (pc := 74) (lv' := [(7, .int r10), (8, .int r8), (6, .int r4), (5, .int r2), (0, .ref (a 0)), (1, .int v1), (2, .int v2), (3, .int v3), (4, .int v4)]) hx hb dX7_swap_74 hl (by decide) rfl (fun ls hl => ?_)
    refine lv_iload (pc := 76) hx hb dX7_swap_76 (lv_at hl 1 rfl) ?_
    refine lv_iload_n (pc := 78) hx hb dX7_swap_78 rfl (lv_at hl 6 rfl) ?_
    refine lv_icmp_ge (pc := 79) (tgt := 92) hx hb dX7_swap_79 (by decide) (fun hc => ?_) (fun hc => ?_)
    · replace hF := rp_it hc hF
      refine lv_iload_n (pc := 92) hx hb dX7_swap_92 rfl (lv_at hl 5 rfl) ?_
      exact kX7_swap_93 hC k9 hk9 k24 hk24 v2 v3 v4 r8 v1 σ11 _ _ _ hF hw (lv_sub hl [4, 6, 7, 8, 1] rfl)
    · replace hF := rp_if hc hF
      refine lv_bipush (pc := 82) (v := 10) hx hb dX7_swap_82 (by decide) ?_
      refine lv_iload_n (pc := 84) hx hb dX7_swap_84 rfl (lv_at hl 7 rfl) ?_
      refine lv_imul (pc := 85) hx hb dX7_swap_85 ?_
      refine lv_iload (pc := 86) hx hb dX7_swap_86 (lv_at hl 8 rfl) ?_
      refine lv_iadd (pc := 88) hx hb dX7_swap_88 ?_
      refine lv_goto (pc := 89) (tgt := 93) hx hb dX7_swap_89 (by decide) ?_
      exact kX7_swap_93 hC k9 hk9 k24 hk24 v2 v3 v4 r8 ((10 * v3) + v4) σ11 _ _ _ hF hw (lv_sub hl [4, 6, 7, 8, 1] rfl)
theorem lX7_swap_24 {p : Program} {l : Launch} {e : Env} {s : State} {m : MethodId} {args : Array Value} {below : List Frame} {meth : Method} {c : Code} {D : va_G} {cI cT : ClassId} {ad av a : Nat → Nat} {res : Int32 × rp_St} (hC : mC p s m args meth c cX7_swap 9 "RegretPegsModel" (some .int) D cI cT ad av a) (k9 : Int32 → Int32 → Int32 → rp_St → Option (Int32 × rp_St)) (hk9 : ∀ (v1 : Int32) (v2 : Int32) (v3 : Int32) (σ : rp_St) (H : Heap) (locs : List Loc) (ls : Array Slot), k9 v1 v2 v3 σ = some res → mW D cI cT ad av a s σ H locs → lv_has ls 9 [(0, .ref (a 0)), (1, .int v1), (2, .int v2), (3, .int v3)] → W p l e (rp_rm 5) s m args below meth c H locs 0 0 (MQ below (rp_Qi D a (mt cI cT ad a) 15 res) args s 0 0 (rp_A a 15)) (F0 m 9 ls [])) : ∀ (n : Nat) (v1 : Int32) (v2 : Int32) (v3 : Int32) (v4 : Int32) (σ : rp_St) (H : Heap) (locs : List Loc) (ls : Array Slot), rp_lp (fun _ _ _ _ _ => none) (fX7_swap_24 k9) n v1 v2 v3 v4 σ = some res → mW D cI cT ad av a s σ H locs → lv_has ls 9 [(0, .ref (a 0)), (1, .int v1), (2, .int v2), (3, .int v3), (4, .int v4)] → W p l e (rp_rm 5) s m args below meth c H locs 0 0 (MQ below (rp_Qi D a (mt cI cT ad a) 15 res) args s 0 0 (rp_A a 15)) (F0 m 24 ls [])
  | 0, _, _, _, _, _, _, _, _, hF, _, _ => nomatch hF
  | n + 1, v1, v2, v3, v4, σ, H, locs, ls, hF, hw, hl => kX7_swap_24 hC k9 hk9 (rp_lp (fun _ _ _ _ _ => none) (fX7_swap_24 k9) n) (lX7_swap_24 hC k9 hk9 n) v1 v2 v3 v4 σ H locs ls hF hw hl
def fX7_swap_9 (k9 : Int32 → Int32 → Int32 → rp_St → Option (Int32 × rp_St)) (v1 : Int32) (v2 : Int32) (v3 : Int32) (σ : rp_St) : Option (Int32 × rp_St) :=
  rp_gu (rp_in 1 221) ((if (σ 1 (1 : Int32).toNatClampNeg) ≤ v3 then some (v1, σ) else rp_nm (v3 + 1) (fun x1 => rp_lp (fun _ _ _ _ _ => none) (fX7_swap_24 k9) 300 v1 v2 v3 x1 σ)))
set_option maxRecDepth 100000 in
set_option maxHeartbeats 4000000 in
theorem kX7_swap_9 {p : Program} {l : Launch} {e : Env} {s : State} {m : MethodId} {args : Array Value} {below : List Frame} {meth : Method} {c : Code} {D : va_G} {cI cT : ClassId} {ad av a : Nat → Nat} {res : Int32 × rp_St} (hC : mC p s m args meth c cX7_swap 9 "RegretPegsModel" (some .int) D cI cT ad av a) (k9 : Int32 → Int32 → Int32 → rp_St → Option (Int32 × rp_St)) (hk9 : ∀ (v1 : Int32) (v2 : Int32) (v3 : Int32) (σ : rp_St) (H : Heap) (locs : List Loc) (ls : Array Slot), k9 v1 v2 v3 σ = some res → mW D cI cT ad av a s σ H locs → lv_has ls 9 [(0, .ref (a 0)), (1, .int v1), (2, .int v2), (3, .int v3)] → W p l e (rp_rm 5) s m args below meth c H locs 0 0 (MQ below (rp_Qi D a (mt cI cT ad a) 15 res) args s 0 0 (rp_A a 15)) (F0 m 9 ls [])) (v1 : Int32) (v2 : Int32) (v3 : Int32) (σ : rp_St) (H : Heap) (locs : List Loc) (ls : Array Slot) (hF : fX7_swap_9 k9 v1 v2 v3 σ = some res) (hw : mW D cI cT ad av a s σ H locs) (hl : lv_has ls 9 [(0, .ref (a 0)), (1, .int v1), (2, .int v2), (3, .int v3)]) : W p l e (rp_rm 5) s m args below meth c H locs 0 0 (MQ below (rp_Qi D a (mt cI cT ad a) 15 res) args s 0 0 (rp_A a 15)) (F0 m 9 ls []) := by
  have hx := hC.1
  have hb := hC.2.1
  have hown := hC.2.2.2.1
  have hts := hC.2.2.2.2.1
  unfold fX7_swap_9 at hF
  refine lv_iload_n (pc := 9) hx hb dX7_swap_9 rfl (lv_at hl 3 rfl) ?_
  refine lv_aload_n (pc := 10) hx hb dX7_swap_10 rfl (lv_at hl 0 rfl) ?_
  refine rp_get (pc := 11) hC hw 0 (by decide) (mt_obj _) fl_X7_9 (.ref (a 1)) rfl dX7_swap_11 ?_
  refine lv_iconst (pc := 14) (v := 1) hx hb dX7_swap_14 (by decide) ?_
  obtain ⟨hg, hF⟩ := rp_gu_e hF
  refine rp_ald (pc := 15) hC hw 1 (by decide) (mt_arr 1 221 rfl) 0 rfl hg dX7_swap_15 ?_
  refine lv_icmp_ge (pc := 16) (tgt := 113) hx hb dX7_swap_16 (by decide) (fun hc => ?_) (fun hc => ?_)
  · replace hF := rp_it hc hF
    refine lv_iload_n (pc := 113) hx hb dX7_swap_113 rfl (lv_at hl 1 rfl) ?_
    exact rp_reti (pc := 114) hC hw hF dX7_swap_114
  · replace hF := rp_if hc hF
    refine lv_iload_n (pc := 19) hx hb dX7_swap_19 rfl (lv_at hl 3 rfl) ?_
    refine lv_iconst (pc := 20) (v := 1) hx hb dX7_swap_20 (by decide) ?_
    refine lv_iadd (pc := 21) hx hb dX7_swap_21 ?_
    obtain ⟨x1, ex1, hF⟩ := rp_nm_e hF
    refine rp_top ex1 ?_
    refine lv_istore (pc := 22) (lv' := [(4, .int x1), (0, .ref (a 0)), (1, .int v1), (2, .int v2), (3, .int v3)]) hx hb dX7_swap_22 hl (by decide) rfl (fun ls hl => ?_)
    exact lX7_swap_24 hC k9 hk9 300 v1 v2 v3 x1 σ _ _ _ hF hw (lv_sub hl [1, 2, 3, 4, 0] rfl)
theorem lX7_swap_9 {p : Program} {l : Launch} {e : Env} {s : State} {m : MethodId} {args : Array Value} {below : List Frame} {meth : Method} {c : Code} {D : va_G} {cI cT : ClassId} {ad av a : Nat → Nat} {res : Int32 × rp_St} (hC : mC p s m args meth c cX7_swap 9 "RegretPegsModel" (some .int) D cI cT ad av a) : ∀ (n : Nat) (v1 : Int32) (v2 : Int32) (v3 : Int32) (σ : rp_St) (H : Heap) (locs : List Loc) (ls : Array Slot), rp_lp (fun _ _ _ _ => none) (fX7_swap_9) n v1 v2 v3 σ = some res → mW D cI cT ad av a s σ H locs → lv_has ls 9 [(0, .ref (a 0)), (1, .int v1), (2, .int v2), (3, .int v3)] → W p l e (rp_rm 5) s m args below meth c H locs 0 0 (MQ below (rp_Qi D a (mt cI cT ad a) 15 res) args s 0 0 (rp_A a 15)) (F0 m 9 ls [])
  | 0, _, _, _, _, _, _, _, hF, _, _ => nomatch hF
  | n + 1, v1, v2, v3, σ, H, locs, ls, hF, hw, hl => kX7_swap_9 hC (rp_lp (fun _ _ _ _ => none) (fX7_swap_9) n) (lX7_swap_9 hC n) v1 v2 v3 σ H locs ls hF hw hl
def fX7_swap (σ : rp_St) : Option (Int32 × rp_St) :=
  rp_bd (fX7_wrongs σ) (fun r1 σ2 => rp_lp (fun _ _ _ _ => none) (fX7_swap_9) 300 (-1) r1 0 σ2)
set_option maxRecDepth 100000 in
set_option maxHeartbeats 4000000 in
theorem kX7_swap_0 {p : Program} {l : Launch} {e : Env} {s : State} {m : MethodId} {args : Array Value} {below : List Frame} {meth : Method} {c : Code} {D : va_G} {cI cT : ClassId} {ad av a : Nat → Nat} {res : Int32 × rp_St} (hC : mC p s m args meth c cX7_swap 9 "RegretPegsModel" (some .int) D cI cT ad av a) (σ : rp_St) (H : Heap) (locs : List Loc) (ls : Array Slot) (hF : fX7_swap σ = some res) (hw : mW D cI cT ad av a s σ H locs) (hl : lv_has ls 9 [(0, .ref (a 0))]) : W p l e (rp_rm 5) s m args below meth c H locs 0 0 (MQ below (rp_Qi D a (mt cI cT ad a) 15 res) args s 0 0 (rp_A a 15)) (F0 m 0 ls []) := by
  have hx := hC.1
  have hb := hC.2.1
  have hown := hC.2.2.2.1
  have hts := hC.2.2.2.2.1
  unfold fX7_swap at hF
  refine lv_iconst (pc := 0) (v := (-1)) hx hb dX7_swap_0 (by decide) ?_
  refine lv_istore_n (pc := 1) (lv' := [(1, .int (-1)), (0, .ref (a 0))]) hx hb dX7_swap_1 rfl hl (by decide) rfl (fun ls hl => ?_)
  refine lv_aload_n (pc := 2) hx hb dX7_swap_2 rfl (lv_at hl 1 rfl) ?_
  obtain ⟨r1, σ2, hq, hF⟩ := rp_bd_e hF
  refine rp_ki (rp_runV (rest := []) hC (mE_ok _) hw hl.1 (mX7_wrongs (l := l) σ _ hq) vw_X7_260 (by decide) (mt_obj _) rfl rfl rfl (Nat.le_of_ble_eq_true rfl) (by decide) dX7_swap_3) hw (fun H locs hw => ?_)
  clear hq
  refine lv_istore_n (pc := 6) (lv' := [(2, .int r1), (1, .int (-1)), (0, .ref (a 0))]) hx hb dX7_swap_6 rfl hl (by decide) rfl (fun ls hl => ?_)
  refine lv_iconst (pc := 7) (v := 0) hx hb dX7_swap_7 (by decide) ?_
  refine lv_istore_n (pc := 8) (lv' := [(3, .int 0), (2, .int r1), (1, .int (-1)), (0, .ref (a 0))]) hx hb dX7_swap_8 rfl hl (by decide) rfl (fun ls hl => ?_)
  exact lX7_swap_9 hC 300 (-1) r1 0 σ2 _ _ _ hF hw (lv_sub hl [3, 2, 1, 0] rfl)
theorem mX7_swap {l : Launch} {D : va_G} {cI cT : ClassId} {ad av a : Nat → Nat}  (σ : rp_St) (res : Int32 × rp_St) (hF : fX7_swap σ = some res) : mM l D cI cT ad av a yX7_swap cX7_swap 9 (some .int) 5 [.ref (a 0)] σ (rp_Qi D a (mt cI cT ad a) 15 res) :=
  rp_entry (by decide) (Nat.le_of_ble_eq_true rfl) (fun p e s m below meth c ls hC hw hl => kX7_swap_0 hC σ _ _ _ hF hw (lv_sub hl [0] rfl))
def fX7_go_15 (σ : rp_St) : Option (Int32 × rp_St) :=
  rp_bd (fX7_finding (-1000000001) σ) (fun r1 σ2 => some (r1, σ2))
set_option maxRecDepth 100000 in
set_option maxHeartbeats 4000000 in
theorem kX7_go_15 {p : Program} {l : Launch} {e : Env} {s : State} {m : MethodId} {args : Array Value} {below : List Frame} {meth : Method} {c : Code} {D : va_G} {cI cT : ClassId} {ad av a : Nat → Nat} {res : Int32 × rp_St} (hC : mC p s m args meth c cX7_go 7 "RegretPegsModel" (some .int) D cI cT ad av a) (σ : rp_St) (H : Heap) (locs : List Loc) (ls : Array Slot) (hF : fX7_go_15 σ = some res) (hw : mW D cI cT ad av a s σ H locs) (hl : lv_has ls 7 [(0, .ref (a 0))]) : W p l e (rp_rm 7) s m args below meth c H locs 0 0 (MQ below (rp_Qi D a (mt cI cT ad a) 15 res) args s 0 0 (rp_A a 15)) (F0 m 15 ls []) := by
  have hx := hC.1
  have hb := hC.2.1
  have hown := hC.2.2.2.1
  have hts := hC.2.2.2.2.1
  unfold fX7_go_15 at hF
  refine lv_aload_n (pc := 15) hx hb dX7_go_15 rfl (lv_at hl 0 rfl) ?_
  refine lv_ldc (pc := 16) (v := (-1000000001)) hx hb hown (hts _ wd_721) dX7_go_16 ?_
  obtain ⟨r1, σ2, hq, hF⟩ := rp_bd_e hF
  refine rp_ki (rp_runV (rest := []) hC (mE_ok _) hw hl.1 (mX7_finding (l := l) (-1000000001) σ _ hq) vw_X7_78 (by decide) (mt_obj _) rfl rfl rfl (Nat.le_of_ble_eq_true rfl) (by decide) dX7_go_18) hw (fun H locs hw => ?_)
  clear hq
  exact rp_reti (pc := 21) hC hw hF dX7_go_21
def fX7_go_110 (k31 : Int32 → Int32 → Int32 → Int32 → Int32 → rp_St → Option (Int32 × rp_St)) (v1 : Int32) (v2 : Int32) (v3 : Int32) (v4 : Int32) (v5 : Int32) (σ : rp_St) : Option (Int32 × rp_St) :=
  rp_nm (v5 + 1) (fun x1 => k31 v1 v2 v3 v4 x1 σ)
set_option maxRecDepth 100000 in
set_option maxHeartbeats 4000000 in
theorem kX7_go_110 {p : Program} {l : Launch} {e : Env} {s : State} {m : MethodId} {args : Array Value} {below : List Frame} {meth : Method} {c : Code} {D : va_G} {cI cT : ClassId} {ad av a : Nat → Nat} {res : Int32 × rp_St} (hC : mC p s m args meth c cX7_go 7 "RegretPegsModel" (some .int) D cI cT ad av a) (k31 : Int32 → Int32 → Int32 → Int32 → Int32 → rp_St → Option (Int32 × rp_St)) (hk31 : ∀ (v1 : Int32) (v2 : Int32) (v3 : Int32) (v4 : Int32) (v5 : Int32) (σ : rp_St) (H : Heap) (locs : List Loc) (ls : Array Slot), k31 v1 v2 v3 v4 v5 σ = some res → mW D cI cT ad av a s σ H locs → lv_has ls 7 [(0, .ref (a 0)), (1, .int v1), (2, .int v2), (3, .int v3), (4, .int v4), (5, .int v5)] → W p l e (rp_rm 7) s m args below meth c H locs 0 0 (MQ below (rp_Qi D a (mt cI cT ad a) 15 res) args s 0 0 (rp_A a 15)) (F0 m 31 ls [])) (v1 : Int32) (v2 : Int32) (v3 : Int32) (v4 : Int32) (v5 : Int32) (σ : rp_St) (H : Heap) (locs : List Loc) (ls : Array Slot) (hF : fX7_go_110 k31 v1 v2 v3 v4 v5 σ = some res) (hw : mW D cI cT ad av a s σ H locs) (hl : lv_has ls 7 [(0, .ref (a 0)), (1, .int v1), (2, .int v2), (3, .int v3), (4, .int v4), (5, .int v5)]) : W p l e (rp_rm 7) s m args below meth c H locs 0 0 (MQ below (rp_Qi D a (mt cI cT ad a) 15 res) args s 0 0 (rp_A a 15)) (F0 m 110 ls []) := by
  have hx := hC.1
  have hb := hC.2.1
  have hown := hC.2.2.2.1
  have hts := hC.2.2.2.2.1
  unfold fX7_go_110 at hF
  obtain ⟨x1, ex1, hF⟩ := rp_nm_e hF
  refine lv_iinc (pc := 110) (v := x1) (lv' := [(5, .int x1), (0, .ref (a 0)), (1, .int v1), (2, .int v2), (3, .int v3), (4, .int v4)]) hx hb dX7_go_110 hl (k := 5) rfl (by rw [ex1]; rfl) (by decide) rfl (fun ls hl => ?_)
  refine lv_goto (pc := 113) (tgt := 31) hx hb dX7_go_113 (by decide) ?_
  exact hk31 v1 v2 v3 v4 x1 σ _ _ _ hF hw (lv_sub hl [1, 2, 3, 4, 5, 0] rfl)
def fX7_go_100 (k31 : Int32 → Int32 → Int32 → Int32 → Int32 → rp_St → Option (Int32 × rp_St)) (v1 : Int32) (v2 : Int32) (v4 : Int32) (v5 : Int32) (v6 : Int32) (t0 : Int32) (σ : rp_St) : Option (Int32 × rp_St) :=
  rp_nm (if v6 < v4 then v6 else v4) (fun x1 => fX7_go_110 k31 v1 v2 t0 x1 v5 σ)
set_option maxRecDepth 100000 in
set_option maxHeartbeats 4000000 in
theorem kX7_go_100 {p : Program} {l : Launch} {e : Env} {s : State} {m : MethodId} {args : Array Value} {below : List Frame} {meth : Method} {c : Code} {D : va_G} {cI cT : ClassId} {ad av a : Nat → Nat} {res : Int32 × rp_St} (hC : mC p s m args meth c cX7_go 7 "RegretPegsModel" (some .int) D cI cT ad av a) (k31 : Int32 → Int32 → Int32 → Int32 → Int32 → rp_St → Option (Int32 × rp_St)) (hk31 : ∀ (v1 : Int32) (v2 : Int32) (v3 : Int32) (v4 : Int32) (v5 : Int32) (σ : rp_St) (H : Heap) (locs : List Loc) (ls : Array Slot), k31 v1 v2 v3 v4 v5 σ = some res → mW D cI cT ad av a s σ H locs → lv_has ls 7 [(0, .ref (a 0)), (1, .int v1), (2, .int v2), (3, .int v3), (4, .int v4), (5, .int v5)] → W p l e (rp_rm 7) s m args below meth c H locs 0 0 (MQ below (rp_Qi D a (mt cI cT ad a) 15 res) args s 0 0 (rp_A a 15)) (F0 m 31 ls [])) (v1 : Int32) (v2 : Int32) (v4 : Int32) (v5 : Int32) (v6 : Int32) (t0 : Int32) (σ : rp_St) (H : Heap) (locs : List Loc) (ls : Array Slot) (hF : fX7_go_100 k31 v1 v2 v4 v5 v6 t0 σ = some res) (hw : mW D cI cT ad av a s σ H locs) (hl : lv_has ls 7 [(0, .ref (a 0)), (1, .int v1), (2, .int v2), (4, .int v4), (5, .int v5), (6, .int v6)]) : W p l e (rp_rm 7) s m args below meth c H locs 0 0 (MQ below (rp_Qi D a (mt cI cT ad a) 15 res) args s 0 0 (rp_A a 15)) (F0 m 100 ls [.int t0]) := by
  have hx := hC.1
  have hb := hC.2.1
  have hown := hC.2.2.2.1
  have hts := hC.2.2.2.2.1
  unfold fX7_go_100 at hF
  refine lv_istore_n (pc := 100) (lv' := [(3, .int t0), (0, .ref (a 0)), (1, .int v1), (2, .int v2), (4, .int v4), (5, .int v5), (6, .int v6)]) hx hb dX7_go_100 rfl hl (by decide) rfl (fun ls hl => ?_)
  refine lv_iload (pc := 101) hx hb dX7_go_101 (lv_at hl 4 rfl) ?_
  refine lv_iload (pc := 103) hx hb dX7_go_103 (lv_at hl 6 rfl) ?_
  refine rp_min (pc := 105) hC hl.1 wd_843 wd_314 wd_9 wd_315 (Nat.le_of_ble_eq_true rfl) (by omega) dX7_go_105 ?_
  obtain ⟨x1, ex1, hF⟩ := rp_nm_e hF
  refine rp_top ex1 ?_
  refine lv_istore (pc := 108) (lv' := [(4, .int x1), (3, .int t0), (0, .ref (a 0)), (1, .int v1), (2, .int v2), (5, .int v5), (6, .int v6)]) hx hb dX7_go_108 hl (by decide) rfl (fun ls hl => ?_)
  exact kX7_go_110 hC k31 hk31 v1 v2 t0 x1 v5 σ _ _ _ hF hw (lv_sub hl [2, 3, 4, 1, 0, 5] rfl)
def fX7_go_31 (k31 : Int32 → Int32 → Int32 → Int32 → Int32 → rp_St → Option (Int32 × rp_St)) (v1 : Int32) (v2 : Int32) (v3 : Int32) (v4 : Int32) (v5 : Int32) (σ : rp_St) : Option (Int32 × rp_St) :=
  rp_gu (rp_in 1 221) ((if (σ 1 (1 : Int32).toNatClampNeg) ≤ v5 then (if 0 ≤ v3 then some (v3, σ) else rp_bd (fX7_finding (-1000000002) σ) (fun r1 σ2 => some (r1, σ2))) else (if v5 = v1 then fX7_go_110 k31 v1 v2 v3 v4 v5 σ else rp_bd (fX7_copy 1 3 σ) (fun _ σ4 => rp_bd (fX7_guestAt v5 2 σ4) (fun r5 σ6 => rp_gu (rp_in r5 221) (rp_nm (rp_put σ6 1 (r5 : Int32).toNatClampNeg 0) (fun σ7 => rp_bd (fX7_hoursGo v2 σ7) (fun _ σ9 => rp_bd (fX7_pegOf v1 σ9) (fun r10 σ11 => rp_bd (fX7_putBack r10 σ11) (fun r12 σ13 => (if v4 ≤ r12 then fX7_go_100 k31 v1 v2 v4 v5 r12 v3 σ13 else fX7_go_100 k31 v1 v2 v4 v5 r12 v5 σ13)))))))))))
set_option maxRecDepth 100000 in
set_option maxHeartbeats 4000000 in
theorem kX7_go_31 {p : Program} {l : Launch} {e : Env} {s : State} {m : MethodId} {args : Array Value} {below : List Frame} {meth : Method} {c : Code} {D : va_G} {cI cT : ClassId} {ad av a : Nat → Nat} {res : Int32 × rp_St} (hC : mC p s m args meth c cX7_go 7 "RegretPegsModel" (some .int) D cI cT ad av a) (k31 : Int32 → Int32 → Int32 → Int32 → Int32 → rp_St → Option (Int32 × rp_St)) (hk31 : ∀ (v1 : Int32) (v2 : Int32) (v3 : Int32) (v4 : Int32) (v5 : Int32) (σ : rp_St) (H : Heap) (locs : List Loc) (ls : Array Slot), k31 v1 v2 v3 v4 v5 σ = some res → mW D cI cT ad av a s σ H locs → lv_has ls 7 [(0, .ref (a 0)), (1, .int v1), (2, .int v2), (3, .int v3), (4, .int v4), (5, .int v5)] → W p l e (rp_rm 7) s m args below meth c H locs 0 0 (MQ below (rp_Qi D a (mt cI cT ad a) 15 res) args s 0 0 (rp_A a 15)) (F0 m 31 ls [])) (v1 : Int32) (v2 : Int32) (v3 : Int32) (v4 : Int32) (v5 : Int32) (σ : rp_St) (H : Heap) (locs : List Loc) (ls : Array Slot) (hF : fX7_go_31 k31 v1 v2 v3 v4 v5 σ = some res) (hw : mW D cI cT ad av a s σ H locs) (hl : lv_has ls 7 [(0, .ref (a 0)), (1, .int v1), (2, .int v2), (3, .int v3), (4, .int v4), (5, .int v5)]) : W p l e (rp_rm 7) s m args below meth c H locs 0 0 (MQ below (rp_Qi D a (mt cI cT ad a) 15 res) args s 0 0 (rp_A a 15)) (F0 m 31 ls []) := by
  have hx := hC.1
  have hb := hC.2.1
  have hown := hC.2.2.2.1
  have hts := hC.2.2.2.2.1
  unfold fX7_go_31 at hF
  refine lv_iload (pc := 31) hx hb dX7_go_31 (lv_at hl 5 rfl) ?_
  refine lv_aload_n (pc := 33) hx hb dX7_go_33 rfl (lv_at hl 0 rfl) ?_
  refine rp_get (pc := 34) hC hw 0 (by decide) (mt_obj _) fl_X7_9 (.ref (a 1)) rfl dX7_go_34 ?_
  refine lv_iconst (pc := 37) (v := 1) hx hb dX7_go_37 (by decide) ?_
  obtain ⟨hg, hF⟩ := rp_gu_e hF
  refine rp_ald (pc := 38) hC hw 1 (by decide) (mt_arr 1 221 rfl) 0 rfl hg dX7_go_38 ?_
  refine lv_icmp_ge (pc := 39) (tgt := 116) hx hb dX7_go_39 (by decide) (fun hc => ?_) (fun hc => ?_)
  · replace hF := rp_it hc hF
    refine lv_iload_n (pc := 116) hx hb dX7_go_116 rfl (lv_at hl 3 rfl) ?_
    refine lv_if_ge (pc := 117) (tgt := 129) hx hb dX7_go_117 (by decide) (fun hc => ?_) (fun hc => ?_)
    · replace hF := rp_it hc hF
      refine lv_iload_n (pc := 129) hx hb dX7_go_129 rfl (lv_at hl 3 rfl) ?_
      exact rp_reti (pc := 130) hC hw hF dX7_go_130
    · replace hF := rp_if hc hF
      refine lv_aload_n (pc := 120) hx hb dX7_go_120 rfl (lv_at hl 0 rfl) ?_
      refine lv_ldc (pc := 121) (v := (-1000000002)) hx hb hown (hts _ wd_989) dX7_go_121 ?_
      obtain ⟨r1, σ2, hq, hF⟩ := rp_bd_e hF
      refine rp_ki (rp_runV (rest := []) hC (mE_ok _) hw hl.1 (mX7_finding (l := l) (-1000000002) σ _ hq) vw_X7_78 (by decide) (mt_obj _) rfl rfl rfl (Nat.le_of_ble_eq_true rfl) (by decide) dX7_go_123) hw (fun H locs hw => ?_)
      clear hq
      refine lv_goto (pc := 126) (tgt := 130) hx hb dX7_go_126 (by decide) ?_
      exact rp_reti (pc := 130) hC hw hF dX7_go_130
  · replace hF := rp_if hc hF
    refine lv_iload (pc := 42) hx hb dX7_go_42 (lv_at hl 5 rfl) ?_
    refine lv_iload_n (pc := 44) hx hb dX7_go_44 rfl (lv_at hl 1 rfl) ?_
    refine lv_icmp_eq (pc := 45) (tgt := 110) hx hb dX7_go_45 (by decide) (fun hc => ?_) (fun hc => ?_)
    · replace hF := rp_it hc hF
      exact kX7_go_110 hC k31 hk31 v1 v2 v3 v4 v5 σ _ _ _ hF hw (lv_sub hl [0, 1, 2, 3, 4, 5] rfl)
    · replace hF := rp_if hc hF
      refine lv_aload_n (pc := 48) hx hb dX7_go_48 rfl (lv_at hl 0 rfl) ?_
      refine rp_get (pc := 49) hC hw 0 (by decide) (mt_obj _) fl_X7_9 (.ref (a 1)) rfl dX7_go_49 ?_
      refine lv_aload_n (pc := 52) hx hb dX7_go_52 rfl (lv_at hl 0 rfl) ?_
      refine rp_get (pc := 53) hC hw 0 (by decide) (mt_obj _) fl_X7_16 (.ref (a 3)) rfl dX7_go_53 ?_
      obtain ⟨r3, σ4, hq, hF⟩ := rp_bd_e hF
      refine rp_kv (rp_runZ (rest := []) hC (mE_ok _) hw hl.1 (mX7_copy (l := l) 1 (by decide) (mt_arr 1 221 rfl) 3 (by decide) (mt_arr 3 221 rfl) σ _ hq) zw_X7_69 rfl rfl (Nat.le_of_ble_eq_true rfl) (by decide) dX7_go_56) hw (fun H locs hw => ?_)
      clear hq
      refine lv_aload_n (pc := 59) hx hb dX7_go_59 rfl (lv_at hl 0 rfl) ?_
      refine rp_get (pc := 60) hC hw 0 (by decide) (mt_obj _) fl_X7_9 (.ref (a 1)) rfl dX7_go_60 ?_
      refine lv_iload (pc := 63) hx hb dX7_go_63 (lv_at hl 5 rfl) ?_
      refine lv_iconst (pc := 65) (v := 2) hx hb dX7_go_65 (by decide) ?_
      obtain ⟨r5, σ6, hq, hF⟩ := rp_bd_e hF
      refine rp_ki (rp_runZ (rest := [.ref (a 1)]) hC (mE_ok _) hw hl.1 (mX7_guestAt (l := l) v5 2 σ4 _ hq) zw_X7_162 rfl rfl (Nat.le_of_ble_eq_true rfl) (by decide) dX7_go_66) hw (fun H locs hw => ?_)
      clear hq
      refine lv_iconst (pc := 69) (v := 0) hx hb dX7_go_69 (by decide) ?_
      obtain ⟨hg, hF⟩ := rp_gu_e hF
      refine rp_ast (pc := 70) hC hw 1 (by decide) (mt_arr 1 221 rfl) 0 rfl hg dX7_go_70 (fun H locs hw => ?_)
      obtain ⟨σ7, eσ7, hF⟩ := rp_nm_e hF
      replace hw := rp_Wn eσ7 hw
      clear eσ7
      refine lv_aload_n (pc := 71) hx hb dX7_go_71 rfl (lv_at hl 0 rfl) ?_
      refine lv_iload_n (pc := 72) hx hb dX7_go_72 rfl (lv_at hl 2 rfl) ?_
      obtain ⟨r8, σ9, hq, hF⟩ := rp_bd_e hF
      refine rp_kv (rp_runV (rest := []) hC (mE_ok _) hw hl.1 (mX7_hoursGo (l := l) v2 σ7 _ hq) vw_X7_217 (by decide) (mt_obj _) rfl rfl rfl (Nat.le_of_ble_eq_true rfl) (by decide) dX7_go_73) hw (fun H locs hw => ?_)
      clear hq
      refine lv_aload_n (pc := 76) hx hb dX7_go_76 rfl (lv_at hl 0 rfl) ?_
      refine lv_aload_n (pc := 77) hx hb dX7_go_77 rfl (lv_at hl 0 rfl) ?_
      refine lv_iload_n (pc := 78) hx hb dX7_go_78 rfl (lv_at hl 1 rfl) ?_
      obtain ⟨r10, σ11, hq, hF⟩ := rp_bd_e hF
      refine rp_ki (rp_runV (rest := [.ref (a 0)]) hC (mE_ok _) hw hl.1 (mX7_pegOf (l := l) v1 σ9 _ hq) vw_X7_180 (by decide) (mt_obj _) rfl rfl rfl (Nat.le_of_ble_eq_true rfl) (by decide) dX7_go_79) hw (fun H locs hw => ?_)
      clear hq
      obtain ⟨r12, σ13, hq, hF⟩ := rp_bd_e hF
      refine rp_ki (rp_runV (rest := []) hC (mE_ok _) hw hl.1 (mX7_putBack (l := l) r10 σ11 _ hq) vw_X7_233 (by decide) (mt_obj _) rfl rfl rfl (Nat.le_of_ble_eq_true rfl) (by decide) dX7_go_82) hw (fun H locs hw => ?_)
      clear hq
      refine lv_istore (pc := 85) (lv' := [(6, .int r12), (0, .ref (a 0)), (1, .int v1), (2, .int v2), (3, .int v3), (4, .int v4), (5, .int v5)]) hx hb dX7_go_85 hl (by decide) rfl (fun ls hl => ?_)
      refine lv_iload (pc := 87) hx hb dX7_go_87 (lv_at hl 0 rfl) ?_
      refine lv_iload (pc := 89) hx hb dX7_go_89 (lv_at hl 5 rfl) ?_
      refine lv_icmp_ge (pc := 91) (tgt := 99) hx hb dX7_go_91 (by decide) (fun hc => ?_) (fun hc => ?_)
      · replace hF := rp_it hc hF
        refine lv_iload_n (pc := 99) hx hb dX7_go_99 rfl (lv_at hl 4 rfl) ?_
        exact kX7_go_100 hC k31 hk31 v1 v2 v4 v5 r12 v3 σ13 _ _ _ hF hw (lv_sub hl [1, 2, 3, 5, 6, 0] rfl)
      · replace hF := rp_if hc hF
        refine lv_iload (pc := 94) hx hb dX7_go_94 (lv_at hl 6 rfl) ?_
        refine lv_goto (pc := 96) (tgt := 100) hx hb dX7_go_96 (by decide) ?_
        exact kX7_go_100 hC k31 hk31 v1 v2 v4 v5 r12 v5 σ13 _ _ _ hF hw (lv_sub hl [1, 2, 3, 5, 6, 0] rfl)
theorem lX7_go_31 {p : Program} {l : Launch} {e : Env} {s : State} {m : MethodId} {args : Array Value} {below : List Frame} {meth : Method} {c : Code} {D : va_G} {cI cT : ClassId} {ad av a : Nat → Nat} {res : Int32 × rp_St} (hC : mC p s m args meth c cX7_go 7 "RegretPegsModel" (some .int) D cI cT ad av a) : ∀ (n : Nat) (v1 : Int32) (v2 : Int32) (v3 : Int32) (v4 : Int32) (v5 : Int32) (σ : rp_St) (H : Heap) (locs : List Loc) (ls : Array Slot), rp_lp (fun _ _ _ _ _ _ => none) (fX7_go_31) n v1 v2 v3 v4 v5 σ = some res → mW D cI cT ad av a s σ H locs → lv_has ls 7 [(0, .ref (a 0)), (1, .int v1), (2, .int v2), (3, .int v3), (4, .int v4), (5, .int v5)] → W p l e (rp_rm 7) s m args below meth c H locs 0 0 (MQ below (rp_Qi D a (mt cI cT ad a) 15 res) args s 0 0 (rp_A a 15)) (F0 m 31 ls [])
  | 0, _, _, _, _, _, _, _, _, _, hF, _, _ => nomatch hF
  | n + 1, v1, v2, v3, v4, v5, σ, H, locs, ls, hF, hw, hl => kX7_go_31 hC (rp_lp (fun _ _ _ _ _ _ => none) (fX7_go_31) n) (lX7_go_31 hC n) v1 v2 v3 v4 v5 σ H locs ls hF hw hl
def fX7_go (v1 : Int32) (v2 : Int32) (σ : rp_St) : Option (Int32 × rp_St) :=
  rp_bd (fX7_isGuest v1 σ) (fun r1 σ2 => (if r1 = 0 then fX7_go_15 σ2 else rp_bd (fX7_isSoon v2 σ2) (fun r3 σ4 => (if r3 = 0 then fX7_go_15 σ4 else rp_lp (fun _ _ _ _ _ _ => none) (fX7_go_31) 300 v1 v2 (-1) 7 0 σ4))))
set_option maxRecDepth 100000 in
set_option maxHeartbeats 4000000 in
theorem kX7_go_0 {p : Program} {l : Launch} {e : Env} {s : State} {m : MethodId} {args : Array Value} {below : List Frame} {meth : Method} {c : Code} {D : va_G} {cI cT : ClassId} {ad av a : Nat → Nat} {res : Int32 × rp_St} (hC : mC p s m args meth c cX7_go 7 "RegretPegsModel" (some .int) D cI cT ad av a) (v1 : Int32) (v2 : Int32) (σ : rp_St) (H : Heap) (locs : List Loc) (ls : Array Slot) (hF : fX7_go v1 v2 σ = some res) (hw : mW D cI cT ad av a s σ H locs) (hl : lv_has ls 7 [(0, .ref (a 0)), (1, .int v1), (2, .int v2)]) : W p l e (rp_rm 7) s m args below meth c H locs 0 0 (MQ below (rp_Qi D a (mt cI cT ad a) 15 res) args s 0 0 (rp_A a 15)) (F0 m 0 ls []) := by
  have hx := hC.1
  have hb := hC.2.1
  have hown := hC.2.2.2.1
  have hts := hC.2.2.2.2.1
  unfold fX7_go at hF
  refine lv_aload_n (pc := 0) hx hb dX7_go_0 rfl (lv_at hl 0 rfl) ?_
  refine lv_iload_n (pc := 1) hx hb dX7_go_1 rfl (lv_at hl 1 rfl) ?_
  obtain ⟨r1, σ2, hq, hF⟩ := rp_bd_e hF
  refine rp_ki (rp_runV (rest := []) hC (mE_ok _) hw hl.1 (mX7_isGuest (l := l) v1 σ _ hq) vw_X7_159 (by decide) (mt_obj _) rfl rfl rfl (Nat.le_of_ble_eq_true rfl) (by decide) dX7_go_2) hw (fun H locs hw => ?_)
  clear hq
  refine lv_if_eq (pc := 5) (tgt := 15) hx hb dX7_go_5 (by decide) (fun hc => ?_) (fun hc => ?_)
  · replace hF := rp_it hc hF
    exact kX7_go_15 hC σ2 _ _ _ hF hw (lv_sub hl [0] rfl)
  · replace hF := rp_if hc hF
    refine lv_iload_n (pc := 8) hx hb dX7_go_8 rfl (lv_at hl 2 rfl) ?_
    obtain ⟨r3, σ4, hq, hF⟩ := rp_bd_e hF
    refine rp_ki (rp_runZ (rest := []) hC (mE_ok _) hw hl.1 (mX7_isSoon (l := l) v2 σ2 _ hq) zw_X7_237 rfl rfl (Nat.le_of_ble_eq_true rfl) (by decide) dX7_go_9) hw (fun H locs hw => ?_)
    clear hq
    refine lv_if_ne (pc := 12) (tgt := 22) hx hb dX7_go_12 (by decide) (fun hc => ?_) (fun hc => ?_)
    · replace hF := rp_if hc hF
      refine lv_iconst (pc := 22) (v := (-1)) hx hb dX7_go_22 (by decide) ?_
      refine lv_istore_n (pc := 23) (lv' := [(3, .int (-1)), (0, .ref (a 0)), (1, .int v1), (2, .int v2)]) hx hb dX7_go_23 rfl hl (by decide) rfl (fun ls hl => ?_)
      refine lv_bipush (pc := 24) (v := 7) hx hb dX7_go_24 (by decide) ?_
      refine lv_istore (pc := 26) (lv' := [(4, .int 7), (3, .int (-1)), (0, .ref (a 0)), (1, .int v1), (2, .int v2)]) hx hb dX7_go_26 hl (by decide) rfl (fun ls hl => ?_)
      refine lv_iconst (pc := 28) (v := 0) hx hb dX7_go_28 (by decide) ?_
      refine lv_istore (pc := 29) (lv' := [(5, .int 0), (4, .int 7), (3, .int (-1)), (0, .ref (a 0)), (1, .int v1), (2, .int v2)]) hx hb dX7_go_29 hl (by decide) rfl (fun ls hl => ?_)
      exact lX7_go_31 hC 300 v1 v2 (-1) 7 0 σ4 _ _ _ hF hw (lv_sub hl [3, 4, 5, 2, 1, 0] rfl)
    · replace hF := rp_it hc hF
      exact kX7_go_15 hC σ4 _ _ _ hF hw (lv_sub hl [0] rfl)
theorem mX7_go {l : Launch} {D : va_G} {cI cT : ClassId} {ad av a : Nat → Nat} (v1 : Int32) (v2 : Int32) (σ : rp_St) (res : Int32 × rp_St) (hF : fX7_go v1 v2 σ = some res) : mM l D cI cT ad av a yX7_go cX7_go 7 (some .int) 7 [.ref (a 0), .int v1, .int v2] σ (rp_Qi D a (mt cI cT ad a) 15 res) :=
  rp_entry (by decide) (Nat.le_of_ble_eq_true rfl) (fun p e s m below meth c ls hC hw hl => kX7_go_0 hC v1 v2 σ _ _ _ hF hw (lv_sub hl [0, 1, 2] rfl))
def fX7_allRue (v1 : Int32) (σ : rp_St) : Option (Int32 × rp_St) :=
  rp_bd (fX7_isBehind v1 σ) (fun r1 σ2 => (if r1 = 0 then rp_bd (fX7_finding (-1000000001) σ2) (fun r11 σ12 => some (r11, σ12)) else rp_bd (fX7_copy 1 3 σ2) (fun _ σ4 => rp_bd (fX7_hoursGo v1 σ4) (fun _ σ6 => rp_bd (fX7_sumOf 2 σ6) (fun r7 σ8 => rp_bd (fX7_putBack r7 σ8) (fun r9 σ10 => some (r9, σ10)))))))
set_option maxRecDepth 100000 in
set_option maxHeartbeats 4000000 in
theorem kX7_allRue_0 {p : Program} {l : Launch} {e : Env} {s : State} {m : MethodId} {args : Array Value} {below : List Frame} {meth : Method} {c : Code} {D : va_G} {cI cT : ClassId} {ad av a : Nat → Nat} {res : Int32 × rp_St} (hC : mC p s m args meth c cX7_allRue 2 "RegretPegsModel" (some .int) D cI cT ad av a) (v1 : Int32) (σ : rp_St) (H : Heap) (locs : List Loc) (ls : Array Slot) (hF : fX7_allRue v1 σ = some res) (hw : mW D cI cT ad av a s σ H locs) (hl : lv_has ls 2 [(0, .ref (a 0)), (1, .int v1)]) : W p l e (rp_rm 7) s m args below meth c H locs 0 0 (MQ below (rp_Qi D a (mt cI cT ad a) 15 res) args s 0 0 (rp_A a 15)) (F0 m 0 ls []) := by
  have hx := hC.1
  have hb := hC.2.1
  have hown := hC.2.2.2.1
  have hts := hC.2.2.2.2.1
  unfold fX7_allRue at hF
  refine lv_iload_n (pc := 0) hx hb dX7_allRue_0 rfl (lv_at hl 1 rfl) ?_
  obtain ⟨r1, σ2, hq, hF⟩ := rp_bd_e hF
  refine rp_ki (rp_runZ (rest := []) hC (mE_ok _) hw hl.1 (mX7_isBehind (l := l) v1 σ _ hq) zw_X7_230 rfl rfl (Nat.le_of_ble_eq_true rfl) (by decide) dX7_allRue_1) hw (fun H locs hw => ?_)
  clear hq
  refine lv_if_ne (pc := 4) (tgt := 14) hx hb dX7_allRue_4 (by decide) (fun hc => ?_) (fun hc => ?_)
  · replace hF := rp_if hc hF
    refine lv_aload_n (pc := 14) hx hb dX7_allRue_14 rfl (lv_at hl 0 rfl) ?_
    refine rp_get (pc := 15) hC hw 0 (by decide) (mt_obj _) fl_X7_9 (.ref (a 1)) rfl dX7_allRue_15 ?_
    refine lv_aload_n (pc := 18) hx hb dX7_allRue_18 rfl (lv_at hl 0 rfl) ?_
    refine rp_get (pc := 19) hC hw 0 (by decide) (mt_obj _) fl_X7_16 (.ref (a 3)) rfl dX7_allRue_19 ?_
    obtain ⟨r3, σ4, hq, hF⟩ := rp_bd_e hF
    refine rp_kv (rp_runZ (rest := []) hC (mE_ok _) hw hl.1 (mX7_copy (l := l) 1 (by decide) (mt_arr 1 221 rfl) 3 (by decide) (mt_arr 3 221 rfl) σ2 _ hq) zw_X7_69 rfl rfl (Nat.le_of_ble_eq_true rfl) (by decide) dX7_allRue_22) hw (fun H locs hw => ?_)
    clear hq
    refine lv_aload_n (pc := 25) hx hb dX7_allRue_25 rfl (lv_at hl 0 rfl) ?_
    refine lv_iload_n (pc := 26) hx hb dX7_allRue_26 rfl (lv_at hl 1 rfl) ?_
    obtain ⟨r5, σ6, hq, hF⟩ := rp_bd_e hF
    refine rp_kv (rp_runV (rest := []) hC (mE_ok _) hw hl.1 (mX7_hoursGo (l := l) v1 σ4 _ hq) vw_X7_217 (by decide) (mt_obj _) rfl rfl rfl (Nat.le_of_ble_eq_true rfl) (by decide) dX7_allRue_27) hw (fun H locs hw => ?_)
    clear hq
    refine lv_aload_n (pc := 30) hx hb dX7_allRue_30 rfl (lv_at hl 0 rfl) ?_
    refine lv_aload_n (pc := 31) hx hb dX7_allRue_31 rfl (lv_at hl 0 rfl) ?_
    refine lv_iconst (pc := 32) (v := 2) hx hb dX7_allRue_32 (by decide) ?_
    obtain ⟨r7, σ8, hq, hF⟩ := rp_bd_e hF
    refine rp_ki (rp_runV (rest := [.ref (a 0)]) hC (mE_ok _) hw hl.1 (mX7_sumOf (l := l) 2 σ6 _ hq) vw_X7_220 (by decide) (mt_obj _) rfl rfl rfl (Nat.le_of_ble_eq_true rfl) (by decide) dX7_allRue_33) hw (fun H locs hw => ?_)
    clear hq
    obtain ⟨r9, σ10, hq, hF⟩ := rp_bd_e hF
    refine rp_ki (rp_runV (rest := []) hC (mE_ok _) hw hl.1 (mX7_putBack (l := l) r7 σ8 _ hq) vw_X7_233 (by decide) (mt_obj _) rfl rfl rfl (Nat.le_of_ble_eq_true rfl) (by decide) dX7_allRue_36) hw (fun H locs hw => ?_)
    clear hq
    exact rp_reti (pc := 39) hC hw hF dX7_allRue_39
  · replace hF := rp_it hc hF
    refine lv_aload_n (pc := 7) hx hb dX7_allRue_7 rfl (lv_at hl 0 rfl) ?_
    refine lv_ldc (pc := 8) (v := (-1000000001)) hx hb hown (hts _ wd_721) dX7_allRue_8 ?_
    obtain ⟨r11, σ12, hq, hF⟩ := rp_bd_e hF
    refine rp_ki (rp_runV (rest := []) hC (mE_ok _) hw hl.1 (mX7_finding (l := l) (-1000000001) σ2 _ hq) vw_X7_78 (by decide) (mt_obj _) rfl rfl rfl (Nat.le_of_ble_eq_true rfl) (by decide) dX7_allRue_10) hw (fun H locs hw => ?_)
    clear hq
    exact rp_reti (pc := 13) hC hw hF dX7_allRue_13
theorem mX7_allRue {l : Launch} {D : va_G} {cI cT : ClassId} {ad av a : Nat → Nat} (v1 : Int32) (σ : rp_St) (res : Int32 × rp_St) (hF : fX7_allRue v1 σ = some res) : mM l D cI cT ad av a yX7_allRue cX7_allRue 2 (some .int) 7 [.ref (a 0), .int v1] σ (rp_Qi D a (mt cI cT ad a) 15 res) :=
  rp_entry (by decide) (Nat.le_of_ble_eq_true rfl) (fun p e s m below meth c ls hC hw hl => kX7_allRue_0 hC v1 σ _ _ _ hF hw (lv_sub hl [0, 1] rfl))
def fX7_sorriest_16 (σ : rp_St) : Option (Int32 × rp_St) :=
  rp_bd (fX7_finding (-1000000001) σ) (fun r1 σ2 => some (r1, σ2))
set_option maxRecDepth 100000 in
set_option maxHeartbeats 4000000 in
theorem kX7_sorriest_16 {p : Program} {l : Launch} {e : Env} {s : State} {m : MethodId} {args : Array Value} {below : List Frame} {meth : Method} {c : Code} {D : va_G} {cI cT : ClassId} {ad av a : Nat → Nat} {res : Int32 × rp_St} (hC : mC p s m args meth c cX7_sorriest 5 "RegretPegsModel" (some .int) D cI cT ad av a) (σ : rp_St) (H : Heap) (locs : List Loc) (ls : Array Slot) (hF : fX7_sorriest_16 σ = some res) (hw : mW D cI cT ad av a s σ H locs) (hl : lv_has ls 5 [(0, .ref (a 0))]) : W p l e (rp_rm 7) s m args below meth c H locs 0 0 (MQ below (rp_Qi D a (mt cI cT ad a) 15 res) args s 0 0 (rp_A a 15)) (F0 m 16 ls []) := by
  have hx := hC.1
  have hb := hC.2.1
  have hown := hC.2.2.2.1
  have hts := hC.2.2.2.2.1
  unfold fX7_sorriest_16 at hF
  refine lv_aload_n (pc := 16) hx hb dX7_sorriest_16 rfl (lv_at hl 0 rfl) ?_
  refine lv_ldc (pc := 17) (v := (-1000000001)) hx hb hown (hts _ wd_721) dX7_sorriest_17 ?_
  obtain ⟨r1, σ2, hq, hF⟩ := rp_bd_e hF
  refine rp_ki (rp_runV (rest := []) hC (mE_ok _) hw hl.1 (mX7_finding (l := l) (-1000000001) σ _ hq) vw_X7_78 (by decide) (mt_obj _) rfl rfl rfl (Nat.le_of_ble_eq_true rfl) (by decide) dX7_sorriest_19) hw (fun H locs hw => ?_)
  clear hq
  exact rp_reti (pc := 22) hC hw hF dX7_sorriest_22
def fX7_sorriest_112 (t0 : Int32) (σ : rp_St) : Option (Int32 × rp_St) :=
  rp_bd (fX7_putBack t0 σ) (fun r1 σ2 => some (r1, σ2))
set_option maxRecDepth 100000 in
set_option maxHeartbeats 4000000 in
theorem kX7_sorriest_112 {p : Program} {l : Launch} {e : Env} {s : State} {m : MethodId} {args : Array Value} {below : List Frame} {meth : Method} {c : Code} {D : va_G} {cI cT : ClassId} {ad av a : Nat → Nat} {res : Int32 × rp_St} (hC : mC p s m args meth c cX7_sorriest 5 "RegretPegsModel" (some .int) D cI cT ad av a) (t0 : Int32) (σ : rp_St) (H : Heap) (locs : List Loc) (ls : Array Slot) (hF : fX7_sorriest_112 t0 σ = some res) (hw : mW D cI cT ad av a s σ H locs) (hl : lv_has ls 5 []) : W p l e (rp_rm 7) s m args below meth c H locs 0 0 (MQ below (rp_Qi D a (mt cI cT ad a) 15 res) args s 0 0 (rp_A a 15)) (F0 m 112 ls [.int t0, .ref (a 0)]) := by
  have hx := hC.1
  have hb := hC.2.1
  have hown := hC.2.2.2.1
  have hts := hC.2.2.2.2.1
  unfold fX7_sorriest_112 at hF
  obtain ⟨r1, σ2, hq, hF⟩ := rp_bd_e hF
  refine rp_ki (rp_runV (rest := []) hC (mE_ok _) hw hl.1 (mX7_putBack (l := l) t0 σ _ hq) vw_X7_233 (by decide) (mt_obj _) rfl rfl rfl (Nat.le_of_ble_eq_true rfl) (by decide) dX7_sorriest_112) hw (fun H locs hw => ?_)
  clear hq
  exact rp_reti (pc := 115) hC hw hF dX7_sorriest_115
def fX7_sorriest_91 (k60 : Int32 → Int32 → Int32 → rp_St → Option (Int32 × rp_St)) (v2 : Int32) (v4 : Int32) (t0 : Int32) (σ : rp_St) : Option (Int32 × rp_St) :=
  rp_nm (v4 + 1) (fun x1 => k60 v2 t0 x1 σ)
set_option maxRecDepth 100000 in
set_option maxHeartbeats 4000000 in
theorem kX7_sorriest_91 {p : Program} {l : Launch} {e : Env} {s : State} {m : MethodId} {args : Array Value} {below : List Frame} {meth : Method} {c : Code} {D : va_G} {cI cT : ClassId} {ad av a : Nat → Nat} {res : Int32 × rp_St} (hC : mC p s m args meth c cX7_sorriest 5 "RegretPegsModel" (some .int) D cI cT ad av a) (k60 : Int32 → Int32 → Int32 → rp_St → Option (Int32 × rp_St)) (hk60 : ∀ (v2 : Int32) (v3 : Int32) (v4 : Int32) (σ : rp_St) (H : Heap) (locs : List Loc) (ls : Array Slot), k60 v2 v3 v4 σ = some res → mW D cI cT ad av a s σ H locs → lv_has ls 5 [(0, .ref (a 0)), (2, .int v2), (3, .int v3), (4, .int v4)] → W p l e (rp_rm 7) s m args below meth c H locs 0 0 (MQ below (rp_Qi D a (mt cI cT ad a) 15 res) args s 0 0 (rp_A a 15)) (F0 m 60 ls [])) (v2 : Int32) (v4 : Int32) (t0 : Int32) (σ : rp_St) (H : Heap) (locs : List Loc) (ls : Array Slot) (hF : fX7_sorriest_91 k60 v2 v4 t0 σ = some res) (hw : mW D cI cT ad av a s σ H locs) (hl : lv_has ls 5 [(0, .ref (a 0)), (2, .int v2), (4, .int v4)]) : W p l e (rp_rm 7) s m args below meth c H locs 0 0 (MQ below (rp_Qi D a (mt cI cT ad a) 15 res) args s 0 0 (rp_A a 15)) (F0 m 91 ls [.int t0]) := by
  have hx := hC.1
  have hb := hC.2.1
  have hown := hC.2.2.2.1
  have hts := hC.2.2.2.2.1
  unfold fX7_sorriest_91 at hF
  refine lv_istore_n (pc := 91) (lv' := [(3, .int t0), (0, .ref (a 0)), (2, .int v2), (4, .int v4)]) hx hb dX7_sorriest_91 rfl hl (by decide) rfl (fun ls hl => ?_)
  obtain ⟨x1, ex1, hF⟩ := rp_nm_e hF
  refine lv_iinc (pc := 92) (v := x1) (lv' := [(4, .int x1), (3, .int t0), (0, .ref (a 0)), (2, .int v2)]) hx hb dX7_sorriest_92 hl (k := 3) rfl (by rw [ex1]; rfl) (by decide) rfl (fun ls hl => ?_)
  refine lv_goto (pc := 95) (tgt := 60) hx hb dX7_sorriest_95 (by decide) ?_
  exact hk60 v2 t0 x1 σ _ _ _ hF hw (lv_sub hl [2, 3, 1, 0] rfl)
def fX7_sorriest_60 (k60 : Int32 → Int32 → Int32 → rp_St → Option (Int32 × rp_St)) (v2 : Int32) (v3 : Int32) (v4 : Int32) (σ : rp_St) : Option (Int32 × rp_St) :=
  rp_gu (rp_in 1 221) ((if (σ 1 (1 : Int32).toNatClampNeg) ≤ v4 then (if v2 = 0 then fX7_sorriest_112 v3 σ else rp_bd (fX7_rue v3 σ) (fun r1 σ2 => fX7_sorriest_112 r1 σ2)) else rp_bd (fX7_rue v4 σ) (fun r3 σ4 => rp_bd (fX7_rue v3 σ4) (fun r5 σ6 => (if r3 ≤ r5 then fX7_sorriest_91 k60 v2 v4 v3 σ6 else fX7_sorriest_91 k60 v2 v4 v4 σ6)))))
set_option maxRecDepth 100000 in
set_option maxHeartbeats 4000000 in
theorem kX7_sorriest_60 {p : Program} {l : Launch} {e : Env} {s : State} {m : MethodId} {args : Array Value} {below : List Frame} {meth : Method} {c : Code} {D : va_G} {cI cT : ClassId} {ad av a : Nat → Nat} {res : Int32 × rp_St} (hC : mC p s m args meth c cX7_sorriest 5 "RegretPegsModel" (some .int) D cI cT ad av a) (k60 : Int32 → Int32 → Int32 → rp_St → Option (Int32 × rp_St)) (hk60 : ∀ (v2 : Int32) (v3 : Int32) (v4 : Int32) (σ : rp_St) (H : Heap) (locs : List Loc) (ls : Array Slot), k60 v2 v3 v4 σ = some res → mW D cI cT ad av a s σ H locs → lv_has ls 5 [(0, .ref (a 0)), (2, .int v2), (3, .int v3), (4, .int v4)] → W p l e (rp_rm 7) s m args below meth c H locs 0 0 (MQ below (rp_Qi D a (mt cI cT ad a) 15 res) args s 0 0 (rp_A a 15)) (F0 m 60 ls [])) (v2 : Int32) (v3 : Int32) (v4 : Int32) (σ : rp_St) (H : Heap) (locs : List Loc) (ls : Array Slot) (hF : fX7_sorriest_60 k60 v2 v3 v4 σ = some res) (hw : mW D cI cT ad av a s σ H locs) (hl : lv_has ls 5 [(0, .ref (a 0)), (2, .int v2), (3, .int v3), (4, .int v4)]) : W p l e (rp_rm 7) s m args below meth c H locs 0 0 (MQ below (rp_Qi D a (mt cI cT ad a) 15 res) args s 0 0 (rp_A a 15)) (F0 m 60 ls []) := by
  have hx := hC.1
  have hb := hC.2.1
  have hown := hC.2.2.2.1
  have hts := hC.2.2.2.2.1
  unfold fX7_sorriest_60 at hF
  refine lv_iload (pc := 60) hx hb dX7_sorriest_60 (lv_at hl 3 rfl) ?_
  refine lv_aload_n (pc := 62) hx hb dX7_sorriest_62 rfl (lv_at hl 0 rfl) ?_
  refine rp_get (pc := 63) hC hw 0 (by decide) (mt_obj _) fl_X7_9 (.ref (a 1)) rfl dX7_sorriest_63 ?_
  refine lv_iconst (pc := 66) (v := 1) hx hb dX7_sorriest_66 (by decide) ?_
  obtain ⟨hg, hF⟩ := rp_gu_e hF
  refine rp_ald (pc := 67) hC hw 1 (by decide) (mt_arr 1 221 rfl) 0 rfl hg dX7_sorriest_67 ?_
  refine lv_icmp_ge (pc := 68) (tgt := 98) hx hb dX7_sorriest_68 (by decide) (fun hc => ?_) (fun hc => ?_)
  · replace hF := rp_it hc hF
    refine lv_aload_n (pc := 98) hx hb dX7_sorriest_98 rfl (lv_at hl 0 rfl) ?_
    refine lv_iload_n (pc := 99) hx hb dX7_sorriest_99 rfl (lv_at hl 1 rfl) ?_
    refine lv_if_ne (pc := 100) (tgt := 107) hx hb dX7_sorriest_100 (by decide) (fun hc => ?_) (fun hc => ?_)
    · replace hF := rp_if hc hF
      refine lv_aload_n (pc := 107) hx hb dX7_sorriest_107 rfl (lv_at hl 0 rfl) ?_
      refine lv_iload_n (pc := 108) hx hb dX7_sorriest_108 rfl (lv_at hl 2 rfl) ?_
      obtain ⟨r1, σ2, hq, hF⟩ := rp_bd_e hF
      refine rp_ki (rp_runV (rest := [.ref (a 0)]) hC (mE_ok _) hw hl.1 (mX7_rue (l := l) v3 σ _ hq) vw_X7_197 (by decide) (mt_obj _) rfl rfl rfl (Nat.le_of_ble_eq_true rfl) (by decide) dX7_sorriest_109) hw (fun H locs hw => ?_)
      clear hq
      exact kX7_sorriest_112 hC r1 σ2 _ _ _ hF hw (lv_sub hl [] rfl)
    · replace hF := rp_it hc hF
      refine lv_iload_n (pc := 103) hx hb dX7_sorriest_103 rfl (lv_at hl 2 rfl) ?_
      refine lv_goto (pc := 104) (tgt := 112) hx hb dX7_sorriest_104 (by decide) ?_
      exact kX7_sorriest_112 hC v3 σ _ _ _ hF hw (lv_sub hl [] rfl)
  · replace hF := rp_if hc hF
    refine lv_aload_n (pc := 71) hx hb dX7_sorriest_71 rfl (lv_at hl 0 rfl) ?_
    refine lv_iload (pc := 72) hx hb dX7_sorriest_72 (lv_at hl 3 rfl) ?_
    obtain ⟨r3, σ4, hq, hF⟩ := rp_bd_e hF
    refine rp_ki (rp_runV (rest := []) hC (mE_ok _) hw hl.1 (mX7_rue (l := l) v4 σ _ hq) vw_X7_197 (by decide) (mt_obj _) rfl rfl rfl (Nat.le_of_ble_eq_true rfl) (by decide) dX7_sorriest_74) hw (fun H locs hw => ?_)
    clear hq
    refine lv_aload_n (pc := 77) hx hb dX7_sorriest_77 rfl (lv_at hl 0 rfl) ?_
    refine lv_iload_n (pc := 78) hx hb dX7_sorriest_78 rfl (lv_at hl 2 rfl) ?_
    obtain ⟨r5, σ6, hq, hF⟩ := rp_bd_e hF
    refine rp_ki (rp_runV (rest := [.int r3]) hC (mE_ok _) hw hl.1 (mX7_rue (l := l) v3 σ4 _ hq) vw_X7_197 (by decide) (mt_obj _) rfl rfl rfl (Nat.le_of_ble_eq_true rfl) (by decide) dX7_sorriest_79) hw (fun H locs hw => ?_)
    clear hq
    refine lv_icmp_le (pc := 82) (tgt := 90) hx hb dX7_sorriest_82 (by decide) (fun hc => ?_) (fun hc => ?_)
    · replace hF := rp_it hc hF
      refine lv_iload_n (pc := 90) hx hb dX7_sorriest_90 rfl (lv_at hl 2 rfl) ?_
      exact kX7_sorriest_91 hC k60 hk60 v2 v4 v3 σ6 _ _ _ hF hw (lv_sub hl [0, 1, 3] rfl)
    · replace hF := rp_if hc hF
      refine lv_iload (pc := 85) hx hb dX7_sorriest_85 (lv_at hl 3 rfl) ?_
      refine lv_goto (pc := 87) (tgt := 91) hx hb dX7_sorriest_87 (by decide) ?_
      exact kX7_sorriest_91 hC k60 hk60 v2 v4 v4 σ6 _ _ _ hF hw (lv_sub hl [0, 1, 3] rfl)
theorem lX7_sorriest_60 {p : Program} {l : Launch} {e : Env} {s : State} {m : MethodId} {args : Array Value} {below : List Frame} {meth : Method} {c : Code} {D : va_G} {cI cT : ClassId} {ad av a : Nat → Nat} {res : Int32 × rp_St} (hC : mC p s m args meth c cX7_sorriest 5 "RegretPegsModel" (some .int) D cI cT ad av a) : ∀ (n : Nat) (v2 : Int32) (v3 : Int32) (v4 : Int32) (σ : rp_St) (H : Heap) (locs : List Loc) (ls : Array Slot), rp_lp (fun _ _ _ _ => none) (fX7_sorriest_60) n v2 v3 v4 σ = some res → mW D cI cT ad av a s σ H locs → lv_has ls 5 [(0, .ref (a 0)), (2, .int v2), (3, .int v3), (4, .int v4)] → W p l e (rp_rm 7) s m args below meth c H locs 0 0 (MQ below (rp_Qi D a (mt cI cT ad a) 15 res) args s 0 0 (rp_A a 15)) (F0 m 60 ls [])
  | 0, _, _, _, _, _, _, _, hF, _, _ => nomatch hF
  | n + 1, v2, v3, v4, σ, H, locs, ls, hF, hw, hl => kX7_sorriest_60 hC (rp_lp (fun _ _ _ _ => none) (fX7_sorriest_60) n) (lX7_sorriest_60 hC n) v2 v3 v4 σ H locs ls hF hw hl
def fX7_sorriest (v1 : Int32) (v2 : Int32) (σ : rp_St) : Option (Int32 × rp_St) :=
  rp_bd (fX7_isBehind v1 σ) (fun r1 σ2 => (if r1 = 0 then fX7_sorriest_16 σ2 else rp_bd (fX7_within v2 0 1 σ2) (fun r3 σ4 => (if r3 = 0 then fX7_sorriest_16 σ4 else rp_gu (rp_in 1 221) ((if (σ4 1 (1 : Int32).toNatClampNeg) = 0 then rp_bd (fX7_finding (-1000000002) σ4) (fun r9 σ10 => some (r9, σ10)) else rp_bd (fX7_copy 1 3 σ4) (fun _ σ6 => rp_bd (fX7_hoursGo v1 σ6) (fun _ σ8 => rp_lp (fun _ _ _ _ => none) (fX7_sorriest_60) 300 v2 0 1 σ8))))))))
set_option maxRecDepth 100000 in
set_option maxHeartbeats 4000000 in
theorem kX7_sorriest_0 {p : Program} {l : Launch} {e : Env} {s : State} {m : MethodId} {args : Array Value} {below : List Frame} {meth : Method} {c : Code} {D : va_G} {cI cT : ClassId} {ad av a : Nat → Nat} {res : Int32 × rp_St} (hC : mC p s m args meth c cX7_sorriest 5 "RegretPegsModel" (some .int) D cI cT ad av a) (v1 : Int32) (v2 : Int32) (σ : rp_St) (H : Heap) (locs : List Loc) (ls : Array Slot) (hF : fX7_sorriest v1 v2 σ = some res) (hw : mW D cI cT ad av a s σ H locs) (hl : lv_has ls 5 [(0, .ref (a 0)), (1, .int v1), (2, .int v2)]) : W p l e (rp_rm 7) s m args below meth c H locs 0 0 (MQ below (rp_Qi D a (mt cI cT ad a) 15 res) args s 0 0 (rp_A a 15)) (F0 m 0 ls []) := by
  have hx := hC.1
  have hb := hC.2.1
  have hown := hC.2.2.2.1
  have hts := hC.2.2.2.2.1
  unfold fX7_sorriest at hF
  refine lv_iload_n (pc := 0) hx hb dX7_sorriest_0 rfl (lv_at hl 1 rfl) ?_
  obtain ⟨r1, σ2, hq, hF⟩ := rp_bd_e hF
  refine rp_ki (rp_runZ (rest := []) hC (mE_ok _) hw hl.1 (mX7_isBehind (l := l) v1 σ _ hq) zw_X7_230 rfl rfl (Nat.le_of_ble_eq_true rfl) (by decide) dX7_sorriest_1) hw (fun H locs hw => ?_)
  clear hq
  refine lv_if_eq (pc := 4) (tgt := 16) hx hb dX7_sorriest_4 (by decide) (fun hc => ?_) (fun hc => ?_)
  · replace hF := rp_it hc hF
    exact kX7_sorriest_16 hC σ2 _ _ _ hF hw (lv_sub hl [0] rfl)
  · replace hF := rp_if hc hF
    refine lv_iload_n (pc := 7) hx hb dX7_sorriest_7 rfl (lv_at hl 2 rfl) ?_
    refine lv_iconst (pc := 8) (v := 0) hx hb dX7_sorriest_8 (by decide) ?_
    refine lv_iconst (pc := 9) (v := 1) hx hb dX7_sorriest_9 (by decide) ?_
    obtain ⟨r3, σ4, hq, hF⟩ := rp_bd_e hF
    refine rp_ki (rp_runZ (rest := []) hC (mE_ok _) hw hl.1 (mX7_within (l := l) v2 0 1 σ2 _ hq) zw_X7_73 rfl rfl (Nat.le_of_ble_eq_true rfl) (by decide) dX7_sorriest_10) hw (fun H locs hw => ?_)
    clear hq
    refine lv_if_ne (pc := 13) (tgt := 23) hx hb dX7_sorriest_13 (by decide) (fun hc => ?_) (fun hc => ?_)
    · replace hF := rp_if hc hF
      refine lv_aload_n (pc := 23) hx hb dX7_sorriest_23 rfl (lv_at hl 0 rfl) ?_
      refine rp_get (pc := 24) hC hw 0 (by decide) (mt_obj _) fl_X7_9 (.ref (a 1)) rfl dX7_sorriest_24 ?_
      refine lv_iconst (pc := 27) (v := 1) hx hb dX7_sorriest_27 (by decide) ?_
      obtain ⟨hg, hF⟩ := rp_gu_e hF
      refine rp_ald (pc := 28) hC hw 1 (by decide) (mt_arr 1 221 rfl) 0 rfl hg dX7_sorriest_28 ?_
      refine lv_if_ne (pc := 29) (tgt := 39) hx hb dX7_sorriest_29 (by decide) (fun hc => ?_) (fun hc => ?_)
      · replace hF := rp_if hc hF
        refine lv_aload_n (pc := 39) hx hb dX7_sorriest_39 rfl (lv_at hl 0 rfl) ?_
        refine rp_get (pc := 40) hC hw 0 (by decide) (mt_obj _) fl_X7_9 (.ref (a 1)) rfl dX7_sorriest_40 ?_
        refine lv_aload_n (pc := 43) hx hb dX7_sorriest_43 rfl (lv_at hl 0 rfl) ?_
        refine rp_get (pc := 44) hC hw 0 (by decide) (mt_obj _) fl_X7_16 (.ref (a 3)) rfl dX7_sorriest_44 ?_
        obtain ⟨r5, σ6, hq, hF⟩ := rp_bd_e hF
        refine rp_kv (rp_runZ (rest := []) hC (mE_ok _) hw hl.1 (mX7_copy (l := l) 1 (by decide) (mt_arr 1 221 rfl) 3 (by decide) (mt_arr 3 221 rfl) σ4 _ hq) zw_X7_69 rfl rfl (Nat.le_of_ble_eq_true rfl) (by decide) dX7_sorriest_47) hw (fun H locs hw => ?_)
        clear hq
        refine lv_aload_n (pc := 50) hx hb dX7_sorriest_50 rfl (lv_at hl 0 rfl) ?_
        refine lv_iload_n (pc := 51) hx hb dX7_sorriest_51 rfl (lv_at hl 1 rfl) ?_
        obtain ⟨r7, σ8, hq, hF⟩ := rp_bd_e hF
        refine rp_kv (rp_runV (rest := []) hC (mE_ok _) hw hl.1 (mX7_hoursGo (l := l) v1 σ6 _ hq) vw_X7_217 (by decide) (mt_obj _) rfl rfl rfl (Nat.le_of_ble_eq_true rfl) (by decide) dX7_sorriest_52) hw (fun H locs hw => ?_)
        clear hq
        refine lv_iconst (pc := 55) (v := 0) hx hb dX7_sorriest_55 (by decide) ?_
        refine lv_istore_n (pc := 56) (lv' := [(3, .int 0), (0, .ref (a 0)), (1, .int v1), (2, .int v2)]) hx hb dX7_sorriest_56 rfl hl (by decide) rfl (fun ls hl => ?_)
        refine lv_iconst (pc := 57) (v := 1) hx hb dX7_sorriest_57 (by decide) ?_
        refine lv_istore (pc := 58) (lv' := [(4, .int 1), (3, .int 0), (0, .ref (a 0)), (1, .int v1), (2, .int v2)]) hx hb dX7_sorriest_58 hl (by decide) rfl (fun ls hl => ?_)
        exact lX7_sorriest_60 hC 300 v2 0 1 σ8 _ _ _ hF hw (lv_sub hl [2, 4, 1, 0] rfl)
      · replace hF := rp_it hc hF
        refine lv_aload_n (pc := 32) hx hb dX7_sorriest_32 rfl (lv_at hl 0 rfl) ?_
        refine lv_ldc (pc := 33) (v := (-1000000002)) hx hb hown (hts _ wd_989) dX7_sorriest_33 ?_
        obtain ⟨r9, σ10, hq, hF⟩ := rp_bd_e hF
        refine rp_ki (rp_runV (rest := []) hC (mE_ok _) hw hl.1 (mX7_finding (l := l) (-1000000002) σ4 _ hq) vw_X7_78 (by decide) (mt_obj _) rfl rfl rfl (Nat.le_of_ble_eq_true rfl) (by decide) dX7_sorriest_35) hw (fun H locs hw => ?_)
        clear hq
        exact rp_reti (pc := 38) hC hw hF dX7_sorriest_38
    · replace hF := rp_it hc hF
      exact kX7_sorriest_16 hC σ4 _ _ _ hF hw (lv_sub hl [0] rfl)
theorem mX7_sorriest {l : Launch} {D : va_G} {cI cT : ClassId} {ad av a : Nat → Nat} (v1 : Int32) (v2 : Int32) (σ : rp_St) (res : Int32 × rp_St) (hF : fX7_sorriest v1 v2 σ = some res) : mM l D cI cT ad av a yX7_sorriest cX7_sorriest 5 (some .int) 7 [.ref (a 0), .int v1, .int v2] σ (rp_Qi D a (mt cI cT ad a) 15 res) :=
  rp_entry (by decide) (Nat.le_of_ble_eq_true rfl) (fun p e s m below meth c ls hC hw hl => kX7_sorriest_0 hC v1 v2 σ _ _ _ hF hw (lv_sub hl [0, 1, 2] rfl))
def fX7_odds_33 (σ : rp_St) : Option (Int32 × rp_St) :=
  rp_bd (fX7_finding (-1000000001) σ) (fun r1 σ2 => some (r1, σ2))
set_option maxRecDepth 100000 in
set_option maxHeartbeats 4000000 in
theorem kX7_odds_33 {p : Program} {l : Launch} {e : Env} {s : State} {m : MethodId} {args : Array Value} {below : List Frame} {meth : Method} {c : Code} {D : va_G} {cI cT : ClassId} {ad av a : Nat → Nat} {res : Int32 × rp_St} (hC : mC p s m args meth c cX7_odds 10 "RegretPegsModel" (some .int) D cI cT ad av a) (σ : rp_St) (H : Heap) (locs : List Loc) (ls : Array Slot) (hF : fX7_odds_33 σ = some res) (hw : mW D cI cT ad av a s σ H locs) (hl : lv_has ls 10 [(0, .ref (a 0))]) : W p l e (rp_rm 8) s m args below meth c H locs 0 0 (MQ below (rp_Qi D a (mt cI cT ad a) 15 res) args s 0 0 (rp_A a 15)) (F0 m 33 ls []) := by
  have hx := hC.1
  have hb := hC.2.1
  have hown := hC.2.2.2.1
  have hts := hC.2.2.2.2.1
  unfold fX7_odds_33 at hF
  refine lv_aload_n (pc := 33) hx hb dX7_odds_33 rfl (lv_at hl 0 rfl) ?_
  refine lv_ldc (pc := 34) (v := (-1000000001)) hx hb hown (hts _ wd_721) dX7_odds_34 ?_
  obtain ⟨r1, σ2, hq, hF⟩ := rp_bd_e hF
  refine rp_ki (rp_runV (rest := []) hC (mE_ok _) hw hl.1 (mX7_finding (l := l) (-1000000001) σ _ hq) vw_X7_78 (by decide) (mt_obj _) rfl rfl rfl (Nat.le_of_ble_eq_true rfl) (by decide) dX7_odds_36) hw (fun H locs hw => ?_)
  clear hq
  exact rp_reti (pc := 39) hC hw hF dX7_odds_39
def fX7_odds_117 (k117 : Int32 → Int32 → Int32 → Int32 → Int32 → rp_St → Option (Int32 × rp_St)) (v4 : Int32) (v5 : Int32) (v6 : Int32) (v7 : Int32) (v8 : Int32) (σ : rp_St) : Option (Int32 × rp_St) :=
  (if v8 = 0 then (if v4 = 0 then rp_gu (rp_nz0 v7) (some ((v6 / v7), σ)) else rp_gu (rp_nz0 v7) (some ((v5 / v7), σ))) else rp_gu (rp_nz0 v8) (rp_nm (v7 - v7 / v8 * v8) (fun x1 => k117 v4 v5 v6 v8 x1 σ)))
set_option maxRecDepth 100000 in
set_option maxHeartbeats 4000000 in
theorem kX7_odds_117 {p : Program} {l : Launch} {e : Env} {s : State} {m : MethodId} {args : Array Value} {below : List Frame} {meth : Method} {c : Code} {D : va_G} {cI cT : ClassId} {ad av a : Nat → Nat} {res : Int32 × rp_St} (hC : mC p s m args meth c cX7_odds 10 "RegretPegsModel" (some .int) D cI cT ad av a) (k117 : Int32 → Int32 → Int32 → Int32 → Int32 → rp_St → Option (Int32 × rp_St)) (hk117 : ∀ (v4 : Int32) (v5 : Int32) (v6 : Int32) (v7 : Int32) (v8 : Int32) (σ : rp_St) (H : Heap) (locs : List Loc) (ls : Array Slot), k117 v4 v5 v6 v7 v8 σ = some res → mW D cI cT ad av a s σ H locs → lv_has ls 10 [(4, .int v4), (5, .int v5), (6, .int v6), (7, .int v7), (8, .int v8)] → W p l e (rp_rm 8) s m args below meth c H locs 0 0 (MQ below (rp_Qi D a (mt cI cT ad a) 15 res) args s 0 0 (rp_A a 15)) (F0 m 117 ls [])) (v4 : Int32) (v5 : Int32) (v6 : Int32) (v7 : Int32) (v8 : Int32) (σ : rp_St) (H : Heap) (locs : List Loc) (ls : Array Slot) (hF : fX7_odds_117 k117 v4 v5 v6 v7 v8 σ = some res) (hw : mW D cI cT ad av a s σ H locs) (hl : lv_has ls 10 [(4, .int v4), (5, .int v5), (6, .int v6), (7, .int v7), (8, .int v8)]) : W p l e (rp_rm 8) s m args below meth c H locs 0 0 (MQ below (rp_Qi D a (mt cI cT ad a) 15 res) args s 0 0 (rp_A a 15)) (F0 m 117 ls []) := by
  have hx := hC.1
  have hb := hC.2.1
  have hown := hC.2.2.2.1
  have hts := hC.2.2.2.2.1
  unfold fX7_odds_117 at hF
  refine lv_iload (pc := 117) hx hb dX7_odds_117 (lv_at hl 4 rfl) ?_
  refine lv_if_eq (pc := 119) (tgt := 140) hx hb dX7_odds_119 (by decide) (fun hc => ?_) (fun hc => ?_)
  · replace hF := rp_it hc hF
    refine lv_iload (pc := 140) hx hb dX7_odds_140 (lv_at hl 0 rfl) ?_
    refine lv_if_ne (pc := 142) (tgt := 150) hx hb dX7_odds_142 (by decide) (fun hc => ?_) (fun hc => ?_)
    · replace hF := rp_if hc hF
      refine lv_iload (pc := 150) hx hb dX7_odds_150 (lv_at hl 1 rfl) ?_
      refine lv_iload (pc := 152) hx hb dX7_odds_152 (lv_at hl 3 rfl) ?_
      obtain ⟨hg, hF⟩ := rp_gu_e hF
      refine lv_idiv (pc := 154) hx hb dX7_odds_154 (rp_nz0_e hg) ?_
      exact rp_reti (pc := 155) hC hw hF dX7_odds_155
    · replace hF := rp_it hc hF
      refine lv_iload (pc := 145) hx hb dX7_odds_145 (lv_at hl 2 rfl) ?_
      refine lv_goto (pc := 147) (tgt := 152) hx hb dX7_odds_147 (by decide) ?_
      refine lv_iload (pc := 152) hx hb dX7_odds_152 (lv_at hl 3 rfl) ?_
      obtain ⟨hg, hF⟩ := rp_gu_e hF
      refine lv_idiv (pc := 154) hx hb dX7_odds_154 (rp_nz0_e hg) ?_
      exact rp_reti (pc := 155) hC hw hF dX7_odds_155
  · replace hF := rp_if hc hF
    refine lv_iload (pc := 122) hx hb dX7_odds_122 (lv_at hl 3 rfl) ?_
    refine lv_iload (pc := 124) hx hb dX7_odds_124 (lv_at hl 4 rfl) ?_
    obtain ⟨hg, hF⟩ := rp_gu_e hF
    refine lv_irem (pc := 126) hx hb dX7_odds_126 (rp_nz0_e hg) ?_
    obtain ⟨x1, ex1, hF⟩ := rp_nm_e hF
    refine rp_top ex1 ?_
    refine lv_istore (pc := 127) (lv' := [(9, .int x1), (4, .int v4), (5, .int v5), (6, .int v6), (7, .int v7), (8, .int v8)]) hx hb dX7_odds_127 hl (by decide) rfl (fun ls hl => ?_)
    refine lv_iload (pc := 129) hx hb dX7_odds_129 (lv_at hl 5 rfl) ?_
    refine lv_istore (pc := 131) (lv' := [(7, .int v8), (9, .int x1), (4, .int v4), (5, .int v5), (6, .int v6), (8, .int v8)]) hx hb dX7_odds_131 hl (by decide) rfl (fun ls hl => ?_)
    refine lv_iload (pc := 133) hx hb dX7_odds_133 (lv_at hl 1 rfl) ?_
    refine lv_istore (pc := 135) (lv' := [(8, .int x1), (7, .int v8), (9, .int x1), (4, .int v4), (5, .int v5), (6, .int v6)]) hx hb dX7_odds_135 hl (by decide) rfl (fun ls hl => ?_)
    refine lv_goto (pc := 137) (tgt := 117) hx hb dX7_odds_137 (by decide) ?_
    exact hk117 v4 v5 v6 v8 x1 σ _ _ _ hF hw (lv_sub hl [3, 4, 5, 1, 0] rfl)
theorem lX7_odds_117 {p : Program} {l : Launch} {e : Env} {s : State} {m : MethodId} {args : Array Value} {below : List Frame} {meth : Method} {c : Code} {D : va_G} {cI cT : ClassId} {ad av a : Nat → Nat} {res : Int32 × rp_St} (hC : mC p s m args meth c cX7_odds 10 "RegretPegsModel" (some .int) D cI cT ad av a) : ∀ (n : Nat) (v4 : Int32) (v5 : Int32) (v6 : Int32) (v7 : Int32) (v8 : Int32) (σ : rp_St) (H : Heap) (locs : List Loc) (ls : Array Slot), rp_lp (fun _ _ _ _ _ _ => none) (fX7_odds_117) n v4 v5 v6 v7 v8 σ = some res → mW D cI cT ad av a s σ H locs → lv_has ls 10 [(4, .int v4), (5, .int v5), (6, .int v6), (7, .int v7), (8, .int v8)] → W p l e (rp_rm 8) s m args below meth c H locs 0 0 (MQ below (rp_Qi D a (mt cI cT ad a) 15 res) args s 0 0 (rp_A a 15)) (F0 m 117 ls [])
  | 0, _, _, _, _, _, _, _, _, _, hF, _, _ => nomatch hF
  | n + 1, v4, v5, v6, v7, v8, σ, H, locs, ls, hF, hw, hl => kX7_odds_117 hC (rp_lp (fun _ _ _ _ _ _ => none) (fX7_odds_117) n) (lX7_odds_117 hC n) v4 v5 v6 v7 v8 σ H locs ls hF hw hl
def fX7_odds_100 (k68 : Int32 → Int32 → Int32 → Int32 → Int32 → Int32 → Int32 → rp_St → Option (Int32 × rp_St)) (v1 : Int32) (v2 : Int32) (v3 : Int32) (v4 : Int32) (v5 : Int32) (v7 : Int32) (t0 : Int32) (t1 : Int32) (σ : rp_St) : Option (Int32 × rp_St) :=
  rp_nm (t1 + t0) (fun x1 => rp_nm (v7 + 1) (fun x2 => k68 v1 v2 v3 v4 v5 x1 x2 σ))
set_option maxRecDepth 100000 in
set_option maxHeartbeats 4000000 in
theorem kX7_odds_100 {p : Program} {l : Launch} {e : Env} {s : State} {m : MethodId} {args : Array Value} {below : List Frame} {meth : Method} {c : Code} {D : va_G} {cI cT : ClassId} {ad av a : Nat → Nat} {res : Int32 × rp_St} (hC : mC p s m args meth c cX7_odds 10 "RegretPegsModel" (some .int) D cI cT ad av a) (k68 : Int32 → Int32 → Int32 → Int32 → Int32 → Int32 → Int32 → rp_St → Option (Int32 × rp_St)) (hk68 : ∀ (v1 : Int32) (v2 : Int32) (v3 : Int32) (v4 : Int32) (v5 : Int32) (v6 : Int32) (v7 : Int32) (σ : rp_St) (H : Heap) (locs : List Loc) (ls : Array Slot), k68 v1 v2 v3 v4 v5 v6 v7 σ = some res → mW D cI cT ad av a s σ H locs → lv_has ls 10 [(0, .ref (a 0)), (1, .int v1), (2, .int v2), (3, .int v3), (4, .int v4), (5, .int v5), (6, .int v6), (7, .int v7)] → W p l e (rp_rm 8) s m args below meth c H locs 0 0 (MQ below (rp_Qi D a (mt cI cT ad a) 15 res) args s 0 0 (rp_A a 15)) (F0 m 68 ls [])) (v1 : Int32) (v2 : Int32) (v3 : Int32) (v4 : Int32) (v5 : Int32) (v7 : Int32) (t0 : Int32) (t1 : Int32) (σ : rp_St) (H : Heap) (locs : List Loc) (ls : Array Slot) (hF : fX7_odds_100 k68 v1 v2 v3 v4 v5 v7 t0 t1 σ = some res) (hw : mW D cI cT ad av a s σ H locs) (hl : lv_has ls 10 [(0, .ref (a 0)), (1, .int v1), (2, .int v2), (3, .int v3), (4, .int v4), (5, .int v5), (7, .int v7)]) : W p l e (rp_rm 8) s m args below meth c H locs 0 0 (MQ below (rp_Qi D a (mt cI cT ad a) 15 res) args s 0 0 (rp_A a 15)) (F0 m 100 ls [.int t0, .int t1]) := by
  have hx := hC.1
  have hb := hC.2.1
  have hown := hC.2.2.2.1
  have hts := hC.2.2.2.2.1
  unfold fX7_odds_100 at hF
  refine lv_iadd (pc := 100) hx hb dX7_odds_100 ?_
  obtain ⟨x1, ex1, hF⟩ := rp_nm_e hF
  refine rp_top ex1 ?_
  refine lv_istore (pc := 101) (lv' := [(6, .int x1), (0, .ref (a 0)), (1, .int v1), (2, .int v2), (3, .int v3), (4, .int v4), (5, .int v5), (7, .int v7)]) hx hb dX7_odds_101 hl (by decide) rfl (fun ls hl => ?_)
  obtain ⟨x2, ex2, hF⟩ := rp_nm_e hF
  refine lv_iinc (pc := 103) (v := x2) (lv' := [(7, .int x2), (6, .int x1), (0, .ref (a 0)), (1, .int v1), (2, .int v2), (3, .int v3), (4, .int v4), (5, .int v5)]) hx hb dX7_odds_103 hl (k := 7) rfl (by rw [ex2]; rfl) (by decide) rfl (fun ls hl => ?_)
  refine lv_goto (pc := 106) (tgt := 68) hx hb dX7_odds_106 (by decide) ?_
  exact hk68 v1 v2 v3 v4 v5 x1 x2 σ _ _ _ hF hw (lv_sub hl [2, 3, 4, 5, 6, 7, 1, 0] rfl)
def fX7_odds_99 (k68 : Int32 → Int32 → Int32 → Int32 → Int32 → Int32 → Int32 → rp_St → Option (Int32 × rp_St)) (v1 : Int32) (v2 : Int32) (v3 : Int32) (v4 : Int32) (v5 : Int32) (v7 : Int32) (t0 : Int32) (σ : rp_St) : Option (Int32 × rp_St) :=
  fX7_odds_100 k68 v1 v2 v3 v4 v5 v7 0 t0 σ
set_option maxRecDepth 100000 in
set_option maxHeartbeats 4000000 in
theorem kX7_odds_99 {p : Program} {l : Launch} {e : Env} {s : State} {m : MethodId} {args : Array Value} {below : List Frame} {meth : Method} {c : Code} {D : va_G} {cI cT : ClassId} {ad av a : Nat → Nat} {res : Int32 × rp_St} (hC : mC p s m args meth c cX7_odds 10 "RegretPegsModel" (some .int) D cI cT ad av a) (k68 : Int32 → Int32 → Int32 → Int32 → Int32 → Int32 → Int32 → rp_St → Option (Int32 × rp_St)) (hk68 : ∀ (v1 : Int32) (v2 : Int32) (v3 : Int32) (v4 : Int32) (v5 : Int32) (v6 : Int32) (v7 : Int32) (σ : rp_St) (H : Heap) (locs : List Loc) (ls : Array Slot), k68 v1 v2 v3 v4 v5 v6 v7 σ = some res → mW D cI cT ad av a s σ H locs → lv_has ls 10 [(0, .ref (a 0)), (1, .int v1), (2, .int v2), (3, .int v3), (4, .int v4), (5, .int v5), (6, .int v6), (7, .int v7)] → W p l e (rp_rm 8) s m args below meth c H locs 0 0 (MQ below (rp_Qi D a (mt cI cT ad a) 15 res) args s 0 0 (rp_A a 15)) (F0 m 68 ls [])) (v1 : Int32) (v2 : Int32) (v3 : Int32) (v4 : Int32) (v5 : Int32) (v7 : Int32) (t0 : Int32) (σ : rp_St) (H : Heap) (locs : List Loc) (ls : Array Slot) (hF : fX7_odds_99 k68 v1 v2 v3 v4 v5 v7 t0 σ = some res) (hw : mW D cI cT ad av a s σ H locs) (hl : lv_has ls 10 [(0, .ref (a 0)), (1, .int v1), (2, .int v2), (3, .int v3), (4, .int v4), (5, .int v5), (7, .int v7)]) : W p l e (rp_rm 8) s m args below meth c H locs 0 0 (MQ below (rp_Qi D a (mt cI cT ad a) 15 res) args s 0 0 (rp_A a 15)) (F0 m 99 ls [.int t0]) := by
  have hx := hC.1
  have hb := hC.2.1
  have hown := hC.2.2.2.1
  have hts := hC.2.2.2.2.1
  unfold fX7_odds_99 at hF
  refine lv_iconst (pc := 99) (v := 0) hx hb dX7_odds_99 (by decide) ?_
  exact kX7_odds_100 hC k68 hk68 v1 v2 v3 v4 v5 v7 0 t0 σ _ _ _ hF hw (lv_sub hl [0, 1, 2, 3, 4, 5, 6] rfl)
def fX7_odds_68 (k68 : Int32 → Int32 → Int32 → Int32 → Int32 → Int32 → Int32 → rp_St → Option (Int32 × rp_St)) (v1 : Int32) (v2 : Int32) (v3 : Int32) (v4 : Int32) (v5 : Int32) (v6 : Int32) (v7 : Int32) (σ : rp_St) : Option (Int32 × rp_St) :=
  (if v5 < v7 then rp_lp (fun _ _ _ _ _ _ => none) (fX7_odds_117) 300 v4 v5 v6 v5 v6 σ else (if v7 = v1 then fX7_odds_99 k68 v1 v2 v3 v4 v5 v7 v6 σ else rp_bd (fX7_pegWith v1 v7 v3 σ) (fun r1 σ2 => (if v2 < r1 then fX7_odds_99 k68 v1 v2 v3 v4 v5 v7 v6 σ2 else fX7_odds_100 k68 v1 v2 v3 v4 v5 v7 1 v6 σ2))))
set_option maxRecDepth 100000 in
set_option maxHeartbeats 4000000 in
theorem kX7_odds_68 {p : Program} {l : Launch} {e : Env} {s : State} {m : MethodId} {args : Array Value} {below : List Frame} {meth : Method} {c : Code} {D : va_G} {cI cT : ClassId} {ad av a : Nat → Nat} {res : Int32 × rp_St} (hC : mC p s m args meth c cX7_odds 10 "RegretPegsModel" (some .int) D cI cT ad av a) (k68 : Int32 → Int32 → Int32 → Int32 → Int32 → Int32 → Int32 → rp_St → Option (Int32 × rp_St)) (hk68 : ∀ (v1 : Int32) (v2 : Int32) (v3 : Int32) (v4 : Int32) (v5 : Int32) (v6 : Int32) (v7 : Int32) (σ : rp_St) (H : Heap) (locs : List Loc) (ls : Array Slot), k68 v1 v2 v3 v4 v5 v6 v7 σ = some res → mW D cI cT ad av a s σ H locs → lv_has ls 10 [(0, .ref (a 0)), (1, .int v1), (2, .int v2), (3, .int v3), (4, .int v4), (5, .int v5), (6, .int v6), (7, .int v7)] → W p l e (rp_rm 8) s m args below meth c H locs 0 0 (MQ below (rp_Qi D a (mt cI cT ad a) 15 res) args s 0 0 (rp_A a 15)) (F0 m 68 ls [])) (v1 : Int32) (v2 : Int32) (v3 : Int32) (v4 : Int32) (v5 : Int32) (v6 : Int32) (v7 : Int32) (σ : rp_St) (H : Heap) (locs : List Loc) (ls : Array Slot) (hF : fX7_odds_68 k68 v1 v2 v3 v4 v5 v6 v7 σ = some res) (hw : mW D cI cT ad av a s σ H locs) (hl : lv_has ls 10 [(0, .ref (a 0)), (1, .int v1), (2, .int v2), (3, .int v3), (4, .int v4), (5, .int v5), (6, .int v6), (7, .int v7)]) : W p l e (rp_rm 8) s m args below meth c H locs 0 0 (MQ below (rp_Qi D a (mt cI cT ad a) 15 res) args s 0 0 (rp_A a 15)) (F0 m 68 ls []) := by
  have hx := hC.1
  have hb := hC.2.1
  have hown := hC.2.2.2.1
  have hts := hC.2.2.2.2.1
  unfold fX7_odds_68 at hF
  refine lv_iload (pc := 68) hx hb dX7_odds_68 (lv_at hl 7 rfl) ?_
  refine lv_iload (pc := 70) hx hb dX7_odds_70 (lv_at hl 5 rfl) ?_
  refine lv_icmp_gt (pc := 72) (tgt := 109) hx hb dX7_odds_72 (by decide) (fun hc => ?_) (fun hc => ?_)
  · replace hF := rp_it hc hF
    refine lv_iload (pc := 109) hx hb dX7_odds_109 (lv_at hl 5 rfl) ?_
    refine lv_istore (pc := 111) (lv' := [(7, .int v5), (0, .ref (a 0)), (1, .int v1), (2, .int v2), (3, .int v3), (4, .int v4), (5, .int v5), (6, .int v6)]) hx hb dX7_odds_111 hl (by decide) rfl (fun ls hl => ?_)
    refine lv_iload (pc := 113) hx hb dX7_odds_113 (lv_at hl 7 rfl) ?_
    refine lv_istore (pc := 115) (lv' := [(8, .int v6), (7, .int v5), (0, .ref (a 0)), (1, .int v1), (2, .int v2), (3, .int v3), (4, .int v4), (5, .int v5), (6, .int v6)]) hx hb dX7_odds_115 hl (by decide) rfl (fun ls hl => ?_)
    exact lX7_odds_117 hC 300 v4 v5 v6 v5 v6 σ _ _ _ hF hw (lv_sub hl [6, 7, 8, 1, 0] rfl)
  · replace hF := rp_if hc hF
    refine lv_iload (pc := 75) hx hb dX7_odds_75 (lv_at hl 6 rfl) ?_
    refine lv_iload (pc := 77) hx hb dX7_odds_77 (lv_at hl 7 rfl) ?_
    refine lv_iload_n (pc := 79) hx hb dX7_odds_79 rfl (lv_at hl 1 rfl) ?_
    refine lv_icmp_eq (pc := 80) (tgt := 99) hx hb dX7_odds_80 (by decide) (fun hc => ?_) (fun hc => ?_)
    · replace hF := rp_it hc hF
      exact kX7_odds_99 hC k68 hk68 v1 v2 v3 v4 v5 v7 v6 σ _ _ _ hF hw (lv_sub hl [0, 1, 2, 3, 4, 5, 7] rfl)
    · replace hF := rp_if hc hF
      refine lv_aload_n (pc := 83) hx hb dX7_odds_83 rfl (lv_at hl 0 rfl) ?_
      refine lv_iload_n (pc := 84) hx hb dX7_odds_84 rfl (lv_at hl 1 rfl) ?_
      refine lv_iload (pc := 85) hx hb dX7_odds_85 (lv_at hl 7 rfl) ?_
      refine lv_iload_n (pc := 87) hx hb dX7_odds_87 rfl (lv_at hl 3 rfl) ?_
      obtain ⟨r1, σ2, hq, hF⟩ := rp_bd_e hF
      refine rp_ki (rp_runV (rest := [.int v6]) hC (mE_ok _) hw hl.1 (mX7_pegWith (l := l) v1 v7 v3 σ _ hq) vw_X7_240 (by decide) (mt_obj _) rfl rfl rfl (Nat.le_of_ble_eq_true rfl) (by decide) dX7_odds_88) hw (fun H locs hw => ?_)
      clear hq
      refine lv_iload_n (pc := 91) hx hb dX7_odds_91 rfl (lv_at hl 2 rfl) ?_
      refine lv_icmp_gt (pc := 92) (tgt := 99) hx hb dX7_odds_92 (by decide) (fun hc => ?_) (fun hc => ?_)
      · replace hF := rp_it hc hF
        exact kX7_odds_99 hC k68 hk68 v1 v2 v3 v4 v5 v7 v6 σ2 _ _ _ hF hw (lv_sub hl [0, 1, 2, 3, 4, 5, 7] rfl)
      · replace hF := rp_if hc hF
        refine lv_iconst (pc := 95) (v := 1) hx hb dX7_odds_95 (by decide) ?_
        refine lv_goto (pc := 96) (tgt := 100) hx hb dX7_odds_96 (by decide) ?_
        exact kX7_odds_100 hC k68 hk68 v1 v2 v3 v4 v5 v7 1 v6 σ2 _ _ _ hF hw (lv_sub hl [0, 1, 2, 3, 4, 5, 7] rfl)
theorem lX7_odds_68 {p : Program} {l : Launch} {e : Env} {s : State} {m : MethodId} {args : Array Value} {below : List Frame} {meth : Method} {c : Code} {D : va_G} {cI cT : ClassId} {ad av a : Nat → Nat} {res : Int32 × rp_St} (hC : mC p s m args meth c cX7_odds 10 "RegretPegsModel" (some .int) D cI cT ad av a) : ∀ (n : Nat) (v1 : Int32) (v2 : Int32) (v3 : Int32) (v4 : Int32) (v5 : Int32) (v6 : Int32) (v7 : Int32) (σ : rp_St) (H : Heap) (locs : List Loc) (ls : Array Slot), rp_lp (fun _ _ _ _ _ _ _ _ => none) (fX7_odds_68) n v1 v2 v3 v4 v5 v6 v7 σ = some res → mW D cI cT ad av a s σ H locs → lv_has ls 10 [(0, .ref (a 0)), (1, .int v1), (2, .int v2), (3, .int v3), (4, .int v4), (5, .int v5), (6, .int v6), (7, .int v7)] → W p l e (rp_rm 8) s m args below meth c H locs 0 0 (MQ below (rp_Qi D a (mt cI cT ad a) 15 res) args s 0 0 (rp_A a 15)) (F0 m 68 ls [])
  | 0, _, _, _, _, _, _, _, _, _, _, _, hF, _, _ => nomatch hF
  | n + 1, v1, v2, v3, v4, v5, v6, v7, σ, H, locs, ls, hF, hw, hl => kX7_odds_68 hC (rp_lp (fun _ _ _ _ _ _ _ _ => none) (fX7_odds_68) n) (lX7_odds_68 hC n) v1 v2 v3 v4 v5 v6 v7 σ H locs ls hF hw hl
def fX7_odds (v1 : Int32) (v2 : Int32) (v3 : Int32) (v4 : Int32) (σ : rp_St) : Option (Int32 × rp_St) :=
  rp_bd (fX7_isGuest v1 σ) (fun r1 σ2 => (if r1 = 0 then fX7_odds_33 σ2 else rp_bd (fX7_isGuest v2 σ2) (fun r3 σ4 => (if r3 = 0 then fX7_odds_33 σ4 else rp_bd (fX7_isBehind v3 σ4) (fun r5 σ6 => (if r5 = 0 then fX7_odds_33 σ6 else rp_bd (fX7_within v4 0 1 σ6) (fun r7 σ8 => (if r7 = 0 then fX7_odds_33 σ8 else rp_gu (rp_in 1 221) (rp_nm ((σ8 1 (1 : Int32).toNatClampNeg) - 1) (fun x9 => (if x9 = 0 then rp_bd (fX7_finding (-1000000002) σ8) (fun r10 σ11 => some (r10, σ11)) else rp_lp (fun _ _ _ _ _ _ _ _ => none) (fX7_odds_68) 300 v1 v2 v3 v4 x9 0 0 σ8)))))))))))
set_option maxRecDepth 100000 in
set_option maxHeartbeats 4000000 in
theorem kX7_odds_0 {p : Program} {l : Launch} {e : Env} {s : State} {m : MethodId} {args : Array Value} {below : List Frame} {meth : Method} {c : Code} {D : va_G} {cI cT : ClassId} {ad av a : Nat → Nat} {res : Int32 × rp_St} (hC : mC p s m args meth c cX7_odds 10 "RegretPegsModel" (some .int) D cI cT ad av a) (v1 : Int32) (v2 : Int32) (v3 : Int32) (v4 : Int32) (σ : rp_St) (H : Heap) (locs : List Loc) (ls : Array Slot) (hF : fX7_odds v1 v2 v3 v4 σ = some res) (hw : mW D cI cT ad av a s σ H locs) (hl : lv_has ls 10 [(0, .ref (a 0)), (1, .int v1), (2, .int v2), (3, .int v3), (4, .int v4)]) : W p l e (rp_rm 8) s m args below meth c H locs 0 0 (MQ below (rp_Qi D a (mt cI cT ad a) 15 res) args s 0 0 (rp_A a 15)) (F0 m 0 ls []) := by
  have hx := hC.1
  have hb := hC.2.1
  have hown := hC.2.2.2.1
  have hts := hC.2.2.2.2.1
  unfold fX7_odds at hF
  refine lv_aload_n (pc := 0) hx hb dX7_odds_0 rfl (lv_at hl 0 rfl) ?_
  refine lv_iload_n (pc := 1) hx hb dX7_odds_1 rfl (lv_at hl 1 rfl) ?_
  obtain ⟨r1, σ2, hq, hF⟩ := rp_bd_e hF
  refine rp_ki (rp_runV (rest := []) hC (mE_ok _) hw hl.1 (mX7_isGuest (l := l) v1 σ _ hq) vw_X7_159 (by decide) (mt_obj _) rfl rfl rfl (Nat.le_of_ble_eq_true rfl) (by decide) dX7_odds_2) hw (fun H locs hw => ?_)
  clear hq
  refine lv_if_eq (pc := 5) (tgt := 33) hx hb dX7_odds_5 (by decide) (fun hc => ?_) (fun hc => ?_)
  · replace hF := rp_it hc hF
    exact kX7_odds_33 hC σ2 _ _ _ hF hw (lv_sub hl [0] rfl)
  · replace hF := rp_if hc hF
    refine lv_aload_n (pc := 8) hx hb dX7_odds_8 rfl (lv_at hl 0 rfl) ?_
    refine lv_iload_n (pc := 9) hx hb dX7_odds_9 rfl (lv_at hl 2 rfl) ?_
    obtain ⟨r3, σ4, hq, hF⟩ := rp_bd_e hF
    refine rp_ki (rp_runV (rest := []) hC (mE_ok _) hw hl.1 (mX7_isGuest (l := l) v2 σ2 _ hq) vw_X7_159 (by decide) (mt_obj _) rfl rfl rfl (Nat.le_of_ble_eq_true rfl) (by decide) dX7_odds_10) hw (fun H locs hw => ?_)
    clear hq
    refine lv_if_eq (pc := 13) (tgt := 33) hx hb dX7_odds_13 (by decide) (fun hc => ?_) (fun hc => ?_)
    · replace hF := rp_it hc hF
      exact kX7_odds_33 hC σ4 _ _ _ hF hw (lv_sub hl [0] rfl)
    · replace hF := rp_if hc hF
      refine lv_iload_n (pc := 16) hx hb dX7_odds_16 rfl (lv_at hl 3 rfl) ?_
      obtain ⟨r5, σ6, hq, hF⟩ := rp_bd_e hF
      refine rp_ki (rp_runZ (rest := []) hC (mE_ok _) hw hl.1 (mX7_isBehind (l := l) v3 σ4 _ hq) zw_X7_230 rfl rfl (Nat.le_of_ble_eq_true rfl) (by decide) dX7_odds_17) hw (fun H locs hw => ?_)
      clear hq
      refine lv_if_eq (pc := 20) (tgt := 33) hx hb dX7_odds_20 (by decide) (fun hc => ?_) (fun hc => ?_)
      · replace hF := rp_it hc hF
        exact kX7_odds_33 hC σ6 _ _ _ hF hw (lv_sub hl [0] rfl)
      · replace hF := rp_if hc hF
        refine lv_iload (pc := 23) hx hb dX7_odds_23 (lv_at hl 4 rfl) ?_
        refine lv_iconst (pc := 25) (v := 0) hx hb dX7_odds_25 (by decide) ?_
        refine lv_iconst (pc := 26) (v := 1) hx hb dX7_odds_26 (by decide) ?_
        obtain ⟨r7, σ8, hq, hF⟩ := rp_bd_e hF
        refine rp_ki (rp_runZ (rest := []) hC (mE_ok _) hw hl.1 (mX7_within (l := l) v4 0 1 σ6 _ hq) zw_X7_73 rfl rfl (Nat.le_of_ble_eq_true rfl) (by decide) dX7_odds_27) hw (fun H locs hw => ?_)
        clear hq
        refine lv_if_ne (pc := 30) (tgt := 40) hx hb dX7_odds_30 (by decide) (fun hc => ?_) (fun hc => ?_)
        · replace hF := rp_if hc hF
          refine lv_aload_n (pc := 40) hx hb dX7_odds_40 rfl (lv_at hl 0 rfl) ?_
          refine rp_get (pc := 41) hC hw 0 (by decide) (mt_obj _) fl_X7_9 (.ref (a 1)) rfl dX7_odds_41 ?_
          refine lv_iconst (pc := 44) (v := 1) hx hb dX7_odds_44 (by decide) ?_
          obtain ⟨hg, hF⟩ := rp_gu_e hF
          refine rp_ald (pc := 45) hC hw 1 (by decide) (mt_arr 1 221 rfl) 0 rfl hg dX7_odds_45 ?_
          refine lv_iconst (pc := 46) (v := 1) hx hb dX7_odds_46 (by decide) ?_
          refine lv_isub (pc := 47) hx hb dX7_odds_47 ?_
          obtain ⟨x9, ex9, hF⟩ := rp_nm_e hF
          refine rp_top ex9 ?_
          refine lv_istore (pc := 48) (lv' := [(5, .int x9), (0, .ref (a 0)), (1, .int v1), (2, .int v2), (3, .int v3), (4, .int v4)]) hx hb dX7_odds_48 hl (by decide) rfl (fun ls hl => ?_)
          refine lv_iload (pc := 50) hx hb dX7_odds_50 (lv_at hl 0 rfl) ?_
          refine lv_if_ne (pc := 52) (tgt := 62) hx hb dX7_odds_52 (by decide) (fun hc => ?_) (fun hc => ?_)
          · replace hF := rp_if hc hF
            refine lv_iconst (pc := 62) (v := 0) hx hb dX7_odds_62 (by decide) ?_
            refine lv_istore (pc := 63) (lv' := [(6, .int 0), (5, .int x9), (0, .ref (a 0)), (1, .int v1), (2, .int v2), (3, .int v3), (4, .int v4)]) hx hb dX7_odds_63 hl (by decide) rfl (fun ls hl => ?_)
            refine lv_iconst (pc := 65) (v := 0) hx hb dX7_odds_65 (by decide) ?_
            refine lv_istore (pc := 66) (lv' := [(7, .int 0), (6, .int 0), (5, .int x9), (0, .ref (a 0)), (1, .int v1), (2, .int v2), (3, .int v3), (4, .int v4)]) hx hb dX7_odds_66 hl (by decide) rfl (fun ls hl => ?_)
            exact lX7_odds_68 hC 300 v1 v2 v3 v4 x9 0 0 σ8 _ _ _ hF hw (lv_sub hl [3, 4, 5, 6, 7, 2, 1, 0] rfl)
          · replace hF := rp_it hc hF
            refine lv_aload_n (pc := 55) hx hb dX7_odds_55 rfl (lv_at hl 1 rfl) ?_
            refine lv_ldc (pc := 56) (v := (-1000000002)) hx hb hown (hts _ wd_989) dX7_odds_56 ?_
            obtain ⟨r10, σ11, hq, hF⟩ := rp_bd_e hF
            refine rp_ki (rp_runV (rest := []) hC (mE_ok _) hw hl.1 (mX7_finding (l := l) (-1000000002) σ8 _ hq) vw_X7_78 (by decide) (mt_obj _) rfl rfl rfl (Nat.le_of_ble_eq_true rfl) (by decide) dX7_odds_58) hw (fun H locs hw => ?_)
            clear hq
            exact rp_reti (pc := 61) hC hw hF dX7_odds_61
        · replace hF := rp_it hc hF
          exact kX7_odds_33 hC σ8 _ _ _ hF hw (lv_sub hl [0] rfl)
theorem mX7_odds {l : Launch} {D : va_G} {cI cT : ClassId} {ad av a : Nat → Nat} (v1 : Int32) (v2 : Int32) (v3 : Int32) (v4 : Int32) (σ : rp_St) (res : Int32 × rp_St) (hF : fX7_odds v1 v2 v3 v4 σ = some res) : mM l D cI cT ad av a yX7_odds cX7_odds 10 (some .int) 8 [.ref (a 0), .int v1, .int v2, .int v3, .int v4] σ (rp_Qi D a (mt cI cT ad a) 15 res) :=
  rp_entry (by decide) (Nat.le_of_ble_eq_true rfl) (fun p e s m below meth c ls hC hw hl => kX7_odds_0 hC v1 v2 v3 v4 σ _ _ _ hF hw (lv_sub hl [0, 1, 2, 3, 4] rfl))
def fX7_seed (v1 : Int32) (σ : rp_St) : Option (Int32 × rp_St) :=
  rp_bd (fX7_turn 2 v1 σ) (fun r1 σ2 => some (r1, σ2))
set_option maxRecDepth 100000 in
set_option maxHeartbeats 4000000 in
theorem kX7_seed_0 {p : Program} {l : Launch} {e : Env} {s : State} {m : MethodId} {args : Array Value} {below : List Frame} {meth : Method} {c : Code} {D : va_G} {cI cT : ClassId} {ad av a : Nat → Nat} {res : Int32 × rp_St} (hC : mC p s m args meth c cX7_seed 2 "RegretPegsModel" (some .int) D cI cT ad av a) (v1 : Int32) (σ : rp_St) (H : Heap) (locs : List Loc) (ls : Array Slot) (hF : fX7_seed v1 σ = some res) (hw : mW D cI cT ad av a s σ H locs) (hl : lv_has ls 2 [(0, .ref (a 0)), (1, .int v1)]) : W p l e (rp_rm 2) s m args below meth c H locs 0 0 (MQ below (rp_Qi D a (mt cI cT ad a) 15 res) args s 0 0 (rp_A a 15)) (F0 m 0 ls []) := by
  have hx := hC.1
  have hb := hC.2.1
  have hown := hC.2.2.2.1
  have hts := hC.2.2.2.2.1
  unfold fX7_seed at hF
  refine lv_aload_n (pc := 0) hx hb dX7_seed_0 rfl (lv_at hl 0 rfl) ?_
  refine lv_iconst (pc := 1) (v := 2) hx hb dX7_seed_1 (by decide) ?_
  refine lv_iload_n (pc := 2) hx hb dX7_seed_2 rfl (lv_at hl 1 rfl) ?_
  obtain ⟨r1, σ2, hq, hF⟩ := rp_bd_e hF
  refine rp_ki (rp_runV (rest := []) hC (mE_ok _) hw hl.1 (mX7_turn (l := l) 2 v1 σ _ hq) vw_X7_186 (by decide) (mt_obj _) rfl rfl rfl (Nat.le_of_ble_eq_true rfl) (by decide) dX7_seed_3) hw (fun H locs hw => ?_)
  clear hq
  exact rp_reti (pc := 6) hC hw hF dX7_seed_6
theorem mX7_seed {l : Launch} {D : va_G} {cI cT : ClassId} {ad av a : Nat → Nat} (v1 : Int32) (σ : rp_St) (res : Int32 × rp_St) (hF : fX7_seed v1 σ = some res) : mM l D cI cT ad av a yX7_seed cX7_seed 2 (some .int) 2 [.ref (a 0), .int v1] σ (rp_Qi D a (mt cI cT ad a) 15 res) :=
  rp_entry (by decide) (Nat.le_of_ble_eq_true rfl) (fun p e s m below meth c ls hC hw hl => kX7_seed_0 hC v1 σ _ _ _ hF hw (lv_sub hl [0, 1] rfl))
def fX7_ran (v1 : Int32) (σ : rp_St) : Option (Int32 × rp_St) :=
  (if 40 ≤ (σ 0 16) then some (0, σ) else rp_gu (rp_in (σ 0 16) 40) (rp_nm (rp_put σ 10 ((σ 0 16) : Int32).toNatClampNeg v1) (fun σ1 => rp_nm (rp_put σ1 0 16 ((σ1 0 16) + 1)) (fun σ2 => some (0, σ2)))))
set_option maxRecDepth 100000 in
set_option maxHeartbeats 4000000 in
theorem kX7_ran_0 {p : Program} {l : Launch} {e : Env} {s : State} {m : MethodId} {args : Array Value} {below : List Frame} {meth : Method} {c : Code} {D : va_G} {cI cT : ClassId} {ad av a : Nat → Nat} {res : Int32 × rp_St} (hC : mC p s m args meth c cX7_ran 2 "RegretPegsModel" none D cI cT ad av a) (v1 : Int32) (σ : rp_St) (H : Heap) (locs : List Loc) (ls : Array Slot) (hF : fX7_ran v1 σ = some res) (hw : mW D cI cT ad av a s σ H locs) (hl : lv_has ls 2 [(0, .ref (a 0)), (1, .int v1)]) : W p l e (rp_rm 1) s m args below meth c H locs 0 0 (MQ below (rp_Qv D a (mt cI cT ad a) 15 res) args s 0 0 (rp_A a 15)) (F0 m 0 ls []) := by
  have hx := hC.1
  have hb := hC.2.1
  have hown := hC.2.2.2.1
  have hts := hC.2.2.2.2.1
  unfold fX7_ran at hF
  refine lv_aload_n (pc := 0) hx hb dX7_ran_0 rfl (lv_at hl 0 rfl) ?_
  refine rp_get (pc := 1) hC hw 0 (by decide) (mt_obj _) fl_X7_263 (.int (σ 0 16)) rfl dX7_ran_1 ?_
  refine lv_bipush (pc := 4) (v := 40) hx hb dX7_ran_4 (by decide) ?_
  refine lv_icmp_ge (pc := 6) (tgt := 29) hx hb dX7_ran_6 (by decide) (fun hc => ?_) (fun hc => ?_)
  · replace hF := rp_it hc hF
    exact rp_retv (pc := 29) hC hw hF dX7_ran_29
  · replace hF := rp_if hc hF
    refine lv_aload_n (pc := 9) hx hb dX7_ran_9 rfl (lv_at hl 0 rfl) ?_
    refine rp_get (pc := 10) hC hw 0 (by decide) (mt_obj _) fl_X7_44 (.ref (a 10)) rfl dX7_ran_10 ?_
    refine lv_aload_n (pc := 13) hx hb dX7_ran_13 rfl (lv_at hl 0 rfl) ?_
    refine rp_get (pc := 14) hC hw 0 (by decide) (mt_obj _) fl_X7_263 (.int (σ 0 16)) rfl dX7_ran_14 ?_
    refine lv_iload_n (pc := 17) hx hb dX7_ran_17 rfl (lv_at hl 1 rfl) ?_
    obtain ⟨hg, hF⟩ := rp_gu_e hF
    refine rp_ast (pc := 18) hC hw 10 (by decide) (mt_arr 10 40 rfl) 0 rfl hg dX7_ran_18 (fun H locs hw => ?_)
    obtain ⟨σ1, eσ1, hF⟩ := rp_nm_e hF
    replace hw := rp_Wn eσ1 hw
    clear eσ1
    refine lv_aload_n (pc := 19) hx hb dX7_ran_19 rfl (lv_at hl 0 rfl) ?_
    refine lv_dup (pc := 20) hx hb dX7_ran_20 rfl ?_
    refine rp_get (pc := 21) hC hw 0 (by decide) (mt_obj _) fl_X7_263 (.int (σ1 0 16)) rfl dX7_ran_21 ?_
    refine lv_iconst (pc := 24) (v := 1) hx hb dX7_ran_24 (by decide) ?_
    refine lv_iadd (pc := 25) hx hb dX7_ran_25 ?_
    refine rp_set (pc := 26) (fs := mb_obj a) hC hw 0 (by decide) mt_obj fg_X7_263 rfl (Nat.le_of_ble_eq_true rfl) rfl rfl dX7_ran_26 (fun H locs hw => ?_)
    obtain ⟨σ2, eσ2, hF⟩ := rp_nm_e hF
    replace hw := rp_Wn eσ2 hw
    clear eσ2
    exact rp_retv (pc := 29) hC hw hF dX7_ran_29
theorem mX7_ran {l : Launch} {D : va_G} {cI cT : ClassId} {ad av a : Nat → Nat} (v1 : Int32) (σ : rp_St) (res : Int32 × rp_St) (hF : fX7_ran v1 σ = some res) : mM l D cI cT ad av a yX7_ran cX7_ran 2 none 1 [.ref (a 0), .int v1] σ (rp_Qv D a (mt cI cT ad a) 15 res) :=
  rp_entry (by decide) (Nat.le_of_ble_eq_true rfl) (fun p e s m below meth c ls hC hw hl => kX7_ran_0 hC v1 σ _ _ _ hF hw (lv_sub hl [0, 1] rfl))
def fX7_dancesOf_19 (v1 : Int32) (v2 : Int32) (σ : rp_St) : Option (Int32 × rp_St) :=
  rp_bd (fX7_ran 10 σ) (fun _ σ2 => (if v2 = 0 then some ((v1 + (σ2 0 18)), σ2) else some (((v1 + (σ2 0 18)) * 3), σ2)))
set_option maxRecDepth 100000 in
set_option maxHeartbeats 4000000 in
theorem kX7_dancesOf_19 {p : Program} {l : Launch} {e : Env} {s : State} {m : MethodId} {args : Array Value} {below : List Frame} {meth : Method} {c : Code} {D : va_G} {cI cT : ClassId} {ad av a : Nat → Nat} {res : Int32 × rp_St} (hC : mC p s m args meth c cX7_dancesOf 3 "RegretPegsModel" (some .int) D cI cT ad av a) (v1 : Int32) (v2 : Int32) (σ : rp_St) (H : Heap) (locs : List Loc) (ls : Array Slot) (hF : fX7_dancesOf_19 v1 v2 σ = some res) (hw : mW D cI cT ad av a s σ H locs) (hl : lv_has ls 3 [(0, .ref (a 0)), (1, .int v1), (2, .int v2)]) : W p l e (rp_rm 3) s m args below meth c H locs 0 0 (MQ below (rp_Qi D a (mt cI cT ad a) 15 res) args s 0 0 (rp_A a 15)) (F0 m 19 ls []) := by
  have hx := hC.1
  have hb := hC.2.1
  have hown := hC.2.2.2.1
  have hts := hC.2.2.2.2.1
  unfold fX7_dancesOf_19 at hF
  refine lv_aload_n (pc := 19) hx hb dX7_dancesOf_19 rfl (lv_at hl 0 rfl) ?_
  refine lv_bipush (pc := 20) (v := 10) hx hb dX7_dancesOf_20 (by decide) ?_
  obtain ⟨r1, σ2, hq, hF⟩ := rp_bd_e hF
  refine rp_kv (rp_runV (rest := []) hC (mE_ok _) hw hl.1 (mX7_ran (l := l) 10 σ _ hq) vw_X7_269 (by decide) (mt_obj _) rfl rfl rfl (Nat.le_of_ble_eq_true rfl) (by decide) dX7_dancesOf_22) hw (fun H locs hw => ?_)
  clear hq
  refine lv_iload_n (pc := 25) hx hb dX7_dancesOf_25 rfl (lv_at hl 2 rfl) ?_
  refine lv_if_eq (pc := 26) (tgt := 40) hx hb dX7_dancesOf_26 (by decide) (fun hc => ?_) (fun hc => ?_)
  · replace hF := rp_it hc hF
    refine lv_iload_n (pc := 40) hx hb dX7_dancesOf_40 rfl (lv_at hl 1 rfl) ?_
    refine lv_aload_n (pc := 41) hx hb dX7_dancesOf_41 rfl (lv_at hl 0 rfl) ?_
    refine rp_get (pc := 42) hC hw 0 (by decide) (mt_obj _) fl_X7_272 (.int (σ2 0 18)) rfl dX7_dancesOf_42 ?_
    refine lv_iadd (pc := 45) hx hb dX7_dancesOf_45 ?_
    exact rp_reti (pc := 46) hC hw hF dX7_dancesOf_46
  · replace hF := rp_if hc hF
    refine lv_iload_n (pc := 29) hx hb dX7_dancesOf_29 rfl (lv_at hl 1 rfl) ?_
    refine lv_aload_n (pc := 30) hx hb dX7_dancesOf_30 rfl (lv_at hl 0 rfl) ?_
    refine rp_get (pc := 31) hC hw 0 (by decide) (mt_obj _) fl_X7_272 (.int (σ2 0 18)) rfl dX7_dancesOf_31 ?_
    refine lv_iadd (pc := 34) hx hb dX7_dancesOf_34 ?_
    refine lv_iconst (pc := 35) (v := 3) hx hb dX7_dancesOf_35 (by decide) ?_
    refine lv_imul (pc := 36) hx hb dX7_dancesOf_36 ?_
    refine lv_goto (pc := 37) (tgt := 46) hx hb dX7_dancesOf_37 (by decide) ?_
    exact rp_reti (pc := 46) hC hw hF dX7_dancesOf_46
def fX7_dancesOf (v1 : Int32) (σ : rp_St) : Option (Int32 × rp_St) :=
  rp_bd (fX7_isUnder (σ 0 17) 1 σ) (fun r1 σ2 => (if r1 = 0 then fX7_dancesOf_19 v1 r1 σ2 else rp_bd (fX7_ran 20 σ2) (fun _ σ4 => fX7_dancesOf_19 v1 r1 σ4)))
set_option maxRecDepth 100000 in
set_option maxHeartbeats 4000000 in
theorem kX7_dancesOf_0 {p : Program} {l : Launch} {e : Env} {s : State} {m : MethodId} {args : Array Value} {below : List Frame} {meth : Method} {c : Code} {D : va_G} {cI cT : ClassId} {ad av a : Nat → Nat} {res : Int32 × rp_St} (hC : mC p s m args meth c cX7_dancesOf 3 "RegretPegsModel" (some .int) D cI cT ad av a) (v1 : Int32) (σ : rp_St) (H : Heap) (locs : List Loc) (ls : Array Slot) (hF : fX7_dancesOf v1 σ = some res) (hw : mW D cI cT ad av a s σ H locs) (hl : lv_has ls 3 [(0, .ref (a 0)), (1, .int v1)]) : W p l e (rp_rm 3) s m args below meth c H locs 0 0 (MQ below (rp_Qi D a (mt cI cT ad a) 15 res) args s 0 0 (rp_A a 15)) (F0 m 0 ls []) := by
  have hx := hC.1
  have hb := hC.2.1
  have hown := hC.2.2.2.1
  have hts := hC.2.2.2.2.1
  unfold fX7_dancesOf at hF
  refine lv_aload_n (pc := 0) hx hb dX7_dancesOf_0 rfl (lv_at hl 0 rfl) ?_
  refine rp_get (pc := 1) hC hw 0 (by decide) (mt_obj _) fl_X7_266 (.int (σ 0 17)) rfl dX7_dancesOf_1 ?_
  refine lv_iconst (pc := 4) (v := 1) hx hb dX7_dancesOf_4 (by decide) ?_
  obtain ⟨r1, σ2, hq, hF⟩ := rp_bd_e hF
  refine rp_ki (rp_runZ (rest := []) hC (mE_ok _) hw hl.1 (mX7_isUnder (l := l) (σ 0 17) 1 σ _ hq) zw_X7_192 rfl rfl (Nat.le_of_ble_eq_true rfl) (by decide) dX7_dancesOf_5) hw (fun H locs hw => ?_)
  clear hq
  refine lv_istore_n (pc := 8) (lv' := [(2, .int r1), (0, .ref (a 0)), (1, .int v1)]) hx hb dX7_dancesOf_8 rfl hl (by decide) rfl (fun ls hl => ?_)
  refine lv_iload_n (pc := 9) hx hb dX7_dancesOf_9 rfl (lv_at hl 0 rfl) ?_
  refine lv_if_eq (pc := 10) (tgt := 19) hx hb dX7_dancesOf_10 (by decide) (fun hc => ?_) (fun hc => ?_)
  · replace hF := rp_it hc hF
    exact kX7_dancesOf_19 hC v1 r1 σ2 _ _ _ hF hw (lv_sub hl [1, 2, 0] rfl)
  · replace hF := rp_if hc hF
    refine lv_aload_n (pc := 13) hx hb dX7_dancesOf_13 rfl (lv_at hl 1 rfl) ?_
    refine lv_bipush (pc := 14) (v := 20) hx hb dX7_dancesOf_14 (by decide) ?_
    obtain ⟨r3, σ4, hq, hF⟩ := rp_bd_e hF
    refine rp_kv (rp_runV (rest := []) hC (mE_ok _) hw hl.1 (mX7_ran (l := l) 20 σ2 _ hq) vw_X7_269 (by decide) (mt_obj _) rfl rfl rfl (Nat.le_of_ble_eq_true rfl) (by decide) dX7_dancesOf_16) hw (fun H locs hw => ?_)
    clear hq
    exact kX7_dancesOf_19 hC v1 r1 σ4 _ _ _ hF hw (lv_sub hl [1, 2, 0] rfl)
theorem mX7_dancesOf {l : Launch} {D : va_G} {cI cT : ClassId} {ad av a : Nat → Nat} (v1 : Int32) (σ : rp_St) (res : Int32 × rp_St) (hF : fX7_dancesOf v1 σ = some res) : mM l D cI cT ad av a yX7_dancesOf cX7_dancesOf 3 (some .int) 3 [.ref (a 0), .int v1] σ (rp_Qi D a (mt cI cT ad a) 15 res) :=
  rp_entry (by decide) (Nat.le_of_ble_eq_true rfl) (fun p e s m below meth c ls hC hw hl => kX7_dancesOf_0 hC v1 σ _ _ _ hF hw (lv_sub hl [0, 1] rfl))
def fX7_looksOf_60 (t0 : Int32) (σ : rp_St) : Option (Int32 × rp_St) :=
  (if (σ 0 17) = 6 then some ((t0 ^^^ (σ 0 18)), σ) else some (t0, σ))
set_option maxRecDepth 100000 in
set_option maxHeartbeats 4000000 in
theorem kX7_looksOf_60 {p : Program} {l : Launch} {e : Env} {s : State} {m : MethodId} {args : Array Value} {below : List Frame} {meth : Method} {c : Code} {D : va_G} {cI cT : ClassId} {ad av a : Nat → Nat} {res : Int32 × rp_St} (hC : mC p s m args meth c cX7_looksOf 4 "RegretPegsModel" (some .int) D cI cT ad av a) (t0 : Int32) (σ : rp_St) (H : Heap) (locs : List Loc) (ls : Array Slot) (hF : fX7_looksOf_60 t0 σ = some res) (hw : mW D cI cT ad av a s σ H locs) (hl : lv_has ls 4 [(0, .ref (a 0))]) : W p l e (rp_rm 3) s m args below meth c H locs 0 0 (MQ below (rp_Qi D a (mt cI cT ad a) 15 res) args s 0 0 (rp_A a 15)) (F0 m 60 ls [.int t0]) := by
  have hx := hC.1
  have hb := hC.2.1
  have hown := hC.2.2.2.1
  have hts := hC.2.2.2.2.1
  unfold fX7_looksOf_60 at hF
  refine lv_istore_n (pc := 60) (lv' := [(3, .int t0), (0, .ref (a 0))]) hx hb dX7_looksOf_60 rfl hl (by decide) rfl (fun ls hl => ?_)
  refine lv_aload_n (pc := 61) hx hb dX7_looksOf_61 rfl (lv_at hl 1 rfl) ?_
  refine rp_get (pc := 62) hC hw 0 (by decide) (mt_obj _) fl_X7_266 (.int (σ 0 17)) rfl dX7_looksOf_62 ?_
  refine lv_bipush (pc := 65) (v := 6) hx hb dX7_looksOf_65 (by decide) ?_
  refine lv_icmp_ne (pc := 67) (tgt := 79) hx hb dX7_looksOf_67 (by decide) (fun hc => ?_) (fun hc => ?_)
  · replace hF := rp_if hc hF
    refine lv_iload_n (pc := 79) hx hb dX7_looksOf_79 rfl (lv_at hl 0 rfl) ?_
    exact rp_reti (pc := 80) hC hw hF dX7_looksOf_80
  · replace hF := rp_it hc hF
    refine lv_iload_n (pc := 70) hx hb dX7_looksOf_70 rfl (lv_at hl 0 rfl) ?_
    refine lv_aload_n (pc := 71) hx hb dX7_looksOf_71 rfl (lv_at hl 1 rfl) ?_
    refine rp_get (pc := 72) hC hw 0 (by decide) (mt_obj _) fl_X7_272 (.int (σ 0 18)) rfl dX7_looksOf_72 ?_
    refine lv_ixor (pc := 75) hx hb dX7_looksOf_75 ?_
    refine lv_goto (pc := 76) (tgt := 80) hx hb dX7_looksOf_76 (by decide) ?_
    exact rp_reti (pc := 80) hC hw hF dX7_looksOf_80
def fX7_looksOf_34 (v1 : Int32) (v2 : Int32) (σ : rp_St) : Option (Int32 × rp_St) :=
  rp_bd (fX7_ran 12 σ) (fun _ σ2 => (if v2 = 0 then fX7_looksOf_60 (v1 - (σ2 0 19)) σ2 else fX7_looksOf_60 (-(v1 - (σ2 0 19))) σ2))
set_option maxRecDepth 100000 in
set_option maxHeartbeats 4000000 in
theorem kX7_looksOf_34 {p : Program} {l : Launch} {e : Env} {s : State} {m : MethodId} {args : Array Value} {below : List Frame} {meth : Method} {c : Code} {D : va_G} {cI cT : ClassId} {ad av a : Nat → Nat} {res : Int32 × rp_St} (hC : mC p s m args meth c cX7_looksOf 4 "RegretPegsModel" (some .int) D cI cT ad av a) (v1 : Int32) (v2 : Int32) (σ : rp_St) (H : Heap) (locs : List Loc) (ls : Array Slot) (hF : fX7_looksOf_34 v1 v2 σ = some res) (hw : mW D cI cT ad av a s σ H locs) (hl : lv_has ls 4 [(0, .ref (a 0)), (1, .int v1), (2, .int v2)]) : W p l e (rp_rm 3) s m args below meth c H locs 0 0 (MQ below (rp_Qi D a (mt cI cT ad a) 15 res) args s 0 0 (rp_A a 15)) (F0 m 34 ls []) := by
  have hx := hC.1
  have hb := hC.2.1
  have hown := hC.2.2.2.1
  have hts := hC.2.2.2.2.1
  unfold fX7_looksOf_34 at hF
  refine lv_aload_n (pc := 34) hx hb dX7_looksOf_34 rfl (lv_at hl 0 rfl) ?_
  refine lv_bipush (pc := 35) (v := 12) hx hb dX7_looksOf_35 (by decide) ?_
  obtain ⟨r1, σ2, hq, hF⟩ := rp_bd_e hF
  refine rp_kv (rp_runV (rest := []) hC (mE_ok _) hw hl.1 (mX7_ran (l := l) 12 σ _ hq) vw_X7_269 (by decide) (mt_obj _) rfl rfl rfl (Nat.le_of_ble_eq_true rfl) (by decide) dX7_looksOf_37) hw (fun H locs hw => ?_)
  clear hq
  refine lv_iload_n (pc := 40) hx hb dX7_looksOf_40 rfl (lv_at hl 2 rfl) ?_
  refine lv_if_eq (pc := 41) (tgt := 54) hx hb dX7_looksOf_41 (by decide) (fun hc => ?_) (fun hc => ?_)
  · replace hF := rp_it hc hF
    refine lv_iload_n (pc := 54) hx hb dX7_looksOf_54 rfl (lv_at hl 1 rfl) ?_
    refine lv_aload_n (pc := 55) hx hb dX7_looksOf_55 rfl (lv_at hl 0 rfl) ?_
    refine rp_get (pc := 56) hC hw 0 (by decide) (mt_obj _) fl_X7_281 (.int (σ2 0 19)) rfl dX7_looksOf_56 ?_
    refine lv_isub (pc := 59) hx hb dX7_looksOf_59 ?_
    exact kX7_looksOf_60 hC (v1 - (σ2 0 19)) σ2 _ _ _ hF hw (lv_sub hl [0] rfl)
  · replace hF := rp_if hc hF
    refine lv_iload_n (pc := 44) hx hb dX7_looksOf_44 rfl (lv_at hl 1 rfl) ?_
    refine lv_aload_n (pc := 45) hx hb dX7_looksOf_45 rfl (lv_at hl 0 rfl) ?_
    refine rp_get (pc := 46) hC hw 0 (by decide) (mt_obj _) fl_X7_281 (.int (σ2 0 19)) rfl dX7_looksOf_46 ?_
    refine lv_isub (pc := 49) hx hb dX7_looksOf_49 ?_
    refine lv_ineg (pc := 50) hx hb dX7_looksOf_50 ?_
    refine lv_goto (pc := 51) (tgt := 60) hx hb dX7_looksOf_51 (by decide) ?_
    exact kX7_looksOf_60 hC (-(v1 - (σ2 0 19))) σ2 _ _ _ hF hw (lv_sub hl [0] rfl)
def fX7_looksOf_15 (v1 : Int32) (σ : rp_St) : Option (Int32 × rp_St) :=
  rp_bd (fX7_isUnder (σ 0 17) 3 σ) (fun r1 σ2 => (if r1 = 0 then fX7_looksOf_34 v1 r1 σ2 else rp_bd (fX7_ran 40 σ2) (fun _ σ4 => fX7_looksOf_34 v1 r1 σ4)))
set_option maxRecDepth 100000 in
set_option maxHeartbeats 4000000 in
theorem kX7_looksOf_15 {p : Program} {l : Launch} {e : Env} {s : State} {m : MethodId} {args : Array Value} {below : List Frame} {meth : Method} {c : Code} {D : va_G} {cI cT : ClassId} {ad av a : Nat → Nat} {res : Int32 × rp_St} (hC : mC p s m args meth c cX7_looksOf 4 "RegretPegsModel" (some .int) D cI cT ad av a) (v1 : Int32) (σ : rp_St) (H : Heap) (locs : List Loc) (ls : Array Slot) (hF : fX7_looksOf_15 v1 σ = some res) (hw : mW D cI cT ad av a s σ H locs) (hl : lv_has ls 4 [(0, .ref (a 0)), (1, .int v1)]) : W p l e (rp_rm 3) s m args below meth c H locs 0 0 (MQ below (rp_Qi D a (mt cI cT ad a) 15 res) args s 0 0 (rp_A a 15)) (F0 m 15 ls []) := by
  have hx := hC.1
  have hb := hC.2.1
  have hown := hC.2.2.2.1
  have hts := hC.2.2.2.2.1
  unfold fX7_looksOf_15 at hF
  refine lv_aload_n (pc := 15) hx hb dX7_looksOf_15 rfl (lv_at hl 0 rfl) ?_
  refine rp_get (pc := 16) hC hw 0 (by decide) (mt_obj _) fl_X7_266 (.int (σ 0 17)) rfl dX7_looksOf_16 ?_
  refine lv_iconst (pc := 19) (v := 3) hx hb dX7_looksOf_19 (by decide) ?_
  obtain ⟨r1, σ2, hq, hF⟩ := rp_bd_e hF
  refine rp_ki (rp_runZ (rest := []) hC (mE_ok _) hw hl.1 (mX7_isUnder (l := l) (σ 0 17) 3 σ _ hq) zw_X7_192 rfl rfl (Nat.le_of_ble_eq_true rfl) (by decide) dX7_looksOf_20) hw (fun H locs hw => ?_)
  clear hq
  refine lv_istore_n (pc := 23) (lv' := [(2, .int r1), (0, .ref (a 0)), (1, .int v1)]) hx hb dX7_looksOf_23 rfl hl (by decide) rfl (fun ls hl => ?_)
  refine lv_iload_n (pc := 24) hx hb dX7_looksOf_24 rfl (lv_at hl 0 rfl) ?_
  refine lv_if_eq (pc := 25) (tgt := 34) hx hb dX7_looksOf_25 (by decide) (fun hc => ?_) (fun hc => ?_)
  · replace hF := rp_it hc hF
    exact kX7_looksOf_34 hC v1 r1 σ2 _ _ _ hF hw (lv_sub hl [1, 2, 0] rfl)
  · replace hF := rp_if hc hF
    refine lv_aload_n (pc := 28) hx hb dX7_looksOf_28 rfl (lv_at hl 1 rfl) ?_
    refine lv_bipush (pc := 29) (v := 40) hx hb dX7_looksOf_29 (by decide) ?_
    obtain ⟨r3, σ4, hq, hF⟩ := rp_bd_e hF
    refine rp_kv (rp_runV (rest := []) hC (mE_ok _) hw hl.1 (mX7_ran (l := l) 40 σ2 _ hq) vw_X7_269 (by decide) (mt_obj _) rfl rfl rfl (Nat.le_of_ble_eq_true rfl) (by decide) dX7_looksOf_31) hw (fun H locs hw => ?_)
    clear hq
    exact kX7_looksOf_34 hC v1 r1 σ4 _ _ _ hF hw (lv_sub hl [1, 2, 0] rfl)
def fX7_looksOf (v1 : Int32) (σ : rp_St) : Option (Int32 × rp_St) :=
  (if (σ 0 17) = 6 then rp_bd (fX7_ran 70 σ) (fun _ σ2 => fX7_looksOf_15 v1 σ2) else fX7_looksOf_15 v1 σ)
set_option maxRecDepth 100000 in
set_option maxHeartbeats 4000000 in
theorem kX7_looksOf_0 {p : Program} {l : Launch} {e : Env} {s : State} {m : MethodId} {args : Array Value} {below : List Frame} {meth : Method} {c : Code} {D : va_G} {cI cT : ClassId} {ad av a : Nat → Nat} {res : Int32 × rp_St} (hC : mC p s m args meth c cX7_looksOf 4 "RegretPegsModel" (some .int) D cI cT ad av a) (v1 : Int32) (σ : rp_St) (H : Heap) (locs : List Loc) (ls : Array Slot) (hF : fX7_looksOf v1 σ = some res) (hw : mW D cI cT ad av a s σ H locs) (hl : lv_has ls 4 [(0, .ref (a 0)), (1, .int v1)]) : W p l e (rp_rm 3) s m args below meth c H locs 0 0 (MQ below (rp_Qi D a (mt cI cT ad a) 15 res) args s 0 0 (rp_A a 15)) (F0 m 0 ls []) := by
  have hx := hC.1
  have hb := hC.2.1
  have hown := hC.2.2.2.1
  have hts := hC.2.2.2.2.1
  unfold fX7_looksOf at hF
  refine lv_aload_n (pc := 0) hx hb dX7_looksOf_0 rfl (lv_at hl 0 rfl) ?_
  refine rp_get (pc := 1) hC hw 0 (by decide) (mt_obj _) fl_X7_266 (.int (σ 0 17)) rfl dX7_looksOf_1 ?_
  refine lv_bipush (pc := 4) (v := 6) hx hb dX7_looksOf_4 (by decide) ?_
  refine lv_icmp_ne (pc := 6) (tgt := 15) hx hb dX7_looksOf_6 (by decide) (fun hc => ?_) (fun hc => ?_)
  · replace hF := rp_if hc hF
    exact kX7_looksOf_15 hC v1 σ _ _ _ hF hw (lv_sub hl [0, 1] rfl)
  · replace hF := rp_it hc hF
    refine lv_aload_n (pc := 9) hx hb dX7_looksOf_9 rfl (lv_at hl 0 rfl) ?_
    refine lv_bipush (pc := 10) (v := 70) hx hb dX7_looksOf_10 (by decide) ?_
    obtain ⟨r1, σ2, hq, hF⟩ := rp_bd_e hF
    refine rp_kv (rp_runV (rest := []) hC (mE_ok _) hw hl.1 (mX7_ran (l := l) 70 σ _ hq) vw_X7_269 (by decide) (mt_obj _) rfl rfl rfl (Nat.le_of_ble_eq_true rfl) (by decide) dX7_looksOf_12) hw (fun H locs hw => ?_)
    clear hq
    exact kX7_looksOf_15 hC v1 σ2 _ _ _ hF hw (lv_sub hl [0, 1] rfl)
theorem mX7_looksOf {l : Launch} {D : va_G} {cI cT : ClassId} {ad av a : Nat → Nat} (v1 : Int32) (σ : rp_St) (res : Int32 × rp_St) (hF : fX7_looksOf v1 σ = some res) : mM l D cI cT ad av a yX7_looksOf cX7_looksOf 4 (some .int) 3 [.ref (a 0), .int v1] σ (rp_Qi D a (mt cI cT ad a) 15 res) :=
  rp_entry (by decide) (Nat.le_of_ble_eq_true rfl) (fun p e s m below meth c ls hC hw hl => kX7_looksOf_0 hC v1 σ _ _ _ hF hw (lv_sub hl [0, 1] rfl))
