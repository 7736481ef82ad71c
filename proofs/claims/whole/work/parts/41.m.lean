def fX7_either_4 (rc0 : rp_St → Option (Int32 × rp_St)) (rc1 : rp_St → Option (Int32 × rp_St)) (rc2 : rp_St → Option (Int32 × rp_St)) (rc3 : rp_St → Option (Int32 × rp_St)) (rc4 : rp_St → Option (Int32 × rp_St)) (rc5 : rp_St → Option (Int32 × rp_St)) (k4 : rp_St → Option (Int32 × rp_St)) (σ : rp_St) : Option (Int32 × rp_St) :=
  rp_bd (fX7_takes 124 σ) (fun r1 σ2 => (if r1 = 0 then some (0, σ2) else rp_bd (rc1 σ2) (fun _ σ4 => rp_bd (fX7_codes 20000 σ4) (fun _ σ6 => k4 σ6))))
set_option maxRecDepth 100000 in
set_option maxHeartbeats 4000000 in
theorem kX7_either_4 {p : Program} {l : Launch} {e : Env} {s : State} {m : MethodId} {args : Array Value} {below : List Frame} {meth : Method} {c : Code} {D : va_G} {cI cT : ClassId} {ad av a : Nat → Nat} {res : Int32 × rp_St} (dd : Nat) (rc0 : rp_St → Option (Int32 × rp_St)) (hrc0 : ∀  (σ : rp_St) (res : Int32 × rp_St), rc0 σ = some res → mM l D cI cT ad av a yX7_either cX7_either 1 none (5 + dd) [.ref (a 0)] σ (rp_Qv D a (mt cI cT ad a) 15 res)) (rc1 : rp_St → Option (Int32 × rp_St)) (hrc1 : ∀  (σ : rp_St) (res : Int32 × rp_St), rc1 σ = some res → mM l D cI cT ad av a yX7_both cX7_both 1 none (5 + dd) [.ref (a 0)] σ (rp_Qv D a (mt cI cT ad a) 15 res)) (rc2 : rp_St → Option (Int32 × rp_St)) (hrc2 : ∀  (σ : rp_St) (res : Int32 × rp_St), rc2 σ = some res → mM l D cI cT ad av a yX7_compared cX7_compared 2 none (5 + dd) [.ref (a 0)] σ (rp_Qv D a (mt cI cT ad a) 15 res)) (rc3 : rp_St → Option (Int32 × rp_St)) (hrc3 : ∀  (σ : rp_St) (res : Int32 × rp_St), rc3 σ = some res → mM l D cI cT ad av a yX7_sum cX7_sum 2 none (5 + dd) [.ref (a 0)] σ (rp_Qv D a (mt cI cT ad a) 15 res)) (rc4 : rp_St → Option (Int32 × rp_St)) (hrc4 : ∀  (σ : rp_St) (res : Int32 × rp_St), rc4 σ = some res → mM l D cI cT ad av a yX7_product cX7_product 2 none (5 + dd) [.ref (a 0)] σ (rp_Qv D a (mt cI cT ad a) 15 res)) (rc5 : rp_St → Option (Int32 × rp_St)) (hrc5 : ∀  (σ : rp_St) (res : Int32 × rp_St), rc5 σ = some res → mM l D cI cT ad av a yX7_one cX7_one 4 none (5 + dd) [.ref (a 0)] σ (rp_Qv D a (mt cI cT ad a) 15 res)) (hC : mC p s m args meth c cX7_either 1 "RegretPegsModel" none D cI cT ad av a) (k4 : rp_St → Option (Int32 × rp_St)) (hk4 : ∀  (σ : rp_St) (H : Heap) (locs : List Loc) (ls : Array Slot), k4 σ = some res → mW D cI cT ad av a s σ H locs → lv_has ls 1 [(0, .ref (a 0))] → W p l e (rp_rm (5 + (dd + 1))) s m args below meth c H locs 0 0 (MQ below (rp_Qv D a (mt cI cT ad a) 15 res) args s 0 0 (rp_A a 15)) (F0 m 4 ls [])) (σ : rp_St) (H : Heap) (locs : List Loc) (ls : Array Slot) (hF : fX7_either_4 rc0 rc1 rc2 rc3 rc4 rc5 k4 σ = some res) (hw : mW D cI cT ad av a s σ H locs) (hl : lv_has ls 1 [(0, .ref (a 0))]) : W p l e (rp_rm (5 + (dd + 1))) s m args below meth c H locs 0 0 (MQ below (rp_Qv D a (mt cI cT ad a) 15 res) args s 0 0 (rp_A a 15)) (F0 m 4 ls []) := by
  have hx := hC.1
  have hb := hC.2.1
  have hown := hC.2.2.2.1
  have hts := hC.2.2.2.2.1
  unfold fX7_either_4 at hF
  refine lv_aload_n (pc := 4) hx hb dX7_either_4 rfl (lv_at hl 0 rfl) ?_
  refine lv_bipush (pc := 5) (v := 124) hx hb dX7_either_5 (by decide) ?_
  obtain ⟨r1, σ2, hq, hF⟩ := rp_bd_e hF
  refine rp_ki (rp_runV (rest := []) hC (mE_ok _) hw hl.1 (mX7_takes (l := l) 124 σ _ hq) vw_X7_103 (by decide) (mt_obj _) rfl rfl rfl (Nat.le_of_ble_eq_true rfl) (by omega) dX7_either_7) hw (fun H locs hw => ?_)
  clear hq
  refine lv_if_eq (pc := 10) (tgt := 27) hx hb dX7_either_10 (by decide) (fun hc => ?_) (fun hc => ?_)
  · replace hF := rp_it hc hF
    exact rp_retv (pc := 27) hC hw hF dX7_either_27
  · replace hF := rp_if hc hF
    refine lv_aload_n (pc := 13) hx hb dX7_either_13 rfl (lv_at hl 0 rfl) ?_
    obtain ⟨r3, σ4, hq, hF⟩ := rp_bd_e hF
    refine rp_kv (rp_runV (rest := []) hC (mE_ok _) hw hl.1 (hrc1 σ2 _ hq) vw_X7_100 (by decide) (mt_obj _) rfl rfl rfl (Nat.le_of_ble_eq_true rfl) (by omega) dX7_either_14) hw (fun H locs hw => ?_)
    clear hq
    refine lv_aload_n (pc := 17) hx hb dX7_either_17 rfl (lv_at hl 0 rfl) ?_
    refine lv_sipush (pc := 18) (v := 20000) hx hb dX7_either_18 (by decide) ?_
    obtain ⟨r5, σ6, hq, hF⟩ := rp_bd_e hF
    refine rp_kv (rp_runV (rest := []) hC (mE_ok _) hw hl.1 (mX7_codes (l := l) 20000 σ4 _ hq) vw_X7_107 (by decide) (mt_obj _) rfl rfl rfl (Nat.le_of_ble_eq_true rfl) (by omega) dX7_either_21) hw (fun H locs hw => ?_)
    clear hq
    refine lv_goto (pc := 24) (tgt := 4) hx hb dX7_either_24 (by decide) ?_
    exact hk4 σ6 _ _ _ hF hw (lv_sub hl [0] rfl)
theorem lX7_either_4 {p : Program} {l : Launch} {e : Env} {s : State} {m : MethodId} {args : Array Value} {below : List Frame} {meth : Method} {c : Code} {D : va_G} {cI cT : ClassId} {ad av a : Nat → Nat} {res : Int32 × rp_St} (dd : Nat) (rc0 : rp_St → Option (Int32 × rp_St)) (hrc0 : ∀  (σ : rp_St) (res : Int32 × rp_St), rc0 σ = some res → mM l D cI cT ad av a yX7_either cX7_either 1 none (5 + dd) [.ref (a 0)] σ (rp_Qv D a (mt cI cT ad a) 15 res)) (rc1 : rp_St → Option (Int32 × rp_St)) (hrc1 : ∀  (σ : rp_St) (res : Int32 × rp_St), rc1 σ = some res → mM l D cI cT ad av a yX7_both cX7_both 1 none (5 + dd) [.ref (a 0)] σ (rp_Qv D a (mt cI cT ad a) 15 res)) (rc2 : rp_St → Option (Int32 × rp_St)) (hrc2 : ∀  (σ : rp_St) (res : Int32 × rp_St), rc2 σ = some res → mM l D cI cT ad av a yX7_compared cX7_compared 2 none (5 + dd) [.ref (a 0)] σ (rp_Qv D a (mt cI cT ad a) 15 res)) (rc3 : rp_St → Option (Int32 × rp_St)) (hrc3 : ∀  (σ : rp_St) (res : Int32 × rp_St), rc3 σ = some res → mM l D cI cT ad av a yX7_sum cX7_sum 2 none (5 + dd) [.ref (a 0)] σ (rp_Qv D a (mt cI cT ad a) 15 res)) (rc4 : rp_St → Option (Int32 × rp_St)) (hrc4 : ∀  (σ : rp_St) (res : Int32 × rp_St), rc4 σ = some res → mM l D cI cT ad av a yX7_product cX7_product 2 none (5 + dd) [.ref (a 0)] σ (rp_Qv D a (mt cI cT ad a) 15 res)) (rc5 : rp_St → Option (Int32 × rp_St)) (hrc5 : ∀  (σ : rp_St) (res : Int32 × rp_St), rc5 σ = some res → mM l D cI cT ad av a yX7_one cX7_one 4 none (5 + dd) [.ref (a 0)] σ (rp_Qv D a (mt cI cT ad a) 15 res)) (hC : mC p s m args meth c cX7_either 1 "RegretPegsModel" none D cI cT ad av a) : ∀ (n : Nat) (σ : rp_St) (H : Heap) (locs : List Loc) (ls : Array Slot), rp_lp (fun _ => none) (fX7_either_4 rc0 rc1 rc2 rc3 rc4 rc5) n σ = some res → mW D cI cT ad av a s σ H locs → lv_has ls 1 [(0, .ref (a 0))] → W p l e (rp_rm (5 + (dd + 1))) s m args below meth c H locs 0 0 (MQ below (rp_Qv D a (mt cI cT ad a) 15 res) args s 0 0 (rp_A a 15)) (F0 m 4 ls [])
  | 0, _, _, _, _, hF, _, _ => nomatch hF
  | n + 1, σ, H, locs, ls, hF, hw, hl => kX7_either_4 dd rc0 hrc0 rc1 hrc1 rc2 hrc2 rc3 hrc3 rc4 hrc4 rc5 hrc5 hC (rp_lp (fun _ => none) (fX7_either_4 rc0 rc1 rc2 rc3 rc4 rc5) n) (lX7_either_4 dd rc0 hrc0 rc1 hrc1 rc2 hrc2 rc3 hrc3 rc4 hrc4 rc5 hrc5 hC n) σ H locs ls hF hw hl
def fX7_either (rc0 : rp_St → Option (Int32 × rp_St)) (rc1 : rp_St → Option (Int32 × rp_St)) (rc2 : rp_St → Option (Int32 × rp_St)) (rc3 : rp_St → Option (Int32 × rp_St)) (rc4 : rp_St → Option (Int32 × rp_St)) (rc5 : rp_St → Option (Int32 × rp_St)) (σ : rp_St) : Option (Int32 × rp_St) :=
  rp_bd (rc1 σ) (fun _ σ2 => rp_lp (fun _ => none) (fX7_either_4 rc0 rc1 rc2 rc3 rc4 rc5) 300 σ2)
set_option maxRecDepth 100000 in
set_option maxHeartbeats 4000000 in
theorem kX7_either_0 {p : Program} {l : Launch} {e : Env} {s : State} {m : MethodId} {args : Array Value} {below : List Frame} {meth : Method} {c : Code} {D : va_G} {cI cT : ClassId} {ad av a : Nat → Nat} {res : Int32 × rp_St} (dd : Nat) (rc0 : rp_St → Option (Int32 × rp_St)) (hrc0 : ∀  (σ : rp_St) (res : Int32 × rp_St), rc0 σ = some res → mM l D cI cT ad av a yX7_either cX7_either 1 none (5 + dd) [.ref (a 0)] σ (rp_Qv D a (mt cI cT ad a) 15 res)) (rc1 : rp_St → Option (Int32 × rp_St)) (hrc1 : ∀  (σ : rp_St) (res : Int32 × rp_St), rc1 σ = some res → mM l D cI cT ad av a yX7_both cX7_both 1 none (5 + dd) [.ref (a 0)] σ (rp_Qv D a (mt cI cT ad a) 15 res)) (rc2 : rp_St → Option (Int32 × rp_St)) (hrc2 : ∀  (σ : rp_St) (res : Int32 × rp_St), rc2 σ = some res → mM l D cI cT ad av a yX7_compared cX7_compared 2 none (5 + dd) [.ref (a 0)] σ (rp_Qv D a (mt cI cT ad a) 15 res)) (rc3 : rp_St → Option (Int32 × rp_St)) (hrc3 : ∀  (σ : rp_St) (res : Int32 × rp_St), rc3 σ = some res → mM l D cI cT ad av a yX7_sum cX7_sum 2 none (5 + dd) [.ref (a 0)] σ (rp_Qv D a (mt cI cT ad a) 15 res)) (rc4 : rp_St → Option (Int32 × rp_St)) (hrc4 : ∀  (σ : rp_St) (res : Int32 × rp_St), rc4 σ = some res → mM l D cI cT ad av a yX7_product cX7_product 2 none (5 + dd) [.ref (a 0)] σ (rp_Qv D a (mt cI cT ad a) 15 res)) (rc5 : rp_St → Option (Int32 × rp_St)) (hrc5 : ∀  (σ : rp_St) (res : Int32 × rp_St), rc5 σ = some res → mM l D cI cT ad av a yX7_one cX7_one 4 none (5 + dd) [.ref (a 0)] σ (rp_Qv D a (mt cI cT ad a) 15 res)) (hC : mC p s m args meth c cX7_either 1 "RegretPegsModel" none D cI cT ad av a) (σ : rp_St) (H : Heap) (locs : List Loc) (ls : Array Slot) (hF : fX7_either rc0 rc1 rc2 rc3 rc4 rc5 σ = some res) (hw : mW D cI cT ad av a s σ H locs) (hl : lv_has ls 1 [(0, .ref (a 0))]) : W p l e (rp_rm (5 + (dd + 1))) s m args below meth c H locs 0 0 (MQ below (rp_Qv D a (mt cI cT ad a) 15 res) args s 0 0 (rp_A a 15)) (F0 m 0 ls []) := by
  have hx := hC.1
  have hb := hC.2.1
  have hown := hC.2.2.2.1
  have hts := hC.2.2.2.2.1
  unfold fX7_either at hF
  refine lv_aload_n (pc := 0) hx hb dX7_either_0 rfl (lv_at hl 0 rfl) ?_
  obtain ⟨r1, σ2, hq, hF⟩ := rp_bd_e hF
  refine rp_kv (rp_runV (rest := []) hC (mE_ok _) hw hl.1 (hrc1 σ _ hq) vw_X7_100 (by decide) (mt_obj _) rfl rfl rfl (Nat.le_of_ble_eq_true rfl) (by omega) dX7_either_1) hw (fun H locs hw => ?_)
  clear hq
  exact lX7_either_4 dd rc0 hrc0 rc1 hrc1 rc2 hrc2 rc3 hrc3 rc4 hrc4 rc5 hrc5 hC 300 σ2 _ _ _ hF hw (lv_sub hl [0] rfl)
def fX7_both_4 (rc0 : rp_St → Option (Int32 × rp_St)) (rc1 : rp_St → Option (Int32 × rp_St)) (rc2 : rp_St → Option (Int32 × rp_St)) (rc3 : rp_St → Option (Int32 × rp_St)) (rc4 : rp_St → Option (Int32 × rp_St)) (rc5 : rp_St → Option (Int32 × rp_St)) (k4 : rp_St → Option (Int32 × rp_St)) (σ : rp_St) : Option (Int32 × rp_St) :=
  rp_bd (fX7_takes 38 σ) (fun r1 σ2 => (if r1 = 0 then some (0, σ2) else rp_bd (rc2 σ2) (fun _ σ4 => rp_bd (fX7_codes 20001 σ4) (fun _ σ6 => k4 σ6))))
set_option maxRecDepth 100000 in
set_option maxHeartbeats 4000000 in
theorem kX7_both_4 {p : Program} {l : Launch} {e : Env} {s : State} {m : MethodId} {args : Array Value} {below : List Frame} {meth : Method} {c : Code} {D : va_G} {cI cT : ClassId} {ad av a : Nat → Nat} {res : Int32 × rp_St} (dd : Nat) (rc0 : rp_St → Option (Int32 × rp_St)) (hrc0 : ∀  (σ : rp_St) (res : Int32 × rp_St), rc0 σ = some res → mM l D cI cT ad av a yX7_either cX7_either 1 none (5 + dd) [.ref (a 0)] σ (rp_Qv D a (mt cI cT ad a) 15 res)) (rc1 : rp_St → Option (Int32 × rp_St)) (hrc1 : ∀  (σ : rp_St) (res : Int32 × rp_St), rc1 σ = some res → mM l D cI cT ad av a yX7_both cX7_both 1 none (5 + dd) [.ref (a 0)] σ (rp_Qv D a (mt cI cT ad a) 15 res)) (rc2 : rp_St → Option (Int32 × rp_St)) (hrc2 : ∀  (σ : rp_St) (res : Int32 × rp_St), rc2 σ = some res → mM l D cI cT ad av a yX7_compared cX7_compared 2 none (5 + dd) [.ref (a 0)] σ (rp_Qv D a (mt cI cT ad a) 15 res)) (rc3 : rp_St → Option (Int32 × rp_St)) (hrc3 : ∀  (σ : rp_St) (res : Int32 × rp_St), rc3 σ = some res → mM l D cI cT ad av a yX7_sum cX7_sum 2 none (5 + dd) [.ref (a 0)] σ (rp_Qv D a (mt cI cT ad a) 15 res)) (rc4 : rp_St → Option (Int32 × rp_St)) (hrc4 : ∀  (σ : rp_St) (res : Int32 × rp_St), rc4 σ = some res → mM l D cI cT ad av a yX7_product cX7_product 2 none (5 + dd) [.ref (a 0)] σ (rp_Qv D a (mt cI cT ad a) 15 res)) (rc5 : rp_St → Option (Int32 × rp_St)) (hrc5 : ∀  (σ : rp_St) (res : Int32 × rp_St), rc5 σ = some res → mM l D cI cT ad av a yX7_one cX7_one 4 none (5 + dd) [.ref (a 0)] σ (rp_Qv D a (mt cI cT ad a) 15 res)) (hC : mC p s m args meth c cX7_both 1 "RegretPegsModel" none D cI cT ad av a) (k4 : rp_St → Option (Int32 × rp_St)) (hk4 : ∀  (σ : rp_St) (H : Heap) (locs : List Loc) (ls : Array Slot), k4 σ = some res → mW D cI cT ad av a s σ H locs → lv_has ls 1 [(0, .ref (a 0))] → W p l e (rp_rm (5 + (dd + 1))) s m args below meth c H locs 0 0 (MQ below (rp_Qv D a (mt cI cT ad a) 15 res) args s 0 0 (rp_A a 15)) (F0 m 4 ls [])) (σ : rp_St) (H : Heap) (locs : List Loc) (ls : Array Slot) (hF : fX7_both_4 rc0 rc1 rc2 rc3 rc4 rc5 k4 σ = some res) (hw : mW D cI cT ad av a s σ H locs) (hl : lv_has ls 1 [(0, .ref (a 0))]) : W p l e (rp_rm (5 + (dd + 1))) s m args below meth c H locs 0 0 (MQ below (rp_Qv D a (mt cI cT ad a) 15 res) args s 0 0 (rp_A a 15)) (F0 m 4 ls []) := by
  have hx := hC.1
  have hb := hC.2.1
  have hown := hC.2.2.2.1
  have hts := hC.2.2.2.2.1
  unfold fX7_both_4 at hF
  refine lv_aload_n (pc := 4) hx hb dX7_both_4 rfl (lv_at hl 0 rfl) ?_
  refine lv_bipush (pc := 5) (v := 38) hx hb dX7_both_5 (by decide) ?_
  obtain ⟨r1, σ2, hq, hF⟩ := rp_bd_e hF
  refine rp_ki (rp_runV (rest := []) hC (mE_ok _) hw hl.1 (mX7_takes (l := l) 38 σ _ hq) vw_X7_103 (by decide) (mt_obj _) rfl rfl rfl (Nat.le_of_ble_eq_true rfl) (by omega) dX7_both_7) hw (fun H locs hw => ?_)
  clear hq
  refine lv_if_eq (pc := 10) (tgt := 27) hx hb dX7_both_10 (by decide) (fun hc => ?_) (fun hc => ?_)
  · replace hF := rp_it hc hF
    exact rp_retv (pc := 27) hC hw hF dX7_both_27
  · replace hF := rp_if hc hF
    refine lv_aload_n (pc := 13) hx hb dX7_both_13 rfl (lv_at hl 0 rfl) ?_
    obtain ⟨r3, σ4, hq, hF⟩ := rp_bd_e hF
    refine rp_kv (rp_runV (rest := []) hC (mE_ok _) hw hl.1 (hrc2 σ2 _ hq) vw_X7_111 (by decide) (mt_obj _) rfl rfl rfl (Nat.le_of_ble_eq_true rfl) (by omega) dX7_both_14) hw (fun H locs hw => ?_)
    clear hq
    refine lv_aload_n (pc := 17) hx hb dX7_both_17 rfl (lv_at hl 0 rfl) ?_
    refine lv_sipush (pc := 18) (v := 20001) hx hb dX7_both_18 (by decide) ?_
    obtain ⟨r5, σ6, hq, hF⟩ := rp_bd_e hF
    refine rp_kv (rp_runV (rest := []) hC (mE_ok _) hw hl.1 (mX7_codes (l := l) 20001 σ4 _ hq) vw_X7_107 (by decide) (mt_obj _) rfl rfl rfl (Nat.le_of_ble_eq_true rfl) (by omega) dX7_both_21) hw (fun H locs hw => ?_)
    clear hq
    refine lv_goto (pc := 24) (tgt := 4) hx hb dX7_both_24 (by decide) ?_
    exact hk4 σ6 _ _ _ hF hw (lv_sub hl [0] rfl)
theorem lX7_both_4 {p : Program} {l : Launch} {e : Env} {s : State} {m : MethodId} {args : Array Value} {below : List Frame} {meth : Method} {c : Code} {D : va_G} {cI cT : ClassId} {ad av a : Nat → Nat} {res : Int32 × rp_St} (dd : Nat) (rc0 : rp_St → Option (Int32 × rp_St)) (hrc0 : ∀  (σ : rp_St) (res : Int32 × rp_St), rc0 σ = some res → mM l D cI cT ad av a yX7_either cX7_either 1 none (5 + dd) [.ref (a 0)] σ (rp_Qv D a (mt cI cT ad a) 15 res)) (rc1 : rp_St → Option (Int32 × rp_St)) (hrc1 : ∀  (σ : rp_St) (res : Int32 × rp_St), rc1 σ = some res → mM l D cI cT ad av a yX7_both cX7_both 1 none (5 + dd) [.ref (a 0)] σ (rp_Qv D a (mt cI cT ad a) 15 res)) (rc2 : rp_St → Option (Int32 × rp_St)) (hrc2 : ∀  (σ : rp_St) (res : Int32 × rp_St), rc2 σ = some res → mM l D cI cT ad av a yX7_compared cX7_compared 2 none (5 + dd) [.ref (a 0)] σ (rp_Qv D a (mt cI cT ad a) 15 res)) (rc3 : rp_St → Option (Int32 × rp_St)) (hrc3 : ∀  (σ : rp_St) (res : Int32 × rp_St), rc3 σ = some res → mM l D cI cT ad av a yX7_sum cX7_sum 2 none (5 + dd) [.ref (a 0)] σ (rp_Qv D a (mt cI cT ad a) 15 res)) (rc4 : rp_St → Option (Int32 × rp_St)) (hrc4 : ∀  (σ : rp_St) (res : Int32 × rp_St), rc4 σ = some res → mM l D cI cT ad av a yX7_product cX7_product 2 none (5 + dd) [.ref (a 0)] σ (rp_Qv D a (mt cI cT ad a) 15 res)) (rc5 : rp_St → Option (Int32 × rp_St)) (hrc5 : ∀  (σ : rp_St) (res : Int32 × rp_St), rc5 σ = some res → mM l D cI cT ad av a yX7_one cX7_one 4 none (5 + dd) [.ref (a 0)] σ (rp_Qv D a (mt cI cT ad a) 15 res)) (hC : mC p s m args meth c cX7_both 1 "RegretPegsModel" none D cI cT ad av a) : ∀ (n : Nat) (σ : rp_St) (H : Heap) (locs : List Loc) (ls : Array Slot), rp_lp (fun _ => none) (fX7_both_4 rc0 rc1 rc2 rc3 rc4 rc5) n σ = some res → mW D cI cT ad av a s σ H locs → lv_has ls 1 [(0, .ref (a 0))] → W p l e (rp_rm (5 + (dd + 1))) s m args below meth c H locs 0 0 (MQ below (rp_Qv D a (mt cI cT ad a) 15 res) args s 0 0 (rp_A a 15)) (F0 m 4 ls [])
  | 0, _, _, _, _, hF, _, _ => nomatch hF
  | n + 1, σ, H, locs, ls, hF, hw, hl => kX7_both_4 dd rc0 hrc0 rc1 hrc1 rc2 hrc2 rc3 hrc3 rc4 hrc4 rc5 hrc5 hC (rp_lp (fun _ => none) (fX7_both_4 rc0 rc1 rc2 rc3 rc4 rc5) n) (lX7_both_4 dd rc0 hrc0 rc1 hrc1 rc2 hrc2 rc3 hrc3 rc4 hrc4 rc5 hrc5 hC n) σ H locs ls hF hw hl
def fX7_both (rc0 : rp_St → Option (Int32 × rp_St)) (rc1 : rp_St → Option (Int32 × rp_St)) (rc2 : rp_St → Option (Int32 × rp_St)) (rc3 : rp_St → Option (Int32 × rp_St)) (rc4 : rp_St → Option (Int32 × rp_St)) (rc5 : rp_St → Option (Int32 × rp_St)) (σ : rp_St) : Option (Int32 × rp_St) :=
  rp_bd (rc2 σ) (fun _ σ2 => rp_lp (fun _ => none) (fX7_both_4 rc0 rc1 rc2 rc3 rc4 rc5) 300 σ2)
set_option maxRecDepth 100000 in
set_option maxHeartbeats 4000000 in
theorem kX7_both_0 {p : Program} {l : Launch} {e : Env} {s : State} {m : MethodId} {args : Array Value} {below : List Frame} {meth : Method} {c : Code} {D : va_G} {cI cT : ClassId} {ad av a : Nat → Nat} {res : Int32 × rp_St} (dd : Nat) (rc0 : rp_St → Option (Int32 × rp_St)) (hrc0 : ∀  (σ : rp_St) (res : Int32 × rp_St), rc0 σ = some res → mM l D cI cT ad av a yX7_either cX7_either 1 none (5 + dd) [.ref (a 0)] σ (rp_Qv D a (mt cI cT ad a) 15 res)) (rc1 : rp_St → Option (Int32 × rp_St)) (hrc1 : ∀  (σ : rp_St) (res : Int32 × rp_St), rc1 σ = some res → mM l D cI cT ad av a yX7_both cX7_both 1 none (5 + dd) [.ref (a 0)] σ (rp_Qv D a (mt cI cT ad a) 15 res)) (rc2 : rp_St → Option (Int32 × rp_St)) (hrc2 : ∀  (σ : rp_St) (res : Int32 × rp_St), rc2 σ = some res → mM l D cI cT ad av a yX7_compared cX7_compared 2 none (5 + dd) [.ref (a 0)] σ (rp_Qv D a (mt cI cT ad a) 15 res)) (rc3 : rp_St → Option (Int32 × rp_St)) (hrc3 : ∀  (σ : rp_St) (res : Int32 × rp_St), rc3 σ = some res → mM l D cI cT ad av a yX7_sum cX7_sum 2 none (5 + dd) [.ref (a 0)] σ (rp_Qv D a (mt cI cT ad a) 15 res)) (rc4 : rp_St → Option (Int32 × rp_St)) (hrc4 : ∀  (σ : rp_St) (res : Int32 × rp_St), rc4 σ = some res → mM l D cI cT ad av a yX7_product cX7_product 2 none (5 + dd) [.ref (a 0)] σ (rp_Qv D a (mt cI cT ad a) 15 res)) (rc5 : rp_St → Option (Int32 × rp_St)) (hrc5 : ∀  (σ : rp_St) (res : Int32 × rp_St), rc5 σ = some res → mM l D cI cT ad av a yX7_one cX7_one 4 none (5 + dd) [.ref (a 0)] σ (rp_Qv D a (mt cI cT ad a) 15 res)) (hC : mC p s m args meth c cX7_both 1 "RegretPegsModel" none D cI cT ad av a) (σ : rp_St) (H : Heap) (locs : List Loc) (ls : Array Slot) (hF : fX7_both rc0 rc1 rc2 rc3 rc4 rc5 σ = some res) (hw : mW D cI cT ad av a s σ H locs) (hl : lv_has ls 1 [(0, .ref (a 0))]) : W p l e (rp_rm (5 + (dd + 1))) s m args below meth c H locs 0 0 (MQ below (rp_Qv D a (mt cI cT ad a) 15 res) args s 0 0 (rp_A a 15)) (F0 m 0 ls []) := by
  have hx := hC.1
  have hb := hC.2.1
  have hown := hC.2.2.2.1
  have hts := hC.2.2.2.2.1
  unfold fX7_both at hF
  refine lv_aload_n (pc := 0) hx hb dX7_both_0 rfl (lv_at hl 0 rfl) ?_
  obtain ⟨r1, σ2, hq, hF⟩ := rp_bd_e hF
  refine rp_kv (rp_runV (rest := []) hC (mE_ok _) hw hl.1 (hrc2 σ _ hq) vw_X7_111 (by decide) (mt_obj _) rfl rfl rfl (Nat.le_of_ble_eq_true rfl) (by omega) dX7_both_1) hw (fun H locs hw => ?_)
  clear hq
  exact lX7_both_4 dd rc0 hrc0 rc1 hrc1 rc2 hrc2 rc3 hrc3 rc4 hrc4 rc5 hrc5 hC 300 σ2 _ _ _ hF hw (lv_sub hl [0] rfl)
def fX7_compared_50 (rc0 : rp_St → Option (Int32 × rp_St)) (rc1 : rp_St → Option (Int32 × rp_St)) (rc2 : rp_St → Option (Int32 × rp_St)) (rc3 : rp_St → Option (Int32 × rp_St)) (rc4 : rp_St → Option (Int32 × rp_St)) (rc5 : rp_St → Option (Int32 × rp_St)) (t0 : Int32) (σ : rp_St) : Option (Int32 × rp_St) :=
  (if t0 ≤ 0 then some (0, σ) else rp_bd (rc3 σ) (fun _ σ2 => rp_bd (fX7_codes t0 σ2) (fun _ σ4 => some (0, σ4))))
set_option maxRecDepth 100000 in
set_option maxHeartbeats 4000000 in
theorem kX7_compared_50 {p : Program} {l : Launch} {e : Env} {s : State} {m : MethodId} {args : Array Value} {below : List Frame} {meth : Method} {c : Code} {D : va_G} {cI cT : ClassId} {ad av a : Nat → Nat} {res : Int32 × rp_St} (dd : Nat) (rc0 : rp_St → Option (Int32 × rp_St)) (hrc0 : ∀  (σ : rp_St) (res : Int32 × rp_St), rc0 σ = some res → mM l D cI cT ad av a yX7_either cX7_either 1 none (5 + dd) [.ref (a 0)] σ (rp_Qv D a (mt cI cT ad a) 15 res)) (rc1 : rp_St → Option (Int32 × rp_St)) (hrc1 : ∀  (σ : rp_St) (res : Int32 × rp_St), rc1 σ = some res → mM l D cI cT ad av a yX7_both cX7_both 1 none (5 + dd) [.ref (a 0)] σ (rp_Qv D a (mt cI cT ad a) 15 res)) (rc2 : rp_St → Option (Int32 × rp_St)) (hrc2 : ∀  (σ : rp_St) (res : Int32 × rp_St), rc2 σ = some res → mM l D cI cT ad av a yX7_compared cX7_compared 2 none (5 + dd) [.ref (a 0)] σ (rp_Qv D a (mt cI cT ad a) 15 res)) (rc3 : rp_St → Option (Int32 × rp_St)) (hrc3 : ∀  (σ : rp_St) (res : Int32 × rp_St), rc3 σ = some res → mM l D cI cT ad av a yX7_sum cX7_sum 2 none (5 + dd) [.ref (a 0)] σ (rp_Qv D a (mt cI cT ad a) 15 res)) (rc4 : rp_St → Option (Int32 × rp_St)) (hrc4 : ∀  (σ : rp_St) (res : Int32 × rp_St), rc4 σ = some res → mM l D cI cT ad av a yX7_product cX7_product 2 none (5 + dd) [.ref (a 0)] σ (rp_Qv D a (mt cI cT ad a) 15 res)) (rc5 : rp_St → Option (Int32 × rp_St)) (hrc5 : ∀  (σ : rp_St) (res : Int32 × rp_St), rc5 σ = some res → mM l D cI cT ad av a yX7_one cX7_one 4 none (5 + dd) [.ref (a 0)] σ (rp_Qv D a (mt cI cT ad a) 15 res)) (hC : mC p s m args meth c cX7_compared 2 "RegretPegsModel" none D cI cT ad av a) (t0 : Int32) (σ : rp_St) (H : Heap) (locs : List Loc) (ls : Array Slot) (hF : fX7_compared_50 rc0 rc1 rc2 rc3 rc4 rc5 t0 σ = some res) (hw : mW D cI cT ad av a s σ H locs) (hl : lv_has ls 2 [(0, .ref (a 0))]) : W p l e (rp_rm (5 + (dd + 1))) s m args below meth c H locs 0 0 (MQ below (rp_Qv D a (mt cI cT ad a) 15 res) args s 0 0 (rp_A a 15)) (F0 m 50 ls [.int t0]) := by
  have hx := hC.1
  have hb := hC.2.1
  have hown := hC.2.2.2.1
  have hts := hC.2.2.2.2.1
  unfold fX7_compared_50 at hF
  refine lv_istore_n (pc := 50) (lv' := [(1, .int t0), (0, .ref (a 0))]) hx hb dX7_compared_50 rfl hl (by decide) rfl (fun ls hl => ?_)
  refine lv_iload_n (pc := 51) hx hb dX7_compared_51 rfl (lv_at hl 0 rfl) ?_
  refine lv_if_le (pc := 52) (tgt := 64) hx hb dX7_compared_52 (by decide) (fun hc => ?_) (fun hc => ?_)
  · replace hF := rp_it hc hF
    exact rp_retv (pc := 64) hC hw hF dX7_compared_64
  · replace hF := rp_if hc hF
    refine lv_aload_n (pc := 55) hx hb dX7_compared_55 rfl (lv_at hl 1 rfl) ?_
    obtain ⟨r1, σ2, hq, hF⟩ := rp_bd_e hF
    refine rp_kv (rp_runV (rest := []) hC (mE_ok _) hw hl.1 (hrc3 σ _ hq) vw_X7_114 (by decide) (mt_obj _) rfl rfl rfl (Nat.le_of_ble_eq_true rfl) (by omega) dX7_compared_56) hw (fun H locs hw => ?_)
    clear hq
    refine lv_aload_n (pc := 59) hx hb dX7_compared_59 rfl (lv_at hl 1 rfl) ?_
    refine lv_iload_n (pc := 60) hx hb dX7_compared_60 rfl (lv_at hl 0 rfl) ?_
    obtain ⟨r3, σ4, hq, hF⟩ := rp_bd_e hF
    refine rp_kv (rp_runV (rest := []) hC (mE_ok _) hw hl.1 (mX7_codes (l := l) t0 σ2 _ hq) vw_X7_107 (by decide) (mt_obj _) rfl rfl rfl (Nat.le_of_ble_eq_true rfl) (by omega) dX7_compared_61) hw (fun H locs hw => ?_)
    clear hq
    exact rp_retv (pc := 64) hC hw hF dX7_compared_64
def fX7_compared (rc0 : rp_St → Option (Int32 × rp_St)) (rc1 : rp_St → Option (Int32 × rp_St)) (rc2 : rp_St → Option (Int32 × rp_St)) (rc3 : rp_St → Option (Int32 × rp_St)) (rc4 : rp_St → Option (Int32 × rp_St)) (rc5 : rp_St → Option (Int32 × rp_St)) (σ : rp_St) : Option (Int32 × rp_St) :=
  rp_bd (rc3 σ) (fun _ σ2 => rp_bd (fX7_takes 60 σ2) (fun r3 σ4 => (if r3 = 0 then rp_bd (fX7_takes 61 σ4) (fun r5 σ6 => (if r5 = 0 then rp_bd (fX7_takes 62 σ6) (fun r7 σ8 => (if r7 = 0 then fX7_compared_50 rc0 rc1 rc2 rc3 rc4 rc5 0 σ8 else fX7_compared_50 rc0 rc1 rc2 rc3 rc4 rc5 20004 σ8)) else fX7_compared_50 rc0 rc1 rc2 rc3 rc4 rc5 20003 σ6)) else fX7_compared_50 rc0 rc1 rc2 rc3 rc4 rc5 20002 σ4)))
set_option maxRecDepth 100000 in
set_option maxHeartbeats 4000000 in
theorem kX7_compared_0 {p : Program} {l : Launch} {e : Env} {s : State} {m : MethodId} {args : Array Value} {below : List Frame} {meth : Method} {c : Code} {D : va_G} {cI cT : ClassId} {ad av a : Nat → Nat} {res : Int32 × rp_St} (dd : Nat) (rc0 : rp_St → Option (Int32 × rp_St)) (hrc0 : ∀  (σ : rp_St) (res : Int32 × rp_St), rc0 σ = some res → mM l D cI cT ad av a yX7_either cX7_either 1 none (5 + dd) [.ref (a 0)] σ (rp_Qv D a (mt cI cT ad a) 15 res)) (rc1 : rp_St → Option (Int32 × rp_St)) (hrc1 : ∀  (σ : rp_St) (res : Int32 × rp_St), rc1 σ = some res → mM l D cI cT ad av a yX7_both cX7_both 1 none (5 + dd) [.ref (a 0)] σ (rp_Qv D a (mt cI cT ad a) 15 res)) (rc2 : rp_St → Option (Int32 × rp_St)) (hrc2 : ∀  (σ : rp_St) (res : Int32 × rp_St), rc2 σ = some res → mM l D cI cT ad av a yX7_compared cX7_compared 2 none (5 + dd) [.ref (a 0)] σ (rp_Qv D a (mt cI cT ad a) 15 res)) (rc3 : rp_St → Option (Int32 × rp_St)) (hrc3 : ∀  (σ : rp_St) (res : Int32 × rp_St), rc3 σ = some res → mM l D cI cT ad av a yX7_sum cX7_sum 2 none (5 + dd) [.ref (a 0)] σ (rp_Qv D a (mt cI cT ad a) 15 res)) (rc4 : rp_St → Option (Int32 × rp_St)) (hrc4 : ∀  (σ : rp_St) (res : Int32 × rp_St), rc4 σ = some res → mM l D cI cT ad av a yX7_product cX7_product 2 none (5 + dd) [.ref (a 0)] σ (rp_Qv D a (mt cI cT ad a) 15 res)) (rc5 : rp_St → Option (Int32 × rp_St)) (hrc5 : ∀  (σ : rp_St) (res : Int32 × rp_St), rc5 σ = some res → mM l D cI cT ad av a yX7_one cX7_one 4 none (5 + dd) [.ref (a 0)] σ (rp_Qv D a (mt cI cT ad a) 15 res)) (hC : mC p s m args meth c cX7_compared 2 "RegretPegsModel" none D cI cT ad av a) (σ : rp_St) (H : Heap) (locs : List Loc) (ls : Array Slot) (hF : fX7_compared rc0 rc1 rc2 rc3 rc4 rc5 σ = some res) (hw : mW D cI cT ad av a s σ H locs) (hl : lv_has ls 2 [(0, .ref (a 0))]) : W p l e (rp_rm (5 + (dd + 1))) s m args below meth c H locs 0 0 (MQ below (rp_Qv D a (mt cI cT ad a) 15 res) args s 0 0 (rp_A a 15)) (F0 m 0 ls []) := by
  have hx := hC.1
  have hb := hC.2.1
  have hown := hC.2.2.2.1
  have hts := hC.2.2.2.2.1
  unfold fX7_compared at hF
  refine lv_aload_n (pc := 0) hx hb dX7_compared_0 rfl (lv_at hl 0 rfl) ?_
  obtain ⟨r1, σ2, hq, hF⟩ := rp_bd_e hF
  refine rp_kv (rp_runV (rest := []) hC (mE_ok _) hw hl.1 (hrc3 σ _ hq) vw_X7_114 (by decide) (mt_obj _) rfl rfl rfl (Nat.le_of_ble_eq_true rfl) (by omega) dX7_compared_1) hw (fun H locs hw => ?_)
  clear hq
  refine lv_aload_n (pc := 4) hx hb dX7_compared_4 rfl (lv_at hl 0 rfl) ?_
  refine lv_bipush (pc := 5) (v := 60) hx hb dX7_compared_5 (by decide) ?_
  obtain ⟨r3, σ4, hq, hF⟩ := rp_bd_e hF
  refine rp_ki (rp_runV (rest := []) hC (mE_ok _) hw hl.1 (mX7_takes (l := l) 60 σ2 _ hq) vw_X7_103 (by decide) (mt_obj _) rfl rfl rfl (Nat.le_of_ble_eq_true rfl) (by omega) dX7_compared_7) hw (fun H locs hw => ?_)
  clear hq
  refine lv_if_eq (pc := 10) (tgt := 19) hx hb dX7_compared_10 (by decide) (fun hc => ?_) (fun hc => ?_)
  · replace hF := rp_it hc hF
    refine lv_aload_n (pc := 19) hx hb dX7_compared_19 rfl (lv_at hl 0 rfl) ?_
    refine lv_bipush (pc := 20) (v := 61) hx hb dX7_compared_20 (by decide) ?_
    obtain ⟨r5, σ6, hq, hF⟩ := rp_bd_e hF
    refine rp_ki (rp_runV (rest := []) hC (mE_ok _) hw hl.1 (mX7_takes (l := l) 61 σ4 _ hq) vw_X7_103 (by decide) (mt_obj _) rfl rfl rfl (Nat.le_of_ble_eq_true rfl) (by omega) dX7_compared_22) hw (fun H locs hw => ?_)
    clear hq
    refine lv_if_eq (pc := 25) (tgt := 34) hx hb dX7_compared_25 (by decide) (fun hc => ?_) (fun hc => ?_)
    · replace hF := rp_it hc hF
      refine lv_aload_n (pc := 34) hx hb dX7_compared_34 rfl (lv_at hl 0 rfl) ?_
      refine lv_bipush (pc := 35) (v := 62) hx hb dX7_compared_35 (by decide) ?_
      obtain ⟨r7, σ8, hq, hF⟩ := rp_bd_e hF
      refine rp_ki (rp_runV (rest := []) hC (mE_ok _) hw hl.1 (mX7_takes (l := l) 62 σ6 _ hq) vw_X7_103 (by decide) (mt_obj _) rfl rfl rfl (Nat.le_of_ble_eq_true rfl) (by omega) dX7_compared_37) hw (fun H locs hw => ?_)
      clear hq
      refine lv_if_eq (pc := 40) (tgt := 49) hx hb dX7_compared_40 (by decide) (fun hc => ?_) (fun hc => ?_)
      · replace hF := rp_it hc hF
        refine lv_iconst (pc := 49) (v := 0) hx hb dX7_compared_49 (by decide) ?_
        exact kX7_compared_50 dd rc0 hrc0 rc1 hrc1 rc2 hrc2 rc3 hrc3 rc4 hrc4 rc5 hrc5 hC 0 σ8 _ _ _ hF hw (lv_sub hl [0] rfl)
      · replace hF := rp_if hc hF
        refine lv_sipush (pc := 43) (v := 20004) hx hb dX7_compared_43 (by decide) ?_
        refine lv_goto (pc := 46) (tgt := 50) hx hb dX7_compared_46 (by decide) ?_
        exact kX7_compared_50 dd rc0 hrc0 rc1 hrc1 rc2 hrc2 rc3 hrc3 rc4 hrc4 rc5 hrc5 hC 20004 σ8 _ _ _ hF hw (lv_sub hl [0] rfl)
    · replace hF := rp_if hc hF
      refine lv_sipush (pc := 28) (v := 20003) hx hb dX7_compared_28 (by decide) ?_
      refine lv_goto (pc := 31) (tgt := 50) hx hb dX7_compared_31 (by decide) ?_
      exact kX7_compared_50 dd rc0 hrc0 rc1 hrc1 rc2 hrc2 rc3 hrc3 rc4 hrc4 rc5 hrc5 hC 20003 σ6 _ _ _ hF hw (lv_sub hl [0] rfl)
  · replace hF := rp_if hc hF
    refine lv_sipush (pc := 13) (v := 20002) hx hb dX7_compared_13 (by decide) ?_
    refine lv_goto (pc := 16) (tgt := 50) hx hb dX7_compared_16 (by decide) ?_
    exact kX7_compared_50 dd rc0 hrc0 rc1 hrc1 rc2 hrc2 rc3 hrc3 rc4 hrc4 rc5 hrc5 hC 20002 σ4 _ _ _ hF hw (lv_sub hl [0] rfl)
def fX7_sum_80 (rc0 : rp_St → Option (Int32 × rp_St)) (rc1 : rp_St → Option (Int32 × rp_St)) (rc2 : rp_St → Option (Int32 × rp_St)) (rc3 : rp_St → Option (Int32 × rp_St)) (rc4 : rp_St → Option (Int32 × rp_St)) (rc5 : rp_St → Option (Int32 × rp_St)) (k36 : Int32 → rp_St → Option (Int32 × rp_St)) (t0 : Int32) (σ : rp_St) : Option (Int32 × rp_St) :=
  k36 t0 σ
set_option maxRecDepth 100000 in
set_option maxHeartbeats 4000000 in
theorem kX7_sum_80 {p : Program} {l : Launch} {e : Env} {s : State} {m : MethodId} {args : Array Value} {below : List Frame} {meth : Method} {c : Code} {D : va_G} {cI cT : ClassId} {ad av a : Nat → Nat} {res : Int32 × rp_St} (dd : Nat) (rc0 : rp_St → Option (Int32 × rp_St)) (hrc0 : ∀  (σ : rp_St) (res : Int32 × rp_St), rc0 σ = some res → mM l D cI cT ad av a yX7_either cX7_either 1 none (5 + dd) [.ref (a 0)] σ (rp_Qv D a (mt cI cT ad a) 15 res)) (rc1 : rp_St → Option (Int32 × rp_St)) (hrc1 : ∀  (σ : rp_St) (res : Int32 × rp_St), rc1 σ = some res → mM l D cI cT ad av a yX7_both cX7_both 1 none (5 + dd) [.ref (a 0)] σ (rp_Qv D a (mt cI cT ad a) 15 res)) (rc2 : rp_St → Option (Int32 × rp_St)) (hrc2 : ∀  (σ : rp_St) (res : Int32 × rp_St), rc2 σ = some res → mM l D cI cT ad av a yX7_compared cX7_compared 2 none (5 + dd) [.ref (a 0)] σ (rp_Qv D a (mt cI cT ad a) 15 res)) (rc3 : rp_St → Option (Int32 × rp_St)) (hrc3 : ∀  (σ : rp_St) (res : Int32 × rp_St), rc3 σ = some res → mM l D cI cT ad av a yX7_sum cX7_sum 2 none (5 + dd) [.ref (a 0)] σ (rp_Qv D a (mt cI cT ad a) 15 res)) (rc4 : rp_St → Option (Int32 × rp_St)) (hrc4 : ∀  (σ : rp_St) (res : Int32 × rp_St), rc4 σ = some res → mM l D cI cT ad av a yX7_product cX7_product 2 none (5 + dd) [.ref (a 0)] σ (rp_Qv D a (mt cI cT ad a) 15 res)) (rc5 : rp_St → Option (Int32 × rp_St)) (hrc5 : ∀  (σ : rp_St) (res : Int32 × rp_St), rc5 σ = some res → mM l D cI cT ad av a yX7_one cX7_one 4 none (5 + dd) [.ref (a 0)] σ (rp_Qv D a (mt cI cT ad a) 15 res)) (hC : mC p s m args meth c cX7_sum 2 "RegretPegsModel" none D cI cT ad av a) (k36 : Int32 → rp_St → Option (Int32 × rp_St)) (hk36 : ∀ (v1 : Int32) (σ : rp_St) (H : Heap) (locs : List Loc) (ls : Array Slot), k36 v1 σ = some res → mW D cI cT ad av a s σ H locs → lv_has ls 2 [(0, .ref (a 0)), (1, .int v1)] → W p l e (rp_rm (5 + (dd + 1))) s m args below meth c H locs 0 0 (MQ below (rp_Qv D a (mt cI cT ad a) 15 res) args s 0 0 (rp_A a 15)) (F0 m 36 ls [])) (t0 : Int32) (σ : rp_St) (H : Heap) (locs : List Loc) (ls : Array Slot) (hF : fX7_sum_80 rc0 rc1 rc2 rc3 rc4 rc5 k36 t0 σ = some res) (hw : mW D cI cT ad av a s σ H locs) (hl : lv_has ls 2 [(0, .ref (a 0))]) : W p l e (rp_rm (5 + (dd + 1))) s m args below meth c H locs 0 0 (MQ below (rp_Qv D a (mt cI cT ad a) 15 res) args s 0 0 (rp_A a 15)) (F0 m 80 ls [.int t0]) := by
  have hx := hC.1
  have hb := hC.2.1
  have hown := hC.2.2.2.1
  have hts := hC.2.2.2.2.1
  unfold fX7_sum_80 at hF
  refine lv_istore_n (pc := 80) (lv' := [(1, .int t0), (0, .ref (a 0))]) hx hb dX7_sum_80 rfl hl (by decide) rfl (fun ls hl => ?_)
  refine lv_goto (pc := 81) (tgt := 36) hx hb dX7_sum_81 (by decide) ?_
  exact hk36 t0 σ _ _ _ hF hw (lv_sub hl [1, 0] rfl)
def fX7_sum_36 (rc0 : rp_St → Option (Int32 × rp_St)) (rc1 : rp_St → Option (Int32 × rp_St)) (rc2 : rp_St → Option (Int32 × rp_St)) (rc3 : rp_St → Option (Int32 × rp_St)) (rc4 : rp_St → Option (Int32 × rp_St)) (rc5 : rp_St → Option (Int32 × rp_St)) (k36 : Int32 → rp_St → Option (Int32 × rp_St)) (v1 : Int32) (σ : rp_St) : Option (Int32 × rp_St) :=
  (if v1 ≤ 0 then some (0, σ) else rp_bd (rc4 σ) (fun _ σ2 => rp_bd (fX7_codes v1 σ2) (fun _ σ4 => rp_bd (fX7_takes 43 σ4) (fun r5 σ6 => (if r5 = 0 then rp_bd (fX7_takes 45 σ6) (fun r7 σ8 => (if r7 = 0 then fX7_sum_80 rc0 rc1 rc2 rc3 rc4 rc5 k36 0 σ8 else fX7_sum_80 rc0 rc1 rc2 rc3 rc4 rc5 k36 20006 σ8)) else fX7_sum_80 rc0 rc1 rc2 rc3 rc4 rc5 k36 20005 σ6)))))
set_option maxRecDepth 100000 in
set_option maxHeartbeats 4000000 in
theorem kX7_sum_36 {p : Program} {l : Launch} {e : Env} {s : State} {m : MethodId} {args : Array Value} {below : List Frame} {meth : Method} {c : Code} {D : va_G} {cI cT : ClassId} {ad av a : Nat → Nat} {res : Int32 × rp_St} (dd : Nat) (rc0 : rp_St → Option (Int32 × rp_St)) (hrc0 : ∀  (σ : rp_St) (res : Int32 × rp_St), rc0 σ = some res → mM l D cI cT ad av a yX7_either cX7_either 1 none (5 + dd) [.ref (a 0)] σ (rp_Qv D a (mt cI cT ad a) 15 res)) (rc1 : rp_St → Option (Int32 × rp_St)) (hrc1 : ∀  (σ : rp_St) (res : Int32 × rp_St), rc1 σ = some res → mM l D cI cT ad av a yX7_both cX7_both 1 none (5 + dd) [.ref (a 0)] σ (rp_Qv D a (mt cI cT ad a) 15 res)) (rc2 : rp_St → Option (Int32 × rp_St)) (hrc2 : ∀  (σ : rp_St) (res : Int32 × rp_St), rc2 σ = some res → mM l D cI cT ad av a yX7_compared cX7_compared 2 none (5 + dd) [.ref (a 0)] σ (rp_Qv D a (mt cI cT ad a) 15 res)) (rc3 : rp_St → Option (Int32 × rp_St)) (hrc3 : ∀  (σ : rp_St) (res : Int32 × rp_St), rc3 σ = some res → mM l D cI cT ad av a yX7_sum cX7_sum 2 none (5 + dd) [.ref (a 0)] σ (rp_Qv D a (mt cI cT ad a) 15 res)) (rc4 : rp_St → Option (Int32 × rp_St)) (hrc4 : ∀  (σ : rp_St) (res : Int32 × rp_St), rc4 σ = some res → mM l D cI cT ad av a yX7_product cX7_product 2 none (5 + dd) [.ref (a 0)] σ (rp_Qv D a (mt cI cT ad a) 15 res)) (rc5 : rp_St → Option (Int32 × rp_St)) (hrc5 : ∀  (σ : rp_St) (res : Int32 × rp_St), rc5 σ = some res → mM l D cI cT ad av a yX7_one cX7_one 4 none (5 + dd) [.ref (a 0)] σ (rp_Qv D a (mt cI cT ad a) 15 res)) (hC : mC p s m args meth c cX7_sum 2 "RegretPegsModel" none D cI cT ad av a) (k36 : Int32 → rp_St → Option (Int32 × rp_St)) (hk36 : ∀ (v1 : Int32) (σ : rp_St) (H : Heap) (locs : List Loc) (ls : Array Slot), k36 v1 σ = some res → mW D cI cT ad av a s σ H locs → lv_has ls 2 [(0, .ref (a 0)), (1, .int v1)] → W p l e (rp_rm (5 + (dd + 1))) s m args below meth c H locs 0 0 (MQ below (rp_Qv D a (mt cI cT ad a) 15 res) args s 0 0 (rp_A a 15)) (F0 m 36 ls [])) (v1 : Int32) (σ : rp_St) (H : Heap) (locs : List Loc) (ls : Array Slot) (hF : fX7_sum_36 rc0 rc1 rc2 rc3 rc4 rc5 k36 v1 σ = some res) (hw : mW D cI cT ad av a s σ H locs) (hl : lv_has ls 2 [(0, .ref (a 0)), (1, .int v1)]) : W p l e (rp_rm (5 + (dd + 1))) s m args below meth c H locs 0 0 (MQ below (rp_Qv D a (mt cI cT ad a) 15 res) args s 0 0 (rp_A a 15)) (F0 m 36 ls []) := by
  have hx := hC.1
  have hb := hC.2.1
  have hown := hC.2.2.2.1
  have hts := hC.2.2.2.2.1
  unfold fX7_sum_36 at hF
  refine lv_iload_n (pc := 36) hx hb dX7_sum_36 rfl (lv_at hl 1 rfl) ?_
  refine lv_if_le (pc := 37) (tgt := 84) hx hb dX7_sum_37 (by decide) (fun hc => ?_) (fun hc => ?_)
  · replace hF := rp_it hc hF
    exact rp_retv (pc := 84) hC hw hF dX7_sum_84
  · replace hF := rp_if hc hF
    refine lv_aload_n (pc := 40) hx hb dX7_sum_40 rfl (lv_at hl 0 rfl) ?_
    obtain ⟨r1, σ2, hq, hF⟩ := rp_bd_e hF
    refine rp_kv (rp_runV (rest := []) hC (mE_ok _) hw hl.1 (hrc4 σ _ hq) vw_X7_117 (by decide) (mt_obj _) rfl rfl rfl (Nat.le_of_ble_eq_true rfl) (by omega) dX7_sum_41) hw (fun H locs hw => ?_)
    clear hq
    refine lv_aload_n (pc := 44) hx hb dX7_sum_44 rfl (lv_at hl 0 rfl) ?_
    refine lv_iload_n (pc := 45) hx hb dX7_sum_45 rfl (lv_at hl 1 rfl) ?_
    obtain ⟨r3, σ4, hq, hF⟩ := rp_bd_e hF
    refine rp_kv (rp_runV (rest := []) hC (mE_ok _) hw hl.1 (mX7_codes (l := l) v1 σ2 _ hq) vw_X7_107 (by decide) (mt_obj _) rfl rfl rfl (Nat.le_of_ble_eq_true rfl) (by omega) dX7_sum_46) hw (fun H locs hw => ?_)
    clear hq
    refine lv_aload_n (pc := 49) hx hb dX7_sum_49 rfl (lv_at hl 0 rfl) ?_
    refine lv_bipush (pc := 50) (v := 43) hx hb dX7_sum_50 (by decide) ?_
    obtain ⟨r5, σ6, hq, hF⟩ := rp_bd_e hF
    refine rp_ki (rp_runV (rest := []) hC (mE_ok _) hw hl.1 (mX7_takes (l := l) 43 σ4 _ hq) vw_X7_103 (by decide) (mt_obj _) rfl rfl rfl (Nat.le_of_ble_eq_true rfl) (by omega) dX7_sum_52) hw (fun H locs hw => ?_)
    clear hq
    refine lv_if_eq (pc := 55) (tgt := 64) hx hb dX7_sum_55 (by decide) (fun hc => ?_) (fun hc => ?_)
    · replace hF := rp_it hc hF
      refine lv_aload_n (pc := 64) hx hb dX7_sum_64 rfl (lv_at hl 0 rfl) ?_
      refine lv_bipush (pc := 65) (v := 45) hx hb dX7_sum_65 (by decide) ?_
      obtain ⟨r7, σ8, hq, hF⟩ := rp_bd_e hF
      refine rp_ki (rp_runV (rest := []) hC (mE_ok _) hw hl.1 (mX7_takes (l := l) 45 σ6 _ hq) vw_X7_103 (by decide) (mt_obj _) rfl rfl rfl (Nat.le_of_ble_eq_true rfl) (by omega) dX7_sum_67) hw (fun H locs hw => ?_)
      clear hq
      refine lv_if_eq (pc := 70) (tgt := 79) hx hb dX7_sum_70 (by decide) (fun hc => ?_) (fun hc => ?_)
      · replace hF := rp_it hc hF
        refine lv_iconst (pc := 79) (v := 0) hx hb dX7_sum_79 (by decide) ?_
        exact kX7_sum_80 dd rc0 hrc0 rc1 hrc1 rc2 hrc2 rc3 hrc3 rc4 hrc4 rc5 hrc5 hC k36 hk36 0 σ8 _ _ _ hF hw (lv_sub hl [0] rfl)
      · replace hF := rp_if hc hF
        refine lv_sipush (pc := 73) (v := 20006) hx hb dX7_sum_73 (by decide) ?_
        refine lv_goto (pc := 76) (tgt := 80) hx hb dX7_sum_76 (by decide) ?_
        exact kX7_sum_80 dd rc0 hrc0 rc1 hrc1 rc2 hrc2 rc3 hrc3 rc4 hrc4 rc5 hrc5 hC k36 hk36 20006 σ8 _ _ _ hF hw (lv_sub hl [0] rfl)
    · replace hF := rp_if hc hF
      refine lv_sipush (pc := 58) (v := 20005) hx hb dX7_sum_58 (by decide) ?_
      refine lv_goto (pc := 61) (tgt := 80) hx hb dX7_sum_61 (by decide) ?_
      exact kX7_sum_80 dd rc0 hrc0 rc1 hrc1 rc2 hrc2 rc3 hrc3 rc4 hrc4 rc5 hrc5 hC k36 hk36 20005 σ6 _ _ _ hF hw (lv_sub hl [0] rfl)
theorem lX7_sum_36 {p : Program} {l : Launch} {e : Env} {s : State} {m : MethodId} {args : Array Value} {below : List Frame} {meth : Method} {c : Code} {D : va_G} {cI cT : ClassId} {ad av a : Nat → Nat} {res : Int32 × rp_St} (dd : Nat) (rc0 : rp_St → Option (Int32 × rp_St)) (hrc0 : ∀  (σ : rp_St) (res : Int32 × rp_St), rc0 σ = some res → mM l D cI cT ad av a yX7_either cX7_either 1 none (5 + dd) [.ref (a 0)] σ (rp_Qv D a (mt cI cT ad a) 15 res)) (rc1 : rp_St → Option (Int32 × rp_St)) (hrc1 : ∀  (σ : rp_St) (res : Int32 × rp_St), rc1 σ = some res → mM l D cI cT ad av a yX7_both cX7_both 1 none (5 + dd) [.ref (a 0)] σ (rp_Qv D a (mt cI cT ad a) 15 res)) (rc2 : rp_St → Option (Int32 × rp_St)) (hrc2 : ∀  (σ : rp_St) (res : Int32 × rp_St), rc2 σ = some res → mM l D cI cT ad av a yX7_compared cX7_compared 2 none (5 + dd) [.ref (a 0)] σ (rp_Qv D a (mt cI cT ad a) 15 res)) (rc3 : rp_St → Option (Int32 × rp_St)) (hrc3 : ∀  (σ : rp_St) (res : Int32 × rp_St), rc3 σ = some res → mM l D cI cT ad av a yX7_sum cX7_sum 2 none (5 + dd) [.ref (a 0)] σ (rp_Qv D a (mt cI cT ad a) 15 res)) (rc4 : rp_St → Option (Int32 × rp_St)) (hrc4 : ∀  (σ : rp_St) (res : Int32 × rp_St), rc4 σ = some res → mM l D cI cT ad av a yX7_product cX7_product 2 none (5 + dd) [.ref (a 0)] σ (rp_Qv D a (mt cI cT ad a) 15 res)) (rc5 : rp_St → Option (Int32 × rp_St)) (hrc5 : ∀  (σ : rp_St) (res : Int32 × rp_St), rc5 σ = some res → mM l D cI cT ad av a yX7_one cX7_one 4 none (5 + dd) [.ref (a 0)] σ (rp_Qv D a (mt cI cT ad a) 15 res)) (hC : mC p s m args meth c cX7_sum 2 "RegretPegsModel" none D cI cT ad av a) : ∀ (n : Nat) (v1 : Int32) (σ : rp_St) (H : Heap) (locs : List Loc) (ls : Array Slot), rp_lp (fun _ _ => none) (fX7_sum_36 rc0 rc1 rc2 rc3 rc4 rc5) n v1 σ = some res → mW D cI cT ad av a s σ H locs → lv_has ls 2 [(0, .ref (a 0)), (1, .int v1)] → W p l e (rp_rm (5 + (dd + 1))) s m args below meth c H locs 0 0 (MQ below (rp_Qv D a (mt cI cT ad a) 15 res) args s 0 0 (rp_A a 15)) (F0 m 36 ls [])
  | 0, _, _, _, _, _, hF, _, _ => nomatch hF
  | n + 1, v1, σ, H, locs, ls, hF, hw, hl => kX7_sum_36 dd rc0 hrc0 rc1 hrc1 rc2 hrc2 rc3 hrc3 rc4 hrc4 rc5 hrc5 hC (rp_lp (fun _ _ => none) (fX7_sum_36 rc0 rc1 rc2 rc3 rc4 rc5) n) (lX7_sum_36 dd rc0 hrc0 rc1 hrc1 rc2 hrc2 rc3 hrc3 rc4 hrc4 rc5 hrc5 hC n) v1 σ H locs ls hF hw hl
def fX7_sum_35 (rc0 : rp_St → Option (Int32 × rp_St)) (rc1 : rp_St → Option (Int32 × rp_St)) (rc2 : rp_St → Option (Int32 × rp_St)) (rc3 : rp_St → Option (Int32 × rp_St)) (rc4 : rp_St → Option (Int32 × rp_St)) (rc5 : rp_St → Option (Int32 × rp_St)) (t0 : Int32) (σ : rp_St) : Option (Int32 × rp_St) :=
  rp_lp (fun _ _ => none) (fX7_sum_36 rc0 rc1 rc2 rc3 rc4 rc5) 300 t0 σ
set_option maxRecDepth 100000 in
set_option maxHeartbeats 4000000 in
theorem kX7_sum_35 {p : Program} {l : Launch} {e : Env} {s : State} {m : MethodId} {args : Array Value} {below : List Frame} {meth : Method} {c : Code} {D : va_G} {cI cT : ClassId} {ad av a : Nat → Nat} {res : Int32 × rp_St} (dd : Nat) (rc0 : rp_St → Option (Int32 × rp_St)) (hrc0 : ∀  (σ : rp_St) (res : Int32 × rp_St), rc0 σ = some res → mM l D cI cT ad av a yX7_either cX7_either 1 none (5 + dd) [.ref (a 0)] σ (rp_Qv D a (mt cI cT ad a) 15 res)) (rc1 : rp_St → Option (Int32 × rp_St)) (hrc1 : ∀  (σ : rp_St) (res : Int32 × rp_St), rc1 σ = some res → mM l D cI cT ad av a yX7_both cX7_both 1 none (5 + dd) [.ref (a 0)] σ (rp_Qv D a (mt cI cT ad a) 15 res)) (rc2 : rp_St → Option (Int32 × rp_St)) (hrc2 : ∀  (σ : rp_St) (res : Int32 × rp_St), rc2 σ = some res → mM l D cI cT ad av a yX7_compared cX7_compared 2 none (5 + dd) [.ref (a 0)] σ (rp_Qv D a (mt cI cT ad a) 15 res)) (rc3 : rp_St → Option (Int32 × rp_St)) (hrc3 : ∀  (σ : rp_St) (res : Int32 × rp_St), rc3 σ = some res → mM l D cI cT ad av a yX7_sum cX7_sum 2 none (5 + dd) [.ref (a 0)] σ (rp_Qv D a (mt cI cT ad a) 15 res)) (rc4 : rp_St → Option (Int32 × rp_St)) (hrc4 : ∀  (σ : rp_St) (res : Int32 × rp_St), rc4 σ = some res → mM l D cI cT ad av a yX7_product cX7_product 2 none (5 + dd) [.ref (a 0)] σ (rp_Qv D a (mt cI cT ad a) 15 res)) (rc5 : rp_St → Option (Int32 × rp_St)) (hrc5 : ∀  (σ : rp_St) (res : Int32 × rp_St), rc5 σ = some res → mM l D cI cT ad av a yX7_one cX7_one 4 none (5 + dd) [.ref (a 0)] σ (rp_Qv D a (mt cI cT ad a) 15 res)) (hC : mC p s m args meth c cX7_sum 2 "RegretPegsModel" none D cI cT ad av a) (t0 : Int32) (σ : rp_St) (H : Heap) (locs : List Loc) (ls : Array Slot) (hF : fX7_sum_35 rc0 rc1 rc2 rc3 rc4 rc5 t0 σ = some res) (hw : mW D cI cT ad av a s σ H locs) (hl : lv_has ls 2 [(0, .ref (a 0))]) : W p l e (rp_rm (5 + (dd + 1))) s m args below meth c H locs 0 0 (MQ below (rp_Qv D a (mt cI cT ad a) 15 res) args s 0 0 (rp_A a 15)) (F0 m 35 ls [.int t0]) := by
  have hx := hC.1
  have hb := hC.2.1
  have hown := hC.2.2.2.1
  have hts := hC.2.2.2.2.1
  unfold fX7_sum_35 at hF
  refine lv_istore_n (pc := 35) (lv' := [(1, .int t0), (0, .ref (a 0))]) hx hb dX7_sum_35 rfl hl (by decide) rfl (fun ls hl => ?_)
  exact lX7_sum_36 dd rc0 hrc0 rc1 hrc1 rc2 hrc2 rc3 hrc3 rc4 hrc4 rc5 hrc5 hC 300 t0 σ _ _ _ hF hw (lv_sub hl [1, 0] rfl)
def fX7_sum (rc0 : rp_St → Option (Int32 × rp_St)) (rc1 : rp_St → Option (Int32 × rp_St)) (rc2 : rp_St → Option (Int32 × rp_St)) (rc3 : rp_St → Option (Int32 × rp_St)) (rc4 : rp_St → Option (Int32 × rp_St)) (rc5 : rp_St → Option (Int32 × rp_St)) (σ : rp_St) : Option (Int32 × rp_St) :=
  rp_bd (rc4 σ) (fun _ σ2 => rp_bd (fX7_takes 43 σ2) (fun r3 σ4 => (if r3 = 0 then rp_bd (fX7_takes 45 σ4) (fun r5 σ6 => (if r5 = 0 then fX7_sum_35 rc0 rc1 rc2 rc3 rc4 rc5 0 σ6 else fX7_sum_35 rc0 rc1 rc2 rc3 rc4 rc5 20006 σ6)) else fX7_sum_35 rc0 rc1 rc2 rc3 rc4 rc5 20005 σ4)))
set_option maxRecDepth 100000 in
set_option maxHeartbeats 4000000 in
theorem kX7_sum_0 {p : Program} {l : Launch} {e : Env} {s : State} {m : MethodId} {args : Array Value} {below : List Frame} {meth : Method} {c : Code} {D : va_G} {cI cT : ClassId} {ad av a : Nat → Nat} {res : Int32 × rp_St} (dd : Nat) (rc0 : rp_St → Option (Int32 × rp_St)) (hrc0 : ∀  (σ : rp_St) (res : Int32 × rp_St), rc0 σ = some res → mM l D cI cT ad av a yX7_either cX7_either 1 none (5 + dd) [.ref (a 0)] σ (rp_Qv D a (mt cI cT ad a) 15 res)) (rc1 : rp_St → Option (Int32 × rp_St)) (hrc1 : ∀  (σ : rp_St) (res : Int32 × rp_St), rc1 σ = some res → mM l D cI cT ad av a yX7_both cX7_both 1 none (5 + dd) [.ref (a 0)] σ (rp_Qv D a (mt cI cT ad a) 15 res)) (rc2 : rp_St → Option (Int32 × rp_St)) (hrc2 : ∀  (σ : rp_St) (res : Int32 × rp_St), rc2 σ = some res → mM l D cI cT ad av a yX7_compared cX7_compared 2 none (5 + dd) [.ref (a 0)] σ (rp_Qv D a (mt cI cT ad a) 15 res)) (rc3 : rp_St → Option (Int32 × rp_St)) (hrc3 : ∀  (σ : rp_St) (res : Int32 × rp_St), rc3 σ = some res → mM l D cI cT ad av a yX7_sum cX7_sum 2 none (5 + dd) [.ref (a 0)] σ (rp_Qv D a (mt cI cT ad a) 15 res)) (rc4 : rp_St → Option (Int32 × rp_St)) (hrc4 : ∀  (σ : rp_St) (res : Int32 × rp_St), rc4 σ = some res → mM l D cI cT ad av a yX7_product cX7_product 2 none (5 + dd) [.ref (a 0)] σ (rp_Qv D a (mt cI cT ad a) 15 res)) (rc5 : rp_St → Option (Int32 × rp_St)) (hrc5 : ∀  (σ : rp_St) (res : Int32 × rp_St), rc5 σ = some res → mM l D cI cT ad av a yX7_one cX7_one 4 none (5 + dd) [.ref (a 0)] σ (rp_Qv D a (mt cI cT ad a) 15 res)) (hC : mC p s m args meth c cX7_sum 2 "RegretPegsModel" none D cI cT ad av a) (σ : rp_St) (H : Heap) (locs : List Loc) (ls : Array Slot) (hF : fX7_sum rc0 rc1 rc2 rc3 rc4 rc5 σ = some res) (hw : mW D cI cT ad av a s σ H locs) (hl : lv_has ls 2 [(0, .ref (a 0))]) : W p l e (rp_rm (5 + (dd + 1))) s m args below meth c H locs 0 0 (MQ below (rp_Qv D a (mt cI cT ad a) 15 res) args s 0 0 (rp_A a 15)) (F0 m 0 ls []) := by
  have hx := hC.1
  have hb := hC.2.1
  have hown := hC.2.2.2.1
  have hts := hC.2.2.2.2.1
  unfold fX7_sum at hF
  refine lv_aload_n (pc := 0) hx hb dX7_sum_0 rfl (lv_at hl 0 rfl) ?_
  obtain ⟨r1, σ2, hq, hF⟩ := rp_bd_e hF
  refine rp_kv (rp_runV (rest := []) hC (mE_ok _) hw hl.1 (hrc4 σ _ hq) vw_X7_117 (by decide) (mt_obj _) rfl rfl rfl (Nat.le_of_ble_eq_true rfl) (by omega) dX7_sum_1) hw (fun H locs hw => ?_)
  clear hq
  refine lv_aload_n (pc := 4) hx hb dX7_sum_4 rfl (lv_at hl 0 rfl) ?_
  refine lv_bipush (pc := 5) (v := 43) hx hb dX7_sum_5 (by decide) ?_
  obtain ⟨r3, σ4, hq, hF⟩ := rp_bd_e hF
  refine rp_ki (rp_runV (rest := []) hC (mE_ok _) hw hl.1 (mX7_takes (l := l) 43 σ2 _ hq) vw_X7_103 (by decide) (mt_obj _) rfl rfl rfl (Nat.le_of_ble_eq_true rfl) (by omega) dX7_sum_7) hw (fun H locs hw => ?_)
  clear hq
  refine lv_if_eq (pc := 10) (tgt := 19) hx hb dX7_sum_10 (by decide) (fun hc => ?_) (fun hc => ?_)
  · replace hF := rp_it hc hF
    refine lv_aload_n (pc := 19) hx hb dX7_sum_19 rfl (lv_at hl 0 rfl) ?_
    refine lv_bipush (pc := 20) (v := 45) hx hb dX7_sum_20 (by decide) ?_
    obtain ⟨r5, σ6, hq, hF⟩ := rp_bd_e hF
    refine rp_ki (rp_runV (rest := []) hC (mE_ok _) hw hl.1 (mX7_takes (l := l) 45 σ4 _ hq) vw_X7_103 (by decide) (mt_obj _) rfl rfl rfl (Nat.le_of_ble_eq_true rfl) (by omega) dX7_sum_22) hw (fun H locs hw => ?_)
    clear hq
    refine lv_if_eq (pc := 25) (tgt := 34) hx hb dX7_sum_25 (by decide) (fun hc => ?_) (fun hc => ?_)
    · replace hF := rp_it hc hF
      refine lv_iconst (pc := 34) (v := 0) hx hb dX7_sum_34 (by decide) ?_
      exact kX7_sum_35 dd rc0 hrc0 rc1 hrc1 rc2 hrc2 rc3 hrc3 rc4 hrc4 rc5 hrc5 hC 0 σ6 _ _ _ hF hw (lv_sub hl [0] rfl)
    · replace hF := rp_if hc hF
      refine lv_sipush (pc := 28) (v := 20006) hx hb dX7_sum_28 (by decide) ?_
      refine lv_goto (pc := 31) (tgt := 35) hx hb dX7_sum_31 (by decide) ?_
      exact kX7_sum_35 dd rc0 hrc0 rc1 hrc1 rc2 hrc2 rc3 hrc3 rc4 hrc4 rc5 hrc5 hC 20006 σ6 _ _ _ hF hw (lv_sub hl [0] rfl)
  · replace hF := rp_if hc hF
    refine lv_sipush (pc := 13) (v := 20005) hx hb dX7_sum_13 (by decide) ?_
    refine lv_goto (pc := 16) (tgt := 35) hx hb dX7_sum_16 (by decide) ?_
    exact kX7_sum_35 dd rc0 hrc0 rc1 hrc1 rc2 hrc2 rc3 hrc3 rc4 hrc4 rc5 hrc5 hC 20005 σ4 _ _ _ hF hw (lv_sub hl [0] rfl)
def fX7_product_110 (rc0 : rp_St → Option (Int32 × rp_St)) (rc1 : rp_St → Option (Int32 × rp_St)) (rc2 : rp_St → Option (Int32 × rp_St)) (rc3 : rp_St → Option (Int32 × rp_St)) (rc4 : rp_St → Option (Int32 × rp_St)) (rc5 : rp_St → Option (Int32 × rp_St)) (k51 : Int32 → rp_St → Option (Int32 × rp_St)) (t0 : Int32) (σ : rp_St) : Option (Int32 × rp_St) :=
  k51 t0 σ
set_option maxRecDepth 100000 in
set_option maxHeartbeats 4000000 in
theorem kX7_product_110 {p : Program} {l : Launch} {e : Env} {s : State} {m : MethodId} {args : Array Value} {below : List Frame} {meth : Method} {c : Code} {D : va_G} {cI cT : ClassId} {ad av a : Nat → Nat} {res : Int32 × rp_St} (dd : Nat) (rc0 : rp_St → Option (Int32 × rp_St)) (hrc0 : ∀  (σ : rp_St) (res : Int32 × rp_St), rc0 σ = some res → mM l D cI cT ad av a yX7_either cX7_either 1 none (5 + dd) [.ref (a 0)] σ (rp_Qv D a (mt cI cT ad a) 15 res)) (rc1 : rp_St → Option (Int32 × rp_St)) (hrc1 : ∀  (σ : rp_St) (res : Int32 × rp_St), rc1 σ = some res → mM l D cI cT ad av a yX7_both cX7_both 1 none (5 + dd) [.ref (a 0)] σ (rp_Qv D a (mt cI cT ad a) 15 res)) (rc2 : rp_St → Option (Int32 × rp_St)) (hrc2 : ∀  (σ : rp_St) (res : Int32 × rp_St), rc2 σ = some res → mM l D cI cT ad av a yX7_compared cX7_compared 2 none (5 + dd) [.ref (a 0)] σ (rp_Qv D a (mt cI cT ad a) 15 res)) (rc3 : rp_St → Option (Int32 × rp_St)) (hrc3 : ∀  (σ : rp_St) (res : Int32 × rp_St), rc3 σ = some res → mM l D cI cT ad av a yX7_sum cX7_sum 2 none (5 + dd) [.ref (a 0)] σ (rp_Qv D a (mt cI cT ad a) 15 res)) (rc4 : rp_St → Option (Int32 × rp_St)) (hrc4 : ∀  (σ : rp_St) (res : Int32 × rp_St), rc4 σ = some res → mM l D cI cT ad av a yX7_product cX7_product 2 none (5 + dd) [.ref (a 0)] σ (rp_Qv D a (mt cI cT ad a) 15 res)) (rc5 : rp_St → Option (Int32 × rp_St)) (hrc5 : ∀  (σ : rp_St) (res : Int32 × rp_St), rc5 σ = some res → mM l D cI cT ad av a yX7_one cX7_one 4 none (5 + dd) [.ref (a 0)] σ (rp_Qv D a (mt cI cT ad a) 15 res)) (hC : mC p s m args meth c cX7_product 2 "RegretPegsModel" none D cI cT ad av a) (k51 : Int32 → rp_St → Option (Int32 × rp_St)) (hk51 : ∀ (v1 : Int32) (σ : rp_St) (H : Heap) (locs : List Loc) (ls : Array Slot), k51 v1 σ = some res → mW D cI cT ad av a s σ H locs → lv_has ls 2 [(0, .ref (a 0)), (1, .int v1)] → W p l e (rp_rm (5 + (dd + 1))) s m args below meth c H locs 0 0 (MQ below (rp_Qv D a (mt cI cT ad a) 15 res) args s 0 0 (rp_A a 15)) (F0 m 51 ls [])) (t0 : Int32) (σ : rp_St) (H : Heap) (locs : List Loc) (ls : Array Slot) (hF : fX7_product_110 rc0 rc1 rc2 rc3 rc4 rc5 k51 t0 σ = some res) (hw : mW D cI cT ad av a s σ H locs) (hl : lv_has ls 2 [(0, .ref (a 0))]) : W p l e (rp_rm (5 + (dd + 1))) s m args below meth c H locs 0 0 (MQ below (rp_Qv D a (mt cI cT ad a) 15 res) args s 0 0 (rp_A a 15)) (F0 m 110 ls [.int t0]) := by
  have hx := hC.1
  have hb := hC.2.1
  have hown := hC.2.2.2.1
  have hts := hC.2.2.2.2.1
  unfold fX7_product_110 at hF
  refine lv_istore_n (pc := 110) (lv' := [(1, .int t0), (0, .ref (a 0))]) hx hb dX7_product_110 rfl hl (by decide) rfl (fun ls hl => ?_)
  refine lv_goto (pc := 111) (tgt := 51) hx hb dX7_product_111 (by decide) ?_
  exact hk51 t0 σ _ _ _ hF hw (lv_sub hl [1, 0] rfl)
def fX7_product_51 (rc0 : rp_St → Option (Int32 × rp_St)) (rc1 : rp_St → Option (Int32 × rp_St)) (rc2 : rp_St → Option (Int32 × rp_St)) (rc3 : rp_St → Option (Int32 × rp_St)) (rc4 : rp_St → Option (Int32 × rp_St)) (rc5 : rp_St → Option (Int32 × rp_St)) (k51 : Int32 → rp_St → Option (Int32 × rp_St)) (v1 : Int32) (σ : rp_St) : Option (Int32 × rp_St) :=
  (if v1 ≤ 0 then some (0, σ) else rp_bd (rc5 σ) (fun _ σ2 => rp_bd (fX7_codes v1 σ2) (fun _ σ4 => rp_bd (fX7_takes 42 σ4) (fun r5 σ6 => (if r5 = 0 then rp_bd (fX7_takes 47 σ6) (fun r7 σ8 => (if r7 = 0 then rp_bd (fX7_takes 37 σ8) (fun r9 σ10 => (if r9 = 0 then fX7_product_110 rc0 rc1 rc2 rc3 rc4 rc5 k51 0 σ10 else fX7_product_110 rc0 rc1 rc2 rc3 rc4 rc5 k51 20009 σ10)) else fX7_product_110 rc0 rc1 rc2 rc3 rc4 rc5 k51 20008 σ8)) else fX7_product_110 rc0 rc1 rc2 rc3 rc4 rc5 k51 20007 σ6)))))
set_option maxRecDepth 100000 in
set_option maxHeartbeats 4000000 in
theorem kX7_product_51 {p : Program} {l : Launch} {e : Env} {s : State} {m : MethodId} {args : Array Value} {below : List Frame} {meth : Method} {c : Code} {D : va_G} {cI cT : ClassId} {ad av a : Nat → Nat} {res : Int32 × rp_St} (dd : Nat) (rc0 : rp_St → Option (Int32 × rp_St)) (hrc0 : ∀  (σ : rp_St) (res : Int32 × rp_St), rc0 σ = some res → mM l D cI cT ad av a yX7_either cX7_either 1 none (5 + dd) [.ref (a 0)] σ (rp_Qv D a (mt cI cT ad a) 15 res)) (rc1 : rp_St → Option (Int32 × rp_St)) (hrc1 : ∀  (σ : rp_St) (res : Int32 × rp_St), rc1 σ = some res → mM l D cI cT ad av a yX7_both cX7_both 1 none (5 + dd) [.ref (a 0)] σ (rp_Qv D a (mt cI cT ad a) 15 res)) (rc2 : rp_St → Option (Int32 × rp_St)) (hrc2 : ∀  (σ : rp_St) (res : Int32 × rp_St), rc2 σ = some res → mM l D cI cT ad av a yX7_compared cX7_compared 2 none (5 + dd) [.ref (a 0)] σ (rp_Qv D a (mt cI cT ad a) 15 res)) (rc3 : rp_St → Option (Int32 × rp_St)) (hrc3 : ∀  (σ : rp_St) (res : Int32 × rp_St), rc3 σ = some res → mM l D cI cT ad av a yX7_sum cX7_sum 2 none (5 + dd) [.ref (a 0)] σ (rp_Qv D a (mt cI cT ad a) 15 res)) (rc4 : rp_St → Option (Int32 × rp_St)) (hrc4 : ∀  (σ : rp_St) (res : Int32 × rp_St), rc4 σ = some res → mM l D cI cT ad av a yX7_product cX7_product 2 none (5 + dd) [.ref (a 0)] σ (rp_Qv D a (mt cI cT ad a) 15 res)) (rc5 : rp_St → Option (Int32 × rp_St)) (hrc5 : ∀  (σ : rp_St) (res : Int32 × rp_St), rc5 σ = some res → mM l D cI cT ad av a yX7_one cX7_one 4 none (5 + dd) [.ref (a 0)] σ (rp_Qv D a (mt cI cT ad a) 15 res)) (hC : mC p s m args meth c cX7_product 2 "RegretPegsModel" none D cI cT ad av a) (k51 : Int32 → rp_St → Option (Int32 × rp_St)) (hk51 : ∀ (v1 : Int32) (σ : rp_St) (H : Heap) (locs : List Loc) (ls : Array Slot), k51 v1 σ = some res → mW D cI cT ad av a s σ H locs → lv_has ls 2 [(0, .ref (a 0)), (1, .int v1)] → W p l e (rp_rm (5 + (dd + 1))) s m args below meth c H locs 0 0 (MQ below (rp_Qv D a (mt cI cT ad a) 15 res) args s 0 0 (rp_A a 15)) (F0 m 51 ls [])) (v1 : Int32) (σ : rp_St) (H : Heap) (locs : List Loc) (ls : Array Slot) (hF : fX7_product_51 rc0 rc1 rc2 rc3 rc4 rc5 k51 v1 σ = some res) (hw : mW D cI cT ad av a s σ H locs) (hl : lv_has ls 2 [(0, .ref (a 0)), (1, .int v1)]) : W p l e (rp_rm (5 + (dd + 1))) s m args below meth c H locs 0 0 (MQ below (rp_Qv D a (mt cI cT ad a) 15 res) args s 0 0 (rp_A a 15)) (F0 m 51 ls []) := by
  have hx := hC.1
  have hb := hC.2.1
  have hown := hC.2.2.2.1
  have hts := hC.2.2.2.2.1
  unfold fX7_product_51 at hF
  refine lv_iload_n (pc := 51) hx hb dX7_product_51 rfl (lv_at hl 1 rfl) ?_
  refine lv_if_le (pc := 52) (tgt := 114) hx hb dX7_product_52 (by decide) (fun hc => ?_) (fun hc => ?_)
  · replace hF := rp_it hc hF
    exact rp_retv (pc := 114) hC hw hF dX7_product_114
  · replace hF := rp_if hc hF
    refine lv_aload_n (pc := 55) hx hb dX7_product_55 rfl (lv_at hl 0 rfl) ?_
    obtain ⟨r1, σ2, hq, hF⟩ := rp_bd_e hF
    refine rp_kv (rp_runV (rest := []) hC (mE_ok _) hw hl.1 (hrc5 σ _ hq) vw_X7_120 (by decide) (mt_obj _) rfl rfl rfl (Nat.le_of_ble_eq_true rfl) (by omega) dX7_product_56) hw (fun H locs hw => ?_)
    clear hq
    refine lv_aload_n (pc := 59) hx hb dX7_product_59 rfl (lv_at hl 0 rfl) ?_
    refine lv_iload_n (pc := 60) hx hb dX7_product_60 rfl (lv_at hl 1 rfl) ?_
    obtain ⟨r3, σ4, hq, hF⟩ := rp_bd_e hF
    refine rp_kv (rp_runV (rest := []) hC (mE_ok _) hw hl.1 (mX7_codes (l := l) v1 σ2 _ hq) vw_X7_107 (by decide) (mt_obj _) rfl rfl rfl (Nat.le_of_ble_eq_true rfl) (by omega) dX7_product_61) hw (fun H locs hw => ?_)
    clear hq
    refine lv_aload_n (pc := 64) hx hb dX7_product_64 rfl (lv_at hl 0 rfl) ?_
    refine lv_bipush (pc := 65) (v := 42) hx hb dX7_product_65 (by decide) ?_
    obtain ⟨r5, σ6, hq, hF⟩ := rp_bd_e hF
    refine rp_ki (rp_runV (rest := []) hC (mE_ok _) hw hl.1 (mX7_takes (l := l) 42 σ4 _ hq) vw_X7_103 (by decide) (mt_obj _) rfl rfl rfl (Nat.le_of_ble_eq_true rfl) (by omega) dX7_product_67) hw (fun H locs hw => ?_)
    clear hq
    refine lv_if_eq (pc := 70) (tgt := 79) hx hb dX7_product_70 (by decide) (fun hc => ?_) (fun hc => ?_)
    · replace hF := rp_it hc hF
      refine lv_aload_n (pc := 79) hx hb dX7_product_79 rfl (lv_at hl 0 rfl) ?_
      refine lv_bipush (pc := 80) (v := 47) hx hb dX7_product_80 (by decide) ?_
      obtain ⟨r7, σ8, hq, hF⟩ := rp_bd_e hF
      refine rp_ki (rp_runV (rest := []) hC (mE_ok _) hw hl.1 (mX7_takes (l := l) 47 σ6 _ hq) vw_X7_103 (by decide) (mt_obj _) rfl rfl rfl (Nat.le_of_ble_eq_true rfl) (by omega) dX7_product_82) hw (fun H locs hw => ?_)
      clear hq
      refine lv_if_eq (pc := 85) (tgt := 94) hx hb dX7_product_85 (by decide) (fun hc => ?_) (fun hc => ?_)
      · replace hF := rp_it hc hF
        refine lv_aload_n (pc := 94) hx hb dX7_product_94 rfl (lv_at hl 0 rfl) ?_
        refine lv_bipush (pc := 95) (v := 37) hx hb dX7_product_95 (by decide) ?_
        obtain ⟨r9, σ10, hq, hF⟩ := rp_bd_e hF
        refine rp_ki (rp_runV (rest := []) hC (mE_ok _) hw hl.1 (mX7_takes (l := l) 37 σ8 _ hq) vw_X7_103 (by decide) (mt_obj _) rfl rfl rfl (Nat.le_of_ble_eq_true rfl) (by omega) dX7_product_97) hw (fun H locs hw => ?_)
        clear hq
        refine lv_if_eq (pc := 100) (tgt := 109) hx hb dX7_product_100 (by decide) (fun hc => ?_) (fun hc => ?_)
        · replace hF := rp_it hc hF
          refine lv_iconst (pc := 109) (v := 0) hx hb dX7_product_109 (by decide) ?_
          exact kX7_product_110 dd rc0 hrc0 rc1 hrc1 rc2 hrc2 rc3 hrc3 rc4 hrc4 rc5 hrc5 hC k51 hk51 0 σ10 _ _ _ hF hw (lv_sub hl [0] rfl)
        · replace hF := rp_if hc hF
          refine lv_sipush (pc := 103) (v := 20009) hx hb dX7_product_103 (by decide) ?_
          refine lv_goto (pc := 106) (tgt := 110) hx hb dX7_product_106 (by decide) ?_
          exact kX7_product_110 dd rc0 hrc0 rc1 hrc1 rc2 hrc2 rc3 hrc3 rc4 hrc4 rc5 hrc5 hC k51 hk51 20009 σ10 _ _ _ hF hw (lv_sub hl [0] rfl)
      · replace hF := rp_if hc hF
        refine lv_sipush (pc := 88) (v := 20008) hx hb dX7_product_88 (by decide) ?_
        refine lv_goto (pc := 91) (tgt := 110) hx hb dX7_product_91 (by decide) ?_
        exact kX7_product_110 dd rc0 hrc0 rc1 hrc1 rc2 hrc2 rc3 hrc3 rc4 hrc4 rc5 hrc5 hC k51 hk51 20008 σ8 _ _ _ hF hw (lv_sub hl [0] rfl)
    · replace hF := rp_if hc hF
      refine lv_sipush (pc := 73) (v := 20007) hx hb dX7_product_73 (by decide) ?_
      refine lv_goto (pc := 76) (tgt := 110) hx hb dX7_product_76 (by decide) ?_
      exact kX7_product_110 dd rc0 hrc0 rc1 hrc1 rc2 hrc2 rc3 hrc3 rc4 hrc4 rc5 hrc5 hC k51 hk51 20007 σ6 _ _ _ hF hw (lv_sub hl [0] rfl)
theorem lX7_product_51 {p : Program} {l : Launch} {e : Env} {s : State} {m : MethodId} {args : Array Value} {below : List Frame} {meth : Method} {c : Code} {D : va_G} {cI cT : ClassId} {ad av a : Nat → Nat} {res : Int32 × rp_St} (dd : Nat) (rc0 : rp_St → Option (Int32 × rp_St)) (hrc0 : ∀  (σ : rp_St) (res : Int32 × rp_St), rc0 σ = some res → mM l D cI cT ad av a yX7_either cX7_either 1 none (5 + dd) [.ref (a 0)] σ (rp_Qv D a (mt cI cT ad a) 15 res)) (rc1 : rp_St → Option (Int32 × rp_St)) (hrc1 : ∀  (σ : rp_St) (res : Int32 × rp_St), rc1 σ = some res → mM l D cI cT ad av a yX7_both cX7_both 1 none (5 + dd) [.ref (a 0)] σ (rp_Qv D a (mt cI cT ad a) 15 res)) (rc2 : rp_St → Option (Int32 × rp_St)) (hrc2 : ∀  (σ : rp_St) (res : Int32 × rp_St), rc2 σ = some res → mM l D cI cT ad av a yX7_compared cX7_compared 2 none (5 + dd) [.ref (a 0)] σ (rp_Qv D a (mt cI cT ad a) 15 res)) (rc3 : rp_St → Option (Int32 × rp_St)) (hrc3 : ∀  (σ : rp_St) (res : Int32 × rp_St), rc3 σ = some res → mM l D cI cT ad av a yX7_sum cX7_sum 2 none (5 + dd) [.ref (a 0)] σ (rp_Qv D a (mt cI cT ad a) 15 res)) (rc4 : rp_St → Option (Int32 × rp_St)) (hrc4 : ∀  (σ : rp_St) (res : Int32 × rp_St), rc4 σ = some res → mM l D cI cT ad av a yX7_product cX7_product 2 none (5 + dd) [.ref (a 0)] σ (rp_Qv D a (mt cI cT ad a) 15 res)) (rc5 : rp_St → Option (Int32 × rp_St)) (hrc5 : ∀  (σ : rp_St) (res : Int32 × rp_St), rc5 σ = some res → mM l D cI cT ad av a yX7_one cX7_one 4 none (5 + dd) [.ref (a 0)] σ (rp_Qv D a (mt cI cT ad a) 15 res)) (hC : mC p s m args meth c cX7_product 2 "RegretPegsModel" none D cI cT ad av a) : ∀ (n : Nat) (v1 : Int32) (σ : rp_St) (H : Heap) (locs : List Loc) (ls : Array Slot), rp_lp (fun _ _ => none) (fX7_product_51 rc0 rc1 rc2 rc3 rc4 rc5) n v1 σ = some res → mW D cI cT ad av a s σ H locs → lv_has ls 2 [(0, .ref (a 0)), (1, .int v1)] → W p l e (rp_rm (5 + (dd + 1))) s m args below meth c H locs 0 0 (MQ below (rp_Qv D a (mt cI cT ad a) 15 res) args s 0 0 (rp_A a 15)) (F0 m 51 ls [])
  | 0, _, _, _, _, _, hF, _, _ => nomatch hF
  | n + 1, v1, σ, H, locs, ls, hF, hw, hl => kX7_product_51 dd rc0 hrc0 rc1 hrc1 rc2 hrc2 rc3 hrc3 rc4 hrc4 rc5 hrc5 hC (rp_lp (fun _ _ => none) (fX7_product_51 rc0 rc1 rc2 rc3 rc4 rc5) n) (lX7_product_51 dd rc0 hrc0 rc1 hrc1 rc2 hrc2 rc3 hrc3 rc4 hrc4 rc5 hrc5 hC n) v1 σ H locs ls hF hw hl
def fX7_product_50 (rc0 : rp_St → Option (Int32 × rp_St)) (rc1 : rp_St → Option (Int32 × rp_St)) (rc2 : rp_St → Option (Int32 × rp_St)) (rc3 : rp_St → Option (Int32 × rp_St)) (rc4 : rp_St → Option (Int32 × rp_St)) (rc5 : rp_St → Option (Int32 × rp_St)) (t0 : Int32) (σ : rp_St) : Option (Int32 × rp_St) :=
  rp_lp (fun _ _ => none) (fX7_product_51 rc0 rc1 rc2 rc3 rc4 rc5) 300 t0 σ
set_option maxRecDepth 100000 in
set_option maxHeartbeats 4000000 in
theorem kX7_product_50 {p : Program} {l : Launch} {e : Env} {s : State} {m : MethodId} {args : Array Value} {below : List Frame} {meth : Method} {c : Code} {D : va_G} {cI cT : ClassId} {ad av a : Nat → Nat} {res : Int32 × rp_St} (dd : Nat) (rc0 : rp_St → Option (Int32 × rp_St)) (hrc0 : ∀  (σ : rp_St) (res : Int32 × rp_St), rc0 σ = some res → mM l D cI cT ad av a yX7_either cX7_either 1 none (5 + dd) [.ref (a 0)] σ (rp_Qv D a (mt cI cT ad a) 15 res)) (rc1 : rp_St → Option (Int32 × rp_St)) (hrc1 : ∀  (σ : rp_St) (res : Int32 × rp_St), rc1 σ = some res → mM l D cI cT ad av a yX7_both cX7_both 1 none (5 + dd) [.ref (a 0)] σ (rp_Qv D a (mt cI cT ad a) 15 res)) (rc2 : rp_St → Option (Int32 × rp_St)) (hrc2 : ∀  (σ : rp_St) (res : Int32 × rp_St), rc2 σ = some res → mM l D cI cT ad av a yX7_compared cX7_compared 2 none (5 + dd) [.ref (a 0)] σ (rp_Qv D a (mt cI cT ad a) 15 res)) (rc3 : rp_St → Option (Int32 × rp_St)) (hrc3 : ∀  (σ : rp_St) (res : Int32 × rp_St), rc3 σ = some res → mM l D cI cT ad av a yX7_sum cX7_sum 2 none (5 + dd) [.ref (a 0)] σ (rp_Qv D a (mt cI cT ad a) 15 res)) (rc4 : rp_St → Option (Int32 × rp_St)) (hrc4 : ∀  (σ : rp_St) (res : Int32 × rp_St), rc4 σ = some res → mM l D cI cT ad av a yX7_product cX7_product 2 none (5 + dd) [.ref (a 0)] σ (rp_Qv D a (mt cI cT ad a) 15 res)) (rc5 : rp_St → Option (Int32 × rp_St)) (hrc5 : ∀  (σ : rp_St) (res : Int32 × rp_St), rc5 σ = some res → mM l D cI cT ad av a yX7_one cX7_one 4 none (5 + dd) [.ref (a 0)] σ (rp_Qv D a (mt cI cT ad a) 15 res)) (hC : mC p s m args meth c cX7_product 2 "RegretPegsModel" none D cI cT ad av a) (t0 : Int32) (σ : rp_St) (H : Heap) (locs : List Loc) (ls : Array Slot) (hF : fX7_product_50 rc0 rc1 rc2 rc3 rc4 rc5 t0 σ = some res) (hw : mW D cI cT ad av a s σ H locs) (hl : lv_has ls 2 [(0, .ref (a 0))]) : W p l e (rp_rm (5 + (dd + 1))) s m args below meth c H locs 0 0 (MQ below (rp_Qv D a (mt cI cT ad a) 15 res) args s 0 0 (rp_A a 15)) (F0 m 50 ls [.int t0]) := by
  have hx := hC.1
  have hb := hC.2.1
  have hown := hC.2.2.2.1
  have hts := hC.2.2.2.2.1
  unfold fX7_product_50 at hF
  refine lv_istore_n (pc := 50) (lv' := [(1, .int t0), (0, .ref (a 0))]) hx hb dX7_product_50 rfl hl (by decide) rfl (fun ls hl => ?_)
  exact lX7_product_51 dd rc0 hrc0 rc1 hrc1 rc2 hrc2 rc3 hrc3 rc4 hrc4 rc5 hrc5 hC 300 t0 σ _ _ _ hF hw (lv_sub hl [1, 0] rfl)
def fX7_product (rc0 : rp_St → Option (Int32 × rp_St)) (rc1 : rp_St → Option (Int32 × rp_St)) (rc2 : rp_St → Option (Int32 × rp_St)) (rc3 : rp_St → Option (Int32 × rp_St)) (rc4 : rp_St → Option (Int32 × rp_St)) (rc5 : rp_St → Option (Int32 × rp_St)) (σ : rp_St) : Option (Int32 × rp_St) :=
  rp_bd (rc5 σ) (fun _ σ2 => rp_bd (fX7_takes 42 σ2) (fun r3 σ4 => (if r3 = 0 then rp_bd (fX7_takes 47 σ4) (fun r5 σ6 => (if r5 = 0 then rp_bd (fX7_takes 37 σ6) (fun r7 σ8 => (if r7 = 0 then fX7_product_50 rc0 rc1 rc2 rc3 rc4 rc5 0 σ8 else fX7_product_50 rc0 rc1 rc2 rc3 rc4 rc5 20009 σ8)) else fX7_product_50 rc0 rc1 rc2 rc3 rc4 rc5 20008 σ6)) else fX7_product_50 rc0 rc1 rc2 rc3 rc4 rc5 20007 σ4)))
set_option maxRecDepth 100000 in
set_option maxHeartbeats 4000000 in
theorem kX7_product_0 {p : Program} {l : Launch} {e : Env} {s : State} {m : MethodId} {args : Array Value} {below : List Frame} {meth : Method} {c : Code} {D : va_G} {cI cT : ClassId} {ad av a : Nat → Nat} {res : Int32 × rp_St} (dd : Nat) (rc0 : rp_St → Option (Int32 × rp_St)) (hrc0 : ∀  (σ : rp_St) (res : Int32 × rp_St), rc0 σ = some res → mM l D cI cT ad av a yX7_either cX7_either 1 none (5 + dd) [.ref (a 0)] σ (rp_Qv D a (mt cI cT ad a) 15 res)) (rc1 : rp_St → Option (Int32 × rp_St)) (hrc1 : ∀  (σ : rp_St) (res : Int32 × rp_St), rc1 σ = some res → mM l D cI cT ad av a yX7_both cX7_both 1 none (5 + dd) [.ref (a 0)] σ (rp_Qv D a (mt cI cT ad a) 15 res)) (rc2 : rp_St → Option (Int32 × rp_St)) (hrc2 : ∀  (σ : rp_St) (res : Int32 × rp_St), rc2 σ = some res → mM l D cI cT ad av a yX7_compared cX7_compared 2 none (5 + dd) [.ref (a 0)] σ (rp_Qv D a (mt cI cT ad a) 15 res)) (rc3 : rp_St → Option (Int32 × rp_St)) (hrc3 : ∀  (σ : rp_St) (res : Int32 × rp_St), rc3 σ = some res → mM l D cI cT ad av a yX7_sum cX7_sum 2 none (5 + dd) [.ref (a 0)] σ (rp_Qv D a (mt cI cT ad a) 15 res)) (rc4 : rp_St → Option (Int32 × rp_St)) (hrc4 : ∀  (σ : rp_St) (res : Int32 × rp_St), rc4 σ = some res → mM l D cI cT ad av a yX7_product cX7_product 2 none (5 + dd) [.ref (a 0)] σ (rp_Qv D a (mt cI cT ad a) 15 res)) (rc5 : rp_St → Option (Int32 × rp_St)) (hrc5 : ∀  (σ : rp_St) (res : Int32 × rp_St), rc5 σ = some res → mM l D cI cT ad av a yX7_one cX7_one 4 none (5 + dd) [.ref (a 0)] σ (rp_Qv D a (mt cI cT ad a) 15 res)) (hC : mC p s m args meth c cX7_product 2 "RegretPegsModel" none D cI cT ad av a) (σ : rp_St) (H : Heap) (locs : List Loc) (ls : Array Slot) (hF : fX7_product rc0 rc1 rc2 rc3 rc4 rc5 σ = some res) (hw : mW D cI cT ad av a s σ H locs) (hl : lv_has ls 2 [(0, .ref (a 0))]) : W p l e (rp_rm (5 + (dd + 1))) s m args below meth c H locs 0 0 (MQ below (rp_Qv D a (mt cI cT ad a) 15 res) args s 0 0 (rp_A a 15)) (F0 m 0 ls []) := by
  have hx := hC.1
  have hb := hC.2.1
  have hown := hC.2.2.2.1
  have hts := hC.2.2.2.2.1
  unfold fX7_product at hF
  refine lv_aload_n (pc := 0) hx hb dX7_product_0 rfl (lv_at hl 0 rfl) ?_
  obtain ⟨r1, σ2, hq, hF⟩ := rp_bd_e hF
  refine rp_kv (rp_runV (rest := []) hC (mE_ok _) hw hl.1 (hrc5 σ _ hq) vw_X7_120 (by decide) (mt_obj _) rfl rfl rfl (Nat.le_of_ble_eq_true rfl) (by omega) dX7_product_1) hw (fun H locs hw => ?_)
  clear hq
  refine lv_aload_n (pc := 4) hx hb dX7_product_4 rfl (lv_at hl 0 rfl) ?_
  refine lv_bipush (pc := 5) (v := 42) hx hb dX7_product_5 (by decide) ?_
  obtain ⟨r3, σ4, hq, hF⟩ := rp_bd_e hF
  refine rp_ki (rp_runV (rest := []) hC (mE_ok _) hw hl.1 (mX7_takes (l := l) 42 σ2 _ hq) vw_X7_103 (by decide) (mt_obj _) rfl rfl rfl (Nat.le_of_ble_eq_true rfl) (by omega) dX7_product_7) hw (fun H locs hw => ?_)
  clear hq
  refine lv_if_eq (pc := 10) (tgt := 19) hx hb dX7_product_10 (by decide) (fun hc => ?_) (fun hc => ?_)
  · replace hF := rp_it hc hF
    refine lv_aload_n (pc := 19) hx hb dX7_product_19 rfl (lv_at hl 0 rfl) ?_
    refine lv_bipush (pc := 20) (v := 47) hx hb dX7_product_20 (by decide) ?_
    obtain ⟨r5, σ6, hq, hF⟩ := rp_bd_e hF
    refine rp_ki (rp_runV (rest := []) hC (mE_ok _) hw hl.1 (mX7_takes (l := l) 47 σ4 _ hq) vw_X7_103 (by decide) (mt_obj _) rfl rfl rfl (Nat.le_of_ble_eq_true rfl) (by omega) dX7_product_22) hw (fun H locs hw => ?_)
    clear hq
    refine lv_if_eq (pc := 25) (tgt := 34) hx hb dX7_product_25 (by decide) (fun hc => ?_) (fun hc => ?_)
    · replace hF := rp_it hc hF
      refine lv_aload_n (pc := 34) hx hb dX7_product_34 rfl (lv_at hl 0 rfl) ?_
      refine lv_bipush (pc := 35) (v := 37) hx hb dX7_product_35 (by decide) ?_
      obtain ⟨r7, σ8, hq, hF⟩ := rp_bd_e hF
      refine rp_ki (rp_runV (rest := []) hC (mE_ok _) hw hl.1 (mX7_takes (l := l) 37 σ6 _ hq) vw_X7_103 (by decide) (mt_obj _) rfl rfl rfl (Nat.le_of_ble_eq_true rfl) (by omega) dX7_product_37) hw (fun H locs hw => ?_)
      clear hq
      refine lv_if_eq (pc := 40) (tgt := 49) hx hb dX7_product_40 (by decide) (fun hc => ?_) (fun hc => ?_)
      · replace hF := rp_it hc hF
        refine lv_iconst (pc := 49) (v := 0) hx hb dX7_product_49 (by decide) ?_
        exact kX7_product_50 dd rc0 hrc0 rc1 hrc1 rc2 hrc2 rc3 hrc3 rc4 hrc4 rc5 hrc5 hC 0 σ8 _ _ _ hF hw (lv_sub hl [0] rfl)
      · replace hF := rp_if hc hF
        refine lv_sipush (pc := 43) (v := 20009) hx hb dX7_product_43 (by decide) ?_
        refine lv_goto (pc := 46) (tgt := 50) hx hb dX7_product_46 (by decide) ?_
        exact kX7_product_50 dd rc0 hrc0 rc1 hrc1 rc2 hrc2 rc3 hrc3 rc4 hrc4 rc5 hrc5 hC 20009 σ8 _ _ _ hF hw (lv_sub hl [0] rfl)
    · replace hF := rp_if hc hF
      refine lv_sipush (pc := 28) (v := 20008) hx hb dX7_product_28 (by decide) ?_
      refine lv_goto (pc := 31) (tgt := 50) hx hb dX7_product_31 (by decide) ?_
      exact kX7_product_50 dd rc0 hrc0 rc1 hrc1 rc2 hrc2 rc3 hrc3 rc4 hrc4 rc5 hrc5 hC 20008 σ6 _ _ _ hF hw (lv_sub hl [0] rfl)
  · replace hF := rp_if hc hF
    refine lv_sipush (pc := 13) (v := 20007) hx hb dX7_product_13 (by decide) ?_
    refine lv_goto (pc := 16) (tgt := 50) hx hb dX7_product_16 (by decide) ?_
    exact kX7_product_50 dd rc0 hrc0 rc1 hrc1 rc2 hrc2 rc3 hrc3 rc4 hrc4 rc5 hrc5 hC 20007 σ4 _ _ _ hF hw (lv_sub hl [0] rfl)
def fX7_one_103 (rc0 : rp_St → Option (Int32 × rp_St)) (rc1 : rp_St → Option (Int32 × rp_St)) (rc2 : rp_St → Option (Int32 × rp_St)) (rc3 : rp_St → Option (Int32 × rp_St)) (rc4 : rp_St → Option (Int32 × rp_St)) (rc5 : rp_St → Option (Int32 × rp_St)) (σ : rp_St) : Option (Int32 × rp_St) :=
  rp_nm (rp_put σ 0 8 ((σ 0 8) - 1)) (fun σ1 => some (0, σ1))
set_option maxRecDepth 100000 in
set_option maxHeartbeats 4000000 in
theorem kX7_one_103 {p : Program} {l : Launch} {e : Env} {s : State} {m : MethodId} {args : Array Value} {below : List Frame} {meth : Method} {c : Code} {D : va_G} {cI cT : ClassId} {ad av a : Nat → Nat} {res : Int32 × rp_St} (dd : Nat) (rc0 : rp_St → Option (Int32 × rp_St)) (hrc0 : ∀  (σ : rp_St) (res : Int32 × rp_St), rc0 σ = some res → mM l D cI cT ad av a yX7_either cX7_either 1 none (5 + dd) [.ref (a 0)] σ (rp_Qv D a (mt cI cT ad a) 15 res)) (rc1 : rp_St → Option (Int32 × rp_St)) (hrc1 : ∀  (σ : rp_St) (res : Int32 × rp_St), rc1 σ = some res → mM l D cI cT ad av a yX7_both cX7_both 1 none (5 + dd) [.ref (a 0)] σ (rp_Qv D a (mt cI cT ad a) 15 res)) (rc2 : rp_St → Option (Int32 × rp_St)) (hrc2 : ∀  (σ : rp_St) (res : Int32 × rp_St), rc2 σ = some res → mM l D cI cT ad av a yX7_compared cX7_compared 2 none (5 + dd) [.ref (a 0)] σ (rp_Qv D a (mt cI cT ad a) 15 res)) (rc3 : rp_St → Option (Int32 × rp_St)) (hrc3 : ∀  (σ : rp_St) (res : Int32 × rp_St), rc3 σ = some res → mM l D cI cT ad av a yX7_sum cX7_sum 2 none (5 + dd) [.ref (a 0)] σ (rp_Qv D a (mt cI cT ad a) 15 res)) (rc4 : rp_St → Option (Int32 × rp_St)) (hrc4 : ∀  (σ : rp_St) (res : Int32 × rp_St), rc4 σ = some res → mM l D cI cT ad av a yX7_product cX7_product 2 none (5 + dd) [.ref (a 0)] σ (rp_Qv D a (mt cI cT ad a) 15 res)) (rc5 : rp_St → Option (Int32 × rp_St)) (hrc5 : ∀  (σ : rp_St) (res : Int32 × rp_St), rc5 σ = some res → mM l D cI cT ad av a yX7_one cX7_one 4 none (5 + dd) [.ref (a 0)] σ (rp_Qv D a (mt cI cT ad a) 15 res)) (hC : mC p s m args meth c cX7_one 4 "RegretPegsModel" none D cI cT ad av a) (σ : rp_St) (H : Heap) (locs : List Loc) (ls : Array Slot) (hF : fX7_one_103 rc0 rc1 rc2 rc3 rc4 rc5 σ = some res) (hw : mW D cI cT ad av a s σ H locs) (hl : lv_has ls 4 [(0, .ref (a 0))]) : W p l e (rp_rm (5 + (dd + 1))) s m args below meth c H locs 0 0 (MQ below (rp_Qv D a (mt cI cT ad a) 15 res) args s 0 0 (rp_A a 15)) (F0 m 103 ls []) := by
  have hx := hC.1
  have hb := hC.2.1
  have hown := hC.2.2.2.1
  have hts := hC.2.2.2.2.1
  unfold fX7_one_103 at hF
  refine lv_aload_n (pc := 103) hx hb dX7_one_103 rfl (lv_at hl 0 rfl) ?_
  refine lv_dup (pc := 104) hx hb dX7_one_104 rfl ?_
  refine rp_get (pc := 105) hC hw 0 (by decide) (mt_obj _) fl_X7_133 (.int (σ 0 8)) rfl dX7_one_105 ?_
  refine lv_iconst (pc := 108) (v := 1) hx hb dX7_one_108 (by decide) ?_
  refine lv_isub (pc := 109) hx hb dX7_one_109 ?_
  refine rp_set (pc := 110) (fs := mb_obj a) hC hw 0 (by decide) mt_obj fg_X7_133 rfl (Nat.le_of_ble_eq_true rfl) rfl rfl dX7_one_110 (fun H locs hw => ?_)
  obtain ⟨σ1, eσ1, hF⟩ := rp_nm_e hF
  replace hw := rp_Wn eσ1 hw
  clear eσ1
  refine lv_goto (pc := 113) (tgt := 247) hx hb dX7_one_113 (by decide) ?_
  exact rp_retv (pc := 247) hC hw hF dX7_one_247
def fX7_one_100 (rc0 : rp_St → Option (Int32 × rp_St)) (rc1 : rp_St → Option (Int32 × rp_St)) (rc2 : rp_St → Option (Int32 × rp_St)) (rc3 : rp_St → Option (Int32 × rp_St)) (rc4 : rp_St → Option (Int32 × rp_St)) (rc5 : rp_St → Option (Int32 × rp_St)) (t0 : Int32) (σ : rp_St) : Option (Int32 × rp_St) :=
  rp_gu (t0 == 0 || t0 == 1) (rp_nm (rp_put σ 0 10 t0) (fun σ1 => fX7_one_103 rc0 rc1 rc2 rc3 rc4 rc5 σ1))
set_option maxRecDepth 100000 in
set_option maxHeartbeats 4000000 in
theorem kX7_one_100 {p : Program} {l : Launch} {e : Env} {s : State} {m : MethodId} {args : Array Value} {below : List Frame} {meth : Method} {c : Code} {D : va_G} {cI cT : ClassId} {ad av a : Nat → Nat} {res : Int32 × rp_St} (dd : Nat) (rc0 : rp_St → Option (Int32 × rp_St)) (hrc0 : ∀  (σ : rp_St) (res : Int32 × rp_St), rc0 σ = some res → mM l D cI cT ad av a yX7_either cX7_either 1 none (5 + dd) [.ref (a 0)] σ (rp_Qv D a (mt cI cT ad a) 15 res)) (rc1 : rp_St → Option (Int32 × rp_St)) (hrc1 : ∀  (σ : rp_St) (res : Int32 × rp_St), rc1 σ = some res → mM l D cI cT ad av a yX7_both cX7_both 1 none (5 + dd) [.ref (a 0)] σ (rp_Qv D a (mt cI cT ad a) 15 res)) (rc2 : rp_St → Option (Int32 × rp_St)) (hrc2 : ∀  (σ : rp_St) (res : Int32 × rp_St), rc2 σ = some res → mM l D cI cT ad av a yX7_compared cX7_compared 2 none (5 + dd) [.ref (a 0)] σ (rp_Qv D a (mt cI cT ad a) 15 res)) (rc3 : rp_St → Option (Int32 × rp_St)) (hrc3 : ∀  (σ : rp_St) (res : Int32 × rp_St), rc3 σ = some res → mM l D cI cT ad av a yX7_sum cX7_sum 2 none (5 + dd) [.ref (a 0)] σ (rp_Qv D a (mt cI cT ad a) 15 res)) (rc4 : rp_St → Option (Int32 × rp_St)) (hrc4 : ∀  (σ : rp_St) (res : Int32 × rp_St), rc4 σ = some res → mM l D cI cT ad av a yX7_product cX7_product 2 none (5 + dd) [.ref (a 0)] σ (rp_Qv D a (mt cI cT ad a) 15 res)) (rc5 : rp_St → Option (Int32 × rp_St)) (hrc5 : ∀  (σ : rp_St) (res : Int32 × rp_St), rc5 σ = some res → mM l D cI cT ad av a yX7_one cX7_one 4 none (5 + dd) [.ref (a 0)] σ (rp_Qv D a (mt cI cT ad a) 15 res)) (hC : mC p s m args meth c cX7_one 4 "RegretPegsModel" none D cI cT ad av a) (t0 : Int32) (σ : rp_St) (H : Heap) (locs : List Loc) (ls : Array Slot) (hF : fX7_one_100 rc0 rc1 rc2 rc3 rc4 rc5 t0 σ = some res) (hw : mW D cI cT ad av a s σ H locs) (hl : lv_has ls 4 [(0, .ref (a 0))]) : W p l e (rp_rm (5 + (dd + 1))) s m args below meth c H locs 0 0 (MQ below (rp_Qv D a (mt cI cT ad a) 15 res) args s 0 0 (rp_A a 15)) (F0 m 100 ls [.int t0, .ref (a 0)]) := by
  have hx := hC.1
  have hb := hC.2.1
  have hown := hC.2.2.2.1
  have hts := hC.2.2.2.2.1
  unfold fX7_one_100 at hF
  obtain ⟨hg, hF⟩ := rp_gu_e hF
  refine rp_set (pc := 100) (fs := mb_obj a) hC hw 0 (by decide) mt_obj fg_X7_85 rfl (Nat.le_of_ble_eq_true rfl) (rp_nz hg).1 (rp_nz hg).2 dX7_one_100 (fun H locs hw => ?_)
  obtain ⟨σ1, eσ1, hF⟩ := rp_nm_e hF
  replace hw := rp_Wn eσ1 hw
  clear eσ1
  exact kX7_one_103 dd rc0 hrc0 rc1 hrc1 rc2 hrc2 rc3 hrc3 rc4 hrc4 rc5 hrc5 hC σ1 _ _ _ hF hw (lv_sub hl [0] rfl)
def fX7_one_31 (rc0 : rp_St → Option (Int32 × rp_St)) (rc1 : rp_St → Option (Int32 × rp_St)) (rc2 : rp_St → Option (Int32 × rp_St)) (rc3 : rp_St → Option (Int32 × rp_St)) (rc4 : rp_St → Option (Int32 × rp_St)) (rc5 : rp_St → Option (Int32 × rp_St)) (v1 : Int32) (t0 : Int32) (σ : rp_St) : Option (Int32 × rp_St) :=
  rp_gu (t0 == 0 || t0 == 1) (rp_nm (rp_put σ 0 10 t0) (fun σ1 => (if (σ1 0 10) = 0 then rp_nm (rp_put σ1 0 8 ((σ1 0 8) + 1)) (fun σ2 => rp_nm (rp_put σ2 0 7 ((σ2 0 7) + 1)) (fun σ3 => (if v1 = 33 then rp_bd (rc5 σ3) (fun _ σ9 => rp_bd (fX7_codes 20010 σ9) (fun _ σ11 => fX7_one_103 rc0 rc1 rc2 rc3 rc4 rc5 σ11)) else rp_bd (rc0 σ3) (fun _ σ5 => rp_bd (fX7_takes 41 σ5) (fun r6 σ7 => (if r6 = 0 then fX7_one_100 rc0 rc1 rc2 rc3 rc4 rc5 1 σ7 else fX7_one_100 rc0 rc1 rc2 rc3 rc4 rc5 0 σ7)))))) else some (0, σ1))))
set_option maxRecDepth 100000 in
set_option maxHeartbeats 4000000 in
theorem kX7_one_31 {p : Program} {l : Launch} {e : Env} {s : State} {m : MethodId} {args : Array Value} {below : List Frame} {meth : Method} {c : Code} {D : va_G} {cI cT : ClassId} {ad av a : Nat → Nat} {res : Int32 × rp_St} (dd : Nat) (rc0 : rp_St → Option (Int32 × rp_St)) (hrc0 : ∀  (σ : rp_St) (res : Int32 × rp_St), rc0 σ = some res → mM l D cI cT ad av a yX7_either cX7_either 1 none (5 + dd) [.ref (a 0)] σ (rp_Qv D a (mt cI cT ad a) 15 res)) (rc1 : rp_St → Option (Int32 × rp_St)) (hrc1 : ∀  (σ : rp_St) (res : Int32 × rp_St), rc1 σ = some res → mM l D cI cT ad av a yX7_both cX7_both 1 none (5 + dd) [.ref (a 0)] σ (rp_Qv D a (mt cI cT ad a) 15 res)) (rc2 : rp_St → Option (Int32 × rp_St)) (hrc2 : ∀  (σ : rp_St) (res : Int32 × rp_St), rc2 σ = some res → mM l D cI cT ad av a yX7_compared cX7_compared 2 none (5 + dd) [.ref (a 0)] σ (rp_Qv D a (mt cI cT ad a) 15 res)) (rc3 : rp_St → Option (Int32 × rp_St)) (hrc3 : ∀  (σ : rp_St) (res : Int32 × rp_St), rc3 σ = some res → mM l D cI cT ad av a yX7_sum cX7_sum 2 none (5 + dd) [.ref (a 0)] σ (rp_Qv D a (mt cI cT ad a) 15 res)) (rc4 : rp_St → Option (Int32 × rp_St)) (hrc4 : ∀  (σ : rp_St) (res : Int32 × rp_St), rc4 σ = some res → mM l D cI cT ad av a yX7_product cX7_product 2 none (5 + dd) [.ref (a 0)] σ (rp_Qv D a (mt cI cT ad a) 15 res)) (rc5 : rp_St → Option (Int32 × rp_St)) (hrc5 : ∀  (σ : rp_St) (res : Int32 × rp_St), rc5 σ = some res → mM l D cI cT ad av a yX7_one cX7_one 4 none (5 + dd) [.ref (a 0)] σ (rp_Qv D a (mt cI cT ad a) 15 res)) (hC : mC p s m args meth c cX7_one 4 "RegretPegsModel" none D cI cT ad av a) (v1 : Int32) (t0 : Int32) (σ : rp_St) (H : Heap) (locs : List Loc) (ls : Array Slot) (hF : fX7_one_31 rc0 rc1 rc2 rc3 rc4 rc5 v1 t0 σ = some res) (hw : mW D cI cT ad av a s σ H locs) (hl : lv_has ls 4 [(0, .ref (a 0)), (1, .int v1)]) : W p l e (rp_rm (5 + (dd + 1))) s m args below meth c H locs 0 0 (MQ below (rp_Qv D a (mt cI cT ad a) 15 res) args s 0 0 (rp_A a 15)) (F0 m 31 ls [.int t0, .ref (a 0)]) := by
  have hx := hC.1
  have hb := hC.2.1
  have hown := hC.2.2.2.1
  have hts := hC.2.2.2.2.1
  unfold fX7_one_31 at hF
  obtain ⟨hg, hF⟩ := rp_gu_e hF
  refine rp_set (pc := 31) (fs := mb_obj a) hC hw 0 (by decide) mt_obj fg_X7_85 rfl (Nat.le_of_ble_eq_true rfl) (rp_nz hg).1 (rp_nz hg).2 dX7_one_31 (fun H locs hw => ?_)
  obtain ⟨σ1, eσ1, hF⟩ := rp_nm_e hF
  replace hw := rp_Wn eσ1 hw
  clear eσ1
  refine lv_aload_n (pc := 34) hx hb dX7_one_34 rfl (lv_at hl 0 rfl) ?_
  refine rp_get (pc := 35) hC hw 0 (by decide) (mt_obj _) fl_X7_85 (.int (σ1 0 10)) rfl dX7_one_35 ?_
  refine lv_if_ne (pc := 38) (tgt := 247) hx hb dX7_one_38 (by decide) (fun hc => ?_) (fun hc => ?_)
  · replace hF := rp_if hc hF
    exact rp_retv (pc := 247) hC hw hF dX7_one_247
  · replace hF := rp_it hc hF
    refine lv_aload_n (pc := 41) hx hb dX7_one_41 rfl (lv_at hl 0 rfl) ?_
    refine lv_dup (pc := 42) hx hb dX7_one_42 rfl ?_
    refine rp_get (pc := 43) hC hw 0 (by decide) (mt_obj _) fl_X7_133 (.int (σ1 0 8)) rfl dX7_one_43 ?_
    refine lv_iconst (pc := 46) (v := 1) hx hb dX7_one_46 (by decide) ?_
    refine lv_iadd (pc := 47) hx hb dX7_one_47 ?_
    refine rp_set (pc := 48) (fs := mb_obj a) hC hw 0 (by decide) mt_obj fg_X7_133 rfl (Nat.le_of_ble_eq_true rfl) rfl rfl dX7_one_48 (fun H locs hw => ?_)
    obtain ⟨σ2, eσ2, hF⟩ := rp_nm_e hF
    replace hw := rp_Wn eσ2 hw
    clear eσ2
    refine lv_aload_n (pc := 51) hx hb dX7_one_51 rfl (lv_at hl 0 rfl) ?_
    refine lv_dup (pc := 52) hx hb dX7_one_52 rfl ?_
    refine rp_get (pc := 53) hC hw 0 (by decide) (mt_obj _) fl_X7_89 (.int (σ2 0 7)) rfl dX7_one_53 ?_
    refine lv_iconst (pc := 56) (v := 1) hx hb dX7_one_56 (by decide) ?_
    refine lv_iadd (pc := 57) hx hb dX7_one_57 ?_
    refine rp_set (pc := 58) (fs := mb_obj a) hC hw 0 (by decide) mt_obj fg_X7_89 rfl (Nat.le_of_ble_eq_true rfl) rfl rfl dX7_one_58 (fun H locs hw => ?_)
    obtain ⟨σ3, eσ3, hF⟩ := rp_nm_e hF
    replace hw := rp_Wn eσ3 hw
    clear eσ3
    refine lv_iload_n (pc := 61) hx hb dX7_one_61 rfl (lv_at hl 1 rfl) ?_
    refine lv_bipush (pc := 62) (v := 33) hx hb dX7_one_62 (by decide) ?_
    refine lv_icmp_ne (pc := 64) (tgt := 81) hx hb dX7_one_64 (by decide) (fun hc => ?_) (fun hc => ?_)
    · replace hF := rp_if hc hF
      refine lv_aload_n (pc := 81) hx hb dX7_one_81 rfl (lv_at hl 0 rfl) ?_
      obtain ⟨r4, σ5, hq, hF⟩ := rp_bd_e hF
      refine rp_kv (rp_runV (rest := []) hC (mE_ok _) hw hl.1 (hrc0 σ3 _ hq) vw_X7_136 (by decide) (mt_obj _) rfl rfl rfl (Nat.le_of_ble_eq_true rfl) (by omega) dX7_one_82) hw (fun H locs hw => ?_)
      clear hq
      refine lv_aload_n (pc := 85) hx hb dX7_one_85 rfl (lv_at hl 0 rfl) ?_
      refine lv_aload_n (pc := 86) hx hb dX7_one_86 rfl (lv_at hl 0 rfl) ?_
      refine lv_bipush (pc := 87) (v := 41) hx hb dX7_one_87 (by decide) ?_
      obtain ⟨r6, σ7, hq, hF⟩ := rp_bd_e hF
      refine rp_ki (rp_runV (rest := [.ref (a 0)]) hC (mE_ok _) hw hl.1 (mX7_takes (l := l) 41 σ5 _ hq) vw_X7_103 (by decide) (mt_obj _) rfl rfl rfl (Nat.le_of_ble_eq_true rfl) (by omega) dX7_one_89) hw (fun H locs hw => ?_)
      clear hq
      refine lv_if_ne (pc := 92) (tgt := 99) hx hb dX7_one_92 (by decide) (fun hc => ?_) (fun hc => ?_)
      · replace hF := rp_if hc hF
        refine lv_iconst (pc := 99) (v := 0) hx hb dX7_one_99 (by decide) ?_
        exact kX7_one_100 dd rc0 hrc0 rc1 hrc1 rc2 hrc2 rc3 hrc3 rc4 hrc4 rc5 hrc5 hC 0 σ7 _ _ _ hF hw (lv_sub hl [0] rfl)
      · replace hF := rp_it hc hF
        refine lv_iconst (pc := 95) (v := 1) hx hb dX7_one_95 (by decide) ?_
        refine lv_goto (pc := 96) (tgt := 100) hx hb dX7_one_96 (by decide) ?_
        exact kX7_one_100 dd rc0 hrc0 rc1 hrc1 rc2 hrc2 rc3 hrc3 rc4 hrc4 rc5 hrc5 hC 1 σ7 _ _ _ hF hw (lv_sub hl [0] rfl)
    · replace hF := rp_it hc hF
      refine lv_aload_n (pc := 67) hx hb dX7_one_67 rfl (lv_at hl 0 rfl) ?_
      obtain ⟨r8, σ9, hq, hF⟩ := rp_bd_e hF
      refine rp_kv (rp_runV (rest := []) hC (mE_ok _) hw hl.1 (hrc5 σ3 _ hq) vw_X7_120 (by decide) (mt_obj _) rfl rfl rfl (Nat.le_of_ble_eq_true rfl) (by omega) dX7_one_68) hw (fun H locs hw => ?_)
      clear hq
      refine lv_aload_n (pc := 71) hx hb dX7_one_71 rfl (lv_at hl 0 rfl) ?_
      refine lv_sipush (pc := 72) (v := 20010) hx hb dX7_one_72 (by decide) ?_
      obtain ⟨r10, σ11, hq, hF⟩ := rp_bd_e hF
      refine rp_kv (rp_runV (rest := []) hC (mE_ok _) hw hl.1 (mX7_codes (l := l) 20010 σ9 _ hq) vw_X7_107 (by decide) (mt_obj _) rfl rfl rfl (Nat.le_of_ble_eq_true rfl) (by omega) dX7_one_75) hw (fun H locs hw => ?_)
      clear hq
      refine lv_goto (pc := 78) (tgt := 103) hx hb dX7_one_78 (by decide) ?_
      exact kX7_one_103 dd rc0 hrc0 rc1 hrc1 rc2 hrc2 rc3 hrc3 rc4 hrc4 rc5 hrc5 hC σ11 _ _ _ hF hw (lv_sub hl [0] rfl)
def fX7_one_17 (rc0 : rp_St → Option (Int32 × rp_St)) (rc1 : rp_St → Option (Int32 × rp_St)) (rc2 : rp_St → Option (Int32 × rp_St)) (rc3 : rp_St → Option (Int32 × rp_St)) (rc4 : rp_St → Option (Int32 × rp_St)) (rc5 : rp_St → Option (Int32 × rp_St)) (v1 : Int32) (σ : rp_St) : Option (Int32 × rp_St) :=
  (if (σ 0 8) = 5 then fX7_one_31 rc0 rc1 rc2 rc3 rc4 rc5 v1 1 σ else fX7_one_31 rc0 rc1 rc2 rc3 rc4 rc5 v1 0 σ)
set_option maxRecDepth 100000 in
set_option maxHeartbeats 4000000 in
theorem kX7_one_17 {p : Program} {l : Launch} {e : Env} {s : State} {m : MethodId} {args : Array Value} {below : List Frame} {meth : Method} {c : Code} {D : va_G} {cI cT : ClassId} {ad av a : Nat → Nat} {res : Int32 × rp_St} (dd : Nat) (rc0 : rp_St → Option (Int32 × rp_St)) (hrc0 : ∀  (σ : rp_St) (res : Int32 × rp_St), rc0 σ = some res → mM l D cI cT ad av a yX7_either cX7_either 1 none (5 + dd) [.ref (a 0)] σ (rp_Qv D a (mt cI cT ad a) 15 res)) (rc1 : rp_St → Option (Int32 × rp_St)) (hrc1 : ∀  (σ : rp_St) (res : Int32 × rp_St), rc1 σ = some res → mM l D cI cT ad av a yX7_both cX7_both 1 none (5 + dd) [.ref (a 0)] σ (rp_Qv D a (mt cI cT ad a) 15 res)) (rc2 : rp_St → Option (Int32 × rp_St)) (hrc2 : ∀  (σ : rp_St) (res : Int32 × rp_St), rc2 σ = some res → mM l D cI cT ad av a yX7_compared cX7_compared 2 none (5 + dd) [.ref (a 0)] σ (rp_Qv D a (mt cI cT ad a) 15 res)) (rc3 : rp_St → Option (Int32 × rp_St)) (hrc3 : ∀  (σ : rp_St) (res : Int32 × rp_St), rc3 σ = some res → mM l D cI cT ad av a yX7_sum cX7_sum 2 none (5 + dd) [.ref (a 0)] σ (rp_Qv D a (mt cI cT ad a) 15 res)) (rc4 : rp_St → Option (Int32 × rp_St)) (hrc4 : ∀  (σ : rp_St) (res : Int32 × rp_St), rc4 σ = some res → mM l D cI cT ad av a yX7_product cX7_product 2 none (5 + dd) [.ref (a 0)] σ (rp_Qv D a (mt cI cT ad a) 15 res)) (rc5 : rp_St → Option (Int32 × rp_St)) (hrc5 : ∀  (σ : rp_St) (res : Int32 × rp_St), rc5 σ = some res → mM l D cI cT ad av a yX7_one cX7_one 4 none (5 + dd) [.ref (a 0)] σ (rp_Qv D a (mt cI cT ad a) 15 res)) (hC : mC p s m args meth c cX7_one 4 "RegretPegsModel" none D cI cT ad av a) (v1 : Int32) (σ : rp_St) (H : Heap) (locs : List Loc) (ls : Array Slot) (hF : fX7_one_17 rc0 rc1 rc2 rc3 rc4 rc5 v1 σ = some res) (hw : mW D cI cT ad av a s σ H locs) (hl : lv_has ls 4 [(0, .ref (a 0)), (1, .int v1)]) : W p l e (rp_rm (5 + (dd + 1))) s m args below meth c H locs 0 0 (MQ below (rp_Qv D a (mt cI cT ad a) 15 res) args s 0 0 (rp_A a 15)) (F0 m 17 ls []) := by
  have hx := hC.1
  have hb := hC.2.1
  have hown := hC.2.2.2.1
  have hts := hC.2.2.2.2.1
  unfold fX7_one_17 at hF
  refine lv_aload_n (pc := 17) hx hb dX7_one_17 rfl (lv_at hl 0 rfl) ?_
  refine lv_aload_n (pc := 18) hx hb dX7_one_18 rfl (lv_at hl 0 rfl) ?_
  refine rp_get (pc := 19) hC hw 0 (by decide) (mt_obj _) fl_X7_133 (.int (σ 0 8)) rfl dX7_one_19 ?_
  refine lv_iconst (pc := 22) (v := 5) hx hb dX7_one_22 (by decide) ?_
  refine lv_icmp_ne (pc := 23) (tgt := 30) hx hb dX7_one_23 (by decide) (fun hc => ?_) (fun hc => ?_)
  · replace hF := rp_if hc hF
    refine lv_iconst (pc := 30) (v := 0) hx hb dX7_one_30 (by decide) ?_
    exact kX7_one_31 dd rc0 hrc0 rc1 hrc1 rc2 hrc2 rc3 hrc3 rc4 hrc4 rc5 hrc5 hC v1 0 σ _ _ _ hF hw (lv_sub hl [0, 1] rfl)
  · replace hF := rp_it hc hF
    refine lv_iconst (pc := 26) (v := 1) hx hb dX7_one_26 (by decide) ?_
    refine lv_goto (pc := 27) (tgt := 31) hx hb dX7_one_27 (by decide) ?_
    exact kX7_one_31 dd rc0 hrc0 rc1 hrc1 rc2 hrc2 rc3 hrc3 rc4 hrc4 rc5 hrc5 hC v1 1 σ _ _ _ hF hw (lv_sub hl [0, 1] rfl)
def fX7_one_218 (rc0 : rp_St → Option (Int32 × rp_St)) (rc1 : rp_St → Option (Int32 × rp_St)) (rc2 : rp_St → Option (Int32 × rp_St)) (rc3 : rp_St → Option (Int32 × rp_St)) (rc4 : rp_St → Option (Int32 × rp_St)) (rc5 : rp_St → Option (Int32 × rp_St)) (v2 : Int32) (t0 : Int32) (σ : rp_St) : Option (Int32 × rp_St) :=
  rp_gu (t0 == 0 || t0 == 1) (rp_nm (rp_put σ 0 10 t0) (fun σ1 => (if (σ1 0 10) = 0 then rp_bd (fX7_codes (10000 + v2) σ1) (fun _ σ3 => rp_nm (rp_put σ3 0 7 ((σ3 0 7) + 1)) (fun σ4 => some (0, σ4))) else some (0, σ1))))
set_option maxRecDepth 100000 in
set_option maxHeartbeats 4000000 in
theorem kX7_one_218 {p : Program} {l : Launch} {e : Env} {s : State} {m : MethodId} {args : Array Value} {below : List Frame} {meth : Method} {c : Code} {D : va_G} {cI cT : ClassId} {ad av a : Nat → Nat} {res : Int32 × rp_St} (dd : Nat) (rc0 : rp_St → Option (Int32 × rp_St)) (hrc0 : ∀  (σ : rp_St) (res : Int32 × rp_St), rc0 σ = some res → mM l D cI cT ad av a yX7_either cX7_either 1 none (5 + dd) [.ref (a 0)] σ (rp_Qv D a (mt cI cT ad a) 15 res)) (rc1 : rp_St → Option (Int32 × rp_St)) (hrc1 : ∀  (σ : rp_St) (res : Int32 × rp_St), rc1 σ = some res → mM l D cI cT ad av a yX7_both cX7_both 1 none (5 + dd) [.ref (a 0)] σ (rp_Qv D a (mt cI cT ad a) 15 res)) (rc2 : rp_St → Option (Int32 × rp_St)) (hrc2 : ∀  (σ : rp_St) (res : Int32 × rp_St), rc2 σ = some res → mM l D cI cT ad av a yX7_compared cX7_compared 2 none (5 + dd) [.ref (a 0)] σ (rp_Qv D a (mt cI cT ad a) 15 res)) (rc3 : rp_St → Option (Int32 × rp_St)) (hrc3 : ∀  (σ : rp_St) (res : Int32 × rp_St), rc3 σ = some res → mM l D cI cT ad av a yX7_sum cX7_sum 2 none (5 + dd) [.ref (a 0)] σ (rp_Qv D a (mt cI cT ad a) 15 res)) (rc4 : rp_St → Option (Int32 × rp_St)) (hrc4 : ∀  (σ : rp_St) (res : Int32 × rp_St), rc4 σ = some res → mM l D cI cT ad av a yX7_product cX7_product 2 none (5 + dd) [.ref (a 0)] σ (rp_Qv D a (mt cI cT ad a) 15 res)) (rc5 : rp_St → Option (Int32 × rp_St)) (hrc5 : ∀  (σ : rp_St) (res : Int32 × rp_St), rc5 σ = some res → mM l D cI cT ad av a yX7_one cX7_one 4 none (5 + dd) [.ref (a 0)] σ (rp_Qv D a (mt cI cT ad a) 15 res)) (hC : mC p s m args meth c cX7_one 4 "RegretPegsModel" none D cI cT ad av a) (v2 : Int32) (t0 : Int32) (σ : rp_St) (H : Heap) (locs : List Loc) (ls : Array Slot) (hF : fX7_one_218 rc0 rc1 rc2 rc3 rc4 rc5 v2 t0 σ = some res) (hw : mW D cI cT ad av a s σ H locs) (hl : lv_has ls 4 [(0, .ref (a 0)), (2, .int v2)]) : W p l e (rp_rm (5 + (dd + 1))) s m args below meth c H locs 0 0 (MQ below (rp_Qv D a (mt cI cT ad a) 15 res) args s 0 0 (rp_A a 15)) (F0 m 218 ls [.int t0, .ref (a 0)]) := by
  have hx := hC.1
  have hb := hC.2.1
  have hown := hC.2.2.2.1
  have hts := hC.2.2.2.2.1
  unfold fX7_one_218 at hF
  obtain ⟨hg, hF⟩ := rp_gu_e hF
  refine rp_set (pc := 218) (fs := mb_obj a) hC hw 0 (by decide) mt_obj fg_X7_85 rfl (Nat.le_of_ble_eq_true rfl) (rp_nz hg).1 (rp_nz hg).2 dX7_one_218 (fun H locs hw => ?_)
  obtain ⟨σ1, eσ1, hF⟩ := rp_nm_e hF
  replace hw := rp_Wn eσ1 hw
  clear eσ1
  refine lv_aload_n (pc := 221) hx hb dX7_one_221 rfl (lv_at hl 0 rfl) ?_
  refine rp_get (pc := 222) hC hw 0 (by decide) (mt_obj _) fl_X7_85 (.int (σ1 0 10)) rfl dX7_one_222 ?_
  refine lv_if_ne (pc := 225) (tgt := 247) hx hb dX7_one_225 (by decide) (fun hc => ?_) (fun hc => ?_)
  · replace hF := rp_if hc hF
    exact rp_retv (pc := 247) hC hw hF dX7_one_247
  · replace hF := rp_it hc hF
    refine lv_aload_n (pc := 228) hx hb dX7_one_228 rfl (lv_at hl 0 rfl) ?_
    refine lv_sipush (pc := 229) (v := 10000) hx hb dX7_one_229 (by decide) ?_
    refine lv_iload_n (pc := 232) hx hb dX7_one_232 rfl (lv_at hl 1 rfl) ?_
    refine lv_iadd (pc := 233) hx hb dX7_one_233 ?_
    obtain ⟨r2, σ3, hq, hF⟩ := rp_bd_e hF
    refine rp_kv (rp_runV (rest := []) hC (mE_ok _) hw hl.1 (mX7_codes (l := l) (10000 + v2) σ1 _ hq) vw_X7_107 (by decide) (mt_obj _) rfl rfl rfl (Nat.le_of_ble_eq_true rfl) (by omega) dX7_one_234) hw (fun H locs hw => ?_)
    clear hq
    refine lv_aload_n (pc := 237) hx hb dX7_one_237 rfl (lv_at hl 0 rfl) ?_
    refine lv_dup (pc := 238) hx hb dX7_one_238 rfl ?_
    refine rp_get (pc := 239) hC hw 0 (by decide) (mt_obj _) fl_X7_89 (.int (σ3 0 7)) rfl dX7_one_239 ?_
    refine lv_iconst (pc := 242) (v := 1) hx hb dX7_one_242 (by decide) ?_
    refine lv_iadd (pc := 243) hx hb dX7_one_243 ?_
    refine rp_set (pc := 244) (fs := mb_obj a) hC hw 0 (by decide) mt_obj fg_X7_89 rfl (Nat.le_of_ble_eq_true rfl) rfl rfl dX7_one_244 (fun H locs hw => ?_)
    obtain ⟨σ4, eσ4, hF⟩ := rp_nm_e hF
    replace hw := rp_Wn eσ4 hw
    clear eσ4
    exact rp_retv (pc := 247) hC hw hF dX7_one_247
def fX7_one_213 (rc0 : rp_St → Option (Int32 × rp_St)) (rc1 : rp_St → Option (Int32 × rp_St)) (rc2 : rp_St → Option (Int32 × rp_St)) (rc3 : rp_St → Option (Int32 × rp_St)) (rc4 : rp_St → Option (Int32 × rp_St)) (rc5 : rp_St → Option (Int32 × rp_St)) (v2 : Int32) (σ : rp_St) : Option (Int32 × rp_St) :=
  fX7_one_218 rc0 rc1 rc2 rc3 rc4 rc5 v2 1 σ
set_option maxRecDepth 100000 in
set_option maxHeartbeats 4000000 in
theorem kX7_one_213 {p : Program} {l : Launch} {e : Env} {s : State} {m : MethodId} {args : Array Value} {below : List Frame} {meth : Method} {c : Code} {D : va_G} {cI cT : ClassId} {ad av a : Nat → Nat} {res : Int32 × rp_St} (dd : Nat) (rc0 : rp_St → Option (Int32 × rp_St)) (hrc0 : ∀  (σ : rp_St) (res : Int32 × rp_St), rc0 σ = some res → mM l D cI cT ad av a yX7_either cX7_either 1 none (5 + dd) [.ref (a 0)] σ (rp_Qv D a (mt cI cT ad a) 15 res)) (rc1 : rp_St → Option (Int32 × rp_St)) (hrc1 : ∀  (σ : rp_St) (res : Int32 × rp_St), rc1 σ = some res → mM l D cI cT ad av a yX7_both cX7_both 1 none (5 + dd) [.ref (a 0)] σ (rp_Qv D a (mt cI cT ad a) 15 res)) (rc2 : rp_St → Option (Int32 × rp_St)) (hrc2 : ∀  (σ : rp_St) (res : Int32 × rp_St), rc2 σ = some res → mM l D cI cT ad av a yX7_compared cX7_compared 2 none (5 + dd) [.ref (a 0)] σ (rp_Qv D a (mt cI cT ad a) 15 res)) (rc3 : rp_St → Option (Int32 × rp_St)) (hrc3 : ∀  (σ : rp_St) (res : Int32 × rp_St), rc3 σ = some res → mM l D cI cT ad av a yX7_sum cX7_sum 2 none (5 + dd) [.ref (a 0)] σ (rp_Qv D a (mt cI cT ad a) 15 res)) (rc4 : rp_St → Option (Int32 × rp_St)) (hrc4 : ∀  (σ : rp_St) (res : Int32 × rp_St), rc4 σ = some res → mM l D cI cT ad av a yX7_product cX7_product 2 none (5 + dd) [.ref (a 0)] σ (rp_Qv D a (mt cI cT ad a) 15 res)) (rc5 : rp_St → Option (Int32 × rp_St)) (hrc5 : ∀  (σ : rp_St) (res : Int32 × rp_St), rc5 σ = some res → mM l D cI cT ad av a yX7_one cX7_one 4 none (5 + dd) [.ref (a 0)] σ (rp_Qv D a (mt cI cT ad a) 15 res)) (hC : mC p s m args meth c cX7_one 4 "RegretPegsModel" none D cI cT ad av a) (v2 : Int32) (σ : rp_St) (H : Heap) (locs : List Loc) (ls : Array Slot) (hF : fX7_one_213 rc0 rc1 rc2 rc3 rc4 rc5 v2 σ = some res) (hw : mW D cI cT ad av a s σ H locs) (hl : lv_has ls 4 [(0, .ref (a 0)), (2, .int v2)]) : W p l e (rp_rm (5 + (dd + 1))) s m args below meth c H locs 0 0 (MQ below (rp_Qv D a (mt cI cT ad a) 15 res) args s 0 0 (rp_A a 15)) (F0 m 213 ls [.ref (a 0)]) := by
  have hx := hC.1
  have hb := hC.2.1
  have hown := hC.2.2.2.1
  have hts := hC.2.2.2.2.1
  unfold fX7_one_213 at hF
  refine lv_iconst (pc := 213) (v := 1) hx hb dX7_one_213 (by decide) ?_
  refine lv_goto (pc := 214) (tgt := 218) hx hb dX7_one_214 (by decide) ?_
  exact kX7_one_218 dd rc0 hrc0 rc1 hrc1 rc2 hrc2 rc3 hrc3 rc4 hrc4 rc5 hrc5 hC v2 1 σ _ _ _ hF hw (lv_sub hl [0, 1] rfl)
def fX7_one_200 (rc0 : rp_St → Option (Int32 × rp_St)) (rc1 : rp_St → Option (Int32 × rp_St)) (rc2 : rp_St → Option (Int32 × rp_St)) (rc3 : rp_St → Option (Int32 × rp_St)) (rc4 : rp_St → Option (Int32 × rp_St)) (rc5 : rp_St → Option (Int32 × rp_St)) (t0 : Int32) (σ : rp_St) : Option (Int32 × rp_St) :=
  (if (σ 0 10) = 0 then (if 0 ≤ t0 then fX7_one_218 rc0 rc1 rc2 rc3 rc4 rc5 t0 0 σ else fX7_one_213 rc0 rc1 rc2 rc3 rc4 rc5 t0 σ) else fX7_one_213 rc0 rc1 rc2 rc3 rc4 rc5 t0 σ)
set_option maxRecDepth 100000 in
set_option maxHeartbeats 4000000 in
theorem kX7_one_200 {p : Program} {l : Launch} {e : Env} {s : State} {m : MethodId} {args : Array Value} {below : List Frame} {meth : Method} {c : Code} {D : va_G} {cI cT : ClassId} {ad av a : Nat → Nat} {res : Int32 × rp_St} (dd : Nat) (rc0 : rp_St → Option (Int32 × rp_St)) (hrc0 : ∀  (σ : rp_St) (res : Int32 × rp_St), rc0 σ = some res → mM l D cI cT ad av a yX7_either cX7_either 1 none (5 + dd) [.ref (a 0)] σ (rp_Qv D a (mt cI cT ad a) 15 res)) (rc1 : rp_St → Option (Int32 × rp_St)) (hrc1 : ∀  (σ : rp_St) (res : Int32 × rp_St), rc1 σ = some res → mM l D cI cT ad av a yX7_both cX7_both 1 none (5 + dd) [.ref (a 0)] σ (rp_Qv D a (mt cI cT ad a) 15 res)) (rc2 : rp_St → Option (Int32 × rp_St)) (hrc2 : ∀  (σ : rp_St) (res : Int32 × rp_St), rc2 σ = some res → mM l D cI cT ad av a yX7_compared cX7_compared 2 none (5 + dd) [.ref (a 0)] σ (rp_Qv D a (mt cI cT ad a) 15 res)) (rc3 : rp_St → Option (Int32 × rp_St)) (hrc3 : ∀  (σ : rp_St) (res : Int32 × rp_St), rc3 σ = some res → mM l D cI cT ad av a yX7_sum cX7_sum 2 none (5 + dd) [.ref (a 0)] σ (rp_Qv D a (mt cI cT ad a) 15 res)) (rc4 : rp_St → Option (Int32 × rp_St)) (hrc4 : ∀  (σ : rp_St) (res : Int32 × rp_St), rc4 σ = some res → mM l D cI cT ad av a yX7_product cX7_product 2 none (5 + dd) [.ref (a 0)] σ (rp_Qv D a (mt cI cT ad a) 15 res)) (rc5 : rp_St → Option (Int32 × rp_St)) (hrc5 : ∀  (σ : rp_St) (res : Int32 × rp_St), rc5 σ = some res → mM l D cI cT ad av a yX7_one cX7_one 4 none (5 + dd) [.ref (a 0)] σ (rp_Qv D a (mt cI cT ad a) 15 res)) (hC : mC p s m args meth c cX7_one 4 "RegretPegsModel" none D cI cT ad av a) (t0 : Int32) (σ : rp_St) (H : Heap) (locs : List Loc) (ls : Array Slot) (hF : fX7_one_200 rc0 rc1 rc2 rc3 rc4 rc5 t0 σ = some res) (hw : mW D cI cT ad av a s σ H locs) (hl : lv_has ls 4 [(0, .ref (a 0))]) : W p l e (rp_rm (5 + (dd + 1))) s m args below meth c H locs 0 0 (MQ below (rp_Qv D a (mt cI cT ad a) 15 res) args s 0 0 (rp_A a 15)) (F0 m 200 ls [.int t0]) := by
  have hx := hC.1
  have hb := hC.2.1
  have hown := hC.2.2.2.1
  have hts := hC.2.2.2.2.1
  unfold fX7_one_200 at hF
  refine lv_istore_n (pc := 200) (lv' := [(2, .int t0), (0, .ref (a 0))]) hx hb dX7_one_200 rfl hl (by decide) rfl (fun ls hl => ?_)
  refine lv_aload_n (pc := 201) hx hb dX7_one_201 rfl (lv_at hl 1 rfl) ?_
  refine lv_aload_n (pc := 202) hx hb dX7_one_202 rfl (lv_at hl 1 rfl) ?_
  refine rp_get (pc := 203) hC hw 0 (by decide) (mt_obj _) fl_X7_85 (.int (σ 0 10)) rfl dX7_one_203 ?_
  refine lv_if_ne (pc := 206) (tgt := 213) hx hb dX7_one_206 (by decide) (fun hc => ?_) (fun hc => ?_)
  · replace hF := rp_if hc hF
    exact kX7_one_213 dd rc0 hrc0 rc1 hrc1 rc2 hrc2 rc3 hrc3 rc4 hrc4 rc5 hrc5 hC t0 σ _ _ _ hF hw (lv_sub hl [1, 0] rfl)
  · replace hF := rp_it hc hF
    refine lv_iload_n (pc := 209) hx hb dX7_one_209 rfl (lv_at hl 0 rfl) ?_
    refine lv_if_ge (pc := 210) (tgt := 217) hx hb dX7_one_210 (by decide) (fun hc => ?_) (fun hc => ?_)
    · replace hF := rp_it hc hF
      refine lv_iconst (pc := 217) (v := 0) hx hb dX7_one_217 (by decide) ?_
      exact kX7_one_218 dd rc0 hrc0 rc1 hrc1 rc2 hrc2 rc3 hrc3 rc4 hrc4 rc5 hrc5 hC t0 0 σ _ _ _ hF hw (lv_sub hl [1, 0] rfl)
    · replace hF := rp_if hc hF
      exact kX7_one_213 dd rc0 hrc0 rc1 hrc1 rc2 hrc2 rc3 hrc3 rc4 hrc4 rc5 hrc5 hC t0 σ _ _ _ hF hw (lv_sub hl [1, 0] rfl)
def fX7_one_179 (rc0 : rp_St → Option (Int32 × rp_St)) (rc1 : rp_St → Option (Int32 × rp_St)) (rc2 : rp_St → Option (Int32 × rp_St)) (rc3 : rp_St → Option (Int32 × rp_St)) (rc4 : rp_St → Option (Int32 × rp_St)) (rc5 : rp_St → Option (Int32 × rp_St)) (v2 : Int32) (σ : rp_St) : Option (Int32 × rp_St) :=
  rp_bd (fX7_codes v2 σ) (fun _ σ2 => some (0, σ2))
set_option maxRecDepth 100000 in
set_option maxHeartbeats 4000000 in
theorem kX7_one_179 {p : Program} {l : Launch} {e : Env} {s : State} {m : MethodId} {args : Array Value} {below : List Frame} {meth : Method} {c : Code} {D : va_G} {cI cT : ClassId} {ad av a : Nat → Nat} {res : Int32 × rp_St} (dd : Nat) (rc0 : rp_St → Option (Int32 × rp_St)) (hrc0 : ∀  (σ : rp_St) (res : Int32 × rp_St), rc0 σ = some res → mM l D cI cT ad av a yX7_either cX7_either 1 none (5 + dd) [.ref (a 0)] σ (rp_Qv D a (mt cI cT ad a) 15 res)) (rc1 : rp_St → Option (Int32 × rp_St)) (hrc1 : ∀  (σ : rp_St) (res : Int32 × rp_St), rc1 σ = some res → mM l D cI cT ad av a yX7_both cX7_both 1 none (5 + dd) [.ref (a 0)] σ (rp_Qv D a (mt cI cT ad a) 15 res)) (rc2 : rp_St → Option (Int32 × rp_St)) (hrc2 : ∀  (σ : rp_St) (res : Int32 × rp_St), rc2 σ = some res → mM l D cI cT ad av a yX7_compared cX7_compared 2 none (5 + dd) [.ref (a 0)] σ (rp_Qv D a (mt cI cT ad a) 15 res)) (rc3 : rp_St → Option (Int32 × rp_St)) (hrc3 : ∀  (σ : rp_St) (res : Int32 × rp_St), rc3 σ = some res → mM l D cI cT ad av a yX7_sum cX7_sum 2 none (5 + dd) [.ref (a 0)] σ (rp_Qv D a (mt cI cT ad a) 15 res)) (rc4 : rp_St → Option (Int32 × rp_St)) (hrc4 : ∀  (σ : rp_St) (res : Int32 × rp_St), rc4 σ = some res → mM l D cI cT ad av a yX7_product cX7_product 2 none (5 + dd) [.ref (a 0)] σ (rp_Qv D a (mt cI cT ad a) 15 res)) (rc5 : rp_St → Option (Int32 × rp_St)) (hrc5 : ∀  (σ : rp_St) (res : Int32 × rp_St), rc5 σ = some res → mM l D cI cT ad av a yX7_one cX7_one 4 none (5 + dd) [.ref (a 0)] σ (rp_Qv D a (mt cI cT ad a) 15 res)) (hC : mC p s m args meth c cX7_one 4 "RegretPegsModel" none D cI cT ad av a) (v2 : Int32) (σ : rp_St) (H : Heap) (locs : List Loc) (ls : Array Slot) (hF : fX7_one_179 rc0 rc1 rc2 rc3 rc4 rc5 v2 σ = some res) (hw : mW D cI cT ad av a s σ H locs) (hl : lv_has ls 4 [(0, .ref (a 0)), (2, .int v2)]) : W p l e (rp_rm (5 + (dd + 1))) s m args below meth c H locs 0 0 (MQ below (rp_Qv D a (mt cI cT ad a) 15 res) args s 0 0 (rp_A a 15)) (F0 m 179 ls []) := by
  have hx := hC.1
  have hb := hC.2.1
  have hown := hC.2.2.2.1
  have hts := hC.2.2.2.2.1
  unfold fX7_one_179 at hF
  refine lv_aload_n (pc := 179) hx hb dX7_one_179 rfl (lv_at hl 0 rfl) ?_
  refine lv_iload_n (pc := 180) hx hb dX7_one_180 rfl (lv_at hl 1 rfl) ?_
  obtain ⟨r1, σ2, hq, hF⟩ := rp_bd_e hF
  refine rp_kv (rp_runV (rest := []) hC (mE_ok _) hw hl.1 (mX7_codes (l := l) v2 σ _ hq) vw_X7_107 (by decide) (mt_obj _) rfl rfl rfl (Nat.le_of_ble_eq_true rfl) (by omega) dX7_one_181) hw (fun H locs hw => ?_)
  clear hq
  refine lv_goto (pc := 184) (tgt := 247) hx hb dX7_one_184 (by decide) ?_
  exact rp_retv (pc := 247) hC hw hF dX7_one_247
def fX7_one_131 (rc0 : rp_St → Option (Int32 × rp_St)) (rc1 : rp_St → Option (Int32 × rp_St)) (rc2 : rp_St → Option (Int32 × rp_St)) (rc3 : rp_St → Option (Int32 × rp_St)) (rc4 : rp_St → Option (Int32 × rp_St)) (rc5 : rp_St → Option (Int32 × rp_St)) (k131 : Int32 → Int32 → rp_St → Option (Int32 × rp_St)) (v2 : Int32) (v3 : Int32) (σ : rp_St) : Option (Int32 × rp_St) :=
  (if 4 ≤ v3 then fX7_one_179 rc0 rc1 rc2 rc3 rc4 rc5 v2 σ else rp_bd (fX7_here σ) (fun r1 σ2 => rp_bd (fX7_within r1 48 57 σ2) (fun r3 σ4 => (if r3 = 0 then fX7_one_179 rc0 rc1 rc2 rc3 rc4 rc5 v2 σ4 else rp_bd (fX7_here σ4) (fun r5 σ6 => rp_nm (((10 * v2) + r5) - 48) (fun x7 => rp_nm (rp_put σ6 0 7 ((σ6 0 7) + 1)) (fun σ8 => rp_nm (v3 + 1) (fun x9 => k131 x7 x9 σ8))))))))
set_option maxRecDepth 100000 in
set_option maxHeartbeats 4000000 in
theorem kX7_one_131 {p : Program} {l : Launch} {e : Env} {s : State} {m : MethodId} {args : Array Value} {below : List Frame} {meth : Method} {c : Code} {D : va_G} {cI cT : ClassId} {ad av a : Nat → Nat} {res : Int32 × rp_St} (dd : Nat) (rc0 : rp_St → Option (Int32 × rp_St)) (hrc0 : ∀  (σ : rp_St) (res : Int32 × rp_St), rc0 σ = some res → mM l D cI cT ad av a yX7_either cX7_either 1 none (5 + dd) [.ref (a 0)] σ (rp_Qv D a (mt cI cT ad a) 15 res)) (rc1 : rp_St → Option (Int32 × rp_St)) (hrc1 : ∀  (σ : rp_St) (res : Int32 × rp_St), rc1 σ = some res → mM l D cI cT ad av a yX7_both cX7_both 1 none (5 + dd) [.ref (a 0)] σ (rp_Qv D a (mt cI cT ad a) 15 res)) (rc2 : rp_St → Option (Int32 × rp_St)) (hrc2 : ∀  (σ : rp_St) (res : Int32 × rp_St), rc2 σ = some res → mM l D cI cT ad av a yX7_compared cX7_compared 2 none (5 + dd) [.ref (a 0)] σ (rp_Qv D a (mt cI cT ad a) 15 res)) (rc3 : rp_St → Option (Int32 × rp_St)) (hrc3 : ∀  (σ : rp_St) (res : Int32 × rp_St), rc3 σ = some res → mM l D cI cT ad av a yX7_sum cX7_sum 2 none (5 + dd) [.ref (a 0)] σ (rp_Qv D a (mt cI cT ad a) 15 res)) (rc4 : rp_St → Option (Int32 × rp_St)) (hrc4 : ∀  (σ : rp_St) (res : Int32 × rp_St), rc4 σ = some res → mM l D cI cT ad av a yX7_product cX7_product 2 none (5 + dd) [.ref (a 0)] σ (rp_Qv D a (mt cI cT ad a) 15 res)) (rc5 : rp_St → Option (Int32 × rp_St)) (hrc5 : ∀  (σ : rp_St) (res : Int32 × rp_St), rc5 σ = some res → mM l D cI cT ad av a yX7_one cX7_one 4 none (5 + dd) [.ref (a 0)] σ (rp_Qv D a (mt cI cT ad a) 15 res)) (hC : mC p s m args meth c cX7_one 4 "RegretPegsModel" none D cI cT ad av a) (k131 : Int32 → Int32 → rp_St → Option (Int32 × rp_St)) (hk131 : ∀ (v2 : Int32) (v3 : Int32) (σ : rp_St) (H : Heap) (locs : List Loc) (ls : Array Slot), k131 v2 v3 σ = some res → mW D cI cT ad av a s σ H locs → lv_has ls 4 [(0, .ref (a 0)), (2, .int v2), (3, .int v3)] → W p l e (rp_rm (5 + (dd + 1))) s m args below meth c H locs 0 0 (MQ below (rp_Qv D a (mt cI cT ad a) 15 res) args s 0 0 (rp_A a 15)) (F0 m 131 ls [])) (v2 : Int32) (v3 : Int32) (σ : rp_St) (H : Heap) (locs : List Loc) (ls : Array Slot) (hF : fX7_one_131 rc0 rc1 rc2 rc3 rc4 rc5 k131 v2 v3 σ = some res) (hw : mW D cI cT ad av a s σ H locs) (hl : lv_has ls 4 [(0, .ref (a 0)), (2, .int v2), (3, .int v3)]) : W p l e (rp_rm (5 + (dd + 1))) s m args below meth c H locs 0 0 (MQ below (rp_Qv D a (mt cI cT ad a) 15 res) args s 0 0 (rp_A a 15)) (F0 m 131 ls []) := by
  have hx := hC.1
  have hb := hC.2.1
  have hown := hC.2.2.2.1
  have hts := hC.2.2.2.2.1
  unfold fX7_one_131 at hF
  refine lv_iload_n (pc := 131) hx hb dX7_one_131 rfl (lv_at hl 2 rfl) ?_
  refine lv_iconst (pc := 132) (v := 4) hx hb dX7_one_132 (by decide) ?_
  refine lv_icmp_ge (pc := 133) (tgt := 179) hx hb dX7_one_133 (by decide) (fun hc => ?_) (fun hc => ?_)
  · replace hF := rp_it hc hF
    exact kX7_one_179 dd rc0 hrc0 rc1 hrc1 rc2 hrc2 rc3 hrc3 rc4 hrc4 rc5 hrc5 hC v2 σ _ _ _ hF hw (lv_sub hl [0, 1] rfl)
  · replace hF := rp_if hc hF
    refine lv_aload_n (pc := 136) hx hb dX7_one_136 rfl (lv_at hl 0 rfl) ?_
    obtain ⟨r1, σ2, hq, hF⟩ := rp_bd_e hF
    refine rp_ki (rp_runV (rest := []) hC (mE_ok _) hw hl.1 (mX7_here (l := l) σ _ hq) vw_X7_93 (by decide) (mt_obj _) rfl rfl rfl (Nat.le_of_ble_eq_true rfl) (by omega) dX7_one_137) hw (fun H locs hw => ?_)
    clear hq
    refine lv_bipush (pc := 140) (v := 48) hx hb dX7_one_140 (by decide) ?_
    refine lv_bipush (pc := 142) (v := 57) hx hb dX7_one_142 (by decide) ?_
    obtain ⟨r3, σ4, hq, hF⟩ := rp_bd_e hF
    refine rp_ki (rp_runZ (rest := []) hC (mE_ok _) hw hl.1 (mX7_within (l := l) r1 48 57 σ2 _ hq) zw_X7_73 rfl rfl (Nat.le_of_ble_eq_true rfl) (by omega) dX7_one_144) hw (fun H locs hw => ?_)
    clear hq
    refine lv_if_eq (pc := 147) (tgt := 179) hx hb dX7_one_147 (by decide) (fun hc => ?_) (fun hc => ?_)
    · replace hF := rp_it hc hF
      exact kX7_one_179 dd rc0 hrc0 rc1 hrc1 rc2 hrc2 rc3 hrc3 rc4 hrc4 rc5 hrc5 hC v2 σ4 _ _ _ hF hw (lv_sub hl [0, 1] rfl)
    · replace hF := rp_if hc hF
      refine lv_bipush (pc := 150) (v := 10) hx hb dX7_one_150 (by decide) ?_
      refine lv_iload_n (pc := 152) hx hb dX7_one_152 rfl (lv_at hl 1 rfl) ?_
      refine lv_imul (pc := 153) hx hb dX7_one_153 ?_
      refine lv_aload_n (pc := 154) hx hb dX7_one_154 rfl (lv_at hl 0 rfl) ?_
      obtain ⟨r5, σ6, hq, hF⟩ := rp_bd_e hF
      refine rp_ki (rp_runV (rest := [.int (10 * v2)]) hC (mE_ok _) hw hl.1 (mX7_here (l := l) σ4 _ hq) vw_X7_93 (by decide) (mt_obj _) rfl rfl rfl (Nat.le_of_ble_eq_true rfl) (by omega) dX7_one_155) hw (fun H locs hw => ?_)
      clear hq
      refine lv_iadd (pc := 158) hx hb dX7_one_158 ?_
      refine lv_bipush (pc := 159) (v := 48) hx hb dX7_one_159 (by decide) ?_
      refine lv_isub (pc := 161) hx hb dX7_one_161 ?_
      obtain ⟨x7, ex7, hF⟩ := rp_nm_e hF
      refine rp_top ex7 ?_
      refine lv_istore_n (pc := 162) (lv' := [(2, .int x7), (0, .ref (a 0)), (3, .int v3)]) hx hb dX7_one_162 rfl hl (by decide) rfl (fun ls hl => ?_)
      refine lv_aload_n (pc := 163) hx hb dX7_one_163 rfl (lv_at hl 1 rfl) ?_
      refine lv_dup (pc := 164) hx hb dX7_one_164 rfl ?_
      refine rp_get (pc := 165) hC hw 0 (by decide) (mt_obj _) fl_X7_89 (.int (σ6 0 7)) rfl dX7_one_165 ?_
      refine lv_iconst (pc := 168) (v := 1) hx hb dX7_one_168 (by decide) ?_
      refine lv_iadd (pc := 169) hx hb dX7_one_169 ?_
      refine rp_set (pc := 170) (fs := mb_obj a) hC hw 0 (by decide) mt_obj fg_X7_89 rfl (Nat.le_of_ble_eq_true rfl) rfl rfl dX7_one_170 (fun H locs hw => ?_)
      obtain ⟨σ8, eσ8, hF⟩ := rp_nm_e hF
      replace hw := rp_Wn eσ8 hw
      clear eσ8
      obtain ⟨x9, ex9, hF⟩ := rp_nm_e hF
      refine lv_iinc (pc := 173) (v := x9) (lv' := [(3, .int x9), (2, .int x7), (0, .ref (a 0))]) hx hb dX7_one_173 hl (k := 2) rfl (by rw [ex9]; rfl) (by decide) rfl (fun ls hl => ?_)
      refine lv_goto (pc := 176) (tgt := 131) hx hb dX7_one_176 (by decide) ?_
      exact hk131 x7 x9 σ8 _ _ _ hF hw (lv_sub hl [2, 1, 0] rfl)
theorem lX7_one_131 {p : Program} {l : Launch} {e : Env} {s : State} {m : MethodId} {args : Array Value} {below : List Frame} {meth : Method} {c : Code} {D : va_G} {cI cT : ClassId} {ad av a : Nat → Nat} {res : Int32 × rp_St} (dd : Nat) (rc0 : rp_St → Option (Int32 × rp_St)) (hrc0 : ∀  (σ : rp_St) (res : Int32 × rp_St), rc0 σ = some res → mM l D cI cT ad av a yX7_either cX7_either 1 none (5 + dd) [.ref (a 0)] σ (rp_Qv D a (mt cI cT ad a) 15 res)) (rc1 : rp_St → Option (Int32 × rp_St)) (hrc1 : ∀  (σ : rp_St) (res : Int32 × rp_St), rc1 σ = some res → mM l D cI cT ad av a yX7_both cX7_both 1 none (5 + dd) [.ref (a 0)] σ (rp_Qv D a (mt cI cT ad a) 15 res)) (rc2 : rp_St → Option (Int32 × rp_St)) (hrc2 : ∀  (σ : rp_St) (res : Int32 × rp_St), rc2 σ = some res → mM l D cI cT ad av a yX7_compared cX7_compared 2 none (5 + dd) [.ref (a 0)] σ (rp_Qv D a (mt cI cT ad a) 15 res)) (rc3 : rp_St → Option (Int32 × rp_St)) (hrc3 : ∀  (σ : rp_St) (res : Int32 × rp_St), rc3 σ = some res → mM l D cI cT ad av a yX7_sum cX7_sum 2 none (5 + dd) [.ref (a 0)] σ (rp_Qv D a (mt cI cT ad a) 15 res)) (rc4 : rp_St → Option (Int32 × rp_St)) (hrc4 : ∀  (σ : rp_St) (res : Int32 × rp_St), rc4 σ = some res → mM l D cI cT ad av a yX7_product cX7_product 2 none (5 + dd) [.ref (a 0)] σ (rp_Qv D a (mt cI cT ad a) 15 res)) (rc5 : rp_St → Option (Int32 × rp_St)) (hrc5 : ∀  (σ : rp_St) (res : Int32 × rp_St), rc5 σ = some res → mM l D cI cT ad av a yX7_one cX7_one 4 none (5 + dd) [.ref (a 0)] σ (rp_Qv D a (mt cI cT ad a) 15 res)) (hC : mC p s m args meth c cX7_one 4 "RegretPegsModel" none D cI cT ad av a) : ∀ (n : Nat) (v2 : Int32) (v3 : Int32) (σ : rp_St) (H : Heap) (locs : List Loc) (ls : Array Slot), rp_lp (fun _ _ _ => none) (fX7_one_131 rc0 rc1 rc2 rc3 rc4 rc5) n v2 v3 σ = some res → mW D cI cT ad av a s σ H locs → lv_has ls 4 [(0, .ref (a 0)), (2, .int v2), (3, .int v3)] → W p l e (rp_rm (5 + (dd + 1))) s m args below meth c H locs 0 0 (MQ below (rp_Qv D a (mt cI cT ad a) 15 res) args s 0 0 (rp_A a 15)) (F0 m 131 ls [])
  | 0, _, _, _, _, _, _, hF, _, _ => nomatch hF
  | n + 1, v2, v3, σ, H, locs, ls, hF, hw, hl => kX7_one_131 dd rc0 hrc0 rc1 hrc1 rc2 hrc2 rc3 hrc3 rc4 hrc4 rc5 hrc5 hC (rp_lp (fun _ _ _ => none) (fX7_one_131 rc0 rc1 rc2 rc3 rc4 rc5) n) (lX7_one_131 dd rc0 hrc0 rc1 hrc1 rc2 hrc2 rc3 hrc3 rc4 hrc4 rc5 hrc5 hC n) v2 v3 σ H locs ls hF hw hl
def fX7_one (rc0 : rp_St → Option (Int32 × rp_St)) (rc1 : rp_St → Option (Int32 × rp_St)) (rc2 : rp_St → Option (Int32 × rp_St)) (rc3 : rp_St → Option (Int32 × rp_St)) (rc4 : rp_St → Option (Int32 × rp_St)) (rc5 : rp_St → Option (Int32 × rp_St)) (σ : rp_St) : Option (Int32 × rp_St) :=
  rp_bd (fX7_here σ) (fun r1 σ2 => (if r1 = 33 then fX7_one_17 rc0 rc1 rc2 rc3 rc4 rc5 r1 σ2 else (if r1 = 40 then fX7_one_17 rc0 rc1 rc2 rc3 rc4 rc5 r1 σ2 else rp_bd (fX7_within r1 48 57 σ2) (fun r3 σ4 => (if r3 = 0 then (if 0 ≤ r1 then rp_bd (fX7_nameOf r1 σ4) (fun r5 σ6 => fX7_one_200 rc0 rc1 rc2 rc3 rc4 rc5 r5 σ6) else fX7_one_200 rc0 rc1 rc2 rc3 rc4 rc5 (-1) σ4) else rp_lp (fun _ _ _ => none) (fX7_one_131 rc0 rc1 rc2 rc3 rc4 rc5) 300 0 0 σ4)))))
set_option maxRecDepth 100000 in
set_option maxHeartbeats 4000000 in
theorem kX7_one_0 {p : Program} {l : Launch} {e : Env} {s : State} {m : MethodId} {args : Array Value} {below : List Frame} {meth : Method} {c : Code} {D : va_G} {cI cT : ClassId} {ad av a : Nat → Nat} {res : Int32 × rp_St} (dd : Nat) (rc0 : rp_St → Option (Int32 × rp_St)) (hrc0 : ∀  (σ : rp_St) (res : Int32 × rp_St), rc0 σ = some res → mM l D cI cT ad av a yX7_either cX7_either 1 none (5 + dd) [.ref (a 0)] σ (rp_Qv D a (mt cI cT ad a) 15 res)) (rc1 : rp_St → Option (Int32 × rp_St)) (hrc1 : ∀  (σ : rp_St) (res : Int32 × rp_St), rc1 σ = some res → mM l D cI cT ad av a yX7_both cX7_both 1 none (5 + dd) [.ref (a 0)] σ (rp_Qv D a (mt cI cT ad a) 15 res)) (rc2 : rp_St → Option (Int32 × rp_St)) (hrc2 : ∀  (σ : rp_St) (res : Int32 × rp_St), rc2 σ = some res → mM l D cI cT ad av a yX7_compared cX7_compared 2 none (5 + dd) [.ref (a 0)] σ (rp_Qv D a (mt cI cT ad a) 15 res)) (rc3 : rp_St → Option (Int32 × rp_St)) (hrc3 : ∀  (σ : rp_St) (res : Int32 × rp_St), rc3 σ = some res → mM l D cI cT ad av a yX7_sum cX7_sum 2 none (5 + dd) [.ref (a 0)] σ (rp_Qv D a (mt cI cT ad a) 15 res)) (rc4 : rp_St → Option (Int32 × rp_St)) (hrc4 : ∀  (σ : rp_St) (res : Int32 × rp_St), rc4 σ = some res → mM l D cI cT ad av a yX7_product cX7_product 2 none (5 + dd) [.ref (a 0)] σ (rp_Qv D a (mt cI cT ad a) 15 res)) (rc5 : rp_St → Option (Int32 × rp_St)) (hrc5 : ∀  (σ : rp_St) (res : Int32 × rp_St), rc5 σ = some res → mM l D cI cT ad av a yX7_one cX7_one 4 none (5 + dd) [.ref (a 0)] σ (rp_Qv D a (mt cI cT ad a) 15 res)) (hC : mC p s m args meth c cX7_one 4 "RegretPegsModel" none D cI cT ad av a) (σ : rp_St) (H : Heap) (locs : List Loc) (ls : Array Slot) (hF : fX7_one rc0 rc1 rc2 rc3 rc4 rc5 σ = some res) (hw : mW D cI cT ad av a s σ H locs) (hl : lv_has ls 4 [(0, .ref (a 0))]) : W p l e (rp_rm (5 + (dd + 1))) s m args below meth c H locs 0 0 (MQ below (rp_Qv D a (mt cI cT ad a) 15 res) args s 0 0 (rp_A a 15)) (F0 m 0 ls []) := by
  have hx := hC.1
  have hb := hC.2.1
  have hown := hC.2.2.2.1
  have hts := hC.2.2.2.2.1
  unfold fX7_one at hF
  refine lv_aload_n (pc := 0) hx hb dX7_one_0 rfl (lv_at hl 0 rfl) ?_
  obtain ⟨r1, σ2, hq, hF⟩ := rp_bd_e hF
  refine rp_ki (rp_runV (rest := []) hC (mE_ok _) hw hl.1 (mX7_here (l := l) σ _ hq) vw_X7_93 (by decide) (mt_obj _) rfl rfl rfl (Nat.le_of_ble_eq_true rfl) (by omega) dX7_one_1) hw (fun H locs hw => ?_)
  clear hq
  refine lv_istore_n (pc := 4) (lv' := [(1, .int r1), (0, .ref (a 0))]) hx hb dX7_one_4 rfl hl (by decide) rfl (fun ls hl => ?_)
  refine lv_iload_n (pc := 5) hx hb dX7_one_5 rfl (lv_at hl 0 rfl) ?_
  refine lv_bipush (pc := 6) (v := 33) hx hb dX7_one_6 (by decide) ?_
  refine lv_icmp_eq (pc := 8) (tgt := 17) hx hb dX7_one_8 (by decide) (fun hc => ?_) (fun hc => ?_)
  · replace hF := rp_it hc hF
    exact kX7_one_17 dd rc0 hrc0 rc1 hrc1 rc2 hrc2 rc3 hrc3 rc4 hrc4 rc5 hrc5 hC r1 σ2 _ _ _ hF hw (lv_sub hl [1, 0] rfl)
  · replace hF := rp_if hc hF
    refine lv_iload_n (pc := 11) hx hb dX7_one_11 rfl (lv_at hl 0 rfl) ?_
    refine lv_bipush (pc := 12) (v := 40) hx hb dX7_one_12 (by decide) ?_
    refine lv_icmp_ne (pc := 14) (tgt := 116) hx hb dX7_one_14 (by decide) (fun hc => ?_) (fun hc => ?_)
    · replace hF := rp_if hc hF
      refine lv_iload_n (pc := 116) hx hb dX7_one_116 rfl (lv_at hl 0 rfl) ?_
      refine lv_bipush (pc := 117) (v := 48) hx hb dX7_one_117 (by decide) ?_
      refine lv_bipush (pc := 119) (v := 57) hx hb dX7_one_119 (by decide) ?_
      obtain ⟨r3, σ4, hq, hF⟩ := rp_bd_e hF
      refine rp_ki (rp_runZ (rest := []) hC (mE_ok _) hw hl.1 (mX7_within (l := l) r1 48 57 σ2 _ hq) zw_X7_73 rfl rfl (Nat.le_of_ble_eq_true rfl) (by omega) dX7_one_121) hw (fun H locs hw => ?_)
      clear hq
      refine lv_if_eq (pc := 124) (tgt := 187) hx hb dX7_one_124 (by decide) (fun hc => ?_) (fun hc => ?_)
      · replace hF := rp_it hc hF
        refine lv_iload_n (pc := 187) hx hb dX7_one_187 rfl (lv_at hl 0 rfl) ?_
        refine lv_if_ge (pc := 188) (tgt := 195) hx hb dX7_one_188 (by decide) (fun hc => ?_) (fun hc => ?_)
        · replace hF := rp_it hc hF
          refine lv_aload_n (pc := 195) hx hb dX7_one_195 rfl (lv_at hl 1 rfl) ?_
          refine lv_iload_n (pc := 196) hx hb dX7_one_196 rfl (lv_at hl 0 rfl) ?_
          obtain ⟨r5, σ6, hq, hF⟩ := rp_bd_e hF
          refine rp_ki (rp_runV (rest := []) hC (mE_ok _) hw hl.1 (mX7_nameOf (l := l) r1 σ4 _ hq) vw_X7_139 (by decide) (mt_obj _) rfl rfl rfl (Nat.le_of_ble_eq_true rfl) (by omega) dX7_one_197) hw (fun H locs hw => ?_)
          clear hq
          exact kX7_one_200 dd rc0 hrc0 rc1 hrc1 rc2 hrc2 rc3 hrc3 rc4 hrc4 rc5 hrc5 hC r5 σ6 _ _ _ hF hw (lv_sub hl [1] rfl)
        · replace hF := rp_if hc hF
          refine lv_iconst (pc := 191) (v := (-1)) hx hb dX7_one_191 (by decide) ?_
          refine lv_goto (pc := 192) (tgt := 200) hx hb dX7_one_192 (by decide) ?_
          exact kX7_one_200 dd rc0 hrc0 rc1 hrc1 rc2 hrc2 rc3 hrc3 rc4 hrc4 rc5 hrc5 hC (-1) σ4 _ _ _ hF hw (lv_sub hl [1] rfl)
      · replace hF := rp_if hc hF
        refine lv_iconst (pc := 127) (v := 0) hx hb dX7_one_127 (by decide) ?_
        refine lv_istore_n (pc := 128) (lv' := [(2, .int 0), (1, .int r1), (0, .ref (a 0))]) hx hb dX7_one_128 rfl hl (by decide) rfl (fun ls hl => ?_)
        refine lv_iconst (pc := 129) (v := 0) hx hb dX7_one_129 (by decide) ?_
        refine lv_istore_n (pc := 130) (lv' := [(3, .int 0), (2, .int 0), (1, .int r1), (0, .ref (a 0))]) hx hb dX7_one_130 rfl hl (by decide) rfl (fun ls hl => ?_)
        exact lX7_one_131 dd rc0 hrc0 rc1 hrc1 rc2 hrc2 rc3 hrc3 rc4 hrc4 rc5 hrc5 hC 300 0 0 σ4 _ _ _ hF hw (lv_sub hl [3, 1, 0] rfl)
    · replace hF := rp_it hc hF
      exact kX7_one_17 dd rc0 hrc0 rc1 hrc1 rc2 hrc2 rc3 hrc3 rc4 hrc4 rc5 hrc5 hC r1 σ2 _ _ _ hF hw (lv_sub hl [1, 0] rfl)
def fX7_grp : Nat → (rp_St → Option (Int32 × rp_St)) × (rp_St → Option (Int32 × rp_St)) × (rp_St → Option (Int32 × rp_St)) × (rp_St → Option (Int32 × rp_St)) × (rp_St → Option (Int32 × rp_St)) × (rp_St → Option (Int32 × rp_St)) := rp_lp (fun _ => none, fun _ => none, fun _ => none, fun _ => none, fun _ => none, fun _ => none) (fun r => (fX7_either r.1 r.2.1 r.2.2.1 r.2.2.2.1 r.2.2.2.2.1 r.2.2.2.2.2, fX7_both r.1 r.2.1 r.2.2.1 r.2.2.2.1 r.2.2.2.2.1 r.2.2.2.2.2, fX7_compared r.1 r.2.1 r.2.2.1 r.2.2.2.1 r.2.2.2.2.1 r.2.2.2.2.2, fX7_sum r.1 r.2.1 r.2.2.1 r.2.2.2.1 r.2.2.2.2.1 r.2.2.2.2.2, fX7_product r.1 r.2.1 r.2.2.1 r.2.2.2.1 r.2.2.2.2.1 r.2.2.2.2.2, fX7_one r.1 r.2.1 r.2.2.1 r.2.2.2.1 r.2.2.2.2.1 r.2.2.2.2.2))
theorem mX7_grp (n : Nat) {l : Launch} {D : va_G} {cI cT : ClassId} {ad av a : Nat → Nat} : (∀  (σ : rp_St) (res : Int32 × rp_St), (fX7_grp n).1 σ = some res → mM l D cI cT ad av a yX7_either cX7_either 1 none (5 + n) [.ref (a 0)] σ (rp_Qv D a (mt cI cT ad a) 15 res)) ∧ (∀  (σ : rp_St) (res : Int32 × rp_St), (fX7_grp n).2.1 σ = some res → mM l D cI cT ad av a yX7_both cX7_both 1 none (5 + n) [.ref (a 0)] σ (rp_Qv D a (mt cI cT ad a) 15 res)) ∧ (∀  (σ : rp_St) (res : Int32 × rp_St), (fX7_grp n).2.2.1 σ = some res → mM l D cI cT ad av a yX7_compared cX7_compared 2 none (5 + n) [.ref (a 0)] σ (rp_Qv D a (mt cI cT ad a) 15 res)) ∧ (∀  (σ : rp_St) (res : Int32 × rp_St), (fX7_grp n).2.2.2.1 σ = some res → mM l D cI cT ad av a yX7_sum cX7_sum 2 none (5 + n) [.ref (a 0)] σ (rp_Qv D a (mt cI cT ad a) 15 res)) ∧ (∀  (σ : rp_St) (res : Int32 × rp_St), (fX7_grp n).2.2.2.2.1 σ = some res → mM l D cI cT ad av a yX7_product cX7_product 2 none (5 + n) [.ref (a 0)] σ (rp_Qv D a (mt cI cT ad a) 15 res)) ∧ (∀  (σ : rp_St) (res : Int32 × rp_St), (fX7_grp n).2.2.2.2.2 σ = some res → mM l D cI cT ad av a yX7_one cX7_one 4 none (5 + n) [.ref (a 0)] σ (rp_Qv D a (mt cI cT ad a) 15 res)) := by
  induction n with
  | zero => exact ⟨(fun _ _ hF => nomatch hF), (fun _ _ hF => nomatch hF), (fun _ _ hF => nomatch hF), (fun _ _ hF => nomatch hF), (fun _ _ hF => nomatch hF), (fun _ _ hF => nomatch hF)⟩
  | succ n ih =>
    refine ⟨?_, ?_, ?_, ?_, ?_, ?_⟩
    · intro  σ res hF
      exact rp_entry (by decide) (Nat.le_of_ble_eq_true rfl) (fun p e s m below meth c ls hC hw hl => kX7_either_0 n _ ih.1 _ ih.2.1 _ ih.2.2.1 _ ih.2.2.2.1 _ ih.2.2.2.2.1 _ ih.2.2.2.2.2 hC σ _ _ _ hF hw (lv_sub hl [0] rfl))
    · intro  σ res hF
      exact rp_entry (by decide) (Nat.le_of_ble_eq_true rfl) (fun p e s m below meth c ls hC hw hl => kX7_both_0 n _ ih.1 _ ih.2.1 _ ih.2.2.1 _ ih.2.2.2.1 _ ih.2.2.2.2.1 _ ih.2.2.2.2.2 hC σ _ _ _ hF hw (lv_sub hl [0] rfl))
    · intro  σ res hF
      exact rp_entry (by decide) (Nat.le_of_ble_eq_true rfl) (fun p e s m below meth c ls hC hw hl => kX7_compared_0 n _ ih.1 _ ih.2.1 _ ih.2.2.1 _ ih.2.2.2.1 _ ih.2.2.2.2.1 _ ih.2.2.2.2.2 hC σ _ _ _ hF hw (lv_sub hl [0] rfl))
    · intro  σ res hF
      exact rp_entry (by decide) (Nat.le_of_ble_eq_true rfl) (fun p e s m below meth c ls hC hw hl => kX7_sum_0 n _ ih.1 _ ih.2.1 _ ih.2.2.1 _ ih.2.2.2.1 _ ih.2.2.2.2.1 _ ih.2.2.2.2.2 hC σ _ _ _ hF hw (lv_sub hl [0] rfl))
    · intro  σ res hF
      exact rp_entry (by decide) (Nat.le_of_ble_eq_true rfl) (fun p e s m below meth c ls hC hw hl => kX7_product_0 n _ ih.1 _ ih.2.1 _ ih.2.2.1 _ ih.2.2.2.1 _ ih.2.2.2.2.1 _ ih.2.2.2.2.2 hC σ _ _ _ hF hw (lv_sub hl [0] rfl))
    · intro  σ res hF
      exact rp_entry (by decide) (Nat.le_of_ble_eq_true rfl) (fun p e s m below meth c ls hC hw hl => kX7_one_0 n _ ih.1 _ ih.2.1 _ ih.2.2.1 _ ih.2.2.2.1 _ ih.2.2.2.2.1 _ ih.2.2.2.2.2 hC σ _ _ _ hF hw (lv_sub hl [0] rfl))
def fX7_text_117 (k117 : Int32 → rp_St → Option (Int32 × rp_St)) (v2 : Int32) (σ : rp_St) : Option (Int32 × rp_St) :=
  (if (σ 0 12) ≤ v2 then some (1, σ) else rp_gu (rp_in v2 60) (rp_gu (rp_in (((117 + (52 * (σ 0 9))) + 1) + v2) 221) (rp_nm (rp_put σ 1 ((((117 + (52 * (σ 0 9))) + 1) + v2) : Int32).toNatClampNeg (σ 7 (v2 : Int32).toNatClampNeg)) (fun σ1 => rp_nm (v2 + 1) (fun x2 => k117 x2 σ1)))))
set_option maxRecDepth 100000 in
set_option maxHeartbeats 4000000 in
theorem kX7_text_117 {p : Program} {l : Launch} {e : Env} {s : State} {m : MethodId} {args : Array Value} {below : List Frame} {meth : Method} {c : Code} {D : va_G} {cI cT : ClassId} {ad av a : Nat → Nat} {res : Int32 × rp_St} (hC : mC p s m args meth c cX7_text 3 "RegretPegsModel" (some .int) D cI cT ad av a) (k117 : Int32 → rp_St → Option (Int32 × rp_St)) (hk117 : ∀ (v2 : Int32) (σ : rp_St) (H : Heap) (locs : List Loc) (ls : Array Slot), k117 v2 σ = some res → mW D cI cT ad av a s σ H locs → lv_has ls 3 [(0, .ref (a 0)), (2, .int v2)] → W p l e (rp_rm 86) s m args below meth c H locs 0 0 (MQ below (rp_Qi D a (mt cI cT ad a) 15 res) args s 0 0 (rp_A a 15)) (F0 m 117 ls [])) (v2 : Int32) (σ : rp_St) (H : Heap) (locs : List Loc) (ls : Array Slot) (hF : fX7_text_117 k117 v2 σ = some res) (hw : mW D cI cT ad av a s σ H locs) (hl : lv_has ls 3 [(0, .ref (a 0)), (2, .int v2)]) : W p l e (rp_rm 86) s m args below meth c H locs 0 0 (MQ below (rp_Qi D a (mt cI cT ad a) 15 res) args s 0 0 (rp_A a 15)) (F0 m 117 ls []) := by
  have hx := hC.1
  have hb := hC.2.1
  have hown := hC.2.2.2.1
  have hts := hC.2.2.2.2.1
  unfold fX7_text_117 at hF
  refine lv_iload_n (pc := 117) hx hb dX7_text_117 rfl (lv_at hl 1 rfl) ?_
  refine lv_aload_n (pc := 118) hx hb dX7_text_118 rfl (lv_at hl 0 rfl) ?_
  refine rp_get (pc := 119) hC hw 0 (by decide) (mt_obj _) fl_X7_97 (.int (σ 0 12)) rfl dX7_text_119 ?_
  refine lv_icmp_ge (pc := 122) (tgt := 156) hx hb dX7_text_122 (by decide) (fun hc => ?_) (fun hc => ?_)
  · replace hF := rp_it hc hF
    refine lv_iconst (pc := 156) (v := 1) hx hb dX7_text_156 (by decide) ?_
    exact rp_reti (pc := 157) hC hw hF dX7_text_157
  · replace hF := rp_if hc hF
    refine lv_aload_n (pc := 125) hx hb dX7_text_125 rfl (lv_at hl 0 rfl) ?_
    refine rp_get (pc := 126) hC hw 0 (by decide) (mt_obj _) fl_X7_9 (.ref (a 1)) rfl dX7_text_126 ?_
    refine lv_bipush (pc := 129) (v := 117) hx hb dX7_text_129 (by decide) ?_
    refine lv_bipush (pc := 131) (v := 52) hx hb dX7_text_131 (by decide) ?_
    refine lv_aload_n (pc := 133) hx hb dX7_text_133 rfl (lv_at hl 0 rfl) ?_
    refine rp_get (pc := 134) hC hw 0 (by decide) (mt_obj _) fl_X7_123 (.int (σ 0 9)) rfl dX7_text_134 ?_
    refine lv_imul (pc := 137) hx hb dX7_text_137 ?_
    refine lv_iadd (pc := 138) hx hb dX7_text_138 ?_
    refine lv_iconst (pc := 139) (v := 1) hx hb dX7_text_139 (by decide) ?_
    refine lv_iadd (pc := 140) hx hb dX7_text_140 ?_
    refine lv_iload_n (pc := 141) hx hb dX7_text_141 rfl (lv_at hl 1 rfl) ?_
    refine lv_iadd (pc := 142) hx hb dX7_text_142 ?_
    refine lv_aload_n (pc := 143) hx hb dX7_text_143 rfl (lv_at hl 0 rfl) ?_
    refine rp_get (pc := 144) hC hw 0 (by decide) (mt_obj _) fl_X7_35 (.ref (a 7)) rfl dX7_text_144 ?_
    refine lv_iload_n (pc := 147) hx hb dX7_text_147 rfl (lv_at hl 1 rfl) ?_
    obtain ⟨hg, hF⟩ := rp_gu_e hF
    refine rp_ald (pc := 148) hC hw 7 (by decide) (mt_arr 7 60 rfl) 0 rfl hg dX7_text_148 ?_
    obtain ⟨hg, hF⟩ := rp_gu_e hF
    refine rp_ast (pc := 149) hC hw 1 (by decide) (mt_arr 1 221 rfl) 0 rfl hg dX7_text_149 (fun H locs hw => ?_)
    obtain ⟨σ1, eσ1, hF⟩ := rp_nm_e hF
    replace hw := rp_Wn eσ1 hw
    clear eσ1
    obtain ⟨x2, ex2, hF⟩ := rp_nm_e hF
    refine lv_iinc (pc := 150) (v := x2) (lv' := [(2, .int x2), (0, .ref (a 0))]) hx hb dX7_text_150 hl (k := 1) rfl (by rw [ex2]; rfl) (by decide) rfl (fun ls hl => ?_)
    refine lv_goto (pc := 153) (tgt := 117) hx hb dX7_text_153 (by decide) ?_
    exact hk117 x2 σ1 _ _ _ hF hw (lv_sub hl [1, 0] rfl)
theorem lX7_text_117 {p : Program} {l : Launch} {e : Env} {s : State} {m : MethodId} {args : Array Value} {below : List Frame} {meth : Method} {c : Code} {D : va_G} {cI cT : ClassId} {ad av a : Nat → Nat} {res : Int32 × rp_St} (hC : mC p s m args meth c cX7_text 3 "RegretPegsModel" (some .int) D cI cT ad av a) : ∀ (n : Nat) (v2 : Int32) (σ : rp_St) (H : Heap) (locs : List Loc) (ls : Array Slot), rp_lp (fun _ _ => none) (fX7_text_117) n v2 σ = some res → mW D cI cT ad av a s σ H locs → lv_has ls 3 [(0, .ref (a 0)), (2, .int v2)] → W p l e (rp_rm 86) s m args below meth c H locs 0 0 (MQ below (rp_Qi D a (mt cI cT ad a) 15 res) args s 0 0 (rp_A a 15)) (F0 m 117 ls [])
  | 0, _, _, _, _, _, hF, _, _ => nomatch hF
  | n + 1, v2, σ, H, locs, ls, hF, hw, hl => kX7_text_117 hC (rp_lp (fun _ _ => none) (fX7_text_117) n) (lX7_text_117 hC n) v2 σ H locs ls hF hw hl
def fX7_text_71 (t0 : Int32) (σ : rp_St) : Option (Int32 × rp_St) :=
  rp_gu (t0 == 0 || t0 == 1) (rp_nm (rp_put σ 0 10 t0) (fun σ1 => rp_gu (rp_in 3 221) (rp_nm (rp_put σ1 1 (3 : Int32).toNatClampNeg 0) (fun σ2 => (if (σ2 0 10) = 0 then rp_gu (rp_in (117 + (52 * (σ2 0 9))) 221) (rp_nm (rp_put σ2 1 ((117 + (52 * (σ2 0 9))) : Int32).toNatClampNeg (σ2 0 12)) (fun σ3 => rp_lp (fun _ _ => none) (fX7_text_117) 300 0 σ3)) else some (((-10) - (σ2 0 7)), σ2))))))
set_option maxRecDepth 100000 in
set_option maxHeartbeats 4000000 in
theorem kX7_text_71 {p : Program} {l : Launch} {e : Env} {s : State} {m : MethodId} {args : Array Value} {below : List Frame} {meth : Method} {c : Code} {D : va_G} {cI cT : ClassId} {ad av a : Nat → Nat} {res : Int32 × rp_St} (hC : mC p s m args meth c cX7_text 3 "RegretPegsModel" (some .int) D cI cT ad av a) (t0 : Int32) (σ : rp_St) (H : Heap) (locs : List Loc) (ls : Array Slot) (hF : fX7_text_71 t0 σ = some res) (hw : mW D cI cT ad av a s σ H locs) (hl : lv_has ls 3 [(0, .ref (a 0))]) : W p l e (rp_rm 86) s m args below meth c H locs 0 0 (MQ below (rp_Qi D a (mt cI cT ad a) 15 res) args s 0 0 (rp_A a 15)) (F0 m 71 ls [.int t0, .ref (a 0)]) := by
  have hx := hC.1
  have hb := hC.2.1
  have hown := hC.2.2.2.1
  have hts := hC.2.2.2.2.1
  unfold fX7_text_71 at hF
  obtain ⟨hg, hF⟩ := rp_gu_e hF
  refine rp_set (pc := 71) (fs := mb_obj a) hC hw 0 (by decide) mt_obj fg_X7_85 rfl (Nat.le_of_ble_eq_true rfl) (rp_nz hg).1 (rp_nz hg).2 dX7_text_71 (fun H locs hw => ?_)
  obtain ⟨σ1, eσ1, hF⟩ := rp_nm_e hF
  replace hw := rp_Wn eσ1 hw
  clear eσ1
  refine lv_aload_n (pc := 74) hx hb dX7_text_74 rfl (lv_at hl 0 rfl) ?_
  refine rp_get (pc := 75) hC hw 0 (by decide) (mt_obj _) fl_X7_9 (.ref (a 1)) rfl dX7_text_75 ?_
  refine lv_iconst (pc := 78) (v := 3) hx hb dX7_text_78 (by decide) ?_
  refine lv_iconst (pc := 79) (v := 0) hx hb dX7_text_79 (by decide) ?_
  obtain ⟨hg, hF⟩ := rp_gu_e hF
  refine rp_ast (pc := 80) hC hw 1 (by decide) (mt_arr 1 221 rfl) 0 rfl hg dX7_text_80 (fun H locs hw => ?_)
  obtain ⟨σ2, eσ2, hF⟩ := rp_nm_e hF
  replace hw := rp_Wn eσ2 hw
  clear eσ2
  refine lv_aload_n (pc := 81) hx hb dX7_text_81 rfl (lv_at hl 0 rfl) ?_
  refine rp_get (pc := 82) hC hw 0 (by decide) (mt_obj _) fl_X7_85 (.int (σ2 0 10)) rfl dX7_text_82 ?_
  refine lv_if_eq (pc := 85) (tgt := 96) hx hb dX7_text_85 (by decide) (fun hc => ?_) (fun hc => ?_)
  · replace hF := rp_it hc hF
    refine lv_aload_n (pc := 96) hx hb dX7_text_96 rfl (lv_at hl 0 rfl) ?_
    refine rp_get (pc := 97) hC hw 0 (by decide) (mt_obj _) fl_X7_9 (.ref (a 1)) rfl dX7_text_97 ?_
    refine lv_bipush (pc := 100) (v := 117) hx hb dX7_text_100 (by decide) ?_
    refine lv_bipush (pc := 102) (v := 52) hx hb dX7_text_102 (by decide) ?_
    refine lv_aload_n (pc := 104) hx hb dX7_text_104 rfl (lv_at hl 0 rfl) ?_
    refine rp_get (pc := 105) hC hw 0 (by decide) (mt_obj _) fl_X7_123 (.int (σ2 0 9)) rfl dX7_text_105 ?_
    refine lv_imul (pc := 108) hx hb dX7_text_108 ?_
    refine lv_iadd (pc := 109) hx hb dX7_text_109 ?_
    refine lv_aload_n (pc := 110) hx hb dX7_text_110 rfl (lv_at hl 0 rfl) ?_
    refine rp_get (pc := 111) hC hw 0 (by decide) (mt_obj _) fl_X7_97 (.int (σ2 0 12)) rfl dX7_text_111 ?_
    obtain ⟨hg, hF⟩ := rp_gu_e hF
    refine rp_ast (pc := 114) hC hw 1 (by decide) (mt_arr 1 221 rfl) 0 rfl hg dX7_text_114 (fun H locs hw => ?_)
    obtain ⟨σ3, eσ3, hF⟩ := rp_nm_e hF
    replace hw := rp_Wn eσ3 hw
    clear eσ3
    refine lv_iconst (pc := 115) (v := 0) hx hb dX7_text_115 (by decide) ?_
    refine lv_istore_n (pc := 116) (lv' := [(2, .int 0), (0, .ref (a 0))]) hx hb dX7_text_116 rfl hl (by decide) rfl (fun ls hl => ?_)
    exact lX7_text_117 hC 300 0 σ3 _ _ _ hF hw (lv_sub hl [1, 0] rfl)
  · replace hF := rp_if hc hF
    refine lv_bipush (pc := 88) (v := (-10)) hx hb dX7_text_88 (by decide) ?_
    refine lv_aload_n (pc := 90) hx hb dX7_text_90 rfl (lv_at hl 0 rfl) ?_
    refine rp_get (pc := 91) hC hw 0 (by decide) (mt_obj _) fl_X7_89 (.int (σ2 0 7)) rfl dX7_text_91 ?_
    refine lv_isub (pc := 94) hx hb dX7_text_94 ?_
    exact rp_reti (pc := 95) hC hw hF dX7_text_95
def fX7_text_66 (σ : rp_St) : Option (Int32 × rp_St) :=
  fX7_text_71 1 σ
set_option maxRecDepth 100000 in
set_option maxHeartbeats 4000000 in
theorem kX7_text_66 {p : Program} {l : Launch} {e : Env} {s : State} {m : MethodId} {args : Array Value} {below : List Frame} {meth : Method} {c : Code} {D : va_G} {cI cT : ClassId} {ad av a : Nat → Nat} {res : Int32 × rp_St} (hC : mC p s m args meth c cX7_text 3 "RegretPegsModel" (some .int) D cI cT ad av a) (σ : rp_St) (H : Heap) (locs : List Loc) (ls : Array Slot) (hF : fX7_text_66 σ = some res) (hw : mW D cI cT ad av a s σ H locs) (hl : lv_has ls 3 [(0, .ref (a 0))]) : W p l e (rp_rm 86) s m args below meth c H locs 0 0 (MQ below (rp_Qi D a (mt cI cT ad a) 15 res) args s 0 0 (rp_A a 15)) (F0 m 66 ls [.ref (a 0)]) := by
  have hx := hC.1
  have hb := hC.2.1
  have hown := hC.2.2.2.1
  have hts := hC.2.2.2.2.1
  unfold fX7_text_66 at hF
  refine lv_iconst (pc := 66) (v := 1) hx hb dX7_text_66 (by decide) ?_
  refine lv_goto (pc := 67) (tgt := 71) hx hb dX7_text_67 (by decide) ?_
  exact kX7_text_71 hC 1 σ _ _ _ hF hw (lv_sub hl [0] rfl)
def fX7_text (v1 : Int32) (σ : rp_St) : Option (Int32 × rp_St) :=
  rp_bd (fX7_within v1 0 1 σ) (fun r1 σ2 => (if r1 = 0 then rp_bd (fX7_finding (-1000000001) σ2) (fun r10 σ11 => some (r10, σ11)) else rp_nm (rp_put σ2 0 9 v1) (fun σ3 => rp_nm (rp_put σ3 0 7 0) (fun σ4 => rp_nm (rp_put σ4 0 8 0) (fun σ5 => rp_nm (rp_put σ5 0 10 0) (fun σ6 => rp_nm (rp_put σ6 0 12 0) (fun σ7 => rp_bd ((fX7_grp 80).1 σ7) (fun _ σ9 => (if (σ9 0 10) = 0 then rp_gu (rp_in 3 221) ((if (σ9 1 (3 : Int32).toNatClampNeg) ≤ (σ9 0 7) then fX7_text_71 0 σ9 else fX7_text_66 σ9)) else fX7_text_66 σ9)))))))))
set_option maxRecDepth 100000 in
set_option maxHeartbeats 4000000 in
theorem kX7_text_0 {p : Program} {l : Launch} {e : Env} {s : State} {m : MethodId} {args : Array Value} {below : List Frame} {meth : Method} {c : Code} {D : va_G} {cI cT : ClassId} {ad av a : Nat → Nat} {res : Int32 × rp_St} (hC : mC p s m args meth c cX7_text 3 "RegretPegsModel" (some .int) D cI cT ad av a) (v1 : Int32) (σ : rp_St) (H : Heap) (locs : List Loc) (ls : Array Slot) (hF : fX7_text v1 σ = some res) (hw : mW D cI cT ad av a s σ H locs) (hl : lv_has ls 3 [(0, .ref (a 0)), (1, .int v1)]) : W p l e (rp_rm 86) s m args below meth c H locs 0 0 (MQ below (rp_Qi D a (mt cI cT ad a) 15 res) args s 0 0 (rp_A a 15)) (F0 m 0 ls []) := by
  have hx := hC.1
  have hb := hC.2.1
  have hown := hC.2.2.2.1
  have hts := hC.2.2.2.2.1
  unfold fX7_text at hF
  refine lv_iload_n (pc := 0) hx hb dX7_text_0 rfl (lv_at hl 1 rfl) ?_
  refine lv_iconst (pc := 1) (v := 0) hx hb dX7_text_1 (by decide) ?_
  refine lv_iconst (pc := 2) (v := 1) hx hb dX7_text_2 (by decide) ?_
  obtain ⟨r1, σ2, hq, hF⟩ := rp_bd_e hF
  refine rp_ki (rp_runZ (rest := []) hC (mE_ok _) hw hl.1 (mX7_within (l := l) v1 0 1 σ _ hq) zw_X7_73 rfl rfl (Nat.le_of_ble_eq_true rfl) (by decide) dX7_text_3) hw (fun H locs hw => ?_)
  clear hq
  refine lv_if_ne (pc := 6) (tgt := 16) hx hb dX7_text_6 (by decide) (fun hc => ?_) (fun hc => ?_)
  · replace hF := rp_if hc hF
    refine lv_aload_n (pc := 16) hx hb dX7_text_16 rfl (lv_at hl 0 rfl) ?_
    refine lv_iload_n (pc := 17) hx hb dX7_text_17 rfl (lv_at hl 1 rfl) ?_
    refine rp_set (pc := 18) (fs := mb_obj a) hC hw 0 (by decide) mt_obj fg_X7_123 rfl (Nat.le_of_ble_eq_true rfl) rfl rfl dX7_text_18 (fun H locs hw => ?_)
    obtain ⟨σ3, eσ3, hF⟩ := rp_nm_e hF
    replace hw := rp_Wn eσ3 hw
    clear eσ3
    refine lv_aload_n (pc := 21) hx hb dX7_text_21 rfl (lv_at hl 0 rfl) ?_
    refine lv_iconst (pc := 22) (v := 0) hx hb dX7_text_22 (by decide) ?_
    refine rp_set (pc := 23) (fs := mb_obj a) hC hw 0 (by decide) mt_obj fg_X7_89 rfl (Nat.le_of_ble_eq_true rfl) rfl rfl dX7_text_23 (fun H locs hw => ?_)
    obtain ⟨σ4, eσ4, hF⟩ := rp_nm_e hF
    replace hw := rp_Wn eσ4 hw
    clear eσ4
    refine lv_aload_n (pc := 26) hx hb dX7_text_26 rfl (lv_at hl 0 rfl) ?_
    refine lv_iconst (pc := 27) (v := 0) hx hb dX7_text_27 (by decide) ?_
    refine rp_set (pc := 28) (fs := mb_obj a) hC hw 0 (by decide) mt_obj fg_X7_133 rfl (Nat.le_of_ble_eq_true rfl) rfl rfl dX7_text_28 (fun H locs hw => ?_)
    obtain ⟨σ5, eσ5, hF⟩ := rp_nm_e hF
    replace hw := rp_Wn eσ5 hw
    clear eσ5
    refine lv_aload_n (pc := 31) hx hb dX7_text_31 rfl (lv_at hl 0 rfl) ?_
    refine lv_iconst (pc := 32) (v := 0) hx hb dX7_text_32 (by decide) ?_
    refine rp_set (pc := 33) (fs := mb_obj a) hC hw 0 (by decide) mt_obj fg_X7_85 rfl (Nat.le_of_ble_eq_true rfl) (by decide +kernel) (by decide +kernel) dX7_text_33 (fun H locs hw => ?_)
    obtain ⟨σ6, eσ6, hF⟩ := rp_nm_e hF
    replace hw := rp_Wn eσ6 hw
    clear eσ6
    refine lv_aload_n (pc := 36) hx hb dX7_text_36 rfl (lv_at hl 0 rfl) ?_
    refine lv_iconst (pc := 37) (v := 0) hx hb dX7_text_37 (by decide) ?_
    refine rp_set (pc := 38) (fs := mb_obj a) hC hw 0 (by decide) mt_obj fg_X7_97 rfl (Nat.le_of_ble_eq_true rfl) rfl rfl dX7_text_38 (fun H locs hw => ?_)
    obtain ⟨σ7, eσ7, hF⟩ := rp_nm_e hF
    replace hw := rp_Wn eσ7 hw
    clear eσ7
    refine lv_aload_n (pc := 41) hx hb dX7_text_41 rfl (lv_at hl 0 rfl) ?_
    obtain ⟨r8, σ9, hq, hF⟩ := rp_bd_e hF
    refine rp_kv (rp_runV (rest := []) hC (mE_ok _) hw hl.1 ((mX7_grp 80 (l := l) (D := D)).1 σ7 _ hq) vw_X7_136 (by decide) (mt_obj _) rfl rfl rfl (Nat.le_of_ble_eq_true rfl) (by decide) dX7_text_42) hw (fun H locs hw => ?_)
    clear hq
    refine lv_aload_n (pc := 45) hx hb dX7_text_45 rfl (lv_at hl 0 rfl) ?_
    refine lv_aload_n (pc := 46) hx hb dX7_text_46 rfl (lv_at hl 0 rfl) ?_
    refine rp_get (pc := 47) hC hw 0 (by decide) (mt_obj _) fl_X7_85 (.int (σ9 0 10)) rfl dX7_text_47 ?_
    refine lv_if_ne (pc := 50) (tgt := 66) hx hb dX7_text_50 (by decide) (fun hc => ?_) (fun hc => ?_)
    · replace hF := rp_if hc hF
      exact kX7_text_66 hC σ9 _ _ _ hF hw (lv_sub hl [0] rfl)
    · replace hF := rp_it hc hF
      refine lv_aload_n (pc := 53) hx hb dX7_text_53 rfl (lv_at hl 0 rfl) ?_
      refine rp_get (pc := 54) hC hw 0 (by decide) (mt_obj _) fl_X7_89 (.int (σ9 0 7)) rfl dX7_text_54 ?_
      refine lv_aload_n (pc := 57) hx hb dX7_text_57 rfl (lv_at hl 0 rfl) ?_
      refine rp_get (pc := 58) hC hw 0 (by decide) (mt_obj _) fl_X7_9 (.ref (a 1)) rfl dX7_text_58 ?_
      refine lv_iconst (pc := 61) (v := 3) hx hb dX7_text_61 (by decide) ?_
      obtain ⟨hg, hF⟩ := rp_gu_e hF
      refine rp_ald (pc := 62) hC hw 1 (by decide) (mt_arr 1 221 rfl) 0 rfl hg dX7_text_62 ?_
      refine lv_icmp_ge (pc := 63) (tgt := 70) hx hb dX7_text_63 (by decide) (fun hc => ?_) (fun hc => ?_)
      · replace hF := rp_it hc hF
        refine lv_iconst (pc := 70) (v := 0) hx hb dX7_text_70 (by decide) ?_
        exact kX7_text_71 hC 0 σ9 _ _ _ hF hw (lv_sub hl [0] rfl)
      · replace hF := rp_if hc hF
        exact kX7_text_66 hC σ9 _ _ _ hF hw (lv_sub hl [0] rfl)
  · replace hF := rp_it hc hF
    refine lv_aload_n (pc := 9) hx hb dX7_text_9 rfl (lv_at hl 0 rfl) ?_
    refine lv_ldc (pc := 10) (v := (-1000000001)) hx hb hown (hts _ wd_721) dX7_text_10 ?_
    obtain ⟨r10, σ11, hq, hF⟩ := rp_bd_e hF
    refine rp_ki (rp_runV (rest := []) hC (mE_ok _) hw hl.1 (mX7_finding (l := l) (-1000000001) σ2 _ hq) vw_X7_78 (by decide) (mt_obj _) rfl rfl rfl (Nat.le_of_ble_eq_true rfl) (by decide) dX7_text_12) hw (fun H locs hw => ?_)
    clear hq
    exact rp_reti (pc := 15) hC hw hF dX7_text_15
theorem mX7_text {l : Launch} {D : va_G} {cI cT : ClassId} {ad av a : Nat → Nat} (v1 : Int32) (σ : rp_St) (res : Int32 × rp_St) (hF : fX7_text v1 σ = some res) : mM l D cI cT ad av a yX7_text cX7_text 3 (some .int) 86 [.ref (a 0), .int v1] σ (rp_Qi D a (mt cI cT ad a) 15 res) :=
  rp_entry (by decide) (Nat.le_of_ble_eq_true rfl) (fun p e s m below meth c ls hC hw hl => kX7_text_0 hC v1 σ _ _ _ hF hw (lv_sub hl [0, 1] rfl))
