def fX6_feed_39 (k39 : Int64 → Int32 → Int32 → rp_St → Option (Int32 × rp_St)) (v1 : Int64) (v3 : Int32) (v4 : Int32) (σ : rp_St) : Option (Int32 × rp_St) :=
  (if v3 ≤ v4 then rp_nm (rp_put σ 40 4 ((σ 40 4) + v3)) (fun σ1 => some ((σ1 40 4), σ1)) else rp_gu (rp_in ((σ 40 4) + v4) 50) (rp_nm (rp_put σ 41 (((σ 40 4) + v4) : Int32).toNatClampNeg (vp_nar .byte (((((((v1 : Int64).toUInt64 >>> (((8 * v4) : Int32).toInt64.toUInt64 &&& Int64.toUInt64 63)).toInt64) : Int64).toInt32) : Int32).toInt8.toInt32))) (fun σ2 => rp_nm (v4 + 1) (fun x3 => k39 v1 v3 x3 σ2))))
set_option maxRecDepth 100000 in
set_option maxHeartbeats 4000000 in
theorem kX6_feed_39 {p : Program} {l : Launch} {e : Env} {s : State} {m : MethodId} {args : Array Value} {below : List Frame} {meth : Method} {c : Code} {D : va_G} {cI cB cS : ClassId} {a : Nat → Nat} {res : Int32 × rp_St} (hC : xC p s m args meth c cX6_feed 5 "RegretPegs" (some .int) D cI cB cS a) (k39 : Int64 → Int32 → Int32 → rp_St → Option (Int32 × rp_St)) (hk39 : ∀ (v1 : Int64) (v3 : Int32) (v4 : Int32) (σ : rp_St) (H : Heap) (locs : List Loc) (ls : Array Slot), k39 v1 v3 v4 σ = some res → xW D cI cB cS a s σ H locs → lv_has ls 5 [(0, .ref (a 54)), (1, .long v1), (3, .int v3), (4, .int v4)] → W p l e (rp_rm 2) s m args below meth c H locs 0 0 (MQ below (rp_Qi D a (xt cI cB cS a) 62 res) args s 0 0 (rp_A a 62)) (F0 m 39 ls [])) (v1 : Int64) (v3 : Int32) (v4 : Int32) (σ : rp_St) (H : Heap) (locs : List Loc) (ls : Array Slot) (hF : fX6_feed_39 k39 v1 v3 v4 σ = some res) (hw : xW D cI cB cS a s σ H locs) (hl : lv_has ls 5 [(0, .ref (a 54)), (1, .long v1), (3, .int v3), (4, .int v4)]) : W p l e (rp_rm 2) s m args below meth c H locs 0 0 (MQ below (rp_Qi D a (xt cI cB cS a) 62 res) args s 0 0 (rp_A a 62)) (F0 m 39 ls []) := by
  have hx := hC.1
  have hb := hC.2.1
  have hown := hC.2.2.2.1
  have hts := hC.2.2.2.2.1
  unfold fX6_feed_39 at hF
  refine lv_iload (pc := 39) hx hb dX6_feed_39 (lv_at hl 3 rfl) ?_
  refine lv_iload_n (pc := 41) hx hb dX6_feed_41 rfl (lv_at hl 2 rfl) ?_
  refine lv_icmp_ge (pc := 42) (tgt := 78) hx hb dX6_feed_42 (by decide) (fun hc => ?_) (fun hc => ?_)
  · replace hF := rp_it hc hF
    refine lv_aload_n (pc := 78) hx hb dX6_feed_78 rfl (lv_at hl 0 rfl) ?_
    refine rp_get (pc := 79) hC hw 54 (by decide) (xt_reg _) fl_X6_10 (.ref (a 40)) rfl dX6_feed_79 ?_
    refine lv_dup (pc := 82) hx hb dX6_feed_82 rfl ?_
    refine rp_get (pc := 83) hC hw 40 (by decide) ((xt_eve (i := 0) (by decide)) _) fl_X6_122 (.int (σ 40 4)) rfl dX6_feed_83 ?_
    refine lv_iload_n (pc := 86) hx hb dX6_feed_86 rfl (lv_at hl 2 rfl) ?_
    refine lv_iadd (pc := 87) hx hb dX6_feed_87 ?_
    refine rp_set (pc := 88) (fs := xb_eve a 0) hC hw 40 (by decide) (xt_eve (i := 0) (by decide)) fg_X6_122 rfl (Nat.le_of_ble_eq_true rfl) rfl rfl dX6_feed_88 (fun H locs hw => ?_)
    obtain ⟨σ1, eσ1, hF⟩ := rp_nm_e hF
    replace hw := rp_Wn eσ1 hw
    clear eσ1
    refine lv_aload_n (pc := 91) hx hb dX6_feed_91 rfl (lv_at hl 0 rfl) ?_
    refine rp_get (pc := 92) hC hw 54 (by decide) (xt_reg _) fl_X6_10 (.ref (a 40)) rfl dX6_feed_92 ?_
    refine rp_get (pc := 95) hC hw 40 (by decide) ((xt_eve (i := 0) (by decide)) _) fl_X6_122 (.int (σ1 40 4)) rfl dX6_feed_95 ?_
    exact rp_reti (pc := 98) hC hw hF dX6_feed_98
  · replace hF := rp_if hc hF
    refine lv_aload_n (pc := 45) hx hb dX6_feed_45 rfl (lv_at hl 0 rfl) ?_
    refine rp_get (pc := 46) hC hw 54 (by decide) (xt_reg _) fl_X6_10 (.ref (a 40)) rfl dX6_feed_46 ?_
    refine rp_get (pc := 49) hC hw 40 (by decide) ((xt_eve (i := 0) (by decide)) _) fl_X6_125 (.ref (a 41)) rfl dX6_feed_49 ?_
    refine lv_aload_n (pc := 52) hx hb dX6_feed_52 rfl (lv_at hl 0 rfl) ?_
    refine rp_get (pc := 53) hC hw 54 (by decide) (xt_reg _) fl_X6_10 (.ref (a 40)) rfl dX6_feed_53 ?_
    refine rp_get (pc := 56) hC hw 40 (by decide) ((xt_eve (i := 0) (by decide)) _) fl_X6_122 (.int (σ 40 4)) rfl dX6_feed_56 ?_
    refine lv_iload (pc := 59) hx hb dX6_feed_59 (lv_at hl 3 rfl) ?_
    refine lv_iadd (pc := 61) hx hb dX6_feed_61 ?_
    refine lv_lload_n (pc := 62) hx hb dX6_feed_62 rfl (lv_at hl 1 rfl) ?_
    refine lv_bipush (pc := 63) (v := 8) hx hb dX6_feed_63 (by decide) ?_
    refine lv_iload (pc := 65) hx hb dX6_feed_65 (lv_at hl 3 rfl) ?_
    refine lv_imul (pc := 67) hx hb dX6_feed_67 ?_
    refine lv_lushr (pc := 68) hx hb dX6_feed_68 rfl ?_
    refine lv_l2i (pc := 69) hx hb dX6_feed_69 rfl ?_
    refine lv_i2b (pc := 70) hx hb dX6_feed_70 rfl ?_
    obtain ⟨hg, hF⟩ := rp_gu_e hF
    refine rp_bast (pc := 71) hC hw 41 (by decide) (xt_tape (i := 0) (by decide)) 1 rfl hg dX6_feed_71 (fun H locs hw => ?_)
    obtain ⟨σ2, eσ2, hF⟩ := rp_nm_e hF
    replace hw := rp_Wn eσ2 hw
    clear eσ2
    obtain ⟨x3, ex3, hF⟩ := rp_nm_e hF
    refine lv_iinc (pc := 72) (v := x3) (lv' := [(4, .int x3), (0, .ref (a 54)), (1, .long v1), (3, .int v3)]) hx hb dX6_feed_72 hl (k := 3) rfl (by rw [ex3]; rfl) (by decide) rfl (fun ls hl => ?_)
    refine lv_goto (pc := 75) (tgt := 39) hx hb dX6_feed_75 (by decide) ?_
    exact hk39 v1 v3 x3 σ2 _ _ _ hF hw (lv_sub hl [1, 2, 3, 0] rfl)
theorem lX6_feed_39 {p : Program} {l : Launch} {e : Env} {s : State} {m : MethodId} {args : Array Value} {below : List Frame} {meth : Method} {c : Code} {D : va_G} {cI cB cS : ClassId} {a : Nat → Nat} {res : Int32 × rp_St} (hC : xC p s m args meth c cX6_feed 5 "RegretPegs" (some .int) D cI cB cS a) : ∀ (n : Nat) (v1 : Int64) (v3 : Int32) (v4 : Int32) (σ : rp_St) (H : Heap) (locs : List Loc) (ls : Array Slot), rp_lp (fun _ _ _ _ => none) (fX6_feed_39) n v1 v3 v4 σ = some res → xW D cI cB cS a s σ H locs → lv_has ls 5 [(0, .ref (a 54)), (1, .long v1), (3, .int v3), (4, .int v4)] → W p l e (rp_rm 2) s m args below meth c H locs 0 0 (MQ below (rp_Qi D a (xt cI cB cS a) 62 res) args s 0 0 (rp_A a 62)) (F0 m 39 ls [])
  | 0, _, _, _, _, _, _, _, hF, _, _ => nomatch hF
  | n + 1, v1, v3, v4, σ, H, locs, ls, hF, hw, hl => kX6_feed_39 hC (rp_lp (fun _ _ _ _ => none) (fX6_feed_39) n) (lX6_feed_39 hC n) v1 v3 v4 σ H locs ls hF hw hl
def fX6_feed (v1 : Int64) (v3 : Int32) (σ : rp_St) : Option (Int32 × rp_St) :=
  rp_bd (fX6_isWithin v3 1 8 σ) (fun r1 σ2 => (if r1 = 0 then rp_bd (fX6_refuse 1 σ2) (fun r5 σ6 => some (r5, σ6)) else (if ((σ2 40 4) + v3) ≤ 50 then rp_lp (fun _ _ _ _ => none) (fX6_feed_39) 300 v1 v3 0 σ2 else rp_bd (fX6_refuse 4 σ2) (fun r3 σ4 => some (r3, σ4)))))
set_option maxRecDepth 100000 in
set_option maxHeartbeats 4000000 in
theorem kX6_feed_0 {p : Program} {l : Launch} {e : Env} {s : State} {m : MethodId} {args : Array Value} {below : List Frame} {meth : Method} {c : Code} {D : va_G} {cI cB cS : ClassId} {a : Nat → Nat} {res : Int32 × rp_St} (hC : xC p s m args meth c cX6_feed 5 "RegretPegs" (some .int) D cI cB cS a) (v1 : Int64) (v3 : Int32) (σ : rp_St) (H : Heap) (locs : List Loc) (ls : Array Slot) (hF : fX6_feed v1 v3 σ = some res) (hw : xW D cI cB cS a s σ H locs) (hl : lv_has ls 5 [(0, .ref (a 54)), (1, .long v1), (3, .int v3)]) : W p l e (rp_rm 2) s m args below meth c H locs 0 0 (MQ below (rp_Qi D a (xt cI cB cS a) 62 res) args s 0 0 (rp_A a 62)) (F0 m 0 ls []) := by
  have hx := hC.1
  have hb := hC.2.1
  have hown := hC.2.2.2.1
  have hts := hC.2.2.2.2.1
  unfold fX6_feed at hF
  refine lv_iload_n (pc := 0) hx hb dX6_feed_0 rfl (lv_at hl 2 rfl) ?_
  refine lv_iconst (pc := 1) (v := 1) hx hb dX6_feed_1 (by decide) ?_
  refine lv_bipush (pc := 2) (v := 8) hx hb dX6_feed_2 (by decide) ?_
  obtain ⟨r1, σ2, hq, hF⟩ := rp_bd_e hF
  refine rp_ki (rp_runZ (rest := []) hC (xE_ok _) hw hl.1 (mX6_isWithin (l := l) v3 1 8 σ _ hq) zw_X6_62 rfl rfl (Nat.le_of_ble_eq_true rfl) (by decide) dX6_feed_4) hw (fun H locs hw => ?_)
  clear hq
  refine lv_if_ne (pc := 7) (tgt := 16) hx hb dX6_feed_7 (by decide) (fun hc => ?_) (fun hc => ?_)
  · replace hF := rp_if hc hF
    refine lv_aload_n (pc := 16) hx hb dX6_feed_16 rfl (lv_at hl 0 rfl) ?_
    refine rp_get (pc := 17) hC hw 54 (by decide) (xt_reg _) fl_X6_10 (.ref (a 40)) rfl dX6_feed_17 ?_
    refine rp_get (pc := 20) hC hw 40 (by decide) ((xt_eve (i := 0) (by decide)) _) fl_X6_122 (.int (σ2 40 4)) rfl dX6_feed_20 ?_
    refine lv_iload_n (pc := 23) hx hb dX6_feed_23 rfl (lv_at hl 2 rfl) ?_
    refine lv_iadd (pc := 24) hx hb dX6_feed_24 ?_
    refine lv_bipush (pc := 25) (v := 50) hx hb dX6_feed_25 (by decide) ?_
    refine lv_icmp_le (pc := 27) (tgt := 36) hx hb dX6_feed_27 (by decide) (fun hc => ?_) (fun hc => ?_)
    · replace hF := rp_it hc hF
      refine lv_iconst (pc := 36) (v := 0) hx hb dX6_feed_36 (by decide) ?_
      refine lv_istore (pc := 37) (lv' := [(4, .int 0), (0, .ref (a 54)), (1, .long v1), (3, .int v3)]) hx hb dX6_feed_37 hl (by decide) rfl (fun ls hl => ?_)
      exact lX6_feed_39 hC 300 v1 v3 0 σ2 _ _ _ hF hw (lv_sub hl [1, 2, 3, 0] rfl)
    · replace hF := rp_if hc hF
      refine lv_aload_n (pc := 30) hx hb dX6_feed_30 rfl (lv_at hl 0 rfl) ?_
      refine lv_iconst (pc := 31) (v := 4) hx hb dX6_feed_31 (by decide) ?_
      obtain ⟨r3, σ4, hq, hF⟩ := rp_bd_e hF
      refine rp_ki (rp_runV (rest := []) hC (xE_ok _) hw hl.1 (mX6_refuse (l := l) 4 σ2 _ hq) vw_X6_66 (by decide) (xt_reg _) rfl rfl rfl (Nat.le_of_ble_eq_true rfl) (by decide) dX6_feed_32) hw (fun H locs hw => ?_)
      clear hq
      exact rp_reti (pc := 35) hC hw hF dX6_feed_35
  · replace hF := rp_it hc hF
    refine lv_aload_n (pc := 10) hx hb dX6_feed_10 rfl (lv_at hl 0 rfl) ?_
    refine lv_iconst (pc := 11) (v := 1) hx hb dX6_feed_11 (by decide) ?_
    obtain ⟨r5, σ6, hq, hF⟩ := rp_bd_e hF
    refine rp_ki (rp_runV (rest := []) hC (xE_ok _) hw hl.1 (mX6_refuse (l := l) 1 σ2 _ hq) vw_X6_66 (by decide) (xt_reg _) rfl rfl rfl (Nat.le_of_ble_eq_true rfl) (by decide) dX6_feed_12) hw (fun H locs hw => ?_)
    clear hq
    exact rp_reti (pc := 15) hC hw hF dX6_feed_15
theorem mX6_feed {l : Launch} {D : va_G} {cI cB cS : ClassId} {a : Nat → Nat} (v1 : Int64) (v3 : Int32) (σ : rp_St) (res : Int32 × rp_St) (hF : fX6_feed v1 v3 σ = some res) : xM l D cI cB cS a yX6_feed cX6_feed 5 (some .int) 2 [.ref (a 54), .long v1, .int v3] σ (rp_Qi D a (xt cI cB cS a) 62 res) :=
  rp_entry (by decide) (Nat.le_of_ble_eq_true rfl) (fun p e s m below meth c ls hC hw hl => kX6_feed_0 hC v1 v3 σ _ _ _ hF hw (lv_sub hl [0, 1, 2] rfl))
def fX3_ahead (σ : rp_St) : Option (Int32 × rp_St) :=
  (if (σ 57 1) ≤ (σ 57 3) then some (0, σ) else rp_gu (rp_in (σ 57 3) 50) (some ((σ 61 ((σ 57 3) : Int32).toNatClampNeg), σ)))
set_option maxRecDepth 100000 in
set_option maxHeartbeats 4000000 in
theorem kX3_ahead_0 {p : Program} {l : Launch} {e : Env} {s : State} {m : MethodId} {args : Array Value} {below : List Frame} {meth : Method} {c : Code} {D : va_G} {cI cB cS : ClassId} {a : Nat → Nat} {res : Int32 × rp_St} (hC : xC p s m args meth c cX3_ahead 1 "RegretPegs$Reader" (some .int) D cI cB cS a) (σ : rp_St) (H : Heap) (locs : List Loc) (ls : Array Slot) (hF : fX3_ahead σ = some res) (hw : xW D cI cB cS a s σ H locs) (hl : lv_has ls 1 [(0, .ref (a 57))]) : W p l e (rp_rm 1) s m args below meth c H locs 0 0 (MQ below (rp_Qi D a (xt cI cB cS a) 62 res) args s 0 0 (rp_A a 62)) (F0 m 0 ls []) := by
  have hx := hC.1
  have hb := hC.2.1
  have hown := hC.2.2.2.1
  have hts := hC.2.2.2.2.1
  unfold fX3_ahead at hF
  refine lv_aload_n (pc := 0) hx hb dX3_ahead_0 rfl (lv_at hl 0 rfl) ?_
  refine rp_get (pc := 1) hC hw 57 (by decide) (xt_reader _) fl_X3_22 (.int (σ 57 3)) rfl dX3_ahead_1 ?_
  refine lv_aload_n (pc := 4) hx hb dX3_ahead_4 rfl (lv_at hl 0 rfl) ?_
  refine rp_get (pc := 5) hC hw 57 (by decide) (xt_reader _) fl_X3_15 (.int (σ 57 1)) rfl dX3_ahead_5 ?_
  refine lv_icmp_ge (pc := 8) (tgt := 23) hx hb dX3_ahead_8 (by decide) (fun hc => ?_) (fun hc => ?_)
  · replace hF := rp_it hc hF
    refine lv_iconst (pc := 23) (v := 0) hx hb dX3_ahead_23 (by decide) ?_
    exact rp_reti (pc := 24) hC hw hF dX3_ahead_24
  · replace hF := rp_if hc hF
    refine lv_aload_n (pc := 11) hx hb dX3_ahead_11 rfl (lv_at hl 0 rfl) ?_
    refine rp_get (pc := 12) hC hw 57 (by decide) (xt_reader _) fl_X3_9 (.ref (a 61)) rfl dX3_ahead_12 ?_
    refine lv_aload_n (pc := 15) hx hb dX3_ahead_15 rfl (lv_at hl 0 rfl) ?_
    refine rp_get (pc := 16) hC hw 57 (by decide) (xt_reader _) fl_X3_22 (.int (σ 57 3)) rfl dX3_ahead_16 ?_
    obtain ⟨hg, hF⟩ := rp_gu_e hF
    refine rp_bald (pc := 19) hC hw 61 (by decide) xt_rbytes 1 rfl hg dX3_ahead_19 ?_
    refine lv_goto (pc := 20) (tgt := 24) hx hb dX3_ahead_20 (by decide) ?_
    exact rp_reti (pc := 24) hC hw hF dX3_ahead_24
theorem mX3_ahead {l : Launch} {D : va_G} {cI cB cS : ClassId} {a : Nat → Nat}  (σ : rp_St) (res : Int32 × rp_St) (hF : fX3_ahead σ = some res) : xM l D cI cB cS a yX3_ahead cX3_ahead 1 (some .int) 1 [.ref (a 57)] σ (rp_Qi D a (xt cI cB cS a) 62 res) :=
  rp_entry (by decide) (Nat.le_of_ble_eq_true rfl) (fun p e s m below meth c ls hC hw hl => kX3_ahead_0 hC σ _ _ _ hF hw (lv_sub hl [0] rfl))
def fX3_levelOf (v0 : Int32) (σ : rp_St) : Option (Int32 × rp_St) :=
  (if v0 = 37 then some (4, σ) else (if v0 = 38 then some (1, σ) else (if v0 = 42 then some (4, σ) else (if v0 = 43 then some (3, σ) else (if v0 = 45 then some (3, σ) else (if v0 = 47 then some (4, σ) else (if v0 = 60 then some (2, σ) else (if v0 = 61 then some (2, σ) else (if v0 = 62 then some (2, σ) else (if v0 = 124 then some (0, σ) else some ((-1), σ)))))))))))
set_option maxRecDepth 100000 in
set_option maxHeartbeats 4000000 in
theorem kX3_levelOf_0 {p : Program} {l : Launch} {e : Env} {s : State} {m : MethodId} {args : Array Value} {below : List Frame} {meth : Method} {c : Code} {D : va_G} {cI cB cS : ClassId} {a : Nat → Nat} {res : Int32 × rp_St} (hC : xC p s m args meth c cX3_levelOf 1 "RegretPegs$Reader" (some .int) D cI cB cS a) (v0 : Int32) (σ : rp_St) (H : Heap) (locs : List Loc) (ls : Array Slot) (hF : fX3_levelOf v0 σ = some res) (hw : xW D cI cB cS a s σ H locs) (hl : lv_has ls 1 [(0, .int v0)]) : W p l e (rp_rm 1) s m args below meth c H locs 0 0 (MQ below (rp_Qi D a (xt cI cB cS a) 62 res) args s 0 0 (rp_A a 62)) (F0 m 0 ls []) := by
  have hx := hC.1
  have hb := hC.2.1
  have hown := hC.2.2.2.1
  have hts := hC.2.2.2.2.1
  unfold fX3_levelOf at hF
  refine lv_iload_n (pc := 0) hx hb dX3_levelOf_0 rfl (lv_at hl 0 rfl) ?_
  by_cases hs1_0 : v0 = 37
  · replace hF := rp_it hs1_0 hF
    refine lv_lookup (pc := 1) (off := 99) (tgt := 100) hx hb dX3_levelOf_1 (by decide) (by rw [hs1_0]; decide +kernel) (by decide) ?_
    refine lv_iconst (pc := 100) (v := 4) hx hb dX3_levelOf_100 (by decide) ?_
    exact rp_reti (pc := 101) hC hw hF dX3_levelOf_101
  replace hF := rp_if hs1_0 hF
  by_cases hs1_1 : v0 = 38
  · replace hF := rp_it hs1_1 hF
    refine lv_lookup (pc := 1) (off := 93) (tgt := 94) hx hb dX3_levelOf_1 (by decide) (by rw [hs1_1]; decide +kernel) (by decide) ?_
    refine lv_iconst (pc := 94) (v := 1) hx hb dX3_levelOf_94 (by decide) ?_
    exact rp_reti (pc := 95) hC hw hF dX3_levelOf_95
  replace hF := rp_if hs1_1 hF
  by_cases hs1_2 : v0 = 42
  · replace hF := rp_it hs1_2 hF
    refine lv_lookup (pc := 1) (off := 99) (tgt := 100) hx hb dX3_levelOf_1 (by decide) (by rw [hs1_2]; decide +kernel) (by decide) ?_
    refine lv_iconst (pc := 100) (v := 4) hx hb dX3_levelOf_100 (by decide) ?_
    exact rp_reti (pc := 101) hC hw hF dX3_levelOf_101
  replace hF := rp_if hs1_2 hF
  by_cases hs1_3 : v0 = 43
  · replace hF := rp_it hs1_3 hF
    refine lv_lookup (pc := 1) (off := 97) (tgt := 98) hx hb dX3_levelOf_1 (by decide) (by rw [hs1_3]; decide +kernel) (by decide) ?_
    refine lv_iconst (pc := 98) (v := 3) hx hb dX3_levelOf_98 (by decide) ?_
    exact rp_reti (pc := 99) hC hw hF dX3_levelOf_99
  replace hF := rp_if hs1_3 hF
  by_cases hs1_4 : v0 = 45
  · replace hF := rp_it hs1_4 hF
    refine lv_lookup (pc := 1) (off := 97) (tgt := 98) hx hb dX3_levelOf_1 (by decide) (by rw [hs1_4]; decide +kernel) (by decide) ?_
    refine lv_iconst (pc := 98) (v := 3) hx hb dX3_levelOf_98 (by decide) ?_
    exact rp_reti (pc := 99) hC hw hF dX3_levelOf_99
  replace hF := rp_if hs1_4 hF
  by_cases hs1_5 : v0 = 47
  · replace hF := rp_it hs1_5 hF
    refine lv_lookup (pc := 1) (off := 99) (tgt := 100) hx hb dX3_levelOf_1 (by decide) (by rw [hs1_5]; decide +kernel) (by decide) ?_
    refine lv_iconst (pc := 100) (v := 4) hx hb dX3_levelOf_100 (by decide) ?_
    exact rp_reti (pc := 101) hC hw hF dX3_levelOf_101
  replace hF := rp_if hs1_5 hF
  by_cases hs1_6 : v0 = 60
  · replace hF := rp_it hs1_6 hF
    refine lv_lookup (pc := 1) (off := 95) (tgt := 96) hx hb dX3_levelOf_1 (by decide) (by rw [hs1_6]; decide +kernel) (by decide) ?_
    refine lv_iconst (pc := 96) (v := 2) hx hb dX3_levelOf_96 (by decide) ?_
    exact rp_reti (pc := 97) hC hw hF dX3_levelOf_97
  replace hF := rp_if hs1_6 hF
  by_cases hs1_7 : v0 = 61
  · replace hF := rp_it hs1_7 hF
    refine lv_lookup (pc := 1) (off := 95) (tgt := 96) hx hb dX3_levelOf_1 (by decide) (by rw [hs1_7]; decide +kernel) (by decide) ?_
    refine lv_iconst (pc := 96) (v := 2) hx hb dX3_levelOf_96 (by decide) ?_
    exact rp_reti (pc := 97) hC hw hF dX3_levelOf_97
  replace hF := rp_if hs1_7 hF
  by_cases hs1_8 : v0 = 62
  · replace hF := rp_it hs1_8 hF
    refine lv_lookup (pc := 1) (off := 95) (tgt := 96) hx hb dX3_levelOf_1 (by decide) (by rw [hs1_8]; decide +kernel) (by decide) ?_
    refine lv_iconst (pc := 96) (v := 2) hx hb dX3_levelOf_96 (by decide) ?_
    exact rp_reti (pc := 97) hC hw hF dX3_levelOf_97
  replace hF := rp_if hs1_8 hF
  by_cases hs1_9 : v0 = 124
  · replace hF := rp_it hs1_9 hF
    refine lv_lookup (pc := 1) (off := 91) (tgt := 92) hx hb dX3_levelOf_1 (by decide) (by rw [hs1_9]; decide +kernel) (by decide) ?_
    refine lv_iconst (pc := 92) (v := 0) hx hb dX3_levelOf_92 (by decide) ?_
    exact rp_reti (pc := 93) hC hw hF dX3_levelOf_93
  replace hF := rp_if hs1_9 hF
  refine lv_lookup (pc := 1) (off := 101) (tgt := 102) hx hb dX3_levelOf_1 (by decide) (rp_lkc (rp_ne 37 37 (by decide) hs1_0) (rp_lkc (rp_ne 38 38 (by decide) hs1_1) (rp_lkc (rp_ne 42 42 (by decide) hs1_2) (rp_lkc (rp_ne 43 43 (by decide) hs1_3) (rp_lkc (rp_ne 45 45 (by decide) hs1_4) (rp_lkc (rp_ne 47 47 (by decide) hs1_5) (rp_lkc (rp_ne 60 60 (by decide) hs1_6) (rp_lkc (rp_ne 61 61 (by decide) hs1_7) (rp_lkc (rp_ne 62 62 (by decide) hs1_8) (rp_lkc (rp_ne 124 124 (by decide) hs1_9) rfl)))))))))) (by decide) ?_
  refine lv_iconst (pc := 102) (v := (-1)) hx hb dX3_levelOf_102 (by decide) ?_
  exact rp_reti (pc := 103) hC hw hF dX3_levelOf_103
theorem mX3_levelOf {l : Launch} {D : va_G} {cI cB cS : ClassId} {a : Nat → Nat} (v0 : Int32) (σ : rp_St) (res : Int32 × rp_St) (hF : fX3_levelOf v0 σ = some res) : xM l D cI cB cS a yX3_levelOf cX3_levelOf 1 (some .int) 1 [.int v0] σ (rp_Qi D a (xt cI cB cS a) 62 res) :=
  rp_entry (by decide) (Nat.le_of_ble_eq_true rfl) (fun p e s m below meth c ls hC hw hl => kX3_levelOf_0 hC v0 σ _ _ _ hF hw (lv_sub hl [0] rfl))
def fX3_emit (v1 : Int32) (σ : rp_St) : Option (Int32 × rp_St) :=
  (if 50 ≤ (σ 57 4) then some (0, σ) else rp_gu (rp_in (σ 57 4) 50) (rp_nm (rp_put σ 58 ((σ 57 4) : Int32).toNatClampNeg v1) (fun σ1 => rp_nm (rp_put σ1 57 4 ((σ1 57 4) + 1)) (fun σ2 => some (0, σ2)))))
set_option maxRecDepth 100000 in
set_option maxHeartbeats 4000000 in
theorem kX3_emit_0 {p : Program} {l : Launch} {e : Env} {s : State} {m : MethodId} {args : Array Value} {below : List Frame} {meth : Method} {c : Code} {D : va_G} {cI cB cS : ClassId} {a : Nat → Nat} {res : Int32 × rp_St} (hC : xC p s m args meth c cX3_emit 2 "RegretPegs$Reader" none D cI cB cS a) (v1 : Int32) (σ : rp_St) (H : Heap) (locs : List Loc) (ls : Array Slot) (hF : fX3_emit v1 σ = some res) (hw : xW D cI cB cS a s σ H locs) (hl : lv_has ls 2 [(0, .ref (a 57)), (1, .int v1)]) : W p l e (rp_rm 1) s m args below meth c H locs 0 0 (MQ below (rp_Qv D a (xt cI cB cS a) 62 res) args s 0 0 (rp_A a 62)) (F0 m 0 ls []) := by
  have hx := hC.1
  have hb := hC.2.1
  have hown := hC.2.2.2.1
  have hts := hC.2.2.2.2.1
  unfold fX3_emit at hF
  refine lv_aload_n (pc := 0) hx hb dX3_emit_0 rfl (lv_at hl 0 rfl) ?_
  refine rp_get (pc := 1) hC hw 57 (by decide) (xt_reader _) fl_X3_25 (.int (σ 57 4)) rfl dX3_emit_1 ?_
  refine lv_bipush (pc := 4) (v := 50) hx hb dX3_emit_4 (by decide) ?_
  refine lv_icmp_ge (pc := 6) (tgt := 29) hx hb dX3_emit_6 (by decide) (fun hc => ?_) (fun hc => ?_)
  · replace hF := rp_it hc hF
    exact rp_retv (pc := 29) hC hw hF dX3_emit_29
  · replace hF := rp_if hc hF
    refine lv_aload_n (pc := 9) hx hb dX3_emit_9 rfl (lv_at hl 0 rfl) ?_
    refine rp_get (pc := 10) hC hw 57 (by decide) (xt_reader _) fl_X3_28 (.ref (a 58)) rfl dX3_emit_10 ?_
    refine lv_aload_n (pc := 13) hx hb dX3_emit_13 rfl (lv_at hl 0 rfl) ?_
    refine rp_get (pc := 14) hC hw 57 (by decide) (xt_reader _) fl_X3_25 (.int (σ 57 4)) rfl dX3_emit_14 ?_
    refine lv_iload_n (pc := 17) hx hb dX3_emit_17 rfl (lv_at hl 1 rfl) ?_
    obtain ⟨hg, hF⟩ := rp_gu_e hF
    refine rp_ast (pc := 18) hC hw 58 (by decide) xt_rcode 0 rfl hg dX3_emit_18 (fun H locs hw => ?_)
    obtain ⟨σ1, eσ1, hF⟩ := rp_nm_e hF
    replace hw := rp_Wn eσ1 hw
    clear eσ1
    refine lv_aload_n (pc := 19) hx hb dX3_emit_19 rfl (lv_at hl 0 rfl) ?_
    refine lv_dup (pc := 20) hx hb dX3_emit_20 rfl ?_
    refine rp_get (pc := 21) hC hw 57 (by decide) (xt_reader _) fl_X3_25 (.int (σ1 57 4)) rfl dX3_emit_21 ?_
    refine lv_iconst (pc := 24) (v := 1) hx hb dX3_emit_24 (by decide) ?_
    refine lv_iadd (pc := 25) hx hb dX3_emit_25 ?_
    refine rp_set (pc := 26) (fs := xb_reader a) hC hw 57 (by decide) xt_reader fg_X3_25 rfl (Nat.le_of_ble_eq_true rfl) rfl rfl dX3_emit_26 (fun H locs hw => ?_)
    obtain ⟨σ2, eσ2, hF⟩ := rp_nm_e hF
    replace hw := rp_Wn eσ2 hw
    clear eσ2
    exact rp_retv (pc := 29) hC hw hF dX3_emit_29
theorem mX3_emit {l : Launch} {D : va_G} {cI cB cS : ClassId} {a : Nat → Nat} (v1 : Int32) (σ : rp_St) (res : Int32 × rp_St) (hF : fX3_emit v1 σ = some res) : xM l D cI cB cS a yX3_emit cX3_emit 2 none 1 [.ref (a 57), .int v1] σ (rp_Qv D a (xt cI cB cS a) 62 res) :=
  rp_entry (by decide) (Nat.le_of_ble_eq_true rfl) (fun p e s m below meth c ls hC hw hl => kX3_emit_0 hC v1 σ _ _ _ hF hw (lv_sub hl [0, 1] rfl))
def fX3_isDigit (v0 : Int32) (σ : rp_St) : Option (Int32 × rp_St) :=
  (if v0 < 48 then some (0, σ) else (if 57 < v0 then some (0, σ) else some (1, σ)))
set_option maxRecDepth 100000 in
set_option maxHeartbeats 4000000 in
theorem kX3_isDigit_0 {p : Program} {l : Launch} {e : Env} {s : State} {m : MethodId} {args : Array Value} {below : List Frame} {meth : Method} {c : Code} {D : va_G} {cI cB cS : ClassId} {a : Nat → Nat} {res : Int32 × rp_St} (hC : xC p s m args meth c cX3_isDigit 1 "RegretPegs$Reader" (some .boolean) D cI cB cS a) (v0 : Int32) (σ : rp_St) (H : Heap) (locs : List Loc) (ls : Array Slot) (hF : fX3_isDigit v0 σ = some res) (hw : xW D cI cB cS a s σ H locs) (hl : lv_has ls 1 [(0, .int v0)]) : W p l e (rp_rm 1) s m args below meth c H locs 0 0 (MQ below (rp_Qi D a (xt cI cB cS a) 62 res) args s 0 0 (rp_A a 62)) (F0 m 0 ls []) := by
  have hx := hC.1
  have hb := hC.2.1
  have hown := hC.2.2.2.1
  have hts := hC.2.2.2.2.1
  unfold fX3_isDigit at hF
  refine lv_iload_n (pc := 0) hx hb dX3_isDigit_0 rfl (lv_at hl 0 rfl) ?_
  refine lv_bipush (pc := 1) (v := 48) hx hb dX3_isDigit_1 (by decide) ?_
  refine lv_icmp_lt (pc := 3) (tgt := 16) hx hb dX3_isDigit_3 (by decide) (fun hc => ?_) (fun hc => ?_)
  · replace hF := rp_it hc hF
    refine lv_iconst (pc := 16) (v := 0) hx hb dX3_isDigit_16 (by decide) ?_
    exact rp_retz (pc := 17) hC hw rfl hF dX3_isDigit_17
  · replace hF := rp_if hc hF
    refine lv_iload_n (pc := 6) hx hb dX3_isDigit_6 rfl (lv_at hl 0 rfl) ?_
    refine lv_bipush (pc := 7) (v := 57) hx hb dX3_isDigit_7 (by decide) ?_
    refine lv_icmp_gt (pc := 9) (tgt := 16) hx hb dX3_isDigit_9 (by decide) (fun hc => ?_) (fun hc => ?_)
    · replace hF := rp_it hc hF
      refine lv_iconst (pc := 16) (v := 0) hx hb dX3_isDigit_16 (by decide) ?_
      exact rp_retz (pc := 17) hC hw rfl hF dX3_isDigit_17
    · replace hF := rp_if hc hF
      refine lv_iconst (pc := 12) (v := 1) hx hb dX3_isDigit_12 (by decide) ?_
      refine lv_goto (pc := 13) (tgt := 17) hx hb dX3_isDigit_13 (by decide) ?_
      exact rp_retz (pc := 17) hC hw rfl hF dX3_isDigit_17
theorem mX3_isDigit {l : Launch} {D : va_G} {cI cB cS : ClassId} {a : Nat → Nat} (v0 : Int32) (σ : rp_St) (res : Int32 × rp_St) (hF : fX3_isDigit v0 σ = some res) : xM l D cI cB cS a yX3_isDigit cX3_isDigit 1 (some .boolean) 1 [.int v0] σ (rp_Qi D a (xt cI cB cS a) 62 res) :=
  rp_entry (by decide) (Nat.le_of_ble_eq_true rfl) (fun p e s m below meth c ls hC hw hl => kX3_isDigit_0 hC v0 σ _ _ _ hF hw (lv_sub hl [0] rfl))
def fX3_readNumber_48 (v1 : Int32) (σ : rp_St) : Option (Int32 × rp_St) :=
  rp_bd (fX3_emit v1 σ) (fun _ σ2 => some (0, σ2))
set_option maxRecDepth 100000 in
set_option maxHeartbeats 4000000 in
theorem kX3_readNumber_48 {p : Program} {l : Launch} {e : Env} {s : State} {m : MethodId} {args : Array Value} {below : List Frame} {meth : Method} {c : Code} {D : va_G} {cI cB cS : ClassId} {a : Nat → Nat} {res : Int32 × rp_St} (hC : xC p s m args meth c cX3_readNumber 3 "RegretPegs$Reader" none D cI cB cS a) (v1 : Int32) (σ : rp_St) (H : Heap) (locs : List Loc) (ls : Array Slot) (hF : fX3_readNumber_48 v1 σ = some res) (hw : xW D cI cB cS a s σ H locs) (hl : lv_has ls 3 [(0, .ref (a 57)), (1, .int v1)]) : W p l e (rp_rm 2) s m args below meth c H locs 0 0 (MQ below (rp_Qv D a (xt cI cB cS a) 62 res) args s 0 0 (rp_A a 62)) (F0 m 48 ls []) := by
  have hx := hC.1
  have hb := hC.2.1
  have hown := hC.2.2.2.1
  have hts := hC.2.2.2.2.1
  unfold fX3_readNumber_48 at hF
  refine lv_aload_n (pc := 48) hx hb dX3_readNumber_48 rfl (lv_at hl 0 rfl) ?_
  refine lv_iload_n (pc := 49) hx hb dX3_readNumber_49 rfl (lv_at hl 1 rfl) ?_
  obtain ⟨r1, σ2, hq, hF⟩ := rp_bd_e hF
  refine rp_kv (rp_runV (rest := []) hC (xE_ok _) hw hl.1 (mX3_emit (l := l) v1 σ _ hq) vw_X3_60 (by decide) (xt_reader _) rfl rfl rfl (Nat.le_of_ble_eq_true rfl) (by decide) dX3_readNumber_50) hw (fun H locs hw => ?_)
  clear hq
  exact rp_retv (pc := 53) hC hw hF dX3_readNumber_53
def fX3_readNumber_4 (k4 : Int32 → Int32 → rp_St → Option (Int32 × rp_St)) (v1 : Int32) (v2 : Int32) (σ : rp_St) : Option (Int32 × rp_St) :=
  (if 4 ≤ v2 then fX3_readNumber_48 v1 σ else rp_bd (fX3_ahead σ) (fun r1 σ2 => rp_bd (fX3_isDigit r1 σ2) (fun r3 σ4 => (if r3 = 0 then fX3_readNumber_48 v1 σ4 else rp_bd (fX3_ahead σ4) (fun r5 σ6 => rp_nm ((10 * v1) + (r5 - 48)) (fun x7 => rp_nm (rp_put σ6 57 3 ((σ6 57 3) + 1)) (fun σ8 => rp_nm (v2 + 1) (fun x9 => k4 x7 x9 σ8))))))))
set_option maxRecDepth 100000 in
set_option maxHeartbeats 4000000 in
theorem kX3_readNumber_4 {p : Program} {l : Launch} {e : Env} {s : State} {m : MethodId} {args : Array Value} {below : List Frame} {meth : Method} {c : Code} {D : va_G} {cI cB cS : ClassId} {a : Nat → Nat} {res : Int32 × rp_St} (hC : xC p s m args meth c cX3_readNumber 3 "RegretPegs$Reader" none D cI cB cS a) (k4 : Int32 → Int32 → rp_St → Option (Int32 × rp_St)) (hk4 : ∀ (v1 : Int32) (v2 : Int32) (σ : rp_St) (H : Heap) (locs : List Loc) (ls : Array Slot), k4 v1 v2 σ = some res → xW D cI cB cS a s σ H locs → lv_has ls 3 [(0, .ref (a 57)), (1, .int v1), (2, .int v2)] → W p l e (rp_rm 2) s m args below meth c H locs 0 0 (MQ below (rp_Qv D a (xt cI cB cS a) 62 res) args s 0 0 (rp_A a 62)) (F0 m 4 ls [])) (v1 : Int32) (v2 : Int32) (σ : rp_St) (H : Heap) (locs : List Loc) (ls : Array Slot) (hF : fX3_readNumber_4 k4 v1 v2 σ = some res) (hw : xW D cI cB cS a s σ H locs) (hl : lv_has ls 3 [(0, .ref (a 57)), (1, .int v1), (2, .int v2)]) : W p l e (rp_rm 2) s m args below meth c H locs 0 0 (MQ below (rp_Qv D a (xt cI cB cS a) 62 res) args s 0 0 (rp_A a 62)) (F0 m 4 ls []) := by
  have hx := hC.1
  have hb := hC.2.1
  have hown := hC.2.2.2.1
  have hts := hC.2.2.2.2.1
  unfold fX3_readNumber_4 at hF
  refine lv_iload_n (pc := 4) hx hb dX3_readNumber_4 rfl (lv_at hl 2 rfl) ?_
  refine lv_iconst (pc := 5) (v := 4) hx hb dX3_readNumber_5 (by decide) ?_
  refine lv_icmp_ge (pc := 6) (tgt := 48) hx hb dX3_readNumber_6 (by decide) (fun hc => ?_) (fun hc => ?_)
  · replace hF := rp_it hc hF
    exact kX3_readNumber_48 hC v1 σ _ _ _ hF hw (lv_sub hl [0, 1] rfl)
  · replace hF := rp_if hc hF
    refine lv_aload_n (pc := 9) hx hb dX3_readNumber_9 rfl (lv_at hl 0 rfl) ?_
    obtain ⟨r1, σ2, hq, hF⟩ := rp_bd_e hF
    refine rp_ki (rp_runV (rest := []) hC (xE_ok _) hw hl.1 (mX3_ahead (l := l) σ _ hq) vw_X3_52 (by decide) (xt_reader _) rfl rfl rfl (Nat.le_of_ble_eq_true rfl) (by decide) dX3_readNumber_10) hw (fun H locs hw => ?_)
    clear hq
    obtain ⟨r3, σ4, hq, hF⟩ := rp_bd_e hF
    refine rp_ki (rp_runZ (rest := []) hC (xE_ok _) hw hl.1 (mX3_isDigit (l := l) r1 σ2 _ hq) zw_X3_64 rfl rfl (Nat.le_of_ble_eq_true rfl) (by decide) dX3_readNumber_13) hw (fun H locs hw => ?_)
    clear hq
    refine lv_if_eq (pc := 16) (tgt := 48) hx hb dX3_readNumber_16 (by decide) (fun hc => ?_) (fun hc => ?_)
    · replace hF := rp_it hc hF
      exact kX3_readNumber_48 hC v1 σ4 _ _ _ hF hw (lv_sub hl [0, 1] rfl)
    · replace hF := rp_if hc hF
      refine lv_bipush (pc := 19) (v := 10) hx hb dX3_readNumber_19 (by decide) ?_
      refine lv_iload_n (pc := 21) hx hb dX3_readNumber_21 rfl (lv_at hl 1 rfl) ?_
      refine lv_imul (pc := 22) hx hb dX3_readNumber_22 ?_
      refine lv_aload_n (pc := 23) hx hb dX3_readNumber_23 rfl (lv_at hl 0 rfl) ?_
      obtain ⟨r5, σ6, hq, hF⟩ := rp_bd_e hF
      refine rp_ki (rp_runV (rest := [.int (10 * v1)]) hC (xE_ok _) hw hl.1 (mX3_ahead (l := l) σ4 _ hq) vw_X3_52 (by decide) (xt_reader _) rfl rfl rfl (Nat.le_of_ble_eq_true rfl) (by decide) dX3_readNumber_24) hw (fun H locs hw => ?_)
      clear hq
      refine lv_bipush (pc := 27) (v := 48) hx hb dX3_readNumber_27 (by decide) ?_
      refine lv_isub (pc := 29) hx hb dX3_readNumber_29 ?_
      refine lv_iadd (pc := 30) hx hb dX3_readNumber_30 ?_
      obtain ⟨x7, ex7, hF⟩ := rp_nm_e hF
      refine rp_top ex7 ?_
      refine lv_istore_n (pc := 31) (lv' := [(1, .int x7), (0, .ref (a 57)), (2, .int v2)]) hx hb dX3_readNumber_31 rfl hl (by decide) rfl (fun ls hl => ?_)
      refine lv_aload_n (pc := 32) hx hb dX3_readNumber_32 rfl (lv_at hl 1 rfl) ?_
      refine lv_dup (pc := 33) hx hb dX3_readNumber_33 rfl ?_
      refine rp_get (pc := 34) hC hw 57 (by decide) (xt_reader _) fl_X3_22 (.int (σ6 57 3)) rfl dX3_readNumber_34 ?_
      refine lv_iconst (pc := 37) (v := 1) hx hb dX3_readNumber_37 (by decide) ?_
      refine lv_iadd (pc := 38) hx hb dX3_readNumber_38 ?_
      refine rp_set (pc := 39) (fs := xb_reader a) hC hw 57 (by decide) xt_reader fg_X3_22 rfl (Nat.le_of_ble_eq_true rfl) rfl rfl dX3_readNumber_39 (fun H locs hw => ?_)
      obtain ⟨σ8, eσ8, hF⟩ := rp_nm_e hF
      replace hw := rp_Wn eσ8 hw
      clear eσ8
      obtain ⟨x9, ex9, hF⟩ := rp_nm_e hF
      refine lv_iinc (pc := 42) (v := x9) (lv' := [(2, .int x9), (1, .int x7), (0, .ref (a 57))]) hx hb dX3_readNumber_42 hl (k := 2) rfl (by rw [ex9]; rfl) (by decide) rfl (fun ls hl => ?_)
      refine lv_goto (pc := 45) (tgt := 4) hx hb dX3_readNumber_45 (by decide) ?_
      exact hk4 x7 x9 σ8 _ _ _ hF hw (lv_sub hl [2, 1, 0] rfl)
theorem lX3_readNumber_4 {p : Program} {l : Launch} {e : Env} {s : State} {m : MethodId} {args : Array Value} {below : List Frame} {meth : Method} {c : Code} {D : va_G} {cI cB cS : ClassId} {a : Nat → Nat} {res : Int32 × rp_St} (hC : xC p s m args meth c cX3_readNumber 3 "RegretPegs$Reader" none D cI cB cS a) : ∀ (n : Nat) (v1 : Int32) (v2 : Int32) (σ : rp_St) (H : Heap) (locs : List Loc) (ls : Array Slot), rp_lp (fun _ _ _ => none) (fX3_readNumber_4) n v1 v2 σ = some res → xW D cI cB cS a s σ H locs → lv_has ls 3 [(0, .ref (a 57)), (1, .int v1), (2, .int v2)] → W p l e (rp_rm 2) s m args below meth c H locs 0 0 (MQ below (rp_Qv D a (xt cI cB cS a) 62 res) args s 0 0 (rp_A a 62)) (F0 m 4 ls [])
  | 0, _, _, _, _, _, _, hF, _, _ => nomatch hF
  | n + 1, v1, v2, σ, H, locs, ls, hF, hw, hl => kX3_readNumber_4 hC (rp_lp (fun _ _ _ => none) (fX3_readNumber_4) n) (lX3_readNumber_4 hC n) v1 v2 σ H locs ls hF hw hl
def fX3_readNumber (σ : rp_St) : Option (Int32 × rp_St) :=
  rp_lp (fun _ _ _ => none) (fX3_readNumber_4) 300 0 0 σ
set_option maxRecDepth 100000 in
set_option maxHeartbeats 4000000 in
theorem kX3_readNumber_0 {p : Program} {l : Launch} {e : Env} {s : State} {m : MethodId} {args : Array Value} {below : List Frame} {meth : Method} {c : Code} {D : va_G} {cI cB cS : ClassId} {a : Nat → Nat} {res : Int32 × rp_St} (hC : xC p s m args meth c cX3_readNumber 3 "RegretPegs$Reader" none D cI cB cS a) (σ : rp_St) (H : Heap) (locs : List Loc) (ls : Array Slot) (hF : fX3_readNumber σ = some res) (hw : xW D cI cB cS a s σ H locs) (hl : lv_has ls 3 [(0, .ref (a 57))]) : W p l e (rp_rm 2) s m args below meth c H locs 0 0 (MQ below (rp_Qv D a (xt cI cB cS a) 62 res) args s 0 0 (rp_A a 62)) (F0 m 0 ls []) := by
  have hx := hC.1
  have hb := hC.2.1
  have hown := hC.2.2.2.1
  have hts := hC.2.2.2.2.1
  unfold fX3_readNumber at hF
  refine lv_iconst (pc := 0) (v := 0) hx hb dX3_readNumber_0 (by decide) ?_
  refine lv_istore_n (pc := 1) (lv' := [(1, .int 0), (0, .ref (a 57))]) hx hb dX3_readNumber_1 rfl hl (by decide) rfl (fun ls hl => ?_)
  refine lv_iconst (pc := 2) (v := 0) hx hb dX3_readNumber_2 (by decide) ?_
  refine lv_istore_n (pc := 3) (lv' := [(2, .int 0), (1, .int 0), (0, .ref (a 57))]) hx hb dX3_readNumber_3 rfl hl (by decide) rfl (fun ls hl => ?_)
  exact lX3_readNumber_4 hC 300 0 0 σ _ _ _ hF hw (lv_sub hl [2, 1, 0] rfl)
theorem mX3_readNumber {l : Launch} {D : va_G} {cI cB cS : ClassId} {a : Nat → Nat}  (σ : rp_St) (res : Int32 × rp_St) (hF : fX3_readNumber σ = some res) : xM l D cI cB cS a yX3_readNumber cX3_readNumber 3 none 2 [.ref (a 57)] σ (rp_Qv D a (xt cI cB cS a) 62 res) :=
  rp_entry (by decide) (Nat.le_of_ble_eq_true rfl) (fun p e s m below meth c ls hC hw hl => kX3_readNumber_0 hC σ _ _ _ hF hw (lv_sub hl [0] rfl))
def fX3_nameOf (v1 : Int32) (σ : rp_St) : Option (Int32 × rp_St) :=
  (if v1 = 100 then (if (σ 57 2) = 1 then some ((-1), σ) else some (0, σ)) else (if v1 = 101 then some (0, σ) else (if v1 = 102 then some (0, σ) else (if v1 = 103 then some (0, σ) else (if v1 = 104 then some (0, σ) else (if v1 = 105 then some (0, σ) else (if v1 = 106 then some (0, σ) else (if v1 = 107 then some (0, σ) else (if v1 = 108 then some (0, σ) else (if v1 = 109 then (if (σ 57 2) = 0 then some ((-3), σ) else some ((-2), σ)) else (if v1 = 110 then some (0, σ) else (if v1 = 111 then (if (σ 57 2) = 0 then some ((-2), σ) else some (0, σ)) else (if v1 = 112 then (if (σ 57 2) = 1 then some ((-3), σ) else some (0, σ)) else (if v1 = 113 then some (0, σ) else (if v1 = 114 then (if (σ 57 2) = 0 then some ((-1), σ) else some (0, σ)) else some (0, σ))))))))))))))))
set_option maxRecDepth 100000 in
set_option maxHeartbeats 4000000 in
theorem kX3_nameOf_0 {p : Program} {l : Launch} {e : Env} {s : State} {m : MethodId} {args : Array Value} {below : List Frame} {meth : Method} {c : Code} {D : va_G} {cI cB cS : ClassId} {a : Nat → Nat} {res : Int32 × rp_St} (hC : xC p s m args meth c cX3_nameOf 2 "RegretPegs$Reader" (some .int) D cI cB cS a) (v1 : Int32) (σ : rp_St) (H : Heap) (locs : List Loc) (ls : Array Slot) (hF : fX3_nameOf v1 σ = some res) (hw : xW D cI cB cS a s σ H locs) (hl : lv_has ls 2 [(0, .ref (a 57)), (1, .int v1)]) : W p l e (rp_rm 1) s m args below meth c H locs 0 0 (MQ below (rp_Qi D a (xt cI cB cS a) 62 res) args s 0 0 (rp_A a 62)) (F0 m 0 ls []) := by
  have hx := hC.1
  have hb := hC.2.1
  have hown := hC.2.2.2.1
  have hts := hC.2.2.2.2.1
  unfold fX3_nameOf at hF
  refine lv_iload_n (pc := 0) hx hb dX3_nameOf_0 rfl (lv_at hl 1 rfl) ?_
  by_cases hs1_0 : v1 = 100
  · replace hF := rp_it hs1_0 hF
    refine lv_tableIn (pc := 1) (off := 102) (tgt := 103) hx hb dX3_nameOf_1 (by rw [hs1_0]; decide) (by rw [hs1_0]; decide) (by rw [hs1_0]; decide +kernel) (by decide) ?_
    refine lv_aload_n (pc := 103) hx hb dX3_nameOf_103 rfl (lv_at hl 0 rfl) ?_
    refine rp_get (pc := 104) hC hw 57 (by decide) (xt_reader _) fl_X3_19 (.int (σ 57 2)) rfl dX3_nameOf_104 ?_
    refine lv_iconst (pc := 107) (v := 1) hx hb dX3_nameOf_107 (by decide) ?_
    refine lv_icmp_ne (pc := 108) (tgt := 115) hx hb dX3_nameOf_108 (by decide) (fun hc => ?_) (fun hc => ?_)
    · replace hF := rp_if hc hF
      refine lv_iconst (pc := 115) (v := 0) hx hb dX3_nameOf_115 (by decide) ?_
      exact rp_reti (pc := 116) hC hw hF dX3_nameOf_116
    · replace hF := rp_it hc hF
      refine lv_iconst (pc := 111) (v := (-1)) hx hb dX3_nameOf_111 (by decide) ?_
      refine lv_goto (pc := 112) (tgt := 116) hx hb dX3_nameOf_112 (by decide) ?_
      exact rp_reti (pc := 116) hC hw hF dX3_nameOf_116
  replace hF := rp_if hs1_0 hF
  by_cases hs1_1 : v1 = 101
  · replace hF := rp_it hs1_1 hF
    refine lv_tableIn (pc := 1) (off := 146) (tgt := 147) hx hb dX3_nameOf_1 (by rw [hs1_1]; decide) (by rw [hs1_1]; decide) (by rw [hs1_1]; decide +kernel) (by decide) ?_
    refine lv_iconst (pc := 147) (v := 0) hx hb dX3_nameOf_147 (by decide) ?_
    exact rp_reti (pc := 148) hC hw hF dX3_nameOf_148
  replace hF := rp_if hs1_1 hF
  by_cases hs1_2 : v1 = 102
  · replace hF := rp_it hs1_2 hF
    refine lv_tableIn (pc := 1) (off := 146) (tgt := 147) hx hb dX3_nameOf_1 (by rw [hs1_2]; decide) (by rw [hs1_2]; decide) (by rw [hs1_2]; decide +kernel) (by decide) ?_
    refine lv_iconst (pc := 147) (v := 0) hx hb dX3_nameOf_147 (by decide) ?_
    exact rp_reti (pc := 148) hC hw hF dX3_nameOf_148
  replace hF := rp_if hs1_2 hF
  by_cases hs1_3 : v1 = 103
  · replace hF := rp_it hs1_3 hF
    refine lv_tableIn (pc := 1) (off := 146) (tgt := 147) hx hb dX3_nameOf_1 (by rw [hs1_3]; decide) (by rw [hs1_3]; decide) (by rw [hs1_3]; decide +kernel) (by decide) ?_
    refine lv_iconst (pc := 147) (v := 0) hx hb dX3_nameOf_147 (by decide) ?_
    exact rp_reti (pc := 148) hC hw hF dX3_nameOf_148
  replace hF := rp_if hs1_3 hF
  by_cases hs1_4 : v1 = 104
  · replace hF := rp_it hs1_4 hF
    refine lv_tableIn (pc := 1) (off := 146) (tgt := 147) hx hb dX3_nameOf_1 (by rw [hs1_4]; decide) (by rw [hs1_4]; decide) (by rw [hs1_4]; decide +kernel) (by decide) ?_
    refine lv_iconst (pc := 147) (v := 0) hx hb dX3_nameOf_147 (by decide) ?_
    exact rp_reti (pc := 148) hC hw hF dX3_nameOf_148
  replace hF := rp_if hs1_4 hF
  by_cases hs1_5 : v1 = 105
  · replace hF := rp_it hs1_5 hF
    refine lv_tableIn (pc := 1) (off := 146) (tgt := 147) hx hb dX3_nameOf_1 (by rw [hs1_5]; decide) (by rw [hs1_5]; decide) (by rw [hs1_5]; decide +kernel) (by decide) ?_
    refine lv_iconst (pc := 147) (v := 0) hx hb dX3_nameOf_147 (by decide) ?_
    exact rp_reti (pc := 148) hC hw hF dX3_nameOf_148
  replace hF := rp_if hs1_5 hF
  by_cases hs1_6 : v1 = 106
  · replace hF := rp_it hs1_6 hF
    refine lv_tableIn (pc := 1) (off := 146) (tgt := 147) hx hb dX3_nameOf_1 (by rw [hs1_6]; decide) (by rw [hs1_6]; decide) (by rw [hs1_6]; decide +kernel) (by decide) ?_
    refine lv_iconst (pc := 147) (v := 0) hx hb dX3_nameOf_147 (by decide) ?_
    exact rp_reti (pc := 148) hC hw hF dX3_nameOf_148
  replace hF := rp_if hs1_6 hF
  by_cases hs1_7 : v1 = 107
  · replace hF := rp_it hs1_7 hF
    refine lv_tableIn (pc := 1) (off := 146) (tgt := 147) hx hb dX3_nameOf_1 (by rw [hs1_7]; decide) (by rw [hs1_7]; decide) (by rw [hs1_7]; decide +kernel) (by decide) ?_
    refine lv_iconst (pc := 147) (v := 0) hx hb dX3_nameOf_147 (by decide) ?_
    exact rp_reti (pc := 148) hC hw hF dX3_nameOf_148
  replace hF := rp_if hs1_7 hF
  by_cases hs1_8 : v1 = 108
  · replace hF := rp_it hs1_8 hF
    refine lv_tableIn (pc := 1) (off := 146) (tgt := 147) hx hb dX3_nameOf_1 (by rw [hs1_8]; decide) (by rw [hs1_8]; decide) (by rw [hs1_8]; decide +kernel) (by decide) ?_
    refine lv_iconst (pc := 147) (v := 0) hx hb dX3_nameOf_147 (by decide) ?_
    exact rp_reti (pc := 148) hC hw hF dX3_nameOf_148
  replace hF := rp_if hs1_8 hF
  by_cases hs1_9 : v1 = 109
  · replace hF := rp_it hs1_9 hF
    refine lv_tableIn (pc := 1) (off := 116) (tgt := 117) hx hb dX3_nameOf_1 (by rw [hs1_9]; decide) (by rw [hs1_9]; decide) (by rw [hs1_9]; decide +kernel) (by decide) ?_
    refine lv_aload_n (pc := 117) hx hb dX3_nameOf_117 rfl (lv_at hl 0 rfl) ?_
    refine rp_get (pc := 118) hC hw 57 (by decide) (xt_reader _) fl_X3_19 (.int (σ 57 2)) rfl dX3_nameOf_118 ?_
    refine lv_if_ne (pc := 121) (tgt := 129) hx hb dX3_nameOf_121 (by decide) (fun hc => ?_) (fun hc => ?_)
    · replace hF := rp_if hc hF
      refine lv_bipush (pc := 129) (v := (-2)) hx hb dX3_nameOf_129 (by decide) ?_
      exact rp_reti (pc := 131) hC hw hF dX3_nameOf_131
    · replace hF := rp_it hc hF
      refine lv_bipush (pc := 124) (v := (-3)) hx hb dX3_nameOf_124 (by decide) ?_
      refine lv_goto (pc := 126) (tgt := 131) hx hb dX3_nameOf_126 (by decide) ?_
      exact rp_reti (pc := 131) hC hw hF dX3_nameOf_131
  replace hF := rp_if hs1_9 hF
  by_cases hs1_10 : v1 = 110
  · replace hF := rp_it hs1_10 hF
    refine lv_tableIn (pc := 1) (off := 146) (tgt := 147) hx hb dX3_nameOf_1 (by rw [hs1_10]; decide) (by rw [hs1_10]; decide) (by rw [hs1_10]; decide +kernel) (by decide) ?_
    refine lv_iconst (pc := 147) (v := 0) hx hb dX3_nameOf_147 (by decide) ?_
    exact rp_reti (pc := 148) hC hw hF dX3_nameOf_148
  replace hF := rp_if hs1_10 hF
  by_cases hs1_11 : v1 = 111
  · replace hF := rp_it hs1_11 hF
    refine lv_tableIn (pc := 1) (off := 88) (tgt := 89) hx hb dX3_nameOf_1 (by rw [hs1_11]; decide) (by rw [hs1_11]; decide) (by rw [hs1_11]; decide +kernel) (by decide) ?_
    refine lv_aload_n (pc := 89) hx hb dX3_nameOf_89 rfl (lv_at hl 0 rfl) ?_
    refine rp_get (pc := 90) hC hw 57 (by decide) (xt_reader _) fl_X3_19 (.int (σ 57 2)) rfl dX3_nameOf_90 ?_
    refine lv_if_ne (pc := 93) (tgt := 101) hx hb dX3_nameOf_93 (by decide) (fun hc => ?_) (fun hc => ?_)
    · replace hF := rp_if hc hF
      refine lv_iconst (pc := 101) (v := 0) hx hb dX3_nameOf_101 (by decide) ?_
      exact rp_reti (pc := 102) hC hw hF dX3_nameOf_102
    · replace hF := rp_it hc hF
      refine lv_bipush (pc := 96) (v := (-2)) hx hb dX3_nameOf_96 (by decide) ?_
      refine lv_goto (pc := 98) (tgt := 102) hx hb dX3_nameOf_98 (by decide) ?_
      exact rp_reti (pc := 102) hC hw hF dX3_nameOf_102
  replace hF := rp_if hs1_11 hF
  by_cases hs1_12 : v1 = 112
  · replace hF := rp_it hs1_12 hF
    refine lv_tableIn (pc := 1) (off := 131) (tgt := 132) hx hb dX3_nameOf_1 (by rw [hs1_12]; decide) (by rw [hs1_12]; decide) (by rw [hs1_12]; decide +kernel) (by decide) ?_
    refine lv_aload_n (pc := 132) hx hb dX3_nameOf_132 rfl (lv_at hl 0 rfl) ?_
    refine rp_get (pc := 133) hC hw 57 (by decide) (xt_reader _) fl_X3_19 (.int (σ 57 2)) rfl dX3_nameOf_133 ?_
    refine lv_iconst (pc := 136) (v := 1) hx hb dX3_nameOf_136 (by decide) ?_
    refine lv_icmp_ne (pc := 137) (tgt := 145) hx hb dX3_nameOf_137 (by decide) (fun hc => ?_) (fun hc => ?_)
    · replace hF := rp_if hc hF
      refine lv_iconst (pc := 145) (v := 0) hx hb dX3_nameOf_145 (by decide) ?_
      exact rp_reti (pc := 146) hC hw hF dX3_nameOf_146
    · replace hF := rp_it hc hF
      refine lv_bipush (pc := 140) (v := (-3)) hx hb dX3_nameOf_140 (by decide) ?_
      refine lv_goto (pc := 142) (tgt := 146) hx hb dX3_nameOf_142 (by decide) ?_
      exact rp_reti (pc := 146) hC hw hF dX3_nameOf_146
  replace hF := rp_if hs1_12 hF
  by_cases hs1_13 : v1 = 113
  · replace hF := rp_it hs1_13 hF
    refine lv_tableIn (pc := 1) (off := 146) (tgt := 147) hx hb dX3_nameOf_1 (by rw [hs1_13]; decide) (by rw [hs1_13]; decide) (by rw [hs1_13]; decide +kernel) (by decide) ?_
    refine lv_iconst (pc := 147) (v := 0) hx hb dX3_nameOf_147 (by decide) ?_
    exact rp_reti (pc := 148) hC hw hF dX3_nameOf_148
  replace hF := rp_if hs1_13 hF
  by_cases hs1_14 : v1 = 114
  · replace hF := rp_it hs1_14 hF
    refine lv_tableIn (pc := 1) (off := 75) (tgt := 76) hx hb dX3_nameOf_1 (by rw [hs1_14]; decide) (by rw [hs1_14]; decide) (by rw [hs1_14]; decide +kernel) (by decide) ?_
    refine lv_aload_n (pc := 76) hx hb dX3_nameOf_76 rfl (lv_at hl 0 rfl) ?_
    refine rp_get (pc := 77) hC hw 57 (by decide) (xt_reader _) fl_X3_19 (.int (σ 57 2)) rfl dX3_nameOf_77 ?_
    refine lv_if_ne (pc := 80) (tgt := 87) hx hb dX3_nameOf_80 (by decide) (fun hc => ?_) (fun hc => ?_)
    · replace hF := rp_if hc hF
      refine lv_iconst (pc := 87) (v := 0) hx hb dX3_nameOf_87 (by decide) ?_
      exact rp_reti (pc := 88) hC hw hF dX3_nameOf_88
    · replace hF := rp_it hc hF
      refine lv_iconst (pc := 83) (v := (-1)) hx hb dX3_nameOf_83 (by decide) ?_
      refine lv_goto (pc := 84) (tgt := 88) hx hb dX3_nameOf_84 (by decide) ?_
      exact rp_reti (pc := 88) hC hw hF dX3_nameOf_88
  replace hF := rp_if hs1_14 hF
  refine lv_tableOut (pc := 1) (tgt := 147) hx hb dX3_nameOf_1 (by have := rp_ne 100 100 (by decide) hs1_0; have := rp_ne 101 101 (by decide) hs1_1; have := rp_ne 102 102 (by decide) hs1_2; have := rp_ne 103 103 (by decide) hs1_3; have := rp_ne 104 104 (by decide) hs1_4; have := rp_ne 105 105 (by decide) hs1_5; have := rp_ne 106 106 (by decide) hs1_6; have := rp_ne 107 107 (by decide) hs1_7; have := rp_ne 108 108 (by decide) hs1_8; have := rp_ne 109 109 (by decide) hs1_9; have := rp_ne 110 110 (by decide) hs1_10; have := rp_ne 111 111 (by decide) hs1_11; have := rp_ne 112 112 (by decide) hs1_12; have := rp_ne 113 113 (by decide) hs1_13; have := rp_ne 114 114 (by decide) hs1_14; omega) (by decide) ?_
  refine lv_iconst (pc := 147) (v := 0) hx hb dX3_nameOf_147 (by decide) ?_
  exact rp_reti (pc := 148) hC hw hF dX3_nameOf_148
theorem mX3_nameOf {l : Launch} {D : va_G} {cI cB cS : ClassId} {a : Nat → Nat} (v1 : Int32) (σ : rp_St) (res : Int32 × rp_St) (hF : fX3_nameOf v1 σ = some res) : xM l D cI cB cS a yX3_nameOf cX3_nameOf 2 (some .int) 1 [.ref (a 57), .int v1] σ (rp_Qi D a (xt cI cB cS a) 62 res) :=
  rp_entry (by decide) (Nat.le_of_ble_eq_true rfl) (fun p e s m below meth c ls hC hw hl => kX3_nameOf_0 hC v1 σ _ _ _ hF hw (lv_sub hl [0, 1] rfl))
def fX3_readLevel_39 (rc0 : Int32 → Int32 → rp_St → Option (Int32 × rp_St)) (rc1 : Int32 → rp_St → Option (Int32 × rp_St)) (rc2 : Int32 → rp_St → Option (Int32 × rp_St)) (rc3 : Int32 → rp_St → Option (Int32 × rp_St)) (k39 : Int32 → Int32 → Int32 → Int32 → rp_St → Option (Int32 × rp_St)) (v1 : Int32) (v2 : Int32) (v3 : Int32) (v4 : Int32) (σ : rp_St) : Option (Int32 × rp_St) :=
  (if v3 ≤ v4 then some (1, σ) else rp_bd (fX3_ahead σ) (fun r1 σ2 => rp_bd (fX3_levelOf r1 σ2) (fun r3 σ4 => (if r3 = v1 then rp_bd (fX3_ahead σ4) (fun r5 σ6 => rp_nm (rp_put σ6 57 3 ((σ6 57 3) + 1)) (fun σ7 => rp_bd (rc0 (v1 + 1) v2 σ7) (fun r8 σ9 => (if r8 = 0 then some (0, σ9) else rp_bd (fX3_emit (-r5) σ9) (fun _ σ11 => rp_nm (v4 + 1) (fun x12 => k39 v1 v2 v3 x12 σ11)))))) else some (1, σ4)))))
set_option maxRecDepth 100000 in
set_option maxHeartbeats 4000000 in
theorem kX3_readLevel_39 {p : Program} {l : Launch} {e : Env} {s : State} {m : MethodId} {args : Array Value} {below : List Frame} {meth : Method} {c : Code} {D : va_G} {cI cB cS : ClassId} {a : Nat → Nat} {res : Int32 × rp_St} (dd : Nat) (rc0 : Int32 → Int32 → rp_St → Option (Int32 × rp_St)) (hrc0 : ∀ (v1 : Int32) (v2 : Int32) (σ : rp_St) (res : Int32 × rp_St), rc0 v1 v2 σ = some res → xM l D cI cB cS a yX3_readLevel cX3_readLevel 6 (some .boolean) (2 + dd) [.ref (a 57), .int v1, .int v2] σ (rp_Qi D a (xt cI cB cS a) 62 res)) (rc1 : Int32 → rp_St → Option (Int32 × rp_St)) (hrc1 : ∀ (v1 : Int32) (σ : rp_St) (res : Int32 × rp_St), rc1 v1 σ = some res → xM l D cI cB cS a yX3_readQ cX3_readQ 4 (some .boolean) (2 + dd) [.ref (a 57), .int v1] σ (rp_Qi D a (xt cI cB cS a) 62 res)) (rc2 : Int32 → rp_St → Option (Int32 × rp_St)) (hrc2 : ∀ (v1 : Int32) (σ : rp_St) (res : Int32 × rp_St), rc2 v1 σ = some res → xM l D cI cB cS a yX3_readNot cX3_readNot 2 (some .boolean) (2 + dd) [.ref (a 57), .int v1] σ (rp_Qi D a (xt cI cB cS a) 62 res)) (rc3 : Int32 → rp_St → Option (Int32 × rp_St)) (hrc3 : ∀ (v1 : Int32) (σ : rp_St) (res : Int32 × rp_St), rc3 v1 σ = some res → xM l D cI cB cS a yX3_readClosed cX3_readClosed 2 (some .boolean) (2 + dd) [.ref (a 57), .int v1] σ (rp_Qi D a (xt cI cB cS a) 62 res)) (hC : xC p s m args meth c cX3_readLevel 6 "RegretPegs$Reader" (some .boolean) D cI cB cS a) (k39 : Int32 → Int32 → Int32 → Int32 → rp_St → Option (Int32 × rp_St)) (hk39 : ∀ (v1 : Int32) (v2 : Int32) (v3 : Int32) (v4 : Int32) (σ : rp_St) (H : Heap) (locs : List Loc) (ls : Array Slot), k39 v1 v2 v3 v4 σ = some res → xW D cI cB cS a s σ H locs → lv_has ls 6 [(0, .ref (a 57)), (1, .int v1), (2, .int v2), (3, .int v3), (4, .int v4)] → W p l e (rp_rm (2 + (dd + 1))) s m args below meth c H locs 0 0 (MQ below (rp_Qi D a (xt cI cB cS a) 62 res) args s 0 0 (rp_A a 62)) (F0 m 39 ls [])) (v1 : Int32) (v2 : Int32) (v3 : Int32) (v4 : Int32) (σ : rp_St) (H : Heap) (locs : List Loc) (ls : Array Slot) (hF : fX3_readLevel_39 rc0 rc1 rc2 rc3 k39 v1 v2 v3 v4 σ = some res) (hw : xW D cI cB cS a s σ H locs) (hl : lv_has ls 6 [(0, .ref (a 57)), (1, .int v1), (2, .int v2), (3, .int v3), (4, .int v4)]) : W p l e (rp_rm (2 + (dd + 1))) s m args below meth c H locs 0 0 (MQ below (rp_Qi D a (xt cI cB cS a) 62 res) args s 0 0 (rp_A a 62)) (F0 m 39 ls []) := by
  have hx := hC.1
  have hb := hC.2.1
  have hown := hC.2.2.2.1
  have hts := hC.2.2.2.2.1
  unfold fX3_readLevel_39 at hF
  refine lv_iload (pc := 39) hx hb dX3_readLevel_39 (lv_at hl 4 rfl) ?_
  refine lv_iload_n (pc := 41) hx hb dX3_readLevel_41 rfl (lv_at hl 3 rfl) ?_
  refine lv_icmp_ge (pc := 42) (tgt := 98) hx hb dX3_readLevel_42 (by decide) (fun hc => ?_) (fun hc => ?_)
  · replace hF := rp_it hc hF
    refine lv_iconst (pc := 98) (v := 1) hx hb dX3_readLevel_98 (by decide) ?_
    exact rp_retz (pc := 99) hC hw rfl hF dX3_readLevel_99
  · replace hF := rp_if hc hF
    refine lv_aload_n (pc := 45) hx hb dX3_readLevel_45 rfl (lv_at hl 0 rfl) ?_
    obtain ⟨r1, σ2, hq, hF⟩ := rp_bd_e hF
    refine rp_ki (rp_runV (rest := []) hC (xE_ok _) hw hl.1 (mX3_ahead (l := l) σ _ hq) vw_X3_52 (by decide) (xt_reader _) rfl rfl rfl (Nat.le_of_ble_eq_true rfl) (by omega) dX3_readLevel_46) hw (fun H locs hw => ?_)
    clear hq
    obtain ⟨r3, σ4, hq, hF⟩ := rp_bd_e hF
    refine rp_ki (rp_runZ (rest := []) hC (xE_ok _) hw hl.1 (mX3_levelOf (l := l) r1 σ2 _ hq) zw_X3_56 rfl rfl (Nat.le_of_ble_eq_true rfl) (by omega) dX3_readLevel_49) hw (fun H locs hw => ?_)
    clear hq
    refine lv_iload_n (pc := 52) hx hb dX3_readLevel_52 rfl (lv_at hl 1 rfl) ?_
    refine lv_icmp_ne (pc := 53) (tgt := 98) hx hb dX3_readLevel_53 (by decide) (fun hc => ?_) (fun hc => ?_)
    · replace hF := rp_if hc hF
      refine lv_iconst (pc := 98) (v := 1) hx hb dX3_readLevel_98 (by decide) ?_
      exact rp_retz (pc := 99) hC hw rfl hF dX3_readLevel_99
    · replace hF := rp_it hc hF
      refine lv_aload_n (pc := 56) hx hb dX3_readLevel_56 rfl (lv_at hl 0 rfl) ?_
      obtain ⟨r5, σ6, hq, hF⟩ := rp_bd_e hF
      refine rp_ki (rp_runV (rest := []) hC (xE_ok _) hw hl.1 (mX3_ahead (l := l) σ4 _ hq) vw_X3_52 (by decide) (xt_reader _) rfl rfl rfl (Nat.le_of_ble_eq_true rfl) (by omega) dX3_readLevel_57) hw (fun H locs hw => ?_)
      clear hq
      refine lv_istore (pc := 60) (lv' := [(5, .int r5), (0, .ref (a 57)), (1, .int v1), (2, .int v2), (3, .int v3), (4, .int v4)]) hx hb dX3_readLevel_60 hl (by decide) rfl (fun ls hl => ?_)
      refine lv_aload_n (pc := 62) hx hb dX3_readLevel_62 rfl (lv_at hl 1 rfl) ?_
      refine lv_dup (pc := 63) hx hb dX3_readLevel_63 rfl ?_
      refine rp_get (pc := 64) hC hw 57 (by decide) (xt_reader _) fl_X3_22 (.int (σ6 57 3)) rfl dX3_readLevel_64 ?_
      refine lv_iconst (pc := 67) (v := 1) hx hb dX3_readLevel_67 (by decide) ?_
      refine lv_iadd (pc := 68) hx hb dX3_readLevel_68 ?_
      refine rp_set (pc := 69) (fs := xb_reader a) hC hw 57 (by decide) xt_reader fg_X3_22 rfl (Nat.le_of_ble_eq_true rfl) rfl rfl dX3_readLevel_69 (fun H locs hw => ?_)
      obtain ⟨σ7, eσ7, hF⟩ := rp_nm_e hF
      replace hw := rp_Wn eσ7 hw
      clear eσ7
      refine lv_aload_n (pc := 72) hx hb dX3_readLevel_72 rfl (lv_at hl 1 rfl) ?_
      refine lv_iload_n (pc := 73) hx hb dX3_readLevel_73 rfl (lv_at hl 2 rfl) ?_
      refine lv_iconst (pc := 74) (v := 1) hx hb dX3_readLevel_74 (by decide) ?_
      refine lv_iadd (pc := 75) hx hb dX3_readLevel_75 ?_
      refine lv_iload_n (pc := 76) hx hb dX3_readLevel_76 rfl (lv_at hl 3 rfl) ?_
      obtain ⟨r8, σ9, hq, hF⟩ := rp_bd_e hF
      refine rp_ki (rp_runV (rest := []) hC (xE_ok _) hw hl.1 (hrc0 (v1 + 1) v2 σ7 _ hq) vw_X3_44 (by decide) (xt_reader _) rfl rfl rfl (Nat.le_of_ble_eq_true rfl) (by omega) dX3_readLevel_77) hw (fun H locs hw => ?_)
      clear hq
      refine lv_if_ne (pc := 80) (tgt := 85) hx hb dX3_readLevel_80 (by decide) (fun hc => ?_) (fun hc => ?_)
      · replace hF := rp_if hc hF
        refine lv_aload_n (pc := 85) hx hb dX3_readLevel_85 rfl (lv_at hl 1 rfl) ?_
        refine lv_iload (pc := 86) hx hb dX3_readLevel_86 (lv_at hl 0 rfl) ?_
        refine lv_ineg (pc := 88) hx hb dX3_readLevel_88 ?_
        obtain ⟨r10, σ11, hq, hF⟩ := rp_bd_e hF
        refine rp_kv (rp_runV (rest := []) hC (xE_ok _) hw hl.1 (mX3_emit (l := l) (-r5) σ9 _ hq) vw_X3_60 (by decide) (xt_reader _) rfl rfl rfl (Nat.le_of_ble_eq_true rfl) (by omega) dX3_readLevel_89) hw (fun H locs hw => ?_)
        clear hq
        obtain ⟨x12, ex12, hF⟩ := rp_nm_e hF
        refine lv_iinc (pc := 92) (v := x12) (lv' := [(4, .int x12), (5, .int r5), (0, .ref (a 57)), (1, .int v1), (2, .int v2), (3, .int v3)]) hx hb dX3_readLevel_92 hl (k := 5) rfl (by rw [ex12]; rfl) (by decide) rfl (fun ls hl => ?_)
        refine lv_goto (pc := 95) (tgt := 39) hx hb dX3_readLevel_95 (by decide) ?_
        exact hk39 v1 v2 v3 x12 σ11 _ _ _ hF hw (lv_sub hl [2, 3, 4, 5, 0] rfl)
      · replace hF := rp_it hc hF
        refine lv_iconst (pc := 83) (v := 0) hx hb dX3_readLevel_83 (by decide) ?_
        exact rp_retz (pc := 84) hC hw rfl hF dX3_readLevel_84
theorem lX3_readLevel_39 {p : Program} {l : Launch} {e : Env} {s : State} {m : MethodId} {args : Array Value} {below : List Frame} {meth : Method} {c : Code} {D : va_G} {cI cB cS : ClassId} {a : Nat → Nat} {res : Int32 × rp_St} (dd : Nat) (rc0 : Int32 → Int32 → rp_St → Option (Int32 × rp_St)) (hrc0 : ∀ (v1 : Int32) (v2 : Int32) (σ : rp_St) (res : Int32 × rp_St), rc0 v1 v2 σ = some res → xM l D cI cB cS a yX3_readLevel cX3_readLevel 6 (some .boolean) (2 + dd) [.ref (a 57), .int v1, .int v2] σ (rp_Qi D a (xt cI cB cS a) 62 res)) (rc1 : Int32 → rp_St → Option (Int32 × rp_St)) (hrc1 : ∀ (v1 : Int32) (σ : rp_St) (res : Int32 × rp_St), rc1 v1 σ = some res → xM l D cI cB cS a yX3_readQ cX3_readQ 4 (some .boolean) (2 + dd) [.ref (a 57), .int v1] σ (rp_Qi D a (xt cI cB cS a) 62 res)) (rc2 : Int32 → rp_St → Option (Int32 × rp_St)) (hrc2 : ∀ (v1 : Int32) (σ : rp_St) (res : Int32 × rp_St), rc2 v1 σ = some res → xM l D cI cB cS a yX3_readNot cX3_readNot 2 (some .boolean) (2 + dd) [.ref (a 57), .int v1] σ (rp_Qi D a (xt cI cB cS a) 62 res)) (rc3 : Int32 → rp_St → Option (Int32 × rp_St)) (hrc3 : ∀ (v1 : Int32) (σ : rp_St) (res : Int32 × rp_St), rc3 v1 σ = some res → xM l D cI cB cS a yX3_readClosed cX3_readClosed 2 (some .boolean) (2 + dd) [.ref (a 57), .int v1] σ (rp_Qi D a (xt cI cB cS a) 62 res)) (hC : xC p s m args meth c cX3_readLevel 6 "RegretPegs$Reader" (some .boolean) D cI cB cS a) : ∀ (n : Nat) (v1 : Int32) (v2 : Int32) (v3 : Int32) (v4 : Int32) (σ : rp_St) (H : Heap) (locs : List Loc) (ls : Array Slot), rp_lp (fun _ _ _ _ _ => none) (fX3_readLevel_39 rc0 rc1 rc2 rc3) n v1 v2 v3 v4 σ = some res → xW D cI cB cS a s σ H locs → lv_has ls 6 [(0, .ref (a 57)), (1, .int v1), (2, .int v2), (3, .int v3), (4, .int v4)] → W p l e (rp_rm (2 + (dd + 1))) s m args below meth c H locs 0 0 (MQ below (rp_Qi D a (xt cI cB cS a) 62 res) args s 0 0 (rp_A a 62)) (F0 m 39 ls [])
  | 0, _, _, _, _, _, _, _, _, hF, _, _ => nomatch hF
  | n + 1, v1, v2, v3, v4, σ, H, locs, ls, hF, hw, hl => kX3_readLevel_39 dd rc0 hrc0 rc1 hrc1 rc2 hrc2 rc3 hrc3 hC (rp_lp (fun _ _ _ _ _ => none) (fX3_readLevel_39 rc0 rc1 rc2 rc3) n) (lX3_readLevel_39 dd rc0 hrc0 rc1 hrc1 rc2 hrc2 rc3 hrc3 hC n) v1 v2 v3 v4 σ H locs ls hF hw hl
def fX3_readLevel_35 (rc0 : Int32 → Int32 → rp_St → Option (Int32 × rp_St)) (rc1 : Int32 → rp_St → Option (Int32 × rp_St)) (rc2 : Int32 → rp_St → Option (Int32 × rp_St)) (rc3 : Int32 → rp_St → Option (Int32 × rp_St)) (v1 : Int32) (v2 : Int32) (t0 : Int32) (σ : rp_St) : Option (Int32 × rp_St) :=
  rp_lp (fun _ _ _ _ _ => none) (fX3_readLevel_39 rc0 rc1 rc2 rc3) 300 v1 v2 t0 0 σ
set_option maxRecDepth 100000 in
set_option maxHeartbeats 4000000 in
theorem kX3_readLevel_35 {p : Program} {l : Launch} {e : Env} {s : State} {m : MethodId} {args : Array Value} {below : List Frame} {meth : Method} {c : Code} {D : va_G} {cI cB cS : ClassId} {a : Nat → Nat} {res : Int32 × rp_St} (dd : Nat) (rc0 : Int32 → Int32 → rp_St → Option (Int32 × rp_St)) (hrc0 : ∀ (v1 : Int32) (v2 : Int32) (σ : rp_St) (res : Int32 × rp_St), rc0 v1 v2 σ = some res → xM l D cI cB cS a yX3_readLevel cX3_readLevel 6 (some .boolean) (2 + dd) [.ref (a 57), .int v1, .int v2] σ (rp_Qi D a (xt cI cB cS a) 62 res)) (rc1 : Int32 → rp_St → Option (Int32 × rp_St)) (hrc1 : ∀ (v1 : Int32) (σ : rp_St) (res : Int32 × rp_St), rc1 v1 σ = some res → xM l D cI cB cS a yX3_readQ cX3_readQ 4 (some .boolean) (2 + dd) [.ref (a 57), .int v1] σ (rp_Qi D a (xt cI cB cS a) 62 res)) (rc2 : Int32 → rp_St → Option (Int32 × rp_St)) (hrc2 : ∀ (v1 : Int32) (σ : rp_St) (res : Int32 × rp_St), rc2 v1 σ = some res → xM l D cI cB cS a yX3_readNot cX3_readNot 2 (some .boolean) (2 + dd) [.ref (a 57), .int v1] σ (rp_Qi D a (xt cI cB cS a) 62 res)) (rc3 : Int32 → rp_St → Option (Int32 × rp_St)) (hrc3 : ∀ (v1 : Int32) (σ : rp_St) (res : Int32 × rp_St), rc3 v1 σ = some res → xM l D cI cB cS a yX3_readClosed cX3_readClosed 2 (some .boolean) (2 + dd) [.ref (a 57), .int v1] σ (rp_Qi D a (xt cI cB cS a) 62 res)) (hC : xC p s m args meth c cX3_readLevel 6 "RegretPegs$Reader" (some .boolean) D cI cB cS a) (v1 : Int32) (v2 : Int32) (t0 : Int32) (σ : rp_St) (H : Heap) (locs : List Loc) (ls : Array Slot) (hF : fX3_readLevel_35 rc0 rc1 rc2 rc3 v1 v2 t0 σ = some res) (hw : xW D cI cB cS a s σ H locs) (hl : lv_has ls 6 [(0, .ref (a 57)), (1, .int v1), (2, .int v2)]) : W p l e (rp_rm (2 + (dd + 1))) s m args below meth c H locs 0 0 (MQ below (rp_Qi D a (xt cI cB cS a) 62 res) args s 0 0 (rp_A a 62)) (F0 m 35 ls [.int t0]) := by
  have hx := hC.1
  have hb := hC.2.1
  have hown := hC.2.2.2.1
  have hts := hC.2.2.2.2.1
  unfold fX3_readLevel_35 at hF
  refine lv_istore_n (pc := 35) (lv' := [(3, .int t0), (0, .ref (a 57)), (1, .int v1), (2, .int v2)]) hx hb dX3_readLevel_35 rfl hl (by decide) rfl (fun ls hl => ?_)
  refine lv_iconst (pc := 36) (v := 0) hx hb dX3_readLevel_36 (by decide) ?_
  refine lv_istore (pc := 37) (lv' := [(4, .int 0), (3, .int t0), (0, .ref (a 57)), (1, .int v1), (2, .int v2)]) hx hb dX3_readLevel_37 hl (by decide) rfl (fun ls hl => ?_)
  exact lX3_readLevel_39 dd rc0 hrc0 rc1 hrc1 rc2 hrc2 rc3 hrc3 hC 300 v1 v2 t0 0 σ _ _ _ hF hw (lv_sub hl [2, 3, 4, 1, 0] rfl)
def fX3_readLevel (rc0 : Int32 → Int32 → rp_St → Option (Int32 × rp_St)) (rc1 : Int32 → rp_St → Option (Int32 × rp_St)) (rc2 : Int32 → rp_St → Option (Int32 × rp_St)) (rc3 : Int32 → rp_St → Option (Int32 × rp_St)) (v1 : Int32) (v2 : Int32) (σ : rp_St) : Option (Int32 × rp_St) :=
  (if v1 ≤ 4 then rp_bd (rc0 (v1 + 1) v2 σ) (fun r1 σ2 => (if r1 = 0 then some (0, σ2) else (if v1 = 2 then fX3_readLevel_35 rc0 rc1 rc2 rc3 v1 v2 1 σ2 else fX3_readLevel_35 rc0 rc1 rc2 rc3 v1 v2 50 σ2))) else rp_bd (rc1 v2 σ) (fun r3 σ4 => rp_gu (r3 == 0 || r3 == 1) (some (r3, σ4))))
set_option maxRecDepth 100000 in
set_option maxHeartbeats 4000000 in
theorem kX3_readLevel_0 {p : Program} {l : Launch} {e : Env} {s : State} {m : MethodId} {args : Array Value} {below : List Frame} {meth : Method} {c : Code} {D : va_G} {cI cB cS : ClassId} {a : Nat → Nat} {res : Int32 × rp_St} (dd : Nat) (rc0 : Int32 → Int32 → rp_St → Option (Int32 × rp_St)) (hrc0 : ∀ (v1 : Int32) (v2 : Int32) (σ : rp_St) (res : Int32 × rp_St), rc0 v1 v2 σ = some res → xM l D cI cB cS a yX3_readLevel cX3_readLevel 6 (some .boolean) (2 + dd) [.ref (a 57), .int v1, .int v2] σ (rp_Qi D a (xt cI cB cS a) 62 res)) (rc1 : Int32 → rp_St → Option (Int32 × rp_St)) (hrc1 : ∀ (v1 : Int32) (σ : rp_St) (res : Int32 × rp_St), rc1 v1 σ = some res → xM l D cI cB cS a yX3_readQ cX3_readQ 4 (some .boolean) (2 + dd) [.ref (a 57), .int v1] σ (rp_Qi D a (xt cI cB cS a) 62 res)) (rc2 : Int32 → rp_St → Option (Int32 × rp_St)) (hrc2 : ∀ (v1 : Int32) (σ : rp_St) (res : Int32 × rp_St), rc2 v1 σ = some res → xM l D cI cB cS a yX3_readNot cX3_readNot 2 (some .boolean) (2 + dd) [.ref (a 57), .int v1] σ (rp_Qi D a (xt cI cB cS a) 62 res)) (rc3 : Int32 → rp_St → Option (Int32 × rp_St)) (hrc3 : ∀ (v1 : Int32) (σ : rp_St) (res : Int32 × rp_St), rc3 v1 σ = some res → xM l D cI cB cS a yX3_readClosed cX3_readClosed 2 (some .boolean) (2 + dd) [.ref (a 57), .int v1] σ (rp_Qi D a (xt cI cB cS a) 62 res)) (hC : xC p s m args meth c cX3_readLevel 6 "RegretPegs$Reader" (some .boolean) D cI cB cS a) (v1 : Int32) (v2 : Int32) (σ : rp_St) (H : Heap) (locs : List Loc) (ls : Array Slot) (hF : fX3_readLevel rc0 rc1 rc2 rc3 v1 v2 σ = some res) (hw : xW D cI cB cS a s σ H locs) (hl : lv_has ls 6 [(0, .ref (a 57)), (1, .int v1), (2, .int v2)]) : W p l e (rp_rm (2 + (dd + 1))) s m args below meth c H locs 0 0 (MQ below (rp_Qi D a (xt cI cB cS a) 62 res) args s 0 0 (rp_A a 62)) (F0 m 0 ls []) := by
  have hx := hC.1
  have hb := hC.2.1
  have hown := hC.2.2.2.1
  have hts := hC.2.2.2.2.1
  unfold fX3_readLevel at hF
  refine lv_iload_n (pc := 0) hx hb dX3_readLevel_0 rfl (lv_at hl 1 rfl) ?_
  refine lv_iconst (pc := 1) (v := 4) hx hb dX3_readLevel_1 (by decide) ?_
  refine lv_icmp_le (pc := 2) (tgt := 11) hx hb dX3_readLevel_2 (by decide) (fun hc => ?_) (fun hc => ?_)
  · replace hF := rp_it hc hF
    refine lv_aload_n (pc := 11) hx hb dX3_readLevel_11 rfl (lv_at hl 0 rfl) ?_
    refine lv_iload_n (pc := 12) hx hb dX3_readLevel_12 rfl (lv_at hl 1 rfl) ?_
    refine lv_iconst (pc := 13) (v := 1) hx hb dX3_readLevel_13 (by decide) ?_
    refine lv_iadd (pc := 14) hx hb dX3_readLevel_14 ?_
    refine lv_iload_n (pc := 15) hx hb dX3_readLevel_15 rfl (lv_at hl 2 rfl) ?_
    obtain ⟨r1, σ2, hq, hF⟩ := rp_bd_e hF
    refine rp_ki (rp_runV (rest := []) hC (xE_ok _) hw hl.1 (hrc0 (v1 + 1) v2 σ _ hq) vw_X3_44 (by decide) (xt_reader _) rfl rfl rfl (Nat.le_of_ble_eq_true rfl) (by omega) dX3_readLevel_16) hw (fun H locs hw => ?_)
    clear hq
    refine lv_if_ne (pc := 19) (tgt := 24) hx hb dX3_readLevel_19 (by decide) (fun hc => ?_) (fun hc => ?_)
    · replace hF := rp_if hc hF
      refine lv_iload_n (pc := 24) hx hb dX3_readLevel_24 rfl (lv_at hl 1 rfl) ?_
      refine lv_iconst (pc := 25) (v := 2) hx hb dX3_readLevel_25 (by decide) ?_
      refine lv_icmp_ne (pc := 26) (tgt := 33) hx hb dX3_readLevel_26 (by decide) (fun hc => ?_) (fun hc => ?_)
      · replace hF := rp_if hc hF
        refine lv_bipush (pc := 33) (v := 50) hx hb dX3_readLevel_33 (by decide) ?_
        exact kX3_readLevel_35 dd rc0 hrc0 rc1 hrc1 rc2 hrc2 rc3 hrc3 hC v1 v2 50 σ2 _ _ _ hF hw (lv_sub hl [0, 1, 2] rfl)
      · replace hF := rp_it hc hF
        refine lv_iconst (pc := 29) (v := 1) hx hb dX3_readLevel_29 (by decide) ?_
        refine lv_goto (pc := 30) (tgt := 35) hx hb dX3_readLevel_30 (by decide) ?_
        exact kX3_readLevel_35 dd rc0 hrc0 rc1 hrc1 rc2 hrc2 rc3 hrc3 hC v1 v2 1 σ2 _ _ _ hF hw (lv_sub hl [0, 1, 2] rfl)
    · replace hF := rp_it hc hF
      refine lv_iconst (pc := 22) (v := 0) hx hb dX3_readLevel_22 (by decide) ?_
      exact rp_retz (pc := 23) hC hw rfl hF dX3_readLevel_23
  · replace hF := rp_if hc hF
    refine lv_aload_n (pc := 5) hx hb dX3_readLevel_5 rfl (lv_at hl 0 rfl) ?_
    refine lv_iload_n (pc := 6) hx hb dX3_readLevel_6 rfl (lv_at hl 2 rfl) ?_
    obtain ⟨r3, σ4, hq, hF⟩ := rp_bd_e hF
    refine rp_ki (rp_runV (rest := []) hC (xE_ok _) hw hl.1 (hrc1 v2 σ _ hq) vw_X3_48 (by decide) (xt_reader _) rfl rfl rfl (Nat.le_of_ble_eq_true rfl) (by omega) dX3_readLevel_7) hw (fun H locs hw => ?_)
    clear hq
    obtain ⟨hg, hF⟩ := rp_gu_e hF
    exact rp_retz (pc := 10) hC hw hg hF dX3_readLevel_10
def fX3_readQ_57 (rc0 : Int32 → Int32 → rp_St → Option (Int32 × rp_St)) (rc1 : Int32 → rp_St → Option (Int32 × rp_St)) (rc2 : Int32 → rp_St → Option (Int32 × rp_St)) (rc3 : Int32 → rp_St → Option (Int32 × rp_St)) (v1 : Int32) (v2 : Int32) (σ : rp_St) : Option (Int32 × rp_St) :=
  (if v1 < 5 then rp_nm (rp_put σ 57 3 ((σ 57 3) + 1)) (fun σ1 => (if v2 = 33 then rp_bd (rc2 (v1 + 1) σ1) (fun r4 σ5 => rp_gu (r4 == 0 || r4 == 1) (some (r4, σ5))) else rp_bd (rc3 (v1 + 1) σ1) (fun r2 σ3 => rp_gu (r2 == 0 || r2 == 1) (some (r2, σ3))))) else some (0, σ))
set_option maxRecDepth 100000 in
set_option maxHeartbeats 4000000 in
theorem kX3_readQ_57 {p : Program} {l : Launch} {e : Env} {s : State} {m : MethodId} {args : Array Value} {below : List Frame} {meth : Method} {c : Code} {D : va_G} {cI cB cS : ClassId} {a : Nat → Nat} {res : Int32 × rp_St} (dd : Nat) (rc0 : Int32 → Int32 → rp_St → Option (Int32 × rp_St)) (hrc0 : ∀ (v1 : Int32) (v2 : Int32) (σ : rp_St) (res : Int32 × rp_St), rc0 v1 v2 σ = some res → xM l D cI cB cS a yX3_readLevel cX3_readLevel 6 (some .boolean) (2 + dd) [.ref (a 57), .int v1, .int v2] σ (rp_Qi D a (xt cI cB cS a) 62 res)) (rc1 : Int32 → rp_St → Option (Int32 × rp_St)) (hrc1 : ∀ (v1 : Int32) (σ : rp_St) (res : Int32 × rp_St), rc1 v1 σ = some res → xM l D cI cB cS a yX3_readQ cX3_readQ 4 (some .boolean) (2 + dd) [.ref (a 57), .int v1] σ (rp_Qi D a (xt cI cB cS a) 62 res)) (rc2 : Int32 → rp_St → Option (Int32 × rp_St)) (hrc2 : ∀ (v1 : Int32) (σ : rp_St) (res : Int32 × rp_St), rc2 v1 σ = some res → xM l D cI cB cS a yX3_readNot cX3_readNot 2 (some .boolean) (2 + dd) [.ref (a 57), .int v1] σ (rp_Qi D a (xt cI cB cS a) 62 res)) (rc3 : Int32 → rp_St → Option (Int32 × rp_St)) (hrc3 : ∀ (v1 : Int32) (σ : rp_St) (res : Int32 × rp_St), rc3 v1 σ = some res → xM l D cI cB cS a yX3_readClosed cX3_readClosed 2 (some .boolean) (2 + dd) [.ref (a 57), .int v1] σ (rp_Qi D a (xt cI cB cS a) 62 res)) (hC : xC p s m args meth c cX3_readQ 4 "RegretPegs$Reader" (some .boolean) D cI cB cS a) (v1 : Int32) (v2 : Int32) (σ : rp_St) (H : Heap) (locs : List Loc) (ls : Array Slot) (hF : fX3_readQ_57 rc0 rc1 rc2 rc3 v1 v2 σ = some res) (hw : xW D cI cB cS a s σ H locs) (hl : lv_has ls 4 [(0, .ref (a 57)), (1, .int v1), (2, .int v2)]) : W p l e (rp_rm (2 + (dd + 1))) s m args below meth c H locs 0 0 (MQ below (rp_Qi D a (xt cI cB cS a) 62 res) args s 0 0 (rp_A a 62)) (F0 m 57 ls []) := by
  have hx := hC.1
  have hb := hC.2.1
  have hown := hC.2.2.2.1
  have hts := hC.2.2.2.2.1
  unfold fX3_readQ_57 at hF
  refine lv_iload_n (pc := 57) hx hb dX3_readQ_57 rfl (lv_at hl 1 rfl) ?_
  refine lv_iconst (pc := 58) (v := 5) hx hb dX3_readQ_58 (by decide) ?_
  refine lv_icmp_lt (pc := 59) (tgt := 64) hx hb dX3_readQ_59 (by decide) (fun hc => ?_) (fun hc => ?_)
  · replace hF := rp_it hc hF
    refine lv_aload_n (pc := 64) hx hb dX3_readQ_64 rfl (lv_at hl 0 rfl) ?_
    refine lv_dup (pc := 65) hx hb dX3_readQ_65 rfl ?_
    refine rp_get (pc := 66) hC hw 57 (by decide) (xt_reader _) fl_X3_22 (.int (σ 57 3)) rfl dX3_readQ_66 ?_
    refine lv_iconst (pc := 69) (v := 1) hx hb dX3_readQ_69 (by decide) ?_
    refine lv_iadd (pc := 70) hx hb dX3_readQ_70 ?_
    refine rp_set (pc := 71) (fs := xb_reader a) hC hw 57 (by decide) xt_reader fg_X3_22 rfl (Nat.le_of_ble_eq_true rfl) rfl rfl dX3_readQ_71 (fun H locs hw => ?_)
    obtain ⟨σ1, eσ1, hF⟩ := rp_nm_e hF
    replace hw := rp_Wn eσ1 hw
    clear eσ1
    refine lv_iload_n (pc := 74) hx hb dX3_readQ_74 rfl (lv_at hl 2 rfl) ?_
    refine lv_bipush (pc := 75) (v := 33) hx hb dX3_readQ_75 (by decide) ?_
    refine lv_icmp_ne (pc := 77) (tgt := 90) hx hb dX3_readQ_77 (by decide) (fun hc => ?_) (fun hc => ?_)
    · replace hF := rp_if hc hF
      refine lv_aload_n (pc := 90) hx hb dX3_readQ_90 rfl (lv_at hl 0 rfl) ?_
      refine lv_iload_n (pc := 91) hx hb dX3_readQ_91 rfl (lv_at hl 1 rfl) ?_
      refine lv_iconst (pc := 92) (v := 1) hx hb dX3_readQ_92 (by decide) ?_
      refine lv_iadd (pc := 93) hx hb dX3_readQ_93 ?_
      obtain ⟨r2, σ3, hq, hF⟩ := rp_bd_e hF
      refine rp_ki (rp_runV (rest := []) hC (xE_ok _) hw hl.1 (hrc3 (v1 + 1) σ1 _ hq) vw_X3_76 (by decide) (xt_reader _) rfl rfl rfl (Nat.le_of_ble_eq_true rfl) (by omega) dX3_readQ_94) hw (fun H locs hw => ?_)
      clear hq
      obtain ⟨hg, hF⟩ := rp_gu_e hF
      exact rp_retz (pc := 97) hC hw hg hF dX3_readQ_97
    · replace hF := rp_it hc hF
      refine lv_aload_n (pc := 80) hx hb dX3_readQ_80 rfl (lv_at hl 0 rfl) ?_
      refine lv_iload_n (pc := 81) hx hb dX3_readQ_81 rfl (lv_at hl 1 rfl) ?_
      refine lv_iconst (pc := 82) (v := 1) hx hb dX3_readQ_82 (by decide) ?_
      refine lv_iadd (pc := 83) hx hb dX3_readQ_83 ?_
      obtain ⟨r4, σ5, hq, hF⟩ := rp_bd_e hF
      refine rp_ki (rp_runV (rest := []) hC (xE_ok _) hw hl.1 (hrc2 (v1 + 1) σ1 _ hq) vw_X3_73 (by decide) (xt_reader _) rfl rfl rfl (Nat.le_of_ble_eq_true rfl) (by omega) dX3_readQ_84) hw (fun H locs hw => ?_)
      clear hq
      refine lv_goto (pc := 87) (tgt := 97) hx hb dX3_readQ_87 (by decide) ?_
      obtain ⟨hg, hF⟩ := rp_gu_e hF
      exact rp_retz (pc := 97) hC hw hg hF dX3_readQ_97
  · replace hF := rp_if hc hF
    refine lv_iconst (pc := 62) (v := 0) hx hb dX3_readQ_62 (by decide) ?_
    exact rp_retz (pc := 63) hC hw rfl hF dX3_readQ_63
def fX3_readQ (rc0 : Int32 → Int32 → rp_St → Option (Int32 × rp_St)) (rc1 : Int32 → rp_St → Option (Int32 × rp_St)) (rc2 : Int32 → rp_St → Option (Int32 × rp_St)) (rc3 : Int32 → rp_St → Option (Int32 × rp_St)) (v1 : Int32) (σ : rp_St) : Option (Int32 × rp_St) :=
  rp_bd (fX3_ahead σ) (fun r1 σ2 => rp_bd (fX3_isDigit r1 σ2) (fun r3 σ4 => (if r3 = 0 then rp_bd (fX3_nameOf r1 σ4) (fun r5 σ6 => (if r5 = 0 then (if r1 = 33 then fX3_readQ_57 rc0 rc1 rc2 rc3 v1 r1 σ6 else (if r1 = 40 then fX3_readQ_57 rc0 rc1 rc2 rc3 v1 r1 σ6 else some (0, σ6))) else rp_nm (rp_put σ6 57 3 ((σ6 57 3) + 1)) (fun σ7 => rp_bd (fX3_emit r5 σ7) (fun _ σ9 => some (1, σ9))))) else rp_bd (fX3_readNumber σ4) (fun _ σ11 => some (1, σ11)))))
set_option maxRecDepth 100000 in
set_option maxHeartbeats 4000000 in
theorem kX3_readQ_0 {p : Program} {l : Launch} {e : Env} {s : State} {m : MethodId} {args : Array Value} {below : List Frame} {meth : Method} {c : Code} {D : va_G} {cI cB cS : ClassId} {a : Nat → Nat} {res : Int32 × rp_St} (dd : Nat) (rc0 : Int32 → Int32 → rp_St → Option (Int32 × rp_St)) (hrc0 : ∀ (v1 : Int32) (v2 : Int32) (σ : rp_St) (res : Int32 × rp_St), rc0 v1 v2 σ = some res → xM l D cI cB cS a yX3_readLevel cX3_readLevel 6 (some .boolean) (2 + dd) [.ref (a 57), .int v1, .int v2] σ (rp_Qi D a (xt cI cB cS a) 62 res)) (rc1 : Int32 → rp_St → Option (Int32 × rp_St)) (hrc1 : ∀ (v1 : Int32) (σ : rp_St) (res : Int32 × rp_St), rc1 v1 σ = some res → xM l D cI cB cS a yX3_readQ cX3_readQ 4 (some .boolean) (2 + dd) [.ref (a 57), .int v1] σ (rp_Qi D a (xt cI cB cS a) 62 res)) (rc2 : Int32 → rp_St → Option (Int32 × rp_St)) (hrc2 : ∀ (v1 : Int32) (σ : rp_St) (res : Int32 × rp_St), rc2 v1 σ = some res → xM l D cI cB cS a yX3_readNot cX3_readNot 2 (some .boolean) (2 + dd) [.ref (a 57), .int v1] σ (rp_Qi D a (xt cI cB cS a) 62 res)) (rc3 : Int32 → rp_St → Option (Int32 × rp_St)) (hrc3 : ∀ (v1 : Int32) (σ : rp_St) (res : Int32 × rp_St), rc3 v1 σ = some res → xM l D cI cB cS a yX3_readClosed cX3_readClosed 2 (some .boolean) (2 + dd) [.ref (a 57), .int v1] σ (rp_Qi D a (xt cI cB cS a) 62 res)) (hC : xC p s m args meth c cX3_readQ 4 "RegretPegs$Reader" (some .boolean) D cI cB cS a) (v1 : Int32) (σ : rp_St) (H : Heap) (locs : List Loc) (ls : Array Slot) (hF : fX3_readQ rc0 rc1 rc2 rc3 v1 σ = some res) (hw : xW D cI cB cS a s σ H locs) (hl : lv_has ls 4 [(0, .ref (a 57)), (1, .int v1)]) : W p l e (rp_rm (2 + (dd + 1))) s m args below meth c H locs 0 0 (MQ below (rp_Qi D a (xt cI cB cS a) 62 res) args s 0 0 (rp_A a 62)) (F0 m 0 ls []) := by
  have hx := hC.1
  have hb := hC.2.1
  have hown := hC.2.2.2.1
  have hts := hC.2.2.2.2.1
  unfold fX3_readQ at hF
  refine lv_aload_n (pc := 0) hx hb dX3_readQ_0 rfl (lv_at hl 0 rfl) ?_
  obtain ⟨r1, σ2, hq, hF⟩ := rp_bd_e hF
  refine rp_ki (rp_runV (rest := []) hC (xE_ok _) hw hl.1 (mX3_ahead (l := l) σ _ hq) vw_X3_52 (by decide) (xt_reader _) rfl rfl rfl (Nat.le_of_ble_eq_true rfl) (by omega) dX3_readQ_1) hw (fun H locs hw => ?_)
  clear hq
  refine lv_istore_n (pc := 4) (lv' := [(2, .int r1), (0, .ref (a 57)), (1, .int v1)]) hx hb dX3_readQ_4 rfl hl (by decide) rfl (fun ls hl => ?_)
  refine lv_iload_n (pc := 5) hx hb dX3_readQ_5 rfl (lv_at hl 0 rfl) ?_
  obtain ⟨r3, σ4, hq, hF⟩ := rp_bd_e hF
  refine rp_ki (rp_runZ (rest := []) hC (xE_ok _) hw hl.1 (mX3_isDigit (l := l) r1 σ2 _ hq) zw_X3_64 rfl rfl (Nat.le_of_ble_eq_true rfl) (by omega) dX3_readQ_6) hw (fun H locs hw => ?_)
  clear hq
  refine lv_if_eq (pc := 9) (tgt := 18) hx hb dX3_readQ_9 (by decide) (fun hc => ?_) (fun hc => ?_)
  · replace hF := rp_it hc hF
    refine lv_aload_n (pc := 18) hx hb dX3_readQ_18 rfl (lv_at hl 1 rfl) ?_
    refine lv_iload_n (pc := 19) hx hb dX3_readQ_19 rfl (lv_at hl 0 rfl) ?_
    obtain ⟨r5, σ6, hq, hF⟩ := rp_bd_e hF
    refine rp_ki (rp_runV (rest := []) hC (xE_ok _) hw hl.1 (mX3_nameOf (l := l) r1 σ4 _ hq) vw_X3_70 (by decide) (xt_reader _) rfl rfl rfl (Nat.le_of_ble_eq_true rfl) (by omega) dX3_readQ_20) hw (fun H locs hw => ?_)
    clear hq
    refine lv_istore_n (pc := 23) (lv' := [(3, .int r5), (2, .int r1), (0, .ref (a 57)), (1, .int v1)]) hx hb dX3_readQ_23 rfl hl (by decide) rfl (fun ls hl => ?_)
    refine lv_iload_n (pc := 24) hx hb dX3_readQ_24 rfl (lv_at hl 0 rfl) ?_
    refine lv_if_eq (pc := 25) (tgt := 45) hx hb dX3_readQ_25 (by decide) (fun hc => ?_) (fun hc => ?_)
    · replace hF := rp_it hc hF
      refine lv_iload_n (pc := 45) hx hb dX3_readQ_45 rfl (lv_at hl 1 rfl) ?_
      refine lv_bipush (pc := 46) (v := 33) hx hb dX3_readQ_46 (by decide) ?_
      refine lv_icmp_eq (pc := 48) (tgt := 57) hx hb dX3_readQ_48 (by decide) (fun hc => ?_) (fun hc => ?_)
      · replace hF := rp_it hc hF
        exact kX3_readQ_57 dd rc0 hrc0 rc1 hrc1 rc2 hrc2 rc3 hrc3 hC v1 r1 σ6 _ _ _ hF hw (lv_sub hl [2, 3, 1] rfl)
      · replace hF := rp_if hc hF
        refine lv_iload_n (pc := 51) hx hb dX3_readQ_51 rfl (lv_at hl 1 rfl) ?_
        refine lv_bipush (pc := 52) (v := 40) hx hb dX3_readQ_52 (by decide) ?_
        refine lv_icmp_ne (pc := 54) (tgt := 62) hx hb dX3_readQ_54 (by decide) (fun hc => ?_) (fun hc => ?_)
        · replace hF := rp_if hc hF
          refine lv_iconst (pc := 62) (v := 0) hx hb dX3_readQ_62 (by decide) ?_
          exact rp_retz (pc := 63) hC hw rfl hF dX3_readQ_63
        · replace hF := rp_it hc hF
          exact kX3_readQ_57 dd rc0 hrc0 rc1 hrc1 rc2 hrc2 rc3 hrc3 hC v1 r1 σ6 _ _ _ hF hw (lv_sub hl [2, 3, 1] rfl)
    · replace hF := rp_if hc hF
      refine lv_aload_n (pc := 28) hx hb dX3_readQ_28 rfl (lv_at hl 2 rfl) ?_
      refine lv_dup (pc := 29) hx hb dX3_readQ_29 rfl ?_
      refine rp_get (pc := 30) hC hw 57 (by decide) (xt_reader _) fl_X3_22 (.int (σ6 57 3)) rfl dX3_readQ_30 ?_
      refine lv_iconst (pc := 33) (v := 1) hx hb dX3_readQ_33 (by decide) ?_
      refine lv_iadd (pc := 34) hx hb dX3_readQ_34 ?_
      refine rp_set (pc := 35) (fs := xb_reader a) hC hw 57 (by decide) xt_reader fg_X3_22 rfl (Nat.le_of_ble_eq_true rfl) rfl rfl dX3_readQ_35 (fun H locs hw => ?_)
      obtain ⟨σ7, eσ7, hF⟩ := rp_nm_e hF
      replace hw := rp_Wn eσ7 hw
      clear eσ7
      refine lv_aload_n (pc := 38) hx hb dX3_readQ_38 rfl (lv_at hl 2 rfl) ?_
      refine lv_iload_n (pc := 39) hx hb dX3_readQ_39 rfl (lv_at hl 0 rfl) ?_
      obtain ⟨r8, σ9, hq, hF⟩ := rp_bd_e hF
      refine rp_kv (rp_runV (rest := []) hC (xE_ok _) hw hl.1 (mX3_emit (l := l) r5 σ7 _ hq) vw_X3_60 (by decide) (xt_reader _) rfl rfl rfl (Nat.le_of_ble_eq_true rfl) (by omega) dX3_readQ_40) hw (fun H locs hw => ?_)
      clear hq
      refine lv_iconst (pc := 43) (v := 1) hx hb dX3_readQ_43 (by decide) ?_
      exact rp_retz (pc := 44) hC hw rfl hF dX3_readQ_44
  · replace hF := rp_if hc hF
    refine lv_aload_n (pc := 12) hx hb dX3_readQ_12 rfl (lv_at hl 1 rfl) ?_
    obtain ⟨r10, σ11, hq, hF⟩ := rp_bd_e hF
    refine rp_kv (rp_runV (rest := []) hC (xE_ok _) hw hl.1 (mX3_readNumber (l := l) σ4 _ hq) vw_X3_67 (by decide) (xt_reader _) rfl rfl rfl (Nat.le_of_ble_eq_true rfl) (by omega) dX3_readQ_13) hw (fun H locs hw => ?_)
    clear hq
    refine lv_iconst (pc := 16) (v := 1) hx hb dX3_readQ_16 (by decide) ?_
    exact rp_retz (pc := 17) hC hw rfl hF dX3_readQ_17
def fX3_readNot (rc0 : Int32 → Int32 → rp_St → Option (Int32 × rp_St)) (rc1 : Int32 → rp_St → Option (Int32 × rp_St)) (rc2 : Int32 → rp_St → Option (Int32 × rp_St)) (rc3 : Int32 → rp_St → Option (Int32 × rp_St)) (v1 : Int32) (σ : rp_St) : Option (Int32 × rp_St) :=
  rp_bd (rc1 v1 σ) (fun r1 σ2 => (if r1 = 0 then some (0, σ2) else rp_bd (fX3_emit (-33) σ2) (fun _ σ4 => some (1, σ4))))
set_option maxRecDepth 100000 in
set_option maxHeartbeats 4000000 in
theorem kX3_readNot_0 {p : Program} {l : Launch} {e : Env} {s : State} {m : MethodId} {args : Array Value} {below : List Frame} {meth : Method} {c : Code} {D : va_G} {cI cB cS : ClassId} {a : Nat → Nat} {res : Int32 × rp_St} (dd : Nat) (rc0 : Int32 → Int32 → rp_St → Option (Int32 × rp_St)) (hrc0 : ∀ (v1 : Int32) (v2 : Int32) (σ : rp_St) (res : Int32 × rp_St), rc0 v1 v2 σ = some res → xM l D cI cB cS a yX3_readLevel cX3_readLevel 6 (some .boolean) (2 + dd) [.ref (a 57), .int v1, .int v2] σ (rp_Qi D a (xt cI cB cS a) 62 res)) (rc1 : Int32 → rp_St → Option (Int32 × rp_St)) (hrc1 : ∀ (v1 : Int32) (σ : rp_St) (res : Int32 × rp_St), rc1 v1 σ = some res → xM l D cI cB cS a yX3_readQ cX3_readQ 4 (some .boolean) (2 + dd) [.ref (a 57), .int v1] σ (rp_Qi D a (xt cI cB cS a) 62 res)) (rc2 : Int32 → rp_St → Option (Int32 × rp_St)) (hrc2 : ∀ (v1 : Int32) (σ : rp_St) (res : Int32 × rp_St), rc2 v1 σ = some res → xM l D cI cB cS a yX3_readNot cX3_readNot 2 (some .boolean) (2 + dd) [.ref (a 57), .int v1] σ (rp_Qi D a (xt cI cB cS a) 62 res)) (rc3 : Int32 → rp_St → Option (Int32 × rp_St)) (hrc3 : ∀ (v1 : Int32) (σ : rp_St) (res : Int32 × rp_St), rc3 v1 σ = some res → xM l D cI cB cS a yX3_readClosed cX3_readClosed 2 (some .boolean) (2 + dd) [.ref (a 57), .int v1] σ (rp_Qi D a (xt cI cB cS a) 62 res)) (hC : xC p s m args meth c cX3_readNot 2 "RegretPegs$Reader" (some .boolean) D cI cB cS a) (v1 : Int32) (σ : rp_St) (H : Heap) (locs : List Loc) (ls : Array Slot) (hF : fX3_readNot rc0 rc1 rc2 rc3 v1 σ = some res) (hw : xW D cI cB cS a s σ H locs) (hl : lv_has ls 2 [(0, .ref (a 57)), (1, .int v1)]) : W p l e (rp_rm (2 + (dd + 1))) s m args below meth c H locs 0 0 (MQ below (rp_Qi D a (xt cI cB cS a) 62 res) args s 0 0 (rp_A a 62)) (F0 m 0 ls []) := by
  have hx := hC.1
  have hb := hC.2.1
  have hown := hC.2.2.2.1
  have hts := hC.2.2.2.2.1
  unfold fX3_readNot at hF
  refine lv_aload_n (pc := 0) hx hb dX3_readNot_0 rfl (lv_at hl 0 rfl) ?_
  refine lv_iload_n (pc := 1) hx hb dX3_readNot_1 rfl (lv_at hl 1 rfl) ?_
  obtain ⟨r1, σ2, hq, hF⟩ := rp_bd_e hF
  refine rp_ki (rp_runV (rest := []) hC (xE_ok _) hw hl.1 (hrc1 v1 σ _ hq) vw_X3_48 (by decide) (xt_reader _) rfl rfl rfl (Nat.le_of_ble_eq_true rfl) (by omega) dX3_readNot_2) hw (fun H locs hw => ?_)
  clear hq
  refine lv_if_ne (pc := 5) (tgt := 10) hx hb dX3_readNot_5 (by decide) (fun hc => ?_) (fun hc => ?_)
  · replace hF := rp_if hc hF
    refine lv_aload_n (pc := 10) hx hb dX3_readNot_10 rfl (lv_at hl 0 rfl) ?_
    refine lv_bipush (pc := 11) (v := (-33)) hx hb dX3_readNot_11 (by decide) ?_
    obtain ⟨r3, σ4, hq, hF⟩ := rp_bd_e hF
    refine rp_kv (rp_runV (rest := []) hC (xE_ok _) hw hl.1 (mX3_emit (l := l) (-33) σ2 _ hq) vw_X3_60 (by decide) (xt_reader _) rfl rfl rfl (Nat.le_of_ble_eq_true rfl) (by omega) dX3_readNot_13) hw (fun H locs hw => ?_)
    clear hq
    refine lv_iconst (pc := 16) (v := 1) hx hb dX3_readNot_16 (by decide) ?_
    exact rp_retz (pc := 17) hC hw rfl hF dX3_readNot_17
  · replace hF := rp_it hc hF
    refine lv_iconst (pc := 8) (v := 0) hx hb dX3_readNot_8 (by decide) ?_
    exact rp_retz (pc := 9) hC hw rfl hF dX3_readNot_9
def fX3_readClosed (rc0 : Int32 → Int32 → rp_St → Option (Int32 × rp_St)) (rc1 : Int32 → rp_St → Option (Int32 × rp_St)) (rc2 : Int32 → rp_St → Option (Int32 × rp_St)) (rc3 : Int32 → rp_St → Option (Int32 × rp_St)) (v1 : Int32) (σ : rp_St) : Option (Int32 × rp_St) :=
  rp_bd (rc0 0 v1 σ) (fun r1 σ2 => (if r1 = 0 then some (0, σ2) else rp_bd (fX3_ahead σ2) (fun r3 σ4 => (if r3 = 41 then rp_nm (rp_put σ4 57 3 ((σ4 57 3) + 1)) (fun σ5 => some (1, σ5)) else some (0, σ4)))))
set_option maxRecDepth 100000 in
set_option maxHeartbeats 4000000 in
theorem kX3_readClosed_0 {p : Program} {l : Launch} {e : Env} {s : State} {m : MethodId} {args : Array Value} {below : List Frame} {meth : Method} {c : Code} {D : va_G} {cI cB cS : ClassId} {a : Nat → Nat} {res : Int32 × rp_St} (dd : Nat) (rc0 : Int32 → Int32 → rp_St → Option (Int32 × rp_St)) (hrc0 : ∀ (v1 : Int32) (v2 : Int32) (σ : rp_St) (res : Int32 × rp_St), rc0 v1 v2 σ = some res → xM l D cI cB cS a yX3_readLevel cX3_readLevel 6 (some .boolean) (2 + dd) [.ref (a 57), .int v1, .int v2] σ (rp_Qi D a (xt cI cB cS a) 62 res)) (rc1 : Int32 → rp_St → Option (Int32 × rp_St)) (hrc1 : ∀ (v1 : Int32) (σ : rp_St) (res : Int32 × rp_St), rc1 v1 σ = some res → xM l D cI cB cS a yX3_readQ cX3_readQ 4 (some .boolean) (2 + dd) [.ref (a 57), .int v1] σ (rp_Qi D a (xt cI cB cS a) 62 res)) (rc2 : Int32 → rp_St → Option (Int32 × rp_St)) (hrc2 : ∀ (v1 : Int32) (σ : rp_St) (res : Int32 × rp_St), rc2 v1 σ = some res → xM l D cI cB cS a yX3_readNot cX3_readNot 2 (some .boolean) (2 + dd) [.ref (a 57), .int v1] σ (rp_Qi D a (xt cI cB cS a) 62 res)) (rc3 : Int32 → rp_St → Option (Int32 × rp_St)) (hrc3 : ∀ (v1 : Int32) (σ : rp_St) (res : Int32 × rp_St), rc3 v1 σ = some res → xM l D cI cB cS a yX3_readClosed cX3_readClosed 2 (some .boolean) (2 + dd) [.ref (a 57), .int v1] σ (rp_Qi D a (xt cI cB cS a) 62 res)) (hC : xC p s m args meth c cX3_readClosed 2 "RegretPegs$Reader" (some .boolean) D cI cB cS a) (v1 : Int32) (σ : rp_St) (H : Heap) (locs : List Loc) (ls : Array Slot) (hF : fX3_readClosed rc0 rc1 rc2 rc3 v1 σ = some res) (hw : xW D cI cB cS a s σ H locs) (hl : lv_has ls 2 [(0, .ref (a 57)), (1, .int v1)]) : W p l e (rp_rm (2 + (dd + 1))) s m args below meth c H locs 0 0 (MQ below (rp_Qi D a (xt cI cB cS a) 62 res) args s 0 0 (rp_A a 62)) (F0 m 0 ls []) := by
  have hx := hC.1
  have hb := hC.2.1
  have hown := hC.2.2.2.1
  have hts := hC.2.2.2.2.1
  unfold fX3_readClosed at hF
  refine lv_aload_n (pc := 0) hx hb dX3_readClosed_0 rfl (lv_at hl 0 rfl) ?_
  refine lv_iconst (pc := 1) (v := 0) hx hb dX3_readClosed_1 (by decide) ?_
  refine lv_iload_n (pc := 2) hx hb dX3_readClosed_2 rfl (lv_at hl 1 rfl) ?_
  obtain ⟨r1, σ2, hq, hF⟩ := rp_bd_e hF
  refine rp_ki (rp_runV (rest := []) hC (xE_ok _) hw hl.1 (hrc0 0 v1 σ _ hq) vw_X3_44 (by decide) (xt_reader _) rfl rfl rfl (Nat.le_of_ble_eq_true rfl) (by omega) dX3_readClosed_3) hw (fun H locs hw => ?_)
  clear hq
  refine lv_if_eq (pc := 6) (tgt := 18) hx hb dX3_readClosed_6 (by decide) (fun hc => ?_) (fun hc => ?_)
  · replace hF := rp_it hc hF
    refine lv_iconst (pc := 18) (v := 0) hx hb dX3_readClosed_18 (by decide) ?_
    exact rp_retz (pc := 19) hC hw rfl hF dX3_readClosed_19
  · replace hF := rp_if hc hF
    refine lv_aload_n (pc := 9) hx hb dX3_readClosed_9 rfl (lv_at hl 0 rfl) ?_
    obtain ⟨r3, σ4, hq, hF⟩ := rp_bd_e hF
    refine rp_ki (rp_runV (rest := []) hC (xE_ok _) hw hl.1 (mX3_ahead (l := l) σ2 _ hq) vw_X3_52 (by decide) (xt_reader _) rfl rfl rfl (Nat.le_of_ble_eq_true rfl) (by omega) dX3_readClosed_10) hw (fun H locs hw => ?_)
    clear hq
    refine lv_bipush (pc := 13) (v := 41) hx hb dX3_readClosed_13 (by decide) ?_
    refine lv_icmp_eq (pc := 15) (tgt := 20) hx hb dX3_readClosed_15 (by decide) (fun hc => ?_) (fun hc => ?_)
    · replace hF := rp_it hc hF
      refine lv_aload_n (pc := 20) hx hb dX3_readClosed_20 rfl (lv_at hl 0 rfl) ?_
      refine lv_dup (pc := 21) hx hb dX3_readClosed_21 rfl ?_
      refine rp_get (pc := 22) hC hw 57 (by decide) (xt_reader _) fl_X3_22 (.int (σ4 57 3)) rfl dX3_readClosed_22 ?_
      refine lv_iconst (pc := 25) (v := 1) hx hb dX3_readClosed_25 (by decide) ?_
      refine lv_iadd (pc := 26) hx hb dX3_readClosed_26 ?_
      refine rp_set (pc := 27) (fs := xb_reader a) hC hw 57 (by decide) xt_reader fg_X3_22 rfl (Nat.le_of_ble_eq_true rfl) rfl rfl dX3_readClosed_27 (fun H locs hw => ?_)
      obtain ⟨σ5, eσ5, hF⟩ := rp_nm_e hF
      replace hw := rp_Wn eσ5 hw
      clear eσ5
      refine lv_iconst (pc := 30) (v := 1) hx hb dX3_readClosed_30 (by decide) ?_
      exact rp_retz (pc := 31) hC hw rfl hF dX3_readClosed_31
    · replace hF := rp_if hc hF
      refine lv_iconst (pc := 18) (v := 0) hx hb dX3_readClosed_18 (by decide) ?_
      exact rp_retz (pc := 19) hC hw rfl hF dX3_readClosed_19
def fX3_grp : Nat → (Int32 → Int32 → rp_St → Option (Int32 × rp_St)) × (Int32 → rp_St → Option (Int32 × rp_St)) × (Int32 → rp_St → Option (Int32 × rp_St)) × (Int32 → rp_St → Option (Int32 × rp_St)) := rp_lp (fun _ _ _ => none, fun _ _ => none, fun _ _ => none, fun _ _ => none) (fun r => (fX3_readLevel r.1 r.2.1 r.2.2.1 r.2.2.2, fX3_readQ r.1 r.2.1 r.2.2.1 r.2.2.2, fX3_readNot r.1 r.2.1 r.2.2.1 r.2.2.2, fX3_readClosed r.1 r.2.1 r.2.2.1 r.2.2.2))
theorem mX3_grp (n : Nat) {l : Launch} {D : va_G} {cI cB cS : ClassId} {a : Nat → Nat} : (∀ (v1 : Int32) (v2 : Int32) (σ : rp_St) (res : Int32 × rp_St), (fX3_grp n).1 v1 v2 σ = some res → xM l D cI cB cS a yX3_readLevel cX3_readLevel 6 (some .boolean) (2 + n) [.ref (a 57), .int v1, .int v2] σ (rp_Qi D a (xt cI cB cS a) 62 res)) ∧ (∀ (v1 : Int32) (σ : rp_St) (res : Int32 × rp_St), (fX3_grp n).2.1 v1 σ = some res → xM l D cI cB cS a yX3_readQ cX3_readQ 4 (some .boolean) (2 + n) [.ref (a 57), .int v1] σ (rp_Qi D a (xt cI cB cS a) 62 res)) ∧ (∀ (v1 : Int32) (σ : rp_St) (res : Int32 × rp_St), (fX3_grp n).2.2.1 v1 σ = some res → xM l D cI cB cS a yX3_readNot cX3_readNot 2 (some .boolean) (2 + n) [.ref (a 57), .int v1] σ (rp_Qi D a (xt cI cB cS a) 62 res)) ∧ (∀ (v1 : Int32) (σ : rp_St) (res : Int32 × rp_St), (fX3_grp n).2.2.2 v1 σ = some res → xM l D cI cB cS a yX3_readClosed cX3_readClosed 2 (some .boolean) (2 + n) [.ref (a 57), .int v1] σ (rp_Qi D a (xt cI cB cS a) 62 res)) := by
  induction n with
  | zero => exact ⟨(fun _ _ _ _ hF => nomatch hF), (fun _ _ _ hF => nomatch hF), (fun _ _ _ hF => nomatch hF), (fun _ _ _ hF => nomatch hF)⟩
  | succ n ih =>
    refine ⟨?_, ?_, ?_, ?_⟩
    · intro v1 v2 σ res hF
      exact rp_entry (by decide) (Nat.le_of_ble_eq_true rfl) (fun p e s m below meth c ls hC hw hl => kX3_readLevel_0 n _ ih.1 _ ih.2.1 _ ih.2.2.1 _ ih.2.2.2 hC v1 v2 σ _ _ _ hF hw (lv_sub hl [0, 1, 2] rfl))
    · intro v1 σ res hF
      exact rp_entry (by decide) (Nat.le_of_ble_eq_true rfl) (fun p e s m below meth c ls hC hw hl => kX3_readQ_0 n _ ih.1 _ ih.2.1 _ ih.2.2.1 _ ih.2.2.2 hC v1 σ _ _ _ hF hw (lv_sub hl [0, 1] rfl))
    · intro v1 σ res hF
      exact rp_entry (by decide) (Nat.le_of_ble_eq_true rfl) (fun p e s m below meth c ls hC hw hl => kX3_readNot_0 n _ ih.1 _ ih.2.1 _ ih.2.2.1 _ ih.2.2.2 hC v1 σ _ _ _ hF hw (lv_sub hl [0, 1] rfl))
    · intro v1 σ res hF
      exact rp_entry (by decide) (Nat.le_of_ble_eq_true rfl) (fun p e s m below meth c ls hC hw hl => kX3_readClosed_0 n _ ih.1 _ ih.2.1 _ ih.2.2.1 _ ih.2.2.2 hC v1 σ _ _ _ hF hw (lv_sub hl [0, 1] rfl))
def fX3_reads (j1 : Nat) (v2 : Int32) (v3 : Int32) (σ : rp_St) : Option (Int32 × rp_St) :=
  rp_nm (rp_put σ 57 1 (if 50 < v2 then 50 else v2)) (fun σ1 => rp_gu ((!decide (0 < 0) && !decide (0 < 0) && !decide ((σ1 57 1) < 0) && decide ((0 : Int32).toNatClampNeg + ((σ1 57 1) : Int32).toNatClampNeg ≤ 50) && decide ((0 : Int32).toNatClampNeg + ((σ1 57 1) : Int32).toNatClampNeg ≤ 50)) && (List.range 50).all (fun i => (σ1 j1 i).toInt8.toInt32 == σ1 j1 i)) (rp_nm (rp_row σ1 61 (va_cpy (σ1 j1) (σ1 61) (0 : Int32).toNatClampNeg (0 : Int32).toNatClampNeg ((σ1 57 1) : Int32).toNatClampNeg)) (fun σ2 => rp_nm (rp_put σ2 57 2 v3) (fun σ3 => rp_nm (rp_put σ3 57 3 0) (fun σ4 => rp_nm (rp_put σ4 57 4 0) (fun σ5 => rp_bd ((fX3_grp 80).1 0 0 σ5) (fun r6 σ7 => (if r6 = 0 then some (0, σ7) else (if (σ7 57 3) = (σ7 57 1) then some (1, σ7) else some (0, σ7))))))))))
set_option maxRecDepth 100000 in
set_option maxHeartbeats 4000000 in
theorem kX3_reads_0 {p : Program} {l : Launch} {e : Env} {s : State} {m : MethodId} {args : Array Value} {below : List Frame} {meth : Method} {c : Code} {D : va_G} {cI cB cS : ClassId} {a : Nat → Nat} {res : Int32 × rp_St} (j1 : Nat) (h_j1 : j1 < 62) (t_j1 : ∀ f, xt cI cB cS a j1 f = .inl (cB, 50, .inl f)) (hC : xC p s m args meth c cX3_reads 4 "RegretPegs$Reader" (some .boolean) D cI cB cS a) (v2 : Int32) (v3 : Int32) (σ : rp_St) (H : Heap) (locs : List Loc) (ls : Array Slot) (hF : fX3_reads j1 v2 v3 σ = some res) (hw : xW D cI cB cS a s σ H locs) (hl : lv_has ls 4 [(0, .ref (a 57)), (1, .ref (a j1)), (2, .int v2), (3, .int v3)]) : W p l e (rp_rm 83) s m args below meth c H locs 0 0 (MQ below (rp_Qi D a (xt cI cB cS a) 62 res) args s 0 0 (rp_A a 62)) (F0 m 0 ls []) := by
  have hx := hC.1
  have hb := hC.2.1
  have hown := hC.2.2.2.1
  have hts := hC.2.2.2.2.1
  unfold fX3_reads at hF
  refine lv_aload_n (pc := 0) hx hb dX3_reads_0 rfl (lv_at hl 0 rfl) ?_
  refine lv_iload_n (pc := 1) hx hb dX3_reads_1 rfl (lv_at hl 2 rfl) ?_
  refine lv_bipush (pc := 2) (v := 50) hx hb dX3_reads_2 (by decide) ?_
  refine rp_min (pc := 4) hC hl.1 wd_313 wd_314 wd_9 wd_315 (Nat.le_of_ble_eq_true rfl) (by omega) dX3_reads_4 ?_
  refine rp_set (pc := 7) (fs := xb_reader a) hC hw 57 (by decide) xt_reader fg_X3_15 rfl (Nat.le_of_ble_eq_true rfl) rfl rfl dX3_reads_7 (fun H locs hw => ?_)
  obtain ⟨σ1, eσ1, hF⟩ := rp_nm_e hF
  replace hw := rp_Wn eσ1 hw
  clear eσ1
  refine lv_aload_n (pc := 10) hx hb dX3_reads_10 rfl (lv_at hl 1 rfl) ?_
  refine lv_iconst (pc := 11) (v := 0) hx hb dX3_reads_11 (by decide) ?_
  refine lv_aload_n (pc := 12) hx hb dX3_reads_12 rfl (lv_at hl 0 rfl) ?_
  refine rp_get (pc := 13) hC hw 57 (by decide) (xt_reader _) fl_X3_9 (.ref (a 61)) rfl dX3_reads_13 ?_
  refine lv_iconst (pc := 16) (v := 0) hx hb dX3_reads_16 (by decide) ?_
  refine lv_aload_n (pc := 17) hx hb dX3_reads_17 rfl (lv_at hl 0 rfl) ?_
  refine rp_get (pc := 18) hC hw 57 (by decide) (xt_reader _) fl_X3_15 (.int (σ1 57 1)) rfl dX3_reads_18 ?_
  obtain ⟨hg, hF⟩ := rp_gu_e hF
  refine rp_cpyb (pc := 21) hC hw hl.1 j1 61 h_j1 (by decide) t_j1 xt_rbytes 1 rfl wd_316 wd_318 wd_317 wd_10 hg rfl (by show 1 ≤ 83; omega) (Nat.le_trans (Nat.le_of_ble_eq_true rfl : _ ≤ 60) (by show 60 ≤ 60 * 83; omega)) dX3_reads_21 (fun H locs hw => ?_)
  obtain ⟨σ2, eσ2, hF⟩ := rp_nm_e hF
  replace hw := rp_Wn eσ2 hw
  clear eσ2
  refine lv_aload_n (pc := 24) hx hb dX3_reads_24 rfl (lv_at hl 0 rfl) ?_
  refine lv_iload_n (pc := 25) hx hb dX3_reads_25 rfl (lv_at hl 3 rfl) ?_
  refine rp_set (pc := 26) (fs := xb_reader a) hC hw 57 (by decide) xt_reader fg_X3_19 rfl (Nat.le_of_ble_eq_true rfl) rfl rfl dX3_reads_26 (fun H locs hw => ?_)
  obtain ⟨σ3, eσ3, hF⟩ := rp_nm_e hF
  replace hw := rp_Wn eσ3 hw
  clear eσ3
  refine lv_aload_n (pc := 29) hx hb dX3_reads_29 rfl (lv_at hl 0 rfl) ?_
  refine lv_iconst (pc := 30) (v := 0) hx hb dX3_reads_30 (by decide) ?_
  refine rp_set (pc := 31) (fs := xb_reader a) hC hw 57 (by decide) xt_reader fg_X3_22 rfl (Nat.le_of_ble_eq_true rfl) rfl rfl dX3_reads_31 (fun H locs hw => ?_)
  obtain ⟨σ4, eσ4, hF⟩ := rp_nm_e hF
  replace hw := rp_Wn eσ4 hw
  clear eσ4
  refine lv_aload_n (pc := 34) hx hb dX3_reads_34 rfl (lv_at hl 0 rfl) ?_
  refine lv_iconst (pc := 35) (v := 0) hx hb dX3_reads_35 (by decide) ?_
  refine rp_set (pc := 36) (fs := xb_reader a) hC hw 57 (by decide) xt_reader fg_X3_25 rfl (Nat.le_of_ble_eq_true rfl) rfl rfl dX3_reads_36 (fun H locs hw => ?_)
  obtain ⟨σ5, eσ5, hF⟩ := rp_nm_e hF
  replace hw := rp_Wn eσ5 hw
  clear eσ5
  refine lv_aload_n (pc := 39) hx hb dX3_reads_39 rfl (lv_at hl 0 rfl) ?_
  refine lv_iconst (pc := 40) (v := 0) hx hb dX3_reads_40 (by decide) ?_
  refine lv_iconst (pc := 41) (v := 0) hx hb dX3_reads_41 (by decide) ?_
  obtain ⟨r6, σ7, hq, hF⟩ := rp_bd_e hF
  refine rp_ki (rp_runV (rest := []) hC (xE_ok _) hw hl.1 ((mX3_grp 80 (l := l) (D := D)).1 0 0 σ5 _ hq) vw_X3_44 (by decide) (xt_reader _) rfl rfl rfl (Nat.le_of_ble_eq_true rfl) (by decide) dX3_reads_42) hw (fun H locs hw => ?_)
  clear hq
  refine lv_if_eq (pc := 45) (tgt := 63) hx hb dX3_reads_45 (by decide) (fun hc => ?_) (fun hc => ?_)
  · replace hF := rp_it hc hF
    refine lv_iconst (pc := 63) (v := 0) hx hb dX3_reads_63 (by decide) ?_
    exact rp_retz (pc := 64) hC hw rfl hF dX3_reads_64
  · replace hF := rp_if hc hF
    refine lv_aload_n (pc := 48) hx hb dX3_reads_48 rfl (lv_at hl 0 rfl) ?_
    refine rp_get (pc := 49) hC hw 57 (by decide) (xt_reader _) fl_X3_22 (.int (σ7 57 3)) rfl dX3_reads_49 ?_
    refine lv_aload_n (pc := 52) hx hb dX3_reads_52 rfl (lv_at hl 0 rfl) ?_
    refine rp_get (pc := 53) hC hw 57 (by decide) (xt_reader _) fl_X3_15 (.int (σ7 57 1)) rfl dX3_reads_53 ?_
    refine lv_icmp_ne (pc := 56) (tgt := 63) hx hb dX3_reads_56 (by decide) (fun hc => ?_) (fun hc => ?_)
    · replace hF := rp_if hc hF
      refine lv_iconst (pc := 63) (v := 0) hx hb dX3_reads_63 (by decide) ?_
      exact rp_retz (pc := 64) hC hw rfl hF dX3_reads_64
    · replace hF := rp_it hc hF
      refine lv_iconst (pc := 59) (v := 1) hx hb dX3_reads_59 (by decide) ?_
      refine lv_goto (pc := 60) (tgt := 64) hx hb dX3_reads_60 (by decide) ?_
      exact rp_retz (pc := 64) hC hw rfl hF dX3_reads_64
theorem mX3_reads {l : Launch} {D : va_G} {cI cB cS : ClassId} {a : Nat → Nat} (j1 : Nat) (h_j1 : j1 < 62) (t_j1 : ∀ f, xt cI cB cS a j1 f = .inl (cB, 50, .inl f)) (v2 : Int32) (v3 : Int32) (σ : rp_St) (res : Int32 × rp_St) (hF : fX3_reads j1 v2 v3 σ = some res) : xM l D cI cB cS a yX3_reads cX3_reads 4 (some .boolean) 83 [.ref (a 57), .ref (a j1), .int v2, .int v3] σ (rp_Qi D a (xt cI cB cS a) 62 res) :=
  rp_entry (by decide) (Nat.le_of_ble_eq_true rfl) (fun p e s m below meth c ls hC hw hl => kX3_reads_0 j1 h_j1 t_j1 hC v2 v3 σ _ _ _ hF hw (lv_sub hl [0, 1, 2, 3] rfl))
def fX6_useLaw (v1 : Int32) (σ : rp_St) : Option (Nat × rp_St) :=
  (if v1 = 0 then some (0, σ) else some (1, σ))
set_option maxRecDepth 100000 in
set_option maxHeartbeats 4000000 in
theorem kX6_useLaw_0 {p : Program} {l : Launch} {e : Env} {s : State} {m : MethodId} {args : Array Value} {below : List Frame} {meth : Method} {c : Code} {D : va_G} {cI cB cS : ClassId} {a : Nat → Nat} {res : Nat × rp_St} (hC : xC p s m args meth c cX6_useLaw 2 "RegretPegs" (some (.object "RegretPegs$Law")) D cI cB cS a) (v1 : Int32) (σ : rp_St) (H : Heap) (locs : List Loc) (ls : Array Slot) (hF : fX6_useLaw v1 σ = some res) (hw : xW D cI cB cS a s σ H locs) (hl : lv_has ls 2 [(0, .ref (a 54)), (1, .int v1)]) : W p l e (rp_rm 1) s m args below meth c H locs 0 0 (MQ below (rp_Qr D a (xt cI cB cS a) 62 res) args s 0 0 (rp_A a 62)) (F0 m 0 ls []) := by
  have hx := hC.1
  have hb := hC.2.1
  have hown := hC.2.2.2.1
  have hts := hC.2.2.2.2.1
  unfold fX6_useLaw at hF
  refine lv_iload_n (pc := 0) hx hb dX6_useLaw_0 rfl (lv_at hl 1 rfl) ?_
  refine lv_if_ne (pc := 1) (tgt := 14) hx hb dX6_useLaw_1 (by decide) (fun hc => ?_) (fun hc => ?_)
  · replace hF := rp_if hc hF
    refine lv_aload_n (pc := 14) hx hb dX6_useLaw_14 rfl (lv_at hl 0 rfl) ?_
    refine rp_get (pc := 15) hC hw 54 (by decide) (xt_reg _) fl_X6_10 (.ref (a 40)) rfl dX6_useLaw_15 ?_
    refine rp_get (pc := 18) hC hw 40 (by decide) ((xt_eve (i := 0) (by decide)) _) fl_X6_165 (.ref (a 31)) rfl dX6_useLaw_18 ?_
    exact rp_reta (pc := 21) hC hw hF dX6_useLaw_21
  · replace hF := rp_it hc hF
    refine lv_aload_n (pc := 4) hx hb dX6_useLaw_4 rfl (lv_at hl 0 rfl) ?_
    refine rp_get (pc := 5) hC hw 54 (by decide) (xt_reg _) fl_X6_10 (.ref (a 40)) rfl dX6_useLaw_5 ?_
    refine rp_get (pc := 8) hC hw 40 (by decide) ((xt_eve (i := 0) (by decide)) _) fl_X6_154 (.ref (a 28)) rfl dX6_useLaw_8 ?_
    refine lv_goto (pc := 11) (tgt := 21) hx hb dX6_useLaw_11 (by decide) ?_
    exact rp_reta (pc := 21) hC hw hF dX6_useLaw_21
theorem mX6_useLaw {l : Launch} {D : va_G} {cI cB cS : ClassId} {a : Nat → Nat} (v1 : Int32) (σ : rp_St) (res : Nat × rp_St) (hF : fX6_useLaw v1 σ = some res) : xM l D cI cB cS a yX6_useLaw cX6_useLaw 2 (some (.object "RegretPegs$Law")) 1 [.ref (a 54), .int v1] σ (rp_Qr D a (xt cI cB cS a) 62 res) :=
  rp_entry (by decide) (Nat.le_of_ble_eq_true rfl) (fun p e s m below meth c ls hC hw hl => kX6_useLaw_0 hC v1 σ _ _ _ hF hw (lv_sub hl [0, 1] rfl))
def fX2_takeCode (g0 : Nat) (j1 : Nat) (v2 : Int32) (σ : rp_St) : Option (Int32 × rp_St) :=
  rp_gu (!decide (0 < 0) && !decide (0 < 0) && !decide (50 < 0) && decide ((0 : Int32).toNatClampNeg + (50 : Int32).toNatClampNeg ≤ 50) && decide ((0 : Int32).toNatClampNeg + (50 : Int32).toNatClampNeg ≤ 50)) (rp_nm (rp_row σ (28 + 3 * g0 + 1) (va_cpy (σ j1) (σ (28 + 3 * g0 + 1)) (0 : Int32).toNatClampNeg (0 : Int32).toNatClampNeg (50 : Int32).toNatClampNeg)) (fun σ1 => rp_nm (rp_put σ1 (28 + 3 * g0) 1 (if 50 < v2 then 50 else v2)) (fun σ2 => some (0, σ2))))
set_option maxRecDepth 100000 in
set_option maxHeartbeats 4000000 in
theorem kX2_takeCode_0 {p : Program} {l : Launch} {e : Env} {s : State} {m : MethodId} {args : Array Value} {below : List Frame} {meth : Method} {c : Code} {D : va_G} {cI cB cS : ClassId} {a : Nat → Nat} {res : Int32 × rp_St} (g0 : Nat) (h_g0 : g0 < 4) (j1 : Nat) (h_j1 : j1 < 62) (t_j1 : ∀ f, xt cI cB cS a j1 f = .inl (cI, 50, .inl f)) (hC : xC p s m args meth c cX2_takeCode 3 "RegretPegs$Law" none D cI cB cS a) (v2 : Int32) (σ : rp_St) (H : Heap) (locs : List Loc) (ls : Array Slot) (hF : fX2_takeCode g0 j1 v2 σ = some res) (hw : xW D cI cB cS a s σ H locs) (hl : lv_has ls 3 [(0, .ref (a (28 + 3 * g0))), (1, .ref (a j1)), (2, .int v2)]) : W p l e (rp_rm 1) s m args below meth c H locs 0 0 (MQ below (rp_Qv D a (xt cI cB cS a) 62 res) args s 0 0 (rp_A a 62)) (F0 m 0 ls []) := by
  have hx := hC.1
  have hb := hC.2.1
  have hown := hC.2.2.2.1
  have hts := hC.2.2.2.2.1
  unfold fX2_takeCode at hF
  refine lv_aload_n (pc := 0) hx hb dX2_takeCode_0 rfl (lv_at hl 1 rfl) ?_
  refine lv_iconst (pc := 1) (v := 0) hx hb dX2_takeCode_1 (by decide) ?_
  refine lv_aload_n (pc := 2) hx hb dX2_takeCode_2 rfl (lv_at hl 0 rfl) ?_
  refine rp_get (pc := 3) hC hw (28 + 3 * g0) (by omega) ((xt_law (i := g0) (by omega)) _) fl_X2_15 (.ref (a (28 + 3 * g0 + 1))) rfl dX2_takeCode_3 ?_
  refine lv_iconst (pc := 6) (v := 0) hx hb dX2_takeCode_6 (by decide) ?_
  refine lv_bipush (pc := 7) (v := 50) hx hb dX2_takeCode_7 (by decide) ?_
  obtain ⟨hg, hF⟩ := rp_gu_e hF
  refine rp_cpyi (pc := 9) hC hw hl.1 j1 (28 + 3 * g0 + 1) h_j1 (by omega) t_j1 (xt_lar (i := g0) (by omega) 1 ⟨by decide, by decide⟩) 0 rfl wd_365 wd_318 wd_317 wd_10 hg (by show 1 ≤ 1; omega) (Nat.le_trans (Nat.le_of_ble_eq_true rfl : _ ≤ 60) (by show 60 ≤ 60 * 1; omega)) dX2_takeCode_9 (fun H locs hw => ?_)
  obtain ⟨σ1, eσ1, hF⟩ := rp_nm_e hF
  replace hw := rp_Wn eσ1 hw
  clear eσ1
  refine lv_aload_n (pc := 12) hx hb dX2_takeCode_12 rfl (lv_at hl 0 rfl) ?_
  refine lv_iload_n (pc := 13) hx hb dX2_takeCode_13 rfl (lv_at hl 2 rfl) ?_
  refine lv_bipush (pc := 14) (v := 50) hx hb dX2_takeCode_14 (by decide) ?_
  refine rp_min (pc := 16) hC hl.1 wd_366 wd_314 wd_9 wd_315 (Nat.le_of_ble_eq_true rfl) (by omega) dX2_takeCode_16 ?_
  refine rp_set (pc := 19) (fs := xb_law a (28 + 3 * g0)) hC hw (28 + 3 * g0) (by omega) (xt_law (i := g0) (by omega)) fg_X2_9 rfl (Nat.le_of_ble_eq_true rfl) rfl rfl dX2_takeCode_19 (fun H locs hw => ?_)
  obtain ⟨σ2, eσ2, hF⟩ := rp_nm_e hF
  replace hw := rp_Wn eσ2 hw
  clear eσ2
  exact rp_retv (pc := 22) hC hw hF dX2_takeCode_22
theorem mX2_takeCode {l : Launch} {D : va_G} {cI cB cS : ClassId} {a : Nat → Nat} (g0 : Nat) (h_g0 : g0 < 4) (j1 : Nat) (h_j1 : j1 < 62) (t_j1 : ∀ f, xt cI cB cS a j1 f = .inl (cI, 50, .inl f)) (v2 : Int32) (σ : rp_St) (res : Int32 × rp_St) (hF : fX2_takeCode g0 j1 v2 σ = some res) : xM l D cI cB cS a yX2_takeCode cX2_takeCode 3 none 1 [.ref (a (28 + 3 * g0)), .ref (a j1), .int v2] σ (rp_Qv D a (xt cI cB cS a) 62 res) :=
  rp_entry (by decide) (Nat.le_of_ble_eq_true rfl) (fun p e s m below meth c ls hC hw hl => kX2_takeCode_0 g0 h_g0 j1 h_j1 t_j1 hC v2 σ _ _ _ hF hw (lv_sub hl [0, 1, 2] rfl))
def fX6_text (v1 : Int32) (σ : rp_St) : Option (Int32 × rp_St) :=
  rp_bd (fX6_isWithin v1 0 1 σ) (fun r1 σ2 => (if r1 = 0 then rp_bd (fX6_refuse 1 σ2) (fun r10 σ11 => some (r10, σ11)) else rp_bd (fX3_reads 41 (σ2 40 4) v1 σ2) (fun r3 σ4 => rp_nm (rp_put σ4 40 4 0) (fun σ5 => (if r3 = 0 then some (((-10) - (σ5 57 3)), σ5) else rp_bd (fX6_useLaw v1 σ5) (fun r6 σ7 => rp_gu (decide (r6 < 4)) (rp_bd (fX2_takeCode r6 58 (σ7 57 4) σ7) (fun _ σ9 => some (1, σ9)))))))))
set_option maxRecDepth 100000 in
set_option maxHeartbeats 4000000 in
theorem kX6_text_0 {p : Program} {l : Launch} {e : Env} {s : State} {m : MethodId} {args : Array Value} {below : List Frame} {meth : Method} {c : Code} {D : va_G} {cI cB cS : ClassId} {a : Nat → Nat} {res : Int32 × rp_St} (hC : xC p s m args meth c cX6_text 3 "RegretPegs" (some .int) D cI cB cS a) (v1 : Int32) (σ : rp_St) (H : Heap) (locs : List Loc) (ls : Array Slot) (hF : fX6_text v1 σ = some res) (hw : xW D cI cB cS a s σ H locs) (hl : lv_has ls 3 [(0, .ref (a 54)), (1, .int v1)]) : W p l e (rp_rm 84) s m args below meth c H locs 0 0 (MQ below (rp_Qi D a (xt cI cB cS a) 62 res) args s 0 0 (rp_A a 62)) (F0 m 0 ls []) := by
  have hx := hC.1
  have hb := hC.2.1
  have hown := hC.2.2.2.1
  have hts := hC.2.2.2.2.1
  unfold fX6_text at hF
  refine lv_iload_n (pc := 0) hx hb dX6_text_0 rfl (lv_at hl 1 rfl) ?_
  refine lv_iconst (pc := 1) (v := 0) hx hb dX6_text_1 (by decide) ?_
  refine lv_iconst (pc := 2) (v := 1) hx hb dX6_text_2 (by decide) ?_
  obtain ⟨r1, σ2, hq, hF⟩ := rp_bd_e hF
  refine rp_ki (rp_runZ (rest := []) hC (xE_ok _) hw hl.1 (mX6_isWithin (l := l) v1 0 1 σ _ hq) zw_X6_62 rfl rfl (Nat.le_of_ble_eq_true rfl) (by decide) dX6_text_3) hw (fun H locs hw => ?_)
  clear hq
  refine lv_if_ne (pc := 6) (tgt := 15) hx hb dX6_text_6 (by decide) (fun hc => ?_) (fun hc => ?_)
  · replace hF := rp_if hc hF
    refine lv_aload_n (pc := 15) hx hb dX6_text_15 rfl (lv_at hl 0 rfl) ?_
    refine rp_get (pc := 16) hC hw 54 (by decide) (xt_reg _) fl_X6_36 (.ref (a 57)) rfl dX6_text_16 ?_
    refine lv_aload_n (pc := 19) hx hb dX6_text_19 rfl (lv_at hl 0 rfl) ?_
    refine rp_get (pc := 20) hC hw 54 (by decide) (xt_reg _) fl_X6_10 (.ref (a 40)) rfl dX6_text_20 ?_
    refine rp_get (pc := 23) hC hw 40 (by decide) ((xt_eve (i := 0) (by decide)) _) fl_X6_125 (.ref (a 41)) rfl dX6_text_23 ?_
    refine lv_aload_n (pc := 26) hx hb dX6_text_26 rfl (lv_at hl 0 rfl) ?_
    refine rp_get (pc := 27) hC hw 54 (by decide) (xt_reg _) fl_X6_10 (.ref (a 40)) rfl dX6_text_27 ?_
    refine rp_get (pc := 30) hC hw 40 (by decide) ((xt_eve (i := 0) (by decide)) _) fl_X6_122 (.int (σ2 40 4)) rfl dX6_text_30 ?_
    refine lv_iload_n (pc := 33) hx hb dX6_text_33 rfl (lv_at hl 1 rfl) ?_
    obtain ⟨r3, σ4, hq, hF⟩ := rp_bd_e hF
    refine rp_ki (rp_runV (rest := []) hC (xE_ok _) hw hl.1 (mX3_reads (l := l) 41 (by decide) (xt_tape (i := 0) (by decide)) (σ2 40 4) v1 σ2 _ hq) vw_X6_129 (by decide) (xt_reader _) rfl rfl rfl (Nat.le_of_ble_eq_true rfl) (by decide) dX6_text_34) hw (fun H locs hw => ?_)
    clear hq
    refine lv_istore_n (pc := 37) (lv' := [(2, .int r3), (0, .ref (a 54)), (1, .int v1)]) hx hb dX6_text_37 rfl hl (by decide) rfl (fun ls hl => ?_)
    refine lv_aload_n (pc := 38) hx hb dX6_text_38 rfl (lv_at hl 1 rfl) ?_
    refine rp_get (pc := 39) hC hw 54 (by decide) (xt_reg _) fl_X6_10 (.ref (a 40)) rfl dX6_text_39 ?_
    refine lv_iconst (pc := 42) (v := 0) hx hb dX6_text_42 (by decide) ?_
    refine rp_set (pc := 43) (fs := xb_eve a 0) hC hw 40 (by decide) (xt_eve (i := 0) (by decide)) fg_X6_122 rfl (Nat.le_of_ble_eq_true rfl) rfl rfl dX6_text_43 (fun H locs hw => ?_)
    obtain ⟨σ5, eσ5, hF⟩ := rp_nm_e hF
    replace hw := rp_Wn eσ5 hw
    clear eσ5
    refine lv_iload_n (pc := 46) hx hb dX6_text_46 rfl (lv_at hl 0 rfl) ?_
    refine lv_if_ne (pc := 47) (tgt := 61) hx hb dX6_text_47 (by decide) (fun hc => ?_) (fun hc => ?_)
    · replace hF := rp_if hc hF
      refine lv_aload_n (pc := 61) hx hb dX6_text_61 rfl (lv_at hl 1 rfl) ?_
      refine lv_iload_n (pc := 62) hx hb dX6_text_62 rfl (lv_at hl 2 rfl) ?_
      obtain ⟨r6, σ7, hq, hF⟩ := rp_bd_e hF
      refine rp_kr (rp_runV (rest := []) hC (xE_ok _) hw hl.1 (mX6_useLaw (l := l) v1 σ5 _ hq) vw_X6_136 (by decide) (xt_reg _) rfl rfl rfl (Nat.le_of_ble_eq_true rfl) (by decide) dX6_text_63) hw (fun H locs hw => ?_)
      clear hq
      obtain ⟨hg, hF⟩ := rp_gu_e hF
      have h_r6 := of_decide_eq_true hg
      refine lv_aload_n (pc := 66) hx hb dX6_text_66 rfl (lv_at hl 1 rfl) ?_
      refine rp_get (pc := 67) hC hw 54 (by decide) (xt_reg _) fl_X6_36 (.ref (a 57)) rfl dX6_text_67 ?_
      refine rp_get (pc := 70) hC hw 57 (by decide) (xt_reader _) fl_X6_140 (.ref (a 58)) rfl dX6_text_70 ?_
      refine lv_aload_n (pc := 73) hx hb dX6_text_73 rfl (lv_at hl 1 rfl) ?_
      refine rp_get (pc := 74) hC hw 54 (by decide) (xt_reg _) fl_X6_36 (.ref (a 57)) rfl dX6_text_74 ?_
      refine rp_get (pc := 77) hC hw 57 (by decide) (xt_reader _) fl_X6_143 (.int (σ7 57 4)) rfl dX6_text_77 ?_
      obtain ⟨r8, σ9, hq, hF⟩ := rp_bd_e hF
      refine rp_kv (rp_runV (rest := []) hC (xE_ok _) hw hl.1 (mX2_takeCode (l := l) r6 (by omega) 58 (by decide) xt_rcode (σ7 57 4) σ7 _ hq) vw_X6_144 (by omega) ((xt_law (i := r6) (by omega)) _) rfl rfl rfl (Nat.le_of_ble_eq_true rfl) (by decide) dX6_text_80) hw (fun H locs hw => ?_)
      clear hq
      refine lv_iconst (pc := 83) (v := 1) hx hb dX6_text_83 (by decide) ?_
      exact rp_reti (pc := 84) hC hw hF dX6_text_84
    · replace hF := rp_it hc hF
      refine lv_bipush (pc := 50) (v := (-10)) hx hb dX6_text_50 (by decide) ?_
      refine lv_aload_n (pc := 52) hx hb dX6_text_52 rfl (lv_at hl 1 rfl) ?_
      refine rp_get (pc := 53) hC hw 54 (by decide) (xt_reg _) fl_X6_36 (.ref (a 57)) rfl dX6_text_53 ?_
      refine rp_get (pc := 56) hC hw 57 (by decide) (xt_reader _) fl_X6_133 (.int (σ5 57 3)) rfl dX6_text_56 ?_
      refine lv_isub (pc := 59) hx hb dX6_text_59 ?_
      exact rp_reti (pc := 60) hC hw hF dX6_text_60
  · replace hF := rp_it hc hF
    refine lv_aload_n (pc := 9) hx hb dX6_text_9 rfl (lv_at hl 0 rfl) ?_
    refine lv_iconst (pc := 10) (v := 1) hx hb dX6_text_10 (by decide) ?_
    obtain ⟨r10, σ11, hq, hF⟩ := rp_bd_e hF
    refine rp_ki (rp_runV (rest := []) hC (xE_ok _) hw hl.1 (mX6_refuse (l := l) 1 σ2 _ hq) vw_X6_66 (by decide) (xt_reg _) rfl rfl rfl (Nat.le_of_ble_eq_true rfl) (by decide) dX6_text_11) hw (fun H locs hw => ?_)
    clear hq
    exact rp_reti (pc := 14) hC hw hF dX6_text_14
theorem mX6_text {l : Launch} {D : va_G} {cI cB cS : ClassId} {a : Nat → Nat} (v1 : Int32) (σ : rp_St) (res : Int32 × rp_St) (hF : fX6_text v1 σ = some res) : xM l D cI cB cS a yX6_text cX6_text 3 (some .int) 84 [.ref (a 54), .int v1] σ (rp_Qi D a (xt cI cB cS a) 62 res) :=
  rp_entry (by decide) (Nat.le_of_ble_eq_true rfl) (fun p e s m below meth c ls hC hw hl => kX6_text_0 hC v1 σ _ _ _ hF hw (lv_sub hl [0, 1] rfl))
def fX2_valueOf (v0 : Int32) (v1 : Int32) (v2 : Int32) (v3 : Int32) (σ : rp_St) : Option (Int32 × rp_St) :=
  (if v0 = (-3) then some (v3, σ) else (if v0 = (-2) then some (v2, σ) else (if v0 = (-1) then some (v1, σ) else some (v0, σ))))
set_option maxRecDepth 100000 in
set_option maxHeartbeats 4000000 in
theorem kX2_valueOf_0 {p : Program} {l : Launch} {e : Env} {s : State} {m : MethodId} {args : Array Value} {below : List Frame} {meth : Method} {c : Code} {D : va_G} {cI cB cS : ClassId} {a : Nat → Nat} {res : Int32 × rp_St} (hC : xC p s m args meth c cX2_valueOf 4 "RegretPegs$Law" (some .int) D cI cB cS a) (v0 : Int32) (v1 : Int32) (v2 : Int32) (v3 : Int32) (σ : rp_St) (H : Heap) (locs : List Loc) (ls : Array Slot) (hF : fX2_valueOf v0 v1 v2 v3 σ = some res) (hw : xW D cI cB cS a s σ H locs) (hl : lv_has ls 4 [(0, .int v0), (1, .int v1), (2, .int v2), (3, .int v3)]) : W p l e (rp_rm 1) s m args below meth c H locs 0 0 (MQ below (rp_Qi D a (xt cI cB cS a) 62 res) args s 0 0 (rp_A a 62)) (F0 m 0 ls []) := by
  have hx := hC.1
  have hb := hC.2.1
  have hown := hC.2.2.2.1
  have hts := hC.2.2.2.2.1
  unfold fX2_valueOf at hF
  refine lv_iload_n (pc := 0) hx hb dX2_valueOf_0 rfl (lv_at hl 0 rfl) ?_
  by_cases hs1_0 : v0 = (-3)
  · replace hF := rp_it hs1_0 hF
    refine lv_tableIn (pc := 1) (off := 31) (tgt := 32) hx hb dX2_valueOf_1 (by rw [hs1_0]; decide) (by rw [hs1_0]; decide) (by rw [hs1_0]; decide +kernel) (by decide) ?_
    refine lv_iload_n (pc := 32) hx hb dX2_valueOf_32 rfl (lv_at hl 3 rfl) ?_
    exact rp_reti (pc := 33) hC hw hF dX2_valueOf_33
  replace hF := rp_if hs1_0 hF
  by_cases hs1_1 : v0 = (-2)
  · replace hF := rp_it hs1_1 hF
    refine lv_tableIn (pc := 1) (off := 29) (tgt := 30) hx hb dX2_valueOf_1 (by rw [hs1_1]; decide) (by rw [hs1_1]; decide) (by rw [hs1_1]; decide +kernel) (by decide) ?_
    refine lv_iload_n (pc := 30) hx hb dX2_valueOf_30 rfl (lv_at hl 2 rfl) ?_
    exact rp_reti (pc := 31) hC hw hF dX2_valueOf_31
  replace hF := rp_if hs1_1 hF
  by_cases hs1_2 : v0 = (-1)
  · replace hF := rp_it hs1_2 hF
    refine lv_tableIn (pc := 1) (off := 27) (tgt := 28) hx hb dX2_valueOf_1 (by rw [hs1_2]; decide) (by rw [hs1_2]; decide) (by rw [hs1_2]; decide +kernel) (by decide) ?_
    refine lv_iload_n (pc := 28) hx hb dX2_valueOf_28 rfl (lv_at hl 1 rfl) ?_
    exact rp_reti (pc := 29) hC hw hF dX2_valueOf_29
  replace hF := rp_if hs1_2 hF
  refine lv_tableOut (pc := 1) (tgt := 34) hx hb dX2_valueOf_1 (by have := rp_ne (-3) (-3) (by decide) hs1_0; have := rp_ne (-2) (-2) (by decide) hs1_1; have := rp_ne (-1) (-1) (by decide) hs1_2; omega) (by decide) ?_
  refine lv_iload_n (pc := 34) hx hb dX2_valueOf_34 rfl (lv_at hl 0 rfl) ?_
  exact rp_reti (pc := 35) hC hw hF dX2_valueOf_35
theorem mX2_valueOf {l : Launch} {D : va_G} {cI cB cS : ClassId} {a : Nat → Nat} (v0 : Int32) (v1 : Int32) (v2 : Int32) (v3 : Int32) (σ : rp_St) (res : Int32 × rp_St) (hF : fX2_valueOf v0 v1 v2 v3 σ = some res) : xM l D cI cB cS a yX2_valueOf cX2_valueOf 4 (some .int) 1 [.int v0, .int v1, .int v2, .int v3] σ (rp_Qi D a (xt cI cB cS a) 62 res) :=
  rp_entry (by decide) (Nat.le_of_ble_eq_true rfl) (fun p e s m below meth c ls hC hw hl => kX2_valueOf_0 hC v0 v1 v2 v3 σ _ _ _ hF hw (lv_sub hl [0, 1, 2, 3] rfl))
