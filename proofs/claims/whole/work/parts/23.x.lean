def fX1_holdBall_55 (g0 : Nat) (σ : rp_St) : Option (Int32 × rp_St) :=
  rp_bd (fX0_passHours g0 (2 * g0 + 1) 1 σ) (fun _ σ2 => rp_nm (rp_put σ2 (40 + 3 * g0) 7 ((σ2 (40 + 3 * g0) 7) + 1)) (fun σ3 => some (0, σ3)))
set_option maxRecDepth 100000 in
set_option maxHeartbeats 4000000 in
theorem kX1_holdBall_55 {p : Program} {l : Launch} {e : Env} {s : State} {m : MethodId} {args : Array Value} {below : List Frame} {meth : Method} {c : Code} {D : va_G} {cI cB cS : ClassId} {a : Nat → Nat} {res : Int32 × rp_St} (g0 : Nat) (h_g0 : g0 < 2) (hC : xC p s m args meth c cX1_holdBall 3 "RegretPegs$Evening" none D cI cB cS a) (σ : rp_St) (H : Heap) (locs : List Loc) (ls : Array Slot) (hF : fX1_holdBall_55 g0 σ = some res) (hw : xW D cI cB cS a s σ H locs) (hl : lv_has ls 3 [(0, .ref (a (40 + 3 * g0)))]) : W p l e (rp_rm 6) s m args below meth c H locs 0 0 (MQ below (rp_Qv D a (xt cI cB cS a) 62 res) args s 0 0 (rp_A a 62)) (F0 m 55 ls []) := by
  have hx := hC.1
  have hb := hC.2.1
  have hown := hC.2.2.2.1
  have hts := hC.2.2.2.2.1
  unfold fX1_holdBall_55 at hF
  refine lv_aload_n (pc := 55) hx hb dX1_holdBall_55 rfl (lv_at hl 0 rfl) ?_
  refine rp_get (pc := 56) hC hw (40 + 3 * g0) (by omega) ((xt_eve (i := g0) (by omega)) _) fl_X1_12 (.ref (a (7 * g0))) rfl dX1_holdBall_56 ?_
  refine lv_iconst (pc := 59) (v := 1) hx hb dX1_holdBall_59 (by decide) ?_
  refine lv_aload_n (pc := 60) hx hb dX1_holdBall_60 rfl (lv_at hl 0 rfl) ?_
  refine rp_get (pc := 61) hC hw (40 + 3 * g0) (by omega) ((xt_eve (i := g0) (by omega)) _) fl_X1_27 (.ref (a (28 + 3 * (2 * g0 + 1)))) rfl dX1_holdBall_61 ?_
  obtain ⟨r1, σ2, hq, hF⟩ := rp_bd_e hF
  refine rp_kv (rp_runV (rest := []) hC (xE_ok _) hw hl.1 (mX0_passHours (l := l) g0 (by omega) (2 * g0 + 1) (by omega) 1 σ _ hq) vw_X1_80 (by omega) ((xt_ball (b := g0) (by omega)) _) rfl rfl rfl (Nat.le_of_ble_eq_true rfl) (by decide) dX1_holdBall_64) hw (fun H locs hw => ?_)
  clear hq
  refine lv_aload_n (pc := 67) hx hb dX1_holdBall_67 rfl (lv_at hl 0 rfl) ?_
  refine lv_dup (pc := 68) hx hb dX1_holdBall_68 rfl ?_
  refine rp_get (pc := 69) hC hw (40 + 3 * g0) (by omega) ((xt_eve (i := g0) (by omega)) _) fl_X1_45 (.int (σ2 (40 + 3 * g0) 7)) rfl dX1_holdBall_69 ?_
  refine lv_iconst (pc := 72) (v := 1) hx hb dX1_holdBall_72 (by decide) ?_
  refine lv_iadd (pc := 73) hx hb dX1_holdBall_73 ?_
  refine rp_set (pc := 74) (fs := xb_eve a g0) hC hw (40 + 3 * g0) (by omega) (xt_eve (i := g0) (by omega)) fg_X1_45 rfl (Nat.le_of_ble_eq_true rfl) rfl rfl dX1_holdBall_74 (fun H locs hw => ?_)
  obtain ⟨σ3, eσ3, hF⟩ := rp_nm_e hF
  replace hw := rp_Wn eσ3 hw
  clear eσ3
  exact rp_retv (pc := 77) hC hw hF dX1_holdBall_77
def fX1_holdBall (g0 : Nat) (σ : rp_St) : Option (Int32 × rp_St) :=
  (if (σ (7 * g0) 0) < 2 then fX1_holdBall_55 g0 σ else rp_bd (fX1_draw g0 σ) (fun r1 σ2 => rp_gu (rp_nz0 (σ2 (7 * g0) 0)) (rp_nm (r1 - r1 / (σ2 (7 * g0) 0) * (σ2 (7 * g0) 0)) (fun x3 => rp_bd (fX1_draw g0 σ2) (fun r4 σ5 => rp_gu (rp_nz0 (σ5 (7 * g0) 0)) (rp_nm (r4 - r4 / (σ5 (7 * g0) 0) * (σ5 (7 * g0) 0)) (fun x6 => (if x3 = x6 then fX1_holdBall_55 g0 σ5 else rp_bd (fX0_pairUp g0 (2 * g0) x3 x6 σ5) (fun _ σ8 => fX1_holdBall_55 g0 σ8)))))))))
set_option maxRecDepth 100000 in
set_option maxHeartbeats 4000000 in
theorem kX1_holdBall_0 {p : Program} {l : Launch} {e : Env} {s : State} {m : MethodId} {args : Array Value} {below : List Frame} {meth : Method} {c : Code} {D : va_G} {cI cB cS : ClassId} {a : Nat → Nat} {res : Int32 × rp_St} (g0 : Nat) (h_g0 : g0 < 2) (hC : xC p s m args meth c cX1_holdBall 3 "RegretPegs$Evening" none D cI cB cS a) (σ : rp_St) (H : Heap) (locs : List Loc) (ls : Array Slot) (hF : fX1_holdBall g0 σ = some res) (hw : xW D cI cB cS a s σ H locs) (hl : lv_has ls 3 [(0, .ref (a (40 + 3 * g0)))]) : W p l e (rp_rm 6) s m args below meth c H locs 0 0 (MQ below (rp_Qv D a (xt cI cB cS a) 62 res) args s 0 0 (rp_A a 62)) (F0 m 0 ls []) := by
  have hx := hC.1
  have hb := hC.2.1
  have hown := hC.2.2.2.1
  have hts := hC.2.2.2.2.1
  unfold fX1_holdBall at hF
  refine lv_aload_n (pc := 0) hx hb dX1_holdBall_0 rfl (lv_at hl 0 rfl) ?_
  refine rp_get (pc := 1) hC hw (40 + 3 * g0) (by omega) ((xt_eve (i := g0) (by omega)) _) fl_X1_12 (.ref (a (7 * g0))) rfl dX1_holdBall_1 ?_
  refine rp_get (pc := 4) hC hw (7 * g0) (by omega) ((xt_ball (b := g0) (by omega)) _) fl_X1_71 (.int (σ (7 * g0) 0)) rfl dX1_holdBall_4 ?_
  refine lv_iconst (pc := 7) (v := 2) hx hb dX1_holdBall_7 (by decide) ?_
  refine lv_icmp_lt (pc := 8) (tgt := 55) hx hb dX1_holdBall_8 (by decide) (fun hc => ?_) (fun hc => ?_)
  · replace hF := rp_it hc hF
    exact kX1_holdBall_55 g0 h_g0 hC σ _ _ _ hF hw (lv_sub hl [0] rfl)
  · replace hF := rp_if hc hF
    refine lv_aload_n (pc := 11) hx hb dX1_holdBall_11 rfl (lv_at hl 0 rfl) ?_
    obtain ⟨r1, σ2, hq, hF⟩ := rp_bd_e hF
    refine rp_ki (rp_runV (rest := []) hC (xE_ok _) hw hl.1 (mX1_draw (l := l) g0 (by omega) σ _ hq) vw_X1_72 (by omega) ((xt_eve (i := g0) (by omega)) _) rfl rfl rfl (Nat.le_of_ble_eq_true rfl) (by decide) dX1_holdBall_12) hw (fun H locs hw => ?_)
    clear hq
    refine lv_aload_n (pc := 15) hx hb dX1_holdBall_15 rfl (lv_at hl 0 rfl) ?_
    refine rp_get (pc := 16) hC hw (40 + 3 * g0) (by omega) ((xt_eve (i := g0) (by omega)) _) fl_X1_12 (.ref (a (7 * g0))) rfl dX1_holdBall_16 ?_
    refine rp_get (pc := 19) hC hw (7 * g0) (by omega) ((xt_ball (b := g0) (by omega)) _) fl_X1_71 (.int (σ2 (7 * g0) 0)) rfl dX1_holdBall_19 ?_
    obtain ⟨hg, hF⟩ := rp_gu_e hF
    refine lv_irem (pc := 22) hx hb dX1_holdBall_22 (rp_nz0_e hg) ?_
    obtain ⟨x3, ex3, hF⟩ := rp_nm_e hF
    refine rp_top ex3 ?_
    refine lv_istore_n (pc := 23) (lv' := [(1, .int x3), (0, .ref (a (40 + 3 * g0)))]) hx hb dX1_holdBall_23 rfl hl (by decide) rfl (fun ls hl => ?_)
    refine lv_aload_n (pc := 24) hx hb dX1_holdBall_24 rfl (lv_at hl 1 rfl) ?_
    obtain ⟨r4, σ5, hq, hF⟩ := rp_bd_e hF
    refine rp_ki (rp_runV (rest := []) hC (xE_ok _) hw hl.1 (mX1_draw (l := l) g0 (by omega) σ2 _ hq) vw_X1_72 (by omega) ((xt_eve (i := g0) (by omega)) _) rfl rfl rfl (Nat.le_of_ble_eq_true rfl) (by decide) dX1_holdBall_25) hw (fun H locs hw => ?_)
    clear hq
    refine lv_aload_n (pc := 28) hx hb dX1_holdBall_28 rfl (lv_at hl 1 rfl) ?_
    refine rp_get (pc := 29) hC hw (40 + 3 * g0) (by omega) ((xt_eve (i := g0) (by omega)) _) fl_X1_12 (.ref (a (7 * g0))) rfl dX1_holdBall_29 ?_
    refine rp_get (pc := 32) hC hw (7 * g0) (by omega) ((xt_ball (b := g0) (by omega)) _) fl_X1_71 (.int (σ5 (7 * g0) 0)) rfl dX1_holdBall_32 ?_
    obtain ⟨hg, hF⟩ := rp_gu_e hF
    refine lv_irem (pc := 35) hx hb dX1_holdBall_35 (rp_nz0_e hg) ?_
    obtain ⟨x6, ex6, hF⟩ := rp_nm_e hF
    refine rp_top ex6 ?_
    refine lv_istore_n (pc := 36) (lv' := [(2, .int x6), (1, .int x3), (0, .ref (a (40 + 3 * g0)))]) hx hb dX1_holdBall_36 rfl hl (by decide) rfl (fun ls hl => ?_)
    refine lv_iload_n (pc := 37) hx hb dX1_holdBall_37 rfl (lv_at hl 1 rfl) ?_
    refine lv_iload_n (pc := 38) hx hb dX1_holdBall_38 rfl (lv_at hl 0 rfl) ?_
    refine lv_icmp_eq (pc := 39) (tgt := 55) hx hb dX1_holdBall_39 (by decide) (fun hc => ?_) (fun hc => ?_)
    · replace hF := rp_it hc hF
      exact kX1_holdBall_55 g0 h_g0 hC σ5 _ _ _ hF hw (lv_sub hl [2] rfl)
    · replace hF := rp_if hc hF
      refine lv_aload_n (pc := 42) hx hb dX1_holdBall_42 rfl (lv_at hl 2 rfl) ?_
      refine rp_get (pc := 43) hC hw (40 + 3 * g0) (by omega) ((xt_eve (i := g0) (by omega)) _) fl_X1_12 (.ref (a (7 * g0))) rfl dX1_holdBall_43 ?_
      refine lv_iload_n (pc := 46) hx hb dX1_holdBall_46 rfl (lv_at hl 1 rfl) ?_
      refine lv_iload_n (pc := 47) hx hb dX1_holdBall_47 rfl (lv_at hl 0 rfl) ?_
      refine lv_aload_n (pc := 48) hx hb dX1_holdBall_48 rfl (lv_at hl 2 rfl) ?_
      refine rp_get (pc := 49) hC hw (40 + 3 * g0) (by omega) ((xt_eve (i := g0) (by omega)) _) fl_X1_23 (.ref (a (28 + 3 * (2 * g0)))) rfl dX1_holdBall_49 ?_
      obtain ⟨r7, σ8, hq, hF⟩ := rp_bd_e hF
      refine rp_kv (rp_runV (rest := []) hC (xE_ok _) hw hl.1 (mX0_pairUp (l := l) g0 (by omega) (2 * g0) (by omega) x3 x6 σ5 _ hq) vw_X1_76 (by omega) ((xt_ball (b := g0) (by omega)) _) rfl rfl rfl (Nat.le_of_ble_eq_true rfl) (by decide) dX1_holdBall_52) hw (fun H locs hw => ?_)
      clear hq
      exact kX1_holdBall_55 g0 h_g0 hC σ8 _ _ _ hF hw (lv_sub hl [2] rfl)
theorem mX1_holdBall {l : Launch} {D : va_G} {cI cB cS : ClassId} {a : Nat → Nat} (g0 : Nat) (h_g0 : g0 < 2)  (σ : rp_St) (res : Int32 × rp_St) (hF : fX1_holdBall g0 σ = some res) : xM l D cI cB cS a yX1_holdBall cX1_holdBall 3 none 6 [.ref (a (40 + 3 * g0))] σ (rp_Qv D a (xt cI cB cS a) 62 res) :=
  rp_entry (by decide) (Nat.le_of_ble_eq_true rfl) (fun p e s m below meth c ls hC hw hl => kX1_holdBall_0 g0 h_g0 hC σ _ _ _ hF hw (lv_sub hl [0] rfl))
def fX6_loose_39 (k39 : Int32 → Int32 → rp_St → Option (Int32 × rp_St)) (v1 : Int32) (v2 : Int32) (σ : rp_St) : Option (Int32 × rp_St) :=
  (if v1 ≤ v2 then rp_bd (fX0_rueTogether 0 σ) (fun r1 σ2 => some (r1, σ2)) else rp_bd (fX1_holdBall 0 σ) (fun _ σ4 => rp_nm (v2 + 1) (fun x5 => k39 v1 x5 σ4)))
set_option maxRecDepth 100000 in
set_option maxHeartbeats 4000000 in
theorem kX6_loose_39 {p : Program} {l : Launch} {e : Env} {s : State} {m : MethodId} {args : Array Value} {below : List Frame} {meth : Method} {c : Code} {D : va_G} {cI cB cS : ClassId} {a : Nat → Nat} {res : Int32 × rp_St} (hC : xC p s m args meth c cX6_loose 3 "RegretPegs" (some .int) D cI cB cS a) (k39 : Int32 → Int32 → rp_St → Option (Int32 × rp_St)) (hk39 : ∀ (v1 : Int32) (v2 : Int32) (σ : rp_St) (H : Heap) (locs : List Loc) (ls : Array Slot), k39 v1 v2 σ = some res → xW D cI cB cS a s σ H locs → lv_has ls 3 [(0, .ref (a 54)), (1, .int v1), (2, .int v2)] → W p l e (rp_rm 7) s m args below meth c H locs 0 0 (MQ below (rp_Qi D a (xt cI cB cS a) 62 res) args s 0 0 (rp_A a 62)) (F0 m 39 ls [])) (v1 : Int32) (v2 : Int32) (σ : rp_St) (H : Heap) (locs : List Loc) (ls : Array Slot) (hF : fX6_loose_39 k39 v1 v2 σ = some res) (hw : xW D cI cB cS a s σ H locs) (hl : lv_has ls 3 [(0, .ref (a 54)), (1, .int v1), (2, .int v2)]) : W p l e (rp_rm 7) s m args below meth c H locs 0 0 (MQ below (rp_Qi D a (xt cI cB cS a) 62 res) args s 0 0 (rp_A a 62)) (F0 m 39 ls []) := by
  have hx := hC.1
  have hb := hC.2.1
  have hown := hC.2.2.2.1
  have hts := hC.2.2.2.2.1
  unfold fX6_loose_39 at hF
  refine lv_iload_n (pc := 39) hx hb dX6_loose_39 rfl (lv_at hl 2 rfl) ?_
  refine lv_iload_n (pc := 40) hx hb dX6_loose_40 rfl (lv_at hl 1 rfl) ?_
  refine lv_icmp_ge (pc := 41) (tgt := 57) hx hb dX6_loose_41 (by decide) (fun hc => ?_) (fun hc => ?_)
  · replace hF := rp_it hc hF
    refine lv_aload_n (pc := 57) hx hb dX6_loose_57 rfl (lv_at hl 0 rfl) ?_
    refine rp_get (pc := 58) hC hw 54 (by decide) (xt_reg _) fl_X6_10 (.ref (a 40)) rfl dX6_loose_58 ?_
    refine rp_get (pc := 61) hC hw 40 (by decide) ((xt_eve (i := 0) (by decide)) _) fl_X6_70 (.ref (a 0)) rfl dX6_loose_61 ?_
    obtain ⟨r1, σ2, hq, hF⟩ := rp_bd_e hF
    refine rp_ki (rp_runV (rest := []) hC (xE_ok _) hw hl.1 (mX0_rueTogether (l := l) 0 (by decide) σ _ hq) vw_X6_172 (by decide) ((xt_ball (b := 0) (by decide)) _) rfl rfl rfl (Nat.le_of_ble_eq_true rfl) (by decide) dX6_loose_64) hw (fun H locs hw => ?_)
    clear hq
    exact rp_reti (pc := 67) hC hw hF dX6_loose_67
  · replace hF := rp_if hc hF
    refine lv_aload_n (pc := 44) hx hb dX6_loose_44 rfl (lv_at hl 0 rfl) ?_
    refine rp_get (pc := 45) hC hw 54 (by decide) (xt_reg _) fl_X6_10 (.ref (a 40)) rfl dX6_loose_45 ?_
    obtain ⟨r3, σ4, hq, hF⟩ := rp_bd_e hF
    refine rp_kv (rp_runV (rest := []) hC (xE_ok _) hw hl.1 (mX1_holdBall (l := l) 0 (by decide) σ _ hq) vw_X6_176 (by decide) ((xt_eve (i := 0) (by decide)) _) rfl rfl rfl (Nat.le_of_ble_eq_true rfl) (by decide) dX6_loose_48) hw (fun H locs hw => ?_)
    clear hq
    obtain ⟨x5, ex5, hF⟩ := rp_nm_e hF
    refine lv_iinc (pc := 51) (v := x5) (lv' := [(2, .int x5), (0, .ref (a 54)), (1, .int v1)]) hx hb dX6_loose_51 hl (k := 2) rfl (by rw [ex5]; rfl) (by decide) rfl (fun ls hl => ?_)
    refine lv_goto (pc := 54) (tgt := 39) hx hb dX6_loose_54 (by decide) ?_
    exact hk39 v1 x5 σ4 _ _ _ hF hw (lv_sub hl [1, 2, 0] rfl)
theorem lX6_loose_39 {p : Program} {l : Launch} {e : Env} {s : State} {m : MethodId} {args : Array Value} {below : List Frame} {meth : Method} {c : Code} {D : va_G} {cI cB cS : ClassId} {a : Nat → Nat} {res : Int32 × rp_St} (hC : xC p s m args meth c cX6_loose 3 "RegretPegs" (some .int) D cI cB cS a) : ∀ (n : Nat) (v1 : Int32) (v2 : Int32) (σ : rp_St) (H : Heap) (locs : List Loc) (ls : Array Slot), rp_lp (fun _ _ _ => none) (fX6_loose_39) n v1 v2 σ = some res → xW D cI cB cS a s σ H locs → lv_has ls 3 [(0, .ref (a 54)), (1, .int v1), (2, .int v2)] → W p l e (rp_rm 7) s m args below meth c H locs 0 0 (MQ below (rp_Qi D a (xt cI cB cS a) 62 res) args s 0 0 (rp_A a 62)) (F0 m 39 ls [])
  | 0, _, _, _, _, _, _, hF, _, _ => nomatch hF
  | n + 1, v1, v2, σ, H, locs, ls, hF, hw, hl => kX6_loose_39 hC (rp_lp (fun _ _ _ => none) (fX6_loose_39) n) (lX6_loose_39 hC n) v1 v2 σ H locs ls hF hw hl
def fX6_loose (v1 : Int32) (σ : rp_St) : Option (Int32 × rp_St) :=
  rp_bd (fX6_isWithin v1 1 40 σ) (fun r1 σ2 => (if r1 = 0 then rp_bd (fX6_refuse 1 σ2) (fun r5 σ6 => some (r5, σ6)) else (if ((σ2 40 7) + v1) ≤ 9999 then rp_lp (fun _ _ _ => none) (fX6_loose_39) 300 v1 0 σ2 else rp_bd (fX6_refuse 3 σ2) (fun r3 σ4 => some (r3, σ4)))))
set_option maxRecDepth 100000 in
set_option maxHeartbeats 4000000 in
theorem kX6_loose_0 {p : Program} {l : Launch} {e : Env} {s : State} {m : MethodId} {args : Array Value} {below : List Frame} {meth : Method} {c : Code} {D : va_G} {cI cB cS : ClassId} {a : Nat → Nat} {res : Int32 × rp_St} (hC : xC p s m args meth c cX6_loose 3 "RegretPegs" (some .int) D cI cB cS a) (v1 : Int32) (σ : rp_St) (H : Heap) (locs : List Loc) (ls : Array Slot) (hF : fX6_loose v1 σ = some res) (hw : xW D cI cB cS a s σ H locs) (hl : lv_has ls 3 [(0, .ref (a 54)), (1, .int v1)]) : W p l e (rp_rm 7) s m args below meth c H locs 0 0 (MQ below (rp_Qi D a (xt cI cB cS a) 62 res) args s 0 0 (rp_A a 62)) (F0 m 0 ls []) := by
  have hx := hC.1
  have hb := hC.2.1
  have hown := hC.2.2.2.1
  have hts := hC.2.2.2.2.1
  unfold fX6_loose at hF
  refine lv_iload_n (pc := 0) hx hb dX6_loose_0 rfl (lv_at hl 1 rfl) ?_
  refine lv_iconst (pc := 1) (v := 1) hx hb dX6_loose_1 (by decide) ?_
  refine lv_bipush (pc := 2) (v := 40) hx hb dX6_loose_2 (by decide) ?_
  obtain ⟨r1, σ2, hq, hF⟩ := rp_bd_e hF
  refine rp_ki (rp_runZ (rest := []) hC (xE_ok _) hw hl.1 (mX6_isWithin (l := l) v1 1 40 σ _ hq) zw_X6_62 rfl rfl (Nat.le_of_ble_eq_true rfl) (by decide) dX6_loose_4) hw (fun H locs hw => ?_)
  clear hq
  refine lv_if_ne (pc := 7) (tgt := 16) hx hb dX6_loose_7 (by decide) (fun hc => ?_) (fun hc => ?_)
  · replace hF := rp_if hc hF
    refine lv_aload_n (pc := 16) hx hb dX6_loose_16 rfl (lv_at hl 0 rfl) ?_
    refine rp_get (pc := 17) hC hw 54 (by decide) (xt_reg _) fl_X6_10 (.ref (a 40)) rfl dX6_loose_17 ?_
    refine rp_get (pc := 20) hC hw 40 (by decide) ((xt_eve (i := 0) (by decide)) _) fl_X6_162 (.int (σ2 40 7)) rfl dX6_loose_20 ?_
    refine lv_iload_n (pc := 23) hx hb dX6_loose_23 rfl (lv_at hl 1 rfl) ?_
    refine lv_iadd (pc := 24) hx hb dX6_loose_24 ?_
    refine lv_sipush (pc := 25) (v := 9999) hx hb dX6_loose_25 (by decide) ?_
    refine lv_icmp_le (pc := 28) (tgt := 37) hx hb dX6_loose_28 (by decide) (fun hc => ?_) (fun hc => ?_)
    · replace hF := rp_it hc hF
      refine lv_iconst (pc := 37) (v := 0) hx hb dX6_loose_37 (by decide) ?_
      refine lv_istore_n (pc := 38) (lv' := [(2, .int 0), (0, .ref (a 54)), (1, .int v1)]) hx hb dX6_loose_38 rfl hl (by decide) rfl (fun ls hl => ?_)
      exact lX6_loose_39 hC 300 v1 0 σ2 _ _ _ hF hw (lv_sub hl [1, 2, 0] rfl)
    · replace hF := rp_if hc hF
      refine lv_aload_n (pc := 31) hx hb dX6_loose_31 rfl (lv_at hl 0 rfl) ?_
      refine lv_iconst (pc := 32) (v := 3) hx hb dX6_loose_32 (by decide) ?_
      obtain ⟨r3, σ4, hq, hF⟩ := rp_bd_e hF
      refine rp_ki (rp_runV (rest := []) hC (xE_ok _) hw hl.1 (mX6_refuse (l := l) 3 σ2 _ hq) vw_X6_66 (by decide) (xt_reg _) rfl rfl rfl (Nat.le_of_ble_eq_true rfl) (by decide) dX6_loose_33) hw (fun H locs hw => ?_)
      clear hq
      exact rp_reti (pc := 36) hC hw hF dX6_loose_36
  · replace hF := rp_it hc hF
    refine lv_aload_n (pc := 10) hx hb dX6_loose_10 rfl (lv_at hl 0 rfl) ?_
    refine lv_iconst (pc := 11) (v := 1) hx hb dX6_loose_11 (by decide) ?_
    obtain ⟨r5, σ6, hq, hF⟩ := rp_bd_e hF
    refine rp_ki (rp_runV (rest := []) hC (xE_ok _) hw hl.1 (mX6_refuse (l := l) 1 σ2 _ hq) vw_X6_66 (by decide) (xt_reg _) rfl rfl rfl (Nat.le_of_ble_eq_true rfl) (by decide) dX6_loose_12) hw (fun H locs hw => ?_)
    clear hq
    exact rp_reti (pc := 15) hC hw hF dX6_loose_15
theorem mX6_loose {l : Launch} {D : va_G} {cI cB cS : ClassId} {a : Nat → Nat} (v1 : Int32) (σ : rp_St) (res : Int32 × rp_St) (hF : fX6_loose v1 σ = some res) : xM l D cI cB cS a yX6_loose cX6_loose 3 (some .int) 7 [.ref (a 54), .int v1] σ (rp_Qi D a (xt cI cB cS a) 62 res) :=
  rp_entry (by decide) (Nat.le_of_ble_eq_true rfl) (fun p e s m below meth c ls hC hw hl => kX6_loose_0 hC v1 σ _ _ _ hF hw (lv_sub hl [0, 1] rfl))
def fX0_takeFrom (g0 : Nat) (g1 : Nat) (σ : rp_St) : Option (Int32 × rp_St) :=
  rp_nm (rp_put σ (7 * g0) 0 (σ (7 * g1) 0)) (fun σ1 => rp_gu (!decide (0 < 0) && !decide (0 < 0) && !decide (7 < 0) && decide ((0 : Int32).toNatClampNeg + (7 : Int32).toNatClampNeg ≤ 7) && decide ((0 : Int32).toNatClampNeg + (7 : Int32).toNatClampNeg ≤ 7)) (rp_nm (rp_row σ1 (7 * g0 + 1) (va_cpy (σ1 (7 * g1 + 1)) (σ1 (7 * g0 + 1)) (0 : Int32).toNatClampNeg (0 : Int32).toNatClampNeg (7 : Int32).toNatClampNeg)) (fun σ2 => rp_gu (!decide (0 < 0) && !decide (0 < 0) && !decide (7 < 0) && decide ((0 : Int32).toNatClampNeg + (7 : Int32).toNatClampNeg ≤ 7) && decide ((0 : Int32).toNatClampNeg + (7 : Int32).toNatClampNeg ≤ 7)) (rp_nm (rp_row σ2 (7 * g0 + 2) (va_cpy (σ2 (7 * g1 + 2)) (σ2 (7 * g0 + 2)) (0 : Int32).toNatClampNeg (0 : Int32).toNatClampNeg (7 : Int32).toNatClampNeg)) (fun σ3 => rp_gu (!decide (0 < 0) && !decide (0 < 0) && !decide (7 < 0) && decide ((0 : Int32).toNatClampNeg + (7 : Int32).toNatClampNeg ≤ 7) && decide ((0 : Int32).toNatClampNeg + (7 : Int32).toNatClampNeg ≤ 7)) (rp_nm (rp_row σ3 (7 * g0 + 3) (va_cpy (σ3 (7 * g1 + 3)) (σ3 (7 * g0 + 3)) (0 : Int32).toNatClampNeg (0 : Int32).toNatClampNeg (7 : Int32).toNatClampNeg)) (fun σ4 => rp_gu (!decide (0 < 0) && !decide (0 < 0) && !decide (7 < 0) && decide ((0 : Int32).toNatClampNeg + (7 : Int32).toNatClampNeg ≤ 7) && decide ((0 : Int32).toNatClampNeg + (7 : Int32).toNatClampNeg ≤ 7)) (rp_nm (rp_row σ4 (7 * g0 + 4) (va_cpy (σ4 (7 * g1 + 4)) (σ4 (7 * g0 + 4)) (0 : Int32).toNatClampNeg (0 : Int32).toNatClampNeg (7 : Int32).toNatClampNeg)) (fun σ5 => rp_gu (!decide (0 < 0) && !decide (0 < 0) && !decide (7 < 0) && decide ((0 : Int32).toNatClampNeg + (7 : Int32).toNatClampNeg ≤ 7) && decide ((0 : Int32).toNatClampNeg + (7 : Int32).toNatClampNeg ≤ 7)) (rp_nm (rp_row σ5 (7 * g0 + 5) (va_cpy (σ5 (7 * g1 + 5)) (σ5 (7 * g0 + 5)) (0 : Int32).toNatClampNeg (0 : Int32).toNatClampNeg (7 : Int32).toNatClampNeg)) (fun σ6 => rp_gu (!decide (0 < 0) && !decide (0 < 0) && !decide (7 < 0) && decide ((0 : Int32).toNatClampNeg + (7 : Int32).toNatClampNeg ≤ 7) && decide ((0 : Int32).toNatClampNeg + (7 : Int32).toNatClampNeg ≤ 7)) (rp_nm (rp_row σ6 (7 * g0 + 6) (va_cpy (σ6 (7 * g1 + 6)) (σ6 (7 * g0 + 6)) (0 : Int32).toNatClampNeg (0 : Int32).toNatClampNeg (7 : Int32).toNatClampNeg)) (fun σ7 => some (0, σ7))))))))))))))
set_option maxRecDepth 100000 in
set_option maxHeartbeats 4000000 in
theorem kX0_takeFrom_0 {p : Program} {l : Launch} {e : Env} {s : State} {m : MethodId} {args : Array Value} {below : List Frame} {meth : Method} {c : Code} {D : va_G} {cI cB cS : ClassId} {a : Nat → Nat} {res : Int32 × rp_St} (g0 : Nat) (h_g0 : g0 < 4) (g1 : Nat) (h_g1 : g1 < 4) (hC : xC p s m args meth c cX0_takeFrom 2 "RegretPegs$Ball" none D cI cB cS a) (σ : rp_St) (H : Heap) (locs : List Loc) (ls : Array Slot) (hF : fX0_takeFrom g0 g1 σ = some res) (hw : xW D cI cB cS a s σ H locs) (hl : lv_has ls 2 [(0, .ref (a (7 * g0))), (1, .ref (a (7 * g1)))]) : W p l e (rp_rm 1) s m args below meth c H locs 0 0 (MQ below (rp_Qv D a (xt cI cB cS a) 62 res) args s 0 0 (rp_A a 62)) (F0 m 0 ls []) := by
  have hx := hC.1
  have hb := hC.2.1
  have hown := hC.2.2.2.1
  have hts := hC.2.2.2.2.1
  unfold fX0_takeFrom at hF
  refine lv_aload_n (pc := 0) hx hb dX0_takeFrom_0 rfl (lv_at hl 0 rfl) ?_
  refine lv_aload_n (pc := 1) hx hb dX0_takeFrom_1 rfl (lv_at hl 1 rfl) ?_
  refine rp_get (pc := 2) hC hw (7 * g1) (by omega) ((xt_ball (b := g1) (by omega)) _) fl_X0_9 (.int (σ (7 * g1) 0)) rfl dX0_takeFrom_2 ?_
  refine rp_set (pc := 5) (fs := xb_ball a (7 * g0)) hC hw (7 * g0) (by omega) (xt_ball (b := g0) (by omega)) fg_X0_9 rfl (Nat.le_of_ble_eq_true rfl) rfl rfl dX0_takeFrom_5 (fun H locs hw => ?_)
  obtain ⟨σ1, eσ1, hF⟩ := rp_nm_e hF
  replace hw := rp_Wn eσ1 hw
  clear eσ1
  refine lv_aload_n (pc := 8) hx hb dX0_takeFrom_8 rfl (lv_at hl 1 rfl) ?_
  refine rp_get (pc := 9) hC hw (7 * g1) (by omega) ((xt_ball (b := g1) (by omega)) _) fl_X0_15 (.ref (a (7 * g1 + 1))) rfl dX0_takeFrom_9 ?_
  refine lv_iconst (pc := 12) (v := 0) hx hb dX0_takeFrom_12 (by decide) ?_
  refine lv_aload_n (pc := 13) hx hb dX0_takeFrom_13 rfl (lv_at hl 0 rfl) ?_
  refine rp_get (pc := 14) hC hw (7 * g0) (by omega) ((xt_ball (b := g0) (by omega)) _) fl_X0_15 (.ref (a (7 * g0 + 1))) rfl dX0_takeFrom_14 ?_
  refine lv_iconst (pc := 17) (v := 0) hx hb dX0_takeFrom_17 (by decide) ?_
  refine lv_bipush (pc := 18) (v := 7) hx hb dX0_takeFrom_18 (by decide) ?_
  obtain ⟨hg, hF⟩ := rp_gu_e hF
  refine rp_cpyi (pc := 20) hC hw hl.1 (7 * g1 + 1) (7 * g0 + 1) (by omega) (by omega) (xt_bar (b := g1) (by omega) 1 ⟨by decide, by decide⟩) (xt_bar (b := g0) (by omega) 1 ⟨by decide, by decide⟩) 0 rfl wd_453 wd_318 wd_317 wd_10 hg (by show 1 ≤ 1; omega) (Nat.le_trans (Nat.le_of_ble_eq_true rfl : _ ≤ 60) (by show 60 ≤ 60 * 1; omega)) dX0_takeFrom_20 (fun H locs hw => ?_)
  obtain ⟨σ2, eσ2, hF⟩ := rp_nm_e hF
  replace hw := rp_Wn eσ2 hw
  clear eσ2
  refine lv_aload_n (pc := 23) hx hb dX0_takeFrom_23 rfl (lv_at hl 1 rfl) ?_
  refine rp_get (pc := 24) hC hw (7 * g1) (by omega) ((xt_ball (b := g1) (by omega)) _) fl_X0_19 (.ref (a (7 * g1 + 2))) rfl dX0_takeFrom_24 ?_
  refine lv_iconst (pc := 27) (v := 0) hx hb dX0_takeFrom_27 (by decide) ?_
  refine lv_aload_n (pc := 28) hx hb dX0_takeFrom_28 rfl (lv_at hl 0 rfl) ?_
  refine rp_get (pc := 29) hC hw (7 * g0) (by omega) ((xt_ball (b := g0) (by omega)) _) fl_X0_19 (.ref (a (7 * g0 + 2))) rfl dX0_takeFrom_29 ?_
  refine lv_iconst (pc := 32) (v := 0) hx hb dX0_takeFrom_32 (by decide) ?_
  refine lv_bipush (pc := 33) (v := 7) hx hb dX0_takeFrom_33 (by decide) ?_
  obtain ⟨hg, hF⟩ := rp_gu_e hF
  refine rp_cpyi (pc := 35) hC hw hl.1 (7 * g1 + 2) (7 * g0 + 2) (by omega) (by omega) (xt_bar (b := g1) (by omega) 2 ⟨by decide, by decide⟩) (xt_bar (b := g0) (by omega) 2 ⟨by decide, by decide⟩) 0 rfl wd_453 wd_318 wd_317 wd_10 hg (by show 1 ≤ 1; omega) (Nat.le_trans (Nat.le_of_ble_eq_true rfl : _ ≤ 60) (by show 60 ≤ 60 * 1; omega)) dX0_takeFrom_35 (fun H locs hw => ?_)
  obtain ⟨σ3, eσ3, hF⟩ := rp_nm_e hF
  replace hw := rp_Wn eσ3 hw
  clear eσ3
  refine lv_aload_n (pc := 38) hx hb dX0_takeFrom_38 rfl (lv_at hl 1 rfl) ?_
  refine rp_get (pc := 39) hC hw (7 * g1) (by omega) ((xt_ball (b := g1) (by omega)) _) fl_X0_22 (.ref (a (7 * g1 + 3))) rfl dX0_takeFrom_39 ?_
  refine lv_iconst (pc := 42) (v := 0) hx hb dX0_takeFrom_42 (by decide) ?_
  refine lv_aload_n (pc := 43) hx hb dX0_takeFrom_43 rfl (lv_at hl 0 rfl) ?_
  refine rp_get (pc := 44) hC hw (7 * g0) (by omega) ((xt_ball (b := g0) (by omega)) _) fl_X0_22 (.ref (a (7 * g0 + 3))) rfl dX0_takeFrom_44 ?_
  refine lv_iconst (pc := 47) (v := 0) hx hb dX0_takeFrom_47 (by decide) ?_
  refine lv_bipush (pc := 48) (v := 7) hx hb dX0_takeFrom_48 (by decide) ?_
  obtain ⟨hg, hF⟩ := rp_gu_e hF
  refine rp_cpyi (pc := 50) hC hw hl.1 (7 * g1 + 3) (7 * g0 + 3) (by omega) (by omega) (xt_bar (b := g1) (by omega) 3 ⟨by decide, by decide⟩) (xt_bar (b := g0) (by omega) 3 ⟨by decide, by decide⟩) 0 rfl wd_453 wd_318 wd_317 wd_10 hg (by show 1 ≤ 1; omega) (Nat.le_trans (Nat.le_of_ble_eq_true rfl : _ ≤ 60) (by show 60 ≤ 60 * 1; omega)) dX0_takeFrom_50 (fun H locs hw => ?_)
  obtain ⟨σ4, eσ4, hF⟩ := rp_nm_e hF
  replace hw := rp_Wn eσ4 hw
  clear eσ4
  refine lv_aload_n (pc := 53) hx hb dX0_takeFrom_53 rfl (lv_at hl 1 rfl) ?_
  refine rp_get (pc := 54) hC hw (7 * g1) (by omega) ((xt_ball (b := g1) (by omega)) _) fl_X0_25 (.ref (a (7 * g1 + 4))) rfl dX0_takeFrom_54 ?_
  refine lv_iconst (pc := 57) (v := 0) hx hb dX0_takeFrom_57 (by decide) ?_
  refine lv_aload_n (pc := 58) hx hb dX0_takeFrom_58 rfl (lv_at hl 0 rfl) ?_
  refine rp_get (pc := 59) hC hw (7 * g0) (by omega) ((xt_ball (b := g0) (by omega)) _) fl_X0_25 (.ref (a (7 * g0 + 4))) rfl dX0_takeFrom_59 ?_
  refine lv_iconst (pc := 62) (v := 0) hx hb dX0_takeFrom_62 (by decide) ?_
  refine lv_bipush (pc := 63) (v := 7) hx hb dX0_takeFrom_63 (by decide) ?_
  obtain ⟨hg, hF⟩ := rp_gu_e hF
  refine rp_cpyi (pc := 65) hC hw hl.1 (7 * g1 + 4) (7 * g0 + 4) (by omega) (by omega) (xt_bar (b := g1) (by omega) 4 ⟨by decide, by decide⟩) (xt_bar (b := g0) (by omega) 4 ⟨by decide, by decide⟩) 0 rfl wd_453 wd_318 wd_317 wd_10 hg (by show 1 ≤ 1; omega) (Nat.le_trans (Nat.le_of_ble_eq_true rfl : _ ≤ 60) (by show 60 ≤ 60 * 1; omega)) dX0_takeFrom_65 (fun H locs hw => ?_)
  obtain ⟨σ5, eσ5, hF⟩ := rp_nm_e hF
  replace hw := rp_Wn eσ5 hw
  clear eσ5
  refine lv_aload_n (pc := 68) hx hb dX0_takeFrom_68 rfl (lv_at hl 1 rfl) ?_
  refine rp_get (pc := 69) hC hw (7 * g1) (by omega) ((xt_ball (b := g1) (by omega)) _) fl_X0_28 (.ref (a (7 * g1 + 5))) rfl dX0_takeFrom_69 ?_
  refine lv_iconst (pc := 72) (v := 0) hx hb dX0_takeFrom_72 (by decide) ?_
  refine lv_aload_n (pc := 73) hx hb dX0_takeFrom_73 rfl (lv_at hl 0 rfl) ?_
  refine rp_get (pc := 74) hC hw (7 * g0) (by omega) ((xt_ball (b := g0) (by omega)) _) fl_X0_28 (.ref (a (7 * g0 + 5))) rfl dX0_takeFrom_74 ?_
  refine lv_iconst (pc := 77) (v := 0) hx hb dX0_takeFrom_77 (by decide) ?_
  refine lv_bipush (pc := 78) (v := 7) hx hb dX0_takeFrom_78 (by decide) ?_
  obtain ⟨hg, hF⟩ := rp_gu_e hF
  refine rp_cpyi (pc := 80) hC hw hl.1 (7 * g1 + 5) (7 * g0 + 5) (by omega) (by omega) (xt_bar (b := g1) (by omega) 5 ⟨by decide, by decide⟩) (xt_bar (b := g0) (by omega) 5 ⟨by decide, by decide⟩) 0 rfl wd_453 wd_318 wd_317 wd_10 hg (by show 1 ≤ 1; omega) (Nat.le_trans (Nat.le_of_ble_eq_true rfl : _ ≤ 60) (by show 60 ≤ 60 * 1; omega)) dX0_takeFrom_80 (fun H locs hw => ?_)
  obtain ⟨σ6, eσ6, hF⟩ := rp_nm_e hF
  replace hw := rp_Wn eσ6 hw
  clear eσ6
  refine lv_aload_n (pc := 83) hx hb dX0_takeFrom_83 rfl (lv_at hl 1 rfl) ?_
  refine rp_get (pc := 84) hC hw (7 * g1) (by omega) ((xt_ball (b := g1) (by omega)) _) fl_X0_31 (.ref (a (7 * g1 + 6))) rfl dX0_takeFrom_84 ?_
  refine lv_iconst (pc := 87) (v := 0) hx hb dX0_takeFrom_87 (by decide) ?_
  refine lv_aload_n (pc := 88) hx hb dX0_takeFrom_88 rfl (lv_at hl 0 rfl) ?_
  refine rp_get (pc := 89) hC hw (7 * g0) (by omega) ((xt_ball (b := g0) (by omega)) _) fl_X0_31 (.ref (a (7 * g0 + 6))) rfl dX0_takeFrom_89 ?_
  refine lv_iconst (pc := 92) (v := 0) hx hb dX0_takeFrom_92 (by decide) ?_
  refine lv_bipush (pc := 93) (v := 7) hx hb dX0_takeFrom_93 (by decide) ?_
  obtain ⟨hg, hF⟩ := rp_gu_e hF
  refine rp_cpyi (pc := 95) hC hw hl.1 (7 * g1 + 6) (7 * g0 + 6) (by omega) (by omega) (xt_bar (b := g1) (by omega) 6 ⟨by decide, by decide⟩) (xt_bar (b := g0) (by omega) 6 ⟨by decide, by decide⟩) 0 rfl wd_453 wd_318 wd_317 wd_10 hg (by show 1 ≤ 1; omega) (Nat.le_trans (Nat.le_of_ble_eq_true rfl : _ ≤ 60) (by show 60 ≤ 60 * 1; omega)) dX0_takeFrom_95 (fun H locs hw => ?_)
  obtain ⟨σ7, eσ7, hF⟩ := rp_nm_e hF
  replace hw := rp_Wn eσ7 hw
  clear eσ7
  exact rp_retv (pc := 98) hC hw hF dX0_takeFrom_98
theorem mX0_takeFrom {l : Launch} {D : va_G} {cI cB cS : ClassId} {a : Nat → Nat} (g0 : Nat) (h_g0 : g0 < 4) (g1 : Nat) (h_g1 : g1 < 4)  (σ : rp_St) (res : Int32 × rp_St) (hF : fX0_takeFrom g0 g1 σ = some res) : xM l D cI cB cS a yX0_takeFrom cX0_takeFrom 2 none 1 [.ref (a (7 * g0)), .ref (a (7 * g1))] σ (rp_Qv D a (xt cI cB cS a) 62 res) :=
  rp_entry (by decide) (Nat.le_of_ble_eq_true rfl) (fun p e s m below meth c ls hC hw hl => kX0_takeFrom_0 g0 h_g0 g1 h_g1 hC σ _ _ _ hF hw (lv_sub hl [0, 1] rfl))
def fX6_then_27 (σ : rp_St) : Option (Int32 × rp_St) :=
  rp_bd (fX6_refuse 1 σ) (fun r1 σ2 => some (r1, σ2))
set_option maxRecDepth 100000 in
set_option maxHeartbeats 4000000 in
theorem kX6_then_27 {p : Program} {l : Launch} {e : Env} {s : State} {m : MethodId} {args : Array Value} {below : List Frame} {meth : Method} {c : Code} {D : va_G} {cI cB cS : ClassId} {a : Nat → Nat} {res : Int32 × rp_St} (hC : xC p s m args meth c cX6_then 4 "RegretPegs" (some .int) D cI cB cS a) (σ : rp_St) (H : Heap) (locs : List Loc) (ls : Array Slot) (hF : fX6_then_27 σ = some res) (hw : xW D cI cB cS a s σ H locs) (hl : lv_has ls 4 [(0, .ref (a 54))]) : W p l e (rp_rm 6) s m args below meth c H locs 0 0 (MQ below (rp_Qi D a (xt cI cB cS a) 62 res) args s 0 0 (rp_A a 62)) (F0 m 27 ls []) := by
  have hx := hC.1
  have hb := hC.2.1
  have hown := hC.2.2.2.1
  have hts := hC.2.2.2.2.1
  unfold fX6_then_27 at hF
  refine lv_aload_n (pc := 27) hx hb dX6_then_27 rfl (lv_at hl 0 rfl) ?_
  refine lv_iconst (pc := 28) (v := 1) hx hb dX6_then_28 (by decide) ?_
  obtain ⟨r1, σ2, hq, hF⟩ := rp_bd_e hF
  refine rp_ki (rp_runV (rest := []) hC (xE_ok _) hw hl.1 (mX6_refuse (l := l) 1 σ _ hq) vw_X6_66 (by decide) (xt_reg _) rfl rfl rfl (Nat.le_of_ble_eq_true rfl) (by decide) dX6_then_29) hw (fun H locs hw => ?_)
  clear hq
  exact rp_reti (pc := 32) hC hw hF dX6_then_32
def fX6_then (v1 : Int32) (v2 : Int32) (v3 : Int32) (σ : rp_St) : Option (Int32 × rp_St) :=
  rp_bd (fX6_isWithin v1 0 60 σ) (fun r1 σ2 => (if r1 = 0 then fX6_then_27 σ2 else rp_bd (fX6_isGuest v2 σ2) (fun r3 σ4 => (if r3 = 0 then fX6_then_27 σ4 else rp_bd (fX6_isWithin v3 0 1 σ4) (fun r5 σ6 => (if r5 = 0 then fX6_then_27 σ6 else rp_bd (fX0_takeFrom 2 0 σ6) (fun _ σ8 => rp_bd (fX0_passHours 2 1 v1 σ8) (fun _ σ10 => (if v3 = 0 then rp_gu (rp_in v2 7) (some ((σ10 17 (v2 : Int32).toNatClampNeg), σ10)) else rp_bd (fX0_pegOf 2 v2 σ10) (fun r11 σ12 => some (r11, σ12)))))))))))
set_option maxRecDepth 100000 in
set_option maxHeartbeats 4000000 in
theorem kX6_then_0 {p : Program} {l : Launch} {e : Env} {s : State} {m : MethodId} {args : Array Value} {below : List Frame} {meth : Method} {c : Code} {D : va_G} {cI cB cS : ClassId} {a : Nat → Nat} {res : Int32 × rp_St} (hC : xC p s m args meth c cX6_then 4 "RegretPegs" (some .int) D cI cB cS a) (v1 : Int32) (v2 : Int32) (v3 : Int32) (σ : rp_St) (H : Heap) (locs : List Loc) (ls : Array Slot) (hF : fX6_then v1 v2 v3 σ = some res) (hw : xW D cI cB cS a s σ H locs) (hl : lv_has ls 4 [(0, .ref (a 54)), (1, .int v1), (2, .int v2), (3, .int v3)]) : W p l e (rp_rm 6) s m args below meth c H locs 0 0 (MQ below (rp_Qi D a (xt cI cB cS a) 62 res) args s 0 0 (rp_A a 62)) (F0 m 0 ls []) := by
  have hx := hC.1
  have hb := hC.2.1
  have hown := hC.2.2.2.1
  have hts := hC.2.2.2.2.1
  unfold fX6_then at hF
  refine lv_iload_n (pc := 0) hx hb dX6_then_0 rfl (lv_at hl 1 rfl) ?_
  refine lv_iconst (pc := 1) (v := 0) hx hb dX6_then_1 (by decide) ?_
  refine lv_bipush (pc := 2) (v := 60) hx hb dX6_then_2 (by decide) ?_
  obtain ⟨r1, σ2, hq, hF⟩ := rp_bd_e hF
  refine rp_ki (rp_runZ (rest := []) hC (xE_ok _) hw hl.1 (mX6_isWithin (l := l) v1 0 60 σ _ hq) zw_X6_62 rfl rfl (Nat.le_of_ble_eq_true rfl) (by decide) dX6_then_4) hw (fun H locs hw => ?_)
  clear hq
  refine lv_if_eq (pc := 7) (tgt := 27) hx hb dX6_then_7 (by decide) (fun hc => ?_) (fun hc => ?_)
  · replace hF := rp_it hc hF
    exact kX6_then_27 hC σ2 _ _ _ hF hw (lv_sub hl [0] rfl)
  · replace hF := rp_if hc hF
    refine lv_aload_n (pc := 10) hx hb dX6_then_10 rfl (lv_at hl 0 rfl) ?_
    refine lv_iload_n (pc := 11) hx hb dX6_then_11 rfl (lv_at hl 2 rfl) ?_
    obtain ⟨r3, σ4, hq, hF⟩ := rp_bd_e hF
    refine rp_ki (rp_runV (rest := []) hC (xE_ok _) hw hl.1 (mX6_isGuest (l := l) v2 σ2 _ hq) vw_X6_80 (by decide) (xt_reg _) rfl rfl rfl (Nat.le_of_ble_eq_true rfl) (by decide) dX6_then_12) hw (fun H locs hw => ?_)
    clear hq
    refine lv_if_eq (pc := 15) (tgt := 27) hx hb dX6_then_15 (by decide) (fun hc => ?_) (fun hc => ?_)
    · replace hF := rp_it hc hF
      exact kX6_then_27 hC σ4 _ _ _ hF hw (lv_sub hl [0] rfl)
    · replace hF := rp_if hc hF
      refine lv_iload_n (pc := 18) hx hb dX6_then_18 rfl (lv_at hl 3 rfl) ?_
      refine lv_iconst (pc := 19) (v := 0) hx hb dX6_then_19 (by decide) ?_
      refine lv_iconst (pc := 20) (v := 1) hx hb dX6_then_20 (by decide) ?_
      obtain ⟨r5, σ6, hq, hF⟩ := rp_bd_e hF
      refine rp_ki (rp_runZ (rest := []) hC (xE_ok _) hw hl.1 (mX6_isWithin (l := l) v3 0 1 σ4 _ hq) zw_X6_62 rfl rfl (Nat.le_of_ble_eq_true rfl) (by decide) dX6_then_21) hw (fun H locs hw => ?_)
      clear hq
      refine lv_if_ne (pc := 24) (tgt := 33) hx hb dX6_then_24 (by decide) (fun hc => ?_) (fun hc => ?_)
      · replace hF := rp_if hc hF
        refine lv_aload_n (pc := 33) hx hb dX6_then_33 rfl (lv_at hl 0 rfl) ?_
        refine rp_get (pc := 34) hC hw 54 (by decide) (xt_reg _) fl_X6_26 (.ref (a 14)) rfl dX6_then_34 ?_
        refine lv_aload_n (pc := 37) hx hb dX6_then_37 rfl (lv_at hl 0 rfl) ?_
        refine rp_get (pc := 38) hC hw 54 (by decide) (xt_reg _) fl_X6_10 (.ref (a 40)) rfl dX6_then_38 ?_
        refine rp_get (pc := 41) hC hw 40 (by decide) ((xt_eve (i := 0) (by decide)) _) fl_X6_70 (.ref (a 0)) rfl dX6_then_41 ?_
        obtain ⟨r7, σ8, hq, hF⟩ := rp_bd_e hF
        refine rp_kv (rp_runV (rest := []) hC (xE_ok _) hw hl.1 (mX0_takeFrom (l := l) 2 (by decide) 0 (by decide) σ6 _ hq) vw_X6_179 (by decide) ((xt_ball (b := 2) (by decide)) _) rfl rfl rfl (Nat.le_of_ble_eq_true rfl) (by decide) dX6_then_44) hw (fun H locs hw => ?_)
        clear hq
        refine lv_aload_n (pc := 47) hx hb dX6_then_47 rfl (lv_at hl 0 rfl) ?_
        refine rp_get (pc := 48) hC hw 54 (by decide) (xt_reg _) fl_X6_26 (.ref (a 14)) rfl dX6_then_48 ?_
        refine lv_iload_n (pc := 51) hx hb dX6_then_51 rfl (lv_at hl 1 rfl) ?_
        refine lv_aload_n (pc := 52) hx hb dX6_then_52 rfl (lv_at hl 0 rfl) ?_
        refine rp_get (pc := 53) hC hw 54 (by decide) (xt_reg _) fl_X6_10 (.ref (a 40)) rfl dX6_then_53 ?_
        refine rp_get (pc := 56) hC hw 40 (by decide) ((xt_eve (i := 0) (by decide)) _) fl_X6_165 (.ref (a 31)) rfl dX6_then_56 ?_
        obtain ⟨r9, σ10, hq, hF⟩ := rp_bd_e hF
        refine rp_kv (rp_runV (rest := []) hC (xE_ok _) hw hl.1 (mX0_passHours (l := l) 2 (by decide) 1 (by decide) v1 σ8 _ hq) vw_X6_168 (by decide) ((xt_ball (b := 2) (by decide)) _) rfl rfl rfl (Nat.le_of_ble_eq_true rfl) (by decide) dX6_then_59) hw (fun H locs hw => ?_)
        clear hq
        refine lv_iload_n (pc := 62) hx hb dX6_then_62 rfl (lv_at hl 3 rfl) ?_
        refine lv_if_ne (pc := 63) (tgt := 78) hx hb dX6_then_63 (by decide) (fun hc => ?_) (fun hc => ?_)
        · replace hF := rp_if hc hF
          refine lv_aload_n (pc := 78) hx hb dX6_then_78 rfl (lv_at hl 0 rfl) ?_
          refine rp_get (pc := 79) hC hw 54 (by decide) (xt_reg _) fl_X6_26 (.ref (a 14)) rfl dX6_then_79 ?_
          refine lv_iload_n (pc := 82) hx hb dX6_then_82 rfl (lv_at hl 2 rfl) ?_
          obtain ⟨r11, σ12, hq, hF⟩ := rp_bd_e hF
          refine rp_ki (rp_runV (rest := []) hC (xE_ok _) hw hl.1 (mX0_pegOf (l := l) 2 (by decide) v2 σ10 _ hq) vw_X6_98 (by decide) ((xt_ball (b := 2) (by decide)) _) rfl rfl rfl (Nat.le_of_ble_eq_true rfl) (by decide) dX6_then_83) hw (fun H locs hw => ?_)
          clear hq
          exact rp_reti (pc := 86) hC hw hF dX6_then_86
        · replace hF := rp_it hc hF
          refine lv_aload_n (pc := 66) hx hb dX6_then_66 rfl (lv_at hl 0 rfl) ?_
          refine rp_get (pc := 67) hC hw 54 (by decide) (xt_reg _) fl_X6_26 (.ref (a 14)) rfl dX6_then_67 ?_
          refine rp_get (pc := 70) hC hw 14 (by decide) ((xt_ball (b := 2) (by decide)) _) fl_X6_89 (.ref (a 17)) rfl dX6_then_70 ?_
          refine lv_iload_n (pc := 73) hx hb dX6_then_73 rfl (lv_at hl 2 rfl) ?_
          obtain ⟨hg, hF⟩ := rp_gu_e hF
          refine rp_ald (pc := 74) hC hw 17 (by decide) (xt_bar (b := 2) (by decide) 3 ⟨by decide, by decide⟩) 0 rfl hg dX6_then_74 ?_
          refine lv_goto (pc := 75) (tgt := 86) hx hb dX6_then_75 (by decide) ?_
          exact rp_reti (pc := 86) hC hw hF dX6_then_86
      · replace hF := rp_it hc hF
        exact kX6_then_27 hC σ6 _ _ _ hF hw (lv_sub hl [0] rfl)
theorem mX6_then {l : Launch} {D : va_G} {cI cB cS : ClassId} {a : Nat → Nat} (v1 : Int32) (v2 : Int32) (v3 : Int32) (σ : rp_St) (res : Int32 × rp_St) (hF : fX6_then v1 v2 v3 σ = some res) : xM l D cI cB cS a yX6_then cX6_then 4 (some .int) 6 [.ref (a 54), .int v1, .int v2, .int v3] σ (rp_Qi D a (xt cI cB cS a) 62 res) :=
  rp_entry (by decide) (Nat.le_of_ble_eq_true rfl) (fun p e s m below meth c ls hC hw hl => kX6_then_0 hC v1 v2 v3 σ _ _ _ hF hw (lv_sub hl [0, 1, 2, 3] rfl))
def fX0_lastGuest (g0 : Nat) (σ : rp_St) : Option (Int32 × rp_St) :=
  (if (σ (7 * g0) 0) = 0 then some ((-1), σ) else rp_gu (rp_in ((σ (7 * g0) 0) - 1) 7) (some ((σ (7 * g0 + 6) (((σ (7 * g0) 0) - 1) : Int32).toNatClampNeg), σ)))
set_option maxRecDepth 100000 in
set_option maxHeartbeats 4000000 in
theorem kX0_lastGuest_0 {p : Program} {l : Launch} {e : Env} {s : State} {m : MethodId} {args : Array Value} {below : List Frame} {meth : Method} {c : Code} {D : va_G} {cI cB cS : ClassId} {a : Nat → Nat} {res : Int32 × rp_St} (g0 : Nat) (h_g0 : g0 < 4) (hC : xC p s m args meth c cX0_lastGuest 1 "RegretPegs$Ball" (some .int) D cI cB cS a) (σ : rp_St) (H : Heap) (locs : List Loc) (ls : Array Slot) (hF : fX0_lastGuest g0 σ = some res) (hw : xW D cI cB cS a s σ H locs) (hl : lv_has ls 1 [(0, .ref (a (7 * g0)))]) : W p l e (rp_rm 1) s m args below meth c H locs 0 0 (MQ below (rp_Qi D a (xt cI cB cS a) 62 res) args s 0 0 (rp_A a 62)) (F0 m 0 ls []) := by
  have hx := hC.1
  have hb := hC.2.1
  have hown := hC.2.2.2.1
  have hts := hC.2.2.2.2.1
  unfold fX0_lastGuest at hF
  refine lv_aload_n (pc := 0) hx hb dX0_lastGuest_0 rfl (lv_at hl 0 rfl) ?_
  refine rp_get (pc := 1) hC hw (7 * g0) (by omega) ((xt_ball (b := g0) (by omega)) _) fl_X0_9 (.int (σ (7 * g0) 0)) rfl dX0_lastGuest_1 ?_
  refine lv_if_ne (pc := 4) (tgt := 11) hx hb dX0_lastGuest_4 (by decide) (fun hc => ?_) (fun hc => ?_)
  · replace hF := rp_if hc hF
    refine lv_aload_n (pc := 11) hx hb dX0_lastGuest_11 rfl (lv_at hl 0 rfl) ?_
    refine rp_get (pc := 12) hC hw (7 * g0) (by omega) ((xt_ball (b := g0) (by omega)) _) fl_X0_31 (.ref (a (7 * g0 + 6))) rfl dX0_lastGuest_12 ?_
    refine lv_aload_n (pc := 15) hx hb dX0_lastGuest_15 rfl (lv_at hl 0 rfl) ?_
    refine rp_get (pc := 16) hC hw (7 * g0) (by omega) ((xt_ball (b := g0) (by omega)) _) fl_X0_9 (.int (σ (7 * g0) 0)) rfl dX0_lastGuest_16 ?_
    refine lv_iconst (pc := 19) (v := 1) hx hb dX0_lastGuest_19 (by decide) ?_
    refine lv_isub (pc := 20) hx hb dX0_lastGuest_20 ?_
    obtain ⟨hg, hF⟩ := rp_gu_e hF
    refine rp_ald (pc := 21) hC hw (7 * g0 + 6) (by omega) (xt_bar (b := g0) (by omega) 6 ⟨by decide, by decide⟩) 0 rfl hg dX0_lastGuest_21 ?_
    exact rp_reti (pc := 22) hC hw hF dX0_lastGuest_22
  · replace hF := rp_it hc hF
    refine lv_iconst (pc := 7) (v := (-1)) hx hb dX0_lastGuest_7 (by decide) ?_
    refine lv_goto (pc := 8) (tgt := 22) hx hb dX0_lastGuest_8 (by decide) ?_
    exact rp_reti (pc := 22) hC hw hF dX0_lastGuest_22
theorem mX0_lastGuest {l : Launch} {D : va_G} {cI cB cS : ClassId} {a : Nat → Nat} (g0 : Nat) (h_g0 : g0 < 4)  (σ : rp_St) (res : Int32 × rp_St) (hF : fX0_lastGuest g0 σ = some res) : xM l D cI cB cS a yX0_lastGuest cX0_lastGuest 1 (some .int) 1 [.ref (a (7 * g0))] σ (rp_Qi D a (xt cI cB cS a) 62 res) :=
  rp_entry (by decide) (Nat.le_of_ble_eq_true rfl) (fun p e s m below meth c ls hC hw hl => kX0_lastGuest_0 g0 h_g0 hC σ _ _ _ hF hw (lv_sub hl [0] rfl))
def fX6_last_30 (k30 : Int32 → Int32 → rp_St → Option (Int32 × rp_St)) (v1 : Int32) (v2 : Int32) (σ : rp_St) : Option (Int32 × rp_St) :=
  (if 60 < v2 then rp_bd (fX6_refuse 2 σ) (fun r1 σ2 => some (r1, σ2)) else rp_bd (fX0_lastGuest 2 σ) (fun r3 σ4 => (if r3 = v1 then some (v2, σ4) else rp_bd (fX0_passHours 2 1 1 σ4) (fun _ σ6 => rp_nm (v2 + 1) (fun x7 => k30 v1 x7 σ6)))))
set_option maxRecDepth 100000 in
set_option maxHeartbeats 4000000 in
theorem kX6_last_30 {p : Program} {l : Launch} {e : Env} {s : State} {m : MethodId} {args : Array Value} {below : List Frame} {meth : Method} {c : Code} {D : va_G} {cI cB cS : ClassId} {a : Nat → Nat} {res : Int32 × rp_St} (hC : xC p s m args meth c cX6_last 3 "RegretPegs" (some .int) D cI cB cS a) (k30 : Int32 → Int32 → rp_St → Option (Int32 × rp_St)) (hk30 : ∀ (v1 : Int32) (v2 : Int32) (σ : rp_St) (H : Heap) (locs : List Loc) (ls : Array Slot), k30 v1 v2 σ = some res → xW D cI cB cS a s σ H locs → lv_has ls 3 [(0, .ref (a 54)), (1, .int v1), (2, .int v2)] → W p l e (rp_rm 6) s m args below meth c H locs 0 0 (MQ below (rp_Qi D a (xt cI cB cS a) 62 res) args s 0 0 (rp_A a 62)) (F0 m 30 ls [])) (v1 : Int32) (v2 : Int32) (σ : rp_St) (H : Heap) (locs : List Loc) (ls : Array Slot) (hF : fX6_last_30 k30 v1 v2 σ = some res) (hw : xW D cI cB cS a s σ H locs) (hl : lv_has ls 3 [(0, .ref (a 54)), (1, .int v1), (2, .int v2)]) : W p l e (rp_rm 6) s m args below meth c H locs 0 0 (MQ below (rp_Qi D a (xt cI cB cS a) 62 res) args s 0 0 (rp_A a 62)) (F0 m 30 ls []) := by
  have hx := hC.1
  have hb := hC.2.1
  have hown := hC.2.2.2.1
  have hts := hC.2.2.2.2.1
  unfold fX6_last_30 at hF
  refine lv_iload_n (pc := 30) hx hb dX6_last_30 rfl (lv_at hl 2 rfl) ?_
  refine lv_bipush (pc := 31) (v := 60) hx hb dX6_last_31 (by decide) ?_
  refine lv_icmp_gt (pc := 33) (tgt := 70) hx hb dX6_last_33 (by decide) (fun hc => ?_) (fun hc => ?_)
  · replace hF := rp_it hc hF
    refine lv_aload_n (pc := 70) hx hb dX6_last_70 rfl (lv_at hl 0 rfl) ?_
    refine lv_iconst (pc := 71) (v := 2) hx hb dX6_last_71 (by decide) ?_
    obtain ⟨r1, σ2, hq, hF⟩ := rp_bd_e hF
    refine rp_ki (rp_runV (rest := []) hC (xE_ok _) hw hl.1 (mX6_refuse (l := l) 2 σ _ hq) vw_X6_66 (by decide) (xt_reg _) rfl rfl rfl (Nat.le_of_ble_eq_true rfl) (by decide) dX6_last_72) hw (fun H locs hw => ?_)
    clear hq
    exact rp_reti (pc := 75) hC hw hF dX6_last_75
  · replace hF := rp_if hc hF
    refine lv_aload_n (pc := 36) hx hb dX6_last_36 rfl (lv_at hl 0 rfl) ?_
    refine rp_get (pc := 37) hC hw 54 (by decide) (xt_reg _) fl_X6_26 (.ref (a 14)) rfl dX6_last_37 ?_
    obtain ⟨r3, σ4, hq, hF⟩ := rp_bd_e hF
    refine rp_ki (rp_runV (rest := []) hC (xE_ok _) hw hl.1 (mX0_lastGuest (l := l) 2 (by decide) σ _ hq) vw_X6_183 (by decide) ((xt_ball (b := 2) (by decide)) _) rfl rfl rfl (Nat.le_of_ble_eq_true rfl) (by decide) dX6_last_40) hw (fun H locs hw => ?_)
    clear hq
    refine lv_iload_n (pc := 43) hx hb dX6_last_43 rfl (lv_at hl 1 rfl) ?_
    refine lv_icmp_ne (pc := 44) (tgt := 49) hx hb dX6_last_44 (by decide) (fun hc => ?_) (fun hc => ?_)
    · replace hF := rp_if hc hF
      refine lv_aload_n (pc := 49) hx hb dX6_last_49 rfl (lv_at hl 0 rfl) ?_
      refine rp_get (pc := 50) hC hw 54 (by decide) (xt_reg _) fl_X6_26 (.ref (a 14)) rfl dX6_last_50 ?_
      refine lv_iconst (pc := 53) (v := 1) hx hb dX6_last_53 (by decide) ?_
      refine lv_aload_n (pc := 54) hx hb dX6_last_54 rfl (lv_at hl 0 rfl) ?_
      refine rp_get (pc := 55) hC hw 54 (by decide) (xt_reg _) fl_X6_10 (.ref (a 40)) rfl dX6_last_55 ?_
      refine rp_get (pc := 58) hC hw 40 (by decide) ((xt_eve (i := 0) (by decide)) _) fl_X6_165 (.ref (a 31)) rfl dX6_last_58 ?_
      obtain ⟨r5, σ6, hq, hF⟩ := rp_bd_e hF
      refine rp_kv (rp_runV (rest := []) hC (xE_ok _) hw hl.1 (mX0_passHours (l := l) 2 (by decide) 1 (by decide) 1 σ4 _ hq) vw_X6_168 (by decide) ((xt_ball (b := 2) (by decide)) _) rfl rfl rfl (Nat.le_of_ble_eq_true rfl) (by decide) dX6_last_61) hw (fun H locs hw => ?_)
      clear hq
      obtain ⟨x7, ex7, hF⟩ := rp_nm_e hF
      refine lv_iinc (pc := 64) (v := x7) (lv' := [(2, .int x7), (0, .ref (a 54)), (1, .int v1)]) hx hb dX6_last_64 hl (k := 2) rfl (by rw [ex7]; rfl) (by decide) rfl (fun ls hl => ?_)
      refine lv_goto (pc := 67) (tgt := 30) hx hb dX6_last_67 (by decide) ?_
      exact hk30 v1 x7 σ6 _ _ _ hF hw (lv_sub hl [1, 2, 0] rfl)
    · replace hF := rp_it hc hF
      refine lv_iload_n (pc := 47) hx hb dX6_last_47 rfl (lv_at hl 2 rfl) ?_
      exact rp_reti (pc := 48) hC hw hF dX6_last_48
theorem lX6_last_30 {p : Program} {l : Launch} {e : Env} {s : State} {m : MethodId} {args : Array Value} {below : List Frame} {meth : Method} {c : Code} {D : va_G} {cI cB cS : ClassId} {a : Nat → Nat} {res : Int32 × rp_St} (hC : xC p s m args meth c cX6_last 3 "RegretPegs" (some .int) D cI cB cS a) : ∀ (n : Nat) (v1 : Int32) (v2 : Int32) (σ : rp_St) (H : Heap) (locs : List Loc) (ls : Array Slot), rp_lp (fun _ _ _ => none) (fX6_last_30) n v1 v2 σ = some res → xW D cI cB cS a s σ H locs → lv_has ls 3 [(0, .ref (a 54)), (1, .int v1), (2, .int v2)] → W p l e (rp_rm 6) s m args below meth c H locs 0 0 (MQ below (rp_Qi D a (xt cI cB cS a) 62 res) args s 0 0 (rp_A a 62)) (F0 m 30 ls [])
  | 0, _, _, _, _, _, _, hF, _, _ => nomatch hF
  | n + 1, v1, v2, σ, H, locs, ls, hF, hw, hl => kX6_last_30 hC (rp_lp (fun _ _ _ => none) (fX6_last_30) n) (lX6_last_30 hC n) v1 v2 σ H locs ls hF hw hl
def fX6_last (v1 : Int32) (σ : rp_St) : Option (Int32 × rp_St) :=
  rp_bd (fX6_isGuest v1 σ) (fun r1 σ2 => (if r1 = 0 then rp_bd (fX6_refuse 1 σ2) (fun r5 σ6 => some (r5, σ6)) else rp_bd (fX0_takeFrom 2 0 σ2) (fun _ σ4 => rp_lp (fun _ _ _ => none) (fX6_last_30) 300 v1 0 σ4)))
set_option maxRecDepth 100000 in
set_option maxHeartbeats 4000000 in
theorem kX6_last_0 {p : Program} {l : Launch} {e : Env} {s : State} {m : MethodId} {args : Array Value} {below : List Frame} {meth : Method} {c : Code} {D : va_G} {cI cB cS : ClassId} {a : Nat → Nat} {res : Int32 × rp_St} (hC : xC p s m args meth c cX6_last 3 "RegretPegs" (some .int) D cI cB cS a) (v1 : Int32) (σ : rp_St) (H : Heap) (locs : List Loc) (ls : Array Slot) (hF : fX6_last v1 σ = some res) (hw : xW D cI cB cS a s σ H locs) (hl : lv_has ls 3 [(0, .ref (a 54)), (1, .int v1)]) : W p l e (rp_rm 6) s m args below meth c H locs 0 0 (MQ below (rp_Qi D a (xt cI cB cS a) 62 res) args s 0 0 (rp_A a 62)) (F0 m 0 ls []) := by
  have hx := hC.1
  have hb := hC.2.1
  have hown := hC.2.2.2.1
  have hts := hC.2.2.2.2.1
  unfold fX6_last at hF
  refine lv_aload_n (pc := 0) hx hb dX6_last_0 rfl (lv_at hl 0 rfl) ?_
  refine lv_iload_n (pc := 1) hx hb dX6_last_1 rfl (lv_at hl 1 rfl) ?_
  obtain ⟨r1, σ2, hq, hF⟩ := rp_bd_e hF
  refine rp_ki (rp_runV (rest := []) hC (xE_ok _) hw hl.1 (mX6_isGuest (l := l) v1 σ _ hq) vw_X6_80 (by decide) (xt_reg _) rfl rfl rfl (Nat.le_of_ble_eq_true rfl) (by decide) dX6_last_2) hw (fun H locs hw => ?_)
  clear hq
  refine lv_if_ne (pc := 5) (tgt := 14) hx hb dX6_last_5 (by decide) (fun hc => ?_) (fun hc => ?_)
  · replace hF := rp_if hc hF
    refine lv_aload_n (pc := 14) hx hb dX6_last_14 rfl (lv_at hl 0 rfl) ?_
    refine rp_get (pc := 15) hC hw 54 (by decide) (xt_reg _) fl_X6_26 (.ref (a 14)) rfl dX6_last_15 ?_
    refine lv_aload_n (pc := 18) hx hb dX6_last_18 rfl (lv_at hl 0 rfl) ?_
    refine rp_get (pc := 19) hC hw 54 (by decide) (xt_reg _) fl_X6_10 (.ref (a 40)) rfl dX6_last_19 ?_
    refine rp_get (pc := 22) hC hw 40 (by decide) ((xt_eve (i := 0) (by decide)) _) fl_X6_70 (.ref (a 0)) rfl dX6_last_22 ?_
    obtain ⟨r3, σ4, hq, hF⟩ := rp_bd_e hF
    refine rp_kv (rp_runV (rest := []) hC (xE_ok _) hw hl.1 (mX0_takeFrom (l := l) 2 (by decide) 0 (by decide) σ2 _ hq) vw_X6_179 (by decide) ((xt_ball (b := 2) (by decide)) _) rfl rfl rfl (Nat.le_of_ble_eq_true rfl) (by decide) dX6_last_25) hw (fun H locs hw => ?_)
    clear hq
    refine lv_iconst (pc := 28) (v := 0) hx hb dX6_last_28 (by decide) ?_
    refine lv_istore_n (pc := 29) (lv' := [(2, .int 0), (0, .ref (a 54)), (1, .int v1)]) hx hb dX6_last_29 rfl hl (by decide) rfl (fun ls hl => ?_)
    exact lX6_last_30 hC 300 v1 0 σ4 _ _ _ hF hw (lv_sub hl [1, 2, 0] rfl)
  · replace hF := rp_it hc hF
    refine lv_aload_n (pc := 8) hx hb dX6_last_8 rfl (lv_at hl 0 rfl) ?_
    refine lv_iconst (pc := 9) (v := 1) hx hb dX6_last_9 (by decide) ?_
    obtain ⟨r5, σ6, hq, hF⟩ := rp_bd_e hF
    refine rp_ki (rp_runV (rest := []) hC (xE_ok _) hw hl.1 (mX6_refuse (l := l) 1 σ2 _ hq) vw_X6_66 (by decide) (xt_reg _) rfl rfl rfl (Nat.le_of_ble_eq_true rfl) (by decide) dX6_last_10) hw (fun H locs hw => ?_)
    clear hq
    exact rp_reti (pc := 13) hC hw hF dX6_last_13
theorem mX6_last {l : Launch} {D : va_G} {cI cB cS : ClassId} {a : Nat → Nat} (v1 : Int32) (σ : rp_St) (res : Int32 × rp_St) (hF : fX6_last v1 σ = some res) : xM l D cI cB cS a yX6_last cX6_last 3 (some .int) 6 [.ref (a 54), .int v1] σ (rp_Qi D a (xt cI cB cS a) 62 res) :=
  rp_entry (by decide) (Nat.le_of_ble_eq_true rfl) (fun p e s m below meth c ls hC hw hl => kX6_last_0 hC v1 σ _ _ _ hF hw (lv_sub hl [0, 1] rfl))
def fX6_pegHavingDanced (v1 : Int32) (v2 : Int32) (v3 : Int32) (σ : rp_St) : Option (Int32 × rp_St) :=
  rp_bd (fX0_takeFrom 2 0 σ) (fun _ σ2 => rp_bd (fX0_pairUp 2 0 v1 v2 σ2) (fun _ σ4 => rp_bd (fX0_passHours 2 1 v3 σ4) (fun _ σ6 => rp_bd (fX0_pegOf 2 v1 σ6) (fun r7 σ8 => some (r7, σ8)))))
set_option maxRecDepth 100000 in
set_option maxHeartbeats 4000000 in
theorem kX6_pegHavingDanced_0 {p : Program} {l : Launch} {e : Env} {s : State} {m : MethodId} {args : Array Value} {below : List Frame} {meth : Method} {c : Code} {D : va_G} {cI cB cS : ClassId} {a : Nat → Nat} {res : Int32 × rp_St} (hC : xC p s m args meth c cX6_pegHavingDanced 4 "RegretPegs" (some .int) D cI cB cS a) (v1 : Int32) (v2 : Int32) (v3 : Int32) (σ : rp_St) (H : Heap) (locs : List Loc) (ls : Array Slot) (hF : fX6_pegHavingDanced v1 v2 v3 σ = some res) (hw : xW D cI cB cS a s σ H locs) (hl : lv_has ls 4 [(0, .ref (a 54)), (1, .int v1), (2, .int v2), (3, .int v3)]) : W p l e (rp_rm 6) s m args below meth c H locs 0 0 (MQ below (rp_Qi D a (xt cI cB cS a) 62 res) args s 0 0 (rp_A a 62)) (F0 m 0 ls []) := by
  have hx := hC.1
  have hb := hC.2.1
  have hown := hC.2.2.2.1
  have hts := hC.2.2.2.2.1
  unfold fX6_pegHavingDanced at hF
  refine lv_aload_n (pc := 0) hx hb dX6_pegHavingDanced_0 rfl (lv_at hl 0 rfl) ?_
  refine rp_get (pc := 1) hC hw 54 (by decide) (xt_reg _) fl_X6_26 (.ref (a 14)) rfl dX6_pegHavingDanced_1 ?_
  refine lv_aload_n (pc := 4) hx hb dX6_pegHavingDanced_4 rfl (lv_at hl 0 rfl) ?_
  refine rp_get (pc := 5) hC hw 54 (by decide) (xt_reg _) fl_X6_10 (.ref (a 40)) rfl dX6_pegHavingDanced_5 ?_
  refine rp_get (pc := 8) hC hw 40 (by decide) ((xt_eve (i := 0) (by decide)) _) fl_X6_70 (.ref (a 0)) rfl dX6_pegHavingDanced_8 ?_
  obtain ⟨r1, σ2, hq, hF⟩ := rp_bd_e hF
  refine rp_kv (rp_runV (rest := []) hC (xE_ok _) hw hl.1 (mX0_takeFrom (l := l) 2 (by decide) 0 (by decide) σ _ hq) vw_X6_179 (by decide) ((xt_ball (b := 2) (by decide)) _) rfl rfl rfl (Nat.le_of_ble_eq_true rfl) (by decide) dX6_pegHavingDanced_11) hw (fun H locs hw => ?_)
  clear hq
  refine lv_aload_n (pc := 14) hx hb dX6_pegHavingDanced_14 rfl (lv_at hl 0 rfl) ?_
  refine rp_get (pc := 15) hC hw 54 (by decide) (xt_reg _) fl_X6_26 (.ref (a 14)) rfl dX6_pegHavingDanced_15 ?_
  refine lv_iload_n (pc := 18) hx hb dX6_pegHavingDanced_18 rfl (lv_at hl 1 rfl) ?_
  refine lv_iload_n (pc := 19) hx hb dX6_pegHavingDanced_19 rfl (lv_at hl 2 rfl) ?_
  refine lv_aload_n (pc := 20) hx hb dX6_pegHavingDanced_20 rfl (lv_at hl 0 rfl) ?_
  refine rp_get (pc := 21) hC hw 54 (by decide) (xt_reg _) fl_X6_10 (.ref (a 40)) rfl dX6_pegHavingDanced_21 ?_
  refine rp_get (pc := 24) hC hw 40 (by decide) ((xt_eve (i := 0) (by decide)) _) fl_X6_154 (.ref (a 28)) rfl dX6_pegHavingDanced_24 ?_
  obtain ⟨r3, σ4, hq, hF⟩ := rp_bd_e hF
  refine rp_kv (rp_runV (rest := []) hC (xE_ok _) hw hl.1 (mX0_pairUp (l := l) 2 (by decide) 0 (by decide) v1 v2 σ2 _ hq) vw_X6_158 (by decide) ((xt_ball (b := 2) (by decide)) _) rfl rfl rfl (Nat.le_of_ble_eq_true rfl) (by decide) dX6_pegHavingDanced_27) hw (fun H locs hw => ?_)
  clear hq
  refine lv_aload_n (pc := 30) hx hb dX6_pegHavingDanced_30 rfl (lv_at hl 0 rfl) ?_
  refine rp_get (pc := 31) hC hw 54 (by decide) (xt_reg _) fl_X6_26 (.ref (a 14)) rfl dX6_pegHavingDanced_31 ?_
  refine lv_iload_n (pc := 34) hx hb dX6_pegHavingDanced_34 rfl (lv_at hl 3 rfl) ?_
  refine lv_aload_n (pc := 35) hx hb dX6_pegHavingDanced_35 rfl (lv_at hl 0 rfl) ?_
  refine rp_get (pc := 36) hC hw 54 (by decide) (xt_reg _) fl_X6_10 (.ref (a 40)) rfl dX6_pegHavingDanced_36 ?_
  refine rp_get (pc := 39) hC hw 40 (by decide) ((xt_eve (i := 0) (by decide)) _) fl_X6_165 (.ref (a 31)) rfl dX6_pegHavingDanced_39 ?_
  obtain ⟨r5, σ6, hq, hF⟩ := rp_bd_e hF
  refine rp_kv (rp_runV (rest := []) hC (xE_ok _) hw hl.1 (mX0_passHours (l := l) 2 (by decide) 1 (by decide) v3 σ4 _ hq) vw_X6_168 (by decide) ((xt_ball (b := 2) (by decide)) _) rfl rfl rfl (Nat.le_of_ble_eq_true rfl) (by decide) dX6_pegHavingDanced_42) hw (fun H locs hw => ?_)
  clear hq
  refine lv_aload_n (pc := 45) hx hb dX6_pegHavingDanced_45 rfl (lv_at hl 0 rfl) ?_
  refine rp_get (pc := 46) hC hw 54 (by decide) (xt_reg _) fl_X6_26 (.ref (a 14)) rfl dX6_pegHavingDanced_46 ?_
  refine lv_iload_n (pc := 49) hx hb dX6_pegHavingDanced_49 rfl (lv_at hl 1 rfl) ?_
  obtain ⟨r7, σ8, hq, hF⟩ := rp_bd_e hF
  refine rp_ki (rp_runV (rest := []) hC (xE_ok _) hw hl.1 (mX0_pegOf (l := l) 2 (by decide) v1 σ6 _ hq) vw_X6_98 (by decide) ((xt_ball (b := 2) (by decide)) _) rfl rfl rfl (Nat.le_of_ble_eq_true rfl) (by decide) dX6_pegHavingDanced_50) hw (fun H locs hw => ?_)
  clear hq
  exact rp_reti (pc := 53) hC hw hF dX6_pegHavingDanced_53
theorem mX6_pegHavingDanced {l : Launch} {D : va_G} {cI cB cS : ClassId} {a : Nat → Nat} (v1 : Int32) (v2 : Int32) (v3 : Int32) (σ : rp_St) (res : Int32 × rp_St) (hF : fX6_pegHavingDanced v1 v2 v3 σ = some res) : xM l D cI cB cS a yX6_pegHavingDanced cX6_pegHavingDanced 4 (some .int) 6 [.ref (a 54), .int v1, .int v2, .int v3] σ (rp_Qi D a (xt cI cB cS a) 62 res) :=
  rp_entry (by decide) (Nat.le_of_ble_eq_true rfl) (fun p e s m below meth c ls hC hw hl => kX6_pegHavingDanced_0 hC v1 v2 v3 σ _ _ _ hF hw (lv_sub hl [0, 1, 2, 3] rfl))
def fX6_partner_27 (σ : rp_St) : Option (Int32 × rp_St) :=
  rp_bd (fX6_refuse 1 σ) (fun r1 σ2 => some (r1, σ2))
set_option maxRecDepth 100000 in
set_option maxHeartbeats 4000000 in
theorem kX6_partner_27 {p : Program} {l : Launch} {e : Env} {s : State} {m : MethodId} {args : Array Value} {below : List Frame} {meth : Method} {c : Code} {D : va_G} {cI cB cS : ClassId} {a : Nat → Nat} {res : Int32 × rp_St} (hC : xC p s m args meth c cX6_partner 8 "RegretPegs" (some .int) D cI cB cS a) (σ : rp_St) (H : Heap) (locs : List Loc) (ls : Array Slot) (hF : fX6_partner_27 σ = some res) (hw : xW D cI cB cS a s σ H locs) (hl : lv_has ls 8 [(0, .ref (a 54))]) : W p l e (rp_rm 7) s m args below meth c H locs 0 0 (MQ below (rp_Qi D a (xt cI cB cS a) 62 res) args s 0 0 (rp_A a 62)) (F0 m 27 ls []) := by
  have hx := hC.1
  have hb := hC.2.1
  have hown := hC.2.2.2.1
  have hts := hC.2.2.2.2.1
  unfold fX6_partner_27 at hF
  refine lv_aload_n (pc := 27) hx hb dX6_partner_27 rfl (lv_at hl 0 rfl) ?_
  refine lv_iconst (pc := 28) (v := 1) hx hb dX6_partner_28 (by decide) ?_
  obtain ⟨r1, σ2, hq, hF⟩ := rp_bd_e hF
  refine rp_ki (rp_runV (rest := []) hC (xE_ok _) hw hl.1 (mX6_refuse (l := l) 1 σ _ hq) vw_X6_66 (by decide) (xt_reg _) rfl rfl rfl (Nat.le_of_ble_eq_true rfl) (by decide) dX6_partner_29) hw (fun H locs hw => ?_)
  clear hq
  exact rp_reti (pc := 32) hC hw hF dX6_partner_32
def fX6_partner_89 (k43 : Int32 → Int32 → Int32 → Int32 → Int32 → Int32 → rp_St → Option (Int32 × rp_St)) (v1 : Int32) (v2 : Int32) (v3 : Int32) (v4 : Int32) (v5 : Int32) (v6 : Int32) (σ : rp_St) : Option (Int32 × rp_St) :=
  rp_nm (v6 + 1) (fun x1 => k43 v1 v2 v3 v4 v5 x1 σ)
set_option maxRecDepth 100000 in
set_option maxHeartbeats 4000000 in
theorem kX6_partner_89 {p : Program} {l : Launch} {e : Env} {s : State} {m : MethodId} {args : Array Value} {below : List Frame} {meth : Method} {c : Code} {D : va_G} {cI cB cS : ClassId} {a : Nat → Nat} {res : Int32 × rp_St} (hC : xC p s m args meth c cX6_partner 8 "RegretPegs" (some .int) D cI cB cS a) (k43 : Int32 → Int32 → Int32 → Int32 → Int32 → Int32 → rp_St → Option (Int32 × rp_St)) (hk43 : ∀ (v1 : Int32) (v2 : Int32) (v3 : Int32) (v4 : Int32) (v5 : Int32) (v6 : Int32) (σ : rp_St) (H : Heap) (locs : List Loc) (ls : Array Slot), k43 v1 v2 v3 v4 v5 v6 σ = some res → xW D cI cB cS a s σ H locs → lv_has ls 8 [(0, .ref (a 54)), (1, .int v1), (2, .int v2), (3, .int v3), (4, .int v4), (5, .int v5), (6, .int v6)] → W p l e (rp_rm 7) s m args below meth c H locs 0 0 (MQ below (rp_Qi D a (xt cI cB cS a) 62 res) args s 0 0 (rp_A a 62)) (F0 m 43 ls [])) (v1 : Int32) (v2 : Int32) (v3 : Int32) (v4 : Int32) (v5 : Int32) (v6 : Int32) (σ : rp_St) (H : Heap) (locs : List Loc) (ls : Array Slot) (hF : fX6_partner_89 k43 v1 v2 v3 v4 v5 v6 σ = some res) (hw : xW D cI cB cS a s σ H locs) (hl : lv_has ls 8 [(0, .ref (a 54)), (1, .int v1), (2, .int v2), (3, .int v3), (4, .int v4), (5, .int v5), (6, .int v6)]) : W p l e (rp_rm 7) s m args below meth c H locs 0 0 (MQ below (rp_Qi D a (xt cI cB cS a) 62 res) args s 0 0 (rp_A a 62)) (F0 m 89 ls []) := by
  have hx := hC.1
  have hb := hC.2.1
  have hown := hC.2.2.2.1
  have hts := hC.2.2.2.2.1
  unfold fX6_partner_89 at hF
  obtain ⟨x1, ex1, hF⟩ := rp_nm_e hF
  refine lv_iinc (pc := 89) (v := x1) (lv' := [(6, .int x1), (0, .ref (a 54)), (1, .int v1), (2, .int v2), (3, .int v3), (4, .int v4), (5, .int v5)]) hx hb dX6_partner_89 hl (k := 6) rfl (by rw [ex1]; rfl) (by decide) rfl (fun ls hl => ?_)
  refine lv_goto (pc := 92) (tgt := 43) hx hb dX6_partner_92 (by decide) ?_
  exact hk43 v1 v2 v3 v4 v5 x1 σ _ _ _ hF hw (lv_sub hl [1, 2, 3, 4, 5, 6, 0] rfl)
def fX6_partner_43 (k43 : Int32 → Int32 → Int32 → Int32 → Int32 → Int32 → rp_St → Option (Int32 × rp_St)) (v1 : Int32) (v2 : Int32) (v3 : Int32) (v4 : Int32) (v5 : Int32) (v6 : Int32) (σ : rp_St) : Option (Int32 × rp_St) :=
  (if (σ 0 0) ≤ v6 then (if v4 = (-1) then rp_bd (fX6_refuse 2 σ) (fun r1 σ2 => some (r1, σ2)) else (if v3 = 0 then some (v4, σ) else some (v5, σ))) else (if v6 = v1 then fX6_partner_89 k43 v1 v2 v3 v4 v5 v6 σ else rp_bd (fX6_pegHavingDanced v1 v6 v2 σ) (fun r3 σ4 => (if v5 ≤ r3 then fX6_partner_89 k43 v1 v2 v3 v4 v5 v6 σ4 else fX6_partner_89 k43 v1 v2 v3 v6 r3 v6 σ4))))
set_option maxRecDepth 100000 in
set_option maxHeartbeats 4000000 in
theorem kX6_partner_43 {p : Program} {l : Launch} {e : Env} {s : State} {m : MethodId} {args : Array Value} {below : List Frame} {meth : Method} {c : Code} {D : va_G} {cI cB cS : ClassId} {a : Nat → Nat} {res : Int32 × rp_St} (hC : xC p s m args meth c cX6_partner 8 "RegretPegs" (some .int) D cI cB cS a) (k43 : Int32 → Int32 → Int32 → Int32 → Int32 → Int32 → rp_St → Option (Int32 × rp_St)) (hk43 : ∀ (v1 : Int32) (v2 : Int32) (v3 : Int32) (v4 : Int32) (v5 : Int32) (v6 : Int32) (σ : rp_St) (H : Heap) (locs : List Loc) (ls : Array Slot), k43 v1 v2 v3 v4 v5 v6 σ = some res → xW D cI cB cS a s σ H locs → lv_has ls 8 [(0, .ref (a 54)), (1, .int v1), (2, .int v2), (3, .int v3), (4, .int v4), (5, .int v5), (6, .int v6)] → W p l e (rp_rm 7) s m args below meth c H locs 0 0 (MQ below (rp_Qi D a (xt cI cB cS a) 62 res) args s 0 0 (rp_A a 62)) (F0 m 43 ls [])) (v1 : Int32) (v2 : Int32) (v3 : Int32) (v4 : Int32) (v5 : Int32) (v6 : Int32) (σ : rp_St) (H : Heap) (locs : List Loc) (ls : Array Slot) (hF : fX6_partner_43 k43 v1 v2 v3 v4 v5 v6 σ = some res) (hw : xW D cI cB cS a s σ H locs) (hl : lv_has ls 8 [(0, .ref (a 54)), (1, .int v1), (2, .int v2), (3, .int v3), (4, .int v4), (5, .int v5), (6, .int v6)]) : W p l e (rp_rm 7) s m args below meth c H locs 0 0 (MQ below (rp_Qi D a (xt cI cB cS a) 62 res) args s 0 0 (rp_A a 62)) (F0 m 43 ls []) := by
  have hx := hC.1
  have hb := hC.2.1
  have hown := hC.2.2.2.1
  have hts := hC.2.2.2.2.1
  unfold fX6_partner_43 at hF
  refine lv_iload (pc := 43) hx hb dX6_partner_43 (lv_at hl 6 rfl) ?_
  refine lv_aload_n (pc := 45) hx hb dX6_partner_45 rfl (lv_at hl 0 rfl) ?_
  refine rp_get (pc := 46) hC hw 54 (by decide) (xt_reg _) fl_X6_10 (.ref (a 40)) rfl dX6_partner_46 ?_
  refine rp_get (pc := 49) hC hw 40 (by decide) ((xt_eve (i := 0) (by decide)) _) fl_X6_70 (.ref (a 0)) rfl dX6_partner_49 ?_
  refine rp_get (pc := 52) hC hw 0 (by decide) ((xt_ball (b := 0) (by decide)) _) fl_X6_73 (.int (σ 0 0)) rfl dX6_partner_52 ?_
  refine lv_icmp_ge (pc := 55) (tgt := 95) hx hb dX6_partner_55 (by decide) (fun hc => ?_) (fun hc => ?_)
  · replace hF := rp_it hc hF
    refine lv_iload (pc := 95) hx hb dX6_partner_95 (lv_at hl 4 rfl) ?_
    refine lv_iconst (pc := 97) (v := (-1)) hx hb dX6_partner_97 (by decide) ?_
    refine lv_icmp_ne (pc := 98) (tgt := 107) hx hb dX6_partner_98 (by decide) (fun hc => ?_) (fun hc => ?_)
    · replace hF := rp_if hc hF
      refine lv_iload_n (pc := 107) hx hb dX6_partner_107 rfl (lv_at hl 3 rfl) ?_
      refine lv_if_ne (pc := 108) (tgt := 116) hx hb dX6_partner_108 (by decide) (fun hc => ?_) (fun hc => ?_)
      · replace hF := rp_if hc hF
        refine lv_iload (pc := 116) hx hb dX6_partner_116 (lv_at hl 5 rfl) ?_
        exact rp_reti (pc := 118) hC hw hF dX6_partner_118
      · replace hF := rp_it hc hF
        refine lv_iload (pc := 111) hx hb dX6_partner_111 (lv_at hl 4 rfl) ?_
        refine lv_goto (pc := 113) (tgt := 118) hx hb dX6_partner_113 (by decide) ?_
        exact rp_reti (pc := 118) hC hw hF dX6_partner_118
    · replace hF := rp_it hc hF
      refine lv_aload_n (pc := 101) hx hb dX6_partner_101 rfl (lv_at hl 0 rfl) ?_
      refine lv_iconst (pc := 102) (v := 2) hx hb dX6_partner_102 (by decide) ?_
      obtain ⟨r1, σ2, hq, hF⟩ := rp_bd_e hF
      refine rp_ki (rp_runV (rest := []) hC (xE_ok _) hw hl.1 (mX6_refuse (l := l) 2 σ _ hq) vw_X6_66 (by decide) (xt_reg _) rfl rfl rfl (Nat.le_of_ble_eq_true rfl) (by decide) dX6_partner_103) hw (fun H locs hw => ?_)
      clear hq
      exact rp_reti (pc := 106) hC hw hF dX6_partner_106
  · replace hF := rp_if hc hF
    refine lv_iload (pc := 58) hx hb dX6_partner_58 (lv_at hl 6 rfl) ?_
    refine lv_iload_n (pc := 60) hx hb dX6_partner_60 rfl (lv_at hl 1 rfl) ?_
    refine lv_icmp_eq (pc := 61) (tgt := 89) hx hb dX6_partner_61 (by decide) (fun hc => ?_) (fun hc => ?_)
    · replace hF := rp_it hc hF
      exact kX6_partner_89 hC k43 hk43 v1 v2 v3 v4 v5 v6 σ _ _ _ hF hw (lv_sub hl [0, 1, 2, 3, 4, 5, 6] rfl)
    · replace hF := rp_if hc hF
      refine lv_aload_n (pc := 64) hx hb dX6_partner_64 rfl (lv_at hl 0 rfl) ?_
      refine lv_iload_n (pc := 65) hx hb dX6_partner_65 rfl (lv_at hl 1 rfl) ?_
      refine lv_iload (pc := 66) hx hb dX6_partner_66 (lv_at hl 6 rfl) ?_
      refine lv_iload_n (pc := 68) hx hb dX6_partner_68 rfl (lv_at hl 2 rfl) ?_
      obtain ⟨r3, σ4, hq, hF⟩ := rp_bd_e hF
      refine rp_ki (rp_runV (rest := []) hC (xE_ok _) hw hl.1 (mX6_pegHavingDanced (l := l) v1 v6 v2 σ _ hq) vw_X6_186 (by decide) (xt_reg _) rfl rfl rfl (Nat.le_of_ble_eq_true rfl) (by decide) dX6_partner_69) hw (fun H locs hw => ?_)
      clear hq
      refine lv_istore (pc := 72) (lv' := [(7, .int r3), (0, .ref (a 54)), (1, .int v1), (2, .int v2), (3, .int v3), (4, .int v4), (5, .int v5), (6, .int v6)]) hx hb dX6_partner_72 hl (by decide) rfl (fun ls hl => ?_)
      refine lv_iload (pc := 74) hx hb dX6_partner_74 (lv_at hl 0 rfl) ?_
      refine lv_iload (pc := 76) hx hb dX6_partner_76 (lv_at hl 6 rfl) ?_
      refine lv_icmp_ge (pc := 78) (tgt := 89) hx hb dX6_partner_78 (by decide) (fun hc => ?_) (fun hc => ?_)
      · replace hF := rp_it hc hF
        exact kX6_partner_89 hC k43 hk43 v1 v2 v3 v4 v5 v6 σ4 _ _ _ hF hw (lv_sub hl [1, 2, 3, 4, 5, 6, 7] rfl)
      · replace hF := rp_if hc hF
        refine lv_iload (pc := 81) hx hb dX6_partner_81 (lv_at hl 0 rfl) ?_
        refine lv_istore (pc := 83) (lv' := [(5, .int r3), (7, .int r3), (0, .ref (a 54)), (1, .int v1), (2, .int v2), (3, .int v3), (4, .int v4), (6, .int v6)]) hx hb dX6_partner_83 hl (by decide) rfl (fun ls hl => ?_)
        refine lv_iload (pc := 85) hx hb dX6_partner_85 (lv_at hl 7 rfl) ?_
        refine lv_istore (pc := 87) (lv' := [(4, .int v6), (5, .int r3), (7, .int r3), (0, .ref (a 54)), (1, .int v1), (2, .int v2), (3, .int v3), (6, .int v6)]) hx hb dX6_partner_87 hl (by decide) rfl (fun ls hl => ?_)
        exact kX6_partner_89 hC k43 hk43 v1 v2 v3 v6 r3 v6 σ4 _ _ _ hF hw (lv_sub hl [3, 4, 5, 6, 0, 1, 7] rfl)
theorem lX6_partner_43 {p : Program} {l : Launch} {e : Env} {s : State} {m : MethodId} {args : Array Value} {below : List Frame} {meth : Method} {c : Code} {D : va_G} {cI cB cS : ClassId} {a : Nat → Nat} {res : Int32 × rp_St} (hC : xC p s m args meth c cX6_partner 8 "RegretPegs" (some .int) D cI cB cS a) : ∀ (n : Nat) (v1 : Int32) (v2 : Int32) (v3 : Int32) (v4 : Int32) (v5 : Int32) (v6 : Int32) (σ : rp_St) (H : Heap) (locs : List Loc) (ls : Array Slot), rp_lp (fun _ _ _ _ _ _ _ => none) (fX6_partner_43) n v1 v2 v3 v4 v5 v6 σ = some res → xW D cI cB cS a s σ H locs → lv_has ls 8 [(0, .ref (a 54)), (1, .int v1), (2, .int v2), (3, .int v3), (4, .int v4), (5, .int v5), (6, .int v6)] → W p l e (rp_rm 7) s m args below meth c H locs 0 0 (MQ below (rp_Qi D a (xt cI cB cS a) 62 res) args s 0 0 (rp_A a 62)) (F0 m 43 ls [])
  | 0, _, _, _, _, _, _, _, _, _, _, hF, _, _ => nomatch hF
  | n + 1, v1, v2, v3, v4, v5, v6, σ, H, locs, ls, hF, hw, hl => kX6_partner_43 hC (rp_lp (fun _ _ _ _ _ _ _ => none) (fX6_partner_43) n) (lX6_partner_43 hC n) v1 v2 v3 v4 v5 v6 σ H locs ls hF hw hl
def fX6_partner (v1 : Int32) (v2 : Int32) (v3 : Int32) (σ : rp_St) : Option (Int32 × rp_St) :=
  rp_bd (fX6_isGuest v1 σ) (fun r1 σ2 => (if r1 = 0 then fX6_partner_27 σ2 else rp_bd (fX6_isWithin v2 0 20 σ2) (fun r3 σ4 => (if r3 = 0 then fX6_partner_27 σ4 else rp_bd (fX6_isWithin v3 0 1 σ4) (fun r5 σ6 => (if r5 = 0 then fX6_partner_27 σ6 else rp_lp (fun _ _ _ _ _ _ _ => none) (fX6_partner_43) 300 v1 v2 v3 (-1) 7 0 σ6))))))
set_option maxRecDepth 100000 in
set_option maxHeartbeats 4000000 in
theorem kX6_partner_0 {p : Program} {l : Launch} {e : Env} {s : State} {m : MethodId} {args : Array Value} {below : List Frame} {meth : Method} {c : Code} {D : va_G} {cI cB cS : ClassId} {a : Nat → Nat} {res : Int32 × rp_St} (hC : xC p s m args meth c cX6_partner 8 "RegretPegs" (some .int) D cI cB cS a) (v1 : Int32) (v2 : Int32) (v3 : Int32) (σ : rp_St) (H : Heap) (locs : List Loc) (ls : Array Slot) (hF : fX6_partner v1 v2 v3 σ = some res) (hw : xW D cI cB cS a s σ H locs) (hl : lv_has ls 8 [(0, .ref (a 54)), (1, .int v1), (2, .int v2), (3, .int v3)]) : W p l e (rp_rm 7) s m args below meth c H locs 0 0 (MQ below (rp_Qi D a (xt cI cB cS a) 62 res) args s 0 0 (rp_A a 62)) (F0 m 0 ls []) := by
  have hx := hC.1
  have hb := hC.2.1
  have hown := hC.2.2.2.1
  have hts := hC.2.2.2.2.1
  unfold fX6_partner at hF
  refine lv_aload_n (pc := 0) hx hb dX6_partner_0 rfl (lv_at hl 0 rfl) ?_
  refine lv_iload_n (pc := 1) hx hb dX6_partner_1 rfl (lv_at hl 1 rfl) ?_
  obtain ⟨r1, σ2, hq, hF⟩ := rp_bd_e hF
  refine rp_ki (rp_runV (rest := []) hC (xE_ok _) hw hl.1 (mX6_isGuest (l := l) v1 σ _ hq) vw_X6_80 (by decide) (xt_reg _) rfl rfl rfl (Nat.le_of_ble_eq_true rfl) (by decide) dX6_partner_2) hw (fun H locs hw => ?_)
  clear hq
  refine lv_if_eq (pc := 5) (tgt := 27) hx hb dX6_partner_5 (by decide) (fun hc => ?_) (fun hc => ?_)
  · replace hF := rp_it hc hF
    exact kX6_partner_27 hC σ2 _ _ _ hF hw (lv_sub hl [0] rfl)
  · replace hF := rp_if hc hF
    refine lv_iload_n (pc := 8) hx hb dX6_partner_8 rfl (lv_at hl 2 rfl) ?_
    refine lv_iconst (pc := 9) (v := 0) hx hb dX6_partner_9 (by decide) ?_
    refine lv_bipush (pc := 10) (v := 20) hx hb dX6_partner_10 (by decide) ?_
    obtain ⟨r3, σ4, hq, hF⟩ := rp_bd_e hF
    refine rp_ki (rp_runZ (rest := []) hC (xE_ok _) hw hl.1 (mX6_isWithin (l := l) v2 0 20 σ2 _ hq) zw_X6_62 rfl rfl (Nat.le_of_ble_eq_true rfl) (by decide) dX6_partner_12) hw (fun H locs hw => ?_)
    clear hq
    refine lv_if_eq (pc := 15) (tgt := 27) hx hb dX6_partner_15 (by decide) (fun hc => ?_) (fun hc => ?_)
    · replace hF := rp_it hc hF
      exact kX6_partner_27 hC σ4 _ _ _ hF hw (lv_sub hl [0] rfl)
    · replace hF := rp_if hc hF
      refine lv_iload_n (pc := 18) hx hb dX6_partner_18 rfl (lv_at hl 3 rfl) ?_
      refine lv_iconst (pc := 19) (v := 0) hx hb dX6_partner_19 (by decide) ?_
      refine lv_iconst (pc := 20) (v := 1) hx hb dX6_partner_20 (by decide) ?_
      obtain ⟨r5, σ6, hq, hF⟩ := rp_bd_e hF
      refine rp_ki (rp_runZ (rest := []) hC (xE_ok _) hw hl.1 (mX6_isWithin (l := l) v3 0 1 σ4 _ hq) zw_X6_62 rfl rfl (Nat.le_of_ble_eq_true rfl) (by decide) dX6_partner_21) hw (fun H locs hw => ?_)
      clear hq
      refine lv_if_ne (pc := 24) (tgt := 33) hx hb dX6_partner_24 (by decide) (fun hc => ?_) (fun hc => ?_)
      · replace hF := rp_if hc hF
        refine lv_iconst (pc := 33) (v := (-1)) hx hb dX6_partner_33 (by decide) ?_
        refine lv_istore (pc := 34) (lv' := [(4, .int (-1)), (0, .ref (a 54)), (1, .int v1), (2, .int v2), (3, .int v3)]) hx hb dX6_partner_34 hl (by decide) rfl (fun ls hl => ?_)
        refine lv_bipush (pc := 36) (v := 7) hx hb dX6_partner_36 (by decide) ?_
        refine lv_istore (pc := 38) (lv' := [(5, .int 7), (4, .int (-1)), (0, .ref (a 54)), (1, .int v1), (2, .int v2), (3, .int v3)]) hx hb dX6_partner_38 hl (by decide) rfl (fun ls hl => ?_)
        refine lv_iconst (pc := 40) (v := 0) hx hb dX6_partner_40 (by decide) ?_
        refine lv_istore (pc := 41) (lv' := [(6, .int 0), (5, .int 7), (4, .int (-1)), (0, .ref (a 54)), (1, .int v1), (2, .int v2), (3, .int v3)]) hx hb dX6_partner_41 hl (by decide) rfl (fun ls hl => ?_)
        exact lX6_partner_43 hC 300 v1 v2 v3 (-1) 7 0 σ6 _ _ _ hF hw (lv_sub hl [3, 4, 5, 6, 2, 1, 0] rfl)
      · replace hF := rp_it hc hF
        exact kX6_partner_27 hC σ6 _ _ _ hF hw (lv_sub hl [0] rfl)
theorem mX6_partner {l : Launch} {D : va_G} {cI cB cS : ClassId} {a : Nat → Nat} (v1 : Int32) (v2 : Int32) (v3 : Int32) (σ : rp_St) (res : Int32 × rp_St) (hF : fX6_partner v1 v2 v3 σ = some res) : xM l D cI cB cS a yX6_partner cX6_partner 8 (some .int) 7 [.ref (a 54), .int v1, .int v2, .int v3] σ (rp_Qi D a (xt cI cB cS a) 62 res) :=
  rp_entry (by decide) (Nat.le_of_ble_eq_true rfl) (fun p e s m below meth c ls hC hw hl => kX6_partner_0 hC v1 v2 v3 σ _ _ _ hF hw (lv_sub hl [0, 1, 2, 3] rfl))
def fX6_danceThatHelps_18 (g1 : Nat) (k3 : Int32 → Int32 → Int32 → Int32 → rp_St → Option (Int32 × rp_St)) (k18 : Int32 → Int32 → Int32 → Int32 → Int32 → rp_St → Option (Int32 × rp_St)) (v2 : Int32) (v3 : Int32) (v4 : Int32) (v5 : Int32) (v6 : Int32) (σ : rp_St) : Option (Int32 × rp_St) :=
  (if (σ (7 * g1) 0) ≤ v6 then rp_nm (v5 + 1) (fun x1 => k3 v2 v3 v4 x1 σ) else rp_bd (fX0_takeFrom 2 g1 σ) (fun _ σ3 => rp_bd (fX0_pairUp 2 0 v5 v6 σ3) (fun _ σ5 => rp_bd (fX0_passHours 2 1 v4 σ5) (fun _ σ7 => rp_bd (fX0_pegOf 2 v2 σ7) (fun r8 σ9 => (if v3 < r8 then rp_nm (v6 + 1) (fun x10 => k18 v2 v3 v4 v5 x10 σ9) else some (((10 * v5) + v6), σ9)))))))
set_option maxRecDepth 100000 in
set_option maxHeartbeats 4000000 in
theorem kX6_danceThatHelps_18 {p : Program} {l : Launch} {e : Env} {s : State} {m : MethodId} {args : Array Value} {below : List Frame} {meth : Method} {c : Code} {D : va_G} {cI cB cS : ClassId} {a : Nat → Nat} {res : Int32 × rp_St} (g1 : Nat) (h_g1 : g1 < 4) (hC : xC p s m args meth c cX6_danceThatHelps 7 "RegretPegs" (some .int) D cI cB cS a) (k3 : Int32 → Int32 → Int32 → Int32 → rp_St → Option (Int32 × rp_St)) (hk3 : ∀ (v2 : Int32) (v3 : Int32) (v4 : Int32) (v5 : Int32) (σ : rp_St) (H : Heap) (locs : List Loc) (ls : Array Slot), k3 v2 v3 v4 v5 σ = some res → xW D cI cB cS a s σ H locs → lv_has ls 7 [(0, .ref (a 54)), (1, .ref (a (7 * g1))), (2, .int v2), (3, .int v3), (4, .int v4), (5, .int v5)] → W p l e (rp_rm 6) s m args below meth c H locs 0 0 (MQ below (rp_Qi D a (xt cI cB cS a) 62 res) args s 0 0 (rp_A a 62)) (F0 m 3 ls [])) (k18 : Int32 → Int32 → Int32 → Int32 → Int32 → rp_St → Option (Int32 × rp_St)) (hk18 : ∀ (v2 : Int32) (v3 : Int32) (v4 : Int32) (v5 : Int32) (v6 : Int32) (σ : rp_St) (H : Heap) (locs : List Loc) (ls : Array Slot), k18 v2 v3 v4 v5 v6 σ = some res → xW D cI cB cS a s σ H locs → lv_has ls 7 [(0, .ref (a 54)), (1, .ref (a (7 * g1))), (2, .int v2), (3, .int v3), (4, .int v4), (5, .int v5), (6, .int v6)] → W p l e (rp_rm 6) s m args below meth c H locs 0 0 (MQ below (rp_Qi D a (xt cI cB cS a) 62 res) args s 0 0 (rp_A a 62)) (F0 m 18 ls [])) (v2 : Int32) (v3 : Int32) (v4 : Int32) (v5 : Int32) (v6 : Int32) (σ : rp_St) (H : Heap) (locs : List Loc) (ls : Array Slot) (hF : fX6_danceThatHelps_18 g1 k3 k18 v2 v3 v4 v5 v6 σ = some res) (hw : xW D cI cB cS a s σ H locs) (hl : lv_has ls 7 [(0, .ref (a 54)), (1, .ref (a (7 * g1))), (2, .int v2), (3, .int v3), (4, .int v4), (5, .int v5), (6, .int v6)]) : W p l e (rp_rm 6) s m args below meth c H locs 0 0 (MQ below (rp_Qi D a (xt cI cB cS a) 62 res) args s 0 0 (rp_A a 62)) (F0 m 18 ls []) := by
  have hx := hC.1
  have hb := hC.2.1
  have hown := hC.2.2.2.1
  have hts := hC.2.2.2.2.1
  unfold fX6_danceThatHelps_18 at hF
  refine lv_iload (pc := 18) hx hb dX6_danceThatHelps_18 (lv_at hl 6 rfl) ?_
  refine lv_aload_n (pc := 20) hx hb dX6_danceThatHelps_20 rfl (lv_at hl 1 rfl) ?_
  refine rp_get (pc := 21) hC hw (7 * g1) (by omega) ((xt_ball (b := g1) (by omega)) _) fl_X6_73 (.int (σ (7 * g1) 0)) rfl dX6_danceThatHelps_21 ?_
  refine lv_icmp_ge (pc := 24) (tgt := 96) hx hb dX6_danceThatHelps_24 (by decide) (fun hc => ?_) (fun hc => ?_)
  · replace hF := rp_it hc hF
    obtain ⟨x1, ex1, hF⟩ := rp_nm_e hF
    refine lv_iinc (pc := 96) (v := x1) (lv' := [(5, .int x1), (0, .ref (a 54)), (1, .ref (a (7 * g1))), (2, .int v2), (3, .int v3), (4, .int v4), (6, .int v6)]) hx hb dX6_danceThatHelps_96 hl (k := 5) rfl (by rw [ex1]; rfl) (by decide) rfl (fun ls hl => ?_)
    refine lv_goto (pc := 99) (tgt := 3) hx hb dX6_danceThatHelps_99 (by decide) ?_
    exact hk3 v2 v3 v4 x1 σ _ _ _ hF hw (lv_sub hl [1, 2, 3, 4, 5, 0] rfl)
  · replace hF := rp_if hc hF
    refine lv_aload_n (pc := 27) hx hb dX6_danceThatHelps_27 rfl (lv_at hl 0 rfl) ?_
    refine rp_get (pc := 28) hC hw 54 (by decide) (xt_reg _) fl_X6_26 (.ref (a 14)) rfl dX6_danceThatHelps_28 ?_
    refine lv_aload_n (pc := 31) hx hb dX6_danceThatHelps_31 rfl (lv_at hl 1 rfl) ?_
    obtain ⟨r2, σ3, hq, hF⟩ := rp_bd_e hF
    refine rp_kv (rp_runV (rest := []) hC (xE_ok _) hw hl.1 (mX0_takeFrom (l := l) 2 (by decide) g1 (by omega) σ _ hq) vw_X6_179 (by decide) ((xt_ball (b := 2) (by decide)) _) rfl rfl rfl (Nat.le_of_ble_eq_true rfl) (by decide) dX6_danceThatHelps_32) hw (fun H locs hw => ?_)
    clear hq
    refine lv_aload_n (pc := 35) hx hb dX6_danceThatHelps_35 rfl (lv_at hl 0 rfl) ?_
    refine rp_get (pc := 36) hC hw 54 (by decide) (xt_reg _) fl_X6_26 (.ref (a 14)) rfl dX6_danceThatHelps_36 ?_
    refine lv_iload (pc := 39) hx hb dX6_danceThatHelps_39 (lv_at hl 5 rfl) ?_
    refine lv_iload (pc := 41) hx hb dX6_danceThatHelps_41 (lv_at hl 6 rfl) ?_
    refine lv_aload_n (pc := 43) hx hb dX6_danceThatHelps_43 rfl (lv_at hl 0 rfl) ?_
    refine rp_get (pc := 44) hC hw 54 (by decide) (xt_reg _) fl_X6_10 (.ref (a 40)) rfl dX6_danceThatHelps_44 ?_
    refine rp_get (pc := 47) hC hw 40 (by decide) ((xt_eve (i := 0) (by decide)) _) fl_X6_154 (.ref (a 28)) rfl dX6_danceThatHelps_47 ?_
    obtain ⟨r4, σ5, hq, hF⟩ := rp_bd_e hF
    refine rp_kv (rp_runV (rest := []) hC (xE_ok _) hw hl.1 (mX0_pairUp (l := l) 2 (by decide) 0 (by decide) v5 v6 σ3 _ hq) vw_X6_158 (by decide) ((xt_ball (b := 2) (by decide)) _) rfl rfl rfl (Nat.le_of_ble_eq_true rfl) (by decide) dX6_danceThatHelps_50) hw (fun H locs hw => ?_)
    clear hq
    refine lv_aload_n (pc := 53) hx hb dX6_danceThatHelps_53 rfl (lv_at hl 0 rfl) ?_
    refine rp_get (pc := 54) hC hw 54 (by decide) (xt_reg _) fl_X6_26 (.ref (a 14)) rfl dX6_danceThatHelps_54 ?_
    refine lv_iload (pc := 57) hx hb dX6_danceThatHelps_57 (lv_at hl 4 rfl) ?_
    refine lv_aload_n (pc := 59) hx hb dX6_danceThatHelps_59 rfl (lv_at hl 0 rfl) ?_
    refine rp_get (pc := 60) hC hw 54 (by decide) (xt_reg _) fl_X6_10 (.ref (a 40)) rfl dX6_danceThatHelps_60 ?_
    refine rp_get (pc := 63) hC hw 40 (by decide) ((xt_eve (i := 0) (by decide)) _) fl_X6_165 (.ref (a 31)) rfl dX6_danceThatHelps_63 ?_
    obtain ⟨r6, σ7, hq, hF⟩ := rp_bd_e hF
    refine rp_kv (rp_runV (rest := []) hC (xE_ok _) hw hl.1 (mX0_passHours (l := l) 2 (by decide) 1 (by decide) v4 σ5 _ hq) vw_X6_168 (by decide) ((xt_ball (b := 2) (by decide)) _) rfl rfl rfl (Nat.le_of_ble_eq_true rfl) (by decide) dX6_danceThatHelps_66) hw (fun H locs hw => ?_)
    clear hq
    refine lv_aload_n (pc := 69) hx hb dX6_danceThatHelps_69 rfl (lv_at hl 0 rfl) ?_
    refine rp_get (pc := 70) hC hw 54 (by decide) (xt_reg _) fl_X6_26 (.ref (a 14)) rfl dX6_danceThatHelps_70 ?_
    refine lv_iload_n (pc := 73) hx hb dX6_danceThatHelps_73 rfl (lv_at hl 2 rfl) ?_
    obtain ⟨r8, σ9, hq, hF⟩ := rp_bd_e hF
    refine rp_ki (rp_runV (rest := []) hC (xE_ok _) hw hl.1 (mX0_pegOf (l := l) 2 (by decide) v2 σ7 _ hq) vw_X6_98 (by decide) ((xt_ball (b := 2) (by decide)) _) rfl rfl rfl (Nat.le_of_ble_eq_true rfl) (by decide) dX6_danceThatHelps_74) hw (fun H locs hw => ?_)
    clear hq
    refine lv_iload_n (pc := 77) hx hb dX6_danceThatHelps_77 rfl (lv_at hl 3 rfl) ?_
    refine lv_icmp_gt (pc := 78) (tgt := 90) hx hb dX6_danceThatHelps_78 (by decide) (fun hc => ?_) (fun hc => ?_)
    · replace hF := rp_it hc hF
      obtain ⟨x10, ex10, hF⟩ := rp_nm_e hF
      refine lv_iinc (pc := 90) (v := x10) (lv' := [(6, .int x10), (0, .ref (a 54)), (1, .ref (a (7 * g1))), (2, .int v2), (3, .int v3), (4, .int v4), (5, .int v5)]) hx hb dX6_danceThatHelps_90 hl (k := 6) rfl (by rw [ex10]; rfl) (by decide) rfl (fun ls hl => ?_)
      refine lv_goto (pc := 93) (tgt := 18) hx hb dX6_danceThatHelps_93 (by decide) ?_
      exact hk18 v2 v3 v4 v5 x10 σ9 _ _ _ hF hw (lv_sub hl [1, 2, 3, 4, 5, 6, 0] rfl)
    · replace hF := rp_if hc hF
      refine lv_bipush (pc := 81) (v := 10) hx hb dX6_danceThatHelps_81 (by decide) ?_
      refine lv_iload (pc := 83) hx hb dX6_danceThatHelps_83 (lv_at hl 5 rfl) ?_
      refine lv_imul (pc := 85) hx hb dX6_danceThatHelps_85 ?_
      refine lv_iload (pc := 86) hx hb dX6_danceThatHelps_86 (lv_at hl 6 rfl) ?_
      refine lv_iadd (pc := 88) hx hb dX6_danceThatHelps_88 ?_
      exact rp_reti (pc := 89) hC hw hF dX6_danceThatHelps_89
theorem lX6_danceThatHelps_18 {p : Program} {l : Launch} {e : Env} {s : State} {m : MethodId} {args : Array Value} {below : List Frame} {meth : Method} {c : Code} {D : va_G} {cI cB cS : ClassId} {a : Nat → Nat} {res : Int32 × rp_St} (g1 : Nat) (h_g1 : g1 < 4) (hC : xC p s m args meth c cX6_danceThatHelps 7 "RegretPegs" (some .int) D cI cB cS a) (k3 : Int32 → Int32 → Int32 → Int32 → rp_St → Option (Int32 × rp_St)) (hk3 : ∀ (v2 : Int32) (v3 : Int32) (v4 : Int32) (v5 : Int32) (σ : rp_St) (H : Heap) (locs : List Loc) (ls : Array Slot), k3 v2 v3 v4 v5 σ = some res → xW D cI cB cS a s σ H locs → lv_has ls 7 [(0, .ref (a 54)), (1, .ref (a (7 * g1))), (2, .int v2), (3, .int v3), (4, .int v4), (5, .int v5)] → W p l e (rp_rm 6) s m args below meth c H locs 0 0 (MQ below (rp_Qi D a (xt cI cB cS a) 62 res) args s 0 0 (rp_A a 62)) (F0 m 3 ls [])) : ∀ (n : Nat) (v2 : Int32) (v3 : Int32) (v4 : Int32) (v5 : Int32) (v6 : Int32) (σ : rp_St) (H : Heap) (locs : List Loc) (ls : Array Slot), rp_lp (fun _ _ _ _ _ _ => none) (fX6_danceThatHelps_18 g1 k3) n v2 v3 v4 v5 v6 σ = some res → xW D cI cB cS a s σ H locs → lv_has ls 7 [(0, .ref (a 54)), (1, .ref (a (7 * g1))), (2, .int v2), (3, .int v3), (4, .int v4), (5, .int v5), (6, .int v6)] → W p l e (rp_rm 6) s m args below meth c H locs 0 0 (MQ below (rp_Qi D a (xt cI cB cS a) 62 res) args s 0 0 (rp_A a 62)) (F0 m 18 ls [])
  | 0, _, _, _, _, _, _, _, _, _, hF, _, _ => nomatch hF
  | n + 1, v2, v3, v4, v5, v6, σ, H, locs, ls, hF, hw, hl => kX6_danceThatHelps_18 g1 h_g1 hC k3 hk3 (rp_lp (fun _ _ _ _ _ _ => none) (fX6_danceThatHelps_18 g1 k3) n) (lX6_danceThatHelps_18 g1 h_g1 hC k3 hk3 n) v2 v3 v4 v5 v6 σ H locs ls hF hw hl
def fX6_danceThatHelps_3 (g1 : Nat) (k3 : Int32 → Int32 → Int32 → Int32 → rp_St → Option (Int32 × rp_St)) (v2 : Int32) (v3 : Int32) (v4 : Int32) (v5 : Int32) (σ : rp_St) : Option (Int32 × rp_St) :=
  (if (σ (7 * g1) 0) ≤ v5 then some ((-1), σ) else rp_nm (v5 + 1) (fun x1 => rp_lp (fun _ _ _ _ _ _ => none) (fX6_danceThatHelps_18 g1 k3) 300 v2 v3 v4 v5 x1 σ))
set_option maxRecDepth 100000 in
set_option maxHeartbeats 4000000 in
theorem kX6_danceThatHelps_3 {p : Program} {l : Launch} {e : Env} {s : State} {m : MethodId} {args : Array Value} {below : List Frame} {meth : Method} {c : Code} {D : va_G} {cI cB cS : ClassId} {a : Nat → Nat} {res : Int32 × rp_St} (g1 : Nat) (h_g1 : g1 < 4) (hC : xC p s m args meth c cX6_danceThatHelps 7 "RegretPegs" (some .int) D cI cB cS a) (k3 : Int32 → Int32 → Int32 → Int32 → rp_St → Option (Int32 × rp_St)) (hk3 : ∀ (v2 : Int32) (v3 : Int32) (v4 : Int32) (v5 : Int32) (σ : rp_St) (H : Heap) (locs : List Loc) (ls : Array Slot), k3 v2 v3 v4 v5 σ = some res → xW D cI cB cS a s σ H locs → lv_has ls 7 [(0, .ref (a 54)), (1, .ref (a (7 * g1))), (2, .int v2), (3, .int v3), (4, .int v4), (5, .int v5)] → W p l e (rp_rm 6) s m args below meth c H locs 0 0 (MQ below (rp_Qi D a (xt cI cB cS a) 62 res) args s 0 0 (rp_A a 62)) (F0 m 3 ls [])) (v2 : Int32) (v3 : Int32) (v4 : Int32) (v5 : Int32) (σ : rp_St) (H : Heap) (locs : List Loc) (ls : Array Slot) (hF : fX6_danceThatHelps_3 g1 k3 v2 v3 v4 v5 σ = some res) (hw : xW D cI cB cS a s σ H locs) (hl : lv_has ls 7 [(0, .ref (a 54)), (1, .ref (a (7 * g1))), (2, .int v2), (3, .int v3), (4, .int v4), (5, .int v5)]) : W p l e (rp_rm 6) s m args below meth c H locs 0 0 (MQ below (rp_Qi D a (xt cI cB cS a) 62 res) args s 0 0 (rp_A a 62)) (F0 m 3 ls []) := by
  have hx := hC.1
  have hb := hC.2.1
  have hown := hC.2.2.2.1
  have hts := hC.2.2.2.2.1
  unfold fX6_danceThatHelps_3 at hF
  refine lv_iload (pc := 3) hx hb dX6_danceThatHelps_3 (lv_at hl 5 rfl) ?_
  refine lv_aload_n (pc := 5) hx hb dX6_danceThatHelps_5 rfl (lv_at hl 1 rfl) ?_
  refine rp_get (pc := 6) hC hw (7 * g1) (by omega) ((xt_ball (b := g1) (by omega)) _) fl_X6_73 (.int (σ (7 * g1) 0)) rfl dX6_danceThatHelps_6 ?_
  refine lv_icmp_ge (pc := 9) (tgt := 102) hx hb dX6_danceThatHelps_9 (by decide) (fun hc => ?_) (fun hc => ?_)
  · replace hF := rp_it hc hF
    refine lv_iconst (pc := 102) (v := (-1)) hx hb dX6_danceThatHelps_102 (by decide) ?_
    exact rp_reti (pc := 103) hC hw hF dX6_danceThatHelps_103
  · replace hF := rp_if hc hF
    refine lv_iload (pc := 12) hx hb dX6_danceThatHelps_12 (lv_at hl 5 rfl) ?_
    refine lv_iconst (pc := 14) (v := 1) hx hb dX6_danceThatHelps_14 (by decide) ?_
    refine lv_iadd (pc := 15) hx hb dX6_danceThatHelps_15 ?_
    obtain ⟨x1, ex1, hF⟩ := rp_nm_e hF
    refine rp_top ex1 ?_
    refine lv_istore (pc := 16) (lv' := [(6, .int x1), (0, .ref (a 54)), (1, .ref (a (7 * g1))), (2, .int v2), (3, .int v3), (4, .int v4), (5, .int v5)]) hx hb dX6_danceThatHelps_16 hl (by decide) rfl (fun ls hl => ?_)
    exact lX6_danceThatHelps_18 g1 h_g1 hC k3 hk3 300 v2 v3 v4 v5 x1 σ _ _ _ hF hw (lv_sub hl [1, 2, 3, 4, 5, 6, 0] rfl)
theorem lX6_danceThatHelps_3 {p : Program} {l : Launch} {e : Env} {s : State} {m : MethodId} {args : Array Value} {below : List Frame} {meth : Method} {c : Code} {D : va_G} {cI cB cS : ClassId} {a : Nat → Nat} {res : Int32 × rp_St} (g1 : Nat) (h_g1 : g1 < 4) (hC : xC p s m args meth c cX6_danceThatHelps 7 "RegretPegs" (some .int) D cI cB cS a) : ∀ (n : Nat) (v2 : Int32) (v3 : Int32) (v4 : Int32) (v5 : Int32) (σ : rp_St) (H : Heap) (locs : List Loc) (ls : Array Slot), rp_lp (fun _ _ _ _ _ => none) (fX6_danceThatHelps_3 g1) n v2 v3 v4 v5 σ = some res → xW D cI cB cS a s σ H locs → lv_has ls 7 [(0, .ref (a 54)), (1, .ref (a (7 * g1))), (2, .int v2), (3, .int v3), (4, .int v4), (5, .int v5)] → W p l e (rp_rm 6) s m args below meth c H locs 0 0 (MQ below (rp_Qi D a (xt cI cB cS a) 62 res) args s 0 0 (rp_A a 62)) (F0 m 3 ls [])
  | 0, _, _, _, _, _, _, _, _, hF, _, _ => nomatch hF
  | n + 1, v2, v3, v4, v5, σ, H, locs, ls, hF, hw, hl => kX6_danceThatHelps_3 g1 h_g1 hC (rp_lp (fun _ _ _ _ _ => none) (fX6_danceThatHelps_3 g1) n) (lX6_danceThatHelps_3 g1 h_g1 hC n) v2 v3 v4 v5 σ H locs ls hF hw hl
def fX6_danceThatHelps (g1 : Nat) (v2 : Int32) (v3 : Int32) (v4 : Int32) (σ : rp_St) : Option (Int32 × rp_St) :=
  rp_lp (fun _ _ _ _ _ => none) (fX6_danceThatHelps_3 g1) 300 v2 v3 v4 0 σ
set_option maxRecDepth 100000 in
set_option maxHeartbeats 4000000 in
theorem kX6_danceThatHelps_0 {p : Program} {l : Launch} {e : Env} {s : State} {m : MethodId} {args : Array Value} {below : List Frame} {meth : Method} {c : Code} {D : va_G} {cI cB cS : ClassId} {a : Nat → Nat} {res : Int32 × rp_St} (g1 : Nat) (h_g1 : g1 < 4) (hC : xC p s m args meth c cX6_danceThatHelps 7 "RegretPegs" (some .int) D cI cB cS a) (v2 : Int32) (v3 : Int32) (v4 : Int32) (σ : rp_St) (H : Heap) (locs : List Loc) (ls : Array Slot) (hF : fX6_danceThatHelps g1 v2 v3 v4 σ = some res) (hw : xW D cI cB cS a s σ H locs) (hl : lv_has ls 7 [(0, .ref (a 54)), (1, .ref (a (7 * g1))), (2, .int v2), (3, .int v3), (4, .int v4)]) : W p l e (rp_rm 6) s m args below meth c H locs 0 0 (MQ below (rp_Qi D a (xt cI cB cS a) 62 res) args s 0 0 (rp_A a 62)) (F0 m 0 ls []) := by
  have hx := hC.1
  have hb := hC.2.1
  have hown := hC.2.2.2.1
  have hts := hC.2.2.2.2.1
  unfold fX6_danceThatHelps at hF
  refine lv_iconst (pc := 0) (v := 0) hx hb dX6_danceThatHelps_0 (by decide) ?_
  refine lv_istore (pc := 1) (lv' := [(5, .int 0), (0, .ref (a 54)), (1, .ref (a (7 * g1))), (2, .int v2), (3, .int v3), (4, .int v4)]) hx hb dX6_danceThatHelps_1 hl (by decide) rfl (fun ls hl => ?_)
  exact lX6_danceThatHelps_3 g1 h_g1 hC 300 v2 v3 v4 0 σ _ _ _ hF hw (lv_sub hl [1, 2, 3, 4, 5, 0] rfl)
theorem mX6_danceThatHelps {l : Launch} {D : va_G} {cI cB cS : ClassId} {a : Nat → Nat} (g1 : Nat) (h_g1 : g1 < 4) (v2 : Int32) (v3 : Int32) (v4 : Int32) (σ : rp_St) (res : Int32 × rp_St) (hF : fX6_danceThatHelps g1 v2 v3 v4 σ = some res) : xM l D cI cB cS a yX6_danceThatHelps cX6_danceThatHelps 7 (some .int) 6 [.ref (a 54), .ref (a (7 * g1)), .int v2, .int v3, .int v4] σ (rp_Qi D a (xt cI cB cS a) 62 res) :=
  rp_entry (by decide) (Nat.le_of_ble_eq_true rfl) (fun p e s m below meth c ls hC hw hl => kX6_danceThatHelps_0 g1 h_g1 hC v2 v3 v4 σ _ _ _ hF hw (lv_sub hl [0, 1, 2, 3, 4] rfl))
def fX6_firstOfTwoThatHelp_24 (k3 : Int32 → Int32 → Int32 → Int32 → rp_St → Option (Int32 × rp_St)) (k24 : Int32 → Int32 → Int32 → Int32 → Int32 → rp_St → Option (Int32 × rp_St)) (v1 : Int32) (v2 : Int32) (v3 : Int32) (v4 : Int32) (v5 : Int32) (σ : rp_St) : Option (Int32 × rp_St) :=
  (if (σ 0 0) ≤ v5 then rp_nm (v4 + 1) (fun x1 => k3 v1 v2 v3 x1 σ) else rp_bd (fX0_takeFrom 3 0 σ) (fun _ σ3 => rp_bd (fX0_pairUp 3 0 v4 v5 σ3) (fun _ σ5 => rp_bd (fX6_danceThatHelps 3 v1 v2 v3 σ5) (fun r6 σ7 => (if r6 < 0 then rp_nm (v5 + 1) (fun x8 => k24 v1 v2 v3 v4 x8 σ7) else some (((10 * v4) + v5), σ7))))))
set_option maxRecDepth 100000 in
set_option maxHeartbeats 4000000 in
theorem kX6_firstOfTwoThatHelp_24 {p : Program} {l : Launch} {e : Env} {s : State} {m : MethodId} {args : Array Value} {below : List Frame} {meth : Method} {c : Code} {D : va_G} {cI cB cS : ClassId} {a : Nat → Nat} {res : Int32 × rp_St} (hC : xC p s m args meth c cX6_firstOfTwoThatHelp 6 "RegretPegs" (some .int) D cI cB cS a) (k3 : Int32 → Int32 → Int32 → Int32 → rp_St → Option (Int32 × rp_St)) (hk3 : ∀ (v1 : Int32) (v2 : Int32) (v3 : Int32) (v4 : Int32) (σ : rp_St) (H : Heap) (locs : List Loc) (ls : Array Slot), k3 v1 v2 v3 v4 σ = some res → xW D cI cB cS a s σ H locs → lv_has ls 6 [(0, .ref (a 54)), (1, .int v1), (2, .int v2), (3, .int v3), (4, .int v4)] → W p l e (rp_rm 7) s m args below meth c H locs 0 0 (MQ below (rp_Qi D a (xt cI cB cS a) 62 res) args s 0 0 (rp_A a 62)) (F0 m 3 ls [])) (k24 : Int32 → Int32 → Int32 → Int32 → Int32 → rp_St → Option (Int32 × rp_St)) (hk24 : ∀ (v1 : Int32) (v2 : Int32) (v3 : Int32) (v4 : Int32) (v5 : Int32) (σ : rp_St) (H : Heap) (locs : List Loc) (ls : Array Slot), k24 v1 v2 v3 v4 v5 σ = some res → xW D cI cB cS a s σ H locs → lv_has ls 6 [(0, .ref (a 54)), (1, .int v1), (2, .int v2), (3, .int v3), (4, .int v4), (5, .int v5)] → W p l e (rp_rm 7) s m args below meth c H locs 0 0 (MQ below (rp_Qi D a (xt cI cB cS a) 62 res) args s 0 0 (rp_A a 62)) (F0 m 24 ls [])) (v1 : Int32) (v2 : Int32) (v3 : Int32) (v4 : Int32) (v5 : Int32) (σ : rp_St) (H : Heap) (locs : List Loc) (ls : Array Slot) (hF : fX6_firstOfTwoThatHelp_24 k3 k24 v1 v2 v3 v4 v5 σ = some res) (hw : xW D cI cB cS a s σ H locs) (hl : lv_has ls 6 [(0, .ref (a 54)), (1, .int v1), (2, .int v2), (3, .int v3), (4, .int v4), (5, .int v5)]) : W p l e (rp_rm 7) s m args below meth c H locs 0 0 (MQ below (rp_Qi D a (xt cI cB cS a) 62 res) args s 0 0 (rp_A a 62)) (F0 m 24 ls []) := by
  have hx := hC.1
  have hb := hC.2.1
  have hown := hC.2.2.2.1
  have hts := hC.2.2.2.2.1
  unfold fX6_firstOfTwoThatHelp_24 at hF
  refine lv_iload (pc := 24) hx hb dX6_firstOfTwoThatHelp_24 (lv_at hl 5 rfl) ?_
  refine lv_aload_n (pc := 26) hx hb dX6_firstOfTwoThatHelp_26 rfl (lv_at hl 0 rfl) ?_
  refine rp_get (pc := 27) hC hw 54 (by decide) (xt_reg _) fl_X6_10 (.ref (a 40)) rfl dX6_firstOfTwoThatHelp_27 ?_
  refine rp_get (pc := 30) hC hw 40 (by decide) ((xt_eve (i := 0) (by decide)) _) fl_X6_70 (.ref (a 0)) rfl dX6_firstOfTwoThatHelp_30 ?_
  refine rp_get (pc := 33) hC hw 0 (by decide) ((xt_ball (b := 0) (by decide)) _) fl_X6_73 (.int (σ 0 0)) rfl dX6_firstOfTwoThatHelp_33 ?_
  refine lv_icmp_ge (pc := 36) (tgt := 100) hx hb dX6_firstOfTwoThatHelp_36 (by decide) (fun hc => ?_) (fun hc => ?_)
  · replace hF := rp_it hc hF
    obtain ⟨x1, ex1, hF⟩ := rp_nm_e hF
    refine lv_iinc (pc := 100) (v := x1) (lv' := [(4, .int x1), (0, .ref (a 54)), (1, .int v1), (2, .int v2), (3, .int v3), (5, .int v5)]) hx hb dX6_firstOfTwoThatHelp_100 hl (k := 4) rfl (by rw [ex1]; rfl) (by decide) rfl (fun ls hl => ?_)
    refine lv_goto (pc := 103) (tgt := 3) hx hb dX6_firstOfTwoThatHelp_103 (by decide) ?_
    exact hk3 v1 v2 v3 x1 σ _ _ _ hF hw (lv_sub hl [1, 2, 3, 4, 0] rfl)
  · replace hF := rp_if hc hF
    refine lv_aload_n (pc := 39) hx hb dX6_firstOfTwoThatHelp_39 rfl (lv_at hl 0 rfl) ?_
    refine rp_get (pc := 40) hC hw 54 (by decide) (xt_reg _) fl_X6_30 (.ref (a 21)) rfl dX6_firstOfTwoThatHelp_40 ?_
    refine lv_aload_n (pc := 43) hx hb dX6_firstOfTwoThatHelp_43 rfl (lv_at hl 0 rfl) ?_
    refine rp_get (pc := 44) hC hw 54 (by decide) (xt_reg _) fl_X6_10 (.ref (a 40)) rfl dX6_firstOfTwoThatHelp_44 ?_
    refine rp_get (pc := 47) hC hw 40 (by decide) ((xt_eve (i := 0) (by decide)) _) fl_X6_70 (.ref (a 0)) rfl dX6_firstOfTwoThatHelp_47 ?_
    obtain ⟨r2, σ3, hq, hF⟩ := rp_bd_e hF
    refine rp_kv (rp_runV (rest := []) hC (xE_ok _) hw hl.1 (mX0_takeFrom (l := l) 3 (by decide) 0 (by decide) σ _ hq) vw_X6_179 (by decide) ((xt_ball (b := 3) (by decide)) _) rfl rfl rfl (Nat.le_of_ble_eq_true rfl) (by decide) dX6_firstOfTwoThatHelp_50) hw (fun H locs hw => ?_)
    clear hq
    refine lv_aload_n (pc := 53) hx hb dX6_firstOfTwoThatHelp_53 rfl (lv_at hl 0 rfl) ?_
    refine rp_get (pc := 54) hC hw 54 (by decide) (xt_reg _) fl_X6_30 (.ref (a 21)) rfl dX6_firstOfTwoThatHelp_54 ?_
    refine lv_iload (pc := 57) hx hb dX6_firstOfTwoThatHelp_57 (lv_at hl 4 rfl) ?_
    refine lv_iload (pc := 59) hx hb dX6_firstOfTwoThatHelp_59 (lv_at hl 5 rfl) ?_
    refine lv_aload_n (pc := 61) hx hb dX6_firstOfTwoThatHelp_61 rfl (lv_at hl 0 rfl) ?_
    refine rp_get (pc := 62) hC hw 54 (by decide) (xt_reg _) fl_X6_10 (.ref (a 40)) rfl dX6_firstOfTwoThatHelp_62 ?_
    refine rp_get (pc := 65) hC hw 40 (by decide) ((xt_eve (i := 0) (by decide)) _) fl_X6_154 (.ref (a 28)) rfl dX6_firstOfTwoThatHelp_65 ?_
    obtain ⟨r4, σ5, hq, hF⟩ := rp_bd_e hF
    refine rp_kv (rp_runV (rest := []) hC (xE_ok _) hw hl.1 (mX0_pairUp (l := l) 3 (by decide) 0 (by decide) v4 v5 σ3 _ hq) vw_X6_158 (by decide) ((xt_ball (b := 3) (by decide)) _) rfl rfl rfl (Nat.le_of_ble_eq_true rfl) (by decide) dX6_firstOfTwoThatHelp_68) hw (fun H locs hw => ?_)
    clear hq
    refine lv_aload_n (pc := 71) hx hb dX6_firstOfTwoThatHelp_71 rfl (lv_at hl 0 rfl) ?_
    refine lv_aload_n (pc := 72) hx hb dX6_firstOfTwoThatHelp_72 rfl (lv_at hl 0 rfl) ?_
    refine rp_get (pc := 73) hC hw 54 (by decide) (xt_reg _) fl_X6_30 (.ref (a 21)) rfl dX6_firstOfTwoThatHelp_73 ?_
    refine lv_iload_n (pc := 76) hx hb dX6_firstOfTwoThatHelp_76 rfl (lv_at hl 1 rfl) ?_
    refine lv_iload_n (pc := 77) hx hb dX6_firstOfTwoThatHelp_77 rfl (lv_at hl 2 rfl) ?_
    refine lv_iload_n (pc := 78) hx hb dX6_firstOfTwoThatHelp_78 rfl (lv_at hl 3 rfl) ?_
    obtain ⟨r6, σ7, hq, hF⟩ := rp_bd_e hF
    refine rp_ki (rp_runV (rest := []) hC (xE_ok _) hw hl.1 (mX6_danceThatHelps (l := l) 3 (by decide) v1 v2 v3 σ5 _ hq) vw_X6_189 (by decide) (xt_reg _) rfl rfl rfl (Nat.le_of_ble_eq_true rfl) (by decide) dX6_firstOfTwoThatHelp_79) hw (fun H locs hw => ?_)
    clear hq
    refine lv_if_lt (pc := 82) (tgt := 94) hx hb dX6_firstOfTwoThatHelp_82 (by decide) (fun hc => ?_) (fun hc => ?_)
    · replace hF := rp_it hc hF
      obtain ⟨x8, ex8, hF⟩ := rp_nm_e hF
      refine lv_iinc (pc := 94) (v := x8) (lv' := [(5, .int x8), (0, .ref (a 54)), (1, .int v1), (2, .int v2), (3, .int v3), (4, .int v4)]) hx hb dX6_firstOfTwoThatHelp_94 hl (k := 5) rfl (by rw [ex8]; rfl) (by decide) rfl (fun ls hl => ?_)
      refine lv_goto (pc := 97) (tgt := 24) hx hb dX6_firstOfTwoThatHelp_97 (by decide) ?_
      exact hk24 v1 v2 v3 v4 x8 σ7 _ _ _ hF hw (lv_sub hl [1, 2, 3, 4, 5, 0] rfl)
    · replace hF := rp_if hc hF
      refine lv_bipush (pc := 85) (v := 10) hx hb dX6_firstOfTwoThatHelp_85 (by decide) ?_
      refine lv_iload (pc := 87) hx hb dX6_firstOfTwoThatHelp_87 (lv_at hl 4 rfl) ?_
      refine lv_imul (pc := 89) hx hb dX6_firstOfTwoThatHelp_89 ?_
      refine lv_iload (pc := 90) hx hb dX6_firstOfTwoThatHelp_90 (lv_at hl 5 rfl) ?_
      refine lv_iadd (pc := 92) hx hb dX6_firstOfTwoThatHelp_92 ?_
      exact rp_reti (pc := 93) hC hw hF dX6_firstOfTwoThatHelp_93
theorem lX6_firstOfTwoThatHelp_24 {p : Program} {l : Launch} {e : Env} {s : State} {m : MethodId} {args : Array Value} {below : List Frame} {meth : Method} {c : Code} {D : va_G} {cI cB cS : ClassId} {a : Nat → Nat} {res : Int32 × rp_St} (hC : xC p s m args meth c cX6_firstOfTwoThatHelp 6 "RegretPegs" (some .int) D cI cB cS a) (k3 : Int32 → Int32 → Int32 → Int32 → rp_St → Option (Int32 × rp_St)) (hk3 : ∀ (v1 : Int32) (v2 : Int32) (v3 : Int32) (v4 : Int32) (σ : rp_St) (H : Heap) (locs : List Loc) (ls : Array Slot), k3 v1 v2 v3 v4 σ = some res → xW D cI cB cS a s σ H locs → lv_has ls 6 [(0, .ref (a 54)), (1, .int v1), (2, .int v2), (3, .int v3), (4, .int v4)] → W p l e (rp_rm 7) s m args below meth c H locs 0 0 (MQ below (rp_Qi D a (xt cI cB cS a) 62 res) args s 0 0 (rp_A a 62)) (F0 m 3 ls [])) : ∀ (n : Nat) (v1 : Int32) (v2 : Int32) (v3 : Int32) (v4 : Int32) (v5 : Int32) (σ : rp_St) (H : Heap) (locs : List Loc) (ls : Array Slot), rp_lp (fun _ _ _ _ _ _ => none) (fX6_firstOfTwoThatHelp_24 k3) n v1 v2 v3 v4 v5 σ = some res → xW D cI cB cS a s σ H locs → lv_has ls 6 [(0, .ref (a 54)), (1, .int v1), (2, .int v2), (3, .int v3), (4, .int v4), (5, .int v5)] → W p l e (rp_rm 7) s m args below meth c H locs 0 0 (MQ below (rp_Qi D a (xt cI cB cS a) 62 res) args s 0 0 (rp_A a 62)) (F0 m 24 ls [])
  | 0, _, _, _, _, _, _, _, _, _, hF, _, _ => nomatch hF
  | n + 1, v1, v2, v3, v4, v5, σ, H, locs, ls, hF, hw, hl => kX6_firstOfTwoThatHelp_24 hC k3 hk3 (rp_lp (fun _ _ _ _ _ _ => none) (fX6_firstOfTwoThatHelp_24 k3) n) (lX6_firstOfTwoThatHelp_24 hC k3 hk3 n) v1 v2 v3 v4 v5 σ H locs ls hF hw hl
def fX6_firstOfTwoThatHelp_3 (k3 : Int32 → Int32 → Int32 → Int32 → rp_St → Option (Int32 × rp_St)) (v1 : Int32) (v2 : Int32) (v3 : Int32) (v4 : Int32) (σ : rp_St) : Option (Int32 × rp_St) :=
  (if (σ 0 0) ≤ v4 then some ((-1), σ) else rp_nm (v4 + 1) (fun x1 => rp_lp (fun _ _ _ _ _ _ => none) (fX6_firstOfTwoThatHelp_24 k3) 300 v1 v2 v3 v4 x1 σ))
set_option maxRecDepth 100000 in
set_option maxHeartbeats 4000000 in
theorem kX6_firstOfTwoThatHelp_3 {p : Program} {l : Launch} {e : Env} {s : State} {m : MethodId} {args : Array Value} {below : List Frame} {meth : Method} {c : Code} {D : va_G} {cI cB cS : ClassId} {a : Nat → Nat} {res : Int32 × rp_St} (hC : xC p s m args meth c cX6_firstOfTwoThatHelp 6 "RegretPegs" (some .int) D cI cB cS a) (k3 : Int32 → Int32 → Int32 → Int32 → rp_St → Option (Int32 × rp_St)) (hk3 : ∀ (v1 : Int32) (v2 : Int32) (v3 : Int32) (v4 : Int32) (σ : rp_St) (H : Heap) (locs : List Loc) (ls : Array Slot), k3 v1 v2 v3 v4 σ = some res → xW D cI cB cS a s σ H locs → lv_has ls 6 [(0, .ref (a 54)), (1, .int v1), (2, .int v2), (3, .int v3), (4, .int v4)] → W p l e (rp_rm 7) s m args below meth c H locs 0 0 (MQ below (rp_Qi D a (xt cI cB cS a) 62 res) args s 0 0 (rp_A a 62)) (F0 m 3 ls [])) (v1 : Int32) (v2 : Int32) (v3 : Int32) (v4 : Int32) (σ : rp_St) (H : Heap) (locs : List Loc) (ls : Array Slot) (hF : fX6_firstOfTwoThatHelp_3 k3 v1 v2 v3 v4 σ = some res) (hw : xW D cI cB cS a s σ H locs) (hl : lv_has ls 6 [(0, .ref (a 54)), (1, .int v1), (2, .int v2), (3, .int v3), (4, .int v4)]) : W p l e (rp_rm 7) s m args below meth c H locs 0 0 (MQ below (rp_Qi D a (xt cI cB cS a) 62 res) args s 0 0 (rp_A a 62)) (F0 m 3 ls []) := by
  have hx := hC.1
  have hb := hC.2.1
  have hown := hC.2.2.2.1
  have hts := hC.2.2.2.2.1
  unfold fX6_firstOfTwoThatHelp_3 at hF
  refine lv_iload (pc := 3) hx hb dX6_firstOfTwoThatHelp_3 (lv_at hl 4 rfl) ?_
  refine lv_aload_n (pc := 5) hx hb dX6_firstOfTwoThatHelp_5 rfl (lv_at hl 0 rfl) ?_
  refine rp_get (pc := 6) hC hw 54 (by decide) (xt_reg _) fl_X6_10 (.ref (a 40)) rfl dX6_firstOfTwoThatHelp_6 ?_
  refine rp_get (pc := 9) hC hw 40 (by decide) ((xt_eve (i := 0) (by decide)) _) fl_X6_70 (.ref (a 0)) rfl dX6_firstOfTwoThatHelp_9 ?_
  refine rp_get (pc := 12) hC hw 0 (by decide) ((xt_ball (b := 0) (by decide)) _) fl_X6_73 (.int (σ 0 0)) rfl dX6_firstOfTwoThatHelp_12 ?_
  refine lv_icmp_ge (pc := 15) (tgt := 106) hx hb dX6_firstOfTwoThatHelp_15 (by decide) (fun hc => ?_) (fun hc => ?_)
  · replace hF := rp_it hc hF
    refine lv_iconst (pc := 106) (v := (-1)) hx hb dX6_firstOfTwoThatHelp_106 (by decide) ?_
    exact rp_reti (pc := 107) hC hw hF dX6_firstOfTwoThatHelp_107
  · replace hF := rp_if hc hF
    refine lv_iload (pc := 18) hx hb dX6_firstOfTwoThatHelp_18 (lv_at hl 4 rfl) ?_
    refine lv_iconst (pc := 20) (v := 1) hx hb dX6_firstOfTwoThatHelp_20 (by decide) ?_
    refine lv_iadd (pc := 21) hx hb dX6_firstOfTwoThatHelp_21 ?_
    obtain ⟨x1, ex1, hF⟩ := rp_nm_e hF
    refine rp_top ex1 ?_
    refine lv_istore (pc := 22) (lv' := [(5, .int x1), (0, .ref (a 54)), (1, .int v1), (2, .int v2), (3, .int v3), (4, .int v4)]) hx hb dX6_firstOfTwoThatHelp_22 hl (by decide) rfl (fun ls hl => ?_)
    exact lX6_firstOfTwoThatHelp_24 hC k3 hk3 300 v1 v2 v3 v4 x1 σ _ _ _ hF hw (lv_sub hl [1, 2, 3, 4, 5, 0] rfl)
theorem lX6_firstOfTwoThatHelp_3 {p : Program} {l : Launch} {e : Env} {s : State} {m : MethodId} {args : Array Value} {below : List Frame} {meth : Method} {c : Code} {D : va_G} {cI cB cS : ClassId} {a : Nat → Nat} {res : Int32 × rp_St} (hC : xC p s m args meth c cX6_firstOfTwoThatHelp 6 "RegretPegs" (some .int) D cI cB cS a) : ∀ (n : Nat) (v1 : Int32) (v2 : Int32) (v3 : Int32) (v4 : Int32) (σ : rp_St) (H : Heap) (locs : List Loc) (ls : Array Slot), rp_lp (fun _ _ _ _ _ => none) (fX6_firstOfTwoThatHelp_3) n v1 v2 v3 v4 σ = some res → xW D cI cB cS a s σ H locs → lv_has ls 6 [(0, .ref (a 54)), (1, .int v1), (2, .int v2), (3, .int v3), (4, .int v4)] → W p l e (rp_rm 7) s m args below meth c H locs 0 0 (MQ below (rp_Qi D a (xt cI cB cS a) 62 res) args s 0 0 (rp_A a 62)) (F0 m 3 ls [])
  | 0, _, _, _, _, _, _, _, _, hF, _, _ => nomatch hF
  | n + 1, v1, v2, v3, v4, σ, H, locs, ls, hF, hw, hl => kX6_firstOfTwoThatHelp_3 hC (rp_lp (fun _ _ _ _ _ => none) (fX6_firstOfTwoThatHelp_3) n) (lX6_firstOfTwoThatHelp_3 hC n) v1 v2 v3 v4 σ H locs ls hF hw hl
def fX6_firstOfTwoThatHelp (v1 : Int32) (v2 : Int32) (v3 : Int32) (σ : rp_St) : Option (Int32 × rp_St) :=
  rp_lp (fun _ _ _ _ _ => none) (fX6_firstOfTwoThatHelp_3) 300 v1 v2 v3 0 σ
set_option maxRecDepth 100000 in
set_option maxHeartbeats 4000000 in
theorem kX6_firstOfTwoThatHelp_0 {p : Program} {l : Launch} {e : Env} {s : State} {m : MethodId} {args : Array Value} {below : List Frame} {meth : Method} {c : Code} {D : va_G} {cI cB cS : ClassId} {a : Nat → Nat} {res : Int32 × rp_St} (hC : xC p s m args meth c cX6_firstOfTwoThatHelp 6 "RegretPegs" (some .int) D cI cB cS a) (v1 : Int32) (v2 : Int32) (v3 : Int32) (σ : rp_St) (H : Heap) (locs : List Loc) (ls : Array Slot) (hF : fX6_firstOfTwoThatHelp v1 v2 v3 σ = some res) (hw : xW D cI cB cS a s σ H locs) (hl : lv_has ls 6 [(0, .ref (a 54)), (1, .int v1), (2, .int v2), (3, .int v3)]) : W p l e (rp_rm 7) s m args below meth c H locs 0 0 (MQ below (rp_Qi D a (xt cI cB cS a) 62 res) args s 0 0 (rp_A a 62)) (F0 m 0 ls []) := by
  have hx := hC.1
  have hb := hC.2.1
  have hown := hC.2.2.2.1
  have hts := hC.2.2.2.2.1
  unfold fX6_firstOfTwoThatHelp at hF
  refine lv_iconst (pc := 0) (v := 0) hx hb dX6_firstOfTwoThatHelp_0 (by decide) ?_
  refine lv_istore (pc := 1) (lv' := [(4, .int 0), (0, .ref (a 54)), (1, .int v1), (2, .int v2), (3, .int v3)]) hx hb dX6_firstOfTwoThatHelp_1 hl (by decide) rfl (fun ls hl => ?_)
  exact lX6_firstOfTwoThatHelp_3 hC 300 v1 v2 v3 0 σ _ _ _ hF hw (lv_sub hl [1, 2, 3, 4, 0] rfl)
theorem mX6_firstOfTwoThatHelp {l : Launch} {D : va_G} {cI cB cS : ClassId} {a : Nat → Nat} (v1 : Int32) (v2 : Int32) (v3 : Int32) (σ : rp_St) (res : Int32 × rp_St) (hF : fX6_firstOfTwoThatHelp v1 v2 v3 σ = some res) : xM l D cI cB cS a yX6_firstOfTwoThatHelp cX6_firstOfTwoThatHelp 6 (some .int) 7 [.ref (a 54), .int v1, .int v2, .int v3] σ (rp_Qi D a (xt cI cB cS a) 62 res) :=
  rp_entry (by decide) (Nat.le_of_ble_eq_true rfl) (fun p e s m below meth c ls hC hw hl => kX6_firstOfTwoThatHelp_0 hC v1 v2 v3 σ _ _ _ hF hw (lv_sub hl [0, 1, 2, 3] rfl))
def fX6_dances_36 (σ : rp_St) : Option (Int32 × rp_St) :=
  rp_bd (fX6_refuse 1 σ) (fun r1 σ2 => some (r1, σ2))
set_option maxRecDepth 100000 in
set_option maxHeartbeats 4000000 in
theorem kX6_dances_36 {p : Program} {l : Launch} {e : Env} {s : State} {m : MethodId} {args : Array Value} {below : List Frame} {meth : Method} {c : Code} {D : va_G} {cI cB cS : ClassId} {a : Nat → Nat} {res : Int32 × rp_St} (hC : xC p s m args meth c cX6_dances 6 "RegretPegs" (some .int) D cI cB cS a) (σ : rp_St) (H : Heap) (locs : List Loc) (ls : Array Slot) (hF : fX6_dances_36 σ = some res) (hw : xW D cI cB cS a s σ H locs) (hl : lv_has ls 6 [(0, .ref (a 54))]) : W p l e (rp_rm 8) s m args below meth c H locs 0 0 (MQ below (rp_Qi D a (xt cI cB cS a) 62 res) args s 0 0 (rp_A a 62)) (F0 m 36 ls []) := by
  have hx := hC.1
  have hb := hC.2.1
  have hown := hC.2.2.2.1
  have hts := hC.2.2.2.2.1
  unfold fX6_dances_36 at hF
  refine lv_aload_n (pc := 36) hx hb dX6_dances_36 rfl (lv_at hl 0 rfl) ?_
  refine lv_iconst (pc := 37) (v := 1) hx hb dX6_dances_37 (by decide) ?_
  obtain ⟨r1, σ2, hq, hF⟩ := rp_bd_e hF
  refine rp_ki (rp_runV (rest := []) hC (xE_ok _) hw hl.1 (mX6_refuse (l := l) 1 σ _ hq) vw_X6_66 (by decide) (xt_reg _) rfl rfl rfl (Nat.le_of_ble_eq_true rfl) (by decide) dX6_dances_38) hw (fun H locs hw => ?_)
  clear hq
  exact rp_reti (pc := 41) hC hw hF dX6_dances_41
def fX6_dances (v1 : Int32) (v2 : Int32) (v3 : Int32) (v4 : Int32) (σ : rp_St) : Option (Int32 × rp_St) :=
  rp_bd (fX6_isGuest v1 σ) (fun r1 σ2 => (if r1 = 0 then fX6_dances_36 σ2 else rp_bd (fX6_isPeg v2 σ2) (fun r3 σ4 => (if r3 = 0 then fX6_dances_36 σ4 else rp_bd (fX6_isWithin v3 0 6 σ4) (fun r5 σ6 => (if r5 = 0 then fX6_dances_36 σ6 else rp_bd (fX6_isWithin v4 0 1 σ6) (fun r7 σ8 => (if r7 = 0 then fX6_dances_36 σ8 else rp_bd (fX0_takeFrom 2 0 σ8) (fun _ σ10 => rp_bd (fX0_passHours 2 1 v3 σ10) (fun _ σ12 => rp_bd (fX0_pegOf 2 v1 σ12) (fun r13 σ14 => (if v2 < r13 then rp_bd (fX6_danceThatHelps 0 v1 v2 v3 σ14) (fun r15 σ16 => (if r15 < 0 then rp_bd (fX6_firstOfTwoThatHelp v1 v2 v3 σ16) (fun r17 σ18 => (if r17 < 0 then rp_bd (fX6_refuse 2 σ18) (fun r19 σ20 => some (r19, σ20)) else (if v4 = 0 then some (2, σ18) else some (r17, σ18)))) else (if v4 = 0 then some (1, σ16) else some (r15, σ16)))) else (if v4 = 0 then some (0, σ14) else some ((-1), σ14))))))))))))))
set_option maxRecDepth 100000 in
set_option maxHeartbeats 4000000 in
theorem kX6_dances_0 {p : Program} {l : Launch} {e : Env} {s : State} {m : MethodId} {args : Array Value} {below : List Frame} {meth : Method} {c : Code} {D : va_G} {cI cB cS : ClassId} {a : Nat → Nat} {res : Int32 × rp_St} (hC : xC p s m args meth c cX6_dances 6 "RegretPegs" (some .int) D cI cB cS a) (v1 : Int32) (v2 : Int32) (v3 : Int32) (v4 : Int32) (σ : rp_St) (H : Heap) (locs : List Loc) (ls : Array Slot) (hF : fX6_dances v1 v2 v3 v4 σ = some res) (hw : xW D cI cB cS a s σ H locs) (hl : lv_has ls 6 [(0, .ref (a 54)), (1, .int v1), (2, .int v2), (3, .int v3), (4, .int v4)]) : W p l e (rp_rm 8) s m args below meth c H locs 0 0 (MQ below (rp_Qi D a (xt cI cB cS a) 62 res) args s 0 0 (rp_A a 62)) (F0 m 0 ls []) := by
  have hx := hC.1
  have hb := hC.2.1
  have hown := hC.2.2.2.1
  have hts := hC.2.2.2.2.1
  unfold fX6_dances at hF
  refine lv_aload_n (pc := 0) hx hb dX6_dances_0 rfl (lv_at hl 0 rfl) ?_
  refine lv_iload_n (pc := 1) hx hb dX6_dances_1 rfl (lv_at hl 1 rfl) ?_
  obtain ⟨r1, σ2, hq, hF⟩ := rp_bd_e hF
  refine rp_ki (rp_runV (rest := []) hC (xE_ok _) hw hl.1 (mX6_isGuest (l := l) v1 σ _ hq) vw_X6_80 (by decide) (xt_reg _) rfl rfl rfl (Nat.le_of_ble_eq_true rfl) (by decide) dX6_dances_2) hw (fun H locs hw => ?_)
  clear hq
  refine lv_if_eq (pc := 5) (tgt := 36) hx hb dX6_dances_5 (by decide) (fun hc => ?_) (fun hc => ?_)
  · replace hF := rp_it hc hF
    exact kX6_dances_36 hC σ2 _ _ _ hF hw (lv_sub hl [0] rfl)
  · replace hF := rp_if hc hF
    refine lv_aload_n (pc := 8) hx hb dX6_dances_8 rfl (lv_at hl 0 rfl) ?_
    refine lv_iload_n (pc := 9) hx hb dX6_dances_9 rfl (lv_at hl 2 rfl) ?_
    obtain ⟨r3, σ4, hq, hF⟩ := rp_bd_e hF
    refine rp_ki (rp_runV (rest := []) hC (xE_ok _) hw hl.1 (mX6_isPeg (l := l) v2 σ2 _ hq) vw_X6_108 (by decide) (xt_reg _) rfl rfl rfl (Nat.le_of_ble_eq_true rfl) (by decide) dX6_dances_10) hw (fun H locs hw => ?_)
    clear hq
    refine lv_if_eq (pc := 13) (tgt := 36) hx hb dX6_dances_13 (by decide) (fun hc => ?_) (fun hc => ?_)
    · replace hF := rp_it hc hF
      exact kX6_dances_36 hC σ4 _ _ _ hF hw (lv_sub hl [0] rfl)
    · replace hF := rp_if hc hF
      refine lv_iload_n (pc := 16) hx hb dX6_dances_16 rfl (lv_at hl 3 rfl) ?_
      refine lv_iconst (pc := 17) (v := 0) hx hb dX6_dances_17 (by decide) ?_
      refine lv_bipush (pc := 18) (v := 6) hx hb dX6_dances_18 (by decide) ?_
      obtain ⟨r5, σ6, hq, hF⟩ := rp_bd_e hF
      refine rp_ki (rp_runZ (rest := []) hC (xE_ok _) hw hl.1 (mX6_isWithin (l := l) v3 0 6 σ4 _ hq) zw_X6_62 rfl rfl (Nat.le_of_ble_eq_true rfl) (by decide) dX6_dances_20) hw (fun H locs hw => ?_)
      clear hq
      refine lv_if_eq (pc := 23) (tgt := 36) hx hb dX6_dances_23 (by decide) (fun hc => ?_) (fun hc => ?_)
      · replace hF := rp_it hc hF
        exact kX6_dances_36 hC σ6 _ _ _ hF hw (lv_sub hl [0] rfl)
      · replace hF := rp_if hc hF
        refine lv_iload (pc := 26) hx hb dX6_dances_26 (lv_at hl 4 rfl) ?_
        refine lv_iconst (pc := 28) (v := 0) hx hb dX6_dances_28 (by decide) ?_
        refine lv_iconst (pc := 29) (v := 1) hx hb dX6_dances_29 (by decide) ?_
        obtain ⟨r7, σ8, hq, hF⟩ := rp_bd_e hF
        refine rp_ki (rp_runZ (rest := []) hC (xE_ok _) hw hl.1 (mX6_isWithin (l := l) v4 0 1 σ6 _ hq) zw_X6_62 rfl rfl (Nat.le_of_ble_eq_true rfl) (by decide) dX6_dances_30) hw (fun H locs hw => ?_)
        clear hq
        refine lv_if_ne (pc := 33) (tgt := 42) hx hb dX6_dances_33 (by decide) (fun hc => ?_) (fun hc => ?_)
        · replace hF := rp_if hc hF
          refine lv_aload_n (pc := 42) hx hb dX6_dances_42 rfl (lv_at hl 0 rfl) ?_
          refine rp_get (pc := 43) hC hw 54 (by decide) (xt_reg _) fl_X6_26 (.ref (a 14)) rfl dX6_dances_43 ?_
          refine lv_aload_n (pc := 46) hx hb dX6_dances_46 rfl (lv_at hl 0 rfl) ?_
          refine rp_get (pc := 47) hC hw 54 (by decide) (xt_reg _) fl_X6_10 (.ref (a 40)) rfl dX6_dances_47 ?_
          refine rp_get (pc := 50) hC hw 40 (by decide) ((xt_eve (i := 0) (by decide)) _) fl_X6_70 (.ref (a 0)) rfl dX6_dances_50 ?_
          obtain ⟨r9, σ10, hq, hF⟩ := rp_bd_e hF
          refine rp_kv (rp_runV (rest := []) hC (xE_ok _) hw hl.1 (mX0_takeFrom (l := l) 2 (by decide) 0 (by decide) σ8 _ hq) vw_X6_179 (by decide) ((xt_ball (b := 2) (by decide)) _) rfl rfl rfl (Nat.le_of_ble_eq_true rfl) (by decide) dX6_dances_53) hw (fun H locs hw => ?_)
          clear hq
          refine lv_aload_n (pc := 56) hx hb dX6_dances_56 rfl (lv_at hl 0 rfl) ?_
          refine rp_get (pc := 57) hC hw 54 (by decide) (xt_reg _) fl_X6_26 (.ref (a 14)) rfl dX6_dances_57 ?_
          refine lv_iload_n (pc := 60) hx hb dX6_dances_60 rfl (lv_at hl 3 rfl) ?_
          refine lv_aload_n (pc := 61) hx hb dX6_dances_61 rfl (lv_at hl 0 rfl) ?_
          refine rp_get (pc := 62) hC hw 54 (by decide) (xt_reg _) fl_X6_10 (.ref (a 40)) rfl dX6_dances_62 ?_
          refine rp_get (pc := 65) hC hw 40 (by decide) ((xt_eve (i := 0) (by decide)) _) fl_X6_165 (.ref (a 31)) rfl dX6_dances_65 ?_
          obtain ⟨r11, σ12, hq, hF⟩ := rp_bd_e hF
          refine rp_kv (rp_runV (rest := []) hC (xE_ok _) hw hl.1 (mX0_passHours (l := l) 2 (by decide) 1 (by decide) v3 σ10 _ hq) vw_X6_168 (by decide) ((xt_ball (b := 2) (by decide)) _) rfl rfl rfl (Nat.le_of_ble_eq_true rfl) (by decide) dX6_dances_68) hw (fun H locs hw => ?_)
          clear hq
          refine lv_aload_n (pc := 71) hx hb dX6_dances_71 rfl (lv_at hl 0 rfl) ?_
          refine rp_get (pc := 72) hC hw 54 (by decide) (xt_reg _) fl_X6_26 (.ref (a 14)) rfl dX6_dances_72 ?_
          refine lv_iload_n (pc := 75) hx hb dX6_dances_75 rfl (lv_at hl 1 rfl) ?_
          obtain ⟨r13, σ14, hq, hF⟩ := rp_bd_e hF
          refine rp_ki (rp_runV (rest := []) hC (xE_ok _) hw hl.1 (mX0_pegOf (l := l) 2 (by decide) v1 σ12 _ hq) vw_X6_98 (by decide) ((xt_ball (b := 2) (by decide)) _) rfl rfl rfl (Nat.le_of_ble_eq_true rfl) (by decide) dX6_dances_76) hw (fun H locs hw => ?_)
          clear hq
          refine lv_iload_n (pc := 79) hx hb dX6_dances_79 rfl (lv_at hl 2 rfl) ?_
          refine lv_icmp_gt (pc := 80) (tgt := 94) hx hb dX6_dances_80 (by decide) (fun hc => ?_) (fun hc => ?_)
          · replace hF := rp_it hc hF
            refine lv_aload_n (pc := 94) hx hb dX6_dances_94 rfl (lv_at hl 0 rfl) ?_
            refine lv_aload_n (pc := 95) hx hb dX6_dances_95 rfl (lv_at hl 0 rfl) ?_
            refine rp_get (pc := 96) hC hw 54 (by decide) (xt_reg _) fl_X6_10 (.ref (a 40)) rfl dX6_dances_96 ?_
            refine rp_get (pc := 99) hC hw 40 (by decide) ((xt_eve (i := 0) (by decide)) _) fl_X6_70 (.ref (a 0)) rfl dX6_dances_99 ?_
            refine lv_iload_n (pc := 102) hx hb dX6_dances_102 rfl (lv_at hl 1 rfl) ?_
            refine lv_iload_n (pc := 103) hx hb dX6_dances_103 rfl (lv_at hl 2 rfl) ?_
            refine lv_iload_n (pc := 104) hx hb dX6_dances_104 rfl (lv_at hl 3 rfl) ?_
            obtain ⟨r15, σ16, hq, hF⟩ := rp_bd_e hF
            refine rp_ki (rp_runV (rest := []) hC (xE_ok _) hw hl.1 (mX6_danceThatHelps (l := l) 0 (by decide) v1 v2 v3 σ14 _ hq) vw_X6_189 (by decide) (xt_reg _) rfl rfl rfl (Nat.le_of_ble_eq_true rfl) (by decide) dX6_dances_105) hw (fun H locs hw => ?_)
            clear hq
            refine lv_istore (pc := 108) (lv' := [(5, .int r15), (0, .ref (a 54)), (1, .int v1), (2, .int v2), (3, .int v3), (4, .int v4)]) hx hb dX6_dances_108 hl (by decide) rfl (fun ls hl => ?_)
            refine lv_iload (pc := 110) hx hb dX6_dances_110 (lv_at hl 0 rfl) ?_
            refine lv_if_lt (pc := 112) (tgt := 127) hx hb dX6_dances_112 (by decide) (fun hc => ?_) (fun hc => ?_)
            · replace hF := rp_it hc hF
              refine lv_aload_n (pc := 127) hx hb dX6_dances_127 rfl (lv_at hl 1 rfl) ?_
              refine lv_iload_n (pc := 128) hx hb dX6_dances_128 rfl (lv_at hl 2 rfl) ?_
              refine lv_iload_n (pc := 129) hx hb dX6_dances_129 rfl (lv_at hl 3 rfl) ?_
              refine lv_iload_n (pc := 130) hx hb dX6_dances_130 rfl (lv_at hl 4 rfl) ?_
              obtain ⟨r17, σ18, hq, hF⟩ := rp_bd_e hF
              refine rp_ki (rp_runV (rest := []) hC (xE_ok _) hw hl.1 (mX6_firstOfTwoThatHelp (l := l) v1 v2 v3 σ16 _ hq) vw_X6_193 (by decide) (xt_reg _) rfl rfl rfl (Nat.le_of_ble_eq_true rfl) (by decide) dX6_dances_131) hw (fun H locs hw => ?_)
              clear hq
              refine lv_istore (pc := 134) (lv' := [(5, .int r17), (0, .ref (a 54)), (1, .int v1), (2, .int v2), (3, .int v3), (4, .int v4)]) hx hb dX6_dances_134 hl (by decide) rfl (fun ls hl => ?_)
              refine lv_iload (pc := 136) hx hb dX6_dances_136 (lv_at hl 0 rfl) ?_
              refine lv_if_lt (pc := 138) (tgt := 153) hx hb dX6_dances_138 (by decide) (fun hc => ?_) (fun hc => ?_)
              · replace hF := rp_it hc hF
                refine lv_aload_n (pc := 153) hx hb dX6_dances_153 rfl (lv_at hl 1 rfl) ?_
                refine lv_iconst (pc := 154) (v := 2) hx hb dX6_dances_154 (by decide) ?_
                obtain ⟨r19, σ20, hq, hF⟩ := rp_bd_e hF
                refine rp_ki (rp_runV (rest := []) hC (xE_ok _) hw hl.1 (mX6_refuse (l := l) 2 σ18 _ hq) vw_X6_66 (by decide) (xt_reg _) rfl rfl rfl (Nat.le_of_ble_eq_true rfl) (by decide) dX6_dances_155) hw (fun H locs hw => ?_)
                clear hq
                exact rp_reti (pc := 158) hC hw hF dX6_dances_158
              · replace hF := rp_if hc hF
                refine lv_iload (pc := 141) hx hb dX6_dances_141 (lv_at hl 5 rfl) ?_
                refine lv_if_ne (pc := 143) (tgt := 150) hx hb dX6_dances_143 (by decide) (fun hc => ?_) (fun hc => ?_)
                · replace hF := rp_if hc hF
                  refine lv_iload (pc := 150) hx hb dX6_dances_150 (lv_at hl 0 rfl) ?_
                  exact rp_reti (pc := 152) hC hw hF dX6_dances_152
                · replace hF := rp_it hc hF
                  refine lv_iconst (pc := 146) (v := 2) hx hb dX6_dances_146 (by decide) ?_
                  refine lv_goto (pc := 147) (tgt := 152) hx hb dX6_dances_147 (by decide) ?_
                  exact rp_reti (pc := 152) hC hw hF dX6_dances_152
            · replace hF := rp_if hc hF
              refine lv_iload (pc := 115) hx hb dX6_dances_115 (lv_at hl 5 rfl) ?_
              refine lv_if_ne (pc := 117) (tgt := 124) hx hb dX6_dances_117 (by decide) (fun hc => ?_) (fun hc => ?_)
              · replace hF := rp_if hc hF
                refine lv_iload (pc := 124) hx hb dX6_dances_124 (lv_at hl 0 rfl) ?_
                exact rp_reti (pc := 126) hC hw hF dX6_dances_126
              · replace hF := rp_it hc hF
                refine lv_iconst (pc := 120) (v := 1) hx hb dX6_dances_120 (by decide) ?_
                refine lv_goto (pc := 121) (tgt := 126) hx hb dX6_dances_121 (by decide) ?_
                exact rp_reti (pc := 126) hC hw hF dX6_dances_126
          · replace hF := rp_if hc hF
            refine lv_iload (pc := 83) hx hb dX6_dances_83 (lv_at hl 4 rfl) ?_
            refine lv_if_ne (pc := 85) (tgt := 92) hx hb dX6_dances_85 (by decide) (fun hc => ?_) (fun hc => ?_)
            · replace hF := rp_if hc hF
              refine lv_iconst (pc := 92) (v := (-1)) hx hb dX6_dances_92 (by decide) ?_
              exact rp_reti (pc := 93) hC hw hF dX6_dances_93
            · replace hF := rp_it hc hF
              refine lv_iconst (pc := 88) (v := 0) hx hb dX6_dances_88 (by decide) ?_
              refine lv_goto (pc := 89) (tgt := 93) hx hb dX6_dances_89 (by decide) ?_
              exact rp_reti (pc := 93) hC hw hF dX6_dances_93
        · replace hF := rp_it hc hF
          exact kX6_dances_36 hC σ8 _ _ _ hF hw (lv_sub hl [0] rfl)
theorem mX6_dances {l : Launch} {D : va_G} {cI cB cS : ClassId} {a : Nat → Nat} (v1 : Int32) (v2 : Int32) (v3 : Int32) (v4 : Int32) (σ : rp_St) (res : Int32 × rp_St) (hF : fX6_dances v1 v2 v3 v4 σ = some res) : xM l D cI cB cS a yX6_dances cX6_dances 6 (some .int) 8 [.ref (a 54), .int v1, .int v2, .int v3, .int v4] σ (rp_Qi D a (xt cI cB cS a) 62 res) :=
  rp_entry (by decide) (Nat.le_of_ble_eq_true rfl) (fun p e s m below meth c ls hC hw hl => kX6_dances_0 hC v1 v2 v3 v4 σ _ _ _ hF hw (lv_sub hl [0, 1, 2, 3, 4] rfl))
def fX6_isSheet (v0 : Int32) (σ : rp_St) : Option (Int32 × rp_St) :=
  (if v0 < 0 then some (0, σ) else (if 4 ≤ v0 then some (0, σ) else some (1, σ)))
set_option maxRecDepth 100000 in
set_option maxHeartbeats 4000000 in
theorem kX6_isSheet_0 {p : Program} {l : Launch} {e : Env} {s : State} {m : MethodId} {args : Array Value} {below : List Frame} {meth : Method} {c : Code} {D : va_G} {cI cB cS : ClassId} {a : Nat → Nat} {res : Int32 × rp_St} (hC : xC p s m args meth c cX6_isSheet 1 "RegretPegs" (some .boolean) D cI cB cS a) (v0 : Int32) (σ : rp_St) (H : Heap) (locs : List Loc) (ls : Array Slot) (hF : fX6_isSheet v0 σ = some res) (hw : xW D cI cB cS a s σ H locs) (hl : lv_has ls 1 [(0, .int v0)]) : W p l e (rp_rm 1) s m args below meth c H locs 0 0 (MQ below (rp_Qi D a (xt cI cB cS a) 62 res) args s 0 0 (rp_A a 62)) (F0 m 0 ls []) := by
  have hx := hC.1
  have hb := hC.2.1
  have hown := hC.2.2.2.1
  have hts := hC.2.2.2.2.1
  unfold fX6_isSheet at hF
  refine lv_iload_n (pc := 0) hx hb dX6_isSheet_0 rfl (lv_at hl 0 rfl) ?_
  refine lv_if_lt (pc := 1) (tgt := 13) hx hb dX6_isSheet_1 (by decide) (fun hc => ?_) (fun hc => ?_)
  · replace hF := rp_it hc hF
    refine lv_iconst (pc := 13) (v := 0) hx hb dX6_isSheet_13 (by decide) ?_
    exact rp_retz (pc := 14) hC hw rfl hF dX6_isSheet_14
  · replace hF := rp_if hc hF
    refine lv_iload_n (pc := 4) hx hb dX6_isSheet_4 rfl (lv_at hl 0 rfl) ?_
    refine lv_iconst (pc := 5) (v := 4) hx hb dX6_isSheet_5 (by decide) ?_
    refine lv_icmp_ge (pc := 6) (tgt := 13) hx hb dX6_isSheet_6 (by decide) (fun hc => ?_) (fun hc => ?_)
    · replace hF := rp_it hc hF
      refine lv_iconst (pc := 13) (v := 0) hx hb dX6_isSheet_13 (by decide) ?_
      exact rp_retz (pc := 14) hC hw rfl hF dX6_isSheet_14
    · replace hF := rp_if hc hF
      refine lv_iconst (pc := 9) (v := 1) hx hb dX6_isSheet_9 (by decide) ?_
      refine lv_goto (pc := 10) (tgt := 14) hx hb dX6_isSheet_10 (by decide) ?_
      exact rp_retz (pc := 14) hC hw rfl hF dX6_isSheet_14
theorem mX6_isSheet {l : Launch} {D : va_G} {cI cB cS : ClassId} {a : Nat → Nat} (v0 : Int32) (σ : rp_St) (res : Int32 × rp_St) (hF : fX6_isSheet v0 σ = some res) : xM l D cI cB cS a yX6_isSheet cX6_isSheet 1 (some .boolean) 1 [.int v0] σ (rp_Qi D a (xt cI cB cS a) 62 res) :=
  rp_entry (by decide) (Nat.le_of_ble_eq_true rfl) (fun p e s m below meth c ls hC hw hl => kX6_isSheet_0 hC v0 σ _ _ _ hF hw (lv_sub hl [0] rfl))
