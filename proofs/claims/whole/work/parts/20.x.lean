def fX6_isWithin (v0 : Int32) (v1 : Int32) (v2 : Int32) (σ : rp_St) : Option (Int32 × rp_St) :=
  (if v0 < v1 then some (0, σ) else (if v2 < v0 then some (0, σ) else some (1, σ)))
set_option maxRecDepth 100000 in
set_option maxHeartbeats 4000000 in
theorem kX6_isWithin_0 {p : Program} {l : Launch} {e : Env} {s : State} {m : MethodId} {args : Array Value} {below : List Frame} {meth : Method} {c : Code} {D : va_G} {cI cB cS : ClassId} {a : Nat → Nat} {res : Int32 × rp_St} (hC : xC p s m args meth c cX6_isWithin 3 "RegretPegs" (some .boolean) D cI cB cS a) (v0 : Int32) (v1 : Int32) (v2 : Int32) (σ : rp_St) (H : Heap) (locs : List Loc) (ls : Array Slot) (hF : fX6_isWithin v0 v1 v2 σ = some res) (hw : xW D cI cB cS a s σ H locs) (hl : lv_has ls 3 [(0, .int v0), (1, .int v1), (2, .int v2)]) : W p l e (rp_rm 1) s m args below meth c H locs 0 0 (MQ below (rp_Qi D a (xt cI cB cS a) 62 res) args s 0 0 (rp_A a 62)) (F0 m 0 ls []) := by
  have hx := hC.1
  have hb := hC.2.1
  have hown := hC.2.2.2.1
  have hts := hC.2.2.2.2.1
  unfold fX6_isWithin at hF
  refine lv_iload_n (pc := 0) hx hb dX6_isWithin_0 rfl (lv_at hl 0 rfl) ?_
  refine lv_iload_n (pc := 1) hx hb dX6_isWithin_1 rfl (lv_at hl 1 rfl) ?_
  refine lv_icmp_lt (pc := 2) (tgt := 14) hx hb dX6_isWithin_2 (by decide) (fun hc => ?_) (fun hc => ?_)
  · replace hF := rp_it hc hF
    refine lv_iconst (pc := 14) (v := 0) hx hb dX6_isWithin_14 (by decide) ?_
    exact rp_retz (pc := 15) hC hw rfl hF dX6_isWithin_15
  · replace hF := rp_if hc hF
    refine lv_iload_n (pc := 5) hx hb dX6_isWithin_5 rfl (lv_at hl 0 rfl) ?_
    refine lv_iload_n (pc := 6) hx hb dX6_isWithin_6 rfl (lv_at hl 2 rfl) ?_
    refine lv_icmp_gt (pc := 7) (tgt := 14) hx hb dX6_isWithin_7 (by decide) (fun hc => ?_) (fun hc => ?_)
    · replace hF := rp_it hc hF
      refine lv_iconst (pc := 14) (v := 0) hx hb dX6_isWithin_14 (by decide) ?_
      exact rp_retz (pc := 15) hC hw rfl hF dX6_isWithin_15
    · replace hF := rp_if hc hF
      refine lv_iconst (pc := 10) (v := 1) hx hb dX6_isWithin_10 (by decide) ?_
      refine lv_goto (pc := 11) (tgt := 15) hx hb dX6_isWithin_11 (by decide) ?_
      exact rp_retz (pc := 15) hC hw rfl hF dX6_isWithin_15
theorem mX6_isWithin {l : Launch} {D : va_G} {cI cB cS : ClassId} {a : Nat → Nat} (v0 : Int32) (v1 : Int32) (v2 : Int32) (σ : rp_St) (res : Int32 × rp_St) (hF : fX6_isWithin v0 v1 v2 σ = some res) : xM l D cI cB cS a yX6_isWithin cX6_isWithin 3 (some .boolean) 1 [.int v0, .int v1, .int v2] σ (rp_Qi D a (xt cI cB cS a) 62 res) :=
  rp_entry (by decide) (Nat.le_of_ble_eq_true rfl) (fun p e s m below meth c ls hC hw hl => kX6_isWithin_0 hC v0 v1 v2 σ _ _ _ hF hw (lv_sub hl [0, 1, 2] rfl))
def fX6_isKindAndNumber (v0 : Int32) (σ : rp_St) : Option (Int32 × rp_St) :=
  rp_bd (fX6_isWithin v0 0 69 σ) (fun r1 σ2 => rp_gu (r1 == 0 || r1 == 1) (some (r1, σ2)))
set_option maxRecDepth 100000 in
set_option maxHeartbeats 4000000 in
theorem kX6_isKindAndNumber_0 {p : Program} {l : Launch} {e : Env} {s : State} {m : MethodId} {args : Array Value} {below : List Frame} {meth : Method} {c : Code} {D : va_G} {cI cB cS : ClassId} {a : Nat → Nat} {res : Int32 × rp_St} (hC : xC p s m args meth c cX6_isKindAndNumber 1 "RegretPegs" (some .boolean) D cI cB cS a) (v0 : Int32) (σ : rp_St) (H : Heap) (locs : List Loc) (ls : Array Slot) (hF : fX6_isKindAndNumber v0 σ = some res) (hw : xW D cI cB cS a s σ H locs) (hl : lv_has ls 1 [(0, .int v0)]) : W p l e (rp_rm 2) s m args below meth c H locs 0 0 (MQ below (rp_Qi D a (xt cI cB cS a) 62 res) args s 0 0 (rp_A a 62)) (F0 m 0 ls []) := by
  have hx := hC.1
  have hb := hC.2.1
  have hown := hC.2.2.2.1
  have hts := hC.2.2.2.2.1
  unfold fX6_isKindAndNumber at hF
  refine lv_iload_n (pc := 0) hx hb dX6_isKindAndNumber_0 rfl (lv_at hl 0 rfl) ?_
  refine lv_iconst (pc := 1) (v := 0) hx hb dX6_isKindAndNumber_1 (by decide) ?_
  refine lv_bipush (pc := 2) (v := 69) hx hb dX6_isKindAndNumber_2 (by decide) ?_
  obtain ⟨r1, σ2, hq, hF⟩ := rp_bd_e hF
  refine rp_ki (rp_runZ (rest := []) hC (xE_ok _) hw hl.1 (mX6_isWithin (l := l) v0 0 69 σ _ hq) zw_X6_62 rfl rfl (Nat.le_of_ble_eq_true rfl) (by decide) dX6_isKindAndNumber_4) hw (fun H locs hw => ?_)
  clear hq
  obtain ⟨hg, hF⟩ := rp_gu_e hF
  exact rp_retz (pc := 7) hC hw hg hF dX6_isKindAndNumber_7
theorem mX6_isKindAndNumber {l : Launch} {D : va_G} {cI cB cS : ClassId} {a : Nat → Nat} (v0 : Int32) (σ : rp_St) (res : Int32 × rp_St) (hF : fX6_isKindAndNumber v0 σ = some res) : xM l D cI cB cS a yX6_isKindAndNumber cX6_isKindAndNumber 1 (some .boolean) 2 [.int v0] σ (rp_Qi D a (xt cI cB cS a) 62 res) :=
  rp_entry (by decide) (Nat.le_of_ble_eq_true rfl) (fun p e s m below meth c ls hC hw hl => kX6_isKindAndNumber_0 hC v0 σ _ _ _ hF hw (lv_sub hl [0] rfl))
def fX6_refuse (v1 : Int32) (σ : rp_St) : Option (Int32 × rp_St) :=
  rp_gu (rp_in v1 6) (rp_gu (rp_in v1 6) (rp_nm (rp_put σ 55 (v1 : Int32).toNatClampNeg ((σ 55 (v1 : Int32).toNatClampNeg) + 1)) (fun σ1 => some (((-1000000000) - v1), σ1))))
set_option maxRecDepth 100000 in
set_option maxHeartbeats 4000000 in
theorem kX6_refuse_0 {p : Program} {l : Launch} {e : Env} {s : State} {m : MethodId} {args : Array Value} {below : List Frame} {meth : Method} {c : Code} {D : va_G} {cI cB cS : ClassId} {a : Nat → Nat} {res : Int32 × rp_St} (hC : xC p s m args meth c cX6_refuse 2 "RegretPegs" (some .int) D cI cB cS a) (v1 : Int32) (σ : rp_St) (H : Heap) (locs : List Loc) (ls : Array Slot) (hF : fX6_refuse v1 σ = some res) (hw : xW D cI cB cS a s σ H locs) (hl : lv_has ls 2 [(0, .ref (a 54)), (1, .int v1)]) : W p l e (rp_rm 1) s m args below meth c H locs 0 0 (MQ below (rp_Qi D a (xt cI cB cS a) 62 res) args s 0 0 (rp_A a 62)) (F0 m 0 ls []) := by
  have hx := hC.1
  have hb := hC.2.1
  have hown := hC.2.2.2.1
  have hts := hC.2.2.2.2.1
  unfold fX6_refuse at hF
  refine lv_aload_n (pc := 0) hx hb dX6_refuse_0 rfl (lv_at hl 0 rfl) ?_
  refine rp_get (pc := 1) hC hw 54 (by decide) (xt_reg _) fl_X6_54 (.ref (a 55)) rfl dX6_refuse_1 ?_
  refine lv_iload_n (pc := 4) hx hb dX6_refuse_4 rfl (lv_at hl 1 rfl) ?_
  refine lv_dup2_11 (pc := 5) hx hb dX6_refuse_5 rfl rfl ?_
  obtain ⟨hg, hF⟩ := rp_gu_e hF
  refine rp_ald (pc := 6) hC hw 55 (by decide) xt_err 0 rfl hg dX6_refuse_6 ?_
  refine lv_iconst (pc := 7) (v := 1) hx hb dX6_refuse_7 (by decide) ?_
  refine lv_iadd (pc := 8) hx hb dX6_refuse_8 ?_
  obtain ⟨hg, hF⟩ := rp_gu_e hF
  refine rp_ast (pc := 9) hC hw 55 (by decide) xt_err 0 rfl hg dX6_refuse_9 (fun H locs hw => ?_)
  obtain ⟨σ1, eσ1, hF⟩ := rp_nm_e hF
  replace hw := rp_Wn eσ1 hw
  clear eσ1
  refine lv_ldcw (pc := 10) (v := (-1000000000)) hx hb hown (hts _ wd_243) dX6_refuse_10 ?_
  refine lv_iload_n (pc := 13) hx hb dX6_refuse_13 rfl (lv_at hl 1 rfl) ?_
  refine lv_isub (pc := 14) hx hb dX6_refuse_14 ?_
  exact rp_reti (pc := 15) hC hw hF dX6_refuse_15
theorem mX6_refuse {l : Launch} {D : va_G} {cI cB cS : ClassId} {a : Nat → Nat} (v1 : Int32) (σ : rp_St) (res : Int32 × rp_St) (hF : fX6_refuse v1 σ = some res) : xM l D cI cB cS a yX6_refuse cX6_refuse 2 (some .int) 1 [.ref (a 54), .int v1] σ (rp_Qi D a (xt cI cB cS a) 62 res) :=
  rp_entry (by decide) (Nat.le_of_ble_eq_true rfl) (fun p e s m below meth c ls hC hw hl => kX6_refuse_0 hC v1 σ _ _ _ hF hw (lv_sub hl [0, 1] rfl))
def fX0_admit (g0 : Nat) (v1 : Int32) (v2 : Int32) (σ : rp_St) : Option (Int32 × rp_St) :=
  rp_nm (σ (7 * g0) 0) (fun x1 => rp_gu (rp_in x1 7) (rp_nm (rp_put σ (7 * g0 + 1) (x1 : Int32).toNatClampNeg (v1 / 10)) (fun σ2 => rp_gu (rp_in x1 7) (rp_nm (rp_put σ2 (7 * g0 + 2) (x1 : Int32).toNatClampNeg (v1 - v1 / 10 * 10)) (fun σ3 => rp_gu (rp_in x1 7) (rp_nm (rp_put σ3 (7 * g0 + 3) (x1 : Int32).toNatClampNeg v2) (fun σ4 => rp_gu (rp_in x1 7) (rp_nm (rp_put σ4 (7 * g0 + 4) (x1 : Int32).toNatClampNeg 0) (fun σ5 => rp_gu (rp_in x1 7) (rp_nm (rp_put σ5 (7 * g0 + 5) (x1 : Int32).toNatClampNeg 1) (fun σ6 => rp_gu (rp_in x1 7) (rp_nm (rp_put σ6 (7 * g0 + 6) (x1 : Int32).toNatClampNeg x1) (fun σ7 => rp_nm (rp_put σ7 (7 * g0) 0 ((σ7 (7 * g0) 0) + 1)) (fun σ8 => some (x1, σ8)))))))))))))))
set_option maxRecDepth 100000 in
set_option maxHeartbeats 4000000 in
theorem kX0_admit_0 {p : Program} {l : Launch} {e : Env} {s : State} {m : MethodId} {args : Array Value} {below : List Frame} {meth : Method} {c : Code} {D : va_G} {cI cB cS : ClassId} {a : Nat → Nat} {res : Int32 × rp_St} (g0 : Nat) (h_g0 : g0 < 4) (hC : xC p s m args meth c cX0_admit 4 "RegretPegs$Ball" (some .int) D cI cB cS a) (v1 : Int32) (v2 : Int32) (σ : rp_St) (H : Heap) (locs : List Loc) (ls : Array Slot) (hF : fX0_admit g0 v1 v2 σ = some res) (hw : xW D cI cB cS a s σ H locs) (hl : lv_has ls 4 [(0, .ref (a (7 * g0))), (1, .int v1), (2, .int v2)]) : W p l e (rp_rm 1) s m args below meth c H locs 0 0 (MQ below (rp_Qi D a (xt cI cB cS a) 62 res) args s 0 0 (rp_A a 62)) (F0 m 0 ls []) := by
  have hx := hC.1
  have hb := hC.2.1
  have hown := hC.2.2.2.1
  have hts := hC.2.2.2.2.1
  unfold fX0_admit at hF
  refine lv_aload_n (pc := 0) hx hb dX0_admit_0 rfl (lv_at hl 0 rfl) ?_
  refine rp_get (pc := 1) hC hw (7 * g0) (by omega) ((xt_ball (b := g0) (by omega)) _) fl_X0_9 (.int (σ (7 * g0) 0)) rfl dX0_admit_1 ?_
  obtain ⟨x1, ex1, hF⟩ := rp_nm_e hF
  refine rp_top ex1 ?_
  refine lv_istore_n (pc := 4) (lv' := [(3, .int x1), (0, .ref (a (7 * g0))), (1, .int v1), (2, .int v2)]) hx hb dX0_admit_4 rfl hl (by decide) rfl (fun ls hl => ?_)
  refine lv_aload_n (pc := 5) hx hb dX0_admit_5 rfl (lv_at hl 1 rfl) ?_
  refine rp_get (pc := 6) hC hw (7 * g0) (by omega) ((xt_ball (b := g0) (by omega)) _) fl_X0_15 (.ref (a (7 * g0 + 1))) rfl dX0_admit_6 ?_
  refine lv_iload_n (pc := 9) hx hb dX0_admit_9 rfl (lv_at hl 0 rfl) ?_
  refine lv_iload_n (pc := 10) hx hb dX0_admit_10 rfl (lv_at hl 2 rfl) ?_
  refine lv_bipush (pc := 11) (v := 10) hx hb dX0_admit_11 (by decide) ?_
  refine lv_idiv (pc := 13) hx hb dX0_admit_13 (by decide) ?_
  obtain ⟨hg, hF⟩ := rp_gu_e hF
  refine rp_ast (pc := 14) hC hw (7 * g0 + 1) (by omega) (xt_bar (b := g0) (by omega) 1 ⟨by decide, by decide⟩) 0 rfl hg dX0_admit_14 (fun H locs hw => ?_)
  obtain ⟨σ2, eσ2, hF⟩ := rp_nm_e hF
  replace hw := rp_Wn eσ2 hw
  clear eσ2
  refine lv_aload_n (pc := 15) hx hb dX0_admit_15 rfl (lv_at hl 1 rfl) ?_
  refine rp_get (pc := 16) hC hw (7 * g0) (by omega) ((xt_ball (b := g0) (by omega)) _) fl_X0_19 (.ref (a (7 * g0 + 2))) rfl dX0_admit_16 ?_
  refine lv_iload_n (pc := 19) hx hb dX0_admit_19 rfl (lv_at hl 0 rfl) ?_
  refine lv_iload_n (pc := 20) hx hb dX0_admit_20 rfl (lv_at hl 2 rfl) ?_
  refine lv_bipush (pc := 21) (v := 10) hx hb dX0_admit_21 (by decide) ?_
  refine lv_irem (pc := 23) hx hb dX0_admit_23 (by decide) ?_
  obtain ⟨hg, hF⟩ := rp_gu_e hF
  refine rp_ast (pc := 24) hC hw (7 * g0 + 2) (by omega) (xt_bar (b := g0) (by omega) 2 ⟨by decide, by decide⟩) 0 rfl hg dX0_admit_24 (fun H locs hw => ?_)
  obtain ⟨σ3, eσ3, hF⟩ := rp_nm_e hF
  replace hw := rp_Wn eσ3 hw
  clear eσ3
  refine lv_aload_n (pc := 25) hx hb dX0_admit_25 rfl (lv_at hl 1 rfl) ?_
  refine rp_get (pc := 26) hC hw (7 * g0) (by omega) ((xt_ball (b := g0) (by omega)) _) fl_X0_22 (.ref (a (7 * g0 + 3))) rfl dX0_admit_26 ?_
  refine lv_iload_n (pc := 29) hx hb dX0_admit_29 rfl (lv_at hl 0 rfl) ?_
  refine lv_iload_n (pc := 30) hx hb dX0_admit_30 rfl (lv_at hl 3 rfl) ?_
  obtain ⟨hg, hF⟩ := rp_gu_e hF
  refine rp_ast (pc := 31) hC hw (7 * g0 + 3) (by omega) (xt_bar (b := g0) (by omega) 3 ⟨by decide, by decide⟩) 0 rfl hg dX0_admit_31 (fun H locs hw => ?_)
  obtain ⟨σ4, eσ4, hF⟩ := rp_nm_e hF
  replace hw := rp_Wn eσ4 hw
  clear eσ4
  refine lv_aload_n (pc := 32) hx hb dX0_admit_32 rfl (lv_at hl 1 rfl) ?_
  refine rp_get (pc := 33) hC hw (7 * g0) (by omega) ((xt_ball (b := g0) (by omega)) _) fl_X0_25 (.ref (a (7 * g0 + 4))) rfl dX0_admit_33 ?_
  refine lv_iload_n (pc := 36) hx hb dX0_admit_36 rfl (lv_at hl 0 rfl) ?_
  refine lv_iconst (pc := 37) (v := 0) hx hb dX0_admit_37 (by decide) ?_
  obtain ⟨hg, hF⟩ := rp_gu_e hF
  refine rp_ast (pc := 38) hC hw (7 * g0 + 4) (by omega) (xt_bar (b := g0) (by omega) 4 ⟨by decide, by decide⟩) 0 rfl hg dX0_admit_38 (fun H locs hw => ?_)
  obtain ⟨σ5, eσ5, hF⟩ := rp_nm_e hF
  replace hw := rp_Wn eσ5 hw
  clear eσ5
  refine lv_aload_n (pc := 39) hx hb dX0_admit_39 rfl (lv_at hl 1 rfl) ?_
  refine rp_get (pc := 40) hC hw (7 * g0) (by omega) ((xt_ball (b := g0) (by omega)) _) fl_X0_28 (.ref (a (7 * g0 + 5))) rfl dX0_admit_40 ?_
  refine lv_iload_n (pc := 43) hx hb dX0_admit_43 rfl (lv_at hl 0 rfl) ?_
  refine lv_iconst (pc := 44) (v := 1) hx hb dX0_admit_44 (by decide) ?_
  obtain ⟨hg, hF⟩ := rp_gu_e hF
  refine rp_ast (pc := 45) hC hw (7 * g0 + 5) (by omega) (xt_bar (b := g0) (by omega) 5 ⟨by decide, by decide⟩) 0 rfl hg dX0_admit_45 (fun H locs hw => ?_)
  obtain ⟨σ6, eσ6, hF⟩ := rp_nm_e hF
  replace hw := rp_Wn eσ6 hw
  clear eσ6
  refine lv_aload_n (pc := 46) hx hb dX0_admit_46 rfl (lv_at hl 1 rfl) ?_
  refine rp_get (pc := 47) hC hw (7 * g0) (by omega) ((xt_ball (b := g0) (by omega)) _) fl_X0_31 (.ref (a (7 * g0 + 6))) rfl dX0_admit_47 ?_
  refine lv_iload_n (pc := 50) hx hb dX0_admit_50 rfl (lv_at hl 0 rfl) ?_
  refine lv_iload_n (pc := 51) hx hb dX0_admit_51 rfl (lv_at hl 0 rfl) ?_
  obtain ⟨hg, hF⟩ := rp_gu_e hF
  refine rp_ast (pc := 52) hC hw (7 * g0 + 6) (by omega) (xt_bar (b := g0) (by omega) 6 ⟨by decide, by decide⟩) 0 rfl hg dX0_admit_52 (fun H locs hw => ?_)
  obtain ⟨σ7, eσ7, hF⟩ := rp_nm_e hF
  replace hw := rp_Wn eσ7 hw
  clear eσ7
  refine lv_aload_n (pc := 53) hx hb dX0_admit_53 rfl (lv_at hl 1 rfl) ?_
  refine lv_dup (pc := 54) hx hb dX0_admit_54 rfl ?_
  refine rp_get (pc := 55) hC hw (7 * g0) (by omega) ((xt_ball (b := g0) (by omega)) _) fl_X0_9 (.int (σ7 (7 * g0) 0)) rfl dX0_admit_55 ?_
  refine lv_iconst (pc := 58) (v := 1) hx hb dX0_admit_58 (by decide) ?_
  refine lv_iadd (pc := 59) hx hb dX0_admit_59 ?_
  refine rp_set (pc := 60) (fs := xb_ball a (7 * g0)) hC hw (7 * g0) (by omega) (xt_ball (b := g0) (by omega)) fg_X0_9 rfl (Nat.le_of_ble_eq_true rfl) rfl rfl dX0_admit_60 (fun H locs hw => ?_)
  obtain ⟨σ8, eσ8, hF⟩ := rp_nm_e hF
  replace hw := rp_Wn eσ8 hw
  clear eσ8
  refine lv_iload_n (pc := 63) hx hb dX0_admit_63 rfl (lv_at hl 0 rfl) ?_
  exact rp_reti (pc := 64) hC hw hF dX0_admit_64
theorem mX0_admit {l : Launch} {D : va_G} {cI cB cS : ClassId} {a : Nat → Nat} (g0 : Nat) (h_g0 : g0 < 4) (v1 : Int32) (v2 : Int32) (σ : rp_St) (res : Int32 × rp_St) (hF : fX0_admit g0 v1 v2 σ = some res) : xM l D cI cB cS a yX0_admit cX0_admit 4 (some .int) 1 [.ref (a (7 * g0)), .int v1, .int v2] σ (rp_Qi D a (xt cI cB cS a) 62 res) :=
  rp_entry (by decide) (Nat.le_of_ble_eq_true rfl) (fun p e s m below meth c ls hC hw hl => kX0_admit_0 g0 h_g0 hC v1 v2 σ _ _ _ hF hw (lv_sub hl [0, 1, 2] rfl))
def fX6_guest_18 (σ : rp_St) : Option (Int32 × rp_St) :=
  rp_bd (fX6_refuse 1 σ) (fun r1 σ2 => some (r1, σ2))
set_option maxRecDepth 100000 in
set_option maxHeartbeats 4000000 in
theorem kX6_guest_18 {p : Program} {l : Launch} {e : Env} {s : State} {m : MethodId} {args : Array Value} {below : List Frame} {meth : Method} {c : Code} {D : va_G} {cI cB cS : ClassId} {a : Nat → Nat} {res : Int32 × rp_St} (hC : xC p s m args meth c cX6_guest 3 "RegretPegs" (some .int) D cI cB cS a) (σ : rp_St) (H : Heap) (locs : List Loc) (ls : Array Slot) (hF : fX6_guest_18 σ = some res) (hw : xW D cI cB cS a s σ H locs) (hl : lv_has ls 3 [(0, .ref (a 54))]) : W p l e (rp_rm 3) s m args below meth c H locs 0 0 (MQ below (rp_Qi D a (xt cI cB cS a) 62 res) args s 0 0 (rp_A a 62)) (F0 m 18 ls []) := by
  have hx := hC.1
  have hb := hC.2.1
  have hown := hC.2.2.2.1
  have hts := hC.2.2.2.2.1
  unfold fX6_guest_18 at hF
  refine lv_aload_n (pc := 18) hx hb dX6_guest_18 rfl (lv_at hl 0 rfl) ?_
  refine lv_iconst (pc := 19) (v := 1) hx hb dX6_guest_19 (by decide) ?_
  obtain ⟨r1, σ2, hq, hF⟩ := rp_bd_e hF
  refine rp_ki (rp_runV (rest := []) hC (xE_ok _) hw hl.1 (mX6_refuse (l := l) 1 σ _ hq) vw_X6_66 (by decide) (xt_reg _) rfl rfl rfl (Nat.le_of_ble_eq_true rfl) (by decide) dX6_guest_20) hw (fun H locs hw => ?_)
  clear hq
  exact rp_reti (pc := 23) hC hw hF dX6_guest_23
def fX6_guest (v1 : Int32) (v2 : Int32) (σ : rp_St) : Option (Int32 × rp_St) :=
  rp_bd (fX6_isKindAndNumber v1 σ) (fun r1 σ2 => (if r1 = 0 then fX6_guest_18 σ2 else rp_bd (fX6_isWithin v2 0 999 σ2) (fun r3 σ4 => (if r3 = 0 then fX6_guest_18 σ4 else (if (σ4 0 0) < 7 then rp_bd (fX0_admit 0 v1 v2 σ4) (fun r5 σ6 => some (r5, σ6)) else rp_bd (fX6_refuse 4 σ4) (fun r7 σ8 => some (r7, σ8)))))))
set_option maxRecDepth 100000 in
set_option maxHeartbeats 4000000 in
theorem kX6_guest_0 {p : Program} {l : Launch} {e : Env} {s : State} {m : MethodId} {args : Array Value} {below : List Frame} {meth : Method} {c : Code} {D : va_G} {cI cB cS : ClassId} {a : Nat → Nat} {res : Int32 × rp_St} (hC : xC p s m args meth c cX6_guest 3 "RegretPegs" (some .int) D cI cB cS a) (v1 : Int32) (v2 : Int32) (σ : rp_St) (H : Heap) (locs : List Loc) (ls : Array Slot) (hF : fX6_guest v1 v2 σ = some res) (hw : xW D cI cB cS a s σ H locs) (hl : lv_has ls 3 [(0, .ref (a 54)), (1, .int v1), (2, .int v2)]) : W p l e (rp_rm 3) s m args below meth c H locs 0 0 (MQ below (rp_Qi D a (xt cI cB cS a) 62 res) args s 0 0 (rp_A a 62)) (F0 m 0 ls []) := by
  have hx := hC.1
  have hb := hC.2.1
  have hown := hC.2.2.2.1
  have hts := hC.2.2.2.2.1
  unfold fX6_guest at hF
  refine lv_iload_n (pc := 0) hx hb dX6_guest_0 rfl (lv_at hl 1 rfl) ?_
  obtain ⟨r1, σ2, hq, hF⟩ := rp_bd_e hF
  refine rp_ki (rp_runZ (rest := []) hC (xE_ok _) hw hl.1 (mX6_isKindAndNumber (l := l) v1 σ _ hq) zw_X6_58 rfl rfl (Nat.le_of_ble_eq_true rfl) (by decide) dX6_guest_1) hw (fun H locs hw => ?_)
  clear hq
  refine lv_if_eq (pc := 4) (tgt := 18) hx hb dX6_guest_4 (by decide) (fun hc => ?_) (fun hc => ?_)
  · replace hF := rp_it hc hF
    exact kX6_guest_18 hC σ2 _ _ _ hF hw (lv_sub hl [0] rfl)
  · replace hF := rp_if hc hF
    refine lv_iload_n (pc := 7) hx hb dX6_guest_7 rfl (lv_at hl 2 rfl) ?_
    refine lv_iconst (pc := 8) (v := 0) hx hb dX6_guest_8 (by decide) ?_
    refine lv_sipush (pc := 9) (v := 999) hx hb dX6_guest_9 (by decide) ?_
    obtain ⟨r3, σ4, hq, hF⟩ := rp_bd_e hF
    refine rp_ki (rp_runZ (rest := []) hC (xE_ok _) hw hl.1 (mX6_isWithin (l := l) v2 0 999 σ2 _ hq) zw_X6_62 rfl rfl (Nat.le_of_ble_eq_true rfl) (by decide) dX6_guest_12) hw (fun H locs hw => ?_)
    clear hq
    refine lv_if_ne (pc := 15) (tgt := 24) hx hb dX6_guest_15 (by decide) (fun hc => ?_) (fun hc => ?_)
    · replace hF := rp_if hc hF
      refine lv_aload_n (pc := 24) hx hb dX6_guest_24 rfl (lv_at hl 0 rfl) ?_
      refine rp_get (pc := 25) hC hw 54 (by decide) (xt_reg _) fl_X6_10 (.ref (a 40)) rfl dX6_guest_25 ?_
      refine rp_get (pc := 28) hC hw 40 (by decide) ((xt_eve (i := 0) (by decide)) _) fl_X6_70 (.ref (a 0)) rfl dX6_guest_28 ?_
      refine rp_get (pc := 31) hC hw 0 (by decide) ((xt_ball (b := 0) (by decide)) _) fl_X6_73 (.int (σ4 0 0)) rfl dX6_guest_31 ?_
      refine lv_bipush (pc := 34) (v := 7) hx hb dX6_guest_34 (by decide) ?_
      refine lv_icmp_lt (pc := 36) (tgt := 45) hx hb dX6_guest_36 (by decide) (fun hc => ?_) (fun hc => ?_)
      · replace hF := rp_it hc hF
        refine lv_aload_n (pc := 45) hx hb dX6_guest_45 rfl (lv_at hl 0 rfl) ?_
        refine rp_get (pc := 46) hC hw 54 (by decide) (xt_reg _) fl_X6_10 (.ref (a 40)) rfl dX6_guest_46 ?_
        refine rp_get (pc := 49) hC hw 40 (by decide) ((xt_eve (i := 0) (by decide)) _) fl_X6_70 (.ref (a 0)) rfl dX6_guest_49 ?_
        refine lv_iload_n (pc := 52) hx hb dX6_guest_52 rfl (lv_at hl 1 rfl) ?_
        refine lv_iload_n (pc := 53) hx hb dX6_guest_53 rfl (lv_at hl 2 rfl) ?_
        obtain ⟨r5, σ6, hq, hF⟩ := rp_bd_e hF
        refine rp_ki (rp_runV (rest := []) hC (xE_ok _) hw hl.1 (mX0_admit (l := l) 0 (by decide) v1 v2 σ4 _ hq) vw_X6_76 (by decide) ((xt_ball (b := 0) (by decide)) _) rfl rfl rfl (Nat.le_of_ble_eq_true rfl) (by decide) dX6_guest_54) hw (fun H locs hw => ?_)
        clear hq
        exact rp_reti (pc := 57) hC hw hF dX6_guest_57
      · replace hF := rp_if hc hF
        refine lv_aload_n (pc := 39) hx hb dX6_guest_39 rfl (lv_at hl 0 rfl) ?_
        refine lv_iconst (pc := 40) (v := 4) hx hb dX6_guest_40 (by decide) ?_
        obtain ⟨r7, σ8, hq, hF⟩ := rp_bd_e hF
        refine rp_ki (rp_runV (rest := []) hC (xE_ok _) hw hl.1 (mX6_refuse (l := l) 4 σ4 _ hq) vw_X6_66 (by decide) (xt_reg _) rfl rfl rfl (Nat.le_of_ble_eq_true rfl) (by decide) dX6_guest_41) hw (fun H locs hw => ?_)
        clear hq
        exact rp_reti (pc := 44) hC hw hF dX6_guest_44
    · replace hF := rp_it hc hF
      exact kX6_guest_18 hC σ4 _ _ _ hF hw (lv_sub hl [0] rfl)
theorem mX6_guest {l : Launch} {D : va_G} {cI cB cS : ClassId} {a : Nat → Nat} (v1 : Int32) (v2 : Int32) (σ : rp_St) (res : Int32 × rp_St) (hF : fX6_guest v1 v2 σ = some res) : xM l D cI cB cS a yX6_guest cX6_guest 3 (some .int) 3 [.ref (a 54), .int v1, .int v2] σ (rp_Qi D a (xt cI cB cS a) 62 res) :=
  rp_entry (by decide) (Nat.le_of_ble_eq_true rfl) (fun p e s m below meth c ls hC hw hl => kX6_guest_0 hC v1 v2 σ _ _ _ hF hw (lv_sub hl [0, 1, 2] rfl))
def fX6_isGuest (v1 : Int32) (σ : rp_St) : Option (Int32 × rp_St) :=
  (if v1 < 0 then some (0, σ) else (if (σ 0 0) ≤ v1 then some (0, σ) else some (1, σ)))
set_option maxRecDepth 100000 in
set_option maxHeartbeats 4000000 in
theorem kX6_isGuest_0 {p : Program} {l : Launch} {e : Env} {s : State} {m : MethodId} {args : Array Value} {below : List Frame} {meth : Method} {c : Code} {D : va_G} {cI cB cS : ClassId} {a : Nat → Nat} {res : Int32 × rp_St} (hC : xC p s m args meth c cX6_isGuest 2 "RegretPegs" (some .boolean) D cI cB cS a) (v1 : Int32) (σ : rp_St) (H : Heap) (locs : List Loc) (ls : Array Slot) (hF : fX6_isGuest v1 σ = some res) (hw : xW D cI cB cS a s σ H locs) (hl : lv_has ls 2 [(0, .ref (a 54)), (1, .int v1)]) : W p l e (rp_rm 1) s m args below meth c H locs 0 0 (MQ below (rp_Qi D a (xt cI cB cS a) 62 res) args s 0 0 (rp_A a 62)) (F0 m 0 ls []) := by
  have hx := hC.1
  have hb := hC.2.1
  have hown := hC.2.2.2.1
  have hts := hC.2.2.2.2.1
  unfold fX6_isGuest at hF
  refine lv_iload_n (pc := 0) hx hb dX6_isGuest_0 rfl (lv_at hl 1 rfl) ?_
  refine lv_if_lt (pc := 1) (tgt := 22) hx hb dX6_isGuest_1 (by decide) (fun hc => ?_) (fun hc => ?_)
  · replace hF := rp_it hc hF
    refine lv_iconst (pc := 22) (v := 0) hx hb dX6_isGuest_22 (by decide) ?_
    exact rp_retz (pc := 23) hC hw rfl hF dX6_isGuest_23
  · replace hF := rp_if hc hF
    refine lv_iload_n (pc := 4) hx hb dX6_isGuest_4 rfl (lv_at hl 1 rfl) ?_
    refine lv_aload_n (pc := 5) hx hb dX6_isGuest_5 rfl (lv_at hl 0 rfl) ?_
    refine rp_get (pc := 6) hC hw 54 (by decide) (xt_reg _) fl_X6_10 (.ref (a 40)) rfl dX6_isGuest_6 ?_
    refine rp_get (pc := 9) hC hw 40 (by decide) ((xt_eve (i := 0) (by decide)) _) fl_X6_70 (.ref (a 0)) rfl dX6_isGuest_9 ?_
    refine rp_get (pc := 12) hC hw 0 (by decide) ((xt_ball (b := 0) (by decide)) _) fl_X6_73 (.int (σ 0 0)) rfl dX6_isGuest_12 ?_
    refine lv_icmp_ge (pc := 15) (tgt := 22) hx hb dX6_isGuest_15 (by decide) (fun hc => ?_) (fun hc => ?_)
    · replace hF := rp_it hc hF
      refine lv_iconst (pc := 22) (v := 0) hx hb dX6_isGuest_22 (by decide) ?_
      exact rp_retz (pc := 23) hC hw rfl hF dX6_isGuest_23
    · replace hF := rp_if hc hF
      refine lv_iconst (pc := 18) (v := 1) hx hb dX6_isGuest_18 (by decide) ?_
      refine lv_goto (pc := 19) (tgt := 23) hx hb dX6_isGuest_19 (by decide) ?_
      exact rp_retz (pc := 23) hC hw rfl hF dX6_isGuest_23
theorem mX6_isGuest {l : Launch} {D : va_G} {cI cB cS : ClassId} {a : Nat → Nat} (v1 : Int32) (σ : rp_St) (res : Int32 × rp_St) (hF : fX6_isGuest v1 σ = some res) : xM l D cI cB cS a yX6_isGuest cX6_isGuest 2 (some .boolean) 1 [.ref (a 54), .int v1] σ (rp_Qi D a (xt cI cB cS a) 62 res) :=
  rp_entry (by decide) (Nat.le_of_ble_eq_true rfl) (fun p e s m below meth c ls hC hw hl => kX6_isGuest_0 hC v1 σ _ _ _ hF hw (lv_sub hl [0, 1] rfl))
def fX0_pegOf_2 (g0 : Nat) (k2 : Int32 → Int32 → rp_St → Option (Int32 × rp_St)) (v1 : Int32) (v2 : Int32) (σ : rp_St) : Option (Int32 × rp_St) :=
  (if (σ (7 * g0) 0) ≤ v2 then some (0, σ) else rp_gu (rp_in v2 7) ((if (σ (7 * g0 + 6) (v2 : Int32).toNatClampNeg) = v1 then some (v2, σ) else rp_nm (v2 + 1) (fun x1 => k2 v1 x1 σ))))
set_option maxRecDepth 100000 in
set_option maxHeartbeats 4000000 in
theorem kX0_pegOf_2 {p : Program} {l : Launch} {e : Env} {s : State} {m : MethodId} {args : Array Value} {below : List Frame} {meth : Method} {c : Code} {D : va_G} {cI cB cS : ClassId} {a : Nat → Nat} {res : Int32 × rp_St} (g0 : Nat) (h_g0 : g0 < 4) (hC : xC p s m args meth c cX0_pegOf 3 "RegretPegs$Ball" (some .int) D cI cB cS a) (k2 : Int32 → Int32 → rp_St → Option (Int32 × rp_St)) (hk2 : ∀ (v1 : Int32) (v2 : Int32) (σ : rp_St) (H : Heap) (locs : List Loc) (ls : Array Slot), k2 v1 v2 σ = some res → xW D cI cB cS a s σ H locs → lv_has ls 3 [(0, .ref (a (7 * g0))), (1, .int v1), (2, .int v2)] → W p l e (rp_rm 1) s m args below meth c H locs 0 0 (MQ below (rp_Qi D a (xt cI cB cS a) 62 res) args s 0 0 (rp_A a 62)) (F0 m 2 ls [])) (v1 : Int32) (v2 : Int32) (σ : rp_St) (H : Heap) (locs : List Loc) (ls : Array Slot) (hF : fX0_pegOf_2 g0 k2 v1 v2 σ = some res) (hw : xW D cI cB cS a s σ H locs) (hl : lv_has ls 3 [(0, .ref (a (7 * g0))), (1, .int v1), (2, .int v2)]) : W p l e (rp_rm 1) s m args below meth c H locs 0 0 (MQ below (rp_Qi D a (xt cI cB cS a) 62 res) args s 0 0 (rp_A a 62)) (F0 m 2 ls []) := by
  have hx := hC.1
  have hb := hC.2.1
  have hown := hC.2.2.2.1
  have hts := hC.2.2.2.2.1
  unfold fX0_pegOf_2 at hF
  refine lv_iload_n (pc := 2) hx hb dX0_pegOf_2 rfl (lv_at hl 2 rfl) ?_
  refine lv_aload_n (pc := 3) hx hb dX0_pegOf_3 rfl (lv_at hl 0 rfl) ?_
  refine rp_get (pc := 4) hC hw (7 * g0) (by omega) ((xt_ball (b := g0) (by omega)) _) fl_X0_9 (.int (σ (7 * g0) 0)) rfl dX0_pegOf_4 ?_
  refine lv_icmp_ge (pc := 7) (tgt := 28) hx hb dX0_pegOf_7 (by decide) (fun hc => ?_) (fun hc => ?_)
  · replace hF := rp_it hc hF
    refine lv_iconst (pc := 28) (v := 0) hx hb dX0_pegOf_28 (by decide) ?_
    exact rp_reti (pc := 29) hC hw hF dX0_pegOf_29
  · replace hF := rp_if hc hF
    refine lv_aload_n (pc := 10) hx hb dX0_pegOf_10 rfl (lv_at hl 0 rfl) ?_
    refine rp_get (pc := 11) hC hw (7 * g0) (by omega) ((xt_ball (b := g0) (by omega)) _) fl_X0_31 (.ref (a (7 * g0 + 6))) rfl dX0_pegOf_11 ?_
    refine lv_iload_n (pc := 14) hx hb dX0_pegOf_14 rfl (lv_at hl 2 rfl) ?_
    obtain ⟨hg, hF⟩ := rp_gu_e hF
    refine rp_ald (pc := 15) hC hw (7 * g0 + 6) (by omega) (xt_bar (b := g0) (by omega) 6 ⟨by decide, by decide⟩) 0 rfl hg dX0_pegOf_15 ?_
    refine lv_iload_n (pc := 16) hx hb dX0_pegOf_16 rfl (lv_at hl 1 rfl) ?_
    refine lv_icmp_ne (pc := 17) (tgt := 22) hx hb dX0_pegOf_17 (by decide) (fun hc => ?_) (fun hc => ?_)
    · replace hF := rp_if hc hF
      obtain ⟨x1, ex1, hF⟩ := rp_nm_e hF
      refine lv_iinc (pc := 22) (v := x1) (lv' := [(2, .int x1), (0, .ref (a (7 * g0))), (1, .int v1)]) hx hb dX0_pegOf_22 hl (k := 2) rfl (by rw [ex1]; rfl) (by decide) rfl (fun ls hl => ?_)
      refine lv_goto (pc := 25) (tgt := 2) hx hb dX0_pegOf_25 (by decide) ?_
      exact hk2 v1 x1 σ _ _ _ hF hw (lv_sub hl [1, 2, 0] rfl)
    · replace hF := rp_it hc hF
      refine lv_iload_n (pc := 20) hx hb dX0_pegOf_20 rfl (lv_at hl 2 rfl) ?_
      exact rp_reti (pc := 21) hC hw hF dX0_pegOf_21
theorem lX0_pegOf_2 {p : Program} {l : Launch} {e : Env} {s : State} {m : MethodId} {args : Array Value} {below : List Frame} {meth : Method} {c : Code} {D : va_G} {cI cB cS : ClassId} {a : Nat → Nat} {res : Int32 × rp_St} (g0 : Nat) (h_g0 : g0 < 4) (hC : xC p s m args meth c cX0_pegOf 3 "RegretPegs$Ball" (some .int) D cI cB cS a) : ∀ (n : Nat) (v1 : Int32) (v2 : Int32) (σ : rp_St) (H : Heap) (locs : List Loc) (ls : Array Slot), rp_lp (fun _ _ _ => none) (fX0_pegOf_2 g0) n v1 v2 σ = some res → xW D cI cB cS a s σ H locs → lv_has ls 3 [(0, .ref (a (7 * g0))), (1, .int v1), (2, .int v2)] → W p l e (rp_rm 1) s m args below meth c H locs 0 0 (MQ below (rp_Qi D a (xt cI cB cS a) 62 res) args s 0 0 (rp_A a 62)) (F0 m 2 ls [])
  | 0, _, _, _, _, _, _, hF, _, _ => nomatch hF
  | n + 1, v1, v2, σ, H, locs, ls, hF, hw, hl => kX0_pegOf_2 g0 h_g0 hC (rp_lp (fun _ _ _ => none) (fX0_pegOf_2 g0) n) (lX0_pegOf_2 g0 h_g0 hC n) v1 v2 σ H locs ls hF hw hl
def fX0_pegOf (g0 : Nat) (v1 : Int32) (σ : rp_St) : Option (Int32 × rp_St) :=
  rp_lp (fun _ _ _ => none) (fX0_pegOf_2 g0) 300 v1 0 σ
set_option maxRecDepth 100000 in
set_option maxHeartbeats 4000000 in
theorem kX0_pegOf_0 {p : Program} {l : Launch} {e : Env} {s : State} {m : MethodId} {args : Array Value} {below : List Frame} {meth : Method} {c : Code} {D : va_G} {cI cB cS : ClassId} {a : Nat → Nat} {res : Int32 × rp_St} (g0 : Nat) (h_g0 : g0 < 4) (hC : xC p s m args meth c cX0_pegOf 3 "RegretPegs$Ball" (some .int) D cI cB cS a) (v1 : Int32) (σ : rp_St) (H : Heap) (locs : List Loc) (ls : Array Slot) (hF : fX0_pegOf g0 v1 σ = some res) (hw : xW D cI cB cS a s σ H locs) (hl : lv_has ls 3 [(0, .ref (a (7 * g0))), (1, .int v1)]) : W p l e (rp_rm 1) s m args below meth c H locs 0 0 (MQ below (rp_Qi D a (xt cI cB cS a) 62 res) args s 0 0 (rp_A a 62)) (F0 m 0 ls []) := by
  have hx := hC.1
  have hb := hC.2.1
  have hown := hC.2.2.2.1
  have hts := hC.2.2.2.2.1
  unfold fX0_pegOf at hF
  refine lv_iconst (pc := 0) (v := 0) hx hb dX0_pegOf_0 (by decide) ?_
  refine lv_istore_n (pc := 1) (lv' := [(2, .int 0), (0, .ref (a (7 * g0))), (1, .int v1)]) hx hb dX0_pegOf_1 rfl hl (by decide) rfl (fun ls hl => ?_)
  exact lX0_pegOf_2 g0 h_g0 hC 300 v1 0 σ _ _ _ hF hw (lv_sub hl [1, 2, 0] rfl)
theorem mX0_pegOf {l : Launch} {D : va_G} {cI cB cS : ClassId} {a : Nat → Nat} (g0 : Nat) (h_g0 : g0 < 4) (v1 : Int32) (σ : rp_St) (res : Int32 × rp_St) (hF : fX0_pegOf g0 v1 σ = some res) : xM l D cI cB cS a yX0_pegOf cX0_pegOf 3 (some .int) 1 [.ref (a (7 * g0)), .int v1] σ (rp_Qi D a (xt cI cB cS a) 62 res) :=
  rp_entry (by decide) (Nat.le_of_ble_eq_true rfl) (fun p e s m below meth c ls hC hw hl => kX0_pegOf_0 g0 h_g0 hC v1 σ _ _ _ hF hw (lv_sub hl [0, 1] rfl))
def fX0_growsOn (g0 : Nat) (v1 : Int32) (σ : rp_St) : Option (Int32 × rp_St) :=
  rp_gu (rp_in v1 7) (rp_nm (σ (7 * g0 + 6) (v1 : Int32).toNatClampNeg) (fun x1 => rp_gu (rp_in x1 7) (rp_nm (1 + ((σ (7 * g0 + 2) (x1 : Int32).toNatClampNeg) - (σ (7 * g0 + 2) (x1 : Int32).toNatClampNeg) / 3 * 3)) (fun x2 => rp_gu (rp_in x1 7) (rp_nm (σ (7 * g0 + 1) (x1 : Int32).toNatClampNeg) (fun x3 => (if x3 = 1 then some (x2, σ) else (if x3 = 2 then some (2, σ) else (if x3 = 3 then some (0, σ) else (if x3 = 4 then rp_gu (rp_in x1 7) ((if (σ (7 * g0 + 4) (x1 : Int32).toNatClampNeg) = 0 then some ((4 * x2), σ) else some (x2, σ))) else (if x3 = 5 then some ((2 + (((σ (7 * g0) 0) - 1) - v1)), σ) else (if x3 = 6 then rp_gu (rp_in x1 7) (some ((-(σ (7 * g0 + 2) (x1 : Int32).toNatClampNeg)), σ)) else some (1, σ)))))))))))))
set_option maxRecDepth 100000 in
set_option maxHeartbeats 4000000 in
theorem kX0_growsOn_0 {p : Program} {l : Launch} {e : Env} {s : State} {m : MethodId} {args : Array Value} {below : List Frame} {meth : Method} {c : Code} {D : va_G} {cI cB cS : ClassId} {a : Nat → Nat} {res : Int32 × rp_St} (g0 : Nat) (h_g0 : g0 < 4) (hC : xC p s m args meth c cX0_growsOn 4 "RegretPegs$Ball" (some .int) D cI cB cS a) (v1 : Int32) (σ : rp_St) (H : Heap) (locs : List Loc) (ls : Array Slot) (hF : fX0_growsOn g0 v1 σ = some res) (hw : xW D cI cB cS a s σ H locs) (hl : lv_has ls 4 [(0, .ref (a (7 * g0))), (1, .int v1)]) : W p l e (rp_rm 1) s m args below meth c H locs 0 0 (MQ below (rp_Qi D a (xt cI cB cS a) 62 res) args s 0 0 (rp_A a 62)) (F0 m 0 ls []) := by
  have hx := hC.1
  have hb := hC.2.1
  have hown := hC.2.2.2.1
  have hts := hC.2.2.2.2.1
  unfold fX0_growsOn at hF
  refine lv_aload_n (pc := 0) hx hb dX0_growsOn_0 rfl (lv_at hl 0 rfl) ?_
  refine rp_get (pc := 1) hC hw (7 * g0) (by omega) ((xt_ball (b := g0) (by omega)) _) fl_X0_31 (.ref (a (7 * g0 + 6))) rfl dX0_growsOn_1 ?_
  refine lv_iload_n (pc := 4) hx hb dX0_growsOn_4 rfl (lv_at hl 1 rfl) ?_
  obtain ⟨hg, hF⟩ := rp_gu_e hF
  refine rp_ald (pc := 5) hC hw (7 * g0 + 6) (by omega) (xt_bar (b := g0) (by omega) 6 ⟨by decide, by decide⟩) 0 rfl hg dX0_growsOn_5 ?_
  obtain ⟨x1, ex1, hF⟩ := rp_nm_e hF
  refine rp_top ex1 ?_
  refine lv_istore_n (pc := 6) (lv' := [(2, .int x1), (0, .ref (a (7 * g0))), (1, .int v1)]) hx hb dX0_growsOn_6 rfl hl (by decide) rfl (fun ls hl => ?_)
  refine lv_iconst (pc := 7) (v := 1) hx hb dX0_growsOn_7 (by decide) ?_
  refine lv_aload_n (pc := 8) hx hb dX0_growsOn_8 rfl (lv_at hl 1 rfl) ?_
  refine rp_get (pc := 9) hC hw (7 * g0) (by omega) ((xt_ball (b := g0) (by omega)) _) fl_X0_19 (.ref (a (7 * g0 + 2))) rfl dX0_growsOn_9 ?_
  refine lv_iload_n (pc := 12) hx hb dX0_growsOn_12 rfl (lv_at hl 0 rfl) ?_
  obtain ⟨hg, hF⟩ := rp_gu_e hF
  refine rp_ald (pc := 13) hC hw (7 * g0 + 2) (by omega) (xt_bar (b := g0) (by omega) 2 ⟨by decide, by decide⟩) 0 rfl hg dX0_growsOn_13 ?_
  refine lv_iconst (pc := 14) (v := 3) hx hb dX0_growsOn_14 (by decide) ?_
  refine lv_irem (pc := 15) hx hb dX0_growsOn_15 (by decide) ?_
  refine lv_iadd (pc := 16) hx hb dX0_growsOn_16 ?_
  obtain ⟨x2, ex2, hF⟩ := rp_nm_e hF
  refine rp_top ex2 ?_
  refine lv_istore_n (pc := 17) (lv' := [(3, .int x2), (2, .int x1), (0, .ref (a (7 * g0))), (1, .int v1)]) hx hb dX0_growsOn_17 rfl hl (by decide) rfl (fun ls hl => ?_)
  refine lv_aload_n (pc := 18) hx hb dX0_growsOn_18 rfl (lv_at hl 2 rfl) ?_
  refine rp_get (pc := 19) hC hw (7 * g0) (by omega) ((xt_ball (b := g0) (by omega)) _) fl_X0_15 (.ref (a (7 * g0 + 1))) rfl dX0_growsOn_19 ?_
  refine lv_iload_n (pc := 22) hx hb dX0_growsOn_22 rfl (lv_at hl 1 rfl) ?_
  obtain ⟨hg, hF⟩ := rp_gu_e hF
  refine rp_ald (pc := 23) hC hw (7 * g0 + 1) (by omega) (xt_bar (b := g0) (by omega) 1 ⟨by decide, by decide⟩) 0 rfl hg dX0_growsOn_23 ?_
  obtain ⟨x3, ex3, hF⟩ := rp_nm_e hF
  refine rp_top ex3 ?_
  by_cases hs24_0 : x3 = 1
  · replace hF := rp_it hs24_0 hF
    refine lv_tableIn (pc := 24) (off := 40) (tgt := 64) hx hb dX0_growsOn_24 (by rw [hs24_0]; decide) (by rw [hs24_0]; decide) (by rw [hs24_0]; decide +kernel) (by decide) ?_
    refine lv_iload_n (pc := 64) hx hb dX0_growsOn_64 rfl (lv_at hl 0 rfl) ?_
    exact rp_reti (pc := 65) hC hw hF dX0_growsOn_65
  replace hF := rp_if hs24_0 hF
  by_cases hs24_1 : x3 = 2
  · replace hF := rp_it hs24_1 hF
    refine lv_tableIn (pc := 24) (off := 42) (tgt := 66) hx hb dX0_growsOn_24 (by rw [hs24_1]; decide) (by rw [hs24_1]; decide) (by rw [hs24_1]; decide +kernel) (by decide) ?_
    refine lv_iconst (pc := 66) (v := 2) hx hb dX0_growsOn_66 (by decide) ?_
    exact rp_reti (pc := 67) hC hw hF dX0_growsOn_67
  replace hF := rp_if hs24_1 hF
  by_cases hs24_2 : x3 = 3
  · replace hF := rp_it hs24_2 hF
    refine lv_tableIn (pc := 24) (off := 44) (tgt := 68) hx hb dX0_growsOn_24 (by rw [hs24_2]; decide) (by rw [hs24_2]; decide) (by rw [hs24_2]; decide +kernel) (by decide) ?_
    refine lv_iconst (pc := 68) (v := 0) hx hb dX0_growsOn_68 (by decide) ?_
    exact rp_reti (pc := 69) hC hw hF dX0_growsOn_69
  replace hF := rp_if hs24_2 hF
  by_cases hs24_3 : x3 = 4
  · replace hF := rp_it hs24_3 hF
    refine lv_tableIn (pc := 24) (off := 46) (tgt := 70) hx hb dX0_growsOn_24 (by rw [hs24_3]; decide) (by rw [hs24_3]; decide) (by rw [hs24_3]; decide +kernel) (by decide) ?_
    refine lv_aload_n (pc := 70) hx hb dX0_growsOn_70 rfl (lv_at hl 2 rfl) ?_
    refine rp_get (pc := 71) hC hw (7 * g0) (by omega) ((xt_ball (b := g0) (by omega)) _) fl_X0_25 (.ref (a (7 * g0 + 4))) rfl dX0_growsOn_71 ?_
    refine lv_iload_n (pc := 74) hx hb dX0_growsOn_74 rfl (lv_at hl 1 rfl) ?_
    obtain ⟨hg, hF⟩ := rp_gu_e hF
    refine rp_ald (pc := 75) hC hw (7 * g0 + 4) (by omega) (xt_bar (b := g0) (by omega) 4 ⟨by decide, by decide⟩) 0 rfl hg dX0_growsOn_75 ?_
    refine lv_if_ne (pc := 76) (tgt := 85) hx hb dX0_growsOn_76 (by decide) (fun hc => ?_) (fun hc => ?_)
    · replace hF := rp_if hc hF
      refine lv_iload_n (pc := 85) hx hb dX0_growsOn_85 rfl (lv_at hl 0 rfl) ?_
      exact rp_reti (pc := 86) hC hw hF dX0_growsOn_86
    · replace hF := rp_it hc hF
      refine lv_iconst (pc := 79) (v := 4) hx hb dX0_growsOn_79 (by decide) ?_
      refine lv_iload_n (pc := 80) hx hb dX0_growsOn_80 rfl (lv_at hl 0 rfl) ?_
      refine lv_imul (pc := 81) hx hb dX0_growsOn_81 ?_
      refine lv_goto (pc := 82) (tgt := 86) hx hb dX0_growsOn_82 (by decide) ?_
      exact rp_reti (pc := 86) hC hw hF dX0_growsOn_86
  replace hF := rp_if hs24_3 hF
  by_cases hs24_4 : x3 = 5
  · replace hF := rp_it hs24_4 hF
    refine lv_tableIn (pc := 24) (off := 63) (tgt := 87) hx hb dX0_growsOn_24 (by rw [hs24_4]; decide) (by rw [hs24_4]; decide) (by rw [hs24_4]; decide +kernel) (by decide) ?_
    refine lv_iconst (pc := 87) (v := 2) hx hb dX0_growsOn_87 (by decide) ?_
    refine lv_aload_n (pc := 88) hx hb dX0_growsOn_88 rfl (lv_at hl 2 rfl) ?_
    refine rp_get (pc := 89) hC hw (7 * g0) (by omega) ((xt_ball (b := g0) (by omega)) _) fl_X0_9 (.int (σ (7 * g0) 0)) rfl dX0_growsOn_89 ?_
    refine lv_iconst (pc := 92) (v := 1) hx hb dX0_growsOn_92 (by decide) ?_
    refine lv_isub (pc := 93) hx hb dX0_growsOn_93 ?_
    refine lv_iload_n (pc := 94) hx hb dX0_growsOn_94 rfl (lv_at hl 3 rfl) ?_
    refine lv_isub (pc := 95) hx hb dX0_growsOn_95 ?_
    refine lv_iadd (pc := 96) hx hb dX0_growsOn_96 ?_
    exact rp_reti (pc := 97) hC hw hF dX0_growsOn_97
  replace hF := rp_if hs24_4 hF
  by_cases hs24_5 : x3 = 6
  · replace hF := rp_it hs24_5 hF
    refine lv_tableIn (pc := 24) (off := 74) (tgt := 98) hx hb dX0_growsOn_24 (by rw [hs24_5]; decide) (by rw [hs24_5]; decide) (by rw [hs24_5]; decide +kernel) (by decide) ?_
    refine lv_aload_n (pc := 98) hx hb dX0_growsOn_98 rfl (lv_at hl 2 rfl) ?_
    refine rp_get (pc := 99) hC hw (7 * g0) (by omega) ((xt_ball (b := g0) (by omega)) _) fl_X0_19 (.ref (a (7 * g0 + 2))) rfl dX0_growsOn_99 ?_
    refine lv_iload_n (pc := 102) hx hb dX0_growsOn_102 rfl (lv_at hl 1 rfl) ?_
    obtain ⟨hg, hF⟩ := rp_gu_e hF
    refine rp_ald (pc := 103) hC hw (7 * g0 + 2) (by omega) (xt_bar (b := g0) (by omega) 2 ⟨by decide, by decide⟩) 0 rfl hg dX0_growsOn_103 ?_
    refine lv_ineg (pc := 104) hx hb dX0_growsOn_104 ?_
    exact rp_reti (pc := 105) hC hw hF dX0_growsOn_105
  replace hF := rp_if hs24_5 hF
  refine lv_tableOut (pc := 24) (tgt := 106) hx hb dX0_growsOn_24 (by have := rp_ne 1 1 (by decide) hs24_0; have := rp_ne 2 2 (by decide) hs24_1; have := rp_ne 3 3 (by decide) hs24_2; have := rp_ne 4 4 (by decide) hs24_3; have := rp_ne 5 5 (by decide) hs24_4; have := rp_ne 6 6 (by decide) hs24_5; omega) (by decide) ?_
  refine lv_iconst (pc := 106) (v := 1) hx hb dX0_growsOn_106 (by decide) ?_
  exact rp_reti (pc := 107) hC hw hF dX0_growsOn_107
theorem mX0_growsOn {l : Launch} {D : va_G} {cI cB cS : ClassId} {a : Nat → Nat} (g0 : Nat) (h_g0 : g0 < 4) (v1 : Int32) (σ : rp_St) (res : Int32 × rp_St) (hF : fX0_growsOn g0 v1 σ = some res) : xM l D cI cB cS a yX0_growsOn cX0_growsOn 4 (some .int) 1 [.ref (a (7 * g0)), .int v1] σ (rp_Qi D a (xt cI cB cS a) 62 res) :=
  rp_entry (by decide) (Nat.le_of_ble_eq_true rfl) (fun p e s m below meth c ls hC hw hl => kX0_growsOn_0 g0 h_g0 hC v1 σ _ _ _ hF hw (lv_sub hl [0, 1] rfl))
def fX6_ofGuest (v1 : Int32) (v2 : Int32) (σ : rp_St) : Option (Int32 × rp_St) :=
  rp_bd (fX6_isGuest v1 σ) (fun r1 σ2 => (if r1 = 0 then rp_bd (fX6_refuse 1 σ2) (fun r11 σ12 => some (r11, σ12)) else (if v2 = 0 then rp_gu (rp_in v1 7) (some ((σ2 1 (v1 : Int32).toNatClampNeg), σ2)) else (if v2 = 1 then rp_gu (rp_in v1 7) (some ((σ2 2 (v1 : Int32).toNatClampNeg), σ2)) else (if v2 = 2 then rp_gu (rp_in v1 7) (some ((σ2 3 (v1 : Int32).toNatClampNeg), σ2)) else (if v2 = 3 then rp_gu (rp_in v1 7) (some ((σ2 4 (v1 : Int32).toNatClampNeg), σ2)) else (if v2 = 4 then rp_gu (rp_in v1 7) (some ((σ2 5 (v1 : Int32).toNatClampNeg), σ2)) else (if v2 = 5 then rp_bd (fX0_pegOf 0 v1 σ2) (fun r3 σ4 => some (r3, σ4)) else (if v2 = 6 then rp_bd (fX0_pegOf 0 v1 σ2) (fun r5 σ6 => rp_bd (fX0_growsOn 0 r5 σ6) (fun r7 σ8 => some (r7, σ8))) else rp_bd (fX6_refuse 1 σ2) (fun r9 σ10 => some (r9, σ10)))))))))))
set_option maxRecDepth 100000 in
set_option maxHeartbeats 4000000 in
theorem kX6_ofGuest_0 {p : Program} {l : Launch} {e : Env} {s : State} {m : MethodId} {args : Array Value} {below : List Frame} {meth : Method} {c : Code} {D : va_G} {cI cB cS : ClassId} {a : Nat → Nat} {res : Int32 × rp_St} (hC : xC p s m args meth c cX6_ofGuest 4 "RegretPegs" (some .int) D cI cB cS a) (v1 : Int32) (v2 : Int32) (σ : rp_St) (H : Heap) (locs : List Loc) (ls : Array Slot) (hF : fX6_ofGuest v1 v2 σ = some res) (hw : xW D cI cB cS a s σ H locs) (hl : lv_has ls 4 [(0, .ref (a 54)), (1, .int v1), (2, .int v2)]) : W p l e (rp_rm 2) s m args below meth c H locs 0 0 (MQ below (rp_Qi D a (xt cI cB cS a) 62 res) args s 0 0 (rp_A a 62)) (F0 m 0 ls []) := by
  have hx := hC.1
  have hb := hC.2.1
  have hown := hC.2.2.2.1
  have hts := hC.2.2.2.2.1
  unfold fX6_ofGuest at hF
  refine lv_aload_n (pc := 0) hx hb dX6_ofGuest_0 rfl (lv_at hl 0 rfl) ?_
  refine lv_iload_n (pc := 1) hx hb dX6_ofGuest_1 rfl (lv_at hl 1 rfl) ?_
  obtain ⟨r1, σ2, hq, hF⟩ := rp_bd_e hF
  refine rp_ki (rp_runV (rest := []) hC (xE_ok _) hw hl.1 (mX6_isGuest (l := l) v1 σ _ hq) vw_X6_80 (by decide) (xt_reg _) rfl rfl rfl (Nat.le_of_ble_eq_true rfl) (by decide) dX6_ofGuest_2) hw (fun H locs hw => ?_)
  clear hq
  refine lv_if_ne (pc := 5) (tgt := 14) hx hb dX6_ofGuest_5 (by decide) (fun hc => ?_) (fun hc => ?_)
  · replace hF := rp_if hc hF
    refine lv_aload_n (pc := 14) hx hb dX6_ofGuest_14 rfl (lv_at hl 0 rfl) ?_
    refine rp_get (pc := 15) hC hw 54 (by decide) (xt_reg _) fl_X6_10 (.ref (a 40)) rfl dX6_ofGuest_15 ?_
    refine rp_get (pc := 18) hC hw 40 (by decide) ((xt_eve (i := 0) (by decide)) _) fl_X6_70 (.ref (a 0)) rfl dX6_ofGuest_18 ?_
    refine lv_astore_n (pc := 21) (lv' := [(3, .ref (a 0)), (0, .ref (a 54)), (1, .int v1), (2, .int v2)]) hx hb dX6_ofGuest_21 rfl hl (by decide) rfl (fun ls hl => ?_)
    refine lv_iload_n (pc := 22) hx hb dX6_ofGuest_22 rfl (lv_at hl 3 rfl) ?_
    by_cases hs23_0 : v2 = 0
    · replace hF := rp_it hs23_0 hF
      refine lv_tableIn (pc := 23) (off := 41) (tgt := 64) hx hb dX6_ofGuest_23 (by rw [hs23_0]; decide) (by rw [hs23_0]; decide) (by rw [hs23_0]; decide +kernel) (by decide) ?_
      refine lv_aload_n (pc := 64) hx hb dX6_ofGuest_64 rfl (lv_at hl 0 rfl) ?_
      refine rp_get (pc := 65) hC hw 0 (by decide) ((xt_ball (b := 0) (by decide)) _) fl_X6_83 (.ref (a 1)) rfl dX6_ofGuest_65 ?_
      refine lv_iload_n (pc := 68) hx hb dX6_ofGuest_68 rfl (lv_at hl 2 rfl) ?_
      obtain ⟨hg, hF⟩ := rp_gu_e hF
      refine rp_ald (pc := 69) hC hw 1 (by decide) (xt_bar (b := 0) (by decide) 1 ⟨by decide, by decide⟩) 0 rfl hg dX6_ofGuest_69 ?_
      exact rp_reti (pc := 70) hC hw hF dX6_ofGuest_70
    replace hF := rp_if hs23_0 hF
    by_cases hs23_1 : v2 = 1
    · replace hF := rp_it hs23_1 hF
      refine lv_tableIn (pc := 23) (off := 48) (tgt := 71) hx hb dX6_ofGuest_23 (by rw [hs23_1]; decide) (by rw [hs23_1]; decide) (by rw [hs23_1]; decide +kernel) (by decide) ?_
      refine lv_aload_n (pc := 71) hx hb dX6_ofGuest_71 rfl (lv_at hl 0 rfl) ?_
      refine rp_get (pc := 72) hC hw 0 (by decide) ((xt_ball (b := 0) (by decide)) _) fl_X6_86 (.ref (a 2)) rfl dX6_ofGuest_72 ?_
      refine lv_iload_n (pc := 75) hx hb dX6_ofGuest_75 rfl (lv_at hl 2 rfl) ?_
      obtain ⟨hg, hF⟩ := rp_gu_e hF
      refine rp_ald (pc := 76) hC hw 2 (by decide) (xt_bar (b := 0) (by decide) 2 ⟨by decide, by decide⟩) 0 rfl hg dX6_ofGuest_76 ?_
      exact rp_reti (pc := 77) hC hw hF dX6_ofGuest_77
    replace hF := rp_if hs23_1 hF
    by_cases hs23_2 : v2 = 2
    · replace hF := rp_it hs23_2 hF
      refine lv_tableIn (pc := 23) (off := 55) (tgt := 78) hx hb dX6_ofGuest_23 (by rw [hs23_2]; decide) (by rw [hs23_2]; decide) (by rw [hs23_2]; decide +kernel) (by decide) ?_
      refine lv_aload_n (pc := 78) hx hb dX6_ofGuest_78 rfl (lv_at hl 0 rfl) ?_
      refine rp_get (pc := 79) hC hw 0 (by decide) ((xt_ball (b := 0) (by decide)) _) fl_X6_89 (.ref (a 3)) rfl dX6_ofGuest_79 ?_
      refine lv_iload_n (pc := 82) hx hb dX6_ofGuest_82 rfl (lv_at hl 2 rfl) ?_
      obtain ⟨hg, hF⟩ := rp_gu_e hF
      refine rp_ald (pc := 83) hC hw 3 (by decide) (xt_bar (b := 0) (by decide) 3 ⟨by decide, by decide⟩) 0 rfl hg dX6_ofGuest_83 ?_
      exact rp_reti (pc := 84) hC hw hF dX6_ofGuest_84
    replace hF := rp_if hs23_2 hF
    by_cases hs23_3 : v2 = 3
    · replace hF := rp_it hs23_3 hF
      refine lv_tableIn (pc := 23) (off := 62) (tgt := 85) hx hb dX6_ofGuest_23 (by rw [hs23_3]; decide) (by rw [hs23_3]; decide) (by rw [hs23_3]; decide +kernel) (by decide) ?_
      refine lv_aload_n (pc := 85) hx hb dX6_ofGuest_85 rfl (lv_at hl 0 rfl) ?_
      refine rp_get (pc := 86) hC hw 0 (by decide) ((xt_ball (b := 0) (by decide)) _) fl_X6_92 (.ref (a 4)) rfl dX6_ofGuest_86 ?_
      refine lv_iload_n (pc := 89) hx hb dX6_ofGuest_89 rfl (lv_at hl 2 rfl) ?_
      obtain ⟨hg, hF⟩ := rp_gu_e hF
      refine rp_ald (pc := 90) hC hw 4 (by decide) (xt_bar (b := 0) (by decide) 4 ⟨by decide, by decide⟩) 0 rfl hg dX6_ofGuest_90 ?_
      exact rp_reti (pc := 91) hC hw hF dX6_ofGuest_91
    replace hF := rp_if hs23_3 hF
    by_cases hs23_4 : v2 = 4
    · replace hF := rp_it hs23_4 hF
      refine lv_tableIn (pc := 23) (off := 69) (tgt := 92) hx hb dX6_ofGuest_23 (by rw [hs23_4]; decide) (by rw [hs23_4]; decide) (by rw [hs23_4]; decide +kernel) (by decide) ?_
      refine lv_aload_n (pc := 92) hx hb dX6_ofGuest_92 rfl (lv_at hl 0 rfl) ?_
      refine rp_get (pc := 93) hC hw 0 (by decide) ((xt_ball (b := 0) (by decide)) _) fl_X6_95 (.ref (a 5)) rfl dX6_ofGuest_93 ?_
      refine lv_iload_n (pc := 96) hx hb dX6_ofGuest_96 rfl (lv_at hl 2 rfl) ?_
      obtain ⟨hg, hF⟩ := rp_gu_e hF
      refine rp_ald (pc := 97) hC hw 5 (by decide) (xt_bar (b := 0) (by decide) 5 ⟨by decide, by decide⟩) 0 rfl hg dX6_ofGuest_97 ?_
      exact rp_reti (pc := 98) hC hw hF dX6_ofGuest_98
    replace hF := rp_if hs23_4 hF
    by_cases hs23_5 : v2 = 5
    · replace hF := rp_it hs23_5 hF
      refine lv_tableIn (pc := 23) (off := 76) (tgt := 99) hx hb dX6_ofGuest_23 (by rw [hs23_5]; decide) (by rw [hs23_5]; decide) (by rw [hs23_5]; decide +kernel) (by decide) ?_
      refine lv_aload_n (pc := 99) hx hb dX6_ofGuest_99 rfl (lv_at hl 0 rfl) ?_
      refine lv_iload_n (pc := 100) hx hb dX6_ofGuest_100 rfl (lv_at hl 2 rfl) ?_
      obtain ⟨r3, σ4, hq, hF⟩ := rp_bd_e hF
      refine rp_ki (rp_runV (rest := []) hC (xE_ok _) hw hl.1 (mX0_pegOf (l := l) 0 (by decide) v1 σ2 _ hq) vw_X6_98 (by decide) ((xt_ball (b := 0) (by decide)) _) rfl rfl rfl (Nat.le_of_ble_eq_true rfl) (by decide) dX6_ofGuest_101) hw (fun H locs hw => ?_)
      clear hq
      exact rp_reti (pc := 104) hC hw hF dX6_ofGuest_104
    replace hF := rp_if hs23_5 hF
    by_cases hs23_6 : v2 = 6
    · replace hF := rp_it hs23_6 hF
      refine lv_tableIn (pc := 23) (off := 82) (tgt := 105) hx hb dX6_ofGuest_23 (by rw [hs23_6]; decide) (by rw [hs23_6]; decide) (by rw [hs23_6]; decide +kernel) (by decide) ?_
      refine lv_aload_n (pc := 105) hx hb dX6_ofGuest_105 rfl (lv_at hl 0 rfl) ?_
      refine lv_aload_n (pc := 106) hx hb dX6_ofGuest_106 rfl (lv_at hl 0 rfl) ?_
      refine lv_iload_n (pc := 107) hx hb dX6_ofGuest_107 rfl (lv_at hl 2 rfl) ?_
      obtain ⟨r5, σ6, hq, hF⟩ := rp_bd_e hF
      refine rp_ki (rp_runV (rest := [.ref (a 0)]) hC (xE_ok _) hw hl.1 (mX0_pegOf (l := l) 0 (by decide) v1 σ2 _ hq) vw_X6_98 (by decide) ((xt_ball (b := 0) (by decide)) _) rfl rfl rfl (Nat.le_of_ble_eq_true rfl) (by decide) dX6_ofGuest_108) hw (fun H locs hw => ?_)
      clear hq
      obtain ⟨r7, σ8, hq, hF⟩ := rp_bd_e hF
      refine rp_ki (rp_runV (rest := []) hC (xE_ok _) hw hl.1 (mX0_growsOn (l := l) 0 (by decide) r5 σ6 _ hq) vw_X6_101 (by decide) ((xt_ball (b := 0) (by decide)) _) rfl rfl rfl (Nat.le_of_ble_eq_true rfl) (by decide) dX6_ofGuest_111) hw (fun H locs hw => ?_)
      clear hq
      exact rp_reti (pc := 114) hC hw hF dX6_ofGuest_114
    replace hF := rp_if hs23_6 hF
    refine lv_tableOut (pc := 23) (tgt := 115) hx hb dX6_ofGuest_23 (by have := rp_ne 0 0 (by decide) hs23_0; have := rp_ne 1 1 (by decide) hs23_1; have := rp_ne 2 2 (by decide) hs23_2; have := rp_ne 3 3 (by decide) hs23_3; have := rp_ne 4 4 (by decide) hs23_4; have := rp_ne 5 5 (by decide) hs23_5; have := rp_ne 6 6 (by decide) hs23_6; omega) (by decide) ?_
    refine lv_aload_n (pc := 115) hx hb dX6_ofGuest_115 rfl (lv_at hl 1 rfl) ?_
    refine lv_iconst (pc := 116) (v := 1) hx hb dX6_ofGuest_116 (by decide) ?_
    obtain ⟨r9, σ10, hq, hF⟩ := rp_bd_e hF
    refine rp_ki (rp_runV (rest := []) hC (xE_ok _) hw hl.1 (mX6_refuse (l := l) 1 σ2 _ hq) vw_X6_66 (by decide) (xt_reg _) rfl rfl rfl (Nat.le_of_ble_eq_true rfl) (by decide) dX6_ofGuest_117) hw (fun H locs hw => ?_)
    clear hq
    exact rp_reti (pc := 120) hC hw hF dX6_ofGuest_120
  · replace hF := rp_it hc hF
    refine lv_aload_n (pc := 8) hx hb dX6_ofGuest_8 rfl (lv_at hl 0 rfl) ?_
    refine lv_iconst (pc := 9) (v := 1) hx hb dX6_ofGuest_9 (by decide) ?_
    obtain ⟨r11, σ12, hq, hF⟩ := rp_bd_e hF
    refine rp_ki (rp_runV (rest := []) hC (xE_ok _) hw hl.1 (mX6_refuse (l := l) 1 σ2 _ hq) vw_X6_66 (by decide) (xt_reg _) rfl rfl rfl (Nat.le_of_ble_eq_true rfl) (by decide) dX6_ofGuest_10) hw (fun H locs hw => ?_)
    clear hq
    exact rp_reti (pc := 13) hC hw hF dX6_ofGuest_13
theorem mX6_ofGuest {l : Launch} {D : va_G} {cI cB cS : ClassId} {a : Nat → Nat} (v1 : Int32) (v2 : Int32) (σ : rp_St) (res : Int32 × rp_St) (hF : fX6_ofGuest v1 v2 σ = some res) : xM l D cI cB cS a yX6_ofGuest cX6_ofGuest 4 (some .int) 2 [.ref (a 54), .int v1, .int v2] σ (rp_Qi D a (xt cI cB cS a) 62 res) :=
  rp_entry (by decide) (Nat.le_of_ble_eq_true rfl) (fun p e s m below meth c ls hC hw hl => kX6_ofGuest_0 hC v1 v2 σ _ _ _ hF hw (lv_sub hl [0, 1, 2] rfl))
def fX6_replace (j1 : Nat) (v2 : Int32) (v3 : Int32) (v4 : Int32) (σ : rp_St) : Option (Int32 × rp_St) :=
  rp_bd (fX6_isWithin v3 0 v4 σ) (fun r1 σ2 => (if r1 = 0 then rp_bd (fX6_refuse 1 σ2) (fun r5 σ6 => some (r5, σ6)) else rp_gu (rp_in v2 7) (rp_nm (σ2 j1 (v2 : Int32).toNatClampNeg) (fun x3 => rp_gu (rp_in v2 7) (rp_nm (rp_put σ2 j1 (v2 : Int32).toNatClampNeg v3) (fun σ4 => some (x3, σ4)))))))
set_option maxRecDepth 100000 in
set_option maxHeartbeats 4000000 in
theorem kX6_replace_0 {p : Program} {l : Launch} {e : Env} {s : State} {m : MethodId} {args : Array Value} {below : List Frame} {meth : Method} {c : Code} {D : va_G} {cI cB cS : ClassId} {a : Nat → Nat} {res : Int32 × rp_St} (j1 : Nat) (h_j1 : j1 < 62) (t_j1 : ∀ f, xt cI cB cS a j1 f = .inl (cI, 7, .inl f)) (hC : xC p s m args meth c cX6_replace 6 "RegretPegs" (some .int) D cI cB cS a) (v2 : Int32) (v3 : Int32) (v4 : Int32) (σ : rp_St) (H : Heap) (locs : List Loc) (ls : Array Slot) (hF : fX6_replace j1 v2 v3 v4 σ = some res) (hw : xW D cI cB cS a s σ H locs) (hl : lv_has ls 6 [(0, .ref (a 54)), (1, .ref (a j1)), (2, .int v2), (3, .int v3), (4, .int v4)]) : W p l e (rp_rm 2) s m args below meth c H locs 0 0 (MQ below (rp_Qi D a (xt cI cB cS a) 62 res) args s 0 0 (rp_A a 62)) (F0 m 0 ls []) := by
  have hx := hC.1
  have hb := hC.2.1
  have hown := hC.2.2.2.1
  have hts := hC.2.2.2.2.1
  unfold fX6_replace at hF
  refine lv_iload_n (pc := 0) hx hb dX6_replace_0 rfl (lv_at hl 3 rfl) ?_
  refine lv_iconst (pc := 1) (v := 0) hx hb dX6_replace_1 (by decide) ?_
  refine lv_iload (pc := 2) hx hb dX6_replace_2 (lv_at hl 4 rfl) ?_
  obtain ⟨r1, σ2, hq, hF⟩ := rp_bd_e hF
  refine rp_ki (rp_runZ (rest := []) hC (xE_ok _) hw hl.1 (mX6_isWithin (l := l) v3 0 v4 σ _ hq) zw_X6_62 rfl rfl (Nat.le_of_ble_eq_true rfl) (by decide) dX6_replace_4) hw (fun H locs hw => ?_)
  clear hq
  refine lv_if_ne (pc := 7) (tgt := 16) hx hb dX6_replace_7 (by decide) (fun hc => ?_) (fun hc => ?_)
  · replace hF := rp_if hc hF
    refine lv_aload_n (pc := 16) hx hb dX6_replace_16 rfl (lv_at hl 1 rfl) ?_
    refine lv_iload_n (pc := 17) hx hb dX6_replace_17 rfl (lv_at hl 2 rfl) ?_
    obtain ⟨hg, hF⟩ := rp_gu_e hF
    refine rp_ald (pc := 18) hC hw j1 h_j1 t_j1 0 rfl hg dX6_replace_18 ?_
    obtain ⟨x3, ex3, hF⟩ := rp_nm_e hF
    refine rp_top ex3 ?_
    refine lv_istore (pc := 19) (lv' := [(5, .int x3), (0, .ref (a 54)), (1, .ref (a j1)), (2, .int v2), (3, .int v3), (4, .int v4)]) hx hb dX6_replace_19 hl (by decide) rfl (fun ls hl => ?_)
    refine lv_aload_n (pc := 21) hx hb dX6_replace_21 rfl (lv_at hl 2 rfl) ?_
    refine lv_iload_n (pc := 22) hx hb dX6_replace_22 rfl (lv_at hl 3 rfl) ?_
    refine lv_iload_n (pc := 23) hx hb dX6_replace_23 rfl (lv_at hl 4 rfl) ?_
    obtain ⟨hg, hF⟩ := rp_gu_e hF
    refine rp_ast (pc := 24) hC hw j1 h_j1 t_j1 0 rfl hg dX6_replace_24 (fun H locs hw => ?_)
    obtain ⟨σ4, eσ4, hF⟩ := rp_nm_e hF
    replace hw := rp_Wn eσ4 hw
    clear eσ4
    refine lv_iload (pc := 25) hx hb dX6_replace_25 (lv_at hl 0 rfl) ?_
    exact rp_reti (pc := 27) hC hw hF dX6_replace_27
  · replace hF := rp_it hc hF
    refine lv_aload_n (pc := 10) hx hb dX6_replace_10 rfl (lv_at hl 0 rfl) ?_
    refine lv_iconst (pc := 11) (v := 1) hx hb dX6_replace_11 (by decide) ?_
    obtain ⟨r5, σ6, hq, hF⟩ := rp_bd_e hF
    refine rp_ki (rp_runV (rest := []) hC (xE_ok _) hw hl.1 (mX6_refuse (l := l) 1 σ2 _ hq) vw_X6_66 (by decide) (xt_reg _) rfl rfl rfl (Nat.le_of_ble_eq_true rfl) (by decide) dX6_replace_12) hw (fun H locs hw => ?_)
    clear hq
    exact rp_reti (pc := 15) hC hw hF dX6_replace_15
theorem mX6_replace {l : Launch} {D : va_G} {cI cB cS : ClassId} {a : Nat → Nat} (j1 : Nat) (h_j1 : j1 < 62) (t_j1 : ∀ f, xt cI cB cS a j1 f = .inl (cI, 7, .inl f)) (v2 : Int32) (v3 : Int32) (v4 : Int32) (σ : rp_St) (res : Int32 × rp_St) (hF : fX6_replace j1 v2 v3 v4 σ = some res) : xM l D cI cB cS a yX6_replace cX6_replace 6 (some .int) 2 [.ref (a 54), .ref (a j1), .int v2, .int v3, .int v4] σ (rp_Qi D a (xt cI cB cS a) 62 res) :=
  rp_entry (by decide) (Nat.le_of_ble_eq_true rfl) (fun p e s m below meth c ls hC hw hl => kX6_replace_0 j1 h_j1 t_j1 hC v2 v3 v4 σ _ _ _ hF hw (lv_sub hl [0, 1, 2, 3, 4] rfl))
def fX6_change (v1 : Int32) (v2 : Int32) (v3 : Int32) (σ : rp_St) : Option (Int32 × rp_St) :=
  rp_bd (fX6_isGuest v1 σ) (fun r1 σ2 => (if r1 = 0 then rp_bd (fX6_refuse 1 σ2) (fun r11 σ12 => some (r11, σ12)) else (if v2 = 0 then rp_bd (fX6_replace 3 v1 v3 999 σ2) (fun r3 σ4 => some (r3, σ4)) else (if v2 = 1 then rp_bd (fX6_replace 4 v1 v3 999 σ2) (fun r5 σ6 => some (r5, σ6)) else (if v2 = 2 then rp_bd (fX6_replace 5 v1 v3 1 σ2) (fun r7 σ8 => some (r7, σ8)) else rp_bd (fX6_refuse 1 σ2) (fun r9 σ10 => some (r9, σ10)))))))
set_option maxRecDepth 100000 in
set_option maxHeartbeats 4000000 in
theorem kX6_change_0 {p : Program} {l : Launch} {e : Env} {s : State} {m : MethodId} {args : Array Value} {below : List Frame} {meth : Method} {c : Code} {D : va_G} {cI cB cS : ClassId} {a : Nat → Nat} {res : Int32 × rp_St} (hC : xC p s m args meth c cX6_change 4 "RegretPegs" (some .int) D cI cB cS a) (v1 : Int32) (v2 : Int32) (v3 : Int32) (σ : rp_St) (H : Heap) (locs : List Loc) (ls : Array Slot) (hF : fX6_change v1 v2 v3 σ = some res) (hw : xW D cI cB cS a s σ H locs) (hl : lv_has ls 4 [(0, .ref (a 54)), (1, .int v1), (2, .int v2), (3, .int v3)]) : W p l e (rp_rm 3) s m args below meth c H locs 0 0 (MQ below (rp_Qi D a (xt cI cB cS a) 62 res) args s 0 0 (rp_A a 62)) (F0 m 0 ls []) := by
  have hx := hC.1
  have hb := hC.2.1
  have hown := hC.2.2.2.1
  have hts := hC.2.2.2.2.1
  unfold fX6_change at hF
  refine lv_aload_n (pc := 0) hx hb dX6_change_0 rfl (lv_at hl 0 rfl) ?_
  refine lv_iload_n (pc := 1) hx hb dX6_change_1 rfl (lv_at hl 1 rfl) ?_
  obtain ⟨r1, σ2, hq, hF⟩ := rp_bd_e hF
  refine rp_ki (rp_runV (rest := []) hC (xE_ok _) hw hl.1 (mX6_isGuest (l := l) v1 σ _ hq) vw_X6_80 (by decide) (xt_reg _) rfl rfl rfl (Nat.le_of_ble_eq_true rfl) (by decide) dX6_change_2) hw (fun H locs hw => ?_)
  clear hq
  refine lv_if_ne (pc := 5) (tgt := 14) hx hb dX6_change_5 (by decide) (fun hc => ?_) (fun hc => ?_)
  · replace hF := rp_if hc hF
    refine lv_iload_n (pc := 14) hx hb dX6_change_14 rfl (lv_at hl 2 rfl) ?_
    by_cases hs15_0 : v2 = 0
    · replace hF := rp_it hs15_0 hF
      refine lv_tableIn (pc := 15) (off := 25) (tgt := 40) hx hb dX6_change_15 (by rw [hs15_0]; decide) (by rw [hs15_0]; decide) (by rw [hs15_0]; decide +kernel) (by decide) ?_
      refine lv_aload_n (pc := 40) hx hb dX6_change_40 rfl (lv_at hl 0 rfl) ?_
      refine lv_aload_n (pc := 41) hx hb dX6_change_41 rfl (lv_at hl 0 rfl) ?_
      refine rp_get (pc := 42) hC hw 54 (by decide) (xt_reg _) fl_X6_10 (.ref (a 40)) rfl dX6_change_42 ?_
      refine rp_get (pc := 45) hC hw 40 (by decide) ((xt_eve (i := 0) (by decide)) _) fl_X6_70 (.ref (a 0)) rfl dX6_change_45 ?_
      refine rp_get (pc := 48) hC hw 0 (by decide) ((xt_ball (b := 0) (by decide)) _) fl_X6_89 (.ref (a 3)) rfl dX6_change_48 ?_
      refine lv_iload_n (pc := 51) hx hb dX6_change_51 rfl (lv_at hl 1 rfl) ?_
      refine lv_iload_n (pc := 52) hx hb dX6_change_52 rfl (lv_at hl 3 rfl) ?_
      refine lv_sipush (pc := 53) (v := 999) hx hb dX6_change_53 (by decide) ?_
      obtain ⟨r3, σ4, hq, hF⟩ := rp_bd_e hF
      refine rp_ki (rp_runV (rest := []) hC (xE_ok _) hw hl.1 (mX6_replace (l := l) 3 (by decide) (xt_bar (b := 0) (by decide) 3 ⟨by decide, by decide⟩) v1 v3 999 σ2 _ hq) vw_X6_104 (by decide) (xt_reg _) rfl rfl rfl (Nat.le_of_ble_eq_true rfl) (by decide) dX6_change_56) hw (fun H locs hw => ?_)
      clear hq
      exact rp_reti (pc := 59) hC hw hF dX6_change_59
    replace hF := rp_if hs15_0 hF
    by_cases hs15_1 : v2 = 1
    · replace hF := rp_it hs15_1 hF
      refine lv_tableIn (pc := 15) (off := 45) (tgt := 60) hx hb dX6_change_15 (by rw [hs15_1]; decide) (by rw [hs15_1]; decide) (by rw [hs15_1]; decide +kernel) (by decide) ?_
      refine lv_aload_n (pc := 60) hx hb dX6_change_60 rfl (lv_at hl 0 rfl) ?_
      refine lv_aload_n (pc := 61) hx hb dX6_change_61 rfl (lv_at hl 0 rfl) ?_
      refine rp_get (pc := 62) hC hw 54 (by decide) (xt_reg _) fl_X6_10 (.ref (a 40)) rfl dX6_change_62 ?_
      refine rp_get (pc := 65) hC hw 40 (by decide) ((xt_eve (i := 0) (by decide)) _) fl_X6_70 (.ref (a 0)) rfl dX6_change_65 ?_
      refine rp_get (pc := 68) hC hw 0 (by decide) ((xt_ball (b := 0) (by decide)) _) fl_X6_92 (.ref (a 4)) rfl dX6_change_68 ?_
      refine lv_iload_n (pc := 71) hx hb dX6_change_71 rfl (lv_at hl 1 rfl) ?_
      refine lv_iload_n (pc := 72) hx hb dX6_change_72 rfl (lv_at hl 3 rfl) ?_
      refine lv_sipush (pc := 73) (v := 999) hx hb dX6_change_73 (by decide) ?_
      obtain ⟨r5, σ6, hq, hF⟩ := rp_bd_e hF
      refine rp_ki (rp_runV (rest := []) hC (xE_ok _) hw hl.1 (mX6_replace (l := l) 4 (by decide) (xt_bar (b := 0) (by decide) 4 ⟨by decide, by decide⟩) v1 v3 999 σ2 _ hq) vw_X6_104 (by decide) (xt_reg _) rfl rfl rfl (Nat.le_of_ble_eq_true rfl) (by decide) dX6_change_76) hw (fun H locs hw => ?_)
      clear hq
      exact rp_reti (pc := 79) hC hw hF dX6_change_79
    replace hF := rp_if hs15_1 hF
    by_cases hs15_2 : v2 = 2
    · replace hF := rp_it hs15_2 hF
      refine lv_tableIn (pc := 15) (off := 65) (tgt := 80) hx hb dX6_change_15 (by rw [hs15_2]; decide) (by rw [hs15_2]; decide) (by rw [hs15_2]; decide +kernel) (by decide) ?_
      refine lv_aload_n (pc := 80) hx hb dX6_change_80 rfl (lv_at hl 0 rfl) ?_
      refine lv_aload_n (pc := 81) hx hb dX6_change_81 rfl (lv_at hl 0 rfl) ?_
      refine rp_get (pc := 82) hC hw 54 (by decide) (xt_reg _) fl_X6_10 (.ref (a 40)) rfl dX6_change_82 ?_
      refine rp_get (pc := 85) hC hw 40 (by decide) ((xt_eve (i := 0) (by decide)) _) fl_X6_70 (.ref (a 0)) rfl dX6_change_85 ?_
      refine rp_get (pc := 88) hC hw 0 (by decide) ((xt_ball (b := 0) (by decide)) _) fl_X6_95 (.ref (a 5)) rfl dX6_change_88 ?_
      refine lv_iload_n (pc := 91) hx hb dX6_change_91 rfl (lv_at hl 1 rfl) ?_
      refine lv_iload_n (pc := 92) hx hb dX6_change_92 rfl (lv_at hl 3 rfl) ?_
      refine lv_iconst (pc := 93) (v := 1) hx hb dX6_change_93 (by decide) ?_
      obtain ⟨r7, σ8, hq, hF⟩ := rp_bd_e hF
      refine rp_ki (rp_runV (rest := []) hC (xE_ok _) hw hl.1 (mX6_replace (l := l) 5 (by decide) (xt_bar (b := 0) (by decide) 5 ⟨by decide, by decide⟩) v1 v3 1 σ2 _ hq) vw_X6_104 (by decide) (xt_reg _) rfl rfl rfl (Nat.le_of_ble_eq_true rfl) (by decide) dX6_change_94) hw (fun H locs hw => ?_)
      clear hq
      exact rp_reti (pc := 97) hC hw hF dX6_change_97
    replace hF := rp_if hs15_2 hF
    refine lv_tableOut (pc := 15) (tgt := 98) hx hb dX6_change_15 (by have := rp_ne 0 0 (by decide) hs15_0; have := rp_ne 1 1 (by decide) hs15_1; have := rp_ne 2 2 (by decide) hs15_2; omega) (by decide) ?_
    refine lv_aload_n (pc := 98) hx hb dX6_change_98 rfl (lv_at hl 0 rfl) ?_
    refine lv_iconst (pc := 99) (v := 1) hx hb dX6_change_99 (by decide) ?_
    obtain ⟨r9, σ10, hq, hF⟩ := rp_bd_e hF
    refine rp_ki (rp_runV (rest := []) hC (xE_ok _) hw hl.1 (mX6_refuse (l := l) 1 σ2 _ hq) vw_X6_66 (by decide) (xt_reg _) rfl rfl rfl (Nat.le_of_ble_eq_true rfl) (by decide) dX6_change_100) hw (fun H locs hw => ?_)
    clear hq
    exact rp_reti (pc := 103) hC hw hF dX6_change_103
  · replace hF := rp_it hc hF
    refine lv_aload_n (pc := 8) hx hb dX6_change_8 rfl (lv_at hl 0 rfl) ?_
    refine lv_iconst (pc := 9) (v := 1) hx hb dX6_change_9 (by decide) ?_
    obtain ⟨r11, σ12, hq, hF⟩ := rp_bd_e hF
    refine rp_ki (rp_runV (rest := []) hC (xE_ok _) hw hl.1 (mX6_refuse (l := l) 1 σ2 _ hq) vw_X6_66 (by decide) (xt_reg _) rfl rfl rfl (Nat.le_of_ble_eq_true rfl) (by decide) dX6_change_10) hw (fun H locs hw => ?_)
    clear hq
    exact rp_reti (pc := 13) hC hw hF dX6_change_13
theorem mX6_change {l : Launch} {D : va_G} {cI cB cS : ClassId} {a : Nat → Nat} (v1 : Int32) (v2 : Int32) (v3 : Int32) (σ : rp_St) (res : Int32 × rp_St) (hF : fX6_change v1 v2 v3 σ = some res) : xM l D cI cB cS a yX6_change cX6_change 4 (some .int) 3 [.ref (a 54), .int v1, .int v2, .int v3] σ (rp_Qi D a (xt cI cB cS a) 62 res) :=
  rp_entry (by decide) (Nat.le_of_ble_eq_true rfl) (fun p e s m below meth c ls hC hw hl => kX6_change_0 hC v1 v2 v3 σ _ _ _ hF hw (lv_sub hl [0, 1, 2, 3] rfl))
def fX6_isPeg (v1 : Int32) (σ : rp_St) : Option (Int32 × rp_St) :=
  rp_bd (fX6_isGuest v1 σ) (fun r1 σ2 => rp_gu (r1 == 0 || r1 == 1) (some (r1, σ2)))
set_option maxRecDepth 100000 in
set_option maxHeartbeats 4000000 in
theorem kX6_isPeg_0 {p : Program} {l : Launch} {e : Env} {s : State} {m : MethodId} {args : Array Value} {below : List Frame} {meth : Method} {c : Code} {D : va_G} {cI cB cS : ClassId} {a : Nat → Nat} {res : Int32 × rp_St} (hC : xC p s m args meth c cX6_isPeg 2 "RegretPegs" (some .boolean) D cI cB cS a) (v1 : Int32) (σ : rp_St) (H : Heap) (locs : List Loc) (ls : Array Slot) (hF : fX6_isPeg v1 σ = some res) (hw : xW D cI cB cS a s σ H locs) (hl : lv_has ls 2 [(0, .ref (a 54)), (1, .int v1)]) : W p l e (rp_rm 2) s m args below meth c H locs 0 0 (MQ below (rp_Qi D a (xt cI cB cS a) 62 res) args s 0 0 (rp_A a 62)) (F0 m 0 ls []) := by
  have hx := hC.1
  have hb := hC.2.1
  have hown := hC.2.2.2.1
  have hts := hC.2.2.2.2.1
  unfold fX6_isPeg at hF
  refine lv_aload_n (pc := 0) hx hb dX6_isPeg_0 rfl (lv_at hl 0 rfl) ?_
  refine lv_iload_n (pc := 1) hx hb dX6_isPeg_1 rfl (lv_at hl 1 rfl) ?_
  obtain ⟨r1, σ2, hq, hF⟩ := rp_bd_e hF
  refine rp_ki (rp_runV (rest := []) hC (xE_ok _) hw hl.1 (mX6_isGuest (l := l) v1 σ _ hq) vw_X6_80 (by decide) (xt_reg _) rfl rfl rfl (Nat.le_of_ble_eq_true rfl) (by decide) dX6_isPeg_2) hw (fun H locs hw => ?_)
  clear hq
  obtain ⟨hg, hF⟩ := rp_gu_e hF
  exact rp_retz (pc := 5) hC hw hg hF dX6_isPeg_5
theorem mX6_isPeg {l : Launch} {D : va_G} {cI cB cS : ClassId} {a : Nat → Nat} (v1 : Int32) (σ : rp_St) (res : Int32 × rp_St) (hF : fX6_isPeg v1 σ = some res) : xM l D cI cB cS a yX6_isPeg cX6_isPeg 2 (some .boolean) 2 [.ref (a 54), .int v1] σ (rp_Qi D a (xt cI cB cS a) 62 res) :=
  rp_entry (by decide) (Nat.le_of_ble_eq_true rfl) (fun p e s m below meth c ls hC hw hl => kX6_isPeg_0 hC v1 σ _ _ _ hF hw (lv_sub hl [0, 1] rfl))
def fX6_peg (v1 : Int32) (σ : rp_St) : Option (Int32 × rp_St) :=
  rp_bd (fX6_isPeg v1 σ) (fun r1 σ2 => (if r1 = 0 then rp_bd (fX6_refuse 1 σ2) (fun r3 σ4 => some (r3, σ4)) else rp_gu (rp_in v1 7) (some ((σ2 6 (v1 : Int32).toNatClampNeg), σ2))))
set_option maxRecDepth 100000 in
set_option maxHeartbeats 4000000 in
theorem kX6_peg_0 {p : Program} {l : Launch} {e : Env} {s : State} {m : MethodId} {args : Array Value} {below : List Frame} {meth : Method} {c : Code} {D : va_G} {cI cB cS : ClassId} {a : Nat → Nat} {res : Int32 × rp_St} (hC : xC p s m args meth c cX6_peg 2 "RegretPegs" (some .int) D cI cB cS a) (v1 : Int32) (σ : rp_St) (H : Heap) (locs : List Loc) (ls : Array Slot) (hF : fX6_peg v1 σ = some res) (hw : xW D cI cB cS a s σ H locs) (hl : lv_has ls 2 [(0, .ref (a 54)), (1, .int v1)]) : W p l e (rp_rm 3) s m args below meth c H locs 0 0 (MQ below (rp_Qi D a (xt cI cB cS a) 62 res) args s 0 0 (rp_A a 62)) (F0 m 0 ls []) := by
  have hx := hC.1
  have hb := hC.2.1
  have hown := hC.2.2.2.1
  have hts := hC.2.2.2.2.1
  unfold fX6_peg at hF
  refine lv_aload_n (pc := 0) hx hb dX6_peg_0 rfl (lv_at hl 0 rfl) ?_
  refine lv_iload_n (pc := 1) hx hb dX6_peg_1 rfl (lv_at hl 1 rfl) ?_
  obtain ⟨r1, σ2, hq, hF⟩ := rp_bd_e hF
  refine rp_ki (rp_runV (rest := []) hC (xE_ok _) hw hl.1 (mX6_isPeg (l := l) v1 σ _ hq) vw_X6_108 (by decide) (xt_reg _) rfl rfl rfl (Nat.le_of_ble_eq_true rfl) (by decide) dX6_peg_2) hw (fun H locs hw => ?_)
  clear hq
  refine lv_if_eq (pc := 5) (tgt := 23) hx hb dX6_peg_5 (by decide) (fun hc => ?_) (fun hc => ?_)
  · replace hF := rp_it hc hF
    refine lv_aload_n (pc := 23) hx hb dX6_peg_23 rfl (lv_at hl 0 rfl) ?_
    refine lv_iconst (pc := 24) (v := 1) hx hb dX6_peg_24 (by decide) ?_
    obtain ⟨r3, σ4, hq, hF⟩ := rp_bd_e hF
    refine rp_ki (rp_runV (rest := []) hC (xE_ok _) hw hl.1 (mX6_refuse (l := l) 1 σ2 _ hq) vw_X6_66 (by decide) (xt_reg _) rfl rfl rfl (Nat.le_of_ble_eq_true rfl) (by decide) dX6_peg_25) hw (fun H locs hw => ?_)
    clear hq
    exact rp_reti (pc := 28) hC hw hF dX6_peg_28
  · replace hF := rp_if hc hF
    refine lv_aload_n (pc := 8) hx hb dX6_peg_8 rfl (lv_at hl 0 rfl) ?_
    refine rp_get (pc := 9) hC hw 54 (by decide) (xt_reg _) fl_X6_10 (.ref (a 40)) rfl dX6_peg_9 ?_
    refine rp_get (pc := 12) hC hw 40 (by decide) ((xt_eve (i := 0) (by decide)) _) fl_X6_70 (.ref (a 0)) rfl dX6_peg_12 ?_
    refine rp_get (pc := 15) hC hw 0 (by decide) ((xt_ball (b := 0) (by decide)) _) fl_X6_111 (.ref (a 6)) rfl dX6_peg_15 ?_
    refine lv_iload_n (pc := 18) hx hb dX6_peg_18 rfl (lv_at hl 1 rfl) ?_
    obtain ⟨hg, hF⟩ := rp_gu_e hF
    refine rp_ald (pc := 19) hC hw 6 (by decide) (xt_bar (b := 0) (by decide) 6 ⟨by decide, by decide⟩) 0 rfl hg dX6_peg_19 ?_
    refine lv_goto (pc := 20) (tgt := 28) hx hb dX6_peg_20 (by decide) ?_
    exact rp_reti (pc := 28) hC hw hF dX6_peg_28
theorem mX6_peg {l : Launch} {D : va_G} {cI cB cS : ClassId} {a : Nat → Nat} (v1 : Int32) (σ : rp_St) (res : Int32 × rp_St) (hF : fX6_peg v1 σ = some res) : xM l D cI cB cS a yX6_peg cX6_peg 2 (some .int) 3 [.ref (a 54), .int v1] σ (rp_Qi D a (xt cI cB cS a) 62 res) :=
  rp_entry (by decide) (Nat.le_of_ble_eq_true rfl) (fun p e s m below meth c ls hC hw hl => kX6_peg_0 hC v1 σ _ _ _ hF hw (lv_sub hl [0, 1] rfl))
def fX0_exchange (g0 : Nat) (v1 : Int32) (v2 : Int32) (σ : rp_St) : Option (Int32 × rp_St) :=
  rp_gu (rp_in v1 7) (rp_nm (σ (7 * g0 + 6) (v1 : Int32).toNatClampNeg) (fun x1 => rp_gu (rp_in v2 7) (rp_gu (rp_in v1 7) (rp_nm (rp_put σ (7 * g0 + 6) (v1 : Int32).toNatClampNeg (σ (7 * g0 + 6) (v2 : Int32).toNatClampNeg)) (fun σ2 => rp_gu (rp_in v2 7) (rp_nm (rp_put σ2 (7 * g0 + 6) (v2 : Int32).toNatClampNeg x1) (fun σ3 => some (0, σ3))))))))
set_option maxRecDepth 100000 in
set_option maxHeartbeats 4000000 in
theorem kX0_exchange_0 {p : Program} {l : Launch} {e : Env} {s : State} {m : MethodId} {args : Array Value} {below : List Frame} {meth : Method} {c : Code} {D : va_G} {cI cB cS : ClassId} {a : Nat → Nat} {res : Int32 × rp_St} (g0 : Nat) (h_g0 : g0 < 4) (hC : xC p s m args meth c cX0_exchange 4 "RegretPegs$Ball" none D cI cB cS a) (v1 : Int32) (v2 : Int32) (σ : rp_St) (H : Heap) (locs : List Loc) (ls : Array Slot) (hF : fX0_exchange g0 v1 v2 σ = some res) (hw : xW D cI cB cS a s σ H locs) (hl : lv_has ls 4 [(0, .ref (a (7 * g0))), (1, .int v1), (2, .int v2)]) : W p l e (rp_rm 1) s m args below meth c H locs 0 0 (MQ below (rp_Qv D a (xt cI cB cS a) 62 res) args s 0 0 (rp_A a 62)) (F0 m 0 ls []) := by
  have hx := hC.1
  have hb := hC.2.1
  have hown := hC.2.2.2.1
  have hts := hC.2.2.2.2.1
  unfold fX0_exchange at hF
  refine lv_aload_n (pc := 0) hx hb dX0_exchange_0 rfl (lv_at hl 0 rfl) ?_
  refine rp_get (pc := 1) hC hw (7 * g0) (by omega) ((xt_ball (b := g0) (by omega)) _) fl_X0_31 (.ref (a (7 * g0 + 6))) rfl dX0_exchange_1 ?_
  refine lv_iload_n (pc := 4) hx hb dX0_exchange_4 rfl (lv_at hl 1 rfl) ?_
  obtain ⟨hg, hF⟩ := rp_gu_e hF
  refine rp_ald (pc := 5) hC hw (7 * g0 + 6) (by omega) (xt_bar (b := g0) (by omega) 6 ⟨by decide, by decide⟩) 0 rfl hg dX0_exchange_5 ?_
  obtain ⟨x1, ex1, hF⟩ := rp_nm_e hF
  refine rp_top ex1 ?_
  refine lv_istore_n (pc := 6) (lv' := [(3, .int x1), (0, .ref (a (7 * g0))), (1, .int v1), (2, .int v2)]) hx hb dX0_exchange_6 rfl hl (by decide) rfl (fun ls hl => ?_)
  refine lv_aload_n (pc := 7) hx hb dX0_exchange_7 rfl (lv_at hl 1 rfl) ?_
  refine rp_get (pc := 8) hC hw (7 * g0) (by omega) ((xt_ball (b := g0) (by omega)) _) fl_X0_31 (.ref (a (7 * g0 + 6))) rfl dX0_exchange_8 ?_
  refine lv_iload_n (pc := 11) hx hb dX0_exchange_11 rfl (lv_at hl 2 rfl) ?_
  refine lv_aload_n (pc := 12) hx hb dX0_exchange_12 rfl (lv_at hl 1 rfl) ?_
  refine rp_get (pc := 13) hC hw (7 * g0) (by omega) ((xt_ball (b := g0) (by omega)) _) fl_X0_31 (.ref (a (7 * g0 + 6))) rfl dX0_exchange_13 ?_
  refine lv_iload_n (pc := 16) hx hb dX0_exchange_16 rfl (lv_at hl 3 rfl) ?_
  obtain ⟨hg, hF⟩ := rp_gu_e hF
  refine rp_ald (pc := 17) hC hw (7 * g0 + 6) (by omega) (xt_bar (b := g0) (by omega) 6 ⟨by decide, by decide⟩) 0 rfl hg dX0_exchange_17 ?_
  obtain ⟨hg, hF⟩ := rp_gu_e hF
  refine rp_ast (pc := 18) hC hw (7 * g0 + 6) (by omega) (xt_bar (b := g0) (by omega) 6 ⟨by decide, by decide⟩) 0 rfl hg dX0_exchange_18 (fun H locs hw => ?_)
  obtain ⟨σ2, eσ2, hF⟩ := rp_nm_e hF
  replace hw := rp_Wn eσ2 hw
  clear eσ2
  refine lv_aload_n (pc := 19) hx hb dX0_exchange_19 rfl (lv_at hl 1 rfl) ?_
  refine rp_get (pc := 20) hC hw (7 * g0) (by omega) ((xt_ball (b := g0) (by omega)) _) fl_X0_31 (.ref (a (7 * g0 + 6))) rfl dX0_exchange_20 ?_
  refine lv_iload_n (pc := 23) hx hb dX0_exchange_23 rfl (lv_at hl 3 rfl) ?_
  refine lv_iload_n (pc := 24) hx hb dX0_exchange_24 rfl (lv_at hl 0 rfl) ?_
  obtain ⟨hg, hF⟩ := rp_gu_e hF
  refine rp_ast (pc := 25) hC hw (7 * g0 + 6) (by omega) (xt_bar (b := g0) (by omega) 6 ⟨by decide, by decide⟩) 0 rfl hg dX0_exchange_25 (fun H locs hw => ?_)
  obtain ⟨σ3, eσ3, hF⟩ := rp_nm_e hF
  replace hw := rp_Wn eσ3 hw
  clear eσ3
  exact rp_retv (pc := 26) hC hw hF dX0_exchange_26
theorem mX0_exchange {l : Launch} {D : va_G} {cI cB cS : ClassId} {a : Nat → Nat} (g0 : Nat) (h_g0 : g0 < 4) (v1 : Int32) (v2 : Int32) (σ : rp_St) (res : Int32 × rp_St) (hF : fX0_exchange g0 v1 v2 σ = some res) : xM l D cI cB cS a yX0_exchange cX0_exchange 4 none 1 [.ref (a (7 * g0)), .int v1, .int v2] σ (rp_Qv D a (xt cI cB cS a) 62 res) :=
  rp_entry (by decide) (Nat.le_of_ble_eq_true rfl) (fun p e s m below meth c ls hC hw hl => kX0_exchange_0 g0 h_g0 hC v1 v2 σ _ _ _ hF hw (lv_sub hl [0, 1, 2] rfl))
def fX6_hang_16 (σ : rp_St) : Option (Int32 × rp_St) :=
  rp_bd (fX6_refuse 1 σ) (fun r1 σ2 => some (r1, σ2))
set_option maxRecDepth 100000 in
set_option maxHeartbeats 4000000 in
theorem kX6_hang_16 {p : Program} {l : Launch} {e : Env} {s : State} {m : MethodId} {args : Array Value} {below : List Frame} {meth : Method} {c : Code} {D : va_G} {cI cB cS : ClassId} {a : Nat → Nat} {res : Int32 × rp_St} (hC : xC p s m args meth c cX6_hang 3 "RegretPegs" (some .int) D cI cB cS a) (σ : rp_St) (H : Heap) (locs : List Loc) (ls : Array Slot) (hF : fX6_hang_16 σ = some res) (hw : xW D cI cB cS a s σ H locs) (hl : lv_has ls 3 [(0, .ref (a 54))]) : W p l e (rp_rm 3) s m args below meth c H locs 0 0 (MQ below (rp_Qi D a (xt cI cB cS a) 62 res) args s 0 0 (rp_A a 62)) (F0 m 16 ls []) := by
  have hx := hC.1
  have hb := hC.2.1
  have hown := hC.2.2.2.1
  have hts := hC.2.2.2.2.1
  unfold fX6_hang_16 at hF
  refine lv_aload_n (pc := 16) hx hb dX6_hang_16 rfl (lv_at hl 0 rfl) ?_
  refine lv_iconst (pc := 17) (v := 1) hx hb dX6_hang_17 (by decide) ?_
  obtain ⟨r1, σ2, hq, hF⟩ := rp_bd_e hF
  refine rp_ki (rp_runV (rest := []) hC (xE_ok _) hw hl.1 (mX6_refuse (l := l) 1 σ _ hq) vw_X6_66 (by decide) (xt_reg _) rfl rfl rfl (Nat.le_of_ble_eq_true rfl) (by decide) dX6_hang_18) hw (fun H locs hw => ?_)
  clear hq
  exact rp_reti (pc := 21) hC hw hF dX6_hang_21
def fX6_hang (v1 : Int32) (v2 : Int32) (σ : rp_St) : Option (Int32 × rp_St) :=
  rp_bd (fX6_isPeg v1 σ) (fun r1 σ2 => (if r1 = 0 then fX6_hang_16 σ2 else rp_bd (fX6_isPeg v2 σ2) (fun r3 σ4 => (if r3 = 0 then fX6_hang_16 σ4 else rp_bd (fX0_exchange 0 v1 v2 σ4) (fun _ σ6 => rp_gu (rp_in v1 7) (some ((σ6 6 (v1 : Int32).toNatClampNeg), σ6)))))))
set_option maxRecDepth 100000 in
set_option maxHeartbeats 4000000 in
theorem kX6_hang_0 {p : Program} {l : Launch} {e : Env} {s : State} {m : MethodId} {args : Array Value} {below : List Frame} {meth : Method} {c : Code} {D : va_G} {cI cB cS : ClassId} {a : Nat → Nat} {res : Int32 × rp_St} (hC : xC p s m args meth c cX6_hang 3 "RegretPegs" (some .int) D cI cB cS a) (v1 : Int32) (v2 : Int32) (σ : rp_St) (H : Heap) (locs : List Loc) (ls : Array Slot) (hF : fX6_hang v1 v2 σ = some res) (hw : xW D cI cB cS a s σ H locs) (hl : lv_has ls 3 [(0, .ref (a 54)), (1, .int v1), (2, .int v2)]) : W p l e (rp_rm 3) s m args below meth c H locs 0 0 (MQ below (rp_Qi D a (xt cI cB cS a) 62 res) args s 0 0 (rp_A a 62)) (F0 m 0 ls []) := by
  have hx := hC.1
  have hb := hC.2.1
  have hown := hC.2.2.2.1
  have hts := hC.2.2.2.2.1
  unfold fX6_hang at hF
  refine lv_aload_n (pc := 0) hx hb dX6_hang_0 rfl (lv_at hl 0 rfl) ?_
  refine lv_iload_n (pc := 1) hx hb dX6_hang_1 rfl (lv_at hl 1 rfl) ?_
  obtain ⟨r1, σ2, hq, hF⟩ := rp_bd_e hF
  refine rp_ki (rp_runV (rest := []) hC (xE_ok _) hw hl.1 (mX6_isPeg (l := l) v1 σ _ hq) vw_X6_108 (by decide) (xt_reg _) rfl rfl rfl (Nat.le_of_ble_eq_true rfl) (by decide) dX6_hang_2) hw (fun H locs hw => ?_)
  clear hq
  refine lv_if_eq (pc := 5) (tgt := 16) hx hb dX6_hang_5 (by decide) (fun hc => ?_) (fun hc => ?_)
  · replace hF := rp_it hc hF
    exact kX6_hang_16 hC σ2 _ _ _ hF hw (lv_sub hl [0] rfl)
  · replace hF := rp_if hc hF
    refine lv_aload_n (pc := 8) hx hb dX6_hang_8 rfl (lv_at hl 0 rfl) ?_
    refine lv_iload_n (pc := 9) hx hb dX6_hang_9 rfl (lv_at hl 2 rfl) ?_
    obtain ⟨r3, σ4, hq, hF⟩ := rp_bd_e hF
    refine rp_ki (rp_runV (rest := []) hC (xE_ok _) hw hl.1 (mX6_isPeg (l := l) v2 σ2 _ hq) vw_X6_108 (by decide) (xt_reg _) rfl rfl rfl (Nat.le_of_ble_eq_true rfl) (by decide) dX6_hang_10) hw (fun H locs hw => ?_)
    clear hq
    refine lv_if_ne (pc := 13) (tgt := 22) hx hb dX6_hang_13 (by decide) (fun hc => ?_) (fun hc => ?_)
    · replace hF := rp_if hc hF
      refine lv_aload_n (pc := 22) hx hb dX6_hang_22 rfl (lv_at hl 0 rfl) ?_
      refine rp_get (pc := 23) hC hw 54 (by decide) (xt_reg _) fl_X6_10 (.ref (a 40)) rfl dX6_hang_23 ?_
      refine rp_get (pc := 26) hC hw 40 (by decide) ((xt_eve (i := 0) (by decide)) _) fl_X6_70 (.ref (a 0)) rfl dX6_hang_26 ?_
      refine lv_iload_n (pc := 29) hx hb dX6_hang_29 rfl (lv_at hl 1 rfl) ?_
      refine lv_iload_n (pc := 30) hx hb dX6_hang_30 rfl (lv_at hl 2 rfl) ?_
      obtain ⟨r5, σ6, hq, hF⟩ := rp_bd_e hF
      refine rp_kv (rp_runV (rest := []) hC (xE_ok _) hw hl.1 (mX0_exchange (l := l) 0 (by decide) v1 v2 σ4 _ hq) vw_X6_114 (by decide) ((xt_ball (b := 0) (by decide)) _) rfl rfl rfl (Nat.le_of_ble_eq_true rfl) (by decide) dX6_hang_31) hw (fun H locs hw => ?_)
      clear hq
      refine lv_aload_n (pc := 34) hx hb dX6_hang_34 rfl (lv_at hl 0 rfl) ?_
      refine rp_get (pc := 35) hC hw 54 (by decide) (xt_reg _) fl_X6_10 (.ref (a 40)) rfl dX6_hang_35 ?_
      refine rp_get (pc := 38) hC hw 40 (by decide) ((xt_eve (i := 0) (by decide)) _) fl_X6_70 (.ref (a 0)) rfl dX6_hang_38 ?_
      refine rp_get (pc := 41) hC hw 0 (by decide) ((xt_ball (b := 0) (by decide)) _) fl_X6_111 (.ref (a 6)) rfl dX6_hang_41 ?_
      refine lv_iload_n (pc := 44) hx hb dX6_hang_44 rfl (lv_at hl 1 rfl) ?_
      obtain ⟨hg, hF⟩ := rp_gu_e hF
      refine rp_ald (pc := 45) hC hw 6 (by decide) (xt_bar (b := 0) (by decide) 6 ⟨by decide, by decide⟩) 0 rfl hg dX6_hang_45 ?_
      exact rp_reti (pc := 46) hC hw hF dX6_hang_46
    · replace hF := rp_it hc hF
      exact kX6_hang_16 hC σ4 _ _ _ hF hw (lv_sub hl [0] rfl)
theorem mX6_hang {l : Launch} {D : va_G} {cI cB cS : ClassId} {a : Nat → Nat} (v1 : Int32) (v2 : Int32) (σ : rp_St) (res : Int32 × rp_St) (hF : fX6_hang v1 v2 σ = some res) : xM l D cI cB cS a yX6_hang cX6_hang 3 (some .int) 3 [.ref (a 54), .int v1, .int v2] σ (rp_Qi D a (xt cI cB cS a) 62 res) :=
  rp_entry (by decide) (Nat.le_of_ble_eq_true rfl) (fun p e s m below meth c ls hC hw hl => kX6_hang_0 hC v1 v2 σ _ _ _ hF hw (lv_sub hl [0, 1, 2] rfl))
def fX6_become_15 (σ : rp_St) : Option (Int32 × rp_St) :=
  rp_bd (fX6_refuse 1 σ) (fun r1 σ2 => some (r1, σ2))
set_option maxRecDepth 100000 in
set_option maxHeartbeats 4000000 in
theorem kX6_become_15 {p : Program} {l : Launch} {e : Env} {s : State} {m : MethodId} {args : Array Value} {below : List Frame} {meth : Method} {c : Code} {D : va_G} {cI cB cS : ClassId} {a : Nat → Nat} {res : Int32 × rp_St} (hC : xC p s m args meth c cX6_become 4 "RegretPegs" (some .int) D cI cB cS a) (σ : rp_St) (H : Heap) (locs : List Loc) (ls : Array Slot) (hF : fX6_become_15 σ = some res) (hw : xW D cI cB cS a s σ H locs) (hl : lv_has ls 4 [(0, .ref (a 54))]) : W p l e (rp_rm 3) s m args below meth c H locs 0 0 (MQ below (rp_Qi D a (xt cI cB cS a) 62 res) args s 0 0 (rp_A a 62)) (F0 m 15 ls []) := by
  have hx := hC.1
  have hb := hC.2.1
  have hown := hC.2.2.2.1
  have hts := hC.2.2.2.2.1
  unfold fX6_become_15 at hF
  refine lv_aload_n (pc := 15) hx hb dX6_become_15 rfl (lv_at hl 0 rfl) ?_
  refine lv_iconst (pc := 16) (v := 1) hx hb dX6_become_16 (by decide) ?_
  obtain ⟨r1, σ2, hq, hF⟩ := rp_bd_e hF
  refine rp_ki (rp_runV (rest := []) hC (xE_ok _) hw hl.1 (mX6_refuse (l := l) 1 σ _ hq) vw_X6_66 (by decide) (xt_reg _) rfl rfl rfl (Nat.le_of_ble_eq_true rfl) (by decide) dX6_become_17) hw (fun H locs hw => ?_)
  clear hq
  exact rp_reti (pc := 20) hC hw hF dX6_become_20
def fX6_become (v1 : Int32) (v2 : Int32) (σ : rp_St) : Option (Int32 × rp_St) :=
  rp_bd (fX6_isGuest v1 σ) (fun r1 σ2 => (if r1 = 0 then fX6_become_15 σ2 else rp_bd (fX6_isKindAndNumber v2 σ2) (fun r3 σ4 => (if r3 = 0 then fX6_become_15 σ4 else rp_gu (rp_in v1 7) (rp_nm (σ4 1 (v1 : Int32).toNatClampNeg) (fun x5 => rp_gu (rp_in v1 7) (rp_nm (rp_put σ4 1 (v1 : Int32).toNatClampNeg (v2 / 10)) (fun σ6 => rp_gu (rp_in v1 7) (rp_nm (rp_put σ6 2 (v1 : Int32).toNatClampNeg (v2 - v2 / 10 * 10)) (fun σ7 => some (x5, σ7)))))))))))
set_option maxRecDepth 100000 in
set_option maxHeartbeats 4000000 in
theorem kX6_become_0 {p : Program} {l : Launch} {e : Env} {s : State} {m : MethodId} {args : Array Value} {below : List Frame} {meth : Method} {c : Code} {D : va_G} {cI cB cS : ClassId} {a : Nat → Nat} {res : Int32 × rp_St} (hC : xC p s m args meth c cX6_become 4 "RegretPegs" (some .int) D cI cB cS a) (v1 : Int32) (v2 : Int32) (σ : rp_St) (H : Heap) (locs : List Loc) (ls : Array Slot) (hF : fX6_become v1 v2 σ = some res) (hw : xW D cI cB cS a s σ H locs) (hl : lv_has ls 4 [(0, .ref (a 54)), (1, .int v1), (2, .int v2)]) : W p l e (rp_rm 3) s m args below meth c H locs 0 0 (MQ below (rp_Qi D a (xt cI cB cS a) 62 res) args s 0 0 (rp_A a 62)) (F0 m 0 ls []) := by
  have hx := hC.1
  have hb := hC.2.1
  have hown := hC.2.2.2.1
  have hts := hC.2.2.2.2.1
  unfold fX6_become at hF
  refine lv_aload_n (pc := 0) hx hb dX6_become_0 rfl (lv_at hl 0 rfl) ?_
  refine lv_iload_n (pc := 1) hx hb dX6_become_1 rfl (lv_at hl 1 rfl) ?_
  obtain ⟨r1, σ2, hq, hF⟩ := rp_bd_e hF
  refine rp_ki (rp_runV (rest := []) hC (xE_ok _) hw hl.1 (mX6_isGuest (l := l) v1 σ _ hq) vw_X6_80 (by decide) (xt_reg _) rfl rfl rfl (Nat.le_of_ble_eq_true rfl) (by decide) dX6_become_2) hw (fun H locs hw => ?_)
  clear hq
  refine lv_if_eq (pc := 5) (tgt := 15) hx hb dX6_become_5 (by decide) (fun hc => ?_) (fun hc => ?_)
  · replace hF := rp_it hc hF
    exact kX6_become_15 hC σ2 _ _ _ hF hw (lv_sub hl [0] rfl)
  · replace hF := rp_if hc hF
    refine lv_iload_n (pc := 8) hx hb dX6_become_8 rfl (lv_at hl 2 rfl) ?_
    obtain ⟨r3, σ4, hq, hF⟩ := rp_bd_e hF
    refine rp_ki (rp_runZ (rest := []) hC (xE_ok _) hw hl.1 (mX6_isKindAndNumber (l := l) v2 σ2 _ hq) zw_X6_58 rfl rfl (Nat.le_of_ble_eq_true rfl) (by decide) dX6_become_9) hw (fun H locs hw => ?_)
    clear hq
    refine lv_if_ne (pc := 12) (tgt := 21) hx hb dX6_become_12 (by decide) (fun hc => ?_) (fun hc => ?_)
    · replace hF := rp_if hc hF
      refine lv_aload_n (pc := 21) hx hb dX6_become_21 rfl (lv_at hl 0 rfl) ?_
      refine rp_get (pc := 22) hC hw 54 (by decide) (xt_reg _) fl_X6_10 (.ref (a 40)) rfl dX6_become_22 ?_
      refine rp_get (pc := 25) hC hw 40 (by decide) ((xt_eve (i := 0) (by decide)) _) fl_X6_70 (.ref (a 0)) rfl dX6_become_25 ?_
      refine rp_get (pc := 28) hC hw 0 (by decide) ((xt_ball (b := 0) (by decide)) _) fl_X6_83 (.ref (a 1)) rfl dX6_become_28 ?_
      refine lv_iload_n (pc := 31) hx hb dX6_become_31 rfl (lv_at hl 1 rfl) ?_
      obtain ⟨hg, hF⟩ := rp_gu_e hF
      refine rp_ald (pc := 32) hC hw 1 (by decide) (xt_bar (b := 0) (by decide) 1 ⟨by decide, by decide⟩) 0 rfl hg dX6_become_32 ?_
      obtain ⟨x5, ex5, hF⟩ := rp_nm_e hF
      refine rp_top ex5 ?_
      refine lv_istore_n (pc := 33) (lv' := [(3, .int x5), (0, .ref (a 54)), (1, .int v1), (2, .int v2)]) hx hb dX6_become_33 rfl hl (by decide) rfl (fun ls hl => ?_)
      refine lv_aload_n (pc := 34) hx hb dX6_become_34 rfl (lv_at hl 1 rfl) ?_
      refine rp_get (pc := 35) hC hw 54 (by decide) (xt_reg _) fl_X6_10 (.ref (a 40)) rfl dX6_become_35 ?_
      refine rp_get (pc := 38) hC hw 40 (by decide) ((xt_eve (i := 0) (by decide)) _) fl_X6_70 (.ref (a 0)) rfl dX6_become_38 ?_
      refine rp_get (pc := 41) hC hw 0 (by decide) ((xt_ball (b := 0) (by decide)) _) fl_X6_83 (.ref (a 1)) rfl dX6_become_41 ?_
      refine lv_iload_n (pc := 44) hx hb dX6_become_44 rfl (lv_at hl 2 rfl) ?_
      refine lv_iload_n (pc := 45) hx hb dX6_become_45 rfl (lv_at hl 3 rfl) ?_
      refine lv_bipush (pc := 46) (v := 10) hx hb dX6_become_46 (by decide) ?_
      refine lv_idiv (pc := 48) hx hb dX6_become_48 (by decide) ?_
      obtain ⟨hg, hF⟩ := rp_gu_e hF
      refine rp_ast (pc := 49) hC hw 1 (by decide) (xt_bar (b := 0) (by decide) 1 ⟨by decide, by decide⟩) 0 rfl hg dX6_become_49 (fun H locs hw => ?_)
      obtain ⟨σ6, eσ6, hF⟩ := rp_nm_e hF
      replace hw := rp_Wn eσ6 hw
      clear eσ6
      refine lv_aload_n (pc := 50) hx hb dX6_become_50 rfl (lv_at hl 1 rfl) ?_
      refine rp_get (pc := 51) hC hw 54 (by decide) (xt_reg _) fl_X6_10 (.ref (a 40)) rfl dX6_become_51 ?_
      refine rp_get (pc := 54) hC hw 40 (by decide) ((xt_eve (i := 0) (by decide)) _) fl_X6_70 (.ref (a 0)) rfl dX6_become_54 ?_
      refine rp_get (pc := 57) hC hw 0 (by decide) ((xt_ball (b := 0) (by decide)) _) fl_X6_86 (.ref (a 2)) rfl dX6_become_57 ?_
      refine lv_iload_n (pc := 60) hx hb dX6_become_60 rfl (lv_at hl 2 rfl) ?_
      refine lv_iload_n (pc := 61) hx hb dX6_become_61 rfl (lv_at hl 3 rfl) ?_
      refine lv_bipush (pc := 62) (v := 10) hx hb dX6_become_62 (by decide) ?_
      refine lv_irem (pc := 64) hx hb dX6_become_64 (by decide) ?_
      obtain ⟨hg, hF⟩ := rp_gu_e hF
      refine rp_ast (pc := 65) hC hw 2 (by decide) (xt_bar (b := 0) (by decide) 2 ⟨by decide, by decide⟩) 0 rfl hg dX6_become_65 (fun H locs hw => ?_)
      obtain ⟨σ7, eσ7, hF⟩ := rp_nm_e hF
      replace hw := rp_Wn eσ7 hw
      clear eσ7
      refine lv_iload_n (pc := 66) hx hb dX6_become_66 rfl (lv_at hl 0 rfl) ?_
      exact rp_reti (pc := 67) hC hw hF dX6_become_67
    · replace hF := rp_it hc hF
      exact kX6_become_15 hC σ4 _ _ _ hF hw (lv_sub hl [0] rfl)
theorem mX6_become {l : Launch} {D : va_G} {cI cB cS : ClassId} {a : Nat → Nat} (v1 : Int32) (v2 : Int32) (σ : rp_St) (res : Int32 × rp_St) (hF : fX6_become v1 v2 σ = some res) : xM l D cI cB cS a yX6_become cX6_become 4 (some .int) 3 [.ref (a 54), .int v1, .int v2] σ (rp_Qi D a (xt cI cB cS a) 62 res) :=
  rp_entry (by decide) (Nat.le_of_ble_eq_true rfl) (fun p e s m below meth c ls hC hw hl => kX6_become_0 hC v1 v2 σ _ _ _ hF hw (lv_sub hl [0, 1, 2] rfl))
def fX6_isUnder_4 (k4 : Int32 → Int32 → Int32 → rp_St → Option (Int32 × rp_St)) (v1 : Int32) (v2 : Int32) (v3 : Int32) (σ : rp_St) : Option (Int32 × rp_St) :=
  (if 7 ≤ v3 then some (0, σ) else (if v2 < 0 then some (0, σ) else (if v2 = v1 then some (1, σ) else rp_gu (rp_in v2 7) (rp_nm (xAb (v2 : Int32).toNatClampNeg) (fun x2 => rp_nm (v3 + 1) (fun x3 => k4 v1 x2 x3 σ))))))
set_option maxRecDepth 100000 in
set_option maxHeartbeats 4000000 in
theorem kX6_isUnder_4 {p : Program} {l : Launch} {e : Env} {s : State} {m : MethodId} {args : Array Value} {below : List Frame} {meth : Method} {c : Code} {D : va_G} {cI cB cS : ClassId} {a : Nat → Nat} {res : Int32 × rp_St} (hC : xC p s m args meth c cX6_isUnder 4 "RegretPegs" (some .boolean) D cI cB cS a) (k4 : Int32 → Int32 → Int32 → rp_St → Option (Int32 × rp_St)) (hk4 : ∀ (v1 : Int32) (v2 : Int32) (v3 : Int32) (σ : rp_St) (H : Heap) (locs : List Loc) (ls : Array Slot), k4 v1 v2 v3 σ = some res → xW D cI cB cS a s σ H locs → lv_has ls 4 [(1, .int v1), (2, .int v2), (3, .int v3)] → W p l e (rp_rm 1) s m args below meth c H locs 0 0 (MQ below (rp_Qi D a (xt cI cB cS a) 62 res) args s 0 0 (rp_A a 62)) (F0 m 4 ls [])) (v1 : Int32) (v2 : Int32) (v3 : Int32) (σ : rp_St) (H : Heap) (locs : List Loc) (ls : Array Slot) (hF : fX6_isUnder_4 k4 v1 v2 v3 σ = some res) (hw : xW D cI cB cS a s σ H locs) (hl : lv_has ls 4 [(1, .int v1), (2, .int v2), (3, .int v3)]) : W p l e (rp_rm 1) s m args below meth c H locs 0 0 (MQ below (rp_Qi D a (xt cI cB cS a) 62 res) args s 0 0 (rp_A a 62)) (F0 m 4 ls []) := by
  have hx := hC.1
  have hb := hC.2.1
  have hown := hC.2.2.2.1
  have hts := hC.2.2.2.2.1
  unfold fX6_isUnder_4 at hF
  refine lv_iload_n (pc := 4) hx hb dX6_isUnder_4 rfl (lv_at hl 2 rfl) ?_
  refine lv_bipush (pc := 5) (v := 7) hx hb dX6_isUnder_5 (by decide) ?_
  refine lv_icmp_ge (pc := 7) (tgt := 33) hx hb dX6_isUnder_7 (by decide) (fun hc => ?_) (fun hc => ?_)
  · replace hF := rp_it hc hF
    refine lv_iconst (pc := 33) (v := 0) hx hb dX6_isUnder_33 (by decide) ?_
    exact rp_retz (pc := 34) hC hw rfl hF dX6_isUnder_34
  · replace hF := rp_if hc hF
    refine lv_iload_n (pc := 10) hx hb dX6_isUnder_10 rfl (lv_at hl 1 rfl) ?_
    refine lv_if_lt (pc := 11) (tgt := 33) hx hb dX6_isUnder_11 (by decide) (fun hc => ?_) (fun hc => ?_)
    · replace hF := rp_it hc hF
      refine lv_iconst (pc := 33) (v := 0) hx hb dX6_isUnder_33 (by decide) ?_
      exact rp_retz (pc := 34) hC hw rfl hF dX6_isUnder_34
    · replace hF := rp_if hc hF
      refine lv_iload_n (pc := 14) hx hb dX6_isUnder_14 rfl (lv_at hl 1 rfl) ?_
      refine lv_iload_n (pc := 15) hx hb dX6_isUnder_15 rfl (lv_at hl 0 rfl) ?_
      refine lv_icmp_ne (pc := 16) (tgt := 21) hx hb dX6_isUnder_16 (by decide) (fun hc => ?_) (fun hc => ?_)
      · replace hF := rp_if hc hF
        refine xs_above (pc := 21) hC hw wd_299 dX6_isUnder_21 (fun tb1 htb1 => ?_)
        refine lv_iload_n (pc := 24) hx hb dX6_isUnder_24 rfl (lv_at hl 1 rfl) ?_
        obtain ⟨hg, hF⟩ := rp_gu_e hF
        refine xs_tab (pc := 25) hC hw htb1 hg dX6_isUnder_25 ?_
        obtain ⟨x2, ex2, hF⟩ := rp_nm_e hF
        refine rp_top ex2 ?_
        refine lv_istore_n (pc := 26) (lv' := [(2, .int x2), (1, .int v1), (3, .int v3)]) hx hb dX6_isUnder_26 rfl hl (by decide) rfl (fun ls hl => ?_)
        obtain ⟨x3, ex3, hF⟩ := rp_nm_e hF
        refine lv_iinc (pc := 27) (v := x3) (lv' := [(3, .int x3), (2, .int x2), (1, .int v1)]) hx hb dX6_isUnder_27 hl (k := 2) rfl (by rw [ex3]; rfl) (by decide) rfl (fun ls hl => ?_)
        refine lv_goto (pc := 30) (tgt := 4) hx hb dX6_isUnder_30 (by decide) ?_
        exact hk4 v1 x2 x3 σ _ _ _ hF hw (lv_sub hl [2, 1, 0] rfl)
      · replace hF := rp_it hc hF
        refine lv_iconst (pc := 19) (v := 1) hx hb dX6_isUnder_19 (by decide) ?_
        exact rp_retz (pc := 20) hC hw rfl hF dX6_isUnder_20
theorem lX6_isUnder_4 {p : Program} {l : Launch} {e : Env} {s : State} {m : MethodId} {args : Array Value} {below : List Frame} {meth : Method} {c : Code} {D : va_G} {cI cB cS : ClassId} {a : Nat → Nat} {res : Int32 × rp_St} (hC : xC p s m args meth c cX6_isUnder 4 "RegretPegs" (some .boolean) D cI cB cS a) : ∀ (n : Nat) (v1 : Int32) (v2 : Int32) (v3 : Int32) (σ : rp_St) (H : Heap) (locs : List Loc) (ls : Array Slot), rp_lp (fun _ _ _ _ => none) (fX6_isUnder_4) n v1 v2 v3 σ = some res → xW D cI cB cS a s σ H locs → lv_has ls 4 [(1, .int v1), (2, .int v2), (3, .int v3)] → W p l e (rp_rm 1) s m args below meth c H locs 0 0 (MQ below (rp_Qi D a (xt cI cB cS a) 62 res) args s 0 0 (rp_A a 62)) (F0 m 4 ls [])
  | 0, _, _, _, _, _, _, _, hF, _, _ => nomatch hF
  | n + 1, v1, v2, v3, σ, H, locs, ls, hF, hw, hl => kX6_isUnder_4 hC (rp_lp (fun _ _ _ _ => none) (fX6_isUnder_4) n) (lX6_isUnder_4 hC n) v1 v2 v3 σ H locs ls hF hw hl
def fX6_isUnder (v0 : Int32) (v1 : Int32) (σ : rp_St) : Option (Int32 × rp_St) :=
  rp_lp (fun _ _ _ _ => none) (fX6_isUnder_4) 300 v1 v0 0 σ
set_option maxRecDepth 100000 in
set_option maxHeartbeats 4000000 in
theorem kX6_isUnder_0 {p : Program} {l : Launch} {e : Env} {s : State} {m : MethodId} {args : Array Value} {below : List Frame} {meth : Method} {c : Code} {D : va_G} {cI cB cS : ClassId} {a : Nat → Nat} {res : Int32 × rp_St} (hC : xC p s m args meth c cX6_isUnder 4 "RegretPegs" (some .boolean) D cI cB cS a) (v0 : Int32) (v1 : Int32) (σ : rp_St) (H : Heap) (locs : List Loc) (ls : Array Slot) (hF : fX6_isUnder v0 v1 σ = some res) (hw : xW D cI cB cS a s σ H locs) (hl : lv_has ls 4 [(0, .int v0), (1, .int v1)]) : W p l e (rp_rm 1) s m args below meth c H locs 0 0 (MQ below (rp_Qi D a (xt cI cB cS a) 62 res) args s 0 0 (rp_A a 62)) (F0 m 0 ls []) := by
  have hx := hC.1
  have hb := hC.2.1
  have hown := hC.2.2.2.1
  have hts := hC.2.2.2.2.1
  unfold fX6_isUnder at hF
  refine lv_iload_n (pc := 0) hx hb dX6_isUnder_0 rfl (lv_at hl 0 rfl) ?_
  refine lv_istore_n (pc := 1) (lv' := [(2, .int v0), (0, .int v0), (1, .int v1)]) hx hb dX6_isUnder_1 rfl hl (by decide) rfl (fun ls hl => ?_)
  refine lv_iconst (pc := 2) (v := 0) hx hb dX6_isUnder_2 (by decide) ?_
  refine lv_istore_n (pc := 3) (lv' := [(3, .int 0), (2, .int v0), (0, .int v0), (1, .int v1)]) hx hb dX6_isUnder_3 rfl hl (by decide) rfl (fun ls hl => ?_)
  exact lX6_isUnder_4 hC 300 v1 v0 0 σ _ _ _ hF hw (lv_sub hl [3, 1, 0] rfl)
theorem mX6_isUnder {l : Launch} {D : va_G} {cI cB cS : ClassId} {a : Nat → Nat} (v0 : Int32) (v1 : Int32) (σ : rp_St) (res : Int32 × rp_St) (hF : fX6_isUnder v0 v1 σ = some res) : xM l D cI cB cS a yX6_isUnder cX6_isUnder 4 (some .boolean) 1 [.int v0, .int v1] σ (rp_Qi D a (xt cI cB cS a) 62 res) :=
  rp_entry (by decide) (Nat.le_of_ble_eq_true rfl) (fun p e s m below meth c ls hC hw hl => kX6_isUnder_0 hC v0 v1 σ _ _ _ hF hw (lv_sub hl [0, 1] rfl))
def fX6_as_18 (σ : rp_St) : Option (Int32 × rp_St) :=
  rp_bd (fX6_refuse 1 σ) (fun r1 σ2 => some (r1, σ2))
set_option maxRecDepth 100000 in
set_option maxHeartbeats 4000000 in
theorem kX6_as_18 {p : Program} {l : Launch} {e : Env} {s : State} {m : MethodId} {args : Array Value} {below : List Frame} {meth : Method} {c : Code} {D : va_G} {cI cB cS : ClassId} {a : Nat → Nat} {res : Int32 × rp_St} (hC : xC p s m args meth c cX6_as 3 "RegretPegs" (some .int) D cI cB cS a) (σ : rp_St) (H : Heap) (locs : List Loc) (ls : Array Slot) (hF : fX6_as_18 σ = some res) (hw : xW D cI cB cS a s σ H locs) (hl : lv_has ls 3 [(0, .ref (a 54))]) : W p l e (rp_rm 2) s m args below meth c H locs 0 0 (MQ below (rp_Qi D a (xt cI cB cS a) 62 res) args s 0 0 (rp_A a 62)) (F0 m 18 ls []) := by
  have hx := hC.1
  have hb := hC.2.1
  have hown := hC.2.2.2.1
  have hts := hC.2.2.2.2.1
  unfold fX6_as_18 at hF
  refine lv_aload_n (pc := 18) hx hb dX6_as_18 rfl (lv_at hl 0 rfl) ?_
  refine lv_iconst (pc := 19) (v := 1) hx hb dX6_as_19 (by decide) ?_
  obtain ⟨r1, σ2, hq, hF⟩ := rp_bd_e hF
  refine rp_ki (rp_runV (rest := []) hC (xE_ok _) hw hl.1 (mX6_refuse (l := l) 1 σ _ hq) vw_X6_66 (by decide) (xt_reg _) rfl rfl rfl (Nat.le_of_ble_eq_true rfl) (by decide) dX6_as_20) hw (fun H locs hw => ?_)
  clear hq
  exact rp_reti (pc := 23) hC hw hF dX6_as_23
def fX6_as (v1 : Int32) (v2 : Int32) (σ : rp_St) : Option (Int32 × rp_St) :=
  rp_bd (fX6_isGuest v1 σ) (fun r1 σ2 => (if r1 = 0 then fX6_as_18 σ2 else rp_bd (fX6_isWithin v2 0 6 σ2) (fun r3 σ4 => (if r3 = 0 then fX6_as_18 σ4 else rp_gu (rp_in v1 7) (rp_bd (fX6_isUnder (σ4 1 (v1 : Int32).toNatClampNeg) v2 σ4) (fun r5 σ6 => (if r5 = 0 then rp_bd (fX6_refuse 5 σ6) (fun r7 σ8 => some (r7, σ8)) else rp_gu (rp_in v1 7) (some ((σ6 2 (v1 : Int32).toNatClampNeg), σ6)))))))))
set_option maxRecDepth 100000 in
set_option maxHeartbeats 4000000 in
theorem kX6_as_0 {p : Program} {l : Launch} {e : Env} {s : State} {m : MethodId} {args : Array Value} {below : List Frame} {meth : Method} {c : Code} {D : va_G} {cI cB cS : ClassId} {a : Nat → Nat} {res : Int32 × rp_St} (hC : xC p s m args meth c cX6_as 3 "RegretPegs" (some .int) D cI cB cS a) (v1 : Int32) (v2 : Int32) (σ : rp_St) (H : Heap) (locs : List Loc) (ls : Array Slot) (hF : fX6_as v1 v2 σ = some res) (hw : xW D cI cB cS a s σ H locs) (hl : lv_has ls 3 [(0, .ref (a 54)), (1, .int v1), (2, .int v2)]) : W p l e (rp_rm 2) s m args below meth c H locs 0 0 (MQ below (rp_Qi D a (xt cI cB cS a) 62 res) args s 0 0 (rp_A a 62)) (F0 m 0 ls []) := by
  have hx := hC.1
  have hb := hC.2.1
  have hown := hC.2.2.2.1
  have hts := hC.2.2.2.2.1
  unfold fX6_as at hF
  refine lv_aload_n (pc := 0) hx hb dX6_as_0 rfl (lv_at hl 0 rfl) ?_
  refine lv_iload_n (pc := 1) hx hb dX6_as_1 rfl (lv_at hl 1 rfl) ?_
  obtain ⟨r1, σ2, hq, hF⟩ := rp_bd_e hF
  refine rp_ki (rp_runV (rest := []) hC (xE_ok _) hw hl.1 (mX6_isGuest (l := l) v1 σ _ hq) vw_X6_80 (by decide) (xt_reg _) rfl rfl rfl (Nat.le_of_ble_eq_true rfl) (by decide) dX6_as_2) hw (fun H locs hw => ?_)
  clear hq
  refine lv_if_eq (pc := 5) (tgt := 18) hx hb dX6_as_5 (by decide) (fun hc => ?_) (fun hc => ?_)
  · replace hF := rp_it hc hF
    exact kX6_as_18 hC σ2 _ _ _ hF hw (lv_sub hl [0] rfl)
  · replace hF := rp_if hc hF
    refine lv_iload_n (pc := 8) hx hb dX6_as_8 rfl (lv_at hl 2 rfl) ?_
    refine lv_iconst (pc := 9) (v := 0) hx hb dX6_as_9 (by decide) ?_
    refine lv_bipush (pc := 10) (v := 6) hx hb dX6_as_10 (by decide) ?_
    obtain ⟨r3, σ4, hq, hF⟩ := rp_bd_e hF
    refine rp_ki (rp_runZ (rest := []) hC (xE_ok _) hw hl.1 (mX6_isWithin (l := l) v2 0 6 σ2 _ hq) zw_X6_62 rfl rfl (Nat.le_of_ble_eq_true rfl) (by decide) dX6_as_12) hw (fun H locs hw => ?_)
    clear hq
    refine lv_if_ne (pc := 15) (tgt := 24) hx hb dX6_as_15 (by decide) (fun hc => ?_) (fun hc => ?_)
    · replace hF := rp_if hc hF
      refine lv_aload_n (pc := 24) hx hb dX6_as_24 rfl (lv_at hl 0 rfl) ?_
      refine rp_get (pc := 25) hC hw 54 (by decide) (xt_reg _) fl_X6_10 (.ref (a 40)) rfl dX6_as_25 ?_
      refine rp_get (pc := 28) hC hw 40 (by decide) ((xt_eve (i := 0) (by decide)) _) fl_X6_70 (.ref (a 0)) rfl dX6_as_28 ?_
      refine rp_get (pc := 31) hC hw 0 (by decide) ((xt_ball (b := 0) (by decide)) _) fl_X6_83 (.ref (a 1)) rfl dX6_as_31 ?_
      refine lv_iload_n (pc := 34) hx hb dX6_as_34 rfl (lv_at hl 1 rfl) ?_
      obtain ⟨hg, hF⟩ := rp_gu_e hF
      refine rp_ald (pc := 35) hC hw 1 (by decide) (xt_bar (b := 0) (by decide) 1 ⟨by decide, by decide⟩) 0 rfl hg dX6_as_35 ?_
      refine lv_iload_n (pc := 36) hx hb dX6_as_36 rfl (lv_at hl 2 rfl) ?_
      obtain ⟨r5, σ6, hq, hF⟩ := rp_bd_e hF
      refine rp_ki (rp_runZ (rest := []) hC (xE_ok _) hw hl.1 (mX6_isUnder (l := l) (σ4 1 (v1 : Int32).toNatClampNeg) v2 σ4 _ hq) zw_X6_118 rfl rfl (Nat.le_of_ble_eq_true rfl) (by decide) dX6_as_37) hw (fun H locs hw => ?_)
      clear hq
      refine lv_if_eq (pc := 40) (tgt := 58) hx hb dX6_as_40 (by decide) (fun hc => ?_) (fun hc => ?_)
      · replace hF := rp_it hc hF
        refine lv_aload_n (pc := 58) hx hb dX6_as_58 rfl (lv_at hl 0 rfl) ?_
        refine lv_iconst (pc := 59) (v := 5) hx hb dX6_as_59 (by decide) ?_
        obtain ⟨r7, σ8, hq, hF⟩ := rp_bd_e hF
        refine rp_ki (rp_runV (rest := []) hC (xE_ok _) hw hl.1 (mX6_refuse (l := l) 5 σ6 _ hq) vw_X6_66 (by decide) (xt_reg _) rfl rfl rfl (Nat.le_of_ble_eq_true rfl) (by decide) dX6_as_60) hw (fun H locs hw => ?_)
        clear hq
        exact rp_reti (pc := 63) hC hw hF dX6_as_63
      · replace hF := rp_if hc hF
        refine lv_aload_n (pc := 43) hx hb dX6_as_43 rfl (lv_at hl 0 rfl) ?_
        refine rp_get (pc := 44) hC hw 54 (by decide) (xt_reg _) fl_X6_10 (.ref (a 40)) rfl dX6_as_44 ?_
        refine rp_get (pc := 47) hC hw 40 (by decide) ((xt_eve (i := 0) (by decide)) _) fl_X6_70 (.ref (a 0)) rfl dX6_as_47 ?_
        refine rp_get (pc := 50) hC hw 0 (by decide) ((xt_ball (b := 0) (by decide)) _) fl_X6_86 (.ref (a 2)) rfl dX6_as_50 ?_
        refine lv_iload_n (pc := 53) hx hb dX6_as_53 rfl (lv_at hl 1 rfl) ?_
        obtain ⟨hg, hF⟩ := rp_gu_e hF
        refine rp_ald (pc := 54) hC hw 2 (by decide) (xt_bar (b := 0) (by decide) 2 ⟨by decide, by decide⟩) 0 rfl hg dX6_as_54 ?_
        refine lv_goto (pc := 55) (tgt := 63) hx hb dX6_as_55 (by decide) ?_
        exact rp_reti (pc := 63) hC hw hF dX6_as_63
    · replace hF := rp_it hc hF
      exact kX6_as_18 hC σ4 _ _ _ hF hw (lv_sub hl [0] rfl)
theorem mX6_as {l : Launch} {D : va_G} {cI cB cS : ClassId} {a : Nat → Nat} (v1 : Int32) (v2 : Int32) (σ : rp_St) (res : Int32 × rp_St) (hF : fX6_as v1 v2 σ = some res) : xM l D cI cB cS a yX6_as cX6_as 3 (some .int) 2 [.ref (a 54), .int v1, .int v2] σ (rp_Qi D a (xt cI cB cS a) 62 res) :=
  rp_entry (by decide) (Nat.le_of_ble_eq_true rfl) (fun p e s m below meth c ls hC hw hl => kX6_as_0 hC v1 v2 σ _ _ _ hF hw (lv_sub hl [0, 1, 2] rfl))
