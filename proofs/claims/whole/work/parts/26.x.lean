def fX6_move_14 (σ : rp_St) : Option (Int32 × rp_St) :=
  rp_bd (fX6_refuse 1 σ) (fun r1 σ2 => some (r1, σ2))
set_option maxRecDepth 100000 in
set_option maxHeartbeats 4000000 in
theorem kX6_move_14 {p : Program} {l : Launch} {e : Env} {s : State} {m : MethodId} {args : Array Value} {below : List Frame} {meth : Method} {c : Code} {D : va_G} {cI cB cS : ClassId} {a : Nat → Nat} {res : Int32 × rp_St} (hC : xC p s m args meth c cX6_move 8 "RegretPegs" (some .int) D cI cB cS a) (σ : rp_St) (H : Heap) (locs : List Loc) (ls : Array Slot) (hF : fX6_move_14 σ = some res) (hw : xW D cI cB cS a s σ H locs) (hl : lv_has ls 8 [(0, .ref (a 54))]) : W p l e (rp_rm 2) s m args below meth c H locs 0 0 (MQ below (rp_Qi D a (xt cI cB cS a) 62 res) args s 0 0 (rp_A a 62)) (F0 m 14 ls []) := by
  have hx := hC.1
  have hb := hC.2.1
  have hown := hC.2.2.2.1
  have hts := hC.2.2.2.2.1
  unfold fX6_move_14 at hF
  refine lv_aload_n (pc := 14) hx hb dX6_move_14 rfl (lv_at hl 0 rfl) ?_
  refine lv_iconst (pc := 15) (v := 1) hx hb dX6_move_15 (by decide) ?_
  obtain ⟨r1, σ2, hq, hF⟩ := rp_bd_e hF
  refine rp_ki (rp_runV (rest := []) hC (xE_ok _) hw hl.1 (mX6_refuse (l := l) 1 σ _ hq) vw_X6_66 (by decide) (xt_reg _) rfl rfl rfl (Nat.le_of_ble_eq_true rfl) (by decide) dX6_move_16) hw (fun H locs hw => ?_)
  clear hq
  exact rp_reti (pc := 19) hC hw hF dX6_move_19
def fX6_move_52 (σ : rp_St) : Option (Int32 × rp_St) :=
  rp_bd (fX6_refuse 2 σ) (fun r1 σ2 => some (r1, σ2))
set_option maxRecDepth 100000 in
set_option maxHeartbeats 4000000 in
theorem kX6_move_52 {p : Program} {l : Launch} {e : Env} {s : State} {m : MethodId} {args : Array Value} {below : List Frame} {meth : Method} {c : Code} {D : va_G} {cI cB cS : ClassId} {a : Nat → Nat} {res : Int32 × rp_St} (hC : xC p s m args meth c cX6_move 8 "RegretPegs" (some .int) D cI cB cS a) (σ : rp_St) (H : Heap) (locs : List Loc) (ls : Array Slot) (hF : fX6_move_52 σ = some res) (hw : xW D cI cB cS a s σ H locs) (hl : lv_has ls 8 [(0, .ref (a 54))]) : W p l e (rp_rm 2) s m args below meth c H locs 0 0 (MQ below (rp_Qi D a (xt cI cB cS a) 62 res) args s 0 0 (rp_A a 62)) (F0 m 52 ls []) := by
  have hx := hC.1
  have hb := hC.2.1
  have hown := hC.2.2.2.1
  have hts := hC.2.2.2.2.1
  unfold fX6_move_52 at hF
  refine lv_aload_n (pc := 52) hx hb dX6_move_52 rfl (lv_at hl 0 rfl) ?_
  refine lv_iconst (pc := 53) (v := 2) hx hb dX6_move_53 (by decide) ?_
  obtain ⟨r1, σ2, hq, hF⟩ := rp_bd_e hF
  refine rp_ki (rp_runV (rest := []) hC (xE_ok _) hw hl.1 (mX6_refuse (l := l) 2 σ _ hq) vw_X6_66 (by decide) (xt_reg _) rfl rfl rfl (Nat.le_of_ble_eq_true rfl) (by decide) dX6_move_54) hw (fun H locs hw => ?_)
  clear hq
  exact rp_reti (pc := 57) hC hw hF dX6_move_57
def fX6_move_100 (σ : rp_St) : Option (Int32 × rp_St) :=
  rp_bd (fX6_refuse 1 σ) (fun r1 σ2 => some (r1, σ2))
set_option maxRecDepth 100000 in
set_option maxHeartbeats 4000000 in
theorem kX6_move_100 {p : Program} {l : Launch} {e : Env} {s : State} {m : MethodId} {args : Array Value} {below : List Frame} {meth : Method} {c : Code} {D : va_G} {cI cB cS : ClassId} {a : Nat → Nat} {res : Int32 × rp_St} (hC : xC p s m args meth c cX6_move 8 "RegretPegs" (some .int) D cI cB cS a) (σ : rp_St) (H : Heap) (locs : List Loc) (ls : Array Slot) (hF : fX6_move_100 σ = some res) (hw : xW D cI cB cS a s σ H locs) (hl : lv_has ls 8 [(0, .ref (a 54))]) : W p l e (rp_rm 2) s m args below meth c H locs 0 0 (MQ below (rp_Qi D a (xt cI cB cS a) 62 res) args s 0 0 (rp_A a 62)) (F0 m 100 ls []) := by
  have hx := hC.1
  have hb := hC.2.1
  have hown := hC.2.2.2.1
  have hts := hC.2.2.2.2.1
  unfold fX6_move_100 at hF
  refine lv_aload_n (pc := 100) hx hb dX6_move_100 rfl (lv_at hl 0 rfl) ?_
  refine lv_iconst (pc := 101) (v := 1) hx hb dX6_move_101 (by decide) ?_
  obtain ⟨r1, σ2, hq, hF⟩ := rp_bd_e hF
  refine rp_ki (rp_runV (rest := []) hC (xE_ok _) hw hl.1 (mX6_refuse (l := l) 1 σ _ hq) vw_X6_66 (by decide) (xt_reg _) rfl rfl rfl (Nat.le_of_ble_eq_true rfl) (by decide) dX6_move_102) hw (fun H locs hw => ?_)
  clear hq
  exact rp_reti (pc := 105) hC hw hF dX6_move_105
def fX6_move (v1 : Int32) (v2 : Int32) (v3 : Int32) (v4 : Int32) (v5 : Int32) (σ : rp_St) : Option (Int32 × rp_St) :=
  rp_bd (fX6_isSheet v1 σ) (fun r1 σ2 => (if r1 = 0 then fX6_move_14 σ2 else rp_bd (fX6_isSheet v3 σ2) (fun r3 σ4 => (if r3 = 0 then fX6_move_14 σ4 else rp_gu (rp_in v1 4) (rp_nm (v1 : Int32).toNatClampNeg (fun w5 => rp_gu (rp_in v3 4) (rp_nm (v3 : Int32).toNatClampNeg (fun w6 => (if (σ4 (46 + 2 * w5) 0) = 0 then fX6_move_52 σ4 else (if (σ4 (46 + 2 * w6) 0) = 0 then fX6_move_52 σ4 else (if (σ4 (46 + 2 * w5) 0) = (σ4 (46 + 2 * w6) 0) then rp_bd (fX4_hasStretch w5 v2 v5 σ4) (fun r7 σ8 => (if r7 = 0 then fX6_move_100 σ8 else rp_bd (fX4_hasStretch w6 v4 v5 σ8) (fun r9 σ10 => (if r9 = 0 then fX6_move_100 σ10 else rp_gu (!decide (v2 < 0) && !decide (v4 < 0) && !decide (v5 < 0) && decide ((v2 : Int32).toNatClampNeg + (v5 : Int32).toNatClampNeg ≤ 40) && decide ((v4 : Int32).toNatClampNeg + (v5 : Int32).toNatClampNeg ≤ 40)) (rp_nm (rp_row σ10 (46 + 2 * w6 + 1) (va_cpy (σ10 (46 + 2 * w5 + 1)) (σ10 (46 + 2 * w6 + 1)) (v2 : Int32).toNatClampNeg (v4 : Int32).toNatClampNeg (v5 : Int32).toNatClampNeg)) (fun σ11 => some (v5, σ11))))))) else rp_bd (fX6_refuse 5 σ4) (fun r12 σ13 => some (r12, σ13)))))))))))))
set_option maxRecDepth 100000 in
set_option maxHeartbeats 4000000 in
theorem kX6_move_0 {p : Program} {l : Launch} {e : Env} {s : State} {m : MethodId} {args : Array Value} {below : List Frame} {meth : Method} {c : Code} {D : va_G} {cI cB cS : ClassId} {a : Nat → Nat} {res : Int32 × rp_St} (hC : xC p s m args meth c cX6_move 8 "RegretPegs" (some .int) D cI cB cS a) (v1 : Int32) (v2 : Int32) (v3 : Int32) (v4 : Int32) (v5 : Int32) (σ : rp_St) (H : Heap) (locs : List Loc) (ls : Array Slot) (hF : fX6_move v1 v2 v3 v4 v5 σ = some res) (hw : xW D cI cB cS a s σ H locs) (hl : lv_has ls 8 [(0, .ref (a 54)), (1, .int v1), (2, .int v2), (3, .int v3), (4, .int v4), (5, .int v5)]) : W p l e (rp_rm 2) s m args below meth c H locs 0 0 (MQ below (rp_Qi D a (xt cI cB cS a) 62 res) args s 0 0 (rp_A a 62)) (F0 m 0 ls []) := by
  have hx := hC.1
  have hb := hC.2.1
  have hown := hC.2.2.2.1
  have hts := hC.2.2.2.2.1
  unfold fX6_move at hF
  refine lv_iload_n (pc := 0) hx hb dX6_move_0 rfl (lv_at hl 1 rfl) ?_
  obtain ⟨r1, σ2, hq, hF⟩ := rp_bd_e hF
  refine rp_ki (rp_runZ (rest := []) hC (xE_ok _) hw hl.1 (mX6_isSheet (l := l) v1 σ _ hq) zw_X6_196 rfl rfl (Nat.le_of_ble_eq_true rfl) (by decide) dX6_move_1) hw (fun H locs hw => ?_)
  clear hq
  refine lv_if_eq (pc := 4) (tgt := 14) hx hb dX6_move_4 (by decide) (fun hc => ?_) (fun hc => ?_)
  · replace hF := rp_it hc hF
    exact kX6_move_14 hC σ2 _ _ _ hF hw (lv_sub hl [0] rfl)
  · replace hF := rp_if hc hF
    refine lv_iload_n (pc := 7) hx hb dX6_move_7 rfl (lv_at hl 3 rfl) ?_
    obtain ⟨r3, σ4, hq, hF⟩ := rp_bd_e hF
    refine rp_ki (rp_runZ (rest := []) hC (xE_ok _) hw hl.1 (mX6_isSheet (l := l) v3 σ2 _ hq) zw_X6_196 rfl rfl (Nat.le_of_ble_eq_true rfl) (by decide) dX6_move_8) hw (fun H locs hw => ?_)
    clear hq
    refine lv_if_ne (pc := 11) (tgt := 20) hx hb dX6_move_11 (by decide) (fun hc => ?_) (fun hc => ?_)
    · replace hF := rp_if hc hF
      refine lv_aload_n (pc := 20) hx hb dX6_move_20 rfl (lv_at hl 0 rfl) ?_
      refine rp_get (pc := 21) hC hw 54 (by decide) (xt_reg _) fl_X6_50 (.ref (a 56)) rfl dX6_move_21 ?_
      refine lv_iload_n (pc := 24) hx hb dX6_move_24 rfl (lv_at hl 1 rfl) ?_
      obtain ⟨hg, hF⟩ := rp_gu_e hF
      have hww5 := rp_in_lt hg
      refine rp_aald (pc := 25) hC hw 56 (by decide) xt_shs 2 rfl hg dX6_move_25 ?_
      obtain ⟨w5, ew5, hF⟩ := rp_nm_e hF
      rw [← ew5] at hww5
      refine W.eq (g2 := F0 m 26 ls [.ref (a (46 + 2 * w5))]) (by rw [ew5]; rfl) ?_
      refine lv_astore (pc := 26) (lv' := [(6, .ref (a (46 + 2 * w5))), (0, .ref (a 54)), (1, .int v1), (2, .int v2), (3, .int v3), (4, .int v4), (5, .int v5)]) hx hb dX6_move_26 hl (by decide) rfl (fun ls hl => ?_)
      refine lv_aload_n (pc := 28) hx hb dX6_move_28 rfl (lv_at hl 1 rfl) ?_
      refine rp_get (pc := 29) hC hw 54 (by decide) (xt_reg _) fl_X6_50 (.ref (a 56)) rfl dX6_move_29 ?_
      refine lv_iload_n (pc := 32) hx hb dX6_move_32 rfl (lv_at hl 4 rfl) ?_
      obtain ⟨hg, hF⟩ := rp_gu_e hF
      have hww6 := rp_in_lt hg
      refine rp_aald (pc := 33) hC hw 56 (by decide) xt_shs 2 rfl hg dX6_move_33 ?_
      obtain ⟨w6, ew6, hF⟩ := rp_nm_e hF
      rw [← ew6] at hww6
      refine W.eq (g2 := F0 m 34 ls [.ref (a (46 + 2 * w6))]) (by rw [ew6]; rfl) ?_
      refine lv_astore (pc := 34) (lv' := [(7, .ref (a (46 + 2 * w6))), (6, .ref (a (46 + 2 * w5))), (0, .ref (a 54)), (1, .int v1), (2, .int v2), (3, .int v3), (4, .int v4), (5, .int v5)]) hx hb dX6_move_34 hl (by decide) rfl (fun ls hl => ?_)
      refine lv_aload (pc := 36) hx hb dX6_move_36 (lv_at hl 1 rfl) ?_
      refine rp_get (pc := 38) hC hw (46 + 2 * w5) (by omega) ((xt_sheet (i := w5) (by omega)) _) fl_X6_199 (.int (σ4 (46 + 2 * w5) 0)) rfl dX6_move_38 ?_
      refine lv_if_eq (pc := 41) (tgt := 52) hx hb dX6_move_41 (by decide) (fun hc => ?_) (fun hc => ?_)
      · replace hF := rp_it hc hF
        exact kX6_move_52 hC σ4 _ _ _ hF hw (lv_sub hl [2] rfl)
      · replace hF := rp_if hc hF
        refine lv_aload (pc := 44) hx hb dX6_move_44 (lv_at hl 0 rfl) ?_
        refine rp_get (pc := 46) hC hw (46 + 2 * w6) (by omega) ((xt_sheet (i := w6) (by omega)) _) fl_X6_199 (.int (σ4 (46 + 2 * w6) 0)) rfl dX6_move_46 ?_
        refine lv_if_ne (pc := 49) (tgt := 58) hx hb dX6_move_49 (by decide) (fun hc => ?_) (fun hc => ?_)
        · replace hF := rp_if hc hF
          refine lv_aload (pc := 58) hx hb dX6_move_58 (lv_at hl 1 rfl) ?_
          refine rp_get (pc := 60) hC hw (46 + 2 * w5) (by omega) ((xt_sheet (i := w5) (by omega)) _) fl_X6_199 (.int (σ4 (46 + 2 * w5) 0)) rfl dX6_move_60 ?_
          refine lv_aload (pc := 63) hx hb dX6_move_63 (lv_at hl 0 rfl) ?_
          refine rp_get (pc := 65) hC hw (46 + 2 * w6) (by omega) ((xt_sheet (i := w6) (by omega)) _) fl_X6_199 (.int (σ4 (46 + 2 * w6) 0)) rfl dX6_move_65 ?_
          refine lv_icmp_eq (pc := 68) (tgt := 77) hx hb dX6_move_68 (by decide) (fun hc => ?_) (fun hc => ?_)
          · replace hF := rp_it hc hF
            refine lv_aload (pc := 77) hx hb dX6_move_77 (lv_at hl 1 rfl) ?_
            refine lv_iload_n (pc := 79) hx hb dX6_move_79 rfl (lv_at hl 4 rfl) ?_
            refine lv_iload (pc := 80) hx hb dX6_move_80 (lv_at hl 7 rfl) ?_
            obtain ⟨r7, σ8, hq, hF⟩ := rp_bd_e hF
            refine rp_ki (rp_runV (rest := []) hC (xE_ok _) hw hl.1 (mX4_hasStretch (l := l) w5 (by omega) v2 v5 σ4 _ hq) vw_X6_232 (by omega) ((xt_sheet (i := w5) (by omega)) _) rfl rfl rfl (Nat.le_of_ble_eq_true rfl) (by decide) dX6_move_82) hw (fun H locs hw => ?_)
            clear hq
            refine lv_if_eq (pc := 85) (tgt := 100) hx hb dX6_move_85 (by decide) (fun hc => ?_) (fun hc => ?_)
            · replace hF := rp_it hc hF
              exact kX6_move_100 hC σ8 _ _ _ hF hw (lv_sub hl [2] rfl)
            · replace hF := rp_if hc hF
              refine lv_aload (pc := 88) hx hb dX6_move_88 (lv_at hl 0 rfl) ?_
              refine lv_iload (pc := 90) hx hb dX6_move_90 (lv_at hl 6 rfl) ?_
              refine lv_iload (pc := 92) hx hb dX6_move_92 (lv_at hl 7 rfl) ?_
              obtain ⟨r9, σ10, hq, hF⟩ := rp_bd_e hF
              refine rp_ki (rp_runV (rest := []) hC (xE_ok _) hw hl.1 (mX4_hasStretch (l := l) w6 (by omega) v4 v5 σ8 _ hq) vw_X6_232 (by omega) ((xt_sheet (i := w6) (by omega)) _) rfl rfl rfl (Nat.le_of_ble_eq_true rfl) (by decide) dX6_move_94) hw (fun H locs hw => ?_)
              clear hq
              refine lv_if_ne (pc := 97) (tgt := 106) hx hb dX6_move_97 (by decide) (fun hc => ?_) (fun hc => ?_)
              · replace hF := rp_if hc hF
                refine lv_aload (pc := 106) hx hb dX6_move_106 (lv_at hl 1 rfl) ?_
                refine rp_get (pc := 108) hC hw (46 + 2 * w5) (by omega) ((xt_sheet (i := w5) (by omega)) _) fl_X6_235 (.ref (a (46 + 2 * w5 + 1))) rfl dX6_move_108 ?_
                refine lv_iload_n (pc := 111) hx hb dX6_move_111 rfl (lv_at hl 4 rfl) ?_
                refine lv_aload (pc := 112) hx hb dX6_move_112 (lv_at hl 0 rfl) ?_
                refine rp_get (pc := 114) hC hw (46 + 2 * w6) (by omega) ((xt_sheet (i := w6) (by omega)) _) fl_X6_235 (.ref (a (46 + 2 * w6 + 1))) rfl dX6_move_114 ?_
                refine lv_iload (pc := 117) hx hb dX6_move_117 (lv_at hl 6 rfl) ?_
                refine lv_iload (pc := 119) hx hb dX6_move_119 (lv_at hl 7 rfl) ?_
                obtain ⟨hg, hF⟩ := rp_gu_e hF
                refine rp_cpyi (pc := 121) hC hw hl.1 (46 + 2 * w5 + 1) (46 + 2 * w6 + 1) (by omega) (by omega) (xt_num (i := w5) (by omega)) (xt_num (i := w6) (by omega)) 0 rfl wd_583 wd_318 wd_317 wd_10 hg (by show 1 ≤ 2; omega) (Nat.le_trans (Nat.le_of_ble_eq_true rfl : _ ≤ 60) (by show 60 ≤ 60 * 2; omega)) dX6_move_121 (fun H locs hw => ?_)
                obtain ⟨σ11, eσ11, hF⟩ := rp_nm_e hF
                replace hw := rp_Wn eσ11 hw
                clear eσ11
                refine lv_iload (pc := 124) hx hb dX6_move_124 (lv_at hl 7 rfl) ?_
                exact rp_reti (pc := 126) hC hw hF dX6_move_126
              · replace hF := rp_it hc hF
                exact kX6_move_100 hC σ10 _ _ _ hF hw (lv_sub hl [2] rfl)
          · replace hF := rp_if hc hF
            refine lv_aload_n (pc := 71) hx hb dX6_move_71 rfl (lv_at hl 2 rfl) ?_
            refine lv_iconst (pc := 72) (v := 5) hx hb dX6_move_72 (by decide) ?_
            obtain ⟨r12, σ13, hq, hF⟩ := rp_bd_e hF
            refine rp_ki (rp_runV (rest := []) hC (xE_ok _) hw hl.1 (mX6_refuse (l := l) 5 σ4 _ hq) vw_X6_66 (by decide) (xt_reg _) rfl rfl rfl (Nat.le_of_ble_eq_true rfl) (by decide) dX6_move_73) hw (fun H locs hw => ?_)
            clear hq
            exact rp_reti (pc := 76) hC hw hF dX6_move_76
        · replace hF := rp_it hc hF
          exact kX6_move_52 hC σ4 _ _ _ hF hw (lv_sub hl [2] rfl)
    · replace hF := rp_it hc hF
      exact kX6_move_14 hC σ4 _ _ _ hF hw (lv_sub hl [0] rfl)
theorem mX6_move {l : Launch} {D : va_G} {cI cB cS : ClassId} {a : Nat → Nat} (v1 : Int32) (v2 : Int32) (v3 : Int32) (v4 : Int32) (v5 : Int32) (σ : rp_St) (res : Int32 × rp_St) (hF : fX6_move v1 v2 v3 v4 v5 σ = some res) : xM l D cI cB cS a yX6_move cX6_move 8 (some .int) 2 [.ref (a 54), .int v1, .int v2, .int v3, .int v4, .int v5] σ (rp_Qi D a (xt cI cB cS a) 62 res) :=
  rp_entry (by decide) (Nat.le_of_ble_eq_true rfl) (fun p e s m below meth c ls hC hw hl => kX6_move_0 hC v1 v2 v3 v4 v5 σ _ _ _ hF hw (lv_sub hl [0, 1, 2, 3, 4, 5] rfl))
def fX6_rues_54 (k54 : Nat → Int32 → Int32 → rp_St → Option (Int32 × rp_St)) (w2 : Nat) (v3 : Int32) (v4 : Int32) (σ : rp_St) : Option (Int32 × rp_St) :=
  (if v3 ≤ v4 then some (v3, σ) else rp_gu (rp_in v4 40) (rp_bd (fX6_isWithin (σ (46 + 2 * w2 + 1) (v4 : Int32).toNatClampNeg) 0 999 σ) (fun r1 σ2 => (if r1 = 0 then some (v4, σ2) else rp_gu (rp_in v4 40) (rp_gu (rp_in v4 7) (rp_nm (rp_put σ2 3 (v4 : Int32).toNatClampNeg (σ2 (46 + 2 * w2 + 1) (v4 : Int32).toNatClampNeg)) (fun σ3 => rp_nm (v4 + 1) (fun x4 => k54 w2 v3 x4 σ3))))))))
set_option maxRecDepth 100000 in
set_option maxHeartbeats 4000000 in
theorem kX6_rues_54 {p : Program} {l : Launch} {e : Env} {s : State} {m : MethodId} {args : Array Value} {below : List Frame} {meth : Method} {c : Code} {D : va_G} {cI cB cS : ClassId} {a : Nat → Nat} {res : Int32 × rp_St} (hC : xC p s m args meth c cX6_rues 5 "RegretPegs" (some .int) D cI cB cS a) (k54 : Nat → Int32 → Int32 → rp_St → Option (Int32 × rp_St)) (hk54 : ∀ (w2 : Nat) (_ : w2 < 4) (v3 : Int32) (v4 : Int32) (σ : rp_St) (H : Heap) (locs : List Loc) (ls : Array Slot), k54 w2 v3 v4 σ = some res → xW D cI cB cS a s σ H locs → lv_has ls 5 [(0, .ref (a 54)), (2, .ref (a (46 + 2 * w2))), (3, .int v3), (4, .int v4)] → W p l e (rp_rm 2) s m args below meth c H locs 0 0 (MQ below (rp_Qi D a (xt cI cB cS a) 62 res) args s 0 0 (rp_A a 62)) (F0 m 54 ls [])) (w2 : Nat) (h_w2 : w2 < 4) (v3 : Int32) (v4 : Int32) (σ : rp_St) (H : Heap) (locs : List Loc) (ls : Array Slot) (hF : fX6_rues_54 k54 w2 v3 v4 σ = some res) (hw : xW D cI cB cS a s σ H locs) (hl : lv_has ls 5 [(0, .ref (a 54)), (2, .ref (a (46 + 2 * w2))), (3, .int v3), (4, .int v4)]) : W p l e (rp_rm 2) s m args below meth c H locs 0 0 (MQ below (rp_Qi D a (xt cI cB cS a) 62 res) args s 0 0 (rp_A a 62)) (F0 m 54 ls []) := by
  have hx := hC.1
  have hb := hC.2.1
  have hown := hC.2.2.2.1
  have hts := hC.2.2.2.2.1
  unfold fX6_rues_54 at hF
  refine lv_iload (pc := 54) hx hb dX6_rues_54 (lv_at hl 3 rfl) ?_
  refine lv_iload_n (pc := 56) hx hb dX6_rues_56 rfl (lv_at hl 2 rfl) ?_
  refine lv_icmp_ge (pc := 57) (tgt := 106) hx hb dX6_rues_57 (by decide) (fun hc => ?_) (fun hc => ?_)
  · replace hF := rp_it hc hF
    refine lv_iload_n (pc := 106) hx hb dX6_rues_106 rfl (lv_at hl 2 rfl) ?_
    exact rp_reti (pc := 107) hC hw hF dX6_rues_107
  · replace hF := rp_if hc hF
    refine lv_aload_n (pc := 60) hx hb dX6_rues_60 rfl (lv_at hl 1 rfl) ?_
    refine rp_get (pc := 61) hC hw (46 + 2 * w2) (by omega) ((xt_sheet (i := w2) (by omega)) _) fl_X6_235 (.ref (a (46 + 2 * w2 + 1))) rfl dX6_rues_61 ?_
    refine lv_iload (pc := 64) hx hb dX6_rues_64 (lv_at hl 3 rfl) ?_
    obtain ⟨hg, hF⟩ := rp_gu_e hF
    refine rp_ald (pc := 66) hC hw (46 + 2 * w2 + 1) (by omega) (xt_num (i := w2) (by omega)) 0 rfl hg dX6_rues_66 ?_
    refine lv_iconst (pc := 67) (v := 0) hx hb dX6_rues_67 (by decide) ?_
    refine lv_sipush (pc := 68) (v := 999) hx hb dX6_rues_68 (by decide) ?_
    obtain ⟨r1, σ2, hq, hF⟩ := rp_bd_e hF
    refine rp_ki (rp_runZ (rest := []) hC (xE_ok _) hw hl.1 (mX6_isWithin (l := l) (σ (46 + 2 * w2 + 1) (v4 : Int32).toNatClampNeg) 0 999 σ _ hq) zw_X6_62 rfl rfl (Nat.le_of_ble_eq_true rfl) (by decide) dX6_rues_71) hw (fun H locs hw => ?_)
    clear hq
    refine lv_if_ne (pc := 74) (tgt := 80) hx hb dX6_rues_74 (by decide) (fun hc => ?_) (fun hc => ?_)
    · replace hF := rp_if hc hF
      refine lv_aload_n (pc := 80) hx hb dX6_rues_80 rfl (lv_at hl 0 rfl) ?_
      refine rp_get (pc := 81) hC hw 54 (by decide) (xt_reg _) fl_X6_10 (.ref (a 40)) rfl dX6_rues_81 ?_
      refine rp_get (pc := 84) hC hw 40 (by decide) ((xt_eve (i := 0) (by decide)) _) fl_X6_70 (.ref (a 0)) rfl dX6_rues_84 ?_
      refine rp_get (pc := 87) hC hw 0 (by decide) ((xt_ball (b := 0) (by decide)) _) fl_X6_89 (.ref (a 3)) rfl dX6_rues_87 ?_
      refine lv_iload (pc := 90) hx hb dX6_rues_90 (lv_at hl 3 rfl) ?_
      refine lv_aload_n (pc := 92) hx hb dX6_rues_92 rfl (lv_at hl 1 rfl) ?_
      refine rp_get (pc := 93) hC hw (46 + 2 * w2) (by omega) ((xt_sheet (i := w2) (by omega)) _) fl_X6_235 (.ref (a (46 + 2 * w2 + 1))) rfl dX6_rues_93 ?_
      refine lv_iload (pc := 96) hx hb dX6_rues_96 (lv_at hl 3 rfl) ?_
      obtain ⟨hg, hF⟩ := rp_gu_e hF
      refine rp_ald (pc := 98) hC hw (46 + 2 * w2 + 1) (by omega) (xt_num (i := w2) (by omega)) 0 rfl hg dX6_rues_98 ?_
      obtain ⟨hg, hF⟩ := rp_gu_e hF
      refine rp_ast (pc := 99) hC hw 3 (by decide) (xt_bar (b := 0) (by decide) 3 ⟨by decide, by decide⟩) 0 rfl hg dX6_rues_99 (fun H locs hw => ?_)
      obtain ⟨σ3, eσ3, hF⟩ := rp_nm_e hF
      replace hw := rp_Wn eσ3 hw
      clear eσ3
      obtain ⟨x4, ex4, hF⟩ := rp_nm_e hF
      refine lv_iinc (pc := 100) (v := x4) (lv' := [(4, .int x4), (0, .ref (a 54)), (2, .ref (a (46 + 2 * w2))), (3, .int v3)]) hx hb dX6_rues_100 hl (k := 3) rfl (by rw [ex4]; rfl) (by decide) rfl (fun ls hl => ?_)
      refine lv_goto (pc := 103) (tgt := 54) hx hb dX6_rues_103 (by decide) ?_
      exact hk54 w2 (by omega) v3 x4 σ3 _ _ _ hF hw (lv_sub hl [1, 2, 3, 0] rfl)
    · replace hF := rp_it hc hF
      refine lv_iload (pc := 77) hx hb dX6_rues_77 (lv_at hl 3 rfl) ?_
      exact rp_reti (pc := 79) hC hw hF dX6_rues_79
theorem lX6_rues_54 {p : Program} {l : Launch} {e : Env} {s : State} {m : MethodId} {args : Array Value} {below : List Frame} {meth : Method} {c : Code} {D : va_G} {cI cB cS : ClassId} {a : Nat → Nat} {res : Int32 × rp_St} (hC : xC p s m args meth c cX6_rues 5 "RegretPegs" (some .int) D cI cB cS a) : ∀ (n : Nat) (w2 : Nat) (_ : w2 < 4) (v3 : Int32) (v4 : Int32) (σ : rp_St) (H : Heap) (locs : List Loc) (ls : Array Slot), rp_lp (fun _ _ _ _ => none) (fX6_rues_54) n w2 v3 v4 σ = some res → xW D cI cB cS a s σ H locs → lv_has ls 5 [(0, .ref (a 54)), (2, .ref (a (46 + 2 * w2))), (3, .int v3), (4, .int v4)] → W p l e (rp_rm 2) s m args below meth c H locs 0 0 (MQ below (rp_Qi D a (xt cI cB cS a) 62 res) args s 0 0 (rp_A a 62)) (F0 m 54 ls [])
  | 0, _, _, _, _, _, _, _, _, hF, _, _ => nomatch hF
  | n + 1, w2, h_w2, v3, v4, σ, H, locs, ls, hF, hw, hl => kX6_rues_54 hC (rp_lp (fun _ _ _ _ => none) (fX6_rues_54) n) (lX6_rues_54 hC n) w2 h_w2 v3 v4 σ H locs ls hF hw hl
def fX6_rues (v1 : Int32) (σ : rp_St) : Option (Int32 × rp_St) :=
  rp_bd (fX6_isSheet v1 σ) (fun r1 σ2 => (if r1 = 0 then rp_bd (fX6_refuse 1 σ2) (fun r7 σ8 => some (r7, σ8)) else rp_gu (rp_in v1 4) (rp_nm (v1 : Int32).toNatClampNeg (fun w3 => (if (σ2 (46 + 2 * w3) 0) = 0 then rp_bd (fX6_refuse 2 σ2) (fun r5 σ6 => some (r5, σ6)) else rp_nm (if (σ2 0 0) < (σ2 (46 + 2 * w3) 1) then (σ2 0 0) else (σ2 (46 + 2 * w3) 1)) (fun x4 => rp_lp (fun _ _ _ _ => none) (fX6_rues_54) 300 w3 x4 0 σ2))))))
set_option maxRecDepth 100000 in
set_option maxHeartbeats 4000000 in
theorem kX6_rues_0 {p : Program} {l : Launch} {e : Env} {s : State} {m : MethodId} {args : Array Value} {below : List Frame} {meth : Method} {c : Code} {D : va_G} {cI cB cS : ClassId} {a : Nat → Nat} {res : Int32 × rp_St} (hC : xC p s m args meth c cX6_rues 5 "RegretPegs" (some .int) D cI cB cS a) (v1 : Int32) (σ : rp_St) (H : Heap) (locs : List Loc) (ls : Array Slot) (hF : fX6_rues v1 σ = some res) (hw : xW D cI cB cS a s σ H locs) (hl : lv_has ls 5 [(0, .ref (a 54)), (1, .int v1)]) : W p l e (rp_rm 2) s m args below meth c H locs 0 0 (MQ below (rp_Qi D a (xt cI cB cS a) 62 res) args s 0 0 (rp_A a 62)) (F0 m 0 ls []) := by
  have hx := hC.1
  have hb := hC.2.1
  have hown := hC.2.2.2.1
  have hts := hC.2.2.2.2.1
  unfold fX6_rues at hF
  refine lv_iload_n (pc := 0) hx hb dX6_rues_0 rfl (lv_at hl 1 rfl) ?_
  obtain ⟨r1, σ2, hq, hF⟩ := rp_bd_e hF
  refine rp_ki (rp_runZ (rest := []) hC (xE_ok _) hw hl.1 (mX6_isSheet (l := l) v1 σ _ hq) zw_X6_196 rfl rfl (Nat.le_of_ble_eq_true rfl) (by decide) dX6_rues_1) hw (fun H locs hw => ?_)
  clear hq
  refine lv_if_ne (pc := 4) (tgt := 13) hx hb dX6_rues_4 (by decide) (fun hc => ?_) (fun hc => ?_)
  · replace hF := rp_if hc hF
    refine lv_aload_n (pc := 13) hx hb dX6_rues_13 rfl (lv_at hl 0 rfl) ?_
    refine rp_get (pc := 14) hC hw 54 (by decide) (xt_reg _) fl_X6_50 (.ref (a 56)) rfl dX6_rues_14 ?_
    refine lv_iload_n (pc := 17) hx hb dX6_rues_17 rfl (lv_at hl 1 rfl) ?_
    obtain ⟨hg, hF⟩ := rp_gu_e hF
    have hww3 := rp_in_lt hg
    refine rp_aald (pc := 18) hC hw 56 (by decide) xt_shs 2 rfl hg dX6_rues_18 ?_
    obtain ⟨w3, ew3, hF⟩ := rp_nm_e hF
    rw [← ew3] at hww3
    refine W.eq (g2 := F0 m 19 ls [.ref (a (46 + 2 * w3))]) (by rw [ew3]; rfl) ?_
    refine lv_astore_n (pc := 19) (lv' := [(2, .ref (a (46 + 2 * w3))), (0, .ref (a 54)), (1, .int v1)]) hx hb dX6_rues_19 rfl hl (by decide) rfl (fun ls hl => ?_)
    refine lv_aload_n (pc := 20) hx hb dX6_rues_20 rfl (lv_at hl 0 rfl) ?_
    refine rp_get (pc := 21) hC hw (46 + 2 * w3) (by omega) ((xt_sheet (i := w3) (by omega)) _) fl_X6_199 (.int (σ2 (46 + 2 * w3) 0)) rfl dX6_rues_21 ?_
    refine lv_if_ne (pc := 24) (tgt := 33) hx hb dX6_rues_24 (by decide) (fun hc => ?_) (fun hc => ?_)
    · replace hF := rp_if hc hF
      refine lv_aload_n (pc := 33) hx hb dX6_rues_33 rfl (lv_at hl 0 rfl) ?_
      refine rp_get (pc := 34) hC hw (46 + 2 * w3) (by omega) ((xt_sheet (i := w3) (by omega)) _) fl_X6_202 (.int (σ2 (46 + 2 * w3) 1)) rfl dX6_rues_34 ?_
      refine lv_aload_n (pc := 37) hx hb dX6_rues_37 rfl (lv_at hl 1 rfl) ?_
      refine rp_get (pc := 38) hC hw 54 (by decide) (xt_reg _) fl_X6_10 (.ref (a 40)) rfl dX6_rues_38 ?_
      refine rp_get (pc := 41) hC hw 40 (by decide) ((xt_eve (i := 0) (by decide)) _) fl_X6_70 (.ref (a 0)) rfl dX6_rues_41 ?_
      refine rp_get (pc := 44) hC hw 0 (by decide) ((xt_ball (b := 0) (by decide)) _) fl_X6_73 (.int (σ2 0 0)) rfl dX6_rues_44 ?_
      refine rp_min (pc := 47) hC hl.1 wd_388 wd_314 wd_9 wd_315 (Nat.le_of_ble_eq_true rfl) (by omega) dX6_rues_47 ?_
      obtain ⟨x4, ex4, hF⟩ := rp_nm_e hF
      refine rp_top ex4 ?_
      refine lv_istore_n (pc := 50) (lv' := [(3, .int x4), (2, .ref (a (46 + 2 * w3))), (0, .ref (a 54)), (1, .int v1)]) hx hb dX6_rues_50 rfl hl (by decide) rfl (fun ls hl => ?_)
      refine lv_iconst (pc := 51) (v := 0) hx hb dX6_rues_51 (by decide) ?_
      refine lv_istore (pc := 52) (lv' := [(4, .int 0), (3, .int x4), (2, .ref (a (46 + 2 * w3))), (0, .ref (a 54)), (1, .int v1)]) hx hb dX6_rues_52 hl (by decide) rfl (fun ls hl => ?_)
      exact lX6_rues_54 hC 300 w3 (by omega) x4 0 σ2 _ _ _ hF hw (lv_sub hl [3, 2, 1, 0] rfl)
    · replace hF := rp_it hc hF
      refine lv_aload_n (pc := 27) hx hb dX6_rues_27 rfl (lv_at hl 1 rfl) ?_
      refine lv_iconst (pc := 28) (v := 2) hx hb dX6_rues_28 (by decide) ?_
      obtain ⟨r5, σ6, hq, hF⟩ := rp_bd_e hF
      refine rp_ki (rp_runV (rest := []) hC (xE_ok _) hw hl.1 (mX6_refuse (l := l) 2 σ2 _ hq) vw_X6_66 (by decide) (xt_reg _) rfl rfl rfl (Nat.le_of_ble_eq_true rfl) (by decide) dX6_rues_29) hw (fun H locs hw => ?_)
      clear hq
      exact rp_reti (pc := 32) hC hw hF dX6_rues_32
  · replace hF := rp_it hc hF
    refine lv_aload_n (pc := 7) hx hb dX6_rues_7 rfl (lv_at hl 0 rfl) ?_
    refine lv_iconst (pc := 8) (v := 1) hx hb dX6_rues_8 (by decide) ?_
    obtain ⟨r7, σ8, hq, hF⟩ := rp_bd_e hF
    refine rp_ki (rp_runV (rest := []) hC (xE_ok _) hw hl.1 (mX6_refuse (l := l) 1 σ2 _ hq) vw_X6_66 (by decide) (xt_reg _) rfl rfl rfl (Nat.le_of_ble_eq_true rfl) (by decide) dX6_rues_9) hw (fun H locs hw => ?_)
    clear hq
    exact rp_reti (pc := 12) hC hw hF dX6_rues_12
theorem mX6_rues {l : Launch} {D : va_G} {cI cB cS : ClassId} {a : Nat → Nat} (v1 : Int32) (σ : rp_St) (res : Int32 × rp_St) (hF : fX6_rues v1 σ = some res) : xM l D cI cB cS a yX6_rues cX6_rues 5 (some .int) 2 [.ref (a 54), .int v1] σ (rp_Qi D a (xt cI cB cS a) 62 res) :=
  rp_entry (by decide) (Nat.le_of_ble_eq_true rfl) (fun p e s m below meth c ls hC hw hl => kX6_rues_0 hC v1 σ _ _ _ hF hw (lv_sub hl [0, 1] rfl))
def fX6_judge_54 (k54 : Nat → Int32 → Int32 → rp_St → Option (Int32 × rp_St)) (w2 : Nat) (v3 : Int32) (v4 : Int32) (σ : rp_St) : Option (Int32 × rp_St) :=
  (if v3 ≤ v4 then (if (σ (46 + 2 * w2) 1) = (σ 0 0) then some ((-1), σ) else some (v3, σ)) else rp_gu (rp_in v4 40) (rp_gu (rp_in v4 7) ((if (σ (46 + 2 * w2 + 1) (v4 : Int32).toNatClampNeg) = (σ 6 (v4 : Int32).toNatClampNeg) then rp_nm (v4 + 1) (fun x1 => k54 w2 v3 x1 σ) else some (v4, σ)))))
set_option maxRecDepth 100000 in
set_option maxHeartbeats 4000000 in
theorem kX6_judge_54 {p : Program} {l : Launch} {e : Env} {s : State} {m : MethodId} {args : Array Value} {below : List Frame} {meth : Method} {c : Code} {D : va_G} {cI cB cS : ClassId} {a : Nat → Nat} {res : Int32 × rp_St} (hC : xC p s m args meth c cX6_judge 5 "RegretPegs" (some .int) D cI cB cS a) (k54 : Nat → Int32 → Int32 → rp_St → Option (Int32 × rp_St)) (hk54 : ∀ (w2 : Nat) (_ : w2 < 4) (v3 : Int32) (v4 : Int32) (σ : rp_St) (H : Heap) (locs : List Loc) (ls : Array Slot), k54 w2 v3 v4 σ = some res → xW D cI cB cS a s σ H locs → lv_has ls 5 [(0, .ref (a 54)), (2, .ref (a (46 + 2 * w2))), (3, .int v3), (4, .int v4)] → W p l e (rp_rm 2) s m args below meth c H locs 0 0 (MQ below (rp_Qi D a (xt cI cB cS a) 62 res) args s 0 0 (rp_A a 62)) (F0 m 54 ls [])) (w2 : Nat) (h_w2 : w2 < 4) (v3 : Int32) (v4 : Int32) (σ : rp_St) (H : Heap) (locs : List Loc) (ls : Array Slot) (hF : fX6_judge_54 k54 w2 v3 v4 σ = some res) (hw : xW D cI cB cS a s σ H locs) (hl : lv_has ls 5 [(0, .ref (a 54)), (2, .ref (a (46 + 2 * w2))), (3, .int v3), (4, .int v4)]) : W p l e (rp_rm 2) s m args below meth c H locs 0 0 (MQ below (rp_Qi D a (xt cI cB cS a) 62 res) args s 0 0 (rp_A a 62)) (F0 m 54 ls []) := by
  have hx := hC.1
  have hb := hC.2.1
  have hown := hC.2.2.2.1
  have hts := hC.2.2.2.2.1
  unfold fX6_judge_54 at hF
  refine lv_iload (pc := 54) hx hb dX6_judge_54 (lv_at hl 3 rfl) ?_
  refine lv_iload_n (pc := 56) hx hb dX6_judge_56 rfl (lv_at hl 2 rfl) ?_
  refine lv_icmp_ge (pc := 57) (tgt := 92) hx hb dX6_judge_57 (by decide) (fun hc => ?_) (fun hc => ?_)
  · replace hF := rp_it hc hF
    refine lv_aload_n (pc := 92) hx hb dX6_judge_92 rfl (lv_at hl 1 rfl) ?_
    refine rp_get (pc := 93) hC hw (46 + 2 * w2) (by omega) ((xt_sheet (i := w2) (by omega)) _) fl_X6_202 (.int (σ (46 + 2 * w2) 1)) rfl dX6_judge_93 ?_
    refine lv_aload_n (pc := 96) hx hb dX6_judge_96 rfl (lv_at hl 0 rfl) ?_
    refine rp_get (pc := 97) hC hw 54 (by decide) (xt_reg _) fl_X6_10 (.ref (a 40)) rfl dX6_judge_97 ?_
    refine rp_get (pc := 100) hC hw 40 (by decide) ((xt_eve (i := 0) (by decide)) _) fl_X6_70 (.ref (a 0)) rfl dX6_judge_100 ?_
    refine rp_get (pc := 103) hC hw 0 (by decide) ((xt_ball (b := 0) (by decide)) _) fl_X6_73 (.int (σ 0 0)) rfl dX6_judge_103 ?_
    refine lv_icmp_ne (pc := 106) (tgt := 113) hx hb dX6_judge_106 (by decide) (fun hc => ?_) (fun hc => ?_)
    · replace hF := rp_if hc hF
      refine lv_iload_n (pc := 113) hx hb dX6_judge_113 rfl (lv_at hl 2 rfl) ?_
      exact rp_reti (pc := 114) hC hw hF dX6_judge_114
    · replace hF := rp_it hc hF
      refine lv_iconst (pc := 109) (v := (-1)) hx hb dX6_judge_109 (by decide) ?_
      refine lv_goto (pc := 110) (tgt := 114) hx hb dX6_judge_110 (by decide) ?_
      exact rp_reti (pc := 114) hC hw hF dX6_judge_114
  · replace hF := rp_if hc hF
    refine lv_aload_n (pc := 60) hx hb dX6_judge_60 rfl (lv_at hl 1 rfl) ?_
    refine rp_get (pc := 61) hC hw (46 + 2 * w2) (by omega) ((xt_sheet (i := w2) (by omega)) _) fl_X6_235 (.ref (a (46 + 2 * w2 + 1))) rfl dX6_judge_61 ?_
    refine lv_iload (pc := 64) hx hb dX6_judge_64 (lv_at hl 3 rfl) ?_
    obtain ⟨hg, hF⟩ := rp_gu_e hF
    refine rp_ald (pc := 66) hC hw (46 + 2 * w2 + 1) (by omega) (xt_num (i := w2) (by omega)) 0 rfl hg dX6_judge_66 ?_
    refine lv_aload_n (pc := 67) hx hb dX6_judge_67 rfl (lv_at hl 0 rfl) ?_
    refine rp_get (pc := 68) hC hw 54 (by decide) (xt_reg _) fl_X6_10 (.ref (a 40)) rfl dX6_judge_68 ?_
    refine rp_get (pc := 71) hC hw 40 (by decide) ((xt_eve (i := 0) (by decide)) _) fl_X6_70 (.ref (a 0)) rfl dX6_judge_71 ?_
    refine rp_get (pc := 74) hC hw 0 (by decide) ((xt_ball (b := 0) (by decide)) _) fl_X6_111 (.ref (a 6)) rfl dX6_judge_74 ?_
    refine lv_iload (pc := 77) hx hb dX6_judge_77 (lv_at hl 3 rfl) ?_
    obtain ⟨hg, hF⟩ := rp_gu_e hF
    refine rp_ald (pc := 79) hC hw 6 (by decide) (xt_bar (b := 0) (by decide) 6 ⟨by decide, by decide⟩) 0 rfl hg dX6_judge_79 ?_
    refine lv_icmp_eq (pc := 80) (tgt := 86) hx hb dX6_judge_80 (by decide) (fun hc => ?_) (fun hc => ?_)
    · replace hF := rp_it hc hF
      obtain ⟨x1, ex1, hF⟩ := rp_nm_e hF
      refine lv_iinc (pc := 86) (v := x1) (lv' := [(4, .int x1), (0, .ref (a 54)), (2, .ref (a (46 + 2 * w2))), (3, .int v3)]) hx hb dX6_judge_86 hl (k := 3) rfl (by rw [ex1]; rfl) (by decide) rfl (fun ls hl => ?_)
      refine lv_goto (pc := 89) (tgt := 54) hx hb dX6_judge_89 (by decide) ?_
      exact hk54 w2 (by omega) v3 x1 σ _ _ _ hF hw (lv_sub hl [1, 2, 3, 0] rfl)
    · replace hF := rp_if hc hF
      refine lv_iload (pc := 83) hx hb dX6_judge_83 (lv_at hl 3 rfl) ?_
      exact rp_reti (pc := 85) hC hw hF dX6_judge_85
theorem lX6_judge_54 {p : Program} {l : Launch} {e : Env} {s : State} {m : MethodId} {args : Array Value} {below : List Frame} {meth : Method} {c : Code} {D : va_G} {cI cB cS : ClassId} {a : Nat → Nat} {res : Int32 × rp_St} (hC : xC p s m args meth c cX6_judge 5 "RegretPegs" (some .int) D cI cB cS a) : ∀ (n : Nat) (w2 : Nat) (_ : w2 < 4) (v3 : Int32) (v4 : Int32) (σ : rp_St) (H : Heap) (locs : List Loc) (ls : Array Slot), rp_lp (fun _ _ _ _ => none) (fX6_judge_54) n w2 v3 v4 σ = some res → xW D cI cB cS a s σ H locs → lv_has ls 5 [(0, .ref (a 54)), (2, .ref (a (46 + 2 * w2))), (3, .int v3), (4, .int v4)] → W p l e (rp_rm 2) s m args below meth c H locs 0 0 (MQ below (rp_Qi D a (xt cI cB cS a) 62 res) args s 0 0 (rp_A a 62)) (F0 m 54 ls [])
  | 0, _, _, _, _, _, _, _, _, hF, _, _ => nomatch hF
  | n + 1, w2, h_w2, v3, v4, σ, H, locs, ls, hF, hw, hl => kX6_judge_54 hC (rp_lp (fun _ _ _ _ => none) (fX6_judge_54) n) (lX6_judge_54 hC n) w2 h_w2 v3 v4 σ H locs ls hF hw hl
def fX6_judge (v1 : Int32) (σ : rp_St) : Option (Int32 × rp_St) :=
  rp_bd (fX6_isSheet v1 σ) (fun r1 σ2 => (if r1 = 0 then rp_bd (fX6_refuse 1 σ2) (fun r7 σ8 => some (r7, σ8)) else rp_gu (rp_in v1 4) (rp_nm (v1 : Int32).toNatClampNeg (fun w3 => (if (σ2 (46 + 2 * w3) 0) = 0 then rp_bd (fX6_refuse 2 σ2) (fun r5 σ6 => some (r5, σ6)) else rp_nm (if (σ2 0 0) < (σ2 (46 + 2 * w3) 1) then (σ2 0 0) else (σ2 (46 + 2 * w3) 1)) (fun x4 => rp_lp (fun _ _ _ _ => none) (fX6_judge_54) 300 w3 x4 0 σ2))))))
set_option maxRecDepth 100000 in
set_option maxHeartbeats 4000000 in
theorem kX6_judge_0 {p : Program} {l : Launch} {e : Env} {s : State} {m : MethodId} {args : Array Value} {below : List Frame} {meth : Method} {c : Code} {D : va_G} {cI cB cS : ClassId} {a : Nat → Nat} {res : Int32 × rp_St} (hC : xC p s m args meth c cX6_judge 5 "RegretPegs" (some .int) D cI cB cS a) (v1 : Int32) (σ : rp_St) (H : Heap) (locs : List Loc) (ls : Array Slot) (hF : fX6_judge v1 σ = some res) (hw : xW D cI cB cS a s σ H locs) (hl : lv_has ls 5 [(0, .ref (a 54)), (1, .int v1)]) : W p l e (rp_rm 2) s m args below meth c H locs 0 0 (MQ below (rp_Qi D a (xt cI cB cS a) 62 res) args s 0 0 (rp_A a 62)) (F0 m 0 ls []) := by
  have hx := hC.1
  have hb := hC.2.1
  have hown := hC.2.2.2.1
  have hts := hC.2.2.2.2.1
  unfold fX6_judge at hF
  refine lv_iload_n (pc := 0) hx hb dX6_judge_0 rfl (lv_at hl 1 rfl) ?_
  obtain ⟨r1, σ2, hq, hF⟩ := rp_bd_e hF
  refine rp_ki (rp_runZ (rest := []) hC (xE_ok _) hw hl.1 (mX6_isSheet (l := l) v1 σ _ hq) zw_X6_196 rfl rfl (Nat.le_of_ble_eq_true rfl) (by decide) dX6_judge_1) hw (fun H locs hw => ?_)
  clear hq
  refine lv_if_ne (pc := 4) (tgt := 13) hx hb dX6_judge_4 (by decide) (fun hc => ?_) (fun hc => ?_)
  · replace hF := rp_if hc hF
    refine lv_aload_n (pc := 13) hx hb dX6_judge_13 rfl (lv_at hl 0 rfl) ?_
    refine rp_get (pc := 14) hC hw 54 (by decide) (xt_reg _) fl_X6_50 (.ref (a 56)) rfl dX6_judge_14 ?_
    refine lv_iload_n (pc := 17) hx hb dX6_judge_17 rfl (lv_at hl 1 rfl) ?_
    obtain ⟨hg, hF⟩ := rp_gu_e hF
    have hww3 := rp_in_lt hg
    refine rp_aald (pc := 18) hC hw 56 (by decide) xt_shs 2 rfl hg dX6_judge_18 ?_
    obtain ⟨w3, ew3, hF⟩ := rp_nm_e hF
    rw [← ew3] at hww3
    refine W.eq (g2 := F0 m 19 ls [.ref (a (46 + 2 * w3))]) (by rw [ew3]; rfl) ?_
    refine lv_astore_n (pc := 19) (lv' := [(2, .ref (a (46 + 2 * w3))), (0, .ref (a 54)), (1, .int v1)]) hx hb dX6_judge_19 rfl hl (by decide) rfl (fun ls hl => ?_)
    refine lv_aload_n (pc := 20) hx hb dX6_judge_20 rfl (lv_at hl 0 rfl) ?_
    refine rp_get (pc := 21) hC hw (46 + 2 * w3) (by omega) ((xt_sheet (i := w3) (by omega)) _) fl_X6_199 (.int (σ2 (46 + 2 * w3) 0)) rfl dX6_judge_21 ?_
    refine lv_if_ne (pc := 24) (tgt := 33) hx hb dX6_judge_24 (by decide) (fun hc => ?_) (fun hc => ?_)
    · replace hF := rp_if hc hF
      refine lv_aload_n (pc := 33) hx hb dX6_judge_33 rfl (lv_at hl 0 rfl) ?_
      refine rp_get (pc := 34) hC hw (46 + 2 * w3) (by omega) ((xt_sheet (i := w3) (by omega)) _) fl_X6_202 (.int (σ2 (46 + 2 * w3) 1)) rfl dX6_judge_34 ?_
      refine lv_aload_n (pc := 37) hx hb dX6_judge_37 rfl (lv_at hl 1 rfl) ?_
      refine rp_get (pc := 38) hC hw 54 (by decide) (xt_reg _) fl_X6_10 (.ref (a 40)) rfl dX6_judge_38 ?_
      refine rp_get (pc := 41) hC hw 40 (by decide) ((xt_eve (i := 0) (by decide)) _) fl_X6_70 (.ref (a 0)) rfl dX6_judge_41 ?_
      refine rp_get (pc := 44) hC hw 0 (by decide) ((xt_ball (b := 0) (by decide)) _) fl_X6_73 (.int (σ2 0 0)) rfl dX6_judge_44 ?_
      refine rp_min (pc := 47) hC hl.1 wd_388 wd_314 wd_9 wd_315 (Nat.le_of_ble_eq_true rfl) (by omega) dX6_judge_47 ?_
      obtain ⟨x4, ex4, hF⟩ := rp_nm_e hF
      refine rp_top ex4 ?_
      refine lv_istore_n (pc := 50) (lv' := [(3, .int x4), (2, .ref (a (46 + 2 * w3))), (0, .ref (a 54)), (1, .int v1)]) hx hb dX6_judge_50 rfl hl (by decide) rfl (fun ls hl => ?_)
      refine lv_iconst (pc := 51) (v := 0) hx hb dX6_judge_51 (by decide) ?_
      refine lv_istore (pc := 52) (lv' := [(4, .int 0), (3, .int x4), (2, .ref (a (46 + 2 * w3))), (0, .ref (a 54)), (1, .int v1)]) hx hb dX6_judge_52 hl (by decide) rfl (fun ls hl => ?_)
      exact lX6_judge_54 hC 300 w3 (by omega) x4 0 σ2 _ _ _ hF hw (lv_sub hl [3, 2, 1, 0] rfl)
    · replace hF := rp_it hc hF
      refine lv_aload_n (pc := 27) hx hb dX6_judge_27 rfl (lv_at hl 1 rfl) ?_
      refine lv_iconst (pc := 28) (v := 2) hx hb dX6_judge_28 (by decide) ?_
      obtain ⟨r5, σ6, hq, hF⟩ := rp_bd_e hF
      refine rp_ki (rp_runV (rest := []) hC (xE_ok _) hw hl.1 (mX6_refuse (l := l) 2 σ2 _ hq) vw_X6_66 (by decide) (xt_reg _) rfl rfl rfl (Nat.le_of_ble_eq_true rfl) (by decide) dX6_judge_29) hw (fun H locs hw => ?_)
      clear hq
      exact rp_reti (pc := 32) hC hw hF dX6_judge_32
  · replace hF := rp_it hc hF
    refine lv_aload_n (pc := 7) hx hb dX6_judge_7 rfl (lv_at hl 0 rfl) ?_
    refine lv_iconst (pc := 8) (v := 1) hx hb dX6_judge_8 (by decide) ?_
    obtain ⟨r7, σ8, hq, hF⟩ := rp_bd_e hF
    refine rp_ki (rp_runV (rest := []) hC (xE_ok _) hw hl.1 (mX6_refuse (l := l) 1 σ2 _ hq) vw_X6_66 (by decide) (xt_reg _) rfl rfl rfl (Nat.le_of_ble_eq_true rfl) (by decide) dX6_judge_9) hw (fun H locs hw => ?_)
    clear hq
    exact rp_reti (pc := 12) hC hw hF dX6_judge_12
theorem mX6_judge {l : Launch} {D : va_G} {cI cB cS : ClassId} {a : Nat → Nat} (v1 : Int32) (σ : rp_St) (res : Int32 × rp_St) (hF : fX6_judge v1 σ = some res) : xM l D cI cB cS a yX6_judge cX6_judge 5 (some .int) 2 [.ref (a 54), .int v1] σ (rp_Qi D a (xt cI cB cS a) 62 res) :=
  rp_entry (by decide) (Nat.le_of_ble_eq_true rfl) (fun p e s m below meth c ls hC hw hl => kX6_judge_0 hC v1 σ _ _ _ hF hw (lv_sub hl [0, 1] rfl))
def fX1_takeFrom (g0 : Nat) (g1 : Nat) (σ : rp_St) : Option (Int32 × rp_St) :=
  rp_bd (fX0_takeFrom g0 g1 σ) (fun _ σ2 => rp_bd (fX2_takeCode (2 * g0) (28 + 3 * (2 * g1) + 1) (σ2 (28 + 3 * (2 * g1)) 1) σ2) (fun _ σ4 => rp_bd (fX2_takeCode (2 * g0 + 1) (28 + 3 * (2 * g1 + 1) + 1) (σ4 (28 + 3 * (2 * g1 + 1)) 1) σ4) (fun _ σ6 => rp_gu ((!decide (0 < 0) && !decide (0 < 0) && !decide (50 < 0) && decide ((0 : Int32).toNatClampNeg + (50 : Int32).toNatClampNeg ≤ 50) && decide ((0 : Int32).toNatClampNeg + (50 : Int32).toNatClampNeg ≤ 50)) && (List.range 50).all (fun i => (σ6 (40 + 3 * g1 + 1) i).toInt8.toInt32 == σ6 (40 + 3 * g1 + 1) i)) (rp_nm (rp_row σ6 (40 + 3 * g0 + 1) (va_cpy (σ6 (40 + 3 * g1 + 1)) (σ6 (40 + 3 * g0 + 1)) (0 : Int32).toNatClampNeg (0 : Int32).toNatClampNeg (50 : Int32).toNatClampNeg)) (fun σ7 => rp_nm (rp_put σ7 (40 + 3 * g0) 4 (σ7 (40 + 3 * g1) 4)) (fun σ8 => rp_gu (!decide (0 < 0) && !decide (0 < 0) && !decide (20 < 0) && decide ((0 : Int32).toNatClampNeg + (20 : Int32).toNatClampNeg ≤ 20) && decide ((0 : Int32).toNatClampNeg + (20 : Int32).toNatClampNeg ≤ 20)) (rp_nm (rp_row σ8 (40 + 3 * g0 + 2) (va_cpy (σ8 (40 + 3 * g1 + 2)) (σ8 (40 + 3 * g0 + 2)) (0 : Int32).toNatClampNeg (0 : Int32).toNatClampNeg (20 : Int32).toNatClampNeg)) (fun σ9 => rp_nm (rp_put σ9 (40 + 3 * g0) 6 (σ9 (40 + 3 * g1) 6)) (fun σ10 => rp_nm (rp_put σ10 (40 + 3 * g0) 7 (σ10 (40 + 3 * g1) 7)) (fun σ11 => rp_nm (rp_put σ11 (40 + 3 * g0) 8 (σ11 (40 + 3 * g1) 8)) (fun σ12 => some (0, σ12))))))))))))
set_option maxRecDepth 100000 in
set_option maxHeartbeats 4000000 in
theorem kX1_takeFrom_0 {p : Program} {l : Launch} {e : Env} {s : State} {m : MethodId} {args : Array Value} {below : List Frame} {meth : Method} {c : Code} {D : va_G} {cI cB cS : ClassId} {a : Nat → Nat} {res : Int32 × rp_St} (g0 : Nat) (h_g0 : g0 < 2) (g1 : Nat) (h_g1 : g1 < 2) (hC : xC p s m args meth c cX1_takeFrom 2 "RegretPegs$Evening" none D cI cB cS a) (σ : rp_St) (H : Heap) (locs : List Loc) (ls : Array Slot) (hF : fX1_takeFrom g0 g1 σ = some res) (hw : xW D cI cB cS a s σ H locs) (hl : lv_has ls 2 [(0, .ref (a (40 + 3 * g0))), (1, .ref (a (40 + 3 * g1)))]) : W p l e (rp_rm 2) s m args below meth c H locs 0 0 (MQ below (rp_Qv D a (xt cI cB cS a) 62 res) args s 0 0 (rp_A a 62)) (F0 m 0 ls []) := by
  have hx := hC.1
  have hb := hC.2.1
  have hown := hC.2.2.2.1
  have hts := hC.2.2.2.2.1
  unfold fX1_takeFrom at hF
  refine lv_aload_n (pc := 0) hx hb dX1_takeFrom_0 rfl (lv_at hl 0 rfl) ?_
  refine rp_get (pc := 1) hC hw (40 + 3 * g0) (by omega) ((xt_eve (i := g0) (by omega)) _) fl_X1_12 (.ref (a (7 * g0))) rfl dX1_takeFrom_1 ?_
  refine lv_aload_n (pc := 4) hx hb dX1_takeFrom_4 rfl (lv_at hl 1 rfl) ?_
  refine rp_get (pc := 5) hC hw (40 + 3 * g1) (by omega) ((xt_eve (i := g1) (by omega)) _) fl_X1_12 (.ref (a (7 * g1))) rfl dX1_takeFrom_5 ?_
  obtain ⟨r1, σ2, hq, hF⟩ := rp_bd_e hF
  refine rp_kv (rp_runV (rest := []) hC (xE_ok _) hw hl.1 (mX0_takeFrom (l := l) g0 (by omega) g1 (by omega) σ _ hq) vw_X1_51 (by omega) ((xt_ball (b := g0) (by omega)) _) rfl rfl rfl (Nat.le_of_ble_eq_true rfl) (by decide) dX1_takeFrom_8) hw (fun H locs hw => ?_)
  clear hq
  refine lv_aload_n (pc := 11) hx hb dX1_takeFrom_11 rfl (lv_at hl 0 rfl) ?_
  refine rp_get (pc := 12) hC hw (40 + 3 * g0) (by omega) ((xt_eve (i := g0) (by omega)) _) fl_X1_23 (.ref (a (28 + 3 * (2 * g0)))) rfl dX1_takeFrom_12 ?_
  refine lv_aload_n (pc := 15) hx hb dX1_takeFrom_15 rfl (lv_at hl 1 rfl) ?_
  refine rp_get (pc := 16) hC hw (40 + 3 * g1) (by omega) ((xt_eve (i := g1) (by omega)) _) fl_X1_23 (.ref (a (28 + 3 * (2 * g1)))) rfl dX1_takeFrom_16 ?_
  refine rp_get (pc := 19) hC hw (28 + 3 * (2 * g1)) (by omega) ((xt_law (i := (2 * g1)) (by omega)) _) fl_X1_55 (.ref (a (28 + 3 * (2 * g1) + 1))) rfl dX1_takeFrom_19 ?_
  refine lv_aload_n (pc := 22) hx hb dX1_takeFrom_22 rfl (lv_at hl 1 rfl) ?_
  refine rp_get (pc := 23) hC hw (40 + 3 * g1) (by omega) ((xt_eve (i := g1) (by omega)) _) fl_X1_23 (.ref (a (28 + 3 * (2 * g1)))) rfl dX1_takeFrom_23 ?_
  refine rp_get (pc := 26) hC hw (28 + 3 * (2 * g1)) (by omega) ((xt_law (i := (2 * g1)) (by omega)) _) fl_X1_58 (.int (σ2 (28 + 3 * (2 * g1)) 1)) rfl dX1_takeFrom_26 ?_
  obtain ⟨r3, σ4, hq, hF⟩ := rp_bd_e hF
  refine rp_kv (rp_runV (rest := []) hC (xE_ok _) hw hl.1 (mX2_takeCode (l := l) (2 * g0) (by omega) (28 + 3 * (2 * g1) + 1) (by omega) (xt_lar (i := (2 * g1)) (by omega) 1 ⟨by decide, by decide⟩) (σ2 (28 + 3 * (2 * g1)) 1) σ2 _ hq) vw_X1_61 (by omega) ((xt_law (i := (2 * g0)) (by omega)) _) rfl rfl rfl (Nat.le_of_ble_eq_true rfl) (by decide) dX1_takeFrom_29) hw (fun H locs hw => ?_)
  clear hq
  refine lv_aload_n (pc := 32) hx hb dX1_takeFrom_32 rfl (lv_at hl 0 rfl) ?_
  refine rp_get (pc := 33) hC hw (40 + 3 * g0) (by omega) ((xt_eve (i := g0) (by omega)) _) fl_X1_27 (.ref (a (28 + 3 * (2 * g0 + 1)))) rfl dX1_takeFrom_33 ?_
  refine lv_aload_n (pc := 36) hx hb dX1_takeFrom_36 rfl (lv_at hl 1 rfl) ?_
  refine rp_get (pc := 37) hC hw (40 + 3 * g1) (by omega) ((xt_eve (i := g1) (by omega)) _) fl_X1_27 (.ref (a (28 + 3 * (2 * g1 + 1)))) rfl dX1_takeFrom_37 ?_
  refine rp_get (pc := 40) hC hw (28 + 3 * (2 * g1 + 1)) (by omega) ((xt_law (i := (2 * g1 + 1)) (by omega)) _) fl_X1_55 (.ref (a (28 + 3 * (2 * g1 + 1) + 1))) rfl dX1_takeFrom_40 ?_
  refine lv_aload_n (pc := 43) hx hb dX1_takeFrom_43 rfl (lv_at hl 1 rfl) ?_
  refine rp_get (pc := 44) hC hw (40 + 3 * g1) (by omega) ((xt_eve (i := g1) (by omega)) _) fl_X1_27 (.ref (a (28 + 3 * (2 * g1 + 1)))) rfl dX1_takeFrom_44 ?_
  refine rp_get (pc := 47) hC hw (28 + 3 * (2 * g1 + 1)) (by omega) ((xt_law (i := (2 * g1 + 1)) (by omega)) _) fl_X1_58 (.int (σ4 (28 + 3 * (2 * g1 + 1)) 1)) rfl dX1_takeFrom_47 ?_
  obtain ⟨r5, σ6, hq, hF⟩ := rp_bd_e hF
  refine rp_kv (rp_runV (rest := []) hC (xE_ok _) hw hl.1 (mX2_takeCode (l := l) (2 * g0 + 1) (by omega) (28 + 3 * (2 * g1 + 1) + 1) (by omega) (xt_lar (i := (2 * g1 + 1)) (by omega) 1 ⟨by decide, by decide⟩) (σ4 (28 + 3 * (2 * g1 + 1)) 1) σ4 _ hq) vw_X1_61 (by omega) ((xt_law (i := (2 * g0 + 1)) (by omega)) _) rfl rfl rfl (Nat.le_of_ble_eq_true rfl) (by decide) dX1_takeFrom_50) hw (fun H locs hw => ?_)
  clear hq
  refine lv_aload_n (pc := 53) hx hb dX1_takeFrom_53 rfl (lv_at hl 1 rfl) ?_
  refine rp_get (pc := 54) hC hw (40 + 3 * g1) (by omega) ((xt_eve (i := g1) (by omega)) _) fl_X1_30 (.ref (a (40 + 3 * g1 + 1))) rfl dX1_takeFrom_54 ?_
  refine lv_iconst (pc := 57) (v := 0) hx hb dX1_takeFrom_57 (by decide) ?_
  refine lv_aload_n (pc := 58) hx hb dX1_takeFrom_58 rfl (lv_at hl 0 rfl) ?_
  refine rp_get (pc := 59) hC hw (40 + 3 * g0) (by omega) ((xt_eve (i := g0) (by omega)) _) fl_X1_30 (.ref (a (40 + 3 * g0 + 1))) rfl dX1_takeFrom_59 ?_
  refine lv_iconst (pc := 62) (v := 0) hx hb dX1_takeFrom_62 (by decide) ?_
  refine lv_bipush (pc := 63) (v := 50) hx hb dX1_takeFrom_63 (by decide) ?_
  obtain ⟨hg, hF⟩ := rp_gu_e hF
  refine rp_cpyb (pc := 65) hC hw hl.1 (40 + 3 * g1 + 1) (40 + 3 * g0 + 1) (by omega) (by omega) (xt_tape (i := g1) (by omega)) (xt_tape (i := g0) (by omega)) 1 rfl wd_602 wd_318 wd_317 wd_10 hg rfl (by show 1 ≤ 2; omega) (Nat.le_trans (Nat.le_of_ble_eq_true rfl : _ ≤ 60) (by show 60 ≤ 60 * 2; omega)) dX1_takeFrom_65 (fun H locs hw => ?_)
  obtain ⟨σ7, eσ7, hF⟩ := rp_nm_e hF
  replace hw := rp_Wn eσ7 hw
  clear eσ7
  refine lv_aload_n (pc := 68) hx hb dX1_takeFrom_68 rfl (lv_at hl 0 rfl) ?_
  refine lv_aload_n (pc := 69) hx hb dX1_takeFrom_69 rfl (lv_at hl 1 rfl) ?_
  refine rp_get (pc := 70) hC hw (40 + 3 * g1) (by omega) ((xt_eve (i := g1) (by omega)) _) fl_X1_34 (.int (σ7 (40 + 3 * g1) 4)) rfl dX1_takeFrom_70 ?_
  refine rp_set (pc := 73) (fs := xb_eve a g0) hC hw (40 + 3 * g0) (by omega) (xt_eve (i := g0) (by omega)) fg_X1_34 rfl (Nat.le_of_ble_eq_true rfl) rfl rfl dX1_takeFrom_73 (fun H locs hw => ?_)
  obtain ⟨σ8, eσ8, hF⟩ := rp_nm_e hF
  replace hw := rp_Wn eσ8 hw
  clear eσ8
  refine lv_aload_n (pc := 76) hx hb dX1_takeFrom_76 rfl (lv_at hl 1 rfl) ?_
  refine rp_get (pc := 77) hC hw (40 + 3 * g1) (by omega) ((xt_eve (i := g1) (by omega)) _) fl_X1_38 (.ref (a (40 + 3 * g1 + 2))) rfl dX1_takeFrom_77 ?_
  refine lv_iconst (pc := 80) (v := 0) hx hb dX1_takeFrom_80 (by decide) ?_
  refine lv_aload_n (pc := 81) hx hb dX1_takeFrom_81 rfl (lv_at hl 0 rfl) ?_
  refine rp_get (pc := 82) hC hw (40 + 3 * g0) (by omega) ((xt_eve (i := g0) (by omega)) _) fl_X1_38 (.ref (a (40 + 3 * g0 + 2))) rfl dX1_takeFrom_82 ?_
  refine lv_iconst (pc := 85) (v := 0) hx hb dX1_takeFrom_85 (by decide) ?_
  refine lv_bipush (pc := 86) (v := 20) hx hb dX1_takeFrom_86 (by decide) ?_
  obtain ⟨hg, hF⟩ := rp_gu_e hF
  refine rp_cpyi (pc := 88) hC hw hl.1 (40 + 3 * g1 + 2) (40 + 3 * g0 + 2) (by omega) (by omega) (xt_wait (i := g1) (by omega)) (xt_wait (i := g0) (by omega)) 0 rfl wd_602 wd_318 wd_317 wd_10 hg (by show 1 ≤ 2; omega) (Nat.le_trans (Nat.le_of_ble_eq_true rfl : _ ≤ 60) (by show 60 ≤ 60 * 2; omega)) dX1_takeFrom_88 (fun H locs hw => ?_)
  obtain ⟨σ9, eσ9, hF⟩ := rp_nm_e hF
  replace hw := rp_Wn eσ9 hw
  clear eσ9
  refine lv_aload_n (pc := 91) hx hb dX1_takeFrom_91 rfl (lv_at hl 0 rfl) ?_
  refine lv_aload_n (pc := 92) hx hb dX1_takeFrom_92 rfl (lv_at hl 1 rfl) ?_
  refine rp_get (pc := 93) hC hw (40 + 3 * g1) (by omega) ((xt_eve (i := g1) (by omega)) _) fl_X1_42 (.int (σ9 (40 + 3 * g1) 6)) rfl dX1_takeFrom_93 ?_
  refine rp_set (pc := 96) (fs := xb_eve a g0) hC hw (40 + 3 * g0) (by omega) (xt_eve (i := g0) (by omega)) fg_X1_42 rfl (Nat.le_of_ble_eq_true rfl) rfl rfl dX1_takeFrom_96 (fun H locs hw => ?_)
  obtain ⟨σ10, eσ10, hF⟩ := rp_nm_e hF
  replace hw := rp_Wn eσ10 hw
  clear eσ10
  refine lv_aload_n (pc := 99) hx hb dX1_takeFrom_99 rfl (lv_at hl 0 rfl) ?_
  refine lv_aload_n (pc := 100) hx hb dX1_takeFrom_100 rfl (lv_at hl 1 rfl) ?_
  refine rp_get (pc := 101) hC hw (40 + 3 * g1) (by omega) ((xt_eve (i := g1) (by omega)) _) fl_X1_45 (.int (σ10 (40 + 3 * g1) 7)) rfl dX1_takeFrom_101 ?_
  refine rp_set (pc := 104) (fs := xb_eve a g0) hC hw (40 + 3 * g0) (by omega) (xt_eve (i := g0) (by omega)) fg_X1_45 rfl (Nat.le_of_ble_eq_true rfl) rfl rfl dX1_takeFrom_104 (fun H locs hw => ?_)
  obtain ⟨σ11, eσ11, hF⟩ := rp_nm_e hF
  replace hw := rp_Wn eσ11 hw
  clear eσ11
  refine lv_aload_n (pc := 107) hx hb dX1_takeFrom_107 rfl (lv_at hl 0 rfl) ?_
  refine lv_aload_n (pc := 108) hx hb dX1_takeFrom_108 rfl (lv_at hl 1 rfl) ?_
  refine rp_get (pc := 109) hC hw (40 + 3 * g1) (by omega) ((xt_eve (i := g1) (by omega)) _) fl_X1_48 (.int (σ11 (40 + 3 * g1) 8)) rfl dX1_takeFrom_109 ?_
  refine rp_set (pc := 112) (fs := xb_eve a g0) hC hw (40 + 3 * g0) (by omega) (xt_eve (i := g0) (by omega)) fg_X1_48 rfl (Nat.le_of_ble_eq_true rfl) rfl rfl dX1_takeFrom_112 (fun H locs hw => ?_)
  obtain ⟨σ12, eσ12, hF⟩ := rp_nm_e hF
  replace hw := rp_Wn eσ12 hw
  clear eσ12
  exact rp_retv (pc := 115) hC hw hF dX1_takeFrom_115
theorem mX1_takeFrom {l : Launch} {D : va_G} {cI cB cS : ClassId} {a : Nat → Nat} (g0 : Nat) (h_g0 : g0 < 2) (g1 : Nat) (h_g1 : g1 < 2)  (σ : rp_St) (res : Int32 × rp_St) (hF : fX1_takeFrom g0 g1 σ = some res) : xM l D cI cB cS a yX1_takeFrom cX1_takeFrom 2 none 2 [.ref (a (40 + 3 * g0)), .ref (a (40 + 3 * g1))] σ (rp_Qv D a (xt cI cB cS a) 62 res) :=
  rp_entry (by decide) (Nat.le_of_ble_eq_true rfl) (fun p e s m below meth c ls hC hw hl => kX1_takeFrom_0 g0 h_g0 g1 h_g1 hC σ _ _ _ hF hw (lv_sub hl [0, 1] rfl))
def fX6_image (σ : rp_St) : Option (Int32 × rp_St) :=
  rp_bd (fX1_takeFrom 1 0 σ) (fun _ σ2 => rp_nm (rp_put σ2 54 2 ((σ2 54 2) + 1)) (fun σ3 => some ((σ3 54 2), σ3)))
set_option maxRecDepth 100000 in
set_option maxHeartbeats 4000000 in
theorem kX6_image_0 {p : Program} {l : Launch} {e : Env} {s : State} {m : MethodId} {args : Array Value} {below : List Frame} {meth : Method} {c : Code} {D : va_G} {cI cB cS : ClassId} {a : Nat → Nat} {res : Int32 × rp_St} (hC : xC p s m args meth c cX6_image 1 "RegretPegs" (some .int) D cI cB cS a) (σ : rp_St) (H : Heap) (locs : List Loc) (ls : Array Slot) (hF : fX6_image σ = some res) (hw : xW D cI cB cS a s σ H locs) (hl : lv_has ls 1 [(0, .ref (a 54))]) : W p l e (rp_rm 3) s m args below meth c H locs 0 0 (MQ below (rp_Qi D a (xt cI cB cS a) 62 res) args s 0 0 (rp_A a 62)) (F0 m 0 ls []) := by
  have hx := hC.1
  have hb := hC.2.1
  have hown := hC.2.2.2.1
  have hts := hC.2.2.2.2.1
  unfold fX6_image at hF
  refine lv_aload_n (pc := 0) hx hb dX6_image_0 rfl (lv_at hl 0 rfl) ?_
  refine rp_get (pc := 1) hC hw 54 (by decide) (xt_reg _) fl_X6_16 (.ref (a 43)) rfl dX6_image_1 ?_
  refine lv_aload_n (pc := 4) hx hb dX6_image_4 rfl (lv_at hl 0 rfl) ?_
  refine rp_get (pc := 5) hC hw 54 (by decide) (xt_reg _) fl_X6_10 (.ref (a 40)) rfl dX6_image_5 ?_
  obtain ⟨r1, σ2, hq, hF⟩ := rp_bd_e hF
  refine rp_kv (rp_runV (rest := []) hC (xE_ok _) hw hl.1 (mX1_takeFrom (l := l) 1 (by decide) 0 (by decide) σ _ hq) vw_X6_249 (by decide) ((xt_eve (i := 1) (by decide)) _) rfl rfl rfl (Nat.le_of_ble_eq_true rfl) (by decide) dX6_image_8) hw (fun H locs hw => ?_)
  clear hq
  refine lv_aload_n (pc := 11) hx hb dX6_image_11 rfl (lv_at hl 0 rfl) ?_
  refine lv_dup (pc := 12) hx hb dX6_image_12 rfl ?_
  refine rp_get (pc := 13) hC hw 54 (by decide) (xt_reg _) fl_X6_19 (.int (σ2 54 2)) rfl dX6_image_13 ?_
  refine lv_iconst (pc := 16) (v := 1) hx hb dX6_image_16 (by decide) ?_
  refine lv_iadd (pc := 17) hx hb dX6_image_17 ?_
  refine rp_set (pc := 18) (fs := xb_reg a) hC hw 54 (by decide) xt_reg fg_X6_19 rfl (Nat.le_of_ble_eq_true rfl) rfl rfl dX6_image_18 (fun H locs hw => ?_)
  obtain ⟨σ3, eσ3, hF⟩ := rp_nm_e hF
  replace hw := rp_Wn eσ3 hw
  clear eσ3
  refine lv_aload_n (pc := 21) hx hb dX6_image_21 rfl (lv_at hl 0 rfl) ?_
  refine rp_get (pc := 22) hC hw 54 (by decide) (xt_reg _) fl_X6_19 (.int (σ3 54 2)) rfl dX6_image_22 ?_
  exact rp_reti (pc := 25) hC hw hF dX6_image_25
theorem mX6_image {l : Launch} {D : va_G} {cI cB cS : ClassId} {a : Nat → Nat}  (σ : rp_St) (res : Int32 × rp_St) (hF : fX6_image σ = some res) : xM l D cI cB cS a yX6_image cX6_image 1 (some .int) 3 [.ref (a 54)] σ (rp_Qi D a (xt cI cB cS a) 62 res) :=
  rp_entry (by decide) (Nat.le_of_ble_eq_true rfl) (fun p e s m below meth c ls hC hw hl => kX6_image_0 hC σ _ _ _ hF hw (lv_sub hl [0] rfl))
def fX6_restore (σ : rp_St) : Option (Int32 × rp_St) :=
  (if (σ 54 2) = 0 then rp_bd (fX6_refuse 2 σ) (fun r3 σ4 => some (r3, σ4)) else rp_bd (fX1_takeFrom 0 1 σ) (fun _ σ2 => some ((σ2 40 7), σ2)))
set_option maxRecDepth 100000 in
set_option maxHeartbeats 4000000 in
theorem kX6_restore_0 {p : Program} {l : Launch} {e : Env} {s : State} {m : MethodId} {args : Array Value} {below : List Frame} {meth : Method} {c : Code} {D : va_G} {cI cB cS : ClassId} {a : Nat → Nat} {res : Int32 × rp_St} (hC : xC p s m args meth c cX6_restore 1 "RegretPegs" (some .int) D cI cB cS a) (σ : rp_St) (H : Heap) (locs : List Loc) (ls : Array Slot) (hF : fX6_restore σ = some res) (hw : xW D cI cB cS a s σ H locs) (hl : lv_has ls 1 [(0, .ref (a 54))]) : W p l e (rp_rm 3) s m args below meth c H locs 0 0 (MQ below (rp_Qi D a (xt cI cB cS a) 62 res) args s 0 0 (rp_A a 62)) (F0 m 0 ls []) := by
  have hx := hC.1
  have hb := hC.2.1
  have hown := hC.2.2.2.1
  have hts := hC.2.2.2.2.1
  unfold fX6_restore at hF
  refine lv_aload_n (pc := 0) hx hb dX6_restore_0 rfl (lv_at hl 0 rfl) ?_
  refine rp_get (pc := 1) hC hw 54 (by decide) (xt_reg _) fl_X6_19 (.int (σ 54 2)) rfl dX6_restore_1 ?_
  refine lv_if_ne (pc := 4) (tgt := 13) hx hb dX6_restore_4 (by decide) (fun hc => ?_) (fun hc => ?_)
  · replace hF := rp_if hc hF
    refine lv_aload_n (pc := 13) hx hb dX6_restore_13 rfl (lv_at hl 0 rfl) ?_
    refine rp_get (pc := 14) hC hw 54 (by decide) (xt_reg _) fl_X6_10 (.ref (a 40)) rfl dX6_restore_14 ?_
    refine lv_aload_n (pc := 17) hx hb dX6_restore_17 rfl (lv_at hl 0 rfl) ?_
    refine rp_get (pc := 18) hC hw 54 (by decide) (xt_reg _) fl_X6_16 (.ref (a 43)) rfl dX6_restore_18 ?_
    obtain ⟨r1, σ2, hq, hF⟩ := rp_bd_e hF
    refine rp_kv (rp_runV (rest := []) hC (xE_ok _) hw hl.1 (mX1_takeFrom (l := l) 0 (by decide) 1 (by decide) σ _ hq) vw_X6_249 (by decide) ((xt_eve (i := 0) (by decide)) _) rfl rfl rfl (Nat.le_of_ble_eq_true rfl) (by decide) dX6_restore_21) hw (fun H locs hw => ?_)
    clear hq
    refine lv_aload_n (pc := 24) hx hb dX6_restore_24 rfl (lv_at hl 0 rfl) ?_
    refine rp_get (pc := 25) hC hw 54 (by decide) (xt_reg _) fl_X6_10 (.ref (a 40)) rfl dX6_restore_25 ?_
    refine rp_get (pc := 28) hC hw 40 (by decide) ((xt_eve (i := 0) (by decide)) _) fl_X6_162 (.int (σ2 40 7)) rfl dX6_restore_28 ?_
    exact rp_reti (pc := 31) hC hw hF dX6_restore_31
  · replace hF := rp_it hc hF
    refine lv_aload_n (pc := 7) hx hb dX6_restore_7 rfl (lv_at hl 0 rfl) ?_
    refine lv_iconst (pc := 8) (v := 2) hx hb dX6_restore_8 (by decide) ?_
    obtain ⟨r3, σ4, hq, hF⟩ := rp_bd_e hF
    refine rp_ki (rp_runV (rest := []) hC (xE_ok _) hw hl.1 (mX6_refuse (l := l) 2 σ _ hq) vw_X6_66 (by decide) (xt_reg _) rfl rfl rfl (Nat.le_of_ble_eq_true rfl) (by decide) dX6_restore_9) hw (fun H locs hw => ?_)
    clear hq
    exact rp_reti (pc := 12) hC hw hF dX6_restore_12
theorem mX6_restore {l : Launch} {D : va_G} {cI cB cS : ClassId} {a : Nat → Nat}  (σ : rp_St) (res : Int32 × rp_St) (hF : fX6_restore σ = some res) : xM l D cI cB cS a yX6_restore cX6_restore 1 (some .int) 3 [.ref (a 54)] σ (rp_Qi D a (xt cI cB cS a) 62 res) :=
  rp_entry (by decide) (Nat.le_of_ble_eq_true rfl) (fun p e s m below meth c ls hC hw hl => kX6_restore_0 hC σ _ _ _ hF hw (lv_sub hl [0] rfl))
def fX6_tell (v1 : Int32) (σ : rp_St) : Option (Int32 × rp_St) :=
  (if (σ 40 6) < 20 then rp_gu (rp_in (σ 40 6) 20) (rp_nm (rp_put σ 42 ((σ 40 6) : Int32).toNatClampNeg v1) (fun σ1 => rp_nm (rp_put σ1 40 6 ((σ1 40 6) + 1)) (fun σ2 => some ((σ2 40 6), σ2)))) else rp_bd (fX6_refuse 4 σ) (fun r3 σ4 => some (r3, σ4)))
set_option maxRecDepth 100000 in
set_option maxHeartbeats 4000000 in
theorem kX6_tell_0 {p : Program} {l : Launch} {e : Env} {s : State} {m : MethodId} {args : Array Value} {below : List Frame} {meth : Method} {c : Code} {D : va_G} {cI cB cS : ClassId} {a : Nat → Nat} {res : Int32 × rp_St} (hC : xC p s m args meth c cX6_tell 2 "RegretPegs" (some .int) D cI cB cS a) (v1 : Int32) (σ : rp_St) (H : Heap) (locs : List Loc) (ls : Array Slot) (hF : fX6_tell v1 σ = some res) (hw : xW D cI cB cS a s σ H locs) (hl : lv_has ls 2 [(0, .ref (a 54)), (1, .int v1)]) : W p l e (rp_rm 2) s m args below meth c H locs 0 0 (MQ below (rp_Qi D a (xt cI cB cS a) 62 res) args s 0 0 (rp_A a 62)) (F0 m 0 ls []) := by
  have hx := hC.1
  have hb := hC.2.1
  have hown := hC.2.2.2.1
  have hts := hC.2.2.2.2.1
  unfold fX6_tell at hF
  refine lv_aload_n (pc := 0) hx hb dX6_tell_0 rfl (lv_at hl 0 rfl) ?_
  refine rp_get (pc := 1) hC hw 54 (by decide) (xt_reg _) fl_X6_10 (.ref (a 40)) rfl dX6_tell_1 ?_
  refine rp_get (pc := 4) hC hw 40 (by decide) ((xt_eve (i := 0) (by decide)) _) fl_X6_252 (.int (σ 40 6)) rfl dX6_tell_4 ?_
  refine lv_bipush (pc := 7) (v := 20) hx hb dX6_tell_7 (by decide) ?_
  refine lv_icmp_lt (pc := 9) (tgt := 18) hx hb dX6_tell_9 (by decide) (fun hc => ?_) (fun hc => ?_)
  · replace hF := rp_it hc hF
    refine lv_aload_n (pc := 18) hx hb dX6_tell_18 rfl (lv_at hl 0 rfl) ?_
    refine rp_get (pc := 19) hC hw 54 (by decide) (xt_reg _) fl_X6_10 (.ref (a 40)) rfl dX6_tell_19 ?_
    refine rp_get (pc := 22) hC hw 40 (by decide) ((xt_eve (i := 0) (by decide)) _) fl_X6_255 (.ref (a 42)) rfl dX6_tell_22 ?_
    refine lv_aload_n (pc := 25) hx hb dX6_tell_25 rfl (lv_at hl 0 rfl) ?_
    refine rp_get (pc := 26) hC hw 54 (by decide) (xt_reg _) fl_X6_10 (.ref (a 40)) rfl dX6_tell_26 ?_
    refine rp_get (pc := 29) hC hw 40 (by decide) ((xt_eve (i := 0) (by decide)) _) fl_X6_252 (.int (σ 40 6)) rfl dX6_tell_29 ?_
    refine lv_iload_n (pc := 32) hx hb dX6_tell_32 rfl (lv_at hl 1 rfl) ?_
    obtain ⟨hg, hF⟩ := rp_gu_e hF
    refine rp_ast (pc := 33) hC hw 42 (by decide) (xt_wait (i := 0) (by decide)) 0 rfl hg dX6_tell_33 (fun H locs hw => ?_)
    obtain ⟨σ1, eσ1, hF⟩ := rp_nm_e hF
    replace hw := rp_Wn eσ1 hw
    clear eσ1
    refine lv_aload_n (pc := 34) hx hb dX6_tell_34 rfl (lv_at hl 0 rfl) ?_
    refine rp_get (pc := 35) hC hw 54 (by decide) (xt_reg _) fl_X6_10 (.ref (a 40)) rfl dX6_tell_35 ?_
    refine lv_dup (pc := 38) hx hb dX6_tell_38 rfl ?_
    refine rp_get (pc := 39) hC hw 40 (by decide) ((xt_eve (i := 0) (by decide)) _) fl_X6_252 (.int (σ1 40 6)) rfl dX6_tell_39 ?_
    refine lv_iconst (pc := 42) (v := 1) hx hb dX6_tell_42 (by decide) ?_
    refine lv_iadd (pc := 43) hx hb dX6_tell_43 ?_
    refine rp_set (pc := 44) (fs := xb_eve a 0) hC hw 40 (by decide) (xt_eve (i := 0) (by decide)) fg_X6_252 rfl (Nat.le_of_ble_eq_true rfl) rfl rfl dX6_tell_44 (fun H locs hw => ?_)
    obtain ⟨σ2, eσ2, hF⟩ := rp_nm_e hF
    replace hw := rp_Wn eσ2 hw
    clear eσ2
    refine lv_aload_n (pc := 47) hx hb dX6_tell_47 rfl (lv_at hl 0 rfl) ?_
    refine rp_get (pc := 48) hC hw 54 (by decide) (xt_reg _) fl_X6_10 (.ref (a 40)) rfl dX6_tell_48 ?_
    refine rp_get (pc := 51) hC hw 40 (by decide) ((xt_eve (i := 0) (by decide)) _) fl_X6_252 (.int (σ2 40 6)) rfl dX6_tell_51 ?_
    exact rp_reti (pc := 54) hC hw hF dX6_tell_54
  · replace hF := rp_if hc hF
    refine lv_aload_n (pc := 12) hx hb dX6_tell_12 rfl (lv_at hl 0 rfl) ?_
    refine lv_iconst (pc := 13) (v := 4) hx hb dX6_tell_13 (by decide) ?_
    obtain ⟨r3, σ4, hq, hF⟩ := rp_bd_e hF
    refine rp_ki (rp_runV (rest := []) hC (xE_ok _) hw hl.1 (mX6_refuse (l := l) 4 σ _ hq) vw_X6_66 (by decide) (xt_reg _) rfl rfl rfl (Nat.le_of_ble_eq_true rfl) (by decide) dX6_tell_14) hw (fun H locs hw => ?_)
    clear hq
    exact rp_reti (pc := 17) hC hw hF dX6_tell_17
theorem mX6_tell {l : Launch} {D : va_G} {cI cB cS : ClassId} {a : Nat → Nat} (v1 : Int32) (σ : rp_St) (res : Int32 × rp_St) (hF : fX6_tell v1 σ = some res) : xM l D cI cB cS a yX6_tell cX6_tell 2 (some .int) 2 [.ref (a 54), .int v1] σ (rp_Qi D a (xt cI cB cS a) 62 res) :=
  rp_entry (by decide) (Nat.le_of_ble_eq_true rfl) (fun p e s m below meth c ls hC hw hl => kX6_tell_0 hC v1 σ _ _ _ hF hw (lv_sub hl [0, 1] rfl))
def fX6_check_32 (k32 : Int32 → Int32 → rp_St → Option (Int32 × rp_St)) (v1 : Int32) (v2 : Int32) (σ : rp_St) : Option (Int32 × rp_St) :=
  (if v1 ≤ v2 then some (0, σ) else rp_bd (fX0_passHours 2 1 1 σ) (fun _ σ2 => rp_bd (fX0_rueTogether 2 σ2) (fun r3 σ4 => rp_gu (rp_in v2 20) ((if r3 = (σ4 42 (v2 : Int32).toNatClampNeg) then rp_nm (v2 + 1) (fun x5 => k32 v1 x5 σ4) else some ((1 + v2), σ4))))))
set_option maxRecDepth 100000 in
set_option maxHeartbeats 4000000 in
theorem kX6_check_32 {p : Program} {l : Launch} {e : Env} {s : State} {m : MethodId} {args : Array Value} {below : List Frame} {meth : Method} {c : Code} {D : va_G} {cI cB cS : ClassId} {a : Nat → Nat} {res : Int32 × rp_St} (hC : xC p s m args meth c cX6_check 3 "RegretPegs" (some .int) D cI cB cS a) (k32 : Int32 → Int32 → rp_St → Option (Int32 × rp_St)) (hk32 : ∀ (v1 : Int32) (v2 : Int32) (σ : rp_St) (H : Heap) (locs : List Loc) (ls : Array Slot), k32 v1 v2 σ = some res → xW D cI cB cS a s σ H locs → lv_has ls 3 [(0, .ref (a 54)), (1, .int v1), (2, .int v2)] → W p l e (rp_rm 6) s m args below meth c H locs 0 0 (MQ below (rp_Qi D a (xt cI cB cS a) 62 res) args s 0 0 (rp_A a 62)) (F0 m 32 ls [])) (v1 : Int32) (v2 : Int32) (σ : rp_St) (H : Heap) (locs : List Loc) (ls : Array Slot) (hF : fX6_check_32 k32 v1 v2 σ = some res) (hw : xW D cI cB cS a s σ H locs) (hl : lv_has ls 3 [(0, .ref (a 54)), (1, .int v1), (2, .int v2)]) : W p l e (rp_rm 6) s m args below meth c H locs 0 0 (MQ below (rp_Qi D a (xt cI cB cS a) 62 res) args s 0 0 (rp_A a 62)) (F0 m 32 ls []) := by
  have hx := hC.1
  have hb := hC.2.1
  have hown := hC.2.2.2.1
  have hts := hC.2.2.2.2.1
  unfold fX6_check_32 at hF
  refine lv_iload_n (pc := 32) hx hb dX6_check_32 rfl (lv_at hl 2 rfl) ?_
  refine lv_iload_n (pc := 33) hx hb dX6_check_33 rfl (lv_at hl 1 rfl) ?_
  refine lv_icmp_ge (pc := 34) (tgt := 81) hx hb dX6_check_34 (by decide) (fun hc => ?_) (fun hc => ?_)
  · replace hF := rp_it hc hF
    refine lv_iconst (pc := 81) (v := 0) hx hb dX6_check_81 (by decide) ?_
    exact rp_reti (pc := 82) hC hw hF dX6_check_82
  · replace hF := rp_if hc hF
    refine lv_aload_n (pc := 37) hx hb dX6_check_37 rfl (lv_at hl 0 rfl) ?_
    refine rp_get (pc := 38) hC hw 54 (by decide) (xt_reg _) fl_X6_26 (.ref (a 14)) rfl dX6_check_38 ?_
    refine lv_iconst (pc := 41) (v := 1) hx hb dX6_check_41 (by decide) ?_
    refine lv_aload_n (pc := 42) hx hb dX6_check_42 rfl (lv_at hl 0 rfl) ?_
    refine rp_get (pc := 43) hC hw 54 (by decide) (xt_reg _) fl_X6_10 (.ref (a 40)) rfl dX6_check_43 ?_
    refine rp_get (pc := 46) hC hw 40 (by decide) ((xt_eve (i := 0) (by decide)) _) fl_X6_165 (.ref (a 31)) rfl dX6_check_46 ?_
    obtain ⟨r1, σ2, hq, hF⟩ := rp_bd_e hF
    refine rp_kv (rp_runV (rest := []) hC (xE_ok _) hw hl.1 (mX0_passHours (l := l) 2 (by decide) 1 (by decide) 1 σ _ hq) vw_X6_168 (by decide) ((xt_ball (b := 2) (by decide)) _) rfl rfl rfl (Nat.le_of_ble_eq_true rfl) (by decide) dX6_check_49) hw (fun H locs hw => ?_)
    clear hq
    refine lv_aload_n (pc := 52) hx hb dX6_check_52 rfl (lv_at hl 0 rfl) ?_
    refine rp_get (pc := 53) hC hw 54 (by decide) (xt_reg _) fl_X6_26 (.ref (a 14)) rfl dX6_check_53 ?_
    obtain ⟨r3, σ4, hq, hF⟩ := rp_bd_e hF
    refine rp_ki (rp_runV (rest := []) hC (xE_ok _) hw hl.1 (mX0_rueTogether (l := l) 2 (by decide) σ2 _ hq) vw_X6_172 (by decide) ((xt_ball (b := 2) (by decide)) _) rfl rfl rfl (Nat.le_of_ble_eq_true rfl) (by decide) dX6_check_56) hw (fun H locs hw => ?_)
    clear hq
    refine lv_aload_n (pc := 59) hx hb dX6_check_59 rfl (lv_at hl 0 rfl) ?_
    refine rp_get (pc := 60) hC hw 54 (by decide) (xt_reg _) fl_X6_10 (.ref (a 40)) rfl dX6_check_60 ?_
    refine rp_get (pc := 63) hC hw 40 (by decide) ((xt_eve (i := 0) (by decide)) _) fl_X6_255 (.ref (a 42)) rfl dX6_check_63 ?_
    refine lv_iload_n (pc := 66) hx hb dX6_check_66 rfl (lv_at hl 2 rfl) ?_
    obtain ⟨hg, hF⟩ := rp_gu_e hF
    refine rp_ald (pc := 67) hC hw 42 (by decide) (xt_wait (i := 0) (by decide)) 0 rfl hg dX6_check_67 ?_
    refine lv_icmp_eq (pc := 68) (tgt := 75) hx hb dX6_check_68 (by decide) (fun hc => ?_) (fun hc => ?_)
    · replace hF := rp_it hc hF
      obtain ⟨x5, ex5, hF⟩ := rp_nm_e hF
      refine lv_iinc (pc := 75) (v := x5) (lv' := [(2, .int x5), (0, .ref (a 54)), (1, .int v1)]) hx hb dX6_check_75 hl (k := 2) rfl (by rw [ex5]; rfl) (by decide) rfl (fun ls hl => ?_)
      refine lv_goto (pc := 78) (tgt := 32) hx hb dX6_check_78 (by decide) ?_
      exact hk32 v1 x5 σ4 _ _ _ hF hw (lv_sub hl [1, 2, 0] rfl)
    · replace hF := rp_if hc hF
      refine lv_iconst (pc := 71) (v := 1) hx hb dX6_check_71 (by decide) ?_
      refine lv_iload_n (pc := 72) hx hb dX6_check_72 rfl (lv_at hl 2 rfl) ?_
      refine lv_iadd (pc := 73) hx hb dX6_check_73 ?_
      exact rp_reti (pc := 74) hC hw hF dX6_check_74
theorem lX6_check_32 {p : Program} {l : Launch} {e : Env} {s : State} {m : MethodId} {args : Array Value} {below : List Frame} {meth : Method} {c : Code} {D : va_G} {cI cB cS : ClassId} {a : Nat → Nat} {res : Int32 × rp_St} (hC : xC p s m args meth c cX6_check 3 "RegretPegs" (some .int) D cI cB cS a) : ∀ (n : Nat) (v1 : Int32) (v2 : Int32) (σ : rp_St) (H : Heap) (locs : List Loc) (ls : Array Slot), rp_lp (fun _ _ _ => none) (fX6_check_32) n v1 v2 σ = some res → xW D cI cB cS a s σ H locs → lv_has ls 3 [(0, .ref (a 54)), (1, .int v1), (2, .int v2)] → W p l e (rp_rm 6) s m args below meth c H locs 0 0 (MQ below (rp_Qi D a (xt cI cB cS a) 62 res) args s 0 0 (rp_A a 62)) (F0 m 32 ls [])
  | 0, _, _, _, _, _, _, hF, _, _ => nomatch hF
  | n + 1, v1, v2, σ, H, locs, ls, hF, hw, hl => kX6_check_32 hC (rp_lp (fun _ _ _ => none) (fX6_check_32) n) (lX6_check_32 hC n) v1 v2 σ H locs ls hF hw hl
def fX6_check (σ : rp_St) : Option (Int32 × rp_St) :=
  rp_nm (σ 40 6) (fun x1 => rp_nm (rp_put σ 40 6 0) (fun σ2 => rp_bd (fX0_takeFrom 2 0 σ2) (fun _ σ4 => rp_lp (fun _ _ _ => none) (fX6_check_32) 300 x1 0 σ4)))
set_option maxRecDepth 100000 in
set_option maxHeartbeats 4000000 in
theorem kX6_check_0 {p : Program} {l : Launch} {e : Env} {s : State} {m : MethodId} {args : Array Value} {below : List Frame} {meth : Method} {c : Code} {D : va_G} {cI cB cS : ClassId} {a : Nat → Nat} {res : Int32 × rp_St} (hC : xC p s m args meth c cX6_check 3 "RegretPegs" (some .int) D cI cB cS a) (σ : rp_St) (H : Heap) (locs : List Loc) (ls : Array Slot) (hF : fX6_check σ = some res) (hw : xW D cI cB cS a s σ H locs) (hl : lv_has ls 3 [(0, .ref (a 54))]) : W p l e (rp_rm 6) s m args below meth c H locs 0 0 (MQ below (rp_Qi D a (xt cI cB cS a) 62 res) args s 0 0 (rp_A a 62)) (F0 m 0 ls []) := by
  have hx := hC.1
  have hb := hC.2.1
  have hown := hC.2.2.2.1
  have hts := hC.2.2.2.2.1
  unfold fX6_check at hF
  refine lv_aload_n (pc := 0) hx hb dX6_check_0 rfl (lv_at hl 0 rfl) ?_
  refine rp_get (pc := 1) hC hw 54 (by decide) (xt_reg _) fl_X6_10 (.ref (a 40)) rfl dX6_check_1 ?_
  refine rp_get (pc := 4) hC hw 40 (by decide) ((xt_eve (i := 0) (by decide)) _) fl_X6_252 (.int (σ 40 6)) rfl dX6_check_4 ?_
  obtain ⟨x1, ex1, hF⟩ := rp_nm_e hF
  refine rp_top ex1 ?_
  refine lv_istore_n (pc := 7) (lv' := [(1, .int x1), (0, .ref (a 54))]) hx hb dX6_check_7 rfl hl (by decide) rfl (fun ls hl => ?_)
  refine lv_aload_n (pc := 8) hx hb dX6_check_8 rfl (lv_at hl 1 rfl) ?_
  refine rp_get (pc := 9) hC hw 54 (by decide) (xt_reg _) fl_X6_10 (.ref (a 40)) rfl dX6_check_9 ?_
  refine lv_iconst (pc := 12) (v := 0) hx hb dX6_check_12 (by decide) ?_
  refine rp_set (pc := 13) (fs := xb_eve a 0) hC hw 40 (by decide) (xt_eve (i := 0) (by decide)) fg_X6_252 rfl (Nat.le_of_ble_eq_true rfl) rfl rfl dX6_check_13 (fun H locs hw => ?_)
  obtain ⟨σ2, eσ2, hF⟩ := rp_nm_e hF
  replace hw := rp_Wn eσ2 hw
  clear eσ2
  refine lv_aload_n (pc := 16) hx hb dX6_check_16 rfl (lv_at hl 1 rfl) ?_
  refine rp_get (pc := 17) hC hw 54 (by decide) (xt_reg _) fl_X6_26 (.ref (a 14)) rfl dX6_check_17 ?_
  refine lv_aload_n (pc := 20) hx hb dX6_check_20 rfl (lv_at hl 1 rfl) ?_
  refine rp_get (pc := 21) hC hw 54 (by decide) (xt_reg _) fl_X6_10 (.ref (a 40)) rfl dX6_check_21 ?_
  refine rp_get (pc := 24) hC hw 40 (by decide) ((xt_eve (i := 0) (by decide)) _) fl_X6_70 (.ref (a 0)) rfl dX6_check_24 ?_
  obtain ⟨r3, σ4, hq, hF⟩ := rp_bd_e hF
  refine rp_kv (rp_runV (rest := []) hC (xE_ok _) hw hl.1 (mX0_takeFrom (l := l) 2 (by decide) 0 (by decide) σ2 _ hq) vw_X6_179 (by decide) ((xt_ball (b := 2) (by decide)) _) rfl rfl rfl (Nat.le_of_ble_eq_true rfl) (by decide) dX6_check_27) hw (fun H locs hw => ?_)
  clear hq
  refine lv_iconst (pc := 30) (v := 0) hx hb dX6_check_30 (by decide) ?_
  refine lv_istore_n (pc := 31) (lv' := [(2, .int 0), (1, .int x1), (0, .ref (a 54))]) hx hb dX6_check_31 rfl hl (by decide) rfl (fun ls hl => ?_)
  exact lX6_check_32 hC 300 x1 0 σ4 _ _ _ hF hw (lv_sub hl [2, 1, 0] rfl)
theorem mX6_check {l : Launch} {D : va_G} {cI cB cS : ClassId} {a : Nat → Nat}  (σ : rp_St) (res : Int32 × rp_St) (hF : fX6_check σ = some res) : xM l D cI cB cS a yX6_check cX6_check 3 (some .int) 6 [.ref (a 54)] σ (rp_Qi D a (xt cI cB cS a) 62 res) :=
  rp_entry (by decide) (Nat.le_of_ble_eq_true rfl) (fun p e s m below meth c ls hC hw hl => kX6_check_0 hC σ _ _ _ hF hw (lv_sub hl [0] rfl))
def fX0_dancedTogether_4 (g0 : Nat) (k4 : Int32 → Int32 → rp_St → Option (Int32 × rp_St)) (v1 : Int32) (v2 : Int32) (σ : rp_St) : Option (Int32 × rp_St) :=
  (if (σ (7 * g0) 0) ≤ v2 then some (v1, σ) else rp_gu (rp_in v2 7) (rp_nm (v1 + (σ (7 * g0 + 4) (v2 : Int32).toNatClampNeg)) (fun x1 => rp_nm (v2 + 1) (fun x2 => k4 x1 x2 σ))))
set_option maxRecDepth 100000 in
set_option maxHeartbeats 4000000 in
theorem kX0_dancedTogether_4 {p : Program} {l : Launch} {e : Env} {s : State} {m : MethodId} {args : Array Value} {below : List Frame} {meth : Method} {c : Code} {D : va_G} {cI cB cS : ClassId} {a : Nat → Nat} {res : Int32 × rp_St} (g0 : Nat) (h_g0 : g0 < 4) (hC : xC p s m args meth c cX0_dancedTogether 3 "RegretPegs$Ball" (some .int) D cI cB cS a) (k4 : Int32 → Int32 → rp_St → Option (Int32 × rp_St)) (hk4 : ∀ (v1 : Int32) (v2 : Int32) (σ : rp_St) (H : Heap) (locs : List Loc) (ls : Array Slot), k4 v1 v2 σ = some res → xW D cI cB cS a s σ H locs → lv_has ls 3 [(0, .ref (a (7 * g0))), (1, .int v1), (2, .int v2)] → W p l e (rp_rm 1) s m args below meth c H locs 0 0 (MQ below (rp_Qi D a (xt cI cB cS a) 62 res) args s 0 0 (rp_A a 62)) (F0 m 4 ls [])) (v1 : Int32) (v2 : Int32) (σ : rp_St) (H : Heap) (locs : List Loc) (ls : Array Slot) (hF : fX0_dancedTogether_4 g0 k4 v1 v2 σ = some res) (hw : xW D cI cB cS a s σ H locs) (hl : lv_has ls 3 [(0, .ref (a (7 * g0))), (1, .int v1), (2, .int v2)]) : W p l e (rp_rm 1) s m args below meth c H locs 0 0 (MQ below (rp_Qi D a (xt cI cB cS a) 62 res) args s 0 0 (rp_A a 62)) (F0 m 4 ls []) := by
  have hx := hC.1
  have hb := hC.2.1
  have hown := hC.2.2.2.1
  have hts := hC.2.2.2.2.1
  unfold fX0_dancedTogether_4 at hF
  refine lv_iload_n (pc := 4) hx hb dX0_dancedTogether_4 rfl (lv_at hl 2 rfl) ?_
  refine lv_aload_n (pc := 5) hx hb dX0_dancedTogether_5 rfl (lv_at hl 0 rfl) ?_
  refine rp_get (pc := 6) hC hw (7 * g0) (by omega) ((xt_ball (b := g0) (by omega)) _) fl_X0_9 (.int (σ (7 * g0) 0)) rfl dX0_dancedTogether_6 ?_
  refine lv_icmp_ge (pc := 9) (tgt := 27) hx hb dX0_dancedTogether_9 (by decide) (fun hc => ?_) (fun hc => ?_)
  · replace hF := rp_it hc hF
    refine lv_iload_n (pc := 27) hx hb dX0_dancedTogether_27 rfl (lv_at hl 1 rfl) ?_
    exact rp_reti (pc := 28) hC hw hF dX0_dancedTogether_28
  · replace hF := rp_if hc hF
    refine lv_iload_n (pc := 12) hx hb dX0_dancedTogether_12 rfl (lv_at hl 1 rfl) ?_
    refine lv_aload_n (pc := 13) hx hb dX0_dancedTogether_13 rfl (lv_at hl 0 rfl) ?_
    refine rp_get (pc := 14) hC hw (7 * g0) (by omega) ((xt_ball (b := g0) (by omega)) _) fl_X0_25 (.ref (a (7 * g0 + 4))) rfl dX0_dancedTogether_14 ?_
    refine lv_iload_n (pc := 17) hx hb dX0_dancedTogether_17 rfl (lv_at hl 2 rfl) ?_
    obtain ⟨hg, hF⟩ := rp_gu_e hF
    refine rp_ald (pc := 18) hC hw (7 * g0 + 4) (by omega) (xt_bar (b := g0) (by omega) 4 ⟨by decide, by decide⟩) 0 rfl hg dX0_dancedTogether_18 ?_
    refine lv_iadd (pc := 19) hx hb dX0_dancedTogether_19 ?_
    obtain ⟨x1, ex1, hF⟩ := rp_nm_e hF
    refine rp_top ex1 ?_
    refine lv_istore_n (pc := 20) (lv' := [(1, .int x1), (0, .ref (a (7 * g0))), (2, .int v2)]) hx hb dX0_dancedTogether_20 rfl hl (by decide) rfl (fun ls hl => ?_)
    obtain ⟨x2, ex2, hF⟩ := rp_nm_e hF
    refine lv_iinc (pc := 21) (v := x2) (lv' := [(2, .int x2), (1, .int x1), (0, .ref (a (7 * g0)))]) hx hb dX0_dancedTogether_21 hl (k := 2) rfl (by rw [ex2]; rfl) (by decide) rfl (fun ls hl => ?_)
    refine lv_goto (pc := 24) (tgt := 4) hx hb dX0_dancedTogether_24 (by decide) ?_
    exact hk4 x1 x2 σ _ _ _ hF hw (lv_sub hl [2, 1, 0] rfl)
theorem lX0_dancedTogether_4 {p : Program} {l : Launch} {e : Env} {s : State} {m : MethodId} {args : Array Value} {below : List Frame} {meth : Method} {c : Code} {D : va_G} {cI cB cS : ClassId} {a : Nat → Nat} {res : Int32 × rp_St} (g0 : Nat) (h_g0 : g0 < 4) (hC : xC p s m args meth c cX0_dancedTogether 3 "RegretPegs$Ball" (some .int) D cI cB cS a) : ∀ (n : Nat) (v1 : Int32) (v2 : Int32) (σ : rp_St) (H : Heap) (locs : List Loc) (ls : Array Slot), rp_lp (fun _ _ _ => none) (fX0_dancedTogether_4 g0) n v1 v2 σ = some res → xW D cI cB cS a s σ H locs → lv_has ls 3 [(0, .ref (a (7 * g0))), (1, .int v1), (2, .int v2)] → W p l e (rp_rm 1) s m args below meth c H locs 0 0 (MQ below (rp_Qi D a (xt cI cB cS a) 62 res) args s 0 0 (rp_A a 62)) (F0 m 4 ls [])
  | 0, _, _, _, _, _, _, hF, _, _ => nomatch hF
  | n + 1, v1, v2, σ, H, locs, ls, hF, hw, hl => kX0_dancedTogether_4 g0 h_g0 hC (rp_lp (fun _ _ _ => none) (fX0_dancedTogether_4 g0) n) (lX0_dancedTogether_4 g0 h_g0 hC n) v1 v2 σ H locs ls hF hw hl
def fX0_dancedTogether (g0 : Nat) (σ : rp_St) : Option (Int32 × rp_St) :=
  rp_lp (fun _ _ _ => none) (fX0_dancedTogether_4 g0) 300 0 0 σ
set_option maxRecDepth 100000 in
set_option maxHeartbeats 4000000 in
theorem kX0_dancedTogether_0 {p : Program} {l : Launch} {e : Env} {s : State} {m : MethodId} {args : Array Value} {below : List Frame} {meth : Method} {c : Code} {D : va_G} {cI cB cS : ClassId} {a : Nat → Nat} {res : Int32 × rp_St} (g0 : Nat) (h_g0 : g0 < 4) (hC : xC p s m args meth c cX0_dancedTogether 3 "RegretPegs$Ball" (some .int) D cI cB cS a) (σ : rp_St) (H : Heap) (locs : List Loc) (ls : Array Slot) (hF : fX0_dancedTogether g0 σ = some res) (hw : xW D cI cB cS a s σ H locs) (hl : lv_has ls 3 [(0, .ref (a (7 * g0)))]) : W p l e (rp_rm 1) s m args below meth c H locs 0 0 (MQ below (rp_Qi D a (xt cI cB cS a) 62 res) args s 0 0 (rp_A a 62)) (F0 m 0 ls []) := by
  have hx := hC.1
  have hb := hC.2.1
  have hown := hC.2.2.2.1
  have hts := hC.2.2.2.2.1
  unfold fX0_dancedTogether at hF
  refine lv_iconst (pc := 0) (v := 0) hx hb dX0_dancedTogether_0 (by decide) ?_
  refine lv_istore_n (pc := 1) (lv' := [(1, .int 0), (0, .ref (a (7 * g0)))]) hx hb dX0_dancedTogether_1 rfl hl (by decide) rfl (fun ls hl => ?_)
  refine lv_iconst (pc := 2) (v := 0) hx hb dX0_dancedTogether_2 (by decide) ?_
  refine lv_istore_n (pc := 3) (lv' := [(2, .int 0), (1, .int 0), (0, .ref (a (7 * g0)))]) hx hb dX0_dancedTogether_3 rfl hl (by decide) rfl (fun ls hl => ?_)
  exact lX0_dancedTogether_4 g0 h_g0 hC 300 0 0 σ _ _ _ hF hw (lv_sub hl [2, 1, 0] rfl)
theorem mX0_dancedTogether {l : Launch} {D : va_G} {cI cB cS : ClassId} {a : Nat → Nat} (g0 : Nat) (h_g0 : g0 < 4)  (σ : rp_St) (res : Int32 × rp_St) (hF : fX0_dancedTogether g0 σ = some res) : xM l D cI cB cS a yX0_dancedTogether cX0_dancedTogether 3 (some .int) 1 [.ref (a (7 * g0))] σ (rp_Qi D a (xt cI cB cS a) 62 res) :=
  rp_entry (by decide) (Nat.le_of_ble_eq_true rfl) (fun p e s m below meth c ls hC hw hl => kX0_dancedTogether_0 g0 h_g0 hC σ _ _ _ hF hw (lv_sub hl [0] rfl))
def fX0_idleSet_4 (g0 : Nat) (k4 : Int32 → Int32 → rp_St → Option (Int32 × rp_St)) (v1 : Int32) (v2 : Int32) (σ : rp_St) : Option (Int32 × rp_St) :=
  (if (σ (7 * g0) 0) ≤ v2 then some (v1, σ) else rp_gu (rp_in v2 7) (rp_nm (v1 ||| ((σ (7 * g0 + 5) (v2 : Int32).toNatClampNeg) <<< (v2 &&& 31))) (fun x1 => rp_nm (v2 + 1) (fun x2 => k4 x1 x2 σ))))
set_option maxRecDepth 100000 in
set_option maxHeartbeats 4000000 in
theorem kX0_idleSet_4 {p : Program} {l : Launch} {e : Env} {s : State} {m : MethodId} {args : Array Value} {below : List Frame} {meth : Method} {c : Code} {D : va_G} {cI cB cS : ClassId} {a : Nat → Nat} {res : Int32 × rp_St} (g0 : Nat) (h_g0 : g0 < 4) (hC : xC p s m args meth c cX0_idleSet 3 "RegretPegs$Ball" (some .int) D cI cB cS a) (k4 : Int32 → Int32 → rp_St → Option (Int32 × rp_St)) (hk4 : ∀ (v1 : Int32) (v2 : Int32) (σ : rp_St) (H : Heap) (locs : List Loc) (ls : Array Slot), k4 v1 v2 σ = some res → xW D cI cB cS a s σ H locs → lv_has ls 3 [(0, .ref (a (7 * g0))), (1, .int v1), (2, .int v2)] → W p l e (rp_rm 1) s m args below meth c H locs 0 0 (MQ below (rp_Qi D a (xt cI cB cS a) 62 res) args s 0 0 (rp_A a 62)) (F0 m 4 ls [])) (v1 : Int32) (v2 : Int32) (σ : rp_St) (H : Heap) (locs : List Loc) (ls : Array Slot) (hF : fX0_idleSet_4 g0 k4 v1 v2 σ = some res) (hw : xW D cI cB cS a s σ H locs) (hl : lv_has ls 3 [(0, .ref (a (7 * g0))), (1, .int v1), (2, .int v2)]) : W p l e (rp_rm 1) s m args below meth c H locs 0 0 (MQ below (rp_Qi D a (xt cI cB cS a) 62 res) args s 0 0 (rp_A a 62)) (F0 m 4 ls []) := by
  have hx := hC.1
  have hb := hC.2.1
  have hown := hC.2.2.2.1
  have hts := hC.2.2.2.2.1
  unfold fX0_idleSet_4 at hF
  refine lv_iload_n (pc := 4) hx hb dX0_idleSet_4 rfl (lv_at hl 2 rfl) ?_
  refine lv_aload_n (pc := 5) hx hb dX0_idleSet_5 rfl (lv_at hl 0 rfl) ?_
  refine rp_get (pc := 6) hC hw (7 * g0) (by omega) ((xt_ball (b := g0) (by omega)) _) fl_X0_9 (.int (σ (7 * g0) 0)) rfl dX0_idleSet_6 ?_
  refine lv_icmp_ge (pc := 9) (tgt := 29) hx hb dX0_idleSet_9 (by decide) (fun hc => ?_) (fun hc => ?_)
  · replace hF := rp_it hc hF
    refine lv_iload_n (pc := 29) hx hb dX0_idleSet_29 rfl (lv_at hl 1 rfl) ?_
    exact rp_reti (pc := 30) hC hw hF dX0_idleSet_30
  · replace hF := rp_if hc hF
    refine lv_iload_n (pc := 12) hx hb dX0_idleSet_12 rfl (lv_at hl 1 rfl) ?_
    refine lv_aload_n (pc := 13) hx hb dX0_idleSet_13 rfl (lv_at hl 0 rfl) ?_
    refine rp_get (pc := 14) hC hw (7 * g0) (by omega) ((xt_ball (b := g0) (by omega)) _) fl_X0_28 (.ref (a (7 * g0 + 5))) rfl dX0_idleSet_14 ?_
    refine lv_iload_n (pc := 17) hx hb dX0_idleSet_17 rfl (lv_at hl 2 rfl) ?_
    obtain ⟨hg, hF⟩ := rp_gu_e hF
    refine rp_ald (pc := 18) hC hw (7 * g0 + 5) (by omega) (xt_bar (b := g0) (by omega) 5 ⟨by decide, by decide⟩) 0 rfl hg dX0_idleSet_18 ?_
    refine lv_iload_n (pc := 19) hx hb dX0_idleSet_19 rfl (lv_at hl 2 rfl) ?_
    refine lv_ishl (pc := 20) hx hb dX0_idleSet_20 ?_
    refine lv_ior (pc := 21) hx hb dX0_idleSet_21 ?_
    obtain ⟨x1, ex1, hF⟩ := rp_nm_e hF
    refine rp_top ex1 ?_
    refine lv_istore_n (pc := 22) (lv' := [(1, .int x1), (0, .ref (a (7 * g0))), (2, .int v2)]) hx hb dX0_idleSet_22 rfl hl (by decide) rfl (fun ls hl => ?_)
    obtain ⟨x2, ex2, hF⟩ := rp_nm_e hF
    refine lv_iinc (pc := 23) (v := x2) (lv' := [(2, .int x2), (1, .int x1), (0, .ref (a (7 * g0)))]) hx hb dX0_idleSet_23 hl (k := 2) rfl (by rw [ex2]; rfl) (by decide) rfl (fun ls hl => ?_)
    refine lv_goto (pc := 26) (tgt := 4) hx hb dX0_idleSet_26 (by decide) ?_
    exact hk4 x1 x2 σ _ _ _ hF hw (lv_sub hl [2, 1, 0] rfl)
theorem lX0_idleSet_4 {p : Program} {l : Launch} {e : Env} {s : State} {m : MethodId} {args : Array Value} {below : List Frame} {meth : Method} {c : Code} {D : va_G} {cI cB cS : ClassId} {a : Nat → Nat} {res : Int32 × rp_St} (g0 : Nat) (h_g0 : g0 < 4) (hC : xC p s m args meth c cX0_idleSet 3 "RegretPegs$Ball" (some .int) D cI cB cS a) : ∀ (n : Nat) (v1 : Int32) (v2 : Int32) (σ : rp_St) (H : Heap) (locs : List Loc) (ls : Array Slot), rp_lp (fun _ _ _ => none) (fX0_idleSet_4 g0) n v1 v2 σ = some res → xW D cI cB cS a s σ H locs → lv_has ls 3 [(0, .ref (a (7 * g0))), (1, .int v1), (2, .int v2)] → W p l e (rp_rm 1) s m args below meth c H locs 0 0 (MQ below (rp_Qi D a (xt cI cB cS a) 62 res) args s 0 0 (rp_A a 62)) (F0 m 4 ls [])
  | 0, _, _, _, _, _, _, hF, _, _ => nomatch hF
  | n + 1, v1, v2, σ, H, locs, ls, hF, hw, hl => kX0_idleSet_4 g0 h_g0 hC (rp_lp (fun _ _ _ => none) (fX0_idleSet_4 g0) n) (lX0_idleSet_4 g0 h_g0 hC n) v1 v2 σ H locs ls hF hw hl
def fX0_idleSet (g0 : Nat) (σ : rp_St) : Option (Int32 × rp_St) :=
  rp_lp (fun _ _ _ => none) (fX0_idleSet_4 g0) 300 0 0 σ
set_option maxRecDepth 100000 in
set_option maxHeartbeats 4000000 in
theorem kX0_idleSet_0 {p : Program} {l : Launch} {e : Env} {s : State} {m : MethodId} {args : Array Value} {below : List Frame} {meth : Method} {c : Code} {D : va_G} {cI cB cS : ClassId} {a : Nat → Nat} {res : Int32 × rp_St} (g0 : Nat) (h_g0 : g0 < 4) (hC : xC p s m args meth c cX0_idleSet 3 "RegretPegs$Ball" (some .int) D cI cB cS a) (σ : rp_St) (H : Heap) (locs : List Loc) (ls : Array Slot) (hF : fX0_idleSet g0 σ = some res) (hw : xW D cI cB cS a s σ H locs) (hl : lv_has ls 3 [(0, .ref (a (7 * g0)))]) : W p l e (rp_rm 1) s m args below meth c H locs 0 0 (MQ below (rp_Qi D a (xt cI cB cS a) 62 res) args s 0 0 (rp_A a 62)) (F0 m 0 ls []) := by
  have hx := hC.1
  have hb := hC.2.1
  have hown := hC.2.2.2.1
  have hts := hC.2.2.2.2.1
  unfold fX0_idleSet at hF
  refine lv_iconst (pc := 0) (v := 0) hx hb dX0_idleSet_0 (by decide) ?_
  refine lv_istore_n (pc := 1) (lv' := [(1, .int 0), (0, .ref (a (7 * g0)))]) hx hb dX0_idleSet_1 rfl hl (by decide) rfl (fun ls hl => ?_)
  refine lv_iconst (pc := 2) (v := 0) hx hb dX0_idleSet_2 (by decide) ?_
  refine lv_istore_n (pc := 3) (lv' := [(2, .int 0), (1, .int 0), (0, .ref (a (7 * g0)))]) hx hb dX0_idleSet_3 rfl hl (by decide) rfl (fun ls hl => ?_)
  exact lX0_idleSet_4 g0 h_g0 hC 300 0 0 σ _ _ _ hF hw (lv_sub hl [2, 1, 0] rfl)
theorem mX0_idleSet {l : Launch} {D : va_G} {cI cB cS : ClassId} {a : Nat → Nat} (g0 : Nat) (h_g0 : g0 < 4)  (σ : rp_St) (res : Int32 × rp_St) (hF : fX0_idleSet g0 σ = some res) : xM l D cI cB cS a yX0_idleSet cX0_idleSet 3 (some .int) 1 [.ref (a (7 * g0))] σ (rp_Qi D a (xt cI cB cS a) 62 res) :=
  rp_entry (by decide) (Nat.le_of_ble_eq_true rfl) (fun p e s m below meth c ls hC hw hl => kX0_idleSet_0 g0 h_g0 hC σ _ _ _ hF hw (lv_sub hl [0] rfl))
def fX6_count (v1 : Int32) (σ : rp_St) : Option (Int32 × rp_St) :=
  (if v1 = 0 then some ((σ 0 0), σ) else (if v1 = 1 then some ((σ 40 7), σ) else (if v1 = 2 then rp_bd (fX0_rueTogether 0 σ) (fun r1 σ2 => some (r1, σ2)) else (if v1 = 3 then rp_bd (fX0_dancedTogether 0 σ) (fun r3 σ4 => some (r3, σ4)) else (if v1 = 4 then rp_bd (fX0_idleSet 0 σ) (fun r5 σ6 => some (r5, σ6)) else (if v1 = 5 then rp_bd (fX0_lastGuest 0 σ) (fun r7 σ8 => some (r7, σ8)) else (if v1 = 6 then some ((σ 40 4), σ) else (if v1 = 7 then some ((σ 40 6), σ) else (if v1 = 8 then some ((σ 59 3), σ) else (if v1 = 9 then some ((σ 40 8), σ) else rp_bd (fX6_refuse 1 σ) (fun r9 σ10 => some (r9, σ10))))))))))))
set_option maxRecDepth 100000 in
set_option maxHeartbeats 4000000 in
theorem kX6_count_0 {p : Program} {l : Launch} {e : Env} {s : State} {m : MethodId} {args : Array Value} {below : List Frame} {meth : Method} {c : Code} {D : va_G} {cI cB cS : ClassId} {a : Nat → Nat} {res : Int32 × rp_St} (hC : xC p s m args meth c cX6_count 2 "RegretPegs" (some .int) D cI cB cS a) (v1 : Int32) (σ : rp_St) (H : Heap) (locs : List Loc) (ls : Array Slot) (hF : fX6_count v1 σ = some res) (hw : xW D cI cB cS a s σ H locs) (hl : lv_has ls 2 [(0, .ref (a 54)), (1, .int v1)]) : W p l e (rp_rm 2) s m args below meth c H locs 0 0 (MQ below (rp_Qi D a (xt cI cB cS a) 62 res) args s 0 0 (rp_A a 62)) (F0 m 0 ls []) := by
  have hx := hC.1
  have hb := hC.2.1
  have hown := hC.2.2.2.1
  have hts := hC.2.2.2.2.1
  unfold fX6_count at hF
  refine lv_iload_n (pc := 0) hx hb dX6_count_0 rfl (lv_at hl 1 rfl) ?_
  by_cases hs1_0 : v1 = 0
  · replace hF := rp_it hs1_0 hF
    refine lv_tableIn (pc := 1) (off := 55) (tgt := 56) hx hb dX6_count_1 (by rw [hs1_0]; decide) (by rw [hs1_0]; decide) (by rw [hs1_0]; decide +kernel) (by decide) ?_
    refine lv_aload_n (pc := 56) hx hb dX6_count_56 rfl (lv_at hl 0 rfl) ?_
    refine rp_get (pc := 57) hC hw 54 (by decide) (xt_reg _) fl_X6_10 (.ref (a 40)) rfl dX6_count_57 ?_
    refine rp_get (pc := 60) hC hw 40 (by decide) ((xt_eve (i := 0) (by decide)) _) fl_X6_70 (.ref (a 0)) rfl dX6_count_60 ?_
    refine rp_get (pc := 63) hC hw 0 (by decide) ((xt_ball (b := 0) (by decide)) _) fl_X6_73 (.int (σ 0 0)) rfl dX6_count_63 ?_
    exact rp_reti (pc := 66) hC hw hF dX6_count_66
  replace hF := rp_if hs1_0 hF
  by_cases hs1_1 : v1 = 1
  · replace hF := rp_it hs1_1 hF
    refine lv_tableIn (pc := 1) (off := 66) (tgt := 67) hx hb dX6_count_1 (by rw [hs1_1]; decide) (by rw [hs1_1]; decide) (by rw [hs1_1]; decide +kernel) (by decide) ?_
    refine lv_aload_n (pc := 67) hx hb dX6_count_67 rfl (lv_at hl 0 rfl) ?_
    refine rp_get (pc := 68) hC hw 54 (by decide) (xt_reg _) fl_X6_10 (.ref (a 40)) rfl dX6_count_68 ?_
    refine rp_get (pc := 71) hC hw 40 (by decide) ((xt_eve (i := 0) (by decide)) _) fl_X6_162 (.int (σ 40 7)) rfl dX6_count_71 ?_
    exact rp_reti (pc := 74) hC hw hF dX6_count_74
  replace hF := rp_if hs1_1 hF
  by_cases hs1_2 : v1 = 2
  · replace hF := rp_it hs1_2 hF
    refine lv_tableIn (pc := 1) (off := 74) (tgt := 75) hx hb dX6_count_1 (by rw [hs1_2]; decide) (by rw [hs1_2]; decide) (by rw [hs1_2]; decide +kernel) (by decide) ?_
    refine lv_aload_n (pc := 75) hx hb dX6_count_75 rfl (lv_at hl 0 rfl) ?_
    refine rp_get (pc := 76) hC hw 54 (by decide) (xt_reg _) fl_X6_10 (.ref (a 40)) rfl dX6_count_76 ?_
    refine rp_get (pc := 79) hC hw 40 (by decide) ((xt_eve (i := 0) (by decide)) _) fl_X6_70 (.ref (a 0)) rfl dX6_count_79 ?_
    obtain ⟨r1, σ2, hq, hF⟩ := rp_bd_e hF
    refine rp_ki (rp_runV (rest := []) hC (xE_ok _) hw hl.1 (mX0_rueTogether (l := l) 0 (by decide) σ _ hq) vw_X6_172 (by decide) ((xt_ball (b := 0) (by decide)) _) rfl rfl rfl (Nat.le_of_ble_eq_true rfl) (by decide) dX6_count_82) hw (fun H locs hw => ?_)
    clear hq
    exact rp_reti (pc := 85) hC hw hF dX6_count_85
  replace hF := rp_if hs1_2 hF
  by_cases hs1_3 : v1 = 3
  · replace hF := rp_it hs1_3 hF
    refine lv_tableIn (pc := 1) (off := 85) (tgt := 86) hx hb dX6_count_1 (by rw [hs1_3]; decide) (by rw [hs1_3]; decide) (by rw [hs1_3]; decide +kernel) (by decide) ?_
    refine lv_aload_n (pc := 86) hx hb dX6_count_86 rfl (lv_at hl 0 rfl) ?_
    refine rp_get (pc := 87) hC hw 54 (by decide) (xt_reg _) fl_X6_10 (.ref (a 40)) rfl dX6_count_87 ?_
    refine rp_get (pc := 90) hC hw 40 (by decide) ((xt_eve (i := 0) (by decide)) _) fl_X6_70 (.ref (a 0)) rfl dX6_count_90 ?_
    obtain ⟨r3, σ4, hq, hF⟩ := rp_bd_e hF
    refine rp_ki (rp_runV (rest := []) hC (xE_ok _) hw hl.1 (mX0_dancedTogether (l := l) 0 (by decide) σ _ hq) vw_X6_258 (by decide) ((xt_ball (b := 0) (by decide)) _) rfl rfl rfl (Nat.le_of_ble_eq_true rfl) (by decide) dX6_count_93) hw (fun H locs hw => ?_)
    clear hq
    exact rp_reti (pc := 96) hC hw hF dX6_count_96
  replace hF := rp_if hs1_3 hF
  by_cases hs1_4 : v1 = 4
  · replace hF := rp_it hs1_4 hF
    refine lv_tableIn (pc := 1) (off := 96) (tgt := 97) hx hb dX6_count_1 (by rw [hs1_4]; decide) (by rw [hs1_4]; decide) (by rw [hs1_4]; decide +kernel) (by decide) ?_
    refine lv_aload_n (pc := 97) hx hb dX6_count_97 rfl (lv_at hl 0 rfl) ?_
    refine rp_get (pc := 98) hC hw 54 (by decide) (xt_reg _) fl_X6_10 (.ref (a 40)) rfl dX6_count_98 ?_
    refine rp_get (pc := 101) hC hw 40 (by decide) ((xt_eve (i := 0) (by decide)) _) fl_X6_70 (.ref (a 0)) rfl dX6_count_101 ?_
    obtain ⟨r5, σ6, hq, hF⟩ := rp_bd_e hF
    refine rp_ki (rp_runV (rest := []) hC (xE_ok _) hw hl.1 (mX0_idleSet (l := l) 0 (by decide) σ _ hq) vw_X6_261 (by decide) ((xt_ball (b := 0) (by decide)) _) rfl rfl rfl (Nat.le_of_ble_eq_true rfl) (by decide) dX6_count_104) hw (fun H locs hw => ?_)
    clear hq
    exact rp_reti (pc := 107) hC hw hF dX6_count_107
  replace hF := rp_if hs1_4 hF
  by_cases hs1_5 : v1 = 5
  · replace hF := rp_it hs1_5 hF
    refine lv_tableIn (pc := 1) (off := 107) (tgt := 108) hx hb dX6_count_1 (by rw [hs1_5]; decide) (by rw [hs1_5]; decide) (by rw [hs1_5]; decide +kernel) (by decide) ?_
    refine lv_aload_n (pc := 108) hx hb dX6_count_108 rfl (lv_at hl 0 rfl) ?_
    refine rp_get (pc := 109) hC hw 54 (by decide) (xt_reg _) fl_X6_10 (.ref (a 40)) rfl dX6_count_109 ?_
    refine rp_get (pc := 112) hC hw 40 (by decide) ((xt_eve (i := 0) (by decide)) _) fl_X6_70 (.ref (a 0)) rfl dX6_count_112 ?_
    obtain ⟨r7, σ8, hq, hF⟩ := rp_bd_e hF
    refine rp_ki (rp_runV (rest := []) hC (xE_ok _) hw hl.1 (mX0_lastGuest (l := l) 0 (by decide) σ _ hq) vw_X6_183 (by decide) ((xt_ball (b := 0) (by decide)) _) rfl rfl rfl (Nat.le_of_ble_eq_true rfl) (by decide) dX6_count_115) hw (fun H locs hw => ?_)
    clear hq
    exact rp_reti (pc := 118) hC hw hF dX6_count_118
  replace hF := rp_if hs1_5 hF
  by_cases hs1_6 : v1 = 6
  · replace hF := rp_it hs1_6 hF
    refine lv_tableIn (pc := 1) (off := 118) (tgt := 119) hx hb dX6_count_1 (by rw [hs1_6]; decide) (by rw [hs1_6]; decide) (by rw [hs1_6]; decide +kernel) (by decide) ?_
    refine lv_aload_n (pc := 119) hx hb dX6_count_119 rfl (lv_at hl 0 rfl) ?_
    refine rp_get (pc := 120) hC hw 54 (by decide) (xt_reg _) fl_X6_10 (.ref (a 40)) rfl dX6_count_120 ?_
    refine rp_get (pc := 123) hC hw 40 (by decide) ((xt_eve (i := 0) (by decide)) _) fl_X6_122 (.int (σ 40 4)) rfl dX6_count_123 ?_
    exact rp_reti (pc := 126) hC hw hF dX6_count_126
  replace hF := rp_if hs1_6 hF
  by_cases hs1_7 : v1 = 7
  · replace hF := rp_it hs1_7 hF
    refine lv_tableIn (pc := 1) (off := 126) (tgt := 127) hx hb dX6_count_1 (by rw [hs1_7]; decide) (by rw [hs1_7]; decide) (by rw [hs1_7]; decide +kernel) (by decide) ?_
    refine lv_aload_n (pc := 127) hx hb dX6_count_127 rfl (lv_at hl 0 rfl) ?_
    refine rp_get (pc := 128) hC hw 54 (by decide) (xt_reg _) fl_X6_10 (.ref (a 40)) rfl dX6_count_128 ?_
    refine rp_get (pc := 131) hC hw 40 (by decide) ((xt_eve (i := 0) (by decide)) _) fl_X6_252 (.int (σ 40 6)) rfl dX6_count_131 ?_
    exact rp_reti (pc := 134) hC hw hF dX6_count_134
  replace hF := rp_if hs1_7 hF
  by_cases hs1_8 : v1 = 8
  · replace hF := rp_it hs1_8 hF
    refine lv_tableIn (pc := 1) (off := 134) (tgt := 135) hx hb dX6_count_1 (by rw [hs1_8]; decide) (by rw [hs1_8]; decide) (by rw [hs1_8]; decide +kernel) (by decide) ?_
    refine lv_aload_n (pc := 135) hx hb dX6_count_135 rfl (lv_at hl 0 rfl) ?_
    refine rp_get (pc := 136) hC hw 54 (by decide) (xt_reg _) fl_X6_43 (.ref (a 59)) rfl dX6_count_136 ?_
    refine rp_get (pc := 139) hC hw 59 (by decide) (xt_voices _) fl_X6_220 (.int (σ 59 3)) rfl dX6_count_139 ?_
    exact rp_reti (pc := 142) hC hw hF dX6_count_142
  replace hF := rp_if hs1_8 hF
  by_cases hs1_9 : v1 = 9
  · replace hF := rp_it hs1_9 hF
    refine lv_tableIn (pc := 1) (off := 142) (tgt := 143) hx hb dX6_count_1 (by rw [hs1_9]; decide) (by rw [hs1_9]; decide) (by rw [hs1_9]; decide +kernel) (by decide) ?_
    refine lv_aload_n (pc := 143) hx hb dX6_count_143 rfl (lv_at hl 0 rfl) ?_
    refine rp_get (pc := 144) hC hw 54 (by decide) (xt_reg _) fl_X6_10 (.ref (a 40)) rfl dX6_count_144 ?_
    refine rp_get (pc := 147) hC hw 40 (by decide) ((xt_eve (i := 0) (by decide)) _) fl_X6_213 (.int (σ 40 8)) rfl dX6_count_147 ?_
    exact rp_reti (pc := 150) hC hw hF dX6_count_150
  replace hF := rp_if hs1_9 hF
  refine lv_tableOut (pc := 1) (tgt := 151) hx hb dX6_count_1 (by have := rp_ne 0 0 (by decide) hs1_0; have := rp_ne 1 1 (by decide) hs1_1; have := rp_ne 2 2 (by decide) hs1_2; have := rp_ne 3 3 (by decide) hs1_3; have := rp_ne 4 4 (by decide) hs1_4; have := rp_ne 5 5 (by decide) hs1_5; have := rp_ne 6 6 (by decide) hs1_6; have := rp_ne 7 7 (by decide) hs1_7; have := rp_ne 8 8 (by decide) hs1_8; have := rp_ne 9 9 (by decide) hs1_9; omega) (by decide) ?_
  refine lv_aload_n (pc := 151) hx hb dX6_count_151 rfl (lv_at hl 0 rfl) ?_
  refine lv_iconst (pc := 152) (v := 1) hx hb dX6_count_152 (by decide) ?_
  obtain ⟨r9, σ10, hq, hF⟩ := rp_bd_e hF
  refine rp_ki (rp_runV (rest := []) hC (xE_ok _) hw hl.1 (mX6_refuse (l := l) 1 σ _ hq) vw_X6_66 (by decide) (xt_reg _) rfl rfl rfl (Nat.le_of_ble_eq_true rfl) (by decide) dX6_count_153) hw (fun H locs hw => ?_)
  clear hq
  exact rp_reti (pc := 156) hC hw hF dX6_count_156
theorem mX6_count {l : Launch} {D : va_G} {cI cB cS : ClassId} {a : Nat → Nat} (v1 : Int32) (σ : rp_St) (res : Int32 × rp_St) (hF : fX6_count v1 σ = some res) : xM l D cI cB cS a yX6_count cX6_count 2 (some .int) 2 [.ref (a 54), .int v1] σ (rp_Qi D a (xt cI cB cS a) 62 res) :=
  rp_entry (by decide) (Nat.le_of_ble_eq_true rfl) (fun p e s m below meth c ls hC hw hl => kX6_count_0 hC v1 σ _ _ _ hF hw (lv_sub hl [0, 1] rfl))
def fX6_told (v1 : Int32) (σ : rp_St) : Option (Int32 × rp_St) :=
  rp_bd (fX6_isWithin v1 1 5 σ) (fun r1 σ2 => (if r1 = 0 then rp_bd (fX6_refuse 1 σ2) (fun r3 σ4 => some (r3, σ4)) else rp_gu (rp_in v1 6) (some ((σ2 55 (v1 : Int32).toNatClampNeg), σ2))))
set_option maxRecDepth 100000 in
set_option maxHeartbeats 4000000 in
theorem kX6_told_0 {p : Program} {l : Launch} {e : Env} {s : State} {m : MethodId} {args : Array Value} {below : List Frame} {meth : Method} {c : Code} {D : va_G} {cI cB cS : ClassId} {a : Nat → Nat} {res : Int32 × rp_St} (hC : xC p s m args meth c cX6_told 2 "RegretPegs" (some .int) D cI cB cS a) (v1 : Int32) (σ : rp_St) (H : Heap) (locs : List Loc) (ls : Array Slot) (hF : fX6_told v1 σ = some res) (hw : xW D cI cB cS a s σ H locs) (hl : lv_has ls 2 [(0, .ref (a 54)), (1, .int v1)]) : W p l e (rp_rm 2) s m args below meth c H locs 0 0 (MQ below (rp_Qi D a (xt cI cB cS a) 62 res) args s 0 0 (rp_A a 62)) (F0 m 0 ls []) := by
  have hx := hC.1
  have hb := hC.2.1
  have hown := hC.2.2.2.1
  have hts := hC.2.2.2.2.1
  unfold fX6_told at hF
  refine lv_iload_n (pc := 0) hx hb dX6_told_0 rfl (lv_at hl 1 rfl) ?_
  refine lv_iconst (pc := 1) (v := 1) hx hb dX6_told_1 (by decide) ?_
  refine lv_iconst (pc := 2) (v := 5) hx hb dX6_told_2 (by decide) ?_
  obtain ⟨r1, σ2, hq, hF⟩ := rp_bd_e hF
  refine rp_ki (rp_runZ (rest := []) hC (xE_ok _) hw hl.1 (mX6_isWithin (l := l) v1 1 5 σ _ hq) zw_X6_62 rfl rfl (Nat.le_of_ble_eq_true rfl) (by decide) dX6_told_3) hw (fun H locs hw => ?_)
  clear hq
  refine lv_if_eq (pc := 6) (tgt := 18) hx hb dX6_told_6 (by decide) (fun hc => ?_) (fun hc => ?_)
  · replace hF := rp_it hc hF
    refine lv_aload_n (pc := 18) hx hb dX6_told_18 rfl (lv_at hl 0 rfl) ?_
    refine lv_iconst (pc := 19) (v := 1) hx hb dX6_told_19 (by decide) ?_
    obtain ⟨r3, σ4, hq, hF⟩ := rp_bd_e hF
    refine rp_ki (rp_runV (rest := []) hC (xE_ok _) hw hl.1 (mX6_refuse (l := l) 1 σ2 _ hq) vw_X6_66 (by decide) (xt_reg _) rfl rfl rfl (Nat.le_of_ble_eq_true rfl) (by decide) dX6_told_20) hw (fun H locs hw => ?_)
    clear hq
    exact rp_reti (pc := 23) hC hw hF dX6_told_23
  · replace hF := rp_if hc hF
    refine lv_aload_n (pc := 9) hx hb dX6_told_9 rfl (lv_at hl 0 rfl) ?_
    refine rp_get (pc := 10) hC hw 54 (by decide) (xt_reg _) fl_X6_54 (.ref (a 55)) rfl dX6_told_10 ?_
    refine lv_iload_n (pc := 13) hx hb dX6_told_13 rfl (lv_at hl 1 rfl) ?_
    obtain ⟨hg, hF⟩ := rp_gu_e hF
    refine rp_ald (pc := 14) hC hw 55 (by decide) xt_err 0 rfl hg dX6_told_14 ?_
    refine lv_goto (pc := 15) (tgt := 23) hx hb dX6_told_15 (by decide) ?_
    exact rp_reti (pc := 23) hC hw hF dX6_told_23
theorem mX6_told {l : Launch} {D : va_G} {cI cB cS : ClassId} {a : Nat → Nat} (v1 : Int32) (σ : rp_St) (res : Int32 × rp_St) (hF : fX6_told v1 σ = some res) : xM l D cI cB cS a yX6_told cX6_told 2 (some .int) 2 [.ref (a 54), .int v1] σ (rp_Qi D a (xt cI cB cS a) 62 res) :=
  rp_entry (by decide) (Nat.le_of_ble_eq_true rfl) (fun p e s m below meth c ls hC hw hl => kX6_told_0 hC v1 σ _ _ _ hF hw (lv_sub hl [0, 1] rfl))
