def fX6_odds_36 (σ : rp_St) : Option (Int32 × rp_St) :=
  rp_bd (fX6_refuse 1 σ) (fun r1 σ2 => some (r1, σ2))
set_option maxRecDepth 100000 in
set_option maxHeartbeats 4000000 in
theorem kX6_odds_36 {p : Program} {l : Launch} {e : Env} {s : State} {m : MethodId} {args : Array Value} {below : List Frame} {meth : Method} {c : Code} {D : va_G} {cI cB cS : ClassId} {a : Nat → Nat} {res : Int32 × rp_St} (hC : xC p s m args meth c cX6_odds 8 "RegretPegs" (some .int) D cI cB cS a) (σ : rp_St) (H : Heap) (locs : List Loc) (ls : Array Slot) (hF : fX6_odds_36 σ = some res) (hw : xW D cI cB cS a s σ H locs) (hl : lv_has ls 8 [(0, .ref (a 54))]) : W p l e (rp_rm 7) s m args below meth c H locs 0 0 (MQ below (rp_Qi D a (xt cI cB cS a) 62 res) args s 0 0 (rp_A a 62)) (F0 m 36 ls []) := by
  have hx := hC.1
  have hb := hC.2.1
  have hown := hC.2.2.2.1
  have hts := hC.2.2.2.2.1
  unfold fX6_odds_36 at hF
  refine lv_aload_n (pc := 36) hx hb dX6_odds_36 rfl (lv_at hl 0 rfl) ?_
  refine lv_iconst (pc := 37) (v := 1) hx hb dX6_odds_37 (by decide) ?_
  obtain ⟨r1, σ2, hq, hF⟩ := rp_bd_e hF
  refine rp_ki (rp_runV (rest := []) hC (xE_ok _) hw hl.1 (mX6_refuse (l := l) 1 σ _ hq) vw_X6_66 (by decide) (xt_reg _) rfl rfl rfl (Nat.le_of_ble_eq_true rfl) (by decide) dX6_odds_38) hw (fun H locs hw => ?_)
  clear hq
  exact rp_reti (pc := 41) hC hw hF dX6_odds_41
def fX6_odds_101 (k73 : Int32 → Int32 → Int32 → Int32 → Int32 → Int32 → Int32 → rp_St → Option (Int32 × rp_St)) (v1 : Int32) (v2 : Int32) (v3 : Int32) (v4 : Int32) (v5 : Int32) (v6 : Int32) (v7 : Int32) (σ : rp_St) : Option (Int32 × rp_St) :=
  rp_nm (v7 + 1) (fun x1 => k73 v1 v2 v3 v4 v5 v6 x1 σ)
set_option maxRecDepth 100000 in
set_option maxHeartbeats 4000000 in
theorem kX6_odds_101 {p : Program} {l : Launch} {e : Env} {s : State} {m : MethodId} {args : Array Value} {below : List Frame} {meth : Method} {c : Code} {D : va_G} {cI cB cS : ClassId} {a : Nat → Nat} {res : Int32 × rp_St} (hC : xC p s m args meth c cX6_odds 8 "RegretPegs" (some .int) D cI cB cS a) (k73 : Int32 → Int32 → Int32 → Int32 → Int32 → Int32 → Int32 → rp_St → Option (Int32 × rp_St)) (hk73 : ∀ (v1 : Int32) (v2 : Int32) (v3 : Int32) (v4 : Int32) (v5 : Int32) (v6 : Int32) (v7 : Int32) (σ : rp_St) (H : Heap) (locs : List Loc) (ls : Array Slot), k73 v1 v2 v3 v4 v5 v6 v7 σ = some res → xW D cI cB cS a s σ H locs → lv_has ls 8 [(0, .ref (a 54)), (1, .int v1), (2, .int v2), (3, .int v3), (4, .int v4), (5, .int v5), (6, .int v6), (7, .int v7)] → W p l e (rp_rm 7) s m args below meth c H locs 0 0 (MQ below (rp_Qi D a (xt cI cB cS a) 62 res) args s 0 0 (rp_A a 62)) (F0 m 73 ls [])) (v1 : Int32) (v2 : Int32) (v3 : Int32) (v4 : Int32) (v5 : Int32) (v6 : Int32) (v7 : Int32) (σ : rp_St) (H : Heap) (locs : List Loc) (ls : Array Slot) (hF : fX6_odds_101 k73 v1 v2 v3 v4 v5 v6 v7 σ = some res) (hw : xW D cI cB cS a s σ H locs) (hl : lv_has ls 8 [(0, .ref (a 54)), (1, .int v1), (2, .int v2), (3, .int v3), (4, .int v4), (5, .int v5), (6, .int v6), (7, .int v7)]) : W p l e (rp_rm 7) s m args below meth c H locs 0 0 (MQ below (rp_Qi D a (xt cI cB cS a) 62 res) args s 0 0 (rp_A a 62)) (F0 m 101 ls []) := by
  have hx := hC.1
  have hb := hC.2.1
  have hown := hC.2.2.2.1
  have hts := hC.2.2.2.2.1
  unfold fX6_odds_101 at hF
  obtain ⟨x1, ex1, hF⟩ := rp_nm_e hF
  refine lv_iinc (pc := 101) (v := x1) (lv' := [(7, .int x1), (0, .ref (a 54)), (1, .int v1), (2, .int v2), (3, .int v3), (4, .int v4), (5, .int v5), (6, .int v6)]) hx hb dX6_odds_101 hl (k := 7) rfl (by rw [ex1]; rfl) (by decide) rfl (fun ls hl => ?_)
  refine lv_goto (pc := 104) (tgt := 73) hx hb dX6_odds_104 (by decide) ?_
  exact hk73 v1 v2 v3 v4 v5 v6 x1 σ _ _ _ hF hw (lv_sub hl [1, 2, 3, 4, 5, 6, 7, 0] rfl)
def fX6_odds_73 (k73 : Int32 → Int32 → Int32 → Int32 → Int32 → Int32 → Int32 → rp_St → Option (Int32 × rp_St)) (v1 : Int32) (v2 : Int32) (v3 : Int32) (v4 : Int32) (v5 : Int32) (v6 : Int32) (v7 : Int32) (σ : rp_St) : Option (Int32 × rp_St) :=
  (if v5 < v7 then rp_bd (fX6_greatestCommon v6 v5 σ) (fun r1 σ2 => (if v4 = 0 then rp_gu (rp_nz0 r1) (some ((v6 / r1), σ2)) else rp_gu (rp_nz0 r1) (some ((v5 / r1), σ2)))) else (if v7 = v1 then fX6_odds_101 k73 v1 v2 v3 v4 v5 v6 v7 σ else rp_bd (fX6_pegHavingDanced v1 v7 v3 σ) (fun r3 σ4 => (if v2 < r3 then fX6_odds_101 k73 v1 v2 v3 v4 v5 v6 v7 σ4 else rp_nm (v6 + 1) (fun x5 => fX6_odds_101 k73 v1 v2 v3 v4 v5 x5 v7 σ4)))))
set_option maxRecDepth 100000 in
set_option maxHeartbeats 4000000 in
theorem kX6_odds_73 {p : Program} {l : Launch} {e : Env} {s : State} {m : MethodId} {args : Array Value} {below : List Frame} {meth : Method} {c : Code} {D : va_G} {cI cB cS : ClassId} {a : Nat → Nat} {res : Int32 × rp_St} (hC : xC p s m args meth c cX6_odds 8 "RegretPegs" (some .int) D cI cB cS a) (k73 : Int32 → Int32 → Int32 → Int32 → Int32 → Int32 → Int32 → rp_St → Option (Int32 × rp_St)) (hk73 : ∀ (v1 : Int32) (v2 : Int32) (v3 : Int32) (v4 : Int32) (v5 : Int32) (v6 : Int32) (v7 : Int32) (σ : rp_St) (H : Heap) (locs : List Loc) (ls : Array Slot), k73 v1 v2 v3 v4 v5 v6 v7 σ = some res → xW D cI cB cS a s σ H locs → lv_has ls 8 [(0, .ref (a 54)), (1, .int v1), (2, .int v2), (3, .int v3), (4, .int v4), (5, .int v5), (6, .int v6), (7, .int v7)] → W p l e (rp_rm 7) s m args below meth c H locs 0 0 (MQ below (rp_Qi D a (xt cI cB cS a) 62 res) args s 0 0 (rp_A a 62)) (F0 m 73 ls [])) (v1 : Int32) (v2 : Int32) (v3 : Int32) (v4 : Int32) (v5 : Int32) (v6 : Int32) (v7 : Int32) (σ : rp_St) (H : Heap) (locs : List Loc) (ls : Array Slot) (hF : fX6_odds_73 k73 v1 v2 v3 v4 v5 v6 v7 σ = some res) (hw : xW D cI cB cS a s σ H locs) (hl : lv_has ls 8 [(0, .ref (a 54)), (1, .int v1), (2, .int v2), (3, .int v3), (4, .int v4), (5, .int v5), (6, .int v6), (7, .int v7)]) : W p l e (rp_rm 7) s m args below meth c H locs 0 0 (MQ below (rp_Qi D a (xt cI cB cS a) 62 res) args s 0 0 (rp_A a 62)) (F0 m 73 ls []) := by
  have hx := hC.1
  have hb := hC.2.1
  have hown := hC.2.2.2.1
  have hts := hC.2.2.2.2.1
  unfold fX6_odds_73 at hF
  refine lv_iload (pc := 73) hx hb dX6_odds_73 (lv_at hl 7 rfl) ?_
  refine lv_iload (pc := 75) hx hb dX6_odds_75 (lv_at hl 5 rfl) ?_
  refine lv_icmp_gt (pc := 77) (tgt := 107) hx hb dX6_odds_77 (by decide) (fun hc => ?_) (fun hc => ?_)
  · replace hF := rp_it hc hF
    refine lv_iload (pc := 107) hx hb dX6_odds_107 (lv_at hl 6 rfl) ?_
    refine lv_iload (pc := 109) hx hb dX6_odds_109 (lv_at hl 5 rfl) ?_
    obtain ⟨r1, σ2, hq, hF⟩ := rp_bd_e hF
    refine rp_ki (rp_runZ (rest := []) hC (xE_ok _) hw hl.1 (mX6_greatestCommon (l := l) v6 v5 σ _ hq) zw_X6_210 rfl rfl (Nat.le_of_ble_eq_true rfl) (by decide) dX6_odds_111) hw (fun H locs hw => ?_)
    clear hq
    refine lv_istore (pc := 114) (lv' := [(7, .int r1), (0, .ref (a 54)), (1, .int v1), (2, .int v2), (3, .int v3), (4, .int v4), (5, .int v5), (6, .int v6)]) hx hb dX6_odds_114 hl (by decide) rfl (fun ls hl => ?_)
    refine lv_iload (pc := 116) hx hb dX6_odds_116 (lv_at hl 5 rfl) ?_
    refine lv_if_ne (pc := 118) (tgt := 129) hx hb dX6_odds_118 (by decide) (fun hc => ?_) (fun hc => ?_)
    · replace hF := rp_if hc hF
      refine lv_iload (pc := 129) hx hb dX6_odds_129 (lv_at hl 6 rfl) ?_
      refine lv_iload (pc := 131) hx hb dX6_odds_131 (lv_at hl 0 rfl) ?_
      obtain ⟨hg, hF⟩ := rp_gu_e hF
      refine lv_idiv (pc := 133) hx hb dX6_odds_133 (rp_nz0_e hg) ?_
      exact rp_reti (pc := 134) hC hw hF dX6_odds_134
    · replace hF := rp_it hc hF
      refine lv_iload (pc := 121) hx hb dX6_odds_121 (lv_at hl 7 rfl) ?_
      refine lv_iload (pc := 123) hx hb dX6_odds_123 (lv_at hl 0 rfl) ?_
      obtain ⟨hg, hF⟩ := rp_gu_e hF
      refine lv_idiv (pc := 125) hx hb dX6_odds_125 (rp_nz0_e hg) ?_
      refine lv_goto (pc := 126) (tgt := 134) hx hb dX6_odds_126 (by decide) ?_
      exact rp_reti (pc := 134) hC hw hF dX6_odds_134
  · replace hF := rp_if hc hF
    refine lv_iload (pc := 80) hx hb dX6_odds_80 (lv_at hl 7 rfl) ?_
    refine lv_iload_n (pc := 82) hx hb dX6_odds_82 rfl (lv_at hl 1 rfl) ?_
    refine lv_icmp_eq (pc := 83) (tgt := 101) hx hb dX6_odds_83 (by decide) (fun hc => ?_) (fun hc => ?_)
    · replace hF := rp_it hc hF
      exact kX6_odds_101 hC k73 hk73 v1 v2 v3 v4 v5 v6 v7 σ _ _ _ hF hw (lv_sub hl [0, 1, 2, 3, 4, 5, 6, 7] rfl)
    · replace hF := rp_if hc hF
      refine lv_aload_n (pc := 86) hx hb dX6_odds_86 rfl (lv_at hl 0 rfl) ?_
      refine lv_iload_n (pc := 87) hx hb dX6_odds_87 rfl (lv_at hl 1 rfl) ?_
      refine lv_iload (pc := 88) hx hb dX6_odds_88 (lv_at hl 7 rfl) ?_
      refine lv_iload_n (pc := 90) hx hb dX6_odds_90 rfl (lv_at hl 3 rfl) ?_
      obtain ⟨r3, σ4, hq, hF⟩ := rp_bd_e hF
      refine rp_ki (rp_runV (rest := []) hC (xE_ok _) hw hl.1 (mX6_pegHavingDanced (l := l) v1 v7 v3 σ _ hq) vw_X6_186 (by decide) (xt_reg _) rfl rfl rfl (Nat.le_of_ble_eq_true rfl) (by decide) dX6_odds_91) hw (fun H locs hw => ?_)
      clear hq
      refine lv_iload_n (pc := 94) hx hb dX6_odds_94 rfl (lv_at hl 2 rfl) ?_
      refine lv_icmp_gt (pc := 95) (tgt := 101) hx hb dX6_odds_95 (by decide) (fun hc => ?_) (fun hc => ?_)
      · replace hF := rp_it hc hF
        exact kX6_odds_101 hC k73 hk73 v1 v2 v3 v4 v5 v6 v7 σ4 _ _ _ hF hw (lv_sub hl [0, 1, 2, 3, 4, 5, 6, 7] rfl)
      · replace hF := rp_if hc hF
        obtain ⟨x5, ex5, hF⟩ := rp_nm_e hF
        refine lv_iinc (pc := 98) (v := x5) (lv' := [(6, .int x5), (0, .ref (a 54)), (1, .int v1), (2, .int v2), (3, .int v3), (4, .int v4), (5, .int v5), (7, .int v7)]) hx hb dX6_odds_98 hl (k := 6) rfl (by rw [ex5]; rfl) (by decide) rfl (fun ls hl => ?_)
        exact kX6_odds_101 hC k73 hk73 v1 v2 v3 v4 v5 x5 v7 σ4 _ _ _ hF hw (lv_sub hl [1, 2, 3, 4, 5, 6, 0, 7] rfl)
theorem lX6_odds_73 {p : Program} {l : Launch} {e : Env} {s : State} {m : MethodId} {args : Array Value} {below : List Frame} {meth : Method} {c : Code} {D : va_G} {cI cB cS : ClassId} {a : Nat → Nat} {res : Int32 × rp_St} (hC : xC p s m args meth c cX6_odds 8 "RegretPegs" (some .int) D cI cB cS a) : ∀ (n : Nat) (v1 : Int32) (v2 : Int32) (v3 : Int32) (v4 : Int32) (v5 : Int32) (v6 : Int32) (v7 : Int32) (σ : rp_St) (H : Heap) (locs : List Loc) (ls : Array Slot), rp_lp (fun _ _ _ _ _ _ _ _ => none) (fX6_odds_73) n v1 v2 v3 v4 v5 v6 v7 σ = some res → xW D cI cB cS a s σ H locs → lv_has ls 8 [(0, .ref (a 54)), (1, .int v1), (2, .int v2), (3, .int v3), (4, .int v4), (5, .int v5), (6, .int v6), (7, .int v7)] → W p l e (rp_rm 7) s m args below meth c H locs 0 0 (MQ below (rp_Qi D a (xt cI cB cS a) 62 res) args s 0 0 (rp_A a 62)) (F0 m 73 ls [])
  | 0, _, _, _, _, _, _, _, _, _, _, _, hF, _, _ => nomatch hF
  | n + 1, v1, v2, v3, v4, v5, v6, v7, σ, H, locs, ls, hF, hw, hl => kX6_odds_73 hC (rp_lp (fun _ _ _ _ _ _ _ _ => none) (fX6_odds_73) n) (lX6_odds_73 hC n) v1 v2 v3 v4 v5 v6 v7 σ H locs ls hF hw hl
def fX6_odds (v1 : Int32) (v2 : Int32) (v3 : Int32) (v4 : Int32) (σ : rp_St) : Option (Int32 × rp_St) :=
  rp_bd (fX6_isGuest v1 σ) (fun r1 σ2 => (if r1 = 0 then fX6_odds_36 σ2 else rp_bd (fX6_isPeg v2 σ2) (fun r3 σ4 => (if r3 = 0 then fX6_odds_36 σ4 else rp_bd (fX6_isWithin v3 0 60 σ4) (fun r5 σ6 => (if r5 = 0 then fX6_odds_36 σ6 else rp_bd (fX6_isWithin v4 0 1 σ6) (fun r7 σ8 => (if r7 = 0 then fX6_odds_36 σ8 else rp_nm ((σ8 0 0) - 1) (fun x9 => (if x9 = 0 then rp_bd (fX6_refuse 2 σ8) (fun r10 σ11 => some (r10, σ11)) else rp_lp (fun _ _ _ _ _ _ _ _ => none) (fX6_odds_73) 300 v1 v2 v3 v4 x9 0 0 σ8))))))))))
set_option maxRecDepth 100000 in
set_option maxHeartbeats 4000000 in
theorem kX6_odds_0 {p : Program} {l : Launch} {e : Env} {s : State} {m : MethodId} {args : Array Value} {below : List Frame} {meth : Method} {c : Code} {D : va_G} {cI cB cS : ClassId} {a : Nat → Nat} {res : Int32 × rp_St} (hC : xC p s m args meth c cX6_odds 8 "RegretPegs" (some .int) D cI cB cS a) (v1 : Int32) (v2 : Int32) (v3 : Int32) (v4 : Int32) (σ : rp_St) (H : Heap) (locs : List Loc) (ls : Array Slot) (hF : fX6_odds v1 v2 v3 v4 σ = some res) (hw : xW D cI cB cS a s σ H locs) (hl : lv_has ls 8 [(0, .ref (a 54)), (1, .int v1), (2, .int v2), (3, .int v3), (4, .int v4)]) : W p l e (rp_rm 7) s m args below meth c H locs 0 0 (MQ below (rp_Qi D a (xt cI cB cS a) 62 res) args s 0 0 (rp_A a 62)) (F0 m 0 ls []) := by
  have hx := hC.1
  have hb := hC.2.1
  have hown := hC.2.2.2.1
  have hts := hC.2.2.2.2.1
  unfold fX6_odds at hF
  refine lv_aload_n (pc := 0) hx hb dX6_odds_0 rfl (lv_at hl 0 rfl) ?_
  refine lv_iload_n (pc := 1) hx hb dX6_odds_1 rfl (lv_at hl 1 rfl) ?_
  obtain ⟨r1, σ2, hq, hF⟩ := rp_bd_e hF
  refine rp_ki (rp_runV (rest := []) hC (xE_ok _) hw hl.1 (mX6_isGuest (l := l) v1 σ _ hq) vw_X6_80 (by decide) (xt_reg _) rfl rfl rfl (Nat.le_of_ble_eq_true rfl) (by decide) dX6_odds_2) hw (fun H locs hw => ?_)
  clear hq
  refine lv_if_eq (pc := 5) (tgt := 36) hx hb dX6_odds_5 (by decide) (fun hc => ?_) (fun hc => ?_)
  · replace hF := rp_it hc hF
    exact kX6_odds_36 hC σ2 _ _ _ hF hw (lv_sub hl [0] rfl)
  · replace hF := rp_if hc hF
    refine lv_aload_n (pc := 8) hx hb dX6_odds_8 rfl (lv_at hl 0 rfl) ?_
    refine lv_iload_n (pc := 9) hx hb dX6_odds_9 rfl (lv_at hl 2 rfl) ?_
    obtain ⟨r3, σ4, hq, hF⟩ := rp_bd_e hF
    refine rp_ki (rp_runV (rest := []) hC (xE_ok _) hw hl.1 (mX6_isPeg (l := l) v2 σ2 _ hq) vw_X6_108 (by decide) (xt_reg _) rfl rfl rfl (Nat.le_of_ble_eq_true rfl) (by decide) dX6_odds_10) hw (fun H locs hw => ?_)
    clear hq
    refine lv_if_eq (pc := 13) (tgt := 36) hx hb dX6_odds_13 (by decide) (fun hc => ?_) (fun hc => ?_)
    · replace hF := rp_it hc hF
      exact kX6_odds_36 hC σ4 _ _ _ hF hw (lv_sub hl [0] rfl)
    · replace hF := rp_if hc hF
      refine lv_iload_n (pc := 16) hx hb dX6_odds_16 rfl (lv_at hl 3 rfl) ?_
      refine lv_iconst (pc := 17) (v := 0) hx hb dX6_odds_17 (by decide) ?_
      refine lv_bipush (pc := 18) (v := 60) hx hb dX6_odds_18 (by decide) ?_
      obtain ⟨r5, σ6, hq, hF⟩ := rp_bd_e hF
      refine rp_ki (rp_runZ (rest := []) hC (xE_ok _) hw hl.1 (mX6_isWithin (l := l) v3 0 60 σ4 _ hq) zw_X6_62 rfl rfl (Nat.le_of_ble_eq_true rfl) (by decide) dX6_odds_20) hw (fun H locs hw => ?_)
      clear hq
      refine lv_if_eq (pc := 23) (tgt := 36) hx hb dX6_odds_23 (by decide) (fun hc => ?_) (fun hc => ?_)
      · replace hF := rp_it hc hF
        exact kX6_odds_36 hC σ6 _ _ _ hF hw (lv_sub hl [0] rfl)
      · replace hF := rp_if hc hF
        refine lv_iload (pc := 26) hx hb dX6_odds_26 (lv_at hl 4 rfl) ?_
        refine lv_iconst (pc := 28) (v := 0) hx hb dX6_odds_28 (by decide) ?_
        refine lv_iconst (pc := 29) (v := 1) hx hb dX6_odds_29 (by decide) ?_
        obtain ⟨r7, σ8, hq, hF⟩ := rp_bd_e hF
        refine rp_ki (rp_runZ (rest := []) hC (xE_ok _) hw hl.1 (mX6_isWithin (l := l) v4 0 1 σ6 _ hq) zw_X6_62 rfl rfl (Nat.le_of_ble_eq_true rfl) (by decide) dX6_odds_30) hw (fun H locs hw => ?_)
        clear hq
        refine lv_if_ne (pc := 33) (tgt := 42) hx hb dX6_odds_33 (by decide) (fun hc => ?_) (fun hc => ?_)
        · replace hF := rp_if hc hF
          refine lv_aload_n (pc := 42) hx hb dX6_odds_42 rfl (lv_at hl 0 rfl) ?_
          refine rp_get (pc := 43) hC hw 54 (by decide) (xt_reg _) fl_X6_10 (.ref (a 40)) rfl dX6_odds_43 ?_
          refine rp_get (pc := 46) hC hw 40 (by decide) ((xt_eve (i := 0) (by decide)) _) fl_X6_70 (.ref (a 0)) rfl dX6_odds_46 ?_
          refine rp_get (pc := 49) hC hw 0 (by decide) ((xt_ball (b := 0) (by decide)) _) fl_X6_73 (.int (σ8 0 0)) rfl dX6_odds_49 ?_
          refine lv_iconst (pc := 52) (v := 1) hx hb dX6_odds_52 (by decide) ?_
          refine lv_isub (pc := 53) hx hb dX6_odds_53 ?_
          obtain ⟨x9, ex9, hF⟩ := rp_nm_e hF
          refine rp_top ex9 ?_
          refine lv_istore (pc := 54) (lv' := [(5, .int x9), (0, .ref (a 54)), (1, .int v1), (2, .int v2), (3, .int v3), (4, .int v4)]) hx hb dX6_odds_54 hl (by decide) rfl (fun ls hl => ?_)
          refine lv_iload (pc := 56) hx hb dX6_odds_56 (lv_at hl 0 rfl) ?_
          refine lv_if_ne (pc := 58) (tgt := 67) hx hb dX6_odds_58 (by decide) (fun hc => ?_) (fun hc => ?_)
          · replace hF := rp_if hc hF
            refine lv_iconst (pc := 67) (v := 0) hx hb dX6_odds_67 (by decide) ?_
            refine lv_istore (pc := 68) (lv' := [(6, .int 0), (5, .int x9), (0, .ref (a 54)), (1, .int v1), (2, .int v2), (3, .int v3), (4, .int v4)]) hx hb dX6_odds_68 hl (by decide) rfl (fun ls hl => ?_)
            refine lv_iconst (pc := 70) (v := 0) hx hb dX6_odds_70 (by decide) ?_
            refine lv_istore (pc := 71) (lv' := [(7, .int 0), (6, .int 0), (5, .int x9), (0, .ref (a 54)), (1, .int v1), (2, .int v2), (3, .int v3), (4, .int v4)]) hx hb dX6_odds_71 hl (by decide) rfl (fun ls hl => ?_)
            exact lX6_odds_73 hC 300 v1 v2 v3 v4 x9 0 0 σ8 _ _ _ hF hw (lv_sub hl [3, 4, 5, 6, 7, 2, 1, 0] rfl)
          · replace hF := rp_it hc hF
            refine lv_aload_n (pc := 61) hx hb dX6_odds_61 rfl (lv_at hl 1 rfl) ?_
            refine lv_iconst (pc := 62) (v := 2) hx hb dX6_odds_62 (by decide) ?_
            obtain ⟨r10, σ11, hq, hF⟩ := rp_bd_e hF
            refine rp_ki (rp_runV (rest := []) hC (xE_ok _) hw hl.1 (mX6_refuse (l := l) 2 σ8 _ hq) vw_X6_66 (by decide) (xt_reg _) rfl rfl rfl (Nat.le_of_ble_eq_true rfl) (by decide) dX6_odds_63) hw (fun H locs hw => ?_)
            clear hq
            exact rp_reti (pc := 66) hC hw hF dX6_odds_66
        · replace hF := rp_it hc hF
          exact kX6_odds_36 hC σ8 _ _ _ hF hw (lv_sub hl [0] rfl)
theorem mX6_odds {l : Launch} {D : va_G} {cI cB cS : ClassId} {a : Nat → Nat} (v1 : Int32) (v2 : Int32) (v3 : Int32) (v4 : Int32) (σ : rp_St) (res : Int32 × rp_St) (hF : fX6_odds v1 v2 v3 v4 σ = some res) : xM l D cI cB cS a yX6_odds cX6_odds 8 (some .int) 7 [.ref (a 54), .int v1, .int v2, .int v3, .int v4] σ (rp_Qi D a (xt cI cB cS a) 62 res) :=
  rp_entry (by decide) (Nat.le_of_ble_eq_true rfl) (fun p e s m below meth c ls hC hw hl => kX6_odds_0 hC v1 v2 v3 v4 σ _ _ _ hF hw (lv_sub hl [0, 1, 2, 3, 4] rfl))
def fX6_seed (v1 : Int32) (σ : rp_St) : Option (Int32 × rp_St) :=
  rp_nm (σ 40 8) (fun x1 => rp_nm (rp_put σ 40 8 v1) (fun σ2 => some (x1, σ2)))
set_option maxRecDepth 100000 in
set_option maxHeartbeats 4000000 in
theorem kX6_seed_0 {p : Program} {l : Launch} {e : Env} {s : State} {m : MethodId} {args : Array Value} {below : List Frame} {meth : Method} {c : Code} {D : va_G} {cI cB cS : ClassId} {a : Nat → Nat} {res : Int32 × rp_St} (hC : xC p s m args meth c cX6_seed 3 "RegretPegs" (some .int) D cI cB cS a) (v1 : Int32) (σ : rp_St) (H : Heap) (locs : List Loc) (ls : Array Slot) (hF : fX6_seed v1 σ = some res) (hw : xW D cI cB cS a s σ H locs) (hl : lv_has ls 3 [(0, .ref (a 54)), (1, .int v1)]) : W p l e (rp_rm 1) s m args below meth c H locs 0 0 (MQ below (rp_Qi D a (xt cI cB cS a) 62 res) args s 0 0 (rp_A a 62)) (F0 m 0 ls []) := by
  have hx := hC.1
  have hb := hC.2.1
  have hown := hC.2.2.2.1
  have hts := hC.2.2.2.2.1
  unfold fX6_seed at hF
  refine lv_aload_n (pc := 0) hx hb dX6_seed_0 rfl (lv_at hl 0 rfl) ?_
  refine rp_get (pc := 1) hC hw 54 (by decide) (xt_reg _) fl_X6_10 (.ref (a 40)) rfl dX6_seed_1 ?_
  refine rp_get (pc := 4) hC hw 40 (by decide) ((xt_eve (i := 0) (by decide)) _) fl_X6_213 (.int (σ 40 8)) rfl dX6_seed_4 ?_
  obtain ⟨x1, ex1, hF⟩ := rp_nm_e hF
  refine rp_top ex1 ?_
  refine lv_istore_n (pc := 7) (lv' := [(2, .int x1), (0, .ref (a 54)), (1, .int v1)]) hx hb dX6_seed_7 rfl hl (by decide) rfl (fun ls hl => ?_)
  refine lv_aload_n (pc := 8) hx hb dX6_seed_8 rfl (lv_at hl 1 rfl) ?_
  refine rp_get (pc := 9) hC hw 54 (by decide) (xt_reg _) fl_X6_10 (.ref (a 40)) rfl dX6_seed_9 ?_
  refine lv_iload_n (pc := 12) hx hb dX6_seed_12 rfl (lv_at hl 2 rfl) ?_
  refine rp_set (pc := 13) (fs := xb_eve a 0) hC hw 40 (by decide) (xt_eve (i := 0) (by decide)) fg_X6_213 rfl (Nat.le_of_ble_eq_true rfl) rfl rfl dX6_seed_13 (fun H locs hw => ?_)
  obtain ⟨σ2, eσ2, hF⟩ := rp_nm_e hF
  replace hw := rp_Wn eσ2 hw
  clear eσ2
  refine lv_iload_n (pc := 16) hx hb dX6_seed_16 rfl (lv_at hl 0 rfl) ?_
  exact rp_reti (pc := 17) hC hw hF dX6_seed_17
theorem mX6_seed {l : Launch} {D : va_G} {cI cB cS : ClassId} {a : Nat → Nat} (v1 : Int32) (σ : rp_St) (res : Int32 × rp_St) (hF : fX6_seed v1 σ = some res) : xM l D cI cB cS a yX6_seed cX6_seed 3 (some .int) 1 [.ref (a 54), .int v1] σ (rp_Qi D a (xt cI cB cS a) 62 res) :=
  rp_entry (by decide) (Nat.le_of_ble_eq_true rfl) (fun p e s m below meth c ls hC hw hl => kX6_seed_0 hC v1 σ _ _ _ hF hw (lv_sub hl [0, 1] rfl))
def fX5_note (v1 : Int32) (σ : rp_St) : Option (Int32 × rp_St) :=
  (if 40 ≤ (σ 59 3) then some (0, σ) else rp_gu (rp_in (σ 59 3) 40) (rp_nm (rp_put σ 60 ((σ 59 3) : Int32).toNatClampNeg v1) (fun σ1 => rp_nm (rp_put σ1 59 3 ((σ1 59 3) + 1)) (fun σ2 => some (0, σ2)))))
set_option maxRecDepth 100000 in
set_option maxHeartbeats 4000000 in
theorem kX5_note_0 {p : Program} {l : Launch} {e : Env} {s : State} {m : MethodId} {args : Array Value} {below : List Frame} {meth : Method} {c : Code} {D : va_G} {cI cB cS : ClassId} {a : Nat → Nat} {res : Int32 × rp_St} (hC : xC p s m args meth c cX5_note 2 "RegretPegs$Voices" none D cI cB cS a) (v1 : Int32) (σ : rp_St) (H : Heap) (locs : List Loc) (ls : Array Slot) (hF : fX5_note v1 σ = some res) (hw : xW D cI cB cS a s σ H locs) (hl : lv_has ls 2 [(0, .ref (a 59)), (1, .int v1)]) : W p l e (rp_rm 1) s m args below meth c H locs 0 0 (MQ below (rp_Qv D a (xt cI cB cS a) 62 res) args s 0 0 (rp_A a 62)) (F0 m 0 ls []) := by
  have hx := hC.1
  have hb := hC.2.1
  have hown := hC.2.2.2.1
  have hts := hC.2.2.2.2.1
  unfold fX5_note at hF
  refine lv_aload_n (pc := 0) hx hb dX5_note_0 rfl (lv_at hl 0 rfl) ?_
  refine rp_get (pc := 1) hC hw 59 (by decide) (xt_voices _) fl_X5_21 (.int (σ 59 3)) rfl dX5_note_1 ?_
  refine lv_bipush (pc := 4) (v := 40) hx hb dX5_note_4 (by decide) ?_
  refine lv_icmp_ge (pc := 6) (tgt := 29) hx hb dX5_note_6 (by decide) (fun hc => ?_) (fun hc => ?_)
  · replace hF := rp_it hc hF
    exact rp_retv (pc := 29) hC hw hF dX5_note_29
  · replace hF := rp_if hc hF
    refine lv_aload_n (pc := 9) hx hb dX5_note_9 rfl (lv_at hl 0 rfl) ?_
    refine rp_get (pc := 10) hC hw 59 (by decide) (xt_voices _) fl_X5_24 (.ref (a 60)) rfl dX5_note_10 ?_
    refine lv_aload_n (pc := 13) hx hb dX5_note_13 rfl (lv_at hl 0 rfl) ?_
    refine rp_get (pc := 14) hC hw 59 (by decide) (xt_voices _) fl_X5_21 (.int (σ 59 3)) rfl dX5_note_14 ?_
    refine lv_iload_n (pc := 17) hx hb dX5_note_17 rfl (lv_at hl 1 rfl) ?_
    obtain ⟨hg, hF⟩ := rp_gu_e hF
    refine rp_ast (pc := 18) hC hw 60 (by decide) xt_bodies 0 rfl hg dX5_note_18 (fun H locs hw => ?_)
    obtain ⟨σ1, eσ1, hF⟩ := rp_nm_e hF
    replace hw := rp_Wn eσ1 hw
    clear eσ1
    refine lv_aload_n (pc := 19) hx hb dX5_note_19 rfl (lv_at hl 0 rfl) ?_
    refine lv_dup (pc := 20) hx hb dX5_note_20 rfl ?_
    refine rp_get (pc := 21) hC hw 59 (by decide) (xt_voices _) fl_X5_21 (.int (σ1 59 3)) rfl dX5_note_21 ?_
    refine lv_iconst (pc := 24) (v := 1) hx hb dX5_note_24 (by decide) ?_
    refine lv_iadd (pc := 25) hx hb dX5_note_25 ?_
    refine rp_set (pc := 26) (fs := xb_voices a) hC hw 59 (by decide) xt_voices fg_X5_21 rfl (Nat.le_of_ble_eq_true rfl) rfl rfl dX5_note_26 (fun H locs hw => ?_)
    obtain ⟨σ2, eσ2, hF⟩ := rp_nm_e hF
    replace hw := rp_Wn eσ2 hw
    clear eσ2
    exact rp_retv (pc := 29) hC hw hF dX5_note_29
theorem mX5_note {l : Launch} {D : va_G} {cI cB cS : ClassId} {a : Nat → Nat} (v1 : Int32) (σ : rp_St) (res : Int32 × rp_St) (hF : fX5_note v1 σ = some res) : xM l D cI cB cS a yX5_note cX5_note 2 none 1 [.ref (a 59), .int v1] σ (rp_Qv D a (xt cI cB cS a) 62 res) :=
  rp_entry (by decide) (Nat.le_of_ble_eq_true rfl) (fun p e s m below meth c ls hC hw hl => kX5_note_0 hC v1 σ _ _ _ hF hw (lv_sub hl [0, 1] rfl))
def fX5_speak_15 (rc0 : Int32 → Int32 → Int32 → Int32 → rp_St → Option (Int32 × rp_St)) (rc1 : Int32 → Int32 → Int32 → Int32 → rp_St → Option (Int32 × rp_St)) (k15 : Int32 → Int32 → Int32 → Int32 → Int32 → rp_St → Option (Int32 × rp_St)) (v2 : Int32) (v3 : Int32) (v4 : Int32) (v5 : Int32) (v6 : Int32) (σ : rp_St) : Option (Int32 × rp_St) :=
  (if 7 ≤ v6 then some (0, σ) else (if v5 < 0 then some (0, σ) else rp_gu (rp_in ((4 * v5) + v2) 28) (rp_nm (xBo (((4 * v5) + v2) : Int32).toNatClampNeg) (fun x2 => (if x2 = 0 then rp_gu (rp_in v5 7) (rp_nm (xAb (v5 : Int32).toNatClampNeg) (fun x4 => rp_nm (v6 + 1) (fun x5 => k15 v2 v3 v4 x4 x5 σ))) else rp_bd (fX5_note x2 σ) (fun _ σ7 => rp_gu (rp_in v5 7) (rp_bd (rc1 x2 (xAb (v5 : Int32).toNatClampNeg) v3 (v4 + 1) σ7) (fun r9 σ10 => some (r9, σ10)))))))))
set_option maxRecDepth 100000 in
set_option maxHeartbeats 4000000 in
theorem kX5_speak_15 {p : Program} {l : Launch} {e : Env} {s : State} {m : MethodId} {args : Array Value} {below : List Frame} {meth : Method} {c : Code} {D : va_G} {cI cB cS : ClassId} {a : Nat → Nat} {res : Int32 × rp_St} (dd : Nat) (rc0 : Int32 → Int32 → Int32 → Int32 → rp_St → Option (Int32 × rp_St)) (hrc0 : ∀ (v1 : Int32) (v2 : Int32) (v3 : Int32) (v4 : Int32) (σ : rp_St) (res : Int32 × rp_St), rc0 v1 v2 v3 v4 σ = some res → xM l D cI cB cS a yX5_speak cX5_speak 8 (some .int) (1 + dd) [.ref (a 59), .int v1, .int v2, .int v3, .int v4] σ (rp_Qi D a (xt cI cB cS a) 62 res)) (rc1 : Int32 → Int32 → Int32 → Int32 → rp_St → Option (Int32 × rp_St)) (hrc1 : ∀ (v1 : Int32) (v2 : Int32) (v3 : Int32) (v4 : Int32) (σ : rp_St) (res : Int32 × rp_St), rc1 v1 v2 v3 v4 σ = some res → xM l D cI cB cS a yX5_answer cX5_answer 5 (some .int) (1 + dd) [.ref (a 59), .int v1, .int v2, .int v3, .int v4] σ (rp_Qi D a (xt cI cB cS a) 62 res)) (hC : xC p s m args meth c cX5_speak 8 "RegretPegs$Voices" (some .int) D cI cB cS a) (k15 : Int32 → Int32 → Int32 → Int32 → Int32 → rp_St → Option (Int32 × rp_St)) (hk15 : ∀ (v2 : Int32) (v3 : Int32) (v4 : Int32) (v5 : Int32) (v6 : Int32) (σ : rp_St) (H : Heap) (locs : List Loc) (ls : Array Slot), k15 v2 v3 v4 v5 v6 σ = some res → xW D cI cB cS a s σ H locs → lv_has ls 8 [(0, .ref (a 59)), (2, .int v2), (3, .int v3), (4, .int v4), (5, .int v5), (6, .int v6)] → W p l e (rp_rm (1 + (dd + 1))) s m args below meth c H locs 0 0 (MQ below (rp_Qi D a (xt cI cB cS a) 62 res) args s 0 0 (rp_A a 62)) (F0 m 15 ls [])) (v2 : Int32) (v3 : Int32) (v4 : Int32) (v5 : Int32) (v6 : Int32) (σ : rp_St) (H : Heap) (locs : List Loc) (ls : Array Slot) (hF : fX5_speak_15 rc0 rc1 k15 v2 v3 v4 v5 v6 σ = some res) (hw : xW D cI cB cS a s σ H locs) (hl : lv_has ls 8 [(0, .ref (a 59)), (2, .int v2), (3, .int v3), (4, .int v4), (5, .int v5), (6, .int v6)]) : W p l e (rp_rm (1 + (dd + 1))) s m args below meth c H locs 0 0 (MQ below (rp_Qi D a (xt cI cB cS a) 62 res) args s 0 0 (rp_A a 62)) (F0 m 15 ls []) := by
  have hx := hC.1
  have hb := hC.2.1
  have hown := hC.2.2.2.1
  have hts := hC.2.2.2.2.1
  unfold fX5_speak_15 at hF
  refine lv_iload (pc := 15) hx hb dX5_speak_15 (lv_at hl 5 rfl) ?_
  refine lv_bipush (pc := 17) (v := 7) hx hb dX5_speak_17 (by decide) ?_
  refine lv_icmp_ge (pc := 19) (tgt := 82) hx hb dX5_speak_19 (by decide) (fun hc => ?_) (fun hc => ?_)
  · replace hF := rp_it hc hF
    refine lv_iconst (pc := 82) (v := 0) hx hb dX5_speak_82 (by decide) ?_
    exact rp_reti (pc := 83) hC hw hF dX5_speak_83
  · replace hF := rp_if hc hF
    refine lv_iload (pc := 22) hx hb dX5_speak_22 (lv_at hl 4 rfl) ?_
    refine lv_if_lt (pc := 24) (tgt := 82) hx hb dX5_speak_24 (by decide) (fun hc => ?_) (fun hc => ?_)
    · replace hF := rp_it hc hF
      refine lv_iconst (pc := 82) (v := 0) hx hb dX5_speak_82 (by decide) ?_
      exact rp_reti (pc := 83) hC hw hF dX5_speak_83
    · replace hF := rp_if hc hF
      refine xs_bodiesN (pc := 27) hC hw dX5_speak_27 (fun tb1 htb1 => ?_)
      refine lv_iconst (pc := 30) (v := 4) hx hb dX5_speak_30 (by decide) ?_
      refine lv_iload (pc := 31) hx hb dX5_speak_31 (lv_at hl 4 rfl) ?_
      refine lv_imul (pc := 33) hx hb dX5_speak_33 ?_
      refine lv_iload_n (pc := 34) hx hb dX5_speak_34 rfl (lv_at hl 1 rfl) ?_
      refine lv_iadd (pc := 35) hx hb dX5_speak_35 ?_
      obtain ⟨hg, hF⟩ := rp_gu_e hF
      refine xs_tab (pc := 36) hC hw htb1 hg dX5_speak_36 ?_
      obtain ⟨x2, ex2, hF⟩ := rp_nm_e hF
      refine rp_top ex2 ?_
      refine lv_istore (pc := 37) (lv' := [(7, .int x2), (0, .ref (a 59)), (2, .int v2), (3, .int v3), (4, .int v4), (5, .int v5), (6, .int v6)]) hx hb dX5_speak_37 hl (by decide) rfl (fun ls hl => ?_)
      refine lv_iload (pc := 39) hx hb dX5_speak_39 (lv_at hl 0 rfl) ?_
      refine lv_if_eq (pc := 41) (tgt := 68) hx hb dX5_speak_41 (by decide) (fun hc => ?_) (fun hc => ?_)
      · replace hF := rp_it hc hF
        refine xs_aboveN (pc := 68) hC hw dX5_speak_68 (fun tb3 htb3 => ?_)
        refine lv_iload (pc := 71) hx hb dX5_speak_71 (lv_at hl 5 rfl) ?_
        obtain ⟨hg, hF⟩ := rp_gu_e hF
        refine xs_tab (pc := 73) hC hw htb3 hg dX5_speak_73 ?_
        obtain ⟨x4, ex4, hF⟩ := rp_nm_e hF
        refine rp_top ex4 ?_
        refine lv_istore (pc := 74) (lv' := [(5, .int x4), (7, .int x2), (0, .ref (a 59)), (2, .int v2), (3, .int v3), (4, .int v4), (6, .int v6)]) hx hb dX5_speak_74 hl (by decide) rfl (fun ls hl => ?_)
        obtain ⟨x5, ex5, hF⟩ := rp_nm_e hF
        refine lv_iinc (pc := 76) (v := x5) (lv' := [(6, .int x5), (5, .int x4), (7, .int x2), (0, .ref (a 59)), (2, .int v2), (3, .int v3), (4, .int v4)]) hx hb dX5_speak_76 hl (k := 6) rfl (by rw [ex5]; rfl) (by decide) rfl (fun ls hl => ?_)
        refine lv_goto (pc := 79) (tgt := 15) hx hb dX5_speak_79 (by decide) ?_
        exact hk15 v2 v3 v4 x4 x5 σ _ _ _ hF hw (lv_sub hl [3, 4, 5, 6, 1, 0] rfl)
      · replace hF := rp_if hc hF
        refine lv_aload_n (pc := 44) hx hb dX5_speak_44 rfl (lv_at hl 1 rfl) ?_
        refine lv_iload (pc := 45) hx hb dX5_speak_45 (lv_at hl 0 rfl) ?_
        obtain ⟨r6, σ7, hq, hF⟩ := rp_bd_e hF
        refine rp_kv (rp_runV (rest := []) hC (xE_ok _) hw hl.1 (mX5_note (l := l) x2 σ _ hq) vw_X5_35 (by decide) (xt_voices _) rfl rfl rfl (Nat.le_of_ble_eq_true rfl) (by omega) dX5_speak_47) hw (fun H locs hw => ?_)
        clear hq
        refine lv_aload_n (pc := 50) hx hb dX5_speak_50 rfl (lv_at hl 1 rfl) ?_
        refine lv_iload (pc := 51) hx hb dX5_speak_51 (lv_at hl 0 rfl) ?_
        refine xs_aboveN (pc := 53) hC hw dX5_speak_53 (fun tb8 htb8 => ?_)
        refine lv_iload (pc := 56) hx hb dX5_speak_56 (lv_at hl 5 rfl) ?_
        obtain ⟨hg, hF⟩ := rp_gu_e hF
        refine xs_tab (pc := 58) hC hw htb8 hg dX5_speak_58 ?_
        refine lv_iload_n (pc := 59) hx hb dX5_speak_59 rfl (lv_at hl 3 rfl) ?_
        refine lv_iload (pc := 60) hx hb dX5_speak_60 (lv_at hl 4 rfl) ?_
        refine lv_iconst (pc := 62) (v := 1) hx hb dX5_speak_62 (by decide) ?_
        refine lv_iadd (pc := 63) hx hb dX5_speak_63 ?_
        obtain ⟨r9, σ10, hq, hF⟩ := rp_bd_e hF
        refine rp_ki (rp_runV (rest := []) hC (xE_ok _) hw hl.1 (hrc1 x2 (xAb (v5 : Int32).toNatClampNeg) v3 (v4 + 1) σ7 _ hq) vw_X5_42 (by decide) (xt_voices _) rfl rfl rfl (Nat.le_of_ble_eq_true rfl) (by omega) dX5_speak_64) hw (fun H locs hw => ?_)
        clear hq
        exact rp_reti (pc := 67) hC hw hF dX5_speak_67
theorem lX5_speak_15 {p : Program} {l : Launch} {e : Env} {s : State} {m : MethodId} {args : Array Value} {below : List Frame} {meth : Method} {c : Code} {D : va_G} {cI cB cS : ClassId} {a : Nat → Nat} {res : Int32 × rp_St} (dd : Nat) (rc0 : Int32 → Int32 → Int32 → Int32 → rp_St → Option (Int32 × rp_St)) (hrc0 : ∀ (v1 : Int32) (v2 : Int32) (v3 : Int32) (v4 : Int32) (σ : rp_St) (res : Int32 × rp_St), rc0 v1 v2 v3 v4 σ = some res → xM l D cI cB cS a yX5_speak cX5_speak 8 (some .int) (1 + dd) [.ref (a 59), .int v1, .int v2, .int v3, .int v4] σ (rp_Qi D a (xt cI cB cS a) 62 res)) (rc1 : Int32 → Int32 → Int32 → Int32 → rp_St → Option (Int32 × rp_St)) (hrc1 : ∀ (v1 : Int32) (v2 : Int32) (v3 : Int32) (v4 : Int32) (σ : rp_St) (res : Int32 × rp_St), rc1 v1 v2 v3 v4 σ = some res → xM l D cI cB cS a yX5_answer cX5_answer 5 (some .int) (1 + dd) [.ref (a 59), .int v1, .int v2, .int v3, .int v4] σ (rp_Qi D a (xt cI cB cS a) 62 res)) (hC : xC p s m args meth c cX5_speak 8 "RegretPegs$Voices" (some .int) D cI cB cS a) : ∀ (n : Nat) (v2 : Int32) (v3 : Int32) (v4 : Int32) (v5 : Int32) (v6 : Int32) (σ : rp_St) (H : Heap) (locs : List Loc) (ls : Array Slot), rp_lp (fun _ _ _ _ _ _ => none) (fX5_speak_15 rc0 rc1) n v2 v3 v4 v5 v6 σ = some res → xW D cI cB cS a s σ H locs → lv_has ls 8 [(0, .ref (a 59)), (2, .int v2), (3, .int v3), (4, .int v4), (5, .int v5), (6, .int v6)] → W p l e (rp_rm (1 + (dd + 1))) s m args below meth c H locs 0 0 (MQ below (rp_Qi D a (xt cI cB cS a) 62 res) args s 0 0 (rp_A a 62)) (F0 m 15 ls [])
  | 0, _, _, _, _, _, _, _, _, _, hF, _, _ => nomatch hF
  | n + 1, v2, v3, v4, v5, v6, σ, H, locs, ls, hF, hw, hl => kX5_speak_15 dd rc0 hrc0 rc1 hrc1 hC (rp_lp (fun _ _ _ _ _ _ => none) (fX5_speak_15 rc0 rc1) n) (lX5_speak_15 dd rc0 hrc0 rc1 hrc1 hC n) v2 v3 v4 v5 v6 σ H locs ls hF hw hl
def fX5_speak (rc0 : Int32 → Int32 → Int32 → Int32 → rp_St → Option (Int32 × rp_St)) (rc1 : Int32 → Int32 → Int32 → Int32 → rp_St → Option (Int32 × rp_St)) (v1 : Int32) (v2 : Int32) (v3 : Int32) (v4 : Int32) (σ : rp_St) : Option (Int32 × rp_St) :=
  (if v4 ≤ 30 then rp_lp (fun _ _ _ _ _ _ => none) (fX5_speak_15 rc0 rc1) 300 v2 v3 v4 v1 0 σ else some (0, σ))
set_option maxRecDepth 100000 in
set_option maxHeartbeats 4000000 in
theorem kX5_speak_0 {p : Program} {l : Launch} {e : Env} {s : State} {m : MethodId} {args : Array Value} {below : List Frame} {meth : Method} {c : Code} {D : va_G} {cI cB cS : ClassId} {a : Nat → Nat} {res : Int32 × rp_St} (dd : Nat) (rc0 : Int32 → Int32 → Int32 → Int32 → rp_St → Option (Int32 × rp_St)) (hrc0 : ∀ (v1 : Int32) (v2 : Int32) (v3 : Int32) (v4 : Int32) (σ : rp_St) (res : Int32 × rp_St), rc0 v1 v2 v3 v4 σ = some res → xM l D cI cB cS a yX5_speak cX5_speak 8 (some .int) (1 + dd) [.ref (a 59), .int v1, .int v2, .int v3, .int v4] σ (rp_Qi D a (xt cI cB cS a) 62 res)) (rc1 : Int32 → Int32 → Int32 → Int32 → rp_St → Option (Int32 × rp_St)) (hrc1 : ∀ (v1 : Int32) (v2 : Int32) (v3 : Int32) (v4 : Int32) (σ : rp_St) (res : Int32 × rp_St), rc1 v1 v2 v3 v4 σ = some res → xM l D cI cB cS a yX5_answer cX5_answer 5 (some .int) (1 + dd) [.ref (a 59), .int v1, .int v2, .int v3, .int v4] σ (rp_Qi D a (xt cI cB cS a) 62 res)) (hC : xC p s m args meth c cX5_speak 8 "RegretPegs$Voices" (some .int) D cI cB cS a) (v1 : Int32) (v2 : Int32) (v3 : Int32) (v4 : Int32) (σ : rp_St) (H : Heap) (locs : List Loc) (ls : Array Slot) (hF : fX5_speak rc0 rc1 v1 v2 v3 v4 σ = some res) (hw : xW D cI cB cS a s σ H locs) (hl : lv_has ls 8 [(0, .ref (a 59)), (1, .int v1), (2, .int v2), (3, .int v3), (4, .int v4)]) : W p l e (rp_rm (1 + (dd + 1))) s m args below meth c H locs 0 0 (MQ below (rp_Qi D a (xt cI cB cS a) 62 res) args s 0 0 (rp_A a 62)) (F0 m 0 ls []) := by
  have hx := hC.1
  have hb := hC.2.1
  have hown := hC.2.2.2.1
  have hts := hC.2.2.2.2.1
  unfold fX5_speak at hF
  refine lv_iload (pc := 0) hx hb dX5_speak_0 (lv_at hl 4 rfl) ?_
  refine lv_bipush (pc := 2) (v := 30) hx hb dX5_speak_2 (by decide) ?_
  refine lv_icmp_le (pc := 4) (tgt := 9) hx hb dX5_speak_4 (by decide) (fun hc => ?_) (fun hc => ?_)
  · replace hF := rp_it hc hF
    refine lv_iload_n (pc := 9) hx hb dX5_speak_9 rfl (lv_at hl 1 rfl) ?_
    refine lv_istore (pc := 10) (lv' := [(5, .int v1), (0, .ref (a 59)), (1, .int v1), (2, .int v2), (3, .int v3), (4, .int v4)]) hx hb dX5_speak_10 hl (by decide) rfl (fun ls hl => ?_)
    refine lv_iconst (pc := 12) (v := 0) hx hb dX5_speak_12 (by decide) ?_
    refine lv_istore (pc := 13) (lv' := [(6, .int 0), (5, .int v1), (0, .ref (a 59)), (1, .int v1), (2, .int v2), (3, .int v3), (4, .int v4)]) hx hb dX5_speak_13 hl (by decide) rfl (fun ls hl => ?_)
    exact lX5_speak_15 dd rc0 hrc0 rc1 hrc1 hC 300 v2 v3 v4 v1 0 σ _ _ _ hF hw (lv_sub hl [2, 4, 5, 6, 1, 0] rfl)
  · replace hF := rp_if hc hF
    refine lv_iconst (pc := 7) (v := 0) hx hb dX5_speak_7 (by decide) ?_
    exact rp_reti (pc := 8) hC hw hF dX5_speak_8
def fX5_answer (rc0 : Int32 → Int32 → Int32 → Int32 → rp_St → Option (Int32 × rp_St)) (rc1 : Int32 → Int32 → Int32 → Int32 → rp_St → Option (Int32 × rp_St)) (v1 : Int32) (v2 : Int32) (v3 : Int32) (v4 : Int32) (σ : rp_St) : Option (Int32 × rp_St) :=
  (if v1 = 10 then some ((v3 + (σ 59 1)), σ) else (if v1 = 11 then rp_bd (rc0 (σ 59 0) 0 v3 v4 σ) (fun r1 σ2 => some ((r1 * 2), σ2)) else (if v1 = 12 then some ((v3 - (σ 59 2)), σ) else (if v1 = 13 then rp_bd (rc0 (σ 59 0) 1 v3 v4 σ) (fun r3 σ4 => rp_bd (rc0 (σ4 59 0) 2 v3 v4 σ4) (fun r5 σ6 => some ((r3 ^^^ r5), σ6))) else (if v1 = 20 then rp_bd (rc0 v2 0 v3 v4 σ) (fun r7 σ8 => some ((r7 * 3), σ8)) else (if v1 = 30 then rp_bd (rc0 v2 1 v3 v4 σ) (fun r9 σ10 => rp_bd (rc0 (σ10 59 0) 2 1 v4 σ10) (fun r11 σ12 => some ((r9 - r11), σ12))) else (if v1 = 40 then rp_bd (rc0 v2 2 v3 v4 σ) (fun r13 σ14 => some ((-r13), σ14)) else (if v1 = 50 then rp_bd (rc0 v2 3 v3 v4 σ) (fun r15 σ16 => rp_bd (rc0 (σ16 59 0) 0 2 v4 σ16) (fun r17 σ18 => some ((r15 - r17), σ18))) else (if v1 = 60 then rp_bd (rc0 v2 1 (v3 + 1) v4 σ) (fun r19 σ20 => some (r19, σ20)) else (if v1 = 70 then rp_bd (rc0 v2 2 v3 v4 σ) (fun r21 σ22 => some ((r21 ^^^ (σ22 59 1)), σ22)) else (if v1 = 71 then rp_bd (rc0 (σ 59 0) 1 v3 v4 σ) (fun r23 σ24 => rp_bd (rc0 v2 3 v3 v4 σ24) (fun r25 σ26 => some ((r23 - r25), σ26))) else some (0, σ))))))))))))
set_option maxRecDepth 100000 in
set_option maxHeartbeats 4000000 in
theorem kX5_answer_0 {p : Program} {l : Launch} {e : Env} {s : State} {m : MethodId} {args : Array Value} {below : List Frame} {meth : Method} {c : Code} {D : va_G} {cI cB cS : ClassId} {a : Nat → Nat} {res : Int32 × rp_St} (dd : Nat) (rc0 : Int32 → Int32 → Int32 → Int32 → rp_St → Option (Int32 × rp_St)) (hrc0 : ∀ (v1 : Int32) (v2 : Int32) (v3 : Int32) (v4 : Int32) (σ : rp_St) (res : Int32 × rp_St), rc0 v1 v2 v3 v4 σ = some res → xM l D cI cB cS a yX5_speak cX5_speak 8 (some .int) (1 + dd) [.ref (a 59), .int v1, .int v2, .int v3, .int v4] σ (rp_Qi D a (xt cI cB cS a) 62 res)) (rc1 : Int32 → Int32 → Int32 → Int32 → rp_St → Option (Int32 × rp_St)) (hrc1 : ∀ (v1 : Int32) (v2 : Int32) (v3 : Int32) (v4 : Int32) (σ : rp_St) (res : Int32 × rp_St), rc1 v1 v2 v3 v4 σ = some res → xM l D cI cB cS a yX5_answer cX5_answer 5 (some .int) (1 + dd) [.ref (a 59), .int v1, .int v2, .int v3, .int v4] σ (rp_Qi D a (xt cI cB cS a) 62 res)) (hC : xC p s m args meth c cX5_answer 5 "RegretPegs$Voices" (some .int) D cI cB cS a) (v1 : Int32) (v2 : Int32) (v3 : Int32) (v4 : Int32) (σ : rp_St) (H : Heap) (locs : List Loc) (ls : Array Slot) (hF : fX5_answer rc0 rc1 v1 v2 v3 v4 σ = some res) (hw : xW D cI cB cS a s σ H locs) (hl : lv_has ls 5 [(0, .ref (a 59)), (1, .int v1), (2, .int v2), (3, .int v3), (4, .int v4)]) : W p l e (rp_rm (1 + (dd + 1))) s m args below meth c H locs 0 0 (MQ below (rp_Qi D a (xt cI cB cS a) 62 res) args s 0 0 (rp_A a 62)) (F0 m 0 ls []) := by
  have hx := hC.1
  have hb := hC.2.1
  have hown := hC.2.2.2.1
  have hts := hC.2.2.2.2.1
  unfold fX5_answer at hF
  refine lv_iload_n (pc := 0) hx hb dX5_answer_0 rfl (lv_at hl 1 rfl) ?_
  by_cases hs1_0 : v1 = 10
  · replace hF := rp_it hs1_0 hF
    refine lv_lookup (pc := 1) (off := 99) (tgt := 100) hx hb dX5_answer_1 (by decide) (by rw [hs1_0]; decide +kernel) (by decide) ?_
    refine lv_iload_n (pc := 100) hx hb dX5_answer_100 rfl (lv_at hl 3 rfl) ?_
    refine lv_aload_n (pc := 101) hx hb dX5_answer_101 rfl (lv_at hl 0 rfl) ?_
    refine rp_get (pc := 102) hC hw 59 (by decide) (xt_voices _) fl_X5_15 (.int (σ 59 1)) rfl dX5_answer_102 ?_
    refine lv_iadd (pc := 105) hx hb dX5_answer_105 ?_
    exact rp_reti (pc := 106) hC hw hF dX5_answer_106
  replace hF := rp_if hs1_0 hF
  by_cases hs1_1 : v1 = 11
  · replace hF := rp_it hs1_1 hF
    refine lv_lookup (pc := 1) (off := 106) (tgt := 107) hx hb dX5_answer_1 (by decide) (by rw [hs1_1]; decide +kernel) (by decide) ?_
    refine lv_aload_n (pc := 107) hx hb dX5_answer_107 rfl (lv_at hl 0 rfl) ?_
    refine lv_aload_n (pc := 108) hx hb dX5_answer_108 rfl (lv_at hl 0 rfl) ?_
    refine rp_get (pc := 109) hC hw 59 (by decide) (xt_voices _) fl_X5_9 (.int (σ 59 0)) rfl dX5_answer_109 ?_
    refine lv_iconst (pc := 112) (v := 0) hx hb dX5_answer_112 (by decide) ?_
    refine lv_iload_n (pc := 113) hx hb dX5_answer_113 rfl (lv_at hl 3 rfl) ?_
    refine lv_iload (pc := 114) hx hb dX5_answer_114 (lv_at hl 4 rfl) ?_
    obtain ⟨r1, σ2, hq, hF⟩ := rp_bd_e hF
    refine rp_ki (rp_runV (rest := []) hC (xE_ok _) hw hl.1 (hrc0 (σ 59 0) 0 v3 v4 σ _ hq) vw_X5_28 (by decide) (xt_voices _) rfl rfl rfl (Nat.le_of_ble_eq_true rfl) (by omega) dX5_answer_116) hw (fun H locs hw => ?_)
    clear hq
    refine lv_iconst (pc := 119) (v := 2) hx hb dX5_answer_119 (by decide) ?_
    refine lv_imul (pc := 120) hx hb dX5_answer_120 ?_
    exact rp_reti (pc := 121) hC hw hF dX5_answer_121
  replace hF := rp_if hs1_1 hF
  by_cases hs1_2 : v1 = 12
  · replace hF := rp_it hs1_2 hF
    refine lv_lookup (pc := 1) (off := 121) (tgt := 122) hx hb dX5_answer_1 (by decide) (by rw [hs1_2]; decide +kernel) (by decide) ?_
    refine lv_iload_n (pc := 122) hx hb dX5_answer_122 rfl (lv_at hl 3 rfl) ?_
    refine lv_aload_n (pc := 123) hx hb dX5_answer_123 rfl (lv_at hl 0 rfl) ?_
    refine rp_get (pc := 124) hC hw 59 (by decide) (xt_voices _) fl_X5_18 (.int (σ 59 2)) rfl dX5_answer_124 ?_
    refine lv_isub (pc := 127) hx hb dX5_answer_127 ?_
    exact rp_reti (pc := 128) hC hw hF dX5_answer_128
  replace hF := rp_if hs1_2 hF
  by_cases hs1_3 : v1 = 13
  · replace hF := rp_it hs1_3 hF
    refine lv_lookup (pc := 1) (off := 128) (tgt := 129) hx hb dX5_answer_1 (by decide) (by rw [hs1_3]; decide +kernel) (by decide) ?_
    refine lv_aload_n (pc := 129) hx hb dX5_answer_129 rfl (lv_at hl 0 rfl) ?_
    refine lv_aload_n (pc := 130) hx hb dX5_answer_130 rfl (lv_at hl 0 rfl) ?_
    refine rp_get (pc := 131) hC hw 59 (by decide) (xt_voices _) fl_X5_9 (.int (σ 59 0)) rfl dX5_answer_131 ?_
    refine lv_iconst (pc := 134) (v := 1) hx hb dX5_answer_134 (by decide) ?_
    refine lv_iload_n (pc := 135) hx hb dX5_answer_135 rfl (lv_at hl 3 rfl) ?_
    refine lv_iload (pc := 136) hx hb dX5_answer_136 (lv_at hl 4 rfl) ?_
    obtain ⟨r3, σ4, hq, hF⟩ := rp_bd_e hF
    refine rp_ki (rp_runV (rest := []) hC (xE_ok _) hw hl.1 (hrc0 (σ 59 0) 1 v3 v4 σ _ hq) vw_X5_28 (by decide) (xt_voices _) rfl rfl rfl (Nat.le_of_ble_eq_true rfl) (by omega) dX5_answer_138) hw (fun H locs hw => ?_)
    clear hq
    refine lv_aload_n (pc := 141) hx hb dX5_answer_141 rfl (lv_at hl 0 rfl) ?_
    refine lv_aload_n (pc := 142) hx hb dX5_answer_142 rfl (lv_at hl 0 rfl) ?_
    refine rp_get (pc := 143) hC hw 59 (by decide) (xt_voices _) fl_X5_9 (.int (σ4 59 0)) rfl dX5_answer_143 ?_
    refine lv_iconst (pc := 146) (v := 2) hx hb dX5_answer_146 (by decide) ?_
    refine lv_iload_n (pc := 147) hx hb dX5_answer_147 rfl (lv_at hl 3 rfl) ?_
    refine lv_iload (pc := 148) hx hb dX5_answer_148 (lv_at hl 4 rfl) ?_
    obtain ⟨r5, σ6, hq, hF⟩ := rp_bd_e hF
    refine rp_ki (rp_runV (rest := [.int r3]) hC (xE_ok _) hw hl.1 (hrc0 (σ4 59 0) 2 v3 v4 σ4 _ hq) vw_X5_28 (by decide) (xt_voices _) rfl rfl rfl (Nat.le_of_ble_eq_true rfl) (by omega) dX5_answer_150) hw (fun H locs hw => ?_)
    clear hq
    refine lv_ixor (pc := 153) hx hb dX5_answer_153 ?_
    exact rp_reti (pc := 154) hC hw hF dX5_answer_154
  replace hF := rp_if hs1_3 hF
  by_cases hs1_4 : v1 = 20
  · replace hF := rp_it hs1_4 hF
    refine lv_lookup (pc := 1) (off := 154) (tgt := 155) hx hb dX5_answer_1 (by decide) (by rw [hs1_4]; decide +kernel) (by decide) ?_
    refine lv_aload_n (pc := 155) hx hb dX5_answer_155 rfl (lv_at hl 0 rfl) ?_
    refine lv_iload_n (pc := 156) hx hb dX5_answer_156 rfl (lv_at hl 2 rfl) ?_
    refine lv_iconst (pc := 157) (v := 0) hx hb dX5_answer_157 (by decide) ?_
    refine lv_iload_n (pc := 158) hx hb dX5_answer_158 rfl (lv_at hl 3 rfl) ?_
    refine lv_iload (pc := 159) hx hb dX5_answer_159 (lv_at hl 4 rfl) ?_
    obtain ⟨r7, σ8, hq, hF⟩ := rp_bd_e hF
    refine rp_ki (rp_runV (rest := []) hC (xE_ok _) hw hl.1 (hrc0 v2 0 v3 v4 σ _ hq) vw_X5_28 (by decide) (xt_voices _) rfl rfl rfl (Nat.le_of_ble_eq_true rfl) (by omega) dX5_answer_161) hw (fun H locs hw => ?_)
    clear hq
    refine lv_iconst (pc := 164) (v := 3) hx hb dX5_answer_164 (by decide) ?_
    refine lv_imul (pc := 165) hx hb dX5_answer_165 ?_
    exact rp_reti (pc := 166) hC hw hF dX5_answer_166
  replace hF := rp_if hs1_4 hF
  by_cases hs1_5 : v1 = 30
  · replace hF := rp_it hs1_5 hF
    refine lv_lookup (pc := 1) (off := 166) (tgt := 167) hx hb dX5_answer_1 (by decide) (by rw [hs1_5]; decide +kernel) (by decide) ?_
    refine lv_aload_n (pc := 167) hx hb dX5_answer_167 rfl (lv_at hl 0 rfl) ?_
    refine lv_iload_n (pc := 168) hx hb dX5_answer_168 rfl (lv_at hl 2 rfl) ?_
    refine lv_iconst (pc := 169) (v := 1) hx hb dX5_answer_169 (by decide) ?_
    refine lv_iload_n (pc := 170) hx hb dX5_answer_170 rfl (lv_at hl 3 rfl) ?_
    refine lv_iload (pc := 171) hx hb dX5_answer_171 (lv_at hl 4 rfl) ?_
    obtain ⟨r9, σ10, hq, hF⟩ := rp_bd_e hF
    refine rp_ki (rp_runV (rest := []) hC (xE_ok _) hw hl.1 (hrc0 v2 1 v3 v4 σ _ hq) vw_X5_28 (by decide) (xt_voices _) rfl rfl rfl (Nat.le_of_ble_eq_true rfl) (by omega) dX5_answer_173) hw (fun H locs hw => ?_)
    clear hq
    refine lv_aload_n (pc := 176) hx hb dX5_answer_176 rfl (lv_at hl 0 rfl) ?_
    refine lv_aload_n (pc := 177) hx hb dX5_answer_177 rfl (lv_at hl 0 rfl) ?_
    refine rp_get (pc := 178) hC hw 59 (by decide) (xt_voices _) fl_X5_9 (.int (σ10 59 0)) rfl dX5_answer_178 ?_
    refine lv_iconst (pc := 181) (v := 2) hx hb dX5_answer_181 (by decide) ?_
    refine lv_iconst (pc := 182) (v := 1) hx hb dX5_answer_182 (by decide) ?_
    refine lv_iload (pc := 183) hx hb dX5_answer_183 (lv_at hl 4 rfl) ?_
    obtain ⟨r11, σ12, hq, hF⟩ := rp_bd_e hF
    refine rp_ki (rp_runV (rest := [.int r9]) hC (xE_ok _) hw hl.1 (hrc0 (σ10 59 0) 2 1 v4 σ10 _ hq) vw_X5_28 (by decide) (xt_voices _) rfl rfl rfl (Nat.le_of_ble_eq_true rfl) (by omega) dX5_answer_185) hw (fun H locs hw => ?_)
    clear hq
    refine lv_isub (pc := 188) hx hb dX5_answer_188 ?_
    exact rp_reti (pc := 189) hC hw hF dX5_answer_189
  replace hF := rp_if hs1_5 hF
  by_cases hs1_6 : v1 = 40
  · replace hF := rp_it hs1_6 hF
    refine lv_lookup (pc := 1) (off := 189) (tgt := 190) hx hb dX5_answer_1 (by decide) (by rw [hs1_6]; decide +kernel) (by decide) ?_
    refine lv_aload_n (pc := 190) hx hb dX5_answer_190 rfl (lv_at hl 0 rfl) ?_
    refine lv_iload_n (pc := 191) hx hb dX5_answer_191 rfl (lv_at hl 2 rfl) ?_
    refine lv_iconst (pc := 192) (v := 2) hx hb dX5_answer_192 (by decide) ?_
    refine lv_iload_n (pc := 193) hx hb dX5_answer_193 rfl (lv_at hl 3 rfl) ?_
    refine lv_iload (pc := 194) hx hb dX5_answer_194 (lv_at hl 4 rfl) ?_
    obtain ⟨r13, σ14, hq, hF⟩ := rp_bd_e hF
    refine rp_ki (rp_runV (rest := []) hC (xE_ok _) hw hl.1 (hrc0 v2 2 v3 v4 σ _ hq) vw_X5_28 (by decide) (xt_voices _) rfl rfl rfl (Nat.le_of_ble_eq_true rfl) (by omega) dX5_answer_196) hw (fun H locs hw => ?_)
    clear hq
    refine lv_ineg (pc := 199) hx hb dX5_answer_199 ?_
    exact rp_reti (pc := 200) hC hw hF dX5_answer_200
  replace hF := rp_if hs1_6 hF
  by_cases hs1_7 : v1 = 50
  · replace hF := rp_it hs1_7 hF
    refine lv_lookup (pc := 1) (off := 200) (tgt := 201) hx hb dX5_answer_1 (by decide) (by rw [hs1_7]; decide +kernel) (by decide) ?_
    refine lv_aload_n (pc := 201) hx hb dX5_answer_201 rfl (lv_at hl 0 rfl) ?_
    refine lv_iload_n (pc := 202) hx hb dX5_answer_202 rfl (lv_at hl 2 rfl) ?_
    refine lv_iconst (pc := 203) (v := 3) hx hb dX5_answer_203 (by decide) ?_
    refine lv_iload_n (pc := 204) hx hb dX5_answer_204 rfl (lv_at hl 3 rfl) ?_
    refine lv_iload (pc := 205) hx hb dX5_answer_205 (lv_at hl 4 rfl) ?_
    obtain ⟨r15, σ16, hq, hF⟩ := rp_bd_e hF
    refine rp_ki (rp_runV (rest := []) hC (xE_ok _) hw hl.1 (hrc0 v2 3 v3 v4 σ _ hq) vw_X5_28 (by decide) (xt_voices _) rfl rfl rfl (Nat.le_of_ble_eq_true rfl) (by omega) dX5_answer_207) hw (fun H locs hw => ?_)
    clear hq
    refine lv_aload_n (pc := 210) hx hb dX5_answer_210 rfl (lv_at hl 0 rfl) ?_
    refine lv_aload_n (pc := 211) hx hb dX5_answer_211 rfl (lv_at hl 0 rfl) ?_
    refine rp_get (pc := 212) hC hw 59 (by decide) (xt_voices _) fl_X5_9 (.int (σ16 59 0)) rfl dX5_answer_212 ?_
    refine lv_iconst (pc := 215) (v := 0) hx hb dX5_answer_215 (by decide) ?_
    refine lv_iconst (pc := 216) (v := 2) hx hb dX5_answer_216 (by decide) ?_
    refine lv_iload (pc := 217) hx hb dX5_answer_217 (lv_at hl 4 rfl) ?_
    obtain ⟨r17, σ18, hq, hF⟩ := rp_bd_e hF
    refine rp_ki (rp_runV (rest := [.int r15]) hC (xE_ok _) hw hl.1 (hrc0 (σ16 59 0) 0 2 v4 σ16 _ hq) vw_X5_28 (by decide) (xt_voices _) rfl rfl rfl (Nat.le_of_ble_eq_true rfl) (by omega) dX5_answer_219) hw (fun H locs hw => ?_)
    clear hq
    refine lv_isub (pc := 222) hx hb dX5_answer_222 ?_
    exact rp_reti (pc := 223) hC hw hF dX5_answer_223
  replace hF := rp_if hs1_7 hF
  by_cases hs1_8 : v1 = 60
  · replace hF := rp_it hs1_8 hF
    refine lv_lookup (pc := 1) (off := 223) (tgt := 224) hx hb dX5_answer_1 (by decide) (by rw [hs1_8]; decide +kernel) (by decide) ?_
    refine lv_aload_n (pc := 224) hx hb dX5_answer_224 rfl (lv_at hl 0 rfl) ?_
    refine lv_iload_n (pc := 225) hx hb dX5_answer_225 rfl (lv_at hl 2 rfl) ?_
    refine lv_iconst (pc := 226) (v := 1) hx hb dX5_answer_226 (by decide) ?_
    refine lv_iload_n (pc := 227) hx hb dX5_answer_227 rfl (lv_at hl 3 rfl) ?_
    refine lv_iconst (pc := 228) (v := 1) hx hb dX5_answer_228 (by decide) ?_
    refine lv_iadd (pc := 229) hx hb dX5_answer_229 ?_
    refine lv_iload (pc := 230) hx hb dX5_answer_230 (lv_at hl 4 rfl) ?_
    obtain ⟨r19, σ20, hq, hF⟩ := rp_bd_e hF
    refine rp_ki (rp_runV (rest := []) hC (xE_ok _) hw hl.1 (hrc0 v2 1 (v3 + 1) v4 σ _ hq) vw_X5_28 (by decide) (xt_voices _) rfl rfl rfl (Nat.le_of_ble_eq_true rfl) (by omega) dX5_answer_232) hw (fun H locs hw => ?_)
    clear hq
    exact rp_reti (pc := 235) hC hw hF dX5_answer_235
  replace hF := rp_if hs1_8 hF
  by_cases hs1_9 : v1 = 70
  · replace hF := rp_it hs1_9 hF
    refine lv_lookup (pc := 1) (off := 235) (tgt := 236) hx hb dX5_answer_1 (by decide) (by rw [hs1_9]; decide +kernel) (by decide) ?_
    refine lv_aload_n (pc := 236) hx hb dX5_answer_236 rfl (lv_at hl 0 rfl) ?_
    refine lv_iload_n (pc := 237) hx hb dX5_answer_237 rfl (lv_at hl 2 rfl) ?_
    refine lv_iconst (pc := 238) (v := 2) hx hb dX5_answer_238 (by decide) ?_
    refine lv_iload_n (pc := 239) hx hb dX5_answer_239 rfl (lv_at hl 3 rfl) ?_
    refine lv_iload (pc := 240) hx hb dX5_answer_240 (lv_at hl 4 rfl) ?_
    obtain ⟨r21, σ22, hq, hF⟩ := rp_bd_e hF
    refine rp_ki (rp_runV (rest := []) hC (xE_ok _) hw hl.1 (hrc0 v2 2 v3 v4 σ _ hq) vw_X5_28 (by decide) (xt_voices _) rfl rfl rfl (Nat.le_of_ble_eq_true rfl) (by omega) dX5_answer_242) hw (fun H locs hw => ?_)
    clear hq
    refine lv_aload_n (pc := 245) hx hb dX5_answer_245 rfl (lv_at hl 0 rfl) ?_
    refine rp_get (pc := 246) hC hw 59 (by decide) (xt_voices _) fl_X5_15 (.int (σ22 59 1)) rfl dX5_answer_246 ?_
    refine lv_ixor (pc := 249) hx hb dX5_answer_249 ?_
    exact rp_reti (pc := 250) hC hw hF dX5_answer_250
  replace hF := rp_if hs1_9 hF
  by_cases hs1_10 : v1 = 71
  · replace hF := rp_it hs1_10 hF
    refine lv_lookup (pc := 1) (off := 250) (tgt := 251) hx hb dX5_answer_1 (by decide) (by rw [hs1_10]; decide +kernel) (by decide) ?_
    refine lv_aload_n (pc := 251) hx hb dX5_answer_251 rfl (lv_at hl 0 rfl) ?_
    refine lv_aload_n (pc := 252) hx hb dX5_answer_252 rfl (lv_at hl 0 rfl) ?_
    refine rp_get (pc := 253) hC hw 59 (by decide) (xt_voices _) fl_X5_9 (.int (σ 59 0)) rfl dX5_answer_253 ?_
    refine lv_iconst (pc := 256) (v := 1) hx hb dX5_answer_256 (by decide) ?_
    refine lv_iload_n (pc := 257) hx hb dX5_answer_257 rfl (lv_at hl 3 rfl) ?_
    refine lv_iload (pc := 258) hx hb dX5_answer_258 (lv_at hl 4 rfl) ?_
    obtain ⟨r23, σ24, hq, hF⟩ := rp_bd_e hF
    refine rp_ki (rp_runV (rest := []) hC (xE_ok _) hw hl.1 (hrc0 (σ 59 0) 1 v3 v4 σ _ hq) vw_X5_28 (by decide) (xt_voices _) rfl rfl rfl (Nat.le_of_ble_eq_true rfl) (by omega) dX5_answer_260) hw (fun H locs hw => ?_)
    clear hq
    refine lv_aload_n (pc := 263) hx hb dX5_answer_263 rfl (lv_at hl 0 rfl) ?_
    refine lv_iload_n (pc := 264) hx hb dX5_answer_264 rfl (lv_at hl 2 rfl) ?_
    refine lv_iconst (pc := 265) (v := 3) hx hb dX5_answer_265 (by decide) ?_
    refine lv_iload_n (pc := 266) hx hb dX5_answer_266 rfl (lv_at hl 3 rfl) ?_
    refine lv_iload (pc := 267) hx hb dX5_answer_267 (lv_at hl 4 rfl) ?_
    obtain ⟨r25, σ26, hq, hF⟩ := rp_bd_e hF
    refine rp_ki (rp_runV (rest := [.int r23]) hC (xE_ok _) hw hl.1 (hrc0 v2 3 v3 v4 σ24 _ hq) vw_X5_28 (by decide) (xt_voices _) rfl rfl rfl (Nat.le_of_ble_eq_true rfl) (by omega) dX5_answer_269) hw (fun H locs hw => ?_)
    clear hq
    refine lv_isub (pc := 272) hx hb dX5_answer_272 ?_
    exact rp_reti (pc := 273) hC hw hF dX5_answer_273
  replace hF := rp_if hs1_10 hF
  refine lv_lookup (pc := 1) (off := 273) (tgt := 274) hx hb dX5_answer_1 (by decide) (rp_lkc (rp_ne 10 10 (by decide) hs1_0) (rp_lkc (rp_ne 11 11 (by decide) hs1_1) (rp_lkc (rp_ne 12 12 (by decide) hs1_2) (rp_lkc (rp_ne 13 13 (by decide) hs1_3) (rp_lkc (rp_ne 20 20 (by decide) hs1_4) (rp_lkc (rp_ne 30 30 (by decide) hs1_5) (rp_lkc (rp_ne 40 40 (by decide) hs1_6) (rp_lkc (rp_ne 50 50 (by decide) hs1_7) (rp_lkc (rp_ne 60 60 (by decide) hs1_8) (rp_lkc (rp_ne 70 70 (by decide) hs1_9) (rp_lkc (rp_ne 71 71 (by decide) hs1_10) rfl))))))))))) (by decide) ?_
  refine lv_iconst (pc := 274) (v := 0) hx hb dX5_answer_274 (by decide) ?_
  exact rp_reti (pc := 275) hC hw hF dX5_answer_275
def fX5_grp : Nat → (Int32 → Int32 → Int32 → Int32 → rp_St → Option (Int32 × rp_St)) × (Int32 → Int32 → Int32 → Int32 → rp_St → Option (Int32 × rp_St)) := rp_lp (fun _ _ _ _ _ => none, fun _ _ _ _ _ => none) (fun r => (fX5_speak r.1 r.2, fX5_answer r.1 r.2))
theorem mX5_grp (n : Nat) {l : Launch} {D : va_G} {cI cB cS : ClassId} {a : Nat → Nat} : (∀ (v1 : Int32) (v2 : Int32) (v3 : Int32) (v4 : Int32) (σ : rp_St) (res : Int32 × rp_St), (fX5_grp n).1 v1 v2 v3 v4 σ = some res → xM l D cI cB cS a yX5_speak cX5_speak 8 (some .int) (1 + n) [.ref (a 59), .int v1, .int v2, .int v3, .int v4] σ (rp_Qi D a (xt cI cB cS a) 62 res)) ∧ (∀ (v1 : Int32) (v2 : Int32) (v3 : Int32) (v4 : Int32) (σ : rp_St) (res : Int32 × rp_St), (fX5_grp n).2 v1 v2 v3 v4 σ = some res → xM l D cI cB cS a yX5_answer cX5_answer 5 (some .int) (1 + n) [.ref (a 59), .int v1, .int v2, .int v3, .int v4] σ (rp_Qi D a (xt cI cB cS a) 62 res)) := by
  induction n with
  | zero => exact ⟨(fun _ _ _ _ _ _ hF => nomatch hF), (fun _ _ _ _ _ _ hF => nomatch hF)⟩
  | succ n ih =>
    refine ⟨?_, ?_⟩
    · intro v1 v2 v3 v4 σ res hF
      exact rp_entry (by decide) (Nat.le_of_ble_eq_true rfl) (fun p e s m below meth c ls hC hw hl => kX5_speak_0 n _ ih.1 _ ih.2 hC v1 v2 v3 v4 σ _ _ _ hF hw (lv_sub hl [0, 1, 2, 3, 4] rfl))
    · intro v1 v2 v3 v4 σ res hF
      exact rp_entry (by decide) (Nat.le_of_ble_eq_true rfl) (fun p e s m below meth c ls hC hw hl => kX5_answer_0 n _ ih.1 _ ih.2 hC v1 v2 v3 v4 σ _ _ _ hF hw (lv_sub hl [0, 1, 2, 3, 4] rfl))
def fX5_hear (v1 : Int32) (v2 : Int32) (v3 : Int32) (v4 : Int32) (v5 : Int32) (σ : rp_St) : Option (Int32 × rp_St) :=
  rp_nm (rp_put σ 59 1 v1) (fun σ1 => rp_nm (rp_put σ1 59 0 v2) (fun σ2 => rp_nm (rp_put σ2 59 2 v3) (fun σ3 => rp_nm (rp_put σ3 59 3 0) (fun σ4 => rp_bd ((fX5_grp 80).1 (σ4 59 0) v4 v5 0 σ4) (fun r5 σ6 => some (r5, σ6))))))
set_option maxRecDepth 100000 in
set_option maxHeartbeats 4000000 in
theorem kX5_hear_0 {p : Program} {l : Launch} {e : Env} {s : State} {m : MethodId} {args : Array Value} {below : List Frame} {meth : Method} {c : Code} {D : va_G} {cI cB cS : ClassId} {a : Nat → Nat} {res : Int32 × rp_St} (hC : xC p s m args meth c cX5_hear 6 "RegretPegs$Voices" (some .int) D cI cB cS a) (v1 : Int32) (v2 : Int32) (v3 : Int32) (v4 : Int32) (v5 : Int32) (σ : rp_St) (H : Heap) (locs : List Loc) (ls : Array Slot) (hF : fX5_hear v1 v2 v3 v4 v5 σ = some res) (hw : xW D cI cB cS a s σ H locs) (hl : lv_has ls 6 [(0, .ref (a 59)), (1, .int v1), (2, .int v2), (3, .int v3), (4, .int v4), (5, .int v5)]) : W p l e (rp_rm 82) s m args below meth c H locs 0 0 (MQ below (rp_Qi D a (xt cI cB cS a) 62 res) args s 0 0 (rp_A a 62)) (F0 m 0 ls []) := by
  have hx := hC.1
  have hb := hC.2.1
  have hown := hC.2.2.2.1
  have hts := hC.2.2.2.2.1
  unfold fX5_hear at hF
  refine lv_aload_n (pc := 0) hx hb dX5_hear_0 rfl (lv_at hl 0 rfl) ?_
  refine lv_iload_n (pc := 1) hx hb dX5_hear_1 rfl (lv_at hl 1 rfl) ?_
  refine rp_set (pc := 2) (fs := xb_voices a) hC hw 59 (by decide) xt_voices fg_X5_15 rfl (Nat.le_of_ble_eq_true rfl) rfl rfl dX5_hear_2 (fun H locs hw => ?_)
  obtain ⟨σ1, eσ1, hF⟩ := rp_nm_e hF
  replace hw := rp_Wn eσ1 hw
  clear eσ1
  refine lv_aload_n (pc := 5) hx hb dX5_hear_5 rfl (lv_at hl 0 rfl) ?_
  refine lv_iload_n (pc := 6) hx hb dX5_hear_6 rfl (lv_at hl 2 rfl) ?_
  refine rp_set (pc := 7) (fs := xb_voices a) hC hw 59 (by decide) xt_voices fg_X5_9 rfl (Nat.le_of_ble_eq_true rfl) rfl rfl dX5_hear_7 (fun H locs hw => ?_)
  obtain ⟨σ2, eσ2, hF⟩ := rp_nm_e hF
  replace hw := rp_Wn eσ2 hw
  clear eσ2
  refine lv_aload_n (pc := 10) hx hb dX5_hear_10 rfl (lv_at hl 0 rfl) ?_
  refine lv_iload_n (pc := 11) hx hb dX5_hear_11 rfl (lv_at hl 3 rfl) ?_
  refine rp_set (pc := 12) (fs := xb_voices a) hC hw 59 (by decide) xt_voices fg_X5_18 rfl (Nat.le_of_ble_eq_true rfl) rfl rfl dX5_hear_12 (fun H locs hw => ?_)
  obtain ⟨σ3, eσ3, hF⟩ := rp_nm_e hF
  replace hw := rp_Wn eσ3 hw
  clear eσ3
  refine lv_aload_n (pc := 15) hx hb dX5_hear_15 rfl (lv_at hl 0 rfl) ?_
  refine lv_iconst (pc := 16) (v := 0) hx hb dX5_hear_16 (by decide) ?_
  refine rp_set (pc := 17) (fs := xb_voices a) hC hw 59 (by decide) xt_voices fg_X5_21 rfl (Nat.le_of_ble_eq_true rfl) rfl rfl dX5_hear_17 (fun H locs hw => ?_)
  obtain ⟨σ4, eσ4, hF⟩ := rp_nm_e hF
  replace hw := rp_Wn eσ4 hw
  clear eσ4
  refine lv_aload_n (pc := 20) hx hb dX5_hear_20 rfl (lv_at hl 0 rfl) ?_
  refine lv_aload_n (pc := 21) hx hb dX5_hear_21 rfl (lv_at hl 0 rfl) ?_
  refine rp_get (pc := 22) hC hw 59 (by decide) (xt_voices _) fl_X5_9 (.int (σ4 59 0)) rfl dX5_hear_22 ?_
  refine lv_iload (pc := 25) hx hb dX5_hear_25 (lv_at hl 4 rfl) ?_
  refine lv_iload (pc := 27) hx hb dX5_hear_27 (lv_at hl 5 rfl) ?_
  refine lv_iconst (pc := 29) (v := 0) hx hb dX5_hear_29 (by decide) ?_
  obtain ⟨r5, σ6, hq, hF⟩ := rp_bd_e hF
  refine rp_ki (rp_runV (rest := []) hC (xE_ok _) hw hl.1 ((mX5_grp 80 (l := l) (D := D)).1 (σ4 59 0) v4 v5 0 σ4 _ hq) vw_X5_28 (by decide) (xt_voices _) rfl rfl rfl (Nat.le_of_ble_eq_true rfl) (by decide) dX5_hear_30) hw (fun H locs hw => ?_)
  clear hq
  exact rp_reti (pc := 33) hC hw hF dX5_hear_33
theorem mX5_hear {l : Launch} {D : va_G} {cI cB cS : ClassId} {a : Nat → Nat} (v1 : Int32) (v2 : Int32) (v3 : Int32) (v4 : Int32) (v5 : Int32) (σ : rp_St) (res : Int32 × rp_St) (hF : fX5_hear v1 v2 v3 v4 v5 σ = some res) : xM l D cI cB cS a yX5_hear cX5_hear 6 (some .int) 82 [.ref (a 59), .int v1, .int v2, .int v3, .int v4, .int v5] σ (rp_Qi D a (xt cI cB cS a) 62 res) :=
  rp_entry (by decide) (Nat.le_of_ble_eq_true rfl) (fun p e s m below meth c ls hC hw hl => kX5_hear_0 hC v1 v2 v3 v4 v5 σ _ _ _ hF hw (lv_sub hl [0, 1, 2, 3, 4, 5] rfl))
def fX6_voice_17 (σ : rp_St) : Option (Int32 × rp_St) :=
  rp_bd (fX6_refuse 1 σ) (fun r1 σ2 => some (r1, σ2))
set_option maxRecDepth 100000 in
set_option maxHeartbeats 4000000 in
theorem kX6_voice_17 {p : Program} {l : Launch} {e : Env} {s : State} {m : MethodId} {args : Array Value} {below : List Frame} {meth : Method} {c : Code} {D : va_G} {cI cB cS : ClassId} {a : Nat → Nat} {res : Int32 × rp_St} (hC : xC p s m args meth c cX6_voice 4 "RegretPegs" (some .int) D cI cB cS a) (σ : rp_St) (H : Heap) (locs : List Loc) (ls : Array Slot) (hF : fX6_voice_17 σ = some res) (hw : xW D cI cB cS a s σ H locs) (hl : lv_has ls 4 [(0, .ref (a 54))]) : W p l e (rp_rm 83) s m args below meth c H locs 0 0 (MQ below (rp_Qi D a (xt cI cB cS a) 62 res) args s 0 0 (rp_A a 62)) (F0 m 17 ls []) := by
  have hx := hC.1
  have hb := hC.2.1
  have hown := hC.2.2.2.1
  have hts := hC.2.2.2.2.1
  unfold fX6_voice_17 at hF
  refine lv_aload_n (pc := 17) hx hb dX6_voice_17 rfl (lv_at hl 0 rfl) ?_
  refine lv_iconst (pc := 18) (v := 1) hx hb dX6_voice_18 (by decide) ?_
  obtain ⟨r1, σ2, hq, hF⟩ := rp_bd_e hF
  refine rp_ki (rp_runV (rest := []) hC (xE_ok _) hw hl.1 (mX6_refuse (l := l) 1 σ _ hq) vw_X6_66 (by decide) (xt_reg _) rfl rfl rfl (Nat.le_of_ble_eq_true rfl) (by decide) dX6_voice_19) hw (fun H locs hw => ?_)
  clear hq
  exact rp_reti (pc := 22) hC hw hF dX6_voice_22
def fX6_voice (v1 : Int32) (v2 : Int32) (v3 : Int32) (σ : rp_St) : Option (Int32 × rp_St) :=
  rp_bd (fX6_isGuest v1 σ) (fun r1 σ2 => (if r1 = 0 then fX6_voice_17 σ2 else rp_bd (fX6_isWithin v2 0 3 σ2) (fun r3 σ4 => (if r3 = 0 then fX6_voice_17 σ4 else rp_gu (rp_in v1 7) (rp_gu (rp_in v1 7) (rp_bd (fX5_hear v1 (σ4 1 (v1 : Int32).toNatClampNeg) (σ4 2 (v1 : Int32).toNatClampNeg) v2 v3 σ4) (fun r5 σ6 => some (r5, σ6))))))))
set_option maxRecDepth 100000 in
set_option maxHeartbeats 4000000 in
theorem kX6_voice_0 {p : Program} {l : Launch} {e : Env} {s : State} {m : MethodId} {args : Array Value} {below : List Frame} {meth : Method} {c : Code} {D : va_G} {cI cB cS : ClassId} {a : Nat → Nat} {res : Int32 × rp_St} (hC : xC p s m args meth c cX6_voice 4 "RegretPegs" (some .int) D cI cB cS a) (v1 : Int32) (v2 : Int32) (v3 : Int32) (σ : rp_St) (H : Heap) (locs : List Loc) (ls : Array Slot) (hF : fX6_voice v1 v2 v3 σ = some res) (hw : xW D cI cB cS a s σ H locs) (hl : lv_has ls 4 [(0, .ref (a 54)), (1, .int v1), (2, .int v2), (3, .int v3)]) : W p l e (rp_rm 83) s m args below meth c H locs 0 0 (MQ below (rp_Qi D a (xt cI cB cS a) 62 res) args s 0 0 (rp_A a 62)) (F0 m 0 ls []) := by
  have hx := hC.1
  have hb := hC.2.1
  have hown := hC.2.2.2.1
  have hts := hC.2.2.2.2.1
  unfold fX6_voice at hF
  refine lv_aload_n (pc := 0) hx hb dX6_voice_0 rfl (lv_at hl 0 rfl) ?_
  refine lv_iload_n (pc := 1) hx hb dX6_voice_1 rfl (lv_at hl 1 rfl) ?_
  obtain ⟨r1, σ2, hq, hF⟩ := rp_bd_e hF
  refine rp_ki (rp_runV (rest := []) hC (xE_ok _) hw hl.1 (mX6_isGuest (l := l) v1 σ _ hq) vw_X6_80 (by decide) (xt_reg _) rfl rfl rfl (Nat.le_of_ble_eq_true rfl) (by decide) dX6_voice_2) hw (fun H locs hw => ?_)
  clear hq
  refine lv_if_eq (pc := 5) (tgt := 17) hx hb dX6_voice_5 (by decide) (fun hc => ?_) (fun hc => ?_)
  · replace hF := rp_it hc hF
    exact kX6_voice_17 hC σ2 _ _ _ hF hw (lv_sub hl [0] rfl)
  · replace hF := rp_if hc hF
    refine lv_iload_n (pc := 8) hx hb dX6_voice_8 rfl (lv_at hl 2 rfl) ?_
    refine lv_iconst (pc := 9) (v := 0) hx hb dX6_voice_9 (by decide) ?_
    refine lv_iconst (pc := 10) (v := 3) hx hb dX6_voice_10 (by decide) ?_
    obtain ⟨r3, σ4, hq, hF⟩ := rp_bd_e hF
    refine rp_ki (rp_runZ (rest := []) hC (xE_ok _) hw hl.1 (mX6_isWithin (l := l) v2 0 3 σ2 _ hq) zw_X6_62 rfl rfl (Nat.le_of_ble_eq_true rfl) (by decide) dX6_voice_11) hw (fun H locs hw => ?_)
    clear hq
    refine lv_if_ne (pc := 14) (tgt := 23) hx hb dX6_voice_14 (by decide) (fun hc => ?_) (fun hc => ?_)
    · replace hF := rp_if hc hF
      refine lv_aload_n (pc := 23) hx hb dX6_voice_23 rfl (lv_at hl 0 rfl) ?_
      refine rp_get (pc := 24) hC hw 54 (by decide) (xt_reg _) fl_X6_43 (.ref (a 59)) rfl dX6_voice_24 ?_
      refine lv_iload_n (pc := 27) hx hb dX6_voice_27 rfl (lv_at hl 1 rfl) ?_
      refine lv_aload_n (pc := 28) hx hb dX6_voice_28 rfl (lv_at hl 0 rfl) ?_
      refine rp_get (pc := 29) hC hw 54 (by decide) (xt_reg _) fl_X6_10 (.ref (a 40)) rfl dX6_voice_29 ?_
      refine rp_get (pc := 32) hC hw 40 (by decide) ((xt_eve (i := 0) (by decide)) _) fl_X6_70 (.ref (a 0)) rfl dX6_voice_32 ?_
      refine rp_get (pc := 35) hC hw 0 (by decide) ((xt_ball (b := 0) (by decide)) _) fl_X6_83 (.ref (a 1)) rfl dX6_voice_35 ?_
      refine lv_iload_n (pc := 38) hx hb dX6_voice_38 rfl (lv_at hl 1 rfl) ?_
      obtain ⟨hg, hF⟩ := rp_gu_e hF
      refine rp_ald (pc := 39) hC hw 1 (by decide) (xt_bar (b := 0) (by decide) 1 ⟨by decide, by decide⟩) 0 rfl hg dX6_voice_39 ?_
      refine lv_aload_n (pc := 40) hx hb dX6_voice_40 rfl (lv_at hl 0 rfl) ?_
      refine rp_get (pc := 41) hC hw 54 (by decide) (xt_reg _) fl_X6_10 (.ref (a 40)) rfl dX6_voice_41 ?_
      refine rp_get (pc := 44) hC hw 40 (by decide) ((xt_eve (i := 0) (by decide)) _) fl_X6_70 (.ref (a 0)) rfl dX6_voice_44 ?_
      refine rp_get (pc := 47) hC hw 0 (by decide) ((xt_ball (b := 0) (by decide)) _) fl_X6_86 (.ref (a 2)) rfl dX6_voice_47 ?_
      refine lv_iload_n (pc := 50) hx hb dX6_voice_50 rfl (lv_at hl 1 rfl) ?_
      obtain ⟨hg, hF⟩ := rp_gu_e hF
      refine rp_ald (pc := 51) hC hw 2 (by decide) (xt_bar (b := 0) (by decide) 2 ⟨by decide, by decide⟩) 0 rfl hg dX6_voice_51 ?_
      refine lv_iload_n (pc := 52) hx hb dX6_voice_52 rfl (lv_at hl 2 rfl) ?_
      refine lv_iload_n (pc := 53) hx hb dX6_voice_53 rfl (lv_at hl 3 rfl) ?_
      obtain ⟨r5, σ6, hq, hF⟩ := rp_bd_e hF
      refine rp_ki (rp_runV (rest := []) hC (xE_ok _) hw hl.1 (mX5_hear (l := l) v1 (σ4 1 (v1 : Int32).toNatClampNeg) (σ4 2 (v1 : Int32).toNatClampNeg) v2 v3 σ4 _ hq) vw_X6_216 (by decide) (xt_voices _) rfl rfl rfl (Nat.le_of_ble_eq_true rfl) (by decide) dX6_voice_54) hw (fun H locs hw => ?_)
      clear hq
      exact rp_reti (pc := 57) hC hw hF dX6_voice_57
    · replace hF := rp_it hc hF
      exact kX6_voice_17 hC σ4 _ _ _ hF hw (lv_sub hl [0] rfl)
theorem mX6_voice {l : Launch} {D : va_G} {cI cB cS : ClassId} {a : Nat → Nat} (v1 : Int32) (v2 : Int32) (v3 : Int32) (σ : rp_St) (res : Int32 × rp_St) (hF : fX6_voice v1 v2 v3 σ = some res) : xM l D cI cB cS a yX6_voice cX6_voice 4 (some .int) 83 [.ref (a 54), .int v1, .int v2, .int v3] σ (rp_Qi D a (xt cI cB cS a) 62 res) :=
  rp_entry (by decide) (Nat.le_of_ble_eq_true rfl) (fun p e s m below meth c ls hC hw hl => kX6_voice_0 hC v1 v2 v3 σ _ _ _ hF hw (lv_sub hl [0, 1, 2, 3] rfl))
def fX6_trace (v1 : Int32) (σ : rp_St) : Option (Int32 × rp_St) :=
  rp_bd (fX6_isWithin v1 0 ((σ 59 3) - 1) σ) (fun r1 σ2 => (if r1 = 0 then rp_bd (fX6_refuse 2 σ2) (fun r3 σ4 => some (r3, σ4)) else rp_gu (rp_in v1 40) (some ((σ2 60 (v1 : Int32).toNatClampNeg), σ2))))
set_option maxRecDepth 100000 in
set_option maxHeartbeats 4000000 in
theorem kX6_trace_0 {p : Program} {l : Launch} {e : Env} {s : State} {m : MethodId} {args : Array Value} {below : List Frame} {meth : Method} {c : Code} {D : va_G} {cI cB cS : ClassId} {a : Nat → Nat} {res : Int32 × rp_St} (hC : xC p s m args meth c cX6_trace 2 "RegretPegs" (some .int) D cI cB cS a) (v1 : Int32) (σ : rp_St) (H : Heap) (locs : List Loc) (ls : Array Slot) (hF : fX6_trace v1 σ = some res) (hw : xW D cI cB cS a s σ H locs) (hl : lv_has ls 2 [(0, .ref (a 54)), (1, .int v1)]) : W p l e (rp_rm 2) s m args below meth c H locs 0 0 (MQ below (rp_Qi D a (xt cI cB cS a) 62 res) args s 0 0 (rp_A a 62)) (F0 m 0 ls []) := by
  have hx := hC.1
  have hb := hC.2.1
  have hown := hC.2.2.2.1
  have hts := hC.2.2.2.2.1
  unfold fX6_trace at hF
  refine lv_iload_n (pc := 0) hx hb dX6_trace_0 rfl (lv_at hl 1 rfl) ?_
  refine lv_iconst (pc := 1) (v := 0) hx hb dX6_trace_1 (by decide) ?_
  refine lv_aload_n (pc := 2) hx hb dX6_trace_2 rfl (lv_at hl 0 rfl) ?_
  refine rp_get (pc := 3) hC hw 54 (by decide) (xt_reg _) fl_X6_43 (.ref (a 59)) rfl dX6_trace_3 ?_
  refine rp_get (pc := 6) hC hw 59 (by decide) (xt_voices _) fl_X6_220 (.int (σ 59 3)) rfl dX6_trace_6 ?_
  refine lv_iconst (pc := 9) (v := 1) hx hb dX6_trace_9 (by decide) ?_
  refine lv_isub (pc := 10) hx hb dX6_trace_10 ?_
  obtain ⟨r1, σ2, hq, hF⟩ := rp_bd_e hF
  refine rp_ki (rp_runZ (rest := []) hC (xE_ok _) hw hl.1 (mX6_isWithin (l := l) v1 0 ((σ 59 3) - 1) σ _ hq) zw_X6_62 rfl rfl (Nat.le_of_ble_eq_true rfl) (by decide) dX6_trace_11) hw (fun H locs hw => ?_)
  clear hq
  refine lv_if_eq (pc := 14) (tgt := 29) hx hb dX6_trace_14 (by decide) (fun hc => ?_) (fun hc => ?_)
  · replace hF := rp_it hc hF
    refine lv_aload_n (pc := 29) hx hb dX6_trace_29 rfl (lv_at hl 0 rfl) ?_
    refine lv_iconst (pc := 30) (v := 2) hx hb dX6_trace_30 (by decide) ?_
    obtain ⟨r3, σ4, hq, hF⟩ := rp_bd_e hF
    refine rp_ki (rp_runV (rest := []) hC (xE_ok _) hw hl.1 (mX6_refuse (l := l) 2 σ2 _ hq) vw_X6_66 (by decide) (xt_reg _) rfl rfl rfl (Nat.le_of_ble_eq_true rfl) (by decide) dX6_trace_31) hw (fun H locs hw => ?_)
    clear hq
    exact rp_reti (pc := 34) hC hw hF dX6_trace_34
  · replace hF := rp_if hc hF
    refine lv_aload_n (pc := 17) hx hb dX6_trace_17 rfl (lv_at hl 0 rfl) ?_
    refine rp_get (pc := 18) hC hw 54 (by decide) (xt_reg _) fl_X6_43 (.ref (a 59)) rfl dX6_trace_18 ?_
    refine rp_get (pc := 21) hC hw 59 (by decide) (xt_voices _) fl_X6_223 (.ref (a 60)) rfl dX6_trace_21 ?_
    refine lv_iload_n (pc := 24) hx hb dX6_trace_24 rfl (lv_at hl 1 rfl) ?_
    obtain ⟨hg, hF⟩ := rp_gu_e hF
    refine rp_ald (pc := 25) hC hw 60 (by decide) xt_bodies 0 rfl hg dX6_trace_25 ?_
    refine lv_goto (pc := 26) (tgt := 34) hx hb dX6_trace_26 (by decide) ?_
    exact rp_reti (pc := 34) hC hw hF dX6_trace_34
theorem mX6_trace {l : Launch} {D : va_G} {cI cB cS : ClassId} {a : Nat → Nat} (v1 : Int32) (σ : rp_St) (res : Int32 × rp_St) (hF : fX6_trace v1 σ = some res) : xM l D cI cB cS a yX6_trace cX6_trace 2 (some .int) 2 [.ref (a 54), .int v1] σ (rp_Qi D a (xt cI cB cS a) 62 res) :=
  rp_entry (by decide) (Nat.le_of_ble_eq_true rfl) (fun p e s m below meth c ls hC hw hl => kX6_trace_0 hC v1 σ _ _ _ hF hw (lv_sub hl [0, 1] rfl))
def fX4_lay_12 (g0 : Nat) (k12 : Int32 → rp_St → Option (Int32 × rp_St)) (v3 : Int32) (σ : rp_St) : Option (Int32 × rp_St) :=
  (if 40 ≤ v3 then some (0, σ) else rp_gu (rp_in v3 40) (rp_nm (rp_put σ (46 + 2 * g0 + 1) (v3 : Int32).toNatClampNeg 0) (fun σ1 => rp_nm (v3 + 1) (fun x2 => k12 x2 σ1))))
set_option maxRecDepth 100000 in
set_option maxHeartbeats 4000000 in
theorem kX4_lay_12 {p : Program} {l : Launch} {e : Env} {s : State} {m : MethodId} {args : Array Value} {below : List Frame} {meth : Method} {c : Code} {D : va_G} {cI cB cS : ClassId} {a : Nat → Nat} {res : Int32 × rp_St} (g0 : Nat) (h_g0 : g0 < 4) (hC : xC p s m args meth c cX4_lay 4 "RegretPegs$Sheet" none D cI cB cS a) (k12 : Int32 → rp_St → Option (Int32 × rp_St)) (hk12 : ∀ (v3 : Int32) (σ : rp_St) (H : Heap) (locs : List Loc) (ls : Array Slot), k12 v3 σ = some res → xW D cI cB cS a s σ H locs → lv_has ls 4 [(0, .ref (a (46 + 2 * g0))), (3, .int v3)] → W p l e (rp_rm 1) s m args below meth c H locs 0 0 (MQ below (rp_Qv D a (xt cI cB cS a) 62 res) args s 0 0 (rp_A a 62)) (F0 m 12 ls [])) (v3 : Int32) (σ : rp_St) (H : Heap) (locs : List Loc) (ls : Array Slot) (hF : fX4_lay_12 g0 k12 v3 σ = some res) (hw : xW D cI cB cS a s σ H locs) (hl : lv_has ls 4 [(0, .ref (a (46 + 2 * g0))), (3, .int v3)]) : W p l e (rp_rm 1) s m args below meth c H locs 0 0 (MQ below (rp_Qv D a (xt cI cB cS a) 62 res) args s 0 0 (rp_A a 62)) (F0 m 12 ls []) := by
  have hx := hC.1
  have hb := hC.2.1
  have hown := hC.2.2.2.1
  have hts := hC.2.2.2.2.1
  unfold fX4_lay_12 at hF
  refine lv_iload_n (pc := 12) hx hb dX4_lay_12 rfl (lv_at hl 1 rfl) ?_
  refine lv_bipush (pc := 13) (v := 40) hx hb dX4_lay_13 (by decide) ?_
  refine lv_icmp_ge (pc := 15) (tgt := 31) hx hb dX4_lay_15 (by decide) (fun hc => ?_) (fun hc => ?_)
  · replace hF := rp_it hc hF
    exact rp_retv (pc := 31) hC hw hF dX4_lay_31
  · replace hF := rp_if hc hF
    refine lv_aload_n (pc := 18) hx hb dX4_lay_18 rfl (lv_at hl 0 rfl) ?_
    refine rp_get (pc := 19) hC hw (46 + 2 * g0) (by omega) ((xt_sheet (i := g0) (by omega)) _) fl_X4_18 (.ref (a (46 + 2 * g0 + 1))) rfl dX4_lay_19 ?_
    refine lv_iload_n (pc := 22) hx hb dX4_lay_22 rfl (lv_at hl 1 rfl) ?_
    refine lv_iconst (pc := 23) (v := 0) hx hb dX4_lay_23 (by decide) ?_
    obtain ⟨hg, hF⟩ := rp_gu_e hF
    refine rp_ast (pc := 24) hC hw (46 + 2 * g0 + 1) (by omega) (xt_num (i := g0) (by omega)) 0 rfl hg dX4_lay_24 (fun H locs hw => ?_)
    obtain ⟨σ1, eσ1, hF⟩ := rp_nm_e hF
    replace hw := rp_Wn eσ1 hw
    clear eσ1
    obtain ⟨x2, ex2, hF⟩ := rp_nm_e hF
    refine lv_iinc (pc := 25) (v := x2) (lv' := [(3, .int x2), (0, .ref (a (46 + 2 * g0)))]) hx hb dX4_lay_25 hl (k := 1) rfl (by rw [ex2]; rfl) (by decide) rfl (fun ls hl => ?_)
    refine lv_goto (pc := 28) (tgt := 12) hx hb dX4_lay_28 (by decide) ?_
    exact hk12 x2 σ1 _ _ _ hF hw (lv_sub hl [1, 0] rfl)
theorem lX4_lay_12 {p : Program} {l : Launch} {e : Env} {s : State} {m : MethodId} {args : Array Value} {below : List Frame} {meth : Method} {c : Code} {D : va_G} {cI cB cS : ClassId} {a : Nat → Nat} {res : Int32 × rp_St} (g0 : Nat) (h_g0 : g0 < 4) (hC : xC p s m args meth c cX4_lay 4 "RegretPegs$Sheet" none D cI cB cS a) : ∀ (n : Nat) (v3 : Int32) (σ : rp_St) (H : Heap) (locs : List Loc) (ls : Array Slot), rp_lp (fun _ _ => none) (fX4_lay_12 g0) n v3 σ = some res → xW D cI cB cS a s σ H locs → lv_has ls 4 [(0, .ref (a (46 + 2 * g0))), (3, .int v3)] → W p l e (rp_rm 1) s m args below meth c H locs 0 0 (MQ below (rp_Qv D a (xt cI cB cS a) 62 res) args s 0 0 (rp_A a 62)) (F0 m 12 ls [])
  | 0, _, _, _, _, _, hF, _, _ => nomatch hF
  | n + 1, v3, σ, H, locs, ls, hF, hw, hl => kX4_lay_12 g0 h_g0 hC (rp_lp (fun _ _ => none) (fX4_lay_12 g0) n) (lX4_lay_12 g0 h_g0 hC n) v3 σ H locs ls hF hw hl
def fX4_lay (g0 : Nat) (v1 : Int32) (v2 : Int32) (σ : rp_St) : Option (Int32 × rp_St) :=
  rp_nm (rp_put σ (46 + 2 * g0) 0 v1) (fun σ1 => rp_nm (rp_put σ1 (46 + 2 * g0) 1 v2) (fun σ2 => rp_lp (fun _ _ => none) (fX4_lay_12 g0) 300 0 σ2))
set_option maxRecDepth 100000 in
set_option maxHeartbeats 4000000 in
theorem kX4_lay_0 {p : Program} {l : Launch} {e : Env} {s : State} {m : MethodId} {args : Array Value} {below : List Frame} {meth : Method} {c : Code} {D : va_G} {cI cB cS : ClassId} {a : Nat → Nat} {res : Int32 × rp_St} (g0 : Nat) (h_g0 : g0 < 4) (hC : xC p s m args meth c cX4_lay 4 "RegretPegs$Sheet" none D cI cB cS a) (v1 : Int32) (v2 : Int32) (σ : rp_St) (H : Heap) (locs : List Loc) (ls : Array Slot) (hF : fX4_lay g0 v1 v2 σ = some res) (hw : xW D cI cB cS a s σ H locs) (hl : lv_has ls 4 [(0, .ref (a (46 + 2 * g0))), (1, .int v1), (2, .int v2)]) : W p l e (rp_rm 1) s m args below meth c H locs 0 0 (MQ below (rp_Qv D a (xt cI cB cS a) 62 res) args s 0 0 (rp_A a 62)) (F0 m 0 ls []) := by
  have hx := hC.1
  have hb := hC.2.1
  have hown := hC.2.2.2.1
  have hts := hC.2.2.2.2.1
  unfold fX4_lay at hF
  refine lv_aload_n (pc := 0) hx hb dX4_lay_0 rfl (lv_at hl 0 rfl) ?_
  refine lv_iload_n (pc := 1) hx hb dX4_lay_1 rfl (lv_at hl 1 rfl) ?_
  refine rp_set (pc := 2) (fs := xb_sheet a (46 + 2 * g0)) hC hw (46 + 2 * g0) (by omega) (xt_sheet (i := g0) (by omega)) fg_X4_9 rfl (Nat.le_of_ble_eq_true rfl) rfl rfl dX4_lay_2 (fun H locs hw => ?_)
  obtain ⟨σ1, eσ1, hF⟩ := rp_nm_e hF
  replace hw := rp_Wn eσ1 hw
  clear eσ1
  refine lv_aload_n (pc := 5) hx hb dX4_lay_5 rfl (lv_at hl 0 rfl) ?_
  refine lv_iload_n (pc := 6) hx hb dX4_lay_6 rfl (lv_at hl 2 rfl) ?_
  refine rp_set (pc := 7) (fs := xb_sheet a (46 + 2 * g0)) hC hw (46 + 2 * g0) (by omega) (xt_sheet (i := g0) (by omega)) fg_X4_15 rfl (Nat.le_of_ble_eq_true rfl) rfl rfl dX4_lay_7 (fun H locs hw => ?_)
  obtain ⟨σ2, eσ2, hF⟩ := rp_nm_e hF
  replace hw := rp_Wn eσ2 hw
  clear eσ2
  refine lv_iconst (pc := 10) (v := 0) hx hb dX4_lay_10 (by decide) ?_
  refine lv_istore_n (pc := 11) (lv' := [(3, .int 0), (0, .ref (a (46 + 2 * g0))), (1, .int v1), (2, .int v2)]) hx hb dX4_lay_11 rfl hl (by decide) rfl (fun ls hl => ?_)
  exact lX4_lay_12 g0 h_g0 hC 300 0 σ2 _ _ _ hF hw (lv_sub hl [1, 0] rfl)
theorem mX4_lay {l : Launch} {D : va_G} {cI cB cS : ClassId} {a : Nat → Nat} (g0 : Nat) (h_g0 : g0 < 4) (v1 : Int32) (v2 : Int32) (σ : rp_St) (res : Int32 × rp_St) (hF : fX4_lay g0 v1 v2 σ = some res) : xM l D cI cB cS a yX4_lay cX4_lay 4 none 1 [.ref (a (46 + 2 * g0)), .int v1, .int v2] σ (rp_Qv D a (xt cI cB cS a) 62 res) :=
  rp_entry (by decide) (Nat.le_of_ble_eq_true rfl) (fun p e s m below meth c ls hC hw hl => kX4_lay_0 g0 h_g0 hC v1 v2 σ _ _ _ hF hw (lv_sub hl [0, 1, 2] rfl))
def fX6_sheet_29 (σ : rp_St) : Option (Int32 × rp_St) :=
  rp_bd (fX6_refuse 1 σ) (fun r1 σ2 => some (r1, σ2))
set_option maxRecDepth 100000 in
set_option maxHeartbeats 4000000 in
theorem kX6_sheet_29 {p : Program} {l : Launch} {e : Env} {s : State} {m : MethodId} {args : Array Value} {below : List Frame} {meth : Method} {c : Code} {D : va_G} {cI cB cS : ClassId} {a : Nat → Nat} {res : Int32 × rp_St} (hC : xC p s m args meth c cX6_sheet 4 "RegretPegs" (some .int) D cI cB cS a) (σ : rp_St) (H : Heap) (locs : List Loc) (ls : Array Slot) (hF : fX6_sheet_29 σ = some res) (hw : xW D cI cB cS a s σ H locs) (hl : lv_has ls 4 [(0, .ref (a 54))]) : W p l e (rp_rm 2) s m args below meth c H locs 0 0 (MQ below (rp_Qi D a (xt cI cB cS a) 62 res) args s 0 0 (rp_A a 62)) (F0 m 29 ls []) := by
  have hx := hC.1
  have hb := hC.2.1
  have hown := hC.2.2.2.1
  have hts := hC.2.2.2.2.1
  unfold fX6_sheet_29 at hF
  refine lv_aload_n (pc := 29) hx hb dX6_sheet_29 rfl (lv_at hl 0 rfl) ?_
  refine lv_iconst (pc := 30) (v := 1) hx hb dX6_sheet_30 (by decide) ?_
  obtain ⟨r1, σ2, hq, hF⟩ := rp_bd_e hF
  refine rp_ki (rp_runV (rest := []) hC (xE_ok _) hw hl.1 (mX6_refuse (l := l) 1 σ _ hq) vw_X6_66 (by decide) (xt_reg _) rfl rfl rfl (Nat.le_of_ble_eq_true rfl) (by decide) dX6_sheet_31) hw (fun H locs hw => ?_)
  clear hq
  exact rp_reti (pc := 34) hC hw hF dX6_sheet_34
def fX6_sheet_35 (v1 : Int32) (v2 : Int32) (v3 : Int32) (σ : rp_St) : Option (Int32 × rp_St) :=
  (if v2 = 0 then rp_gu (rp_in v1 4) (rp_nm (v1 : Int32).toNatClampNeg (fun w8 => rp_bd (fX4_lay w8 0 0 σ) (fun _ σ10 => some (1, σ10)))) else (if 0 ≤ v3 then (if v3 ≤ 40 then rp_gu (rp_in v1 4) (rp_nm (v1 : Int32).toNatClampNeg (fun w1 => rp_bd (fX4_lay w1 v2 v3 σ) (fun _ σ3 => some (1, σ3)))) else rp_bd (fX6_refuse 1 σ) (fun r4 σ5 => some (r4, σ5))) else rp_bd (fX6_refuse 3 σ) (fun r6 σ7 => some (r6, σ7))))
set_option maxRecDepth 100000 in
set_option maxHeartbeats 4000000 in
theorem kX6_sheet_35 {p : Program} {l : Launch} {e : Env} {s : State} {m : MethodId} {args : Array Value} {below : List Frame} {meth : Method} {c : Code} {D : va_G} {cI cB cS : ClassId} {a : Nat → Nat} {res : Int32 × rp_St} (hC : xC p s m args meth c cX6_sheet 4 "RegretPegs" (some .int) D cI cB cS a) (v1 : Int32) (v2 : Int32) (v3 : Int32) (σ : rp_St) (H : Heap) (locs : List Loc) (ls : Array Slot) (hF : fX6_sheet_35 v1 v2 v3 σ = some res) (hw : xW D cI cB cS a s σ H locs) (hl : lv_has ls 4 [(0, .ref (a 54)), (1, .int v1), (2, .int v2), (3, .int v3)]) : W p l e (rp_rm 2) s m args below meth c H locs 0 0 (MQ below (rp_Qi D a (xt cI cB cS a) 62 res) args s 0 0 (rp_A a 62)) (F0 m 35 ls []) := by
  have hx := hC.1
  have hb := hC.2.1
  have hown := hC.2.2.2.1
  have hts := hC.2.2.2.2.1
  unfold fX6_sheet_35 at hF
  refine lv_iload_n (pc := 35) hx hb dX6_sheet_35 rfl (lv_at hl 2 rfl) ?_
  refine lv_if_ne (pc := 36) (tgt := 52) hx hb dX6_sheet_36 (by decide) (fun hc => ?_) (fun hc => ?_)
  · replace hF := rp_if hc hF
    refine lv_iload_n (pc := 52) hx hb dX6_sheet_52 rfl (lv_at hl 3 rfl) ?_
    refine lv_if_ge (pc := 53) (tgt := 62) hx hb dX6_sheet_53 (by decide) (fun hc => ?_) (fun hc => ?_)
    · replace hF := rp_it hc hF
      refine lv_iload_n (pc := 62) hx hb dX6_sheet_62 rfl (lv_at hl 3 rfl) ?_
      refine lv_bipush (pc := 63) (v := 40) hx hb dX6_sheet_63 (by decide) ?_
      refine lv_icmp_le (pc := 65) (tgt := 74) hx hb dX6_sheet_65 (by decide) (fun hc => ?_) (fun hc => ?_)
      · replace hF := rp_it hc hF
        refine lv_aload_n (pc := 74) hx hb dX6_sheet_74 rfl (lv_at hl 0 rfl) ?_
        refine rp_get (pc := 75) hC hw 54 (by decide) (xt_reg _) fl_X6_50 (.ref (a 56)) rfl dX6_sheet_75 ?_
        refine lv_iload_n (pc := 78) hx hb dX6_sheet_78 rfl (lv_at hl 1 rfl) ?_
        obtain ⟨hg, hF⟩ := rp_gu_e hF
        have hww1 := rp_in_lt hg
        refine rp_aald (pc := 79) hC hw 56 (by decide) xt_shs 2 rfl hg dX6_sheet_79 ?_
        obtain ⟨w1, ew1, hF⟩ := rp_nm_e hF
        rw [← ew1] at hww1
        refine W.eq (g2 := F0 m 80 ls [.ref (a (46 + 2 * w1))]) (by rw [ew1]; rfl) ?_
        refine lv_iload_n (pc := 80) hx hb dX6_sheet_80 rfl (lv_at hl 2 rfl) ?_
        refine lv_iload_n (pc := 81) hx hb dX6_sheet_81 rfl (lv_at hl 3 rfl) ?_
        obtain ⟨r2, σ3, hq, hF⟩ := rp_bd_e hF
        refine rp_kv (rp_runV (rest := []) hC (xE_ok _) hw hl.1 (mX4_lay (l := l) w1 (by omega) v2 v3 σ _ hq) vw_X6_226 (by omega) ((xt_sheet (i := w1) (by omega)) _) rfl rfl rfl (Nat.le_of_ble_eq_true rfl) (by decide) dX6_sheet_82) hw (fun H locs hw => ?_)
        clear hq
        refine lv_iconst (pc := 85) (v := 1) hx hb dX6_sheet_85 (by decide) ?_
        exact rp_reti (pc := 86) hC hw hF dX6_sheet_86
      · replace hF := rp_if hc hF
        refine lv_aload_n (pc := 68) hx hb dX6_sheet_68 rfl (lv_at hl 0 rfl) ?_
        refine lv_iconst (pc := 69) (v := 1) hx hb dX6_sheet_69 (by decide) ?_
        obtain ⟨r4, σ5, hq, hF⟩ := rp_bd_e hF
        refine rp_ki (rp_runV (rest := []) hC (xE_ok _) hw hl.1 (mX6_refuse (l := l) 1 σ _ hq) vw_X6_66 (by decide) (xt_reg _) rfl rfl rfl (Nat.le_of_ble_eq_true rfl) (by decide) dX6_sheet_70) hw (fun H locs hw => ?_)
        clear hq
        exact rp_reti (pc := 73) hC hw hF dX6_sheet_73
    · replace hF := rp_if hc hF
      refine lv_aload_n (pc := 56) hx hb dX6_sheet_56 rfl (lv_at hl 0 rfl) ?_
      refine lv_iconst (pc := 57) (v := 3) hx hb dX6_sheet_57 (by decide) ?_
      obtain ⟨r6, σ7, hq, hF⟩ := rp_bd_e hF
      refine rp_ki (rp_runV (rest := []) hC (xE_ok _) hw hl.1 (mX6_refuse (l := l) 3 σ _ hq) vw_X6_66 (by decide) (xt_reg _) rfl rfl rfl (Nat.le_of_ble_eq_true rfl) (by decide) dX6_sheet_58) hw (fun H locs hw => ?_)
      clear hq
      exact rp_reti (pc := 61) hC hw hF dX6_sheet_61
  · replace hF := rp_it hc hF
    refine lv_aload_n (pc := 39) hx hb dX6_sheet_39 rfl (lv_at hl 0 rfl) ?_
    refine rp_get (pc := 40) hC hw 54 (by decide) (xt_reg _) fl_X6_50 (.ref (a 56)) rfl dX6_sheet_40 ?_
    refine lv_iload_n (pc := 43) hx hb dX6_sheet_43 rfl (lv_at hl 1 rfl) ?_
    obtain ⟨hg, hF⟩ := rp_gu_e hF
    have hww8 := rp_in_lt hg
    refine rp_aald (pc := 44) hC hw 56 (by decide) xt_shs 2 rfl hg dX6_sheet_44 ?_
    obtain ⟨w8, ew8, hF⟩ := rp_nm_e hF
    rw [← ew8] at hww8
    refine W.eq (g2 := F0 m 45 ls [.ref (a (46 + 2 * w8))]) (by rw [ew8]; rfl) ?_
    refine lv_iconst (pc := 45) (v := 0) hx hb dX6_sheet_45 (by decide) ?_
    refine lv_iconst (pc := 46) (v := 0) hx hb dX6_sheet_46 (by decide) ?_
    obtain ⟨r9, σ10, hq, hF⟩ := rp_bd_e hF
    refine rp_kv (rp_runV (rest := []) hC (xE_ok _) hw hl.1 (mX4_lay (l := l) w8 (by omega) 0 0 σ _ hq) vw_X6_226 (by omega) ((xt_sheet (i := w8) (by omega)) _) rfl rfl rfl (Nat.le_of_ble_eq_true rfl) (by decide) dX6_sheet_47) hw (fun H locs hw => ?_)
    clear hq
    refine lv_iconst (pc := 50) (v := 1) hx hb dX6_sheet_50 (by decide) ?_
    exact rp_reti (pc := 51) hC hw hF dX6_sheet_51
def fX6_sheet (v1 : Int32) (v2 : Int32) (v3 : Int32) (σ : rp_St) : Option (Int32 × rp_St) :=
  rp_bd (fX6_isSheet v1 σ) (fun r1 σ2 => (if r1 = 0 then fX6_sheet_29 σ2 else (if v2 = 0 then fX6_sheet_35 v1 v2 v3 σ2 else (if v2 = 8 then fX6_sheet_35 v1 v2 v3 σ2 else (if v2 = 16 then fX6_sheet_35 v1 v2 v3 σ2 else (if v2 = 32 then fX6_sheet_35 v1 v2 v3 σ2 else fX6_sheet_29 σ2))))))
set_option maxRecDepth 100000 in
set_option maxHeartbeats 4000000 in
theorem kX6_sheet_0 {p : Program} {l : Launch} {e : Env} {s : State} {m : MethodId} {args : Array Value} {below : List Frame} {meth : Method} {c : Code} {D : va_G} {cI cB cS : ClassId} {a : Nat → Nat} {res : Int32 × rp_St} (hC : xC p s m args meth c cX6_sheet 4 "RegretPegs" (some .int) D cI cB cS a) (v1 : Int32) (v2 : Int32) (v3 : Int32) (σ : rp_St) (H : Heap) (locs : List Loc) (ls : Array Slot) (hF : fX6_sheet v1 v2 v3 σ = some res) (hw : xW D cI cB cS a s σ H locs) (hl : lv_has ls 4 [(0, .ref (a 54)), (1, .int v1), (2, .int v2), (3, .int v3)]) : W p l e (rp_rm 2) s m args below meth c H locs 0 0 (MQ below (rp_Qi D a (xt cI cB cS a) 62 res) args s 0 0 (rp_A a 62)) (F0 m 0 ls []) := by
  have hx := hC.1
  have hb := hC.2.1
  have hown := hC.2.2.2.1
  have hts := hC.2.2.2.2.1
  unfold fX6_sheet at hF
  refine lv_iload_n (pc := 0) hx hb dX6_sheet_0 rfl (lv_at hl 1 rfl) ?_
  obtain ⟨r1, σ2, hq, hF⟩ := rp_bd_e hF
  refine rp_ki (rp_runZ (rest := []) hC (xE_ok _) hw hl.1 (mX6_isSheet (l := l) v1 σ _ hq) zw_X6_196 rfl rfl (Nat.le_of_ble_eq_true rfl) (by decide) dX6_sheet_1) hw (fun H locs hw => ?_)
  clear hq
  refine lv_if_eq (pc := 4) (tgt := 29) hx hb dX6_sheet_4 (by decide) (fun hc => ?_) (fun hc => ?_)
  · replace hF := rp_it hc hF
    exact kX6_sheet_29 hC σ2 _ _ _ hF hw (lv_sub hl [0] rfl)
  · replace hF := rp_if hc hF
    refine lv_iload_n (pc := 7) hx hb dX6_sheet_7 rfl (lv_at hl 2 rfl) ?_
    refine lv_if_eq (pc := 8) (tgt := 35) hx hb dX6_sheet_8 (by decide) (fun hc => ?_) (fun hc => ?_)
    · replace hF := rp_it hc hF
      exact kX6_sheet_35 hC v1 v2 v3 σ2 _ _ _ hF hw (lv_sub hl [0, 1, 2, 3] rfl)
    · replace hF := rp_if hc hF
      refine lv_iload_n (pc := 11) hx hb dX6_sheet_11 rfl (lv_at hl 2 rfl) ?_
      refine lv_bipush (pc := 12) (v := 8) hx hb dX6_sheet_12 (by decide) ?_
      refine lv_icmp_eq (pc := 14) (tgt := 35) hx hb dX6_sheet_14 (by decide) (fun hc => ?_) (fun hc => ?_)
      · replace hF := rp_it hc hF
        exact kX6_sheet_35 hC v1 v2 v3 σ2 _ _ _ hF hw (lv_sub hl [0, 1, 2, 3] rfl)
      · replace hF := rp_if hc hF
        refine lv_iload_n (pc := 17) hx hb dX6_sheet_17 rfl (lv_at hl 2 rfl) ?_
        refine lv_bipush (pc := 18) (v := 16) hx hb dX6_sheet_18 (by decide) ?_
        refine lv_icmp_eq (pc := 20) (tgt := 35) hx hb dX6_sheet_20 (by decide) (fun hc => ?_) (fun hc => ?_)
        · replace hF := rp_it hc hF
          exact kX6_sheet_35 hC v1 v2 v3 σ2 _ _ _ hF hw (lv_sub hl [0, 1, 2, 3] rfl)
        · replace hF := rp_if hc hF
          refine lv_iload_n (pc := 23) hx hb dX6_sheet_23 rfl (lv_at hl 2 rfl) ?_
          refine lv_bipush (pc := 24) (v := 32) hx hb dX6_sheet_24 (by decide) ?_
          refine lv_icmp_eq (pc := 26) (tgt := 35) hx hb dX6_sheet_26 (by decide) (fun hc => ?_) (fun hc => ?_)
          · replace hF := rp_it hc hF
            exact kX6_sheet_35 hC v1 v2 v3 σ2 _ _ _ hF hw (lv_sub hl [0, 1, 2, 3] rfl)
          · replace hF := rp_if hc hF
            exact kX6_sheet_29 hC σ2 _ _ _ hF hw (lv_sub hl [0] rfl)
theorem mX6_sheet {l : Launch} {D : va_G} {cI cB cS : ClassId} {a : Nat → Nat} (v1 : Int32) (v2 : Int32) (v3 : Int32) (σ : rp_St) (res : Int32 × rp_St) (hF : fX6_sheet v1 v2 v3 σ = some res) : xM l D cI cB cS a yX6_sheet cX6_sheet 4 (some .int) 2 [.ref (a 54), .int v1, .int v2, .int v3] σ (rp_Qi D a (xt cI cB cS a) 62 res) :=
  rp_entry (by decide) (Nat.le_of_ble_eq_true rfl) (fun p e s m below meth c ls hC hw hl => kX6_sheet_0 hC v1 v2 v3 σ _ _ _ hF hw (lv_sub hl [0, 1, 2, 3] rfl))
def fX4_write (g0 : Nat) (v1 : Int32) (v2 : Int32) (σ : rp_St) : Option (Int32 × rp_St) :=
  (if (σ (46 + 2 * g0) 0) = 8 then rp_gu (rp_in v1 40) (rp_nm (rp_put σ (46 + 2 * g0 + 1) (v1 : Int32).toNatClampNeg ((v2 : Int32).toInt8.toInt32)) (fun σ3 => some (0, σ3))) else (if (σ (46 + 2 * g0) 0) = 16 then rp_gu (rp_in v1 40) (rp_nm (rp_put σ (46 + 2 * g0 + 1) (v1 : Int32).toNatClampNeg ((v2 : Int32).toInt16.toInt32)) (fun σ2 => some (0, σ2))) else rp_gu (rp_in v1 40) (rp_nm (rp_put σ (46 + 2 * g0 + 1) (v1 : Int32).toNatClampNeg v2) (fun σ1 => some (0, σ1)))))
set_option maxRecDepth 100000 in
set_option maxHeartbeats 4000000 in
theorem kX4_write_0 {p : Program} {l : Launch} {e : Env} {s : State} {m : MethodId} {args : Array Value} {below : List Frame} {meth : Method} {c : Code} {D : va_G} {cI cB cS : ClassId} {a : Nat → Nat} {res : Int32 × rp_St} (g0 : Nat) (h_g0 : g0 < 4) (hC : xC p s m args meth c cX4_write 3 "RegretPegs$Sheet" none D cI cB cS a) (v1 : Int32) (v2 : Int32) (σ : rp_St) (H : Heap) (locs : List Loc) (ls : Array Slot) (hF : fX4_write g0 v1 v2 σ = some res) (hw : xW D cI cB cS a s σ H locs) (hl : lv_has ls 3 [(0, .ref (a (46 + 2 * g0))), (1, .int v1), (2, .int v2)]) : W p l e (rp_rm 1) s m args below meth c H locs 0 0 (MQ below (rp_Qv D a (xt cI cB cS a) 62 res) args s 0 0 (rp_A a 62)) (F0 m 0 ls []) := by
  have hx := hC.1
  have hb := hC.2.1
  have hown := hC.2.2.2.1
  have hts := hC.2.2.2.2.1
  unfold fX4_write at hF
  refine lv_aload_n (pc := 0) hx hb dX4_write_0 rfl (lv_at hl 0 rfl) ?_
  refine rp_get (pc := 1) hC hw (46 + 2 * g0) (by omega) ((xt_sheet (i := g0) (by omega)) _) fl_X4_9 (.int (σ (46 + 2 * g0) 0)) rfl dX4_write_1 ?_
  refine lv_bipush (pc := 4) (v := 8) hx hb dX4_write_4 (by decide) ?_
  refine lv_icmp_ne (pc := 6) (tgt := 20) hx hb dX4_write_6 (by decide) (fun hc => ?_) (fun hc => ?_)
  · replace hF := rp_if hc hF
    refine lv_aload_n (pc := 20) hx hb dX4_write_20 rfl (lv_at hl 0 rfl) ?_
    refine rp_get (pc := 21) hC hw (46 + 2 * g0) (by omega) ((xt_sheet (i := g0) (by omega)) _) fl_X4_9 (.int (σ (46 + 2 * g0) 0)) rfl dX4_write_21 ?_
    refine lv_bipush (pc := 24) (v := 16) hx hb dX4_write_24 (by decide) ?_
    refine lv_icmp_ne (pc := 26) (tgt := 40) hx hb dX4_write_26 (by decide) (fun hc => ?_) (fun hc => ?_)
    · replace hF := rp_if hc hF
      refine lv_aload_n (pc := 40) hx hb dX4_write_40 rfl (lv_at hl 0 rfl) ?_
      refine rp_get (pc := 41) hC hw (46 + 2 * g0) (by omega) ((xt_sheet (i := g0) (by omega)) _) fl_X4_18 (.ref (a (46 + 2 * g0 + 1))) rfl dX4_write_41 ?_
      refine lv_iload_n (pc := 44) hx hb dX4_write_44 rfl (lv_at hl 1 rfl) ?_
      refine lv_iload_n (pc := 45) hx hb dX4_write_45 rfl (lv_at hl 2 rfl) ?_
      obtain ⟨hg, hF⟩ := rp_gu_e hF
      refine rp_ast (pc := 46) hC hw (46 + 2 * g0 + 1) (by omega) (xt_num (i := g0) (by omega)) 0 rfl hg dX4_write_46 (fun H locs hw => ?_)
      obtain ⟨σ1, eσ1, hF⟩ := rp_nm_e hF
      replace hw := rp_Wn eσ1 hw
      clear eσ1
      exact rp_retv (pc := 47) hC hw hF dX4_write_47
    · replace hF := rp_it hc hF
      refine lv_aload_n (pc := 29) hx hb dX4_write_29 rfl (lv_at hl 0 rfl) ?_
      refine rp_get (pc := 30) hC hw (46 + 2 * g0) (by omega) ((xt_sheet (i := g0) (by omega)) _) fl_X4_18 (.ref (a (46 + 2 * g0 + 1))) rfl dX4_write_30 ?_
      refine lv_iload_n (pc := 33) hx hb dX4_write_33 rfl (lv_at hl 1 rfl) ?_
      refine lv_iload_n (pc := 34) hx hb dX4_write_34 rfl (lv_at hl 2 rfl) ?_
      refine lv_i2s (pc := 35) hx hb dX4_write_35 rfl ?_
      obtain ⟨hg, hF⟩ := rp_gu_e hF
      refine rp_ast (pc := 36) hC hw (46 + 2 * g0 + 1) (by omega) (xt_num (i := g0) (by omega)) 0 rfl hg dX4_write_36 (fun H locs hw => ?_)
      obtain ⟨σ2, eσ2, hF⟩ := rp_nm_e hF
      replace hw := rp_Wn eσ2 hw
      clear eσ2
      refine lv_goto (pc := 37) (tgt := 47) hx hb dX4_write_37 (by decide) ?_
      exact rp_retv (pc := 47) hC hw hF dX4_write_47
  · replace hF := rp_it hc hF
    refine lv_aload_n (pc := 9) hx hb dX4_write_9 rfl (lv_at hl 0 rfl) ?_
    refine rp_get (pc := 10) hC hw (46 + 2 * g0) (by omega) ((xt_sheet (i := g0) (by omega)) _) fl_X4_18 (.ref (a (46 + 2 * g0 + 1))) rfl dX4_write_10 ?_
    refine lv_iload_n (pc := 13) hx hb dX4_write_13 rfl (lv_at hl 1 rfl) ?_
    refine lv_iload_n (pc := 14) hx hb dX4_write_14 rfl (lv_at hl 2 rfl) ?_
    refine lv_i2b (pc := 15) hx hb dX4_write_15 rfl ?_
    obtain ⟨hg, hF⟩ := rp_gu_e hF
    refine rp_ast (pc := 16) hC hw (46 + 2 * g0 + 1) (by omega) (xt_num (i := g0) (by omega)) 0 rfl hg dX4_write_16 (fun H locs hw => ?_)
    obtain ⟨σ3, eσ3, hF⟩ := rp_nm_e hF
    replace hw := rp_Wn eσ3 hw
    clear eσ3
    refine lv_goto (pc := 17) (tgt := 47) hx hb dX4_write_17 (by decide) ?_
    exact rp_retv (pc := 47) hC hw hF dX4_write_47
theorem mX4_write {l : Launch} {D : va_G} {cI cB cS : ClassId} {a : Nat → Nat} (g0 : Nat) (h_g0 : g0 < 4) (v1 : Int32) (v2 : Int32) (σ : rp_St) (res : Int32 × rp_St) (hF : fX4_write g0 v1 v2 σ = some res) : xM l D cI cB cS a yX4_write cX4_write 3 none 1 [.ref (a (46 + 2 * g0)), .int v1, .int v2] σ (rp_Qv D a (xt cI cB cS a) 62 res) :=
  rp_entry (by decide) (Nat.le_of_ble_eq_true rfl) (fun p e s m below meth c ls hC hw hl => kX4_write_0 g0 h_g0 hC v1 v2 σ _ _ _ hF hw (lv_sub hl [0, 1, 2] rfl))
def fX6_put (v1 : Int32) (v2 : Int32) (v3 : Int32) (σ : rp_St) : Option (Int32 × rp_St) :=
  rp_bd (fX6_isSheet v1 σ) (fun r1 σ2 => (if r1 = 0 then rp_bd (fX6_refuse 1 σ2) (fun r14 σ15 => some (r14, σ15)) else rp_gu (rp_in v1 4) (rp_nm (v1 : Int32).toNatClampNeg (fun w3 => (if (σ2 (46 + 2 * w3) 0) = 0 then rp_bd (fX6_refuse 2 σ2) (fun r12 σ13 => some (r12, σ13)) else rp_gu (rp_in v1 4) (rp_nm (v1 : Int32).toNatClampNeg (fun w4 => rp_bd (fX6_isWithin v2 0 ((σ2 (46 + 2 * w4) 1) - 1) σ2) (fun r5 σ6 => (if r5 = 0 then rp_bd (fX6_refuse 1 σ6) (fun r10 σ11 => some (r10, σ11)) else rp_gu (rp_in v1 4) (rp_nm (v1 : Int32).toNatClampNeg (fun w7 => rp_bd (fX4_write w7 v2 v3 σ6) (fun _ σ9 => some (1, σ9)))))))))))))
set_option maxRecDepth 100000 in
set_option maxHeartbeats 4000000 in
theorem kX6_put_0 {p : Program} {l : Launch} {e : Env} {s : State} {m : MethodId} {args : Array Value} {below : List Frame} {meth : Method} {c : Code} {D : va_G} {cI cB cS : ClassId} {a : Nat → Nat} {res : Int32 × rp_St} (hC : xC p s m args meth c cX6_put 4 "RegretPegs" (some .int) D cI cB cS a) (v1 : Int32) (v2 : Int32) (v3 : Int32) (σ : rp_St) (H : Heap) (locs : List Loc) (ls : Array Slot) (hF : fX6_put v1 v2 v3 σ = some res) (hw : xW D cI cB cS a s σ H locs) (hl : lv_has ls 4 [(0, .ref (a 54)), (1, .int v1), (2, .int v2), (3, .int v3)]) : W p l e (rp_rm 2) s m args below meth c H locs 0 0 (MQ below (rp_Qi D a (xt cI cB cS a) 62 res) args s 0 0 (rp_A a 62)) (F0 m 0 ls []) := by
  have hx := hC.1
  have hb := hC.2.1
  have hown := hC.2.2.2.1
  have hts := hC.2.2.2.2.1
  unfold fX6_put at hF
  refine lv_iload_n (pc := 0) hx hb dX6_put_0 rfl (lv_at hl 1 rfl) ?_
  obtain ⟨r1, σ2, hq, hF⟩ := rp_bd_e hF
  refine rp_ki (rp_runZ (rest := []) hC (xE_ok _) hw hl.1 (mX6_isSheet (l := l) v1 σ _ hq) zw_X6_196 rfl rfl (Nat.le_of_ble_eq_true rfl) (by decide) dX6_put_1) hw (fun H locs hw => ?_)
  clear hq
  refine lv_if_ne (pc := 4) (tgt := 13) hx hb dX6_put_4 (by decide) (fun hc => ?_) (fun hc => ?_)
  · replace hF := rp_if hc hF
    refine lv_aload_n (pc := 13) hx hb dX6_put_13 rfl (lv_at hl 0 rfl) ?_
    refine rp_get (pc := 14) hC hw 54 (by decide) (xt_reg _) fl_X6_50 (.ref (a 56)) rfl dX6_put_14 ?_
    refine lv_iload_n (pc := 17) hx hb dX6_put_17 rfl (lv_at hl 1 rfl) ?_
    obtain ⟨hg, hF⟩ := rp_gu_e hF
    have hww3 := rp_in_lt hg
    refine rp_aald (pc := 18) hC hw 56 (by decide) xt_shs 2 rfl hg dX6_put_18 ?_
    obtain ⟨w3, ew3, hF⟩ := rp_nm_e hF
    rw [← ew3] at hww3
    refine W.eq (g2 := F0 m 19 ls [.ref (a (46 + 2 * w3))]) (by rw [ew3]; rfl) ?_
    refine rp_get (pc := 19) hC hw (46 + 2 * w3) (by omega) ((xt_sheet (i := w3) (by omega)) _) fl_X6_199 (.int (σ2 (46 + 2 * w3) 0)) rfl dX6_put_19 ?_
    refine lv_if_ne (pc := 22) (tgt := 31) hx hb dX6_put_22 (by decide) (fun hc => ?_) (fun hc => ?_)
    · replace hF := rp_if hc hF
      refine lv_iload_n (pc := 31) hx hb dX6_put_31 rfl (lv_at hl 2 rfl) ?_
      refine lv_iconst (pc := 32) (v := 0) hx hb dX6_put_32 (by decide) ?_
      refine lv_aload_n (pc := 33) hx hb dX6_put_33 rfl (lv_at hl 0 rfl) ?_
      refine rp_get (pc := 34) hC hw 54 (by decide) (xt_reg _) fl_X6_50 (.ref (a 56)) rfl dX6_put_34 ?_
      refine lv_iload_n (pc := 37) hx hb dX6_put_37 rfl (lv_at hl 1 rfl) ?_
      obtain ⟨hg, hF⟩ := rp_gu_e hF
      have hww4 := rp_in_lt hg
      refine rp_aald (pc := 38) hC hw 56 (by decide) xt_shs 2 rfl hg dX6_put_38 ?_
      obtain ⟨w4, ew4, hF⟩ := rp_nm_e hF
      rw [← ew4] at hww4
      refine W.eq (g2 := F0 m 39 ls [.ref (a (46 + 2 * w4)), .int 0, .int v2]) (by rw [ew4]; rfl) ?_
      refine rp_get (pc := 39) hC hw (46 + 2 * w4) (by omega) ((xt_sheet (i := w4) (by omega)) _) fl_X6_202 (.int (σ2 (46 + 2 * w4) 1)) rfl dX6_put_39 ?_
      refine lv_iconst (pc := 42) (v := 1) hx hb dX6_put_42 (by decide) ?_
      refine lv_isub (pc := 43) hx hb dX6_put_43 ?_
      obtain ⟨r5, σ6, hq, hF⟩ := rp_bd_e hF
      refine rp_ki (rp_runZ (rest := []) hC (xE_ok _) hw hl.1 (mX6_isWithin (l := l) v2 0 ((σ2 (46 + 2 * w4) 1) - 1) σ2 _ hq) zw_X6_62 rfl rfl (Nat.le_of_ble_eq_true rfl) (by decide) dX6_put_44) hw (fun H locs hw => ?_)
      clear hq
      refine lv_if_ne (pc := 47) (tgt := 56) hx hb dX6_put_47 (by decide) (fun hc => ?_) (fun hc => ?_)
      · replace hF := rp_if hc hF
        refine lv_aload_n (pc := 56) hx hb dX6_put_56 rfl (lv_at hl 0 rfl) ?_
        refine rp_get (pc := 57) hC hw 54 (by decide) (xt_reg _) fl_X6_50 (.ref (a 56)) rfl dX6_put_57 ?_
        refine lv_iload_n (pc := 60) hx hb dX6_put_60 rfl (lv_at hl 1 rfl) ?_
        obtain ⟨hg, hF⟩ := rp_gu_e hF
        have hww7 := rp_in_lt hg
        refine rp_aald (pc := 61) hC hw 56 (by decide) xt_shs 2 rfl hg dX6_put_61 ?_
        obtain ⟨w7, ew7, hF⟩ := rp_nm_e hF
        rw [← ew7] at hww7
        refine W.eq (g2 := F0 m 62 ls [.ref (a (46 + 2 * w7))]) (by rw [ew7]; rfl) ?_
        refine lv_iload_n (pc := 62) hx hb dX6_put_62 rfl (lv_at hl 2 rfl) ?_
        refine lv_iload_n (pc := 63) hx hb dX6_put_63 rfl (lv_at hl 3 rfl) ?_
        obtain ⟨r8, σ9, hq, hF⟩ := rp_bd_e hF
        refine rp_kv (rp_runV (rest := []) hC (xE_ok _) hw hl.1 (mX4_write (l := l) w7 (by omega) v2 v3 σ6 _ hq) vw_X6_229 (by omega) ((xt_sheet (i := w7) (by omega)) _) rfl rfl rfl (Nat.le_of_ble_eq_true rfl) (by decide) dX6_put_64) hw (fun H locs hw => ?_)
        clear hq
        refine lv_iconst (pc := 67) (v := 1) hx hb dX6_put_67 (by decide) ?_
        exact rp_reti (pc := 68) hC hw hF dX6_put_68
      · replace hF := rp_it hc hF
        refine lv_aload_n (pc := 50) hx hb dX6_put_50 rfl (lv_at hl 0 rfl) ?_
        refine lv_iconst (pc := 51) (v := 1) hx hb dX6_put_51 (by decide) ?_
        obtain ⟨r10, σ11, hq, hF⟩ := rp_bd_e hF
        refine rp_ki (rp_runV (rest := []) hC (xE_ok _) hw hl.1 (mX6_refuse (l := l) 1 σ6 _ hq) vw_X6_66 (by decide) (xt_reg _) rfl rfl rfl (Nat.le_of_ble_eq_true rfl) (by decide) dX6_put_52) hw (fun H locs hw => ?_)
        clear hq
        exact rp_reti (pc := 55) hC hw hF dX6_put_55
    · replace hF := rp_it hc hF
      refine lv_aload_n (pc := 25) hx hb dX6_put_25 rfl (lv_at hl 0 rfl) ?_
      refine lv_iconst (pc := 26) (v := 2) hx hb dX6_put_26 (by decide) ?_
      obtain ⟨r12, σ13, hq, hF⟩ := rp_bd_e hF
      refine rp_ki (rp_runV (rest := []) hC (xE_ok _) hw hl.1 (mX6_refuse (l := l) 2 σ2 _ hq) vw_X6_66 (by decide) (xt_reg _) rfl rfl rfl (Nat.le_of_ble_eq_true rfl) (by decide) dX6_put_27) hw (fun H locs hw => ?_)
      clear hq
      exact rp_reti (pc := 30) hC hw hF dX6_put_30
  · replace hF := rp_it hc hF
    refine lv_aload_n (pc := 7) hx hb dX6_put_7 rfl (lv_at hl 0 rfl) ?_
    refine lv_iconst (pc := 8) (v := 1) hx hb dX6_put_8 (by decide) ?_
    obtain ⟨r14, σ15, hq, hF⟩ := rp_bd_e hF
    refine rp_ki (rp_runV (rest := []) hC (xE_ok _) hw hl.1 (mX6_refuse (l := l) 1 σ2 _ hq) vw_X6_66 (by decide) (xt_reg _) rfl rfl rfl (Nat.le_of_ble_eq_true rfl) (by decide) dX6_put_9) hw (fun H locs hw => ?_)
    clear hq
    exact rp_reti (pc := 12) hC hw hF dX6_put_12
theorem mX6_put {l : Launch} {D : va_G} {cI cB cS : ClassId} {a : Nat → Nat} (v1 : Int32) (v2 : Int32) (v3 : Int32) (σ : rp_St) (res : Int32 × rp_St) (hF : fX6_put v1 v2 v3 σ = some res) : xM l D cI cB cS a yX6_put cX6_put 4 (some .int) 2 [.ref (a 54), .int v1, .int v2, .int v3] σ (rp_Qi D a (xt cI cB cS a) 62 res) :=
  rp_entry (by decide) (Nat.le_of_ble_eq_true rfl) (fun p e s m below meth c ls hC hw hl => kX6_put_0 hC v1 v2 v3 σ _ _ _ hF hw (lv_sub hl [0, 1, 2, 3] rfl))
def fX4_hasStretch (g0 : Nat) (v1 : Int32) (v2 : Int32) (σ : rp_St) : Option (Int32 × rp_St) :=
  (if v2 < 0 then some (0, σ) else (if v1 < 0 then some (0, σ) else (if (σ (46 + 2 * g0) 1) < v1 then some (0, σ) else (if ((σ (46 + 2 * g0) 1) - v1) < v2 then some (0, σ) else some (1, σ)))))
set_option maxRecDepth 100000 in
set_option maxHeartbeats 4000000 in
theorem kX4_hasStretch_0 {p : Program} {l : Launch} {e : Env} {s : State} {m : MethodId} {args : Array Value} {below : List Frame} {meth : Method} {c : Code} {D : va_G} {cI cB cS : ClassId} {a : Nat → Nat} {res : Int32 × rp_St} (g0 : Nat) (h_g0 : g0 < 4) (hC : xC p s m args meth c cX4_hasStretch 3 "RegretPegs$Sheet" (some .boolean) D cI cB cS a) (v1 : Int32) (v2 : Int32) (σ : rp_St) (H : Heap) (locs : List Loc) (ls : Array Slot) (hF : fX4_hasStretch g0 v1 v2 σ = some res) (hw : xW D cI cB cS a s σ H locs) (hl : lv_has ls 3 [(0, .ref (a (46 + 2 * g0))), (1, .int v1), (2, .int v2)]) : W p l e (rp_rm 1) s m args below meth c H locs 0 0 (MQ below (rp_Qi D a (xt cI cB cS a) 62 res) args s 0 0 (rp_A a 62)) (F0 m 0 ls []) := by
  have hx := hC.1
  have hb := hC.2.1
  have hown := hC.2.2.2.1
  have hts := hC.2.2.2.2.1
  unfold fX4_hasStretch at hF
  refine lv_iload_n (pc := 0) hx hb dX4_hasStretch_0 rfl (lv_at hl 2 rfl) ?_
  refine lv_if_lt (pc := 1) (tgt := 30) hx hb dX4_hasStretch_1 (by decide) (fun hc => ?_) (fun hc => ?_)
  · replace hF := rp_it hc hF
    refine lv_iconst (pc := 30) (v := 0) hx hb dX4_hasStretch_30 (by decide) ?_
    exact rp_retz (pc := 31) hC hw rfl hF dX4_hasStretch_31
  · replace hF := rp_if hc hF
    refine lv_iload_n (pc := 4) hx hb dX4_hasStretch_4 rfl (lv_at hl 1 rfl) ?_
    refine lv_if_lt (pc := 5) (tgt := 30) hx hb dX4_hasStretch_5 (by decide) (fun hc => ?_) (fun hc => ?_)
    · replace hF := rp_it hc hF
      refine lv_iconst (pc := 30) (v := 0) hx hb dX4_hasStretch_30 (by decide) ?_
      exact rp_retz (pc := 31) hC hw rfl hF dX4_hasStretch_31
    · replace hF := rp_if hc hF
      refine lv_iload_n (pc := 8) hx hb dX4_hasStretch_8 rfl (lv_at hl 1 rfl) ?_
      refine lv_aload_n (pc := 9) hx hb dX4_hasStretch_9 rfl (lv_at hl 0 rfl) ?_
      refine rp_get (pc := 10) hC hw (46 + 2 * g0) (by omega) ((xt_sheet (i := g0) (by omega)) _) fl_X4_15 (.int (σ (46 + 2 * g0) 1)) rfl dX4_hasStretch_10 ?_
      refine lv_icmp_gt (pc := 13) (tgt := 30) hx hb dX4_hasStretch_13 (by decide) (fun hc => ?_) (fun hc => ?_)
      · replace hF := rp_it hc hF
        refine lv_iconst (pc := 30) (v := 0) hx hb dX4_hasStretch_30 (by decide) ?_
        exact rp_retz (pc := 31) hC hw rfl hF dX4_hasStretch_31
      · replace hF := rp_if hc hF
        refine lv_iload_n (pc := 16) hx hb dX4_hasStretch_16 rfl (lv_at hl 2 rfl) ?_
        refine lv_aload_n (pc := 17) hx hb dX4_hasStretch_17 rfl (lv_at hl 0 rfl) ?_
        refine rp_get (pc := 18) hC hw (46 + 2 * g0) (by omega) ((xt_sheet (i := g0) (by omega)) _) fl_X4_15 (.int (σ (46 + 2 * g0) 1)) rfl dX4_hasStretch_18 ?_
        refine lv_iload_n (pc := 21) hx hb dX4_hasStretch_21 rfl (lv_at hl 1 rfl) ?_
        refine lv_isub (pc := 22) hx hb dX4_hasStretch_22 ?_
        refine lv_icmp_gt (pc := 23) (tgt := 30) hx hb dX4_hasStretch_23 (by decide) (fun hc => ?_) (fun hc => ?_)
        · replace hF := rp_it hc hF
          refine lv_iconst (pc := 30) (v := 0) hx hb dX4_hasStretch_30 (by decide) ?_
          exact rp_retz (pc := 31) hC hw rfl hF dX4_hasStretch_31
        · replace hF := rp_if hc hF
          refine lv_iconst (pc := 26) (v := 1) hx hb dX4_hasStretch_26 (by decide) ?_
          refine lv_goto (pc := 27) (tgt := 31) hx hb dX4_hasStretch_27 (by decide) ?_
          exact rp_retz (pc := 31) hC hw rfl hF dX4_hasStretch_31
theorem mX4_hasStretch {l : Launch} {D : va_G} {cI cB cS : ClassId} {a : Nat → Nat} (g0 : Nat) (h_g0 : g0 < 4) (v1 : Int32) (v2 : Int32) (σ : rp_St) (res : Int32 × rp_St) (hF : fX4_hasStretch g0 v1 v2 σ = some res) : xM l D cI cB cS a yX4_hasStretch cX4_hasStretch 3 (some .boolean) 1 [.ref (a (46 + 2 * g0)), .int v1, .int v2] σ (rp_Qi D a (xt cI cB cS a) 62 res) :=
  rp_entry (by decide) (Nat.le_of_ble_eq_true rfl) (fun p e s m below meth c ls hC hw hl => kX4_hasStretch_0 g0 h_g0 hC v1 v2 σ _ _ _ hF hw (lv_sub hl [0, 1, 2] rfl))
