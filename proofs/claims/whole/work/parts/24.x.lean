def fX4_tellsRueOf_2 (g0 : Nat) (g1 : Nat) (k2 : Int32 → rp_St → Option (Int32 × rp_St)) (v2 : Int32) (σ : rp_St) : Option (Int32 × rp_St) :=
  (if (σ (46 + 2 * g0) 1) ≤ v2 then some (1, σ) else (if (σ (7 * g1) 0) ≤ v2 then some (1, σ) else rp_gu (rp_in v2 40) (rp_gu (rp_in v2 7) ((if (σ (46 + 2 * g0 + 1) (v2 : Int32).toNatClampNeg) = (σ (7 * g1 + 3) (v2 : Int32).toNatClampNeg) then rp_nm (v2 + 1) (fun x1 => k2 x1 σ) else some (0, σ))))))
set_option maxRecDepth 100000 in
set_option maxHeartbeats 4000000 in
theorem kX4_tellsRueOf_2 {p : Program} {l : Launch} {e : Env} {s : State} {m : MethodId} {args : Array Value} {below : List Frame} {meth : Method} {c : Code} {D : va_G} {cI cB cS : ClassId} {a : Nat → Nat} {res : Int32 × rp_St} (g0 : Nat) (h_g0 : g0 < 4) (g1 : Nat) (h_g1 : g1 < 4) (hC : xC p s m args meth c cX4_tellsRueOf 3 "RegretPegs$Sheet" (some .boolean) D cI cB cS a) (k2 : Int32 → rp_St → Option (Int32 × rp_St)) (hk2 : ∀ (v2 : Int32) (σ : rp_St) (H : Heap) (locs : List Loc) (ls : Array Slot), k2 v2 σ = some res → xW D cI cB cS a s σ H locs → lv_has ls 3 [(0, .ref (a (46 + 2 * g0))), (1, .ref (a (7 * g1))), (2, .int v2)] → W p l e (rp_rm 1) s m args below meth c H locs 0 0 (MQ below (rp_Qi D a (xt cI cB cS a) 62 res) args s 0 0 (rp_A a 62)) (F0 m 2 ls [])) (v2 : Int32) (σ : rp_St) (H : Heap) (locs : List Loc) (ls : Array Slot) (hF : fX4_tellsRueOf_2 g0 g1 k2 v2 σ = some res) (hw : xW D cI cB cS a s σ H locs) (hl : lv_has ls 3 [(0, .ref (a (46 + 2 * g0))), (1, .ref (a (7 * g1))), (2, .int v2)]) : W p l e (rp_rm 1) s m args below meth c H locs 0 0 (MQ below (rp_Qi D a (xt cI cB cS a) 62 res) args s 0 0 (rp_A a 62)) (F0 m 2 ls []) := by
  have hx := hC.1
  have hb := hC.2.1
  have hown := hC.2.2.2.1
  have hts := hC.2.2.2.2.1
  unfold fX4_tellsRueOf_2 at hF
  refine lv_iload_n (pc := 2) hx hb dX4_tellsRueOf_2 rfl (lv_at hl 2 rfl) ?_
  refine lv_aload_n (pc := 3) hx hb dX4_tellsRueOf_3 rfl (lv_at hl 0 rfl) ?_
  refine rp_get (pc := 4) hC hw (46 + 2 * g0) (by omega) ((xt_sheet (i := g0) (by omega)) _) fl_X4_15 (.int (σ (46 + 2 * g0) 1)) rfl dX4_tellsRueOf_4 ?_
  refine lv_icmp_ge (pc := 7) (tgt := 41) hx hb dX4_tellsRueOf_7 (by decide) (fun hc => ?_) (fun hc => ?_)
  · replace hF := rp_it hc hF
    refine lv_iconst (pc := 41) (v := 1) hx hb dX4_tellsRueOf_41 (by decide) ?_
    exact rp_retz (pc := 42) hC hw rfl hF dX4_tellsRueOf_42
  · replace hF := rp_if hc hF
    refine lv_iload_n (pc := 10) hx hb dX4_tellsRueOf_10 rfl (lv_at hl 2 rfl) ?_
    refine lv_aload_n (pc := 11) hx hb dX4_tellsRueOf_11 rfl (lv_at hl 1 rfl) ?_
    refine rp_get (pc := 12) hC hw (7 * g1) (by omega) ((xt_ball (b := g1) (by omega)) _) fl_X4_22 (.int (σ (7 * g1) 0)) rfl dX4_tellsRueOf_12 ?_
    refine lv_icmp_ge (pc := 15) (tgt := 41) hx hb dX4_tellsRueOf_15 (by decide) (fun hc => ?_) (fun hc => ?_)
    · replace hF := rp_it hc hF
      refine lv_iconst (pc := 41) (v := 1) hx hb dX4_tellsRueOf_41 (by decide) ?_
      exact rp_retz (pc := 42) hC hw rfl hF dX4_tellsRueOf_42
    · replace hF := rp_if hc hF
      refine lv_aload_n (pc := 18) hx hb dX4_tellsRueOf_18 rfl (lv_at hl 0 rfl) ?_
      refine rp_get (pc := 19) hC hw (46 + 2 * g0) (by omega) ((xt_sheet (i := g0) (by omega)) _) fl_X4_18 (.ref (a (46 + 2 * g0 + 1))) rfl dX4_tellsRueOf_19 ?_
      refine lv_iload_n (pc := 22) hx hb dX4_tellsRueOf_22 rfl (lv_at hl 2 rfl) ?_
      obtain ⟨hg, hF⟩ := rp_gu_e hF
      refine rp_ald (pc := 23) hC hw (46 + 2 * g0 + 1) (by omega) (xt_num (i := g0) (by omega)) 0 rfl hg dX4_tellsRueOf_23 ?_
      refine lv_aload_n (pc := 24) hx hb dX4_tellsRueOf_24 rfl (lv_at hl 1 rfl) ?_
      refine rp_get (pc := 25) hC hw (7 * g1) (by omega) ((xt_ball (b := g1) (by omega)) _) fl_X4_25 (.ref (a (7 * g1 + 3))) rfl dX4_tellsRueOf_25 ?_
      refine lv_iload_n (pc := 28) hx hb dX4_tellsRueOf_28 rfl (lv_at hl 2 rfl) ?_
      obtain ⟨hg, hF⟩ := rp_gu_e hF
      refine rp_ald (pc := 29) hC hw (7 * g1 + 3) (by omega) (xt_bar (b := g1) (by omega) 3 ⟨by decide, by decide⟩) 0 rfl hg dX4_tellsRueOf_29 ?_
      refine lv_icmp_eq (pc := 30) (tgt := 35) hx hb dX4_tellsRueOf_30 (by decide) (fun hc => ?_) (fun hc => ?_)
      · replace hF := rp_it hc hF
        obtain ⟨x1, ex1, hF⟩ := rp_nm_e hF
        refine lv_iinc (pc := 35) (v := x1) (lv' := [(2, .int x1), (0, .ref (a (46 + 2 * g0))), (1, .ref (a (7 * g1)))]) hx hb dX4_tellsRueOf_35 hl (k := 2) rfl (by rw [ex1]; rfl) (by decide) rfl (fun ls hl => ?_)
        refine lv_goto (pc := 38) (tgt := 2) hx hb dX4_tellsRueOf_38 (by decide) ?_
        exact hk2 x1 σ _ _ _ hF hw (lv_sub hl [1, 2, 0] rfl)
      · replace hF := rp_if hc hF
        refine lv_iconst (pc := 33) (v := 0) hx hb dX4_tellsRueOf_33 (by decide) ?_
        exact rp_retz (pc := 34) hC hw rfl hF dX4_tellsRueOf_34
theorem lX4_tellsRueOf_2 {p : Program} {l : Launch} {e : Env} {s : State} {m : MethodId} {args : Array Value} {below : List Frame} {meth : Method} {c : Code} {D : va_G} {cI cB cS : ClassId} {a : Nat → Nat} {res : Int32 × rp_St} (g0 : Nat) (h_g0 : g0 < 4) (g1 : Nat) (h_g1 : g1 < 4) (hC : xC p s m args meth c cX4_tellsRueOf 3 "RegretPegs$Sheet" (some .boolean) D cI cB cS a) : ∀ (n : Nat) (v2 : Int32) (σ : rp_St) (H : Heap) (locs : List Loc) (ls : Array Slot), rp_lp (fun _ _ => none) (fX4_tellsRueOf_2 g0 g1) n v2 σ = some res → xW D cI cB cS a s σ H locs → lv_has ls 3 [(0, .ref (a (46 + 2 * g0))), (1, .ref (a (7 * g1))), (2, .int v2)] → W p l e (rp_rm 1) s m args below meth c H locs 0 0 (MQ below (rp_Qi D a (xt cI cB cS a) 62 res) args s 0 0 (rp_A a 62)) (F0 m 2 ls [])
  | 0, _, _, _, _, _, hF, _, _ => nomatch hF
  | n + 1, v2, σ, H, locs, ls, hF, hw, hl => kX4_tellsRueOf_2 g0 h_g0 g1 h_g1 hC (rp_lp (fun _ _ => none) (fX4_tellsRueOf_2 g0 g1) n) (lX4_tellsRueOf_2 g0 h_g0 g1 h_g1 hC n) v2 σ H locs ls hF hw hl
def fX4_tellsRueOf (g0 : Nat) (g1 : Nat) (σ : rp_St) : Option (Int32 × rp_St) :=
  rp_lp (fun _ _ => none) (fX4_tellsRueOf_2 g0 g1) 300 0 σ
set_option maxRecDepth 100000 in
set_option maxHeartbeats 4000000 in
theorem kX4_tellsRueOf_0 {p : Program} {l : Launch} {e : Env} {s : State} {m : MethodId} {args : Array Value} {below : List Frame} {meth : Method} {c : Code} {D : va_G} {cI cB cS : ClassId} {a : Nat → Nat} {res : Int32 × rp_St} (g0 : Nat) (h_g0 : g0 < 4) (g1 : Nat) (h_g1 : g1 < 4) (hC : xC p s m args meth c cX4_tellsRueOf 3 "RegretPegs$Sheet" (some .boolean) D cI cB cS a) (σ : rp_St) (H : Heap) (locs : List Loc) (ls : Array Slot) (hF : fX4_tellsRueOf g0 g1 σ = some res) (hw : xW D cI cB cS a s σ H locs) (hl : lv_has ls 3 [(0, .ref (a (46 + 2 * g0))), (1, .ref (a (7 * g1)))]) : W p l e (rp_rm 1) s m args below meth c H locs 0 0 (MQ below (rp_Qi D a (xt cI cB cS a) 62 res) args s 0 0 (rp_A a 62)) (F0 m 0 ls []) := by
  have hx := hC.1
  have hb := hC.2.1
  have hown := hC.2.2.2.1
  have hts := hC.2.2.2.2.1
  unfold fX4_tellsRueOf at hF
  refine lv_iconst (pc := 0) (v := 0) hx hb dX4_tellsRueOf_0 (by decide) ?_
  refine lv_istore_n (pc := 1) (lv' := [(2, .int 0), (0, .ref (a (46 + 2 * g0))), (1, .ref (a (7 * g1)))]) hx hb dX4_tellsRueOf_1 rfl hl (by decide) rfl (fun ls hl => ?_)
  exact lX4_tellsRueOf_2 g0 h_g0 g1 h_g1 hC 300 0 σ _ _ _ hF hw (lv_sub hl [1, 2, 0] rfl)
theorem mX4_tellsRueOf {l : Launch} {D : va_G} {cI cB cS : ClassId} {a : Nat → Nat} (g0 : Nat) (h_g0 : g0 < 4) (g1 : Nat) (h_g1 : g1 < 4)  (σ : rp_St) (res : Int32 × rp_St) (hF : fX4_tellsRueOf g0 g1 σ = some res) : xM l D cI cB cS a yX4_tellsRueOf cX4_tellsRueOf 3 (some .boolean) 1 [.ref (a (46 + 2 * g0)), .ref (a (7 * g1))] σ (rp_Qi D a (xt cI cB cS a) 62 res) :=
  rp_entry (by decide) (Nat.le_of_ble_eq_true rfl) (fun p e s m below meth c ls hC hw hl => kX4_tellsRueOf_0 g0 h_g0 g1 h_g1 hC σ _ _ _ hF hw (lv_sub hl [0, 1] rfl))
def fX6_whoDanced_16 (σ : rp_St) : Option (Int32 × rp_St) :=
  rp_bd (fX6_refuse 1 σ) (fun r1 σ2 => some (r1, σ2))
set_option maxRecDepth 100000 in
set_option maxHeartbeats 4000000 in
theorem kX6_whoDanced_16 {p : Program} {l : Launch} {e : Env} {s : State} {m : MethodId} {args : Array Value} {below : List Frame} {meth : Method} {c : Code} {D : va_G} {cI cB cS : ClassId} {a : Nat → Nat} {res : Int32 × rp_St} (hC : xC p s m args meth c cX6_whoDanced 8 "RegretPegs" (some .int) D cI cB cS a) (σ : rp_St) (H : Heap) (locs : List Loc) (ls : Array Slot) (hF : fX6_whoDanced_16 σ = some res) (hw : xW D cI cB cS a s σ H locs) (hl : lv_has ls 8 [(0, .ref (a 54))]) : W p l e (rp_rm 5) s m args below meth c H locs 0 0 (MQ below (rp_Qi D a (xt cI cB cS a) 62 res) args s 0 0 (rp_A a 62)) (F0 m 16 ls []) := by
  have hx := hC.1
  have hb := hC.2.1
  have hown := hC.2.2.2.1
  have hts := hC.2.2.2.2.1
  unfold fX6_whoDanced_16 at hF
  refine lv_aload_n (pc := 16) hx hb dX6_whoDanced_16 rfl (lv_at hl 0 rfl) ?_
  refine lv_iconst (pc := 17) (v := 1) hx hb dX6_whoDanced_17 (by decide) ?_
  obtain ⟨r1, σ2, hq, hF⟩ := rp_bd_e hF
  refine rp_ki (rp_runV (rest := []) hC (xE_ok _) hw hl.1 (mX6_refuse (l := l) 1 σ _ hq) vw_X6_66 (by decide) (xt_reg _) rfl rfl rfl (Nat.le_of_ble_eq_true rfl) (by decide) dX6_whoDanced_18) hw (fun H locs hw => ?_)
  clear hq
  exact rp_reti (pc := 21) hC hw hF dX6_whoDanced_21
def fX6_whoDanced_53 (σ : rp_St) : Option (Int32 × rp_St) :=
  rp_bd (fX6_refuse 2 σ) (fun r1 σ2 => some (r1, σ2))
set_option maxRecDepth 100000 in
set_option maxHeartbeats 4000000 in
theorem kX6_whoDanced_53 {p : Program} {l : Launch} {e : Env} {s : State} {m : MethodId} {args : Array Value} {below : List Frame} {meth : Method} {c : Code} {D : va_G} {cI cB cS : ClassId} {a : Nat → Nat} {res : Int32 × rp_St} (hC : xC p s m args meth c cX6_whoDanced 8 "RegretPegs" (some .int) D cI cB cS a) (σ : rp_St) (H : Heap) (locs : List Loc) (ls : Array Slot) (hF : fX6_whoDanced_53 σ = some res) (hw : xW D cI cB cS a s σ H locs) (hl : lv_has ls 8 [(0, .ref (a 54))]) : W p l e (rp_rm 5) s m args below meth c H locs 0 0 (MQ below (rp_Qi D a (xt cI cB cS a) 62 res) args s 0 0 (rp_A a 62)) (F0 m 53 ls []) := by
  have hx := hC.1
  have hb := hC.2.1
  have hown := hC.2.2.2.1
  have hts := hC.2.2.2.2.1
  unfold fX6_whoDanced_53 at hF
  refine lv_aload_n (pc := 53) hx hb dX6_whoDanced_53 rfl (lv_at hl 0 rfl) ?_
  refine lv_iconst (pc := 54) (v := 2) hx hb dX6_whoDanced_54 (by decide) ?_
  obtain ⟨r1, σ2, hq, hF⟩ := rp_bd_e hF
  refine rp_ki (rp_runV (rest := []) hC (xE_ok _) hw hl.1 (mX6_refuse (l := l) 2 σ _ hq) vw_X6_66 (by decide) (xt_reg _) rfl rfl rfl (Nat.le_of_ble_eq_true rfl) (by decide) dX6_whoDanced_55) hw (fun H locs hw => ?_)
  clear hq
  exact rp_reti (pc := 58) hC hw hF dX6_whoDanced_58
def fX6_whoDanced_170 (k68 : Int32 → Nat → Int32 → Int32 → Int32 → rp_St → Option (Int32 × rp_St)) (k89 : Int32 → Nat → Int32 → Int32 → Int32 → Int32 → rp_St → Option (Int32 × rp_St)) (v2 : Int32) (w3 : Nat) (v4 : Int32) (v5 : Int32) (v6 : Int32) (v7 : Int32) (σ : rp_St) : Option (Int32 × rp_St) :=
  rp_nm (v7 + 1) (fun x1 => k89 v2 w3 v4 v5 v6 x1 σ)
set_option maxRecDepth 100000 in
set_option maxHeartbeats 4000000 in
theorem kX6_whoDanced_170 {p : Program} {l : Launch} {e : Env} {s : State} {m : MethodId} {args : Array Value} {below : List Frame} {meth : Method} {c : Code} {D : va_G} {cI cB cS : ClassId} {a : Nat → Nat} {res : Int32 × rp_St} (hC : xC p s m args meth c cX6_whoDanced 8 "RegretPegs" (some .int) D cI cB cS a) (k68 : Int32 → Nat → Int32 → Int32 → Int32 → rp_St → Option (Int32 × rp_St)) (hk68 : ∀ (v2 : Int32) (w3 : Nat) (_ : w3 < 4) (v4 : Int32) (v5 : Int32) (v6 : Int32) (σ : rp_St) (H : Heap) (locs : List Loc) (ls : Array Slot), k68 v2 w3 v4 v5 v6 σ = some res → xW D cI cB cS a s σ H locs → lv_has ls 8 [(0, .ref (a 54)), (2, .int v2), (3, .ref (a (46 + 2 * w3))), (4, .int v4), (5, .int v5), (6, .int v6)] → W p l e (rp_rm 5) s m args below meth c H locs 0 0 (MQ below (rp_Qi D a (xt cI cB cS a) 62 res) args s 0 0 (rp_A a 62)) (F0 m 68 ls [])) (k89 : Int32 → Nat → Int32 → Int32 → Int32 → Int32 → rp_St → Option (Int32 × rp_St)) (hk89 : ∀ (v2 : Int32) (w3 : Nat) (_ : w3 < 4) (v4 : Int32) (v5 : Int32) (v6 : Int32) (v7 : Int32) (σ : rp_St) (H : Heap) (locs : List Loc) (ls : Array Slot), k89 v2 w3 v4 v5 v6 v7 σ = some res → xW D cI cB cS a s σ H locs → lv_has ls 8 [(0, .ref (a 54)), (2, .int v2), (3, .ref (a (46 + 2 * w3))), (4, .int v4), (5, .int v5), (6, .int v6), (7, .int v7)] → W p l e (rp_rm 5) s m args below meth c H locs 0 0 (MQ below (rp_Qi D a (xt cI cB cS a) 62 res) args s 0 0 (rp_A a 62)) (F0 m 89 ls [])) (v2 : Int32) (w3 : Nat) (h_w3 : w3 < 4) (v4 : Int32) (v5 : Int32) (v6 : Int32) (v7 : Int32) (σ : rp_St) (H : Heap) (locs : List Loc) (ls : Array Slot) (hF : fX6_whoDanced_170 k68 k89 v2 w3 v4 v5 v6 v7 σ = some res) (hw : xW D cI cB cS a s σ H locs) (hl : lv_has ls 8 [(0, .ref (a 54)), (2, .int v2), (3, .ref (a (46 + 2 * w3))), (4, .int v4), (5, .int v5), (6, .int v6), (7, .int v7)]) : W p l e (rp_rm 5) s m args below meth c H locs 0 0 (MQ below (rp_Qi D a (xt cI cB cS a) 62 res) args s 0 0 (rp_A a 62)) (F0 m 170 ls []) := by
  have hx := hC.1
  have hb := hC.2.1
  have hown := hC.2.2.2.1
  have hts := hC.2.2.2.2.1
  unfold fX6_whoDanced_170 at hF
  obtain ⟨x1, ex1, hF⟩ := rp_nm_e hF
  refine lv_iinc (pc := 170) (v := x1) (lv' := [(7, .int x1), (0, .ref (a 54)), (2, .int v2), (3, .ref (a (46 + 2 * w3))), (4, .int v4), (5, .int v5), (6, .int v6)]) hx hb dX6_whoDanced_170 hl (k := 6) rfl (by rw [ex1]; rfl) (by decide) rfl (fun ls hl => ?_)
  refine lv_goto (pc := 173) (tgt := 89) hx hb dX6_whoDanced_173 (by decide) ?_
  exact hk89 v2 w3 (by omega) v4 v5 v6 x1 σ _ _ _ hF hw (lv_sub hl [1, 2, 3, 4, 5, 6, 0] rfl)
def fX6_whoDanced_165 (k68 : Int32 → Nat → Int32 → Int32 → Int32 → rp_St → Option (Int32 × rp_St)) (k89 : Int32 → Nat → Int32 → Int32 → Int32 → Int32 → rp_St → Option (Int32 × rp_St)) (v2 : Int32) (w3 : Nat) (v4 : Int32) (v6 : Int32) (v7 : Int32) (t0 : Int32) (σ : rp_St) : Option (Int32 × rp_St) :=
  rp_nm (v4 + 1) (fun x1 => fX6_whoDanced_170 k68 k89 v2 w3 x1 t0 v6 v7 σ)
set_option maxRecDepth 100000 in
set_option maxHeartbeats 4000000 in
theorem kX6_whoDanced_165 {p : Program} {l : Launch} {e : Env} {s : State} {m : MethodId} {args : Array Value} {below : List Frame} {meth : Method} {c : Code} {D : va_G} {cI cB cS : ClassId} {a : Nat → Nat} {res : Int32 × rp_St} (hC : xC p s m args meth c cX6_whoDanced 8 "RegretPegs" (some .int) D cI cB cS a) (k68 : Int32 → Nat → Int32 → Int32 → Int32 → rp_St → Option (Int32 × rp_St)) (hk68 : ∀ (v2 : Int32) (w3 : Nat) (_ : w3 < 4) (v4 : Int32) (v5 : Int32) (v6 : Int32) (σ : rp_St) (H : Heap) (locs : List Loc) (ls : Array Slot), k68 v2 w3 v4 v5 v6 σ = some res → xW D cI cB cS a s σ H locs → lv_has ls 8 [(0, .ref (a 54)), (2, .int v2), (3, .ref (a (46 + 2 * w3))), (4, .int v4), (5, .int v5), (6, .int v6)] → W p l e (rp_rm 5) s m args below meth c H locs 0 0 (MQ below (rp_Qi D a (xt cI cB cS a) 62 res) args s 0 0 (rp_A a 62)) (F0 m 68 ls [])) (k89 : Int32 → Nat → Int32 → Int32 → Int32 → Int32 → rp_St → Option (Int32 × rp_St)) (hk89 : ∀ (v2 : Int32) (w3 : Nat) (_ : w3 < 4) (v4 : Int32) (v5 : Int32) (v6 : Int32) (v7 : Int32) (σ : rp_St) (H : Heap) (locs : List Loc) (ls : Array Slot), k89 v2 w3 v4 v5 v6 v7 σ = some res → xW D cI cB cS a s σ H locs → lv_has ls 8 [(0, .ref (a 54)), (2, .int v2), (3, .ref (a (46 + 2 * w3))), (4, .int v4), (5, .int v5), (6, .int v6), (7, .int v7)] → W p l e (rp_rm 5) s m args below meth c H locs 0 0 (MQ below (rp_Qi D a (xt cI cB cS a) 62 res) args s 0 0 (rp_A a 62)) (F0 m 89 ls [])) (v2 : Int32) (w3 : Nat) (h_w3 : w3 < 4) (v4 : Int32) (v6 : Int32) (v7 : Int32) (t0 : Int32) (σ : rp_St) (H : Heap) (locs : List Loc) (ls : Array Slot) (hF : fX6_whoDanced_165 k68 k89 v2 w3 v4 v6 v7 t0 σ = some res) (hw : xW D cI cB cS a s σ H locs) (hl : lv_has ls 8 [(0, .ref (a 54)), (2, .int v2), (3, .ref (a (46 + 2 * w3))), (4, .int v4), (6, .int v6), (7, .int v7)]) : W p l e (rp_rm 5) s m args below meth c H locs 0 0 (MQ below (rp_Qi D a (xt cI cB cS a) 62 res) args s 0 0 (rp_A a 62)) (F0 m 165 ls [.int t0]) := by
  have hx := hC.1
  have hb := hC.2.1
  have hown := hC.2.2.2.1
  have hts := hC.2.2.2.2.1
  unfold fX6_whoDanced_165 at hF
  refine lv_istore (pc := 165) (lv' := [(5, .int t0), (0, .ref (a 54)), (2, .int v2), (3, .ref (a (46 + 2 * w3))), (4, .int v4), (6, .int v6), (7, .int v7)]) hx hb dX6_whoDanced_165 hl (by decide) rfl (fun ls hl => ?_)
  obtain ⟨x1, ex1, hF⟩ := rp_nm_e hF
  refine lv_iinc (pc := 167) (v := x1) (lv' := [(4, .int x1), (5, .int t0), (0, .ref (a 54)), (2, .int v2), (3, .ref (a (46 + 2 * w3))), (6, .int v6), (7, .int v7)]) hx hb dX6_whoDanced_167 hl (k := 4) rfl (by rw [ex1]; rfl) (by decide) rfl (fun ls hl => ?_)
  exact kX6_whoDanced_170 hC k68 hk68 k89 hk89 v2 w3 (by omega) x1 t0 v6 v7 σ _ _ _ hF hw (lv_sub hl [2, 3, 4, 0, 1, 5, 6] rfl)
def fX6_whoDanced_89 (k68 : Int32 → Nat → Int32 → Int32 → Int32 → rp_St → Option (Int32 × rp_St)) (k89 : Int32 → Nat → Int32 → Int32 → Int32 → Int32 → rp_St → Option (Int32 × rp_St)) (v2 : Int32) (w3 : Nat) (v4 : Int32) (v5 : Int32) (v6 : Int32) (v7 : Int32) (σ : rp_St) : Option (Int32 × rp_St) :=
  (if (σ 0 0) ≤ v7 then rp_nm (v6 + 1) (fun x1 => k68 v2 w3 v4 v5 x1 σ) else rp_bd (fX0_takeFrom 2 0 σ) (fun _ σ3 => rp_bd (fX0_pairUp 2 0 v6 v7 σ3) (fun _ σ5 => rp_bd (fX4_tellsRueOf w3 2 σ5) (fun r6 σ7 => (if r6 = 0 then fX6_whoDanced_170 k68 k89 v2 w3 v4 v5 v6 v7 σ7 else (if v4 = 0 then fX6_whoDanced_165 k68 k89 v2 w3 v4 v6 v7 ((10 * v6) + v7) σ7 else fX6_whoDanced_165 k68 k89 v2 w3 v4 v6 v7 v5 σ7))))))
set_option maxRecDepth 100000 in
set_option maxHeartbeats 4000000 in
theorem kX6_whoDanced_89 {p : Program} {l : Launch} {e : Env} {s : State} {m : MethodId} {args : Array Value} {below : List Frame} {meth : Method} {c : Code} {D : va_G} {cI cB cS : ClassId} {a : Nat → Nat} {res : Int32 × rp_St} (hC : xC p s m args meth c cX6_whoDanced 8 "RegretPegs" (some .int) D cI cB cS a) (k68 : Int32 → Nat → Int32 → Int32 → Int32 → rp_St → Option (Int32 × rp_St)) (hk68 : ∀ (v2 : Int32) (w3 : Nat) (_ : w3 < 4) (v4 : Int32) (v5 : Int32) (v6 : Int32) (σ : rp_St) (H : Heap) (locs : List Loc) (ls : Array Slot), k68 v2 w3 v4 v5 v6 σ = some res → xW D cI cB cS a s σ H locs → lv_has ls 8 [(0, .ref (a 54)), (2, .int v2), (3, .ref (a (46 + 2 * w3))), (4, .int v4), (5, .int v5), (6, .int v6)] → W p l e (rp_rm 5) s m args below meth c H locs 0 0 (MQ below (rp_Qi D a (xt cI cB cS a) 62 res) args s 0 0 (rp_A a 62)) (F0 m 68 ls [])) (k89 : Int32 → Nat → Int32 → Int32 → Int32 → Int32 → rp_St → Option (Int32 × rp_St)) (hk89 : ∀ (v2 : Int32) (w3 : Nat) (_ : w3 < 4) (v4 : Int32) (v5 : Int32) (v6 : Int32) (v7 : Int32) (σ : rp_St) (H : Heap) (locs : List Loc) (ls : Array Slot), k89 v2 w3 v4 v5 v6 v7 σ = some res → xW D cI cB cS a s σ H locs → lv_has ls 8 [(0, .ref (a 54)), (2, .int v2), (3, .ref (a (46 + 2 * w3))), (4, .int v4), (5, .int v5), (6, .int v6), (7, .int v7)] → W p l e (rp_rm 5) s m args below meth c H locs 0 0 (MQ below (rp_Qi D a (xt cI cB cS a) 62 res) args s 0 0 (rp_A a 62)) (F0 m 89 ls [])) (v2 : Int32) (w3 : Nat) (h_w3 : w3 < 4) (v4 : Int32) (v5 : Int32) (v6 : Int32) (v7 : Int32) (σ : rp_St) (H : Heap) (locs : List Loc) (ls : Array Slot) (hF : fX6_whoDanced_89 k68 k89 v2 w3 v4 v5 v6 v7 σ = some res) (hw : xW D cI cB cS a s σ H locs) (hl : lv_has ls 8 [(0, .ref (a 54)), (2, .int v2), (3, .ref (a (46 + 2 * w3))), (4, .int v4), (5, .int v5), (6, .int v6), (7, .int v7)]) : W p l e (rp_rm 5) s m args below meth c H locs 0 0 (MQ below (rp_Qi D a (xt cI cB cS a) 62 res) args s 0 0 (rp_A a 62)) (F0 m 89 ls []) := by
  have hx := hC.1
  have hb := hC.2.1
  have hown := hC.2.2.2.1
  have hts := hC.2.2.2.2.1
  unfold fX6_whoDanced_89 at hF
  refine lv_iload (pc := 89) hx hb dX6_whoDanced_89 (lv_at hl 6 rfl) ?_
  refine lv_aload_n (pc := 91) hx hb dX6_whoDanced_91 rfl (lv_at hl 0 rfl) ?_
  refine rp_get (pc := 92) hC hw 54 (by decide) (xt_reg _) fl_X6_10 (.ref (a 40)) rfl dX6_whoDanced_92 ?_
  refine rp_get (pc := 95) hC hw 40 (by decide) ((xt_eve (i := 0) (by decide)) _) fl_X6_70 (.ref (a 0)) rfl dX6_whoDanced_95 ?_
  refine rp_get (pc := 98) hC hw 0 (by decide) ((xt_ball (b := 0) (by decide)) _) fl_X6_73 (.int (σ 0 0)) rfl dX6_whoDanced_98 ?_
  refine lv_icmp_ge (pc := 101) (tgt := 176) hx hb dX6_whoDanced_101 (by decide) (fun hc => ?_) (fun hc => ?_)
  · replace hF := rp_it hc hF
    obtain ⟨x1, ex1, hF⟩ := rp_nm_e hF
    refine lv_iinc (pc := 176) (v := x1) (lv' := [(6, .int x1), (0, .ref (a 54)), (2, .int v2), (3, .ref (a (46 + 2 * w3))), (4, .int v4), (5, .int v5), (7, .int v7)]) hx hb dX6_whoDanced_176 hl (k := 5) rfl (by rw [ex1]; rfl) (by decide) rfl (fun ls hl => ?_)
    refine lv_goto (pc := 179) (tgt := 68) hx hb dX6_whoDanced_179 (by decide) ?_
    exact hk68 v2 w3 (by omega) v4 v5 x1 σ _ _ _ hF hw (lv_sub hl [1, 2, 3, 4, 5, 0] rfl)
  · replace hF := rp_if hc hF
    refine lv_aload_n (pc := 104) hx hb dX6_whoDanced_104 rfl (lv_at hl 0 rfl) ?_
    refine rp_get (pc := 105) hC hw 54 (by decide) (xt_reg _) fl_X6_26 (.ref (a 14)) rfl dX6_whoDanced_105 ?_
    refine lv_aload_n (pc := 108) hx hb dX6_whoDanced_108 rfl (lv_at hl 0 rfl) ?_
    refine rp_get (pc := 109) hC hw 54 (by decide) (xt_reg _) fl_X6_10 (.ref (a 40)) rfl dX6_whoDanced_109 ?_
    refine rp_get (pc := 112) hC hw 40 (by decide) ((xt_eve (i := 0) (by decide)) _) fl_X6_70 (.ref (a 0)) rfl dX6_whoDanced_112 ?_
    obtain ⟨r2, σ3, hq, hF⟩ := rp_bd_e hF
    refine rp_kv (rp_runV (rest := []) hC (xE_ok _) hw hl.1 (mX0_takeFrom (l := l) 2 (by decide) 0 (by decide) σ _ hq) vw_X6_179 (by decide) ((xt_ball (b := 2) (by decide)) _) rfl rfl rfl (Nat.le_of_ble_eq_true rfl) (by decide) dX6_whoDanced_115) hw (fun H locs hw => ?_)
    clear hq
    refine lv_aload_n (pc := 118) hx hb dX6_whoDanced_118 rfl (lv_at hl 0 rfl) ?_
    refine rp_get (pc := 119) hC hw 54 (by decide) (xt_reg _) fl_X6_26 (.ref (a 14)) rfl dX6_whoDanced_119 ?_
    refine lv_iload (pc := 122) hx hb dX6_whoDanced_122 (lv_at hl 5 rfl) ?_
    refine lv_iload (pc := 124) hx hb dX6_whoDanced_124 (lv_at hl 6 rfl) ?_
    refine lv_aload_n (pc := 126) hx hb dX6_whoDanced_126 rfl (lv_at hl 0 rfl) ?_
    refine rp_get (pc := 127) hC hw 54 (by decide) (xt_reg _) fl_X6_10 (.ref (a 40)) rfl dX6_whoDanced_127 ?_
    refine rp_get (pc := 130) hC hw 40 (by decide) ((xt_eve (i := 0) (by decide)) _) fl_X6_154 (.ref (a 28)) rfl dX6_whoDanced_130 ?_
    obtain ⟨r4, σ5, hq, hF⟩ := rp_bd_e hF
    refine rp_kv (rp_runV (rest := []) hC (xE_ok _) hw hl.1 (mX0_pairUp (l := l) 2 (by decide) 0 (by decide) v6 v7 σ3 _ hq) vw_X6_158 (by decide) ((xt_ball (b := 2) (by decide)) _) rfl rfl rfl (Nat.le_of_ble_eq_true rfl) (by decide) dX6_whoDanced_133) hw (fun H locs hw => ?_)
    clear hq
    refine lv_aload_n (pc := 136) hx hb dX6_whoDanced_136 rfl (lv_at hl 2 rfl) ?_
    refine lv_aload_n (pc := 137) hx hb dX6_whoDanced_137 rfl (lv_at hl 0 rfl) ?_
    refine rp_get (pc := 138) hC hw 54 (by decide) (xt_reg _) fl_X6_26 (.ref (a 14)) rfl dX6_whoDanced_138 ?_
    obtain ⟨r6, σ7, hq, hF⟩ := rp_bd_e hF
    refine rp_ki (rp_runV (rest := []) hC (xE_ok _) hw hl.1 (mX4_tellsRueOf (l := l) w3 (by omega) 2 (by decide) σ5 _ hq) vw_X6_203 (by omega) ((xt_sheet (i := w3) (by omega)) _) rfl rfl rfl (Nat.le_of_ble_eq_true rfl) (by decide) dX6_whoDanced_141) hw (fun H locs hw => ?_)
    clear hq
    refine lv_if_eq (pc := 144) (tgt := 170) hx hb dX6_whoDanced_144 (by decide) (fun hc => ?_) (fun hc => ?_)
    · replace hF := rp_it hc hF
      exact kX6_whoDanced_170 hC k68 hk68 k89 hk89 v2 w3 (by omega) v4 v5 v6 v7 σ7 _ _ _ hF hw (lv_sub hl [0, 1, 2, 3, 4, 5, 6] rfl)
    · replace hF := rp_if hc hF
      refine lv_iload (pc := 147) hx hb dX6_whoDanced_147 (lv_at hl 3 rfl) ?_
      refine lv_if_ne (pc := 149) (tgt := 163) hx hb dX6_whoDanced_149 (by decide) (fun hc => ?_) (fun hc => ?_)
      · replace hF := rp_if hc hF
        refine lv_iload (pc := 163) hx hb dX6_whoDanced_163 (lv_at hl 4 rfl) ?_
        exact kX6_whoDanced_165 hC k68 hk68 k89 hk89 v2 w3 (by omega) v4 v6 v7 v5 σ7 _ _ _ hF hw (lv_sub hl [0, 1, 2, 3, 5, 6] rfl)
      · replace hF := rp_it hc hF
        refine lv_bipush (pc := 152) (v := 10) hx hb dX6_whoDanced_152 (by decide) ?_
        refine lv_iload (pc := 154) hx hb dX6_whoDanced_154 (lv_at hl 5 rfl) ?_
        refine lv_imul (pc := 156) hx hb dX6_whoDanced_156 ?_
        refine lv_iload (pc := 157) hx hb dX6_whoDanced_157 (lv_at hl 6 rfl) ?_
        refine lv_iadd (pc := 159) hx hb dX6_whoDanced_159 ?_
        refine lv_goto (pc := 160) (tgt := 165) hx hb dX6_whoDanced_160 (by decide) ?_
        exact kX6_whoDanced_165 hC k68 hk68 k89 hk89 v2 w3 (by omega) v4 v6 v7 ((10 * v6) + v7) σ7 _ _ _ hF hw (lv_sub hl [0, 1, 2, 3, 5, 6] rfl)
theorem lX6_whoDanced_89 {p : Program} {l : Launch} {e : Env} {s : State} {m : MethodId} {args : Array Value} {below : List Frame} {meth : Method} {c : Code} {D : va_G} {cI cB cS : ClassId} {a : Nat → Nat} {res : Int32 × rp_St} (hC : xC p s m args meth c cX6_whoDanced 8 "RegretPegs" (some .int) D cI cB cS a) (k68 : Int32 → Nat → Int32 → Int32 → Int32 → rp_St → Option (Int32 × rp_St)) (hk68 : ∀ (v2 : Int32) (w3 : Nat) (_ : w3 < 4) (v4 : Int32) (v5 : Int32) (v6 : Int32) (σ : rp_St) (H : Heap) (locs : List Loc) (ls : Array Slot), k68 v2 w3 v4 v5 v6 σ = some res → xW D cI cB cS a s σ H locs → lv_has ls 8 [(0, .ref (a 54)), (2, .int v2), (3, .ref (a (46 + 2 * w3))), (4, .int v4), (5, .int v5), (6, .int v6)] → W p l e (rp_rm 5) s m args below meth c H locs 0 0 (MQ below (rp_Qi D a (xt cI cB cS a) 62 res) args s 0 0 (rp_A a 62)) (F0 m 68 ls [])) : ∀ (n : Nat) (v2 : Int32) (w3 : Nat) (_ : w3 < 4) (v4 : Int32) (v5 : Int32) (v6 : Int32) (v7 : Int32) (σ : rp_St) (H : Heap) (locs : List Loc) (ls : Array Slot), rp_lp (fun _ _ _ _ _ _ _ => none) (fX6_whoDanced_89 k68) n v2 w3 v4 v5 v6 v7 σ = some res → xW D cI cB cS a s σ H locs → lv_has ls 8 [(0, .ref (a 54)), (2, .int v2), (3, .ref (a (46 + 2 * w3))), (4, .int v4), (5, .int v5), (6, .int v6), (7, .int v7)] → W p l e (rp_rm 5) s m args below meth c H locs 0 0 (MQ below (rp_Qi D a (xt cI cB cS a) 62 res) args s 0 0 (rp_A a 62)) (F0 m 89 ls [])
  | 0, _, _, _, _, _, _, _, _, _, _, _, hF, _, _ => nomatch hF
  | n + 1, v2, w3, h_w3, v4, v5, v6, v7, σ, H, locs, ls, hF, hw, hl => kX6_whoDanced_89 hC k68 hk68 (rp_lp (fun _ _ _ _ _ _ _ => none) (fX6_whoDanced_89 k68) n) (lX6_whoDanced_89 hC k68 hk68 n) v2 w3 h_w3 v4 v5 v6 v7 σ H locs ls hF hw hl
def fX6_whoDanced_68 (k68 : Int32 → Nat → Int32 → Int32 → Int32 → rp_St → Option (Int32 × rp_St)) (v2 : Int32) (w3 : Nat) (v4 : Int32) (v5 : Int32) (v6 : Int32) (σ : rp_St) : Option (Int32 × rp_St) :=
  (if (σ 0 0) ≤ v6 then (if v2 = 0 then some (v4, σ) else (if v4 = 0 then rp_bd (fX6_refuse 2 σ) (fun r1 σ2 => some (r1, σ2)) else some (v5, σ))) else rp_nm (v6 + 1) (fun x3 => rp_lp (fun _ _ _ _ _ _ _ => none) (fX6_whoDanced_89 k68) 300 v2 w3 v4 v5 v6 x3 σ))
set_option maxRecDepth 100000 in
set_option maxHeartbeats 4000000 in
theorem kX6_whoDanced_68 {p : Program} {l : Launch} {e : Env} {s : State} {m : MethodId} {args : Array Value} {below : List Frame} {meth : Method} {c : Code} {D : va_G} {cI cB cS : ClassId} {a : Nat → Nat} {res : Int32 × rp_St} (hC : xC p s m args meth c cX6_whoDanced 8 "RegretPegs" (some .int) D cI cB cS a) (k68 : Int32 → Nat → Int32 → Int32 → Int32 → rp_St → Option (Int32 × rp_St)) (hk68 : ∀ (v2 : Int32) (w3 : Nat) (_ : w3 < 4) (v4 : Int32) (v5 : Int32) (v6 : Int32) (σ : rp_St) (H : Heap) (locs : List Loc) (ls : Array Slot), k68 v2 w3 v4 v5 v6 σ = some res → xW D cI cB cS a s σ H locs → lv_has ls 8 [(0, .ref (a 54)), (2, .int v2), (3, .ref (a (46 + 2 * w3))), (4, .int v4), (5, .int v5), (6, .int v6)] → W p l e (rp_rm 5) s m args below meth c H locs 0 0 (MQ below (rp_Qi D a (xt cI cB cS a) 62 res) args s 0 0 (rp_A a 62)) (F0 m 68 ls [])) (v2 : Int32) (w3 : Nat) (h_w3 : w3 < 4) (v4 : Int32) (v5 : Int32) (v6 : Int32) (σ : rp_St) (H : Heap) (locs : List Loc) (ls : Array Slot) (hF : fX6_whoDanced_68 k68 v2 w3 v4 v5 v6 σ = some res) (hw : xW D cI cB cS a s σ H locs) (hl : lv_has ls 8 [(0, .ref (a 54)), (2, .int v2), (3, .ref (a (46 + 2 * w3))), (4, .int v4), (5, .int v5), (6, .int v6)]) : W p l e (rp_rm 5) s m args below meth c H locs 0 0 (MQ below (rp_Qi D a (xt cI cB cS a) 62 res) args s 0 0 (rp_A a 62)) (F0 m 68 ls []) := by
  have hx := hC.1
  have hb := hC.2.1
  have hown := hC.2.2.2.1
  have hts := hC.2.2.2.2.1
  unfold fX6_whoDanced_68 at hF
  refine lv_iload (pc := 68) hx hb dX6_whoDanced_68 (lv_at hl 5 rfl) ?_
  refine lv_aload_n (pc := 70) hx hb dX6_whoDanced_70 rfl (lv_at hl 0 rfl) ?_
  refine rp_get (pc := 71) hC hw 54 (by decide) (xt_reg _) fl_X6_10 (.ref (a 40)) rfl dX6_whoDanced_71 ?_
  refine rp_get (pc := 74) hC hw 40 (by decide) ((xt_eve (i := 0) (by decide)) _) fl_X6_70 (.ref (a 0)) rfl dX6_whoDanced_74 ?_
  refine rp_get (pc := 77) hC hw 0 (by decide) ((xt_ball (b := 0) (by decide)) _) fl_X6_73 (.int (σ 0 0)) rfl dX6_whoDanced_77 ?_
  refine lv_icmp_ge (pc := 80) (tgt := 182) hx hb dX6_whoDanced_80 (by decide) (fun hc => ?_) (fun hc => ?_)
  · replace hF := rp_it hc hF
    refine lv_iload_n (pc := 182) hx hb dX6_whoDanced_182 rfl (lv_at hl 1 rfl) ?_
    refine lv_if_ne (pc := 183) (tgt := 189) hx hb dX6_whoDanced_183 (by decide) (fun hc => ?_) (fun hc => ?_)
    · replace hF := rp_if hc hF
      refine lv_iload (pc := 189) hx hb dX6_whoDanced_189 (lv_at hl 3 rfl) ?_
      refine lv_if_ne (pc := 191) (tgt := 202) hx hb dX6_whoDanced_191 (by decide) (fun hc => ?_) (fun hc => ?_)
      · replace hF := rp_if hc hF
        refine lv_iload (pc := 202) hx hb dX6_whoDanced_202 (lv_at hl 4 rfl) ?_
        exact rp_reti (pc := 204) hC hw hF dX6_whoDanced_204
      · replace hF := rp_it hc hF
        refine lv_aload_n (pc := 194) hx hb dX6_whoDanced_194 rfl (lv_at hl 0 rfl) ?_
        refine lv_iconst (pc := 195) (v := 2) hx hb dX6_whoDanced_195 (by decide) ?_
        obtain ⟨r1, σ2, hq, hF⟩ := rp_bd_e hF
        refine rp_ki (rp_runV (rest := []) hC (xE_ok _) hw hl.1 (mX6_refuse (l := l) 2 σ _ hq) vw_X6_66 (by decide) (xt_reg _) rfl rfl rfl (Nat.le_of_ble_eq_true rfl) (by decide) dX6_whoDanced_196) hw (fun H locs hw => ?_)
        clear hq
        refine lv_goto (pc := 199) (tgt := 204) hx hb dX6_whoDanced_199 (by decide) ?_
        exact rp_reti (pc := 204) hC hw hF dX6_whoDanced_204
    · replace hF := rp_it hc hF
      refine lv_iload (pc := 186) hx hb dX6_whoDanced_186 (lv_at hl 3 rfl) ?_
      exact rp_reti (pc := 188) hC hw hF dX6_whoDanced_188
  · replace hF := rp_if hc hF
    refine lv_iload (pc := 83) hx hb dX6_whoDanced_83 (lv_at hl 5 rfl) ?_
    refine lv_iconst (pc := 85) (v := 1) hx hb dX6_whoDanced_85 (by decide) ?_
    refine lv_iadd (pc := 86) hx hb dX6_whoDanced_86 ?_
    obtain ⟨x3, ex3, hF⟩ := rp_nm_e hF
    refine rp_top ex3 ?_
    refine lv_istore (pc := 87) (lv' := [(7, .int x3), (0, .ref (a 54)), (2, .int v2), (3, .ref (a (46 + 2 * w3))), (4, .int v4), (5, .int v5), (6, .int v6)]) hx hb dX6_whoDanced_87 hl (by decide) rfl (fun ls hl => ?_)
    exact lX6_whoDanced_89 hC k68 hk68 300 v2 w3 (by omega) v4 v5 v6 x3 σ _ _ _ hF hw (lv_sub hl [1, 2, 3, 4, 5, 6, 0] rfl)
theorem lX6_whoDanced_68 {p : Program} {l : Launch} {e : Env} {s : State} {m : MethodId} {args : Array Value} {below : List Frame} {meth : Method} {c : Code} {D : va_G} {cI cB cS : ClassId} {a : Nat → Nat} {res : Int32 × rp_St} (hC : xC p s m args meth c cX6_whoDanced 8 "RegretPegs" (some .int) D cI cB cS a) : ∀ (n : Nat) (v2 : Int32) (w3 : Nat) (_ : w3 < 4) (v4 : Int32) (v5 : Int32) (v6 : Int32) (σ : rp_St) (H : Heap) (locs : List Loc) (ls : Array Slot), rp_lp (fun _ _ _ _ _ _ => none) (fX6_whoDanced_68) n v2 w3 v4 v5 v6 σ = some res → xW D cI cB cS a s σ H locs → lv_has ls 8 [(0, .ref (a 54)), (2, .int v2), (3, .ref (a (46 + 2 * w3))), (4, .int v4), (5, .int v5), (6, .int v6)] → W p l e (rp_rm 5) s m args below meth c H locs 0 0 (MQ below (rp_Qi D a (xt cI cB cS a) 62 res) args s 0 0 (rp_A a 62)) (F0 m 68 ls [])
  | 0, _, _, _, _, _, _, _, _, _, _, hF, _, _ => nomatch hF
  | n + 1, v2, w3, h_w3, v4, v5, v6, σ, H, locs, ls, hF, hw, hl => kX6_whoDanced_68 hC (rp_lp (fun _ _ _ _ _ _ => none) (fX6_whoDanced_68) n) (lX6_whoDanced_68 hC n) v2 w3 h_w3 v4 v5 v6 σ H locs ls hF hw hl
def fX6_whoDanced (v1 : Int32) (v2 : Int32) (σ : rp_St) : Option (Int32 × rp_St) :=
  rp_bd (fX6_isSheet v1 σ) (fun r1 σ2 => (if r1 = 0 then fX6_whoDanced_16 σ2 else rp_bd (fX6_isWithin v2 0 1 σ2) (fun r3 σ4 => (if r3 = 0 then fX6_whoDanced_16 σ4 else rp_gu (rp_in v1 4) (rp_nm (v1 : Int32).toNatClampNeg (fun w5 => (if (σ4 (46 + 2 * w5) 0) = 0 then fX6_whoDanced_53 σ4 else (if (σ4 (46 + 2 * w5) 1) = (σ4 0 0) then rp_lp (fun _ _ _ _ _ _ => none) (fX6_whoDanced_68) 300 v2 w5 0 (-1) 0 σ4 else fX6_whoDanced_53 σ4))))))))
set_option maxRecDepth 100000 in
set_option maxHeartbeats 4000000 in
theorem kX6_whoDanced_0 {p : Program} {l : Launch} {e : Env} {s : State} {m : MethodId} {args : Array Value} {below : List Frame} {meth : Method} {c : Code} {D : va_G} {cI cB cS : ClassId} {a : Nat → Nat} {res : Int32 × rp_St} (hC : xC p s m args meth c cX6_whoDanced 8 "RegretPegs" (some .int) D cI cB cS a) (v1 : Int32) (v2 : Int32) (σ : rp_St) (H : Heap) (locs : List Loc) (ls : Array Slot) (hF : fX6_whoDanced v1 v2 σ = some res) (hw : xW D cI cB cS a s σ H locs) (hl : lv_has ls 8 [(0, .ref (a 54)), (1, .int v1), (2, .int v2)]) : W p l e (rp_rm 5) s m args below meth c H locs 0 0 (MQ below (rp_Qi D a (xt cI cB cS a) 62 res) args s 0 0 (rp_A a 62)) (F0 m 0 ls []) := by
  have hx := hC.1
  have hb := hC.2.1
  have hown := hC.2.2.2.1
  have hts := hC.2.2.2.2.1
  unfold fX6_whoDanced at hF
  refine lv_iload_n (pc := 0) hx hb dX6_whoDanced_0 rfl (lv_at hl 1 rfl) ?_
  obtain ⟨r1, σ2, hq, hF⟩ := rp_bd_e hF
  refine rp_ki (rp_runZ (rest := []) hC (xE_ok _) hw hl.1 (mX6_isSheet (l := l) v1 σ _ hq) zw_X6_196 rfl rfl (Nat.le_of_ble_eq_true rfl) (by decide) dX6_whoDanced_1) hw (fun H locs hw => ?_)
  clear hq
  refine lv_if_eq (pc := 4) (tgt := 16) hx hb dX6_whoDanced_4 (by decide) (fun hc => ?_) (fun hc => ?_)
  · replace hF := rp_it hc hF
    exact kX6_whoDanced_16 hC σ2 _ _ _ hF hw (lv_sub hl [0] rfl)
  · replace hF := rp_if hc hF
    refine lv_iload_n (pc := 7) hx hb dX6_whoDanced_7 rfl (lv_at hl 2 rfl) ?_
    refine lv_iconst (pc := 8) (v := 0) hx hb dX6_whoDanced_8 (by decide) ?_
    refine lv_iconst (pc := 9) (v := 1) hx hb dX6_whoDanced_9 (by decide) ?_
    obtain ⟨r3, σ4, hq, hF⟩ := rp_bd_e hF
    refine rp_ki (rp_runZ (rest := []) hC (xE_ok _) hw hl.1 (mX6_isWithin (l := l) v2 0 1 σ2 _ hq) zw_X6_62 rfl rfl (Nat.le_of_ble_eq_true rfl) (by decide) dX6_whoDanced_10) hw (fun H locs hw => ?_)
    clear hq
    refine lv_if_ne (pc := 13) (tgt := 22) hx hb dX6_whoDanced_13 (by decide) (fun hc => ?_) (fun hc => ?_)
    · replace hF := rp_if hc hF
      refine lv_aload_n (pc := 22) hx hb dX6_whoDanced_22 rfl (lv_at hl 0 rfl) ?_
      refine rp_get (pc := 23) hC hw 54 (by decide) (xt_reg _) fl_X6_50 (.ref (a 56)) rfl dX6_whoDanced_23 ?_
      refine lv_iload_n (pc := 26) hx hb dX6_whoDanced_26 rfl (lv_at hl 1 rfl) ?_
      obtain ⟨hg, hF⟩ := rp_gu_e hF
      have hww5 := rp_in_lt hg
      refine rp_aald (pc := 27) hC hw 56 (by decide) xt_shs 2 rfl hg dX6_whoDanced_27 ?_
      obtain ⟨w5, ew5, hF⟩ := rp_nm_e hF
      rw [← ew5] at hww5
      refine W.eq (g2 := F0 m 28 ls [.ref (a (46 + 2 * w5))]) (by rw [ew5]; rfl) ?_
      refine lv_astore_n (pc := 28) (lv' := [(3, .ref (a (46 + 2 * w5))), (0, .ref (a 54)), (1, .int v1), (2, .int v2)]) hx hb dX6_whoDanced_28 rfl hl (by decide) rfl (fun ls hl => ?_)
      refine lv_aload_n (pc := 29) hx hb dX6_whoDanced_29 rfl (lv_at hl 0 rfl) ?_
      refine rp_get (pc := 30) hC hw (46 + 2 * w5) (by omega) ((xt_sheet (i := w5) (by omega)) _) fl_X6_199 (.int (σ4 (46 + 2 * w5) 0)) rfl dX6_whoDanced_30 ?_
      refine lv_if_eq (pc := 33) (tgt := 53) hx hb dX6_whoDanced_33 (by decide) (fun hc => ?_) (fun hc => ?_)
      · replace hF := rp_it hc hF
        exact kX6_whoDanced_53 hC σ4 _ _ _ hF hw (lv_sub hl [1] rfl)
      · replace hF := rp_if hc hF
        refine lv_aload_n (pc := 36) hx hb dX6_whoDanced_36 rfl (lv_at hl 0 rfl) ?_
        refine rp_get (pc := 37) hC hw (46 + 2 * w5) (by omega) ((xt_sheet (i := w5) (by omega)) _) fl_X6_202 (.int (σ4 (46 + 2 * w5) 1)) rfl dX6_whoDanced_37 ?_
        refine lv_aload_n (pc := 40) hx hb dX6_whoDanced_40 rfl (lv_at hl 1 rfl) ?_
        refine rp_get (pc := 41) hC hw 54 (by decide) (xt_reg _) fl_X6_10 (.ref (a 40)) rfl dX6_whoDanced_41 ?_
        refine rp_get (pc := 44) hC hw 40 (by decide) ((xt_eve (i := 0) (by decide)) _) fl_X6_70 (.ref (a 0)) rfl dX6_whoDanced_44 ?_
        refine rp_get (pc := 47) hC hw 0 (by decide) ((xt_ball (b := 0) (by decide)) _) fl_X6_73 (.int (σ4 0 0)) rfl dX6_whoDanced_47 ?_
        refine lv_icmp_eq (pc := 50) (tgt := 59) hx hb dX6_whoDanced_50 (by decide) (fun hc => ?_) (fun hc => ?_)
        · replace hF := rp_it hc hF
          refine lv_iconst (pc := 59) (v := 0) hx hb dX6_whoDanced_59 (by decide) ?_
          refine lv_istore (pc := 60) (lv' := [(4, .int 0), (3, .ref (a (46 + 2 * w5))), (0, .ref (a 54)), (1, .int v1), (2, .int v2)]) hx hb dX6_whoDanced_60 hl (by decide) rfl (fun ls hl => ?_)
          refine lv_iconst (pc := 62) (v := (-1)) hx hb dX6_whoDanced_62 (by decide) ?_
          refine lv_istore (pc := 63) (lv' := [(5, .int (-1)), (4, .int 0), (3, .ref (a (46 + 2 * w5))), (0, .ref (a 54)), (1, .int v1), (2, .int v2)]) hx hb dX6_whoDanced_63 hl (by decide) rfl (fun ls hl => ?_)
          refine lv_iconst (pc := 65) (v := 0) hx hb dX6_whoDanced_65 (by decide) ?_
          refine lv_istore (pc := 66) (lv' := [(6, .int 0), (5, .int (-1)), (4, .int 0), (3, .ref (a (46 + 2 * w5))), (0, .ref (a 54)), (1, .int v1), (2, .int v2)]) hx hb dX6_whoDanced_66 hl (by decide) rfl (fun ls hl => ?_)
          exact lX6_whoDanced_68 hC 300 v2 w5 (by omega) 0 (-1) 0 σ4 _ _ _ hF hw (lv_sub hl [4, 6, 3, 2, 1, 0] rfl)
        · replace hF := rp_if hc hF
          exact kX6_whoDanced_53 hC σ4 _ _ _ hF hw (lv_sub hl [1] rfl)
    · replace hF := rp_it hc hF
      exact kX6_whoDanced_16 hC σ4 _ _ _ hF hw (lv_sub hl [0] rfl)
theorem mX6_whoDanced {l : Launch} {D : va_G} {cI cB cS : ClassId} {a : Nat → Nat} (v1 : Int32) (v2 : Int32) (σ : rp_St) (res : Int32 × rp_St) (hF : fX6_whoDanced v1 v2 σ = some res) : xM l D cI cB cS a yX6_whoDanced cX6_whoDanced 8 (some .int) 5 [.ref (a 54), .int v1, .int v2] σ (rp_Qi D a (xt cI cB cS a) 62 res) :=
  rp_entry (by decide) (Nat.le_of_ble_eq_true rfl) (fun p e s m below meth c ls hC hw hl => kX6_whoDanced_0 hC v1 v2 σ _ _ _ hF hw (lv_sub hl [0, 1, 2] rfl))
def fX0_wrongPairs_52 (g0 : Nat) (k4 : Int32 → Int32 → rp_St → Option (Int32 × rp_St)) (k16 : Int32 → Int32 → Int32 → rp_St → Option (Int32 × rp_St)) (v1 : Int32) (v2 : Int32) (v3 : Int32) (σ : rp_St) : Option (Int32 × rp_St) :=
  rp_nm (v3 + 1) (fun x1 => k16 v1 v2 x1 σ)
set_option maxRecDepth 100000 in
set_option maxHeartbeats 4000000 in
theorem kX0_wrongPairs_52 {p : Program} {l : Launch} {e : Env} {s : State} {m : MethodId} {args : Array Value} {below : List Frame} {meth : Method} {c : Code} {D : va_G} {cI cB cS : ClassId} {a : Nat → Nat} {res : Int32 × rp_St} (g0 : Nat) (h_g0 : g0 < 4) (hC : xC p s m args meth c cX0_wrongPairs 4 "RegretPegs$Ball" (some .int) D cI cB cS a) (k4 : Int32 → Int32 → rp_St → Option (Int32 × rp_St)) (hk4 : ∀ (v1 : Int32) (v2 : Int32) (σ : rp_St) (H : Heap) (locs : List Loc) (ls : Array Slot), k4 v1 v2 σ = some res → xW D cI cB cS a s σ H locs → lv_has ls 4 [(0, .ref (a (7 * g0))), (1, .int v1), (2, .int v2)] → W p l e (rp_rm 1) s m args below meth c H locs 0 0 (MQ below (rp_Qi D a (xt cI cB cS a) 62 res) args s 0 0 (rp_A a 62)) (F0 m 4 ls [])) (k16 : Int32 → Int32 → Int32 → rp_St → Option (Int32 × rp_St)) (hk16 : ∀ (v1 : Int32) (v2 : Int32) (v3 : Int32) (σ : rp_St) (H : Heap) (locs : List Loc) (ls : Array Slot), k16 v1 v2 v3 σ = some res → xW D cI cB cS a s σ H locs → lv_has ls 4 [(0, .ref (a (7 * g0))), (1, .int v1), (2, .int v2), (3, .int v3)] → W p l e (rp_rm 1) s m args below meth c H locs 0 0 (MQ below (rp_Qi D a (xt cI cB cS a) 62 res) args s 0 0 (rp_A a 62)) (F0 m 16 ls [])) (v1 : Int32) (v2 : Int32) (v3 : Int32) (σ : rp_St) (H : Heap) (locs : List Loc) (ls : Array Slot) (hF : fX0_wrongPairs_52 g0 k4 k16 v1 v2 v3 σ = some res) (hw : xW D cI cB cS a s σ H locs) (hl : lv_has ls 4 [(0, .ref (a (7 * g0))), (1, .int v1), (2, .int v2), (3, .int v3)]) : W p l e (rp_rm 1) s m args below meth c H locs 0 0 (MQ below (rp_Qi D a (xt cI cB cS a) 62 res) args s 0 0 (rp_A a 62)) (F0 m 52 ls []) := by
  have hx := hC.1
  have hb := hC.2.1
  have hown := hC.2.2.2.1
  have hts := hC.2.2.2.2.1
  unfold fX0_wrongPairs_52 at hF
  obtain ⟨x1, ex1, hF⟩ := rp_nm_e hF
  refine lv_iinc (pc := 52) (v := x1) (lv' := [(3, .int x1), (0, .ref (a (7 * g0))), (1, .int v1), (2, .int v2)]) hx hb dX0_wrongPairs_52 hl (k := 3) rfl (by rw [ex1]; rfl) (by decide) rfl (fun ls hl => ?_)
  refine lv_goto (pc := 55) (tgt := 16) hx hb dX0_wrongPairs_55 (by decide) ?_
  exact hk16 v1 v2 x1 σ _ _ _ hF hw (lv_sub hl [1, 2, 3, 0] rfl)
def fX0_wrongPairs_16 (g0 : Nat) (k4 : Int32 → Int32 → rp_St → Option (Int32 × rp_St)) (k16 : Int32 → Int32 → Int32 → rp_St → Option (Int32 × rp_St)) (v1 : Int32) (v2 : Int32) (v3 : Int32) (σ : rp_St) : Option (Int32 × rp_St) :=
  (if (σ (7 * g0) 0) ≤ v3 then rp_nm (v2 + 1) (fun x1 => k4 v1 x1 σ) else rp_gu (rp_in v2 7) (rp_gu (rp_in (σ (7 * g0 + 6) (v2 : Int32).toNatClampNeg) 7) (rp_gu (rp_in v3 7) (rp_gu (rp_in (σ (7 * g0 + 6) (v3 : Int32).toNatClampNeg) 7) ((if (σ (7 * g0 + 3) ((σ (7 * g0 + 6) (v2 : Int32).toNatClampNeg) : Int32).toNatClampNeg) ≤ (σ (7 * g0 + 3) ((σ (7 * g0 + 6) (v3 : Int32).toNatClampNeg) : Int32).toNatClampNeg) then fX0_wrongPairs_52 g0 k4 k16 v1 v2 v3 σ else rp_nm (v1 + 1) (fun x2 => fX0_wrongPairs_52 g0 k4 k16 x2 v2 v3 σ)))))))
set_option maxRecDepth 100000 in
set_option maxHeartbeats 4000000 in
theorem kX0_wrongPairs_16 {p : Program} {l : Launch} {e : Env} {s : State} {m : MethodId} {args : Array Value} {below : List Frame} {meth : Method} {c : Code} {D : va_G} {cI cB cS : ClassId} {a : Nat → Nat} {res : Int32 × rp_St} (g0 : Nat) (h_g0 : g0 < 4) (hC : xC p s m args meth c cX0_wrongPairs 4 "RegretPegs$Ball" (some .int) D cI cB cS a) (k4 : Int32 → Int32 → rp_St → Option (Int32 × rp_St)) (hk4 : ∀ (v1 : Int32) (v2 : Int32) (σ : rp_St) (H : Heap) (locs : List Loc) (ls : Array Slot), k4 v1 v2 σ = some res → xW D cI cB cS a s σ H locs → lv_has ls 4 [(0, .ref (a (7 * g0))), (1, .int v1), (2, .int v2)] → W p l e (rp_rm 1) s m args below meth c H locs 0 0 (MQ below (rp_Qi D a (xt cI cB cS a) 62 res) args s 0 0 (rp_A a 62)) (F0 m 4 ls [])) (k16 : Int32 → Int32 → Int32 → rp_St → Option (Int32 × rp_St)) (hk16 : ∀ (v1 : Int32) (v2 : Int32) (v3 : Int32) (σ : rp_St) (H : Heap) (locs : List Loc) (ls : Array Slot), k16 v1 v2 v3 σ = some res → xW D cI cB cS a s σ H locs → lv_has ls 4 [(0, .ref (a (7 * g0))), (1, .int v1), (2, .int v2), (3, .int v3)] → W p l e (rp_rm 1) s m args below meth c H locs 0 0 (MQ below (rp_Qi D a (xt cI cB cS a) 62 res) args s 0 0 (rp_A a 62)) (F0 m 16 ls [])) (v1 : Int32) (v2 : Int32) (v3 : Int32) (σ : rp_St) (H : Heap) (locs : List Loc) (ls : Array Slot) (hF : fX0_wrongPairs_16 g0 k4 k16 v1 v2 v3 σ = some res) (hw : xW D cI cB cS a s σ H locs) (hl : lv_has ls 4 [(0, .ref (a (7 * g0))), (1, .int v1), (2, .int v2), (3, .int v3)]) : W p l e (rp_rm 1) s m args below meth c H locs 0 0 (MQ below (rp_Qi D a (xt cI cB cS a) 62 res) args s 0 0 (rp_A a 62)) (F0 m 16 ls []) := by
  have hx := hC.1
  have hb := hC.2.1
  have hown := hC.2.2.2.1
  have hts := hC.2.2.2.2.1
  unfold fX0_wrongPairs_16 at hF
  refine lv_iload_n (pc := 16) hx hb dX0_wrongPairs_16 rfl (lv_at hl 3 rfl) ?_
  refine lv_aload_n (pc := 17) hx hb dX0_wrongPairs_17 rfl (lv_at hl 0 rfl) ?_
  refine rp_get (pc := 18) hC hw (7 * g0) (by omega) ((xt_ball (b := g0) (by omega)) _) fl_X0_9 (.int (σ (7 * g0) 0)) rfl dX0_wrongPairs_18 ?_
  refine lv_icmp_ge (pc := 21) (tgt := 58) hx hb dX0_wrongPairs_21 (by decide) (fun hc => ?_) (fun hc => ?_)
  · replace hF := rp_it hc hF
    obtain ⟨x1, ex1, hF⟩ := rp_nm_e hF
    refine lv_iinc (pc := 58) (v := x1) (lv' := [(2, .int x1), (0, .ref (a (7 * g0))), (1, .int v1), (3, .int v3)]) hx hb dX0_wrongPairs_58 hl (k := 2) rfl (by rw [ex1]; rfl) (by decide) rfl (fun ls hl => ?_)
    refine lv_goto (pc := 61) (tgt := 4) hx hb dX0_wrongPairs_61 (by decide) ?_
    exact hk4 v1 x1 σ _ _ _ hF hw (lv_sub hl [1, 2, 0] rfl)
  · replace hF := rp_if hc hF
    refine lv_aload_n (pc := 24) hx hb dX0_wrongPairs_24 rfl (lv_at hl 0 rfl) ?_
    refine rp_get (pc := 25) hC hw (7 * g0) (by omega) ((xt_ball (b := g0) (by omega)) _) fl_X0_22 (.ref (a (7 * g0 + 3))) rfl dX0_wrongPairs_25 ?_
    refine lv_aload_n (pc := 28) hx hb dX0_wrongPairs_28 rfl (lv_at hl 0 rfl) ?_
    refine rp_get (pc := 29) hC hw (7 * g0) (by omega) ((xt_ball (b := g0) (by omega)) _) fl_X0_31 (.ref (a (7 * g0 + 6))) rfl dX0_wrongPairs_29 ?_
    refine lv_iload_n (pc := 32) hx hb dX0_wrongPairs_32 rfl (lv_at hl 2 rfl) ?_
    obtain ⟨hg, hF⟩ := rp_gu_e hF
    refine rp_ald (pc := 33) hC hw (7 * g0 + 6) (by omega) (xt_bar (b := g0) (by omega) 6 ⟨by decide, by decide⟩) 0 rfl hg dX0_wrongPairs_33 ?_
    obtain ⟨hg, hF⟩ := rp_gu_e hF
    refine rp_ald (pc := 34) hC hw (7 * g0 + 3) (by omega) (xt_bar (b := g0) (by omega) 3 ⟨by decide, by decide⟩) 0 rfl hg dX0_wrongPairs_34 ?_
    refine lv_aload_n (pc := 35) hx hb dX0_wrongPairs_35 rfl (lv_at hl 0 rfl) ?_
    refine rp_get (pc := 36) hC hw (7 * g0) (by omega) ((xt_ball (b := g0) (by omega)) _) fl_X0_22 (.ref (a (7 * g0 + 3))) rfl dX0_wrongPairs_36 ?_
    refine lv_aload_n (pc := 39) hx hb dX0_wrongPairs_39 rfl (lv_at hl 0 rfl) ?_
    refine rp_get (pc := 40) hC hw (7 * g0) (by omega) ((xt_ball (b := g0) (by omega)) _) fl_X0_31 (.ref (a (7 * g0 + 6))) rfl dX0_wrongPairs_40 ?_
    refine lv_iload_n (pc := 43) hx hb dX0_wrongPairs_43 rfl (lv_at hl 3 rfl) ?_
    obtain ⟨hg, hF⟩ := rp_gu_e hF
    refine rp_ald (pc := 44) hC hw (7 * g0 + 6) (by omega) (xt_bar (b := g0) (by omega) 6 ⟨by decide, by decide⟩) 0 rfl hg dX0_wrongPairs_44 ?_
    obtain ⟨hg, hF⟩ := rp_gu_e hF
    refine rp_ald (pc := 45) hC hw (7 * g0 + 3) (by omega) (xt_bar (b := g0) (by omega) 3 ⟨by decide, by decide⟩) 0 rfl hg dX0_wrongPairs_45 ?_
    refine lv_icmp_le (pc := 46) (tgt := 52) hx hb dX0_wrongPairs_46 (by decide) (fun hc => ?_) (fun hc => ?_)
    · replace hF := rp_it hc hF
      exact kX0_wrongPairs_52 g0 h_g0 hC k4 hk4 k16 hk16 v1 v2 v3 σ _ _ _ hF hw (lv_sub hl [0, 1, 2, 3] rfl)
    · replace hF := rp_if hc hF
      obtain ⟨x2, ex2, hF⟩ := rp_nm_e hF
      refine lv_iinc (pc := 49) (v := x2) (lv' := [(1, .int x2), (0, .ref (a (7 * g0))), (2, .int v2), (3, .int v3)]) hx hb dX0_wrongPairs_49 hl (k := 1) rfl (by rw [ex2]; rfl) (by decide) rfl (fun ls hl => ?_)
      exact kX0_wrongPairs_52 g0 h_g0 hC k4 hk4 k16 hk16 x2 v2 v3 σ _ _ _ hF hw (lv_sub hl [1, 0, 2, 3] rfl)
theorem lX0_wrongPairs_16 {p : Program} {l : Launch} {e : Env} {s : State} {m : MethodId} {args : Array Value} {below : List Frame} {meth : Method} {c : Code} {D : va_G} {cI cB cS : ClassId} {a : Nat → Nat} {res : Int32 × rp_St} (g0 : Nat) (h_g0 : g0 < 4) (hC : xC p s m args meth c cX0_wrongPairs 4 "RegretPegs$Ball" (some .int) D cI cB cS a) (k4 : Int32 → Int32 → rp_St → Option (Int32 × rp_St)) (hk4 : ∀ (v1 : Int32) (v2 : Int32) (σ : rp_St) (H : Heap) (locs : List Loc) (ls : Array Slot), k4 v1 v2 σ = some res → xW D cI cB cS a s σ H locs → lv_has ls 4 [(0, .ref (a (7 * g0))), (1, .int v1), (2, .int v2)] → W p l e (rp_rm 1) s m args below meth c H locs 0 0 (MQ below (rp_Qi D a (xt cI cB cS a) 62 res) args s 0 0 (rp_A a 62)) (F0 m 4 ls [])) : ∀ (n : Nat) (v1 : Int32) (v2 : Int32) (v3 : Int32) (σ : rp_St) (H : Heap) (locs : List Loc) (ls : Array Slot), rp_lp (fun _ _ _ _ => none) (fX0_wrongPairs_16 g0 k4) n v1 v2 v3 σ = some res → xW D cI cB cS a s σ H locs → lv_has ls 4 [(0, .ref (a (7 * g0))), (1, .int v1), (2, .int v2), (3, .int v3)] → W p l e (rp_rm 1) s m args below meth c H locs 0 0 (MQ below (rp_Qi D a (xt cI cB cS a) 62 res) args s 0 0 (rp_A a 62)) (F0 m 16 ls [])
  | 0, _, _, _, _, _, _, _, hF, _, _ => nomatch hF
  | n + 1, v1, v2, v3, σ, H, locs, ls, hF, hw, hl => kX0_wrongPairs_16 g0 h_g0 hC k4 hk4 (rp_lp (fun _ _ _ _ => none) (fX0_wrongPairs_16 g0 k4) n) (lX0_wrongPairs_16 g0 h_g0 hC k4 hk4 n) v1 v2 v3 σ H locs ls hF hw hl
def fX0_wrongPairs_4 (g0 : Nat) (k4 : Int32 → Int32 → rp_St → Option (Int32 × rp_St)) (v1 : Int32) (v2 : Int32) (σ : rp_St) : Option (Int32 × rp_St) :=
  (if (σ (7 * g0) 0) ≤ v2 then some (v1, σ) else rp_nm (v2 + 1) (fun x1 => rp_lp (fun _ _ _ _ => none) (fX0_wrongPairs_16 g0 k4) 300 v1 v2 x1 σ))
set_option maxRecDepth 100000 in
set_option maxHeartbeats 4000000 in
theorem kX0_wrongPairs_4 {p : Program} {l : Launch} {e : Env} {s : State} {m : MethodId} {args : Array Value} {below : List Frame} {meth : Method} {c : Code} {D : va_G} {cI cB cS : ClassId} {a : Nat → Nat} {res : Int32 × rp_St} (g0 : Nat) (h_g0 : g0 < 4) (hC : xC p s m args meth c cX0_wrongPairs 4 "RegretPegs$Ball" (some .int) D cI cB cS a) (k4 : Int32 → Int32 → rp_St → Option (Int32 × rp_St)) (hk4 : ∀ (v1 : Int32) (v2 : Int32) (σ : rp_St) (H : Heap) (locs : List Loc) (ls : Array Slot), k4 v1 v2 σ = some res → xW D cI cB cS a s σ H locs → lv_has ls 4 [(0, .ref (a (7 * g0))), (1, .int v1), (2, .int v2)] → W p l e (rp_rm 1) s m args below meth c H locs 0 0 (MQ below (rp_Qi D a (xt cI cB cS a) 62 res) args s 0 0 (rp_A a 62)) (F0 m 4 ls [])) (v1 : Int32) (v2 : Int32) (σ : rp_St) (H : Heap) (locs : List Loc) (ls : Array Slot) (hF : fX0_wrongPairs_4 g0 k4 v1 v2 σ = some res) (hw : xW D cI cB cS a s σ H locs) (hl : lv_has ls 4 [(0, .ref (a (7 * g0))), (1, .int v1), (2, .int v2)]) : W p l e (rp_rm 1) s m args below meth c H locs 0 0 (MQ below (rp_Qi D a (xt cI cB cS a) 62 res) args s 0 0 (rp_A a 62)) (F0 m 4 ls []) := by
  have hx := hC.1
  have hb := hC.2.1
  have hown := hC.2.2.2.1
  have hts := hC.2.2.2.2.1
  unfold fX0_wrongPairs_4 at hF
  refine lv_iload_n (pc := 4) hx hb dX0_wrongPairs_4 rfl (lv_at hl 2 rfl) ?_
  refine lv_aload_n (pc := 5) hx hb dX0_wrongPairs_5 rfl (lv_at hl 0 rfl) ?_
  refine rp_get (pc := 6) hC hw (7 * g0) (by omega) ((xt_ball (b := g0) (by omega)) _) fl_X0_9 (.int (σ (7 * g0) 0)) rfl dX0_wrongPairs_6 ?_
  refine lv_icmp_ge (pc := 9) (tgt := 64) hx hb dX0_wrongPairs_9 (by decide) (fun hc => ?_) (fun hc => ?_)
  · replace hF := rp_it hc hF
    refine lv_iload_n (pc := 64) hx hb dX0_wrongPairs_64 rfl (lv_at hl 1 rfl) ?_
    exact rp_reti (pc := 65) hC hw hF dX0_wrongPairs_65
  · replace hF := rp_if hc hF
    refine lv_iload_n (pc := 12) hx hb dX0_wrongPairs_12 rfl (lv_at hl 2 rfl) ?_
    refine lv_iconst (pc := 13) (v := 1) hx hb dX0_wrongPairs_13 (by decide) ?_
    refine lv_iadd (pc := 14) hx hb dX0_wrongPairs_14 ?_
    obtain ⟨x1, ex1, hF⟩ := rp_nm_e hF
    refine rp_top ex1 ?_
    refine lv_istore_n (pc := 15) (lv' := [(3, .int x1), (0, .ref (a (7 * g0))), (1, .int v1), (2, .int v2)]) hx hb dX0_wrongPairs_15 rfl hl (by decide) rfl (fun ls hl => ?_)
    exact lX0_wrongPairs_16 g0 h_g0 hC k4 hk4 300 v1 v2 x1 σ _ _ _ hF hw (lv_sub hl [1, 2, 3, 0] rfl)
theorem lX0_wrongPairs_4 {p : Program} {l : Launch} {e : Env} {s : State} {m : MethodId} {args : Array Value} {below : List Frame} {meth : Method} {c : Code} {D : va_G} {cI cB cS : ClassId} {a : Nat → Nat} {res : Int32 × rp_St} (g0 : Nat) (h_g0 : g0 < 4) (hC : xC p s m args meth c cX0_wrongPairs 4 "RegretPegs$Ball" (some .int) D cI cB cS a) : ∀ (n : Nat) (v1 : Int32) (v2 : Int32) (σ : rp_St) (H : Heap) (locs : List Loc) (ls : Array Slot), rp_lp (fun _ _ _ => none) (fX0_wrongPairs_4 g0) n v1 v2 σ = some res → xW D cI cB cS a s σ H locs → lv_has ls 4 [(0, .ref (a (7 * g0))), (1, .int v1), (2, .int v2)] → W p l e (rp_rm 1) s m args below meth c H locs 0 0 (MQ below (rp_Qi D a (xt cI cB cS a) 62 res) args s 0 0 (rp_A a 62)) (F0 m 4 ls [])
  | 0, _, _, _, _, _, _, hF, _, _ => nomatch hF
  | n + 1, v1, v2, σ, H, locs, ls, hF, hw, hl => kX0_wrongPairs_4 g0 h_g0 hC (rp_lp (fun _ _ _ => none) (fX0_wrongPairs_4 g0) n) (lX0_wrongPairs_4 g0 h_g0 hC n) v1 v2 σ H locs ls hF hw hl
def fX0_wrongPairs (g0 : Nat) (σ : rp_St) : Option (Int32 × rp_St) :=
  rp_lp (fun _ _ _ => none) (fX0_wrongPairs_4 g0) 300 0 0 σ
set_option maxRecDepth 100000 in
set_option maxHeartbeats 4000000 in
theorem kX0_wrongPairs_0 {p : Program} {l : Launch} {e : Env} {s : State} {m : MethodId} {args : Array Value} {below : List Frame} {meth : Method} {c : Code} {D : va_G} {cI cB cS : ClassId} {a : Nat → Nat} {res : Int32 × rp_St} (g0 : Nat) (h_g0 : g0 < 4) (hC : xC p s m args meth c cX0_wrongPairs 4 "RegretPegs$Ball" (some .int) D cI cB cS a) (σ : rp_St) (H : Heap) (locs : List Loc) (ls : Array Slot) (hF : fX0_wrongPairs g0 σ = some res) (hw : xW D cI cB cS a s σ H locs) (hl : lv_has ls 4 [(0, .ref (a (7 * g0)))]) : W p l e (rp_rm 1) s m args below meth c H locs 0 0 (MQ below (rp_Qi D a (xt cI cB cS a) 62 res) args s 0 0 (rp_A a 62)) (F0 m 0 ls []) := by
  have hx := hC.1
  have hb := hC.2.1
  have hown := hC.2.2.2.1
  have hts := hC.2.2.2.2.1
  unfold fX0_wrongPairs at hF
  refine lv_iconst (pc := 0) (v := 0) hx hb dX0_wrongPairs_0 (by decide) ?_
  refine lv_istore_n (pc := 1) (lv' := [(1, .int 0), (0, .ref (a (7 * g0)))]) hx hb dX0_wrongPairs_1 rfl hl (by decide) rfl (fun ls hl => ?_)
  refine lv_iconst (pc := 2) (v := 0) hx hb dX0_wrongPairs_2 (by decide) ?_
  refine lv_istore_n (pc := 3) (lv' := [(2, .int 0), (1, .int 0), (0, .ref (a (7 * g0)))]) hx hb dX0_wrongPairs_3 rfl hl (by decide) rfl (fun ls hl => ?_)
  exact lX0_wrongPairs_4 g0 h_g0 hC 300 0 0 σ _ _ _ hF hw (lv_sub hl [2, 1, 0] rfl)
theorem mX0_wrongPairs {l : Launch} {D : va_G} {cI cB cS : ClassId} {a : Nat → Nat} (g0 : Nat) (h_g0 : g0 < 4)  (σ : rp_St) (res : Int32 × rp_St) (hF : fX0_wrongPairs g0 σ = some res) : xM l D cI cB cS a yX0_wrongPairs cX0_wrongPairs 4 (some .int) 1 [.ref (a (7 * g0))] σ (rp_Qi D a (xt cI cB cS a) 62 res) :=
  rp_entry (by decide) (Nat.le_of_ble_eq_true rfl) (fun p e s m below meth c ls hC hw hl => kX0_wrongPairs_0 g0 h_g0 hC σ _ _ _ hF hw (lv_sub hl [0] rfl))
def fX6_inOrder_16 (k16 : Int32 → rp_St → Option (Int32 × rp_St)) (v1 : Int32) (σ : rp_St) : Option (Int32 × rp_St) :=
  (if 60 < v1 then rp_bd (fX6_refuse 2 σ) (fun r1 σ2 => some (r1, σ2)) else rp_bd (fX0_wrongPairs 2 σ) (fun r3 σ4 => (if r3 = 0 then some (v1, σ4) else rp_bd (fX0_passHours 2 1 1 σ4) (fun _ σ6 => rp_nm (v1 + 1) (fun x7 => k16 x7 σ6)))))
set_option maxRecDepth 100000 in
set_option maxHeartbeats 4000000 in
theorem kX6_inOrder_16 {p : Program} {l : Launch} {e : Env} {s : State} {m : MethodId} {args : Array Value} {below : List Frame} {meth : Method} {c : Code} {D : va_G} {cI cB cS : ClassId} {a : Nat → Nat} {res : Int32 × rp_St} (hC : xC p s m args meth c cX6_inOrder 2 "RegretPegs" (some .int) D cI cB cS a) (k16 : Int32 → rp_St → Option (Int32 × rp_St)) (hk16 : ∀ (v1 : Int32) (σ : rp_St) (H : Heap) (locs : List Loc) (ls : Array Slot), k16 v1 σ = some res → xW D cI cB cS a s σ H locs → lv_has ls 2 [(0, .ref (a 54)), (1, .int v1)] → W p l e (rp_rm 6) s m args below meth c H locs 0 0 (MQ below (rp_Qi D a (xt cI cB cS a) 62 res) args s 0 0 (rp_A a 62)) (F0 m 16 ls [])) (v1 : Int32) (σ : rp_St) (H : Heap) (locs : List Loc) (ls : Array Slot) (hF : fX6_inOrder_16 k16 v1 σ = some res) (hw : xW D cI cB cS a s σ H locs) (hl : lv_has ls 2 [(0, .ref (a 54)), (1, .int v1)]) : W p l e (rp_rm 6) s m args below meth c H locs 0 0 (MQ below (rp_Qi D a (xt cI cB cS a) 62 res) args s 0 0 (rp_A a 62)) (F0 m 16 ls []) := by
  have hx := hC.1
  have hb := hC.2.1
  have hown := hC.2.2.2.1
  have hts := hC.2.2.2.2.1
  unfold fX6_inOrder_16 at hF
  refine lv_iload_n (pc := 16) hx hb dX6_inOrder_16 rfl (lv_at hl 1 rfl) ?_
  refine lv_bipush (pc := 17) (v := 60) hx hb dX6_inOrder_17 (by decide) ?_
  refine lv_icmp_gt (pc := 19) (tgt := 55) hx hb dX6_inOrder_19 (by decide) (fun hc => ?_) (fun hc => ?_)
  · replace hF := rp_it hc hF
    refine lv_aload_n (pc := 55) hx hb dX6_inOrder_55 rfl (lv_at hl 0 rfl) ?_
    refine lv_iconst (pc := 56) (v := 2) hx hb dX6_inOrder_56 (by decide) ?_
    obtain ⟨r1, σ2, hq, hF⟩ := rp_bd_e hF
    refine rp_ki (rp_runV (rest := []) hC (xE_ok _) hw hl.1 (mX6_refuse (l := l) 2 σ _ hq) vw_X6_66 (by decide) (xt_reg _) rfl rfl rfl (Nat.le_of_ble_eq_true rfl) (by decide) dX6_inOrder_57) hw (fun H locs hw => ?_)
    clear hq
    exact rp_reti (pc := 60) hC hw hF dX6_inOrder_60
  · replace hF := rp_if hc hF
    refine lv_aload_n (pc := 22) hx hb dX6_inOrder_22 rfl (lv_at hl 0 rfl) ?_
    refine rp_get (pc := 23) hC hw 54 (by decide) (xt_reg _) fl_X6_26 (.ref (a 14)) rfl dX6_inOrder_23 ?_
    obtain ⟨r3, σ4, hq, hF⟩ := rp_bd_e hF
    refine rp_ki (rp_runV (rest := []) hC (xE_ok _) hw hl.1 (mX0_wrongPairs (l := l) 2 (by decide) σ _ hq) vw_X6_207 (by decide) ((xt_ball (b := 2) (by decide)) _) rfl rfl rfl (Nat.le_of_ble_eq_true rfl) (by decide) dX6_inOrder_26) hw (fun H locs hw => ?_)
    clear hq
    refine lv_if_ne (pc := 29) (tgt := 34) hx hb dX6_inOrder_29 (by decide) (fun hc => ?_) (fun hc => ?_)
    · replace hF := rp_if hc hF
      refine lv_aload_n (pc := 34) hx hb dX6_inOrder_34 rfl (lv_at hl 0 rfl) ?_
      refine rp_get (pc := 35) hC hw 54 (by decide) (xt_reg _) fl_X6_26 (.ref (a 14)) rfl dX6_inOrder_35 ?_
      refine lv_iconst (pc := 38) (v := 1) hx hb dX6_inOrder_38 (by decide) ?_
      refine lv_aload_n (pc := 39) hx hb dX6_inOrder_39 rfl (lv_at hl 0 rfl) ?_
      refine rp_get (pc := 40) hC hw 54 (by decide) (xt_reg _) fl_X6_10 (.ref (a 40)) rfl dX6_inOrder_40 ?_
      refine rp_get (pc := 43) hC hw 40 (by decide) ((xt_eve (i := 0) (by decide)) _) fl_X6_165 (.ref (a 31)) rfl dX6_inOrder_43 ?_
      obtain ⟨r5, σ6, hq, hF⟩ := rp_bd_e hF
      refine rp_kv (rp_runV (rest := []) hC (xE_ok _) hw hl.1 (mX0_passHours (l := l) 2 (by decide) 1 (by decide) 1 σ4 _ hq) vw_X6_168 (by decide) ((xt_ball (b := 2) (by decide)) _) rfl rfl rfl (Nat.le_of_ble_eq_true rfl) (by decide) dX6_inOrder_46) hw (fun H locs hw => ?_)
      clear hq
      obtain ⟨x7, ex7, hF⟩ := rp_nm_e hF
      refine lv_iinc (pc := 49) (v := x7) (lv' := [(1, .int x7), (0, .ref (a 54))]) hx hb dX6_inOrder_49 hl (k := 1) rfl (by rw [ex7]; rfl) (by decide) rfl (fun ls hl => ?_)
      refine lv_goto (pc := 52) (tgt := 16) hx hb dX6_inOrder_52 (by decide) ?_
      exact hk16 x7 σ6 _ _ _ hF hw (lv_sub hl [1, 0] rfl)
    · replace hF := rp_it hc hF
      refine lv_iload_n (pc := 32) hx hb dX6_inOrder_32 rfl (lv_at hl 1 rfl) ?_
      exact rp_reti (pc := 33) hC hw hF dX6_inOrder_33
theorem lX6_inOrder_16 {p : Program} {l : Launch} {e : Env} {s : State} {m : MethodId} {args : Array Value} {below : List Frame} {meth : Method} {c : Code} {D : va_G} {cI cB cS : ClassId} {a : Nat → Nat} {res : Int32 × rp_St} (hC : xC p s m args meth c cX6_inOrder 2 "RegretPegs" (some .int) D cI cB cS a) : ∀ (n : Nat) (v1 : Int32) (σ : rp_St) (H : Heap) (locs : List Loc) (ls : Array Slot), rp_lp (fun _ _ => none) (fX6_inOrder_16) n v1 σ = some res → xW D cI cB cS a s σ H locs → lv_has ls 2 [(0, .ref (a 54)), (1, .int v1)] → W p l e (rp_rm 6) s m args below meth c H locs 0 0 (MQ below (rp_Qi D a (xt cI cB cS a) 62 res) args s 0 0 (rp_A a 62)) (F0 m 16 ls [])
  | 0, _, _, _, _, _, hF, _, _ => nomatch hF
  | n + 1, v1, σ, H, locs, ls, hF, hw, hl => kX6_inOrder_16 hC (rp_lp (fun _ _ => none) (fX6_inOrder_16) n) (lX6_inOrder_16 hC n) v1 σ H locs ls hF hw hl
def fX6_inOrder (σ : rp_St) : Option (Int32 × rp_St) :=
  rp_bd (fX0_takeFrom 2 0 σ) (fun _ σ2 => rp_lp (fun _ _ => none) (fX6_inOrder_16) 300 0 σ2)
set_option maxRecDepth 100000 in
set_option maxHeartbeats 4000000 in
theorem kX6_inOrder_0 {p : Program} {l : Launch} {e : Env} {s : State} {m : MethodId} {args : Array Value} {below : List Frame} {meth : Method} {c : Code} {D : va_G} {cI cB cS : ClassId} {a : Nat → Nat} {res : Int32 × rp_St} (hC : xC p s m args meth c cX6_inOrder 2 "RegretPegs" (some .int) D cI cB cS a) (σ : rp_St) (H : Heap) (locs : List Loc) (ls : Array Slot) (hF : fX6_inOrder σ = some res) (hw : xW D cI cB cS a s σ H locs) (hl : lv_has ls 2 [(0, .ref (a 54))]) : W p l e (rp_rm 6) s m args below meth c H locs 0 0 (MQ below (rp_Qi D a (xt cI cB cS a) 62 res) args s 0 0 (rp_A a 62)) (F0 m 0 ls []) := by
  have hx := hC.1
  have hb := hC.2.1
  have hown := hC.2.2.2.1
  have hts := hC.2.2.2.2.1
  unfold fX6_inOrder at hF
  refine lv_aload_n (pc := 0) hx hb dX6_inOrder_0 rfl (lv_at hl 0 rfl) ?_
  refine rp_get (pc := 1) hC hw 54 (by decide) (xt_reg _) fl_X6_26 (.ref (a 14)) rfl dX6_inOrder_1 ?_
  refine lv_aload_n (pc := 4) hx hb dX6_inOrder_4 rfl (lv_at hl 0 rfl) ?_
  refine rp_get (pc := 5) hC hw 54 (by decide) (xt_reg _) fl_X6_10 (.ref (a 40)) rfl dX6_inOrder_5 ?_
  refine rp_get (pc := 8) hC hw 40 (by decide) ((xt_eve (i := 0) (by decide)) _) fl_X6_70 (.ref (a 0)) rfl dX6_inOrder_8 ?_
  obtain ⟨r1, σ2, hq, hF⟩ := rp_bd_e hF
  refine rp_kv (rp_runV (rest := []) hC (xE_ok _) hw hl.1 (mX0_takeFrom (l := l) 2 (by decide) 0 (by decide) σ _ hq) vw_X6_179 (by decide) ((xt_ball (b := 2) (by decide)) _) rfl rfl rfl (Nat.le_of_ble_eq_true rfl) (by decide) dX6_inOrder_11) hw (fun H locs hw => ?_)
  clear hq
  refine lv_iconst (pc := 14) (v := 0) hx hb dX6_inOrder_14 (by decide) ?_
  refine lv_istore_n (pc := 15) (lv' := [(1, .int 0), (0, .ref (a 54))]) hx hb dX6_inOrder_15 rfl hl (by decide) rfl (fun ls hl => ?_)
  exact lX6_inOrder_16 hC 300 0 σ2 _ _ _ hF hw (lv_sub hl [1, 0] rfl)
theorem mX6_inOrder {l : Launch} {D : va_G} {cI cB cS : ClassId} {a : Nat → Nat}  (σ : rp_St) (res : Int32 × rp_St) (hF : fX6_inOrder σ = some res) : xM l D cI cB cS a yX6_inOrder cX6_inOrder 2 (some .int) 6 [.ref (a 54)] σ (rp_Qi D a (xt cI cB cS a) 62 res) :=
  rp_entry (by decide) (Nat.le_of_ble_eq_true rfl) (fun p e s m below meth c ls hC hw hl => kX6_inOrder_0 hC σ _ _ _ hF hw (lv_sub hl [0] rfl))
def fX6_wrongs (σ : rp_St) : Option (Int32 × rp_St) :=
  rp_bd (fX0_wrongPairs 0 σ) (fun r1 σ2 => some (r1, σ2))
set_option maxRecDepth 100000 in
set_option maxHeartbeats 4000000 in
theorem kX6_wrongs_0 {p : Program} {l : Launch} {e : Env} {s : State} {m : MethodId} {args : Array Value} {below : List Frame} {meth : Method} {c : Code} {D : va_G} {cI cB cS : ClassId} {a : Nat → Nat} {res : Int32 × rp_St} (hC : xC p s m args meth c cX6_wrongs 1 "RegretPegs" (some .int) D cI cB cS a) (σ : rp_St) (H : Heap) (locs : List Loc) (ls : Array Slot) (hF : fX6_wrongs σ = some res) (hw : xW D cI cB cS a s σ H locs) (hl : lv_has ls 1 [(0, .ref (a 54))]) : W p l e (rp_rm 2) s m args below meth c H locs 0 0 (MQ below (rp_Qi D a (xt cI cB cS a) 62 res) args s 0 0 (rp_A a 62)) (F0 m 0 ls []) := by
  have hx := hC.1
  have hb := hC.2.1
  have hown := hC.2.2.2.1
  have hts := hC.2.2.2.2.1
  unfold fX6_wrongs at hF
  refine lv_aload_n (pc := 0) hx hb dX6_wrongs_0 rfl (lv_at hl 0 rfl) ?_
  refine rp_get (pc := 1) hC hw 54 (by decide) (xt_reg _) fl_X6_10 (.ref (a 40)) rfl dX6_wrongs_1 ?_
  refine rp_get (pc := 4) hC hw 40 (by decide) ((xt_eve (i := 0) (by decide)) _) fl_X6_70 (.ref (a 0)) rfl dX6_wrongs_4 ?_
  obtain ⟨r1, σ2, hq, hF⟩ := rp_bd_e hF
  refine rp_ki (rp_runV (rest := []) hC (xE_ok _) hw hl.1 (mX0_wrongPairs (l := l) 0 (by decide) σ _ hq) vw_X6_207 (by decide) ((xt_ball (b := 0) (by decide)) _) rfl rfl rfl (Nat.le_of_ble_eq_true rfl) (by decide) dX6_wrongs_7) hw (fun H locs hw => ?_)
  clear hq
  exact rp_reti (pc := 10) hC hw hF dX6_wrongs_10
theorem mX6_wrongs {l : Launch} {D : va_G} {cI cB cS : ClassId} {a : Nat → Nat}  (σ : rp_St) (res : Int32 × rp_St) (hF : fX6_wrongs σ = some res) : xM l D cI cB cS a yX6_wrongs cX6_wrongs 1 (some .int) 2 [.ref (a 54)] σ (rp_Qi D a (xt cI cB cS a) 62 res) :=
  rp_entry (by decide) (Nat.le_of_ble_eq_true rfl) (fun p e s m below meth c ls hC hw hl => kX6_wrongs_0 hC σ _ _ _ hF hw (lv_sub hl [0] rfl))
def fX6_swap_113 (k15 : Int32 → Int32 → Int32 → rp_St → Option (Int32 × rp_St)) (k34 : Int32 → Int32 → Int32 → Int32 → rp_St → Option (Int32 × rp_St)) (v1 : Int32) (v2 : Int32) (v3 : Int32) (v4 : Int32) (σ : rp_St) : Option (Int32 × rp_St) :=
  rp_nm (v4 + 1) (fun x1 => k34 v1 v2 v3 x1 σ)
set_option maxRecDepth 100000 in
set_option maxHeartbeats 4000000 in
theorem kX6_swap_113 {p : Program} {l : Launch} {e : Env} {s : State} {m : MethodId} {args : Array Value} {below : List Frame} {meth : Method} {c : Code} {D : va_G} {cI cB cS : ClassId} {a : Nat → Nat} {res : Int32 × rp_St} (hC : xC p s m args meth c cX6_swap 6 "RegretPegs" (some .int) D cI cB cS a) (k15 : Int32 → Int32 → Int32 → rp_St → Option (Int32 × rp_St)) (hk15 : ∀ (v1 : Int32) (v2 : Int32) (v3 : Int32) (σ : rp_St) (H : Heap) (locs : List Loc) (ls : Array Slot), k15 v1 v2 v3 σ = some res → xW D cI cB cS a s σ H locs → lv_has ls 6 [(0, .ref (a 54)), (1, .int v1), (2, .int v2), (3, .int v3)] → W p l e (rp_rm 2) s m args below meth c H locs 0 0 (MQ below (rp_Qi D a (xt cI cB cS a) 62 res) args s 0 0 (rp_A a 62)) (F0 m 15 ls [])) (k34 : Int32 → Int32 → Int32 → Int32 → rp_St → Option (Int32 × rp_St)) (hk34 : ∀ (v1 : Int32) (v2 : Int32) (v3 : Int32) (v4 : Int32) (σ : rp_St) (H : Heap) (locs : List Loc) (ls : Array Slot), k34 v1 v2 v3 v4 σ = some res → xW D cI cB cS a s σ H locs → lv_has ls 6 [(0, .ref (a 54)), (1, .int v1), (2, .int v2), (3, .int v3), (4, .int v4)] → W p l e (rp_rm 2) s m args below meth c H locs 0 0 (MQ below (rp_Qi D a (xt cI cB cS a) 62 res) args s 0 0 (rp_A a 62)) (F0 m 34 ls [])) (v1 : Int32) (v2 : Int32) (v3 : Int32) (v4 : Int32) (σ : rp_St) (H : Heap) (locs : List Loc) (ls : Array Slot) (hF : fX6_swap_113 k15 k34 v1 v2 v3 v4 σ = some res) (hw : xW D cI cB cS a s σ H locs) (hl : lv_has ls 6 [(0, .ref (a 54)), (1, .int v1), (2, .int v2), (3, .int v3), (4, .int v4)]) : W p l e (rp_rm 2) s m args below meth c H locs 0 0 (MQ below (rp_Qi D a (xt cI cB cS a) 62 res) args s 0 0 (rp_A a 62)) (F0 m 113 ls []) := by
  have hx := hC.1
  have hb := hC.2.1
  have hown := hC.2.2.2.1
  have hts := hC.2.2.2.2.1
  unfold fX6_swap_113 at hF
  obtain ⟨x1, ex1, hF⟩ := rp_nm_e hF
  refine lv_iinc (pc := 113) (v := x1) (lv' := [(4, .int x1), (0, .ref (a 54)), (1, .int v1), (2, .int v2), (3, .int v3)]) hx hb dX6_swap_113 hl (k := 4) rfl (by rw [ex1]; rfl) (by decide) rfl (fun ls hl => ?_)
  refine lv_goto (pc := 116) (tgt := 34) hx hb dX6_swap_116 (by decide) ?_
  exact hk34 v1 v2 v3 x1 σ _ _ _ hF hw (lv_sub hl [1, 2, 3, 4, 0] rfl)
def fX6_swap_34 (k15 : Int32 → Int32 → Int32 → rp_St → Option (Int32 × rp_St)) (k34 : Int32 → Int32 → Int32 → Int32 → rp_St → Option (Int32 × rp_St)) (v1 : Int32) (v2 : Int32) (v3 : Int32) (v4 : Int32) (σ : rp_St) : Option (Int32 × rp_St) :=
  (if (σ 0 0) ≤ v4 then rp_nm (v3 + 1) (fun x1 => k15 v1 v2 x1 σ) else rp_bd (fX0_takeFrom 2 0 σ) (fun _ σ3 => rp_bd (fX0_pegOf 2 v3 σ3) (fun r4 σ5 => rp_bd (fX0_pegOf 2 v4 σ5) (fun r6 σ7 => rp_bd (fX0_exchange 2 r4 r6 σ7) (fun _ σ9 => rp_bd (fX0_wrongPairs 2 σ9) (fun r10 σ11 => (if v1 ≤ r10 then fX6_swap_113 k15 k34 v1 v2 v3 v4 σ11 else rp_nm ((10 * v3) + v4) (fun x12 => fX6_swap_113 k15 k34 r10 x12 v3 v4 σ11))))))))
set_option maxRecDepth 100000 in
set_option maxHeartbeats 4000000 in
theorem kX6_swap_34 {p : Program} {l : Launch} {e : Env} {s : State} {m : MethodId} {args : Array Value} {below : List Frame} {meth : Method} {c : Code} {D : va_G} {cI cB cS : ClassId} {a : Nat → Nat} {res : Int32 × rp_St} (hC : xC p s m args meth c cX6_swap 6 "RegretPegs" (some .int) D cI cB cS a) (k15 : Int32 → Int32 → Int32 → rp_St → Option (Int32 × rp_St)) (hk15 : ∀ (v1 : Int32) (v2 : Int32) (v3 : Int32) (σ : rp_St) (H : Heap) (locs : List Loc) (ls : Array Slot), k15 v1 v2 v3 σ = some res → xW D cI cB cS a s σ H locs → lv_has ls 6 [(0, .ref (a 54)), (1, .int v1), (2, .int v2), (3, .int v3)] → W p l e (rp_rm 2) s m args below meth c H locs 0 0 (MQ below (rp_Qi D a (xt cI cB cS a) 62 res) args s 0 0 (rp_A a 62)) (F0 m 15 ls [])) (k34 : Int32 → Int32 → Int32 → Int32 → rp_St → Option (Int32 × rp_St)) (hk34 : ∀ (v1 : Int32) (v2 : Int32) (v3 : Int32) (v4 : Int32) (σ : rp_St) (H : Heap) (locs : List Loc) (ls : Array Slot), k34 v1 v2 v3 v4 σ = some res → xW D cI cB cS a s σ H locs → lv_has ls 6 [(0, .ref (a 54)), (1, .int v1), (2, .int v2), (3, .int v3), (4, .int v4)] → W p l e (rp_rm 2) s m args below meth c H locs 0 0 (MQ below (rp_Qi D a (xt cI cB cS a) 62 res) args s 0 0 (rp_A a 62)) (F0 m 34 ls [])) (v1 : Int32) (v2 : Int32) (v3 : Int32) (v4 : Int32) (σ : rp_St) (H : Heap) (locs : List Loc) (ls : Array Slot) (hF : fX6_swap_34 k15 k34 v1 v2 v3 v4 σ = some res) (hw : xW D cI cB cS a s σ H locs) (hl : lv_has ls 6 [(0, .ref (a 54)), (1, .int v1), (2, .int v2), (3, .int v3), (4, .int v4)]) : W p l e (rp_rm 2) s m args below meth c H locs 0 0 (MQ below (rp_Qi D a (xt cI cB cS a) 62 res) args s 0 0 (rp_A a 62)) (F0 m 34 ls []) := by
  have hx := hC.1
  have hb := hC.2.1
  have hown := hC.2.2.2.1
  have hts := hC.2.2.2.2.1
  unfold fX6_swap_34 at hF
  refine lv_iload (pc := 34) hx hb dX6_swap_34 (lv_at hl 4 rfl) ?_
  refine lv_aload_n (pc := 36) hx hb dX6_swap_36 rfl (lv_at hl 0 rfl) ?_
  refine rp_get (pc := 37) hC hw 54 (by decide) (xt_reg _) fl_X6_10 (.ref (a 40)) rfl dX6_swap_37 ?_
  refine rp_get (pc := 40) hC hw 40 (by decide) ((xt_eve (i := 0) (by decide)) _) fl_X6_70 (.ref (a 0)) rfl dX6_swap_40 ?_
  refine rp_get (pc := 43) hC hw 0 (by decide) ((xt_ball (b := 0) (by decide)) _) fl_X6_73 (.int (σ 0 0)) rfl dX6_swap_43 ?_
  refine lv_icmp_ge (pc := 46) (tgt := 119) hx hb dX6_swap_46 (by decide) (fun hc => ?_) (fun hc => ?_)
  · replace hF := rp_it hc hF
    obtain ⟨x1, ex1, hF⟩ := rp_nm_e hF
    refine lv_iinc (pc := 119) (v := x1) (lv' := [(3, .int x1), (0, .ref (a 54)), (1, .int v1), (2, .int v2), (4, .int v4)]) hx hb dX6_swap_119 hl (k := 3) rfl (by rw [ex1]; rfl) (by decide) rfl (fun ls hl => ?_)
    refine lv_goto (pc := 122) (tgt := 15) hx hb dX6_swap_122 (by decide) ?_
    exact hk15 v1 v2 x1 σ _ _ _ hF hw (lv_sub hl [1, 2, 3, 0] rfl)
  · replace hF := rp_if hc hF
    refine lv_aload_n (pc := 49) hx hb dX6_swap_49 rfl (lv_at hl 0 rfl) ?_
    refine rp_get (pc := 50) hC hw 54 (by decide) (xt_reg _) fl_X6_26 (.ref (a 14)) rfl dX6_swap_50 ?_
    refine lv_aload_n (pc := 53) hx hb dX6_swap_53 rfl (lv_at hl 0 rfl) ?_
    refine rp_get (pc := 54) hC hw 54 (by decide) (xt_reg _) fl_X6_10 (.ref (a 40)) rfl dX6_swap_54 ?_
    refine rp_get (pc := 57) hC hw 40 (by decide) ((xt_eve (i := 0) (by decide)) _) fl_X6_70 (.ref (a 0)) rfl dX6_swap_57 ?_
    obtain ⟨r2, σ3, hq, hF⟩ := rp_bd_e hF
    refine rp_kv (rp_runV (rest := []) hC (xE_ok _) hw hl.1 (mX0_takeFrom (l := l) 2 (by decide) 0 (by decide) σ _ hq) vw_X6_179 (by decide) ((xt_ball (b := 2) (by decide)) _) rfl rfl rfl (Nat.le_of_ble_eq_true rfl) (by decide) dX6_swap_60) hw (fun H locs hw => ?_)
    clear hq
    refine lv_aload_n (pc := 63) hx hb dX6_swap_63 rfl (lv_at hl 0 rfl) ?_
    refine rp_get (pc := 64) hC hw 54 (by decide) (xt_reg _) fl_X6_26 (.ref (a 14)) rfl dX6_swap_64 ?_
    refine lv_aload_n (pc := 67) hx hb dX6_swap_67 rfl (lv_at hl 0 rfl) ?_
    refine rp_get (pc := 68) hC hw 54 (by decide) (xt_reg _) fl_X6_26 (.ref (a 14)) rfl dX6_swap_68 ?_
    refine lv_iload_n (pc := 71) hx hb dX6_swap_71 rfl (lv_at hl 3 rfl) ?_
    obtain ⟨r4, σ5, hq, hF⟩ := rp_bd_e hF
    refine rp_ki (rp_runV (rest := [.ref (a 14)]) hC (xE_ok _) hw hl.1 (mX0_pegOf (l := l) 2 (by decide) v3 σ3 _ hq) vw_X6_98 (by decide) ((xt_ball (b := 2) (by decide)) _) rfl rfl rfl (Nat.le_of_ble_eq_true rfl) (by decide) dX6_swap_72) hw (fun H locs hw => ?_)
    clear hq
    refine lv_aload_n (pc := 75) hx hb dX6_swap_75 rfl (lv_at hl 0 rfl) ?_
    refine rp_get (pc := 76) hC hw 54 (by decide) (xt_reg _) fl_X6_26 (.ref (a 14)) rfl dX6_swap_76 ?_
    refine lv_iload (pc := 79) hx hb dX6_swap_79 (lv_at hl 4 rfl) ?_
    obtain ⟨r6, σ7, hq, hF⟩ := rp_bd_e hF
    refine rp_ki (rp_runV (rest := [.int r4, .ref (a 14)]) hC (xE_ok _) hw hl.1 (mX0_pegOf (l := l) 2 (by decide) v4 σ5 _ hq) vw_X6_98 (by decide) ((xt_ball (b := 2) (by decide)) _) rfl rfl rfl (Nat.le_of_ble_eq_true rfl) (by decide) dX6_swap_81) hw (fun H locs hw => ?_)
    clear hq
    obtain ⟨r8, σ9, hq, hF⟩ := rp_bd_e hF
    refine rp_kv (rp_runV (rest := []) hC (xE_ok _) hw hl.1 (mX0_exchange (l := l) 2 (by decide) r4 r6 σ7 _ hq) vw_X6_114 (by decide) ((xt_ball (b := 2) (by decide)) _) rfl rfl rfl (Nat.le_of_ble_eq_true rfl) (by decide) dX6_swap_84) hw (fun H locs hw => ?_)
    clear hq
    refine lv_aload_n (pc := 87) hx hb dX6_swap_87 rfl (lv_at hl 0 rfl) ?_
    refine rp_get (pc := 88) hC hw 54 (by decide) (xt_reg _) fl_X6_26 (.ref (a 14)) rfl dX6_swap_88 ?_
    obtain ⟨r10, σ11, hq, hF⟩ := rp_bd_e hF
    refine rp_ki (rp_runV (rest := []) hC (xE_ok _) hw hl.1 (mX0_wrongPairs (l := l) 2 (by decide) σ9 _ hq) vw_X6_207 (by decide) ((xt_ball (b := 2) (by decide)) _) rfl rfl rfl (Nat.le_of_ble_eq_true rfl) (by decide) dX6_swap_91) hw (fun H locs hw => ?_)
    clear hq
    refine lv_istore (pc := 94) (lv' := [(5, .int r10), (0, .ref (a 54)), (1, .int v1), (2, .int v2), (3, .int v3), (4, .int v4)]) hx hb dX6_swap_94 hl (by decide) rfl (fun ls hl => ?_)
    refine lv_iload (pc := 96) hx hb dX6_swap_96 (lv_at hl 0 rfl) ?_
    refine lv_iload_n (pc := 98) hx hb dX6_swap_98 rfl (lv_at hl 2 rfl) ?_
    refine lv_icmp_ge (pc := 99) (tgt := 113) hx hb dX6_swap_99 (by decide) (fun hc => ?_) (fun hc => ?_)
    · replace hF := rp_it hc hF
      exact kX6_swap_113 hC k15 hk15 k34 hk34 v1 v2 v3 v4 σ11 _ _ _ hF hw (lv_sub hl [1, 2, 3, 4, 5] rfl)
    · replace hF := rp_if hc hF
      refine lv_iload (pc := 102) hx hb dX6_swap_102 (lv_at hl 0 rfl) ?_
      refine lv_istore_n (pc := 104) (lv' := [(1, .int r10), (5, .int r10), (0, .ref (a 54)), (2, .int v2), (3, .int v3), (4, .int v4)]) hx hb dX6_swap_104 rfl hl (by decide) rfl (fun ls hl => ?_)
      refine lv_bipush (pc := 105) (v := 10) hx hb dX6_swap_105 (by decide) ?_
      refine lv_iload_n (pc := 107) hx hb dX6_swap_107 rfl (lv_at hl 4 rfl) ?_
      refine lv_imul (pc := 108) hx hb dX6_swap_108 ?_
      refine lv_iload (pc := 109) hx hb dX6_swap_109 (lv_at hl 5 rfl) ?_
      refine lv_iadd (pc := 111) hx hb dX6_swap_111 ?_
      obtain ⟨x12, ex12, hF⟩ := rp_nm_e hF
      refine rp_top ex12 ?_
      refine lv_istore_n (pc := 112) (lv' := [(2, .int x12), (1, .int r10), (5, .int r10), (0, .ref (a 54)), (3, .int v3), (4, .int v4)]) hx hb dX6_swap_112 rfl hl (by decide) rfl (fun ls hl => ?_)
      exact kX6_swap_113 hC k15 hk15 k34 hk34 r10 x12 v3 v4 σ11 _ _ _ hF hw (lv_sub hl [3, 1, 0, 4, 5] rfl)
theorem lX6_swap_34 {p : Program} {l : Launch} {e : Env} {s : State} {m : MethodId} {args : Array Value} {below : List Frame} {meth : Method} {c : Code} {D : va_G} {cI cB cS : ClassId} {a : Nat → Nat} {res : Int32 × rp_St} (hC : xC p s m args meth c cX6_swap 6 "RegretPegs" (some .int) D cI cB cS a) (k15 : Int32 → Int32 → Int32 → rp_St → Option (Int32 × rp_St)) (hk15 : ∀ (v1 : Int32) (v2 : Int32) (v3 : Int32) (σ : rp_St) (H : Heap) (locs : List Loc) (ls : Array Slot), k15 v1 v2 v3 σ = some res → xW D cI cB cS a s σ H locs → lv_has ls 6 [(0, .ref (a 54)), (1, .int v1), (2, .int v2), (3, .int v3)] → W p l e (rp_rm 2) s m args below meth c H locs 0 0 (MQ below (rp_Qi D a (xt cI cB cS a) 62 res) args s 0 0 (rp_A a 62)) (F0 m 15 ls [])) : ∀ (n : Nat) (v1 : Int32) (v2 : Int32) (v3 : Int32) (v4 : Int32) (σ : rp_St) (H : Heap) (locs : List Loc) (ls : Array Slot), rp_lp (fun _ _ _ _ _ => none) (fX6_swap_34 k15) n v1 v2 v3 v4 σ = some res → xW D cI cB cS a s σ H locs → lv_has ls 6 [(0, .ref (a 54)), (1, .int v1), (2, .int v2), (3, .int v3), (4, .int v4)] → W p l e (rp_rm 2) s m args below meth c H locs 0 0 (MQ below (rp_Qi D a (xt cI cB cS a) 62 res) args s 0 0 (rp_A a 62)) (F0 m 34 ls [])
  | 0, _, _, _, _, _, _, _, _, hF, _, _ => nomatch hF
  | n + 1, v1, v2, v3, v4, σ, H, locs, ls, hF, hw, hl => kX6_swap_34 hC k15 hk15 (rp_lp (fun _ _ _ _ _ => none) (fX6_swap_34 k15) n) (lX6_swap_34 hC k15 hk15 n) v1 v2 v3 v4 σ H locs ls hF hw hl
def fX6_swap_15 (k15 : Int32 → Int32 → Int32 → rp_St → Option (Int32 × rp_St)) (v1 : Int32) (v2 : Int32) (v3 : Int32) (σ : rp_St) : Option (Int32 × rp_St) :=
  (if (σ 0 0) ≤ v3 then some (v2, σ) else rp_nm (v3 + 1) (fun x1 => rp_lp (fun _ _ _ _ _ => none) (fX6_swap_34 k15) 300 v1 v2 v3 x1 σ))
set_option maxRecDepth 100000 in
set_option maxHeartbeats 4000000 in
theorem kX6_swap_15 {p : Program} {l : Launch} {e : Env} {s : State} {m : MethodId} {args : Array Value} {below : List Frame} {meth : Method} {c : Code} {D : va_G} {cI cB cS : ClassId} {a : Nat → Nat} {res : Int32 × rp_St} (hC : xC p s m args meth c cX6_swap 6 "RegretPegs" (some .int) D cI cB cS a) (k15 : Int32 → Int32 → Int32 → rp_St → Option (Int32 × rp_St)) (hk15 : ∀ (v1 : Int32) (v2 : Int32) (v3 : Int32) (σ : rp_St) (H : Heap) (locs : List Loc) (ls : Array Slot), k15 v1 v2 v3 σ = some res → xW D cI cB cS a s σ H locs → lv_has ls 6 [(0, .ref (a 54)), (1, .int v1), (2, .int v2), (3, .int v3)] → W p l e (rp_rm 2) s m args below meth c H locs 0 0 (MQ below (rp_Qi D a (xt cI cB cS a) 62 res) args s 0 0 (rp_A a 62)) (F0 m 15 ls [])) (v1 : Int32) (v2 : Int32) (v3 : Int32) (σ : rp_St) (H : Heap) (locs : List Loc) (ls : Array Slot) (hF : fX6_swap_15 k15 v1 v2 v3 σ = some res) (hw : xW D cI cB cS a s σ H locs) (hl : lv_has ls 6 [(0, .ref (a 54)), (1, .int v1), (2, .int v2), (3, .int v3)]) : W p l e (rp_rm 2) s m args below meth c H locs 0 0 (MQ below (rp_Qi D a (xt cI cB cS a) 62 res) args s 0 0 (rp_A a 62)) (F0 m 15 ls []) := by
  have hx := hC.1
  have hb := hC.2.1
  have hown := hC.2.2.2.1
  have hts := hC.2.2.2.2.1
  unfold fX6_swap_15 at hF
  refine lv_iload_n (pc := 15) hx hb dX6_swap_15 rfl (lv_at hl 3 rfl) ?_
  refine lv_aload_n (pc := 16) hx hb dX6_swap_16 rfl (lv_at hl 0 rfl) ?_
  refine rp_get (pc := 17) hC hw 54 (by decide) (xt_reg _) fl_X6_10 (.ref (a 40)) rfl dX6_swap_17 ?_
  refine rp_get (pc := 20) hC hw 40 (by decide) ((xt_eve (i := 0) (by decide)) _) fl_X6_70 (.ref (a 0)) rfl dX6_swap_20 ?_
  refine rp_get (pc := 23) hC hw 0 (by decide) ((xt_ball (b := 0) (by decide)) _) fl_X6_73 (.int (σ 0 0)) rfl dX6_swap_23 ?_
  refine lv_icmp_ge (pc := 26) (tgt := 125) hx hb dX6_swap_26 (by decide) (fun hc => ?_) (fun hc => ?_)
  · replace hF := rp_it hc hF
    refine lv_iload_n (pc := 125) hx hb dX6_swap_125 rfl (lv_at hl 2 rfl) ?_
    exact rp_reti (pc := 126) hC hw hF dX6_swap_126
  · replace hF := rp_if hc hF
    refine lv_iload_n (pc := 29) hx hb dX6_swap_29 rfl (lv_at hl 3 rfl) ?_
    refine lv_iconst (pc := 30) (v := 1) hx hb dX6_swap_30 (by decide) ?_
    refine lv_iadd (pc := 31) hx hb dX6_swap_31 ?_
    obtain ⟨x1, ex1, hF⟩ := rp_nm_e hF
    refine rp_top ex1 ?_
    refine lv_istore (pc := 32) (lv' := [(4, .int x1), (0, .ref (a 54)), (1, .int v1), (2, .int v2), (3, .int v3)]) hx hb dX6_swap_32 hl (by decide) rfl (fun ls hl => ?_)
    exact lX6_swap_34 hC k15 hk15 300 v1 v2 v3 x1 σ _ _ _ hF hw (lv_sub hl [1, 2, 3, 4, 0] rfl)
theorem lX6_swap_15 {p : Program} {l : Launch} {e : Env} {s : State} {m : MethodId} {args : Array Value} {below : List Frame} {meth : Method} {c : Code} {D : va_G} {cI cB cS : ClassId} {a : Nat → Nat} {res : Int32 × rp_St} (hC : xC p s m args meth c cX6_swap 6 "RegretPegs" (some .int) D cI cB cS a) : ∀ (n : Nat) (v1 : Int32) (v2 : Int32) (v3 : Int32) (σ : rp_St) (H : Heap) (locs : List Loc) (ls : Array Slot), rp_lp (fun _ _ _ _ => none) (fX6_swap_15) n v1 v2 v3 σ = some res → xW D cI cB cS a s σ H locs → lv_has ls 6 [(0, .ref (a 54)), (1, .int v1), (2, .int v2), (3, .int v3)] → W p l e (rp_rm 2) s m args below meth c H locs 0 0 (MQ below (rp_Qi D a (xt cI cB cS a) 62 res) args s 0 0 (rp_A a 62)) (F0 m 15 ls [])
  | 0, _, _, _, _, _, _, _, hF, _, _ => nomatch hF
  | n + 1, v1, v2, v3, σ, H, locs, ls, hF, hw, hl => kX6_swap_15 hC (rp_lp (fun _ _ _ _ => none) (fX6_swap_15) n) (lX6_swap_15 hC n) v1 v2 v3 σ H locs ls hF hw hl
def fX6_swap (σ : rp_St) : Option (Int32 × rp_St) :=
  rp_bd (fX0_wrongPairs 0 σ) (fun r1 σ2 => rp_lp (fun _ _ _ _ => none) (fX6_swap_15) 300 r1 (-1) 0 σ2)
set_option maxRecDepth 100000 in
set_option maxHeartbeats 4000000 in
theorem kX6_swap_0 {p : Program} {l : Launch} {e : Env} {s : State} {m : MethodId} {args : Array Value} {below : List Frame} {meth : Method} {c : Code} {D : va_G} {cI cB cS : ClassId} {a : Nat → Nat} {res : Int32 × rp_St} (hC : xC p s m args meth c cX6_swap 6 "RegretPegs" (some .int) D cI cB cS a) (σ : rp_St) (H : Heap) (locs : List Loc) (ls : Array Slot) (hF : fX6_swap σ = some res) (hw : xW D cI cB cS a s σ H locs) (hl : lv_has ls 6 [(0, .ref (a 54))]) : W p l e (rp_rm 2) s m args below meth c H locs 0 0 (MQ below (rp_Qi D a (xt cI cB cS a) 62 res) args s 0 0 (rp_A a 62)) (F0 m 0 ls []) := by
  have hx := hC.1
  have hb := hC.2.1
  have hown := hC.2.2.2.1
  have hts := hC.2.2.2.2.1
  unfold fX6_swap at hF
  refine lv_aload_n (pc := 0) hx hb dX6_swap_0 rfl (lv_at hl 0 rfl) ?_
  refine rp_get (pc := 1) hC hw 54 (by decide) (xt_reg _) fl_X6_10 (.ref (a 40)) rfl dX6_swap_1 ?_
  refine rp_get (pc := 4) hC hw 40 (by decide) ((xt_eve (i := 0) (by decide)) _) fl_X6_70 (.ref (a 0)) rfl dX6_swap_4 ?_
  obtain ⟨r1, σ2, hq, hF⟩ := rp_bd_e hF
  refine rp_ki (rp_runV (rest := []) hC (xE_ok _) hw hl.1 (mX0_wrongPairs (l := l) 0 (by decide) σ _ hq) vw_X6_207 (by decide) ((xt_ball (b := 0) (by decide)) _) rfl rfl rfl (Nat.le_of_ble_eq_true rfl) (by decide) dX6_swap_7) hw (fun H locs hw => ?_)
  clear hq
  refine lv_istore_n (pc := 10) (lv' := [(1, .int r1), (0, .ref (a 54))]) hx hb dX6_swap_10 rfl hl (by decide) rfl (fun ls hl => ?_)
  refine lv_iconst (pc := 11) (v := (-1)) hx hb dX6_swap_11 (by decide) ?_
  refine lv_istore_n (pc := 12) (lv' := [(2, .int (-1)), (1, .int r1), (0, .ref (a 54))]) hx hb dX6_swap_12 rfl hl (by decide) rfl (fun ls hl => ?_)
  refine lv_iconst (pc := 13) (v := 0) hx hb dX6_swap_13 (by decide) ?_
  refine lv_istore_n (pc := 14) (lv' := [(3, .int 0), (2, .int (-1)), (1, .int r1), (0, .ref (a 54))]) hx hb dX6_swap_14 rfl hl (by decide) rfl (fun ls hl => ?_)
  exact lX6_swap_15 hC 300 r1 (-1) 0 σ2 _ _ _ hF hw (lv_sub hl [3, 2, 1, 0] rfl)
theorem mX6_swap {l : Launch} {D : va_G} {cI cB cS : ClassId} {a : Nat → Nat}  (σ : rp_St) (res : Int32 × rp_St) (hF : fX6_swap σ = some res) : xM l D cI cB cS a yX6_swap cX6_swap 6 (some .int) 2 [.ref (a 54)] σ (rp_Qi D a (xt cI cB cS a) 62 res) :=
  rp_entry (by decide) (Nat.le_of_ble_eq_true rfl) (fun p e s m below meth c ls hC hw hl => kX6_swap_0 hC σ _ _ _ hF hw (lv_sub hl [0] rfl))
def fX6_go_18 (σ : rp_St) : Option (Int32 × rp_St) :=
  rp_bd (fX6_refuse 1 σ) (fun r1 σ2 => some (r1, σ2))
set_option maxRecDepth 100000 in
set_option maxHeartbeats 4000000 in
theorem kX6_go_18 {p : Program} {l : Launch} {e : Env} {s : State} {m : MethodId} {args : Array Value} {below : List Frame} {meth : Method} {c : Code} {D : va_G} {cI cB cS : ClassId} {a : Nat → Nat} {res : Int32 × rp_St} (hC : xC p s m args meth c cX6_go 7 "RegretPegs" (some .int) D cI cB cS a) (σ : rp_St) (H : Heap) (locs : List Loc) (ls : Array Slot) (hF : fX6_go_18 σ = some res) (hw : xW D cI cB cS a s σ H locs) (hl : lv_has ls 7 [(0, .ref (a 54))]) : W p l e (rp_rm 6) s m args below meth c H locs 0 0 (MQ below (rp_Qi D a (xt cI cB cS a) 62 res) args s 0 0 (rp_A a 62)) (F0 m 18 ls []) := by
  have hx := hC.1
  have hb := hC.2.1
  have hown := hC.2.2.2.1
  have hts := hC.2.2.2.2.1
  unfold fX6_go_18 at hF
  refine lv_aload_n (pc := 18) hx hb dX6_go_18 rfl (lv_at hl 0 rfl) ?_
  refine lv_iconst (pc := 19) (v := 1) hx hb dX6_go_19 (by decide) ?_
  obtain ⟨r1, σ2, hq, hF⟩ := rp_bd_e hF
  refine rp_ki (rp_runV (rest := []) hC (xE_ok _) hw hl.1 (mX6_refuse (l := l) 1 σ _ hq) vw_X6_66 (by decide) (xt_reg _) rfl rfl rfl (Nat.le_of_ble_eq_true rfl) (by decide) dX6_go_20) hw (fun H locs hw => ?_)
  clear hq
  exact rp_reti (pc := 23) hC hw hF dX6_go_23
def fX6_go_118 (k33 : Int32 → Int32 → Int32 → Int32 → Int32 → rp_St → Option (Int32 × rp_St)) (v1 : Int32) (v2 : Int32) (v3 : Int32) (v4 : Int32) (v5 : Int32) (σ : rp_St) : Option (Int32 × rp_St) :=
  rp_nm (v5 + 1) (fun x1 => k33 v1 v2 v3 v4 x1 σ)
set_option maxRecDepth 100000 in
set_option maxHeartbeats 4000000 in
theorem kX6_go_118 {p : Program} {l : Launch} {e : Env} {s : State} {m : MethodId} {args : Array Value} {below : List Frame} {meth : Method} {c : Code} {D : va_G} {cI cB cS : ClassId} {a : Nat → Nat} {res : Int32 × rp_St} (hC : xC p s m args meth c cX6_go 7 "RegretPegs" (some .int) D cI cB cS a) (k33 : Int32 → Int32 → Int32 → Int32 → Int32 → rp_St → Option (Int32 × rp_St)) (hk33 : ∀ (v1 : Int32) (v2 : Int32) (v3 : Int32) (v4 : Int32) (v5 : Int32) (σ : rp_St) (H : Heap) (locs : List Loc) (ls : Array Slot), k33 v1 v2 v3 v4 v5 σ = some res → xW D cI cB cS a s σ H locs → lv_has ls 7 [(0, .ref (a 54)), (1, .int v1), (2, .int v2), (3, .int v3), (4, .int v4), (5, .int v5)] → W p l e (rp_rm 6) s m args below meth c H locs 0 0 (MQ below (rp_Qi D a (xt cI cB cS a) 62 res) args s 0 0 (rp_A a 62)) (F0 m 33 ls [])) (v1 : Int32) (v2 : Int32) (v3 : Int32) (v4 : Int32) (v5 : Int32) (σ : rp_St) (H : Heap) (locs : List Loc) (ls : Array Slot) (hF : fX6_go_118 k33 v1 v2 v3 v4 v5 σ = some res) (hw : xW D cI cB cS a s σ H locs) (hl : lv_has ls 7 [(0, .ref (a 54)), (1, .int v1), (2, .int v2), (3, .int v3), (4, .int v4), (5, .int v5)]) : W p l e (rp_rm 6) s m args below meth c H locs 0 0 (MQ below (rp_Qi D a (xt cI cB cS a) 62 res) args s 0 0 (rp_A a 62)) (F0 m 118 ls []) := by
  have hx := hC.1
  have hb := hC.2.1
  have hown := hC.2.2.2.1
  have hts := hC.2.2.2.2.1
  unfold fX6_go_118 at hF
  obtain ⟨x1, ex1, hF⟩ := rp_nm_e hF
  refine lv_iinc (pc := 118) (v := x1) (lv' := [(5, .int x1), (0, .ref (a 54)), (1, .int v1), (2, .int v2), (3, .int v3), (4, .int v4)]) hx hb dX6_go_118 hl (k := 5) rfl (by rw [ex1]; rfl) (by decide) rfl (fun ls hl => ?_)
  refine lv_goto (pc := 121) (tgt := 33) hx hb dX6_go_121 (by decide) ?_
  exact hk33 v1 v2 v3 v4 x1 σ _ _ _ hF hw (lv_sub hl [1, 2, 3, 4, 5, 0] rfl)
def fX6_go_33 (k33 : Int32 → Int32 → Int32 → Int32 → Int32 → rp_St → Option (Int32 × rp_St)) (v1 : Int32) (v2 : Int32) (v3 : Int32) (v4 : Int32) (v5 : Int32) (σ : rp_St) : Option (Int32 × rp_St) :=
  (if (σ 0 0) ≤ v5 then (if v3 = (-1) then rp_bd (fX6_refuse 2 σ) (fun r1 σ2 => some (r1, σ2)) else some (v3, σ)) else (if v5 = v1 then fX6_go_118 k33 v1 v2 v3 v4 v5 σ else rp_bd (fX0_takeFrom 2 0 σ) (fun _ σ4 => rp_gu (rp_in v5 7) (rp_nm (rp_put σ4 17 (v5 : Int32).toNatClampNeg 0) (fun σ5 => rp_bd (fX0_passHours 2 1 v2 σ5) (fun _ σ7 => rp_bd (fX0_pegOf 2 v1 σ7) (fun r8 σ9 => (if v4 ≤ r8 then fX6_go_118 k33 v1 v2 v3 v4 v5 σ9 else fX6_go_118 k33 v1 v2 v5 r8 v5 σ9))))))))
set_option maxRecDepth 100000 in
set_option maxHeartbeats 4000000 in
theorem kX6_go_33 {p : Program} {l : Launch} {e : Env} {s : State} {m : MethodId} {args : Array Value} {below : List Frame} {meth : Method} {c : Code} {D : va_G} {cI cB cS : ClassId} {a : Nat → Nat} {res : Int32 × rp_St} (hC : xC p s m args meth c cX6_go 7 "RegretPegs" (some .int) D cI cB cS a) (k33 : Int32 → Int32 → Int32 → Int32 → Int32 → rp_St → Option (Int32 × rp_St)) (hk33 : ∀ (v1 : Int32) (v2 : Int32) (v3 : Int32) (v4 : Int32) (v5 : Int32) (σ : rp_St) (H : Heap) (locs : List Loc) (ls : Array Slot), k33 v1 v2 v3 v4 v5 σ = some res → xW D cI cB cS a s σ H locs → lv_has ls 7 [(0, .ref (a 54)), (1, .int v1), (2, .int v2), (3, .int v3), (4, .int v4), (5, .int v5)] → W p l e (rp_rm 6) s m args below meth c H locs 0 0 (MQ below (rp_Qi D a (xt cI cB cS a) 62 res) args s 0 0 (rp_A a 62)) (F0 m 33 ls [])) (v1 : Int32) (v2 : Int32) (v3 : Int32) (v4 : Int32) (v5 : Int32) (σ : rp_St) (H : Heap) (locs : List Loc) (ls : Array Slot) (hF : fX6_go_33 k33 v1 v2 v3 v4 v5 σ = some res) (hw : xW D cI cB cS a s σ H locs) (hl : lv_has ls 7 [(0, .ref (a 54)), (1, .int v1), (2, .int v2), (3, .int v3), (4, .int v4), (5, .int v5)]) : W p l e (rp_rm 6) s m args below meth c H locs 0 0 (MQ below (rp_Qi D a (xt cI cB cS a) 62 res) args s 0 0 (rp_A a 62)) (F0 m 33 ls []) := by
  have hx := hC.1
  have hb := hC.2.1
  have hown := hC.2.2.2.1
  have hts := hC.2.2.2.2.1
  unfold fX6_go_33 at hF
  refine lv_iload (pc := 33) hx hb dX6_go_33 (lv_at hl 5 rfl) ?_
  refine lv_aload_n (pc := 35) hx hb dX6_go_35 rfl (lv_at hl 0 rfl) ?_
  refine rp_get (pc := 36) hC hw 54 (by decide) (xt_reg _) fl_X6_10 (.ref (a 40)) rfl dX6_go_36 ?_
  refine rp_get (pc := 39) hC hw 40 (by decide) ((xt_eve (i := 0) (by decide)) _) fl_X6_70 (.ref (a 0)) rfl dX6_go_39 ?_
  refine rp_get (pc := 42) hC hw 0 (by decide) ((xt_ball (b := 0) (by decide)) _) fl_X6_73 (.int (σ 0 0)) rfl dX6_go_42 ?_
  refine lv_icmp_ge (pc := 45) (tgt := 124) hx hb dX6_go_45 (by decide) (fun hc => ?_) (fun hc => ?_)
  · replace hF := rp_it hc hF
    refine lv_iload_n (pc := 124) hx hb dX6_go_124 rfl (lv_at hl 3 rfl) ?_
    refine lv_iconst (pc := 125) (v := (-1)) hx hb dX6_go_125 (by decide) ?_
    refine lv_icmp_ne (pc := 126) (tgt := 137) hx hb dX6_go_126 (by decide) (fun hc => ?_) (fun hc => ?_)
    · replace hF := rp_if hc hF
      refine lv_iload_n (pc := 137) hx hb dX6_go_137 rfl (lv_at hl 3 rfl) ?_
      exact rp_reti (pc := 138) hC hw hF dX6_go_138
    · replace hF := rp_it hc hF
      refine lv_aload_n (pc := 129) hx hb dX6_go_129 rfl (lv_at hl 0 rfl) ?_
      refine lv_iconst (pc := 130) (v := 2) hx hb dX6_go_130 (by decide) ?_
      obtain ⟨r1, σ2, hq, hF⟩ := rp_bd_e hF
      refine rp_ki (rp_runV (rest := []) hC (xE_ok _) hw hl.1 (mX6_refuse (l := l) 2 σ _ hq) vw_X6_66 (by decide) (xt_reg _) rfl rfl rfl (Nat.le_of_ble_eq_true rfl) (by decide) dX6_go_131) hw (fun H locs hw => ?_)
      clear hq
      refine lv_goto (pc := 134) (tgt := 138) hx hb dX6_go_134 (by decide) ?_
      exact rp_reti (pc := 138) hC hw hF dX6_go_138
  · replace hF := rp_if hc hF
    refine lv_iload (pc := 48) hx hb dX6_go_48 (lv_at hl 5 rfl) ?_
    refine lv_iload_n (pc := 50) hx hb dX6_go_50 rfl (lv_at hl 1 rfl) ?_
    refine lv_icmp_eq (pc := 51) (tgt := 118) hx hb dX6_go_51 (by decide) (fun hc => ?_) (fun hc => ?_)
    · replace hF := rp_it hc hF
      exact kX6_go_118 hC k33 hk33 v1 v2 v3 v4 v5 σ _ _ _ hF hw (lv_sub hl [0, 1, 2, 3, 4, 5] rfl)
    · replace hF := rp_if hc hF
      refine lv_aload_n (pc := 54) hx hb dX6_go_54 rfl (lv_at hl 0 rfl) ?_
      refine rp_get (pc := 55) hC hw 54 (by decide) (xt_reg _) fl_X6_26 (.ref (a 14)) rfl dX6_go_55 ?_
      refine lv_aload_n (pc := 58) hx hb dX6_go_58 rfl (lv_at hl 0 rfl) ?_
      refine rp_get (pc := 59) hC hw 54 (by decide) (xt_reg _) fl_X6_10 (.ref (a 40)) rfl dX6_go_59 ?_
      refine rp_get (pc := 62) hC hw 40 (by decide) ((xt_eve (i := 0) (by decide)) _) fl_X6_70 (.ref (a 0)) rfl dX6_go_62 ?_
      obtain ⟨r3, σ4, hq, hF⟩ := rp_bd_e hF
      refine rp_kv (rp_runV (rest := []) hC (xE_ok _) hw hl.1 (mX0_takeFrom (l := l) 2 (by decide) 0 (by decide) σ _ hq) vw_X6_179 (by decide) ((xt_ball (b := 2) (by decide)) _) rfl rfl rfl (Nat.le_of_ble_eq_true rfl) (by decide) dX6_go_65) hw (fun H locs hw => ?_)
      clear hq
      refine lv_aload_n (pc := 68) hx hb dX6_go_68 rfl (lv_at hl 0 rfl) ?_
      refine rp_get (pc := 69) hC hw 54 (by decide) (xt_reg _) fl_X6_26 (.ref (a 14)) rfl dX6_go_69 ?_
      refine rp_get (pc := 72) hC hw 14 (by decide) ((xt_ball (b := 2) (by decide)) _) fl_X6_89 (.ref (a 17)) rfl dX6_go_72 ?_
      refine lv_iload (pc := 75) hx hb dX6_go_75 (lv_at hl 5 rfl) ?_
      refine lv_iconst (pc := 77) (v := 0) hx hb dX6_go_77 (by decide) ?_
      obtain ⟨hg, hF⟩ := rp_gu_e hF
      refine rp_ast (pc := 78) hC hw 17 (by decide) (xt_bar (b := 2) (by decide) 3 ⟨by decide, by decide⟩) 0 rfl hg dX6_go_78 (fun H locs hw => ?_)
      obtain ⟨σ5, eσ5, hF⟩ := rp_nm_e hF
      replace hw := rp_Wn eσ5 hw
      clear eσ5
      refine lv_aload_n (pc := 79) hx hb dX6_go_79 rfl (lv_at hl 0 rfl) ?_
      refine rp_get (pc := 80) hC hw 54 (by decide) (xt_reg _) fl_X6_26 (.ref (a 14)) rfl dX6_go_80 ?_
      refine lv_iload_n (pc := 83) hx hb dX6_go_83 rfl (lv_at hl 2 rfl) ?_
      refine lv_aload_n (pc := 84) hx hb dX6_go_84 rfl (lv_at hl 0 rfl) ?_
      refine rp_get (pc := 85) hC hw 54 (by decide) (xt_reg _) fl_X6_10 (.ref (a 40)) rfl dX6_go_85 ?_
      refine rp_get (pc := 88) hC hw 40 (by decide) ((xt_eve (i := 0) (by decide)) _) fl_X6_165 (.ref (a 31)) rfl dX6_go_88 ?_
      obtain ⟨r6, σ7, hq, hF⟩ := rp_bd_e hF
      refine rp_kv (rp_runV (rest := []) hC (xE_ok _) hw hl.1 (mX0_passHours (l := l) 2 (by decide) 1 (by decide) v2 σ5 _ hq) vw_X6_168 (by decide) ((xt_ball (b := 2) (by decide)) _) rfl rfl rfl (Nat.le_of_ble_eq_true rfl) (by decide) dX6_go_91) hw (fun H locs hw => ?_)
      clear hq
      refine lv_aload_n (pc := 94) hx hb dX6_go_94 rfl (lv_at hl 0 rfl) ?_
      refine rp_get (pc := 95) hC hw 54 (by decide) (xt_reg _) fl_X6_26 (.ref (a 14)) rfl dX6_go_95 ?_
      refine lv_iload_n (pc := 98) hx hb dX6_go_98 rfl (lv_at hl 1 rfl) ?_
      obtain ⟨r8, σ9, hq, hF⟩ := rp_bd_e hF
      refine rp_ki (rp_runV (rest := []) hC (xE_ok _) hw hl.1 (mX0_pegOf (l := l) 2 (by decide) v1 σ7 _ hq) vw_X6_98 (by decide) ((xt_ball (b := 2) (by decide)) _) rfl rfl rfl (Nat.le_of_ble_eq_true rfl) (by decide) dX6_go_99) hw (fun H locs hw => ?_)
      clear hq
      refine lv_istore (pc := 102) (lv' := [(6, .int r8), (0, .ref (a 54)), (1, .int v1), (2, .int v2), (3, .int v3), (4, .int v4), (5, .int v5)]) hx hb dX6_go_102 hl (by decide) rfl (fun ls hl => ?_)
      refine lv_iload (pc := 104) hx hb dX6_go_104 (lv_at hl 0 rfl) ?_
      refine lv_iload (pc := 106) hx hb dX6_go_106 (lv_at hl 5 rfl) ?_
      refine lv_icmp_ge (pc := 108) (tgt := 118) hx hb dX6_go_108 (by decide) (fun hc => ?_) (fun hc => ?_)
      · replace hF := rp_it hc hF
        exact kX6_go_118 hC k33 hk33 v1 v2 v3 v4 v5 σ9 _ _ _ hF hw (lv_sub hl [1, 2, 3, 4, 5, 6] rfl)
      · replace hF := rp_if hc hF
        refine lv_iload (pc := 111) hx hb dX6_go_111 (lv_at hl 0 rfl) ?_
        refine lv_istore (pc := 113) (lv' := [(4, .int r8), (6, .int r8), (0, .ref (a 54)), (1, .int v1), (2, .int v2), (3, .int v3), (5, .int v5)]) hx hb dX6_go_113 hl (by decide) rfl (fun ls hl => ?_)
        refine lv_iload (pc := 115) hx hb dX6_go_115 (lv_at hl 6 rfl) ?_
        refine lv_istore_n (pc := 117) (lv' := [(3, .int v5), (4, .int r8), (6, .int r8), (0, .ref (a 54)), (1, .int v1), (2, .int v2), (5, .int v5)]) hx hb dX6_go_117 rfl hl (by decide) rfl (fun ls hl => ?_)
        exact kX6_go_118 hC k33 hk33 v1 v2 v5 r8 v5 σ9 _ _ _ hF hw (lv_sub hl [3, 4, 5, 0, 1, 6] rfl)
theorem lX6_go_33 {p : Program} {l : Launch} {e : Env} {s : State} {m : MethodId} {args : Array Value} {below : List Frame} {meth : Method} {c : Code} {D : va_G} {cI cB cS : ClassId} {a : Nat → Nat} {res : Int32 × rp_St} (hC : xC p s m args meth c cX6_go 7 "RegretPegs" (some .int) D cI cB cS a) : ∀ (n : Nat) (v1 : Int32) (v2 : Int32) (v3 : Int32) (v4 : Int32) (v5 : Int32) (σ : rp_St) (H : Heap) (locs : List Loc) (ls : Array Slot), rp_lp (fun _ _ _ _ _ _ => none) (fX6_go_33) n v1 v2 v3 v4 v5 σ = some res → xW D cI cB cS a s σ H locs → lv_has ls 7 [(0, .ref (a 54)), (1, .int v1), (2, .int v2), (3, .int v3), (4, .int v4), (5, .int v5)] → W p l e (rp_rm 6) s m args below meth c H locs 0 0 (MQ below (rp_Qi D a (xt cI cB cS a) 62 res) args s 0 0 (rp_A a 62)) (F0 m 33 ls [])
  | 0, _, _, _, _, _, _, _, _, _, hF, _, _ => nomatch hF
  | n + 1, v1, v2, v3, v4, v5, σ, H, locs, ls, hF, hw, hl => kX6_go_33 hC (rp_lp (fun _ _ _ _ _ _ => none) (fX6_go_33) n) (lX6_go_33 hC n) v1 v2 v3 v4 v5 σ H locs ls hF hw hl
def fX6_go (v1 : Int32) (v2 : Int32) (σ : rp_St) : Option (Int32 × rp_St) :=
  rp_bd (fX6_isGuest v1 σ) (fun r1 σ2 => (if r1 = 0 then fX6_go_18 σ2 else rp_bd (fX6_isWithin v2 0 20 σ2) (fun r3 σ4 => (if r3 = 0 then fX6_go_18 σ4 else rp_lp (fun _ _ _ _ _ _ => none) (fX6_go_33) 300 v1 v2 (-1) 7 0 σ4))))
set_option maxRecDepth 100000 in
set_option maxHeartbeats 4000000 in
theorem kX6_go_0 {p : Program} {l : Launch} {e : Env} {s : State} {m : MethodId} {args : Array Value} {below : List Frame} {meth : Method} {c : Code} {D : va_G} {cI cB cS : ClassId} {a : Nat → Nat} {res : Int32 × rp_St} (hC : xC p s m args meth c cX6_go 7 "RegretPegs" (some .int) D cI cB cS a) (v1 : Int32) (v2 : Int32) (σ : rp_St) (H : Heap) (locs : List Loc) (ls : Array Slot) (hF : fX6_go v1 v2 σ = some res) (hw : xW D cI cB cS a s σ H locs) (hl : lv_has ls 7 [(0, .ref (a 54)), (1, .int v1), (2, .int v2)]) : W p l e (rp_rm 6) s m args below meth c H locs 0 0 (MQ below (rp_Qi D a (xt cI cB cS a) 62 res) args s 0 0 (rp_A a 62)) (F0 m 0 ls []) := by
  have hx := hC.1
  have hb := hC.2.1
  have hown := hC.2.2.2.1
  have hts := hC.2.2.2.2.1
  unfold fX6_go at hF
  refine lv_aload_n (pc := 0) hx hb dX6_go_0 rfl (lv_at hl 0 rfl) ?_
  refine lv_iload_n (pc := 1) hx hb dX6_go_1 rfl (lv_at hl 1 rfl) ?_
  obtain ⟨r1, σ2, hq, hF⟩ := rp_bd_e hF
  refine rp_ki (rp_runV (rest := []) hC (xE_ok _) hw hl.1 (mX6_isGuest (l := l) v1 σ _ hq) vw_X6_80 (by decide) (xt_reg _) rfl rfl rfl (Nat.le_of_ble_eq_true rfl) (by decide) dX6_go_2) hw (fun H locs hw => ?_)
  clear hq
  refine lv_if_eq (pc := 5) (tgt := 18) hx hb dX6_go_5 (by decide) (fun hc => ?_) (fun hc => ?_)
  · replace hF := rp_it hc hF
    exact kX6_go_18 hC σ2 _ _ _ hF hw (lv_sub hl [0] rfl)
  · replace hF := rp_if hc hF
    refine lv_iload_n (pc := 8) hx hb dX6_go_8 rfl (lv_at hl 2 rfl) ?_
    refine lv_iconst (pc := 9) (v := 0) hx hb dX6_go_9 (by decide) ?_
    refine lv_bipush (pc := 10) (v := 20) hx hb dX6_go_10 (by decide) ?_
    obtain ⟨r3, σ4, hq, hF⟩ := rp_bd_e hF
    refine rp_ki (rp_runZ (rest := []) hC (xE_ok _) hw hl.1 (mX6_isWithin (l := l) v2 0 20 σ2 _ hq) zw_X6_62 rfl rfl (Nat.le_of_ble_eq_true rfl) (by decide) dX6_go_12) hw (fun H locs hw => ?_)
    clear hq
    refine lv_if_ne (pc := 15) (tgt := 24) hx hb dX6_go_15 (by decide) (fun hc => ?_) (fun hc => ?_)
    · replace hF := rp_if hc hF
      refine lv_iconst (pc := 24) (v := (-1)) hx hb dX6_go_24 (by decide) ?_
      refine lv_istore_n (pc := 25) (lv' := [(3, .int (-1)), (0, .ref (a 54)), (1, .int v1), (2, .int v2)]) hx hb dX6_go_25 rfl hl (by decide) rfl (fun ls hl => ?_)
      refine lv_bipush (pc := 26) (v := 7) hx hb dX6_go_26 (by decide) ?_
      refine lv_istore (pc := 28) (lv' := [(4, .int 7), (3, .int (-1)), (0, .ref (a 54)), (1, .int v1), (2, .int v2)]) hx hb dX6_go_28 hl (by decide) rfl (fun ls hl => ?_)
      refine lv_iconst (pc := 30) (v := 0) hx hb dX6_go_30 (by decide) ?_
      refine lv_istore (pc := 31) (lv' := [(5, .int 0), (4, .int 7), (3, .int (-1)), (0, .ref (a 54)), (1, .int v1), (2, .int v2)]) hx hb dX6_go_31 hl (by decide) rfl (fun ls hl => ?_)
      exact lX6_go_33 hC 300 v1 v2 (-1) 7 0 σ4 _ _ _ hF hw (lv_sub hl [3, 4, 5, 2, 1, 0] rfl)
    · replace hF := rp_it hc hF
      exact kX6_go_18 hC σ4 _ _ _ hF hw (lv_sub hl [0] rfl)
theorem mX6_go {l : Launch} {D : va_G} {cI cB cS : ClassId} {a : Nat → Nat} (v1 : Int32) (v2 : Int32) (σ : rp_St) (res : Int32 × rp_St) (hF : fX6_go v1 v2 σ = some res) : xM l D cI cB cS a yX6_go cX6_go 7 (some .int) 6 [.ref (a 54), .int v1, .int v2] σ (rp_Qi D a (xt cI cB cS a) 62 res) :=
  rp_entry (by decide) (Nat.le_of_ble_eq_true rfl) (fun p e s m below meth c ls hC hw hl => kX6_go_0 hC v1 v2 σ _ _ _ hF hw (lv_sub hl [0, 1, 2] rfl))
def fX6_allRue (v1 : Int32) (σ : rp_St) : Option (Int32 × rp_St) :=
  rp_bd (fX6_isWithin v1 0 60 σ) (fun r1 σ2 => (if r1 = 0 then rp_bd (fX6_refuse 1 σ2) (fun r9 σ10 => some (r9, σ10)) else rp_bd (fX0_takeFrom 2 0 σ2) (fun _ σ4 => rp_bd (fX0_passHours 2 1 v1 σ4) (fun _ σ6 => rp_bd (fX0_rueTogether 2 σ6) (fun r7 σ8 => some (r7, σ8))))))
set_option maxRecDepth 100000 in
set_option maxHeartbeats 4000000 in
theorem kX6_allRue_0 {p : Program} {l : Launch} {e : Env} {s : State} {m : MethodId} {args : Array Value} {below : List Frame} {meth : Method} {c : Code} {D : va_G} {cI cB cS : ClassId} {a : Nat → Nat} {res : Int32 × rp_St} (hC : xC p s m args meth c cX6_allRue 2 "RegretPegs" (some .int) D cI cB cS a) (v1 : Int32) (σ : rp_St) (H : Heap) (locs : List Loc) (ls : Array Slot) (hF : fX6_allRue v1 σ = some res) (hw : xW D cI cB cS a s σ H locs) (hl : lv_has ls 2 [(0, .ref (a 54)), (1, .int v1)]) : W p l e (rp_rm 6) s m args below meth c H locs 0 0 (MQ below (rp_Qi D a (xt cI cB cS a) 62 res) args s 0 0 (rp_A a 62)) (F0 m 0 ls []) := by
  have hx := hC.1
  have hb := hC.2.1
  have hown := hC.2.2.2.1
  have hts := hC.2.2.2.2.1
  unfold fX6_allRue at hF
  refine lv_iload_n (pc := 0) hx hb dX6_allRue_0 rfl (lv_at hl 1 rfl) ?_
  refine lv_iconst (pc := 1) (v := 0) hx hb dX6_allRue_1 (by decide) ?_
  refine lv_bipush (pc := 2) (v := 60) hx hb dX6_allRue_2 (by decide) ?_
  obtain ⟨r1, σ2, hq, hF⟩ := rp_bd_e hF
  refine rp_ki (rp_runZ (rest := []) hC (xE_ok _) hw hl.1 (mX6_isWithin (l := l) v1 0 60 σ _ hq) zw_X6_62 rfl rfl (Nat.le_of_ble_eq_true rfl) (by decide) dX6_allRue_4) hw (fun H locs hw => ?_)
  clear hq
  refine lv_if_ne (pc := 7) (tgt := 16) hx hb dX6_allRue_7 (by decide) (fun hc => ?_) (fun hc => ?_)
  · replace hF := rp_if hc hF
    refine lv_aload_n (pc := 16) hx hb dX6_allRue_16 rfl (lv_at hl 0 rfl) ?_
    refine rp_get (pc := 17) hC hw 54 (by decide) (xt_reg _) fl_X6_26 (.ref (a 14)) rfl dX6_allRue_17 ?_
    refine lv_aload_n (pc := 20) hx hb dX6_allRue_20 rfl (lv_at hl 0 rfl) ?_
    refine rp_get (pc := 21) hC hw 54 (by decide) (xt_reg _) fl_X6_10 (.ref (a 40)) rfl dX6_allRue_21 ?_
    refine rp_get (pc := 24) hC hw 40 (by decide) ((xt_eve (i := 0) (by decide)) _) fl_X6_70 (.ref (a 0)) rfl dX6_allRue_24 ?_
    obtain ⟨r3, σ4, hq, hF⟩ := rp_bd_e hF
    refine rp_kv (rp_runV (rest := []) hC (xE_ok _) hw hl.1 (mX0_takeFrom (l := l) 2 (by decide) 0 (by decide) σ2 _ hq) vw_X6_179 (by decide) ((xt_ball (b := 2) (by decide)) _) rfl rfl rfl (Nat.le_of_ble_eq_true rfl) (by decide) dX6_allRue_27) hw (fun H locs hw => ?_)
    clear hq
    refine lv_aload_n (pc := 30) hx hb dX6_allRue_30 rfl (lv_at hl 0 rfl) ?_
    refine rp_get (pc := 31) hC hw 54 (by decide) (xt_reg _) fl_X6_26 (.ref (a 14)) rfl dX6_allRue_31 ?_
    refine lv_iload_n (pc := 34) hx hb dX6_allRue_34 rfl (lv_at hl 1 rfl) ?_
    refine lv_aload_n (pc := 35) hx hb dX6_allRue_35 rfl (lv_at hl 0 rfl) ?_
    refine rp_get (pc := 36) hC hw 54 (by decide) (xt_reg _) fl_X6_10 (.ref (a 40)) rfl dX6_allRue_36 ?_
    refine rp_get (pc := 39) hC hw 40 (by decide) ((xt_eve (i := 0) (by decide)) _) fl_X6_165 (.ref (a 31)) rfl dX6_allRue_39 ?_
    obtain ⟨r5, σ6, hq, hF⟩ := rp_bd_e hF
    refine rp_kv (rp_runV (rest := []) hC (xE_ok _) hw hl.1 (mX0_passHours (l := l) 2 (by decide) 1 (by decide) v1 σ4 _ hq) vw_X6_168 (by decide) ((xt_ball (b := 2) (by decide)) _) rfl rfl rfl (Nat.le_of_ble_eq_true rfl) (by decide) dX6_allRue_42) hw (fun H locs hw => ?_)
    clear hq
    refine lv_aload_n (pc := 45) hx hb dX6_allRue_45 rfl (lv_at hl 0 rfl) ?_
    refine rp_get (pc := 46) hC hw 54 (by decide) (xt_reg _) fl_X6_26 (.ref (a 14)) rfl dX6_allRue_46 ?_
    obtain ⟨r7, σ8, hq, hF⟩ := rp_bd_e hF
    refine rp_ki (rp_runV (rest := []) hC (xE_ok _) hw hl.1 (mX0_rueTogether (l := l) 2 (by decide) σ6 _ hq) vw_X6_172 (by decide) ((xt_ball (b := 2) (by decide)) _) rfl rfl rfl (Nat.le_of_ble_eq_true rfl) (by decide) dX6_allRue_49) hw (fun H locs hw => ?_)
    clear hq
    exact rp_reti (pc := 52) hC hw hF dX6_allRue_52
  · replace hF := rp_it hc hF
    refine lv_aload_n (pc := 10) hx hb dX6_allRue_10 rfl (lv_at hl 0 rfl) ?_
    refine lv_iconst (pc := 11) (v := 1) hx hb dX6_allRue_11 (by decide) ?_
    obtain ⟨r9, σ10, hq, hF⟩ := rp_bd_e hF
    refine rp_ki (rp_runV (rest := []) hC (xE_ok _) hw hl.1 (mX6_refuse (l := l) 1 σ2 _ hq) vw_X6_66 (by decide) (xt_reg _) rfl rfl rfl (Nat.le_of_ble_eq_true rfl) (by decide) dX6_allRue_12) hw (fun H locs hw => ?_)
    clear hq
    exact rp_reti (pc := 15) hC hw hF dX6_allRue_15
theorem mX6_allRue {l : Launch} {D : va_G} {cI cB cS : ClassId} {a : Nat → Nat} (v1 : Int32) (σ : rp_St) (res : Int32 × rp_St) (hF : fX6_allRue v1 σ = some res) : xM l D cI cB cS a yX6_allRue cX6_allRue 2 (some .int) 6 [.ref (a 54), .int v1] σ (rp_Qi D a (xt cI cB cS a) 62 res) :=
  rp_entry (by decide) (Nat.le_of_ble_eq_true rfl) (fun p e s m below meth c ls hC hw hl => kX6_allRue_0 hC v1 σ _ _ _ hF hw (lv_sub hl [0, 1] rfl))
def fX6_sorriest_19 (σ : rp_St) : Option (Int32 × rp_St) :=
  rp_bd (fX6_refuse 1 σ) (fun r1 σ2 => some (r1, σ2))
set_option maxRecDepth 100000 in
set_option maxHeartbeats 4000000 in
theorem kX6_sorriest_19 {p : Program} {l : Launch} {e : Env} {s : State} {m : MethodId} {args : Array Value} {below : List Frame} {meth : Method} {c : Code} {D : va_G} {cI cB cS : ClassId} {a : Nat → Nat} {res : Int32 × rp_St} (hC : xC p s m args meth c cX6_sorriest 5 "RegretPegs" (some .int) D cI cB cS a) (σ : rp_St) (H : Heap) (locs : List Loc) (ls : Array Slot) (hF : fX6_sorriest_19 σ = some res) (hw : xW D cI cB cS a s σ H locs) (hl : lv_has ls 5 [(0, .ref (a 54))]) : W p l e (rp_rm 6) s m args below meth c H locs 0 0 (MQ below (rp_Qi D a (xt cI cB cS a) 62 res) args s 0 0 (rp_A a 62)) (F0 m 19 ls []) := by
  have hx := hC.1
  have hb := hC.2.1
  have hown := hC.2.2.2.1
  have hts := hC.2.2.2.2.1
  unfold fX6_sorriest_19 at hF
  refine lv_aload_n (pc := 19) hx hb dX6_sorriest_19 rfl (lv_at hl 0 rfl) ?_
  refine lv_iconst (pc := 20) (v := 1) hx hb dX6_sorriest_20 (by decide) ?_
  obtain ⟨r1, σ2, hq, hF⟩ := rp_bd_e hF
  refine rp_ki (rp_runV (rest := []) hC (xE_ok _) hw hl.1 (mX6_refuse (l := l) 1 σ _ hq) vw_X6_66 (by decide) (xt_reg _) rfl rfl rfl (Nat.le_of_ble_eq_true rfl) (by decide) dX6_sorriest_21) hw (fun H locs hw => ?_)
  clear hq
  exact rp_reti (pc := 24) hC hw hF dX6_sorriest_24
def fX6_sorriest_115 (k78 : Int32 → Int32 → Int32 → rp_St → Option (Int32 × rp_St)) (v2 : Int32) (v3 : Int32) (v4 : Int32) (σ : rp_St) : Option (Int32 × rp_St) :=
  rp_nm (v4 + 1) (fun x1 => k78 v2 v3 x1 σ)
set_option maxRecDepth 100000 in
set_option maxHeartbeats 4000000 in
theorem kX6_sorriest_115 {p : Program} {l : Launch} {e : Env} {s : State} {m : MethodId} {args : Array Value} {below : List Frame} {meth : Method} {c : Code} {D : va_G} {cI cB cS : ClassId} {a : Nat → Nat} {res : Int32 × rp_St} (hC : xC p s m args meth c cX6_sorriest 5 "RegretPegs" (some .int) D cI cB cS a) (k78 : Int32 → Int32 → Int32 → rp_St → Option (Int32 × rp_St)) (hk78 : ∀ (v2 : Int32) (v3 : Int32) (v4 : Int32) (σ : rp_St) (H : Heap) (locs : List Loc) (ls : Array Slot), k78 v2 v3 v4 σ = some res → xW D cI cB cS a s σ H locs → lv_has ls 5 [(0, .ref (a 54)), (2, .int v2), (3, .int v3), (4, .int v4)] → W p l e (rp_rm 6) s m args below meth c H locs 0 0 (MQ below (rp_Qi D a (xt cI cB cS a) 62 res) args s 0 0 (rp_A a 62)) (F0 m 78 ls [])) (v2 : Int32) (v3 : Int32) (v4 : Int32) (σ : rp_St) (H : Heap) (locs : List Loc) (ls : Array Slot) (hF : fX6_sorriest_115 k78 v2 v3 v4 σ = some res) (hw : xW D cI cB cS a s σ H locs) (hl : lv_has ls 5 [(0, .ref (a 54)), (2, .int v2), (3, .int v3), (4, .int v4)]) : W p l e (rp_rm 6) s m args below meth c H locs 0 0 (MQ below (rp_Qi D a (xt cI cB cS a) 62 res) args s 0 0 (rp_A a 62)) (F0 m 115 ls []) := by
  have hx := hC.1
  have hb := hC.2.1
  have hown := hC.2.2.2.1
  have hts := hC.2.2.2.2.1
  unfold fX6_sorriest_115 at hF
  obtain ⟨x1, ex1, hF⟩ := rp_nm_e hF
  refine lv_iinc (pc := 115) (v := x1) (lv' := [(4, .int x1), (0, .ref (a 54)), (2, .int v2), (3, .int v3)]) hx hb dX6_sorriest_115 hl (k := 3) rfl (by rw [ex1]; rfl) (by decide) rfl (fun ls hl => ?_)
  refine lv_goto (pc := 118) (tgt := 78) hx hb dX6_sorriest_118 (by decide) ?_
  exact hk78 v2 v3 x1 σ _ _ _ hF hw (lv_sub hl [1, 2, 3, 0] rfl)
def fX6_sorriest_78 (k78 : Int32 → Int32 → Int32 → rp_St → Option (Int32 × rp_St)) (v2 : Int32) (v3 : Int32) (v4 : Int32) (σ : rp_St) : Option (Int32 × rp_St) :=
  (if (σ 14 0) ≤ v4 then (if v2 = 0 then some (v3, σ) else rp_gu (rp_in v3 7) (some ((σ 17 (v3 : Int32).toNatClampNeg), σ))) else rp_gu (rp_in v4 7) (rp_gu (rp_in v3 7) ((if (σ 17 (v4 : Int32).toNatClampNeg) ≤ (σ 17 (v3 : Int32).toNatClampNeg) then fX6_sorriest_115 k78 v2 v3 v4 σ else fX6_sorriest_115 k78 v2 v4 v4 σ))))
set_option maxRecDepth 100000 in
set_option maxHeartbeats 4000000 in
theorem kX6_sorriest_78 {p : Program} {l : Launch} {e : Env} {s : State} {m : MethodId} {args : Array Value} {below : List Frame} {meth : Method} {c : Code} {D : va_G} {cI cB cS : ClassId} {a : Nat → Nat} {res : Int32 × rp_St} (hC : xC p s m args meth c cX6_sorriest 5 "RegretPegs" (some .int) D cI cB cS a) (k78 : Int32 → Int32 → Int32 → rp_St → Option (Int32 × rp_St)) (hk78 : ∀ (v2 : Int32) (v3 : Int32) (v4 : Int32) (σ : rp_St) (H : Heap) (locs : List Loc) (ls : Array Slot), k78 v2 v3 v4 σ = some res → xW D cI cB cS a s σ H locs → lv_has ls 5 [(0, .ref (a 54)), (2, .int v2), (3, .int v3), (4, .int v4)] → W p l e (rp_rm 6) s m args below meth c H locs 0 0 (MQ below (rp_Qi D a (xt cI cB cS a) 62 res) args s 0 0 (rp_A a 62)) (F0 m 78 ls [])) (v2 : Int32) (v3 : Int32) (v4 : Int32) (σ : rp_St) (H : Heap) (locs : List Loc) (ls : Array Slot) (hF : fX6_sorriest_78 k78 v2 v3 v4 σ = some res) (hw : xW D cI cB cS a s σ H locs) (hl : lv_has ls 5 [(0, .ref (a 54)), (2, .int v2), (3, .int v3), (4, .int v4)]) : W p l e (rp_rm 6) s m args below meth c H locs 0 0 (MQ below (rp_Qi D a (xt cI cB cS a) 62 res) args s 0 0 (rp_A a 62)) (F0 m 78 ls []) := by
  have hx := hC.1
  have hb := hC.2.1
  have hown := hC.2.2.2.1
  have hts := hC.2.2.2.2.1
  unfold fX6_sorriest_78 at hF
  refine lv_iload (pc := 78) hx hb dX6_sorriest_78 (lv_at hl 3 rfl) ?_
  refine lv_aload_n (pc := 80) hx hb dX6_sorriest_80 rfl (lv_at hl 0 rfl) ?_
  refine rp_get (pc := 81) hC hw 54 (by decide) (xt_reg _) fl_X6_26 (.ref (a 14)) rfl dX6_sorriest_81 ?_
  refine rp_get (pc := 84) hC hw 14 (by decide) ((xt_ball (b := 2) (by decide)) _) fl_X6_73 (.int (σ 14 0)) rfl dX6_sorriest_84 ?_
  refine lv_icmp_ge (pc := 87) (tgt := 121) hx hb dX6_sorriest_87 (by decide) (fun hc => ?_) (fun hc => ?_)
  · replace hF := rp_it hc hF
    refine lv_iload_n (pc := 121) hx hb dX6_sorriest_121 rfl (lv_at hl 1 rfl) ?_
    refine lv_if_ne (pc := 122) (tgt := 129) hx hb dX6_sorriest_122 (by decide) (fun hc => ?_) (fun hc => ?_)
    · replace hF := rp_if hc hF
      refine lv_aload_n (pc := 129) hx hb dX6_sorriest_129 rfl (lv_at hl 0 rfl) ?_
      refine rp_get (pc := 130) hC hw 54 (by decide) (xt_reg _) fl_X6_26 (.ref (a 14)) rfl dX6_sorriest_130 ?_
      refine rp_get (pc := 133) hC hw 14 (by decide) ((xt_ball (b := 2) (by decide)) _) fl_X6_89 (.ref (a 17)) rfl dX6_sorriest_133 ?_
      refine lv_iload_n (pc := 136) hx hb dX6_sorriest_136 rfl (lv_at hl 2 rfl) ?_
      obtain ⟨hg, hF⟩ := rp_gu_e hF
      refine rp_ald (pc := 137) hC hw 17 (by decide) (xt_bar (b := 2) (by decide) 3 ⟨by decide, by decide⟩) 0 rfl hg dX6_sorriest_137 ?_
      exact rp_reti (pc := 138) hC hw hF dX6_sorriest_138
    · replace hF := rp_it hc hF
      refine lv_iload_n (pc := 125) hx hb dX6_sorriest_125 rfl (lv_at hl 2 rfl) ?_
      refine lv_goto (pc := 126) (tgt := 138) hx hb dX6_sorriest_126 (by decide) ?_
      exact rp_reti (pc := 138) hC hw hF dX6_sorriest_138
  · replace hF := rp_if hc hF
    refine lv_aload_n (pc := 90) hx hb dX6_sorriest_90 rfl (lv_at hl 0 rfl) ?_
    refine rp_get (pc := 91) hC hw 54 (by decide) (xt_reg _) fl_X6_26 (.ref (a 14)) rfl dX6_sorriest_91 ?_
    refine rp_get (pc := 94) hC hw 14 (by decide) ((xt_ball (b := 2) (by decide)) _) fl_X6_89 (.ref (a 17)) rfl dX6_sorriest_94 ?_
    refine lv_iload (pc := 97) hx hb dX6_sorriest_97 (lv_at hl 3 rfl) ?_
    obtain ⟨hg, hF⟩ := rp_gu_e hF
    refine rp_ald (pc := 99) hC hw 17 (by decide) (xt_bar (b := 2) (by decide) 3 ⟨by decide, by decide⟩) 0 rfl hg dX6_sorriest_99 ?_
    refine lv_aload_n (pc := 100) hx hb dX6_sorriest_100 rfl (lv_at hl 0 rfl) ?_
    refine rp_get (pc := 101) hC hw 54 (by decide) (xt_reg _) fl_X6_26 (.ref (a 14)) rfl dX6_sorriest_101 ?_
    refine rp_get (pc := 104) hC hw 14 (by decide) ((xt_ball (b := 2) (by decide)) _) fl_X6_89 (.ref (a 17)) rfl dX6_sorriest_104 ?_
    refine lv_iload_n (pc := 107) hx hb dX6_sorriest_107 rfl (lv_at hl 2 rfl) ?_
    obtain ⟨hg, hF⟩ := rp_gu_e hF
    refine rp_ald (pc := 108) hC hw 17 (by decide) (xt_bar (b := 2) (by decide) 3 ⟨by decide, by decide⟩) 0 rfl hg dX6_sorriest_108 ?_
    refine lv_icmp_le (pc := 109) (tgt := 115) hx hb dX6_sorriest_109 (by decide) (fun hc => ?_) (fun hc => ?_)
    · replace hF := rp_it hc hF
      exact kX6_sorriest_115 hC k78 hk78 v2 v3 v4 σ _ _ _ hF hw (lv_sub hl [0, 1, 2, 3] rfl)
    · replace hF := rp_if hc hF
      refine lv_iload (pc := 112) hx hb dX6_sorriest_112 (lv_at hl 3 rfl) ?_
      refine lv_istore_n (pc := 114) (lv' := [(3, .int v4), (0, .ref (a 54)), (2, .int v2), (4, .int v4)]) hx hb dX6_sorriest_114 rfl hl (by decide) rfl (fun ls hl => ?_)
      exact kX6_sorriest_115 hC k78 hk78 v2 v4 v4 σ _ _ _ hF hw (lv_sub hl [1, 2, 0, 3] rfl)
theorem lX6_sorriest_78 {p : Program} {l : Launch} {e : Env} {s : State} {m : MethodId} {args : Array Value} {below : List Frame} {meth : Method} {c : Code} {D : va_G} {cI cB cS : ClassId} {a : Nat → Nat} {res : Int32 × rp_St} (hC : xC p s m args meth c cX6_sorriest 5 "RegretPegs" (some .int) D cI cB cS a) : ∀ (n : Nat) (v2 : Int32) (v3 : Int32) (v4 : Int32) (σ : rp_St) (H : Heap) (locs : List Loc) (ls : Array Slot), rp_lp (fun _ _ _ _ => none) (fX6_sorriest_78) n v2 v3 v4 σ = some res → xW D cI cB cS a s σ H locs → lv_has ls 5 [(0, .ref (a 54)), (2, .int v2), (3, .int v3), (4, .int v4)] → W p l e (rp_rm 6) s m args below meth c H locs 0 0 (MQ below (rp_Qi D a (xt cI cB cS a) 62 res) args s 0 0 (rp_A a 62)) (F0 m 78 ls [])
  | 0, _, _, _, _, _, _, _, hF, _, _ => nomatch hF
  | n + 1, v2, v3, v4, σ, H, locs, ls, hF, hw, hl => kX6_sorriest_78 hC (rp_lp (fun _ _ _ _ => none) (fX6_sorriest_78) n) (lX6_sorriest_78 hC n) v2 v3 v4 σ H locs ls hF hw hl
def fX6_sorriest (v1 : Int32) (v2 : Int32) (σ : rp_St) : Option (Int32 × rp_St) :=
  rp_bd (fX6_isWithin v1 0 60 σ) (fun r1 σ2 => (if r1 = 0 then fX6_sorriest_19 σ2 else rp_bd (fX6_isWithin v2 0 1 σ2) (fun r3 σ4 => (if r3 = 0 then fX6_sorriest_19 σ4 else (if (σ4 0 0) = 0 then rp_bd (fX6_refuse 2 σ4) (fun r9 σ10 => some (r9, σ10)) else rp_bd (fX0_takeFrom 2 0 σ4) (fun _ σ6 => rp_bd (fX0_passHours 2 1 v1 σ6) (fun _ σ8 => rp_lp (fun _ _ _ _ => none) (fX6_sorriest_78) 300 v2 0 1 σ8)))))))
set_option maxRecDepth 100000 in
set_option maxHeartbeats 4000000 in
theorem kX6_sorriest_0 {p : Program} {l : Launch} {e : Env} {s : State} {m : MethodId} {args : Array Value} {below : List Frame} {meth : Method} {c : Code} {D : va_G} {cI cB cS : ClassId} {a : Nat → Nat} {res : Int32 × rp_St} (hC : xC p s m args meth c cX6_sorriest 5 "RegretPegs" (some .int) D cI cB cS a) (v1 : Int32) (v2 : Int32) (σ : rp_St) (H : Heap) (locs : List Loc) (ls : Array Slot) (hF : fX6_sorriest v1 v2 σ = some res) (hw : xW D cI cB cS a s σ H locs) (hl : lv_has ls 5 [(0, .ref (a 54)), (1, .int v1), (2, .int v2)]) : W p l e (rp_rm 6) s m args below meth c H locs 0 0 (MQ below (rp_Qi D a (xt cI cB cS a) 62 res) args s 0 0 (rp_A a 62)) (F0 m 0 ls []) := by
  have hx := hC.1
  have hb := hC.2.1
  have hown := hC.2.2.2.1
  have hts := hC.2.2.2.2.1
  unfold fX6_sorriest at hF
  refine lv_iload_n (pc := 0) hx hb dX6_sorriest_0 rfl (lv_at hl 1 rfl) ?_
  refine lv_iconst (pc := 1) (v := 0) hx hb dX6_sorriest_1 (by decide) ?_
  refine lv_bipush (pc := 2) (v := 60) hx hb dX6_sorriest_2 (by decide) ?_
  obtain ⟨r1, σ2, hq, hF⟩ := rp_bd_e hF
  refine rp_ki (rp_runZ (rest := []) hC (xE_ok _) hw hl.1 (mX6_isWithin (l := l) v1 0 60 σ _ hq) zw_X6_62 rfl rfl (Nat.le_of_ble_eq_true rfl) (by decide) dX6_sorriest_4) hw (fun H locs hw => ?_)
  clear hq
  refine lv_if_eq (pc := 7) (tgt := 19) hx hb dX6_sorriest_7 (by decide) (fun hc => ?_) (fun hc => ?_)
  · replace hF := rp_it hc hF
    exact kX6_sorriest_19 hC σ2 _ _ _ hF hw (lv_sub hl [0] rfl)
  · replace hF := rp_if hc hF
    refine lv_iload_n (pc := 10) hx hb dX6_sorriest_10 rfl (lv_at hl 2 rfl) ?_
    refine lv_iconst (pc := 11) (v := 0) hx hb dX6_sorriest_11 (by decide) ?_
    refine lv_iconst (pc := 12) (v := 1) hx hb dX6_sorriest_12 (by decide) ?_
    obtain ⟨r3, σ4, hq, hF⟩ := rp_bd_e hF
    refine rp_ki (rp_runZ (rest := []) hC (xE_ok _) hw hl.1 (mX6_isWithin (l := l) v2 0 1 σ2 _ hq) zw_X6_62 rfl rfl (Nat.le_of_ble_eq_true rfl) (by decide) dX6_sorriest_13) hw (fun H locs hw => ?_)
    clear hq
    refine lv_if_ne (pc := 16) (tgt := 25) hx hb dX6_sorriest_16 (by decide) (fun hc => ?_) (fun hc => ?_)
    · replace hF := rp_if hc hF
      refine lv_aload_n (pc := 25) hx hb dX6_sorriest_25 rfl (lv_at hl 0 rfl) ?_
      refine rp_get (pc := 26) hC hw 54 (by decide) (xt_reg _) fl_X6_10 (.ref (a 40)) rfl dX6_sorriest_26 ?_
      refine rp_get (pc := 29) hC hw 40 (by decide) ((xt_eve (i := 0) (by decide)) _) fl_X6_70 (.ref (a 0)) rfl dX6_sorriest_29 ?_
      refine rp_get (pc := 32) hC hw 0 (by decide) ((xt_ball (b := 0) (by decide)) _) fl_X6_73 (.int (σ4 0 0)) rfl dX6_sorriest_32 ?_
      refine lv_if_ne (pc := 35) (tgt := 44) hx hb dX6_sorriest_35 (by decide) (fun hc => ?_) (fun hc => ?_)
      · replace hF := rp_if hc hF
        refine lv_aload_n (pc := 44) hx hb dX6_sorriest_44 rfl (lv_at hl 0 rfl) ?_
        refine rp_get (pc := 45) hC hw 54 (by decide) (xt_reg _) fl_X6_26 (.ref (a 14)) rfl dX6_sorriest_45 ?_
        refine lv_aload_n (pc := 48) hx hb dX6_sorriest_48 rfl (lv_at hl 0 rfl) ?_
        refine rp_get (pc := 49) hC hw 54 (by decide) (xt_reg _) fl_X6_10 (.ref (a 40)) rfl dX6_sorriest_49 ?_
        refine rp_get (pc := 52) hC hw 40 (by decide) ((xt_eve (i := 0) (by decide)) _) fl_X6_70 (.ref (a 0)) rfl dX6_sorriest_52 ?_
        obtain ⟨r5, σ6, hq, hF⟩ := rp_bd_e hF
        refine rp_kv (rp_runV (rest := []) hC (xE_ok _) hw hl.1 (mX0_takeFrom (l := l) 2 (by decide) 0 (by decide) σ4 _ hq) vw_X6_179 (by decide) ((xt_ball (b := 2) (by decide)) _) rfl rfl rfl (Nat.le_of_ble_eq_true rfl) (by decide) dX6_sorriest_55) hw (fun H locs hw => ?_)
        clear hq
        refine lv_aload_n (pc := 58) hx hb dX6_sorriest_58 rfl (lv_at hl 0 rfl) ?_
        refine rp_get (pc := 59) hC hw 54 (by decide) (xt_reg _) fl_X6_26 (.ref (a 14)) rfl dX6_sorriest_59 ?_
        refine lv_iload_n (pc := 62) hx hb dX6_sorriest_62 rfl (lv_at hl 1 rfl) ?_
        refine lv_aload_n (pc := 63) hx hb dX6_sorriest_63 rfl (lv_at hl 0 rfl) ?_
        refine rp_get (pc := 64) hC hw 54 (by decide) (xt_reg _) fl_X6_10 (.ref (a 40)) rfl dX6_sorriest_64 ?_
        refine rp_get (pc := 67) hC hw 40 (by decide) ((xt_eve (i := 0) (by decide)) _) fl_X6_165 (.ref (a 31)) rfl dX6_sorriest_67 ?_
        obtain ⟨r7, σ8, hq, hF⟩ := rp_bd_e hF
        refine rp_kv (rp_runV (rest := []) hC (xE_ok _) hw hl.1 (mX0_passHours (l := l) 2 (by decide) 1 (by decide) v1 σ6 _ hq) vw_X6_168 (by decide) ((xt_ball (b := 2) (by decide)) _) rfl rfl rfl (Nat.le_of_ble_eq_true rfl) (by decide) dX6_sorriest_70) hw (fun H locs hw => ?_)
        clear hq
        refine lv_iconst (pc := 73) (v := 0) hx hb dX6_sorriest_73 (by decide) ?_
        refine lv_istore_n (pc := 74) (lv' := [(3, .int 0), (0, .ref (a 54)), (1, .int v1), (2, .int v2)]) hx hb dX6_sorriest_74 rfl hl (by decide) rfl (fun ls hl => ?_)
        refine lv_iconst (pc := 75) (v := 1) hx hb dX6_sorriest_75 (by decide) ?_
        refine lv_istore (pc := 76) (lv' := [(4, .int 1), (3, .int 0), (0, .ref (a 54)), (1, .int v1), (2, .int v2)]) hx hb dX6_sorriest_76 hl (by decide) rfl (fun ls hl => ?_)
        exact lX6_sorriest_78 hC 300 v2 0 1 σ8 _ _ _ hF hw (lv_sub hl [2, 4, 1, 0] rfl)
      · replace hF := rp_it hc hF
        refine lv_aload_n (pc := 38) hx hb dX6_sorriest_38 rfl (lv_at hl 0 rfl) ?_
        refine lv_iconst (pc := 39) (v := 2) hx hb dX6_sorriest_39 (by decide) ?_
        obtain ⟨r9, σ10, hq, hF⟩ := rp_bd_e hF
        refine rp_ki (rp_runV (rest := []) hC (xE_ok _) hw hl.1 (mX6_refuse (l := l) 2 σ4 _ hq) vw_X6_66 (by decide) (xt_reg _) rfl rfl rfl (Nat.le_of_ble_eq_true rfl) (by decide) dX6_sorriest_40) hw (fun H locs hw => ?_)
        clear hq
        exact rp_reti (pc := 43) hC hw hF dX6_sorriest_43
    · replace hF := rp_it hc hF
      exact kX6_sorriest_19 hC σ4 _ _ _ hF hw (lv_sub hl [0] rfl)
theorem mX6_sorriest {l : Launch} {D : va_G} {cI cB cS : ClassId} {a : Nat → Nat} (v1 : Int32) (v2 : Int32) (σ : rp_St) (res : Int32 × rp_St) (hF : fX6_sorriest v1 v2 σ = some res) : xM l D cI cB cS a yX6_sorriest cX6_sorriest 5 (some .int) 6 [.ref (a 54), .int v1, .int v2] σ (rp_Qi D a (xt cI cB cS a) 62 res) :=
  rp_entry (by decide) (Nat.le_of_ble_eq_true rfl) (fun p e s m below meth c ls hC hw hl => kX6_sorriest_0 hC v1 v2 σ _ _ _ hF hw (lv_sub hl [0, 1, 2] rfl))
def fX6_greatestCommon_21 (k2 : Int32 → Int32 → Int32 → rp_St → Option (Int32 × rp_St)) (v0 : Int32) (v1 : Int32) (v2 : Int32) (σ : rp_St) : Option (Int32 × rp_St) :=
  rp_nm (v2 + (-1)) (fun x1 => k2 v0 v1 x1 σ)
set_option maxRecDepth 100000 in
set_option maxHeartbeats 4000000 in
theorem kX6_greatestCommon_21 {p : Program} {l : Launch} {e : Env} {s : State} {m : MethodId} {args : Array Value} {below : List Frame} {meth : Method} {c : Code} {D : va_G} {cI cB cS : ClassId} {a : Nat → Nat} {res : Int32 × rp_St} (hC : xC p s m args meth c cX6_greatestCommon 3 "RegretPegs" (some .int) D cI cB cS a) (k2 : Int32 → Int32 → Int32 → rp_St → Option (Int32 × rp_St)) (hk2 : ∀ (v0 : Int32) (v1 : Int32) (v2 : Int32) (σ : rp_St) (H : Heap) (locs : List Loc) (ls : Array Slot), k2 v0 v1 v2 σ = some res → xW D cI cB cS a s σ H locs → lv_has ls 3 [(0, .int v0), (1, .int v1), (2, .int v2)] → W p l e (rp_rm 1) s m args below meth c H locs 0 0 (MQ below (rp_Qi D a (xt cI cB cS a) 62 res) args s 0 0 (rp_A a 62)) (F0 m 2 ls [])) (v0 : Int32) (v1 : Int32) (v2 : Int32) (σ : rp_St) (H : Heap) (locs : List Loc) (ls : Array Slot) (hF : fX6_greatestCommon_21 k2 v0 v1 v2 σ = some res) (hw : xW D cI cB cS a s σ H locs) (hl : lv_has ls 3 [(0, .int v0), (1, .int v1), (2, .int v2)]) : W p l e (rp_rm 1) s m args below meth c H locs 0 0 (MQ below (rp_Qi D a (xt cI cB cS a) 62 res) args s 0 0 (rp_A a 62)) (F0 m 21 ls []) := by
  have hx := hC.1
  have hb := hC.2.1
  have hown := hC.2.2.2.1
  have hts := hC.2.2.2.2.1
  unfold fX6_greatestCommon_21 at hF
  obtain ⟨x1, ex1, hF⟩ := rp_nm_e hF
  refine lv_iinc (pc := 21) (v := x1) (lv' := [(2, .int x1), (0, .int v0), (1, .int v1)]) hx hb dX6_greatestCommon_21 hl (k := 2) rfl (by rw [ex1]; rfl) (by decide) rfl (fun ls hl => ?_)
  refine lv_goto (pc := 24) (tgt := 2) hx hb dX6_greatestCommon_24 (by decide) ?_
  exact hk2 v0 v1 x1 σ _ _ _ hF hw (lv_sub hl [1, 2, 0] rfl)
def fX6_greatestCommon_2 (k2 : Int32 → Int32 → Int32 → rp_St → Option (Int32 × rp_St)) (v0 : Int32) (v1 : Int32) (v2 : Int32) (σ : rp_St) : Option (Int32 × rp_St) :=
  (if v2 ≤ 1 then some (1, σ) else rp_gu (rp_nz0 v2) ((if (v0 - v0 / v2 * v2) = 0 then rp_gu (rp_nz0 v2) ((if (v1 - v1 / v2 * v2) = 0 then some (v2, σ) else fX6_greatestCommon_21 k2 v0 v1 v2 σ)) else fX6_greatestCommon_21 k2 v0 v1 v2 σ)))
set_option maxRecDepth 100000 in
set_option maxHeartbeats 4000000 in
theorem kX6_greatestCommon_2 {p : Program} {l : Launch} {e : Env} {s : State} {m : MethodId} {args : Array Value} {below : List Frame} {meth : Method} {c : Code} {D : va_G} {cI cB cS : ClassId} {a : Nat → Nat} {res : Int32 × rp_St} (hC : xC p s m args meth c cX6_greatestCommon 3 "RegretPegs" (some .int) D cI cB cS a) (k2 : Int32 → Int32 → Int32 → rp_St → Option (Int32 × rp_St)) (hk2 : ∀ (v0 : Int32) (v1 : Int32) (v2 : Int32) (σ : rp_St) (H : Heap) (locs : List Loc) (ls : Array Slot), k2 v0 v1 v2 σ = some res → xW D cI cB cS a s σ H locs → lv_has ls 3 [(0, .int v0), (1, .int v1), (2, .int v2)] → W p l e (rp_rm 1) s m args below meth c H locs 0 0 (MQ below (rp_Qi D a (xt cI cB cS a) 62 res) args s 0 0 (rp_A a 62)) (F0 m 2 ls [])) (v0 : Int32) (v1 : Int32) (v2 : Int32) (σ : rp_St) (H : Heap) (locs : List Loc) (ls : Array Slot) (hF : fX6_greatestCommon_2 k2 v0 v1 v2 σ = some res) (hw : xW D cI cB cS a s σ H locs) (hl : lv_has ls 3 [(0, .int v0), (1, .int v1), (2, .int v2)]) : W p l e (rp_rm 1) s m args below meth c H locs 0 0 (MQ below (rp_Qi D a (xt cI cB cS a) 62 res) args s 0 0 (rp_A a 62)) (F0 m 2 ls []) := by
  have hx := hC.1
  have hb := hC.2.1
  have hown := hC.2.2.2.1
  have hts := hC.2.2.2.2.1
  unfold fX6_greatestCommon_2 at hF
  refine lv_iload_n (pc := 2) hx hb dX6_greatestCommon_2 rfl (lv_at hl 2 rfl) ?_
  refine lv_iconst (pc := 3) (v := 1) hx hb dX6_greatestCommon_3 (by decide) ?_
  refine lv_icmp_le (pc := 4) (tgt := 27) hx hb dX6_greatestCommon_4 (by decide) (fun hc => ?_) (fun hc => ?_)
  · replace hF := rp_it hc hF
    refine lv_iconst (pc := 27) (v := 1) hx hb dX6_greatestCommon_27 (by decide) ?_
    exact rp_reti (pc := 28) hC hw hF dX6_greatestCommon_28
  · replace hF := rp_if hc hF
    refine lv_iload_n (pc := 7) hx hb dX6_greatestCommon_7 rfl (lv_at hl 0 rfl) ?_
    refine lv_iload_n (pc := 8) hx hb dX6_greatestCommon_8 rfl (lv_at hl 2 rfl) ?_
    obtain ⟨hg, hF⟩ := rp_gu_e hF
    refine lv_irem (pc := 9) hx hb dX6_greatestCommon_9 (rp_nz0_e hg) ?_
    refine lv_if_ne (pc := 10) (tgt := 21) hx hb dX6_greatestCommon_10 (by decide) (fun hc => ?_) (fun hc => ?_)
    · replace hF := rp_if hc hF
      exact kX6_greatestCommon_21 hC k2 hk2 v0 v1 v2 σ _ _ _ hF hw (lv_sub hl [0, 1, 2] rfl)
    · replace hF := rp_it hc hF
      refine lv_iload_n (pc := 13) hx hb dX6_greatestCommon_13 rfl (lv_at hl 1 rfl) ?_
      refine lv_iload_n (pc := 14) hx hb dX6_greatestCommon_14 rfl (lv_at hl 2 rfl) ?_
      obtain ⟨hg, hF⟩ := rp_gu_e hF
      refine lv_irem (pc := 15) hx hb dX6_greatestCommon_15 (rp_nz0_e hg) ?_
      refine lv_if_ne (pc := 16) (tgt := 21) hx hb dX6_greatestCommon_16 (by decide) (fun hc => ?_) (fun hc => ?_)
      · replace hF := rp_if hc hF
        exact kX6_greatestCommon_21 hC k2 hk2 v0 v1 v2 σ _ _ _ hF hw (lv_sub hl [0, 1, 2] rfl)
      · replace hF := rp_it hc hF
        refine lv_iload_n (pc := 19) hx hb dX6_greatestCommon_19 rfl (lv_at hl 2 rfl) ?_
        exact rp_reti (pc := 20) hC hw hF dX6_greatestCommon_20
theorem lX6_greatestCommon_2 {p : Program} {l : Launch} {e : Env} {s : State} {m : MethodId} {args : Array Value} {below : List Frame} {meth : Method} {c : Code} {D : va_G} {cI cB cS : ClassId} {a : Nat → Nat} {res : Int32 × rp_St} (hC : xC p s m args meth c cX6_greatestCommon 3 "RegretPegs" (some .int) D cI cB cS a) : ∀ (n : Nat) (v0 : Int32) (v1 : Int32) (v2 : Int32) (σ : rp_St) (H : Heap) (locs : List Loc) (ls : Array Slot), rp_lp (fun _ _ _ _ => none) (fX6_greatestCommon_2) n v0 v1 v2 σ = some res → xW D cI cB cS a s σ H locs → lv_has ls 3 [(0, .int v0), (1, .int v1), (2, .int v2)] → W p l e (rp_rm 1) s m args below meth c H locs 0 0 (MQ below (rp_Qi D a (xt cI cB cS a) 62 res) args s 0 0 (rp_A a 62)) (F0 m 2 ls [])
  | 0, _, _, _, _, _, _, _, hF, _, _ => nomatch hF
  | n + 1, v0, v1, v2, σ, H, locs, ls, hF, hw, hl => kX6_greatestCommon_2 hC (rp_lp (fun _ _ _ _ => none) (fX6_greatestCommon_2) n) (lX6_greatestCommon_2 hC n) v0 v1 v2 σ H locs ls hF hw hl
def fX6_greatestCommon (v0 : Int32) (v1 : Int32) (σ : rp_St) : Option (Int32 × rp_St) :=
  rp_lp (fun _ _ _ _ => none) (fX6_greatestCommon_2) 300 v0 v1 v1 σ
set_option maxRecDepth 100000 in
set_option maxHeartbeats 4000000 in
theorem kX6_greatestCommon_0 {p : Program} {l : Launch} {e : Env} {s : State} {m : MethodId} {args : Array Value} {below : List Frame} {meth : Method} {c : Code} {D : va_G} {cI cB cS : ClassId} {a : Nat → Nat} {res : Int32 × rp_St} (hC : xC p s m args meth c cX6_greatestCommon 3 "RegretPegs" (some .int) D cI cB cS a) (v0 : Int32) (v1 : Int32) (σ : rp_St) (H : Heap) (locs : List Loc) (ls : Array Slot) (hF : fX6_greatestCommon v0 v1 σ = some res) (hw : xW D cI cB cS a s σ H locs) (hl : lv_has ls 3 [(0, .int v0), (1, .int v1)]) : W p l e (rp_rm 1) s m args below meth c H locs 0 0 (MQ below (rp_Qi D a (xt cI cB cS a) 62 res) args s 0 0 (rp_A a 62)) (F0 m 0 ls []) := by
  have hx := hC.1
  have hb := hC.2.1
  have hown := hC.2.2.2.1
  have hts := hC.2.2.2.2.1
  unfold fX6_greatestCommon at hF
  refine lv_iload_n (pc := 0) hx hb dX6_greatestCommon_0 rfl (lv_at hl 1 rfl) ?_
  refine lv_istore_n (pc := 1) (lv' := [(2, .int v1), (0, .int v0), (1, .int v1)]) hx hb dX6_greatestCommon_1 rfl hl (by decide) rfl (fun ls hl => ?_)
  exact lX6_greatestCommon_2 hC 300 v0 v1 v1 σ _ _ _ hF hw (lv_sub hl [1, 2, 0] rfl)
theorem mX6_greatestCommon {l : Launch} {D : va_G} {cI cB cS : ClassId} {a : Nat → Nat} (v0 : Int32) (v1 : Int32) (σ : rp_St) (res : Int32 × rp_St) (hF : fX6_greatestCommon v0 v1 σ = some res) : xM l D cI cB cS a yX6_greatestCommon cX6_greatestCommon 3 (some .int) 1 [.int v0, .int v1] σ (rp_Qi D a (xt cI cB cS a) 62 res) :=
  rp_entry (by decide) (Nat.le_of_ble_eq_true rfl) (fun p e s m below meth c ls hC hw hl => kX6_greatestCommon_0 hC v0 v1 σ _ _ _ hF hw (lv_sub hl [0, 1] rfl))
