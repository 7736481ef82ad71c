def fX7_finding (v1 : Int32) (σ : rp_St) : Option (Int32 × rp_St) :=
  rp_gu (rp_in ((-1000000000) - v1) 6) (rp_gu (rp_in ((-1000000000) - v1) 6) (rp_nm (rp_put σ 4 (((-1000000000) - v1) : Int32).toNatClampNeg ((σ 4 (((-1000000000) - v1) : Int32).toNatClampNeg) + 1)) (fun σ1 => some (v1, σ1))))
set_option maxRecDepth 100000 in
set_option maxHeartbeats 4000000 in
theorem kX7_finding_0 {p : Program} {l : Launch} {e : Env} {s : State} {m : MethodId} {args : Array Value} {below : List Frame} {meth : Method} {c : Code} {D : va_G} {cI cT : ClassId} {ad av a : Nat → Nat} {res : Int32 × rp_St} (hC : mC p s m args meth c cX7_finding 2 "RegretPegsModel" (some .int) D cI cT ad av a) (v1 : Int32) (σ : rp_St) (H : Heap) (locs : List Loc) (ls : Array Slot) (hF : fX7_finding v1 σ = some res) (hw : mW D cI cT ad av a s σ H locs) (hl : lv_has ls 2 [(0, .ref (a 0)), (1, .int v1)]) : W p l e (rp_rm 1) s m args below meth c H locs 0 0 (MQ below (rp_Qi D a (mt cI cT ad a) 15 res) args s 0 0 (rp_A a 15)) (F0 m 0 ls []) := by
  have hx := hC.1
  have hb := hC.2.1
  have hown := hC.2.2.2.1
  have hts := hC.2.2.2.2.1
  unfold fX7_finding at hF
  refine lv_aload_n (pc := 0) hx hb dX7_finding_0 rfl (lv_at hl 0 rfl) ?_
  refine rp_get (pc := 1) hC hw 0 (by decide) (mt_obj _) fl_X7_19 (.ref (a 4)) rfl dX7_finding_1 ?_
  refine lv_ldc (pc := 4) (v := (-1000000000)) hx hb hown (hts _ wd_726) dX7_finding_4 ?_
  refine lv_iload_n (pc := 6) hx hb dX7_finding_6 rfl (lv_at hl 1 rfl) ?_
  refine lv_isub (pc := 7) hx hb dX7_finding_7 ?_
  refine lv_dup2_11 (pc := 8) hx hb dX7_finding_8 rfl rfl ?_
  obtain ⟨hg, hF⟩ := rp_gu_e hF
  refine rp_ald (pc := 9) hC hw 4 (by decide) (mt_arr 4 6 rfl) 0 rfl hg dX7_finding_9 ?_
  refine lv_iconst (pc := 10) (v := 1) hx hb dX7_finding_10 (by decide) ?_
  refine lv_iadd (pc := 11) hx hb dX7_finding_11 ?_
  obtain ⟨hg, hF⟩ := rp_gu_e hF
  refine rp_ast (pc := 12) hC hw 4 (by decide) (mt_arr 4 6 rfl) 0 rfl hg dX7_finding_12 (fun H locs hw => ?_)
  obtain ⟨σ1, eσ1, hF⟩ := rp_nm_e hF
  replace hw := rp_Wn eσ1 hw
  clear eσ1
  refine lv_iload_n (pc := 13) hx hb dX7_finding_13 rfl (lv_at hl 1 rfl) ?_
  exact rp_reti (pc := 14) hC hw hF dX7_finding_14
theorem mX7_finding {l : Launch} {D : va_G} {cI cT : ClassId} {ad av a : Nat → Nat} (v1 : Int32) (σ : rp_St) (res : Int32 × rp_St) (hF : fX7_finding v1 σ = some res) : mM l D cI cT ad av a yX7_finding cX7_finding 2 (some .int) 1 [.ref (a 0), .int v1] σ (rp_Qi D a (mt cI cT ad a) 15 res) :=
  rp_entry (by decide) (Nat.le_of_ble_eq_true rfl) (fun p e s m below meth c ls hC hw hl => kX7_finding_0 hC v1 σ _ _ _ hF hw (lv_sub hl [0, 1] rfl))
def fX7_within (v0 : Int32) (v1 : Int32) (v2 : Int32) (σ : rp_St) : Option (Int32 × rp_St) :=
  (if v0 < v1 then some (0, σ) else (if v2 < v0 then some (0, σ) else some (1, σ)))
set_option maxRecDepth 100000 in
set_option maxHeartbeats 4000000 in
theorem kX7_within_0 {p : Program} {l : Launch} {e : Env} {s : State} {m : MethodId} {args : Array Value} {below : List Frame} {meth : Method} {c : Code} {D : va_G} {cI cT : ClassId} {ad av a : Nat → Nat} {res : Int32 × rp_St} (hC : mC p s m args meth c cX7_within 3 "RegretPegsModel" (some .boolean) D cI cT ad av a) (v0 : Int32) (v1 : Int32) (v2 : Int32) (σ : rp_St) (H : Heap) (locs : List Loc) (ls : Array Slot) (hF : fX7_within v0 v1 v2 σ = some res) (hw : mW D cI cT ad av a s σ H locs) (hl : lv_has ls 3 [(0, .int v0), (1, .int v1), (2, .int v2)]) : W p l e (rp_rm 1) s m args below meth c H locs 0 0 (MQ below (rp_Qi D a (mt cI cT ad a) 15 res) args s 0 0 (rp_A a 15)) (F0 m 0 ls []) := by
  have hx := hC.1
  have hb := hC.2.1
  have hown := hC.2.2.2.1
  have hts := hC.2.2.2.2.1
  unfold fX7_within at hF
  refine lv_iload_n (pc := 0) hx hb dX7_within_0 rfl (lv_at hl 0 rfl) ?_
  refine lv_iload_n (pc := 1) hx hb dX7_within_1 rfl (lv_at hl 1 rfl) ?_
  refine lv_icmp_lt (pc := 2) (tgt := 14) hx hb dX7_within_2 (by decide) (fun hc => ?_) (fun hc => ?_)
  · replace hF := rp_it hc hF
    refine lv_iconst (pc := 14) (v := 0) hx hb dX7_within_14 (by decide) ?_
    exact rp_retz (pc := 15) hC hw rfl hF dX7_within_15
  · replace hF := rp_if hc hF
    refine lv_iload_n (pc := 5) hx hb dX7_within_5 rfl (lv_at hl 0 rfl) ?_
    refine lv_iload_n (pc := 6) hx hb dX7_within_6 rfl (lv_at hl 2 rfl) ?_
    refine lv_icmp_gt (pc := 7) (tgt := 14) hx hb dX7_within_7 (by decide) (fun hc => ?_) (fun hc => ?_)
    · replace hF := rp_it hc hF
      refine lv_iconst (pc := 14) (v := 0) hx hb dX7_within_14 (by decide) ?_
      exact rp_retz (pc := 15) hC hw rfl hF dX7_within_15
    · replace hF := rp_if hc hF
      refine lv_iconst (pc := 10) (v := 1) hx hb dX7_within_10 (by decide) ?_
      refine lv_goto (pc := 11) (tgt := 15) hx hb dX7_within_11 (by decide) ?_
      exact rp_retz (pc := 15) hC hw rfl hF dX7_within_15
theorem mX7_within {l : Launch} {D : va_G} {cI cT : ClassId} {ad av a : Nat → Nat} (v0 : Int32) (v1 : Int32) (v2 : Int32) (σ : rp_St) (res : Int32 × rp_St) (hF : fX7_within v0 v1 v2 σ = some res) : mM l D cI cT ad av a yX7_within cX7_within 3 (some .boolean) 1 [.int v0, .int v1, .int v2] σ (rp_Qi D a (mt cI cT ad a) 15 res) :=
  rp_entry (by decide) (Nat.le_of_ble_eq_true rfl) (fun p e s m below meth c ls hC hw hl => kX7_within_0 hC v0 v1 v2 σ _ _ _ hF hw (lv_sub hl [0, 1, 2] rfl))
def fX7_held (v0 : Int32) (v1 : Int32) (v2 : Int32) (σ : rp_St) : Option (Int32 × rp_St) :=
  some ((if v1 < (if v0 < v2 then v0 else v2) then (if v0 < v2 then v0 else v2) else v1), σ)
set_option maxRecDepth 100000 in
set_option maxHeartbeats 4000000 in
theorem kX7_held_0 {p : Program} {l : Launch} {e : Env} {s : State} {m : MethodId} {args : Array Value} {below : List Frame} {meth : Method} {c : Code} {D : va_G} {cI cT : ClassId} {ad av a : Nat → Nat} {res : Int32 × rp_St} (hC : mC p s m args meth c cX7_held 3 "RegretPegsModel" (some .int) D cI cT ad av a) (v0 : Int32) (v1 : Int32) (v2 : Int32) (σ : rp_St) (H : Heap) (locs : List Loc) (ls : Array Slot) (hF : fX7_held v0 v1 v2 σ = some res) (hw : mW D cI cT ad av a s σ H locs) (hl : lv_has ls 3 [(0, .int v0), (1, .int v1), (2, .int v2)]) : W p l e (rp_rm 1) s m args below meth c H locs 0 0 (MQ below (rp_Qi D a (mt cI cT ad a) 15 res) args s 0 0 (rp_A a 15)) (F0 m 0 ls []) := by
  have hx := hC.1
  have hb := hC.2.1
  have hown := hC.2.2.2.1
  have hts := hC.2.2.2.2.1
  unfold fX7_held at hF
  refine lv_iload_n (pc := 0) hx hb dX7_held_0 rfl (lv_at hl 1 rfl) ?_
  refine lv_iload_n (pc := 1) hx hb dX7_held_1 rfl (lv_at hl 2 rfl) ?_
  refine lv_iload_n (pc := 2) hx hb dX7_held_2 rfl (lv_at hl 0 rfl) ?_
  refine rp_min (pc := 3) hC hl.1 wd_843 wd_314 wd_9 wd_315 (Nat.le_of_ble_eq_true rfl) (by omega) dX7_held_3 ?_
  refine rp_max (pc := 6) hC hl.1 wd_844 wd_390 wd_9 wd_391 (Nat.le_of_ble_eq_true rfl) (by omega) dX7_held_6 ?_
  exact rp_reti (pc := 9) hC hw hF dX7_held_9
theorem mX7_held {l : Launch} {D : va_G} {cI cT : ClassId} {ad av a : Nat → Nat} (v0 : Int32) (v1 : Int32) (v2 : Int32) (σ : rp_St) (res : Int32 × rp_St) (hF : fX7_held v0 v1 v2 σ = some res) : mM l D cI cT ad av a yX7_held cX7_held 3 (some .int) 1 [.int v0, .int v1, .int v2] σ (rp_Qi D a (mt cI cT ad a) 15 res) :=
  rp_entry (by decide) (Nat.le_of_ble_eq_true rfl) (fun p e s m below meth c ls hC hw hl => kX7_held_0 hC v0 v1 v2 σ _ _ _ hF hw (lv_sub hl [0, 1, 2] rfl))
def fX7_copy_2 (j0 : Nat) (j1 : Nat) (k2 : Int32 → rp_St → Option (Int32 × rp_St)) (v2 : Int32) (σ : rp_St) : Option (Int32 × rp_St) :=
  (if 221 ≤ v2 then some (0, σ) else rp_gu (rp_in v2 221) (rp_gu (rp_in v2 221) (rp_nm (rp_put σ j1 (v2 : Int32).toNatClampNeg (σ j0 (v2 : Int32).toNatClampNeg)) (fun σ1 => rp_nm (v2 + 1) (fun x2 => k2 x2 σ1)))))
set_option maxRecDepth 100000 in
set_option maxHeartbeats 4000000 in
theorem kX7_copy_2 {p : Program} {l : Launch} {e : Env} {s : State} {m : MethodId} {args : Array Value} {below : List Frame} {meth : Method} {c : Code} {D : va_G} {cI cT : ClassId} {ad av a : Nat → Nat} {res : Int32 × rp_St} (j0 : Nat) (h_j0 : j0 < 15) (t_j0 : ∀ f, mt cI cT ad a j0 f = .inl (cI, 221, .inl f)) (j1 : Nat) (h_j1 : j1 < 15) (t_j1 : ∀ f, mt cI cT ad a j1 f = .inl (cI, 221, .inl f)) (hC : mC p s m args meth c cX7_copy 3 "RegretPegsModel" none D cI cT ad av a) (k2 : Int32 → rp_St → Option (Int32 × rp_St)) (hk2 : ∀ (v2 : Int32) (σ : rp_St) (H : Heap) (locs : List Loc) (ls : Array Slot), k2 v2 σ = some res → mW D cI cT ad av a s σ H locs → lv_has ls 3 [(0, .ref (a j0)), (1, .ref (a j1)), (2, .int v2)] → W p l e (rp_rm 1) s m args below meth c H locs 0 0 (MQ below (rp_Qv D a (mt cI cT ad a) 15 res) args s 0 0 (rp_A a 15)) (F0 m 2 ls [])) (v2 : Int32) (σ : rp_St) (H : Heap) (locs : List Loc) (ls : Array Slot) (hF : fX7_copy_2 j0 j1 k2 v2 σ = some res) (hw : mW D cI cT ad av a s σ H locs) (hl : lv_has ls 3 [(0, .ref (a j0)), (1, .ref (a j1)), (2, .int v2)]) : W p l e (rp_rm 1) s m args below meth c H locs 0 0 (MQ below (rp_Qv D a (mt cI cT ad a) 15 res) args s 0 0 (rp_A a 15)) (F0 m 2 ls []) := by
  have hx := hC.1
  have hb := hC.2.1
  have hown := hC.2.2.2.1
  have hts := hC.2.2.2.2.1
  unfold fX7_copy_2 at hF
  refine lv_iload_n (pc := 2) hx hb dX7_copy_2 rfl (lv_at hl 2 rfl) ?_
  refine lv_sipush (pc := 3) (v := 221) hx hb dX7_copy_3 (by decide) ?_
  refine lv_icmp_ge (pc := 6) (tgt := 21) hx hb dX7_copy_6 (by decide) (fun hc => ?_) (fun hc => ?_)
  · replace hF := rp_it hc hF
    exact rp_retv (pc := 21) hC hw hF dX7_copy_21
  · replace hF := rp_if hc hF
    refine lv_aload_n (pc := 9) hx hb dX7_copy_9 rfl (lv_at hl 1 rfl) ?_
    refine lv_iload_n (pc := 10) hx hb dX7_copy_10 rfl (lv_at hl 2 rfl) ?_
    refine lv_aload_n (pc := 11) hx hb dX7_copy_11 rfl (lv_at hl 0 rfl) ?_
    refine lv_iload_n (pc := 12) hx hb dX7_copy_12 rfl (lv_at hl 2 rfl) ?_
    obtain ⟨hg, hF⟩ := rp_gu_e hF
    refine rp_ald (pc := 13) hC hw j0 h_j0 t_j0 0 rfl hg dX7_copy_13 ?_
    obtain ⟨hg, hF⟩ := rp_gu_e hF
    refine rp_ast (pc := 14) hC hw j1 h_j1 t_j1 0 rfl hg dX7_copy_14 (fun H locs hw => ?_)
    obtain ⟨σ1, eσ1, hF⟩ := rp_nm_e hF
    replace hw := rp_Wn eσ1 hw
    clear eσ1
    obtain ⟨x2, ex2, hF⟩ := rp_nm_e hF
    refine lv_iinc (pc := 15) (v := x2) (lv' := [(2, .int x2), (0, .ref (a j0)), (1, .ref (a j1))]) hx hb dX7_copy_15 hl (k := 2) rfl (by rw [ex2]; rfl) (by decide) rfl (fun ls hl => ?_)
    refine lv_goto (pc := 18) (tgt := 2) hx hb dX7_copy_18 (by decide) ?_
    exact hk2 x2 σ1 _ _ _ hF hw (lv_sub hl [1, 2, 0] rfl)
theorem lX7_copy_2 {p : Program} {l : Launch} {e : Env} {s : State} {m : MethodId} {args : Array Value} {below : List Frame} {meth : Method} {c : Code} {D : va_G} {cI cT : ClassId} {ad av a : Nat → Nat} {res : Int32 × rp_St} (j0 : Nat) (h_j0 : j0 < 15) (t_j0 : ∀ f, mt cI cT ad a j0 f = .inl (cI, 221, .inl f)) (j1 : Nat) (h_j1 : j1 < 15) (t_j1 : ∀ f, mt cI cT ad a j1 f = .inl (cI, 221, .inl f)) (hC : mC p s m args meth c cX7_copy 3 "RegretPegsModel" none D cI cT ad av a) : ∀ (n : Nat) (v2 : Int32) (σ : rp_St) (H : Heap) (locs : List Loc) (ls : Array Slot), rp_lp (fun _ _ => none) (fX7_copy_2 j0 j1) n v2 σ = some res → mW D cI cT ad av a s σ H locs → lv_has ls 3 [(0, .ref (a j0)), (1, .ref (a j1)), (2, .int v2)] → W p l e (rp_rm 1) s m args below meth c H locs 0 0 (MQ below (rp_Qv D a (mt cI cT ad a) 15 res) args s 0 0 (rp_A a 15)) (F0 m 2 ls [])
  | 0, _, _, _, _, _, hF, _, _ => nomatch hF
  | n + 1, v2, σ, H, locs, ls, hF, hw, hl => kX7_copy_2 j0 h_j0 t_j0 j1 h_j1 t_j1 hC (rp_lp (fun _ _ => none) (fX7_copy_2 j0 j1) n) (lX7_copy_2 j0 h_j0 t_j0 j1 h_j1 t_j1 hC n) v2 σ H locs ls hF hw hl
def fX7_copy (j0 : Nat) (j1 : Nat) (σ : rp_St) : Option (Int32 × rp_St) :=
  rp_lp (fun _ _ => none) (fX7_copy_2 j0 j1) 300 0 σ
set_option maxRecDepth 100000 in
set_option maxHeartbeats 4000000 in
theorem kX7_copy_0 {p : Program} {l : Launch} {e : Env} {s : State} {m : MethodId} {args : Array Value} {below : List Frame} {meth : Method} {c : Code} {D : va_G} {cI cT : ClassId} {ad av a : Nat → Nat} {res : Int32 × rp_St} (j0 : Nat) (h_j0 : j0 < 15) (t_j0 : ∀ f, mt cI cT ad a j0 f = .inl (cI, 221, .inl f)) (j1 : Nat) (h_j1 : j1 < 15) (t_j1 : ∀ f, mt cI cT ad a j1 f = .inl (cI, 221, .inl f)) (hC : mC p s m args meth c cX7_copy 3 "RegretPegsModel" none D cI cT ad av a) (σ : rp_St) (H : Heap) (locs : List Loc) (ls : Array Slot) (hF : fX7_copy j0 j1 σ = some res) (hw : mW D cI cT ad av a s σ H locs) (hl : lv_has ls 3 [(0, .ref (a j0)), (1, .ref (a j1))]) : W p l e (rp_rm 1) s m args below meth c H locs 0 0 (MQ below (rp_Qv D a (mt cI cT ad a) 15 res) args s 0 0 (rp_A a 15)) (F0 m 0 ls []) := by
  have hx := hC.1
  have hb := hC.2.1
  have hown := hC.2.2.2.1
  have hts := hC.2.2.2.2.1
  unfold fX7_copy at hF
  refine lv_iconst (pc := 0) (v := 0) hx hb dX7_copy_0 (by decide) ?_
  refine lv_istore_n (pc := 1) (lv' := [(2, .int 0), (0, .ref (a j0)), (1, .ref (a j1))]) hx hb dX7_copy_1 rfl hl (by decide) rfl (fun ls hl => ?_)
  exact lX7_copy_2 j0 h_j0 t_j0 j1 h_j1 t_j1 hC 300 0 σ _ _ _ hF hw (lv_sub hl [1, 2, 0] rfl)
theorem mX7_copy {l : Launch} {D : va_G} {cI cT : ClassId} {ad av a : Nat → Nat} (j0 : Nat) (h_j0 : j0 < 15) (t_j0 : ∀ f, mt cI cT ad a j0 f = .inl (cI, 221, .inl f)) (j1 : Nat) (h_j1 : j1 < 15) (t_j1 : ∀ f, mt cI cT ad a j1 f = .inl (cI, 221, .inl f))  (σ : rp_St) (res : Int32 × rp_St) (hF : fX7_copy j0 j1 σ = some res) : mM l D cI cT ad av a yX7_copy cX7_copy 3 none 1 [.ref (a j0), .ref (a j1)] σ (rp_Qv D a (mt cI cT ad a) 15 res) :=
  rp_entry (by decide) (Nat.le_of_ble_eq_true rfl) (fun p e s m below meth c ls hC hw hl => kX7_copy_0 j0 h_j0 t_j0 j1 h_j1 t_j1 hC σ _ _ _ hF hw (lv_sub hl [0, 1] rfl))
def fX7_turn (v1 : Int32) (v2 : Int32) (σ : rp_St) : Option (Int32 × rp_St) :=
  rp_gu (rp_in v1 221) (rp_nm (σ 1 (v1 : Int32).toNatClampNeg) (fun x1 => rp_gu (rp_in v1 221) (rp_nm (rp_put σ 1 (v1 : Int32).toNatClampNeg v2) (fun σ2 => some (x1, σ2)))))
set_option maxRecDepth 100000 in
set_option maxHeartbeats 4000000 in
theorem kX7_turn_0 {p : Program} {l : Launch} {e : Env} {s : State} {m : MethodId} {args : Array Value} {below : List Frame} {meth : Method} {c : Code} {D : va_G} {cI cT : ClassId} {ad av a : Nat → Nat} {res : Int32 × rp_St} (hC : mC p s m args meth c cX7_turn 4 "RegretPegsModel" (some .int) D cI cT ad av a) (v1 : Int32) (v2 : Int32) (σ : rp_St) (H : Heap) (locs : List Loc) (ls : Array Slot) (hF : fX7_turn v1 v2 σ = some res) (hw : mW D cI cT ad av a s σ H locs) (hl : lv_has ls 4 [(0, .ref (a 0)), (1, .int v1), (2, .int v2)]) : W p l e (rp_rm 1) s m args below meth c H locs 0 0 (MQ below (rp_Qi D a (mt cI cT ad a) 15 res) args s 0 0 (rp_A a 15)) (F0 m 0 ls []) := by
  have hx := hC.1
  have hb := hC.2.1
  have hown := hC.2.2.2.1
  have hts := hC.2.2.2.2.1
  unfold fX7_turn at hF
  refine lv_aload_n (pc := 0) hx hb dX7_turn_0 rfl (lv_at hl 0 rfl) ?_
  refine rp_get (pc := 1) hC hw 0 (by decide) (mt_obj _) fl_X7_9 (.ref (a 1)) rfl dX7_turn_1 ?_
  refine lv_iload_n (pc := 4) hx hb dX7_turn_4 rfl (lv_at hl 1 rfl) ?_
  obtain ⟨hg, hF⟩ := rp_gu_e hF
  refine rp_ald (pc := 5) hC hw 1 (by decide) (mt_arr 1 221 rfl) 0 rfl hg dX7_turn_5 ?_
  obtain ⟨x1, ex1, hF⟩ := rp_nm_e hF
  refine rp_top ex1 ?_
  refine lv_istore_n (pc := 6) (lv' := [(3, .int x1), (0, .ref (a 0)), (1, .int v1), (2, .int v2)]) hx hb dX7_turn_6 rfl hl (by decide) rfl (fun ls hl => ?_)
  refine lv_aload_n (pc := 7) hx hb dX7_turn_7 rfl (lv_at hl 1 rfl) ?_
  refine rp_get (pc := 8) hC hw 0 (by decide) (mt_obj _) fl_X7_9 (.ref (a 1)) rfl dX7_turn_8 ?_
  refine lv_iload_n (pc := 11) hx hb dX7_turn_11 rfl (lv_at hl 2 rfl) ?_
  refine lv_iload_n (pc := 12) hx hb dX7_turn_12 rfl (lv_at hl 3 rfl) ?_
  obtain ⟨hg, hF⟩ := rp_gu_e hF
  refine rp_ast (pc := 13) hC hw 1 (by decide) (mt_arr 1 221 rfl) 0 rfl hg dX7_turn_13 (fun H locs hw => ?_)
  obtain ⟨σ2, eσ2, hF⟩ := rp_nm_e hF
  replace hw := rp_Wn eσ2 hw
  clear eσ2
  refine lv_iload_n (pc := 14) hx hb dX7_turn_14 rfl (lv_at hl 0 rfl) ?_
  exact rp_reti (pc := 15) hC hw hF dX7_turn_15
theorem mX7_turn {l : Launch} {D : va_G} {cI cT : ClassId} {ad av a : Nat → Nat} (v1 : Int32) (v2 : Int32) (σ : rp_St) (res : Int32 × rp_St) (hF : fX7_turn v1 v2 σ = some res) : mM l D cI cT ad av a yX7_turn cX7_turn 4 (some .int) 1 [.ref (a 0), .int v1, .int v2] σ (rp_Qi D a (mt cI cT ad a) 15 res) :=
  rp_entry (by decide) (Nat.le_of_ble_eq_true rfl) (fun p e s m below meth c ls hC hw hl => kX7_turn_0 hC v1 v2 σ _ _ _ hF hw (lv_sub hl [0, 1, 2] rfl))
def fX7_putBack (v1 : Int32) (σ : rp_St) : Option (Int32 × rp_St) :=
  rp_bd (fX7_copy 3 1 σ) (fun _ σ2 => some (v1, σ2))
set_option maxRecDepth 100000 in
set_option maxHeartbeats 4000000 in
theorem kX7_putBack_0 {p : Program} {l : Launch} {e : Env} {s : State} {m : MethodId} {args : Array Value} {below : List Frame} {meth : Method} {c : Code} {D : va_G} {cI cT : ClassId} {ad av a : Nat → Nat} {res : Int32 × rp_St} (hC : mC p s m args meth c cX7_putBack 2 "RegretPegsModel" (some .int) D cI cT ad av a) (v1 : Int32) (σ : rp_St) (H : Heap) (locs : List Loc) (ls : Array Slot) (hF : fX7_putBack v1 σ = some res) (hw : mW D cI cT ad av a s σ H locs) (hl : lv_has ls 2 [(0, .ref (a 0)), (1, .int v1)]) : W p l e (rp_rm 2) s m args below meth c H locs 0 0 (MQ below (rp_Qi D a (mt cI cT ad a) 15 res) args s 0 0 (rp_A a 15)) (F0 m 0 ls []) := by
  have hx := hC.1
  have hb := hC.2.1
  have hown := hC.2.2.2.1
  have hts := hC.2.2.2.2.1
  unfold fX7_putBack at hF
  refine lv_aload_n (pc := 0) hx hb dX7_putBack_0 rfl (lv_at hl 0 rfl) ?_
  refine rp_get (pc := 1) hC hw 0 (by decide) (mt_obj _) fl_X7_16 (.ref (a 3)) rfl dX7_putBack_1 ?_
  refine lv_aload_n (pc := 4) hx hb dX7_putBack_4 rfl (lv_at hl 0 rfl) ?_
  refine rp_get (pc := 5) hC hw 0 (by decide) (mt_obj _) fl_X7_9 (.ref (a 1)) rfl dX7_putBack_5 ?_
  obtain ⟨r1, σ2, hq, hF⟩ := rp_bd_e hF
  refine rp_kv (rp_runZ (rest := []) hC (mE_ok _) hw hl.1 (mX7_copy (l := l) 3 (by decide) (mt_arr 3 221 rfl) 1 (by decide) (mt_arr 1 221 rfl) σ _ hq) zw_X7_69 rfl rfl (Nat.le_of_ble_eq_true rfl) (by decide) dX7_putBack_8) hw (fun H locs hw => ?_)
  clear hq
  refine lv_iload_n (pc := 11) hx hb dX7_putBack_11 rfl (lv_at hl 1 rfl) ?_
  exact rp_reti (pc := 12) hC hw hF dX7_putBack_12
theorem mX7_putBack {l : Launch} {D : va_G} {cI cT : ClassId} {ad av a : Nat → Nat} (v1 : Int32) (σ : rp_St) (res : Int32 × rp_St) (hF : fX7_putBack v1 σ = some res) : mM l D cI cT ad av a yX7_putBack cX7_putBack 2 (some .int) 2 [.ref (a 0), .int v1] σ (rp_Qi D a (mt cI cT ad a) 15 res) :=
  rp_entry (by decide) (Nat.le_of_ble_eq_true rfl) (fun p e s m below meth c ls hC hw hl => kX7_putBack_0 hC v1 σ _ _ _ hF hw (lv_sub hl [0, 1] rfl))
def fX7_feed_40 (k40 : Int64 → Int32 → Int32 → rp_St → Option (Int32 × rp_St)) (v1 : Int64) (v3 : Int32) (v4 : Int32) (σ : rp_St) : Option (Int32 × rp_St) :=
  (if v3 ≤ v4 then rp_gu (rp_in 3 221) (some ((σ 1 (3 : Int32).toNatClampNeg), σ)) else rp_gu (rp_in 3 221) (rp_gu (rp_in (47 + (σ 1 (3 : Int32).toNatClampNeg)) 221) (rp_nm (rp_put σ 1 ((47 + (σ 1 (3 : Int32).toNatClampNeg)) : Int32).toNatClampNeg ((((v1 >>> (((8 * v4) : Int32).toInt64 &&& 63)) &&& (255 : Int64)) : Int64).toInt32)) (fun σ1 => rp_gu (rp_in 3 221) (rp_gu (rp_in 3 221) (rp_nm (rp_put σ1 1 (3 : Int32).toNatClampNeg ((σ1 1 (3 : Int32).toNatClampNeg) + 1)) (fun σ2 => rp_nm (v4 + 1) (fun x3 => k40 v1 v3 x3 σ2))))))))
set_option maxRecDepth 100000 in
set_option maxHeartbeats 4000000 in
theorem kX7_feed_40 {p : Program} {l : Launch} {e : Env} {s : State} {m : MethodId} {args : Array Value} {below : List Frame} {meth : Method} {c : Code} {D : va_G} {cI cT : ClassId} {ad av a : Nat → Nat} {res : Int32 × rp_St} (hC : mC p s m args meth c cX7_feed 5 "RegretPegsModel" (some .int) D cI cT ad av a) (k40 : Int64 → Int32 → Int32 → rp_St → Option (Int32 × rp_St)) (hk40 : ∀ (v1 : Int64) (v3 : Int32) (v4 : Int32) (σ : rp_St) (H : Heap) (locs : List Loc) (ls : Array Slot), k40 v1 v3 v4 σ = some res → mW D cI cT ad av a s σ H locs → lv_has ls 5 [(0, .ref (a 0)), (1, .long v1), (3, .int v3), (4, .int v4)] → W p l e (rp_rm 2) s m args below meth c H locs 0 0 (MQ below (rp_Qi D a (mt cI cT ad a) 15 res) args s 0 0 (rp_A a 15)) (F0 m 40 ls [])) (v1 : Int64) (v3 : Int32) (v4 : Int32) (σ : rp_St) (H : Heap) (locs : List Loc) (ls : Array Slot) (hF : fX7_feed_40 k40 v1 v3 v4 σ = some res) (hw : mW D cI cT ad av a s σ H locs) (hl : lv_has ls 5 [(0, .ref (a 0)), (1, .long v1), (3, .int v3), (4, .int v4)]) : W p l e (rp_rm 2) s m args below meth c H locs 0 0 (MQ below (rp_Qi D a (mt cI cT ad a) 15 res) args s 0 0 (rp_A a 15)) (F0 m 40 ls []) := by
  have hx := hC.1
  have hb := hC.2.1
  have hown := hC.2.2.2.1
  have hts := hC.2.2.2.2.1
  unfold fX7_feed_40 at hF
  refine lv_iload (pc := 40) hx hb dX7_feed_40 (lv_at hl 3 rfl) ?_
  refine lv_iload_n (pc := 42) hx hb dX7_feed_42 rfl (lv_at hl 2 rfl) ?_
  refine lv_icmp_ge (pc := 43) (tgt := 88) hx hb dX7_feed_43 (by decide) (fun hc => ?_) (fun hc => ?_)
  · replace hF := rp_it hc hF
    refine lv_aload_n (pc := 88) hx hb dX7_feed_88 rfl (lv_at hl 0 rfl) ?_
    refine rp_get (pc := 89) hC hw 0 (by decide) (mt_obj _) fl_X7_9 (.ref (a 1)) rfl dX7_feed_89 ?_
    refine lv_iconst (pc := 92) (v := 3) hx hb dX7_feed_92 (by decide) ?_
    obtain ⟨hg, hF⟩ := rp_gu_e hF
    refine rp_ald (pc := 93) hC hw 1 (by decide) (mt_arr 1 221 rfl) 0 rfl hg dX7_feed_93 ?_
    exact rp_reti (pc := 94) hC hw hF dX7_feed_94
  · replace hF := rp_if hc hF
    refine lv_aload_n (pc := 46) hx hb dX7_feed_46 rfl (lv_at hl 0 rfl) ?_
    refine rp_get (pc := 47) hC hw 0 (by decide) (mt_obj _) fl_X7_9 (.ref (a 1)) rfl dX7_feed_47 ?_
    refine lv_bipush (pc := 50) (v := 47) hx hb dX7_feed_50 (by decide) ?_
    refine lv_aload_n (pc := 52) hx hb dX7_feed_52 rfl (lv_at hl 0 rfl) ?_
    refine rp_get (pc := 53) hC hw 0 (by decide) (mt_obj _) fl_X7_9 (.ref (a 1)) rfl dX7_feed_53 ?_
    refine lv_iconst (pc := 56) (v := 3) hx hb dX7_feed_56 (by decide) ?_
    obtain ⟨hg, hF⟩ := rp_gu_e hF
    refine rp_ald (pc := 57) hC hw 1 (by decide) (mt_arr 1 221 rfl) 0 rfl hg dX7_feed_57 ?_
    refine lv_iadd (pc := 58) hx hb dX7_feed_58 ?_
    refine lv_lload_n (pc := 59) hx hb dX7_feed_59 rfl (lv_at hl 1 rfl) ?_
    refine lv_bipush (pc := 60) (v := 8) hx hb dX7_feed_60 (by decide) ?_
    refine lv_iload (pc := 62) hx hb dX7_feed_62 (lv_at hl 3 rfl) ?_
    refine lv_imul (pc := 64) hx hb dX7_feed_64 ?_
    refine lv_lshr (pc := 65) hx hb dX7_feed_65 rfl ?_
    refine lv_ldc2 (pc := 66) (v := 255) hx hb hown (hts _ wd_728) dX7_feed_66 ?_
    refine lv_land (pc := 69) hx hb dX7_feed_69 ?_
    refine lv_l2i (pc := 70) hx hb dX7_feed_70 rfl ?_
    obtain ⟨hg, hF⟩ := rp_gu_e hF
    refine rp_ast (pc := 71) hC hw 1 (by decide) (mt_arr 1 221 rfl) 0 rfl hg dX7_feed_71 (fun H locs hw => ?_)
    obtain ⟨σ1, eσ1, hF⟩ := rp_nm_e hF
    replace hw := rp_Wn eσ1 hw
    clear eσ1
    refine lv_aload_n (pc := 72) hx hb dX7_feed_72 rfl (lv_at hl 0 rfl) ?_
    refine rp_get (pc := 73) hC hw 0 (by decide) (mt_obj _) fl_X7_9 (.ref (a 1)) rfl dX7_feed_73 ?_
    refine lv_iconst (pc := 76) (v := 3) hx hb dX7_feed_76 (by decide) ?_
    refine lv_dup2_11 (pc := 77) hx hb dX7_feed_77 rfl rfl ?_
    obtain ⟨hg, hF⟩ := rp_gu_e hF
    refine rp_ald (pc := 78) hC hw 1 (by decide) (mt_arr 1 221 rfl) 0 rfl hg dX7_feed_78 ?_
    refine lv_iconst (pc := 79) (v := 1) hx hb dX7_feed_79 (by decide) ?_
    refine lv_iadd (pc := 80) hx hb dX7_feed_80 ?_
    obtain ⟨hg, hF⟩ := rp_gu_e hF
    refine rp_ast (pc := 81) hC hw 1 (by decide) (mt_arr 1 221 rfl) 0 rfl hg dX7_feed_81 (fun H locs hw => ?_)
    obtain ⟨σ2, eσ2, hF⟩ := rp_nm_e hF
    replace hw := rp_Wn eσ2 hw
    clear eσ2
    obtain ⟨x3, ex3, hF⟩ := rp_nm_e hF
    refine lv_iinc (pc := 82) (v := x3) (lv' := [(4, .int x3), (0, .ref (a 0)), (1, .long v1), (3, .int v3)]) hx hb dX7_feed_82 hl (k := 3) rfl (by rw [ex3]; rfl) (by decide) rfl (fun ls hl => ?_)
    refine lv_goto (pc := 85) (tgt := 40) hx hb dX7_feed_85 (by decide) ?_
    exact hk40 v1 v3 x3 σ2 _ _ _ hF hw (lv_sub hl [1, 2, 3, 0] rfl)
theorem lX7_feed_40 {p : Program} {l : Launch} {e : Env} {s : State} {m : MethodId} {args : Array Value} {below : List Frame} {meth : Method} {c : Code} {D : va_G} {cI cT : ClassId} {ad av a : Nat → Nat} {res : Int32 × rp_St} (hC : mC p s m args meth c cX7_feed 5 "RegretPegsModel" (some .int) D cI cT ad av a) : ∀ (n : Nat) (v1 : Int64) (v3 : Int32) (v4 : Int32) (σ : rp_St) (H : Heap) (locs : List Loc) (ls : Array Slot), rp_lp (fun _ _ _ _ => none) (fX7_feed_40) n v1 v3 v4 σ = some res → mW D cI cT ad av a s σ H locs → lv_has ls 5 [(0, .ref (a 0)), (1, .long v1), (3, .int v3), (4, .int v4)] → W p l e (rp_rm 2) s m args below meth c H locs 0 0 (MQ below (rp_Qi D a (mt cI cT ad a) 15 res) args s 0 0 (rp_A a 15)) (F0 m 40 ls [])
  | 0, _, _, _, _, _, _, _, hF, _, _ => nomatch hF
  | n + 1, v1, v3, v4, σ, H, locs, ls, hF, hw, hl => kX7_feed_40 hC (rp_lp (fun _ _ _ _ => none) (fX7_feed_40) n) (lX7_feed_40 hC n) v1 v3 v4 σ H locs ls hF hw hl
def fX7_feed (v1 : Int64) (v3 : Int32) (σ : rp_St) : Option (Int32 × rp_St) :=
  rp_bd (fX7_within v3 1 8 σ) (fun r1 σ2 => (if r1 = 0 then rp_bd (fX7_finding (-1000000001) σ2) (fun r5 σ6 => some (r5, σ6)) else rp_gu (rp_in 3 221) ((if ((σ2 1 (3 : Int32).toNatClampNeg) + v3) ≤ 50 then rp_lp (fun _ _ _ _ => none) (fX7_feed_40) 300 v1 v3 0 σ2 else rp_bd (fX7_finding (-1000000004) σ2) (fun r3 σ4 => some (r3, σ4))))))
set_option maxRecDepth 100000 in
set_option maxHeartbeats 4000000 in
theorem kX7_feed_0 {p : Program} {l : Launch} {e : Env} {s : State} {m : MethodId} {args : Array Value} {below : List Frame} {meth : Method} {c : Code} {D : va_G} {cI cT : ClassId} {ad av a : Nat → Nat} {res : Int32 × rp_St} (hC : mC p s m args meth c cX7_feed 5 "RegretPegsModel" (some .int) D cI cT ad av a) (v1 : Int64) (v3 : Int32) (σ : rp_St) (H : Heap) (locs : List Loc) (ls : Array Slot) (hF : fX7_feed v1 v3 σ = some res) (hw : mW D cI cT ad av a s σ H locs) (hl : lv_has ls 5 [(0, .ref (a 0)), (1, .long v1), (3, .int v3)]) : W p l e (rp_rm 2) s m args below meth c H locs 0 0 (MQ below (rp_Qi D a (mt cI cT ad a) 15 res) args s 0 0 (rp_A a 15)) (F0 m 0 ls []) := by
  have hx := hC.1
  have hb := hC.2.1
  have hown := hC.2.2.2.1
  have hts := hC.2.2.2.2.1
  unfold fX7_feed at hF
  refine lv_iload_n (pc := 0) hx hb dX7_feed_0 rfl (lv_at hl 2 rfl) ?_
  refine lv_iconst (pc := 1) (v := 1) hx hb dX7_feed_1 (by decide) ?_
  refine lv_bipush (pc := 2) (v := 8) hx hb dX7_feed_2 (by decide) ?_
  obtain ⟨r1, σ2, hq, hF⟩ := rp_bd_e hF
  refine rp_ki (rp_runZ (rest := []) hC (mE_ok _) hw hl.1 (mX7_within (l := l) v3 1 8 σ _ hq) zw_X7_73 rfl rfl (Nat.le_of_ble_eq_true rfl) (by decide) dX7_feed_4) hw (fun H locs hw => ?_)
  clear hq
  refine lv_if_ne (pc := 7) (tgt := 17) hx hb dX7_feed_7 (by decide) (fun hc => ?_) (fun hc => ?_)
  · replace hF := rp_if hc hF
    refine lv_aload_n (pc := 17) hx hb dX7_feed_17 rfl (lv_at hl 0 rfl) ?_
    refine rp_get (pc := 18) hC hw 0 (by decide) (mt_obj _) fl_X7_9 (.ref (a 1)) rfl dX7_feed_18 ?_
    refine lv_iconst (pc := 21) (v := 3) hx hb dX7_feed_21 (by decide) ?_
    obtain ⟨hg, hF⟩ := rp_gu_e hF
    refine rp_ald (pc := 22) hC hw 1 (by decide) (mt_arr 1 221 rfl) 0 rfl hg dX7_feed_22 ?_
    refine lv_iload_n (pc := 23) hx hb dX7_feed_23 rfl (lv_at hl 2 rfl) ?_
    refine lv_iadd (pc := 24) hx hb dX7_feed_24 ?_
    refine lv_bipush (pc := 25) (v := 50) hx hb dX7_feed_25 (by decide) ?_
    refine lv_icmp_le (pc := 27) (tgt := 37) hx hb dX7_feed_27 (by decide) (fun hc => ?_) (fun hc => ?_)
    · replace hF := rp_it hc hF
      refine lv_iconst (pc := 37) (v := 0) hx hb dX7_feed_37 (by decide) ?_
      refine lv_istore (pc := 38) (lv' := [(4, .int 0), (0, .ref (a 0)), (1, .long v1), (3, .int v3)]) hx hb dX7_feed_38 hl (by decide) rfl (fun ls hl => ?_)
      exact lX7_feed_40 hC 300 v1 v3 0 σ2 _ _ _ hF hw (lv_sub hl [1, 2, 3, 0] rfl)
    · replace hF := rp_if hc hF
      refine lv_aload_n (pc := 30) hx hb dX7_feed_30 rfl (lv_at hl 0 rfl) ?_
      refine lv_ldc (pc := 31) (v := (-1000000004)) hx hb hown (hts _ wd_727) dX7_feed_31 ?_
      obtain ⟨r3, σ4, hq, hF⟩ := rp_bd_e hF
      refine rp_ki (rp_runV (rest := []) hC (mE_ok _) hw hl.1 (mX7_finding (l := l) (-1000000004) σ2 _ hq) vw_X7_78 (by decide) (mt_obj _) rfl rfl rfl (Nat.le_of_ble_eq_true rfl) (by decide) dX7_feed_33) hw (fun H locs hw => ?_)
      clear hq
      exact rp_reti (pc := 36) hC hw hF dX7_feed_36
  · replace hF := rp_it hc hF
    refine lv_aload_n (pc := 10) hx hb dX7_feed_10 rfl (lv_at hl 0 rfl) ?_
    refine lv_ldc (pc := 11) (v := (-1000000001)) hx hb hown (hts _ wd_721) dX7_feed_11 ?_
    obtain ⟨r5, σ6, hq, hF⟩ := rp_bd_e hF
    refine rp_ki (rp_runV (rest := []) hC (mE_ok _) hw hl.1 (mX7_finding (l := l) (-1000000001) σ2 _ hq) vw_X7_78 (by decide) (mt_obj _) rfl rfl rfl (Nat.le_of_ble_eq_true rfl) (by decide) dX7_feed_13) hw (fun H locs hw => ?_)
    clear hq
    exact rp_reti (pc := 16) hC hw hF dX7_feed_16
theorem mX7_feed {l : Launch} {D : va_G} {cI cT : ClassId} {ad av a : Nat → Nat} (v1 : Int64) (v3 : Int32) (σ : rp_St) (res : Int32 × rp_St) (hF : fX7_feed v1 v3 σ = some res) : mM l D cI cT ad av a yX7_feed cX7_feed 5 (some .int) 2 [.ref (a 0), .long v1, .int v3] σ (rp_Qi D a (mt cI cT ad a) 15 res) :=
  rp_entry (by decide) (Nat.le_of_ble_eq_true rfl) (fun p e s m below meth c ls hC hw hl => kX7_feed_0 hC v1 v3 σ _ _ _ hF hw (lv_sub hl [0, 1, 2] rfl))
def fX7_here (σ : rp_St) : Option (Int32 × rp_St) :=
  (if (σ 0 10) = 0 then rp_gu (rp_in 3 221) ((if (σ 1 (3 : Int32).toNatClampNeg) ≤ (σ 0 7) then some ((-1), σ) else rp_gu (rp_in (47 + (σ 0 7)) 221) (some ((σ 1 ((47 + (σ 0 7)) : Int32).toNatClampNeg), σ)))) else some ((-1), σ))
set_option maxRecDepth 100000 in
set_option maxHeartbeats 4000000 in
theorem kX7_here_0 {p : Program} {l : Launch} {e : Env} {s : State} {m : MethodId} {args : Array Value} {below : List Frame} {meth : Method} {c : Code} {D : va_G} {cI cT : ClassId} {ad av a : Nat → Nat} {res : Int32 × rp_St} (hC : mC p s m args meth c cX7_here 1 "RegretPegsModel" (some .int) D cI cT ad av a) (σ : rp_St) (H : Heap) (locs : List Loc) (ls : Array Slot) (hF : fX7_here σ = some res) (hw : mW D cI cT ad av a s σ H locs) (hl : lv_has ls 1 [(0, .ref (a 0))]) : W p l e (rp_rm 1) s m args below meth c H locs 0 0 (MQ below (rp_Qi D a (mt cI cT ad a) 15 res) args s 0 0 (rp_A a 15)) (F0 m 0 ls []) := by
  have hx := hC.1
  have hb := hC.2.1
  have hown := hC.2.2.2.1
  have hts := hC.2.2.2.2.1
  unfold fX7_here at hF
  refine lv_aload_n (pc := 0) hx hb dX7_here_0 rfl (lv_at hl 0 rfl) ?_
  refine rp_get (pc := 1) hC hw 0 (by decide) (mt_obj _) fl_X7_85 (.int (σ 0 10)) rfl dX7_here_1 ?_
  refine lv_if_ne (pc := 4) (tgt := 35) hx hb dX7_here_4 (by decide) (fun hc => ?_) (fun hc => ?_)
  · replace hF := rp_if hc hF
    refine lv_iconst (pc := 35) (v := (-1)) hx hb dX7_here_35 (by decide) ?_
    exact rp_reti (pc := 36) hC hw hF dX7_here_36
  · replace hF := rp_it hc hF
    refine lv_aload_n (pc := 7) hx hb dX7_here_7 rfl (lv_at hl 0 rfl) ?_
    refine rp_get (pc := 8) hC hw 0 (by decide) (mt_obj _) fl_X7_89 (.int (σ 0 7)) rfl dX7_here_8 ?_
    refine lv_aload_n (pc := 11) hx hb dX7_here_11 rfl (lv_at hl 0 rfl) ?_
    refine rp_get (pc := 12) hC hw 0 (by decide) (mt_obj _) fl_X7_9 (.ref (a 1)) rfl dX7_here_12 ?_
    refine lv_iconst (pc := 15) (v := 3) hx hb dX7_here_15 (by decide) ?_
    obtain ⟨hg, hF⟩ := rp_gu_e hF
    refine rp_ald (pc := 16) hC hw 1 (by decide) (mt_arr 1 221 rfl) 0 rfl hg dX7_here_16 ?_
    refine lv_icmp_ge (pc := 17) (tgt := 35) hx hb dX7_here_17 (by decide) (fun hc => ?_) (fun hc => ?_)
    · replace hF := rp_it hc hF
      refine lv_iconst (pc := 35) (v := (-1)) hx hb dX7_here_35 (by decide) ?_
      exact rp_reti (pc := 36) hC hw hF dX7_here_36
    · replace hF := rp_if hc hF
      refine lv_aload_n (pc := 20) hx hb dX7_here_20 rfl (lv_at hl 0 rfl) ?_
      refine rp_get (pc := 21) hC hw 0 (by decide) (mt_obj _) fl_X7_9 (.ref (a 1)) rfl dX7_here_21 ?_
      refine lv_bipush (pc := 24) (v := 47) hx hb dX7_here_24 (by decide) ?_
      refine lv_aload_n (pc := 26) hx hb dX7_here_26 rfl (lv_at hl 0 rfl) ?_
      refine rp_get (pc := 27) hC hw 0 (by decide) (mt_obj _) fl_X7_89 (.int (σ 0 7)) rfl dX7_here_27 ?_
      refine lv_iadd (pc := 30) hx hb dX7_here_30 ?_
      obtain ⟨hg, hF⟩ := rp_gu_e hF
      refine rp_ald (pc := 31) hC hw 1 (by decide) (mt_arr 1 221 rfl) 0 rfl hg dX7_here_31 ?_
      refine lv_goto (pc := 32) (tgt := 36) hx hb dX7_here_32 (by decide) ?_
      exact rp_reti (pc := 36) hC hw hF dX7_here_36
theorem mX7_here {l : Launch} {D : va_G} {cI cT : ClassId} {ad av a : Nat → Nat}  (σ : rp_St) (res : Int32 × rp_St) (hF : fX7_here σ = some res) : mM l D cI cT ad av a yX7_here cX7_here 1 (some .int) 1 [.ref (a 0)] σ (rp_Qi D a (mt cI cT ad a) 15 res) :=
  rp_entry (by decide) (Nat.le_of_ble_eq_true rfl) (fun p e s m below meth c ls hC hw hl => kX7_here_0 hC σ _ _ _ hF hw (lv_sub hl [0] rfl))
def fX7_takes_28 (v2 : Int32) (t0 : Int32) (t1 : Int32) (σ : rp_St) : Option (Int32 × rp_St) :=
  rp_nm (rp_put σ 0 7 (t1 + t0)) (fun σ1 => rp_gu (v2 == 0 || v2 == 1) (some (v2, σ1)))
set_option maxRecDepth 100000 in
set_option maxHeartbeats 4000000 in
theorem kX7_takes_28 {p : Program} {l : Launch} {e : Env} {s : State} {m : MethodId} {args : Array Value} {below : List Frame} {meth : Method} {c : Code} {D : va_G} {cI cT : ClassId} {ad av a : Nat → Nat} {res : Int32 × rp_St} (hC : mC p s m args meth c cX7_takes 3 "RegretPegsModel" (some .boolean) D cI cT ad av a) (v2 : Int32) (t0 : Int32) (t1 : Int32) (σ : rp_St) (H : Heap) (locs : List Loc) (ls : Array Slot) (hF : fX7_takes_28 v2 t0 t1 σ = some res) (hw : mW D cI cT ad av a s σ H locs) (hl : lv_has ls 3 [(2, .int v2)]) : W p l e (rp_rm 2) s m args below meth c H locs 0 0 (MQ below (rp_Qi D a (mt cI cT ad a) 15 res) args s 0 0 (rp_A a 15)) (F0 m 28 ls [.int t0, .int t1, .ref (a 0)]) := by
  have hx := hC.1
  have hb := hC.2.1
  have hown := hC.2.2.2.1
  have hts := hC.2.2.2.2.1
  unfold fX7_takes_28 at hF
  refine lv_iadd (pc := 28) hx hb dX7_takes_28 ?_
  refine rp_set (pc := 29) (fs := mb_obj a) hC hw 0 (by decide) mt_obj fg_X7_89 rfl (Nat.le_of_ble_eq_true rfl) rfl rfl dX7_takes_29 (fun H locs hw => ?_)
  obtain ⟨σ1, eσ1, hF⟩ := rp_nm_e hF
  replace hw := rp_Wn eσ1 hw
  clear eσ1
  refine lv_iload_n (pc := 32) hx hb dX7_takes_32 rfl (lv_at hl 0 rfl) ?_
  obtain ⟨hg, hF⟩ := rp_gu_e hF
  exact rp_retz (pc := 33) hC hw hg hF dX7_takes_33
def fX7_takes_13 (t0 : Int32) (σ : rp_St) : Option (Int32 × rp_St) :=
  (if t0 = 0 then fX7_takes_28 t0 0 (σ 0 7) σ else fX7_takes_28 t0 1 (σ 0 7) σ)
set_option maxRecDepth 100000 in
set_option maxHeartbeats 4000000 in
theorem kX7_takes_13 {p : Program} {l : Launch} {e : Env} {s : State} {m : MethodId} {args : Array Value} {below : List Frame} {meth : Method} {c : Code} {D : va_G} {cI cT : ClassId} {ad av a : Nat → Nat} {res : Int32 × rp_St} (hC : mC p s m args meth c cX7_takes 3 "RegretPegsModel" (some .boolean) D cI cT ad av a) (t0 : Int32) (σ : rp_St) (H : Heap) (locs : List Loc) (ls : Array Slot) (hF : fX7_takes_13 t0 σ = some res) (hw : mW D cI cT ad av a s σ H locs) (hl : lv_has ls 3 [(0, .ref (a 0))]) : W p l e (rp_rm 2) s m args below meth c H locs 0 0 (MQ below (rp_Qi D a (mt cI cT ad a) 15 res) args s 0 0 (rp_A a 15)) (F0 m 13 ls [.int t0]) := by
  have hx := hC.1
  have hb := hC.2.1
  have hown := hC.2.2.2.1
  have hts := hC.2.2.2.2.1
  unfold fX7_takes_13 at hF
  refine lv_istore_n (pc := 13) (lv' := [(2, .int t0), (0, .ref (a 0))]) hx hb dX7_takes_13 rfl hl (by decide) rfl (fun ls hl => ?_)
  refine lv_aload_n (pc := 14) hx hb dX7_takes_14 rfl (lv_at hl 1 rfl) ?_
  refine lv_dup (pc := 15) hx hb dX7_takes_15 rfl ?_
  refine rp_get (pc := 16) hC hw 0 (by decide) (mt_obj _) fl_X7_89 (.int (σ 0 7)) rfl dX7_takes_16 ?_
  refine lv_iload_n (pc := 19) hx hb dX7_takes_19 rfl (lv_at hl 0 rfl) ?_
  refine lv_if_eq (pc := 20) (tgt := 27) hx hb dX7_takes_20 (by decide) (fun hc => ?_) (fun hc => ?_)
  · replace hF := rp_it hc hF
    refine lv_iconst (pc := 27) (v := 0) hx hb dX7_takes_27 (by decide) ?_
    exact kX7_takes_28 hC t0 0 (σ 0 7) σ _ _ _ hF hw (lv_sub hl [0] rfl)
  · replace hF := rp_if hc hF
    refine lv_iconst (pc := 23) (v := 1) hx hb dX7_takes_23 (by decide) ?_
    refine lv_goto (pc := 24) (tgt := 28) hx hb dX7_takes_24 (by decide) ?_
    exact kX7_takes_28 hC t0 1 (σ 0 7) σ _ _ _ hF hw (lv_sub hl [0] rfl)
def fX7_takes (v1 : Int32) (σ : rp_St) : Option (Int32 × rp_St) :=
  rp_bd (fX7_here σ) (fun r1 σ2 => (if r1 = v1 then fX7_takes_13 1 σ2 else fX7_takes_13 0 σ2))
set_option maxRecDepth 100000 in
set_option maxHeartbeats 4000000 in
theorem kX7_takes_0 {p : Program} {l : Launch} {e : Env} {s : State} {m : MethodId} {args : Array Value} {below : List Frame} {meth : Method} {c : Code} {D : va_G} {cI cT : ClassId} {ad av a : Nat → Nat} {res : Int32 × rp_St} (hC : mC p s m args meth c cX7_takes 3 "RegretPegsModel" (some .boolean) D cI cT ad av a) (v1 : Int32) (σ : rp_St) (H : Heap) (locs : List Loc) (ls : Array Slot) (hF : fX7_takes v1 σ = some res) (hw : mW D cI cT ad av a s σ H locs) (hl : lv_has ls 3 [(0, .ref (a 0)), (1, .int v1)]) : W p l e (rp_rm 2) s m args below meth c H locs 0 0 (MQ below (rp_Qi D a (mt cI cT ad a) 15 res) args s 0 0 (rp_A a 15)) (F0 m 0 ls []) := by
  have hx := hC.1
  have hb := hC.2.1
  have hown := hC.2.2.2.1
  have hts := hC.2.2.2.2.1
  unfold fX7_takes at hF
  refine lv_aload_n (pc := 0) hx hb dX7_takes_0 rfl (lv_at hl 0 rfl) ?_
  obtain ⟨r1, σ2, hq, hF⟩ := rp_bd_e hF
  refine rp_ki (rp_runV (rest := []) hC (mE_ok _) hw hl.1 (mX7_here (l := l) σ _ hq) vw_X7_93 (by decide) (mt_obj _) rfl rfl rfl (Nat.le_of_ble_eq_true rfl) (by decide) dX7_takes_1) hw (fun H locs hw => ?_)
  clear hq
  refine lv_iload_n (pc := 4) hx hb dX7_takes_4 rfl (lv_at hl 1 rfl) ?_
  refine lv_icmp_ne (pc := 5) (tgt := 12) hx hb dX7_takes_5 (by decide) (fun hc => ?_) (fun hc => ?_)
  · replace hF := rp_if hc hF
    refine lv_iconst (pc := 12) (v := 0) hx hb dX7_takes_12 (by decide) ?_
    exact kX7_takes_13 hC 0 σ2 _ _ _ hF hw (lv_sub hl [0] rfl)
  · replace hF := rp_it hc hF
    refine lv_iconst (pc := 8) (v := 1) hx hb dX7_takes_8 (by decide) ?_
    refine lv_goto (pc := 9) (tgt := 13) hx hb dX7_takes_9 (by decide) ?_
    exact kX7_takes_13 hC 1 σ2 _ _ _ hF hw (lv_sub hl [0] rfl)
theorem mX7_takes {l : Launch} {D : va_G} {cI cT : ClassId} {ad av a : Nat → Nat} (v1 : Int32) (σ : rp_St) (res : Int32 × rp_St) (hF : fX7_takes v1 σ = some res) : mM l D cI cT ad av a yX7_takes cX7_takes 3 (some .boolean) 2 [.ref (a 0), .int v1] σ (rp_Qi D a (mt cI cT ad a) 15 res) :=
  rp_entry (by decide) (Nat.le_of_ble_eq_true rfl) (fun p e s m below meth c ls hC hw hl => kX7_takes_0 hC v1 σ _ _ _ hF hw (lv_sub hl [0, 1] rfl))
def fX7_codes (v1 : Int32) (σ : rp_St) : Option (Int32 × rp_St) :=
  (if (σ 0 10) = 0 then rp_gu (rp_in (σ 0 12) 60) (rp_nm (rp_put σ 7 ((σ 0 12) : Int32).toNatClampNeg v1) (fun σ1 => rp_nm (rp_put σ1 0 12 ((σ1 0 12) + 1)) (fun σ2 => some (0, σ2)))) else some (0, σ))
set_option maxRecDepth 100000 in
set_option maxHeartbeats 4000000 in
theorem kX7_codes_0 {p : Program} {l : Launch} {e : Env} {s : State} {m : MethodId} {args : Array Value} {below : List Frame} {meth : Method} {c : Code} {D : va_G} {cI cT : ClassId} {ad av a : Nat → Nat} {res : Int32 × rp_St} (hC : mC p s m args meth c cX7_codes 2 "RegretPegsModel" none D cI cT ad av a) (v1 : Int32) (σ : rp_St) (H : Heap) (locs : List Loc) (ls : Array Slot) (hF : fX7_codes v1 σ = some res) (hw : mW D cI cT ad av a s σ H locs) (hl : lv_has ls 2 [(0, .ref (a 0)), (1, .int v1)]) : W p l e (rp_rm 1) s m args below meth c H locs 0 0 (MQ below (rp_Qv D a (mt cI cT ad a) 15 res) args s 0 0 (rp_A a 15)) (F0 m 0 ls []) := by
  have hx := hC.1
  have hb := hC.2.1
  have hown := hC.2.2.2.1
  have hts := hC.2.2.2.2.1
  unfold fX7_codes at hF
  refine lv_aload_n (pc := 0) hx hb dX7_codes_0 rfl (lv_at hl 0 rfl) ?_
  refine rp_get (pc := 1) hC hw 0 (by decide) (mt_obj _) fl_X7_85 (.int (σ 0 10)) rfl dX7_codes_1 ?_
  refine lv_if_ne (pc := 4) (tgt := 27) hx hb dX7_codes_4 (by decide) (fun hc => ?_) (fun hc => ?_)
  · replace hF := rp_if hc hF
    exact rp_retv (pc := 27) hC hw hF dX7_codes_27
  · replace hF := rp_it hc hF
    refine lv_aload_n (pc := 7) hx hb dX7_codes_7 rfl (lv_at hl 0 rfl) ?_
    refine rp_get (pc := 8) hC hw 0 (by decide) (mt_obj _) fl_X7_35 (.ref (a 7)) rfl dX7_codes_8 ?_
    refine lv_aload_n (pc := 11) hx hb dX7_codes_11 rfl (lv_at hl 0 rfl) ?_
    refine rp_get (pc := 12) hC hw 0 (by decide) (mt_obj _) fl_X7_97 (.int (σ 0 12)) rfl dX7_codes_12 ?_
    refine lv_iload_n (pc := 15) hx hb dX7_codes_15 rfl (lv_at hl 1 rfl) ?_
    obtain ⟨hg, hF⟩ := rp_gu_e hF
    refine rp_ast (pc := 16) hC hw 7 (by decide) (mt_arr 7 60 rfl) 0 rfl hg dX7_codes_16 (fun H locs hw => ?_)
    obtain ⟨σ1, eσ1, hF⟩ := rp_nm_e hF
    replace hw := rp_Wn eσ1 hw
    clear eσ1
    refine lv_aload_n (pc := 17) hx hb dX7_codes_17 rfl (lv_at hl 0 rfl) ?_
    refine lv_dup (pc := 18) hx hb dX7_codes_18 rfl ?_
    refine rp_get (pc := 19) hC hw 0 (by decide) (mt_obj _) fl_X7_97 (.int (σ1 0 12)) rfl dX7_codes_19 ?_
    refine lv_iconst (pc := 22) (v := 1) hx hb dX7_codes_22 (by decide) ?_
    refine lv_iadd (pc := 23) hx hb dX7_codes_23 ?_
    refine rp_set (pc := 24) (fs := mb_obj a) hC hw 0 (by decide) mt_obj fg_X7_97 rfl (Nat.le_of_ble_eq_true rfl) rfl rfl dX7_codes_24 (fun H locs hw => ?_)
    obtain ⟨σ2, eσ2, hF⟩ := rp_nm_e hF
    replace hw := rp_Wn eσ2 hw
    clear eσ2
    exact rp_retv (pc := 27) hC hw hF dX7_codes_27
theorem mX7_codes {l : Launch} {D : va_G} {cI cT : ClassId} {ad av a : Nat → Nat} (v1 : Int32) (σ : rp_St) (res : Int32 × rp_St) (hF : fX7_codes v1 σ = some res) : mM l D cI cT ad av a yX7_codes cX7_codes 2 none 1 [.ref (a 0), .int v1] σ (rp_Qv D a (mt cI cT ad a) 15 res) :=
  rp_entry (by decide) (Nat.le_of_ble_eq_true rfl) (fun p e s m below meth c ls hC hw hl => kX7_codes_0 hC v1 σ _ _ _ hF hw (lv_sub hl [0, 1] rfl))
def fX7_nameOf_42 (k4 : Int32 → Int32 → Int32 → rp_St → Option (Int32 × rp_St)) (v1 : Int32) (v3 : Int32) (t0 : Int32) (σ : rp_St) : Option (Int32 × rp_St) :=
  rp_nm (v3 + 1) (fun x1 => k4 v1 t0 x1 σ)
set_option maxRecDepth 100000 in
set_option maxHeartbeats 4000000 in
theorem kX7_nameOf_42 {p : Program} {l : Launch} {e : Env} {s : State} {m : MethodId} {args : Array Value} {below : List Frame} {meth : Method} {c : Code} {D : va_G} {cI cT : ClassId} {ad av a : Nat → Nat} {res : Int32 × rp_St} (hC : mC p s m args meth c cX7_nameOf 4 "RegretPegsModel" (some .int) D cI cT ad av a) (k4 : Int32 → Int32 → Int32 → rp_St → Option (Int32 × rp_St)) (hk4 : ∀ (v1 : Int32) (v2 : Int32) (v3 : Int32) (σ : rp_St) (H : Heap) (locs : List Loc) (ls : Array Slot), k4 v1 v2 v3 σ = some res → mW D cI cT ad av a s σ H locs → lv_has ls 4 [(0, .ref (a 0)), (1, .int v1), (2, .int v2), (3, .int v3)] → W p l e (rp_rm 5) s m args below meth c H locs 0 0 (MQ below (rp_Qi D a (mt cI cT ad a) 15 res) args s 0 0 (rp_A a 15)) (F0 m 4 ls [])) (v1 : Int32) (v3 : Int32) (t0 : Int32) (σ : rp_St) (H : Heap) (locs : List Loc) (ls : Array Slot) (hF : fX7_nameOf_42 k4 v1 v3 t0 σ = some res) (hw : mW D cI cT ad av a s σ H locs) (hl : lv_has ls 4 [(0, .ref (a 0)), (1, .int v1), (3, .int v3)]) : W p l e (rp_rm 5) s m args below meth c H locs 0 0 (MQ below (rp_Qi D a (mt cI cT ad a) 15 res) args s 0 0 (rp_A a 15)) (F0 m 42 ls [.int t0]) := by
  have hx := hC.1
  have hb := hC.2.1
  have hown := hC.2.2.2.1
  have hts := hC.2.2.2.2.1
  unfold fX7_nameOf_42 at hF
  refine lv_istore_n (pc := 42) (lv' := [(2, .int t0), (0, .ref (a 0)), (1, .int v1), (3, .int v3)]) hx hb dX7_nameOf_42 rfl hl (by decide) rfl (fun ls hl => ?_)
  obtain ⟨x1, ex1, hF⟩ := rp_nm_e hF
  refine lv_iinc (pc := 43) (v := x1) (lv' := [(3, .int x1), (2, .int t0), (0, .ref (a 0)), (1, .int v1)]) hx hb dX7_nameOf_43 hl (k := 3) rfl (by rw [ex1]; rfl) (by decide) rfl (fun ls hl => ?_)
  refine lv_goto (pc := 46) (tgt := 4) hx hb dX7_nameOf_46 (by decide) ?_
  exact hk4 v1 t0 x1 σ _ _ _ hF hw (lv_sub hl [2, 3, 1, 0] rfl)
def fX7_nameOf_4 (k4 : Int32 → Int32 → Int32 → rp_St → Option (Int32 × rp_St)) (v1 : Int32) (v2 : Int32) (v3 : Int32) (σ : rp_St) : Option (Int32 × rp_St) :=
  rp_gu (rp_in (σ 0 9) 2) (rp_nm ((σ 0 9) : Int32).toNatClampNeg (fun w1 => (if 3 ≤ v3 then some (v2, σ) else rp_gu (rp_in (σ 0 9) 2) (rp_nm ((σ 0 9) : Int32).toNatClampNeg (fun w2 => rp_gu (rp_in v3 3) ((if (sCh w2 (v3 : Int32).toNatClampNeg) = v1 then fX7_nameOf_42 k4 v1 v3 v3 σ else fX7_nameOf_42 k4 v1 v3 v2 σ)))))))
set_option maxRecDepth 100000 in
set_option maxHeartbeats 4000000 in
theorem kX7_nameOf_4 {p : Program} {l : Launch} {e : Env} {s : State} {m : MethodId} {args : Array Value} {below : List Frame} {meth : Method} {c : Code} {D : va_G} {cI cT : ClassId} {ad av a : Nat → Nat} {res : Int32 × rp_St} (hC : mC p s m args meth c cX7_nameOf 4 "RegretPegsModel" (some .int) D cI cT ad av a) (k4 : Int32 → Int32 → Int32 → rp_St → Option (Int32 × rp_St)) (hk4 : ∀ (v1 : Int32) (v2 : Int32) (v3 : Int32) (σ : rp_St) (H : Heap) (locs : List Loc) (ls : Array Slot), k4 v1 v2 v3 σ = some res → mW D cI cT ad av a s σ H locs → lv_has ls 4 [(0, .ref (a 0)), (1, .int v1), (2, .int v2), (3, .int v3)] → W p l e (rp_rm 5) s m args below meth c H locs 0 0 (MQ below (rp_Qi D a (mt cI cT ad a) 15 res) args s 0 0 (rp_A a 15)) (F0 m 4 ls [])) (v1 : Int32) (v2 : Int32) (v3 : Int32) (σ : rp_St) (H : Heap) (locs : List Loc) (ls : Array Slot) (hF : fX7_nameOf_4 k4 v1 v2 v3 σ = some res) (hw : mW D cI cT ad av a s σ H locs) (hl : lv_has ls 4 [(0, .ref (a 0)), (1, .int v1), (2, .int v2), (3, .int v3)]) : W p l e (rp_rm 5) s m args below meth c H locs 0 0 (MQ below (rp_Qi D a (mt cI cT ad a) 15 res) args s 0 0 (rp_A a 15)) (F0 m 4 ls []) := by
  have hx := hC.1
  have hb := hC.2.1
  have hown := hC.2.2.2.1
  have hts := hC.2.2.2.2.1
  unfold fX7_nameOf_4 at hF
  refine lv_iload_n (pc := 4) hx hb dX7_nameOf_4 rfl (lv_at hl 3 rfl) ?_
  refine lv_aload_n (pc := 5) hx hb dX7_nameOf_5 rfl (lv_at hl 0 rfl) ?_
  refine rp_get (pc := 6) hC hw 0 (by decide) (mt_obj _) fl_X7_31 (.ref (a 6)) rfl dX7_nameOf_6 ?_
  refine lv_aload_n (pc := 9) hx hb dX7_nameOf_9 rfl (lv_at hl 0 rfl) ?_
  refine rp_get (pc := 10) hC hw 0 (by decide) (mt_obj _) fl_X7_123 (.int (σ 0 9)) rfl dX7_nameOf_10 ?_
  obtain ⟨hg, hF⟩ := rp_gu_e hF
  have hww1 := rp_in_lt hg
  refine rp_aald (pc := 13) hC hw 6 (by decide) mt_named 1 rfl hg dX7_nameOf_13 ?_
  obtain ⟨w1, ew1, hF⟩ := rp_nm_e hF
  rw [← ew1] at hww1
  refine W.eq (g2 := F0 m 14 ls [.ref (ad w1), .int v3]) (by rw [ew1]; rfl) ?_
  refine rp_ki (rp_runW (rest := [.int v3]) hC (mE_ok _) hw hl.1 (mJ_length w1 hww1 σ) vJ_length (vk_recv hC.2.2.2.2.2.2.2.2.2.1 hww1 hw.2) rfl rfl (Nat.le_of_ble_eq_true rfl) (by decide) dX7_nameOf_14) hw (fun H locs hw => ?_)
  refine lv_icmp_ge (pc := 17) (tgt := 49) hx hb dX7_nameOf_17 (by decide) (fun hc => ?_) (fun hc => ?_)
  · replace hF := rp_it hc hF
    refine lv_iload_n (pc := 49) hx hb dX7_nameOf_49 rfl (lv_at hl 2 rfl) ?_
    exact rp_reti (pc := 50) hC hw hF dX7_nameOf_50
  · replace hF := rp_if hc hF
    refine lv_aload_n (pc := 20) hx hb dX7_nameOf_20 rfl (lv_at hl 0 rfl) ?_
    refine rp_get (pc := 21) hC hw 0 (by decide) (mt_obj _) fl_X7_31 (.ref (a 6)) rfl dX7_nameOf_21 ?_
    refine lv_aload_n (pc := 24) hx hb dX7_nameOf_24 rfl (lv_at hl 0 rfl) ?_
    refine rp_get (pc := 25) hC hw 0 (by decide) (mt_obj _) fl_X7_123 (.int (σ 0 9)) rfl dX7_nameOf_25 ?_
    obtain ⟨hg, hF⟩ := rp_gu_e hF
    have hww2 := rp_in_lt hg
    refine rp_aald (pc := 28) hC hw 6 (by decide) mt_named 1 rfl hg dX7_nameOf_28 ?_
    obtain ⟨w2, ew2, hF⟩ := rp_nm_e hF
    rw [← ew2] at hww2
    refine W.eq (g2 := F0 m 29 ls [.ref (ad w2)]) (by rw [ew2]; rfl) ?_
    refine lv_iload_n (pc := 29) hx hb dX7_nameOf_29 rfl (lv_at hl 3 rfl) ?_
    obtain ⟨hg, hF⟩ := rp_gu_e hF
    refine rp_ki (rp_runW (rest := []) hC (mE_ok _) hw hl.1 (mJ_charAt w2 hww2 v3 hg σ) vJ_charAt (vk_recv hC.2.2.2.2.2.2.2.2.2.1 hww2 hw.2) rfl rfl (Nat.le_of_ble_eq_true rfl) (by decide) dX7_nameOf_30) hw (fun H locs hw => ?_)
    refine lv_iload_n (pc := 33) hx hb dX7_nameOf_33 rfl (lv_at hl 1 rfl) ?_
    refine lv_icmp_ne (pc := 34) (tgt := 41) hx hb dX7_nameOf_34 (by decide) (fun hc => ?_) (fun hc => ?_)
    · replace hF := rp_if hc hF
      refine lv_iload_n (pc := 41) hx hb dX7_nameOf_41 rfl (lv_at hl 2 rfl) ?_
      exact kX7_nameOf_42 hC k4 hk4 v1 v3 v2 σ _ _ _ hF hw (lv_sub hl [0, 1, 3] rfl)
    · replace hF := rp_it hc hF
      refine lv_iload_n (pc := 37) hx hb dX7_nameOf_37 rfl (lv_at hl 3 rfl) ?_
      refine lv_goto (pc := 38) (tgt := 42) hx hb dX7_nameOf_38 (by decide) ?_
      exact kX7_nameOf_42 hC k4 hk4 v1 v3 v3 σ _ _ _ hF hw (lv_sub hl [0, 1, 3] rfl)
theorem lX7_nameOf_4 {p : Program} {l : Launch} {e : Env} {s : State} {m : MethodId} {args : Array Value} {below : List Frame} {meth : Method} {c : Code} {D : va_G} {cI cT : ClassId} {ad av a : Nat → Nat} {res : Int32 × rp_St} (hC : mC p s m args meth c cX7_nameOf 4 "RegretPegsModel" (some .int) D cI cT ad av a) : ∀ (n : Nat) (v1 : Int32) (v2 : Int32) (v3 : Int32) (σ : rp_St) (H : Heap) (locs : List Loc) (ls : Array Slot), rp_lp (fun _ _ _ _ => none) (fX7_nameOf_4) n v1 v2 v3 σ = some res → mW D cI cT ad av a s σ H locs → lv_has ls 4 [(0, .ref (a 0)), (1, .int v1), (2, .int v2), (3, .int v3)] → W p l e (rp_rm 5) s m args below meth c H locs 0 0 (MQ below (rp_Qi D a (mt cI cT ad a) 15 res) args s 0 0 (rp_A a 15)) (F0 m 4 ls [])
  | 0, _, _, _, _, _, _, _, hF, _, _ => nomatch hF
  | n + 1, v1, v2, v3, σ, H, locs, ls, hF, hw, hl => kX7_nameOf_4 hC (rp_lp (fun _ _ _ _ => none) (fX7_nameOf_4) n) (lX7_nameOf_4 hC n) v1 v2 v3 σ H locs ls hF hw hl
def fX7_nameOf (v1 : Int32) (σ : rp_St) : Option (Int32 × rp_St) :=
  rp_lp (fun _ _ _ _ => none) (fX7_nameOf_4) 300 v1 (-1) 0 σ
set_option maxRecDepth 100000 in
set_option maxHeartbeats 4000000 in
theorem kX7_nameOf_0 {p : Program} {l : Launch} {e : Env} {s : State} {m : MethodId} {args : Array Value} {below : List Frame} {meth : Method} {c : Code} {D : va_G} {cI cT : ClassId} {ad av a : Nat → Nat} {res : Int32 × rp_St} (hC : mC p s m args meth c cX7_nameOf 4 "RegretPegsModel" (some .int) D cI cT ad av a) (v1 : Int32) (σ : rp_St) (H : Heap) (locs : List Loc) (ls : Array Slot) (hF : fX7_nameOf v1 σ = some res) (hw : mW D cI cT ad av a s σ H locs) (hl : lv_has ls 4 [(0, .ref (a 0)), (1, .int v1)]) : W p l e (rp_rm 5) s m args below meth c H locs 0 0 (MQ below (rp_Qi D a (mt cI cT ad a) 15 res) args s 0 0 (rp_A a 15)) (F0 m 0 ls []) := by
  have hx := hC.1
  have hb := hC.2.1
  have hown := hC.2.2.2.1
  have hts := hC.2.2.2.2.1
  unfold fX7_nameOf at hF
  refine lv_iconst (pc := 0) (v := (-1)) hx hb dX7_nameOf_0 (by decide) ?_
  refine lv_istore_n (pc := 1) (lv' := [(2, .int (-1)), (0, .ref (a 0)), (1, .int v1)]) hx hb dX7_nameOf_1 rfl hl (by decide) rfl (fun ls hl => ?_)
  refine lv_iconst (pc := 2) (v := 0) hx hb dX7_nameOf_2 (by decide) ?_
  refine lv_istore_n (pc := 3) (lv' := [(3, .int 0), (2, .int (-1)), (0, .ref (a 0)), (1, .int v1)]) hx hb dX7_nameOf_3 rfl hl (by decide) rfl (fun ls hl => ?_)
  exact lX7_nameOf_4 hC 300 v1 (-1) 0 σ _ _ _ hF hw (lv_sub hl [2, 3, 1, 0] rfl)
theorem mX7_nameOf {l : Launch} {D : va_G} {cI cT : ClassId} {ad av a : Nat → Nat} (v1 : Int32) (σ : rp_St) (res : Int32 × rp_St) (hF : fX7_nameOf v1 σ = some res) : mM l D cI cT ad av a yX7_nameOf cX7_nameOf 4 (some .int) 5 [.ref (a 0), .int v1] σ (rp_Qi D a (mt cI cT ad a) 15 res) :=
  rp_entry (by decide) (Nat.le_of_ble_eq_true rfl) (fun p e s m below meth c ls hC hw hl => kX7_nameOf_0 hC v1 σ _ _ _ hF hw (lv_sub hl [0, 1] rfl))
