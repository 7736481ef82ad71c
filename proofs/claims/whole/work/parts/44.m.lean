def fX7_hour_176 (k103 : Int32 → rp_St → Option (Int32 × rp_St)) (v1 : Int32) (σ : rp_St) : Option (Int32 × rp_St) :=
  rp_nm (v1 + 1) (fun x1 => k103 x1 σ)
set_option maxRecDepth 100000 in
set_option maxHeartbeats 4000000 in
theorem kX7_hour_176 {p : Program} {l : Launch} {e : Env} {s : State} {m : MethodId} {args : Array Value} {below : List Frame} {meth : Method} {c : Code} {D : va_G} {cI cT : ClassId} {ad av a : Nat → Nat} {res : Int32 × rp_St} (hC : mC p s m args meth c cX7_hour 4 "RegretPegsModel" none D cI cT ad av a) (k103 : Int32 → rp_St → Option (Int32 × rp_St)) (hk103 : ∀ (v1 : Int32) (σ : rp_St) (H : Heap) (locs : List Loc) (ls : Array Slot), k103 v1 σ = some res → mW D cI cT ad av a s σ H locs → lv_has ls 4 [(0, .ref (a 0)), (1, .int v1)] → W p l e (rp_rm 5) s m args below meth c H locs 0 0 (MQ below (rp_Qv D a (mt cI cT ad a) 15 res) args s 0 0 (rp_A a 15)) (F0 m 103 ls [])) (v1 : Int32) (σ : rp_St) (H : Heap) (locs : List Loc) (ls : Array Slot) (hF : fX7_hour_176 k103 v1 σ = some res) (hw : mW D cI cT ad av a s σ H locs) (hl : lv_has ls 4 [(0, .ref (a 0)), (1, .int v1)]) : W p l e (rp_rm 5) s m args below meth c H locs 0 0 (MQ below (rp_Qv D a (mt cI cT ad a) 15 res) args s 0 0 (rp_A a 15)) (F0 m 176 ls []) := by
  have hx := hC.1
  have hb := hC.2.1
  have hown := hC.2.2.2.1
  have hts := hC.2.2.2.2.1
  unfold fX7_hour_176 at hF
  obtain ⟨x1, ex1, hF⟩ := rp_nm_e hF
  refine lv_iinc (pc := 176) (v := x1) (lv' := [(1, .int x1), (0, .ref (a 0))]) hx hb dX7_hour_176 hl (k := 1) rfl (by rw [ex1]; rfl) (by decide) rfl (fun ls hl => ?_)
  refine lv_goto (pc := 179) (tgt := 103) hx hb dX7_hour_179 (by decide) ?_
  exact hk103 x1 σ _ _ _ hF hw (lv_sub hl [1, 0] rfl)
def fX7_hour_103 (k103 : Int32 → rp_St → Option (Int32 × rp_St)) (v1 : Int32) (σ : rp_St) : Option (Int32 × rp_St) :=
  rp_gu (rp_in 1 221) ((if (σ 1 (1 : Int32).toNatClampNeg) ≤ (v1 + 1) then rp_gu (rp_in 0 221) (rp_gu (rp_in 0 221) (rp_nm (rp_put σ 1 (0 : Int32).toNatClampNeg ((σ 1 (0 : Int32).toNatClampNeg) + 1)) (fun σ1 => some (0, σ1)))) else rp_gu (rp_in (5 + v1) 221) (rp_nm (σ 1 ((5 + v1) : Int32).toNatClampNeg) (fun x2 => rp_bd (fX7_isWrongAt v1 σ) (fun r3 σ4 => (if r3 = 0 then fX7_hour_176 k103 v1 σ4 else rp_bd (fX7_rue x2 σ4) (fun r5 σ6 => rp_gu (rp_in ((5 + v1) + 1) 221) (rp_bd (fX7_rue (σ6 1 (((5 + v1) + 1) : Int32).toNatClampNeg) σ6) (fun r7 σ8 => rp_bd (fX7_guestIs x2 1 σ8) (fun r9 σ10 => rp_bd (fX7_given 1 (r5 - r7) r9 v1 σ10) (fun r11 σ12 => (if r11 = 0 then fX7_hour_176 k103 v1 σ12 else rp_bd (fX7_hangs v1 (v1 + 1) σ12) (fun r13 σ14 => fX7_hour_176 k103 v1 σ14)))))))))))))
set_option maxRecDepth 100000 in
set_option maxHeartbeats 4000000 in
theorem kX7_hour_103 {p : Program} {l : Launch} {e : Env} {s : State} {m : MethodId} {args : Array Value} {below : List Frame} {meth : Method} {c : Code} {D : va_G} {cI cT : ClassId} {ad av a : Nat → Nat} {res : Int32 × rp_St} (hC : mC p s m args meth c cX7_hour 4 "RegretPegsModel" none D cI cT ad av a) (k103 : Int32 → rp_St → Option (Int32 × rp_St)) (hk103 : ∀ (v1 : Int32) (σ : rp_St) (H : Heap) (locs : List Loc) (ls : Array Slot), k103 v1 σ = some res → mW D cI cT ad av a s σ H locs → lv_has ls 4 [(0, .ref (a 0)), (1, .int v1)] → W p l e (rp_rm 5) s m args below meth c H locs 0 0 (MQ below (rp_Qv D a (mt cI cT ad a) 15 res) args s 0 0 (rp_A a 15)) (F0 m 103 ls [])) (v1 : Int32) (σ : rp_St) (H : Heap) (locs : List Loc) (ls : Array Slot) (hF : fX7_hour_103 k103 v1 σ = some res) (hw : mW D cI cT ad av a s σ H locs) (hl : lv_has ls 4 [(0, .ref (a 0)), (1, .int v1)]) : W p l e (rp_rm 5) s m args below meth c H locs 0 0 (MQ below (rp_Qv D a (mt cI cT ad a) 15 res) args s 0 0 (rp_A a 15)) (F0 m 103 ls []) := by
  have hx := hC.1
  have hb := hC.2.1
  have hown := hC.2.2.2.1
  have hts := hC.2.2.2.2.1
  unfold fX7_hour_103 at hF
  refine lv_iload_n (pc := 103) hx hb dX7_hour_103 rfl (lv_at hl 1 rfl) ?_
  refine lv_iconst (pc := 104) (v := 1) hx hb dX7_hour_104 (by decide) ?_
  refine lv_iadd (pc := 105) hx hb dX7_hour_105 ?_
  refine lv_aload_n (pc := 106) hx hb dX7_hour_106 rfl (lv_at hl 0 rfl) ?_
  refine rp_get (pc := 107) hC hw 0 (by decide) (mt_obj _) fl_X7_9 (.ref (a 1)) rfl dX7_hour_107 ?_
  refine lv_iconst (pc := 110) (v := 1) hx hb dX7_hour_110 (by decide) ?_
  obtain ⟨hg, hF⟩ := rp_gu_e hF
  refine rp_ald (pc := 111) hC hw 1 (by decide) (mt_arr 1 221 rfl) 0 rfl hg dX7_hour_111 ?_
  refine lv_icmp_ge (pc := 112) (tgt := 182) hx hb dX7_hour_112 (by decide) (fun hc => ?_) (fun hc => ?_)
  · replace hF := rp_it hc hF
    refine lv_aload_n (pc := 182) hx hb dX7_hour_182 rfl (lv_at hl 0 rfl) ?_
    refine rp_get (pc := 183) hC hw 0 (by decide) (mt_obj _) fl_X7_9 (.ref (a 1)) rfl dX7_hour_183 ?_
    refine lv_iconst (pc := 186) (v := 0) hx hb dX7_hour_186 (by decide) ?_
    refine lv_dup2_11 (pc := 187) hx hb dX7_hour_187 rfl rfl ?_
    obtain ⟨hg, hF⟩ := rp_gu_e hF
    refine rp_ald (pc := 188) hC hw 1 (by decide) (mt_arr 1 221 rfl) 0 rfl hg dX7_hour_188 ?_
    refine lv_iconst (pc := 189) (v := 1) hx hb dX7_hour_189 (by decide) ?_
    refine lv_iadd (pc := 190) hx hb dX7_hour_190 ?_
    obtain ⟨hg, hF⟩ := rp_gu_e hF
    refine rp_ast (pc := 191) hC hw 1 (by decide) (mt_arr 1 221 rfl) 0 rfl hg dX7_hour_191 (fun H locs hw => ?_)
    obtain ⟨σ1, eσ1, hF⟩ := rp_nm_e hF
    replace hw := rp_Wn eσ1 hw
    clear eσ1
    exact rp_retv (pc := 192) hC hw hF dX7_hour_192
  · replace hF := rp_if hc hF
    refine lv_aload_n (pc := 115) hx hb dX7_hour_115 rfl (lv_at hl 0 rfl) ?_
    refine rp_get (pc := 116) hC hw 0 (by decide) (mt_obj _) fl_X7_9 (.ref (a 1)) rfl dX7_hour_116 ?_
    refine lv_iconst (pc := 119) (v := 5) hx hb dX7_hour_119 (by decide) ?_
    refine lv_iload_n (pc := 120) hx hb dX7_hour_120 rfl (lv_at hl 1 rfl) ?_
    refine lv_iadd (pc := 121) hx hb dX7_hour_121 ?_
    obtain ⟨hg, hF⟩ := rp_gu_e hF
    refine rp_ald (pc := 122) hC hw 1 (by decide) (mt_arr 1 221 rfl) 0 rfl hg dX7_hour_122 ?_
    obtain ⟨x2, ex2, hF⟩ := rp_nm_e hF
    refine rp_top ex2 ?_
    refine lv_istore_n (pc := 123) (lv' := [(2, .int x2), (0, .ref (a 0)), (1, .int v1)]) hx hb dX7_hour_123 rfl hl (by decide) rfl (fun ls hl => ?_)
    refine lv_aload_n (pc := 124) hx hb dX7_hour_124 rfl (lv_at hl 1 rfl) ?_
    refine lv_iload_n (pc := 125) hx hb dX7_hour_125 rfl (lv_at hl 2 rfl) ?_
    obtain ⟨r3, σ4, hq, hF⟩ := rp_bd_e hF
    refine rp_ki (rp_runV (rest := []) hC (mE_ok _) hw hl.1 (mX7_isWrongAt (l := l) v1 σ _ hq) vw_X7_211 (by decide) (mt_obj _) rfl rfl rfl (Nat.le_of_ble_eq_true rfl) (by decide) dX7_hour_126) hw (fun H locs hw => ?_)
    clear hq
    refine lv_if_eq (pc := 129) (tgt := 176) hx hb dX7_hour_129 (by decide) (fun hc => ?_) (fun hc => ?_)
    · replace hF := rp_it hc hF
      exact kX7_hour_176 hC k103 hk103 v1 σ4 _ _ _ hF hw (lv_sub hl [1, 2] rfl)
    · replace hF := rp_if hc hF
      refine lv_aload_n (pc := 132) hx hb dX7_hour_132 rfl (lv_at hl 1 rfl) ?_
      refine lv_iconst (pc := 133) (v := 1) hx hb dX7_hour_133 (by decide) ?_
      refine lv_aload_n (pc := 134) hx hb dX7_hour_134 rfl (lv_at hl 1 rfl) ?_
      refine lv_iload_n (pc := 135) hx hb dX7_hour_135 rfl (lv_at hl 0 rfl) ?_
      obtain ⟨r5, σ6, hq, hF⟩ := rp_bd_e hF
      refine rp_ki (rp_runV (rest := [.int 1, .ref (a 0)]) hC (mE_ok _) hw hl.1 (mX7_rue (l := l) x2 σ4 _ hq) vw_X7_197 (by decide) (mt_obj _) rfl rfl rfl (Nat.le_of_ble_eq_true rfl) (by decide) dX7_hour_136) hw (fun H locs hw => ?_)
      clear hq
      refine lv_aload_n (pc := 139) hx hb dX7_hour_139 rfl (lv_at hl 1 rfl) ?_
      refine lv_aload_n (pc := 140) hx hb dX7_hour_140 rfl (lv_at hl 1 rfl) ?_
      refine rp_get (pc := 141) hC hw 0 (by decide) (mt_obj _) fl_X7_9 (.ref (a 1)) rfl dX7_hour_141 ?_
      refine lv_iconst (pc := 144) (v := 5) hx hb dX7_hour_144 (by decide) ?_
      refine lv_iload_n (pc := 145) hx hb dX7_hour_145 rfl (lv_at hl 2 rfl) ?_
      refine lv_iadd (pc := 146) hx hb dX7_hour_146 ?_
      refine lv_iconst (pc := 147) (v := 1) hx hb dX7_hour_147 (by decide) ?_
      refine lv_iadd (pc := 148) hx hb dX7_hour_148 ?_
      obtain ⟨hg, hF⟩ := rp_gu_e hF
      refine rp_ald (pc := 149) hC hw 1 (by decide) (mt_arr 1 221 rfl) 0 rfl hg dX7_hour_149 ?_
      obtain ⟨r7, σ8, hq, hF⟩ := rp_bd_e hF
      refine rp_ki (rp_runV (rest := [.int r5, .int 1, .ref (a 0)]) hC (mE_ok _) hw hl.1 (mX7_rue (l := l) (σ6 1 (((5 + v1) + 1) : Int32).toNatClampNeg) σ6 _ hq) vw_X7_197 (by decide) (mt_obj _) rfl rfl rfl (Nat.le_of_ble_eq_true rfl) (by decide) dX7_hour_150) hw (fun H locs hw => ?_)
      clear hq
      refine lv_isub (pc := 153) hx hb dX7_hour_153 ?_
      refine lv_aload_n (pc := 154) hx hb dX7_hour_154 rfl (lv_at hl 1 rfl) ?_
      refine lv_iload_n (pc := 155) hx hb dX7_hour_155 rfl (lv_at hl 0 rfl) ?_
      refine lv_iconst (pc := 156) (v := 1) hx hb dX7_hour_156 (by decide) ?_
      obtain ⟨r9, σ10, hq, hF⟩ := rp_bd_e hF
      refine rp_ki (rp_runV (rest := [.int (r5 - r7), .int 1, .ref (a 0)]) hC (mE_ok _) hw hl.1 (mX7_guestIs (l := l) x2 1 σ8 _ hq) vw_X7_165 (by decide) (mt_obj _) rfl rfl rfl (Nat.le_of_ble_eq_true rfl) (by decide) dX7_hour_157) hw (fun H locs hw => ?_)
      clear hq
      refine lv_iload_n (pc := 160) hx hb dX7_hour_160 rfl (lv_at hl 2 rfl) ?_
      obtain ⟨r11, σ12, hq, hF⟩ := rp_bd_e hF
      refine rp_ki (rp_runV (rest := []) hC (mE_ok _) hw hl.1 (mX7_given (l := l) 1 (r5 - r7) r9 v1 σ10 _ hq) vw_X7_155 (by decide) (mt_obj _) rfl rfl rfl (Nat.le_of_ble_eq_true rfl) (by decide) dX7_hour_161) hw (fun H locs hw => ?_)
      clear hq
      refine lv_if_eq (pc := 164) (tgt := 176) hx hb dX7_hour_164 (by decide) (fun hc => ?_) (fun hc => ?_)
      · replace hF := rp_it hc hF
        exact kX7_hour_176 hC k103 hk103 v1 σ12 _ _ _ hF hw (lv_sub hl [1, 2] rfl)
      · replace hF := rp_if hc hF
        refine lv_aload_n (pc := 167) hx hb dX7_hour_167 rfl (lv_at hl 1 rfl) ?_
        refine lv_iload_n (pc := 168) hx hb dX7_hour_168 rfl (lv_at hl 2 rfl) ?_
        refine lv_iload_n (pc := 169) hx hb dX7_hour_169 rfl (lv_at hl 2 rfl) ?_
        refine lv_iconst (pc := 170) (v := 1) hx hb dX7_hour_170 (by decide) ?_
        refine lv_iadd (pc := 171) hx hb dX7_hour_171 ?_
        obtain ⟨r13, σ14, hq, hF⟩ := rp_bd_e hF
        refine rp_ki (rp_runV (rest := []) hC (mE_ok _) hw hl.1 (mX7_hangs (l := l) v1 (v1 + 1) σ12 _ hq) vw_X7_189 (by decide) (mt_obj _) rfl rfl rfl (Nat.le_of_ble_eq_true rfl) (by decide) dX7_hour_172) hw (fun H locs hw => ?_)
        clear hq
        refine lv_istore_n (pc := 175) (lv' := [(3, .int r13), (2, .int x2), (0, .ref (a 0)), (1, .int v1)]) hx hb dX7_hour_175 rfl hl (by decide) rfl (fun ls hl => ?_)
        exact kX7_hour_176 hC k103 hk103 v1 σ14 _ _ _ hF hw (lv_sub hl [2, 3] rfl)
theorem lX7_hour_103 {p : Program} {l : Launch} {e : Env} {s : State} {m : MethodId} {args : Array Value} {below : List Frame} {meth : Method} {c : Code} {D : va_G} {cI cT : ClassId} {ad av a : Nat → Nat} {res : Int32 × rp_St} (hC : mC p s m args meth c cX7_hour 4 "RegretPegsModel" none D cI cT ad av a) : ∀ (n : Nat) (v1 : Int32) (σ : rp_St) (H : Heap) (locs : List Loc) (ls : Array Slot), rp_lp (fun _ _ => none) (fX7_hour_103) n v1 σ = some res → mW D cI cT ad av a s σ H locs → lv_has ls 4 [(0, .ref (a 0)), (1, .int v1)] → W p l e (rp_rm 5) s m args below meth c H locs 0 0 (MQ below (rp_Qv D a (mt cI cT ad a) 15 res) args s 0 0 (rp_A a 15)) (F0 m 103 ls [])
  | 0, _, _, _, _, _, hF, _, _ => nomatch hF
  | n + 1, v1, σ, H, locs, ls, hF, hw, hl => kX7_hour_103 hC (rp_lp (fun _ _ => none) (fX7_hour_103) n) (lX7_hour_103 hC n) v1 σ H locs ls hF hw hl
def fX7_hour_45 (k45 : Int32 → rp_St → Option (Int32 × rp_St)) (v1 : Int32) (σ : rp_St) : Option (Int32 × rp_St) :=
  rp_gu (rp_in 1 221) ((if (σ 1 (1 : Int32).toNatClampNeg) ≤ v1 then rp_lp (fun _ _ => none) (fX7_hour_103) 300 0 σ else rp_bd (fX7_guestAt v1 2 σ) (fun r1 σ2 => rp_bd (fX7_rue v1 σ2) (fun r3 σ4 => rp_gu (rp_in v1 7) (rp_bd (fX7_held (r3 + (σ4 5 (v1 : Int32).toNatClampNeg)) 0 999 σ4) (fun r5 σ6 => rp_gu (rp_in r1 221) (rp_nm (rp_put σ6 1 (r1 : Int32).toNatClampNeg r5) (fun σ7 => rp_bd (fX7_guestAt v1 4 σ7) (fun r8 σ9 => rp_gu (rp_in r8 221) (rp_nm (rp_put σ9 1 (r8 : Int32).toNatClampNeg 1) (fun σ10 => rp_nm (v1 + 1) (fun x11 => k45 x11 σ10))))))))))))
set_option maxRecDepth 100000 in
set_option maxHeartbeats 4000000 in
theorem kX7_hour_45 {p : Program} {l : Launch} {e : Env} {s : State} {m : MethodId} {args : Array Value} {below : List Frame} {meth : Method} {c : Code} {D : va_G} {cI cT : ClassId} {ad av a : Nat → Nat} {res : Int32 × rp_St} (hC : mC p s m args meth c cX7_hour 4 "RegretPegsModel" none D cI cT ad av a) (k45 : Int32 → rp_St → Option (Int32 × rp_St)) (hk45 : ∀ (v1 : Int32) (σ : rp_St) (H : Heap) (locs : List Loc) (ls : Array Slot), k45 v1 σ = some res → mW D cI cT ad av a s σ H locs → lv_has ls 4 [(0, .ref (a 0)), (1, .int v1)] → W p l e (rp_rm 5) s m args below meth c H locs 0 0 (MQ below (rp_Qv D a (mt cI cT ad a) 15 res) args s 0 0 (rp_A a 15)) (F0 m 45 ls [])) (v1 : Int32) (σ : rp_St) (H : Heap) (locs : List Loc) (ls : Array Slot) (hF : fX7_hour_45 k45 v1 σ = some res) (hw : mW D cI cT ad av a s σ H locs) (hl : lv_has ls 4 [(0, .ref (a 0)), (1, .int v1)]) : W p l e (rp_rm 5) s m args below meth c H locs 0 0 (MQ below (rp_Qv D a (mt cI cT ad a) 15 res) args s 0 0 (rp_A a 15)) (F0 m 45 ls []) := by
  have hx := hC.1
  have hb := hC.2.1
  have hown := hC.2.2.2.1
  have hts := hC.2.2.2.2.1
  unfold fX7_hour_45 at hF
  refine lv_iload_n (pc := 45) hx hb dX7_hour_45 rfl (lv_at hl 1 rfl) ?_
  refine lv_aload_n (pc := 46) hx hb dX7_hour_46 rfl (lv_at hl 0 rfl) ?_
  refine rp_get (pc := 47) hC hw 0 (by decide) (mt_obj _) fl_X7_9 (.ref (a 1)) rfl dX7_hour_47 ?_
  refine lv_iconst (pc := 50) (v := 1) hx hb dX7_hour_50 (by decide) ?_
  obtain ⟨hg, hF⟩ := rp_gu_e hF
  refine rp_ald (pc := 51) hC hw 1 (by decide) (mt_arr 1 221 rfl) 0 rfl hg dX7_hour_51 ?_
  refine lv_icmp_ge (pc := 52) (tgt := 101) hx hb dX7_hour_52 (by decide) (fun hc => ?_) (fun hc => ?_)
  · replace hF := rp_it hc hF
    refine lv_iconst (pc := 101) (v := 0) hx hb dX7_hour_101 (by decide) ?_
    refine lv_istore_n (pc := 102) (lv' := [(1, .int 0), (0, .ref (a 0))]) hx hb dX7_hour_102 rfl hl (by decide) rfl (fun ls hl => ?_)
    exact lX7_hour_103 hC 300 0 σ _ _ _ hF hw (lv_sub hl [1, 0] rfl)
  · replace hF := rp_if hc hF
    refine lv_aload_n (pc := 55) hx hb dX7_hour_55 rfl (lv_at hl 0 rfl) ?_
    refine rp_get (pc := 56) hC hw 0 (by decide) (mt_obj _) fl_X7_9 (.ref (a 1)) rfl dX7_hour_56 ?_
    refine lv_iload_n (pc := 59) hx hb dX7_hour_59 rfl (lv_at hl 1 rfl) ?_
    refine lv_iconst (pc := 60) (v := 2) hx hb dX7_hour_60 (by decide) ?_
    obtain ⟨r1, σ2, hq, hF⟩ := rp_bd_e hF
    refine rp_ki (rp_runZ (rest := [.ref (a 1)]) hC (mE_ok _) hw hl.1 (mX7_guestAt (l := l) v1 2 σ _ hq) zw_X7_162 rfl rfl (Nat.le_of_ble_eq_true rfl) (by decide) dX7_hour_61) hw (fun H locs hw => ?_)
    clear hq
    refine lv_aload_n (pc := 64) hx hb dX7_hour_64 rfl (lv_at hl 0 rfl) ?_
    refine lv_iload_n (pc := 65) hx hb dX7_hour_65 rfl (lv_at hl 1 rfl) ?_
    obtain ⟨r3, σ4, hq, hF⟩ := rp_bd_e hF
    refine rp_ki (rp_runV (rest := [.int r1, .ref (a 1)]) hC (mE_ok _) hw hl.1 (mX7_rue (l := l) v1 σ2 _ hq) vw_X7_197 (by decide) (mt_obj _) rfl rfl rfl (Nat.le_of_ble_eq_true rfl) (by decide) dX7_hour_66) hw (fun H locs hw => ?_)
    clear hq
    refine lv_aload_n (pc := 69) hx hb dX7_hour_69 rfl (lv_at hl 0 rfl) ?_
    refine rp_get (pc := 70) hC hw 0 (by decide) (mt_obj _) fl_X7_22 (.ref (a 5)) rfl dX7_hour_70 ?_
    refine lv_iload_n (pc := 73) hx hb dX7_hour_73 rfl (lv_at hl 1 rfl) ?_
    obtain ⟨hg, hF⟩ := rp_gu_e hF
    refine rp_ald (pc := 74) hC hw 5 (by decide) (mt_arr 5 7 rfl) 0 rfl hg dX7_hour_74 ?_
    refine lv_iadd (pc := 75) hx hb dX7_hour_75 ?_
    refine lv_iconst (pc := 76) (v := 0) hx hb dX7_hour_76 (by decide) ?_
    refine lv_sipush (pc := 77) (v := 999) hx hb dX7_hour_77 (by decide) ?_
    obtain ⟨r5, σ6, hq, hF⟩ := rp_bd_e hF
    refine rp_ki (rp_runZ (rest := [.int r1, .ref (a 1)]) hC (mE_ok _) hw hl.1 (mX7_held (l := l) (r3 + (σ4 5 (v1 : Int32).toNatClampNeg)) 0 999 σ4 _ hq) zw_X7_152 rfl rfl (Nat.le_of_ble_eq_true rfl) (by decide) dX7_hour_80) hw (fun H locs hw => ?_)
    clear hq
    obtain ⟨hg, hF⟩ := rp_gu_e hF
    refine rp_ast (pc := 83) hC hw 1 (by decide) (mt_arr 1 221 rfl) 0 rfl hg dX7_hour_83 (fun H locs hw => ?_)
    obtain ⟨σ7, eσ7, hF⟩ := rp_nm_e hF
    replace hw := rp_Wn eσ7 hw
    clear eσ7
    refine lv_aload_n (pc := 84) hx hb dX7_hour_84 rfl (lv_at hl 0 rfl) ?_
    refine rp_get (pc := 85) hC hw 0 (by decide) (mt_obj _) fl_X7_9 (.ref (a 1)) rfl dX7_hour_85 ?_
    refine lv_iload_n (pc := 88) hx hb dX7_hour_88 rfl (lv_at hl 1 rfl) ?_
    refine lv_iconst (pc := 89) (v := 4) hx hb dX7_hour_89 (by decide) ?_
    obtain ⟨r8, σ9, hq, hF⟩ := rp_bd_e hF
    refine rp_ki (rp_runZ (rest := [.ref (a 1)]) hC (mE_ok _) hw hl.1 (mX7_guestAt (l := l) v1 4 σ7 _ hq) zw_X7_162 rfl rfl (Nat.le_of_ble_eq_true rfl) (by decide) dX7_hour_90) hw (fun H locs hw => ?_)
    clear hq
    refine lv_iconst (pc := 93) (v := 1) hx hb dX7_hour_93 (by decide) ?_
    obtain ⟨hg, hF⟩ := rp_gu_e hF
    refine rp_ast (pc := 94) hC hw 1 (by decide) (mt_arr 1 221 rfl) 0 rfl hg dX7_hour_94 (fun H locs hw => ?_)
    obtain ⟨σ10, eσ10, hF⟩ := rp_nm_e hF
    replace hw := rp_Wn eσ10 hw
    clear eσ10
    obtain ⟨x11, ex11, hF⟩ := rp_nm_e hF
    refine lv_iinc (pc := 95) (v := x11) (lv' := [(1, .int x11), (0, .ref (a 0))]) hx hb dX7_hour_95 hl (k := 1) rfl (by rw [ex11]; rfl) (by decide) rfl (fun ls hl => ?_)
    refine lv_goto (pc := 98) (tgt := 45) hx hb dX7_hour_98 (by decide) ?_
    exact hk45 x11 σ10 _ _ _ hF hw (lv_sub hl [1, 0] rfl)
theorem lX7_hour_45 {p : Program} {l : Launch} {e : Env} {s : State} {m : MethodId} {args : Array Value} {below : List Frame} {meth : Method} {c : Code} {D : va_G} {cI cT : ClassId} {ad av a : Nat → Nat} {res : Int32 × rp_St} (hC : mC p s m args meth c cX7_hour 4 "RegretPegsModel" none D cI cT ad av a) : ∀ (n : Nat) (v1 : Int32) (σ : rp_St) (H : Heap) (locs : List Loc) (ls : Array Slot), rp_lp (fun _ _ => none) (fX7_hour_45) n v1 σ = some res → mW D cI cT ad av a s σ H locs → lv_has ls 4 [(0, .ref (a 0)), (1, .int v1)] → W p l e (rp_rm 5) s m args below meth c H locs 0 0 (MQ below (rp_Qv D a (mt cI cT ad a) 15 res) args s 0 0 (rp_A a 15)) (F0 m 45 ls [])
  | 0, _, _, _, _, _, hF, _, _ => nomatch hF
  | n + 1, v1, σ, H, locs, ls, hF, hw, hl => kX7_hour_45 hC (rp_lp (fun _ _ => none) (fX7_hour_45) n) (lX7_hour_45 hC n) v1 σ H locs ls hF hw hl
def fX7_hour_36 (k2 : Int32 → rp_St → Option (Int32 × rp_St)) (v1 : Int32) (t0 : Int32) (t1 : Int32) (σ : rp_St) : Option (Int32 × rp_St) :=
  rp_gu (rp_in t1 7) (rp_nm (rp_put σ 5 (t1 : Int32).toNatClampNeg t0) (fun σ1 => rp_nm (v1 + 1) (fun x2 => k2 x2 σ1)))
set_option maxRecDepth 100000 in
set_option maxHeartbeats 4000000 in
theorem kX7_hour_36 {p : Program} {l : Launch} {e : Env} {s : State} {m : MethodId} {args : Array Value} {below : List Frame} {meth : Method} {c : Code} {D : va_G} {cI cT : ClassId} {ad av a : Nat → Nat} {res : Int32 × rp_St} (hC : mC p s m args meth c cX7_hour 4 "RegretPegsModel" none D cI cT ad av a) (k2 : Int32 → rp_St → Option (Int32 × rp_St)) (hk2 : ∀ (v1 : Int32) (σ : rp_St) (H : Heap) (locs : List Loc) (ls : Array Slot), k2 v1 σ = some res → mW D cI cT ad av a s σ H locs → lv_has ls 4 [(0, .ref (a 0)), (1, .int v1)] → W p l e (rp_rm 5) s m args below meth c H locs 0 0 (MQ below (rp_Qv D a (mt cI cT ad a) 15 res) args s 0 0 (rp_A a 15)) (F0 m 2 ls [])) (v1 : Int32) (t0 : Int32) (t1 : Int32) (σ : rp_St) (H : Heap) (locs : List Loc) (ls : Array Slot) (hF : fX7_hour_36 k2 v1 t0 t1 σ = some res) (hw : mW D cI cT ad av a s σ H locs) (hl : lv_has ls 4 [(0, .ref (a 0)), (1, .int v1)]) : W p l e (rp_rm 5) s m args below meth c H locs 0 0 (MQ below (rp_Qv D a (mt cI cT ad a) 15 res) args s 0 0 (rp_A a 15)) (F0 m 36 ls [.int t0, .int t1, .ref (a 5)]) := by
  have hx := hC.1
  have hb := hC.2.1
  have hown := hC.2.2.2.1
  have hts := hC.2.2.2.2.1
  unfold fX7_hour_36 at hF
  obtain ⟨hg, hF⟩ := rp_gu_e hF
  refine rp_ast (pc := 36) hC hw 5 (by decide) (mt_arr 5 7 rfl) 0 rfl hg dX7_hour_36 (fun H locs hw => ?_)
  obtain ⟨σ1, eσ1, hF⟩ := rp_nm_e hF
  replace hw := rp_Wn eσ1 hw
  clear eσ1
  obtain ⟨x2, ex2, hF⟩ := rp_nm_e hF
  refine lv_iinc (pc := 37) (v := x2) (lv' := [(1, .int x2), (0, .ref (a 0))]) hx hb dX7_hour_37 hl (k := 1) rfl (by rw [ex2]; rfl) (by decide) rfl (fun ls hl => ?_)
  refine lv_goto (pc := 40) (tgt := 2) hx hb dX7_hour_40 (by decide) ?_
  exact hk2 x2 σ1 _ _ _ hF hw (lv_sub hl [1, 0] rfl)
def fX7_hour_2 (k2 : Int32 → rp_St → Option (Int32 × rp_St)) (v1 : Int32) (σ : rp_St) : Option (Int32 × rp_St) :=
  rp_gu (rp_in 1 221) ((if (σ 1 (1 : Int32).toNatClampNeg) ≤ v1 then rp_lp (fun _ _ => none) (fX7_hour_45) 300 0 σ else rp_bd (fX7_guestIs v1 4 σ) (fun r1 σ2 => (if r1 = 1 then rp_bd (fX7_growsNow v1 σ2) (fun r3 σ4 => fX7_hour_36 k2 v1 r3 v1 σ4) else fX7_hour_36 k2 v1 0 v1 σ2))))
set_option maxRecDepth 100000 in
set_option maxHeartbeats 4000000 in
theorem kX7_hour_2 {p : Program} {l : Launch} {e : Env} {s : State} {m : MethodId} {args : Array Value} {below : List Frame} {meth : Method} {c : Code} {D : va_G} {cI cT : ClassId} {ad av a : Nat → Nat} {res : Int32 × rp_St} (hC : mC p s m args meth c cX7_hour 4 "RegretPegsModel" none D cI cT ad av a) (k2 : Int32 → rp_St → Option (Int32 × rp_St)) (hk2 : ∀ (v1 : Int32) (σ : rp_St) (H : Heap) (locs : List Loc) (ls : Array Slot), k2 v1 σ = some res → mW D cI cT ad av a s σ H locs → lv_has ls 4 [(0, .ref (a 0)), (1, .int v1)] → W p l e (rp_rm 5) s m args below meth c H locs 0 0 (MQ below (rp_Qv D a (mt cI cT ad a) 15 res) args s 0 0 (rp_A a 15)) (F0 m 2 ls [])) (v1 : Int32) (σ : rp_St) (H : Heap) (locs : List Loc) (ls : Array Slot) (hF : fX7_hour_2 k2 v1 σ = some res) (hw : mW D cI cT ad av a s σ H locs) (hl : lv_has ls 4 [(0, .ref (a 0)), (1, .int v1)]) : W p l e (rp_rm 5) s m args below meth c H locs 0 0 (MQ below (rp_Qv D a (mt cI cT ad a) 15 res) args s 0 0 (rp_A a 15)) (F0 m 2 ls []) := by
  have hx := hC.1
  have hb := hC.2.1
  have hown := hC.2.2.2.1
  have hts := hC.2.2.2.2.1
  unfold fX7_hour_2 at hF
  refine lv_iload_n (pc := 2) hx hb dX7_hour_2 rfl (lv_at hl 1 rfl) ?_
  refine lv_aload_n (pc := 3) hx hb dX7_hour_3 rfl (lv_at hl 0 rfl) ?_
  refine rp_get (pc := 4) hC hw 0 (by decide) (mt_obj _) fl_X7_9 (.ref (a 1)) rfl dX7_hour_4 ?_
  refine lv_iconst (pc := 7) (v := 1) hx hb dX7_hour_7 (by decide) ?_
  obtain ⟨hg, hF⟩ := rp_gu_e hF
  refine rp_ald (pc := 8) hC hw 1 (by decide) (mt_arr 1 221 rfl) 0 rfl hg dX7_hour_8 ?_
  refine lv_icmp_ge (pc := 9) (tgt := 43) hx hb dX7_hour_9 (by decide) (fun hc => ?_) (fun hc => ?_)
  · replace hF := rp_it hc hF
    refine lv_iconst (pc := 43) (v := 0) hx hb dX7_hour_43 (by decide) ?_
    refine lv_istore_n (pc := 44) (lv' := [(1, .int 0), (0, .ref (a 0))]) hx hb dX7_hour_44 rfl hl (by decide) rfl (fun ls hl => ?_)
    exact lX7_hour_45 hC 300 0 σ _ _ _ hF hw (lv_sub hl [1, 0] rfl)
  · replace hF := rp_if hc hF
    refine lv_aload_n (pc := 12) hx hb dX7_hour_12 rfl (lv_at hl 0 rfl) ?_
    refine rp_get (pc := 13) hC hw 0 (by decide) (mt_obj _) fl_X7_22 (.ref (a 5)) rfl dX7_hour_13 ?_
    refine lv_iload_n (pc := 16) hx hb dX7_hour_16 rfl (lv_at hl 1 rfl) ?_
    refine lv_aload_n (pc := 17) hx hb dX7_hour_17 rfl (lv_at hl 0 rfl) ?_
    refine lv_iload_n (pc := 18) hx hb dX7_hour_18 rfl (lv_at hl 1 rfl) ?_
    refine lv_iconst (pc := 19) (v := 4) hx hb dX7_hour_19 (by decide) ?_
    obtain ⟨r1, σ2, hq, hF⟩ := rp_bd_e hF
    refine rp_ki (rp_runV (rest := [.int v1, .ref (a 5)]) hC (mE_ok _) hw hl.1 (mX7_guestIs (l := l) v1 4 σ _ hq) vw_X7_165 (by decide) (mt_obj _) rfl rfl rfl (Nat.le_of_ble_eq_true rfl) (by decide) dX7_hour_20) hw (fun H locs hw => ?_)
    clear hq
    refine lv_iconst (pc := 23) (v := 1) hx hb dX7_hour_23 (by decide) ?_
    refine lv_icmp_ne (pc := 24) (tgt := 35) hx hb dX7_hour_24 (by decide) (fun hc => ?_) (fun hc => ?_)
    · replace hF := rp_if hc hF
      refine lv_iconst (pc := 35) (v := 0) hx hb dX7_hour_35 (by decide) ?_
      exact kX7_hour_36 hC k2 hk2 v1 0 v1 σ2 _ _ _ hF hw (lv_sub hl [0, 1] rfl)
    · replace hF := rp_it hc hF
      refine lv_aload_n (pc := 27) hx hb dX7_hour_27 rfl (lv_at hl 0 rfl) ?_
      refine lv_iload_n (pc := 28) hx hb dX7_hour_28 rfl (lv_at hl 1 rfl) ?_
      obtain ⟨r3, σ4, hq, hF⟩ := rp_bd_e hF
      refine rp_ki (rp_runV (rest := [.int v1, .ref (a 5)]) hC (mE_ok _) hw hl.1 (mX7_growsNow (l := l) v1 σ2 _ hq) vw_X7_183 (by decide) (mt_obj _) rfl rfl rfl (Nat.le_of_ble_eq_true rfl) (by decide) dX7_hour_29) hw (fun H locs hw => ?_)
      clear hq
      refine lv_goto (pc := 32) (tgt := 36) hx hb dX7_hour_32 (by decide) ?_
      exact kX7_hour_36 hC k2 hk2 v1 r3 v1 σ4 _ _ _ hF hw (lv_sub hl [0, 1] rfl)
theorem lX7_hour_2 {p : Program} {l : Launch} {e : Env} {s : State} {m : MethodId} {args : Array Value} {below : List Frame} {meth : Method} {c : Code} {D : va_G} {cI cT : ClassId} {ad av a : Nat → Nat} {res : Int32 × rp_St} (hC : mC p s m args meth c cX7_hour 4 "RegretPegsModel" none D cI cT ad av a) : ∀ (n : Nat) (v1 : Int32) (σ : rp_St) (H : Heap) (locs : List Loc) (ls : Array Slot), rp_lp (fun _ _ => none) (fX7_hour_2) n v1 σ = some res → mW D cI cT ad av a s σ H locs → lv_has ls 4 [(0, .ref (a 0)), (1, .int v1)] → W p l e (rp_rm 5) s m args below meth c H locs 0 0 (MQ below (rp_Qv D a (mt cI cT ad a) 15 res) args s 0 0 (rp_A a 15)) (F0 m 2 ls [])
  | 0, _, _, _, _, _, hF, _, _ => nomatch hF
  | n + 1, v1, σ, H, locs, ls, hF, hw, hl => kX7_hour_2 hC (rp_lp (fun _ _ => none) (fX7_hour_2) n) (lX7_hour_2 hC n) v1 σ H locs ls hF hw hl
def fX7_hour (σ : rp_St) : Option (Int32 × rp_St) :=
  rp_lp (fun _ _ => none) (fX7_hour_2) 300 0 σ
set_option maxRecDepth 100000 in
set_option maxHeartbeats 4000000 in
theorem kX7_hour_0 {p : Program} {l : Launch} {e : Env} {s : State} {m : MethodId} {args : Array Value} {below : List Frame} {meth : Method} {c : Code} {D : va_G} {cI cT : ClassId} {ad av a : Nat → Nat} {res : Int32 × rp_St} (hC : mC p s m args meth c cX7_hour 4 "RegretPegsModel" none D cI cT ad av a) (σ : rp_St) (H : Heap) (locs : List Loc) (ls : Array Slot) (hF : fX7_hour σ = some res) (hw : mW D cI cT ad av a s σ H locs) (hl : lv_has ls 4 [(0, .ref (a 0))]) : W p l e (rp_rm 5) s m args below meth c H locs 0 0 (MQ below (rp_Qv D a (mt cI cT ad a) 15 res) args s 0 0 (rp_A a 15)) (F0 m 0 ls []) := by
  have hx := hC.1
  have hb := hC.2.1
  have hown := hC.2.2.2.1
  have hts := hC.2.2.2.2.1
  unfold fX7_hour at hF
  refine lv_iconst (pc := 0) (v := 0) hx hb dX7_hour_0 (by decide) ?_
  refine lv_istore_n (pc := 1) (lv' := [(1, .int 0), (0, .ref (a 0))]) hx hb dX7_hour_1 rfl hl (by decide) rfl (fun ls hl => ?_)
  exact lX7_hour_2 hC 300 0 σ _ _ _ hF hw (lv_sub hl [1, 0] rfl)
theorem mX7_hour {l : Launch} {D : va_G} {cI cT : ClassId} {ad av a : Nat → Nat}  (σ : rp_St) (res : Int32 × rp_St) (hF : fX7_hour σ = some res) : mM l D cI cT ad av a yX7_hour cX7_hour 4 none 5 [.ref (a 0)] σ (rp_Qv D a (mt cI cT ad a) 15 res) :=
  rp_entry (by decide) (Nat.le_of_ble_eq_true rfl) (fun p e s m below meth c ls hC hw hl => kX7_hour_0 hC σ _ _ _ hF hw (lv_sub hl [0] rfl))
def fX7_hoursGo_2 (k2 : Int32 → Int32 → rp_St → Option (Int32 × rp_St)) (v1 : Int32) (v2 : Int32) (σ : rp_St) : Option (Int32 × rp_St) :=
  (if v1 ≤ v2 then some (0, σ) else rp_bd (fX7_hour σ) (fun _ σ2 => rp_nm (v2 + 1) (fun x3 => k2 v1 x3 σ2)))
set_option maxRecDepth 100000 in
set_option maxHeartbeats 4000000 in
theorem kX7_hoursGo_2 {p : Program} {l : Launch} {e : Env} {s : State} {m : MethodId} {args : Array Value} {below : List Frame} {meth : Method} {c : Code} {D : va_G} {cI cT : ClassId} {ad av a : Nat → Nat} {res : Int32 × rp_St} (hC : mC p s m args meth c cX7_hoursGo 3 "RegretPegsModel" none D cI cT ad av a) (k2 : Int32 → Int32 → rp_St → Option (Int32 × rp_St)) (hk2 : ∀ (v1 : Int32) (v2 : Int32) (σ : rp_St) (H : Heap) (locs : List Loc) (ls : Array Slot), k2 v1 v2 σ = some res → mW D cI cT ad av a s σ H locs → lv_has ls 3 [(0, .ref (a 0)), (1, .int v1), (2, .int v2)] → W p l e (rp_rm 6) s m args below meth c H locs 0 0 (MQ below (rp_Qv D a (mt cI cT ad a) 15 res) args s 0 0 (rp_A a 15)) (F0 m 2 ls [])) (v1 : Int32) (v2 : Int32) (σ : rp_St) (H : Heap) (locs : List Loc) (ls : Array Slot) (hF : fX7_hoursGo_2 k2 v1 v2 σ = some res) (hw : mW D cI cT ad av a s σ H locs) (hl : lv_has ls 3 [(0, .ref (a 0)), (1, .int v1), (2, .int v2)]) : W p l e (rp_rm 6) s m args below meth c H locs 0 0 (MQ below (rp_Qv D a (mt cI cT ad a) 15 res) args s 0 0 (rp_A a 15)) (F0 m 2 ls []) := by
  have hx := hC.1
  have hb := hC.2.1
  have hown := hC.2.2.2.1
  have hts := hC.2.2.2.2.1
  unfold fX7_hoursGo_2 at hF
  refine lv_iload_n (pc := 2) hx hb dX7_hoursGo_2 rfl (lv_at hl 2 rfl) ?_
  refine lv_iload_n (pc := 3) hx hb dX7_hoursGo_3 rfl (lv_at hl 1 rfl) ?_
  refine lv_icmp_ge (pc := 4) (tgt := 17) hx hb dX7_hoursGo_4 (by decide) (fun hc => ?_) (fun hc => ?_)
  · replace hF := rp_it hc hF
    exact rp_retv (pc := 17) hC hw hF dX7_hoursGo_17
  · replace hF := rp_if hc hF
    refine lv_aload_n (pc := 7) hx hb dX7_hoursGo_7 rfl (lv_at hl 0 rfl) ?_
    obtain ⟨r1, σ2, hq, hF⟩ := rp_bd_e hF
    refine rp_kv (rp_runV (rest := []) hC (mE_ok _) hw hl.1 (mX7_hour (l := l) σ _ hq) vw_X7_214 (by decide) (mt_obj _) rfl rfl rfl (Nat.le_of_ble_eq_true rfl) (by decide) dX7_hoursGo_8) hw (fun H locs hw => ?_)
    clear hq
    obtain ⟨x3, ex3, hF⟩ := rp_nm_e hF
    refine lv_iinc (pc := 11) (v := x3) (lv' := [(2, .int x3), (0, .ref (a 0)), (1, .int v1)]) hx hb dX7_hoursGo_11 hl (k := 2) rfl (by rw [ex3]; rfl) (by decide) rfl (fun ls hl => ?_)
    refine lv_goto (pc := 14) (tgt := 2) hx hb dX7_hoursGo_14 (by decide) ?_
    exact hk2 v1 x3 σ2 _ _ _ hF hw (lv_sub hl [1, 2, 0] rfl)
theorem lX7_hoursGo_2 {p : Program} {l : Launch} {e : Env} {s : State} {m : MethodId} {args : Array Value} {below : List Frame} {meth : Method} {c : Code} {D : va_G} {cI cT : ClassId} {ad av a : Nat → Nat} {res : Int32 × rp_St} (hC : mC p s m args meth c cX7_hoursGo 3 "RegretPegsModel" none D cI cT ad av a) : ∀ (n : Nat) (v1 : Int32) (v2 : Int32) (σ : rp_St) (H : Heap) (locs : List Loc) (ls : Array Slot), rp_lp (fun _ _ _ => none) (fX7_hoursGo_2) n v1 v2 σ = some res → mW D cI cT ad av a s σ H locs → lv_has ls 3 [(0, .ref (a 0)), (1, .int v1), (2, .int v2)] → W p l e (rp_rm 6) s m args below meth c H locs 0 0 (MQ below (rp_Qv D a (mt cI cT ad a) 15 res) args s 0 0 (rp_A a 15)) (F0 m 2 ls [])
  | 0, _, _, _, _, _, _, hF, _, _ => nomatch hF
  | n + 1, v1, v2, σ, H, locs, ls, hF, hw, hl => kX7_hoursGo_2 hC (rp_lp (fun _ _ _ => none) (fX7_hoursGo_2) n) (lX7_hoursGo_2 hC n) v1 v2 σ H locs ls hF hw hl
def fX7_hoursGo (v1 : Int32) (σ : rp_St) : Option (Int32 × rp_St) :=
  rp_lp (fun _ _ _ => none) (fX7_hoursGo_2) 300 v1 0 σ
set_option maxRecDepth 100000 in
set_option maxHeartbeats 4000000 in
theorem kX7_hoursGo_0 {p : Program} {l : Launch} {e : Env} {s : State} {m : MethodId} {args : Array Value} {below : List Frame} {meth : Method} {c : Code} {D : va_G} {cI cT : ClassId} {ad av a : Nat → Nat} {res : Int32 × rp_St} (hC : mC p s m args meth c cX7_hoursGo 3 "RegretPegsModel" none D cI cT ad av a) (v1 : Int32) (σ : rp_St) (H : Heap) (locs : List Loc) (ls : Array Slot) (hF : fX7_hoursGo v1 σ = some res) (hw : mW D cI cT ad av a s σ H locs) (hl : lv_has ls 3 [(0, .ref (a 0)), (1, .int v1)]) : W p l e (rp_rm 6) s m args below meth c H locs 0 0 (MQ below (rp_Qv D a (mt cI cT ad a) 15 res) args s 0 0 (rp_A a 15)) (F0 m 0 ls []) := by
  have hx := hC.1
  have hb := hC.2.1
  have hown := hC.2.2.2.1
  have hts := hC.2.2.2.2.1
  unfold fX7_hoursGo at hF
  refine lv_iconst (pc := 0) (v := 0) hx hb dX7_hoursGo_0 (by decide) ?_
  refine lv_istore_n (pc := 1) (lv' := [(2, .int 0), (0, .ref (a 0)), (1, .int v1)]) hx hb dX7_hoursGo_1 rfl hl (by decide) rfl (fun ls hl => ?_)
  exact lX7_hoursGo_2 hC 300 v1 0 σ _ _ _ hF hw (lv_sub hl [1, 2, 0] rfl)
theorem mX7_hoursGo {l : Launch} {D : va_G} {cI cT : ClassId} {ad av a : Nat → Nat} (v1 : Int32) (σ : rp_St) (res : Int32 × rp_St) (hF : fX7_hoursGo v1 σ = some res) : mM l D cI cT ad av a yX7_hoursGo cX7_hoursGo 3 none 6 [.ref (a 0), .int v1] σ (rp_Qv D a (mt cI cT ad a) 15 res) :=
  rp_entry (by decide) (Nat.le_of_ble_eq_true rfl) (fun p e s m below meth c ls hC hw hl => kX7_hoursGo_0 hC v1 σ _ _ _ hF hw (lv_sub hl [0, 1] rfl))
def fX7_sumOf_4 (k4 : Int32 → Int32 → Int32 → rp_St → Option (Int32 × rp_St)) (v1 : Int32) (v2 : Int32) (v3 : Int32) (σ : rp_St) : Option (Int32 × rp_St) :=
  rp_gu (rp_in 1 221) ((if (σ 1 (1 : Int32).toNatClampNeg) ≤ v3 then some (v2, σ) else rp_bd (fX7_guestIs v3 v1 σ) (fun r1 σ2 => rp_nm (v2 + r1) (fun x3 => rp_nm (v3 + 1) (fun x4 => k4 v1 x3 x4 σ2)))))
set_option maxRecDepth 100000 in
set_option maxHeartbeats 4000000 in
theorem kX7_sumOf_4 {p : Program} {l : Launch} {e : Env} {s : State} {m : MethodId} {args : Array Value} {below : List Frame} {meth : Method} {c : Code} {D : va_G} {cI cT : ClassId} {ad av a : Nat → Nat} {res : Int32 × rp_St} (hC : mC p s m args meth c cX7_sumOf 4 "RegretPegsModel" (some .int) D cI cT ad av a) (k4 : Int32 → Int32 → Int32 → rp_St → Option (Int32 × rp_St)) (hk4 : ∀ (v1 : Int32) (v2 : Int32) (v3 : Int32) (σ : rp_St) (H : Heap) (locs : List Loc) (ls : Array Slot), k4 v1 v2 v3 σ = some res → mW D cI cT ad av a s σ H locs → lv_has ls 4 [(0, .ref (a 0)), (1, .int v1), (2, .int v2), (3, .int v3)] → W p l e (rp_rm 3) s m args below meth c H locs 0 0 (MQ below (rp_Qi D a (mt cI cT ad a) 15 res) args s 0 0 (rp_A a 15)) (F0 m 4 ls [])) (v1 : Int32) (v2 : Int32) (v3 : Int32) (σ : rp_St) (H : Heap) (locs : List Loc) (ls : Array Slot) (hF : fX7_sumOf_4 k4 v1 v2 v3 σ = some res) (hw : mW D cI cT ad av a s σ H locs) (hl : lv_has ls 4 [(0, .ref (a 0)), (1, .int v1), (2, .int v2), (3, .int v3)]) : W p l e (rp_rm 3) s m args below meth c H locs 0 0 (MQ below (rp_Qi D a (mt cI cT ad a) 15 res) args s 0 0 (rp_A a 15)) (F0 m 4 ls []) := by
  have hx := hC.1
  have hb := hC.2.1
  have hown := hC.2.2.2.1
  have hts := hC.2.2.2.2.1
  unfold fX7_sumOf_4 at hF
  refine lv_iload_n (pc := 4) hx hb dX7_sumOf_4 rfl (lv_at hl 3 rfl) ?_
  refine lv_aload_n (pc := 5) hx hb dX7_sumOf_5 rfl (lv_at hl 0 rfl) ?_
  refine rp_get (pc := 6) hC hw 0 (by decide) (mt_obj _) fl_X7_9 (.ref (a 1)) rfl dX7_sumOf_6 ?_
  refine lv_iconst (pc := 9) (v := 1) hx hb dX7_sumOf_9 (by decide) ?_
  obtain ⟨hg, hF⟩ := rp_gu_e hF
  refine rp_ald (pc := 10) hC hw 1 (by decide) (mt_arr 1 221 rfl) 0 rfl hg dX7_sumOf_10 ?_
  refine lv_icmp_ge (pc := 11) (tgt := 29) hx hb dX7_sumOf_11 (by decide) (fun hc => ?_) (fun hc => ?_)
  · replace hF := rp_it hc hF
    refine lv_iload_n (pc := 29) hx hb dX7_sumOf_29 rfl (lv_at hl 2 rfl) ?_
    exact rp_reti (pc := 30) hC hw hF dX7_sumOf_30
  · replace hF := rp_if hc hF
    refine lv_iload_n (pc := 14) hx hb dX7_sumOf_14 rfl (lv_at hl 2 rfl) ?_
    refine lv_aload_n (pc := 15) hx hb dX7_sumOf_15 rfl (lv_at hl 0 rfl) ?_
    refine lv_iload_n (pc := 16) hx hb dX7_sumOf_16 rfl (lv_at hl 3 rfl) ?_
    refine lv_iload_n (pc := 17) hx hb dX7_sumOf_17 rfl (lv_at hl 1 rfl) ?_
    obtain ⟨r1, σ2, hq, hF⟩ := rp_bd_e hF
    refine rp_ki (rp_runV (rest := [.int v2]) hC (mE_ok _) hw hl.1 (mX7_guestIs (l := l) v3 v1 σ _ hq) vw_X7_165 (by decide) (mt_obj _) rfl rfl rfl (Nat.le_of_ble_eq_true rfl) (by decide) dX7_sumOf_18) hw (fun H locs hw => ?_)
    clear hq
    refine lv_iadd (pc := 21) hx hb dX7_sumOf_21 ?_
    obtain ⟨x3, ex3, hF⟩ := rp_nm_e hF
    refine rp_top ex3 ?_
    refine lv_istore_n (pc := 22) (lv' := [(2, .int x3), (0, .ref (a 0)), (1, .int v1), (3, .int v3)]) hx hb dX7_sumOf_22 rfl hl (by decide) rfl (fun ls hl => ?_)
    obtain ⟨x4, ex4, hF⟩ := rp_nm_e hF
    refine lv_iinc (pc := 23) (v := x4) (lv' := [(3, .int x4), (2, .int x3), (0, .ref (a 0)), (1, .int v1)]) hx hb dX7_sumOf_23 hl (k := 3) rfl (by rw [ex4]; rfl) (by decide) rfl (fun ls hl => ?_)
    refine lv_goto (pc := 26) (tgt := 4) hx hb dX7_sumOf_26 (by decide) ?_
    exact hk4 v1 x3 x4 σ2 _ _ _ hF hw (lv_sub hl [2, 3, 1, 0] rfl)
theorem lX7_sumOf_4 {p : Program} {l : Launch} {e : Env} {s : State} {m : MethodId} {args : Array Value} {below : List Frame} {meth : Method} {c : Code} {D : va_G} {cI cT : ClassId} {ad av a : Nat → Nat} {res : Int32 × rp_St} (hC : mC p s m args meth c cX7_sumOf 4 "RegretPegsModel" (some .int) D cI cT ad av a) : ∀ (n : Nat) (v1 : Int32) (v2 : Int32) (v3 : Int32) (σ : rp_St) (H : Heap) (locs : List Loc) (ls : Array Slot), rp_lp (fun _ _ _ _ => none) (fX7_sumOf_4) n v1 v2 v3 σ = some res → mW D cI cT ad av a s σ H locs → lv_has ls 4 [(0, .ref (a 0)), (1, .int v1), (2, .int v2), (3, .int v3)] → W p l e (rp_rm 3) s m args below meth c H locs 0 0 (MQ below (rp_Qi D a (mt cI cT ad a) 15 res) args s 0 0 (rp_A a 15)) (F0 m 4 ls [])
  | 0, _, _, _, _, _, _, _, hF, _, _ => nomatch hF
  | n + 1, v1, v2, v3, σ, H, locs, ls, hF, hw, hl => kX7_sumOf_4 hC (rp_lp (fun _ _ _ _ => none) (fX7_sumOf_4) n) (lX7_sumOf_4 hC n) v1 v2 v3 σ H locs ls hF hw hl
def fX7_sumOf (v1 : Int32) (σ : rp_St) : Option (Int32 × rp_St) :=
  rp_lp (fun _ _ _ _ => none) (fX7_sumOf_4) 300 v1 0 0 σ
set_option maxRecDepth 100000 in
set_option maxHeartbeats 4000000 in
theorem kX7_sumOf_0 {p : Program} {l : Launch} {e : Env} {s : State} {m : MethodId} {args : Array Value} {below : List Frame} {meth : Method} {c : Code} {D : va_G} {cI cT : ClassId} {ad av a : Nat → Nat} {res : Int32 × rp_St} (hC : mC p s m args meth c cX7_sumOf 4 "RegretPegsModel" (some .int) D cI cT ad av a) (v1 : Int32) (σ : rp_St) (H : Heap) (locs : List Loc) (ls : Array Slot) (hF : fX7_sumOf v1 σ = some res) (hw : mW D cI cT ad av a s σ H locs) (hl : lv_has ls 4 [(0, .ref (a 0)), (1, .int v1)]) : W p l e (rp_rm 3) s m args below meth c H locs 0 0 (MQ below (rp_Qi D a (mt cI cT ad a) 15 res) args s 0 0 (rp_A a 15)) (F0 m 0 ls []) := by
  have hx := hC.1
  have hb := hC.2.1
  have hown := hC.2.2.2.1
  have hts := hC.2.2.2.2.1
  unfold fX7_sumOf at hF
  refine lv_iconst (pc := 0) (v := 0) hx hb dX7_sumOf_0 (by decide) ?_
  refine lv_istore_n (pc := 1) (lv' := [(2, .int 0), (0, .ref (a 0)), (1, .int v1)]) hx hb dX7_sumOf_1 rfl hl (by decide) rfl (fun ls hl => ?_)
  refine lv_iconst (pc := 2) (v := 0) hx hb dX7_sumOf_2 (by decide) ?_
  refine lv_istore_n (pc := 3) (lv' := [(3, .int 0), (2, .int 0), (0, .ref (a 0)), (1, .int v1)]) hx hb dX7_sumOf_3 rfl hl (by decide) rfl (fun ls hl => ?_)
  exact lX7_sumOf_4 hC 300 v1 0 0 σ _ _ _ hF hw (lv_sub hl [2, 3, 1, 0] rfl)
theorem mX7_sumOf {l : Launch} {D : va_G} {cI cT : ClassId} {ad av a : Nat → Nat} (v1 : Int32) (σ : rp_St) (res : Int32 × rp_St) (hF : fX7_sumOf v1 σ = some res) : mM l D cI cT ad av a yX7_sumOf cX7_sumOf 4 (some .int) 3 [.ref (a 0), .int v1] σ (rp_Qi D a (mt cI cT ad a) 15 res) :=
  rp_entry (by decide) (Nat.le_of_ble_eq_true rfl) (fun p e s m below meth c ls hC hw hl => kX7_sumOf_0 hC v1 σ _ _ _ hF hw (lv_sub hl [0, 1] rfl))
def fX7_hours (v1 : Int32) (σ : rp_St) : Option (Int32 × rp_St) :=
  rp_bd (fX7_within v1 1 60 σ) (fun r1 σ2 => (if r1 = 0 then rp_bd (fX7_finding (-1000000001) σ2) (fun r9 σ10 => some (r9, σ10)) else rp_gu (rp_in 0 221) ((if ((σ2 1 (0 : Int32).toNatClampNeg) + v1) ≤ 9999 then rp_bd (fX7_hoursGo v1 σ2) (fun _ σ4 => rp_bd (fX7_sumOf 2 σ4) (fun r5 σ6 => some (r5, σ6))) else rp_bd (fX7_finding (-1000000003) σ2) (fun r7 σ8 => some (r7, σ8))))))
set_option maxRecDepth 100000 in
set_option maxHeartbeats 4000000 in
theorem kX7_hours_0 {p : Program} {l : Launch} {e : Env} {s : State} {m : MethodId} {args : Array Value} {below : List Frame} {meth : Method} {c : Code} {D : va_G} {cI cT : ClassId} {ad av a : Nat → Nat} {res : Int32 × rp_St} (hC : mC p s m args meth c cX7_hours 2 "RegretPegsModel" (some .int) D cI cT ad av a) (v1 : Int32) (σ : rp_St) (H : Heap) (locs : List Loc) (ls : Array Slot) (hF : fX7_hours v1 σ = some res) (hw : mW D cI cT ad av a s σ H locs) (hl : lv_has ls 2 [(0, .ref (a 0)), (1, .int v1)]) : W p l e (rp_rm 7) s m args below meth c H locs 0 0 (MQ below (rp_Qi D a (mt cI cT ad a) 15 res) args s 0 0 (rp_A a 15)) (F0 m 0 ls []) := by
  have hx := hC.1
  have hb := hC.2.1
  have hown := hC.2.2.2.1
  have hts := hC.2.2.2.2.1
  unfold fX7_hours at hF
  refine lv_iload_n (pc := 0) hx hb dX7_hours_0 rfl (lv_at hl 1 rfl) ?_
  refine lv_iconst (pc := 1) (v := 1) hx hb dX7_hours_1 (by decide) ?_
  refine lv_bipush (pc := 2) (v := 60) hx hb dX7_hours_2 (by decide) ?_
  obtain ⟨r1, σ2, hq, hF⟩ := rp_bd_e hF
  refine rp_ki (rp_runZ (rest := []) hC (mE_ok _) hw hl.1 (mX7_within (l := l) v1 1 60 σ _ hq) zw_X7_73 rfl rfl (Nat.le_of_ble_eq_true rfl) (by decide) dX7_hours_4) hw (fun H locs hw => ?_)
  clear hq
  refine lv_if_ne (pc := 7) (tgt := 17) hx hb dX7_hours_7 (by decide) (fun hc => ?_) (fun hc => ?_)
  · replace hF := rp_if hc hF
    refine lv_aload_n (pc := 17) hx hb dX7_hours_17 rfl (lv_at hl 0 rfl) ?_
    refine rp_get (pc := 18) hC hw 0 (by decide) (mt_obj _) fl_X7_9 (.ref (a 1)) rfl dX7_hours_18 ?_
    refine lv_iconst (pc := 21) (v := 0) hx hb dX7_hours_21 (by decide) ?_
    obtain ⟨hg, hF⟩ := rp_gu_e hF
    refine rp_ald (pc := 22) hC hw 1 (by decide) (mt_arr 1 221 rfl) 0 rfl hg dX7_hours_22 ?_
    refine lv_iload_n (pc := 23) hx hb dX7_hours_23 rfl (lv_at hl 1 rfl) ?_
    refine lv_iadd (pc := 24) hx hb dX7_hours_24 ?_
    refine lv_sipush (pc := 25) (v := 9999) hx hb dX7_hours_25 (by decide) ?_
    refine lv_icmp_le (pc := 28) (tgt := 38) hx hb dX7_hours_28 (by decide) (fun hc => ?_) (fun hc => ?_)
    · replace hF := rp_it hc hF
      refine lv_aload_n (pc := 38) hx hb dX7_hours_38 rfl (lv_at hl 0 rfl) ?_
      refine lv_iload_n (pc := 39) hx hb dX7_hours_39 rfl (lv_at hl 1 rfl) ?_
      obtain ⟨r3, σ4, hq, hF⟩ := rp_bd_e hF
      refine rp_kv (rp_runV (rest := []) hC (mE_ok _) hw hl.1 (mX7_hoursGo (l := l) v1 σ2 _ hq) vw_X7_217 (by decide) (mt_obj _) rfl rfl rfl (Nat.le_of_ble_eq_true rfl) (by decide) dX7_hours_40) hw (fun H locs hw => ?_)
      clear hq
      refine lv_aload_n (pc := 43) hx hb dX7_hours_43 rfl (lv_at hl 0 rfl) ?_
      refine lv_iconst (pc := 44) (v := 2) hx hb dX7_hours_44 (by decide) ?_
      obtain ⟨r5, σ6, hq, hF⟩ := rp_bd_e hF
      refine rp_ki (rp_runV (rest := []) hC (mE_ok _) hw hl.1 (mX7_sumOf (l := l) 2 σ4 _ hq) vw_X7_220 (by decide) (mt_obj _) rfl rfl rfl (Nat.le_of_ble_eq_true rfl) (by decide) dX7_hours_45) hw (fun H locs hw => ?_)
      clear hq
      exact rp_reti (pc := 48) hC hw hF dX7_hours_48
    · replace hF := rp_if hc hF
      refine lv_aload_n (pc := 31) hx hb dX7_hours_31 rfl (lv_at hl 0 rfl) ?_
      refine lv_ldc (pc := 32) (v := (-1000000003)) hx hb hown (hts _ wd_925) dX7_hours_32 ?_
      obtain ⟨r7, σ8, hq, hF⟩ := rp_bd_e hF
      refine rp_ki (rp_runV (rest := []) hC (mE_ok _) hw hl.1 (mX7_finding (l := l) (-1000000003) σ2 _ hq) vw_X7_78 (by decide) (mt_obj _) rfl rfl rfl (Nat.le_of_ble_eq_true rfl) (by decide) dX7_hours_34) hw (fun H locs hw => ?_)
      clear hq
      exact rp_reti (pc := 37) hC hw hF dX7_hours_37
  · replace hF := rp_it hc hF
    refine lv_aload_n (pc := 10) hx hb dX7_hours_10 rfl (lv_at hl 0 rfl) ?_
    refine lv_ldc (pc := 11) (v := (-1000000001)) hx hb hown (hts _ wd_721) dX7_hours_11 ?_
    obtain ⟨r9, σ10, hq, hF⟩ := rp_bd_e hF
    refine rp_ki (rp_runV (rest := []) hC (mE_ok _) hw hl.1 (mX7_finding (l := l) (-1000000001) σ2 _ hq) vw_X7_78 (by decide) (mt_obj _) rfl rfl rfl (Nat.le_of_ble_eq_true rfl) (by decide) dX7_hours_13) hw (fun H locs hw => ?_)
    clear hq
    exact rp_reti (pc := 16) hC hw hF dX7_hours_16
theorem mX7_hours {l : Launch} {D : va_G} {cI cT : ClassId} {ad av a : Nat → Nat} (v1 : Int32) (σ : rp_St) (res : Int32 × rp_St) (hF : fX7_hours v1 σ = some res) : mM l D cI cT ad av a yX7_hours cX7_hours 2 (some .int) 7 [.ref (a 0), .int v1] σ (rp_Qi D a (mt cI cT ad a) 15 res) :=
  rp_entry (by decide) (Nat.le_of_ble_eq_true rfl) (fun p e s m below meth c ls hC hw hl => kX7_hours_0 hC v1 σ _ _ _ hF hw (lv_sub hl [0, 1] rfl))
def fX7_drawn (σ : rp_St) : Option (Int32 × rp_St) :=
  rp_gu (rp_in 2 221) (rp_gu (rp_in 2 221) (rp_nm (rp_put σ 1 (2 : Int32).toNatClampNeg (((σ 1 (2 : Int32).toNatClampNeg) * 1103515245) + 12345)) (fun σ1 => rp_gu (rp_in 2 221) (some (((((σ1 1 (2 : Int32).toNatClampNeg) : Int32).toUInt32 >>> ((8 : Int32).toUInt32 &&& Int32.toUInt32 31)).toInt32), σ1)))))
set_option maxRecDepth 100000 in
set_option maxHeartbeats 4000000 in
theorem kX7_drawn_0 {p : Program} {l : Launch} {e : Env} {s : State} {m : MethodId} {args : Array Value} {below : List Frame} {meth : Method} {c : Code} {D : va_G} {cI cT : ClassId} {ad av a : Nat → Nat} {res : Int32 × rp_St} (hC : mC p s m args meth c cX7_drawn 1 "RegretPegsModel" (some .int) D cI cT ad av a) (σ : rp_St) (H : Heap) (locs : List Loc) (ls : Array Slot) (hF : fX7_drawn σ = some res) (hw : mW D cI cT ad av a s σ H locs) (hl : lv_has ls 1 [(0, .ref (a 0))]) : W p l e (rp_rm 1) s m args below meth c H locs 0 0 (MQ below (rp_Qi D a (mt cI cT ad a) 15 res) args s 0 0 (rp_A a 15)) (F0 m 0 ls []) := by
  have hx := hC.1
  have hb := hC.2.1
  have hown := hC.2.2.2.1
  have hts := hC.2.2.2.2.1
  unfold fX7_drawn at hF
  refine lv_aload_n (pc := 0) hx hb dX7_drawn_0 rfl (lv_at hl 0 rfl) ?_
  refine rp_get (pc := 1) hC hw 0 (by decide) (mt_obj _) fl_X7_9 (.ref (a 1)) rfl dX7_drawn_1 ?_
  refine lv_iconst (pc := 4) (v := 2) hx hb dX7_drawn_4 (by decide) ?_
  refine lv_aload_n (pc := 5) hx hb dX7_drawn_5 rfl (lv_at hl 0 rfl) ?_
  refine rp_get (pc := 6) hC hw 0 (by decide) (mt_obj _) fl_X7_9 (.ref (a 1)) rfl dX7_drawn_6 ?_
  refine lv_iconst (pc := 9) (v := 2) hx hb dX7_drawn_9 (by decide) ?_
  obtain ⟨hg, hF⟩ := rp_gu_e hF
  refine rp_ald (pc := 10) hC hw 1 (by decide) (mt_arr 1 221 rfl) 0 rfl hg dX7_drawn_10 ?_
  refine lv_ldc (pc := 11) (v := 1103515245) hx hb hown (hts _ wd_970) dX7_drawn_11 ?_
  refine lv_imul (pc := 13) hx hb dX7_drawn_13 ?_
  refine lv_sipush (pc := 14) (v := 12345) hx hb dX7_drawn_14 (by decide) ?_
  refine lv_iadd (pc := 17) hx hb dX7_drawn_17 ?_
  obtain ⟨hg, hF⟩ := rp_gu_e hF
  refine rp_ast (pc := 18) hC hw 1 (by decide) (mt_arr 1 221 rfl) 0 rfl hg dX7_drawn_18 (fun H locs hw => ?_)
  obtain ⟨σ1, eσ1, hF⟩ := rp_nm_e hF
  replace hw := rp_Wn eσ1 hw
  clear eσ1
  refine lv_aload_n (pc := 19) hx hb dX7_drawn_19 rfl (lv_at hl 0 rfl) ?_
  refine rp_get (pc := 20) hC hw 0 (by decide) (mt_obj _) fl_X7_9 (.ref (a 1)) rfl dX7_drawn_20 ?_
  refine lv_iconst (pc := 23) (v := 2) hx hb dX7_drawn_23 (by decide) ?_
  obtain ⟨hg, hF⟩ := rp_gu_e hF
  refine rp_ald (pc := 24) hC hw 1 (by decide) (mt_arr 1 221 rfl) 0 rfl hg dX7_drawn_24 ?_
  refine lv_bipush (pc := 25) (v := 8) hx hb dX7_drawn_25 (by decide) ?_
  refine lv_iushr (pc := 27) hx hb dX7_drawn_27 rfl ?_
  exact rp_reti (pc := 28) hC hw hF dX7_drawn_28
theorem mX7_drawn {l : Launch} {D : va_G} {cI cT : ClassId} {ad av a : Nat → Nat}  (σ : rp_St) (res : Int32 × rp_St) (hF : fX7_drawn σ = some res) : mM l D cI cT ad av a yX7_drawn cX7_drawn 1 (some .int) 1 [.ref (a 0)] σ (rp_Qi D a (mt cI cT ad a) 15 res) :=
  rp_entry (by decide) (Nat.le_of_ble_eq_true rfl) (fun p e s m below meth c ls hC hw hl => kX7_drawn_0 hC σ _ _ _ hF hw (lv_sub hl [0] rfl))
def fX7_dancesByDraws (σ : rp_St) : Option (Int32 × rp_St) :=
  rp_bd (fX7_drawn σ) (fun r1 σ2 => rp_gu (rp_in 1 221) (rp_gu (rp_nz0 (σ2 1 (1 : Int32).toNatClampNeg)) (rp_nm (r1 - r1 / (σ2 1 (1 : Int32).toNatClampNeg) * (σ2 1 (1 : Int32).toNatClampNeg)) (fun x3 => rp_bd (fX7_drawn σ2) (fun r4 σ5 => rp_gu (rp_in 1 221) (rp_gu (rp_nz0 (σ5 1 (1 : Int32).toNatClampNeg)) (rp_nm (r4 - r4 / (σ5 1 (1 : Int32).toNatClampNeg) * (σ5 1 (1 : Int32).toNatClampNeg)) (fun x6 => (if x3 = x6 then some (0, σ5) else rp_bd (fX7_dancing x3 x6 σ5) (fun _ σ8 => some (0, σ8)))))))))))
set_option maxRecDepth 100000 in
set_option maxHeartbeats 4000000 in
theorem kX7_dancesByDraws_0 {p : Program} {l : Launch} {e : Env} {s : State} {m : MethodId} {args : Array Value} {below : List Frame} {meth : Method} {c : Code} {D : va_G} {cI cT : ClassId} {ad av a : Nat → Nat} {res : Int32 × rp_St} (hC : mC p s m args meth c cX7_dancesByDraws 3 "RegretPegsModel" none D cI cT ad av a) (σ : rp_St) (H : Heap) (locs : List Loc) (ls : Array Slot) (hF : fX7_dancesByDraws σ = some res) (hw : mW D cI cT ad av a s σ H locs) (hl : lv_has ls 3 [(0, .ref (a 0))]) : W p l e (rp_rm 5) s m args below meth c H locs 0 0 (MQ below (rp_Qv D a (mt cI cT ad a) 15 res) args s 0 0 (rp_A a 15)) (F0 m 0 ls []) := by
  have hx := hC.1
  have hb := hC.2.1
  have hown := hC.2.2.2.1
  have hts := hC.2.2.2.2.1
  unfold fX7_dancesByDraws at hF
  refine lv_aload_n (pc := 0) hx hb dX7_dancesByDraws_0 rfl (lv_at hl 0 rfl) ?_
  obtain ⟨r1, σ2, hq, hF⟩ := rp_bd_e hF
  refine rp_ki (rp_runV (rest := []) hC (mE_ok _) hw hl.1 (mX7_drawn (l := l) σ _ hq) vw_X7_224 (by decide) (mt_obj _) rfl rfl rfl (Nat.le_of_ble_eq_true rfl) (by decide) dX7_dancesByDraws_1) hw (fun H locs hw => ?_)
  clear hq
  refine lv_aload_n (pc := 4) hx hb dX7_dancesByDraws_4 rfl (lv_at hl 0 rfl) ?_
  refine rp_get (pc := 5) hC hw 0 (by decide) (mt_obj _) fl_X7_9 (.ref (a 1)) rfl dX7_dancesByDraws_5 ?_
  refine lv_iconst (pc := 8) (v := 1) hx hb dX7_dancesByDraws_8 (by decide) ?_
  obtain ⟨hg, hF⟩ := rp_gu_e hF
  refine rp_ald (pc := 9) hC hw 1 (by decide) (mt_arr 1 221 rfl) 0 rfl hg dX7_dancesByDraws_9 ?_
  obtain ⟨hg, hF⟩ := rp_gu_e hF
  refine lv_irem (pc := 10) hx hb dX7_dancesByDraws_10 (rp_nz0_e hg) ?_
  obtain ⟨x3, ex3, hF⟩ := rp_nm_e hF
  refine rp_top ex3 ?_
  refine lv_istore_n (pc := 11) (lv' := [(1, .int x3), (0, .ref (a 0))]) hx hb dX7_dancesByDraws_11 rfl hl (by decide) rfl (fun ls hl => ?_)
  refine lv_aload_n (pc := 12) hx hb dX7_dancesByDraws_12 rfl (lv_at hl 1 rfl) ?_
  obtain ⟨r4, σ5, hq, hF⟩ := rp_bd_e hF
  refine rp_ki (rp_runV (rest := []) hC (mE_ok _) hw hl.1 (mX7_drawn (l := l) σ2 _ hq) vw_X7_224 (by decide) (mt_obj _) rfl rfl rfl (Nat.le_of_ble_eq_true rfl) (by decide) dX7_dancesByDraws_13) hw (fun H locs hw => ?_)
  clear hq
  refine lv_aload_n (pc := 16) hx hb dX7_dancesByDraws_16 rfl (lv_at hl 1 rfl) ?_
  refine rp_get (pc := 17) hC hw 0 (by decide) (mt_obj _) fl_X7_9 (.ref (a 1)) rfl dX7_dancesByDraws_17 ?_
  refine lv_iconst (pc := 20) (v := 1) hx hb dX7_dancesByDraws_20 (by decide) ?_
  obtain ⟨hg, hF⟩ := rp_gu_e hF
  refine rp_ald (pc := 21) hC hw 1 (by decide) (mt_arr 1 221 rfl) 0 rfl hg dX7_dancesByDraws_21 ?_
  obtain ⟨hg, hF⟩ := rp_gu_e hF
  refine lv_irem (pc := 22) hx hb dX7_dancesByDraws_22 (rp_nz0_e hg) ?_
  obtain ⟨x6, ex6, hF⟩ := rp_nm_e hF
  refine rp_top ex6 ?_
  refine lv_istore_n (pc := 23) (lv' := [(2, .int x6), (1, .int x3), (0, .ref (a 0))]) hx hb dX7_dancesByDraws_23 rfl hl (by decide) rfl (fun ls hl => ?_)
  refine lv_iload_n (pc := 24) hx hb dX7_dancesByDraws_24 rfl (lv_at hl 1 rfl) ?_
  refine lv_iload_n (pc := 25) hx hb dX7_dancesByDraws_25 rfl (lv_at hl 0 rfl) ?_
  refine lv_icmp_eq (pc := 26) (tgt := 35) hx hb dX7_dancesByDraws_26 (by decide) (fun hc => ?_) (fun hc => ?_)
  · replace hF := rp_it hc hF
    exact rp_retv (pc := 35) hC hw hF dX7_dancesByDraws_35
  · replace hF := rp_if hc hF
    refine lv_aload_n (pc := 29) hx hb dX7_dancesByDraws_29 rfl (lv_at hl 2 rfl) ?_
    refine lv_iload_n (pc := 30) hx hb dX7_dancesByDraws_30 rfl (lv_at hl 1 rfl) ?_
    refine lv_iload_n (pc := 31) hx hb dX7_dancesByDraws_31 rfl (lv_at hl 0 rfl) ?_
    obtain ⟨r7, σ8, hq, hF⟩ := rp_bd_e hF
    refine rp_kv (rp_runV (rest := []) hC (mE_ok _) hw hl.1 (mX7_dancing (l := l) x3 x6 σ5 _ hq) vw_X7_208 (by decide) (mt_obj _) rfl rfl rfl (Nat.le_of_ble_eq_true rfl) (by decide) dX7_dancesByDraws_32) hw (fun H locs hw => ?_)
    clear hq
    exact rp_retv (pc := 35) hC hw hF dX7_dancesByDraws_35
theorem mX7_dancesByDraws {l : Launch} {D : va_G} {cI cT : ClassId} {ad av a : Nat → Nat}  (σ : rp_St) (res : Int32 × rp_St) (hF : fX7_dancesByDraws σ = some res) : mM l D cI cT ad av a yX7_dancesByDraws cX7_dancesByDraws 3 none 5 [.ref (a 0)] σ (rp_Qv D a (mt cI cT ad a) 15 res) :=
  rp_entry (by decide) (Nat.le_of_ble_eq_true rfl) (fun p e s m below meth c ls hC hw hl => kX7_dancesByDraws_0 hC σ _ _ _ hF hw (lv_sub hl [0] rfl))
def fX7_loose_59 (k40 : Int32 → Int32 → rp_St → Option (Int32 × rp_St)) (v1 : Int32) (v2 : Int32) (σ : rp_St) : Option (Int32 × rp_St) :=
  rp_bd (fX7_hour σ) (fun _ σ2 => rp_nm (v2 + 1) (fun x3 => k40 v1 x3 σ2))
set_option maxRecDepth 100000 in
set_option maxHeartbeats 4000000 in
theorem kX7_loose_59 {p : Program} {l : Launch} {e : Env} {s : State} {m : MethodId} {args : Array Value} {below : List Frame} {meth : Method} {c : Code} {D : va_G} {cI cT : ClassId} {ad av a : Nat → Nat} {res : Int32 × rp_St} (hC : mC p s m args meth c cX7_loose 3 "RegretPegsModel" (some .int) D cI cT ad av a) (k40 : Int32 → Int32 → rp_St → Option (Int32 × rp_St)) (hk40 : ∀ (v1 : Int32) (v2 : Int32) (σ : rp_St) (H : Heap) (locs : List Loc) (ls : Array Slot), k40 v1 v2 σ = some res → mW D cI cT ad av a s σ H locs → lv_has ls 3 [(0, .ref (a 0)), (1, .int v1), (2, .int v2)] → W p l e (rp_rm 6) s m args below meth c H locs 0 0 (MQ below (rp_Qi D a (mt cI cT ad a) 15 res) args s 0 0 (rp_A a 15)) (F0 m 40 ls [])) (v1 : Int32) (v2 : Int32) (σ : rp_St) (H : Heap) (locs : List Loc) (ls : Array Slot) (hF : fX7_loose_59 k40 v1 v2 σ = some res) (hw : mW D cI cT ad av a s σ H locs) (hl : lv_has ls 3 [(0, .ref (a 0)), (1, .int v1), (2, .int v2)]) : W p l e (rp_rm 6) s m args below meth c H locs 0 0 (MQ below (rp_Qi D a (mt cI cT ad a) 15 res) args s 0 0 (rp_A a 15)) (F0 m 59 ls []) := by
  have hx := hC.1
  have hb := hC.2.1
  have hown := hC.2.2.2.1
  have hts := hC.2.2.2.2.1
  unfold fX7_loose_59 at hF
  refine lv_aload_n (pc := 59) hx hb dX7_loose_59 rfl (lv_at hl 0 rfl) ?_
  obtain ⟨r1, σ2, hq, hF⟩ := rp_bd_e hF
  refine rp_kv (rp_runV (rest := []) hC (mE_ok _) hw hl.1 (mX7_hour (l := l) σ _ hq) vw_X7_214 (by decide) (mt_obj _) rfl rfl rfl (Nat.le_of_ble_eq_true rfl) (by decide) dX7_loose_60) hw (fun H locs hw => ?_)
  clear hq
  obtain ⟨x3, ex3, hF⟩ := rp_nm_e hF
  refine lv_iinc (pc := 63) (v := x3) (lv' := [(2, .int x3), (0, .ref (a 0)), (1, .int v1)]) hx hb dX7_loose_63 hl (k := 2) rfl (by rw [ex3]; rfl) (by decide) rfl (fun ls hl => ?_)
  refine lv_goto (pc := 66) (tgt := 40) hx hb dX7_loose_66 (by decide) ?_
  exact hk40 v1 x3 σ2 _ _ _ hF hw (lv_sub hl [1, 2, 0] rfl)
def fX7_loose_40 (k40 : Int32 → Int32 → rp_St → Option (Int32 × rp_St)) (v1 : Int32) (v2 : Int32) (σ : rp_St) : Option (Int32 × rp_St) :=
  (if v1 ≤ v2 then rp_bd (fX7_sumOf 2 σ) (fun r1 σ2 => some (r1, σ2)) else rp_gu (rp_in 1 221) ((if (σ 1 (1 : Int32).toNatClampNeg) ≤ 1 then fX7_loose_59 k40 v1 v2 σ else rp_bd (fX7_dancesByDraws σ) (fun _ σ4 => fX7_loose_59 k40 v1 v2 σ4))))
set_option maxRecDepth 100000 in
set_option maxHeartbeats 4000000 in
theorem kX7_loose_40 {p : Program} {l : Launch} {e : Env} {s : State} {m : MethodId} {args : Array Value} {below : List Frame} {meth : Method} {c : Code} {D : va_G} {cI cT : ClassId} {ad av a : Nat → Nat} {res : Int32 × rp_St} (hC : mC p s m args meth c cX7_loose 3 "RegretPegsModel" (some .int) D cI cT ad av a) (k40 : Int32 → Int32 → rp_St → Option (Int32 × rp_St)) (hk40 : ∀ (v1 : Int32) (v2 : Int32) (σ : rp_St) (H : Heap) (locs : List Loc) (ls : Array Slot), k40 v1 v2 σ = some res → mW D cI cT ad av a s σ H locs → lv_has ls 3 [(0, .ref (a 0)), (1, .int v1), (2, .int v2)] → W p l e (rp_rm 6) s m args below meth c H locs 0 0 (MQ below (rp_Qi D a (mt cI cT ad a) 15 res) args s 0 0 (rp_A a 15)) (F0 m 40 ls [])) (v1 : Int32) (v2 : Int32) (σ : rp_St) (H : Heap) (locs : List Loc) (ls : Array Slot) (hF : fX7_loose_40 k40 v1 v2 σ = some res) (hw : mW D cI cT ad av a s σ H locs) (hl : lv_has ls 3 [(0, .ref (a 0)), (1, .int v1), (2, .int v2)]) : W p l e (rp_rm 6) s m args below meth c H locs 0 0 (MQ below (rp_Qi D a (mt cI cT ad a) 15 res) args s 0 0 (rp_A a 15)) (F0 m 40 ls []) := by
  have hx := hC.1
  have hb := hC.2.1
  have hown := hC.2.2.2.1
  have hts := hC.2.2.2.2.1
  unfold fX7_loose_40 at hF
  refine lv_iload_n (pc := 40) hx hb dX7_loose_40 rfl (lv_at hl 2 rfl) ?_
  refine lv_iload_n (pc := 41) hx hb dX7_loose_41 rfl (lv_at hl 1 rfl) ?_
  refine lv_icmp_ge (pc := 42) (tgt := 69) hx hb dX7_loose_42 (by decide) (fun hc => ?_) (fun hc => ?_)
  · replace hF := rp_it hc hF
    refine lv_aload_n (pc := 69) hx hb dX7_loose_69 rfl (lv_at hl 0 rfl) ?_
    refine lv_iconst (pc := 70) (v := 2) hx hb dX7_loose_70 (by decide) ?_
    obtain ⟨r1, σ2, hq, hF⟩ := rp_bd_e hF
    refine rp_ki (rp_runV (rest := []) hC (mE_ok _) hw hl.1 (mX7_sumOf (l := l) 2 σ _ hq) vw_X7_220 (by decide) (mt_obj _) rfl rfl rfl (Nat.le_of_ble_eq_true rfl) (by decide) dX7_loose_71) hw (fun H locs hw => ?_)
    clear hq
    exact rp_reti (pc := 74) hC hw hF dX7_loose_74
  · replace hF := rp_if hc hF
    refine lv_aload_n (pc := 45) hx hb dX7_loose_45 rfl (lv_at hl 0 rfl) ?_
    refine rp_get (pc := 46) hC hw 0 (by decide) (mt_obj _) fl_X7_9 (.ref (a 1)) rfl dX7_loose_46 ?_
    refine lv_iconst (pc := 49) (v := 1) hx hb dX7_loose_49 (by decide) ?_
    obtain ⟨hg, hF⟩ := rp_gu_e hF
    refine rp_ald (pc := 50) hC hw 1 (by decide) (mt_arr 1 221 rfl) 0 rfl hg dX7_loose_50 ?_
    refine lv_iconst (pc := 51) (v := 1) hx hb dX7_loose_51 (by decide) ?_
    refine lv_icmp_le (pc := 52) (tgt := 59) hx hb dX7_loose_52 (by decide) (fun hc => ?_) (fun hc => ?_)
    · replace hF := rp_it hc hF
      exact kX7_loose_59 hC k40 hk40 v1 v2 σ _ _ _ hF hw (lv_sub hl [0, 1, 2] rfl)
    · replace hF := rp_if hc hF
      refine lv_aload_n (pc := 55) hx hb dX7_loose_55 rfl (lv_at hl 0 rfl) ?_
      obtain ⟨r3, σ4, hq, hF⟩ := rp_bd_e hF
      refine rp_kv (rp_runV (rest := []) hC (mE_ok _) hw hl.1 (mX7_dancesByDraws (l := l) σ _ hq) vw_X7_227 (by decide) (mt_obj _) rfl rfl rfl (Nat.le_of_ble_eq_true rfl) (by decide) dX7_loose_56) hw (fun H locs hw => ?_)
      clear hq
      exact kX7_loose_59 hC k40 hk40 v1 v2 σ4 _ _ _ hF hw (lv_sub hl [0, 1, 2] rfl)
theorem lX7_loose_40 {p : Program} {l : Launch} {e : Env} {s : State} {m : MethodId} {args : Array Value} {below : List Frame} {meth : Method} {c : Code} {D : va_G} {cI cT : ClassId} {ad av a : Nat → Nat} {res : Int32 × rp_St} (hC : mC p s m args meth c cX7_loose 3 "RegretPegsModel" (some .int) D cI cT ad av a) : ∀ (n : Nat) (v1 : Int32) (v2 : Int32) (σ : rp_St) (H : Heap) (locs : List Loc) (ls : Array Slot), rp_lp (fun _ _ _ => none) (fX7_loose_40) n v1 v2 σ = some res → mW D cI cT ad av a s σ H locs → lv_has ls 3 [(0, .ref (a 0)), (1, .int v1), (2, .int v2)] → W p l e (rp_rm 6) s m args below meth c H locs 0 0 (MQ below (rp_Qi D a (mt cI cT ad a) 15 res) args s 0 0 (rp_A a 15)) (F0 m 40 ls [])
  | 0, _, _, _, _, _, _, hF, _, _ => nomatch hF
  | n + 1, v1, v2, σ, H, locs, ls, hF, hw, hl => kX7_loose_40 hC (rp_lp (fun _ _ _ => none) (fX7_loose_40) n) (lX7_loose_40 hC n) v1 v2 σ H locs ls hF hw hl
def fX7_loose (v1 : Int32) (σ : rp_St) : Option (Int32 × rp_St) :=
  rp_bd (fX7_within v1 1 40 σ) (fun r1 σ2 => (if r1 = 0 then rp_bd (fX7_finding (-1000000001) σ2) (fun r5 σ6 => some (r5, σ6)) else rp_gu (rp_in 0 221) ((if ((σ2 1 (0 : Int32).toNatClampNeg) + v1) ≤ 9999 then rp_lp (fun _ _ _ => none) (fX7_loose_40) 300 v1 0 σ2 else rp_bd (fX7_finding (-1000000003) σ2) (fun r3 σ4 => some (r3, σ4))))))
set_option maxRecDepth 100000 in
set_option maxHeartbeats 4000000 in
theorem kX7_loose_0 {p : Program} {l : Launch} {e : Env} {s : State} {m : MethodId} {args : Array Value} {below : List Frame} {meth : Method} {c : Code} {D : va_G} {cI cT : ClassId} {ad av a : Nat → Nat} {res : Int32 × rp_St} (hC : mC p s m args meth c cX7_loose 3 "RegretPegsModel" (some .int) D cI cT ad av a) (v1 : Int32) (σ : rp_St) (H : Heap) (locs : List Loc) (ls : Array Slot) (hF : fX7_loose v1 σ = some res) (hw : mW D cI cT ad av a s σ H locs) (hl : lv_has ls 3 [(0, .ref (a 0)), (1, .int v1)]) : W p l e (rp_rm 6) s m args below meth c H locs 0 0 (MQ below (rp_Qi D a (mt cI cT ad a) 15 res) args s 0 0 (rp_A a 15)) (F0 m 0 ls []) := by
  have hx := hC.1
  have hb := hC.2.1
  have hown := hC.2.2.2.1
  have hts := hC.2.2.2.2.1
  unfold fX7_loose at hF
  refine lv_iload_n (pc := 0) hx hb dX7_loose_0 rfl (lv_at hl 1 rfl) ?_
  refine lv_iconst (pc := 1) (v := 1) hx hb dX7_loose_1 (by decide) ?_
  refine lv_bipush (pc := 2) (v := 40) hx hb dX7_loose_2 (by decide) ?_
  obtain ⟨r1, σ2, hq, hF⟩ := rp_bd_e hF
  refine rp_ki (rp_runZ (rest := []) hC (mE_ok _) hw hl.1 (mX7_within (l := l) v1 1 40 σ _ hq) zw_X7_73 rfl rfl (Nat.le_of_ble_eq_true rfl) (by decide) dX7_loose_4) hw (fun H locs hw => ?_)
  clear hq
  refine lv_if_ne (pc := 7) (tgt := 17) hx hb dX7_loose_7 (by decide) (fun hc => ?_) (fun hc => ?_)
  · replace hF := rp_if hc hF
    refine lv_aload_n (pc := 17) hx hb dX7_loose_17 rfl (lv_at hl 0 rfl) ?_
    refine rp_get (pc := 18) hC hw 0 (by decide) (mt_obj _) fl_X7_9 (.ref (a 1)) rfl dX7_loose_18 ?_
    refine lv_iconst (pc := 21) (v := 0) hx hb dX7_loose_21 (by decide) ?_
    obtain ⟨hg, hF⟩ := rp_gu_e hF
    refine rp_ald (pc := 22) hC hw 1 (by decide) (mt_arr 1 221 rfl) 0 rfl hg dX7_loose_22 ?_
    refine lv_iload_n (pc := 23) hx hb dX7_loose_23 rfl (lv_at hl 1 rfl) ?_
    refine lv_iadd (pc := 24) hx hb dX7_loose_24 ?_
    refine lv_sipush (pc := 25) (v := 9999) hx hb dX7_loose_25 (by decide) ?_
    refine lv_icmp_le (pc := 28) (tgt := 38) hx hb dX7_loose_28 (by decide) (fun hc => ?_) (fun hc => ?_)
    · replace hF := rp_it hc hF
      refine lv_iconst (pc := 38) (v := 0) hx hb dX7_loose_38 (by decide) ?_
      refine lv_istore_n (pc := 39) (lv' := [(2, .int 0), (0, .ref (a 0)), (1, .int v1)]) hx hb dX7_loose_39 rfl hl (by decide) rfl (fun ls hl => ?_)
      exact lX7_loose_40 hC 300 v1 0 σ2 _ _ _ hF hw (lv_sub hl [1, 2, 0] rfl)
    · replace hF := rp_if hc hF
      refine lv_aload_n (pc := 31) hx hb dX7_loose_31 rfl (lv_at hl 0 rfl) ?_
      refine lv_ldc (pc := 32) (v := (-1000000003)) hx hb hown (hts _ wd_925) dX7_loose_32 ?_
      obtain ⟨r3, σ4, hq, hF⟩ := rp_bd_e hF
      refine rp_ki (rp_runV (rest := []) hC (mE_ok _) hw hl.1 (mX7_finding (l := l) (-1000000003) σ2 _ hq) vw_X7_78 (by decide) (mt_obj _) rfl rfl rfl (Nat.le_of_ble_eq_true rfl) (by decide) dX7_loose_34) hw (fun H locs hw => ?_)
      clear hq
      exact rp_reti (pc := 37) hC hw hF dX7_loose_37
  · replace hF := rp_it hc hF
    refine lv_aload_n (pc := 10) hx hb dX7_loose_10 rfl (lv_at hl 0 rfl) ?_
    refine lv_ldc (pc := 11) (v := (-1000000001)) hx hb hown (hts _ wd_721) dX7_loose_11 ?_
    obtain ⟨r5, σ6, hq, hF⟩ := rp_bd_e hF
    refine rp_ki (rp_runV (rest := []) hC (mE_ok _) hw hl.1 (mX7_finding (l := l) (-1000000001) σ2 _ hq) vw_X7_78 (by decide) (mt_obj _) rfl rfl rfl (Nat.le_of_ble_eq_true rfl) (by decide) dX7_loose_13) hw (fun H locs hw => ?_)
    clear hq
    exact rp_reti (pc := 16) hC hw hF dX7_loose_16
theorem mX7_loose {l : Launch} {D : va_G} {cI cT : ClassId} {ad av a : Nat → Nat} (v1 : Int32) (σ : rp_St) (res : Int32 × rp_St) (hF : fX7_loose v1 σ = some res) : mM l D cI cT ad av a yX7_loose cX7_loose 3 (some .int) 6 [.ref (a 0), .int v1] σ (rp_Qi D a (mt cI cT ad a) 15 res) :=
  rp_entry (by decide) (Nat.le_of_ble_eq_true rfl) (fun p e s m below meth c ls hC hw hl => kX7_loose_0 hC v1 σ _ _ _ hF hw (lv_sub hl [0, 1] rfl))
def fX7_isBehind (v0 : Int32) (σ : rp_St) : Option (Int32 × rp_St) :=
  rp_bd (fX7_within v0 0 60 σ) (fun r1 σ2 => rp_gu (r1 == 0 || r1 == 1) (some (r1, σ2)))
set_option maxRecDepth 100000 in
set_option maxHeartbeats 4000000 in
theorem kX7_isBehind_0 {p : Program} {l : Launch} {e : Env} {s : State} {m : MethodId} {args : Array Value} {below : List Frame} {meth : Method} {c : Code} {D : va_G} {cI cT : ClassId} {ad av a : Nat → Nat} {res : Int32 × rp_St} (hC : mC p s m args meth c cX7_isBehind 1 "RegretPegsModel" (some .boolean) D cI cT ad av a) (v0 : Int32) (σ : rp_St) (H : Heap) (locs : List Loc) (ls : Array Slot) (hF : fX7_isBehind v0 σ = some res) (hw : mW D cI cT ad av a s σ H locs) (hl : lv_has ls 1 [(0, .int v0)]) : W p l e (rp_rm 2) s m args below meth c H locs 0 0 (MQ below (rp_Qi D a (mt cI cT ad a) 15 res) args s 0 0 (rp_A a 15)) (F0 m 0 ls []) := by
  have hx := hC.1
  have hb := hC.2.1
  have hown := hC.2.2.2.1
  have hts := hC.2.2.2.2.1
  unfold fX7_isBehind at hF
  refine lv_iload_n (pc := 0) hx hb dX7_isBehind_0 rfl (lv_at hl 0 rfl) ?_
  refine lv_iconst (pc := 1) (v := 0) hx hb dX7_isBehind_1 (by decide) ?_
  refine lv_bipush (pc := 2) (v := 60) hx hb dX7_isBehind_2 (by decide) ?_
  obtain ⟨r1, σ2, hq, hF⟩ := rp_bd_e hF
  refine rp_ki (rp_runZ (rest := []) hC (mE_ok _) hw hl.1 (mX7_within (l := l) v0 0 60 σ _ hq) zw_X7_73 rfl rfl (Nat.le_of_ble_eq_true rfl) (by decide) dX7_isBehind_4) hw (fun H locs hw => ?_)
  clear hq
  obtain ⟨hg, hF⟩ := rp_gu_e hF
  exact rp_retz (pc := 7) hC hw hg hF dX7_isBehind_7
theorem mX7_isBehind {l : Launch} {D : va_G} {cI cT : ClassId} {ad av a : Nat → Nat} (v0 : Int32) (σ : rp_St) (res : Int32 × rp_St) (hF : fX7_isBehind v0 σ = some res) : mM l D cI cT ad av a yX7_isBehind cX7_isBehind 1 (some .boolean) 2 [.int v0] σ (rp_Qi D a (mt cI cT ad a) 15 res) :=
  rp_entry (by decide) (Nat.le_of_ble_eq_true rfl) (fun p e s m below meth c ls hC hw hl => kX7_isBehind_0 hC v0 σ _ _ _ hF hw (lv_sub hl [0] rfl))
def fX7_isSoon (v0 : Int32) (σ : rp_St) : Option (Int32 × rp_St) :=
  rp_bd (fX7_within v0 0 20 σ) (fun r1 σ2 => rp_gu (r1 == 0 || r1 == 1) (some (r1, σ2)))
set_option maxRecDepth 100000 in
set_option maxHeartbeats 4000000 in
theorem kX7_isSoon_0 {p : Program} {l : Launch} {e : Env} {s : State} {m : MethodId} {args : Array Value} {below : List Frame} {meth : Method} {c : Code} {D : va_G} {cI cT : ClassId} {ad av a : Nat → Nat} {res : Int32 × rp_St} (hC : mC p s m args meth c cX7_isSoon 1 "RegretPegsModel" (some .boolean) D cI cT ad av a) (v0 : Int32) (σ : rp_St) (H : Heap) (locs : List Loc) (ls : Array Slot) (hF : fX7_isSoon v0 σ = some res) (hw : mW D cI cT ad av a s σ H locs) (hl : lv_has ls 1 [(0, .int v0)]) : W p l e (rp_rm 2) s m args below meth c H locs 0 0 (MQ below (rp_Qi D a (mt cI cT ad a) 15 res) args s 0 0 (rp_A a 15)) (F0 m 0 ls []) := by
  have hx := hC.1
  have hb := hC.2.1
  have hown := hC.2.2.2.1
  have hts := hC.2.2.2.2.1
  unfold fX7_isSoon at hF
  refine lv_iload_n (pc := 0) hx hb dX7_isSoon_0 rfl (lv_at hl 0 rfl) ?_
  refine lv_iconst (pc := 1) (v := 0) hx hb dX7_isSoon_1 (by decide) ?_
  refine lv_bipush (pc := 2) (v := 20) hx hb dX7_isSoon_2 (by decide) ?_
  obtain ⟨r1, σ2, hq, hF⟩ := rp_bd_e hF
  refine rp_ki (rp_runZ (rest := []) hC (mE_ok _) hw hl.1 (mX7_within (l := l) v0 0 20 σ _ hq) zw_X7_73 rfl rfl (Nat.le_of_ble_eq_true rfl) (by decide) dX7_isSoon_4) hw (fun H locs hw => ?_)
  clear hq
  obtain ⟨hg, hF⟩ := rp_gu_e hF
  exact rp_retz (pc := 7) hC hw hg hF dX7_isSoon_7
theorem mX7_isSoon {l : Launch} {D : va_G} {cI cT : ClassId} {ad av a : Nat → Nat} (v0 : Int32) (σ : rp_St) (res : Int32 × rp_St) (hF : fX7_isSoon v0 σ = some res) : mM l D cI cT ad av a yX7_isSoon cX7_isSoon 1 (some .boolean) 2 [.int v0] σ (rp_Qi D a (mt cI cT ad a) 15 res) :=
  rp_entry (by decide) (Nat.le_of_ble_eq_true rfl) (fun p e s m below meth c ls hC hw hl => kX7_isSoon_0 hC v0 σ _ _ _ hF hw (lv_sub hl [0] rfl))
def fX7_then_24 (σ : rp_St) : Option (Int32 × rp_St) :=
  rp_bd (fX7_finding (-1000000001) σ) (fun r1 σ2 => some (r1, σ2))
set_option maxRecDepth 100000 in
set_option maxHeartbeats 4000000 in
theorem kX7_then_24 {p : Program} {l : Launch} {e : Env} {s : State} {m : MethodId} {args : Array Value} {below : List Frame} {meth : Method} {c : Code} {D : va_G} {cI cT : ClassId} {ad av a : Nat → Nat} {res : Int32 × rp_St} (hC : mC p s m args meth c cX7_then 4 "RegretPegsModel" (some .int) D cI cT ad av a) (σ : rp_St) (H : Heap) (locs : List Loc) (ls : Array Slot) (hF : fX7_then_24 σ = some res) (hw : mW D cI cT ad av a s σ H locs) (hl : lv_has ls 4 [(0, .ref (a 0))]) : W p l e (rp_rm 7) s m args below meth c H locs 0 0 (MQ below (rp_Qi D a (mt cI cT ad a) 15 res) args s 0 0 (rp_A a 15)) (F0 m 24 ls []) := by
  have hx := hC.1
  have hb := hC.2.1
  have hown := hC.2.2.2.1
  have hts := hC.2.2.2.2.1
  unfold fX7_then_24 at hF
  refine lv_aload_n (pc := 24) hx hb dX7_then_24 rfl (lv_at hl 0 rfl) ?_
  refine lv_ldc (pc := 25) (v := (-1000000001)) hx hb hown (hts _ wd_721) dX7_then_25 ?_
  obtain ⟨r1, σ2, hq, hF⟩ := rp_bd_e hF
  refine rp_ki (rp_runV (rest := []) hC (mE_ok _) hw hl.1 (mX7_finding (l := l) (-1000000001) σ _ hq) vw_X7_78 (by decide) (mt_obj _) rfl rfl rfl (Nat.le_of_ble_eq_true rfl) (by decide) dX7_then_27) hw (fun H locs hw => ?_)
  clear hq
  exact rp_reti (pc := 30) hC hw hF dX7_then_30
def fX7_then_65 (t0 : Int32) (σ : rp_St) : Option (Int32 × rp_St) :=
  rp_bd (fX7_putBack t0 σ) (fun r1 σ2 => some (r1, σ2))
set_option maxRecDepth 100000 in
set_option maxHeartbeats 4000000 in
theorem kX7_then_65 {p : Program} {l : Launch} {e : Env} {s : State} {m : MethodId} {args : Array Value} {below : List Frame} {meth : Method} {c : Code} {D : va_G} {cI cT : ClassId} {ad av a : Nat → Nat} {res : Int32 × rp_St} (hC : mC p s m args meth c cX7_then 4 "RegretPegsModel" (some .int) D cI cT ad av a) (t0 : Int32) (σ : rp_St) (H : Heap) (locs : List Loc) (ls : Array Slot) (hF : fX7_then_65 t0 σ = some res) (hw : mW D cI cT ad av a s σ H locs) (hl : lv_has ls 4 []) : W p l e (rp_rm 7) s m args below meth c H locs 0 0 (MQ below (rp_Qi D a (mt cI cT ad a) 15 res) args s 0 0 (rp_A a 15)) (F0 m 65 ls [.int t0, .ref (a 0)]) := by
  have hx := hC.1
  have hb := hC.2.1
  have hown := hC.2.2.2.1
  have hts := hC.2.2.2.2.1
  unfold fX7_then_65 at hF
  obtain ⟨r1, σ2, hq, hF⟩ := rp_bd_e hF
  refine rp_ki (rp_runV (rest := []) hC (mE_ok _) hw hl.1 (mX7_putBack (l := l) t0 σ _ hq) vw_X7_233 (by decide) (mt_obj _) rfl rfl rfl (Nat.le_of_ble_eq_true rfl) (by decide) dX7_then_65) hw (fun H locs hw => ?_)
  clear hq
  exact rp_reti (pc := 68) hC hw hF dX7_then_68
def fX7_then (v1 : Int32) (v2 : Int32) (v3 : Int32) (σ : rp_St) : Option (Int32 × rp_St) :=
  rp_bd (fX7_isBehind v1 σ) (fun r1 σ2 => (if r1 = 0 then fX7_then_24 σ2 else rp_bd (fX7_isGuest v2 σ2) (fun r3 σ4 => (if r3 = 0 then fX7_then_24 σ4 else rp_bd (fX7_within v3 0 1 σ4) (fun r5 σ6 => (if r5 = 0 then fX7_then_24 σ6 else rp_bd (fX7_copy 1 3 σ6) (fun _ σ8 => rp_bd (fX7_hoursGo v1 σ8) (fun _ σ10 => (if v3 = 0 then rp_bd (fX7_rue v2 σ10) (fun r13 σ14 => fX7_then_65 r13 σ14) else rp_bd (fX7_pegOf v2 σ10) (fun r11 σ12 => fX7_then_65 r11 σ12))))))))))
set_option maxRecDepth 100000 in
set_option maxHeartbeats 4000000 in
theorem kX7_then_0 {p : Program} {l : Launch} {e : Env} {s : State} {m : MethodId} {args : Array Value} {below : List Frame} {meth : Method} {c : Code} {D : va_G} {cI cT : ClassId} {ad av a : Nat → Nat} {res : Int32 × rp_St} (hC : mC p s m args meth c cX7_then 4 "RegretPegsModel" (some .int) D cI cT ad av a) (v1 : Int32) (v2 : Int32) (v3 : Int32) (σ : rp_St) (H : Heap) (locs : List Loc) (ls : Array Slot) (hF : fX7_then v1 v2 v3 σ = some res) (hw : mW D cI cT ad av a s σ H locs) (hl : lv_has ls 4 [(0, .ref (a 0)), (1, .int v1), (2, .int v2), (3, .int v3)]) : W p l e (rp_rm 7) s m args below meth c H locs 0 0 (MQ below (rp_Qi D a (mt cI cT ad a) 15 res) args s 0 0 (rp_A a 15)) (F0 m 0 ls []) := by
  have hx := hC.1
  have hb := hC.2.1
  have hown := hC.2.2.2.1
  have hts := hC.2.2.2.2.1
  unfold fX7_then at hF
  refine lv_iload_n (pc := 0) hx hb dX7_then_0 rfl (lv_at hl 1 rfl) ?_
  obtain ⟨r1, σ2, hq, hF⟩ := rp_bd_e hF
  refine rp_ki (rp_runZ (rest := []) hC (mE_ok _) hw hl.1 (mX7_isBehind (l := l) v1 σ _ hq) zw_X7_230 rfl rfl (Nat.le_of_ble_eq_true rfl) (by decide) dX7_then_1) hw (fun H locs hw => ?_)
  clear hq
  refine lv_if_eq (pc := 4) (tgt := 24) hx hb dX7_then_4 (by decide) (fun hc => ?_) (fun hc => ?_)
  · replace hF := rp_it hc hF
    exact kX7_then_24 hC σ2 _ _ _ hF hw (lv_sub hl [0] rfl)
  · replace hF := rp_if hc hF
    refine lv_aload_n (pc := 7) hx hb dX7_then_7 rfl (lv_at hl 0 rfl) ?_
    refine lv_iload_n (pc := 8) hx hb dX7_then_8 rfl (lv_at hl 2 rfl) ?_
    obtain ⟨r3, σ4, hq, hF⟩ := rp_bd_e hF
    refine rp_ki (rp_runV (rest := []) hC (mE_ok _) hw hl.1 (mX7_isGuest (l := l) v2 σ2 _ hq) vw_X7_159 (by decide) (mt_obj _) rfl rfl rfl (Nat.le_of_ble_eq_true rfl) (by decide) dX7_then_9) hw (fun H locs hw => ?_)
    clear hq
    refine lv_if_eq (pc := 12) (tgt := 24) hx hb dX7_then_12 (by decide) (fun hc => ?_) (fun hc => ?_)
    · replace hF := rp_it hc hF
      exact kX7_then_24 hC σ4 _ _ _ hF hw (lv_sub hl [0] rfl)
    · replace hF := rp_if hc hF
      refine lv_iload_n (pc := 15) hx hb dX7_then_15 rfl (lv_at hl 3 rfl) ?_
      refine lv_iconst (pc := 16) (v := 0) hx hb dX7_then_16 (by decide) ?_
      refine lv_iconst (pc := 17) (v := 1) hx hb dX7_then_17 (by decide) ?_
      obtain ⟨r5, σ6, hq, hF⟩ := rp_bd_e hF
      refine rp_ki (rp_runZ (rest := []) hC (mE_ok _) hw hl.1 (mX7_within (l := l) v3 0 1 σ4 _ hq) zw_X7_73 rfl rfl (Nat.le_of_ble_eq_true rfl) (by decide) dX7_then_18) hw (fun H locs hw => ?_)
      clear hq
      refine lv_if_ne (pc := 21) (tgt := 31) hx hb dX7_then_21 (by decide) (fun hc => ?_) (fun hc => ?_)
      · replace hF := rp_if hc hF
        refine lv_aload_n (pc := 31) hx hb dX7_then_31 rfl (lv_at hl 0 rfl) ?_
        refine rp_get (pc := 32) hC hw 0 (by decide) (mt_obj _) fl_X7_9 (.ref (a 1)) rfl dX7_then_32 ?_
        refine lv_aload_n (pc := 35) hx hb dX7_then_35 rfl (lv_at hl 0 rfl) ?_
        refine rp_get (pc := 36) hC hw 0 (by decide) (mt_obj _) fl_X7_16 (.ref (a 3)) rfl dX7_then_36 ?_
        obtain ⟨r7, σ8, hq, hF⟩ := rp_bd_e hF
        refine rp_kv (rp_runZ (rest := []) hC (mE_ok _) hw hl.1 (mX7_copy (l := l) 1 (by decide) (mt_arr 1 221 rfl) 3 (by decide) (mt_arr 3 221 rfl) σ6 _ hq) zw_X7_69 rfl rfl (Nat.le_of_ble_eq_true rfl) (by decide) dX7_then_39) hw (fun H locs hw => ?_)
        clear hq
        refine lv_aload_n (pc := 42) hx hb dX7_then_42 rfl (lv_at hl 0 rfl) ?_
        refine lv_iload_n (pc := 43) hx hb dX7_then_43 rfl (lv_at hl 1 rfl) ?_
        obtain ⟨r9, σ10, hq, hF⟩ := rp_bd_e hF
        refine rp_kv (rp_runV (rest := []) hC (mE_ok _) hw hl.1 (mX7_hoursGo (l := l) v1 σ8 _ hq) vw_X7_217 (by decide) (mt_obj _) rfl rfl rfl (Nat.le_of_ble_eq_true rfl) (by decide) dX7_then_44) hw (fun H locs hw => ?_)
        clear hq
        refine lv_aload_n (pc := 47) hx hb dX7_then_47 rfl (lv_at hl 0 rfl) ?_
        refine lv_iload_n (pc := 48) hx hb dX7_then_48 rfl (lv_at hl 3 rfl) ?_
        refine lv_if_ne (pc := 49) (tgt := 60) hx hb dX7_then_49 (by decide) (fun hc => ?_) (fun hc => ?_)
        · replace hF := rp_if hc hF
          refine lv_aload_n (pc := 60) hx hb dX7_then_60 rfl (lv_at hl 0 rfl) ?_
          refine lv_iload_n (pc := 61) hx hb dX7_then_61 rfl (lv_at hl 2 rfl) ?_
          obtain ⟨r11, σ12, hq, hF⟩ := rp_bd_e hF
          refine rp_ki (rp_runV (rest := [.ref (a 0)]) hC (mE_ok _) hw hl.1 (mX7_pegOf (l := l) v2 σ10 _ hq) vw_X7_180 (by decide) (mt_obj _) rfl rfl rfl (Nat.le_of_ble_eq_true rfl) (by decide) dX7_then_62) hw (fun H locs hw => ?_)
          clear hq
          exact kX7_then_65 hC r11 σ12 _ _ _ hF hw (lv_sub hl [] rfl)
        · replace hF := rp_it hc hF
          refine lv_aload_n (pc := 52) hx hb dX7_then_52 rfl (lv_at hl 0 rfl) ?_
          refine lv_iload_n (pc := 53) hx hb dX7_then_53 rfl (lv_at hl 2 rfl) ?_
          obtain ⟨r13, σ14, hq, hF⟩ := rp_bd_e hF
          refine rp_ki (rp_runV (rest := [.ref (a 0)]) hC (mE_ok _) hw hl.1 (mX7_rue (l := l) v2 σ10 _ hq) vw_X7_197 (by decide) (mt_obj _) rfl rfl rfl (Nat.le_of_ble_eq_true rfl) (by decide) dX7_then_54) hw (fun H locs hw => ?_)
          clear hq
          refine lv_goto (pc := 57) (tgt := 65) hx hb dX7_then_57 (by decide) ?_
          exact kX7_then_65 hC r13 σ14 _ _ _ hF hw (lv_sub hl [] rfl)
      · replace hF := rp_it hc hF
        exact kX7_then_24 hC σ6 _ _ _ hF hw (lv_sub hl [0] rfl)
theorem mX7_then {l : Launch} {D : va_G} {cI cT : ClassId} {ad av a : Nat → Nat} (v1 : Int32) (v2 : Int32) (v3 : Int32) (σ : rp_St) (res : Int32 × rp_St) (hF : fX7_then v1 v2 v3 σ = some res) : mM l D cI cT ad av a yX7_then cX7_then 4 (some .int) 7 [.ref (a 0), .int v1, .int v2, .int v3] σ (rp_Qi D a (mt cI cT ad a) 15 res) :=
  rp_entry (by decide) (Nat.le_of_ble_eq_true rfl) (fun p e s m below meth c ls hC hw hl => kX7_then_0 hC v1 v2 v3 σ _ _ _ hF hw (lv_sub hl [0, 1, 2, 3] rfl))
def fX7_last_76 (v3 : Int32) (t0 : Int32) (σ : rp_St) : Option (Int32 × rp_St) :=
  rp_bd (fX7_copy 3 1 σ) (fun _ σ2 => (if t0 = 0 then rp_bd (fX7_finding (-1000000002) σ2) (fun r3 σ4 => some (r3, σ4)) else some (v3, σ2)))
set_option maxRecDepth 100000 in
set_option maxHeartbeats 4000000 in
theorem kX7_last_76 {p : Program} {l : Launch} {e : Env} {s : State} {m : MethodId} {args : Array Value} {below : List Frame} {meth : Method} {c : Code} {D : va_G} {cI cT : ClassId} {ad av a : Nat → Nat} {res : Int32 × rp_St} (hC : mC p s m args meth c cX7_last 5 "RegretPegsModel" (some .int) D cI cT ad av a) (v3 : Int32) (t0 : Int32) (σ : rp_St) (H : Heap) (locs : List Loc) (ls : Array Slot) (hF : fX7_last_76 v3 t0 σ = some res) (hw : mW D cI cT ad av a s σ H locs) (hl : lv_has ls 5 [(0, .ref (a 0)), (3, .int v3)]) : W p l e (rp_rm 6) s m args below meth c H locs 0 0 (MQ below (rp_Qi D a (mt cI cT ad a) 15 res) args s 0 0 (rp_A a 15)) (F0 m 76 ls [.int t0]) := by
  have hx := hC.1
  have hb := hC.2.1
  have hown := hC.2.2.2.1
  have hts := hC.2.2.2.2.1
  unfold fX7_last_76 at hF
  refine lv_istore (pc := 76) (lv' := [(4, .int t0), (0, .ref (a 0)), (3, .int v3)]) hx hb dX7_last_76 hl (by decide) rfl (fun ls hl => ?_)
  refine lv_aload_n (pc := 78) hx hb dX7_last_78 rfl (lv_at hl 1 rfl) ?_
  refine rp_get (pc := 79) hC hw 0 (by decide) (mt_obj _) fl_X7_16 (.ref (a 3)) rfl dX7_last_79 ?_
  refine lv_aload_n (pc := 82) hx hb dX7_last_82 rfl (lv_at hl 1 rfl) ?_
  refine rp_get (pc := 83) hC hw 0 (by decide) (mt_obj _) fl_X7_9 (.ref (a 1)) rfl dX7_last_83 ?_
  obtain ⟨r1, σ2, hq, hF⟩ := rp_bd_e hF
  refine rp_kv (rp_runZ (rest := []) hC (mE_ok _) hw hl.1 (mX7_copy (l := l) 3 (by decide) (mt_arr 3 221 rfl) 1 (by decide) (mt_arr 1 221 rfl) σ _ hq) zw_X7_69 rfl rfl (Nat.le_of_ble_eq_true rfl) (by decide) dX7_last_86) hw (fun H locs hw => ?_)
  clear hq
  refine lv_iload (pc := 89) hx hb dX7_last_89 (lv_at hl 0 rfl) ?_
  refine lv_if_eq (pc := 91) (tgt := 98) hx hb dX7_last_91 (by decide) (fun hc => ?_) (fun hc => ?_)
  · replace hF := rp_it hc hF
    refine lv_aload_n (pc := 98) hx hb dX7_last_98 rfl (lv_at hl 1 rfl) ?_
    refine lv_ldc (pc := 99) (v := (-1000000002)) hx hb hown (hts _ wd_989) dX7_last_99 ?_
    obtain ⟨r3, σ4, hq, hF⟩ := rp_bd_e hF
    refine rp_ki (rp_runV (rest := []) hC (mE_ok _) hw hl.1 (mX7_finding (l := l) (-1000000002) σ2 _ hq) vw_X7_78 (by decide) (mt_obj _) rfl rfl rfl (Nat.le_of_ble_eq_true rfl) (by decide) dX7_last_101) hw (fun H locs hw => ?_)
    clear hq
    exact rp_reti (pc := 104) hC hw hF dX7_last_104
  · replace hF := rp_if hc hF
    refine lv_iload_n (pc := 94) hx hb dX7_last_94 rfl (lv_at hl 2 rfl) ?_
    refine lv_goto (pc := 95) (tgt := 104) hx hb dX7_last_95 (by decide) ?_
    exact rp_reti (pc := 104) hC hw hF dX7_last_104
def fX7_last_62 (v1 : Int32) (v2 : Int32) (v3 : Int32) (σ : rp_St) : Option (Int32 × rp_St) :=
  rp_bd (fX7_pegOf v1 σ) (fun r1 σ2 => (if r1 = v2 then fX7_last_76 v3 1 σ2 else fX7_last_76 v3 0 σ2))
set_option maxRecDepth 100000 in
set_option maxHeartbeats 4000000 in
theorem kX7_last_62 {p : Program} {l : Launch} {e : Env} {s : State} {m : MethodId} {args : Array Value} {below : List Frame} {meth : Method} {c : Code} {D : va_G} {cI cT : ClassId} {ad av a : Nat → Nat} {res : Int32 × rp_St} (hC : mC p s m args meth c cX7_last 5 "RegretPegsModel" (some .int) D cI cT ad av a) (v1 : Int32) (v2 : Int32) (v3 : Int32) (σ : rp_St) (H : Heap) (locs : List Loc) (ls : Array Slot) (hF : fX7_last_62 v1 v2 v3 σ = some res) (hw : mW D cI cT ad av a s σ H locs) (hl : lv_has ls 5 [(0, .ref (a 0)), (1, .int v1), (2, .int v2), (3, .int v3)]) : W p l e (rp_rm 6) s m args below meth c H locs 0 0 (MQ below (rp_Qi D a (mt cI cT ad a) 15 res) args s 0 0 (rp_A a 15)) (F0 m 62 ls []) := by
  have hx := hC.1
  have hb := hC.2.1
  have hown := hC.2.2.2.1
  have hts := hC.2.2.2.2.1
  unfold fX7_last_62 at hF
  refine lv_aload_n (pc := 62) hx hb dX7_last_62 rfl (lv_at hl 0 rfl) ?_
  refine lv_iload_n (pc := 63) hx hb dX7_last_63 rfl (lv_at hl 1 rfl) ?_
  obtain ⟨r1, σ2, hq, hF⟩ := rp_bd_e hF
  refine rp_ki (rp_runV (rest := []) hC (mE_ok _) hw hl.1 (mX7_pegOf (l := l) v1 σ _ hq) vw_X7_180 (by decide) (mt_obj _) rfl rfl rfl (Nat.le_of_ble_eq_true rfl) (by decide) dX7_last_64) hw (fun H locs hw => ?_)
  clear hq
  refine lv_iload_n (pc := 67) hx hb dX7_last_67 rfl (lv_at hl 2 rfl) ?_
  refine lv_icmp_ne (pc := 68) (tgt := 75) hx hb dX7_last_68 (by decide) (fun hc => ?_) (fun hc => ?_)
  · replace hF := rp_if hc hF
    refine lv_iconst (pc := 75) (v := 0) hx hb dX7_last_75 (by decide) ?_
    exact kX7_last_76 hC v3 0 σ2 _ _ _ hF hw (lv_sub hl [0, 3] rfl)
  · replace hF := rp_it hc hF
    refine lv_iconst (pc := 71) (v := 1) hx hb dX7_last_71 (by decide) ?_
    refine lv_goto (pc := 72) (tgt := 76) hx hb dX7_last_72 (by decide) ?_
    exact kX7_last_76 hC v3 1 σ2 _ _ _ hF hw (lv_sub hl [0, 3] rfl)
def fX7_last_37 (k37 : Int32 → Int32 → Int32 → rp_St → Option (Int32 × rp_St)) (v1 : Int32) (v2 : Int32) (v3 : Int32) (σ : rp_St) : Option (Int32 × rp_St) :=
  (if 60 ≤ v3 then fX7_last_62 v1 v2 v3 σ else rp_bd (fX7_pegOf v1 σ) (fun r1 σ2 => (if r1 = v2 then fX7_last_62 v1 v2 v3 σ2 else rp_bd (fX7_hour σ2) (fun _ σ4 => rp_nm (v3 + 1) (fun x5 => k37 v1 v2 x5 σ4)))))
set_option maxRecDepth 100000 in
set_option maxHeartbeats 4000000 in
theorem kX7_last_37 {p : Program} {l : Launch} {e : Env} {s : State} {m : MethodId} {args : Array Value} {below : List Frame} {meth : Method} {c : Code} {D : va_G} {cI cT : ClassId} {ad av a : Nat → Nat} {res : Int32 × rp_St} (hC : mC p s m args meth c cX7_last 5 "RegretPegsModel" (some .int) D cI cT ad av a) (k37 : Int32 → Int32 → Int32 → rp_St → Option (Int32 × rp_St)) (hk37 : ∀ (v1 : Int32) (v2 : Int32) (v3 : Int32) (σ : rp_St) (H : Heap) (locs : List Loc) (ls : Array Slot), k37 v1 v2 v3 σ = some res → mW D cI cT ad av a s σ H locs → lv_has ls 5 [(0, .ref (a 0)), (1, .int v1), (2, .int v2), (3, .int v3)] → W p l e (rp_rm 6) s m args below meth c H locs 0 0 (MQ below (rp_Qi D a (mt cI cT ad a) 15 res) args s 0 0 (rp_A a 15)) (F0 m 37 ls [])) (v1 : Int32) (v2 : Int32) (v3 : Int32) (σ : rp_St) (H : Heap) (locs : List Loc) (ls : Array Slot) (hF : fX7_last_37 k37 v1 v2 v3 σ = some res) (hw : mW D cI cT ad av a s σ H locs) (hl : lv_has ls 5 [(0, .ref (a 0)), (1, .int v1), (2, .int v2), (3, .int v3)]) : W p l e (rp_rm 6) s m args below meth c H locs 0 0 (MQ below (rp_Qi D a (mt cI cT ad a) 15 res) args s 0 0 (rp_A a 15)) (F0 m 37 ls []) := by
  have hx := hC.1
  have hb := hC.2.1
  have hown := hC.2.2.2.1
  have hts := hC.2.2.2.2.1
  unfold fX7_last_37 at hF
  refine lv_iload_n (pc := 37) hx hb dX7_last_37 rfl (lv_at hl 3 rfl) ?_
  refine lv_bipush (pc := 38) (v := 60) hx hb dX7_last_38 (by decide) ?_
  refine lv_icmp_ge (pc := 40) (tgt := 62) hx hb dX7_last_40 (by decide) (fun hc => ?_) (fun hc => ?_)
  · replace hF := rp_it hc hF
    exact kX7_last_62 hC v1 v2 v3 σ _ _ _ hF hw (lv_sub hl [0, 1, 2, 3] rfl)
  · replace hF := rp_if hc hF
    refine lv_aload_n (pc := 43) hx hb dX7_last_43 rfl (lv_at hl 0 rfl) ?_
    refine lv_iload_n (pc := 44) hx hb dX7_last_44 rfl (lv_at hl 1 rfl) ?_
    obtain ⟨r1, σ2, hq, hF⟩ := rp_bd_e hF
    refine rp_ki (rp_runV (rest := []) hC (mE_ok _) hw hl.1 (mX7_pegOf (l := l) v1 σ _ hq) vw_X7_180 (by decide) (mt_obj _) rfl rfl rfl (Nat.le_of_ble_eq_true rfl) (by decide) dX7_last_45) hw (fun H locs hw => ?_)
    clear hq
    refine lv_iload_n (pc := 48) hx hb dX7_last_48 rfl (lv_at hl 2 rfl) ?_
    refine lv_icmp_eq (pc := 49) (tgt := 62) hx hb dX7_last_49 (by decide) (fun hc => ?_) (fun hc => ?_)
    · replace hF := rp_it hc hF
      exact kX7_last_62 hC v1 v2 v3 σ2 _ _ _ hF hw (lv_sub hl [0, 1, 2, 3] rfl)
    · replace hF := rp_if hc hF
      refine lv_aload_n (pc := 52) hx hb dX7_last_52 rfl (lv_at hl 0 rfl) ?_
      obtain ⟨r3, σ4, hq, hF⟩ := rp_bd_e hF
      refine rp_kv (rp_runV (rest := []) hC (mE_ok _) hw hl.1 (mX7_hour (l := l) σ2 _ hq) vw_X7_214 (by decide) (mt_obj _) rfl rfl rfl (Nat.le_of_ble_eq_true rfl) (by decide) dX7_last_53) hw (fun H locs hw => ?_)
      clear hq
      obtain ⟨x5, ex5, hF⟩ := rp_nm_e hF
      refine lv_iinc (pc := 56) (v := x5) (lv' := [(3, .int x5), (0, .ref (a 0)), (1, .int v1), (2, .int v2)]) hx hb dX7_last_56 hl (k := 3) rfl (by rw [ex5]; rfl) (by decide) rfl (fun ls hl => ?_)
      refine lv_goto (pc := 59) (tgt := 37) hx hb dX7_last_59 (by decide) ?_
      exact hk37 v1 v2 x5 σ4 _ _ _ hF hw (lv_sub hl [1, 2, 3, 0] rfl)
theorem lX7_last_37 {p : Program} {l : Launch} {e : Env} {s : State} {m : MethodId} {args : Array Value} {below : List Frame} {meth : Method} {c : Code} {D : va_G} {cI cT : ClassId} {ad av a : Nat → Nat} {res : Int32 × rp_St} (hC : mC p s m args meth c cX7_last 5 "RegretPegsModel" (some .int) D cI cT ad av a) : ∀ (n : Nat) (v1 : Int32) (v2 : Int32) (v3 : Int32) (σ : rp_St) (H : Heap) (locs : List Loc) (ls : Array Slot), rp_lp (fun _ _ _ _ => none) (fX7_last_37) n v1 v2 v3 σ = some res → mW D cI cT ad av a s σ H locs → lv_has ls 5 [(0, .ref (a 0)), (1, .int v1), (2, .int v2), (3, .int v3)] → W p l e (rp_rm 6) s m args below meth c H locs 0 0 (MQ below (rp_Qi D a (mt cI cT ad a) 15 res) args s 0 0 (rp_A a 15)) (F0 m 37 ls [])
  | 0, _, _, _, _, _, _, _, hF, _, _ => nomatch hF
  | n + 1, v1, v2, v3, σ, H, locs, ls, hF, hw, hl => kX7_last_37 hC (rp_lp (fun _ _ _ _ => none) (fX7_last_37) n) (lX7_last_37 hC n) v1 v2 v3 σ H locs ls hF hw hl
def fX7_last (v1 : Int32) (σ : rp_St) : Option (Int32 × rp_St) :=
  rp_bd (fX7_isGuest v1 σ) (fun r1 σ2 => (if r1 = 0 then rp_bd (fX7_finding (-1000000001) σ2) (fun r6 σ7 => some (r6, σ7)) else rp_bd (fX7_copy 1 3 σ2) (fun _ σ4 => rp_gu (rp_in 1 221) (rp_nm ((σ4 1 (1 : Int32).toNatClampNeg) - 1) (fun x5 => rp_lp (fun _ _ _ _ => none) (fX7_last_37) 300 v1 x5 0 σ4)))))
set_option maxRecDepth 100000 in
set_option maxHeartbeats 4000000 in
theorem kX7_last_0 {p : Program} {l : Launch} {e : Env} {s : State} {m : MethodId} {args : Array Value} {below : List Frame} {meth : Method} {c : Code} {D : va_G} {cI cT : ClassId} {ad av a : Nat → Nat} {res : Int32 × rp_St} (hC : mC p s m args meth c cX7_last 5 "RegretPegsModel" (some .int) D cI cT ad av a) (v1 : Int32) (σ : rp_St) (H : Heap) (locs : List Loc) (ls : Array Slot) (hF : fX7_last v1 σ = some res) (hw : mW D cI cT ad av a s σ H locs) (hl : lv_has ls 5 [(0, .ref (a 0)), (1, .int v1)]) : W p l e (rp_rm 6) s m args below meth c H locs 0 0 (MQ below (rp_Qi D a (mt cI cT ad a) 15 res) args s 0 0 (rp_A a 15)) (F0 m 0 ls []) := by
  have hx := hC.1
  have hb := hC.2.1
  have hown := hC.2.2.2.1
  have hts := hC.2.2.2.2.1
  unfold fX7_last at hF
  refine lv_aload_n (pc := 0) hx hb dX7_last_0 rfl (lv_at hl 0 rfl) ?_
  refine lv_iload_n (pc := 1) hx hb dX7_last_1 rfl (lv_at hl 1 rfl) ?_
  obtain ⟨r1, σ2, hq, hF⟩ := rp_bd_e hF
  refine rp_ki (rp_runV (rest := []) hC (mE_ok _) hw hl.1 (mX7_isGuest (l := l) v1 σ _ hq) vw_X7_159 (by decide) (mt_obj _) rfl rfl rfl (Nat.le_of_ble_eq_true rfl) (by decide) dX7_last_2) hw (fun H locs hw => ?_)
  clear hq
  refine lv_if_ne (pc := 5) (tgt := 15) hx hb dX7_last_5 (by decide) (fun hc => ?_) (fun hc => ?_)
  · replace hF := rp_if hc hF
    refine lv_aload_n (pc := 15) hx hb dX7_last_15 rfl (lv_at hl 0 rfl) ?_
    refine rp_get (pc := 16) hC hw 0 (by decide) (mt_obj _) fl_X7_9 (.ref (a 1)) rfl dX7_last_16 ?_
    refine lv_aload_n (pc := 19) hx hb dX7_last_19 rfl (lv_at hl 0 rfl) ?_
    refine rp_get (pc := 20) hC hw 0 (by decide) (mt_obj _) fl_X7_16 (.ref (a 3)) rfl dX7_last_20 ?_
    obtain ⟨r3, σ4, hq, hF⟩ := rp_bd_e hF
    refine rp_kv (rp_runZ (rest := []) hC (mE_ok _) hw hl.1 (mX7_copy (l := l) 1 (by decide) (mt_arr 1 221 rfl) 3 (by decide) (mt_arr 3 221 rfl) σ2 _ hq) zw_X7_69 rfl rfl (Nat.le_of_ble_eq_true rfl) (by decide) dX7_last_23) hw (fun H locs hw => ?_)
    clear hq
    refine lv_aload_n (pc := 26) hx hb dX7_last_26 rfl (lv_at hl 0 rfl) ?_
    refine rp_get (pc := 27) hC hw 0 (by decide) (mt_obj _) fl_X7_9 (.ref (a 1)) rfl dX7_last_27 ?_
    refine lv_iconst (pc := 30) (v := 1) hx hb dX7_last_30 (by decide) ?_
    obtain ⟨hg, hF⟩ := rp_gu_e hF
    refine rp_ald (pc := 31) hC hw 1 (by decide) (mt_arr 1 221 rfl) 0 rfl hg dX7_last_31 ?_
    refine lv_iconst (pc := 32) (v := 1) hx hb dX7_last_32 (by decide) ?_
    refine lv_isub (pc := 33) hx hb dX7_last_33 ?_
    obtain ⟨x5, ex5, hF⟩ := rp_nm_e hF
    refine rp_top ex5 ?_
    refine lv_istore_n (pc := 34) (lv' := [(2, .int x5), (0, .ref (a 0)), (1, .int v1)]) hx hb dX7_last_34 rfl hl (by decide) rfl (fun ls hl => ?_)
    refine lv_iconst (pc := 35) (v := 0) hx hb dX7_last_35 (by decide) ?_
    refine lv_istore_n (pc := 36) (lv' := [(3, .int 0), (2, .int x5), (0, .ref (a 0)), (1, .int v1)]) hx hb dX7_last_36 rfl hl (by decide) rfl (fun ls hl => ?_)
    exact lX7_last_37 hC 300 v1 x5 0 σ4 _ _ _ hF hw (lv_sub hl [2, 3, 1, 0] rfl)
  · replace hF := rp_it hc hF
    refine lv_aload_n (pc := 8) hx hb dX7_last_8 rfl (lv_at hl 0 rfl) ?_
    refine lv_ldc (pc := 9) (v := (-1000000001)) hx hb hown (hts _ wd_721) dX7_last_9 ?_
    obtain ⟨r6, σ7, hq, hF⟩ := rp_bd_e hF
    refine rp_ki (rp_runV (rest := []) hC (mE_ok _) hw hl.1 (mX7_finding (l := l) (-1000000001) σ2 _ hq) vw_X7_78 (by decide) (mt_obj _) rfl rfl rfl (Nat.le_of_ble_eq_true rfl) (by decide) dX7_last_11) hw (fun H locs hw => ?_)
    clear hq
    exact rp_reti (pc := 14) hC hw hF dX7_last_14
theorem mX7_last {l : Launch} {D : va_G} {cI cT : ClassId} {ad av a : Nat → Nat} (v1 : Int32) (σ : rp_St) (res : Int32 × rp_St) (hF : fX7_last v1 σ = some res) : mM l D cI cT ad av a yX7_last cX7_last 5 (some .int) 6 [.ref (a 0), .int v1] σ (rp_Qi D a (mt cI cT ad a) 15 res) :=
  rp_entry (by decide) (Nat.le_of_ble_eq_true rfl) (fun p e s m below meth c ls hC hw hl => kX7_last_0 hC v1 σ _ _ _ hF hw (lv_sub hl [0, 1] rfl))
def fX7_pegWith (v1 : Int32) (v2 : Int32) (v3 : Int32) (σ : rp_St) : Option (Int32 × rp_St) :=
  rp_bd (fX7_copy 1 3 σ) (fun _ σ2 => rp_bd (fX7_dancing v1 v2 σ2) (fun _ σ4 => rp_bd (fX7_hoursGo v3 σ4) (fun _ σ6 => rp_bd (fX7_pegOf v1 σ6) (fun r7 σ8 => rp_bd (fX7_putBack r7 σ8) (fun r9 σ10 => some (r9, σ10))))))
set_option maxRecDepth 100000 in
set_option maxHeartbeats 4000000 in
theorem kX7_pegWith_0 {p : Program} {l : Launch} {e : Env} {s : State} {m : MethodId} {args : Array Value} {below : List Frame} {meth : Method} {c : Code} {D : va_G} {cI cT : ClassId} {ad av a : Nat → Nat} {res : Int32 × rp_St} (hC : mC p s m args meth c cX7_pegWith 4 "RegretPegsModel" (some .int) D cI cT ad av a) (v1 : Int32) (v2 : Int32) (v3 : Int32) (σ : rp_St) (H : Heap) (locs : List Loc) (ls : Array Slot) (hF : fX7_pegWith v1 v2 v3 σ = some res) (hw : mW D cI cT ad av a s σ H locs) (hl : lv_has ls 4 [(0, .ref (a 0)), (1, .int v1), (2, .int v2), (3, .int v3)]) : W p l e (rp_rm 7) s m args below meth c H locs 0 0 (MQ below (rp_Qi D a (mt cI cT ad a) 15 res) args s 0 0 (rp_A a 15)) (F0 m 0 ls []) := by
  have hx := hC.1
  have hb := hC.2.1
  have hown := hC.2.2.2.1
  have hts := hC.2.2.2.2.1
  unfold fX7_pegWith at hF
  refine lv_aload_n (pc := 0) hx hb dX7_pegWith_0 rfl (lv_at hl 0 rfl) ?_
  refine rp_get (pc := 1) hC hw 0 (by decide) (mt_obj _) fl_X7_9 (.ref (a 1)) rfl dX7_pegWith_1 ?_
  refine lv_aload_n (pc := 4) hx hb dX7_pegWith_4 rfl (lv_at hl 0 rfl) ?_
  refine rp_get (pc := 5) hC hw 0 (by decide) (mt_obj _) fl_X7_16 (.ref (a 3)) rfl dX7_pegWith_5 ?_
  obtain ⟨r1, σ2, hq, hF⟩ := rp_bd_e hF
  refine rp_kv (rp_runZ (rest := []) hC (mE_ok _) hw hl.1 (mX7_copy (l := l) 1 (by decide) (mt_arr 1 221 rfl) 3 (by decide) (mt_arr 3 221 rfl) σ _ hq) zw_X7_69 rfl rfl (Nat.le_of_ble_eq_true rfl) (by decide) dX7_pegWith_8) hw (fun H locs hw => ?_)
  clear hq
  refine lv_aload_n (pc := 11) hx hb dX7_pegWith_11 rfl (lv_at hl 0 rfl) ?_
  refine lv_iload_n (pc := 12) hx hb dX7_pegWith_12 rfl (lv_at hl 1 rfl) ?_
  refine lv_iload_n (pc := 13) hx hb dX7_pegWith_13 rfl (lv_at hl 2 rfl) ?_
  obtain ⟨r3, σ4, hq, hF⟩ := rp_bd_e hF
  refine rp_kv (rp_runV (rest := []) hC (mE_ok _) hw hl.1 (mX7_dancing (l := l) v1 v2 σ2 _ hq) vw_X7_208 (by decide) (mt_obj _) rfl rfl rfl (Nat.le_of_ble_eq_true rfl) (by decide) dX7_pegWith_14) hw (fun H locs hw => ?_)
  clear hq
  refine lv_aload_n (pc := 17) hx hb dX7_pegWith_17 rfl (lv_at hl 0 rfl) ?_
  refine lv_iload_n (pc := 18) hx hb dX7_pegWith_18 rfl (lv_at hl 3 rfl) ?_
  obtain ⟨r5, σ6, hq, hF⟩ := rp_bd_e hF
  refine rp_kv (rp_runV (rest := []) hC (mE_ok _) hw hl.1 (mX7_hoursGo (l := l) v3 σ4 _ hq) vw_X7_217 (by decide) (mt_obj _) rfl rfl rfl (Nat.le_of_ble_eq_true rfl) (by decide) dX7_pegWith_19) hw (fun H locs hw => ?_)
  clear hq
  refine lv_aload_n (pc := 22) hx hb dX7_pegWith_22 rfl (lv_at hl 0 rfl) ?_
  refine lv_aload_n (pc := 23) hx hb dX7_pegWith_23 rfl (lv_at hl 0 rfl) ?_
  refine lv_iload_n (pc := 24) hx hb dX7_pegWith_24 rfl (lv_at hl 1 rfl) ?_
  obtain ⟨r7, σ8, hq, hF⟩ := rp_bd_e hF
  refine rp_ki (rp_runV (rest := [.ref (a 0)]) hC (mE_ok _) hw hl.1 (mX7_pegOf (l := l) v1 σ6 _ hq) vw_X7_180 (by decide) (mt_obj _) rfl rfl rfl (Nat.le_of_ble_eq_true rfl) (by decide) dX7_pegWith_25) hw (fun H locs hw => ?_)
  clear hq
  obtain ⟨r9, σ10, hq, hF⟩ := rp_bd_e hF
  refine rp_ki (rp_runV (rest := []) hC (mE_ok _) hw hl.1 (mX7_putBack (l := l) r7 σ8 _ hq) vw_X7_233 (by decide) (mt_obj _) rfl rfl rfl (Nat.le_of_ble_eq_true rfl) (by decide) dX7_pegWith_28) hw (fun H locs hw => ?_)
  clear hq
  exact rp_reti (pc := 31) hC hw hF dX7_pegWith_31
theorem mX7_pegWith {l : Launch} {D : va_G} {cI cT : ClassId} {ad av a : Nat → Nat} (v1 : Int32) (v2 : Int32) (v3 : Int32) (σ : rp_St) (res : Int32 × rp_St) (hF : fX7_pegWith v1 v2 v3 σ = some res) : mM l D cI cT ad av a yX7_pegWith cX7_pegWith 4 (some .int) 7 [.ref (a 0), .int v1, .int v2, .int v3] σ (rp_Qi D a (mt cI cT ad a) 15 res) :=
  rp_entry (by decide) (Nat.le_of_ble_eq_true rfl) (fun p e s m below meth c ls hC hw hl => kX7_pegWith_0 hC v1 v2 v3 σ _ _ _ hF hw (lv_sub hl [0, 1, 2, 3] rfl))
def fX7_partner_24 (σ : rp_St) : Option (Int32 × rp_St) :=
  rp_bd (fX7_finding (-1000000001) σ) (fun r1 σ2 => some (r1, σ2))
set_option maxRecDepth 100000 in
set_option maxHeartbeats 4000000 in
theorem kX7_partner_24 {p : Program} {l : Launch} {e : Env} {s : State} {m : MethodId} {args : Array Value} {below : List Frame} {meth : Method} {c : Code} {D : va_G} {cI cT : ClassId} {ad av a : Nat → Nat} {res : Int32 × rp_St} (hC : mC p s m args meth c cX7_partner 8 "RegretPegsModel" (some .int) D cI cT ad av a) (σ : rp_St) (H : Heap) (locs : List Loc) (ls : Array Slot) (hF : fX7_partner_24 σ = some res) (hw : mW D cI cT ad av a s σ H locs) (hl : lv_has ls 8 [(0, .ref (a 0))]) : W p l e (rp_rm 8) s m args below meth c H locs 0 0 (MQ below (rp_Qi D a (mt cI cT ad a) 15 res) args s 0 0 (rp_A a 15)) (F0 m 24 ls []) := by
  have hx := hC.1
  have hb := hC.2.1
  have hown := hC.2.2.2.1
  have hts := hC.2.2.2.2.1
  unfold fX7_partner_24 at hF
  refine lv_aload_n (pc := 24) hx hb dX7_partner_24 rfl (lv_at hl 0 rfl) ?_
  refine lv_ldc (pc := 25) (v := (-1000000001)) hx hb hown (hts _ wd_721) dX7_partner_25 ?_
  obtain ⟨r1, σ2, hq, hF⟩ := rp_bd_e hF
  refine rp_ki (rp_runV (rest := []) hC (mE_ok _) hw hl.1 (mX7_finding (l := l) (-1000000001) σ _ hq) vw_X7_78 (by decide) (mt_obj _) rfl rfl rfl (Nat.le_of_ble_eq_true rfl) (by decide) dX7_partner_27) hw (fun H locs hw => ?_)
  clear hq
  exact rp_reti (pc := 30) hC hw hF dX7_partner_30
def fX7_partner_87 (k41 : Int32 → Int32 → Int32 → Int32 → Int32 → Int32 → rp_St → Option (Int32 × rp_St)) (v1 : Int32) (v2 : Int32) (v3 : Int32) (v5 : Int32) (v6 : Int32) (v7 : Int32) (t0 : Int32) (σ : rp_St) : Option (Int32 × rp_St) :=
  rp_nm (if v7 < v5 then v7 else v5) (fun x1 => rp_nm (v6 + 1) (fun x2 => k41 v1 v2 v3 t0 x1 x2 σ))
set_option maxRecDepth 100000 in
set_option maxHeartbeats 4000000 in
theorem kX7_partner_87 {p : Program} {l : Launch} {e : Env} {s : State} {m : MethodId} {args : Array Value} {below : List Frame} {meth : Method} {c : Code} {D : va_G} {cI cT : ClassId} {ad av a : Nat → Nat} {res : Int32 × rp_St} (hC : mC p s m args meth c cX7_partner 8 "RegretPegsModel" (some .int) D cI cT ad av a) (k41 : Int32 → Int32 → Int32 → Int32 → Int32 → Int32 → rp_St → Option (Int32 × rp_St)) (hk41 : ∀ (v1 : Int32) (v2 : Int32) (v3 : Int32) (v4 : Int32) (v5 : Int32) (v6 : Int32) (σ : rp_St) (H : Heap) (locs : List Loc) (ls : Array Slot), k41 v1 v2 v3 v4 v5 v6 σ = some res → mW D cI cT ad av a s σ H locs → lv_has ls 8 [(0, .ref (a 0)), (1, .int v1), (2, .int v2), (3, .int v3), (4, .int v4), (5, .int v5), (6, .int v6)] → W p l e (rp_rm 8) s m args below meth c H locs 0 0 (MQ below (rp_Qi D a (mt cI cT ad a) 15 res) args s 0 0 (rp_A a 15)) (F0 m 41 ls [])) (v1 : Int32) (v2 : Int32) (v3 : Int32) (v5 : Int32) (v6 : Int32) (v7 : Int32) (t0 : Int32) (σ : rp_St) (H : Heap) (locs : List Loc) (ls : Array Slot) (hF : fX7_partner_87 k41 v1 v2 v3 v5 v6 v7 t0 σ = some res) (hw : mW D cI cT ad av a s σ H locs) (hl : lv_has ls 8 [(0, .ref (a 0)), (1, .int v1), (2, .int v2), (3, .int v3), (5, .int v5), (6, .int v6), (7, .int v7)]) : W p l e (rp_rm 8) s m args below meth c H locs 0 0 (MQ below (rp_Qi D a (mt cI cT ad a) 15 res) args s 0 0 (rp_A a 15)) (F0 m 87 ls [.int t0]) := by
  have hx := hC.1
  have hb := hC.2.1
  have hown := hC.2.2.2.1
  have hts := hC.2.2.2.2.1
  unfold fX7_partner_87 at hF
  refine lv_istore (pc := 87) (lv' := [(4, .int t0), (0, .ref (a 0)), (1, .int v1), (2, .int v2), (3, .int v3), (5, .int v5), (6, .int v6), (7, .int v7)]) hx hb dX7_partner_87 hl (by decide) rfl (fun ls hl => ?_)
  refine lv_iload (pc := 89) hx hb dX7_partner_89 (lv_at hl 5 rfl) ?_
  refine lv_iload (pc := 91) hx hb dX7_partner_91 (lv_at hl 7 rfl) ?_
  refine rp_min (pc := 93) hC hl.1 wd_843 wd_314 wd_9 wd_315 (Nat.le_of_ble_eq_true rfl) (by omega) dX7_partner_93 ?_
  obtain ⟨x1, ex1, hF⟩ := rp_nm_e hF
  refine rp_top ex1 ?_
  refine lv_istore (pc := 96) (lv' := [(5, .int x1), (4, .int t0), (0, .ref (a 0)), (1, .int v1), (2, .int v2), (3, .int v3), (6, .int v6), (7, .int v7)]) hx hb dX7_partner_96 hl (by decide) rfl (fun ls hl => ?_)
  obtain ⟨x2, ex2, hF⟩ := rp_nm_e hF
  refine lv_iinc (pc := 98) (v := x2) (lv' := [(6, .int x2), (5, .int x1), (4, .int t0), (0, .ref (a 0)), (1, .int v1), (2, .int v2), (3, .int v3), (7, .int v7)]) hx hb dX7_partner_98 hl (k := 6) rfl (by rw [ex2]; rfl) (by decide) rfl (fun ls hl => ?_)
  refine lv_goto (pc := 101) (tgt := 41) hx hb dX7_partner_101 (by decide) ?_
  exact hk41 v1 v2 v3 t0 x1 x2 σ _ _ _ hF hw (lv_sub hl [3, 4, 5, 6, 2, 1, 0] rfl)
def fX7_partner_71 (k41 : Int32 → Int32 → Int32 → Int32 → Int32 → Int32 → rp_St → Option (Int32 × rp_St)) (v1 : Int32) (v2 : Int32) (v3 : Int32) (v4 : Int32) (v5 : Int32) (v6 : Int32) (t0 : Int32) (σ : rp_St) : Option (Int32 × rp_St) :=
  (if v5 ≤ t0 then fX7_partner_87 k41 v1 v2 v3 v5 v6 t0 v4 σ else fX7_partner_87 k41 v1 v2 v3 v5 v6 t0 v6 σ)
set_option maxRecDepth 100000 in
set_option maxHeartbeats 4000000 in
theorem kX7_partner_71 {p : Program} {l : Launch} {e : Env} {s : State} {m : MethodId} {args : Array Value} {below : List Frame} {meth : Method} {c : Code} {D : va_G} {cI cT : ClassId} {ad av a : Nat → Nat} {res : Int32 × rp_St} (hC : mC p s m args meth c cX7_partner 8 "RegretPegsModel" (some .int) D cI cT ad av a) (k41 : Int32 → Int32 → Int32 → Int32 → Int32 → Int32 → rp_St → Option (Int32 × rp_St)) (hk41 : ∀ (v1 : Int32) (v2 : Int32) (v3 : Int32) (v4 : Int32) (v5 : Int32) (v6 : Int32) (σ : rp_St) (H : Heap) (locs : List Loc) (ls : Array Slot), k41 v1 v2 v3 v4 v5 v6 σ = some res → mW D cI cT ad av a s σ H locs → lv_has ls 8 [(0, .ref (a 0)), (1, .int v1), (2, .int v2), (3, .int v3), (4, .int v4), (5, .int v5), (6, .int v6)] → W p l e (rp_rm 8) s m args below meth c H locs 0 0 (MQ below (rp_Qi D a (mt cI cT ad a) 15 res) args s 0 0 (rp_A a 15)) (F0 m 41 ls [])) (v1 : Int32) (v2 : Int32) (v3 : Int32) (v4 : Int32) (v5 : Int32) (v6 : Int32) (t0 : Int32) (σ : rp_St) (H : Heap) (locs : List Loc) (ls : Array Slot) (hF : fX7_partner_71 k41 v1 v2 v3 v4 v5 v6 t0 σ = some res) (hw : mW D cI cT ad av a s σ H locs) (hl : lv_has ls 8 [(0, .ref (a 0)), (1, .int v1), (2, .int v2), (3, .int v3), (4, .int v4), (5, .int v5), (6, .int v6)]) : W p l e (rp_rm 8) s m args below meth c H locs 0 0 (MQ below (rp_Qi D a (mt cI cT ad a) 15 res) args s 0 0 (rp_A a 15)) (F0 m 71 ls [.int t0]) := by
  have hx := hC.1
  have hb := hC.2.1
  have hown := hC.2.2.2.1
  have hts := hC.2.2.2.2.1
  unfold fX7_partner_71 at hF
  refine lv_istore (pc := 71) (lv' := [(7, .int t0), (0, .ref (a 0)), (1, .int v1), (2, .int v2), (3, .int v3), (4, .int v4), (5, .int v5), (6, .int v6)]) hx hb dX7_partner_71 hl (by decide) rfl (fun ls hl => ?_)
  refine lv_iload (pc := 73) hx hb dX7_partner_73 (lv_at hl 0 rfl) ?_
  refine lv_iload (pc := 75) hx hb dX7_partner_75 (lv_at hl 6 rfl) ?_
  refine lv_icmp_ge (pc := 77) (tgt := 85) hx hb dX7_partner_77 (by decide) (fun hc => ?_) (fun hc => ?_)
  · replace hF := rp_it hc hF
    refine lv_iload (pc := 85) hx hb dX7_partner_85 (lv_at hl 5 rfl) ?_
    exact kX7_partner_87 hC k41 hk41 v1 v2 v3 v5 v6 t0 v4 σ _ _ _ hF hw (lv_sub hl [1, 2, 3, 4, 6, 7, 0] rfl)
  · replace hF := rp_if hc hF
    refine lv_iload (pc := 80) hx hb dX7_partner_80 (lv_at hl 7 rfl) ?_
    refine lv_goto (pc := 82) (tgt := 87) hx hb dX7_partner_82 (by decide) ?_
    exact kX7_partner_87 hC k41 hk41 v1 v2 v3 v5 v6 t0 v6 σ _ _ _ hF hw (lv_sub hl [1, 2, 3, 4, 6, 7, 0] rfl)
def fX7_partner_41 (k41 : Int32 → Int32 → Int32 → Int32 → Int32 → Int32 → rp_St → Option (Int32 × rp_St)) (v1 : Int32) (v2 : Int32) (v3 : Int32) (v4 : Int32) (v5 : Int32) (v6 : Int32) (σ : rp_St) : Option (Int32 × rp_St) :=
  rp_gu (rp_in 1 221) ((if (σ 1 (1 : Int32).toNatClampNeg) ≤ v6 then (if 0 ≤ v4 then (if v3 = 0 then some (v4, σ) else some (v5, σ)) else rp_bd (fX7_finding (-1000000002) σ) (fun r1 σ2 => some (r1, σ2))) else (if v6 = v1 then fX7_partner_71 k41 v1 v2 v3 v4 v5 v6 7 σ else rp_bd (fX7_pegWith v1 v6 v2 σ) (fun r3 σ4 => fX7_partner_71 k41 v1 v2 v3 v4 v5 v6 r3 σ4))))
set_option maxRecDepth 100000 in
set_option maxHeartbeats 4000000 in
theorem kX7_partner_41 {p : Program} {l : Launch} {e : Env} {s : State} {m : MethodId} {args : Array Value} {below : List Frame} {meth : Method} {c : Code} {D : va_G} {cI cT : ClassId} {ad av a : Nat → Nat} {res : Int32 × rp_St} (hC : mC p s m args meth c cX7_partner 8 "RegretPegsModel" (some .int) D cI cT ad av a) (k41 : Int32 → Int32 → Int32 → Int32 → Int32 → Int32 → rp_St → Option (Int32 × rp_St)) (hk41 : ∀ (v1 : Int32) (v2 : Int32) (v3 : Int32) (v4 : Int32) (v5 : Int32) (v6 : Int32) (σ : rp_St) (H : Heap) (locs : List Loc) (ls : Array Slot), k41 v1 v2 v3 v4 v5 v6 σ = some res → mW D cI cT ad av a s σ H locs → lv_has ls 8 [(0, .ref (a 0)), (1, .int v1), (2, .int v2), (3, .int v3), (4, .int v4), (5, .int v5), (6, .int v6)] → W p l e (rp_rm 8) s m args below meth c H locs 0 0 (MQ below (rp_Qi D a (mt cI cT ad a) 15 res) args s 0 0 (rp_A a 15)) (F0 m 41 ls [])) (v1 : Int32) (v2 : Int32) (v3 : Int32) (v4 : Int32) (v5 : Int32) (v6 : Int32) (σ : rp_St) (H : Heap) (locs : List Loc) (ls : Array Slot) (hF : fX7_partner_41 k41 v1 v2 v3 v4 v5 v6 σ = some res) (hw : mW D cI cT ad av a s σ H locs) (hl : lv_has ls 8 [(0, .ref (a 0)), (1, .int v1), (2, .int v2), (3, .int v3), (4, .int v4), (5, .int v5), (6, .int v6)]) : W p l e (rp_rm 8) s m args below meth c H locs 0 0 (MQ below (rp_Qi D a (mt cI cT ad a) 15 res) args s 0 0 (rp_A a 15)) (F0 m 41 ls []) := by
  have hx := hC.1
  have hb := hC.2.1
  have hown := hC.2.2.2.1
  have hts := hC.2.2.2.2.1
  unfold fX7_partner_41 at hF
  refine lv_iload (pc := 41) hx hb dX7_partner_41 (lv_at hl 6 rfl) ?_
  refine lv_aload_n (pc := 43) hx hb dX7_partner_43 rfl (lv_at hl 0 rfl) ?_
  refine rp_get (pc := 44) hC hw 0 (by decide) (mt_obj _) fl_X7_9 (.ref (a 1)) rfl dX7_partner_44 ?_
  refine lv_iconst (pc := 47) (v := 1) hx hb dX7_partner_47 (by decide) ?_
  obtain ⟨hg, hF⟩ := rp_gu_e hF
  refine rp_ald (pc := 48) hC hw 1 (by decide) (mt_arr 1 221 rfl) 0 rfl hg dX7_partner_48 ?_
  refine lv_icmp_ge (pc := 49) (tgt := 104) hx hb dX7_partner_49 (by decide) (fun hc => ?_) (fun hc => ?_)
  · replace hF := rp_it hc hF
    refine lv_iload (pc := 104) hx hb dX7_partner_104 (lv_at hl 4 rfl) ?_
    refine lv_if_ge (pc := 106) (tgt := 118) hx hb dX7_partner_106 (by decide) (fun hc => ?_) (fun hc => ?_)
    · replace hF := rp_it hc hF
      refine lv_iload_n (pc := 118) hx hb dX7_partner_118 rfl (lv_at hl 3 rfl) ?_
      refine lv_if_ne (pc := 119) (tgt := 127) hx hb dX7_partner_119 (by decide) (fun hc => ?_) (fun hc => ?_)
      · replace hF := rp_if hc hF
        refine lv_iload (pc := 127) hx hb dX7_partner_127 (lv_at hl 5 rfl) ?_
        exact rp_reti (pc := 129) hC hw hF dX7_partner_129
      · replace hF := rp_it hc hF
        refine lv_iload (pc := 122) hx hb dX7_partner_122 (lv_at hl 4 rfl) ?_
        refine lv_goto (pc := 124) (tgt := 129) hx hb dX7_partner_124 (by decide) ?_
        exact rp_reti (pc := 129) hC hw hF dX7_partner_129
    · replace hF := rp_if hc hF
      refine lv_aload_n (pc := 109) hx hb dX7_partner_109 rfl (lv_at hl 0 rfl) ?_
      refine lv_ldc (pc := 110) (v := (-1000000002)) hx hb hown (hts _ wd_989) dX7_partner_110 ?_
      obtain ⟨r1, σ2, hq, hF⟩ := rp_bd_e hF
      refine rp_ki (rp_runV (rest := []) hC (mE_ok _) hw hl.1 (mX7_finding (l := l) (-1000000002) σ _ hq) vw_X7_78 (by decide) (mt_obj _) rfl rfl rfl (Nat.le_of_ble_eq_true rfl) (by decide) dX7_partner_112) hw (fun H locs hw => ?_)
      clear hq
      refine lv_goto (pc := 115) (tgt := 129) hx hb dX7_partner_115 (by decide) ?_
      exact rp_reti (pc := 129) hC hw hF dX7_partner_129
  · replace hF := rp_if hc hF
    refine lv_iload (pc := 52) hx hb dX7_partner_52 (lv_at hl 6 rfl) ?_
    refine lv_iload_n (pc := 54) hx hb dX7_partner_54 rfl (lv_at hl 1 rfl) ?_
    refine lv_icmp_ne (pc := 55) (tgt := 63) hx hb dX7_partner_55 (by decide) (fun hc => ?_) (fun hc => ?_)
    · replace hF := rp_if hc hF
      refine lv_aload_n (pc := 63) hx hb dX7_partner_63 rfl (lv_at hl 0 rfl) ?_
      refine lv_iload_n (pc := 64) hx hb dX7_partner_64 rfl (lv_at hl 1 rfl) ?_
      refine lv_iload (pc := 65) hx hb dX7_partner_65 (lv_at hl 6 rfl) ?_
      refine lv_iload_n (pc := 67) hx hb dX7_partner_67 rfl (lv_at hl 2 rfl) ?_
      obtain ⟨r3, σ4, hq, hF⟩ := rp_bd_e hF
      refine rp_ki (rp_runV (rest := []) hC (mE_ok _) hw hl.1 (mX7_pegWith (l := l) v1 v6 v2 σ _ hq) vw_X7_240 (by decide) (mt_obj _) rfl rfl rfl (Nat.le_of_ble_eq_true rfl) (by decide) dX7_partner_68) hw (fun H locs hw => ?_)
      clear hq
      exact kX7_partner_71 hC k41 hk41 v1 v2 v3 v4 v5 v6 r3 σ4 _ _ _ hF hw (lv_sub hl [0, 1, 2, 3, 4, 5, 6] rfl)
    · replace hF := rp_it hc hF
      refine lv_bipush (pc := 58) (v := 7) hx hb dX7_partner_58 (by decide) ?_
      refine lv_goto (pc := 60) (tgt := 71) hx hb dX7_partner_60 (by decide) ?_
      exact kX7_partner_71 hC k41 hk41 v1 v2 v3 v4 v5 v6 7 σ _ _ _ hF hw (lv_sub hl [0, 1, 2, 3, 4, 5, 6] rfl)
theorem lX7_partner_41 {p : Program} {l : Launch} {e : Env} {s : State} {m : MethodId} {args : Array Value} {below : List Frame} {meth : Method} {c : Code} {D : va_G} {cI cT : ClassId} {ad av a : Nat → Nat} {res : Int32 × rp_St} (hC : mC p s m args meth c cX7_partner 8 "RegretPegsModel" (some .int) D cI cT ad av a) : ∀ (n : Nat) (v1 : Int32) (v2 : Int32) (v3 : Int32) (v4 : Int32) (v5 : Int32) (v6 : Int32) (σ : rp_St) (H : Heap) (locs : List Loc) (ls : Array Slot), rp_lp (fun _ _ _ _ _ _ _ => none) (fX7_partner_41) n v1 v2 v3 v4 v5 v6 σ = some res → mW D cI cT ad av a s σ H locs → lv_has ls 8 [(0, .ref (a 0)), (1, .int v1), (2, .int v2), (3, .int v3), (4, .int v4), (5, .int v5), (6, .int v6)] → W p l e (rp_rm 8) s m args below meth c H locs 0 0 (MQ below (rp_Qi D a (mt cI cT ad a) 15 res) args s 0 0 (rp_A a 15)) (F0 m 41 ls [])
  | 0, _, _, _, _, _, _, _, _, _, _, hF, _, _ => nomatch hF
  | n + 1, v1, v2, v3, v4, v5, v6, σ, H, locs, ls, hF, hw, hl => kX7_partner_41 hC (rp_lp (fun _ _ _ _ _ _ _ => none) (fX7_partner_41) n) (lX7_partner_41 hC n) v1 v2 v3 v4 v5 v6 σ H locs ls hF hw hl
def fX7_partner (v1 : Int32) (v2 : Int32) (v3 : Int32) (σ : rp_St) : Option (Int32 × rp_St) :=
  rp_bd (fX7_isGuest v1 σ) (fun r1 σ2 => (if r1 = 0 then fX7_partner_24 σ2 else rp_bd (fX7_isSoon v2 σ2) (fun r3 σ4 => (if r3 = 0 then fX7_partner_24 σ4 else rp_bd (fX7_within v3 0 1 σ4) (fun r5 σ6 => (if r5 = 0 then fX7_partner_24 σ6 else rp_lp (fun _ _ _ _ _ _ _ => none) (fX7_partner_41) 300 v1 v2 v3 (-1) 7 0 σ6))))))
set_option maxRecDepth 100000 in
set_option maxHeartbeats 4000000 in
theorem kX7_partner_0 {p : Program} {l : Launch} {e : Env} {s : State} {m : MethodId} {args : Array Value} {below : List Frame} {meth : Method} {c : Code} {D : va_G} {cI cT : ClassId} {ad av a : Nat → Nat} {res : Int32 × rp_St} (hC : mC p s m args meth c cX7_partner 8 "RegretPegsModel" (some .int) D cI cT ad av a) (v1 : Int32) (v2 : Int32) (v3 : Int32) (σ : rp_St) (H : Heap) (locs : List Loc) (ls : Array Slot) (hF : fX7_partner v1 v2 v3 σ = some res) (hw : mW D cI cT ad av a s σ H locs) (hl : lv_has ls 8 [(0, .ref (a 0)), (1, .int v1), (2, .int v2), (3, .int v3)]) : W p l e (rp_rm 8) s m args below meth c H locs 0 0 (MQ below (rp_Qi D a (mt cI cT ad a) 15 res) args s 0 0 (rp_A a 15)) (F0 m 0 ls []) := by
  have hx := hC.1
  have hb := hC.2.1
  have hown := hC.2.2.2.1
  have hts := hC.2.2.2.2.1
  unfold fX7_partner at hF
  refine lv_aload_n (pc := 0) hx hb dX7_partner_0 rfl (lv_at hl 0 rfl) ?_
  refine lv_iload_n (pc := 1) hx hb dX7_partner_1 rfl (lv_at hl 1 rfl) ?_
  obtain ⟨r1, σ2, hq, hF⟩ := rp_bd_e hF
  refine rp_ki (rp_runV (rest := []) hC (mE_ok _) hw hl.1 (mX7_isGuest (l := l) v1 σ _ hq) vw_X7_159 (by decide) (mt_obj _) rfl rfl rfl (Nat.le_of_ble_eq_true rfl) (by decide) dX7_partner_2) hw (fun H locs hw => ?_)
  clear hq
  refine lv_if_eq (pc := 5) (tgt := 24) hx hb dX7_partner_5 (by decide) (fun hc => ?_) (fun hc => ?_)
  · replace hF := rp_it hc hF
    exact kX7_partner_24 hC σ2 _ _ _ hF hw (lv_sub hl [0] rfl)
  · replace hF := rp_if hc hF
    refine lv_iload_n (pc := 8) hx hb dX7_partner_8 rfl (lv_at hl 2 rfl) ?_
    obtain ⟨r3, σ4, hq, hF⟩ := rp_bd_e hF
    refine rp_ki (rp_runZ (rest := []) hC (mE_ok _) hw hl.1 (mX7_isSoon (l := l) v2 σ2 _ hq) zw_X7_237 rfl rfl (Nat.le_of_ble_eq_true rfl) (by decide) dX7_partner_9) hw (fun H locs hw => ?_)
    clear hq
    refine lv_if_eq (pc := 12) (tgt := 24) hx hb dX7_partner_12 (by decide) (fun hc => ?_) (fun hc => ?_)
    · replace hF := rp_it hc hF
      exact kX7_partner_24 hC σ4 _ _ _ hF hw (lv_sub hl [0] rfl)
    · replace hF := rp_if hc hF
      refine lv_iload_n (pc := 15) hx hb dX7_partner_15 rfl (lv_at hl 3 rfl) ?_
      refine lv_iconst (pc := 16) (v := 0) hx hb dX7_partner_16 (by decide) ?_
      refine lv_iconst (pc := 17) (v := 1) hx hb dX7_partner_17 (by decide) ?_
      obtain ⟨r5, σ6, hq, hF⟩ := rp_bd_e hF
      refine rp_ki (rp_runZ (rest := []) hC (mE_ok _) hw hl.1 (mX7_within (l := l) v3 0 1 σ4 _ hq) zw_X7_73 rfl rfl (Nat.le_of_ble_eq_true rfl) (by decide) dX7_partner_18) hw (fun H locs hw => ?_)
      clear hq
      refine lv_if_ne (pc := 21) (tgt := 31) hx hb dX7_partner_21 (by decide) (fun hc => ?_) (fun hc => ?_)
      · replace hF := rp_if hc hF
        refine lv_iconst (pc := 31) (v := (-1)) hx hb dX7_partner_31 (by decide) ?_
        refine lv_istore (pc := 32) (lv' := [(4, .int (-1)), (0, .ref (a 0)), (1, .int v1), (2, .int v2), (3, .int v3)]) hx hb dX7_partner_32 hl (by decide) rfl (fun ls hl => ?_)
        refine lv_bipush (pc := 34) (v := 7) hx hb dX7_partner_34 (by decide) ?_
        refine lv_istore (pc := 36) (lv' := [(5, .int 7), (4, .int (-1)), (0, .ref (a 0)), (1, .int v1), (2, .int v2), (3, .int v3)]) hx hb dX7_partner_36 hl (by decide) rfl (fun ls hl => ?_)
        refine lv_iconst (pc := 38) (v := 0) hx hb dX7_partner_38 (by decide) ?_
        refine lv_istore (pc := 39) (lv' := [(6, .int 0), (5, .int 7), (4, .int (-1)), (0, .ref (a 0)), (1, .int v1), (2, .int v2), (3, .int v3)]) hx hb dX7_partner_39 hl (by decide) rfl (fun ls hl => ?_)
        exact lX7_partner_41 hC 300 v1 v2 v3 (-1) 7 0 σ6 _ _ _ hF hw (lv_sub hl [3, 4, 5, 6, 2, 1, 0] rfl)
      · replace hF := rp_it hc hF
        exact kX7_partner_24 hC σ6 _ _ _ hF hw (lv_sub hl [0] rfl)
theorem mX7_partner {l : Launch} {D : va_G} {cI cT : ClassId} {ad av a : Nat → Nat} (v1 : Int32) (v2 : Int32) (v3 : Int32) (σ : rp_St) (res : Int32 × rp_St) (hF : fX7_partner v1 v2 v3 σ = some res) : mM l D cI cT ad av a yX7_partner cX7_partner 8 (some .int) 8 [.ref (a 0), .int v1, .int v2, .int v3] σ (rp_Qi D a (mt cI cT ad a) 15 res) :=
  rp_entry (by decide) (Nat.le_of_ble_eq_true rfl) (fun p e s m below meth c ls hC hw hl => kX7_partner_0 hC v1 v2 v3 σ _ _ _ hF hw (lv_sub hl [0, 1, 2, 3] rfl))
