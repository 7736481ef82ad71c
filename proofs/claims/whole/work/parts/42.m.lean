def fX7_done_60 (σ : rp_St) : Option (Int32 × rp_St) :=
  some (1, σ)
set_option maxRecDepth 100000 in
set_option maxHeartbeats 4000000 in
theorem kX7_done_60 {p : Program} {l : Launch} {e : Env} {s : State} {m : MethodId} {args : Array Value} {below : List Frame} {meth : Method} {c : Code} {D : va_G} {cI cT : ClassId} {ad av a : Nat → Nat} {res : Int32 × rp_St} (hC : mC p s m args meth c cX7_done 3 "RegretPegsModel" (some .int) D cI cT ad av a) (σ : rp_St) (H : Heap) (locs : List Loc) (ls : Array Slot) (hF : fX7_done_60 σ = some res) (hw : mW D cI cT ad av a s σ H locs) (hl : lv_has ls 3 []) : W p l e (rp_rm 1) s m args below meth c H locs 0 0 (MQ below (rp_Qi D a (mt cI cT ad a) 15 res) args s 0 0 (rp_A a 15)) (F0 m 60 ls []) := by
  have hx := hC.1
  have hb := hC.2.1
  have hown := hC.2.2.2.1
  have hts := hC.2.2.2.2.1
  unfold fX7_done_60 at hF
  refine lv_iconst (pc := 60) (v := 1) hx hb dX7_done_60 (by decide) ?_
  refine lv_goto (pc := 61) (tgt := 65) hx hb dX7_done_61 (by decide) ?_
  exact rp_reti (pc := 65) hC hw hF dX7_done_65
def fX7_done (v0 : Int32) (v1 : Int32) (v2 : Int32) (σ : rp_St) : Option (Int32 × rp_St) :=
  (if v0 = 20000 then (if v1 = 0 then (if v2 = 0 then some (0, σ) else fX7_done_60 σ) else fX7_done_60 σ) else (if v0 = 20001 then (if v1 = 0 then some (0, σ) else (if v2 = 0 then some (0, σ) else some (1, σ))) else (if v0 = 20002 then (if v2 ≤ v1 then some (0, σ) else some (1, σ)) else (if v0 = 20003 then (if v1 = v2 then some (1, σ) else some (0, σ)) else (if v0 = 20004 then (if v1 ≤ v2 then some (0, σ) else some (1, σ)) else (if v0 = 20005 then some ((v1 + v2), σ) else (if v0 = 20006 then some ((v1 - v2), σ) else (if v0 = 20007 then some ((v1 * v2), σ) else (if v0 = 20008 then (if v2 = 0 then some (0, σ) else rp_gu (rp_nz0 v2) (some ((v1 / v2), σ))) else (if v2 = 0 then some (0, σ) else rp_gu (rp_nz0 v2) (some ((v1 - v1 / v2 * v2), σ))))))))))))
set_option maxRecDepth 100000 in
set_option maxHeartbeats 4000000 in
theorem kX7_done_0 {p : Program} {l : Launch} {e : Env} {s : State} {m : MethodId} {args : Array Value} {below : List Frame} {meth : Method} {c : Code} {D : va_G} {cI cT : ClassId} {ad av a : Nat → Nat} {res : Int32 × rp_St} (hC : mC p s m args meth c cX7_done 3 "RegretPegsModel" (some .int) D cI cT ad av a) (v0 : Int32) (v1 : Int32) (v2 : Int32) (σ : rp_St) (H : Heap) (locs : List Loc) (ls : Array Slot) (hF : fX7_done v0 v1 v2 σ = some res) (hw : mW D cI cT ad av a s σ H locs) (hl : lv_has ls 3 [(0, .int v0), (1, .int v1), (2, .int v2)]) : W p l e (rp_rm 1) s m args below meth c H locs 0 0 (MQ below (rp_Qi D a (mt cI cT ad a) 15 res) args s 0 0 (rp_A a 15)) (F0 m 0 ls []) := by
  have hx := hC.1
  have hb := hC.2.1
  have hown := hC.2.2.2.1
  have hts := hC.2.2.2.2.1
  unfold fX7_done at hF
  refine lv_iload_n (pc := 0) hx hb dX7_done_0 rfl (lv_at hl 0 rfl) ?_
  by_cases hs1_0 : v0 = 20000
  · replace hF := rp_it hs1_0 hF
    refine lv_tableIn (pc := 1) (off := 51) (tgt := 52) hx hb dX7_done_1 (by rw [hs1_0]; decide) (by rw [hs1_0]; decide) (by rw [hs1_0]; decide +kernel) (by decide) ?_
    refine lv_iload_n (pc := 52) hx hb dX7_done_52 rfl (lv_at hl 1 rfl) ?_
    refine lv_if_ne (pc := 53) (tgt := 60) hx hb dX7_done_53 (by decide) (fun hc => ?_) (fun hc => ?_)
    · replace hF := rp_if hc hF
      exact kX7_done_60 hC σ _ _ _ hF hw (lv_sub hl [] rfl)
    · replace hF := rp_it hc hF
      refine lv_iload_n (pc := 56) hx hb dX7_done_56 rfl (lv_at hl 2 rfl) ?_
      refine lv_if_eq (pc := 57) (tgt := 64) hx hb dX7_done_57 (by decide) (fun hc => ?_) (fun hc => ?_)
      · replace hF := rp_it hc hF
        refine lv_iconst (pc := 64) (v := 0) hx hb dX7_done_64 (by decide) ?_
        exact rp_reti (pc := 65) hC hw hF dX7_done_65
      · replace hF := rp_if hc hF
        exact kX7_done_60 hC σ _ _ _ hF hw (lv_sub hl [] rfl)
  replace hF := rp_if hs1_0 hF
  by_cases hs1_1 : v0 = 20001
  · replace hF := rp_it hs1_1 hF
    refine lv_tableIn (pc := 1) (off := 65) (tgt := 66) hx hb dX7_done_1 (by rw [hs1_1]; decide) (by rw [hs1_1]; decide) (by rw [hs1_1]; decide +kernel) (by decide) ?_
    refine lv_iload_n (pc := 66) hx hb dX7_done_66 rfl (lv_at hl 1 rfl) ?_
    refine lv_if_eq (pc := 67) (tgt := 78) hx hb dX7_done_67 (by decide) (fun hc => ?_) (fun hc => ?_)
    · replace hF := rp_it hc hF
      refine lv_iconst (pc := 78) (v := 0) hx hb dX7_done_78 (by decide) ?_
      exact rp_reti (pc := 79) hC hw hF dX7_done_79
    · replace hF := rp_if hc hF
      refine lv_iload_n (pc := 70) hx hb dX7_done_70 rfl (lv_at hl 2 rfl) ?_
      refine lv_if_eq (pc := 71) (tgt := 78) hx hb dX7_done_71 (by decide) (fun hc => ?_) (fun hc => ?_)
      · replace hF := rp_it hc hF
        refine lv_iconst (pc := 78) (v := 0) hx hb dX7_done_78 (by decide) ?_
        exact rp_reti (pc := 79) hC hw hF dX7_done_79
      · replace hF := rp_if hc hF
        refine lv_iconst (pc := 74) (v := 1) hx hb dX7_done_74 (by decide) ?_
        refine lv_goto (pc := 75) (tgt := 79) hx hb dX7_done_75 (by decide) ?_
        exact rp_reti (pc := 79) hC hw hF dX7_done_79
  replace hF := rp_if hs1_1 hF
  by_cases hs1_2 : v0 = 20002
  · replace hF := rp_it hs1_2 hF
    refine lv_tableIn (pc := 1) (off := 79) (tgt := 80) hx hb dX7_done_1 (by rw [hs1_2]; decide) (by rw [hs1_2]; decide) (by rw [hs1_2]; decide +kernel) (by decide) ?_
    refine lv_iload_n (pc := 80) hx hb dX7_done_80 rfl (lv_at hl 1 rfl) ?_
    refine lv_iload_n (pc := 81) hx hb dX7_done_81 rfl (lv_at hl 2 rfl) ?_
    refine lv_icmp_ge (pc := 82) (tgt := 89) hx hb dX7_done_82 (by decide) (fun hc => ?_) (fun hc => ?_)
    · replace hF := rp_it hc hF
      refine lv_iconst (pc := 89) (v := 0) hx hb dX7_done_89 (by decide) ?_
      exact rp_reti (pc := 90) hC hw hF dX7_done_90
    · replace hF := rp_if hc hF
      refine lv_iconst (pc := 85) (v := 1) hx hb dX7_done_85 (by decide) ?_
      refine lv_goto (pc := 86) (tgt := 90) hx hb dX7_done_86 (by decide) ?_
      exact rp_reti (pc := 90) hC hw hF dX7_done_90
  replace hF := rp_if hs1_2 hF
  by_cases hs1_3 : v0 = 20003
  · replace hF := rp_it hs1_3 hF
    refine lv_tableIn (pc := 1) (off := 90) (tgt := 91) hx hb dX7_done_1 (by rw [hs1_3]; decide) (by rw [hs1_3]; decide) (by rw [hs1_3]; decide +kernel) (by decide) ?_
    refine lv_iload_n (pc := 91) hx hb dX7_done_91 rfl (lv_at hl 1 rfl) ?_
    refine lv_iload_n (pc := 92) hx hb dX7_done_92 rfl (lv_at hl 2 rfl) ?_
    refine lv_icmp_ne (pc := 93) (tgt := 100) hx hb dX7_done_93 (by decide) (fun hc => ?_) (fun hc => ?_)
    · replace hF := rp_if hc hF
      refine lv_iconst (pc := 100) (v := 0) hx hb dX7_done_100 (by decide) ?_
      exact rp_reti (pc := 101) hC hw hF dX7_done_101
    · replace hF := rp_it hc hF
      refine lv_iconst (pc := 96) (v := 1) hx hb dX7_done_96 (by decide) ?_
      refine lv_goto (pc := 97) (tgt := 101) hx hb dX7_done_97 (by decide) ?_
      exact rp_reti (pc := 101) hC hw hF dX7_done_101
  replace hF := rp_if hs1_3 hF
  by_cases hs1_4 : v0 = 20004
  · replace hF := rp_it hs1_4 hF
    refine lv_tableIn (pc := 1) (off := 101) (tgt := 102) hx hb dX7_done_1 (by rw [hs1_4]; decide) (by rw [hs1_4]; decide) (by rw [hs1_4]; decide +kernel) (by decide) ?_
    refine lv_iload_n (pc := 102) hx hb dX7_done_102 rfl (lv_at hl 1 rfl) ?_
    refine lv_iload_n (pc := 103) hx hb dX7_done_103 rfl (lv_at hl 2 rfl) ?_
    refine lv_icmp_le (pc := 104) (tgt := 111) hx hb dX7_done_104 (by decide) (fun hc => ?_) (fun hc => ?_)
    · replace hF := rp_it hc hF
      refine lv_iconst (pc := 111) (v := 0) hx hb dX7_done_111 (by decide) ?_
      exact rp_reti (pc := 112) hC hw hF dX7_done_112
    · replace hF := rp_if hc hF
      refine lv_iconst (pc := 107) (v := 1) hx hb dX7_done_107 (by decide) ?_
      refine lv_goto (pc := 108) (tgt := 112) hx hb dX7_done_108 (by decide) ?_
      exact rp_reti (pc := 112) hC hw hF dX7_done_112
  replace hF := rp_if hs1_4 hF
  by_cases hs1_5 : v0 = 20005
  · replace hF := rp_it hs1_5 hF
    refine lv_tableIn (pc := 1) (off := 112) (tgt := 113) hx hb dX7_done_1 (by rw [hs1_5]; decide) (by rw [hs1_5]; decide) (by rw [hs1_5]; decide +kernel) (by decide) ?_
    refine lv_iload_n (pc := 113) hx hb dX7_done_113 rfl (lv_at hl 1 rfl) ?_
    refine lv_iload_n (pc := 114) hx hb dX7_done_114 rfl (lv_at hl 2 rfl) ?_
    refine lv_iadd (pc := 115) hx hb dX7_done_115 ?_
    exact rp_reti (pc := 116) hC hw hF dX7_done_116
  replace hF := rp_if hs1_5 hF
  by_cases hs1_6 : v0 = 20006
  · replace hF := rp_it hs1_6 hF
    refine lv_tableIn (pc := 1) (off := 116) (tgt := 117) hx hb dX7_done_1 (by rw [hs1_6]; decide) (by rw [hs1_6]; decide) (by rw [hs1_6]; decide +kernel) (by decide) ?_
    refine lv_iload_n (pc := 117) hx hb dX7_done_117 rfl (lv_at hl 1 rfl) ?_
    refine lv_iload_n (pc := 118) hx hb dX7_done_118 rfl (lv_at hl 2 rfl) ?_
    refine lv_isub (pc := 119) hx hb dX7_done_119 ?_
    exact rp_reti (pc := 120) hC hw hF dX7_done_120
  replace hF := rp_if hs1_6 hF
  by_cases hs1_7 : v0 = 20007
  · replace hF := rp_it hs1_7 hF
    refine lv_tableIn (pc := 1) (off := 120) (tgt := 121) hx hb dX7_done_1 (by rw [hs1_7]; decide) (by rw [hs1_7]; decide) (by rw [hs1_7]; decide +kernel) (by decide) ?_
    refine lv_iload_n (pc := 121) hx hb dX7_done_121 rfl (lv_at hl 1 rfl) ?_
    refine lv_iload_n (pc := 122) hx hb dX7_done_122 rfl (lv_at hl 2 rfl) ?_
    refine lv_imul (pc := 123) hx hb dX7_done_123 ?_
    exact rp_reti (pc := 124) hC hw hF dX7_done_124
  replace hF := rp_if hs1_7 hF
  by_cases hs1_8 : v0 = 20008
  · replace hF := rp_it hs1_8 hF
    refine lv_tableIn (pc := 1) (off := 124) (tgt := 125) hx hb dX7_done_1 (by rw [hs1_8]; decide) (by rw [hs1_8]; decide) (by rw [hs1_8]; decide +kernel) (by decide) ?_
    refine lv_iload_n (pc := 125) hx hb dX7_done_125 rfl (lv_at hl 2 rfl) ?_
    refine lv_if_ne (pc := 126) (tgt := 133) hx hb dX7_done_126 (by decide) (fun hc => ?_) (fun hc => ?_)
    · replace hF := rp_if hc hF
      refine lv_iload_n (pc := 133) hx hb dX7_done_133 rfl (lv_at hl 1 rfl) ?_
      refine lv_iload_n (pc := 134) hx hb dX7_done_134 rfl (lv_at hl 2 rfl) ?_
      obtain ⟨hg, hF⟩ := rp_gu_e hF
      refine lv_idiv (pc := 135) hx hb dX7_done_135 (rp_nz0_e hg) ?_
      exact rp_reti (pc := 136) hC hw hF dX7_done_136
    · replace hF := rp_it hc hF
      refine lv_iconst (pc := 129) (v := 0) hx hb dX7_done_129 (by decide) ?_
      refine lv_goto (pc := 130) (tgt := 136) hx hb dX7_done_130 (by decide) ?_
      exact rp_reti (pc := 136) hC hw hF dX7_done_136
  replace hF := rp_if hs1_8 hF
  refine lv_tableOut (pc := 1) (tgt := 137) hx hb dX7_done_1 (by have := rp_ne 20000 20000 (by decide) hs1_0; have := rp_ne 20001 20001 (by decide) hs1_1; have := rp_ne 20002 20002 (by decide) hs1_2; have := rp_ne 20003 20003 (by decide) hs1_3; have := rp_ne 20004 20004 (by decide) hs1_4; have := rp_ne 20005 20005 (by decide) hs1_5; have := rp_ne 20006 20006 (by decide) hs1_6; have := rp_ne 20007 20007 (by decide) hs1_7; have := rp_ne 20008 20008 (by decide) hs1_8; omega) (by decide) ?_
  refine lv_iload_n (pc := 137) hx hb dX7_done_137 rfl (lv_at hl 2 rfl) ?_
  refine lv_if_ne (pc := 138) (tgt := 145) hx hb dX7_done_138 (by decide) (fun hc => ?_) (fun hc => ?_)
  · replace hF := rp_if hc hF
    refine lv_iload_n (pc := 145) hx hb dX7_done_145 rfl (lv_at hl 1 rfl) ?_
    refine lv_iload_n (pc := 146) hx hb dX7_done_146 rfl (lv_at hl 2 rfl) ?_
    obtain ⟨hg, hF⟩ := rp_gu_e hF
    refine lv_irem (pc := 147) hx hb dX7_done_147 (rp_nz0_e hg) ?_
    exact rp_reti (pc := 148) hC hw hF dX7_done_148
  · replace hF := rp_it hc hF
    refine lv_iconst (pc := 141) (v := 0) hx hb dX7_done_141 (by decide) ?_
    refine lv_goto (pc := 142) (tgt := 148) hx hb dX7_done_142 (by decide) ?_
    exact rp_reti (pc := 148) hC hw hF dX7_done_148
theorem mX7_done {l : Launch} {D : va_G} {cI cT : ClassId} {ad av a : Nat → Nat} (v0 : Int32) (v1 : Int32) (v2 : Int32) (σ : rp_St) (res : Int32 × rp_St) (hF : fX7_done v0 v1 v2 σ = some res) : mM l D cI cT ad av a yX7_done cX7_done 3 (some .int) 1 [.int v0, .int v1, .int v2] σ (rp_Qi D a (mt cI cT ad a) 15 res) :=
  rp_entry (by decide) (Nat.le_of_ble_eq_true rfl) (fun p e s m below meth c ls hC hw hl => kX7_done_0 hC v0 v1 v2 σ _ _ _ hF hw (lv_sub hl [0, 1, 2] rfl))
def fX7_worked_135 (k4 : Int32 → Int32 → Int32 → rp_St → Option (Int32 × rp_St)) (v1 : Int32) (v2 : Int32) (v3 : Int32) (σ : rp_St) : Option (Int32 × rp_St) :=
  rp_nm (v3 + 1) (fun x1 => k4 v1 v2 x1 σ)
set_option maxRecDepth 100000 in
set_option maxHeartbeats 4000000 in
theorem kX7_worked_135 {p : Program} {l : Launch} {e : Env} {s : State} {m : MethodId} {args : Array Value} {below : List Frame} {meth : Method} {c : Code} {D : va_G} {cI cT : ClassId} {ad av a : Nat → Nat} {res : Int32 × rp_St} (hC : mC p s m args meth c cX7_worked 5 "RegretPegsModel" (some .int) D cI cT ad av a) (k4 : Int32 → Int32 → Int32 → rp_St → Option (Int32 × rp_St)) (hk4 : ∀ (v1 : Int32) (v2 : Int32) (v3 : Int32) (σ : rp_St) (H : Heap) (locs : List Loc) (ls : Array Slot), k4 v1 v2 v3 σ = some res → mW D cI cT ad av a s σ H locs → lv_has ls 5 [(0, .ref (a 0)), (1, .int v1), (2, .int v2), (3, .int v3)] → W p l e (rp_rm 2) s m args below meth c H locs 0 0 (MQ below (rp_Qi D a (mt cI cT ad a) 15 res) args s 0 0 (rp_A a 15)) (F0 m 4 ls [])) (v1 : Int32) (v2 : Int32) (v3 : Int32) (σ : rp_St) (H : Heap) (locs : List Loc) (ls : Array Slot) (hF : fX7_worked_135 k4 v1 v2 v3 σ = some res) (hw : mW D cI cT ad av a s σ H locs) (hl : lv_has ls 5 [(0, .ref (a 0)), (1, .int v1), (2, .int v2), (3, .int v3)]) : W p l e (rp_rm 2) s m args below meth c H locs 0 0 (MQ below (rp_Qi D a (mt cI cT ad a) 15 res) args s 0 0 (rp_A a 15)) (F0 m 135 ls []) := by
  have hx := hC.1
  have hb := hC.2.1
  have hown := hC.2.2.2.1
  have hts := hC.2.2.2.2.1
  unfold fX7_worked_135 at hF
  obtain ⟨x1, ex1, hF⟩ := rp_nm_e hF
  refine lv_iinc (pc := 135) (v := x1) (lv' := [(3, .int x1), (0, .ref (a 0)), (1, .int v1), (2, .int v2)]) hx hb dX7_worked_135 hl (k := 3) rfl (by rw [ex1]; rfl) (by decide) rfl (fun ls hl => ?_)
  refine lv_goto (pc := 138) (tgt := 4) hx hb dX7_worked_138 (by decide) ?_
  exact hk4 v1 v2 x1 σ _ _ _ hF hw (lv_sub hl [1, 2, 3, 0] rfl)
def fX7_worked_101 (k4 : Int32 → Int32 → Int32 → rp_St → Option (Int32 × rp_St)) (v1 : Int32) (v2 : Int32) (v3 : Int32) (t0 : Int32) (t1 : Int32) (σ : rp_St) : Option (Int32 × rp_St) :=
  rp_gu (rp_in t1 60) (rp_nm (rp_put σ 9 (t1 : Int32).toNatClampNeg t0) (fun σ1 => fX7_worked_135 k4 v1 v2 v3 σ1))
set_option maxRecDepth 100000 in
set_option maxHeartbeats 4000000 in
theorem kX7_worked_101 {p : Program} {l : Launch} {e : Env} {s : State} {m : MethodId} {args : Array Value} {below : List Frame} {meth : Method} {c : Code} {D : va_G} {cI cT : ClassId} {ad av a : Nat → Nat} {res : Int32 × rp_St} (hC : mC p s m args meth c cX7_worked 5 "RegretPegsModel" (some .int) D cI cT ad av a) (k4 : Int32 → Int32 → Int32 → rp_St → Option (Int32 × rp_St)) (hk4 : ∀ (v1 : Int32) (v2 : Int32) (v3 : Int32) (σ : rp_St) (H : Heap) (locs : List Loc) (ls : Array Slot), k4 v1 v2 v3 σ = some res → mW D cI cT ad av a s σ H locs → lv_has ls 5 [(0, .ref (a 0)), (1, .int v1), (2, .int v2), (3, .int v3)] → W p l e (rp_rm 2) s m args below meth c H locs 0 0 (MQ below (rp_Qi D a (mt cI cT ad a) 15 res) args s 0 0 (rp_A a 15)) (F0 m 4 ls [])) (v1 : Int32) (v2 : Int32) (v3 : Int32) (t0 : Int32) (t1 : Int32) (σ : rp_St) (H : Heap) (locs : List Loc) (ls : Array Slot) (hF : fX7_worked_101 k4 v1 v2 v3 t0 t1 σ = some res) (hw : mW D cI cT ad av a s σ H locs) (hl : lv_has ls 5 [(0, .ref (a 0)), (1, .int v1), (2, .int v2), (3, .int v3)]) : W p l e (rp_rm 2) s m args below meth c H locs 0 0 (MQ below (rp_Qi D a (mt cI cT ad a) 15 res) args s 0 0 (rp_A a 15)) (F0 m 101 ls [.int t0, .int t1, .ref (a 9)]) := by
  have hx := hC.1
  have hb := hC.2.1
  have hown := hC.2.2.2.1
  have hts := hC.2.2.2.2.1
  unfold fX7_worked_101 at hF
  obtain ⟨hg, hF⟩ := rp_gu_e hF
  refine rp_ast (pc := 101) hC hw 9 (by decide) (mt_arr 9 60 rfl) 0 rfl hg dX7_worked_101 (fun H locs hw => ?_)
  obtain ⟨σ1, eσ1, hF⟩ := rp_nm_e hF
  replace hw := rp_Wn eσ1 hw
  clear eσ1
  refine lv_goto (pc := 102) (tgt := 135) hx hb dX7_worked_102 (by decide) ?_
  exact kX7_worked_135 hC k4 hk4 v1 v2 v3 σ1 _ _ _ hF hw (lv_sub hl [0, 1, 2, 3] rfl)
def fX7_worked_63 (k4 : Int32 → Int32 → Int32 → rp_St → Option (Int32 × rp_St)) (v1 : Int32) (v2 : Int32) (v3 : Int32) (t0 : Int32) (t1 : Int32) (σ : rp_St) : Option (Int32 × rp_St) :=
  rp_gu (rp_in t1 60) (rp_nm (rp_put σ 9 (t1 : Int32).toNatClampNeg t0) (fun σ1 => rp_nm (v2 + 1) (fun x2 => fX7_worked_135 k4 v1 x2 v3 σ1)))
set_option maxRecDepth 100000 in
set_option maxHeartbeats 4000000 in
theorem kX7_worked_63 {p : Program} {l : Launch} {e : Env} {s : State} {m : MethodId} {args : Array Value} {below : List Frame} {meth : Method} {c : Code} {D : va_G} {cI cT : ClassId} {ad av a : Nat → Nat} {res : Int32 × rp_St} (hC : mC p s m args meth c cX7_worked 5 "RegretPegsModel" (some .int) D cI cT ad av a) (k4 : Int32 → Int32 → Int32 → rp_St → Option (Int32 × rp_St)) (hk4 : ∀ (v1 : Int32) (v2 : Int32) (v3 : Int32) (σ : rp_St) (H : Heap) (locs : List Loc) (ls : Array Slot), k4 v1 v2 v3 σ = some res → mW D cI cT ad av a s σ H locs → lv_has ls 5 [(0, .ref (a 0)), (1, .int v1), (2, .int v2), (3, .int v3)] → W p l e (rp_rm 2) s m args below meth c H locs 0 0 (MQ below (rp_Qi D a (mt cI cT ad a) 15 res) args s 0 0 (rp_A a 15)) (F0 m 4 ls [])) (v1 : Int32) (v2 : Int32) (v3 : Int32) (t0 : Int32) (t1 : Int32) (σ : rp_St) (H : Heap) (locs : List Loc) (ls : Array Slot) (hF : fX7_worked_63 k4 v1 v2 v3 t0 t1 σ = some res) (hw : mW D cI cT ad av a s σ H locs) (hl : lv_has ls 5 [(0, .ref (a 0)), (1, .int v1), (2, .int v2), (3, .int v3)]) : W p l e (rp_rm 2) s m args below meth c H locs 0 0 (MQ below (rp_Qi D a (mt cI cT ad a) 15 res) args s 0 0 (rp_A a 15)) (F0 m 63 ls [.int t0, .int t1, .ref (a 9)]) := by
  have hx := hC.1
  have hb := hC.2.1
  have hown := hC.2.2.2.1
  have hts := hC.2.2.2.2.1
  unfold fX7_worked_63 at hF
  obtain ⟨hg, hF⟩ := rp_gu_e hF
  refine rp_ast (pc := 63) hC hw 9 (by decide) (mt_arr 9 60 rfl) 0 rfl hg dX7_worked_63 (fun H locs hw => ?_)
  obtain ⟨σ1, eσ1, hF⟩ := rp_nm_e hF
  replace hw := rp_Wn eσ1 hw
  clear eσ1
  obtain ⟨x2, ex2, hF⟩ := rp_nm_e hF
  refine lv_iinc (pc := 64) (v := x2) (lv' := [(2, .int x2), (0, .ref (a 0)), (1, .int v1), (3, .int v3)]) hx hb dX7_worked_64 hl (k := 2) rfl (by rw [ex2]; rfl) (by decide) rfl (fun ls hl => ?_)
  refine lv_goto (pc := 67) (tgt := 135) hx hb dX7_worked_67 (by decide) ?_
  exact kX7_worked_135 hC k4 hk4 v1 x2 v3 σ1 _ _ _ hF hw (lv_sub hl [1, 2, 0, 3] rfl)
def fX7_worked_4 (k4 : Int32 → Int32 → Int32 → rp_St → Option (Int32 × rp_St)) (v1 : Int32) (v2 : Int32) (v3 : Int32) (σ : rp_St) : Option (Int32 × rp_St) :=
  rp_gu (rp_in (v1 - 1) 221) ((if (v1 + (σ 1 ((v1 - 1) : Int32).toNatClampNeg)) ≤ v3 then rp_gu (rp_in 0 60) (some ((σ 9 (0 : Int32).toNatClampNeg), σ)) else rp_gu (rp_in v3 221) (rp_nm (σ 1 (v3 : Int32).toNatClampNeg) (fun x1 => (if 20000 ≤ x1 then (if x1 = 20010 then rp_gu (rp_in (v2 - 1) 60) ((if (σ 9 ((v2 - 1) : Int32).toNatClampNeg) = 0 then fX7_worked_101 k4 v1 v2 v3 1 (v2 - 1) σ else fX7_worked_101 k4 v1 v2 v3 0 (v2 - 1) σ)) else rp_nm (v2 + (-1)) (fun x2 => rp_gu (rp_in (x2 - 1) 60) (rp_gu (rp_in x2 60) (rp_bd (fX7_done x1 (σ 9 ((x2 - 1) : Int32).toNatClampNeg) (σ 9 (x2 : Int32).toNatClampNeg) σ) (fun r3 σ4 => rp_gu (rp_in (x2 - 1) 60) (rp_nm (rp_put σ4 9 ((x2 - 1) : Int32).toNatClampNeg r3) (fun σ5 => fX7_worked_135 k4 v1 x2 v3 σ5))))))) else (if 10000 ≤ x1 then rp_gu (rp_in (x1 - 10000) 4) (fX7_worked_63 k4 v1 v2 v3 (σ 8 ((x1 - 10000) : Int32).toNatClampNeg) v2 σ) else fX7_worked_63 k4 v1 v2 v3 x1 v2 σ))))))
set_option maxRecDepth 100000 in
set_option maxHeartbeats 4000000 in
theorem kX7_worked_4 {p : Program} {l : Launch} {e : Env} {s : State} {m : MethodId} {args : Array Value} {below : List Frame} {meth : Method} {c : Code} {D : va_G} {cI cT : ClassId} {ad av a : Nat → Nat} {res : Int32 × rp_St} (hC : mC p s m args meth c cX7_worked 5 "RegretPegsModel" (some .int) D cI cT ad av a) (k4 : Int32 → Int32 → Int32 → rp_St → Option (Int32 × rp_St)) (hk4 : ∀ (v1 : Int32) (v2 : Int32) (v3 : Int32) (σ : rp_St) (H : Heap) (locs : List Loc) (ls : Array Slot), k4 v1 v2 v3 σ = some res → mW D cI cT ad av a s σ H locs → lv_has ls 5 [(0, .ref (a 0)), (1, .int v1), (2, .int v2), (3, .int v3)] → W p l e (rp_rm 2) s m args below meth c H locs 0 0 (MQ below (rp_Qi D a (mt cI cT ad a) 15 res) args s 0 0 (rp_A a 15)) (F0 m 4 ls [])) (v1 : Int32) (v2 : Int32) (v3 : Int32) (σ : rp_St) (H : Heap) (locs : List Loc) (ls : Array Slot) (hF : fX7_worked_4 k4 v1 v2 v3 σ = some res) (hw : mW D cI cT ad av a s σ H locs) (hl : lv_has ls 5 [(0, .ref (a 0)), (1, .int v1), (2, .int v2), (3, .int v3)]) : W p l e (rp_rm 2) s m args below meth c H locs 0 0 (MQ below (rp_Qi D a (mt cI cT ad a) 15 res) args s 0 0 (rp_A a 15)) (F0 m 4 ls []) := by
  have hx := hC.1
  have hb := hC.2.1
  have hown := hC.2.2.2.1
  have hts := hC.2.2.2.2.1
  unfold fX7_worked_4 at hF
  refine lv_iload_n (pc := 4) hx hb dX7_worked_4 rfl (lv_at hl 3 rfl) ?_
  refine lv_iload_n (pc := 5) hx hb dX7_worked_5 rfl (lv_at hl 1 rfl) ?_
  refine lv_aload_n (pc := 6) hx hb dX7_worked_6 rfl (lv_at hl 0 rfl) ?_
  refine rp_get (pc := 7) hC hw 0 (by decide) (mt_obj _) fl_X7_9 (.ref (a 1)) rfl dX7_worked_7 ?_
  refine lv_iload_n (pc := 10) hx hb dX7_worked_10 rfl (lv_at hl 1 rfl) ?_
  refine lv_iconst (pc := 11) (v := 1) hx hb dX7_worked_11 (by decide) ?_
  refine lv_isub (pc := 12) hx hb dX7_worked_12 ?_
  obtain ⟨hg, hF⟩ := rp_gu_e hF
  refine rp_ald (pc := 13) hC hw 1 (by decide) (mt_arr 1 221 rfl) 0 rfl hg dX7_worked_13 ?_
  refine lv_iadd (pc := 14) hx hb dX7_worked_14 ?_
  refine lv_icmp_ge (pc := 15) (tgt := 141) hx hb dX7_worked_15 (by decide) (fun hc => ?_) (fun hc => ?_)
  · replace hF := rp_it hc hF
    refine lv_aload_n (pc := 141) hx hb dX7_worked_141 rfl (lv_at hl 0 rfl) ?_
    refine rp_get (pc := 142) hC hw 0 (by decide) (mt_obj _) fl_X7_41 (.ref (a 9)) rfl dX7_worked_142 ?_
    refine lv_iconst (pc := 145) (v := 0) hx hb dX7_worked_145 (by decide) ?_
    obtain ⟨hg, hF⟩ := rp_gu_e hF
    refine rp_ald (pc := 146) hC hw 9 (by decide) (mt_arr 9 60 rfl) 0 rfl hg dX7_worked_146 ?_
    exact rp_reti (pc := 147) hC hw hF dX7_worked_147
  · replace hF := rp_if hc hF
    refine lv_aload_n (pc := 18) hx hb dX7_worked_18 rfl (lv_at hl 0 rfl) ?_
    refine rp_get (pc := 19) hC hw 0 (by decide) (mt_obj _) fl_X7_9 (.ref (a 1)) rfl dX7_worked_19 ?_
    refine lv_iload_n (pc := 22) hx hb dX7_worked_22 rfl (lv_at hl 3 rfl) ?_
    obtain ⟨hg, hF⟩ := rp_gu_e hF
    refine rp_ald (pc := 23) hC hw 1 (by decide) (mt_arr 1 221 rfl) 0 rfl hg dX7_worked_23 ?_
    obtain ⟨x1, ex1, hF⟩ := rp_nm_e hF
    refine rp_top ex1 ?_
    refine lv_istore (pc := 24) (lv' := [(4, .int x1), (0, .ref (a 0)), (1, .int v1), (2, .int v2), (3, .int v3)]) hx hb dX7_worked_24 hl (by decide) rfl (fun ls hl => ?_)
    refine lv_iload (pc := 26) hx hb dX7_worked_26 (lv_at hl 0 rfl) ?_
    refine lv_sipush (pc := 28) (v := 20000) hx hb dX7_worked_28 (by decide) ?_
    refine lv_icmp_ge (pc := 31) (tgt := 70) hx hb dX7_worked_31 (by decide) (fun hc => ?_) (fun hc => ?_)
    · replace hF := rp_it hc hF
      refine lv_iload (pc := 70) hx hb dX7_worked_70 (lv_at hl 0 rfl) ?_
      refine lv_sipush (pc := 72) (v := 20010) hx hb dX7_worked_72 (by decide) ?_
      refine lv_icmp_ne (pc := 75) (tgt := 105) hx hb dX7_worked_75 (by decide) (fun hc => ?_) (fun hc => ?_)
      · replace hF := rp_if hc hF
        obtain ⟨x2, ex2, hF⟩ := rp_nm_e hF
        refine lv_iinc (pc := 105) (v := x2) (lv' := [(2, .int x2), (4, .int x1), (0, .ref (a 0)), (1, .int v1), (3, .int v3)]) hx hb dX7_worked_105 hl (k := 3) rfl (by rw [ex2]; rfl) (by decide) rfl (fun ls hl => ?_)
        refine lv_aload_n (pc := 108) hx hb dX7_worked_108 rfl (lv_at hl 2 rfl) ?_
        refine rp_get (pc := 109) hC hw 0 (by decide) (mt_obj _) fl_X7_41 (.ref (a 9)) rfl dX7_worked_109 ?_
        refine lv_iload_n (pc := 112) hx hb dX7_worked_112 rfl (lv_at hl 0 rfl) ?_
        refine lv_iconst (pc := 113) (v := 1) hx hb dX7_worked_113 (by decide) ?_
        refine lv_isub (pc := 114) hx hb dX7_worked_114 ?_
        refine lv_iload (pc := 115) hx hb dX7_worked_115 (lv_at hl 1 rfl) ?_
        refine lv_aload_n (pc := 117) hx hb dX7_worked_117 rfl (lv_at hl 2 rfl) ?_
        refine rp_get (pc := 118) hC hw 0 (by decide) (mt_obj _) fl_X7_41 (.ref (a 9)) rfl dX7_worked_118 ?_
        refine lv_iload_n (pc := 121) hx hb dX7_worked_121 rfl (lv_at hl 0 rfl) ?_
        refine lv_iconst (pc := 122) (v := 1) hx hb dX7_worked_122 (by decide) ?_
        refine lv_isub (pc := 123) hx hb dX7_worked_123 ?_
        obtain ⟨hg, hF⟩ := rp_gu_e hF
        refine rp_ald (pc := 124) hC hw 9 (by decide) (mt_arr 9 60 rfl) 0 rfl hg dX7_worked_124 ?_
        refine lv_aload_n (pc := 125) hx hb dX7_worked_125 rfl (lv_at hl 2 rfl) ?_
        refine rp_get (pc := 126) hC hw 0 (by decide) (mt_obj _) fl_X7_41 (.ref (a 9)) rfl dX7_worked_126 ?_
        refine lv_iload_n (pc := 129) hx hb dX7_worked_129 rfl (lv_at hl 0 rfl) ?_
        obtain ⟨hg, hF⟩ := rp_gu_e hF
        refine rp_ald (pc := 130) hC hw 9 (by decide) (mt_arr 9 60 rfl) 0 rfl hg dX7_worked_130 ?_
        obtain ⟨r3, σ4, hq, hF⟩ := rp_bd_e hF
        refine rp_ki (rp_runZ (rest := [.int (x2 - 1), .ref (a 9)]) hC (mE_ok _) hw hl.1 (mX7_done (l := l) x1 (σ 9 ((x2 - 1) : Int32).toNatClampNeg) (σ 9 (x2 : Int32).toNatClampNeg) σ _ hq) zw_X7_142 rfl rfl (Nat.le_of_ble_eq_true rfl) (by decide) dX7_worked_131) hw (fun H locs hw => ?_)
        clear hq
        obtain ⟨hg, hF⟩ := rp_gu_e hF
        refine rp_ast (pc := 134) hC hw 9 (by decide) (mt_arr 9 60 rfl) 0 rfl hg dX7_worked_134 (fun H locs hw => ?_)
        obtain ⟨σ5, eσ5, hF⟩ := rp_nm_e hF
        replace hw := rp_Wn eσ5 hw
        clear eσ5
        exact kX7_worked_135 hC k4 hk4 v1 x2 v3 σ5 _ _ _ hF hw (lv_sub hl [2, 3, 0, 4] rfl)
      · replace hF := rp_it hc hF
        refine lv_aload_n (pc := 78) hx hb dX7_worked_78 rfl (lv_at hl 1 rfl) ?_
        refine rp_get (pc := 79) hC hw 0 (by decide) (mt_obj _) fl_X7_41 (.ref (a 9)) rfl dX7_worked_79 ?_
        refine lv_iload_n (pc := 82) hx hb dX7_worked_82 rfl (lv_at hl 3 rfl) ?_
        refine lv_iconst (pc := 83) (v := 1) hx hb dX7_worked_83 (by decide) ?_
        refine lv_isub (pc := 84) hx hb dX7_worked_84 ?_
        refine lv_aload_n (pc := 85) hx hb dX7_worked_85 rfl (lv_at hl 1 rfl) ?_
        refine rp_get (pc := 86) hC hw 0 (by decide) (mt_obj _) fl_X7_41 (.ref (a 9)) rfl dX7_worked_86 ?_
        refine lv_iload_n (pc := 89) hx hb dX7_worked_89 rfl (lv_at hl 3 rfl) ?_
        refine lv_iconst (pc := 90) (v := 1) hx hb dX7_worked_90 (by decide) ?_
        refine lv_isub (pc := 91) hx hb dX7_worked_91 ?_
        obtain ⟨hg, hF⟩ := rp_gu_e hF
        refine rp_ald (pc := 92) hC hw 9 (by decide) (mt_arr 9 60 rfl) 0 rfl hg dX7_worked_92 ?_
        refine lv_if_ne (pc := 93) (tgt := 100) hx hb dX7_worked_93 (by decide) (fun hc => ?_) (fun hc => ?_)
        · replace hF := rp_if hc hF
          refine lv_iconst (pc := 100) (v := 0) hx hb dX7_worked_100 (by decide) ?_
          exact kX7_worked_101 hC k4 hk4 v1 v2 v3 0 (v2 - 1) σ _ _ _ hF hw (lv_sub hl [1, 2, 3, 4] rfl)
        · replace hF := rp_it hc hF
          refine lv_iconst (pc := 96) (v := 1) hx hb dX7_worked_96 (by decide) ?_
          refine lv_goto (pc := 97) (tgt := 101) hx hb dX7_worked_97 (by decide) ?_
          exact kX7_worked_101 hC k4 hk4 v1 v2 v3 1 (v2 - 1) σ _ _ _ hF hw (lv_sub hl [1, 2, 3, 4] rfl)
    · replace hF := rp_if hc hF
      refine lv_aload_n (pc := 34) hx hb dX7_worked_34 rfl (lv_at hl 1 rfl) ?_
      refine rp_get (pc := 35) hC hw 0 (by decide) (mt_obj _) fl_X7_41 (.ref (a 9)) rfl dX7_worked_35 ?_
      refine lv_iload_n (pc := 38) hx hb dX7_worked_38 rfl (lv_at hl 3 rfl) ?_
      refine lv_iload (pc := 39) hx hb dX7_worked_39 (lv_at hl 0 rfl) ?_
      refine lv_sipush (pc := 41) (v := 10000) hx hb dX7_worked_41 (by decide) ?_
      refine lv_icmp_ge (pc := 44) (tgt := 52) hx hb dX7_worked_44 (by decide) (fun hc => ?_) (fun hc => ?_)
      · replace hF := rp_it hc hF
        refine lv_aload_n (pc := 52) hx hb dX7_worked_52 rfl (lv_at hl 1 rfl) ?_
        refine rp_get (pc := 53) hC hw 0 (by decide) (mt_obj _) fl_X7_38 (.ref (a 8)) rfl dX7_worked_53 ?_
        refine lv_iload (pc := 56) hx hb dX7_worked_56 (lv_at hl 0 rfl) ?_
        refine lv_sipush (pc := 58) (v := 10000) hx hb dX7_worked_58 (by decide) ?_
        refine lv_isub (pc := 61) hx hb dX7_worked_61 ?_
        obtain ⟨hg, hF⟩ := rp_gu_e hF
        refine rp_ald (pc := 62) hC hw 8 (by decide) (mt_arr 8 4 rfl) 0 rfl hg dX7_worked_62 ?_
        exact kX7_worked_63 hC k4 hk4 v1 v2 v3 (σ 8 ((x1 - 10000) : Int32).toNatClampNeg) v2 σ _ _ _ hF hw (lv_sub hl [1, 2, 3, 4] rfl)
      · replace hF := rp_if hc hF
        refine lv_iload (pc := 47) hx hb dX7_worked_47 (lv_at hl 0 rfl) ?_
        refine lv_goto (pc := 49) (tgt := 63) hx hb dX7_worked_49 (by decide) ?_
        exact kX7_worked_63 hC k4 hk4 v1 v2 v3 x1 v2 σ _ _ _ hF hw (lv_sub hl [1, 2, 3, 4] rfl)
theorem lX7_worked_4 {p : Program} {l : Launch} {e : Env} {s : State} {m : MethodId} {args : Array Value} {below : List Frame} {meth : Method} {c : Code} {D : va_G} {cI cT : ClassId} {ad av a : Nat → Nat} {res : Int32 × rp_St} (hC : mC p s m args meth c cX7_worked 5 "RegretPegsModel" (some .int) D cI cT ad av a) : ∀ (n : Nat) (v1 : Int32) (v2 : Int32) (v3 : Int32) (σ : rp_St) (H : Heap) (locs : List Loc) (ls : Array Slot), rp_lp (fun _ _ _ _ => none) (fX7_worked_4) n v1 v2 v3 σ = some res → mW D cI cT ad av a s σ H locs → lv_has ls 5 [(0, .ref (a 0)), (1, .int v1), (2, .int v2), (3, .int v3)] → W p l e (rp_rm 2) s m args below meth c H locs 0 0 (MQ below (rp_Qi D a (mt cI cT ad a) 15 res) args s 0 0 (rp_A a 15)) (F0 m 4 ls [])
  | 0, _, _, _, _, _, _, _, hF, _, _ => nomatch hF
  | n + 1, v1, v2, v3, σ, H, locs, ls, hF, hw, hl => kX7_worked_4 hC (rp_lp (fun _ _ _ _ => none) (fX7_worked_4) n) (lX7_worked_4 hC n) v1 v2 v3 σ H locs ls hF hw hl
def fX7_worked (v1 : Int32) (σ : rp_St) : Option (Int32 × rp_St) :=
  rp_lp (fun _ _ _ _ => none) (fX7_worked_4) 300 v1 0 v1 σ
set_option maxRecDepth 100000 in
set_option maxHeartbeats 4000000 in
theorem kX7_worked_0 {p : Program} {l : Launch} {e : Env} {s : State} {m : MethodId} {args : Array Value} {below : List Frame} {meth : Method} {c : Code} {D : va_G} {cI cT : ClassId} {ad av a : Nat → Nat} {res : Int32 × rp_St} (hC : mC p s m args meth c cX7_worked 5 "RegretPegsModel" (some .int) D cI cT ad av a) (v1 : Int32) (σ : rp_St) (H : Heap) (locs : List Loc) (ls : Array Slot) (hF : fX7_worked v1 σ = some res) (hw : mW D cI cT ad av a s σ H locs) (hl : lv_has ls 5 [(0, .ref (a 0)), (1, .int v1)]) : W p l e (rp_rm 2) s m args below meth c H locs 0 0 (MQ below (rp_Qi D a (mt cI cT ad a) 15 res) args s 0 0 (rp_A a 15)) (F0 m 0 ls []) := by
  have hx := hC.1
  have hb := hC.2.1
  have hown := hC.2.2.2.1
  have hts := hC.2.2.2.2.1
  unfold fX7_worked at hF
  refine lv_iconst (pc := 0) (v := 0) hx hb dX7_worked_0 (by decide) ?_
  refine lv_istore_n (pc := 1) (lv' := [(2, .int 0), (0, .ref (a 0)), (1, .int v1)]) hx hb dX7_worked_1 rfl hl (by decide) rfl (fun ls hl => ?_)
  refine lv_iload_n (pc := 2) hx hb dX7_worked_2 rfl (lv_at hl 2 rfl) ?_
  refine lv_istore_n (pc := 3) (lv' := [(3, .int v1), (2, .int 0), (0, .ref (a 0)), (1, .int v1)]) hx hb dX7_worked_3 rfl hl (by decide) rfl (fun ls hl => ?_)
  exact lX7_worked_4 hC 300 v1 0 v1 σ _ _ _ hF hw (lv_sub hl [2, 3, 1, 0] rfl)
theorem mX7_worked {l : Launch} {D : va_G} {cI cT : ClassId} {ad av a : Nat → Nat} (v1 : Int32) (σ : rp_St) (res : Int32 × rp_St) (hF : fX7_worked v1 σ = some res) : mM l D cI cT ad av a yX7_worked cX7_worked 5 (some .int) 2 [.ref (a 0), .int v1] σ (rp_Qi D a (mt cI cT ad a) 15 res) :=
  rp_entry (by decide) (Nat.le_of_ble_eq_true rfl) (fun p e s m below meth c ls hC hw hl => kX7_worked_0 hC v1 σ _ _ _ hF hw (lv_sub hl [0, 1] rfl))
def fX7_hasText (v1 : Int32) (σ : rp_St) : Option (Int32 × rp_St) :=
  rp_gu (rp_in (117 + (52 * v1)) 221) ((if (σ 1 ((117 + (52 * v1)) : Int32).toNatClampNeg) ≤ 0 then some (0, σ) else some (1, σ)))
set_option maxRecDepth 100000 in
set_option maxHeartbeats 4000000 in
theorem kX7_hasText_0 {p : Program} {l : Launch} {e : Env} {s : State} {m : MethodId} {args : Array Value} {below : List Frame} {meth : Method} {c : Code} {D : va_G} {cI cT : ClassId} {ad av a : Nat → Nat} {res : Int32 × rp_St} (hC : mC p s m args meth c cX7_hasText 2 "RegretPegsModel" (some .boolean) D cI cT ad av a) (v1 : Int32) (σ : rp_St) (H : Heap) (locs : List Loc) (ls : Array Slot) (hF : fX7_hasText v1 σ = some res) (hw : mW D cI cT ad av a s σ H locs) (hl : lv_has ls 2 [(0, .ref (a 0)), (1, .int v1)]) : W p l e (rp_rm 1) s m args below meth c H locs 0 0 (MQ below (rp_Qi D a (mt cI cT ad a) 15 res) args s 0 0 (rp_A a 15)) (F0 m 0 ls []) := by
  have hx := hC.1
  have hb := hC.2.1
  have hown := hC.2.2.2.1
  have hts := hC.2.2.2.2.1
  unfold fX7_hasText at hF
  refine lv_aload_n (pc := 0) hx hb dX7_hasText_0 rfl (lv_at hl 0 rfl) ?_
  refine rp_get (pc := 1) hC hw 0 (by decide) (mt_obj _) fl_X7_9 (.ref (a 1)) rfl dX7_hasText_1 ?_
  refine lv_bipush (pc := 4) (v := 117) hx hb dX7_hasText_4 (by decide) ?_
  refine lv_bipush (pc := 6) (v := 52) hx hb dX7_hasText_6 (by decide) ?_
  refine lv_iload_n (pc := 8) hx hb dX7_hasText_8 rfl (lv_at hl 1 rfl) ?_
  refine lv_imul (pc := 9) hx hb dX7_hasText_9 ?_
  refine lv_iadd (pc := 10) hx hb dX7_hasText_10 ?_
  obtain ⟨hg, hF⟩ := rp_gu_e hF
  refine rp_ald (pc := 11) hC hw 1 (by decide) (mt_arr 1 221 rfl) 0 rfl hg dX7_hasText_11 ?_
  refine lv_if_le (pc := 12) (tgt := 19) hx hb dX7_hasText_12 (by decide) (fun hc => ?_) (fun hc => ?_)
  · replace hF := rp_it hc hF
    refine lv_iconst (pc := 19) (v := 0) hx hb dX7_hasText_19 (by decide) ?_
    exact rp_retz (pc := 20) hC hw rfl hF dX7_hasText_20
  · replace hF := rp_if hc hF
    refine lv_iconst (pc := 15) (v := 1) hx hb dX7_hasText_15 (by decide) ?_
    refine lv_goto (pc := 16) (tgt := 20) hx hb dX7_hasText_16 (by decide) ?_
    exact rp_retz (pc := 20) hC hw rfl hF dX7_hasText_20
theorem mX7_hasText {l : Launch} {D : va_G} {cI cT : ClassId} {ad av a : Nat → Nat} (v1 : Int32) (σ : rp_St) (res : Int32 × rp_St) (hF : fX7_hasText v1 σ = some res) : mM l D cI cT ad av a yX7_hasText cX7_hasText 2 (some .boolean) 1 [.ref (a 0), .int v1] σ (rp_Qi D a (mt cI cT ad a) 15 res) :=
  rp_entry (by decide) (Nat.le_of_ble_eq_true rfl) (fun p e s m below meth c ls hC hw hl => kX7_hasText_0 hC v1 σ _ _ _ hF hw (lv_sub hl [0, 1] rfl))
def fX7_given_75 (t0 : Int32) (t1 : Int32) (t2 : Int32) (σ : rp_St) : Option (Int32 × rp_St) :=
  rp_bd (fX7_held t2 t1 t0 σ) (fun r1 σ2 => some (r1, σ2))
set_option maxRecDepth 100000 in
set_option maxHeartbeats 4000000 in
theorem kX7_given_75 {p : Program} {l : Launch} {e : Env} {s : State} {m : MethodId} {args : Array Value} {below : List Frame} {meth : Method} {c : Code} {D : va_G} {cI cT : ClassId} {ad av a : Nat → Nat} {res : Int32 × rp_St} (hC : mC p s m args meth c cX7_given 6 "RegretPegsModel" (some .int) D cI cT ad av a) (t0 : Int32) (t1 : Int32) (t2 : Int32) (σ : rp_St) (H : Heap) (locs : List Loc) (ls : Array Slot) (hF : fX7_given_75 t0 t1 t2 σ = some res) (hw : mW D cI cT ad av a s σ H locs) (hl : lv_has ls 6 []) : W p l e (rp_rm 3) s m args below meth c H locs 0 0 (MQ below (rp_Qi D a (mt cI cT ad a) 15 res) args s 0 0 (rp_A a 15)) (F0 m 75 ls [.int t0, .int t1, .int t2]) := by
  have hx := hC.1
  have hb := hC.2.1
  have hown := hC.2.2.2.1
  have hts := hC.2.2.2.2.1
  unfold fX7_given_75 at hF
  obtain ⟨r1, σ2, hq, hF⟩ := rp_bd_e hF
  refine rp_ki (rp_runZ (rest := []) hC (mE_ok _) hw hl.1 (mX7_held (l := l) t2 t1 t0 σ _ hq) zw_X7_152 rfl rfl (Nat.le_of_ble_eq_true rfl) (by decide) dX7_given_75) hw (fun H locs hw => ?_)
  clear hq
  exact rp_reti (pc := 78) hC hw hF dX7_given_78
def fX7_given_63 (v1 : Int32) (t0 : Int32) (σ : rp_St) : Option (Int32 × rp_St) :=
  (if v1 = 0 then fX7_given_75 999 0 t0 σ else fX7_given_75 1 0 t0 σ)
set_option maxRecDepth 100000 in
set_option maxHeartbeats 4000000 in
theorem kX7_given_63 {p : Program} {l : Launch} {e : Env} {s : State} {m : MethodId} {args : Array Value} {below : List Frame} {meth : Method} {c : Code} {D : va_G} {cI cT : ClassId} {ad av a : Nat → Nat} {res : Int32 × rp_St} (hC : mC p s m args meth c cX7_given 6 "RegretPegsModel" (some .int) D cI cT ad av a) (v1 : Int32) (t0 : Int32) (σ : rp_St) (H : Heap) (locs : List Loc) (ls : Array Slot) (hF : fX7_given_63 v1 t0 σ = some res) (hw : mW D cI cT ad av a s σ H locs) (hl : lv_has ls 6 [(1, .int v1)]) : W p l e (rp_rm 3) s m args below meth c H locs 0 0 (MQ below (rp_Qi D a (mt cI cT ad a) 15 res) args s 0 0 (rp_A a 15)) (F0 m 63 ls [.int t0]) := by
  have hx := hC.1
  have hb := hC.2.1
  have hown := hC.2.2.2.1
  have hts := hC.2.2.2.2.1
  unfold fX7_given_63 at hF
  refine lv_iconst (pc := 63) (v := 0) hx hb dX7_given_63 (by decide) ?_
  refine lv_iload_n (pc := 64) hx hb dX7_given_64 rfl (lv_at hl 0 rfl) ?_
  refine lv_if_ne (pc := 65) (tgt := 74) hx hb dX7_given_65 (by decide) (fun hc => ?_) (fun hc => ?_)
  · replace hF := rp_if hc hF
    refine lv_iconst (pc := 74) (v := 1) hx hb dX7_given_74 (by decide) ?_
    exact kX7_given_75 hC 1 0 t0 σ _ _ _ hF hw (lv_sub hl [] rfl)
  · replace hF := rp_it hc hF
    refine lv_sipush (pc := 68) (v := 999) hx hb dX7_given_68 (by decide) ?_
    refine lv_goto (pc := 71) (tgt := 75) hx hb dX7_given_71 (by decide) ?_
    exact kX7_given_75 hC 999 0 t0 σ _ _ _ hF hw (lv_sub hl [] rfl)
def fX7_given_35 (v1 : Int32) (t0 : Int32) (σ : rp_St) : Option (Int32 × rp_St) :=
  rp_bd (fX7_hasText v1 σ) (fun r1 σ2 => (if r1 = 0 then fX7_given_63 v1 t0 σ2 else rp_bd (fX7_worked ((117 + (52 * v1)) + 1) σ2) (fun r3 σ4 => fX7_given_63 v1 r3 σ4)))
set_option maxRecDepth 100000 in
set_option maxHeartbeats 4000000 in
theorem kX7_given_35 {p : Program} {l : Launch} {e : Env} {s : State} {m : MethodId} {args : Array Value} {below : List Frame} {meth : Method} {c : Code} {D : va_G} {cI cT : ClassId} {ad av a : Nat → Nat} {res : Int32 × rp_St} (hC : mC p s m args meth c cX7_given 6 "RegretPegsModel" (some .int) D cI cT ad av a) (v1 : Int32) (t0 : Int32) (σ : rp_St) (H : Heap) (locs : List Loc) (ls : Array Slot) (hF : fX7_given_35 v1 t0 σ = some res) (hw : mW D cI cT ad av a s σ H locs) (hl : lv_has ls 6 [(0, .ref (a 0)), (1, .int v1)]) : W p l e (rp_rm 3) s m args below meth c H locs 0 0 (MQ below (rp_Qi D a (mt cI cT ad a) 15 res) args s 0 0 (rp_A a 15)) (F0 m 35 ls [.int t0]) := by
  have hx := hC.1
  have hb := hC.2.1
  have hown := hC.2.2.2.1
  have hts := hC.2.2.2.2.1
  unfold fX7_given_35 at hF
  refine lv_istore (pc := 35) (lv' := [(5, .int t0), (0, .ref (a 0)), (1, .int v1)]) hx hb dX7_given_35 hl (by decide) rfl (fun ls hl => ?_)
  refine lv_aload_n (pc := 37) hx hb dX7_given_37 rfl (lv_at hl 1 rfl) ?_
  refine lv_iload_n (pc := 38) hx hb dX7_given_38 rfl (lv_at hl 2 rfl) ?_
  obtain ⟨r1, σ2, hq, hF⟩ := rp_bd_e hF
  refine rp_ki (rp_runV (rest := []) hC (mE_ok _) hw hl.1 (mX7_hasText (l := l) v1 σ _ hq) vw_X7_146 (by decide) (mt_obj _) rfl rfl rfl (Nat.le_of_ble_eq_true rfl) (by decide) dX7_given_39) hw (fun H locs hw => ?_)
  clear hq
  refine lv_if_eq (pc := 42) (tgt := 61) hx hb dX7_given_42 (by decide) (fun hc => ?_) (fun hc => ?_)
  · replace hF := rp_it hc hF
    refine lv_iload (pc := 61) hx hb dX7_given_61 (lv_at hl 0 rfl) ?_
    exact kX7_given_63 hC v1 t0 σ2 _ _ _ hF hw (lv_sub hl [2] rfl)
  · replace hF := rp_if hc hF
    refine lv_aload_n (pc := 45) hx hb dX7_given_45 rfl (lv_at hl 1 rfl) ?_
    refine lv_bipush (pc := 46) (v := 117) hx hb dX7_given_46 (by decide) ?_
    refine lv_bipush (pc := 48) (v := 52) hx hb dX7_given_48 (by decide) ?_
    refine lv_iload_n (pc := 50) hx hb dX7_given_50 rfl (lv_at hl 2 rfl) ?_
    refine lv_imul (pc := 51) hx hb dX7_given_51 ?_
    refine lv_iadd (pc := 52) hx hb dX7_given_52 ?_
    refine lv_iconst (pc := 53) (v := 1) hx hb dX7_given_53 (by decide) ?_
    refine lv_iadd (pc := 54) hx hb dX7_given_54 ?_
    obtain ⟨r3, σ4, hq, hF⟩ := rp_bd_e hF
    refine rp_ki (rp_runV (rest := []) hC (mE_ok _) hw hl.1 (mX7_worked (l := l) ((117 + (52 * v1)) + 1) σ2 _ hq) vw_X7_149 (by decide) (mt_obj _) rfl rfl rfl (Nat.le_of_ble_eq_true rfl) (by decide) dX7_given_55) hw (fun H locs hw => ?_)
    clear hq
    refine lv_goto (pc := 58) (tgt := 63) hx hb dX7_given_58 (by decide) ?_
    exact kX7_given_63 hC v1 r3 σ4 _ _ _ hF hw (lv_sub hl [2] rfl)
def fX7_given (v1 : Int32) (v2 : Int32) (v3 : Int32) (v4 : Int32) (σ : rp_St) : Option (Int32 × rp_St) :=
  rp_gu (rp_in 0 4) (rp_nm (rp_put σ 8 (0 : Int32).toNatClampNeg v2) (fun σ1 => rp_gu (rp_in 1 4) (rp_nm (rp_put σ1 8 (1 : Int32).toNatClampNeg v3) (fun σ2 => rp_gu (rp_in 2 4) (rp_nm (rp_put σ2 8 (2 : Int32).toNatClampNeg v4) (fun σ3 => (if v1 = 0 then fX7_given_35 v1 ((v2 + v3) / 2) σ3 else fX7_given_35 v1 1 σ3)))))))
set_option maxRecDepth 100000 in
set_option maxHeartbeats 4000000 in
theorem kX7_given_0 {p : Program} {l : Launch} {e : Env} {s : State} {m : MethodId} {args : Array Value} {below : List Frame} {meth : Method} {c : Code} {D : va_G} {cI cT : ClassId} {ad av a : Nat → Nat} {res : Int32 × rp_St} (hC : mC p s m args meth c cX7_given 6 "RegretPegsModel" (some .int) D cI cT ad av a) (v1 : Int32) (v2 : Int32) (v3 : Int32) (v4 : Int32) (σ : rp_St) (H : Heap) (locs : List Loc) (ls : Array Slot) (hF : fX7_given v1 v2 v3 v4 σ = some res) (hw : mW D cI cT ad av a s σ H locs) (hl : lv_has ls 6 [(0, .ref (a 0)), (1, .int v1), (2, .int v2), (3, .int v3), (4, .int v4)]) : W p l e (rp_rm 3) s m args below meth c H locs 0 0 (MQ below (rp_Qi D a (mt cI cT ad a) 15 res) args s 0 0 (rp_A a 15)) (F0 m 0 ls []) := by
  have hx := hC.1
  have hb := hC.2.1
  have hown := hC.2.2.2.1
  have hts := hC.2.2.2.2.1
  unfold fX7_given at hF
  refine lv_aload_n (pc := 0) hx hb dX7_given_0 rfl (lv_at hl 0 rfl) ?_
  refine rp_get (pc := 1) hC hw 0 (by decide) (mt_obj _) fl_X7_38 (.ref (a 8)) rfl dX7_given_1 ?_
  refine lv_iconst (pc := 4) (v := 0) hx hb dX7_given_4 (by decide) ?_
  refine lv_iload_n (pc := 5) hx hb dX7_given_5 rfl (lv_at hl 2 rfl) ?_
  obtain ⟨hg, hF⟩ := rp_gu_e hF
  refine rp_ast (pc := 6) hC hw 8 (by decide) (mt_arr 8 4 rfl) 0 rfl hg dX7_given_6 (fun H locs hw => ?_)
  obtain ⟨σ1, eσ1, hF⟩ := rp_nm_e hF
  replace hw := rp_Wn eσ1 hw
  clear eσ1
  refine lv_aload_n (pc := 7) hx hb dX7_given_7 rfl (lv_at hl 0 rfl) ?_
  refine rp_get (pc := 8) hC hw 0 (by decide) (mt_obj _) fl_X7_38 (.ref (a 8)) rfl dX7_given_8 ?_
  refine lv_iconst (pc := 11) (v := 1) hx hb dX7_given_11 (by decide) ?_
  refine lv_iload_n (pc := 12) hx hb dX7_given_12 rfl (lv_at hl 3 rfl) ?_
  obtain ⟨hg, hF⟩ := rp_gu_e hF
  refine rp_ast (pc := 13) hC hw 8 (by decide) (mt_arr 8 4 rfl) 0 rfl hg dX7_given_13 (fun H locs hw => ?_)
  obtain ⟨σ2, eσ2, hF⟩ := rp_nm_e hF
  replace hw := rp_Wn eσ2 hw
  clear eσ2
  refine lv_aload_n (pc := 14) hx hb dX7_given_14 rfl (lv_at hl 0 rfl) ?_
  refine rp_get (pc := 15) hC hw 0 (by decide) (mt_obj _) fl_X7_38 (.ref (a 8)) rfl dX7_given_15 ?_
  refine lv_iconst (pc := 18) (v := 2) hx hb dX7_given_18 (by decide) ?_
  refine lv_iload (pc := 19) hx hb dX7_given_19 (lv_at hl 4 rfl) ?_
  obtain ⟨hg, hF⟩ := rp_gu_e hF
  refine rp_ast (pc := 21) hC hw 8 (by decide) (mt_arr 8 4 rfl) 0 rfl hg dX7_given_21 (fun H locs hw => ?_)
  obtain ⟨σ3, eσ3, hF⟩ := rp_nm_e hF
  replace hw := rp_Wn eσ3 hw
  clear eσ3
  refine lv_iload_n (pc := 22) hx hb dX7_given_22 rfl (lv_at hl 1 rfl) ?_
  refine lv_if_ne (pc := 23) (tgt := 34) hx hb dX7_given_23 (by decide) (fun hc => ?_) (fun hc => ?_)
  · replace hF := rp_if hc hF
    refine lv_iconst (pc := 34) (v := 1) hx hb dX7_given_34 (by decide) ?_
    exact kX7_given_35 hC v1 1 σ3 _ _ _ hF hw (lv_sub hl [0, 1] rfl)
  · replace hF := rp_it hc hF
    refine lv_iload_n (pc := 26) hx hb dX7_given_26 rfl (lv_at hl 2 rfl) ?_
    refine lv_iload_n (pc := 27) hx hb dX7_given_27 rfl (lv_at hl 3 rfl) ?_
    refine lv_iadd (pc := 28) hx hb dX7_given_28 ?_
    refine lv_iconst (pc := 29) (v := 2) hx hb dX7_given_29 (by decide) ?_
    refine lv_idiv (pc := 30) hx hb dX7_given_30 (by decide) ?_
    refine lv_goto (pc := 31) (tgt := 35) hx hb dX7_given_31 (by decide) ?_
    exact kX7_given_35 hC v1 ((v2 + v3) / 2) σ3 _ _ _ hF hw (lv_sub hl [0, 1] rfl)
theorem mX7_given {l : Launch} {D : va_G} {cI cT : ClassId} {ad av a : Nat → Nat} (v1 : Int32) (v2 : Int32) (v3 : Int32) (v4 : Int32) (σ : rp_St) (res : Int32 × rp_St) (hF : fX7_given v1 v2 v3 v4 σ = some res) : mM l D cI cT ad av a yX7_given cX7_given 6 (some .int) 3 [.ref (a 0), .int v1, .int v2, .int v3, .int v4] σ (rp_Qi D a (mt cI cT ad a) 15 res) :=
  rp_entry (by decide) (Nat.le_of_ble_eq_true rfl) (fun p e s m below meth c ls hC hw hl => kX7_given_0 hC v1 v2 v3 v4 σ _ _ _ hF hw (lv_sub hl [0, 1, 2, 3, 4] rfl))
def fX7_law (v1 : Int32) (v2 : Int32) (v3 : Int32) (v4 : Int32) (σ : rp_St) : Option (Int32 × rp_St) :=
  rp_bd (fX7_within v1 0 1 σ) (fun r1 σ2 => (if r1 = 0 then rp_bd (fX7_finding (-1000000001) σ2) (fun r3 σ4 => some (r3, σ4)) else rp_bd (fX7_given v1 v2 v3 v4 σ2) (fun r5 σ6 => some (r5, σ6))))
set_option maxRecDepth 100000 in
set_option maxHeartbeats 4000000 in
theorem kX7_law_0 {p : Program} {l : Launch} {e : Env} {s : State} {m : MethodId} {args : Array Value} {below : List Frame} {meth : Method} {c : Code} {D : va_G} {cI cT : ClassId} {ad av a : Nat → Nat} {res : Int32 × rp_St} (hC : mC p s m args meth c cX7_law 5 "RegretPegsModel" (some .int) D cI cT ad av a) (v1 : Int32) (v2 : Int32) (v3 : Int32) (v4 : Int32) (σ : rp_St) (H : Heap) (locs : List Loc) (ls : Array Slot) (hF : fX7_law v1 v2 v3 v4 σ = some res) (hw : mW D cI cT ad av a s σ H locs) (hl : lv_has ls 5 [(0, .ref (a 0)), (1, .int v1), (2, .int v2), (3, .int v3), (4, .int v4)]) : W p l e (rp_rm 4) s m args below meth c H locs 0 0 (MQ below (rp_Qi D a (mt cI cT ad a) 15 res) args s 0 0 (rp_A a 15)) (F0 m 0 ls []) := by
  have hx := hC.1
  have hb := hC.2.1
  have hown := hC.2.2.2.1
  have hts := hC.2.2.2.2.1
  unfold fX7_law at hF
  refine lv_iload_n (pc := 0) hx hb dX7_law_0 rfl (lv_at hl 1 rfl) ?_
  refine lv_iconst (pc := 1) (v := 0) hx hb dX7_law_1 (by decide) ?_
  refine lv_iconst (pc := 2) (v := 1) hx hb dX7_law_2 (by decide) ?_
  obtain ⟨r1, σ2, hq, hF⟩ := rp_bd_e hF
  refine rp_ki (rp_runZ (rest := []) hC (mE_ok _) hw hl.1 (mX7_within (l := l) v1 0 1 σ _ hq) zw_X7_73 rfl rfl (Nat.le_of_ble_eq_true rfl) (by decide) dX7_law_3) hw (fun H locs hw => ?_)
  clear hq
  refine lv_if_eq (pc := 6) (tgt := 21) hx hb dX7_law_6 (by decide) (fun hc => ?_) (fun hc => ?_)
  · replace hF := rp_it hc hF
    refine lv_aload_n (pc := 21) hx hb dX7_law_21 rfl (lv_at hl 0 rfl) ?_
    refine lv_ldc (pc := 22) (v := (-1000000001)) hx hb hown (hts _ wd_721) dX7_law_22 ?_
    obtain ⟨r3, σ4, hq, hF⟩ := rp_bd_e hF
    refine rp_ki (rp_runV (rest := []) hC (mE_ok _) hw hl.1 (mX7_finding (l := l) (-1000000001) σ2 _ hq) vw_X7_78 (by decide) (mt_obj _) rfl rfl rfl (Nat.le_of_ble_eq_true rfl) (by decide) dX7_law_24) hw (fun H locs hw => ?_)
    clear hq
    exact rp_reti (pc := 27) hC hw hF dX7_law_27
  · replace hF := rp_if hc hF
    refine lv_aload_n (pc := 9) hx hb dX7_law_9 rfl (lv_at hl 0 rfl) ?_
    refine lv_iload_n (pc := 10) hx hb dX7_law_10 rfl (lv_at hl 1 rfl) ?_
    refine lv_iload_n (pc := 11) hx hb dX7_law_11 rfl (lv_at hl 2 rfl) ?_
    refine lv_iload_n (pc := 12) hx hb dX7_law_12 rfl (lv_at hl 3 rfl) ?_
    refine lv_iload (pc := 13) hx hb dX7_law_13 (lv_at hl 4 rfl) ?_
    obtain ⟨r5, σ6, hq, hF⟩ := rp_bd_e hF
    refine rp_ki (rp_runV (rest := []) hC (mE_ok _) hw hl.1 (mX7_given (l := l) v1 v2 v3 v4 σ2 _ hq) vw_X7_155 (by decide) (mt_obj _) rfl rfl rfl (Nat.le_of_ble_eq_true rfl) (by decide) dX7_law_15) hw (fun H locs hw => ?_)
    clear hq
    refine lv_goto (pc := 18) (tgt := 27) hx hb dX7_law_18 (by decide) ?_
    exact rp_reti (pc := 27) hC hw hF dX7_law_27
theorem mX7_law {l : Launch} {D : va_G} {cI cT : ClassId} {ad av a : Nat → Nat} (v1 : Int32) (v2 : Int32) (v3 : Int32) (v4 : Int32) (σ : rp_St) (res : Int32 × rp_St) (hF : fX7_law v1 v2 v3 v4 σ = some res) : mM l D cI cT ad av a yX7_law cX7_law 5 (some .int) 4 [.ref (a 0), .int v1, .int v2, .int v3, .int v4] σ (rp_Qi D a (mt cI cT ad a) 15 res) :=
  rp_entry (by decide) (Nat.le_of_ble_eq_true rfl) (fun p e s m below meth c ls hC hw hl => kX7_law_0 hC v1 v2 v3 v4 σ _ _ _ hF hw (lv_sub hl [0, 1, 2, 3, 4] rfl))
def fX7_isGuest (v1 : Int32) (σ : rp_St) : Option (Int32 × rp_St) :=
  rp_gu (rp_in 1 221) (rp_bd (fX7_within v1 0 ((σ 1 (1 : Int32).toNatClampNeg) - 1) σ) (fun r1 σ2 => rp_gu (r1 == 0 || r1 == 1) (some (r1, σ2))))
set_option maxRecDepth 100000 in
set_option maxHeartbeats 4000000 in
theorem kX7_isGuest_0 {p : Program} {l : Launch} {e : Env} {s : State} {m : MethodId} {args : Array Value} {below : List Frame} {meth : Method} {c : Code} {D : va_G} {cI cT : ClassId} {ad av a : Nat → Nat} {res : Int32 × rp_St} (hC : mC p s m args meth c cX7_isGuest 2 "RegretPegsModel" (some .boolean) D cI cT ad av a) (v1 : Int32) (σ : rp_St) (H : Heap) (locs : List Loc) (ls : Array Slot) (hF : fX7_isGuest v1 σ = some res) (hw : mW D cI cT ad av a s σ H locs) (hl : lv_has ls 2 [(0, .ref (a 0)), (1, .int v1)]) : W p l e (rp_rm 2) s m args below meth c H locs 0 0 (MQ below (rp_Qi D a (mt cI cT ad a) 15 res) args s 0 0 (rp_A a 15)) (F0 m 0 ls []) := by
  have hx := hC.1
  have hb := hC.2.1
  have hown := hC.2.2.2.1
  have hts := hC.2.2.2.2.1
  unfold fX7_isGuest at hF
  refine lv_iload_n (pc := 0) hx hb dX7_isGuest_0 rfl (lv_at hl 1 rfl) ?_
  refine lv_iconst (pc := 1) (v := 0) hx hb dX7_isGuest_1 (by decide) ?_
  refine lv_aload_n (pc := 2) hx hb dX7_isGuest_2 rfl (lv_at hl 0 rfl) ?_
  refine rp_get (pc := 3) hC hw 0 (by decide) (mt_obj _) fl_X7_9 (.ref (a 1)) rfl dX7_isGuest_3 ?_
  refine lv_iconst (pc := 6) (v := 1) hx hb dX7_isGuest_6 (by decide) ?_
  obtain ⟨hg, hF⟩ := rp_gu_e hF
  refine rp_ald (pc := 7) hC hw 1 (by decide) (mt_arr 1 221 rfl) 0 rfl hg dX7_isGuest_7 ?_
  refine lv_iconst (pc := 8) (v := 1) hx hb dX7_isGuest_8 (by decide) ?_
  refine lv_isub (pc := 9) hx hb dX7_isGuest_9 ?_
  obtain ⟨r1, σ2, hq, hF⟩ := rp_bd_e hF
  refine rp_ki (rp_runZ (rest := []) hC (mE_ok _) hw hl.1 (mX7_within (l := l) v1 0 ((σ 1 (1 : Int32).toNatClampNeg) - 1) σ _ hq) zw_X7_73 rfl rfl (Nat.le_of_ble_eq_true rfl) (by decide) dX7_isGuest_10) hw (fun H locs hw => ?_)
  clear hq
  obtain ⟨hg, hF⟩ := rp_gu_e hF
  exact rp_retz (pc := 13) hC hw hg hF dX7_isGuest_13
theorem mX7_isGuest {l : Launch} {D : va_G} {cI cT : ClassId} {ad av a : Nat → Nat} (v1 : Int32) (σ : rp_St) (res : Int32 × rp_St) (hF : fX7_isGuest v1 σ = some res) : mM l D cI cT ad av a yX7_isGuest cX7_isGuest 2 (some .boolean) 2 [.ref (a 0), .int v1] σ (rp_Qi D a (mt cI cT ad a) 15 res) :=
  rp_entry (by decide) (Nat.le_of_ble_eq_true rfl) (fun p e s m below meth c ls hC hw hl => kX7_isGuest_0 hC v1 σ _ _ _ hF hw (lv_sub hl [0, 1] rfl))
def fX7_areTwo (v1 : Int32) (v2 : Int32) (σ : rp_St) : Option (Int32 × rp_St) :=
  rp_bd (fX7_isGuest v1 σ) (fun r1 σ2 => (if r1 = 0 then some (0, σ2) else rp_bd (fX7_isGuest v2 σ2) (fun r3 σ4 => (if r3 = 0 then some (0, σ4) else (if v1 = v2 then some (0, σ4) else some (1, σ4))))))
set_option maxRecDepth 100000 in
set_option maxHeartbeats 4000000 in
theorem kX7_areTwo_0 {p : Program} {l : Launch} {e : Env} {s : State} {m : MethodId} {args : Array Value} {below : List Frame} {meth : Method} {c : Code} {D : va_G} {cI cT : ClassId} {ad av a : Nat → Nat} {res : Int32 × rp_St} (hC : mC p s m args meth c cX7_areTwo 3 "RegretPegsModel" (some .boolean) D cI cT ad av a) (v1 : Int32) (v2 : Int32) (σ : rp_St) (H : Heap) (locs : List Loc) (ls : Array Slot) (hF : fX7_areTwo v1 v2 σ = some res) (hw : mW D cI cT ad av a s σ H locs) (hl : lv_has ls 3 [(0, .ref (a 0)), (1, .int v1), (2, .int v2)]) : W p l e (rp_rm 3) s m args below meth c H locs 0 0 (MQ below (rp_Qi D a (mt cI cT ad a) 15 res) args s 0 0 (rp_A a 15)) (F0 m 0 ls []) := by
  have hx := hC.1
  have hb := hC.2.1
  have hown := hC.2.2.2.1
  have hts := hC.2.2.2.2.1
  unfold fX7_areTwo at hF
  refine lv_aload_n (pc := 0) hx hb dX7_areTwo_0 rfl (lv_at hl 0 rfl) ?_
  refine lv_iload_n (pc := 1) hx hb dX7_areTwo_1 rfl (lv_at hl 1 rfl) ?_
  obtain ⟨r1, σ2, hq, hF⟩ := rp_bd_e hF
  refine rp_ki (rp_runV (rest := []) hC (mE_ok _) hw hl.1 (mX7_isGuest (l := l) v1 σ _ hq) vw_X7_159 (by decide) (mt_obj _) rfl rfl rfl (Nat.le_of_ble_eq_true rfl) (by decide) dX7_areTwo_2) hw (fun H locs hw => ?_)
  clear hq
  refine lv_if_eq (pc := 5) (tgt := 25) hx hb dX7_areTwo_5 (by decide) (fun hc => ?_) (fun hc => ?_)
  · replace hF := rp_it hc hF
    refine lv_iconst (pc := 25) (v := 0) hx hb dX7_areTwo_25 (by decide) ?_
    exact rp_retz (pc := 26) hC hw rfl hF dX7_areTwo_26
  · replace hF := rp_if hc hF
    refine lv_aload_n (pc := 8) hx hb dX7_areTwo_8 rfl (lv_at hl 0 rfl) ?_
    refine lv_iload_n (pc := 9) hx hb dX7_areTwo_9 rfl (lv_at hl 2 rfl) ?_
    obtain ⟨r3, σ4, hq, hF⟩ := rp_bd_e hF
    refine rp_ki (rp_runV (rest := []) hC (mE_ok _) hw hl.1 (mX7_isGuest (l := l) v2 σ2 _ hq) vw_X7_159 (by decide) (mt_obj _) rfl rfl rfl (Nat.le_of_ble_eq_true rfl) (by decide) dX7_areTwo_10) hw (fun H locs hw => ?_)
    clear hq
    refine lv_if_eq (pc := 13) (tgt := 25) hx hb dX7_areTwo_13 (by decide) (fun hc => ?_) (fun hc => ?_)
    · replace hF := rp_it hc hF
      refine lv_iconst (pc := 25) (v := 0) hx hb dX7_areTwo_25 (by decide) ?_
      exact rp_retz (pc := 26) hC hw rfl hF dX7_areTwo_26
    · replace hF := rp_if hc hF
      refine lv_iload_n (pc := 16) hx hb dX7_areTwo_16 rfl (lv_at hl 1 rfl) ?_
      refine lv_iload_n (pc := 17) hx hb dX7_areTwo_17 rfl (lv_at hl 2 rfl) ?_
      refine lv_icmp_eq (pc := 18) (tgt := 25) hx hb dX7_areTwo_18 (by decide) (fun hc => ?_) (fun hc => ?_)
      · replace hF := rp_it hc hF
        refine lv_iconst (pc := 25) (v := 0) hx hb dX7_areTwo_25 (by decide) ?_
        exact rp_retz (pc := 26) hC hw rfl hF dX7_areTwo_26
      · replace hF := rp_if hc hF
        refine lv_iconst (pc := 21) (v := 1) hx hb dX7_areTwo_21 (by decide) ?_
        refine lv_goto (pc := 22) (tgt := 26) hx hb dX7_areTwo_22 (by decide) ?_
        exact rp_retz (pc := 26) hC hw rfl hF dX7_areTwo_26
theorem mX7_areTwo {l : Launch} {D : va_G} {cI cT : ClassId} {ad av a : Nat → Nat} (v1 : Int32) (v2 : Int32) (σ : rp_St) (res : Int32 × rp_St) (hF : fX7_areTwo v1 v2 σ = some res) : mM l D cI cT ad av a yX7_areTwo cX7_areTwo 3 (some .boolean) 3 [.ref (a 0), .int v1, .int v2] σ (rp_Qi D a (mt cI cT ad a) 15 res) :=
  rp_entry (by decide) (Nat.le_of_ble_eq_true rfl) (fun p e s m below meth c ls hC hw hl => kX7_areTwo_0 hC v1 v2 σ _ _ _ hF hw (lv_sub hl [0, 1, 2] rfl))
def fX7_isRue (v0 : Int32) (σ : rp_St) : Option (Int32 × rp_St) :=
  rp_bd (fX7_within v0 0 999 σ) (fun r1 σ2 => rp_gu (r1 == 0 || r1 == 1) (some (r1, σ2)))
set_option maxRecDepth 100000 in
set_option maxHeartbeats 4000000 in
theorem kX7_isRue_0 {p : Program} {l : Launch} {e : Env} {s : State} {m : MethodId} {args : Array Value} {below : List Frame} {meth : Method} {c : Code} {D : va_G} {cI cT : ClassId} {ad av a : Nat → Nat} {res : Int32 × rp_St} (hC : mC p s m args meth c cX7_isRue 1 "RegretPegsModel" (some .boolean) D cI cT ad av a) (v0 : Int32) (σ : rp_St) (H : Heap) (locs : List Loc) (ls : Array Slot) (hF : fX7_isRue v0 σ = some res) (hw : mW D cI cT ad av a s σ H locs) (hl : lv_has ls 1 [(0, .int v0)]) : W p l e (rp_rm 2) s m args below meth c H locs 0 0 (MQ below (rp_Qi D a (mt cI cT ad a) 15 res) args s 0 0 (rp_A a 15)) (F0 m 0 ls []) := by
  have hx := hC.1
  have hb := hC.2.1
  have hown := hC.2.2.2.1
  have hts := hC.2.2.2.2.1
  unfold fX7_isRue at hF
  refine lv_iload_n (pc := 0) hx hb dX7_isRue_0 rfl (lv_at hl 0 rfl) ?_
  refine lv_iconst (pc := 1) (v := 0) hx hb dX7_isRue_1 (by decide) ?_
  refine lv_sipush (pc := 2) (v := 999) hx hb dX7_isRue_2 (by decide) ?_
  obtain ⟨r1, σ2, hq, hF⟩ := rp_bd_e hF
  refine rp_ki (rp_runZ (rest := []) hC (mE_ok _) hw hl.1 (mX7_within (l := l) v0 0 999 σ _ hq) zw_X7_73 rfl rfl (Nat.le_of_ble_eq_true rfl) (by decide) dX7_isRue_5) hw (fun H locs hw => ?_)
  clear hq
  obtain ⟨hg, hF⟩ := rp_gu_e hF
  exact rp_retz (pc := 8) hC hw hg hF dX7_isRue_8
theorem mX7_isRue {l : Launch} {D : va_G} {cI cT : ClassId} {ad av a : Nat → Nat} (v0 : Int32) (σ : rp_St) (res : Int32 × rp_St) (hF : fX7_isRue v0 σ = some res) : mM l D cI cT ad av a yX7_isRue cX7_isRue 1 (some .boolean) 2 [.int v0] σ (rp_Qi D a (mt cI cT ad a) 15 res) :=
  rp_entry (by decide) (Nat.le_of_ble_eq_true rfl) (fun p e s m below meth c ls hC hw hl => kX7_isRue_0 hC v0 σ _ _ _ hF hw (lv_sub hl [0] rfl))
def fX7_guestAt (v0 : Int32) (v1 : Int32) (σ : rp_St) : Option (Int32 × rp_St) :=
  some (((12 + (5 * v0)) + v1), σ)
set_option maxRecDepth 100000 in
set_option maxHeartbeats 4000000 in
theorem kX7_guestAt_0 {p : Program} {l : Launch} {e : Env} {s : State} {m : MethodId} {args : Array Value} {below : List Frame} {meth : Method} {c : Code} {D : va_G} {cI cT : ClassId} {ad av a : Nat → Nat} {res : Int32 × rp_St} (hC : mC p s m args meth c cX7_guestAt 2 "RegretPegsModel" (some .int) D cI cT ad av a) (v0 : Int32) (v1 : Int32) (σ : rp_St) (H : Heap) (locs : List Loc) (ls : Array Slot) (hF : fX7_guestAt v0 v1 σ = some res) (hw : mW D cI cT ad av a s σ H locs) (hl : lv_has ls 2 [(0, .int v0), (1, .int v1)]) : W p l e (rp_rm 1) s m args below meth c H locs 0 0 (MQ below (rp_Qi D a (mt cI cT ad a) 15 res) args s 0 0 (rp_A a 15)) (F0 m 0 ls []) := by
  have hx := hC.1
  have hb := hC.2.1
  have hown := hC.2.2.2.1
  have hts := hC.2.2.2.2.1
  unfold fX7_guestAt at hF
  refine lv_bipush (pc := 0) (v := 12) hx hb dX7_guestAt_0 (by decide) ?_
  refine lv_iconst (pc := 2) (v := 5) hx hb dX7_guestAt_2 (by decide) ?_
  refine lv_iload_n (pc := 3) hx hb dX7_guestAt_3 rfl (lv_at hl 0 rfl) ?_
  refine lv_imul (pc := 4) hx hb dX7_guestAt_4 ?_
  refine lv_iadd (pc := 5) hx hb dX7_guestAt_5 ?_
  refine lv_iload_n (pc := 6) hx hb dX7_guestAt_6 rfl (lv_at hl 1 rfl) ?_
  refine lv_iadd (pc := 7) hx hb dX7_guestAt_7 ?_
  exact rp_reti (pc := 8) hC hw hF dX7_guestAt_8
theorem mX7_guestAt {l : Launch} {D : va_G} {cI cT : ClassId} {ad av a : Nat → Nat} (v0 : Int32) (v1 : Int32) (σ : rp_St) (res : Int32 × rp_St) (hF : fX7_guestAt v0 v1 σ = some res) : mM l D cI cT ad av a yX7_guestAt cX7_guestAt 2 (some .int) 1 [.int v0, .int v1] σ (rp_Qi D a (mt cI cT ad a) 15 res) :=
  rp_entry (by decide) (Nat.le_of_ble_eq_true rfl) (fun p e s m below meth c ls hC hw hl => kX7_guestAt_0 hC v0 v1 σ _ _ _ hF hw (lv_sub hl [0, 1] rfl))
def fX7_guestIs (v1 : Int32) (v2 : Int32) (σ : rp_St) : Option (Int32 × rp_St) :=
  rp_bd (fX7_guestAt v1 v2 σ) (fun r1 σ2 => rp_gu (rp_in r1 221) (some ((σ2 1 (r1 : Int32).toNatClampNeg), σ2)))
set_option maxRecDepth 100000 in
set_option maxHeartbeats 4000000 in
theorem kX7_guestIs_0 {p : Program} {l : Launch} {e : Env} {s : State} {m : MethodId} {args : Array Value} {below : List Frame} {meth : Method} {c : Code} {D : va_G} {cI cT : ClassId} {ad av a : Nat → Nat} {res : Int32 × rp_St} (hC : mC p s m args meth c cX7_guestIs 3 "RegretPegsModel" (some .int) D cI cT ad av a) (v1 : Int32) (v2 : Int32) (σ : rp_St) (H : Heap) (locs : List Loc) (ls : Array Slot) (hF : fX7_guestIs v1 v2 σ = some res) (hw : mW D cI cT ad av a s σ H locs) (hl : lv_has ls 3 [(0, .ref (a 0)), (1, .int v1), (2, .int v2)]) : W p l e (rp_rm 2) s m args below meth c H locs 0 0 (MQ below (rp_Qi D a (mt cI cT ad a) 15 res) args s 0 0 (rp_A a 15)) (F0 m 0 ls []) := by
  have hx := hC.1
  have hb := hC.2.1
  have hown := hC.2.2.2.1
  have hts := hC.2.2.2.2.1
  unfold fX7_guestIs at hF
  refine lv_aload_n (pc := 0) hx hb dX7_guestIs_0 rfl (lv_at hl 0 rfl) ?_
  refine rp_get (pc := 1) hC hw 0 (by decide) (mt_obj _) fl_X7_9 (.ref (a 1)) rfl dX7_guestIs_1 ?_
  refine lv_iload_n (pc := 4) hx hb dX7_guestIs_4 rfl (lv_at hl 1 rfl) ?_
  refine lv_iload_n (pc := 5) hx hb dX7_guestIs_5 rfl (lv_at hl 2 rfl) ?_
  obtain ⟨r1, σ2, hq, hF⟩ := rp_bd_e hF
  refine rp_ki (rp_runZ (rest := [.ref (a 1)]) hC (mE_ok _) hw hl.1 (mX7_guestAt (l := l) v1 v2 σ _ hq) zw_X7_162 rfl rfl (Nat.le_of_ble_eq_true rfl) (by decide) dX7_guestIs_6) hw (fun H locs hw => ?_)
  clear hq
  obtain ⟨hg, hF⟩ := rp_gu_e hF
  refine rp_ald (pc := 9) hC hw 1 (by decide) (mt_arr 1 221 rfl) 0 rfl hg dX7_guestIs_9 ?_
  exact rp_reti (pc := 10) hC hw hF dX7_guestIs_10
theorem mX7_guestIs {l : Launch} {D : va_G} {cI cT : ClassId} {ad av a : Nat → Nat} (v1 : Int32) (v2 : Int32) (σ : rp_St) (res : Int32 × rp_St) (hF : fX7_guestIs v1 v2 σ = some res) : mM l D cI cT ad av a yX7_guestIs cX7_guestIs 3 (some .int) 2 [.ref (a 0), .int v1, .int v2] σ (rp_Qi D a (mt cI cT ad a) 15 res) :=
  rp_entry (by decide) (Nat.le_of_ble_eq_true rfl) (fun p e s m below meth c ls hC hw hl => kX7_guestIs_0 hC v1 v2 σ _ _ _ hF hw (lv_sub hl [0, 1, 2] rfl))
def fX7_rue (v1 : Int32) (σ : rp_St) : Option (Int32 × rp_St) :=
  rp_bd (fX7_guestIs v1 2 σ) (fun r1 σ2 => some (r1, σ2))
set_option maxRecDepth 100000 in
set_option maxHeartbeats 4000000 in
theorem kX7_rue_0 {p : Program} {l : Launch} {e : Env} {s : State} {m : MethodId} {args : Array Value} {below : List Frame} {meth : Method} {c : Code} {D : va_G} {cI cT : ClassId} {ad av a : Nat → Nat} {res : Int32 × rp_St} (hC : mC p s m args meth c cX7_rue 2 "RegretPegsModel" (some .int) D cI cT ad av a) (v1 : Int32) (σ : rp_St) (H : Heap) (locs : List Loc) (ls : Array Slot) (hF : fX7_rue v1 σ = some res) (hw : mW D cI cT ad av a s σ H locs) (hl : lv_has ls 2 [(0, .ref (a 0)), (1, .int v1)]) : W p l e (rp_rm 3) s m args below meth c H locs 0 0 (MQ below (rp_Qi D a (mt cI cT ad a) 15 res) args s 0 0 (rp_A a 15)) (F0 m 0 ls []) := by
  have hx := hC.1
  have hb := hC.2.1
  have hown := hC.2.2.2.1
  have hts := hC.2.2.2.2.1
  unfold fX7_rue at hF
  refine lv_aload_n (pc := 0) hx hb dX7_rue_0 rfl (lv_at hl 0 rfl) ?_
  refine lv_iload_n (pc := 1) hx hb dX7_rue_1 rfl (lv_at hl 1 rfl) ?_
  refine lv_iconst (pc := 2) (v := 2) hx hb dX7_rue_2 (by decide) ?_
  obtain ⟨r1, σ2, hq, hF⟩ := rp_bd_e hF
  refine rp_ki (rp_runV (rest := []) hC (mE_ok _) hw hl.1 (mX7_guestIs (l := l) v1 2 σ _ hq) vw_X7_165 (by decide) (mt_obj _) rfl rfl rfl (Nat.le_of_ble_eq_true rfl) (by decide) dX7_rue_3) hw (fun H locs hw => ?_)
  clear hq
  exact rp_reti (pc := 6) hC hw hF dX7_rue_6
theorem mX7_rue {l : Launch} {D : va_G} {cI cT : ClassId} {ad av a : Nat → Nat} (v1 : Int32) (σ : rp_St) (res : Int32 × rp_St) (hF : fX7_rue v1 σ = some res) : mM l D cI cT ad av a yX7_rue cX7_rue 2 (some .int) 3 [.ref (a 0), .int v1] σ (rp_Qi D a (mt cI cT ad a) 15 res) :=
  rp_entry (by decide) (Nat.le_of_ble_eq_true rfl) (fun p e s m below meth c ls hC hw hl => kX7_rue_0 hC v1 σ _ _ _ hF hw (lv_sub hl [0, 1] rfl))
def fX7_isKindM (v0 : Int32) (σ : rp_St) : Option (Int32 × rp_St) :=
  rp_bd (fX7_within v0 0 69 σ) (fun r1 σ2 => rp_gu (r1 == 0 || r1 == 1) (some (r1, σ2)))
set_option maxRecDepth 100000 in
set_option maxHeartbeats 4000000 in
theorem kX7_isKindM_0 {p : Program} {l : Launch} {e : Env} {s : State} {m : MethodId} {args : Array Value} {below : List Frame} {meth : Method} {c : Code} {D : va_G} {cI cT : ClassId} {ad av a : Nat → Nat} {res : Int32 × rp_St} (hC : mC p s m args meth c cX7_isKindM 1 "RegretPegsModel" (some .boolean) D cI cT ad av a) (v0 : Int32) (σ : rp_St) (H : Heap) (locs : List Loc) (ls : Array Slot) (hF : fX7_isKindM v0 σ = some res) (hw : mW D cI cT ad av a s σ H locs) (hl : lv_has ls 1 [(0, .int v0)]) : W p l e (rp_rm 2) s m args below meth c H locs 0 0 (MQ below (rp_Qi D a (mt cI cT ad a) 15 res) args s 0 0 (rp_A a 15)) (F0 m 0 ls []) := by
  have hx := hC.1
  have hb := hC.2.1
  have hown := hC.2.2.2.1
  have hts := hC.2.2.2.2.1
  unfold fX7_isKindM at hF
  refine lv_iload_n (pc := 0) hx hb dX7_isKindM_0 rfl (lv_at hl 0 rfl) ?_
  refine lv_iconst (pc := 1) (v := 0) hx hb dX7_isKindM_1 (by decide) ?_
  refine lv_bipush (pc := 2) (v := 69) hx hb dX7_isKindM_2 (by decide) ?_
  obtain ⟨r1, σ2, hq, hF⟩ := rp_bd_e hF
  refine rp_ki (rp_runZ (rest := []) hC (mE_ok _) hw hl.1 (mX7_within (l := l) v0 0 69 σ _ hq) zw_X7_73 rfl rfl (Nat.le_of_ble_eq_true rfl) (by decide) dX7_isKindM_4) hw (fun H locs hw => ?_)
  clear hq
  obtain ⟨hg, hF⟩ := rp_gu_e hF
  exact rp_retz (pc := 7) hC hw hg hF dX7_isKindM_7
theorem mX7_isKindM {l : Launch} {D : va_G} {cI cT : ClassId} {ad av a : Nat → Nat} (v0 : Int32) (σ : rp_St) (res : Int32 × rp_St) (hF : fX7_isKindM v0 σ = some res) : mM l D cI cT ad av a yX7_isKindM cX7_isKindM 1 (some .boolean) 2 [.int v0] σ (rp_Qi D a (mt cI cT ad a) 15 res) :=
  rp_entry (by decide) (Nat.le_of_ble_eq_true rfl) (fun p e s m below meth c ls hC hw hl => kX7_isKindM_0 hC v0 σ _ _ _ hF hw (lv_sub hl [0] rfl))
def fX7_comes (v1 : Int32) (v2 : Int32) (σ : rp_St) : Option (Int32 × rp_St) :=
  rp_gu (rp_in 1 221) (rp_nm (σ 1 (1 : Int32).toNatClampNeg) (fun x1 => rp_bd (fX7_guestAt x1 0 σ) (fun r2 σ3 => rp_gu (rp_in r2 221) (rp_nm (rp_put σ3 1 (r2 : Int32).toNatClampNeg (v1 / 10)) (fun σ4 => rp_bd (fX7_guestAt x1 1 σ4) (fun r5 σ6 => rp_gu (rp_in r5 221) (rp_nm (rp_put σ6 1 (r5 : Int32).toNatClampNeg (v1 - v1 / 10 * 10)) (fun σ7 => rp_bd (fX7_guestAt x1 2 σ7) (fun r8 σ9 => rp_gu (rp_in r8 221) (rp_nm (rp_put σ9 1 (r8 : Int32).toNatClampNeg v2) (fun σ10 => rp_bd (fX7_guestAt x1 3 σ10) (fun r11 σ12 => rp_gu (rp_in r11 221) (rp_nm (rp_put σ12 1 (r11 : Int32).toNatClampNeg 0) (fun σ13 => rp_bd (fX7_guestAt x1 4 σ13) (fun r14 σ15 => rp_gu (rp_in r14 221) (rp_nm (rp_put σ15 1 (r14 : Int32).toNatClampNeg 1) (fun σ16 => rp_gu (rp_in (5 + x1) 221) (rp_nm (rp_put σ16 1 ((5 + x1) : Int32).toNatClampNeg x1) (fun σ17 => rp_gu (rp_in 1 221) (rp_gu (rp_in 1 221) (rp_nm (rp_put σ17 1 (1 : Int32).toNatClampNeg ((σ17 1 (1 : Int32).toNatClampNeg) + 1)) (fun σ18 => some (x1, σ18)))))))))))))))))))))))
set_option maxRecDepth 100000 in
set_option maxHeartbeats 4000000 in
theorem kX7_comes_0 {p : Program} {l : Launch} {e : Env} {s : State} {m : MethodId} {args : Array Value} {below : List Frame} {meth : Method} {c : Code} {D : va_G} {cI cT : ClassId} {ad av a : Nat → Nat} {res : Int32 × rp_St} (hC : mC p s m args meth c cX7_comes 4 "RegretPegsModel" (some .int) D cI cT ad av a) (v1 : Int32) (v2 : Int32) (σ : rp_St) (H : Heap) (locs : List Loc) (ls : Array Slot) (hF : fX7_comes v1 v2 σ = some res) (hw : mW D cI cT ad av a s σ H locs) (hl : lv_has ls 4 [(0, .ref (a 0)), (1, .int v1), (2, .int v2)]) : W p l e (rp_rm 2) s m args below meth c H locs 0 0 (MQ below (rp_Qi D a (mt cI cT ad a) 15 res) args s 0 0 (rp_A a 15)) (F0 m 0 ls []) := by
  have hx := hC.1
  have hb := hC.2.1
  have hown := hC.2.2.2.1
  have hts := hC.2.2.2.2.1
  unfold fX7_comes at hF
  refine lv_aload_n (pc := 0) hx hb dX7_comes_0 rfl (lv_at hl 0 rfl) ?_
  refine rp_get (pc := 1) hC hw 0 (by decide) (mt_obj _) fl_X7_9 (.ref (a 1)) rfl dX7_comes_1 ?_
  refine lv_iconst (pc := 4) (v := 1) hx hb dX7_comes_4 (by decide) ?_
  obtain ⟨hg, hF⟩ := rp_gu_e hF
  refine rp_ald (pc := 5) hC hw 1 (by decide) (mt_arr 1 221 rfl) 0 rfl hg dX7_comes_5 ?_
  obtain ⟨x1, ex1, hF⟩ := rp_nm_e hF
  refine rp_top ex1 ?_
  refine lv_istore_n (pc := 6) (lv' := [(3, .int x1), (0, .ref (a 0)), (1, .int v1), (2, .int v2)]) hx hb dX7_comes_6 rfl hl (by decide) rfl (fun ls hl => ?_)
  refine lv_aload_n (pc := 7) hx hb dX7_comes_7 rfl (lv_at hl 1 rfl) ?_
  refine rp_get (pc := 8) hC hw 0 (by decide) (mt_obj _) fl_X7_9 (.ref (a 1)) rfl dX7_comes_8 ?_
  refine lv_iload_n (pc := 11) hx hb dX7_comes_11 rfl (lv_at hl 0 rfl) ?_
  refine lv_iconst (pc := 12) (v := 0) hx hb dX7_comes_12 (by decide) ?_
  obtain ⟨r2, σ3, hq, hF⟩ := rp_bd_e hF
  refine rp_ki (rp_runZ (rest := [.ref (a 1)]) hC (mE_ok _) hw hl.1 (mX7_guestAt (l := l) x1 0 σ _ hq) zw_X7_162 rfl rfl (Nat.le_of_ble_eq_true rfl) (by decide) dX7_comes_13) hw (fun H locs hw => ?_)
  clear hq
  refine lv_iload_n (pc := 16) hx hb dX7_comes_16 rfl (lv_at hl 2 rfl) ?_
  refine lv_bipush (pc := 17) (v := 10) hx hb dX7_comes_17 (by decide) ?_
  refine lv_idiv (pc := 19) hx hb dX7_comes_19 (by decide) ?_
  obtain ⟨hg, hF⟩ := rp_gu_e hF
  refine rp_ast (pc := 20) hC hw 1 (by decide) (mt_arr 1 221 rfl) 0 rfl hg dX7_comes_20 (fun H locs hw => ?_)
  obtain ⟨σ4, eσ4, hF⟩ := rp_nm_e hF
  replace hw := rp_Wn eσ4 hw
  clear eσ4
  refine lv_aload_n (pc := 21) hx hb dX7_comes_21 rfl (lv_at hl 1 rfl) ?_
  refine rp_get (pc := 22) hC hw 0 (by decide) (mt_obj _) fl_X7_9 (.ref (a 1)) rfl dX7_comes_22 ?_
  refine lv_iload_n (pc := 25) hx hb dX7_comes_25 rfl (lv_at hl 0 rfl) ?_
  refine lv_iconst (pc := 26) (v := 1) hx hb dX7_comes_26 (by decide) ?_
  obtain ⟨r5, σ6, hq, hF⟩ := rp_bd_e hF
  refine rp_ki (rp_runZ (rest := [.ref (a 1)]) hC (mE_ok _) hw hl.1 (mX7_guestAt (l := l) x1 1 σ4 _ hq) zw_X7_162 rfl rfl (Nat.le_of_ble_eq_true rfl) (by decide) dX7_comes_27) hw (fun H locs hw => ?_)
  clear hq
  refine lv_iload_n (pc := 30) hx hb dX7_comes_30 rfl (lv_at hl 2 rfl) ?_
  refine lv_bipush (pc := 31) (v := 10) hx hb dX7_comes_31 (by decide) ?_
  refine lv_irem (pc := 33) hx hb dX7_comes_33 (by decide) ?_
  obtain ⟨hg, hF⟩ := rp_gu_e hF
  refine rp_ast (pc := 34) hC hw 1 (by decide) (mt_arr 1 221 rfl) 0 rfl hg dX7_comes_34 (fun H locs hw => ?_)
  obtain ⟨σ7, eσ7, hF⟩ := rp_nm_e hF
  replace hw := rp_Wn eσ7 hw
  clear eσ7
  refine lv_aload_n (pc := 35) hx hb dX7_comes_35 rfl (lv_at hl 1 rfl) ?_
  refine rp_get (pc := 36) hC hw 0 (by decide) (mt_obj _) fl_X7_9 (.ref (a 1)) rfl dX7_comes_36 ?_
  refine lv_iload_n (pc := 39) hx hb dX7_comes_39 rfl (lv_at hl 0 rfl) ?_
  refine lv_iconst (pc := 40) (v := 2) hx hb dX7_comes_40 (by decide) ?_
  obtain ⟨r8, σ9, hq, hF⟩ := rp_bd_e hF
  refine rp_ki (rp_runZ (rest := [.ref (a 1)]) hC (mE_ok _) hw hl.1 (mX7_guestAt (l := l) x1 2 σ7 _ hq) zw_X7_162 rfl rfl (Nat.le_of_ble_eq_true rfl) (by decide) dX7_comes_41) hw (fun H locs hw => ?_)
  clear hq
  refine lv_iload_n (pc := 44) hx hb dX7_comes_44 rfl (lv_at hl 3 rfl) ?_
  obtain ⟨hg, hF⟩ := rp_gu_e hF
  refine rp_ast (pc := 45) hC hw 1 (by decide) (mt_arr 1 221 rfl) 0 rfl hg dX7_comes_45 (fun H locs hw => ?_)
  obtain ⟨σ10, eσ10, hF⟩ := rp_nm_e hF
  replace hw := rp_Wn eσ10 hw
  clear eσ10
  refine lv_aload_n (pc := 46) hx hb dX7_comes_46 rfl (lv_at hl 1 rfl) ?_
  refine rp_get (pc := 47) hC hw 0 (by decide) (mt_obj _) fl_X7_9 (.ref (a 1)) rfl dX7_comes_47 ?_
  refine lv_iload_n (pc := 50) hx hb dX7_comes_50 rfl (lv_at hl 0 rfl) ?_
  refine lv_iconst (pc := 51) (v := 3) hx hb dX7_comes_51 (by decide) ?_
  obtain ⟨r11, σ12, hq, hF⟩ := rp_bd_e hF
  refine rp_ki (rp_runZ (rest := [.ref (a 1)]) hC (mE_ok _) hw hl.1 (mX7_guestAt (l := l) x1 3 σ10 _ hq) zw_X7_162 rfl rfl (Nat.le_of_ble_eq_true rfl) (by decide) dX7_comes_52) hw (fun H locs hw => ?_)
  clear hq
  refine lv_iconst (pc := 55) (v := 0) hx hb dX7_comes_55 (by decide) ?_
  obtain ⟨hg, hF⟩ := rp_gu_e hF
  refine rp_ast (pc := 56) hC hw 1 (by decide) (mt_arr 1 221 rfl) 0 rfl hg dX7_comes_56 (fun H locs hw => ?_)
  obtain ⟨σ13, eσ13, hF⟩ := rp_nm_e hF
  replace hw := rp_Wn eσ13 hw
  clear eσ13
  refine lv_aload_n (pc := 57) hx hb dX7_comes_57 rfl (lv_at hl 1 rfl) ?_
  refine rp_get (pc := 58) hC hw 0 (by decide) (mt_obj _) fl_X7_9 (.ref (a 1)) rfl dX7_comes_58 ?_
  refine lv_iload_n (pc := 61) hx hb dX7_comes_61 rfl (lv_at hl 0 rfl) ?_
  refine lv_iconst (pc := 62) (v := 4) hx hb dX7_comes_62 (by decide) ?_
  obtain ⟨r14, σ15, hq, hF⟩ := rp_bd_e hF
  refine rp_ki (rp_runZ (rest := [.ref (a 1)]) hC (mE_ok _) hw hl.1 (mX7_guestAt (l := l) x1 4 σ13 _ hq) zw_X7_162 rfl rfl (Nat.le_of_ble_eq_true rfl) (by decide) dX7_comes_63) hw (fun H locs hw => ?_)
  clear hq
  refine lv_iconst (pc := 66) (v := 1) hx hb dX7_comes_66 (by decide) ?_
  obtain ⟨hg, hF⟩ := rp_gu_e hF
  refine rp_ast (pc := 67) hC hw 1 (by decide) (mt_arr 1 221 rfl) 0 rfl hg dX7_comes_67 (fun H locs hw => ?_)
  obtain ⟨σ16, eσ16, hF⟩ := rp_nm_e hF
  replace hw := rp_Wn eσ16 hw
  clear eσ16
  refine lv_aload_n (pc := 68) hx hb dX7_comes_68 rfl (lv_at hl 1 rfl) ?_
  refine rp_get (pc := 69) hC hw 0 (by decide) (mt_obj _) fl_X7_9 (.ref (a 1)) rfl dX7_comes_69 ?_
  refine lv_iconst (pc := 72) (v := 5) hx hb dX7_comes_72 (by decide) ?_
  refine lv_iload_n (pc := 73) hx hb dX7_comes_73 rfl (lv_at hl 0 rfl) ?_
  refine lv_iadd (pc := 74) hx hb dX7_comes_74 ?_
  refine lv_iload_n (pc := 75) hx hb dX7_comes_75 rfl (lv_at hl 0 rfl) ?_
  obtain ⟨hg, hF⟩ := rp_gu_e hF
  refine rp_ast (pc := 76) hC hw 1 (by decide) (mt_arr 1 221 rfl) 0 rfl hg dX7_comes_76 (fun H locs hw => ?_)
  obtain ⟨σ17, eσ17, hF⟩ := rp_nm_e hF
  replace hw := rp_Wn eσ17 hw
  clear eσ17
  refine lv_aload_n (pc := 77) hx hb dX7_comes_77 rfl (lv_at hl 1 rfl) ?_
  refine rp_get (pc := 78) hC hw 0 (by decide) (mt_obj _) fl_X7_9 (.ref (a 1)) rfl dX7_comes_78 ?_
  refine lv_iconst (pc := 81) (v := 1) hx hb dX7_comes_81 (by decide) ?_
  refine lv_dup2_11 (pc := 82) hx hb dX7_comes_82 rfl rfl ?_
  obtain ⟨hg, hF⟩ := rp_gu_e hF
  refine rp_ald (pc := 83) hC hw 1 (by decide) (mt_arr 1 221 rfl) 0 rfl hg dX7_comes_83 ?_
  refine lv_iconst (pc := 84) (v := 1) hx hb dX7_comes_84 (by decide) ?_
  refine lv_iadd (pc := 85) hx hb dX7_comes_85 ?_
  obtain ⟨hg, hF⟩ := rp_gu_e hF
  refine rp_ast (pc := 86) hC hw 1 (by decide) (mt_arr 1 221 rfl) 0 rfl hg dX7_comes_86 (fun H locs hw => ?_)
  obtain ⟨σ18, eσ18, hF⟩ := rp_nm_e hF
  replace hw := rp_Wn eσ18 hw
  clear eσ18
  refine lv_iload_n (pc := 87) hx hb dX7_comes_87 rfl (lv_at hl 0 rfl) ?_
  exact rp_reti (pc := 88) hC hw hF dX7_comes_88
theorem mX7_comes {l : Launch} {D : va_G} {cI cT : ClassId} {ad av a : Nat → Nat} (v1 : Int32) (v2 : Int32) (σ : rp_St) (res : Int32 × rp_St) (hF : fX7_comes v1 v2 σ = some res) : mM l D cI cT ad av a yX7_comes cX7_comes 4 (some .int) 2 [.ref (a 0), .int v1, .int v2] σ (rp_Qi D a (mt cI cT ad a) 15 res) :=
  rp_entry (by decide) (Nat.le_of_ble_eq_true rfl) (fun p e s m below meth c ls hC hw hl => kX7_comes_0 hC v1 v2 σ _ _ _ hF hw (lv_sub hl [0, 1, 2] rfl))
def fX7_guest_14 (σ : rp_St) : Option (Int32 × rp_St) :=
  rp_bd (fX7_finding (-1000000001) σ) (fun r1 σ2 => some (r1, σ2))
set_option maxRecDepth 100000 in
set_option maxHeartbeats 4000000 in
theorem kX7_guest_14 {p : Program} {l : Launch} {e : Env} {s : State} {m : MethodId} {args : Array Value} {below : List Frame} {meth : Method} {c : Code} {D : va_G} {cI cT : ClassId} {ad av a : Nat → Nat} {res : Int32 × rp_St} (hC : mC p s m args meth c cX7_guest 3 "RegretPegsModel" (some .int) D cI cT ad av a) (σ : rp_St) (H : Heap) (locs : List Loc) (ls : Array Slot) (hF : fX7_guest_14 σ = some res) (hw : mW D cI cT ad av a s σ H locs) (hl : lv_has ls 3 [(0, .ref (a 0))]) : W p l e (rp_rm 3) s m args below meth c H locs 0 0 (MQ below (rp_Qi D a (mt cI cT ad a) 15 res) args s 0 0 (rp_A a 15)) (F0 m 14 ls []) := by
  have hx := hC.1
  have hb := hC.2.1
  have hown := hC.2.2.2.1
  have hts := hC.2.2.2.2.1
  unfold fX7_guest_14 at hF
  refine lv_aload_n (pc := 14) hx hb dX7_guest_14 rfl (lv_at hl 0 rfl) ?_
  refine lv_ldc (pc := 15) (v := (-1000000001)) hx hb hown (hts _ wd_721) dX7_guest_15 ?_
  obtain ⟨r1, σ2, hq, hF⟩ := rp_bd_e hF
  refine rp_ki (rp_runV (rest := []) hC (mE_ok _) hw hl.1 (mX7_finding (l := l) (-1000000001) σ _ hq) vw_X7_78 (by decide) (mt_obj _) rfl rfl rfl (Nat.le_of_ble_eq_true rfl) (by decide) dX7_guest_17) hw (fun H locs hw => ?_)
  clear hq
  exact rp_reti (pc := 20) hC hw hF dX7_guest_20
def fX7_guest (v1 : Int32) (v2 : Int32) (σ : rp_St) : Option (Int32 × rp_St) :=
  rp_bd (fX7_isKindM v1 σ) (fun r1 σ2 => (if r1 = 0 then fX7_guest_14 σ2 else rp_bd (fX7_isRue v2 σ2) (fun r3 σ4 => (if r3 = 0 then fX7_guest_14 σ4 else rp_gu (rp_in 1 221) ((if (σ4 1 (1 : Int32).toNatClampNeg) = 7 then rp_bd (fX7_finding (-1000000004) σ4) (fun r7 σ8 => some (r7, σ8)) else rp_bd (fX7_comes v1 v2 σ4) (fun r5 σ6 => some (r5, σ6))))))))
set_option maxRecDepth 100000 in
set_option maxHeartbeats 4000000 in
theorem kX7_guest_0 {p : Program} {l : Launch} {e : Env} {s : State} {m : MethodId} {args : Array Value} {below : List Frame} {meth : Method} {c : Code} {D : va_G} {cI cT : ClassId} {ad av a : Nat → Nat} {res : Int32 × rp_St} (hC : mC p s m args meth c cX7_guest 3 "RegretPegsModel" (some .int) D cI cT ad av a) (v1 : Int32) (v2 : Int32) (σ : rp_St) (H : Heap) (locs : List Loc) (ls : Array Slot) (hF : fX7_guest v1 v2 σ = some res) (hw : mW D cI cT ad av a s σ H locs) (hl : lv_has ls 3 [(0, .ref (a 0)), (1, .int v1), (2, .int v2)]) : W p l e (rp_rm 3) s m args below meth c H locs 0 0 (MQ below (rp_Qi D a (mt cI cT ad a) 15 res) args s 0 0 (rp_A a 15)) (F0 m 0 ls []) := by
  have hx := hC.1
  have hb := hC.2.1
  have hown := hC.2.2.2.1
  have hts := hC.2.2.2.2.1
  unfold fX7_guest at hF
  refine lv_iload_n (pc := 0) hx hb dX7_guest_0 rfl (lv_at hl 1 rfl) ?_
  obtain ⟨r1, σ2, hq, hF⟩ := rp_bd_e hF
  refine rp_ki (rp_runZ (rest := []) hC (mE_ok _) hw hl.1 (mX7_isKindM (l := l) v1 σ _ hq) zw_X7_168 rfl rfl (Nat.le_of_ble_eq_true rfl) (by decide) dX7_guest_1) hw (fun H locs hw => ?_)
  clear hq
  refine lv_if_eq (pc := 4) (tgt := 14) hx hb dX7_guest_4 (by decide) (fun hc => ?_) (fun hc => ?_)
  · replace hF := rp_it hc hF
    exact kX7_guest_14 hC σ2 _ _ _ hF hw (lv_sub hl [0] rfl)
  · replace hF := rp_if hc hF
    refine lv_iload_n (pc := 7) hx hb dX7_guest_7 rfl (lv_at hl 2 rfl) ?_
    obtain ⟨r3, σ4, hq, hF⟩ := rp_bd_e hF
    refine rp_ki (rp_runZ (rest := []) hC (mE_ok _) hw hl.1 (mX7_isRue (l := l) v2 σ2 _ hq) zw_X7_171 rfl rfl (Nat.le_of_ble_eq_true rfl) (by decide) dX7_guest_8) hw (fun H locs hw => ?_)
    clear hq
    refine lv_if_ne (pc := 11) (tgt := 21) hx hb dX7_guest_11 (by decide) (fun hc => ?_) (fun hc => ?_)
    · replace hF := rp_if hc hF
      refine lv_aload_n (pc := 21) hx hb dX7_guest_21 rfl (lv_at hl 0 rfl) ?_
      refine rp_get (pc := 22) hC hw 0 (by decide) (mt_obj _) fl_X7_9 (.ref (a 1)) rfl dX7_guest_22 ?_
      refine lv_iconst (pc := 25) (v := 1) hx hb dX7_guest_25 (by decide) ?_
      obtain ⟨hg, hF⟩ := rp_gu_e hF
      refine rp_ald (pc := 26) hC hw 1 (by decide) (mt_arr 1 221 rfl) 0 rfl hg dX7_guest_26 ?_
      refine lv_bipush (pc := 27) (v := 7) hx hb dX7_guest_27 (by decide) ?_
      refine lv_icmp_ne (pc := 29) (tgt := 41) hx hb dX7_guest_29 (by decide) (fun hc => ?_) (fun hc => ?_)
      · replace hF := rp_if hc hF
        refine lv_aload_n (pc := 41) hx hb dX7_guest_41 rfl (lv_at hl 0 rfl) ?_
        refine lv_iload_n (pc := 42) hx hb dX7_guest_42 rfl (lv_at hl 1 rfl) ?_
        refine lv_iload_n (pc := 43) hx hb dX7_guest_43 rfl (lv_at hl 2 rfl) ?_
        obtain ⟨r5, σ6, hq, hF⟩ := rp_bd_e hF
        refine rp_ki (rp_runV (rest := []) hC (mE_ok _) hw hl.1 (mX7_comes (l := l) v1 v2 σ4 _ hq) vw_X7_174 (by decide) (mt_obj _) rfl rfl rfl (Nat.le_of_ble_eq_true rfl) (by decide) dX7_guest_44) hw (fun H locs hw => ?_)
        clear hq
        exact rp_reti (pc := 47) hC hw hF dX7_guest_47
      · replace hF := rp_it hc hF
        refine lv_aload_n (pc := 32) hx hb dX7_guest_32 rfl (lv_at hl 0 rfl) ?_
        refine lv_ldc (pc := 33) (v := (-1000000004)) hx hb hown (hts _ wd_727) dX7_guest_33 ?_
        obtain ⟨r7, σ8, hq, hF⟩ := rp_bd_e hF
        refine rp_ki (rp_runV (rest := []) hC (mE_ok _) hw hl.1 (mX7_finding (l := l) (-1000000004) σ4 _ hq) vw_X7_78 (by decide) (mt_obj _) rfl rfl rfl (Nat.le_of_ble_eq_true rfl) (by decide) dX7_guest_35) hw (fun H locs hw => ?_)
        clear hq
        refine lv_goto (pc := 38) (tgt := 47) hx hb dX7_guest_38 (by decide) ?_
        exact rp_reti (pc := 47) hC hw hF dX7_guest_47
    · replace hF := rp_it hc hF
      exact kX7_guest_14 hC σ4 _ _ _ hF hw (lv_sub hl [0] rfl)
theorem mX7_guest {l : Launch} {D : va_G} {cI cT : ClassId} {ad av a : Nat → Nat} (v1 : Int32) (v2 : Int32) (σ : rp_St) (res : Int32 × rp_St) (hF : fX7_guest v1 v2 σ = some res) : mM l D cI cT ad av a yX7_guest cX7_guest 3 (some .int) 3 [.ref (a 0), .int v1, .int v2] σ (rp_Qi D a (mt cI cT ad a) 15 res) :=
  rp_entry (by decide) (Nat.le_of_ble_eq_true rfl) (fun p e s m below meth c ls hC hw hl => kX7_guest_0 hC v1 v2 σ _ _ _ hF hw (lv_sub hl [0, 1, 2] rfl))
def fX7_above (v0 : Int32) (σ : rp_St) : Option (Int32 × rp_St) :=
  (if v0 = 0 then some ((-1), σ) else (if v0 = 4 then some (1, σ) else (if v0 = 5 then some (2, σ) else (if v0 = 6 then some (3, σ) else some (0, σ)))))
set_option maxRecDepth 100000 in
set_option maxHeartbeats 4000000 in
theorem kX7_above_0 {p : Program} {l : Launch} {e : Env} {s : State} {m : MethodId} {args : Array Value} {below : List Frame} {meth : Method} {c : Code} {D : va_G} {cI cT : ClassId} {ad av a : Nat → Nat} {res : Int32 × rp_St} (hC : mC p s m args meth c cX7_above 1 "RegretPegsModel" (some .int) D cI cT ad av a) (v0 : Int32) (σ : rp_St) (H : Heap) (locs : List Loc) (ls : Array Slot) (hF : fX7_above v0 σ = some res) (hw : mW D cI cT ad av a s σ H locs) (hl : lv_has ls 1 [(0, .int v0)]) : W p l e (rp_rm 1) s m args below meth c H locs 0 0 (MQ below (rp_Qi D a (mt cI cT ad a) 15 res) args s 0 0 (rp_A a 15)) (F0 m 0 ls []) := by
  have hx := hC.1
  have hb := hC.2.1
  have hown := hC.2.2.2.1
  have hts := hC.2.2.2.2.1
  unfold fX7_above at hF
  refine lv_iload_n (pc := 0) hx hb dX7_above_0 rfl (lv_at hl 0 rfl) ?_
  refine lv_if_ne (pc := 1) (tgt := 8) hx hb dX7_above_1 (by decide) (fun hc => ?_) (fun hc => ?_)
  · replace hF := rp_if hc hF
    refine lv_iload_n (pc := 8) hx hb dX7_above_8 rfl (lv_at hl 0 rfl) ?_
    refine lv_iconst (pc := 9) (v := 4) hx hb dX7_above_9 (by decide) ?_
    refine lv_icmp_ne (pc := 10) (tgt := 17) hx hb dX7_above_10 (by decide) (fun hc => ?_) (fun hc => ?_)
    · replace hF := rp_if hc hF
      refine lv_iload_n (pc := 17) hx hb dX7_above_17 rfl (lv_at hl 0 rfl) ?_
      refine lv_iconst (pc := 18) (v := 5) hx hb dX7_above_18 (by decide) ?_
      refine lv_icmp_ne (pc := 19) (tgt := 26) hx hb dX7_above_19 (by decide) (fun hc => ?_) (fun hc => ?_)
      · replace hF := rp_if hc hF
        refine lv_iload_n (pc := 26) hx hb dX7_above_26 rfl (lv_at hl 0 rfl) ?_
        refine lv_bipush (pc := 27) (v := 6) hx hb dX7_above_27 (by decide) ?_
        refine lv_icmp_ne (pc := 29) (tgt := 36) hx hb dX7_above_29 (by decide) (fun hc => ?_) (fun hc => ?_)
        · replace hF := rp_if hc hF
          refine lv_iconst (pc := 36) (v := 0) hx hb dX7_above_36 (by decide) ?_
          exact rp_reti (pc := 37) hC hw hF dX7_above_37
        · replace hF := rp_it hc hF
          refine lv_iconst (pc := 32) (v := 3) hx hb dX7_above_32 (by decide) ?_
          refine lv_goto (pc := 33) (tgt := 37) hx hb dX7_above_33 (by decide) ?_
          exact rp_reti (pc := 37) hC hw hF dX7_above_37
      · replace hF := rp_it hc hF
        refine lv_iconst (pc := 22) (v := 2) hx hb dX7_above_22 (by decide) ?_
        refine lv_goto (pc := 23) (tgt := 37) hx hb dX7_above_23 (by decide) ?_
        exact rp_reti (pc := 37) hC hw hF dX7_above_37
    · replace hF := rp_it hc hF
      refine lv_iconst (pc := 13) (v := 1) hx hb dX7_above_13 (by decide) ?_
      refine lv_goto (pc := 14) (tgt := 37) hx hb dX7_above_14 (by decide) ?_
      exact rp_reti (pc := 37) hC hw hF dX7_above_37
  · replace hF := rp_it hc hF
    refine lv_iconst (pc := 4) (v := (-1)) hx hb dX7_above_4 (by decide) ?_
    refine lv_goto (pc := 5) (tgt := 37) hx hb dX7_above_5 (by decide) ?_
    exact rp_reti (pc := 37) hC hw hF dX7_above_37
theorem mX7_above {l : Launch} {D : va_G} {cI cT : ClassId} {ad av a : Nat → Nat} (v0 : Int32) (σ : rp_St) (res : Int32 × rp_St) (hF : fX7_above v0 σ = some res) : mM l D cI cT ad av a yX7_above cX7_above 1 (some .int) 1 [.int v0] σ (rp_Qi D a (mt cI cT ad a) 15 res) :=
  rp_entry (by decide) (Nat.le_of_ble_eq_true rfl) (fun p e s m below meth c ls hC hw hl => kX7_above_0 hC v0 σ _ _ _ hF hw (lv_sub hl [0] rfl))
def fX7_isUnder_19 (v2 : Int32) (σ : rp_St) : Option (Int32 × rp_St) :=
  (if v2 < 0 then some (0, σ) else some (1, σ))
set_option maxRecDepth 100000 in
set_option maxHeartbeats 4000000 in
theorem kX7_isUnder_19 {p : Program} {l : Launch} {e : Env} {s : State} {m : MethodId} {args : Array Value} {below : List Frame} {meth : Method} {c : Code} {D : va_G} {cI cT : ClassId} {ad av a : Nat → Nat} {res : Int32 × rp_St} (hC : mC p s m args meth c cX7_isUnder 3 "RegretPegsModel" (some .boolean) D cI cT ad av a) (v2 : Int32) (σ : rp_St) (H : Heap) (locs : List Loc) (ls : Array Slot) (hF : fX7_isUnder_19 v2 σ = some res) (hw : mW D cI cT ad av a s σ H locs) (hl : lv_has ls 3 [(2, .int v2)]) : W p l e (rp_rm 2) s m args below meth c H locs 0 0 (MQ below (rp_Qi D a (mt cI cT ad a) 15 res) args s 0 0 (rp_A a 15)) (F0 m 19 ls []) := by
  have hx := hC.1
  have hb := hC.2.1
  have hown := hC.2.2.2.1
  have hts := hC.2.2.2.2.1
  unfold fX7_isUnder_19 at hF
  refine lv_iload_n (pc := 19) hx hb dX7_isUnder_19 rfl (lv_at hl 0 rfl) ?_
  refine lv_if_lt (pc := 20) (tgt := 27) hx hb dX7_isUnder_20 (by decide) (fun hc => ?_) (fun hc => ?_)
  · replace hF := rp_it hc hF
    refine lv_iconst (pc := 27) (v := 0) hx hb dX7_isUnder_27 (by decide) ?_
    exact rp_retz (pc := 28) hC hw rfl hF dX7_isUnder_28
  · replace hF := rp_if hc hF
    refine lv_iconst (pc := 23) (v := 1) hx hb dX7_isUnder_23 (by decide) ?_
    refine lv_goto (pc := 24) (tgt := 28) hx hb dX7_isUnder_24 (by decide) ?_
    exact rp_retz (pc := 28) hC hw rfl hF dX7_isUnder_28
def fX7_isUnder_2 (k2 : Int32 → Int32 → rp_St → Option (Int32 × rp_St)) (v1 : Int32) (v2 : Int32) (σ : rp_St) : Option (Int32 × rp_St) :=
  (if v2 < 0 then fX7_isUnder_19 v2 σ else (if v2 = v1 then fX7_isUnder_19 v2 σ else rp_bd (fX7_above v2 σ) (fun r1 σ2 => k2 v1 r1 σ2)))
set_option maxRecDepth 100000 in
set_option maxHeartbeats 4000000 in
theorem kX7_isUnder_2 {p : Program} {l : Launch} {e : Env} {s : State} {m : MethodId} {args : Array Value} {below : List Frame} {meth : Method} {c : Code} {D : va_G} {cI cT : ClassId} {ad av a : Nat → Nat} {res : Int32 × rp_St} (hC : mC p s m args meth c cX7_isUnder 3 "RegretPegsModel" (some .boolean) D cI cT ad av a) (k2 : Int32 → Int32 → rp_St → Option (Int32 × rp_St)) (hk2 : ∀ (v1 : Int32) (v2 : Int32) (σ : rp_St) (H : Heap) (locs : List Loc) (ls : Array Slot), k2 v1 v2 σ = some res → mW D cI cT ad av a s σ H locs → lv_has ls 3 [(1, .int v1), (2, .int v2)] → W p l e (rp_rm 2) s m args below meth c H locs 0 0 (MQ below (rp_Qi D a (mt cI cT ad a) 15 res) args s 0 0 (rp_A a 15)) (F0 m 2 ls [])) (v1 : Int32) (v2 : Int32) (σ : rp_St) (H : Heap) (locs : List Loc) (ls : Array Slot) (hF : fX7_isUnder_2 k2 v1 v2 σ = some res) (hw : mW D cI cT ad av a s σ H locs) (hl : lv_has ls 3 [(1, .int v1), (2, .int v2)]) : W p l e (rp_rm 2) s m args below meth c H locs 0 0 (MQ below (rp_Qi D a (mt cI cT ad a) 15 res) args s 0 0 (rp_A a 15)) (F0 m 2 ls []) := by
  have hx := hC.1
  have hb := hC.2.1
  have hown := hC.2.2.2.1
  have hts := hC.2.2.2.2.1
  unfold fX7_isUnder_2 at hF
  refine lv_iload_n (pc := 2) hx hb dX7_isUnder_2 rfl (lv_at hl 1 rfl) ?_
  refine lv_if_lt (pc := 3) (tgt := 19) hx hb dX7_isUnder_3 (by decide) (fun hc => ?_) (fun hc => ?_)
  · replace hF := rp_it hc hF
    exact kX7_isUnder_19 hC v2 σ _ _ _ hF hw (lv_sub hl [1] rfl)
  · replace hF := rp_if hc hF
    refine lv_iload_n (pc := 6) hx hb dX7_isUnder_6 rfl (lv_at hl 1 rfl) ?_
    refine lv_iload_n (pc := 7) hx hb dX7_isUnder_7 rfl (lv_at hl 0 rfl) ?_
    refine lv_icmp_eq (pc := 8) (tgt := 19) hx hb dX7_isUnder_8 (by decide) (fun hc => ?_) (fun hc => ?_)
    · replace hF := rp_it hc hF
      exact kX7_isUnder_19 hC v2 σ _ _ _ hF hw (lv_sub hl [1] rfl)
    · replace hF := rp_if hc hF
      refine lv_iload_n (pc := 11) hx hb dX7_isUnder_11 rfl (lv_at hl 1 rfl) ?_
      obtain ⟨r1, σ2, hq, hF⟩ := rp_bd_e hF
      refine rp_ki (rp_runZ (rest := []) hC (mE_ok _) hw hl.1 (mX7_above (l := l) v2 σ _ hq) zw_X7_177 rfl rfl (Nat.le_of_ble_eq_true rfl) (by decide) dX7_isUnder_12) hw (fun H locs hw => ?_)
      clear hq
      refine lv_istore_n (pc := 15) (lv' := [(2, .int r1), (1, .int v1)]) hx hb dX7_isUnder_15 rfl hl (by decide) rfl (fun ls hl => ?_)
      refine lv_goto (pc := 16) (tgt := 2) hx hb dX7_isUnder_16 (by decide) ?_
      exact hk2 v1 r1 σ2 _ _ _ hF hw (lv_sub hl [1, 0] rfl)
theorem lX7_isUnder_2 {p : Program} {l : Launch} {e : Env} {s : State} {m : MethodId} {args : Array Value} {below : List Frame} {meth : Method} {c : Code} {D : va_G} {cI cT : ClassId} {ad av a : Nat → Nat} {res : Int32 × rp_St} (hC : mC p s m args meth c cX7_isUnder 3 "RegretPegsModel" (some .boolean) D cI cT ad av a) : ∀ (n : Nat) (v1 : Int32) (v2 : Int32) (σ : rp_St) (H : Heap) (locs : List Loc) (ls : Array Slot), rp_lp (fun _ _ _ => none) (fX7_isUnder_2) n v1 v2 σ = some res → mW D cI cT ad av a s σ H locs → lv_has ls 3 [(1, .int v1), (2, .int v2)] → W p l e (rp_rm 2) s m args below meth c H locs 0 0 (MQ below (rp_Qi D a (mt cI cT ad a) 15 res) args s 0 0 (rp_A a 15)) (F0 m 2 ls [])
  | 0, _, _, _, _, _, _, hF, _, _ => nomatch hF
  | n + 1, v1, v2, σ, H, locs, ls, hF, hw, hl => kX7_isUnder_2 hC (rp_lp (fun _ _ _ => none) (fX7_isUnder_2) n) (lX7_isUnder_2 hC n) v1 v2 σ H locs ls hF hw hl
def fX7_isUnder (v0 : Int32) (v1 : Int32) (σ : rp_St) : Option (Int32 × rp_St) :=
  rp_lp (fun _ _ _ => none) (fX7_isUnder_2) 300 v1 v0 σ
set_option maxRecDepth 100000 in
set_option maxHeartbeats 4000000 in
theorem kX7_isUnder_0 {p : Program} {l : Launch} {e : Env} {s : State} {m : MethodId} {args : Array Value} {below : List Frame} {meth : Method} {c : Code} {D : va_G} {cI cT : ClassId} {ad av a : Nat → Nat} {res : Int32 × rp_St} (hC : mC p s m args meth c cX7_isUnder 3 "RegretPegsModel" (some .boolean) D cI cT ad av a) (v0 : Int32) (v1 : Int32) (σ : rp_St) (H : Heap) (locs : List Loc) (ls : Array Slot) (hF : fX7_isUnder v0 v1 σ = some res) (hw : mW D cI cT ad av a s σ H locs) (hl : lv_has ls 3 [(0, .int v0), (1, .int v1)]) : W p l e (rp_rm 2) s m args below meth c H locs 0 0 (MQ below (rp_Qi D a (mt cI cT ad a) 15 res) args s 0 0 (rp_A a 15)) (F0 m 0 ls []) := by
  have hx := hC.1
  have hb := hC.2.1
  have hown := hC.2.2.2.1
  have hts := hC.2.2.2.2.1
  unfold fX7_isUnder at hF
  refine lv_iload_n (pc := 0) hx hb dX7_isUnder_0 rfl (lv_at hl 0 rfl) ?_
  refine lv_istore_n (pc := 1) (lv' := [(2, .int v0), (0, .int v0), (1, .int v1)]) hx hb dX7_isUnder_1 rfl hl (by decide) rfl (fun ls hl => ?_)
  exact lX7_isUnder_2 hC 300 v1 v0 σ _ _ _ hF hw (lv_sub hl [2, 0] rfl)
theorem mX7_isUnder {l : Launch} {D : va_G} {cI cT : ClassId} {ad av a : Nat → Nat} (v0 : Int32) (v1 : Int32) (σ : rp_St) (res : Int32 × rp_St) (hF : fX7_isUnder v0 v1 σ = some res) : mM l D cI cT ad av a yX7_isUnder cX7_isUnder 3 (some .boolean) 2 [.int v0, .int v1] σ (rp_Qi D a (mt cI cT ad a) 15 res) :=
  rp_entry (by decide) (Nat.le_of_ble_eq_true rfl) (fun p e s m below meth c ls hC hw hl => kX7_isUnder_0 hC v0 v1 σ _ _ _ hF hw (lv_sub hl [0, 1] rfl))
def fX7_pegOf_2 (k2 : Int32 → Int32 → rp_St → Option (Int32 × rp_St)) (v1 : Int32) (v2 : Int32) (σ : rp_St) : Option (Int32 × rp_St) :=
  rp_gu (rp_in (5 + v2) 221) ((if (σ 1 ((5 + v2) : Int32).toNatClampNeg) = v1 then some (v2, σ) else rp_nm (v2 + 1) (fun x1 => k2 v1 x1 σ)))
set_option maxRecDepth 100000 in
set_option maxHeartbeats 4000000 in
theorem kX7_pegOf_2 {p : Program} {l : Launch} {e : Env} {s : State} {m : MethodId} {args : Array Value} {below : List Frame} {meth : Method} {c : Code} {D : va_G} {cI cT : ClassId} {ad av a : Nat → Nat} {res : Int32 × rp_St} (hC : mC p s m args meth c cX7_pegOf 3 "RegretPegsModel" (some .int) D cI cT ad av a) (k2 : Int32 → Int32 → rp_St → Option (Int32 × rp_St)) (hk2 : ∀ (v1 : Int32) (v2 : Int32) (σ : rp_St) (H : Heap) (locs : List Loc) (ls : Array Slot), k2 v1 v2 σ = some res → mW D cI cT ad av a s σ H locs → lv_has ls 3 [(0, .ref (a 0)), (1, .int v1), (2, .int v2)] → W p l e (rp_rm 1) s m args below meth c H locs 0 0 (MQ below (rp_Qi D a (mt cI cT ad a) 15 res) args s 0 0 (rp_A a 15)) (F0 m 2 ls [])) (v1 : Int32) (v2 : Int32) (σ : rp_St) (H : Heap) (locs : List Loc) (ls : Array Slot) (hF : fX7_pegOf_2 k2 v1 v2 σ = some res) (hw : mW D cI cT ad av a s σ H locs) (hl : lv_has ls 3 [(0, .ref (a 0)), (1, .int v1), (2, .int v2)]) : W p l e (rp_rm 1) s m args below meth c H locs 0 0 (MQ below (rp_Qi D a (mt cI cT ad a) 15 res) args s 0 0 (rp_A a 15)) (F0 m 2 ls []) := by
  have hx := hC.1
  have hb := hC.2.1
  have hown := hC.2.2.2.1
  have hts := hC.2.2.2.2.1
  unfold fX7_pegOf_2 at hF
  refine lv_aload_n (pc := 2) hx hb dX7_pegOf_2 rfl (lv_at hl 0 rfl) ?_
  refine rp_get (pc := 3) hC hw 0 (by decide) (mt_obj _) fl_X7_9 (.ref (a 1)) rfl dX7_pegOf_3 ?_
  refine lv_iconst (pc := 6) (v := 5) hx hb dX7_pegOf_6 (by decide) ?_
  refine lv_iload_n (pc := 7) hx hb dX7_pegOf_7 rfl (lv_at hl 2 rfl) ?_
  refine lv_iadd (pc := 8) hx hb dX7_pegOf_8 ?_
  obtain ⟨hg, hF⟩ := rp_gu_e hF
  refine rp_ald (pc := 9) hC hw 1 (by decide) (mt_arr 1 221 rfl) 0 rfl hg dX7_pegOf_9 ?_
  refine lv_iload_n (pc := 10) hx hb dX7_pegOf_10 rfl (lv_at hl 1 rfl) ?_
  refine lv_icmp_eq (pc := 11) (tgt := 20) hx hb dX7_pegOf_11 (by decide) (fun hc => ?_) (fun hc => ?_)
  · replace hF := rp_it hc hF
    refine lv_iload_n (pc := 20) hx hb dX7_pegOf_20 rfl (lv_at hl 2 rfl) ?_
    exact rp_reti (pc := 21) hC hw hF dX7_pegOf_21
  · replace hF := rp_if hc hF
    obtain ⟨x1, ex1, hF⟩ := rp_nm_e hF
    refine lv_iinc (pc := 14) (v := x1) (lv' := [(2, .int x1), (0, .ref (a 0)), (1, .int v1)]) hx hb dX7_pegOf_14 hl (k := 2) rfl (by rw [ex1]; rfl) (by decide) rfl (fun ls hl => ?_)
    refine lv_goto (pc := 17) (tgt := 2) hx hb dX7_pegOf_17 (by decide) ?_
    exact hk2 v1 x1 σ _ _ _ hF hw (lv_sub hl [1, 2, 0] rfl)
theorem lX7_pegOf_2 {p : Program} {l : Launch} {e : Env} {s : State} {m : MethodId} {args : Array Value} {below : List Frame} {meth : Method} {c : Code} {D : va_G} {cI cT : ClassId} {ad av a : Nat → Nat} {res : Int32 × rp_St} (hC : mC p s m args meth c cX7_pegOf 3 "RegretPegsModel" (some .int) D cI cT ad av a) : ∀ (n : Nat) (v1 : Int32) (v2 : Int32) (σ : rp_St) (H : Heap) (locs : List Loc) (ls : Array Slot), rp_lp (fun _ _ _ => none) (fX7_pegOf_2) n v1 v2 σ = some res → mW D cI cT ad av a s σ H locs → lv_has ls 3 [(0, .ref (a 0)), (1, .int v1), (2, .int v2)] → W p l e (rp_rm 1) s m args below meth c H locs 0 0 (MQ below (rp_Qi D a (mt cI cT ad a) 15 res) args s 0 0 (rp_A a 15)) (F0 m 2 ls [])
  | 0, _, _, _, _, _, _, hF, _, _ => nomatch hF
  | n + 1, v1, v2, σ, H, locs, ls, hF, hw, hl => kX7_pegOf_2 hC (rp_lp (fun _ _ _ => none) (fX7_pegOf_2) n) (lX7_pegOf_2 hC n) v1 v2 σ H locs ls hF hw hl
def fX7_pegOf (v1 : Int32) (σ : rp_St) : Option (Int32 × rp_St) :=
  rp_lp (fun _ _ _ => none) (fX7_pegOf_2) 300 v1 0 σ
set_option maxRecDepth 100000 in
set_option maxHeartbeats 4000000 in
theorem kX7_pegOf_0 {p : Program} {l : Launch} {e : Env} {s : State} {m : MethodId} {args : Array Value} {below : List Frame} {meth : Method} {c : Code} {D : va_G} {cI cT : ClassId} {ad av a : Nat → Nat} {res : Int32 × rp_St} (hC : mC p s m args meth c cX7_pegOf 3 "RegretPegsModel" (some .int) D cI cT ad av a) (v1 : Int32) (σ : rp_St) (H : Heap) (locs : List Loc) (ls : Array Slot) (hF : fX7_pegOf v1 σ = some res) (hw : mW D cI cT ad av a s σ H locs) (hl : lv_has ls 3 [(0, .ref (a 0)), (1, .int v1)]) : W p l e (rp_rm 1) s m args below meth c H locs 0 0 (MQ below (rp_Qi D a (mt cI cT ad a) 15 res) args s 0 0 (rp_A a 15)) (F0 m 0 ls []) := by
  have hx := hC.1
  have hb := hC.2.1
  have hown := hC.2.2.2.1
  have hts := hC.2.2.2.2.1
  unfold fX7_pegOf at hF
  refine lv_iconst (pc := 0) (v := 0) hx hb dX7_pegOf_0 (by decide) ?_
  refine lv_istore_n (pc := 1) (lv' := [(2, .int 0), (0, .ref (a 0)), (1, .int v1)]) hx hb dX7_pegOf_1 rfl hl (by decide) rfl (fun ls hl => ?_)
  exact lX7_pegOf_2 hC 300 v1 0 σ _ _ _ hF hw (lv_sub hl [1, 2, 0] rfl)
theorem mX7_pegOf {l : Launch} {D : va_G} {cI cT : ClassId} {ad av a : Nat → Nat} (v1 : Int32) (σ : rp_St) (res : Int32 × rp_St) (hF : fX7_pegOf v1 σ = some res) : mM l D cI cT ad av a yX7_pegOf cX7_pegOf 3 (some .int) 1 [.ref (a 0), .int v1] σ (rp_Qi D a (mt cI cT ad a) 15 res) :=
  rp_entry (by decide) (Nat.le_of_ble_eq_true rfl) (fun p e s m below meth c ls hC hw hl => kX7_pegOf_0 hC v1 σ _ _ _ hF hw (lv_sub hl [0, 1] rfl))
