def fX2_join_100 (σ : rp_St) : Option (Int32 × rp_St) :=
  some (1, σ)
set_option maxRecDepth 100000 in
set_option maxHeartbeats 4000000 in
theorem kX2_join_100 {p : Program} {l : Launch} {e : Env} {s : State} {m : MethodId} {args : Array Value} {below : List Frame} {meth : Method} {c : Code} {D : va_G} {cI cB cS : ClassId} {a : Nat → Nat} {res : Int32 × rp_St} (hC : xC p s m args meth c cX2_join 3 "RegretPegs$Law" (some .int) D cI cB cS a) (σ : rp_St) (H : Heap) (locs : List Loc) (ls : Array Slot) (hF : fX2_join_100 σ = some res) (hw : xW D cI cB cS a s σ H locs) (hl : lv_has ls 3 []) : W p l e (rp_rm 1) s m args below meth c H locs 0 0 (MQ below (rp_Qi D a (xt cI cB cS a) 62 res) args s 0 0 (rp_A a 62)) (F0 m 100 ls []) := by
  have hx := hC.1
  have hb := hC.2.1
  have hown := hC.2.2.2.1
  have hts := hC.2.2.2.2.1
  unfold fX2_join_100 at hF
  refine lv_iconst (pc := 100) (v := 1) hx hb dX2_join_100 (by decide) ?_
  refine lv_goto (pc := 101) (tgt := 105) hx hb dX2_join_101 (by decide) ?_
  exact rp_reti (pc := 105) hC hw hF dX2_join_105
def fX2_join (v0 : Int32) (v1 : Int32) (v2 : Int32) (σ : rp_St) : Option (Int32 × rp_St) :=
  (if v0 = 37 then (if v2 = 0 then some (0, σ) else rp_gu (rp_nz0 v2) (some ((v1 - v1 / v2 * v2), σ))) else (if v0 = 38 then (if v1 = 0 then some (0, σ) else (if v2 = 0 then some (0, σ) else some (1, σ))) else (if v0 = 42 then some ((v1 * v2), σ) else (if v0 = 43 then some ((v1 + v2), σ) else (if v0 = 45 then some ((v1 - v2), σ) else (if v0 = 47 then (if v2 = 0 then some (0, σ) else rp_gu (rp_nz0 v2) (some ((v1 / v2), σ))) else (if v0 = 60 then (if v2 ≤ v1 then some (0, σ) else some (1, σ)) else (if v0 = 61 then (if v1 = v2 then some (1, σ) else some (0, σ)) else (if v0 = 62 then (if v1 ≤ v2 then some (0, σ) else some (1, σ)) else (if v0 = 124 then (if v1 = 0 then (if v2 = 0 then some (0, σ) else fX2_join_100 σ) else fX2_join_100 σ) else some (0, σ)))))))))))
set_option maxRecDepth 100000 in
set_option maxHeartbeats 4000000 in
theorem kX2_join_0 {p : Program} {l : Launch} {e : Env} {s : State} {m : MethodId} {args : Array Value} {below : List Frame} {meth : Method} {c : Code} {D : va_G} {cI cB cS : ClassId} {a : Nat → Nat} {res : Int32 × rp_St} (hC : xC p s m args meth c cX2_join 3 "RegretPegs$Law" (some .int) D cI cB cS a) (v0 : Int32) (v1 : Int32) (v2 : Int32) (σ : rp_St) (H : Heap) (locs : List Loc) (ls : Array Slot) (hF : fX2_join v0 v1 v2 σ = some res) (hw : xW D cI cB cS a s σ H locs) (hl : lv_has ls 3 [(0, .int v0), (1, .int v1), (2, .int v2)]) : W p l e (rp_rm 1) s m args below meth c H locs 0 0 (MQ below (rp_Qi D a (xt cI cB cS a) 62 res) args s 0 0 (rp_A a 62)) (F0 m 0 ls []) := by
  have hx := hC.1
  have hb := hC.2.1
  have hown := hC.2.2.2.1
  have hts := hC.2.2.2.2.1
  unfold fX2_join at hF
  refine lv_iload_n (pc := 0) hx hb dX2_join_0 rfl (lv_at hl 0 rfl) ?_
  by_cases hs1_0 : v0 = 37
  · replace hF := rp_it hs1_0 hF
    refine lv_lookup (pc := 1) (off := 176) (tgt := 177) hx hb dX2_join_1 (by decide) (by rw [hs1_0]; decide +kernel) (by decide) ?_
    refine lv_iload_n (pc := 177) hx hb dX2_join_177 rfl (lv_at hl 2 rfl) ?_
    refine lv_if_ne (pc := 178) (tgt := 185) hx hb dX2_join_178 (by decide) (fun hc => ?_) (fun hc => ?_)
    · replace hF := rp_if hc hF
      refine lv_iload_n (pc := 185) hx hb dX2_join_185 rfl (lv_at hl 1 rfl) ?_
      refine lv_iload_n (pc := 186) hx hb dX2_join_186 rfl (lv_at hl 2 rfl) ?_
      obtain ⟨hg, hF⟩ := rp_gu_e hF
      refine lv_irem (pc := 187) hx hb dX2_join_187 (rp_nz0_e hg) ?_
      exact rp_reti (pc := 188) hC hw hF dX2_join_188
    · replace hF := rp_it hc hF
      refine lv_iconst (pc := 181) (v := 0) hx hb dX2_join_181 (by decide) ?_
      refine lv_goto (pc := 182) (tgt := 188) hx hb dX2_join_182 (by decide) ?_
      exact rp_reti (pc := 188) hC hw hF dX2_join_188
  replace hF := rp_if hs1_0 hF
  by_cases hs1_1 : v0 = 38
  · replace hF := rp_it hs1_1 hF
    refine lv_lookup (pc := 1) (off := 105) (tgt := 106) hx hb dX2_join_1 (by decide) (by rw [hs1_1]; decide +kernel) (by decide) ?_
    refine lv_iload_n (pc := 106) hx hb dX2_join_106 rfl (lv_at hl 1 rfl) ?_
    refine lv_if_eq (pc := 107) (tgt := 118) hx hb dX2_join_107 (by decide) (fun hc => ?_) (fun hc => ?_)
    · replace hF := rp_it hc hF
      refine lv_iconst (pc := 118) (v := 0) hx hb dX2_join_118 (by decide) ?_
      exact rp_reti (pc := 119) hC hw hF dX2_join_119
    · replace hF := rp_if hc hF
      refine lv_iload_n (pc := 110) hx hb dX2_join_110 rfl (lv_at hl 2 rfl) ?_
      refine lv_if_eq (pc := 111) (tgt := 118) hx hb dX2_join_111 (by decide) (fun hc => ?_) (fun hc => ?_)
      · replace hF := rp_it hc hF
        refine lv_iconst (pc := 118) (v := 0) hx hb dX2_join_118 (by decide) ?_
        exact rp_reti (pc := 119) hC hw hF dX2_join_119
      · replace hF := rp_if hc hF
        refine lv_iconst (pc := 114) (v := 1) hx hb dX2_join_114 (by decide) ?_
        refine lv_goto (pc := 115) (tgt := 119) hx hb dX2_join_115 (by decide) ?_
        exact rp_reti (pc := 119) hC hw hF dX2_join_119
  replace hF := rp_if hs1_1 hF
  by_cases hs1_2 : v0 = 42
  · replace hF := rp_it hs1_2 hF
    refine lv_lookup (pc := 1) (off := 160) (tgt := 161) hx hb dX2_join_1 (by decide) (by rw [hs1_2]; decide +kernel) (by decide) ?_
    refine lv_iload_n (pc := 161) hx hb dX2_join_161 rfl (lv_at hl 1 rfl) ?_
    refine lv_iload_n (pc := 162) hx hb dX2_join_162 rfl (lv_at hl 2 rfl) ?_
    refine lv_imul (pc := 163) hx hb dX2_join_163 ?_
    exact rp_reti (pc := 164) hC hw hF dX2_join_164
  replace hF := rp_if hs1_2 hF
  by_cases hs1_3 : v0 = 43
  · replace hF := rp_it hs1_3 hF
    refine lv_lookup (pc := 1) (off := 152) (tgt := 153) hx hb dX2_join_1 (by decide) (by rw [hs1_3]; decide +kernel) (by decide) ?_
    refine lv_iload_n (pc := 153) hx hb dX2_join_153 rfl (lv_at hl 1 rfl) ?_
    refine lv_iload_n (pc := 154) hx hb dX2_join_154 rfl (lv_at hl 2 rfl) ?_
    refine lv_iadd (pc := 155) hx hb dX2_join_155 ?_
    exact rp_reti (pc := 156) hC hw hF dX2_join_156
  replace hF := rp_if hs1_3 hF
  by_cases hs1_4 : v0 = 45
  · replace hF := rp_it hs1_4 hF
    refine lv_lookup (pc := 1) (off := 156) (tgt := 157) hx hb dX2_join_1 (by decide) (by rw [hs1_4]; decide +kernel) (by decide) ?_
    refine lv_iload_n (pc := 157) hx hb dX2_join_157 rfl (lv_at hl 1 rfl) ?_
    refine lv_iload_n (pc := 158) hx hb dX2_join_158 rfl (lv_at hl 2 rfl) ?_
    refine lv_isub (pc := 159) hx hb dX2_join_159 ?_
    exact rp_reti (pc := 160) hC hw hF dX2_join_160
  replace hF := rp_if hs1_4 hF
  by_cases hs1_5 : v0 = 47
  · replace hF := rp_it hs1_5 hF
    refine lv_lookup (pc := 1) (off := 164) (tgt := 165) hx hb dX2_join_1 (by decide) (by rw [hs1_5]; decide +kernel) (by decide) ?_
    refine lv_iload_n (pc := 165) hx hb dX2_join_165 rfl (lv_at hl 2 rfl) ?_
    refine lv_if_ne (pc := 166) (tgt := 173) hx hb dX2_join_166 (by decide) (fun hc => ?_) (fun hc => ?_)
    · replace hF := rp_if hc hF
      refine lv_iload_n (pc := 173) hx hb dX2_join_173 rfl (lv_at hl 1 rfl) ?_
      refine lv_iload_n (pc := 174) hx hb dX2_join_174 rfl (lv_at hl 2 rfl) ?_
      obtain ⟨hg, hF⟩ := rp_gu_e hF
      refine lv_idiv (pc := 175) hx hb dX2_join_175 (rp_nz0_e hg) ?_
      exact rp_reti (pc := 176) hC hw hF dX2_join_176
    · replace hF := rp_it hc hF
      refine lv_iconst (pc := 169) (v := 0) hx hb dX2_join_169 (by decide) ?_
      refine lv_goto (pc := 170) (tgt := 176) hx hb dX2_join_170 (by decide) ?_
      exact rp_reti (pc := 176) hC hw hF dX2_join_176
  replace hF := rp_if hs1_5 hF
  by_cases hs1_6 : v0 = 60
  · replace hF := rp_it hs1_6 hF
    refine lv_lookup (pc := 1) (off := 119) (tgt := 120) hx hb dX2_join_1 (by decide) (by rw [hs1_6]; decide +kernel) (by decide) ?_
    refine lv_iload_n (pc := 120) hx hb dX2_join_120 rfl (lv_at hl 1 rfl) ?_
    refine lv_iload_n (pc := 121) hx hb dX2_join_121 rfl (lv_at hl 2 rfl) ?_
    refine lv_icmp_ge (pc := 122) (tgt := 129) hx hb dX2_join_122 (by decide) (fun hc => ?_) (fun hc => ?_)
    · replace hF := rp_it hc hF
      refine lv_iconst (pc := 129) (v := 0) hx hb dX2_join_129 (by decide) ?_
      exact rp_reti (pc := 130) hC hw hF dX2_join_130
    · replace hF := rp_if hc hF
      refine lv_iconst (pc := 125) (v := 1) hx hb dX2_join_125 (by decide) ?_
      refine lv_goto (pc := 126) (tgt := 130) hx hb dX2_join_126 (by decide) ?_
      exact rp_reti (pc := 130) hC hw hF dX2_join_130
  replace hF := rp_if hs1_6 hF
  by_cases hs1_7 : v0 = 61
  · replace hF := rp_it hs1_7 hF
    refine lv_lookup (pc := 1) (off := 130) (tgt := 131) hx hb dX2_join_1 (by decide) (by rw [hs1_7]; decide +kernel) (by decide) ?_
    refine lv_iload_n (pc := 131) hx hb dX2_join_131 rfl (lv_at hl 1 rfl) ?_
    refine lv_iload_n (pc := 132) hx hb dX2_join_132 rfl (lv_at hl 2 rfl) ?_
    refine lv_icmp_ne (pc := 133) (tgt := 140) hx hb dX2_join_133 (by decide) (fun hc => ?_) (fun hc => ?_)
    · replace hF := rp_if hc hF
      refine lv_iconst (pc := 140) (v := 0) hx hb dX2_join_140 (by decide) ?_
      exact rp_reti (pc := 141) hC hw hF dX2_join_141
    · replace hF := rp_it hc hF
      refine lv_iconst (pc := 136) (v := 1) hx hb dX2_join_136 (by decide) ?_
      refine lv_goto (pc := 137) (tgt := 141) hx hb dX2_join_137 (by decide) ?_
      exact rp_reti (pc := 141) hC hw hF dX2_join_141
  replace hF := rp_if hs1_7 hF
  by_cases hs1_8 : v0 = 62
  · replace hF := rp_it hs1_8 hF
    refine lv_lookup (pc := 1) (off := 141) (tgt := 142) hx hb dX2_join_1 (by decide) (by rw [hs1_8]; decide +kernel) (by decide) ?_
    refine lv_iload_n (pc := 142) hx hb dX2_join_142 rfl (lv_at hl 1 rfl) ?_
    refine lv_iload_n (pc := 143) hx hb dX2_join_143 rfl (lv_at hl 2 rfl) ?_
    refine lv_icmp_le (pc := 144) (tgt := 151) hx hb dX2_join_144 (by decide) (fun hc => ?_) (fun hc => ?_)
    · replace hF := rp_it hc hF
      refine lv_iconst (pc := 151) (v := 0) hx hb dX2_join_151 (by decide) ?_
      exact rp_reti (pc := 152) hC hw hF dX2_join_152
    · replace hF := rp_if hc hF
      refine lv_iconst (pc := 147) (v := 1) hx hb dX2_join_147 (by decide) ?_
      refine lv_goto (pc := 148) (tgt := 152) hx hb dX2_join_148 (by decide) ?_
      exact rp_reti (pc := 152) hC hw hF dX2_join_152
  replace hF := rp_if hs1_8 hF
  by_cases hs1_9 : v0 = 124
  · replace hF := rp_it hs1_9 hF
    refine lv_lookup (pc := 1) (off := 91) (tgt := 92) hx hb dX2_join_1 (by decide) (by rw [hs1_9]; decide +kernel) (by decide) ?_
    refine lv_iload_n (pc := 92) hx hb dX2_join_92 rfl (lv_at hl 1 rfl) ?_
    refine lv_if_ne (pc := 93) (tgt := 100) hx hb dX2_join_93 (by decide) (fun hc => ?_) (fun hc => ?_)
    · replace hF := rp_if hc hF
      exact kX2_join_100 hC σ _ _ _ hF hw (lv_sub hl [] rfl)
    · replace hF := rp_it hc hF
      refine lv_iload_n (pc := 96) hx hb dX2_join_96 rfl (lv_at hl 2 rfl) ?_
      refine lv_if_eq (pc := 97) (tgt := 104) hx hb dX2_join_97 (by decide) (fun hc => ?_) (fun hc => ?_)
      · replace hF := rp_it hc hF
        refine lv_iconst (pc := 104) (v := 0) hx hb dX2_join_104 (by decide) ?_
        exact rp_reti (pc := 105) hC hw hF dX2_join_105
      · replace hF := rp_if hc hF
        exact kX2_join_100 hC σ _ _ _ hF hw (lv_sub hl [] rfl)
  replace hF := rp_if hs1_9 hF
  refine lv_lookup (pc := 1) (off := 188) (tgt := 189) hx hb dX2_join_1 (by decide) (rp_lkc (rp_ne 37 37 (by decide) hs1_0) (rp_lkc (rp_ne 38 38 (by decide) hs1_1) (rp_lkc (rp_ne 42 42 (by decide) hs1_2) (rp_lkc (rp_ne 43 43 (by decide) hs1_3) (rp_lkc (rp_ne 45 45 (by decide) hs1_4) (rp_lkc (rp_ne 47 47 (by decide) hs1_5) (rp_lkc (rp_ne 60 60 (by decide) hs1_6) (rp_lkc (rp_ne 61 61 (by decide) hs1_7) (rp_lkc (rp_ne 62 62 (by decide) hs1_8) (rp_lkc (rp_ne 124 124 (by decide) hs1_9) rfl)))))))))) (by decide) ?_
  refine lv_iconst (pc := 189) (v := 0) hx hb dX2_join_189 (by decide) ?_
  exact rp_reti (pc := 190) hC hw hF dX2_join_190
theorem mX2_join {l : Launch} {D : va_G} {cI cB cS : ClassId} {a : Nat → Nat} (v0 : Int32) (v1 : Int32) (v2 : Int32) (σ : rp_St) (res : Int32 × rp_St) (hF : fX2_join v0 v1 v2 σ = some res) : xM l D cI cB cS a yX2_join cX2_join 3 (some .int) 1 [.int v0, .int v1, .int v2] σ (rp_Qi D a (xt cI cB cS a) 62 res) :=
  rp_entry (by decide) (Nat.le_of_ble_eq_true rfl) (fun p e s m below meth c ls hC hw hl => kX2_join_0 hC v0 v1 v2 σ _ _ _ hF hw (lv_sub hl [0, 1, 2] rfl))
def fX2_work_141 (g0 : Nat) (k6 : Int32 → Int32 → Int32 → Int32 → Int32 → rp_St → Option (Int32 × rp_St)) (v1 : Int32) (v2 : Int32) (v3 : Int32) (v4 : Int32) (v5 : Int32) (σ : rp_St) : Option (Int32 × rp_St) :=
  rp_nm (v5 + 1) (fun x1 => k6 v1 v2 v3 v4 x1 σ)
set_option maxRecDepth 100000 in
set_option maxHeartbeats 4000000 in
theorem kX2_work_141 {p : Program} {l : Launch} {e : Env} {s : State} {m : MethodId} {args : Array Value} {below : List Frame} {meth : Method} {c : Code} {D : va_G} {cI cB cS : ClassId} {a : Nat → Nat} {res : Int32 × rp_St} (g0 : Nat) (h_g0 : g0 < 4) (hC : xC p s m args meth c cX2_work 7 "RegretPegs$Law" (some .int) D cI cB cS a) (k6 : Int32 → Int32 → Int32 → Int32 → Int32 → rp_St → Option (Int32 × rp_St)) (hk6 : ∀ (v1 : Int32) (v2 : Int32) (v3 : Int32) (v4 : Int32) (v5 : Int32) (σ : rp_St) (H : Heap) (locs : List Loc) (ls : Array Slot), k6 v1 v2 v3 v4 v5 σ = some res → xW D cI cB cS a s σ H locs → lv_has ls 7 [(0, .ref (a (28 + 3 * g0))), (1, .int v1), (2, .int v2), (3, .int v3), (4, .int v4), (5, .int v5)] → W p l e (rp_rm 2) s m args below meth c H locs 0 0 (MQ below (rp_Qi D a (xt cI cB cS a) 62 res) args s 0 0 (rp_A a 62)) (F0 m 6 ls [])) (v1 : Int32) (v2 : Int32) (v3 : Int32) (v4 : Int32) (v5 : Int32) (σ : rp_St) (H : Heap) (locs : List Loc) (ls : Array Slot) (hF : fX2_work_141 g0 k6 v1 v2 v3 v4 v5 σ = some res) (hw : xW D cI cB cS a s σ H locs) (hl : lv_has ls 7 [(0, .ref (a (28 + 3 * g0))), (1, .int v1), (2, .int v2), (3, .int v3), (4, .int v4), (5, .int v5)]) : W p l e (rp_rm 2) s m args below meth c H locs 0 0 (MQ below (rp_Qi D a (xt cI cB cS a) 62 res) args s 0 0 (rp_A a 62)) (F0 m 141 ls []) := by
  have hx := hC.1
  have hb := hC.2.1
  have hown := hC.2.2.2.1
  have hts := hC.2.2.2.2.1
  unfold fX2_work_141 at hF
  obtain ⟨x1, ex1, hF⟩ := rp_nm_e hF
  refine lv_iinc (pc := 141) (v := x1) (lv' := [(5, .int x1), (0, .ref (a (28 + 3 * g0))), (1, .int v1), (2, .int v2), (3, .int v3), (4, .int v4)]) hx hb dX2_work_141 hl (k := 5) rfl (by rw [ex1]; rfl) (by decide) rfl (fun ls hl => ?_)
  refine lv_goto (pc := 144) (tgt := 6) hx hb dX2_work_144 (by decide) ?_
  exact hk6 v1 v2 v3 v4 x1 σ _ _ _ hF hw (lv_sub hl [1, 2, 3, 4, 5, 0] rfl)
def fX2_work_97 (g0 : Nat) (k6 : Int32 → Int32 → Int32 → Int32 → Int32 → rp_St → Option (Int32 × rp_St)) (v1 : Int32) (v2 : Int32) (v3 : Int32) (v4 : Int32) (v5 : Int32) (t0 : Int32) (t1 : Int32) (σ : rp_St) : Option (Int32 × rp_St) :=
  rp_gu (rp_in t1 50) (rp_nm (rp_put σ (28 + 3 * g0 + 2) (t1 : Int32).toNatClampNeg t0) (fun σ1 => fX2_work_141 g0 k6 v1 v2 v3 v4 v5 σ1))
set_option maxRecDepth 100000 in
set_option maxHeartbeats 4000000 in
theorem kX2_work_97 {p : Program} {l : Launch} {e : Env} {s : State} {m : MethodId} {args : Array Value} {below : List Frame} {meth : Method} {c : Code} {D : va_G} {cI cB cS : ClassId} {a : Nat → Nat} {res : Int32 × rp_St} (g0 : Nat) (h_g0 : g0 < 4) (hC : xC p s m args meth c cX2_work 7 "RegretPegs$Law" (some .int) D cI cB cS a) (k6 : Int32 → Int32 → Int32 → Int32 → Int32 → rp_St → Option (Int32 × rp_St)) (hk6 : ∀ (v1 : Int32) (v2 : Int32) (v3 : Int32) (v4 : Int32) (v5 : Int32) (σ : rp_St) (H : Heap) (locs : List Loc) (ls : Array Slot), k6 v1 v2 v3 v4 v5 σ = some res → xW D cI cB cS a s σ H locs → lv_has ls 7 [(0, .ref (a (28 + 3 * g0))), (1, .int v1), (2, .int v2), (3, .int v3), (4, .int v4), (5, .int v5)] → W p l e (rp_rm 2) s m args below meth c H locs 0 0 (MQ below (rp_Qi D a (xt cI cB cS a) 62 res) args s 0 0 (rp_A a 62)) (F0 m 6 ls [])) (v1 : Int32) (v2 : Int32) (v3 : Int32) (v4 : Int32) (v5 : Int32) (t0 : Int32) (t1 : Int32) (σ : rp_St) (H : Heap) (locs : List Loc) (ls : Array Slot) (hF : fX2_work_97 g0 k6 v1 v2 v3 v4 v5 t0 t1 σ = some res) (hw : xW D cI cB cS a s σ H locs) (hl : lv_has ls 7 [(0, .ref (a (28 + 3 * g0))), (1, .int v1), (2, .int v2), (3, .int v3), (4, .int v4), (5, .int v5)]) : W p l e (rp_rm 2) s m args below meth c H locs 0 0 (MQ below (rp_Qi D a (xt cI cB cS a) 62 res) args s 0 0 (rp_A a 62)) (F0 m 97 ls [.int t0, .int t1, .ref (a (28 + 3 * g0 + 2))]) := by
  have hx := hC.1
  have hb := hC.2.1
  have hown := hC.2.2.2.1
  have hts := hC.2.2.2.2.1
  unfold fX2_work_97 at hF
  obtain ⟨hg, hF⟩ := rp_gu_e hF
  refine rp_ast (pc := 97) hC hw (28 + 3 * g0 + 2) (by omega) (xt_lar (i := g0) (by omega) 2 ⟨by decide, by decide⟩) 0 rfl hg dX2_work_97 (fun H locs hw => ?_)
  obtain ⟨σ1, eσ1, hF⟩ := rp_nm_e hF
  replace hw := rp_Wn eσ1 hw
  clear eσ1
  refine lv_goto (pc := 98) (tgt := 141) hx hb dX2_work_98 (by decide) ?_
  exact kX2_work_141 g0 h_g0 hC k6 hk6 v1 v2 v3 v4 v5 σ1 _ _ _ hF hw (lv_sub hl [0, 1, 2, 3, 4, 5] rfl)
def fX2_work_6 (g0 : Nat) (k6 : Int32 → Int32 → Int32 → Int32 → Int32 → rp_St → Option (Int32 × rp_St)) (v1 : Int32) (v2 : Int32) (v3 : Int32) (v4 : Int32) (v5 : Int32) (σ : rp_St) : Option (Int32 × rp_St) :=
  (if (σ (28 + 3 * g0) 1) ≤ v5 then rp_gu (rp_in 0 50) (some ((σ (28 + 3 * g0 + 2) (0 : Int32).toNatClampNeg), σ)) else rp_gu (rp_in v5 50) (rp_nm (σ (28 + 3 * g0 + 1) (v5 : Int32).toNatClampNeg) (fun x1 => (if x1 < (-3) then (if x1 = (-33) then (if v4 < 1 then fX2_work_141 g0 k6 v1 v2 v3 v4 v5 σ else rp_gu (rp_in (v4 - 1) 50) ((if (σ (28 + 3 * g0 + 2) ((v4 - 1) : Int32).toNatClampNeg) = 0 then fX2_work_97 g0 k6 v1 v2 v3 v4 v5 1 (v4 - 1) σ else fX2_work_97 g0 k6 v1 v2 v3 v4 v5 0 (v4 - 1) σ))) else (if v4 < 2 then fX2_work_141 g0 k6 v1 v2 v3 v4 v5 σ else rp_nm (v4 + (-1)) (fun x2 => rp_gu (rp_in (x2 - 1) 50) (rp_gu (rp_in x2 50) (rp_bd (fX2_join (-x1) (σ (28 + 3 * g0 + 2) ((x2 - 1) : Int32).toNatClampNeg) (σ (28 + 3 * g0 + 2) (x2 : Int32).toNatClampNeg) σ) (fun r3 σ4 => rp_gu (rp_in (x2 - 1) 50) (rp_nm (rp_put σ4 (28 + 3 * g0 + 2) ((x2 - 1) : Int32).toNatClampNeg r3) (fun σ5 => fX2_work_141 g0 k6 v1 v2 v3 x2 v5 σ5)))))))) else (if 50 ≤ v4 then fX2_work_141 g0 k6 v1 v2 v3 v4 v5 σ else rp_bd (fX2_valueOf x1 v1 v2 v3 σ) (fun r6 σ7 => rp_gu (rp_in v4 50) (rp_nm (rp_put σ7 (28 + 3 * g0 + 2) (v4 : Int32).toNatClampNeg r6) (fun σ8 => rp_nm (v4 + 1) (fun x9 => fX2_work_141 g0 k6 v1 v2 v3 x9 v5 σ8)))))))))
set_option maxRecDepth 100000 in
set_option maxHeartbeats 4000000 in
theorem kX2_work_6 {p : Program} {l : Launch} {e : Env} {s : State} {m : MethodId} {args : Array Value} {below : List Frame} {meth : Method} {c : Code} {D : va_G} {cI cB cS : ClassId} {a : Nat → Nat} {res : Int32 × rp_St} (g0 : Nat) (h_g0 : g0 < 4) (hC : xC p s m args meth c cX2_work 7 "RegretPegs$Law" (some .int) D cI cB cS a) (k6 : Int32 → Int32 → Int32 → Int32 → Int32 → rp_St → Option (Int32 × rp_St)) (hk6 : ∀ (v1 : Int32) (v2 : Int32) (v3 : Int32) (v4 : Int32) (v5 : Int32) (σ : rp_St) (H : Heap) (locs : List Loc) (ls : Array Slot), k6 v1 v2 v3 v4 v5 σ = some res → xW D cI cB cS a s σ H locs → lv_has ls 7 [(0, .ref (a (28 + 3 * g0))), (1, .int v1), (2, .int v2), (3, .int v3), (4, .int v4), (5, .int v5)] → W p l e (rp_rm 2) s m args below meth c H locs 0 0 (MQ below (rp_Qi D a (xt cI cB cS a) 62 res) args s 0 0 (rp_A a 62)) (F0 m 6 ls [])) (v1 : Int32) (v2 : Int32) (v3 : Int32) (v4 : Int32) (v5 : Int32) (σ : rp_St) (H : Heap) (locs : List Loc) (ls : Array Slot) (hF : fX2_work_6 g0 k6 v1 v2 v3 v4 v5 σ = some res) (hw : xW D cI cB cS a s σ H locs) (hl : lv_has ls 7 [(0, .ref (a (28 + 3 * g0))), (1, .int v1), (2, .int v2), (3, .int v3), (4, .int v4), (5, .int v5)]) : W p l e (rp_rm 2) s m args below meth c H locs 0 0 (MQ below (rp_Qi D a (xt cI cB cS a) 62 res) args s 0 0 (rp_A a 62)) (F0 m 6 ls []) := by
  have hx := hC.1
  have hb := hC.2.1
  have hown := hC.2.2.2.1
  have hts := hC.2.2.2.2.1
  unfold fX2_work_6 at hF
  refine lv_iload (pc := 6) hx hb dX2_work_6 (lv_at hl 5 rfl) ?_
  refine lv_aload_n (pc := 8) hx hb dX2_work_8 rfl (lv_at hl 0 rfl) ?_
  refine rp_get (pc := 9) hC hw (28 + 3 * g0) (by omega) ((xt_law (i := g0) (by omega)) _) fl_X2_9 (.int (σ (28 + 3 * g0) 1)) rfl dX2_work_9 ?_
  refine lv_icmp_ge (pc := 12) (tgt := 147) hx hb dX2_work_12 (by decide) (fun hc => ?_) (fun hc => ?_)
  · replace hF := rp_it hc hF
    refine lv_aload_n (pc := 147) hx hb dX2_work_147 rfl (lv_at hl 0 rfl) ?_
    refine rp_get (pc := 148) hC hw (28 + 3 * g0) (by omega) ((xt_law (i := g0) (by omega)) _) fl_X2_19 (.ref (a (28 + 3 * g0 + 2))) rfl dX2_work_148 ?_
    refine lv_iconst (pc := 151) (v := 0) hx hb dX2_work_151 (by decide) ?_
    obtain ⟨hg, hF⟩ := rp_gu_e hF
    refine rp_ald (pc := 152) hC hw (28 + 3 * g0 + 2) (by omega) (xt_lar (i := g0) (by omega) 2 ⟨by decide, by decide⟩) 0 rfl hg dX2_work_152 ?_
    exact rp_reti (pc := 153) hC hw hF dX2_work_153
  · replace hF := rp_if hc hF
    refine lv_aload_n (pc := 15) hx hb dX2_work_15 rfl (lv_at hl 0 rfl) ?_
    refine rp_get (pc := 16) hC hw (28 + 3 * g0) (by omega) ((xt_law (i := g0) (by omega)) _) fl_X2_15 (.ref (a (28 + 3 * g0 + 1))) rfl dX2_work_16 ?_
    refine lv_iload (pc := 19) hx hb dX2_work_19 (lv_at hl 5 rfl) ?_
    obtain ⟨hg, hF⟩ := rp_gu_e hF
    refine rp_ald (pc := 21) hC hw (28 + 3 * g0 + 1) (by omega) (xt_lar (i := g0) (by omega) 1 ⟨by decide, by decide⟩) 0 rfl hg dX2_work_21 ?_
    obtain ⟨x1, ex1, hF⟩ := rp_nm_e hF
    refine rp_top ex1 ?_
    refine lv_istore (pc := 22) (lv' := [(6, .int x1), (0, .ref (a (28 + 3 * g0))), (1, .int v1), (2, .int v2), (3, .int v3), (4, .int v4), (5, .int v5)]) hx hb dX2_work_22 hl (by decide) rfl (fun ls hl => ?_)
    refine lv_iload (pc := 24) hx hb dX2_work_24 (lv_at hl 0 rfl) ?_
    refine lv_bipush (pc := 26) (v := (-3)) hx hb dX2_work_26 (by decide) ?_
    refine lv_icmp_lt (pc := 28) (tgt := 59) hx hb dX2_work_28 (by decide) (fun hc => ?_) (fun hc => ?_)
    · replace hF := rp_it hc hF
      refine lv_iload (pc := 59) hx hb dX2_work_59 (lv_at hl 0 rfl) ?_
      refine lv_bipush (pc := 61) (v := (-33)) hx hb dX2_work_61 (by decide) ?_
      refine lv_icmp_ne (pc := 63) (tgt := 101) hx hb dX2_work_63 (by decide) (fun hc => ?_) (fun hc => ?_)
      · replace hF := rp_if hc hF
        refine lv_iload (pc := 101) hx hb dX2_work_101 (lv_at hl 5 rfl) ?_
        refine lv_iconst (pc := 103) (v := 2) hx hb dX2_work_103 (by decide) ?_
        refine lv_icmp_lt (pc := 104) (tgt := 141) hx hb dX2_work_104 (by decide) (fun hc => ?_) (fun hc => ?_)
        · replace hF := rp_it hc hF
          exact kX2_work_141 g0 h_g0 hC k6 hk6 v1 v2 v3 v4 v5 σ _ _ _ hF hw (lv_sub hl [1, 2, 3, 4, 5, 6] rfl)
        · replace hF := rp_if hc hF
          obtain ⟨x2, ex2, hF⟩ := rp_nm_e hF
          refine lv_iinc (pc := 107) (v := x2) (lv' := [(4, .int x2), (6, .int x1), (0, .ref (a (28 + 3 * g0))), (1, .int v1), (2, .int v2), (3, .int v3), (5, .int v5)]) hx hb dX2_work_107 hl (k := 5) rfl (by rw [ex2]; rfl) (by decide) rfl (fun ls hl => ?_)
          refine lv_aload_n (pc := 110) hx hb dX2_work_110 rfl (lv_at hl 2 rfl) ?_
          refine rp_get (pc := 111) hC hw (28 + 3 * g0) (by omega) ((xt_law (i := g0) (by omega)) _) fl_X2_19 (.ref (a (28 + 3 * g0 + 2))) rfl dX2_work_111 ?_
          refine lv_iload (pc := 114) hx hb dX2_work_114 (lv_at hl 0 rfl) ?_
          refine lv_iconst (pc := 116) (v := 1) hx hb dX2_work_116 (by decide) ?_
          refine lv_isub (pc := 117) hx hb dX2_work_117 ?_
          refine lv_iload (pc := 118) hx hb dX2_work_118 (lv_at hl 1 rfl) ?_
          refine lv_ineg (pc := 120) hx hb dX2_work_120 ?_
          refine lv_aload_n (pc := 121) hx hb dX2_work_121 rfl (lv_at hl 2 rfl) ?_
          refine rp_get (pc := 122) hC hw (28 + 3 * g0) (by omega) ((xt_law (i := g0) (by omega)) _) fl_X2_19 (.ref (a (28 + 3 * g0 + 2))) rfl dX2_work_122 ?_
          refine lv_iload (pc := 125) hx hb dX2_work_125 (lv_at hl 0 rfl) ?_
          refine lv_iconst (pc := 127) (v := 1) hx hb dX2_work_127 (by decide) ?_
          refine lv_isub (pc := 128) hx hb dX2_work_128 ?_
          obtain ⟨hg, hF⟩ := rp_gu_e hF
          refine rp_ald (pc := 129) hC hw (28 + 3 * g0 + 2) (by omega) (xt_lar (i := g0) (by omega) 2 ⟨by decide, by decide⟩) 0 rfl hg dX2_work_129 ?_
          refine lv_aload_n (pc := 130) hx hb dX2_work_130 rfl (lv_at hl 2 rfl) ?_
          refine rp_get (pc := 131) hC hw (28 + 3 * g0) (by omega) ((xt_law (i := g0) (by omega)) _) fl_X2_19 (.ref (a (28 + 3 * g0 + 2))) rfl dX2_work_131 ?_
          refine lv_iload (pc := 134) hx hb dX2_work_134 (lv_at hl 0 rfl) ?_
          obtain ⟨hg, hF⟩ := rp_gu_e hF
          refine rp_ald (pc := 136) hC hw (28 + 3 * g0 + 2) (by omega) (xt_lar (i := g0) (by omega) 2 ⟨by decide, by decide⟩) 0 rfl hg dX2_work_136 ?_
          obtain ⟨r3, σ4, hq, hF⟩ := rp_bd_e hF
          refine rp_ki (rp_runZ (rest := [.int (x2 - 1), .ref (a (28 + 3 * g0 + 2))]) hC (xE_ok _) hw hl.1 (mX2_join (l := l) (-x1) (σ (28 + 3 * g0 + 2) ((x2 - 1) : Int32).toNatClampNeg) (σ (28 + 3 * g0 + 2) (x2 : Int32).toNatClampNeg) σ _ hq) zw_X2_52 rfl rfl (Nat.le_of_ble_eq_true rfl) (by decide) dX2_work_137) hw (fun H locs hw => ?_)
          clear hq
          obtain ⟨hg, hF⟩ := rp_gu_e hF
          refine rp_ast (pc := 140) hC hw (28 + 3 * g0 + 2) (by omega) (xt_lar (i := g0) (by omega) 2 ⟨by decide, by decide⟩) 0 rfl hg dX2_work_140 (fun H locs hw => ?_)
          obtain ⟨σ5, eσ5, hF⟩ := rp_nm_e hF
          replace hw := rp_Wn eσ5 hw
          clear eσ5
          exact kX2_work_141 g0 h_g0 hC k6 hk6 v1 v2 v3 x2 v5 σ5 _ _ _ hF hw (lv_sub hl [2, 3, 4, 5, 0, 6] rfl)
      · replace hF := rp_it hc hF
        refine lv_iload (pc := 66) hx hb dX2_work_66 (lv_at hl 5 rfl) ?_
        refine lv_iconst (pc := 68) (v := 1) hx hb dX2_work_68 (by decide) ?_
        refine lv_icmp_lt (pc := 69) (tgt := 141) hx hb dX2_work_69 (by decide) (fun hc => ?_) (fun hc => ?_)
        · replace hF := rp_it hc hF
          exact kX2_work_141 g0 h_g0 hC k6 hk6 v1 v2 v3 v4 v5 σ _ _ _ hF hw (lv_sub hl [1, 2, 3, 4, 5, 6] rfl)
        · replace hF := rp_if hc hF
          refine lv_aload_n (pc := 72) hx hb dX2_work_72 rfl (lv_at hl 1 rfl) ?_
          refine rp_get (pc := 73) hC hw (28 + 3 * g0) (by omega) ((xt_law (i := g0) (by omega)) _) fl_X2_19 (.ref (a (28 + 3 * g0 + 2))) rfl dX2_work_73 ?_
          refine lv_iload (pc := 76) hx hb dX2_work_76 (lv_at hl 5 rfl) ?_
          refine lv_iconst (pc := 78) (v := 1) hx hb dX2_work_78 (by decide) ?_
          refine lv_isub (pc := 79) hx hb dX2_work_79 ?_
          refine lv_aload_n (pc := 80) hx hb dX2_work_80 rfl (lv_at hl 1 rfl) ?_
          refine rp_get (pc := 81) hC hw (28 + 3 * g0) (by omega) ((xt_law (i := g0) (by omega)) _) fl_X2_19 (.ref (a (28 + 3 * g0 + 2))) rfl dX2_work_81 ?_
          refine lv_iload (pc := 84) hx hb dX2_work_84 (lv_at hl 5 rfl) ?_
          refine lv_iconst (pc := 86) (v := 1) hx hb dX2_work_86 (by decide) ?_
          refine lv_isub (pc := 87) hx hb dX2_work_87 ?_
          obtain ⟨hg, hF⟩ := rp_gu_e hF
          refine rp_ald (pc := 88) hC hw (28 + 3 * g0 + 2) (by omega) (xt_lar (i := g0) (by omega) 2 ⟨by decide, by decide⟩) 0 rfl hg dX2_work_88 ?_
          refine lv_if_ne (pc := 89) (tgt := 96) hx hb dX2_work_89 (by decide) (fun hc => ?_) (fun hc => ?_)
          · replace hF := rp_if hc hF
            refine lv_iconst (pc := 96) (v := 0) hx hb dX2_work_96 (by decide) ?_
            exact kX2_work_97 g0 h_g0 hC k6 hk6 v1 v2 v3 v4 v5 0 (v4 - 1) σ _ _ _ hF hw (lv_sub hl [1, 2, 3, 4, 5, 6] rfl)
          · replace hF := rp_it hc hF
            refine lv_iconst (pc := 92) (v := 1) hx hb dX2_work_92 (by decide) ?_
            refine lv_goto (pc := 93) (tgt := 97) hx hb dX2_work_93 (by decide) ?_
            exact kX2_work_97 g0 h_g0 hC k6 hk6 v1 v2 v3 v4 v5 1 (v4 - 1) σ _ _ _ hF hw (lv_sub hl [1, 2, 3, 4, 5, 6] rfl)
    · replace hF := rp_if hc hF
      refine lv_iload (pc := 31) hx hb dX2_work_31 (lv_at hl 5 rfl) ?_
      refine lv_bipush (pc := 33) (v := 50) hx hb dX2_work_33 (by decide) ?_
      refine lv_icmp_ge (pc := 35) (tgt := 141) hx hb dX2_work_35 (by decide) (fun hc => ?_) (fun hc => ?_)
      · replace hF := rp_it hc hF
        exact kX2_work_141 g0 h_g0 hC k6 hk6 v1 v2 v3 v4 v5 σ _ _ _ hF hw (lv_sub hl [1, 2, 3, 4, 5, 6] rfl)
      · replace hF := rp_if hc hF
        refine lv_aload_n (pc := 38) hx hb dX2_work_38 rfl (lv_at hl 1 rfl) ?_
        refine rp_get (pc := 39) hC hw (28 + 3 * g0) (by omega) ((xt_law (i := g0) (by omega)) _) fl_X2_19 (.ref (a (28 + 3 * g0 + 2))) rfl dX2_work_39 ?_
        refine lv_iload (pc := 42) hx hb dX2_work_42 (lv_at hl 5 rfl) ?_
        refine lv_iload (pc := 44) hx hb dX2_work_44 (lv_at hl 0 rfl) ?_
        refine lv_iload_n (pc := 46) hx hb dX2_work_46 rfl (lv_at hl 2 rfl) ?_
        refine lv_iload_n (pc := 47) hx hb dX2_work_47 rfl (lv_at hl 3 rfl) ?_
        refine lv_iload_n (pc := 48) hx hb dX2_work_48 rfl (lv_at hl 4 rfl) ?_
        obtain ⟨r6, σ7, hq, hF⟩ := rp_bd_e hF
        refine rp_ki (rp_runZ (rest := [.int v4, .ref (a (28 + 3 * g0 + 2))]) hC (xE_ok _) hw hl.1 (mX2_valueOf (l := l) x1 v1 v2 v3 σ _ hq) zw_X2_48 rfl rfl (Nat.le_of_ble_eq_true rfl) (by decide) dX2_work_49) hw (fun H locs hw => ?_)
        clear hq
        obtain ⟨hg, hF⟩ := rp_gu_e hF
        refine rp_ast (pc := 52) hC hw (28 + 3 * g0 + 2) (by omega) (xt_lar (i := g0) (by omega) 2 ⟨by decide, by decide⟩) 0 rfl hg dX2_work_52 (fun H locs hw => ?_)
        obtain ⟨σ8, eσ8, hF⟩ := rp_nm_e hF
        replace hw := rp_Wn eσ8 hw
        clear eσ8
        obtain ⟨x9, ex9, hF⟩ := rp_nm_e hF
        refine lv_iinc (pc := 53) (v := x9) (lv' := [(4, .int x9), (6, .int x1), (0, .ref (a (28 + 3 * g0))), (1, .int v1), (2, .int v2), (3, .int v3), (5, .int v5)]) hx hb dX2_work_53 hl (k := 5) rfl (by rw [ex9]; rfl) (by decide) rfl (fun ls hl => ?_)
        refine lv_goto (pc := 56) (tgt := 141) hx hb dX2_work_56 (by decide) ?_
        exact kX2_work_141 g0 h_g0 hC k6 hk6 v1 v2 v3 x9 v5 σ8 _ _ _ hF hw (lv_sub hl [2, 3, 4, 5, 0, 6] rfl)
theorem lX2_work_6 {p : Program} {l : Launch} {e : Env} {s : State} {m : MethodId} {args : Array Value} {below : List Frame} {meth : Method} {c : Code} {D : va_G} {cI cB cS : ClassId} {a : Nat → Nat} {res : Int32 × rp_St} (g0 : Nat) (h_g0 : g0 < 4) (hC : xC p s m args meth c cX2_work 7 "RegretPegs$Law" (some .int) D cI cB cS a) : ∀ (n : Nat) (v1 : Int32) (v2 : Int32) (v3 : Int32) (v4 : Int32) (v5 : Int32) (σ : rp_St) (H : Heap) (locs : List Loc) (ls : Array Slot), rp_lp (fun _ _ _ _ _ _ => none) (fX2_work_6 g0) n v1 v2 v3 v4 v5 σ = some res → xW D cI cB cS a s σ H locs → lv_has ls 7 [(0, .ref (a (28 + 3 * g0))), (1, .int v1), (2, .int v2), (3, .int v3), (4, .int v4), (5, .int v5)] → W p l e (rp_rm 2) s m args below meth c H locs 0 0 (MQ below (rp_Qi D a (xt cI cB cS a) 62 res) args s 0 0 (rp_A a 62)) (F0 m 6 ls [])
  | 0, _, _, _, _, _, _, _, _, _, hF, _, _ => nomatch hF
  | n + 1, v1, v2, v3, v4, v5, σ, H, locs, ls, hF, hw, hl => kX2_work_6 g0 h_g0 hC (rp_lp (fun _ _ _ _ _ _ => none) (fX2_work_6 g0) n) (lX2_work_6 g0 h_g0 hC n) v1 v2 v3 v4 v5 σ H locs ls hF hw hl
def fX2_work (g0 : Nat) (v1 : Int32) (v2 : Int32) (v3 : Int32) (σ : rp_St) : Option (Int32 × rp_St) :=
  rp_lp (fun _ _ _ _ _ _ => none) (fX2_work_6 g0) 300 v1 v2 v3 0 0 σ
set_option maxRecDepth 100000 in
set_option maxHeartbeats 4000000 in
theorem kX2_work_0 {p : Program} {l : Launch} {e : Env} {s : State} {m : MethodId} {args : Array Value} {below : List Frame} {meth : Method} {c : Code} {D : va_G} {cI cB cS : ClassId} {a : Nat → Nat} {res : Int32 × rp_St} (g0 : Nat) (h_g0 : g0 < 4) (hC : xC p s m args meth c cX2_work 7 "RegretPegs$Law" (some .int) D cI cB cS a) (v1 : Int32) (v2 : Int32) (v3 : Int32) (σ : rp_St) (H : Heap) (locs : List Loc) (ls : Array Slot) (hF : fX2_work g0 v1 v2 v3 σ = some res) (hw : xW D cI cB cS a s σ H locs) (hl : lv_has ls 7 [(0, .ref (a (28 + 3 * g0))), (1, .int v1), (2, .int v2), (3, .int v3)]) : W p l e (rp_rm 2) s m args below meth c H locs 0 0 (MQ below (rp_Qi D a (xt cI cB cS a) 62 res) args s 0 0 (rp_A a 62)) (F0 m 0 ls []) := by
  have hx := hC.1
  have hb := hC.2.1
  have hown := hC.2.2.2.1
  have hts := hC.2.2.2.2.1
  unfold fX2_work at hF
  refine lv_iconst (pc := 0) (v := 0) hx hb dX2_work_0 (by decide) ?_
  refine lv_istore (pc := 1) (lv' := [(4, .int 0), (0, .ref (a (28 + 3 * g0))), (1, .int v1), (2, .int v2), (3, .int v3)]) hx hb dX2_work_1 hl (by decide) rfl (fun ls hl => ?_)
  refine lv_iconst (pc := 3) (v := 0) hx hb dX2_work_3 (by decide) ?_
  refine lv_istore (pc := 4) (lv' := [(5, .int 0), (4, .int 0), (0, .ref (a (28 + 3 * g0))), (1, .int v1), (2, .int v2), (3, .int v3)]) hx hb dX2_work_4 hl (by decide) rfl (fun ls hl => ?_)
  exact lX2_work_6 g0 h_g0 hC 300 v1 v2 v3 0 0 σ _ _ _ hF hw (lv_sub hl [2, 3, 4, 5, 1, 0] rfl)
theorem mX2_work {l : Launch} {D : va_G} {cI cB cS : ClassId} {a : Nat → Nat} (g0 : Nat) (h_g0 : g0 < 4) (v1 : Int32) (v2 : Int32) (v3 : Int32) (σ : rp_St) (res : Int32 × rp_St) (hF : fX2_work g0 v1 v2 v3 σ = some res) : xM l D cI cB cS a yX2_work cX2_work 7 (some .int) 2 [.ref (a (28 + 3 * g0)), .int v1, .int v2, .int v3] σ (rp_Qi D a (xt cI cB cS a) 62 res) :=
  rp_entry (by decide) (Nat.le_of_ble_eq_true rfl) (fun p e s m below meth c ls hC hw hl => kX2_work_0 g0 h_g0 hC v1 v2 v3 σ _ _ _ hF hw (lv_sub hl [0, 1, 2, 3] rfl))
def fX6_heldRue (v0 : Int32) (σ : rp_St) : Option (Int32 × rp_St) :=
  some ((if 0 < (if 999 < v0 then 999 else v0) then (if 999 < v0 then 999 else v0) else 0), σ)
set_option maxRecDepth 100000 in
set_option maxHeartbeats 4000000 in
theorem kX6_heldRue_0 {p : Program} {l : Launch} {e : Env} {s : State} {m : MethodId} {args : Array Value} {below : List Frame} {meth : Method} {c : Code} {D : va_G} {cI cB cS : ClassId} {a : Nat → Nat} {res : Int32 × rp_St} (hC : xC p s m args meth c cX6_heldRue 1 "RegretPegs" (some .int) D cI cB cS a) (v0 : Int32) (σ : rp_St) (H : Heap) (locs : List Loc) (ls : Array Slot) (hF : fX6_heldRue v0 σ = some res) (hw : xW D cI cB cS a s σ H locs) (hl : lv_has ls 1 [(0, .int v0)]) : W p l e (rp_rm 1) s m args below meth c H locs 0 0 (MQ below (rp_Qi D a (xt cI cB cS a) 62 res) args s 0 0 (rp_A a 62)) (F0 m 0 ls []) := by
  have hx := hC.1
  have hb := hC.2.1
  have hown := hC.2.2.2.1
  have hts := hC.2.2.2.2.1
  unfold fX6_heldRue at hF
  refine lv_iconst (pc := 0) (v := 0) hx hb dX6_heldRue_0 (by decide) ?_
  refine lv_iload_n (pc := 1) hx hb dX6_heldRue_1 rfl (lv_at hl 0 rfl) ?_
  refine lv_sipush (pc := 2) (v := 999) hx hb dX6_heldRue_2 (by decide) ?_
  refine rp_min (pc := 5) hC hl.1 wd_388 wd_314 wd_9 wd_315 (Nat.le_of_ble_eq_true rfl) (by omega) dX6_heldRue_5 ?_
  refine rp_max (pc := 8) hC hl.1 wd_389 wd_390 wd_9 wd_391 (Nat.le_of_ble_eq_true rfl) (by omega) dX6_heldRue_8 ?_
  exact rp_reti (pc := 11) hC hw hF dX6_heldRue_11
theorem mX6_heldRue {l : Launch} {D : va_G} {cI cB cS : ClassId} {a : Nat → Nat} (v0 : Int32) (σ : rp_St) (res : Int32 × rp_St) (hF : fX6_heldRue v0 σ = some res) : xM l D cI cB cS a yX6_heldRue cX6_heldRue 1 (some .int) 1 [.int v0] σ (rp_Qi D a (xt cI cB cS a) 62 res) :=
  rp_entry (by decide) (Nat.le_of_ble_eq_true rfl) (fun p e s m below meth c ls hC hw hl => kX6_heldRue_0 hC v0 σ _ _ _ hF hw (lv_sub hl [0] rfl))
def fX2_give_29 (g0 : Nat) (t0 : Int32) (σ : rp_St) : Option (Int32 × rp_St) :=
  rp_bd (fX6_heldRue t0 σ) (fun r1 σ2 => some (r1, σ2))
set_option maxRecDepth 100000 in
set_option maxHeartbeats 4000000 in
theorem kX2_give_29 {p : Program} {l : Launch} {e : Env} {s : State} {m : MethodId} {args : Array Value} {below : List Frame} {meth : Method} {c : Code} {D : va_G} {cI cB cS : ClassId} {a : Nat → Nat} {res : Int32 × rp_St} (g0 : Nat) (h_g0 : g0 < 4) (hC : xC p s m args meth c cX2_give 4 "RegretPegs$Law" (some .int) D cI cB cS a) (t0 : Int32) (σ : rp_St) (H : Heap) (locs : List Loc) (ls : Array Slot) (hF : fX2_give_29 g0 t0 σ = some res) (hw : xW D cI cB cS a s σ H locs) (hl : lv_has ls 4 []) : W p l e (rp_rm 3) s m args below meth c H locs 0 0 (MQ below (rp_Qi D a (xt cI cB cS a) 62 res) args s 0 0 (rp_A a 62)) (F0 m 29 ls [.int t0]) := by
  have hx := hC.1
  have hb := hC.2.1
  have hown := hC.2.2.2.1
  have hts := hC.2.2.2.2.1
  unfold fX2_give_29 at hF
  obtain ⟨r1, σ2, hq, hF⟩ := rp_bd_e hF
  refine rp_ki (rp_runN (n := 1) (rest := []) hC (xE_ok _) hw hl.1 (mX6_heldRue (l := l) t0 σ _ hq) hC.2.2.2.2.2.2.2.2.2.1.1 wd_386 wd_1 wd_387 ⟨by decide, by decide, by decide +kernel⟩ (by decide) rfl rfl (Nat.le_of_ble_eq_true rfl) (by decide) dX2_give_29) hw (fun H locs hw => ?_)
  clear hq
  exact rp_reti (pc := 32) hC hw hF dX2_give_32
def fX2_give (g0 : Nat) (v1 : Int32) (v2 : Int32) (v3 : Int32) (σ : rp_St) : Option (Int32 × rp_St) :=
  (if (σ (28 + 3 * g0) 0) = 0 then (if (σ (28 + 3 * g0) 1) = 0 then fX2_give_29 g0 ((v1 + v2) / 2) σ else rp_bd (fX2_work g0 v1 v2 v3 σ) (fun r3 σ4 => fX2_give_29 g0 r3 σ4)) else (if (σ (28 + 3 * g0) 1) = 0 then some (1, σ) else rp_bd (fX2_work g0 v1 v2 v3 σ) (fun r1 σ2 => some ((if 0 < (if 1 < r1 then 1 else r1) then (if 1 < r1 then 1 else r1) else 0), σ2))))
set_option maxRecDepth 100000 in
set_option maxHeartbeats 4000000 in
theorem kX2_give_0 {p : Program} {l : Launch} {e : Env} {s : State} {m : MethodId} {args : Array Value} {below : List Frame} {meth : Method} {c : Code} {D : va_G} {cI cB cS : ClassId} {a : Nat → Nat} {res : Int32 × rp_St} (g0 : Nat) (h_g0 : g0 < 4) (hC : xC p s m args meth c cX2_give 4 "RegretPegs$Law" (some .int) D cI cB cS a) (v1 : Int32) (v2 : Int32) (v3 : Int32) (σ : rp_St) (H : Heap) (locs : List Loc) (ls : Array Slot) (hF : fX2_give g0 v1 v2 v3 σ = some res) (hw : xW D cI cB cS a s σ H locs) (hl : lv_has ls 4 [(0, .ref (a (28 + 3 * g0))), (1, .int v1), (2, .int v2), (3, .int v3)]) : W p l e (rp_rm 3) s m args below meth c H locs 0 0 (MQ below (rp_Qi D a (xt cI cB cS a) 62 res) args s 0 0 (rp_A a 62)) (F0 m 0 ls []) := by
  have hx := hC.1
  have hb := hC.2.1
  have hown := hC.2.2.2.1
  have hts := hC.2.2.2.2.1
  unfold fX2_give at hF
  refine lv_aload_n (pc := 0) hx hb dX2_give_0 rfl (lv_at hl 0 rfl) ?_
  refine rp_get (pc := 1) hC hw (28 + 3 * g0) (by omega) ((xt_law (i := g0) (by omega)) _) fl_X2_22 (.int (σ (28 + 3 * g0) 0)) rfl dX2_give_1 ?_
  refine lv_if_ne (pc := 4) (tgt := 33) hx hb dX2_give_4 (by decide) (fun hc => ?_) (fun hc => ?_)
  · replace hF := rp_if hc hF
    refine lv_aload_n (pc := 33) hx hb dX2_give_33 rfl (lv_at hl 0 rfl) ?_
    refine rp_get (pc := 34) hC hw (28 + 3 * g0) (by omega) ((xt_law (i := g0) (by omega)) _) fl_X2_9 (.int (σ (28 + 3 * g0) 1)) rfl dX2_give_34 ?_
    refine lv_if_ne (pc := 37) (tgt := 44) hx hb dX2_give_37 (by decide) (fun hc => ?_) (fun hc => ?_)
    · replace hF := rp_if hc hF
      refine lv_iconst (pc := 44) (v := 0) hx hb dX2_give_44 (by decide) ?_
      refine lv_aload_n (pc := 45) hx hb dX2_give_45 rfl (lv_at hl 0 rfl) ?_
      refine lv_iload_n (pc := 46) hx hb dX2_give_46 rfl (lv_at hl 1 rfl) ?_
      refine lv_iload_n (pc := 47) hx hb dX2_give_47 rfl (lv_at hl 2 rfl) ?_
      refine lv_iload_n (pc := 48) hx hb dX2_give_48 rfl (lv_at hl 3 rfl) ?_
      obtain ⟨r1, σ2, hq, hF⟩ := rp_bd_e hF
      refine rp_ki (rp_runV (rest := [.int 0]) hC (xE_ok _) hw hl.1 (mX2_work (l := l) g0 (by omega) v1 v2 v3 σ _ hq) vw_X2_37 (by omega) ((xt_law (i := g0) (by omega)) _) rfl rfl rfl (Nat.le_of_ble_eq_true rfl) (by decide) dX2_give_49) hw (fun H locs hw => ?_)
      clear hq
      refine lv_iconst (pc := 52) (v := 1) hx hb dX2_give_52 (by decide) ?_
      refine rp_min (pc := 53) hC hl.1 wd_366 wd_314 wd_9 wd_315 (Nat.le_of_ble_eq_true rfl) (by omega) dX2_give_53 ?_
      refine rp_max (pc := 56) hC hl.1 wd_392 wd_390 wd_9 wd_391 (Nat.le_of_ble_eq_true rfl) (by omega) dX2_give_56 ?_
      exact rp_reti (pc := 59) hC hw hF dX2_give_59
    · replace hF := rp_it hc hF
      refine lv_iconst (pc := 40) (v := 1) hx hb dX2_give_40 (by decide) ?_
      refine lv_goto (pc := 41) (tgt := 59) hx hb dX2_give_41 (by decide) ?_
      exact rp_reti (pc := 59) hC hw hF dX2_give_59
  · replace hF := rp_it hc hF
    refine lv_aload_n (pc := 7) hx hb dX2_give_7 rfl (lv_at hl 0 rfl) ?_
    refine rp_get (pc := 8) hC hw (28 + 3 * g0) (by omega) ((xt_law (i := g0) (by omega)) _) fl_X2_9 (.int (σ (28 + 3 * g0) 1)) rfl dX2_give_8 ?_
    refine lv_if_ne (pc := 11) (tgt := 22) hx hb dX2_give_11 (by decide) (fun hc => ?_) (fun hc => ?_)
    · replace hF := rp_if hc hF
      refine lv_aload_n (pc := 22) hx hb dX2_give_22 rfl (lv_at hl 0 rfl) ?_
      refine lv_iload_n (pc := 23) hx hb dX2_give_23 rfl (lv_at hl 1 rfl) ?_
      refine lv_iload_n (pc := 24) hx hb dX2_give_24 rfl (lv_at hl 2 rfl) ?_
      refine lv_iload_n (pc := 25) hx hb dX2_give_25 rfl (lv_at hl 3 rfl) ?_
      obtain ⟨r3, σ4, hq, hF⟩ := rp_bd_e hF
      refine rp_ki (rp_runV (rest := []) hC (xE_ok _) hw hl.1 (mX2_work (l := l) g0 (by omega) v1 v2 v3 σ _ hq) vw_X2_37 (by omega) ((xt_law (i := g0) (by omega)) _) rfl rfl rfl (Nat.le_of_ble_eq_true rfl) (by decide) dX2_give_26) hw (fun H locs hw => ?_)
      clear hq
      exact kX2_give_29 g0 h_g0 hC r3 σ4 _ _ _ hF hw (lv_sub hl [] rfl)
    · replace hF := rp_it hc hF
      refine lv_iload_n (pc := 14) hx hb dX2_give_14 rfl (lv_at hl 1 rfl) ?_
      refine lv_iload_n (pc := 15) hx hb dX2_give_15 rfl (lv_at hl 2 rfl) ?_
      refine lv_iadd (pc := 16) hx hb dX2_give_16 ?_
      refine lv_iconst (pc := 17) (v := 2) hx hb dX2_give_17 (by decide) ?_
      refine lv_idiv (pc := 18) hx hb dX2_give_18 (by decide) ?_
      refine lv_goto (pc := 19) (tgt := 29) hx hb dX2_give_19 (by decide) ?_
      exact kX2_give_29 g0 h_g0 hC ((v1 + v2) / 2) σ _ _ _ hF hw (lv_sub hl [] rfl)
theorem mX2_give {l : Launch} {D : va_G} {cI cB cS : ClassId} {a : Nat → Nat} (g0 : Nat) (h_g0 : g0 < 4) (v1 : Int32) (v2 : Int32) (v3 : Int32) (σ : rp_St) (res : Int32 × rp_St) (hF : fX2_give g0 v1 v2 v3 σ = some res) : xM l D cI cB cS a yX2_give cX2_give 4 (some .int) 3 [.ref (a (28 + 3 * g0)), .int v1, .int v2, .int v3] σ (rp_Qi D a (xt cI cB cS a) 62 res) :=
  rp_entry (by decide) (Nat.le_of_ble_eq_true rfl) (fun p e s m below meth c ls hC hw hl => kX2_give_0 g0 h_g0 hC v1 v2 v3 σ _ _ _ hF hw (lv_sub hl [0, 1, 2, 3] rfl))
def fX6_law (v1 : Int32) (v2 : Int32) (v3 : Int32) (v4 : Int32) (σ : rp_St) : Option (Int32 × rp_St) :=
  rp_bd (fX6_isWithin v1 0 1 σ) (fun r1 σ2 => (if r1 = 0 then rp_bd (fX6_refuse 1 σ2) (fun r3 σ4 => some (r3, σ4)) else rp_bd (fX6_useLaw v1 σ2) (fun r5 σ6 => rp_gu (decide (r5 < 4)) (rp_bd (fX2_give r5 v2 v3 v4 σ6) (fun r7 σ8 => some (r7, σ8))))))
set_option maxRecDepth 100000 in
set_option maxHeartbeats 4000000 in
theorem kX6_law_0 {p : Program} {l : Launch} {e : Env} {s : State} {m : MethodId} {args : Array Value} {below : List Frame} {meth : Method} {c : Code} {D : va_G} {cI cB cS : ClassId} {a : Nat → Nat} {res : Int32 × rp_St} (hC : xC p s m args meth c cX6_law 5 "RegretPegs" (some .int) D cI cB cS a) (v1 : Int32) (v2 : Int32) (v3 : Int32) (v4 : Int32) (σ : rp_St) (H : Heap) (locs : List Loc) (ls : Array Slot) (hF : fX6_law v1 v2 v3 v4 σ = some res) (hw : xW D cI cB cS a s σ H locs) (hl : lv_has ls 5 [(0, .ref (a 54)), (1, .int v1), (2, .int v2), (3, .int v3), (4, .int v4)]) : W p l e (rp_rm 4) s m args below meth c H locs 0 0 (MQ below (rp_Qi D a (xt cI cB cS a) 62 res) args s 0 0 (rp_A a 62)) (F0 m 0 ls []) := by
  have hx := hC.1
  have hb := hC.2.1
  have hown := hC.2.2.2.1
  have hts := hC.2.2.2.2.1
  unfold fX6_law at hF
  refine lv_iload_n (pc := 0) hx hb dX6_law_0 rfl (lv_at hl 1 rfl) ?_
  refine lv_iconst (pc := 1) (v := 0) hx hb dX6_law_1 (by decide) ?_
  refine lv_iconst (pc := 2) (v := 1) hx hb dX6_law_2 (by decide) ?_
  obtain ⟨r1, σ2, hq, hF⟩ := rp_bd_e hF
  refine rp_ki (rp_runZ (rest := []) hC (xE_ok _) hw hl.1 (mX6_isWithin (l := l) v1 0 1 σ _ hq) zw_X6_62 rfl rfl (Nat.le_of_ble_eq_true rfl) (by decide) dX6_law_3) hw (fun H locs hw => ?_)
  clear hq
  refine lv_if_eq (pc := 6) (tgt := 24) hx hb dX6_law_6 (by decide) (fun hc => ?_) (fun hc => ?_)
  · replace hF := rp_it hc hF
    refine lv_aload_n (pc := 24) hx hb dX6_law_24 rfl (lv_at hl 0 rfl) ?_
    refine lv_iconst (pc := 25) (v := 1) hx hb dX6_law_25 (by decide) ?_
    obtain ⟨r3, σ4, hq, hF⟩ := rp_bd_e hF
    refine rp_ki (rp_runV (rest := []) hC (xE_ok _) hw hl.1 (mX6_refuse (l := l) 1 σ2 _ hq) vw_X6_66 (by decide) (xt_reg _) rfl rfl rfl (Nat.le_of_ble_eq_true rfl) (by decide) dX6_law_26) hw (fun H locs hw => ?_)
    clear hq
    exact rp_reti (pc := 29) hC hw hF dX6_law_29
  · replace hF := rp_if hc hF
    refine lv_aload_n (pc := 9) hx hb dX6_law_9 rfl (lv_at hl 0 rfl) ?_
    refine lv_iload_n (pc := 10) hx hb dX6_law_10 rfl (lv_at hl 1 rfl) ?_
    obtain ⟨r5, σ6, hq, hF⟩ := rp_bd_e hF
    refine rp_kr (rp_runV (rest := []) hC (xE_ok _) hw hl.1 (mX6_useLaw (l := l) v1 σ2 _ hq) vw_X6_136 (by decide) (xt_reg _) rfl rfl rfl (Nat.le_of_ble_eq_true rfl) (by decide) dX6_law_11) hw (fun H locs hw => ?_)
    clear hq
    obtain ⟨hg, hF⟩ := rp_gu_e hF
    have h_r5 := of_decide_eq_true hg
    refine lv_iload_n (pc := 14) hx hb dX6_law_14 rfl (lv_at hl 2 rfl) ?_
    refine lv_iload_n (pc := 15) hx hb dX6_law_15 rfl (lv_at hl 3 rfl) ?_
    refine lv_iload (pc := 16) hx hb dX6_law_16 (lv_at hl 4 rfl) ?_
    obtain ⟨r7, σ8, hq, hF⟩ := rp_bd_e hF
    refine rp_ki (rp_runV (rest := []) hC (xE_ok _) hw hl.1 (mX2_give (l := l) r5 (by omega) v2 v3 v4 σ6 _ hq) vw_X6_150 (by omega) ((xt_law (i := r5) (by omega)) _) rfl rfl rfl (Nat.le_of_ble_eq_true rfl) (by decide) dX6_law_18) hw (fun H locs hw => ?_)
    clear hq
    refine lv_goto (pc := 21) (tgt := 29) hx hb dX6_law_21 (by decide) ?_
    exact rp_reti (pc := 29) hC hw hF dX6_law_29
theorem mX6_law {l : Launch} {D : va_G} {cI cB cS : ClassId} {a : Nat → Nat} (v1 : Int32) (v2 : Int32) (v3 : Int32) (v4 : Int32) (σ : rp_St) (res : Int32 × rp_St) (hF : fX6_law v1 v2 v3 v4 σ = some res) : xM l D cI cB cS a yX6_law cX6_law 5 (some .int) 4 [.ref (a 54), .int v1, .int v2, .int v3, .int v4] σ (rp_Qi D a (xt cI cB cS a) 62 res) :=
  rp_entry (by decide) (Nat.le_of_ble_eq_true rfl) (fun p e s m below meth c ls hC hw hl => kX6_law_0 hC v1 v2 v3 v4 σ _ _ _ hF hw (lv_sub hl [0, 1, 2, 3, 4] rfl))
def fX0_noteDanced (g0 : Nat) (v1 : Int32) (σ : rp_St) : Option (Int32 × rp_St) :=
  rp_gu (rp_in v1 7) (rp_gu (rp_in v1 7) (rp_nm (rp_put σ (7 * g0 + 4) (v1 : Int32).toNatClampNeg (if 999 < ((σ (7 * g0 + 4) (v1 : Int32).toNatClampNeg) + 1) then 999 else ((σ (7 * g0 + 4) (v1 : Int32).toNatClampNeg) + 1))) (fun σ1 => rp_gu (rp_in v1 7) (rp_nm (rp_put σ1 (7 * g0 + 5) (v1 : Int32).toNatClampNeg 0) (fun σ2 => some (0, σ2))))))
set_option maxRecDepth 100000 in
set_option maxHeartbeats 4000000 in
theorem kX0_noteDanced_0 {p : Program} {l : Launch} {e : Env} {s : State} {m : MethodId} {args : Array Value} {below : List Frame} {meth : Method} {c : Code} {D : va_G} {cI cB cS : ClassId} {a : Nat → Nat} {res : Int32 × rp_St} (g0 : Nat) (h_g0 : g0 < 4) (hC : xC p s m args meth c cX0_noteDanced 2 "RegretPegs$Ball" none D cI cB cS a) (v1 : Int32) (σ : rp_St) (H : Heap) (locs : List Loc) (ls : Array Slot) (hF : fX0_noteDanced g0 v1 σ = some res) (hw : xW D cI cB cS a s σ H locs) (hl : lv_has ls 2 [(0, .ref (a (7 * g0))), (1, .int v1)]) : W p l e (rp_rm 1) s m args below meth c H locs 0 0 (MQ below (rp_Qv D a (xt cI cB cS a) 62 res) args s 0 0 (rp_A a 62)) (F0 m 0 ls []) := by
  have hx := hC.1
  have hb := hC.2.1
  have hown := hC.2.2.2.1
  have hts := hC.2.2.2.2.1
  unfold fX0_noteDanced at hF
  refine lv_aload_n (pc := 0) hx hb dX0_noteDanced_0 rfl (lv_at hl 0 rfl) ?_
  refine rp_get (pc := 1) hC hw (7 * g0) (by omega) ((xt_ball (b := g0) (by omega)) _) fl_X0_25 (.ref (a (7 * g0 + 4))) rfl dX0_noteDanced_1 ?_
  refine lv_iload_n (pc := 4) hx hb dX0_noteDanced_4 rfl (lv_at hl 1 rfl) ?_
  refine lv_aload_n (pc := 5) hx hb dX0_noteDanced_5 rfl (lv_at hl 0 rfl) ?_
  refine rp_get (pc := 6) hC hw (7 * g0) (by omega) ((xt_ball (b := g0) (by omega)) _) fl_X0_25 (.ref (a (7 * g0 + 4))) rfl dX0_noteDanced_6 ?_
  refine lv_iload_n (pc := 9) hx hb dX0_noteDanced_9 rfl (lv_at hl 1 rfl) ?_
  obtain ⟨hg, hF⟩ := rp_gu_e hF
  refine rp_ald (pc := 10) hC hw (7 * g0 + 4) (by omega) (xt_bar (b := g0) (by omega) 4 ⟨by decide, by decide⟩) 0 rfl hg dX0_noteDanced_10 ?_
  refine lv_iconst (pc := 11) (v := 1) hx hb dX0_noteDanced_11 (by decide) ?_
  refine lv_iadd (pc := 12) hx hb dX0_noteDanced_12 ?_
  refine lv_sipush (pc := 13) (v := 999) hx hb dX0_noteDanced_13 (by decide) ?_
  refine rp_min (pc := 16) hC hl.1 wd_406 wd_314 wd_9 wd_315 (Nat.le_of_ble_eq_true rfl) (by omega) dX0_noteDanced_16 ?_
  obtain ⟨hg, hF⟩ := rp_gu_e hF
  refine rp_ast (pc := 19) hC hw (7 * g0 + 4) (by omega) (xt_bar (b := g0) (by omega) 4 ⟨by decide, by decide⟩) 0 rfl hg dX0_noteDanced_19 (fun H locs hw => ?_)
  obtain ⟨σ1, eσ1, hF⟩ := rp_nm_e hF
  replace hw := rp_Wn eσ1 hw
  clear eσ1
  refine lv_aload_n (pc := 20) hx hb dX0_noteDanced_20 rfl (lv_at hl 0 rfl) ?_
  refine rp_get (pc := 21) hC hw (7 * g0) (by omega) ((xt_ball (b := g0) (by omega)) _) fl_X0_28 (.ref (a (7 * g0 + 5))) rfl dX0_noteDanced_21 ?_
  refine lv_iload_n (pc := 24) hx hb dX0_noteDanced_24 rfl (lv_at hl 1 rfl) ?_
  refine lv_iconst (pc := 25) (v := 0) hx hb dX0_noteDanced_25 (by decide) ?_
  obtain ⟨hg, hF⟩ := rp_gu_e hF
  refine rp_ast (pc := 26) hC hw (7 * g0 + 5) (by omega) (xt_bar (b := g0) (by omega) 5 ⟨by decide, by decide⟩) 0 rfl hg dX0_noteDanced_26 (fun H locs hw => ?_)
  obtain ⟨σ2, eσ2, hF⟩ := rp_nm_e hF
  replace hw := rp_Wn eσ2 hw
  clear eσ2
  exact rp_retv (pc := 27) hC hw hF dX0_noteDanced_27
theorem mX0_noteDanced {l : Launch} {D : va_G} {cI cB cS : ClassId} {a : Nat → Nat} (g0 : Nat) (h_g0 : g0 < 4) (v1 : Int32) (σ : rp_St) (res : Int32 × rp_St) (hF : fX0_noteDanced g0 v1 σ = some res) : xM l D cI cB cS a yX0_noteDanced cX0_noteDanced 2 none 1 [.ref (a (7 * g0)), .int v1] σ (rp_Qv D a (xt cI cB cS a) 62 res) :=
  rp_entry (by decide) (Nat.le_of_ble_eq_true rfl) (fun p e s m below meth c ls hC hw hl => kX0_noteDanced_0 g0 h_g0 hC v1 σ _ _ _ hF hw (lv_sub hl [0, 1] rfl))
def fX0_pairUp (g0 : Nat) (g3 : Nat) (v1 : Int32) (v2 : Int32) (σ : rp_St) : Option (Int32 × rp_St) :=
  rp_gu (rp_in v1 7) (rp_gu (rp_in v2 7) (rp_gu (rp_in v1 7) (rp_bd (fX2_give g3 (σ (7 * g0 + 3) (v1 : Int32).toNatClampNeg) (σ (7 * g0 + 3) (v2 : Int32).toNatClampNeg) (σ (7 * g0 + 2) (v1 : Int32).toNatClampNeg) σ) (fun r1 σ2 => rp_gu (rp_in v2 7) (rp_gu (rp_in v1 7) (rp_gu (rp_in v2 7) (rp_bd (fX2_give g3 (σ2 (7 * g0 + 3) (v2 : Int32).toNatClampNeg) (σ2 (7 * g0 + 3) (v1 : Int32).toNatClampNeg) (σ2 (7 * g0 + 2) (v2 : Int32).toNatClampNeg) σ2) (fun r3 σ4 => rp_gu (rp_in v2 7) (rp_nm (rp_put σ4 (7 * g0 + 3) (v2 : Int32).toNatClampNeg r3) (fun σ5 => rp_gu (rp_in v1 7) (rp_nm (rp_put σ5 (7 * g0 + 3) (v1 : Int32).toNatClampNeg r1) (fun σ6 => rp_bd (fX0_noteDanced g0 v1 σ6) (fun _ σ8 => rp_bd (fX0_noteDanced g0 v2 σ8) (fun _ σ10 => some (0, σ10)))))))))))))))
set_option maxRecDepth 100000 in
set_option maxHeartbeats 4000000 in
theorem kX0_pairUp_0 {p : Program} {l : Launch} {e : Env} {s : State} {m : MethodId} {args : Array Value} {below : List Frame} {meth : Method} {c : Code} {D : va_G} {cI cB cS : ClassId} {a : Nat → Nat} {res : Int32 × rp_St} (g0 : Nat) (h_g0 : g0 < 4) (g3 : Nat) (h_g3 : g3 < 4) (hC : xC p s m args meth c cX0_pairUp 5 "RegretPegs$Ball" none D cI cB cS a) (v1 : Int32) (v2 : Int32) (σ : rp_St) (H : Heap) (locs : List Loc) (ls : Array Slot) (hF : fX0_pairUp g0 g3 v1 v2 σ = some res) (hw : xW D cI cB cS a s σ H locs) (hl : lv_has ls 5 [(0, .ref (a (7 * g0))), (1, .int v1), (2, .int v2), (3, .ref (a (28 + 3 * g3)))]) : W p l e (rp_rm 4) s m args below meth c H locs 0 0 (MQ below (rp_Qv D a (xt cI cB cS a) 62 res) args s 0 0 (rp_A a 62)) (F0 m 0 ls []) := by
  have hx := hC.1
  have hb := hC.2.1
  have hown := hC.2.2.2.1
  have hts := hC.2.2.2.2.1
  unfold fX0_pairUp at hF
  refine lv_aload_n (pc := 0) hx hb dX0_pairUp_0 rfl (lv_at hl 3 rfl) ?_
  refine lv_aload_n (pc := 1) hx hb dX0_pairUp_1 rfl (lv_at hl 0 rfl) ?_
  refine rp_get (pc := 2) hC hw (7 * g0) (by omega) ((xt_ball (b := g0) (by omega)) _) fl_X0_22 (.ref (a (7 * g0 + 3))) rfl dX0_pairUp_2 ?_
  refine lv_iload_n (pc := 5) hx hb dX0_pairUp_5 rfl (lv_at hl 1 rfl) ?_
  obtain ⟨hg, hF⟩ := rp_gu_e hF
  refine rp_ald (pc := 6) hC hw (7 * g0 + 3) (by omega) (xt_bar (b := g0) (by omega) 3 ⟨by decide, by decide⟩) 0 rfl hg dX0_pairUp_6 ?_
  refine lv_aload_n (pc := 7) hx hb dX0_pairUp_7 rfl (lv_at hl 0 rfl) ?_
  refine rp_get (pc := 8) hC hw (7 * g0) (by omega) ((xt_ball (b := g0) (by omega)) _) fl_X0_22 (.ref (a (7 * g0 + 3))) rfl dX0_pairUp_8 ?_
  refine lv_iload_n (pc := 11) hx hb dX0_pairUp_11 rfl (lv_at hl 2 rfl) ?_
  obtain ⟨hg, hF⟩ := rp_gu_e hF
  refine rp_ald (pc := 12) hC hw (7 * g0 + 3) (by omega) (xt_bar (b := g0) (by omega) 3 ⟨by decide, by decide⟩) 0 rfl hg dX0_pairUp_12 ?_
  refine lv_aload_n (pc := 13) hx hb dX0_pairUp_13 rfl (lv_at hl 0 rfl) ?_
  refine rp_get (pc := 14) hC hw (7 * g0) (by omega) ((xt_ball (b := g0) (by omega)) _) fl_X0_19 (.ref (a (7 * g0 + 2))) rfl dX0_pairUp_14 ?_
  refine lv_iload_n (pc := 17) hx hb dX0_pairUp_17 rfl (lv_at hl 1 rfl) ?_
  obtain ⟨hg, hF⟩ := rp_gu_e hF
  refine rp_ald (pc := 18) hC hw (7 * g0 + 2) (by omega) (xt_bar (b := g0) (by omega) 2 ⟨by decide, by decide⟩) 0 rfl hg dX0_pairUp_18 ?_
  obtain ⟨r1, σ2, hq, hF⟩ := rp_bd_e hF
  refine rp_ki (rp_runV (rest := []) hC (xE_ok _) hw hl.1 (mX2_give (l := l) g3 (by omega) (σ (7 * g0 + 3) (v1 : Int32).toNatClampNeg) (σ (7 * g0 + 3) (v2 : Int32).toNatClampNeg) (σ (7 * g0 + 2) (v1 : Int32).toNatClampNeg) σ _ hq) vw_X0_40 (by omega) ((xt_law (i := g3) (by omega)) _) rfl rfl rfl (Nat.le_of_ble_eq_true rfl) (by decide) dX0_pairUp_19) hw (fun H locs hw => ?_)
  clear hq
  refine lv_istore (pc := 22) (lv' := [(4, .int r1), (0, .ref (a (7 * g0))), (1, .int v1), (2, .int v2), (3, .ref (a (28 + 3 * g3)))]) hx hb dX0_pairUp_22 hl (by decide) rfl (fun ls hl => ?_)
  refine lv_aload_n (pc := 24) hx hb dX0_pairUp_24 rfl (lv_at hl 1 rfl) ?_
  refine rp_get (pc := 25) hC hw (7 * g0) (by omega) ((xt_ball (b := g0) (by omega)) _) fl_X0_22 (.ref (a (7 * g0 + 3))) rfl dX0_pairUp_25 ?_
  refine lv_iload_n (pc := 28) hx hb dX0_pairUp_28 rfl (lv_at hl 3 rfl) ?_
  refine lv_aload_n (pc := 29) hx hb dX0_pairUp_29 rfl (lv_at hl 4 rfl) ?_
  refine lv_aload_n (pc := 30) hx hb dX0_pairUp_30 rfl (lv_at hl 1 rfl) ?_
  refine rp_get (pc := 31) hC hw (7 * g0) (by omega) ((xt_ball (b := g0) (by omega)) _) fl_X0_22 (.ref (a (7 * g0 + 3))) rfl dX0_pairUp_31 ?_
  refine lv_iload_n (pc := 34) hx hb dX0_pairUp_34 rfl (lv_at hl 3 rfl) ?_
  obtain ⟨hg, hF⟩ := rp_gu_e hF
  refine rp_ald (pc := 35) hC hw (7 * g0 + 3) (by omega) (xt_bar (b := g0) (by omega) 3 ⟨by decide, by decide⟩) 0 rfl hg dX0_pairUp_35 ?_
  refine lv_aload_n (pc := 36) hx hb dX0_pairUp_36 rfl (lv_at hl 1 rfl) ?_
  refine rp_get (pc := 37) hC hw (7 * g0) (by omega) ((xt_ball (b := g0) (by omega)) _) fl_X0_22 (.ref (a (7 * g0 + 3))) rfl dX0_pairUp_37 ?_
  refine lv_iload_n (pc := 40) hx hb dX0_pairUp_40 rfl (lv_at hl 2 rfl) ?_
  obtain ⟨hg, hF⟩ := rp_gu_e hF
  refine rp_ald (pc := 41) hC hw (7 * g0 + 3) (by omega) (xt_bar (b := g0) (by omega) 3 ⟨by decide, by decide⟩) 0 rfl hg dX0_pairUp_41 ?_
  refine lv_aload_n (pc := 42) hx hb dX0_pairUp_42 rfl (lv_at hl 1 rfl) ?_
  refine rp_get (pc := 43) hC hw (7 * g0) (by omega) ((xt_ball (b := g0) (by omega)) _) fl_X0_19 (.ref (a (7 * g0 + 2))) rfl dX0_pairUp_43 ?_
  refine lv_iload_n (pc := 46) hx hb dX0_pairUp_46 rfl (lv_at hl 3 rfl) ?_
  obtain ⟨hg, hF⟩ := rp_gu_e hF
  refine rp_ald (pc := 47) hC hw (7 * g0 + 2) (by omega) (xt_bar (b := g0) (by omega) 2 ⟨by decide, by decide⟩) 0 rfl hg dX0_pairUp_47 ?_
  obtain ⟨r3, σ4, hq, hF⟩ := rp_bd_e hF
  refine rp_ki (rp_runV (rest := [.int v2, .ref (a (7 * g0 + 3))]) hC (xE_ok _) hw hl.1 (mX2_give (l := l) g3 (by omega) (σ2 (7 * g0 + 3) (v2 : Int32).toNatClampNeg) (σ2 (7 * g0 + 3) (v1 : Int32).toNatClampNeg) (σ2 (7 * g0 + 2) (v2 : Int32).toNatClampNeg) σ2 _ hq) vw_X0_40 (by omega) ((xt_law (i := g3) (by omega)) _) rfl rfl rfl (Nat.le_of_ble_eq_true rfl) (by decide) dX0_pairUp_48) hw (fun H locs hw => ?_)
  clear hq
  obtain ⟨hg, hF⟩ := rp_gu_e hF
  refine rp_ast (pc := 51) hC hw (7 * g0 + 3) (by omega) (xt_bar (b := g0) (by omega) 3 ⟨by decide, by decide⟩) 0 rfl hg dX0_pairUp_51 (fun H locs hw => ?_)
  obtain ⟨σ5, eσ5, hF⟩ := rp_nm_e hF
  replace hw := rp_Wn eσ5 hw
  clear eσ5
  refine lv_aload_n (pc := 52) hx hb dX0_pairUp_52 rfl (lv_at hl 1 rfl) ?_
  refine rp_get (pc := 53) hC hw (7 * g0) (by omega) ((xt_ball (b := g0) (by omega)) _) fl_X0_22 (.ref (a (7 * g0 + 3))) rfl dX0_pairUp_53 ?_
  refine lv_iload_n (pc := 56) hx hb dX0_pairUp_56 rfl (lv_at hl 2 rfl) ?_
  refine lv_iload (pc := 57) hx hb dX0_pairUp_57 (lv_at hl 0 rfl) ?_
  obtain ⟨hg, hF⟩ := rp_gu_e hF
  refine rp_ast (pc := 59) hC hw (7 * g0 + 3) (by omega) (xt_bar (b := g0) (by omega) 3 ⟨by decide, by decide⟩) 0 rfl hg dX0_pairUp_59 (fun H locs hw => ?_)
  obtain ⟨σ6, eσ6, hF⟩ := rp_nm_e hF
  replace hw := rp_Wn eσ6 hw
  clear eσ6
  refine lv_aload_n (pc := 60) hx hb dX0_pairUp_60 rfl (lv_at hl 1 rfl) ?_
  refine lv_iload_n (pc := 61) hx hb dX0_pairUp_61 rfl (lv_at hl 2 rfl) ?_
  obtain ⟨r7, σ8, hq, hF⟩ := rp_bd_e hF
  refine rp_kv (rp_runV (rest := []) hC (xE_ok _) hw hl.1 (mX0_noteDanced (l := l) g0 (by omega) v1 σ6 _ hq) vw_X0_46 (by omega) ((xt_ball (b := g0) (by omega)) _) rfl rfl rfl (Nat.le_of_ble_eq_true rfl) (by decide) dX0_pairUp_62) hw (fun H locs hw => ?_)
  clear hq
  refine lv_aload_n (pc := 65) hx hb dX0_pairUp_65 rfl (lv_at hl 1 rfl) ?_
  refine lv_iload_n (pc := 66) hx hb dX0_pairUp_66 rfl (lv_at hl 3 rfl) ?_
  obtain ⟨r9, σ10, hq, hF⟩ := rp_bd_e hF
  refine rp_kv (rp_runV (rest := []) hC (xE_ok _) hw hl.1 (mX0_noteDanced (l := l) g0 (by omega) v2 σ8 _ hq) vw_X0_46 (by omega) ((xt_ball (b := g0) (by omega)) _) rfl rfl rfl (Nat.le_of_ble_eq_true rfl) (by decide) dX0_pairUp_67) hw (fun H locs hw => ?_)
  clear hq
  exact rp_retv (pc := 70) hC hw hF dX0_pairUp_70
theorem mX0_pairUp {l : Launch} {D : va_G} {cI cB cS : ClassId} {a : Nat → Nat} (g0 : Nat) (h_g0 : g0 < 4) (g3 : Nat) (h_g3 : g3 < 4) (v1 : Int32) (v2 : Int32) (σ : rp_St) (res : Int32 × rp_St) (hF : fX0_pairUp g0 g3 v1 v2 σ = some res) : xM l D cI cB cS a yX0_pairUp cX0_pairUp 5 none 4 [.ref (a (7 * g0)), .int v1, .int v2, .ref (a (28 + 3 * g3))] σ (rp_Qv D a (xt cI cB cS a) 62 res) :=
  rp_entry (by decide) (Nat.le_of_ble_eq_true rfl) (fun p e s m below meth c ls hC hw hl => kX0_pairUp_0 g0 h_g0 g3 h_g3 hC v1 v2 σ _ _ _ hF hw (lv_sub hl [0, 1, 2, 3] rfl))
def fX6_dance_21 (σ : rp_St) : Option (Int32 × rp_St) :=
  rp_bd (fX6_refuse 1 σ) (fun r1 σ2 => some (r1, σ2))
set_option maxRecDepth 100000 in
set_option maxHeartbeats 4000000 in
theorem kX6_dance_21 {p : Program} {l : Launch} {e : Env} {s : State} {m : MethodId} {args : Array Value} {below : List Frame} {meth : Method} {c : Code} {D : va_G} {cI cB cS : ClassId} {a : Nat → Nat} {res : Int32 × rp_St} (hC : xC p s m args meth c cX6_dance 3 "RegretPegs" (some .int) D cI cB cS a) (σ : rp_St) (H : Heap) (locs : List Loc) (ls : Array Slot) (hF : fX6_dance_21 σ = some res) (hw : xW D cI cB cS a s σ H locs) (hl : lv_has ls 3 [(0, .ref (a 54))]) : W p l e (rp_rm 5) s m args below meth c H locs 0 0 (MQ below (rp_Qi D a (xt cI cB cS a) 62 res) args s 0 0 (rp_A a 62)) (F0 m 21 ls []) := by
  have hx := hC.1
  have hb := hC.2.1
  have hown := hC.2.2.2.1
  have hts := hC.2.2.2.2.1
  unfold fX6_dance_21 at hF
  refine lv_aload_n (pc := 21) hx hb dX6_dance_21 rfl (lv_at hl 0 rfl) ?_
  refine lv_iconst (pc := 22) (v := 1) hx hb dX6_dance_22 (by decide) ?_
  obtain ⟨r1, σ2, hq, hF⟩ := rp_bd_e hF
  refine rp_ki (rp_runV (rest := []) hC (xE_ok _) hw hl.1 (mX6_refuse (l := l) 1 σ _ hq) vw_X6_66 (by decide) (xt_reg _) rfl rfl rfl (Nat.le_of_ble_eq_true rfl) (by decide) dX6_dance_23) hw (fun H locs hw => ?_)
  clear hq
  exact rp_reti (pc := 26) hC hw hF dX6_dance_26
def fX6_dance_57 (σ : rp_St) : Option (Int32 × rp_St) :=
  rp_bd (fX6_refuse 3 σ) (fun r1 σ2 => some (r1, σ2))
set_option maxRecDepth 100000 in
set_option maxHeartbeats 4000000 in
theorem kX6_dance_57 {p : Program} {l : Launch} {e : Env} {s : State} {m : MethodId} {args : Array Value} {below : List Frame} {meth : Method} {c : Code} {D : va_G} {cI cB cS : ClassId} {a : Nat → Nat} {res : Int32 × rp_St} (hC : xC p s m args meth c cX6_dance 3 "RegretPegs" (some .int) D cI cB cS a) (σ : rp_St) (H : Heap) (locs : List Loc) (ls : Array Slot) (hF : fX6_dance_57 σ = some res) (hw : xW D cI cB cS a s σ H locs) (hl : lv_has ls 3 [(0, .ref (a 54))]) : W p l e (rp_rm 5) s m args below meth c H locs 0 0 (MQ below (rp_Qi D a (xt cI cB cS a) 62 res) args s 0 0 (rp_A a 62)) (F0 m 57 ls []) := by
  have hx := hC.1
  have hb := hC.2.1
  have hown := hC.2.2.2.1
  have hts := hC.2.2.2.2.1
  unfold fX6_dance_57 at hF
  refine lv_aload_n (pc := 57) hx hb dX6_dance_57 rfl (lv_at hl 0 rfl) ?_
  refine lv_iconst (pc := 58) (v := 3) hx hb dX6_dance_58 (by decide) ?_
  obtain ⟨r1, σ2, hq, hF⟩ := rp_bd_e hF
  refine rp_ki (rp_runV (rest := []) hC (xE_ok _) hw hl.1 (mX6_refuse (l := l) 3 σ _ hq) vw_X6_66 (by decide) (xt_reg _) rfl rfl rfl (Nat.le_of_ble_eq_true rfl) (by decide) dX6_dance_59) hw (fun H locs hw => ?_)
  clear hq
  exact rp_reti (pc := 62) hC hw hF dX6_dance_62
def fX6_dance (v1 : Int32) (v2 : Int32) (σ : rp_St) : Option (Int32 × rp_St) :=
  rp_bd (fX6_isGuest v1 σ) (fun r1 σ2 => (if r1 = 0 then fX6_dance_21 σ2 else rp_bd (fX6_isGuest v2 σ2) (fun r3 σ4 => (if r3 = 0 then fX6_dance_21 σ4 else (if v1 = v2 then fX6_dance_21 σ4 else rp_gu (rp_in v1 7) ((if (σ4 5 (v1 : Int32).toNatClampNeg) = 0 then fX6_dance_57 σ4 else rp_gu (rp_in v2 7) ((if (σ4 5 (v2 : Int32).toNatClampNeg) = 0 then fX6_dance_57 σ4 else rp_bd (fX0_pairUp 0 0 v1 v2 σ4) (fun _ σ6 => rp_gu (rp_in v1 7) (some ((σ6 3 (v1 : Int32).toNatClampNeg), σ6))))))))))))
set_option maxRecDepth 100000 in
set_option maxHeartbeats 4000000 in
theorem kX6_dance_0 {p : Program} {l : Launch} {e : Env} {s : State} {m : MethodId} {args : Array Value} {below : List Frame} {meth : Method} {c : Code} {D : va_G} {cI cB cS : ClassId} {a : Nat → Nat} {res : Int32 × rp_St} (hC : xC p s m args meth c cX6_dance 3 "RegretPegs" (some .int) D cI cB cS a) (v1 : Int32) (v2 : Int32) (σ : rp_St) (H : Heap) (locs : List Loc) (ls : Array Slot) (hF : fX6_dance v1 v2 σ = some res) (hw : xW D cI cB cS a s σ H locs) (hl : lv_has ls 3 [(0, .ref (a 54)), (1, .int v1), (2, .int v2)]) : W p l e (rp_rm 5) s m args below meth c H locs 0 0 (MQ below (rp_Qi D a (xt cI cB cS a) 62 res) args s 0 0 (rp_A a 62)) (F0 m 0 ls []) := by
  have hx := hC.1
  have hb := hC.2.1
  have hown := hC.2.2.2.1
  have hts := hC.2.2.2.2.1
  unfold fX6_dance at hF
  refine lv_aload_n (pc := 0) hx hb dX6_dance_0 rfl (lv_at hl 0 rfl) ?_
  refine lv_iload_n (pc := 1) hx hb dX6_dance_1 rfl (lv_at hl 1 rfl) ?_
  obtain ⟨r1, σ2, hq, hF⟩ := rp_bd_e hF
  refine rp_ki (rp_runV (rest := []) hC (xE_ok _) hw hl.1 (mX6_isGuest (l := l) v1 σ _ hq) vw_X6_80 (by decide) (xt_reg _) rfl rfl rfl (Nat.le_of_ble_eq_true rfl) (by decide) dX6_dance_2) hw (fun H locs hw => ?_)
  clear hq
  refine lv_if_eq (pc := 5) (tgt := 21) hx hb dX6_dance_5 (by decide) (fun hc => ?_) (fun hc => ?_)
  · replace hF := rp_it hc hF
    exact kX6_dance_21 hC σ2 _ _ _ hF hw (lv_sub hl [0] rfl)
  · replace hF := rp_if hc hF
    refine lv_aload_n (pc := 8) hx hb dX6_dance_8 rfl (lv_at hl 0 rfl) ?_
    refine lv_iload_n (pc := 9) hx hb dX6_dance_9 rfl (lv_at hl 2 rfl) ?_
    obtain ⟨r3, σ4, hq, hF⟩ := rp_bd_e hF
    refine rp_ki (rp_runV (rest := []) hC (xE_ok _) hw hl.1 (mX6_isGuest (l := l) v2 σ2 _ hq) vw_X6_80 (by decide) (xt_reg _) rfl rfl rfl (Nat.le_of_ble_eq_true rfl) (by decide) dX6_dance_10) hw (fun H locs hw => ?_)
    clear hq
    refine lv_if_eq (pc := 13) (tgt := 21) hx hb dX6_dance_13 (by decide) (fun hc => ?_) (fun hc => ?_)
    · replace hF := rp_it hc hF
      exact kX6_dance_21 hC σ4 _ _ _ hF hw (lv_sub hl [0] rfl)
    · replace hF := rp_if hc hF
      refine lv_iload_n (pc := 16) hx hb dX6_dance_16 rfl (lv_at hl 1 rfl) ?_
      refine lv_iload_n (pc := 17) hx hb dX6_dance_17 rfl (lv_at hl 2 rfl) ?_
      refine lv_icmp_ne (pc := 18) (tgt := 27) hx hb dX6_dance_18 (by decide) (fun hc => ?_) (fun hc => ?_)
      · replace hF := rp_if hc hF
        refine lv_aload_n (pc := 27) hx hb dX6_dance_27 rfl (lv_at hl 0 rfl) ?_
        refine rp_get (pc := 28) hC hw 54 (by decide) (xt_reg _) fl_X6_10 (.ref (a 40)) rfl dX6_dance_28 ?_
        refine rp_get (pc := 31) hC hw 40 (by decide) ((xt_eve (i := 0) (by decide)) _) fl_X6_70 (.ref (a 0)) rfl dX6_dance_31 ?_
        refine rp_get (pc := 34) hC hw 0 (by decide) ((xt_ball (b := 0) (by decide)) _) fl_X6_95 (.ref (a 5)) rfl dX6_dance_34 ?_
        refine lv_iload_n (pc := 37) hx hb dX6_dance_37 rfl (lv_at hl 1 rfl) ?_
        obtain ⟨hg, hF⟩ := rp_gu_e hF
        refine rp_ald (pc := 38) hC hw 5 (by decide) (xt_bar (b := 0) (by decide) 5 ⟨by decide, by decide⟩) 0 rfl hg dX6_dance_38 ?_
        refine lv_if_eq (pc := 39) (tgt := 57) hx hb dX6_dance_39 (by decide) (fun hc => ?_) (fun hc => ?_)
        · replace hF := rp_it hc hF
          exact kX6_dance_57 hC σ4 _ _ _ hF hw (lv_sub hl [0] rfl)
        · replace hF := rp_if hc hF
          refine lv_aload_n (pc := 42) hx hb dX6_dance_42 rfl (lv_at hl 0 rfl) ?_
          refine rp_get (pc := 43) hC hw 54 (by decide) (xt_reg _) fl_X6_10 (.ref (a 40)) rfl dX6_dance_43 ?_
          refine rp_get (pc := 46) hC hw 40 (by decide) ((xt_eve (i := 0) (by decide)) _) fl_X6_70 (.ref (a 0)) rfl dX6_dance_46 ?_
          refine rp_get (pc := 49) hC hw 0 (by decide) ((xt_ball (b := 0) (by decide)) _) fl_X6_95 (.ref (a 5)) rfl dX6_dance_49 ?_
          refine lv_iload_n (pc := 52) hx hb dX6_dance_52 rfl (lv_at hl 2 rfl) ?_
          obtain ⟨hg, hF⟩ := rp_gu_e hF
          refine rp_ald (pc := 53) hC hw 5 (by decide) (xt_bar (b := 0) (by decide) 5 ⟨by decide, by decide⟩) 0 rfl hg dX6_dance_53 ?_
          refine lv_if_ne (pc := 54) (tgt := 63) hx hb dX6_dance_54 (by decide) (fun hc => ?_) (fun hc => ?_)
          · replace hF := rp_if hc hF
            refine lv_aload_n (pc := 63) hx hb dX6_dance_63 rfl (lv_at hl 0 rfl) ?_
            refine rp_get (pc := 64) hC hw 54 (by decide) (xt_reg _) fl_X6_10 (.ref (a 40)) rfl dX6_dance_64 ?_
            refine rp_get (pc := 67) hC hw 40 (by decide) ((xt_eve (i := 0) (by decide)) _) fl_X6_70 (.ref (a 0)) rfl dX6_dance_67 ?_
            refine lv_iload_n (pc := 70) hx hb dX6_dance_70 rfl (lv_at hl 1 rfl) ?_
            refine lv_iload_n (pc := 71) hx hb dX6_dance_71 rfl (lv_at hl 2 rfl) ?_
            refine lv_aload_n (pc := 72) hx hb dX6_dance_72 rfl (lv_at hl 0 rfl) ?_
            refine rp_get (pc := 73) hC hw 54 (by decide) (xt_reg _) fl_X6_10 (.ref (a 40)) rfl dX6_dance_73 ?_
            refine rp_get (pc := 76) hC hw 40 (by decide) ((xt_eve (i := 0) (by decide)) _) fl_X6_154 (.ref (a 28)) rfl dX6_dance_76 ?_
            obtain ⟨r5, σ6, hq, hF⟩ := rp_bd_e hF
            refine rp_kv (rp_runV (rest := []) hC (xE_ok _) hw hl.1 (mX0_pairUp (l := l) 0 (by decide) 0 (by decide) v1 v2 σ4 _ hq) vw_X6_158 (by decide) ((xt_ball (b := 0) (by decide)) _) rfl rfl rfl (Nat.le_of_ble_eq_true rfl) (by decide) dX6_dance_79) hw (fun H locs hw => ?_)
            clear hq
            refine lv_aload_n (pc := 82) hx hb dX6_dance_82 rfl (lv_at hl 0 rfl) ?_
            refine rp_get (pc := 83) hC hw 54 (by decide) (xt_reg _) fl_X6_10 (.ref (a 40)) rfl dX6_dance_83 ?_
            refine rp_get (pc := 86) hC hw 40 (by decide) ((xt_eve (i := 0) (by decide)) _) fl_X6_70 (.ref (a 0)) rfl dX6_dance_86 ?_
            refine rp_get (pc := 89) hC hw 0 (by decide) ((xt_ball (b := 0) (by decide)) _) fl_X6_89 (.ref (a 3)) rfl dX6_dance_89 ?_
            refine lv_iload_n (pc := 92) hx hb dX6_dance_92 rfl (lv_at hl 1 rfl) ?_
            obtain ⟨hg, hF⟩ := rp_gu_e hF
            refine rp_ald (pc := 93) hC hw 3 (by decide) (xt_bar (b := 0) (by decide) 3 ⟨by decide, by decide⟩) 0 rfl hg dX6_dance_93 ?_
            exact rp_reti (pc := 94) hC hw hF dX6_dance_94
          · replace hF := rp_it hc hF
            exact kX6_dance_57 hC σ4 _ _ _ hF hw (lv_sub hl [0] rfl)
      · replace hF := rp_it hc hF
        exact kX6_dance_21 hC σ4 _ _ _ hF hw (lv_sub hl [0] rfl)
theorem mX6_dance {l : Launch} {D : va_G} {cI cB cS : ClassId} {a : Nat → Nat} (v1 : Int32) (v2 : Int32) (σ : rp_St) (res : Int32 × rp_St) (hF : fX6_dance v1 v2 σ = some res) : xM l D cI cB cS a yX6_dance cX6_dance 3 (some .int) 5 [.ref (a 54), .int v1, .int v2] σ (rp_Qi D a (xt cI cB cS a) 62 res) :=
  rp_entry (by decide) (Nat.le_of_ble_eq_true rfl) (fun p e s m below meth c ls hC hw hl => kX6_dance_0 hC v1 v2 σ _ _ _ hF hw (lv_sub hl [0, 1, 2] rfl))
def fX0_growRue_47 (g0 : Nat) (k2 : Int32 → rp_St → Option (Int32 × rp_St)) (v1 : Int32) (v2 : Int32) (σ : rp_St) : Option (Int32 × rp_St) :=
  rp_gu (rp_in v2 7) (rp_nm (rp_put σ (7 * g0 + 5) (v2 : Int32).toNatClampNeg 1) (fun σ1 => rp_nm (v1 + 1) (fun x2 => k2 x2 σ1)))
set_option maxRecDepth 100000 in
set_option maxHeartbeats 4000000 in
theorem kX0_growRue_47 {p : Program} {l : Launch} {e : Env} {s : State} {m : MethodId} {args : Array Value} {below : List Frame} {meth : Method} {c : Code} {D : va_G} {cI cB cS : ClassId} {a : Nat → Nat} {res : Int32 × rp_St} (g0 : Nat) (h_g0 : g0 < 4) (hC : xC p s m args meth c cX0_growRue 3 "RegretPegs$Ball" none D cI cB cS a) (k2 : Int32 → rp_St → Option (Int32 × rp_St)) (hk2 : ∀ (v1 : Int32) (σ : rp_St) (H : Heap) (locs : List Loc) (ls : Array Slot), k2 v1 σ = some res → xW D cI cB cS a s σ H locs → lv_has ls 3 [(0, .ref (a (7 * g0))), (1, .int v1)] → W p l e (rp_rm 2) s m args below meth c H locs 0 0 (MQ below (rp_Qv D a (xt cI cB cS a) 62 res) args s 0 0 (rp_A a 62)) (F0 m 2 ls [])) (v1 : Int32) (v2 : Int32) (σ : rp_St) (H : Heap) (locs : List Loc) (ls : Array Slot) (hF : fX0_growRue_47 g0 k2 v1 v2 σ = some res) (hw : xW D cI cB cS a s σ H locs) (hl : lv_has ls 3 [(0, .ref (a (7 * g0))), (1, .int v1), (2, .int v2)]) : W p l e (rp_rm 2) s m args below meth c H locs 0 0 (MQ below (rp_Qv D a (xt cI cB cS a) 62 res) args s 0 0 (rp_A a 62)) (F0 m 47 ls []) := by
  have hx := hC.1
  have hb := hC.2.1
  have hown := hC.2.2.2.1
  have hts := hC.2.2.2.2.1
  unfold fX0_growRue_47 at hF
  refine lv_aload_n (pc := 47) hx hb dX0_growRue_47 rfl (lv_at hl 0 rfl) ?_
  refine rp_get (pc := 48) hC hw (7 * g0) (by omega) ((xt_ball (b := g0) (by omega)) _) fl_X0_28 (.ref (a (7 * g0 + 5))) rfl dX0_growRue_48 ?_
  refine lv_iload_n (pc := 51) hx hb dX0_growRue_51 rfl (lv_at hl 2 rfl) ?_
  refine lv_iconst (pc := 52) (v := 1) hx hb dX0_growRue_52 (by decide) ?_
  obtain ⟨hg, hF⟩ := rp_gu_e hF
  refine rp_ast (pc := 53) hC hw (7 * g0 + 5) (by omega) (xt_bar (b := g0) (by omega) 5 ⟨by decide, by decide⟩) 0 rfl hg dX0_growRue_53 (fun H locs hw => ?_)
  obtain ⟨σ1, eσ1, hF⟩ := rp_nm_e hF
  replace hw := rp_Wn eσ1 hw
  clear eσ1
  obtain ⟨x2, ex2, hF⟩ := rp_nm_e hF
  refine lv_iinc (pc := 54) (v := x2) (lv' := [(1, .int x2), (0, .ref (a (7 * g0))), (2, .int v2)]) hx hb dX0_growRue_54 hl (k := 1) rfl (by rw [ex2]; rfl) (by decide) rfl (fun ls hl => ?_)
  refine lv_goto (pc := 57) (tgt := 2) hx hb dX0_growRue_57 (by decide) ?_
  exact hk2 x2 σ1 _ _ _ hF hw (lv_sub hl [1, 0] rfl)
def fX0_growRue_2 (g0 : Nat) (k2 : Int32 → rp_St → Option (Int32 × rp_St)) (v1 : Int32) (σ : rp_St) : Option (Int32 × rp_St) :=
  (if (σ (7 * g0) 0) ≤ v1 then some (0, σ) else rp_gu (rp_in v1 7) (rp_nm (σ (7 * g0 + 6) (v1 : Int32).toNatClampNeg) (fun x1 => rp_gu (rp_in x1 7) ((if (σ (7 * g0 + 5) (x1 : Int32).toNatClampNeg) = 0 then fX0_growRue_47 g0 k2 v1 x1 σ else rp_gu (rp_in x1 7) (rp_bd (fX0_growsOn g0 v1 σ) (fun r2 σ3 => rp_bd (fX6_heldRue ((σ (7 * g0 + 3) (x1 : Int32).toNatClampNeg) + r2) σ3) (fun r4 σ5 => rp_gu (rp_in x1 7) (rp_nm (rp_put σ5 (7 * g0 + 3) (x1 : Int32).toNatClampNeg r4) (fun σ6 => fX0_growRue_47 g0 k2 v1 x1 σ6))))))))))
set_option maxRecDepth 100000 in
set_option maxHeartbeats 4000000 in
theorem kX0_growRue_2 {p : Program} {l : Launch} {e : Env} {s : State} {m : MethodId} {args : Array Value} {below : List Frame} {meth : Method} {c : Code} {D : va_G} {cI cB cS : ClassId} {a : Nat → Nat} {res : Int32 × rp_St} (g0 : Nat) (h_g0 : g0 < 4) (hC : xC p s m args meth c cX0_growRue 3 "RegretPegs$Ball" none D cI cB cS a) (k2 : Int32 → rp_St → Option (Int32 × rp_St)) (hk2 : ∀ (v1 : Int32) (σ : rp_St) (H : Heap) (locs : List Loc) (ls : Array Slot), k2 v1 σ = some res → xW D cI cB cS a s σ H locs → lv_has ls 3 [(0, .ref (a (7 * g0))), (1, .int v1)] → W p l e (rp_rm 2) s m args below meth c H locs 0 0 (MQ below (rp_Qv D a (xt cI cB cS a) 62 res) args s 0 0 (rp_A a 62)) (F0 m 2 ls [])) (v1 : Int32) (σ : rp_St) (H : Heap) (locs : List Loc) (ls : Array Slot) (hF : fX0_growRue_2 g0 k2 v1 σ = some res) (hw : xW D cI cB cS a s σ H locs) (hl : lv_has ls 3 [(0, .ref (a (7 * g0))), (1, .int v1)]) : W p l e (rp_rm 2) s m args below meth c H locs 0 0 (MQ below (rp_Qv D a (xt cI cB cS a) 62 res) args s 0 0 (rp_A a 62)) (F0 m 2 ls []) := by
  have hx := hC.1
  have hb := hC.2.1
  have hown := hC.2.2.2.1
  have hts := hC.2.2.2.2.1
  unfold fX0_growRue_2 at hF
  refine lv_iload_n (pc := 2) hx hb dX0_growRue_2 rfl (lv_at hl 1 rfl) ?_
  refine lv_aload_n (pc := 3) hx hb dX0_growRue_3 rfl (lv_at hl 0 rfl) ?_
  refine rp_get (pc := 4) hC hw (7 * g0) (by omega) ((xt_ball (b := g0) (by omega)) _) fl_X0_9 (.int (σ (7 * g0) 0)) rfl dX0_growRue_4 ?_
  refine lv_icmp_ge (pc := 7) (tgt := 60) hx hb dX0_growRue_7 (by decide) (fun hc => ?_) (fun hc => ?_)
  · replace hF := rp_it hc hF
    exact rp_retv (pc := 60) hC hw hF dX0_growRue_60
  · replace hF := rp_if hc hF
    refine lv_aload_n (pc := 10) hx hb dX0_growRue_10 rfl (lv_at hl 0 rfl) ?_
    refine rp_get (pc := 11) hC hw (7 * g0) (by omega) ((xt_ball (b := g0) (by omega)) _) fl_X0_31 (.ref (a (7 * g0 + 6))) rfl dX0_growRue_11 ?_
    refine lv_iload_n (pc := 14) hx hb dX0_growRue_14 rfl (lv_at hl 1 rfl) ?_
    obtain ⟨hg, hF⟩ := rp_gu_e hF
    refine rp_ald (pc := 15) hC hw (7 * g0 + 6) (by omega) (xt_bar (b := g0) (by omega) 6 ⟨by decide, by decide⟩) 0 rfl hg dX0_growRue_15 ?_
    obtain ⟨x1, ex1, hF⟩ := rp_nm_e hF
    refine rp_top ex1 ?_
    refine lv_istore_n (pc := 16) (lv' := [(2, .int x1), (0, .ref (a (7 * g0))), (1, .int v1)]) hx hb dX0_growRue_16 rfl hl (by decide) rfl (fun ls hl => ?_)
    refine lv_aload_n (pc := 17) hx hb dX0_growRue_17 rfl (lv_at hl 1 rfl) ?_
    refine rp_get (pc := 18) hC hw (7 * g0) (by omega) ((xt_ball (b := g0) (by omega)) _) fl_X0_28 (.ref (a (7 * g0 + 5))) rfl dX0_growRue_18 ?_
    refine lv_iload_n (pc := 21) hx hb dX0_growRue_21 rfl (lv_at hl 0 rfl) ?_
    obtain ⟨hg, hF⟩ := rp_gu_e hF
    refine rp_ald (pc := 22) hC hw (7 * g0 + 5) (by omega) (xt_bar (b := g0) (by omega) 5 ⟨by decide, by decide⟩) 0 rfl hg dX0_growRue_22 ?_
    refine lv_if_eq (pc := 23) (tgt := 47) hx hb dX0_growRue_23 (by decide) (fun hc => ?_) (fun hc => ?_)
    · replace hF := rp_it hc hF
      exact kX0_growRue_47 g0 h_g0 hC k2 hk2 v1 x1 σ _ _ _ hF hw (lv_sub hl [1, 2, 0] rfl)
    · replace hF := rp_if hc hF
      refine lv_aload_n (pc := 26) hx hb dX0_growRue_26 rfl (lv_at hl 1 rfl) ?_
      refine rp_get (pc := 27) hC hw (7 * g0) (by omega) ((xt_ball (b := g0) (by omega)) _) fl_X0_22 (.ref (a (7 * g0 + 3))) rfl dX0_growRue_27 ?_
      refine lv_iload_n (pc := 30) hx hb dX0_growRue_30 rfl (lv_at hl 0 rfl) ?_
      refine lv_aload_n (pc := 31) hx hb dX0_growRue_31 rfl (lv_at hl 1 rfl) ?_
      refine rp_get (pc := 32) hC hw (7 * g0) (by omega) ((xt_ball (b := g0) (by omega)) _) fl_X0_22 (.ref (a (7 * g0 + 3))) rfl dX0_growRue_32 ?_
      refine lv_iload_n (pc := 35) hx hb dX0_growRue_35 rfl (lv_at hl 0 rfl) ?_
      obtain ⟨hg, hF⟩ := rp_gu_e hF
      refine rp_ald (pc := 36) hC hw (7 * g0 + 3) (by omega) (xt_bar (b := g0) (by omega) 3 ⟨by decide, by decide⟩) 0 rfl hg dX0_growRue_36 ?_
      refine lv_aload_n (pc := 37) hx hb dX0_growRue_37 rfl (lv_at hl 1 rfl) ?_
      refine lv_iload_n (pc := 38) hx hb dX0_growRue_38 rfl (lv_at hl 2 rfl) ?_
      obtain ⟨r2, σ3, hq, hF⟩ := rp_bd_e hF
      refine rp_ki (rp_runV (rest := [.int (σ (7 * g0 + 3) (x1 : Int32).toNatClampNeg), .int x1, .ref (a (7 * g0 + 3))]) hC (xE_ok _) hw hl.1 (mX0_growsOn (l := l) g0 (by omega) v1 σ _ hq) vw_X0_63 (by omega) ((xt_ball (b := g0) (by omega)) _) rfl rfl rfl (Nat.le_of_ble_eq_true rfl) (by decide) dX0_growRue_39) hw (fun H locs hw => ?_)
      clear hq
      refine lv_iadd (pc := 42) hx hb dX0_growRue_42 ?_
      obtain ⟨r4, σ5, hq, hF⟩ := rp_bd_e hF
      refine rp_ki (rp_runN (n := 1) (rest := [.int x1, .ref (a (7 * g0 + 3))]) hC (xE_ok _) hw hl.1 (mX6_heldRue (l := l) ((σ (7 * g0 + 3) (x1 : Int32).toNatClampNeg) + r2) σ3 _ hq) hC.2.2.2.2.2.2.2.2.2.1.2 wd_386 wd_1 wd_387 ⟨by decide, by decide, by decide +kernel⟩ (by decide) rfl rfl (Nat.le_of_ble_eq_true rfl) (by decide) dX0_growRue_43) hw (fun H locs hw => ?_)
      clear hq
      obtain ⟨hg, hF⟩ := rp_gu_e hF
      refine rp_ast (pc := 46) hC hw (7 * g0 + 3) (by omega) (xt_bar (b := g0) (by omega) 3 ⟨by decide, by decide⟩) 0 rfl hg dX0_growRue_46 (fun H locs hw => ?_)
      obtain ⟨σ6, eσ6, hF⟩ := rp_nm_e hF
      replace hw := rp_Wn eσ6 hw
      clear eσ6
      exact kX0_growRue_47 g0 h_g0 hC k2 hk2 v1 x1 σ6 _ _ _ hF hw (lv_sub hl [1, 2, 0] rfl)
theorem lX0_growRue_2 {p : Program} {l : Launch} {e : Env} {s : State} {m : MethodId} {args : Array Value} {below : List Frame} {meth : Method} {c : Code} {D : va_G} {cI cB cS : ClassId} {a : Nat → Nat} {res : Int32 × rp_St} (g0 : Nat) (h_g0 : g0 < 4) (hC : xC p s m args meth c cX0_growRue 3 "RegretPegs$Ball" none D cI cB cS a) : ∀ (n : Nat) (v1 : Int32) (σ : rp_St) (H : Heap) (locs : List Loc) (ls : Array Slot), rp_lp (fun _ _ => none) (fX0_growRue_2 g0) n v1 σ = some res → xW D cI cB cS a s σ H locs → lv_has ls 3 [(0, .ref (a (7 * g0))), (1, .int v1)] → W p l e (rp_rm 2) s m args below meth c H locs 0 0 (MQ below (rp_Qv D a (xt cI cB cS a) 62 res) args s 0 0 (rp_A a 62)) (F0 m 2 ls [])
  | 0, _, _, _, _, _, hF, _, _ => nomatch hF
  | n + 1, v1, σ, H, locs, ls, hF, hw, hl => kX0_growRue_2 g0 h_g0 hC (rp_lp (fun _ _ => none) (fX0_growRue_2 g0) n) (lX0_growRue_2 g0 h_g0 hC n) v1 σ H locs ls hF hw hl
def fX0_growRue (g0 : Nat) (σ : rp_St) : Option (Int32 × rp_St) :=
  rp_lp (fun _ _ => none) (fX0_growRue_2 g0) 300 0 σ
set_option maxRecDepth 100000 in
set_option maxHeartbeats 4000000 in
theorem kX0_growRue_0 {p : Program} {l : Launch} {e : Env} {s : State} {m : MethodId} {args : Array Value} {below : List Frame} {meth : Method} {c : Code} {D : va_G} {cI cB cS : ClassId} {a : Nat → Nat} {res : Int32 × rp_St} (g0 : Nat) (h_g0 : g0 < 4) (hC : xC p s m args meth c cX0_growRue 3 "RegretPegs$Ball" none D cI cB cS a) (σ : rp_St) (H : Heap) (locs : List Loc) (ls : Array Slot) (hF : fX0_growRue g0 σ = some res) (hw : xW D cI cB cS a s σ H locs) (hl : lv_has ls 3 [(0, .ref (a (7 * g0)))]) : W p l e (rp_rm 2) s m args below meth c H locs 0 0 (MQ below (rp_Qv D a (xt cI cB cS a) 62 res) args s 0 0 (rp_A a 62)) (F0 m 0 ls []) := by
  have hx := hC.1
  have hb := hC.2.1
  have hown := hC.2.2.2.1
  have hts := hC.2.2.2.2.1
  unfold fX0_growRue at hF
  refine lv_iconst (pc := 0) (v := 0) hx hb dX0_growRue_0 (by decide) ?_
  refine lv_istore_n (pc := 1) (lv' := [(1, .int 0), (0, .ref (a (7 * g0)))]) hx hb dX0_growRue_1 rfl hl (by decide) rfl (fun ls hl => ?_)
  exact lX0_growRue_2 g0 h_g0 hC 300 0 σ _ _ _ hF hw (lv_sub hl [1, 0] rfl)
theorem mX0_growRue {l : Launch} {D : va_G} {cI cB cS : ClassId} {a : Nat → Nat} (g0 : Nat) (h_g0 : g0 < 4)  (σ : rp_St) (res : Int32 × rp_St) (hF : fX0_growRue g0 σ = some res) : xM l D cI cB cS a yX0_growRue cX0_growRue 3 none 2 [.ref (a (7 * g0))] σ (rp_Qv D a (xt cI cB cS a) 62 res) :=
  rp_entry (by decide) (Nat.le_of_ble_eq_true rfl) (fun p e s m below meth c ls hC hw hl => kX0_growRue_0 g0 h_g0 hC σ _ _ _ hF hw (lv_sub hl [0] rfl))
def fX0_shiftNeighbours_70 (g0 : Nat) (g1 : Nat) (k2 : Int32 → rp_St → Option (Int32 × rp_St)) (v2 : Int32) (σ : rp_St) : Option (Int32 × rp_St) :=
  rp_nm (v2 + 1) (fun x1 => k2 x1 σ)
set_option maxRecDepth 100000 in
set_option maxHeartbeats 4000000 in
theorem kX0_shiftNeighbours_70 {p : Program} {l : Launch} {e : Env} {s : State} {m : MethodId} {args : Array Value} {below : List Frame} {meth : Method} {c : Code} {D : va_G} {cI cB cS : ClassId} {a : Nat → Nat} {res : Int32 × rp_St} (g0 : Nat) (h_g0 : g0 < 4) (g1 : Nat) (h_g1 : g1 < 4) (hC : xC p s m args meth c cX0_shiftNeighbours 5 "RegretPegs$Ball" none D cI cB cS a) (k2 : Int32 → rp_St → Option (Int32 × rp_St)) (hk2 : ∀ (v2 : Int32) (σ : rp_St) (H : Heap) (locs : List Loc) (ls : Array Slot), k2 v2 σ = some res → xW D cI cB cS a s σ H locs → lv_has ls 5 [(0, .ref (a (7 * g0))), (1, .ref (a (28 + 3 * g1))), (2, .int v2)] → W p l e (rp_rm 4) s m args below meth c H locs 0 0 (MQ below (rp_Qv D a (xt cI cB cS a) 62 res) args s 0 0 (rp_A a 62)) (F0 m 2 ls [])) (v2 : Int32) (σ : rp_St) (H : Heap) (locs : List Loc) (ls : Array Slot) (hF : fX0_shiftNeighbours_70 g0 g1 k2 v2 σ = some res) (hw : xW D cI cB cS a s σ H locs) (hl : lv_has ls 5 [(0, .ref (a (7 * g0))), (1, .ref (a (28 + 3 * g1))), (2, .int v2)]) : W p l e (rp_rm 4) s m args below meth c H locs 0 0 (MQ below (rp_Qv D a (xt cI cB cS a) 62 res) args s 0 0 (rp_A a 62)) (F0 m 70 ls []) := by
  have hx := hC.1
  have hb := hC.2.1
  have hown := hC.2.2.2.1
  have hts := hC.2.2.2.2.1
  unfold fX0_shiftNeighbours_70 at hF
  obtain ⟨x1, ex1, hF⟩ := rp_nm_e hF
  refine lv_iinc (pc := 70) (v := x1) (lv' := [(2, .int x1), (0, .ref (a (7 * g0))), (1, .ref (a (28 + 3 * g1)))]) hx hb dX0_shiftNeighbours_70 hl (k := 2) rfl (by rw [ex1]; rfl) (by decide) rfl (fun ls hl => ?_)
  refine lv_goto (pc := 73) (tgt := 2) hx hb dX0_shiftNeighbours_73 (by decide) ?_
  exact hk2 x1 σ _ _ _ hF hw (lv_sub hl [1, 2, 0] rfl)
def fX0_shiftNeighbours_2 (g0 : Nat) (g1 : Nat) (k2 : Int32 → rp_St → Option (Int32 × rp_St)) (v2 : Int32) (σ : rp_St) : Option (Int32 × rp_St) :=
  (if (σ (7 * g0) 0) ≤ (v2 + 1) then some (0, σ) else rp_gu (rp_in v2 7) (rp_nm (σ (7 * g0 + 6) (v2 : Int32).toNatClampNeg) (fun x1 => rp_gu (rp_in x1 7) (rp_gu (rp_in (v2 + 1) 7) (rp_gu (rp_in (σ (7 * g0 + 6) ((v2 + 1) : Int32).toNatClampNeg) 7) (rp_nm ((σ (7 * g0 + 3) (x1 : Int32).toNatClampNeg) - (σ (7 * g0 + 3) ((σ (7 * g0 + 6) ((v2 + 1) : Int32).toNatClampNeg) : Int32).toNatClampNeg)) (fun x2 => (if x2 ≤ 0 then fX0_shiftNeighbours_70 g0 g1 k2 v2 σ else rp_gu (rp_in x1 7) (rp_bd (fX2_give g1 x2 (σ (7 * g0 + 2) (x1 : Int32).toNatClampNeg) v2 σ) (fun r3 σ4 => (if r3 = 0 then fX0_shiftNeighbours_70 g0 g1 k2 v2 σ4 else rp_bd (fX0_exchange g0 v2 (v2 + 1) σ4) (fun _ σ6 => fX0_shiftNeighbours_70 g0 g1 k2 v2 σ6))))))))))))
set_option maxRecDepth 100000 in
set_option maxHeartbeats 4000000 in
theorem kX0_shiftNeighbours_2 {p : Program} {l : Launch} {e : Env} {s : State} {m : MethodId} {args : Array Value} {below : List Frame} {meth : Method} {c : Code} {D : va_G} {cI cB cS : ClassId} {a : Nat → Nat} {res : Int32 × rp_St} (g0 : Nat) (h_g0 : g0 < 4) (g1 : Nat) (h_g1 : g1 < 4) (hC : xC p s m args meth c cX0_shiftNeighbours 5 "RegretPegs$Ball" none D cI cB cS a) (k2 : Int32 → rp_St → Option (Int32 × rp_St)) (hk2 : ∀ (v2 : Int32) (σ : rp_St) (H : Heap) (locs : List Loc) (ls : Array Slot), k2 v2 σ = some res → xW D cI cB cS a s σ H locs → lv_has ls 5 [(0, .ref (a (7 * g0))), (1, .ref (a (28 + 3 * g1))), (2, .int v2)] → W p l e (rp_rm 4) s m args below meth c H locs 0 0 (MQ below (rp_Qv D a (xt cI cB cS a) 62 res) args s 0 0 (rp_A a 62)) (F0 m 2 ls [])) (v2 : Int32) (σ : rp_St) (H : Heap) (locs : List Loc) (ls : Array Slot) (hF : fX0_shiftNeighbours_2 g0 g1 k2 v2 σ = some res) (hw : xW D cI cB cS a s σ H locs) (hl : lv_has ls 5 [(0, .ref (a (7 * g0))), (1, .ref (a (28 + 3 * g1))), (2, .int v2)]) : W p l e (rp_rm 4) s m args below meth c H locs 0 0 (MQ below (rp_Qv D a (xt cI cB cS a) 62 res) args s 0 0 (rp_A a 62)) (F0 m 2 ls []) := by
  have hx := hC.1
  have hb := hC.2.1
  have hown := hC.2.2.2.1
  have hts := hC.2.2.2.2.1
  unfold fX0_shiftNeighbours_2 at hF
  refine lv_iload_n (pc := 2) hx hb dX0_shiftNeighbours_2 rfl (lv_at hl 2 rfl) ?_
  refine lv_iconst (pc := 3) (v := 1) hx hb dX0_shiftNeighbours_3 (by decide) ?_
  refine lv_iadd (pc := 4) hx hb dX0_shiftNeighbours_4 ?_
  refine lv_aload_n (pc := 5) hx hb dX0_shiftNeighbours_5 rfl (lv_at hl 0 rfl) ?_
  refine rp_get (pc := 6) hC hw (7 * g0) (by omega) ((xt_ball (b := g0) (by omega)) _) fl_X0_9 (.int (σ (7 * g0) 0)) rfl dX0_shiftNeighbours_6 ?_
  refine lv_icmp_ge (pc := 9) (tgt := 76) hx hb dX0_shiftNeighbours_9 (by decide) (fun hc => ?_) (fun hc => ?_)
  · replace hF := rp_it hc hF
    exact rp_retv (pc := 76) hC hw hF dX0_shiftNeighbours_76
  · replace hF := rp_if hc hF
    refine lv_aload_n (pc := 12) hx hb dX0_shiftNeighbours_12 rfl (lv_at hl 0 rfl) ?_
    refine rp_get (pc := 13) hC hw (7 * g0) (by omega) ((xt_ball (b := g0) (by omega)) _) fl_X0_31 (.ref (a (7 * g0 + 6))) rfl dX0_shiftNeighbours_13 ?_
    refine lv_iload_n (pc := 16) hx hb dX0_shiftNeighbours_16 rfl (lv_at hl 2 rfl) ?_
    obtain ⟨hg, hF⟩ := rp_gu_e hF
    refine rp_ald (pc := 17) hC hw (7 * g0 + 6) (by omega) (xt_bar (b := g0) (by omega) 6 ⟨by decide, by decide⟩) 0 rfl hg dX0_shiftNeighbours_17 ?_
    obtain ⟨x1, ex1, hF⟩ := rp_nm_e hF
    refine rp_top ex1 ?_
    refine lv_istore_n (pc := 18) (lv' := [(3, .int x1), (0, .ref (a (7 * g0))), (1, .ref (a (28 + 3 * g1))), (2, .int v2)]) hx hb dX0_shiftNeighbours_18 rfl hl (by decide) rfl (fun ls hl => ?_)
    refine lv_aload_n (pc := 19) hx hb dX0_shiftNeighbours_19 rfl (lv_at hl 1 rfl) ?_
    refine rp_get (pc := 20) hC hw (7 * g0) (by omega) ((xt_ball (b := g0) (by omega)) _) fl_X0_22 (.ref (a (7 * g0 + 3))) rfl dX0_shiftNeighbours_20 ?_
    refine lv_iload_n (pc := 23) hx hb dX0_shiftNeighbours_23 rfl (lv_at hl 0 rfl) ?_
    obtain ⟨hg, hF⟩ := rp_gu_e hF
    refine rp_ald (pc := 24) hC hw (7 * g0 + 3) (by omega) (xt_bar (b := g0) (by omega) 3 ⟨by decide, by decide⟩) 0 rfl hg dX0_shiftNeighbours_24 ?_
    refine lv_aload_n (pc := 25) hx hb dX0_shiftNeighbours_25 rfl (lv_at hl 1 rfl) ?_
    refine rp_get (pc := 26) hC hw (7 * g0) (by omega) ((xt_ball (b := g0) (by omega)) _) fl_X0_22 (.ref (a (7 * g0 + 3))) rfl dX0_shiftNeighbours_26 ?_
    refine lv_aload_n (pc := 29) hx hb dX0_shiftNeighbours_29 rfl (lv_at hl 1 rfl) ?_
    refine rp_get (pc := 30) hC hw (7 * g0) (by omega) ((xt_ball (b := g0) (by omega)) _) fl_X0_31 (.ref (a (7 * g0 + 6))) rfl dX0_shiftNeighbours_30 ?_
    refine lv_iload_n (pc := 33) hx hb dX0_shiftNeighbours_33 rfl (lv_at hl 3 rfl) ?_
    refine lv_iconst (pc := 34) (v := 1) hx hb dX0_shiftNeighbours_34 (by decide) ?_
    refine lv_iadd (pc := 35) hx hb dX0_shiftNeighbours_35 ?_
    obtain ⟨hg, hF⟩ := rp_gu_e hF
    refine rp_ald (pc := 36) hC hw (7 * g0 + 6) (by omega) (xt_bar (b := g0) (by omega) 6 ⟨by decide, by decide⟩) 0 rfl hg dX0_shiftNeighbours_36 ?_
    obtain ⟨hg, hF⟩ := rp_gu_e hF
    refine rp_ald (pc := 37) hC hw (7 * g0 + 3) (by omega) (xt_bar (b := g0) (by omega) 3 ⟨by decide, by decide⟩) 0 rfl hg dX0_shiftNeighbours_37 ?_
    refine lv_isub (pc := 38) hx hb dX0_shiftNeighbours_38 ?_
    obtain ⟨x2, ex2, hF⟩ := rp_nm_e hF
    refine rp_top ex2 ?_
    refine lv_istore (pc := 39) (lv' := [(4, .int x2), (3, .int x1), (0, .ref (a (7 * g0))), (1, .ref (a (28 + 3 * g1))), (2, .int v2)]) hx hb dX0_shiftNeighbours_39 hl (by decide) rfl (fun ls hl => ?_)
    refine lv_iload (pc := 41) hx hb dX0_shiftNeighbours_41 (lv_at hl 0 rfl) ?_
    refine lv_if_le (pc := 43) (tgt := 70) hx hb dX0_shiftNeighbours_43 (by decide) (fun hc => ?_) (fun hc => ?_)
    · replace hF := rp_it hc hF
      exact kX0_shiftNeighbours_70 g0 h_g0 g1 h_g1 hC k2 hk2 v2 σ _ _ _ hF hw (lv_sub hl [2, 3, 4] rfl)
    · replace hF := rp_if hc hF
      refine lv_aload_n (pc := 46) hx hb dX0_shiftNeighbours_46 rfl (lv_at hl 3 rfl) ?_
      refine lv_iload (pc := 47) hx hb dX0_shiftNeighbours_47 (lv_at hl 0 rfl) ?_
      refine lv_aload_n (pc := 49) hx hb dX0_shiftNeighbours_49 rfl (lv_at hl 2 rfl) ?_
      refine rp_get (pc := 50) hC hw (7 * g0) (by omega) ((xt_ball (b := g0) (by omega)) _) fl_X0_19 (.ref (a (7 * g0 + 2))) rfl dX0_shiftNeighbours_50 ?_
      refine lv_iload_n (pc := 53) hx hb dX0_shiftNeighbours_53 rfl (lv_at hl 1 rfl) ?_
      obtain ⟨hg, hF⟩ := rp_gu_e hF
      refine rp_ald (pc := 54) hC hw (7 * g0 + 2) (by omega) (xt_bar (b := g0) (by omega) 2 ⟨by decide, by decide⟩) 0 rfl hg dX0_shiftNeighbours_54 ?_
      refine lv_iload_n (pc := 55) hx hb dX0_shiftNeighbours_55 rfl (lv_at hl 4 rfl) ?_
      obtain ⟨r3, σ4, hq, hF⟩ := rp_bd_e hF
      refine rp_ki (rp_runV (rest := []) hC (xE_ok _) hw hl.1 (mX2_give (l := l) g1 (by omega) x2 (σ (7 * g0 + 2) (x1 : Int32).toNatClampNeg) v2 σ _ hq) vw_X0_40 (by omega) ((xt_law (i := g1) (by omega)) _) rfl rfl rfl (Nat.le_of_ble_eq_true rfl) (by decide) dX0_shiftNeighbours_56) hw (fun H locs hw => ?_)
      clear hq
      refine lv_if_eq (pc := 59) (tgt := 70) hx hb dX0_shiftNeighbours_59 (by decide) (fun hc => ?_) (fun hc => ?_)
      · replace hF := rp_it hc hF
        exact kX0_shiftNeighbours_70 g0 h_g0 g1 h_g1 hC k2 hk2 v2 σ4 _ _ _ hF hw (lv_sub hl [2, 3, 4] rfl)
      · replace hF := rp_if hc hF
        refine lv_aload_n (pc := 62) hx hb dX0_shiftNeighbours_62 rfl (lv_at hl 2 rfl) ?_
        refine lv_iload_n (pc := 63) hx hb dX0_shiftNeighbours_63 rfl (lv_at hl 4 rfl) ?_
        refine lv_iload_n (pc := 64) hx hb dX0_shiftNeighbours_64 rfl (lv_at hl 4 rfl) ?_
        refine lv_iconst (pc := 65) (v := 1) hx hb dX0_shiftNeighbours_65 (by decide) ?_
        refine lv_iadd (pc := 66) hx hb dX0_shiftNeighbours_66 ?_
        obtain ⟨r5, σ6, hq, hF⟩ := rp_bd_e hF
        refine rp_kv (rp_runV (rest := []) hC (xE_ok _) hw hl.1 (mX0_exchange (l := l) g0 (by omega) v2 (v2 + 1) σ4 _ hq) vw_X0_70 (by omega) ((xt_ball (b := g0) (by omega)) _) rfl rfl rfl (Nat.le_of_ble_eq_true rfl) (by decide) dX0_shiftNeighbours_67) hw (fun H locs hw => ?_)
        clear hq
        exact kX0_shiftNeighbours_70 g0 h_g0 g1 h_g1 hC k2 hk2 v2 σ6 _ _ _ hF hw (lv_sub hl [2, 3, 4] rfl)
theorem lX0_shiftNeighbours_2 {p : Program} {l : Launch} {e : Env} {s : State} {m : MethodId} {args : Array Value} {below : List Frame} {meth : Method} {c : Code} {D : va_G} {cI cB cS : ClassId} {a : Nat → Nat} {res : Int32 × rp_St} (g0 : Nat) (h_g0 : g0 < 4) (g1 : Nat) (h_g1 : g1 < 4) (hC : xC p s m args meth c cX0_shiftNeighbours 5 "RegretPegs$Ball" none D cI cB cS a) : ∀ (n : Nat) (v2 : Int32) (σ : rp_St) (H : Heap) (locs : List Loc) (ls : Array Slot), rp_lp (fun _ _ => none) (fX0_shiftNeighbours_2 g0 g1) n v2 σ = some res → xW D cI cB cS a s σ H locs → lv_has ls 5 [(0, .ref (a (7 * g0))), (1, .ref (a (28 + 3 * g1))), (2, .int v2)] → W p l e (rp_rm 4) s m args below meth c H locs 0 0 (MQ below (rp_Qv D a (xt cI cB cS a) 62 res) args s 0 0 (rp_A a 62)) (F0 m 2 ls [])
  | 0, _, _, _, _, _, hF, _, _ => nomatch hF
  | n + 1, v2, σ, H, locs, ls, hF, hw, hl => kX0_shiftNeighbours_2 g0 h_g0 g1 h_g1 hC (rp_lp (fun _ _ => none) (fX0_shiftNeighbours_2 g0 g1) n) (lX0_shiftNeighbours_2 g0 h_g0 g1 h_g1 hC n) v2 σ H locs ls hF hw hl
def fX0_shiftNeighbours (g0 : Nat) (g1 : Nat) (σ : rp_St) : Option (Int32 × rp_St) :=
  rp_lp (fun _ _ => none) (fX0_shiftNeighbours_2 g0 g1) 300 0 σ
set_option maxRecDepth 100000 in
set_option maxHeartbeats 4000000 in
theorem kX0_shiftNeighbours_0 {p : Program} {l : Launch} {e : Env} {s : State} {m : MethodId} {args : Array Value} {below : List Frame} {meth : Method} {c : Code} {D : va_G} {cI cB cS : ClassId} {a : Nat → Nat} {res : Int32 × rp_St} (g0 : Nat) (h_g0 : g0 < 4) (g1 : Nat) (h_g1 : g1 < 4) (hC : xC p s m args meth c cX0_shiftNeighbours 5 "RegretPegs$Ball" none D cI cB cS a) (σ : rp_St) (H : Heap) (locs : List Loc) (ls : Array Slot) (hF : fX0_shiftNeighbours g0 g1 σ = some res) (hw : xW D cI cB cS a s σ H locs) (hl : lv_has ls 5 [(0, .ref (a (7 * g0))), (1, .ref (a (28 + 3 * g1)))]) : W p l e (rp_rm 4) s m args below meth c H locs 0 0 (MQ below (rp_Qv D a (xt cI cB cS a) 62 res) args s 0 0 (rp_A a 62)) (F0 m 0 ls []) := by
  have hx := hC.1
  have hb := hC.2.1
  have hown := hC.2.2.2.1
  have hts := hC.2.2.2.2.1
  unfold fX0_shiftNeighbours at hF
  refine lv_iconst (pc := 0) (v := 0) hx hb dX0_shiftNeighbours_0 (by decide) ?_
  refine lv_istore_n (pc := 1) (lv' := [(2, .int 0), (0, .ref (a (7 * g0))), (1, .ref (a (28 + 3 * g1)))]) hx hb dX0_shiftNeighbours_1 rfl hl (by decide) rfl (fun ls hl => ?_)
  exact lX0_shiftNeighbours_2 g0 h_g0 g1 h_g1 hC 300 0 σ _ _ _ hF hw (lv_sub hl [1, 2, 0] rfl)
theorem mX0_shiftNeighbours {l : Launch} {D : va_G} {cI cB cS : ClassId} {a : Nat → Nat} (g0 : Nat) (h_g0 : g0 < 4) (g1 : Nat) (h_g1 : g1 < 4)  (σ : rp_St) (res : Int32 × rp_St) (hF : fX0_shiftNeighbours g0 g1 σ = some res) : xM l D cI cB cS a yX0_shiftNeighbours cX0_shiftNeighbours 5 none 4 [.ref (a (7 * g0)), .ref (a (28 + 3 * g1))] σ (rp_Qv D a (xt cI cB cS a) 62 res) :=
  rp_entry (by decide) (Nat.le_of_ble_eq_true rfl) (fun p e s m below meth c ls hC hw hl => kX0_shiftNeighbours_0 g0 h_g0 g1 h_g1 hC σ _ _ _ hF hw (lv_sub hl [0, 1] rfl))
def fX0_passHours_2 (g0 : Nat) (g2 : Nat) (k2 : Int32 → Int32 → rp_St → Option (Int32 × rp_St)) (v1 : Int32) (v3 : Int32) (σ : rp_St) : Option (Int32 × rp_St) :=
  (if v1 ≤ v3 then some (0, σ) else rp_bd (fX0_growRue g0 σ) (fun _ σ2 => rp_bd (fX0_shiftNeighbours g0 g2 σ2) (fun _ σ4 => rp_nm (v3 + 1) (fun x5 => k2 v1 x5 σ4))))
set_option maxRecDepth 100000 in
set_option maxHeartbeats 4000000 in
theorem kX0_passHours_2 {p : Program} {l : Launch} {e : Env} {s : State} {m : MethodId} {args : Array Value} {below : List Frame} {meth : Method} {c : Code} {D : va_G} {cI cB cS : ClassId} {a : Nat → Nat} {res : Int32 × rp_St} (g0 : Nat) (h_g0 : g0 < 4) (g2 : Nat) (h_g2 : g2 < 4) (hC : xC p s m args meth c cX0_passHours 4 "RegretPegs$Ball" none D cI cB cS a) (k2 : Int32 → Int32 → rp_St → Option (Int32 × rp_St)) (hk2 : ∀ (v1 : Int32) (v3 : Int32) (σ : rp_St) (H : Heap) (locs : List Loc) (ls : Array Slot), k2 v1 v3 σ = some res → xW D cI cB cS a s σ H locs → lv_has ls 4 [(0, .ref (a (7 * g0))), (1, .int v1), (2, .ref (a (28 + 3 * g2))), (3, .int v3)] → W p l e (rp_rm 5) s m args below meth c H locs 0 0 (MQ below (rp_Qv D a (xt cI cB cS a) 62 res) args s 0 0 (rp_A a 62)) (F0 m 2 ls [])) (v1 : Int32) (v3 : Int32) (σ : rp_St) (H : Heap) (locs : List Loc) (ls : Array Slot) (hF : fX0_passHours_2 g0 g2 k2 v1 v3 σ = some res) (hw : xW D cI cB cS a s σ H locs) (hl : lv_has ls 4 [(0, .ref (a (7 * g0))), (1, .int v1), (2, .ref (a (28 + 3 * g2))), (3, .int v3)]) : W p l e (rp_rm 5) s m args below meth c H locs 0 0 (MQ below (rp_Qv D a (xt cI cB cS a) 62 res) args s 0 0 (rp_A a 62)) (F0 m 2 ls []) := by
  have hx := hC.1
  have hb := hC.2.1
  have hown := hC.2.2.2.1
  have hts := hC.2.2.2.2.1
  unfold fX0_passHours_2 at hF
  refine lv_iload_n (pc := 2) hx hb dX0_passHours_2 rfl (lv_at hl 3 rfl) ?_
  refine lv_iload_n (pc := 3) hx hb dX0_passHours_3 rfl (lv_at hl 1 rfl) ?_
  refine lv_icmp_ge (pc := 4) (tgt := 22) hx hb dX0_passHours_4 (by decide) (fun hc => ?_) (fun hc => ?_)
  · replace hF := rp_it hc hF
    exact rp_retv (pc := 22) hC hw hF dX0_passHours_22
  · replace hF := rp_if hc hF
    refine lv_aload_n (pc := 7) hx hb dX0_passHours_7 rfl (lv_at hl 0 rfl) ?_
    obtain ⟨r1, σ2, hq, hF⟩ := rp_bd_e hF
    refine rp_kv (rp_runV (rest := []) hC (xE_ok _) hw hl.1 (mX0_growRue (l := l) g0 (by omega) σ _ hq) vw_X0_56 (by omega) ((xt_ball (b := g0) (by omega)) _) rfl rfl rfl (Nat.le_of_ble_eq_true rfl) (by decide) dX0_passHours_8) hw (fun H locs hw => ?_)
    clear hq
    refine lv_aload_n (pc := 11) hx hb dX0_passHours_11 rfl (lv_at hl 0 rfl) ?_
    refine lv_aload_n (pc := 12) hx hb dX0_passHours_12 rfl (lv_at hl 2 rfl) ?_
    obtain ⟨r3, σ4, hq, hF⟩ := rp_bd_e hF
    refine rp_kv (rp_runV (rest := []) hC (xE_ok _) hw hl.1 (mX0_shiftNeighbours (l := l) g0 (by omega) g2 (by omega) σ2 _ hq) vw_X0_59 (by omega) ((xt_ball (b := g0) (by omega)) _) rfl rfl rfl (Nat.le_of_ble_eq_true rfl) (by decide) dX0_passHours_13) hw (fun H locs hw => ?_)
    clear hq
    obtain ⟨x5, ex5, hF⟩ := rp_nm_e hF
    refine lv_iinc (pc := 16) (v := x5) (lv' := [(3, .int x5), (0, .ref (a (7 * g0))), (1, .int v1), (2, .ref (a (28 + 3 * g2)))]) hx hb dX0_passHours_16 hl (k := 3) rfl (by rw [ex5]; rfl) (by decide) rfl (fun ls hl => ?_)
    refine lv_goto (pc := 19) (tgt := 2) hx hb dX0_passHours_19 (by decide) ?_
    exact hk2 v1 x5 σ4 _ _ _ hF hw (lv_sub hl [1, 2, 3, 0] rfl)
theorem lX0_passHours_2 {p : Program} {l : Launch} {e : Env} {s : State} {m : MethodId} {args : Array Value} {below : List Frame} {meth : Method} {c : Code} {D : va_G} {cI cB cS : ClassId} {a : Nat → Nat} {res : Int32 × rp_St} (g0 : Nat) (h_g0 : g0 < 4) (g2 : Nat) (h_g2 : g2 < 4) (hC : xC p s m args meth c cX0_passHours 4 "RegretPegs$Ball" none D cI cB cS a) : ∀ (n : Nat) (v1 : Int32) (v3 : Int32) (σ : rp_St) (H : Heap) (locs : List Loc) (ls : Array Slot), rp_lp (fun _ _ _ => none) (fX0_passHours_2 g0 g2) n v1 v3 σ = some res → xW D cI cB cS a s σ H locs → lv_has ls 4 [(0, .ref (a (7 * g0))), (1, .int v1), (2, .ref (a (28 + 3 * g2))), (3, .int v3)] → W p l e (rp_rm 5) s m args below meth c H locs 0 0 (MQ below (rp_Qv D a (xt cI cB cS a) 62 res) args s 0 0 (rp_A a 62)) (F0 m 2 ls [])
  | 0, _, _, _, _, _, _, hF, _, _ => nomatch hF
  | n + 1, v1, v3, σ, H, locs, ls, hF, hw, hl => kX0_passHours_2 g0 h_g0 g2 h_g2 hC (rp_lp (fun _ _ _ => none) (fX0_passHours_2 g0 g2) n) (lX0_passHours_2 g0 h_g0 g2 h_g2 hC n) v1 v3 σ H locs ls hF hw hl
def fX0_passHours (g0 : Nat) (g2 : Nat) (v1 : Int32) (σ : rp_St) : Option (Int32 × rp_St) :=
  rp_lp (fun _ _ _ => none) (fX0_passHours_2 g0 g2) 300 v1 0 σ
set_option maxRecDepth 100000 in
set_option maxHeartbeats 4000000 in
theorem kX0_passHours_0 {p : Program} {l : Launch} {e : Env} {s : State} {m : MethodId} {args : Array Value} {below : List Frame} {meth : Method} {c : Code} {D : va_G} {cI cB cS : ClassId} {a : Nat → Nat} {res : Int32 × rp_St} (g0 : Nat) (h_g0 : g0 < 4) (g2 : Nat) (h_g2 : g2 < 4) (hC : xC p s m args meth c cX0_passHours 4 "RegretPegs$Ball" none D cI cB cS a) (v1 : Int32) (σ : rp_St) (H : Heap) (locs : List Loc) (ls : Array Slot) (hF : fX0_passHours g0 g2 v1 σ = some res) (hw : xW D cI cB cS a s σ H locs) (hl : lv_has ls 4 [(0, .ref (a (7 * g0))), (1, .int v1), (2, .ref (a (28 + 3 * g2)))]) : W p l e (rp_rm 5) s m args below meth c H locs 0 0 (MQ below (rp_Qv D a (xt cI cB cS a) 62 res) args s 0 0 (rp_A a 62)) (F0 m 0 ls []) := by
  have hx := hC.1
  have hb := hC.2.1
  have hown := hC.2.2.2.1
  have hts := hC.2.2.2.2.1
  unfold fX0_passHours at hF
  refine lv_iconst (pc := 0) (v := 0) hx hb dX0_passHours_0 (by decide) ?_
  refine lv_istore_n (pc := 1) (lv' := [(3, .int 0), (0, .ref (a (7 * g0))), (1, .int v1), (2, .ref (a (28 + 3 * g2)))]) hx hb dX0_passHours_1 rfl hl (by decide) rfl (fun ls hl => ?_)
  exact lX0_passHours_2 g0 h_g0 g2 h_g2 hC 300 v1 0 σ _ _ _ hF hw (lv_sub hl [1, 2, 3, 0] rfl)
theorem mX0_passHours {l : Launch} {D : va_G} {cI cB cS : ClassId} {a : Nat → Nat} (g0 : Nat) (h_g0 : g0 < 4) (g2 : Nat) (h_g2 : g2 < 4) (v1 : Int32) (σ : rp_St) (res : Int32 × rp_St) (hF : fX0_passHours g0 g2 v1 σ = some res) : xM l D cI cB cS a yX0_passHours cX0_passHours 4 none 5 [.ref (a (7 * g0)), .int v1, .ref (a (28 + 3 * g2))] σ (rp_Qv D a (xt cI cB cS a) 62 res) :=
  rp_entry (by decide) (Nat.le_of_ble_eq_true rfl) (fun p e s m below meth c ls hC hw hl => kX0_passHours_0 g0 h_g0 g2 h_g2 hC v1 σ _ _ _ hF hw (lv_sub hl [0, 1, 2] rfl))
def fX0_rueTogether_4 (g0 : Nat) (k4 : Int32 → Int32 → rp_St → Option (Int32 × rp_St)) (v1 : Int32) (v2 : Int32) (σ : rp_St) : Option (Int32 × rp_St) :=
  (if (σ (7 * g0) 0) ≤ v2 then some (v1, σ) else rp_gu (rp_in v2 7) (rp_nm (v1 + (σ (7 * g0 + 3) (v2 : Int32).toNatClampNeg)) (fun x1 => rp_nm (v2 + 1) (fun x2 => k4 x1 x2 σ))))
set_option maxRecDepth 100000 in
set_option maxHeartbeats 4000000 in
theorem kX0_rueTogether_4 {p : Program} {l : Launch} {e : Env} {s : State} {m : MethodId} {args : Array Value} {below : List Frame} {meth : Method} {c : Code} {D : va_G} {cI cB cS : ClassId} {a : Nat → Nat} {res : Int32 × rp_St} (g0 : Nat) (h_g0 : g0 < 4) (hC : xC p s m args meth c cX0_rueTogether 3 "RegretPegs$Ball" (some .int) D cI cB cS a) (k4 : Int32 → Int32 → rp_St → Option (Int32 × rp_St)) (hk4 : ∀ (v1 : Int32) (v2 : Int32) (σ : rp_St) (H : Heap) (locs : List Loc) (ls : Array Slot), k4 v1 v2 σ = some res → xW D cI cB cS a s σ H locs → lv_has ls 3 [(0, .ref (a (7 * g0))), (1, .int v1), (2, .int v2)] → W p l e (rp_rm 1) s m args below meth c H locs 0 0 (MQ below (rp_Qi D a (xt cI cB cS a) 62 res) args s 0 0 (rp_A a 62)) (F0 m 4 ls [])) (v1 : Int32) (v2 : Int32) (σ : rp_St) (H : Heap) (locs : List Loc) (ls : Array Slot) (hF : fX0_rueTogether_4 g0 k4 v1 v2 σ = some res) (hw : xW D cI cB cS a s σ H locs) (hl : lv_has ls 3 [(0, .ref (a (7 * g0))), (1, .int v1), (2, .int v2)]) : W p l e (rp_rm 1) s m args below meth c H locs 0 0 (MQ below (rp_Qi D a (xt cI cB cS a) 62 res) args s 0 0 (rp_A a 62)) (F0 m 4 ls []) := by
  have hx := hC.1
  have hb := hC.2.1
  have hown := hC.2.2.2.1
  have hts := hC.2.2.2.2.1
  unfold fX0_rueTogether_4 at hF
  refine lv_iload_n (pc := 4) hx hb dX0_rueTogether_4 rfl (lv_at hl 2 rfl) ?_
  refine lv_aload_n (pc := 5) hx hb dX0_rueTogether_5 rfl (lv_at hl 0 rfl) ?_
  refine rp_get (pc := 6) hC hw (7 * g0) (by omega) ((xt_ball (b := g0) (by omega)) _) fl_X0_9 (.int (σ (7 * g0) 0)) rfl dX0_rueTogether_6 ?_
  refine lv_icmp_ge (pc := 9) (tgt := 27) hx hb dX0_rueTogether_9 (by decide) (fun hc => ?_) (fun hc => ?_)
  · replace hF := rp_it hc hF
    refine lv_iload_n (pc := 27) hx hb dX0_rueTogether_27 rfl (lv_at hl 1 rfl) ?_
    exact rp_reti (pc := 28) hC hw hF dX0_rueTogether_28
  · replace hF := rp_if hc hF
    refine lv_iload_n (pc := 12) hx hb dX0_rueTogether_12 rfl (lv_at hl 1 rfl) ?_
    refine lv_aload_n (pc := 13) hx hb dX0_rueTogether_13 rfl (lv_at hl 0 rfl) ?_
    refine rp_get (pc := 14) hC hw (7 * g0) (by omega) ((xt_ball (b := g0) (by omega)) _) fl_X0_22 (.ref (a (7 * g0 + 3))) rfl dX0_rueTogether_14 ?_
    refine lv_iload_n (pc := 17) hx hb dX0_rueTogether_17 rfl (lv_at hl 2 rfl) ?_
    obtain ⟨hg, hF⟩ := rp_gu_e hF
    refine rp_ald (pc := 18) hC hw (7 * g0 + 3) (by omega) (xt_bar (b := g0) (by omega) 3 ⟨by decide, by decide⟩) 0 rfl hg dX0_rueTogether_18 ?_
    refine lv_iadd (pc := 19) hx hb dX0_rueTogether_19 ?_
    obtain ⟨x1, ex1, hF⟩ := rp_nm_e hF
    refine rp_top ex1 ?_
    refine lv_istore_n (pc := 20) (lv' := [(1, .int x1), (0, .ref (a (7 * g0))), (2, .int v2)]) hx hb dX0_rueTogether_20 rfl hl (by decide) rfl (fun ls hl => ?_)
    obtain ⟨x2, ex2, hF⟩ := rp_nm_e hF
    refine lv_iinc (pc := 21) (v := x2) (lv' := [(2, .int x2), (1, .int x1), (0, .ref (a (7 * g0)))]) hx hb dX0_rueTogether_21 hl (k := 2) rfl (by rw [ex2]; rfl) (by decide) rfl (fun ls hl => ?_)
    refine lv_goto (pc := 24) (tgt := 4) hx hb dX0_rueTogether_24 (by decide) ?_
    exact hk4 x1 x2 σ _ _ _ hF hw (lv_sub hl [2, 1, 0] rfl)
theorem lX0_rueTogether_4 {p : Program} {l : Launch} {e : Env} {s : State} {m : MethodId} {args : Array Value} {below : List Frame} {meth : Method} {c : Code} {D : va_G} {cI cB cS : ClassId} {a : Nat → Nat} {res : Int32 × rp_St} (g0 : Nat) (h_g0 : g0 < 4) (hC : xC p s m args meth c cX0_rueTogether 3 "RegretPegs$Ball" (some .int) D cI cB cS a) : ∀ (n : Nat) (v1 : Int32) (v2 : Int32) (σ : rp_St) (H : Heap) (locs : List Loc) (ls : Array Slot), rp_lp (fun _ _ _ => none) (fX0_rueTogether_4 g0) n v1 v2 σ = some res → xW D cI cB cS a s σ H locs → lv_has ls 3 [(0, .ref (a (7 * g0))), (1, .int v1), (2, .int v2)] → W p l e (rp_rm 1) s m args below meth c H locs 0 0 (MQ below (rp_Qi D a (xt cI cB cS a) 62 res) args s 0 0 (rp_A a 62)) (F0 m 4 ls [])
  | 0, _, _, _, _, _, _, hF, _, _ => nomatch hF
  | n + 1, v1, v2, σ, H, locs, ls, hF, hw, hl => kX0_rueTogether_4 g0 h_g0 hC (rp_lp (fun _ _ _ => none) (fX0_rueTogether_4 g0) n) (lX0_rueTogether_4 g0 h_g0 hC n) v1 v2 σ H locs ls hF hw hl
def fX0_rueTogether (g0 : Nat) (σ : rp_St) : Option (Int32 × rp_St) :=
  rp_lp (fun _ _ _ => none) (fX0_rueTogether_4 g0) 300 0 0 σ
set_option maxRecDepth 100000 in
set_option maxHeartbeats 4000000 in
theorem kX0_rueTogether_0 {p : Program} {l : Launch} {e : Env} {s : State} {m : MethodId} {args : Array Value} {below : List Frame} {meth : Method} {c : Code} {D : va_G} {cI cB cS : ClassId} {a : Nat → Nat} {res : Int32 × rp_St} (g0 : Nat) (h_g0 : g0 < 4) (hC : xC p s m args meth c cX0_rueTogether 3 "RegretPegs$Ball" (some .int) D cI cB cS a) (σ : rp_St) (H : Heap) (locs : List Loc) (ls : Array Slot) (hF : fX0_rueTogether g0 σ = some res) (hw : xW D cI cB cS a s σ H locs) (hl : lv_has ls 3 [(0, .ref (a (7 * g0)))]) : W p l e (rp_rm 1) s m args below meth c H locs 0 0 (MQ below (rp_Qi D a (xt cI cB cS a) 62 res) args s 0 0 (rp_A a 62)) (F0 m 0 ls []) := by
  have hx := hC.1
  have hb := hC.2.1
  have hown := hC.2.2.2.1
  have hts := hC.2.2.2.2.1
  unfold fX0_rueTogether at hF
  refine lv_iconst (pc := 0) (v := 0) hx hb dX0_rueTogether_0 (by decide) ?_
  refine lv_istore_n (pc := 1) (lv' := [(1, .int 0), (0, .ref (a (7 * g0)))]) hx hb dX0_rueTogether_1 rfl hl (by decide) rfl (fun ls hl => ?_)
  refine lv_iconst (pc := 2) (v := 0) hx hb dX0_rueTogether_2 (by decide) ?_
  refine lv_istore_n (pc := 3) (lv' := [(2, .int 0), (1, .int 0), (0, .ref (a (7 * g0)))]) hx hb dX0_rueTogether_3 rfl hl (by decide) rfl (fun ls hl => ?_)
  exact lX0_rueTogether_4 g0 h_g0 hC 300 0 0 σ _ _ _ hF hw (lv_sub hl [2, 1, 0] rfl)
theorem mX0_rueTogether {l : Launch} {D : va_G} {cI cB cS : ClassId} {a : Nat → Nat} (g0 : Nat) (h_g0 : g0 < 4)  (σ : rp_St) (res : Int32 × rp_St) (hF : fX0_rueTogether g0 σ = some res) : xM l D cI cB cS a yX0_rueTogether cX0_rueTogether 3 (some .int) 1 [.ref (a (7 * g0))] σ (rp_Qi D a (xt cI cB cS a) 62 res) :=
  rp_entry (by decide) (Nat.le_of_ble_eq_true rfl) (fun p e s m below meth c ls hC hw hl => kX0_rueTogether_0 g0 h_g0 hC σ _ _ _ hF hw (lv_sub hl [0] rfl))
def fX6_hours (v1 : Int32) (σ : rp_St) : Option (Int32 × rp_St) :=
  rp_bd (fX6_isWithin v1 1 60 σ) (fun r1 σ2 => (if r1 = 0 then rp_bd (fX6_refuse 1 σ2) (fun r10 σ11 => some (r10, σ11)) else (if ((σ2 40 7) + v1) ≤ 9999 then rp_bd (fX0_passHours 0 1 v1 σ2) (fun _ σ4 => rp_nm (rp_put σ4 40 7 ((σ4 40 7) + v1)) (fun σ5 => rp_bd (fX0_rueTogether 0 σ5) (fun r6 σ7 => some (r6, σ7)))) else rp_bd (fX6_refuse 3 σ2) (fun r8 σ9 => some (r8, σ9)))))
set_option maxRecDepth 100000 in
set_option maxHeartbeats 4000000 in
theorem kX6_hours_0 {p : Program} {l : Launch} {e : Env} {s : State} {m : MethodId} {args : Array Value} {below : List Frame} {meth : Method} {c : Code} {D : va_G} {cI cB cS : ClassId} {a : Nat → Nat} {res : Int32 × rp_St} (hC : xC p s m args meth c cX6_hours 2 "RegretPegs" (some .int) D cI cB cS a) (v1 : Int32) (σ : rp_St) (H : Heap) (locs : List Loc) (ls : Array Slot) (hF : fX6_hours v1 σ = some res) (hw : xW D cI cB cS a s σ H locs) (hl : lv_has ls 2 [(0, .ref (a 54)), (1, .int v1)]) : W p l e (rp_rm 6) s m args below meth c H locs 0 0 (MQ below (rp_Qi D a (xt cI cB cS a) 62 res) args s 0 0 (rp_A a 62)) (F0 m 0 ls []) := by
  have hx := hC.1
  have hb := hC.2.1
  have hown := hC.2.2.2.1
  have hts := hC.2.2.2.2.1
  unfold fX6_hours at hF
  refine lv_iload_n (pc := 0) hx hb dX6_hours_0 rfl (lv_at hl 1 rfl) ?_
  refine lv_iconst (pc := 1) (v := 1) hx hb dX6_hours_1 (by decide) ?_
  refine lv_bipush (pc := 2) (v := 60) hx hb dX6_hours_2 (by decide) ?_
  obtain ⟨r1, σ2, hq, hF⟩ := rp_bd_e hF
  refine rp_ki (rp_runZ (rest := []) hC (xE_ok _) hw hl.1 (mX6_isWithin (l := l) v1 1 60 σ _ hq) zw_X6_62 rfl rfl (Nat.le_of_ble_eq_true rfl) (by decide) dX6_hours_4) hw (fun H locs hw => ?_)
  clear hq
  refine lv_if_ne (pc := 7) (tgt := 16) hx hb dX6_hours_7 (by decide) (fun hc => ?_) (fun hc => ?_)
  · replace hF := rp_if hc hF
    refine lv_aload_n (pc := 16) hx hb dX6_hours_16 rfl (lv_at hl 0 rfl) ?_
    refine rp_get (pc := 17) hC hw 54 (by decide) (xt_reg _) fl_X6_10 (.ref (a 40)) rfl dX6_hours_17 ?_
    refine rp_get (pc := 20) hC hw 40 (by decide) ((xt_eve (i := 0) (by decide)) _) fl_X6_162 (.int (σ2 40 7)) rfl dX6_hours_20 ?_
    refine lv_iload_n (pc := 23) hx hb dX6_hours_23 rfl (lv_at hl 1 rfl) ?_
    refine lv_iadd (pc := 24) hx hb dX6_hours_24 ?_
    refine lv_sipush (pc := 25) (v := 9999) hx hb dX6_hours_25 (by decide) ?_
    refine lv_icmp_le (pc := 28) (tgt := 37) hx hb dX6_hours_28 (by decide) (fun hc => ?_) (fun hc => ?_)
    · replace hF := rp_it hc hF
      refine lv_aload_n (pc := 37) hx hb dX6_hours_37 rfl (lv_at hl 0 rfl) ?_
      refine rp_get (pc := 38) hC hw 54 (by decide) (xt_reg _) fl_X6_10 (.ref (a 40)) rfl dX6_hours_38 ?_
      refine rp_get (pc := 41) hC hw 40 (by decide) ((xt_eve (i := 0) (by decide)) _) fl_X6_70 (.ref (a 0)) rfl dX6_hours_41 ?_
      refine lv_iload_n (pc := 44) hx hb dX6_hours_44 rfl (lv_at hl 1 rfl) ?_
      refine lv_aload_n (pc := 45) hx hb dX6_hours_45 rfl (lv_at hl 0 rfl) ?_
      refine rp_get (pc := 46) hC hw 54 (by decide) (xt_reg _) fl_X6_10 (.ref (a 40)) rfl dX6_hours_46 ?_
      refine rp_get (pc := 49) hC hw 40 (by decide) ((xt_eve (i := 0) (by decide)) _) fl_X6_165 (.ref (a 31)) rfl dX6_hours_49 ?_
      obtain ⟨r3, σ4, hq, hF⟩ := rp_bd_e hF
      refine rp_kv (rp_runV (rest := []) hC (xE_ok _) hw hl.1 (mX0_passHours (l := l) 0 (by decide) 1 (by decide) v1 σ2 _ hq) vw_X6_168 (by decide) ((xt_ball (b := 0) (by decide)) _) rfl rfl rfl (Nat.le_of_ble_eq_true rfl) (by decide) dX6_hours_52) hw (fun H locs hw => ?_)
      clear hq
      refine lv_aload_n (pc := 55) hx hb dX6_hours_55 rfl (lv_at hl 0 rfl) ?_
      refine rp_get (pc := 56) hC hw 54 (by decide) (xt_reg _) fl_X6_10 (.ref (a 40)) rfl dX6_hours_56 ?_
      refine lv_dup (pc := 59) hx hb dX6_hours_59 rfl ?_
      refine rp_get (pc := 60) hC hw 40 (by decide) ((xt_eve (i := 0) (by decide)) _) fl_X6_162 (.int (σ4 40 7)) rfl dX6_hours_60 ?_
      refine lv_iload_n (pc := 63) hx hb dX6_hours_63 rfl (lv_at hl 1 rfl) ?_
      refine lv_iadd (pc := 64) hx hb dX6_hours_64 ?_
      refine rp_set (pc := 65) (fs := xb_eve a 0) hC hw 40 (by decide) (xt_eve (i := 0) (by decide)) fg_X6_162 rfl (Nat.le_of_ble_eq_true rfl) rfl rfl dX6_hours_65 (fun H locs hw => ?_)
      obtain ⟨σ5, eσ5, hF⟩ := rp_nm_e hF
      replace hw := rp_Wn eσ5 hw
      clear eσ5
      refine lv_aload_n (pc := 68) hx hb dX6_hours_68 rfl (lv_at hl 0 rfl) ?_
      refine rp_get (pc := 69) hC hw 54 (by decide) (xt_reg _) fl_X6_10 (.ref (a 40)) rfl dX6_hours_69 ?_
      refine rp_get (pc := 72) hC hw 40 (by decide) ((xt_eve (i := 0) (by decide)) _) fl_X6_70 (.ref (a 0)) rfl dX6_hours_72 ?_
      obtain ⟨r6, σ7, hq, hF⟩ := rp_bd_e hF
      refine rp_ki (rp_runV (rest := []) hC (xE_ok _) hw hl.1 (mX0_rueTogether (l := l) 0 (by decide) σ5 _ hq) vw_X6_172 (by decide) ((xt_ball (b := 0) (by decide)) _) rfl rfl rfl (Nat.le_of_ble_eq_true rfl) (by decide) dX6_hours_75) hw (fun H locs hw => ?_)
      clear hq
      exact rp_reti (pc := 78) hC hw hF dX6_hours_78
    · replace hF := rp_if hc hF
      refine lv_aload_n (pc := 31) hx hb dX6_hours_31 rfl (lv_at hl 0 rfl) ?_
      refine lv_iconst (pc := 32) (v := 3) hx hb dX6_hours_32 (by decide) ?_
      obtain ⟨r8, σ9, hq, hF⟩ := rp_bd_e hF
      refine rp_ki (rp_runV (rest := []) hC (xE_ok _) hw hl.1 (mX6_refuse (l := l) 3 σ2 _ hq) vw_X6_66 (by decide) (xt_reg _) rfl rfl rfl (Nat.le_of_ble_eq_true rfl) (by decide) dX6_hours_33) hw (fun H locs hw => ?_)
      clear hq
      exact rp_reti (pc := 36) hC hw hF dX6_hours_36
  · replace hF := rp_it hc hF
    refine lv_aload_n (pc := 10) hx hb dX6_hours_10 rfl (lv_at hl 0 rfl) ?_
    refine lv_iconst (pc := 11) (v := 1) hx hb dX6_hours_11 (by decide) ?_
    obtain ⟨r10, σ11, hq, hF⟩ := rp_bd_e hF
    refine rp_ki (rp_runV (rest := []) hC (xE_ok _) hw hl.1 (mX6_refuse (l := l) 1 σ2 _ hq) vw_X6_66 (by decide) (xt_reg _) rfl rfl rfl (Nat.le_of_ble_eq_true rfl) (by decide) dX6_hours_12) hw (fun H locs hw => ?_)
    clear hq
    exact rp_reti (pc := 15) hC hw hF dX6_hours_15
theorem mX6_hours {l : Launch} {D : va_G} {cI cB cS : ClassId} {a : Nat → Nat} (v1 : Int32) (σ : rp_St) (res : Int32 × rp_St) (hF : fX6_hours v1 σ = some res) : xM l D cI cB cS a yX6_hours cX6_hours 2 (some .int) 6 [.ref (a 54), .int v1] σ (rp_Qi D a (xt cI cB cS a) 62 res) :=
  rp_entry (by decide) (Nat.le_of_ble_eq_true rfl) (fun p e s m below meth c ls hC hw hl => kX6_hours_0 hC v1 σ _ _ _ hF hw (lv_sub hl [0, 1] rfl))
def fX1_draw (g0 : Nat) (σ : rp_St) : Option (Int32 × rp_St) :=
  rp_nm (rp_put σ (40 + 3 * g0) 8 (((σ (40 + 3 * g0) 8) * 1103515245) + 12345)) (fun σ1 => some (((((σ1 (40 + 3 * g0) 8) : Int32).toUInt32 >>> ((8 : Int32).toUInt32 &&& Int32.toUInt32 31)).toInt32), σ1))
set_option maxRecDepth 100000 in
set_option maxHeartbeats 4000000 in
theorem kX1_draw_0 {p : Program} {l : Launch} {e : Env} {s : State} {m : MethodId} {args : Array Value} {below : List Frame} {meth : Method} {c : Code} {D : va_G} {cI cB cS : ClassId} {a : Nat → Nat} {res : Int32 × rp_St} (g0 : Nat) (h_g0 : g0 < 2) (hC : xC p s m args meth c cX1_draw 1 "RegretPegs$Evening" (some .int) D cI cB cS a) (σ : rp_St) (H : Heap) (locs : List Loc) (ls : Array Slot) (hF : fX1_draw g0 σ = some res) (hw : xW D cI cB cS a s σ H locs) (hl : lv_has ls 1 [(0, .ref (a (40 + 3 * g0)))]) : W p l e (rp_rm 1) s m args below meth c H locs 0 0 (MQ below (rp_Qi D a (xt cI cB cS a) 62 res) args s 0 0 (rp_A a 62)) (F0 m 0 ls []) := by
  have hx := hC.1
  have hb := hC.2.1
  have hown := hC.2.2.2.1
  have hts := hC.2.2.2.2.1
  unfold fX1_draw at hF
  refine lv_aload_n (pc := 0) hx hb dX1_draw_0 rfl (lv_at hl 0 rfl) ?_
  refine lv_aload_n (pc := 1) hx hb dX1_draw_1 rfl (lv_at hl 0 rfl) ?_
  refine rp_get (pc := 2) hC hw (40 + 3 * g0) (by omega) ((xt_eve (i := g0) (by omega)) _) fl_X1_48 (.int (σ (40 + 3 * g0) 8)) rfl dX1_draw_2 ?_
  refine lv_ldc (pc := 5) (v := 1103515245) hx hb hown (hts _ wd_442) dX1_draw_5 ?_
  refine lv_imul (pc := 7) hx hb dX1_draw_7 ?_
  refine lv_sipush (pc := 8) (v := 12345) hx hb dX1_draw_8 (by decide) ?_
  refine lv_iadd (pc := 11) hx hb dX1_draw_11 ?_
  refine rp_set (pc := 12) (fs := xb_eve a g0) hC hw (40 + 3 * g0) (by omega) (xt_eve (i := g0) (by omega)) fg_X1_48 rfl (Nat.le_of_ble_eq_true rfl) rfl rfl dX1_draw_12 (fun H locs hw => ?_)
  obtain ⟨σ1, eσ1, hF⟩ := rp_nm_e hF
  replace hw := rp_Wn eσ1 hw
  clear eσ1
  refine lv_aload_n (pc := 15) hx hb dX1_draw_15 rfl (lv_at hl 0 rfl) ?_
  refine rp_get (pc := 16) hC hw (40 + 3 * g0) (by omega) ((xt_eve (i := g0) (by omega)) _) fl_X1_48 (.int (σ1 (40 + 3 * g0) 8)) rfl dX1_draw_16 ?_
  refine lv_bipush (pc := 19) (v := 8) hx hb dX1_draw_19 (by decide) ?_
  refine lv_iushr (pc := 21) hx hb dX1_draw_21 rfl ?_
  exact rp_reti (pc := 22) hC hw hF dX1_draw_22
theorem mX1_draw {l : Launch} {D : va_G} {cI cB cS : ClassId} {a : Nat → Nat} (g0 : Nat) (h_g0 : g0 < 2)  (σ : rp_St) (res : Int32 × rp_St) (hF : fX1_draw g0 σ = some res) : xM l D cI cB cS a yX1_draw cX1_draw 1 (some .int) 1 [.ref (a (40 + 3 * g0))] σ (rp_Qi D a (xt cI cB cS a) 62 res) :=
  rp_entry (by decide) (Nat.le_of_ble_eq_true rfl) (fun p e s m below meth c ls hC hw hl => kX1_draw_0 g0 h_g0 hC σ _ _ _ hF hw (lv_sub hl [0] rfl))
