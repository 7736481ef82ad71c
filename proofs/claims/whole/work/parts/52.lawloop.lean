set_option maxRecDepth 100000 in
theorem law_exit {p : Program} {l : Launch} {e : Env} {s : State} {m : MethodId} {below : List Frame} {meth : Method} {c : Code} {D : va_G} {cI cB cS cT : ClassId} {ax am ad av : Nat → Nat} {b L : Nat} {xs : Nat → Int32} (hL : L ≤ 3072) (hC : lC p s m meth c b L xs D cI cB cS cT ax am ad av) (i : Nat) (x3 : Int32) (σ τ : rp_St) (H : Heap) (locs : List Loc) (ls : Array Slot) (hlt : L < i + 6) (hi : i ≤ L + 6) (ex : x3 = nI i) (hw : lS D cI cB cS cT ax am ad s σ τ H locs) (hl : lv_has ls 4 [(0, .ref b), (1, .ref (ax 54)), (2, .ref (am 0)), (3, .int x3)]) : W p l e room_1 s m #[Value.ref b] below meth c H locs 77 2186 (lw_Z below #[Value.ref b] s) (F0 m 18 ls []) := by
  have hx := hC.1.1
  have hb := hC.1.2.1
  have hr := hC.1.2.2.1
  have hlocks := hC.1.2.2.2.2.2.2.2.2.1
  have hcond : nI L - 6 < x3 := by
    rw [ex, Int32.lt_iff_toInt_lt, nI_toInt (by omega)]
    have h6 := pk_sub_toInt (a := L) (b := 6) (by omega) (by omega)
    rw [show (nI L - 6 : Int32) = nI L - nI 6 from rfl, h6]
    omega
  refine lv_iload_n (pc := 18) hx hb dL_law_18 rfl (lv_at hl 3 rfl) ?_
  refine lv_aload_n (pc := 19) hx hb dL_law_19 rfl (lv_at hl 0 rfl) ?_
  refine ls_len (pc := 20) hC hw dL_law_20 ?_
  refine lv_bipush (pc := 21) (v := 6) hx hb dL_law_21 (by decide) ?_
  refine lv_isub (pc := 23) hx hb dL_law_23 ?_
  refine lv_icmp_gt (pc := 24) (tgt := 1427) hx hb dL_law_24 (by decide) (fun _ => ?_) (fun hc => absurd hcond hc)
  refine lv_iconst (pc := 1427) (v := 1) hx hb dL_law_1427 (by decide) ?_
  refine va_forget (fun q hq => hw.2.2.2.2 q hq) ?_
  refine W.widen (k := 600000) (n := 7302250) (by decide) (by decide) ?_
  exact lw_ret (pc := 1428) hx hb hr hlocks dL_law_1428
def law_ops (RR : rp_St → rp_St → Prop) : Prop :=
  (∀ (v1 : Int32) (v2 : Int32) (σ τ : rp_St), RR σ τ → ∃ (r : Int32) (σ' τ' : rp_St), fX6_guest v1 v2 σ = some (r, σ') ∧ fX7_guest v1 v2 τ = some (r, τ') ∧ RR σ' τ') ∧
  (∀ (v1 : Int32) (v2 : Int32) (σ τ : rp_St), RR σ τ → ∃ (r : Int32) (σ' τ' : rp_St), fX6_ofGuest v1 v2 σ = some (r, σ') ∧ fX7_ofGuest v1 v2 τ = some (r, τ') ∧ RR σ' τ') ∧
  (∀ (v1 : Int32) (v2 : Int32) (v3 : Int32) (σ τ : rp_St), RR σ τ → ∃ (r : Int32) (σ' τ' : rp_St), fX6_change v1 v2 v3 σ = some (r, σ') ∧ fX7_change v1 v2 v3 τ = some (r, τ') ∧ RR σ' τ') ∧
  (∀ (v1 : Int32) (σ τ : rp_St), RR σ τ → ∃ (r : Int32) (σ' τ' : rp_St), fX6_peg v1 σ = some (r, σ') ∧ fX7_peg v1 τ = some (r, τ') ∧ RR σ' τ') ∧
  (∀ (v1 : Int32) (v2 : Int32) (σ τ : rp_St), RR σ τ → ∃ (r : Int32) (σ' τ' : rp_St), fX6_hang v1 v2 σ = some (r, σ') ∧ fX7_hang v1 v2 τ = some (r, τ') ∧ RR σ' τ') ∧
  (∀ (v1 : Int32) (v2 : Int32) (σ τ : rp_St), RR σ τ → ∃ (r : Int32) (σ' τ' : rp_St), fX6_become v1 v2 σ = some (r, σ') ∧ fX7_become v1 v2 τ = some (r, τ') ∧ RR σ' τ') ∧
  (∀ (v1 : Int32) (v2 : Int32) (σ τ : rp_St), RR σ τ → ∃ (r : Int32) (σ' τ' : rp_St), fX6_as v1 v2 σ = some (r, σ') ∧ fX7_as v1 v2 τ = some (r, τ') ∧ RR σ' τ') ∧
  (∀ (v1 : Int64) (v3 : Int32) (σ τ : rp_St), RR σ τ → ∃ (r : Int32) (σ' τ' : rp_St), fX6_feed v1 v3 σ = some (r, σ') ∧ fX7_feed v1 v3 τ = some (r, τ') ∧ RR σ' τ') ∧
  (∀ (v1 : Int32) (σ τ : rp_St), RR σ τ → ∃ (r : Int32) (σ' τ' : rp_St), fX6_text v1 σ = some (r, σ') ∧ fX7_text v1 τ = some (r, τ') ∧ RR σ' τ') ∧
  (∀ (v1 : Int32) (v2 : Int32) (v3 : Int32) (v4 : Int32) (σ τ : rp_St), RR σ τ → ∃ (r : Int32) (σ' τ' : rp_St), fX6_law v1 v2 v3 v4 σ = some (r, σ') ∧ fX7_law v1 v2 v3 v4 τ = some (r, τ') ∧ RR σ' τ') ∧
  (∀ (v1 : Int32) (v2 : Int32) (σ τ : rp_St), RR σ τ → ∃ (r : Int32) (σ' τ' : rp_St), fX6_dance v1 v2 σ = some (r, σ') ∧ fX7_dance v1 v2 τ = some (r, τ') ∧ RR σ' τ') ∧
  (∀ (v1 : Int32) (σ τ : rp_St), RR σ τ → ∃ (r : Int32) (σ' τ' : rp_St), fX6_hours v1 σ = some (r, σ') ∧ fX7_hours v1 τ = some (r, τ') ∧ RR σ' τ') ∧
  (∀ (v1 : Int32) (σ τ : rp_St), RR σ τ → ∃ (r : Int32) (σ' τ' : rp_St), fX6_loose v1 σ = some (r, σ') ∧ fX7_loose v1 τ = some (r, τ') ∧ RR σ' τ') ∧
  (∀ (v1 : Int32) (v2 : Int32) (v3 : Int32) (σ τ : rp_St), RR σ τ → ∃ (r : Int32) (σ' τ' : rp_St), fX6_then v1 v2 v3 σ = some (r, σ') ∧ fX7_then v1 v2 v3 τ = some (r, τ') ∧ RR σ' τ') ∧
  (∀ (v1 : Int32) (σ τ : rp_St), RR σ τ → ∃ (r : Int32) (σ' τ' : rp_St), fX6_last v1 σ = some (r, σ') ∧ fX7_last v1 τ = some (r, τ') ∧ RR σ' τ') ∧
  (∀ (v1 : Int32) (v2 : Int32) (v3 : Int32) (σ τ : rp_St), RR σ τ → ∃ (r : Int32) (σ' τ' : rp_St), fX6_partner v1 v2 v3 σ = some (r, σ') ∧ fX7_partner v1 v2 v3 τ = some (r, τ') ∧ RR σ' τ') ∧
  (∀ (v1 : Int32) (v2 : Int32) (v3 : Int32) (v4 : Int32) (σ τ : rp_St), RR σ τ → ∃ (r : Int32) (σ' τ' : rp_St), fX6_dances v1 v2 v3 v4 σ = some (r, σ') ∧ fX7_dances v1 v2 v3 v4 τ = some (r, τ') ∧ RR σ' τ') ∧
  (∀ (v1 : Int32) (v2 : Int32) (σ τ : rp_St), RR σ τ → ∃ (r : Int32) (σ' τ' : rp_St), fX6_whoDanced v1 v2 σ = some (r, σ') ∧ fX7_whoDanced v1 v2 τ = some (r, τ') ∧ RR σ' τ') ∧
  (∀ (σ τ : rp_St), RR σ τ → ∃ (r : Int32) (σ' τ' : rp_St), fX6_inOrder σ = some (r, σ') ∧ fX7_inOrder τ = some (r, τ') ∧ RR σ' τ') ∧
  (∀ (σ τ : rp_St), RR σ τ → ∃ (r : Int32) (σ' τ' : rp_St), fX6_wrongs σ = some (r, σ') ∧ fX7_wrongs τ = some (r, τ') ∧ RR σ' τ') ∧
  (∀ (σ τ : rp_St), RR σ τ → ∃ (r : Int32) (σ' τ' : rp_St), fX6_swap σ = some (r, σ') ∧ fX7_swap τ = some (r, τ') ∧ RR σ' τ') ∧
  (∀ (v1 : Int32) (v2 : Int32) (σ τ : rp_St), RR σ τ → ∃ (r : Int32) (σ' τ' : rp_St), fX6_go v1 v2 σ = some (r, σ') ∧ fX7_go v1 v2 τ = some (r, τ') ∧ RR σ' τ') ∧
  (∀ (v1 : Int32) (σ τ : rp_St), RR σ τ → ∃ (r : Int32) (σ' τ' : rp_St), fX6_allRue v1 σ = some (r, σ') ∧ fX7_allRue v1 τ = some (r, τ') ∧ RR σ' τ') ∧
  (∀ (v1 : Int32) (v2 : Int32) (σ τ : rp_St), RR σ τ → ∃ (r : Int32) (σ' τ' : rp_St), fX6_sorriest v1 v2 σ = some (r, σ') ∧ fX7_sorriest v1 v2 τ = some (r, τ') ∧ RR σ' τ') ∧
  (∀ (v1 : Int32) (v2 : Int32) (v3 : Int32) (v4 : Int32) (σ τ : rp_St), RR σ τ → ∃ (r : Int32) (σ' τ' : rp_St), fX6_odds v1 v2 v3 v4 σ = some (r, σ') ∧ fX7_odds v1 v2 v3 v4 τ = some (r, τ') ∧ RR σ' τ') ∧
  (∀ (v1 : Int32) (σ τ : rp_St), RR σ τ → ∃ (r : Int32) (σ' τ' : rp_St), fX6_seed v1 σ = some (r, σ') ∧ fX7_seed v1 τ = some (r, τ') ∧ RR σ' τ') ∧
  (∀ (v1 : Int32) (v2 : Int32) (v3 : Int32) (σ τ : rp_St), RR σ τ → ∃ (r : Int32) (σ' τ' : rp_St), fX6_voice v1 v2 v3 σ = some (r, σ') ∧ fX7_voice v1 v2 v3 τ = some (r, τ') ∧ RR σ' τ') ∧
  (∀ (v1 : Int32) (σ τ : rp_St), RR σ τ → ∃ (r : Int32) (σ' τ' : rp_St), fX6_trace v1 σ = some (r, σ') ∧ fX7_trace v1 τ = some (r, τ') ∧ RR σ' τ') ∧
  (∀ (v1 : Int32) (v2 : Int32) (v3 : Int32) (σ τ : rp_St), RR σ τ → ∃ (r : Int32) (σ' τ' : rp_St), fX6_sheet v1 v2 v3 σ = some (r, σ') ∧ fX7_sheet v1 v2 v3 τ = some (r, τ') ∧ RR σ' τ') ∧
  (∀ (v1 : Int32) (v2 : Int32) (v3 : Int32) (σ τ : rp_St), RR σ τ → ∃ (r : Int32) (σ' τ' : rp_St), fX6_put v1 v2 v3 σ = some (r, σ') ∧ fX7_put v1 v2 v3 τ = some (r, τ') ∧ RR σ' τ') ∧
  (∀ (v1 : Int32) (v2 : Int32) (v3 : Int32) (v4 : Int32) (v5 : Int32) (σ τ : rp_St), RR σ τ → ∃ (r : Int32) (σ' τ' : rp_St), fX6_move v1 v2 v3 v4 v5 σ = some (r, σ') ∧ fX7_move v1 v2 v3 v4 v5 τ = some (r, τ') ∧ RR σ' τ') ∧
  (∀ (v1 : Int32) (σ τ : rp_St), RR σ τ → ∃ (r : Int32) (σ' τ' : rp_St), fX6_rues v1 σ = some (r, σ') ∧ fX7_rues v1 τ = some (r, τ') ∧ RR σ' τ') ∧
  (∀ (v1 : Int32) (σ τ : rp_St), RR σ τ → ∃ (r : Int32) (σ' τ' : rp_St), fX6_judge v1 σ = some (r, σ') ∧ fX7_judge v1 τ = some (r, τ') ∧ RR σ' τ') ∧
  (∀ (σ τ : rp_St), RR σ τ → ∃ (r : Int32) (σ' τ' : rp_St), fX6_image σ = some (r, σ') ∧ fX7_image τ = some (r, τ') ∧ RR σ' τ') ∧
  (∀ (σ τ : rp_St), RR σ τ → ∃ (r : Int32) (σ' τ' : rp_St), fX6_restore σ = some (r, σ') ∧ fX7_restore τ = some (r, τ') ∧ RR σ' τ') ∧
  (∀ (v1 : Int32) (σ τ : rp_St), RR σ τ → ∃ (r : Int32) (σ' τ' : rp_St), fX6_tell v1 σ = some (r, σ') ∧ fX7_tell v1 τ = some (r, τ') ∧ RR σ' τ') ∧
  (∀ (σ τ : rp_St), RR σ τ → ∃ (r : Int32) (σ' τ' : rp_St), fX6_check σ = some (r, σ') ∧ fX7_check τ = some (r, τ') ∧ RR σ' τ') ∧
  (∀ (v1 : Int32) (σ τ : rp_St), RR σ τ → ∃ (r : Int32) (σ' τ' : rp_St), fX6_count v1 σ = some (r, σ') ∧ fX7_count v1 τ = some (r, τ') ∧ RR σ' τ') ∧
  (∀ (v1 : Int32) (σ τ : rp_St), RR σ τ → ∃ (r : Int32) (σ' τ' : rp_St), fX6_told v1 σ = some (r, σ') ∧ fX7_told v1 τ = some (r, τ') ∧ RR σ' τ')
set_option maxRecDepth 100000 in
set_option maxHeartbeats 8000000 in
theorem law_loop {p : Program} {l : Launch} {e : Env} {s : State} {m : MethodId} {below : List Frame} {meth : Method} {c : Code} {D : va_G} {cI cB cS cT : ClassId} {ax am ad av : Nat → Nat} {b L : Nat} {xs : Nat → Int32} {RR : rp_St → rp_St → Prop} (hops : law_ops RR) (hL : L ≤ 3072) (hC : lC p s m meth c b L xs D cI cB cS cT ax am ad av) : ∀ (n i : Nat) (x3 : Int32) (σ τ : rp_St) (H : Heap) (locs : List Loc) (ls : Array Slot), L < i + n → i ≤ L + 6 → x3 = nI i → RR σ τ → lS D cI cB cS cT ax am ad s σ τ H locs → lv_has ls 4 [(0, .ref b), (1, .ref (ax 54)), (2, .ref (am 0)), (3, .int x3)] → W p l e room_1 s m #[Value.ref b] below meth c H locs 77 2186 (lw_Z below #[Value.ref b] s) (F0 m 18 ls []) := by
  intro n
  have hx := hC.1.1
  have hb := hC.1.2.1
  have hr := hC.1.2.2.1
  have hlocks := hC.1.2.2.2.2.2.2.2.2.1
  induction n with
  | zero =>
    intro i x3 σ τ H locs ls hn hi ex hR hw hl
    exact law_exit hL hC i x3 σ τ H locs ls (by omega) hi ex hw hl
  | succ n ih =>
    intro i x3 σ τ H locs ls hn hi ex hR hw hl
    by_cases hlt : L < i + 6
    · exact law_exit hL hC i x3 σ τ H locs ls hlt hi ex hw hl
    · have hk : ∀ (σ τ : rp_St) (H : Heap) (locs : List Loc), RR σ τ → lS D cI cB cS cT ax am ad s σ τ H locs → W p l e room_1 s m #[Value.ref b] below meth c H locs 77 2186 (lw_Z below #[Value.ref b] s) (F0 m 1421 ls []) := by
        intro σ τ H locs hR hw
        obtain ⟨y3, ey⟩ : ∃ y : Int32, y = x3 + 6 := ⟨_, rfl⟩
        refine lv_iinc (pc := 1421) (v := y3) (lv' := [(3, .int y3), (0, .ref b), (1, .ref (ax 54)), (2, .ref (am 0))]) hx hb dL_law_1421 hl (k := 3) rfl (by rw [ey]; rfl) (by decide) rfl (fun ls hl => ?_)
        refine lv_goto (pc := 1424) (tgt := 18) hx hb dL_law_1424 (by decide) ?_
        exact ih (i + 6) y3 σ τ H locs ls (by omega) (by omega) (by rw [ey, ex]; exact nI_add i 6) hR hw (lv_sub hl [1, 2, 3, 0] rfl)
      have h0 : vp_in x3 L := by rw [ex]; exact vp_in_nI (by omega) (by omega)
      have h1 : vp_in (x3 + 1) L := by rw [ex]; exact (nI_add i 1) ▸ vp_in_nI (by omega) (by omega)
      have h2 : vp_in (x3 + 2) L := by rw [ex]; exact (nI_add i 2) ▸ vp_in_nI (by omega) (by omega)
      have h3 : vp_in (x3 + 3) L := by rw [ex]; exact (nI_add i 3) ▸ vp_in_nI (by omega) (by omega)
      have h4 : vp_in (x3 + 4) L := by rw [ex]; exact (nI_add i 4) ▸ vp_in_nI (by omega) (by omega)
      have h5 : vp_in (x3 + 5) L := by rw [ex]; exact (nI_add i 5) ▸ vp_in_nI (by omega) (by omega)
      have hcond : ¬ nI L - 6 < x3 := by
        rw [ex, show (nI L - 6 : Int32) = nI L - nI 6 from rfl, pk_sub (by omega)]
        exact nI_nlt (by omega) (by omega)
      refine lv_iload_n (pc := 18) hx hb dL_law_18 rfl (lv_at hl 3 rfl) ?_
      refine lv_aload_n (pc := 19) hx hb dL_law_19 rfl (lv_at hl 0 rfl) ?_
      refine ls_len (pc := 20) hC hw dL_law_20 ?_
      refine lv_bipush (pc := 21) (v := 6) hx hb dL_law_21 (by decide) ?_
      refine lv_isub (pc := 23) hx hb dL_law_23 ?_
      refine lv_icmp_gt (pc := 24) (tgt := 1427) hx hb dL_law_24 (by decide) (fun hc => absurd hc hcond) (fun _ => ?_)
      refine lv_aload_n (pc := 27) hx hb dL_law_27 rfl (lv_at hl 0 rfl) ?_
      refine lv_iload_n (pc := 28) hx hb dL_law_28 rfl (lv_at hl 3 rfl) ?_
      refine ls_ld (pc := 29) hC hw h0 dL_law_29 ?_
      refine lv_bipush (pc := 30) (v := 63) hx hb dL_law_30 (by decide) ?_
      refine lv_iand (pc := 32) hx hb dL_law_32 ?_
      refine lv_topi (fun sel _ => ?_)
      by_cases hs0 : sel = 0
      · refine lv_tableIn (pc := 33) (off := 171) (tgt := 204) hx hb dL_law_33 (by rw [hs0]; decide) (by rw [hs0]; decide) (by rw [hs0]; decide +kernel) (by decide) ?_
        exact law_c0 hops.1 hC x3 h0 h1 h2 h3 h4 h5 ls hl hk σ τ H locs hR hw
      by_cases hs1 : sel = 1
      · refine lv_tableIn (pc := 33) (off := 204) (tgt := 237) hx hb dL_law_33 (by rw [hs1]; decide) (by rw [hs1]; decide) (by rw [hs1]; decide +kernel) (by decide) ?_
        exact law_c1 hops.2.1 hC x3 h0 h1 h2 h3 h4 h5 ls hl hk σ τ H locs hR hw
      by_cases hs2 : sel = 2
      · refine lv_tableIn (pc := 33) (off := 237) (tgt := 270) hx hb dL_law_33 (by rw [hs2]; decide) (by rw [hs2]; decide) (by rw [hs2]; decide +kernel) (by decide) ?_
        exact law_c2 hops.2.2.1 hC x3 h0 h1 h2 h3 h4 h5 ls hl hk σ τ H locs hR hw
      by_cases hs3 : sel = 3
      · refine lv_tableIn (pc := 33) (off := 280) (tgt := 313) hx hb dL_law_33 (by rw [hs3]; decide) (by rw [hs3]; decide) (by rw [hs3]; decide +kernel) (by decide) ?_
        exact law_c3 hops.2.2.2.1 hC x3 h0 h1 h2 h3 h4 h5 ls hl hk σ τ H locs hR hw
      by_cases hs4 : sel = 4
      · refine lv_tableIn (pc := 33) (off := 303) (tgt := 336) hx hb dL_law_33 (by rw [hs4]; decide) (by rw [hs4]; decide) (by rw [hs4]; decide +kernel) (by decide) ?_
        exact law_c4 hops.2.2.2.2.1 hC x3 h0 h1 h2 h3 h4 h5 ls hl hk σ τ H locs hR hw
      by_cases hs5 : sel = 5
      · refine lv_tableIn (pc := 33) (off := 336) (tgt := 369) hx hb dL_law_33 (by rw [hs5]; decide) (by rw [hs5]; decide) (by rw [hs5]; decide +kernel) (by decide) ?_
        exact law_c5 hops.2.2.2.2.2.1 hC x3 h0 h1 h2 h3 h4 h5 ls hl hk σ τ H locs hR hw
      by_cases hs6 : sel = 6
      · refine lv_tableIn (pc := 33) (off := 369) (tgt := 402) hx hb dL_law_33 (by rw [hs6]; decide) (by rw [hs6]; decide) (by rw [hs6]; decide +kernel) (by decide) ?_
        exact law_c6 hops.2.2.2.2.2.2.1 hC x3 h0 h1 h2 h3 h4 h5 ls hl hk σ τ H locs hR hw
      by_cases hs7 : sel = 7
      · refine lv_tableIn (pc := 33) (off := 402) (tgt := 435) hx hb dL_law_33 (by rw [hs7]; decide) (by rw [hs7]; decide) (by rw [hs7]; decide +kernel) (by decide) ?_
        exact law_c7 hops.2.2.2.2.2.2.2.1 hC x3 h0 h1 h2 h3 h4 h5 ls hl hk σ τ H locs hR hw
      by_cases hs8 : sel = 8
      · refine lv_tableIn (pc := 33) (off := 465) (tgt := 498) hx hb dL_law_33 (by rw [hs8]; decide) (by rw [hs8]; decide) (by rw [hs8]; decide +kernel) (by decide) ?_
        exact law_c8 hops.2.2.2.2.2.2.2.2.1 hC x3 h0 h1 h2 h3 h4 h5 ls hl hk σ τ H locs hR hw
      by_cases hs9 : sel = 9
      · refine lv_tableIn (pc := 33) (off := 488) (tgt := 521) hx hb dL_law_33 (by rw [hs9]; decide) (by rw [hs9]; decide) (by rw [hs9]; decide +kernel) (by decide) ?_
        exact law_c9 hops.2.2.2.2.2.2.2.2.2.1 hC x3 h0 h1 h2 h3 h4 h5 ls hl hk σ τ H locs hR hw
      by_cases hs10 : sel = 10
      · refine lv_tableIn (pc := 33) (off := 541) (tgt := 574) hx hb dL_law_33 (by rw [hs10]; decide) (by rw [hs10]; decide) (by rw [hs10]; decide +kernel) (by decide) ?_
        exact law_c10 hops.2.2.2.2.2.2.2.2.2.2.1 hC x3 h0 h1 h2 h3 h4 h5 ls hl hk σ τ H locs hR hw
      by_cases hs11 : sel = 11
      · refine lv_tableIn (pc := 33) (off := 574) (tgt := 607) hx hb dL_law_33 (by rw [hs11]; decide) (by rw [hs11]; decide) (by rw [hs11]; decide +kernel) (by decide) ?_
        exact law_c11 hops.2.2.2.2.2.2.2.2.2.2.2.1 hC x3 h0 h1 h2 h3 h4 h5 ls hl hk σ τ H locs hR hw
      by_cases hs12 : sel = 12
      · refine lv_tableIn (pc := 33) (off := 597) (tgt := 630) hx hb dL_law_33 (by rw [hs12]; decide) (by rw [hs12]; decide) (by rw [hs12]; decide +kernel) (by decide) ?_
        exact law_c12 hops.2.2.2.2.2.2.2.2.2.2.2.2.1 hC x3 h0 h1 h2 h3 h4 h5 ls hl hk σ τ H locs hR hw
      by_cases hs13 : sel = 13
      · refine lv_tableIn (pc := 33) (off := 620) (tgt := 653) hx hb dL_law_33 (by rw [hs13]; decide) (by rw [hs13]; decide) (by rw [hs13]; decide +kernel) (by decide) ?_
        exact law_c13 hops.2.2.2.2.2.2.2.2.2.2.2.2.2.1 hC x3 h0 h1 h2 h3 h4 h5 ls hl hk σ τ H locs hR hw
      by_cases hs14 : sel = 14
      · refine lv_tableIn (pc := 33) (off := 663) (tgt := 696) hx hb dL_law_33 (by rw [hs14]; decide) (by rw [hs14]; decide) (by rw [hs14]; decide +kernel) (by decide) ?_
        exact law_c14 hops.2.2.2.2.2.2.2.2.2.2.2.2.2.2.1 hC x3 h0 h1 h2 h3 h4 h5 ls hl hk σ τ H locs hR hw
      by_cases hs15 : sel = 15
      · refine lv_tableIn (pc := 33) (off := 686) (tgt := 719) hx hb dL_law_33 (by rw [hs15]; decide) (by rw [hs15]; decide) (by rw [hs15]; decide +kernel) (by decide) ?_
        exact law_c15 hops.2.2.2.2.2.2.2.2.2.2.2.2.2.2.2.1 hC x3 h0 h1 h2 h3 h4 h5 ls hl hk σ τ H locs hR hw
      by_cases hs16 : sel = 16
      · refine lv_tableIn (pc := 33) (off := 729) (tgt := 762) hx hb dL_law_33 (by rw [hs16]; decide) (by rw [hs16]; decide) (by rw [hs16]; decide +kernel) (by decide) ?_
        exact law_c16 hops.2.2.2.2.2.2.2.2.2.2.2.2.2.2.2.2.1 hC x3 h0 h1 h2 h3 h4 h5 ls hl hk σ τ H locs hR hw
      by_cases hs17 : sel = 17
      · refine lv_tableIn (pc := 33) (off := 782) (tgt := 815) hx hb dL_law_33 (by rw [hs17]; decide) (by rw [hs17]; decide) (by rw [hs17]; decide +kernel) (by decide) ?_
        exact law_c17 hops.2.2.2.2.2.2.2.2.2.2.2.2.2.2.2.2.2.1 hC x3 h0 h1 h2 h3 h4 h5 ls hl hk σ τ H locs hR hw
      by_cases hs18 : sel = 18
      · refine lv_tableIn (pc := 33) (off := 815) (tgt := 848) hx hb dL_law_33 (by rw [hs18]; decide) (by rw [hs18]; decide) (by rw [hs18]; decide +kernel) (by decide) ?_
        exact law_c18 hops.2.2.2.2.2.2.2.2.2.2.2.2.2.2.2.2.2.2.1 hC x3 h0 h1 h2 h3 h4 h5 ls hl hk σ τ H locs hR hw
      by_cases hs19 : sel = 19
      · refine lv_tableIn (pc := 33) (off := 828) (tgt := 861) hx hb dL_law_33 (by rw [hs19]; decide) (by rw [hs19]; decide) (by rw [hs19]; decide +kernel) (by decide) ?_
        exact law_c19 hops.2.2.2.2.2.2.2.2.2.2.2.2.2.2.2.2.2.2.2.1 hC x3 h0 h1 h2 h3 h4 h5 ls hl hk σ τ H locs hR hw
      by_cases hs20 : sel = 20
      · refine lv_tableIn (pc := 33) (off := 841) (tgt := 874) hx hb dL_law_33 (by rw [hs20]; decide) (by rw [hs20]; decide) (by rw [hs20]; decide +kernel) (by decide) ?_
        exact law_c20 hops.2.2.2.2.2.2.2.2.2.2.2.2.2.2.2.2.2.2.2.2.1 hC x3 h0 h1 h2 h3 h4 h5 ls hl hk σ τ H locs hR hw
      by_cases hs21 : sel = 21
      · refine lv_tableIn (pc := 33) (off := 854) (tgt := 887) hx hb dL_law_33 (by rw [hs21]; decide) (by rw [hs21]; decide) (by rw [hs21]; decide +kernel) (by decide) ?_
        exact law_c21 hops.2.2.2.2.2.2.2.2.2.2.2.2.2.2.2.2.2.2.2.2.2.1 hC x3 h0 h1 h2 h3 h4 h5 ls hl hk σ τ H locs hR hw
      by_cases hs22 : sel = 22
      · refine lv_tableIn (pc := 33) (off := 887) (tgt := 920) hx hb dL_law_33 (by rw [hs22]; decide) (by rw [hs22]; decide) (by rw [hs22]; decide +kernel) (by decide) ?_
        exact law_c22 hops.2.2.2.2.2.2.2.2.2.2.2.2.2.2.2.2.2.2.2.2.2.2.1 hC x3 h0 h1 h2 h3 h4 h5 ls hl hk σ τ H locs hR hw
      by_cases hs23 : sel = 23
      · refine lv_tableIn (pc := 33) (off := 910) (tgt := 943) hx hb dL_law_33 (by rw [hs23]; decide) (by rw [hs23]; decide) (by rw [hs23]; decide +kernel) (by decide) ?_
        exact law_c23 hops.2.2.2.2.2.2.2.2.2.2.2.2.2.2.2.2.2.2.2.2.2.2.2.1 hC x3 h0 h1 h2 h3 h4 h5 ls hl hk σ τ H locs hR hw
      by_cases hs24 : sel = 24
      · refine lv_tableIn (pc := 33) (off := 943) (tgt := 976) hx hb dL_law_33 (by rw [hs24]; decide) (by rw [hs24]; decide) (by rw [hs24]; decide +kernel) (by decide) ?_
        exact law_c24 hops.2.2.2.2.2.2.2.2.2.2.2.2.2.2.2.2.2.2.2.2.2.2.2.2.1 hC x3 h0 h1 h2 h3 h4 h5 ls hl hk σ τ H locs hR hw
      by_cases hs25 : sel = 25
      · refine lv_tableIn (pc := 33) (off := 996) (tgt := 1029) hx hb dL_law_33 (by rw [hs25]; decide) (by rw [hs25]; decide) (by rw [hs25]; decide +kernel) (by decide) ?_
        exact law_c25 hops.2.2.2.2.2.2.2.2.2.2.2.2.2.2.2.2.2.2.2.2.2.2.2.2.2.1 hC x3 h0 h1 h2 h3 h4 h5 ls hl hk σ τ H locs hR hw
      by_cases hs26 : sel = 26
      · refine lv_tableIn (pc := 33) (off := 1019) (tgt := 1052) hx hb dL_law_33 (by rw [hs26]; decide) (by rw [hs26]; decide) (by rw [hs26]; decide +kernel) (by decide) ?_
        exact law_c26 hops.2.2.2.2.2.2.2.2.2.2.2.2.2.2.2.2.2.2.2.2.2.2.2.2.2.2.1 hC x3 h0 h1 h2 h3 h4 h5 ls hl hk σ τ H locs hR hw
      by_cases hs27 : sel = 27
      · refine lv_tableIn (pc := 33) (off := 1062) (tgt := 1095) hx hb dL_law_33 (by rw [hs27]; decide) (by rw [hs27]; decide) (by rw [hs27]; decide +kernel) (by decide) ?_
        exact law_c27 hops.2.2.2.2.2.2.2.2.2.2.2.2.2.2.2.2.2.2.2.2.2.2.2.2.2.2.2.1 hC x3 h0 h1 h2 h3 h4 h5 ls hl hk σ τ H locs hR hw
      by_cases hs28 : sel = 28
      · refine lv_tableIn (pc := 33) (off := 1085) (tgt := 1118) hx hb dL_law_33 (by rw [hs28]; decide) (by rw [hs28]; decide) (by rw [hs28]; decide +kernel) (by decide) ?_
        exact law_c28 hops.2.2.2.2.2.2.2.2.2.2.2.2.2.2.2.2.2.2.2.2.2.2.2.2.2.2.2.2.1 hC x3 h0 h1 h2 h3 h4 h5 ls hl hk σ τ H locs hR hw
      by_cases hs29 : sel = 29
      · refine lv_tableIn (pc := 33) (off := 1128) (tgt := 1161) hx hb dL_law_33 (by rw [hs29]; decide) (by rw [hs29]; decide) (by rw [hs29]; decide +kernel) (by decide) ?_
        exact law_c29 hops.2.2.2.2.2.2.2.2.2.2.2.2.2.2.2.2.2.2.2.2.2.2.2.2.2.2.2.2.2.1 hC x3 h0 h1 h2 h3 h4 h5 ls hl hk σ τ H locs hR hw
      by_cases hs30 : sel = 30
      · refine lv_tableIn (pc := 33) (off := 1171) (tgt := 1204) hx hb dL_law_33 (by rw [hs30]; decide) (by rw [hs30]; decide) (by rw [hs30]; decide +kernel) (by decide) ?_
        exact law_c30 hops.2.2.2.2.2.2.2.2.2.2.2.2.2.2.2.2.2.2.2.2.2.2.2.2.2.2.2.2.2.2.1 hC x3 h0 h1 h2 h3 h4 h5 ls hl hk σ τ H locs hR hw
      by_cases hs31 : sel = 31
      · refine lv_tableIn (pc := 33) (off := 1234) (tgt := 1267) hx hb dL_law_33 (by rw [hs31]; decide) (by rw [hs31]; decide) (by rw [hs31]; decide +kernel) (by decide) ?_
        exact law_c31 hops.2.2.2.2.2.2.2.2.2.2.2.2.2.2.2.2.2.2.2.2.2.2.2.2.2.2.2.2.2.2.2.1 hC x3 h0 h1 h2 h3 h4 h5 ls hl hk σ τ H locs hR hw
      by_cases hs32 : sel = 32
      · refine lv_tableIn (pc := 33) (off := 1257) (tgt := 1290) hx hb dL_law_33 (by rw [hs32]; decide) (by rw [hs32]; decide) (by rw [hs32]; decide +kernel) (by decide) ?_
        exact law_c32 hops.2.2.2.2.2.2.2.2.2.2.2.2.2.2.2.2.2.2.2.2.2.2.2.2.2.2.2.2.2.2.2.2.1 hC x3 h0 h1 h2 h3 h4 h5 ls hl hk σ τ H locs hR hw
      by_cases hs33 : sel = 33
      · refine lv_tableIn (pc := 33) (off := 1280) (tgt := 1313) hx hb dL_law_33 (by rw [hs33]; decide) (by rw [hs33]; decide) (by rw [hs33]; decide +kernel) (by decide) ?_
        exact law_c33 hops.2.2.2.2.2.2.2.2.2.2.2.2.2.2.2.2.2.2.2.2.2.2.2.2.2.2.2.2.2.2.2.2.2.1 hC x3 h0 h1 h2 h3 h4 h5 ls hl hk σ τ H locs hR hw
      by_cases hs34 : sel = 34
      · refine lv_tableIn (pc := 33) (off := 1293) (tgt := 1326) hx hb dL_law_33 (by rw [hs34]; decide) (by rw [hs34]; decide) (by rw [hs34]; decide +kernel) (by decide) ?_
        exact law_c34 hops.2.2.2.2.2.2.2.2.2.2.2.2.2.2.2.2.2.2.2.2.2.2.2.2.2.2.2.2.2.2.2.2.2.2.1 hC x3 h0 h1 h2 h3 h4 h5 ls hl hk σ τ H locs hR hw
      by_cases hs35 : sel = 35
      · refine lv_tableIn (pc := 33) (off := 1306) (tgt := 1339) hx hb dL_law_33 (by rw [hs35]; decide) (by rw [hs35]; decide) (by rw [hs35]; decide +kernel) (by decide) ?_
        exact law_c35 hops.2.2.2.2.2.2.2.2.2.2.2.2.2.2.2.2.2.2.2.2.2.2.2.2.2.2.2.2.2.2.2.2.2.2.2.1 hC x3 h0 h1 h2 h3 h4 h5 ls hl hk σ τ H locs hR hw
      by_cases hs36 : sel = 36
      · refine lv_tableIn (pc := 33) (off := 1329) (tgt := 1362) hx hb dL_law_33 (by rw [hs36]; decide) (by rw [hs36]; decide) (by rw [hs36]; decide +kernel) (by decide) ?_
        exact law_c36 hops.2.2.2.2.2.2.2.2.2.2.2.2.2.2.2.2.2.2.2.2.2.2.2.2.2.2.2.2.2.2.2.2.2.2.2.2.1 hC x3 h0 h1 h2 h3 h4 h5 ls hl hk σ τ H locs hR hw
      by_cases hs37 : sel = 37
      · refine lv_tableIn (pc := 33) (off := 1342) (tgt := 1375) hx hb dL_law_33 (by rw [hs37]; decide) (by rw [hs37]; decide) (by rw [hs37]; decide +kernel) (by decide) ?_
        exact law_c37 hops.2.2.2.2.2.2.2.2.2.2.2.2.2.2.2.2.2.2.2.2.2.2.2.2.2.2.2.2.2.2.2.2.2.2.2.2.2.1 hC x3 h0 h1 h2 h3 h4 h5 ls hl hk σ τ H locs hR hw
      by_cases hs38 : sel = 38
      · refine lv_tableIn (pc := 33) (off := 1365) (tgt := 1398) hx hb dL_law_33 (by rw [hs38]; decide) (by rw [hs38]; decide) (by rw [hs38]; decide +kernel) (by decide) ?_
        exact law_c38 hops.2.2.2.2.2.2.2.2.2.2.2.2.2.2.2.2.2.2.2.2.2.2.2.2.2.2.2.2.2.2.2.2.2.2.2.2.2.2 hC x3 h0 h1 h2 h3 h4 h5 ls hl hk σ τ H locs hR hw
      refine lv_tableOut (pc := 33) (tgt := 1421) hx hb dL_law_33 (by have := rp_ne 0 0 (by decide) hs0; have := rp_ne 1 1 (by decide) hs1; have := rp_ne 2 2 (by decide) hs2; have := rp_ne 3 3 (by decide) hs3; have := rp_ne 4 4 (by decide) hs4; have := rp_ne 5 5 (by decide) hs5; have := rp_ne 6 6 (by decide) hs6; have := rp_ne 7 7 (by decide) hs7; have := rp_ne 8 8 (by decide) hs8; have := rp_ne 9 9 (by decide) hs9; have := rp_ne 10 10 (by decide) hs10; have := rp_ne 11 11 (by decide) hs11; have := rp_ne 12 12 (by decide) hs12; have := rp_ne 13 13 (by decide) hs13; have := rp_ne 14 14 (by decide) hs14; have := rp_ne 15 15 (by decide) hs15; have := rp_ne 16 16 (by decide) hs16; have := rp_ne 17 17 (by decide) hs17; have := rp_ne 18 18 (by decide) hs18; have := rp_ne 19 19 (by decide) hs19; have := rp_ne 20 20 (by decide) hs20; have := rp_ne 21 21 (by decide) hs21; have := rp_ne 22 22 (by decide) hs22; have := rp_ne 23 23 (by decide) hs23; have := rp_ne 24 24 (by decide) hs24; have := rp_ne 25 25 (by decide) hs25; have := rp_ne 26 26 (by decide) hs26; have := rp_ne 27 27 (by decide) hs27; have := rp_ne 28 28 (by decide) hs28; have := rp_ne 29 29 (by decide) hs29; have := rp_ne 30 30 (by decide) hs30; have := rp_ne 31 31 (by decide) hs31; have := rp_ne 32 32 (by decide) hs32; have := rp_ne 33 33 (by decide) hs33; have := rp_ne 34 34 (by decide) hs34; have := rp_ne 35 35 (by decide) hs35; have := rp_ne 36 36 (by decide) hs36; have := rp_ne 37 37 (by decide) hs37; have := rp_ne 38 38 (by decide) hs38; omega) (by decide) ?_
      exact hk σ τ H locs hR hw
