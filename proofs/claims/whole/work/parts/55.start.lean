set_option maxRecDepth 100000 in
set_option maxHeartbeats 8000000 in
theorem start_open {p : Program} {e : Env} {s : State} {m : MethodId} {below : List Frame} {meth : Method} {c : Code} (l : Launch) {b L : Nat} {xs : Nat → Int32} {RR : rp_St → rp_St → Prop} (hops : law_ops RR) (hR0 : RR x0 m0) (hL : L ≤ 3072) (C0 : lw_At p s m meth c b L xs) : W p l e room_1 s m #[Value.ref b] below meth c s.heap [] 0 0 (lw_Z below #[Value.ref b] s) (entryFrame m ([Value.ref b] : List Value).toArray 4) := by
  obtain ⟨hx, hb, hr, hml, hown, hts, hX, hbl, hlocks, hgv⟩ := id C0
  have hown : s.vm.findClass "RegretPegsLaw" = some m.cls := hown
  have hts0 : ∀ w ∈ rp_W0, w.before #[Value.ref b] s = true := fun w hw => hts w (rp_W0_in w hw)
  obtain ⟨D, cI, cB, cS, cT, hK⟩ := st_known hts
  obtain ⟨ad, av, hTx, hstr⟩ := st_txt (A := fun q : Nat => s.heap.size ≤ q) hgv (fun q hq => by omega)
  have hA : ∀ q : Nat, s.heap.size ≤ q → (fun q : Nat => s.heap.size ≤ q) q := fun _ h => h
  have hS : va_S (fun q : Nat => s.heap.size ≤ q) s.heap s.heap [] := va_S.rf
  have hP : va_P D vwCl [] s.heap := fun k q h => by simp at h
  have hD : va_D (fun q : Nat => s.heap.size ≤ q) [] := ⟨fun i j p q h => by simp at h, fun k q h => by simp at h⟩
  have hl := lv_entry ([.ref b]) (n := 4) (Nat.le_of_ble_eq_true rfl)
  rw [lg_entry_eq]
  generalize (lg_sl ([.ref b]) ++ List.replicate (4 - (lg_sl ([.ref b])).length) Slot.unset).toArray = ls at hl ⊢
  have hl : lv_has ls 4 [(0, .ref b)] := hl
  have hK1 : va_K D vwCl (xTy cI cB cS) s := hK.sub [0, 1, 2] rfl
  have hK2 : va_K D vwCl (mTy cI cT) s := hK.sub [0, 3] rfl
  have hN : kN s := ⟨⟨va_tabs rfl rfl (hts _ (rp_u1 (i := 25) rfl)), va_tabs rfl rfl (hts _ (rp_u1 (i := 31) rfl)), va_tabs rfl rfl (hts _ (rp_u1 (i := 128) rfl)), va_tabs rfl rfl (hts _ (rp_u1 (i := 131) rfl)), va_tabs rfl rfl (hts _ (rp_u1 (i := 159) rfl)), va_tabs rfl rfl (hts _ (rp_u1 (i := 184) rfl))⟩, va_AO.of (hts _ (rp_u1 (i := 182) rfl))⟩
  refine va_new (pc := 0) (ci := 6) (fs := [.null, .null, .int 0, .null, .null, .null, .null, .null, .null]) (C := RX6) (T := TX6) (N := 9) hx hb hts0 uwX6 tyX6 tyX6_ok hown (hts0 _ wd_15) (hts0 _ wd_16) (hts0 _ wd_1) hK hP hD hS hA rfl dv_X6 (Nat.le_of_ble_eq_true rfl) (Nat.le_of_ble_eq_true rfl) dL_law_0 (fun q0 H hP hD hS => ?_)
  refine lv_dup (pc := 3) hx hb dL_law_3 rfl ?_
  refine k_callL (pc := 4) (As := []) (b := q0) (rest := [.ref q0]) (cell := (q0, .inr (6, [.null, .null, .int 0, .null, .null, .null, .null, .null, .null]))) (wr := []) (en' := kN) hK1 hP hD hS hA (k_runI (n := 0) (pc := 4) hx hb hml hown hts0 hl.1 (kX_X6 (l := l) (D := D) (cI := cI) (cB := cB) (cS := cS) q0 H.size) wd_17 wd_18 wd_1 wd_19 ⟨by decide, by decide, by decide +kernel⟩ rfl (by decide) rfl rfl (Nat.le_of_ble_eq_true rfl) ⟨Nat.le_of_ble_eq_true rfl, Nat.le_of_ble_eq_true rfl⟩ dL_law_4 ⟨Nat.le_of_ble_eq_true rfl, Nat.le_of_ble_eq_true rfl⟩) kN_blind (fun U hU hW => kN_warm hW hN) (fun t H1 locs ht hB hj hS => ?_)
  obtain ⟨q52, q59, q57, q55, q53, q1, q2, q3, q4, q5, q6, q7, q8, q9, q10, q11, q12, q13, q14, q15, q16, q17, q18, q19, q20, q21, q22, q23, q24, q25, q26, q27, q28, q29, q30, q31, q32, q33, q34, q35, q36, q37, q38, q39, q40, q41, q42, q43, q44, q45, q46, q47, q48, q49, q50, q51, q54, q56, q58, q60, q61, hP1, hD1⟩ := hB
  rw [ht] at hP1
  obtain ⟨hP, hD⟩ := hj _ hP1 hD1
  clear hP1 hD1 ht hj
  generalize H1 = H at hP hS ⊢
  obtain ⟨T, eT⟩ : ∃ T : va_W, T = st_w6 cI cB cS q0 q52 q59 q57 q55 q53 q1 q2 q3 q4 q5 q6 q7 q8 q9 q10 q11 q12 q13 q14 q15 q16 q17 q18 q19 q20 q21 q22 q23 q24 q25 q26 q27 q28 q29 q30 q31 q32 q33 q34 q35 q36 q37 q38 q39 q40 q41 q42 q43 q44 q45 q46 q47 q48 q49 q50 q51 q54 q56 q58 q60 q61 := ⟨_, rfl⟩
  replace hP : va_P D vwCl T H := by rw [eT]; exact hP
  replace hD : va_D (fun q : Nat => s.heap.size ≤ q) T := by rw [eT]; exact hD
  refine lv_astore_n (pc := 7) (lv' := [(1, .ref q0), (0, .ref b)]) hx hb dL_law_7 rfl hl (by decide) rfl (fun ls hl => ?_)
  refine va_new (pc := 8) (ci := 7) (fs := [.null, .null, .null, .int 0, .null, .null, .null, .int 0, .int 0, .int 0, .int 0, .null, .int 0, .null, .null, .null, .int 0, .int 0, .int 0, .int 0, .null, .null, .null, .null]) (C := RX7) (T := TX7) (N := 24) hx hb hts0 uwX7 tyX7 tyX7_ok hown (hts0 _ wd_631) (hts0 _ wd_632) (hts0 _ wd_8) hK hP hD hS hA rfl dv_X7 (Nat.le_of_ble_eq_true rfl) (Nat.le_of_ble_eq_true rfl) dL_law_8 (fun p0 H hP hD hS => ?_)
  refine lv_dup (pc := 11) hx hb dL_law_11 rfl ?_
  have hFc := va_free (wc := [(p0, .inr (7, [.null, .null, .null, .int 0, .null, .null, .null, .int 0, .int 0, .int 0, .int 0, .null, .int 0, .null, .null, .null, .int 0, .int 0, .int 0, .int 0, .null, .null, .null, .null]))]) hD hS hA [T.length] (by simp)
  have hSx : ∀ U : State, U.heap = H → s.WarmedH U.vm → kS ad (va_A [(p0, .inr (7, [.null, .null, .null, .int 0, .null, .null, .null, .int 0, .int 0, .int 0, .int 0, .null, .int 0, .null, .null, .null, .int 0, .int 0, .int 0, .int 0, .null, .null, .null, .null]))] H.size) U := by
    intro U hU hW
    refine ⟨⟨vk_R.warm hW (vk_R.of (hts _ (rp_u3 (i := 159) rfl)) (hstr 0 (by decide))), vk_R.warm hW (vk_R.of (hts _ (rp_u3 (i := 160) rfl)) (hstr 1 (by decide)))⟩, (va_AO.of (hts _ (rp_u3 (i := 158) rfl))).moved hW.alike, fun i hi => ?_⟩
    rw [hU]
    exact (((hTx.1 i hi).1.moved hW.alike).kept hS.2.1).narrow hFc
  refine k_callL (pc := 12) (As := []) (b := p0) (rest := [.ref p0]) (cell := (p0, .inr (7, [.null, .null, .null, .int 0, .null, .null, .null, .int 0, .int 0, .int 0, .int 0, .null, .int 0, .null, .null, .null, .int 0, .int 0, .int 0, .int 0, .null, .null, .null, .null]))) (wr := T) (en' := kS ad (va_A [(p0, .inr (7, [.null, .null, .null, .int 0, .null, .null, .null, .int 0, .int 0, .int 0, .int 0, .null, .int 0, .null, .null, .null, .int 0, .int 0, .int 0, .int 0, .null, .null, .null, .null]))] H.size)) hK2 hP hD hS hA (k_runI (n := 0) (pc := 12) hx hb hml hown hts0 hl.1 (kX_X7 (l := l) (D := D) (cI := cI) (cT := cT) (ad := ad) p0 H.size) wd_633 wd_634 wd_8 wd_635 ⟨by decide, by decide, by decide +kernel⟩ rfl (by decide) rfl rfl (Nat.le_of_ble_eq_true rfl) ⟨Nat.le_of_ble_eq_true rfl, Nat.le_of_ble_eq_true rfl⟩ dL_law_12 ⟨Nat.le_of_ble_eq_true rfl, Nat.le_of_ble_eq_true rfl⟩) kS_blind hSx (fun t H1 locs ht hB hj hS => ?_)
  obtain ⟨p1, p2, p3, p4, p5, p6, p7, p8, p9, p10, p11, p12, p13, p14, hP1, hD1⟩ := hB
  rw [ht] at hP1
  obtain ⟨hP, hD⟩ := hj _ hP1 hD1
  clear hP1 hD1 ht hj hSx hFc
  generalize H1 = H at hP hS ⊢
  rw [eT] at hP hD
  have hP : va_P D vwCl (st_w6 cI cB cS q0 q52 q59 q57 q55 q53 q1 q2 q3 q4 q5 q6 q7 q8 q9 q10 q11 q12 q13 q14 q15 q16 q17 q18 q19 q20 q21 q22 q23 q24 q25 q26 q27 q28 q29 q30 q31 q32 q33 q34 q35 q36 q37 q38 q39 q40 q41 q42 q43 q44 q45 q46 q47 q48 q49 q50 q51 q54 q56 q58 q60 q61 ++ st_w7 cI cT ad p0 p1 p2 p3 p4 p5 p6 p7 p8 p9 p10 p11 p12 p13 p14) H := hP
  have hD : va_D (fun q : Nat => s.heap.size ≤ q) (st_w6 cI cB cS q0 q52 q59 q57 q55 q53 q1 q2 q3 q4 q5 q6 q7 q8 q9 q10 q11 q12 q13 q14 q15 q16 q17 q18 q19 q20 q21 q22 q23 q24 q25 q26 q27 q28 q29 q30 q31 q32 q33 q34 q35 q36 q37 q38 q39 q40 q41 q42 q43 q44 q45 q46 q47 q48 q49 q50 q51 q54 q56 q58 q60 q61 ++ st_w7 cI cT ad p0 p1 p2 p3 p4 p5 p6 p7 p8 p9 p10 p11 p12 p13 p14) := hD
  have hg := st_get (cI := cI) (cB := cB) (cS := cS) (cT := cT) (ad := ad) q0 q52 q59 q57 q55 q53 q1 q2 q3 q4 q5 q6 q7 q8 q9 q10 q11 q12 q13 q14 q15 q16 q17 q18 q19 q20 q21 q22 q23 q24 q25 q26 q27 q28 q29 q30 q31 q32 q33 q34 q35 q36 q37 q38 q39 q40 q41 q42 q43 q44 q45 q46 q47 q48 q49 q50 q51 q54 q56 q58 q60 q61 p0 p1 p2 p3 p4 p5 p6 p7 p8 p9 p10 p11 p12 p13 p14
  have hPx := st_x q0 q52 q59 q57 q55 q53 q1 q2 q3 q4 q5 q6 q7 q8 q9 q10 q11 q12 q13 q14 q15 q16 q17 q18 q19 q20 q21 q22 q23 q24 q25 q26 q27 q28 q29 q30 q31 q32 q33 q34 q35 q36 q37 q38 q39 q40 q41 q42 q43 q44 q45 q46 q47 q48 q49 q50 q51 q54 q56 q58 q60 q61 p0 p1 p2 p3 p4 p5 p6 p7 p8 p9 p10 p11 p12 p13 p14 hP
  have hPm := st_m q0 q52 q59 q57 q55 q53 q1 q2 q3 q4 q5 q6 q7 q8 q9 q10 q11 q12 q13 q14 q15 q16 q17 q18 q19 q20 q21 q22 q23 q24 q25 q26 q27 q28 q29 q30 q31 q32 q33 q34 q35 q36 q37 q38 q39 q40 q41 q42 q43 q44 q45 q46 q47 q48 q49 q50 q51 q54 q56 q58 q60 q61 p0 p1 p2 p3 p4 p5 p6 p7 p8 p9 p10 p11 p12 p13 p14 hP
  refine lv_astore_n (pc := 15) (lv' := [(2, .ref p0), (1, .ref q0), (0, .ref b)]) hx hb dL_law_15 rfl hl (by decide) rfl (fun ls hl => ?_)
  refine lv_iconst (pc := 16) (v := 0) hx hb dL_law_16 (by decide) ?_
  refine lv_istore_n (pc := 17) (lv' := [(3, .int 0), (2, .ref p0), (1, .ref q0), (0, .ref b)]) hx hb dL_law_17 rfl hl (by decide) rfl (fun ls hl => ?_)
  have e54 : (st_al q0 q52 q59 q57 q55 q53 q1 q2 q3 q4 q5 q6 q7 q8 q9 q10 q11 q12 q13 q14 q15 q16 q17 q18 q19 q20 q21 q22 q23 q24 q25 q26 q27 q28 q29 q30 q31 q32 q33 q34 q35 q36 q37 q38 q39 q40 q41 q42 q43 q44 q45 q46 q47 q48 q49 q50 q51 q54 q56 q58 q60 q61 p0 p1 p2 p3 p4 p5 p6 p7 p8 p9 p10 p11 p12 p13 p14).getD 54 0 = q0 := rfl
  have e62 : (st_al q0 q52 q59 q57 q55 q53 q1 q2 q3 q4 q5 q6 q7 q8 q9 q10 q11 q12 q13 q14 q15 q16 q17 q18 q19 q20 q21 q22 q23 q24 q25 q26 q27 q28 q29 q30 q31 q32 q33 q34 q35 q36 q37 q38 q39 q40 q41 q42 q43 q44 q45 q46 q47 q48 q49 q50 q51 q54 q56 q58 q60 q61 p0 p1 p2 p3 p4 p5 p6 p7 p8 p9 p10 p11 p12 p13 p14).getD 62 0 = p0 := rfl
  obtain ⟨al, eal⟩ : ∃ al : List Nat, al = st_al q0 q52 q59 q57 q55 q53 q1 q2 q3 q4 q5 q6 q7 q8 q9 q10 q11 q12 q13 q14 q15 q16 q17 q18 q19 q20 q21 q22 q23 q24 q25 q26 q27 q28 q29 q30 q31 q32 q33 q34 q35 q36 q37 q38 q39 q40 q41 q42 q43 q44 q45 q46 q47 q48 q49 q50 q51 q54 q56 q58 q60 q61 p0 p1 p2 p3 p4 p5 p6 p7 p8 p9 p10 p11 p12 p13 p14 := ⟨_, rfl⟩
  rw [← eal] at hg hPx hPm e54 e62
  obtain ⟨WW, eWW⟩ : ∃ WW : va_W, WW = st_w6 cI cB cS q0 q52 q59 q57 q55 q53 q1 q2 q3 q4 q5 q6 q7 q8 q9 q10 q11 q12 q13 q14 q15 q16 q17 q18 q19 q20 q21 q22 q23 q24 q25 q26 q27 q28 q29 q30 q31 q32 q33 q34 q35 q36 q37 q38 q39 q40 q41 q42 q43 q44 q45 q46 q47 q48 q49 q50 q51 q54 q56 q58 q60 q61 ++ st_w7 cI cT ad p0 p1 p2 p3 p4 p5 p6 p7 p8 p9 p10 p11 p12 p13 p14 := ⟨_, rfl⟩
  rw [← eWW] at hg hP hD
  have hin : ∀ i j, i < 77 → j < 77 → al.getD i 0 = al.getD j 0 → i = j := by
    intro i j hi hj he
    obtain ⟨ei, h1⟩ := hg i hi
    obtain ⟨ej, h2⟩ := hg j hj
    exact st_pi_inj i hi j hj (hD.1 _ _ _ _ h1 h2 he)
  have hge : ∀ i, i < 77 → s.heap.size ≤ al.getD i 0 := by
    intro i hi
    obtain ⟨ei, h1⟩ := hg i hi
    exact hD.2 _ _ h1
  have hax : ∀ k, k < 62 → s.heap.size ≤ al.getD k 0 := fun k hk => hge k (by omega)
  have ham : ∀ k, k < 15 → s.heap.size ≤ al.getD (62 + k) 0 := fun k hk => hge (62 + k) (by omega)
  have hAm : ∀ q : Nat, rp_A (fun k => al.getD (62 + k) 0) 15 q → s.heap.size ≤ q := fun q ⟨k, hk, e⟩ => by rw [e]; exact ham k hk
  have hC : lC p s m meth c b L xs D cI cB cS cT (fun k => al.getD k 0) (fun k => al.getD (62 + k) 0) ad av := by
    refine ⟨C0, hK, fun i j hi hj he => hin i j (by omega) (by omega) he, fun i j hi hj he => ?_, hax, ham, fun i j hi hj he => ?_, st_xE hts hgv hax, hTx.narrow hAm, ?_, ?_⟩
    · have := hin (62 + i) (62 + j) (by omega) (by omega) he
      omega
    · have := hin i (62 + j) (by omega) (by omega) he
      omega
    · exact va_Zof (hts _ (rp_u4 (i := 62) rfl)) (hts _ (rp_u1 (i := 11) rfl)) (va_eqt (flat_of_before _ hgv _ (by decide +kernel))) (fun q hq h => by have := hAm q h; omega)
    · exact va_Zqof (hts _ (rp_u4 (i := 78) rfl)) (hts _ (rp_u1 (i := 13) rfl)) (flat_of_before _ hgv _ (by decide +kernel)) (fun q hq h => by have := hAm q h; omega)
  have hl2 : lv_has ls 4 [(0, .ref b), (1, .ref ((fun k => al.getD k 0) 54)), (2, .ref ((fun k => al.getD (62 + k) 0) 0)), (3, .int 0)] := by
    show lv_has ls 4 [(0, .ref b), (1, .ref (al.getD 54 0)), (2, .ref (al.getD 62 0)), (3, .int 0)]
    rw [e54, e62]
    exact lv_sub hl [3, 2, 1, 0] rfl
  exact law_loop hops hL hC (L + 1) 0 0 x0 m0 H _ ls (by omega) (by omega) nI_0.symm hR0 ⟨hPx, hPm, hS⟩ hl2
