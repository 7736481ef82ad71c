set_option maxRecDepth 100000 in
set_option maxHeartbeats 8000000 in
theorem st_xE {s : State} {b : Nat} {a : Nat → Nat} (hts : ∀ w ∈ lw_tbl, w.before #[Value.ref b] s = true) (hgv : (Jvm.Cond.and given_1 narrow_1).before #[Value.ref b] s = true) (ha : ∀ k, k < 62 → s.heap.size ≤ a k) : xE a s := by
  have hfl := flat_of_before _ hgv
  have hA : ∀ q : Nat, q < s.heap.size → ¬ rp_A a 62 q := fun q hq ⟨k, hk, e⟩ => by have := ha k hk; omega
  obtain ⟨tABOVE, htABOVE, hTABOVE⟩ := va_Tof (args := #[Value.ref b]) (s := s) (tm := .static "RegretPegs" "ABOVE" "[I") (ty := .int) (N := 7) (f := fun j => .int (xAb j)) (A := rp_A a 62) (by decide) (hfl _ (by decide +kernel)) (va_eqt (hfl _ (by decide +kernel))) (fun j hj => by
    match j, hj with
    | 0, _ => exact va_eqt (z := xAb 0) (hfl _ (by decide +kernel))
    | 1, _ => exact va_eqt (z := xAb 1) (hfl _ (by decide +kernel))
    | 2, _ => exact va_eqt (z := xAb 2) (hfl _ (by decide +kernel))
    | 3, _ => exact va_eqt (z := xAb 3) (hfl _ (by decide +kernel))
    | 4, _ => exact va_eqt (z := xAb 4) (hfl _ (by decide +kernel))
    | 5, _ => exact va_eqt (z := xAb 5) (hfl _ (by decide +kernel))
    | 6, _ => exact va_eqt (z := xAb 6) (hfl _ (by decide +kernel))
    | j + 7, h => omega) hA
  obtain ⟨tBODIES, htBODIES, hTBODIES⟩ := va_Tof (args := #[Value.ref b]) (s := s) (tm := .static "RegretPegs" "BODIES" "[I") (ty := .int) (N := 28) (f := fun j => .int (xBo j)) (A := rp_A a 62) (by decide) (hfl _ (by decide +kernel)) (va_eqt (hfl _ (by decide +kernel))) (fun j hj => by
    match j, hj with
    | 0, _ => exact va_eqt (z := xBo 0) (hfl _ (by decide +kernel))
    | 1, _ => exact va_eqt (z := xBo 1) (hfl _ (by decide +kernel))
    | 2, _ => exact va_eqt (z := xBo 2) (hfl _ (by decide +kernel))
    | 3, _ => exact va_eqt (z := xBo 3) (hfl _ (by decide +kernel))
    | 4, _ => exact va_eqt (z := xBo 4) (hfl _ (by decide +kernel))
    | 5, _ => exact va_eqt (z := xBo 5) (hfl _ (by decide +kernel))
    | 6, _ => exact va_eqt (z := xBo 6) (hfl _ (by decide +kernel))
    | 7, _ => exact va_eqt (z := xBo 7) (hfl _ (by decide +kernel))
    | 8, _ => exact va_eqt (z := xBo 8) (hfl _ (by decide +kernel))
    | 9, _ => exact va_eqt (z := xBo 9) (hfl _ (by decide +kernel))
    | 10, _ => exact va_eqt (z := xBo 10) (hfl _ (by decide +kernel))
    | 11, _ => exact va_eqt (z := xBo 11) (hfl _ (by decide +kernel))
    | 12, _ => exact va_eqt (z := xBo 12) (hfl _ (by decide +kernel))
    | 13, _ => exact va_eqt (z := xBo 13) (hfl _ (by decide +kernel))
    | 14, _ => exact va_eqt (z := xBo 14) (hfl _ (by decide +kernel))
    | 15, _ => exact va_eqt (z := xBo 15) (hfl _ (by decide +kernel))
    | 16, _ => exact va_eqt (z := xBo 16) (hfl _ (by decide +kernel))
    | 17, _ => exact va_eqt (z := xBo 17) (hfl _ (by decide +kernel))
    | 18, _ => exact va_eqt (z := xBo 18) (hfl _ (by decide +kernel))
    | 19, _ => exact va_eqt (z := xBo 19) (hfl _ (by decide +kernel))
    | 20, _ => exact va_eqt (z := xBo 20) (hfl _ (by decide +kernel))
    | 21, _ => exact va_eqt (z := xBo 21) (hfl _ (by decide +kernel))
    | 22, _ => exact va_eqt (z := xBo 22) (hfl _ (by decide +kernel))
    | 23, _ => exact va_eqt (z := xBo 23) (hfl _ (by decide +kernel))
    | 24, _ => exact va_eqt (z := xBo 24) (hfl _ (by decide +kernel))
    | 25, _ => exact va_eqt (z := xBo 25) (hfl _ (by decide +kernel))
    | 26, _ => exact va_eqt (z := xBo 26) (hfl _ (by decide +kernel))
    | 27, _ => exact va_eqt (z := xBo 27) (hfl _ (by decide +kernel))
    | j + 28, h => omega) hA
  exact ⟨⟨va_tabs rfl rfl (hts _ (rp_u2 (i := 145) rfl)), va_tabs rfl rfl (hts _ (rp_u2 (i := 180) rfl))⟩, ⟨va_tabs rfl rfl (hts _ (rp_u3 (i := 64) rfl)), va_tabs rfl rfl (hts _ (rp_u3 (i := 70) rfl))⟩, ⟨tABOVE, va_Zref (hts _ (rp_u2 (i := 60) rfl)) (hts _ (rp_u1 (i := 1) rfl)) htABOVE hA, hTABOVE⟩, ⟨tBODIES, va_Zref (hts _ (rp_u3 (i := 65) rfl)) (hts _ (rp_u1 (i := 1) rfl)) htBODIES hA, hTBODIES⟩⟩
set_option maxRecDepth 100000 in
set_option maxHeartbeats 8000000 in
theorem st_txt {s : State} {b : Nat} {A : Nat → Prop} (hgv : (Jvm.Cond.and given_1 narrow_1).before #[Value.ref b] s = true) (hA : ∀ q : Nat, q < s.heap.size → ¬ A q) : ∃ ad av : Nat → Nat, vk_S 2 [3, 3] mByt ad av A s s.heap ∧ ∀ i, i < 2 → (Term.string "RegretPegsModel" (27 + 2 * i)).eval #[Value.ref b] s none [] s = some (.ref (ad i)) := by
  have hfl := flat_of_before _ hgv
  refine vk_Sof (args := #[Value.ref b]) (s := s) (N := 2) (tm := fun i => .string "RegretPegsModel" (27 + 2 * i)) (len := [3, 3]) (byt := mByt) (A := A) (fun i hi => ?_) (fun i hi => ?_) (fun i hi => ?_) (fun i hi => ?_) (fun i hi => ?_) (fun i hi j hj => ?_) (fun i j hi hj hij => ?_) hA
  · match i, hi with
    | 0, _ => decide
    | 1, _ => decide
    | i + 2, h => omega
  · match i, hi with
    | 0, _ => exact hfl _ (by decide +kernel)
    | 1, _ => exact hfl _ (by decide +kernel)
    | i + 2, h => omega
  · match i, hi with
    | 0, _ => exact hfl _ (by decide +kernel)
    | 1, _ => exact hfl _ (by decide +kernel)
    | i + 2, h => omega
  · match i, hi with
    | 0, _ => exact hfl _ (by decide +kernel)
    | 1, _ => exact hfl _ (by decide +kernel)
    | i + 2, h => omega
  · match i, hi with
    | 0, _ => exact hfl _ (by decide +kernel)
    | 1, _ => exact hfl _ (by decide +kernel)
    | i + 2, h => omega
  · match i, hi, j, hj with
    | 0, _, 0, _ => exact hfl _ (by decide +kernel)
    | 0, _, 1, _ => exact hfl _ (by decide +kernel)
    | 0, _, 2, _ => exact hfl _ (by decide +kernel)
    | 0, _, j + 3, h => exact absurd h (by show ¬ j + 3 < 3; omega)
    | 1, _, 0, _ => exact hfl _ (by decide +kernel)
    | 1, _, 1, _ => exact hfl _ (by decide +kernel)
    | 1, _, 2, _ => exact hfl _ (by decide +kernel)
    | 1, _, j + 3, h => exact absurd h (by show ¬ j + 3 < 3; omega)
    | i + 2, h, _, _ => omega
  · match i, j, hi, hj, hij with
    | 0, 0, _, _, h => exact absurd rfl h
    | 0, 1, _, _, _ => exact Or.inl (hfl _ (by decide +kernel))
    | 1, 0, _, _, _ => exact Or.inr (hfl _ (by decide +kernel))
    | 1, 1, _, _, h => exact absurd rfl h
    | i + 2, _, h, _, _ => omega
    | 0, j + 2, _, h, _ => omega
    | 1, j + 2, _, h, _ => omega
set_option maxRecDepth 100000 in
set_option maxHeartbeats 8000000 in
theorem st_known {s : State} {b : Nat} (hts : ∀ w ∈ lw_tbl, w.before #[Value.ref b] s = true) : ∃ (D : va_G) (cI cB cS cT : ClassId), va_K D vwCl [(cI, .int), (cB, .byte), (cS, .object "RegretPegs$Sheet"), (cT, .object "java/lang/String")] s := by
  have hts0 : ∀ w ∈ rp_W0, w.before #[Value.ref b] s = true := fun w hw => hts w (rp_W0_in w hw)
  obtain ⟨c0, i0, hn0⟩ := u_known (C := RX0) (T := TX0) (N := 7) (n := 7) hts0 uwX0 (hts _ (rp_u1 (i := 30) rfl))
  obtain ⟨c1, i1, hn1⟩ := u_known (C := RX1) (T := TX1) (N := 9) (n := 9) hts0 uwX1 (hts _ (rp_u1 (i := 24) rfl))
  obtain ⟨c2, i2, hn2⟩ := u_known (C := RX2) (T := TX2) (N := 4) (n := 4) hts0 uwX2 (hts _ (rp_u1 (i := 69) rfl))
  obtain ⟨c3, i3, hn3⟩ := u_known (C := RX3) (T := TX3) (N := 6) (n := 6) hts0 uwX3 (hts _ (rp_u1 (i := 130) rfl))
  obtain ⟨c4, i4, hn4⟩ := u_known (C := RX4) (T := TX4) (N := 3) (n := 3) hts0 uwX4 (hts _ (rp_u1 (i := 183) rfl))
  obtain ⟨c5, i5, hn5⟩ := u_known (C := RX5) (T := TX5) (N := 5) (n := 5) hts0 uwX5 (hts _ (rp_u1 (i := 158) rfl))
  obtain ⟨c6, i6, hn6⟩ := u_known (C := RX6) (T := TX6) (N := 9) (n := 9) hts0 uwX6 (hts _ (rp_u1 (i := 16) rfl))
  obtain ⟨c7, i7, hn7⟩ := u_known (C := RX7) (T := TX7) (N := 24) (n := 24) hts0 uwX7 (hts _ (rp_u3 (i := 152) rfl))
  obtain ⟨cI, kI, pI, eI, kI1, kI2⟩ := Cond.arrayClass_spec (type := .int) (hts _ (rp_u1 (i := 67) rfl))
  obtain ⟨cB, kB, pB, eB, kB1, kB2⟩ := Cond.arrayClass_spec (type := .byte) (hts _ (rp_u1 (i := 126) rfl))
  obtain ⟨pS, cS, kS, eS, -, kS1, kS2, fS⟩ := Cond.arrayOver_spec (n := "RegretPegs$Sheet") (hts _ (rp_u1 (i := 182) rfl))
  obtain ⟨pT, cT, kT, eT, -, kT1, kT2, fT⟩ := Cond.arrayOver_spec (n := "java/lang/String") (hts _ (rp_u3 (i := 158) rfl))
  refine ⟨(fun k => if k = 0 then c0 else if k = 1 then c1 else if k = 2 then c2 else if k = 3 then c3 else if k = 4 then c4 else if k = 5 then c5 else if k = 6 then c6 else c7, fun k => if k = 0 then i0 else if k = 1 then i1 else if k = 2 then i2 else if k = 3 then i3 else if k = 4 then i4 else if k = 5 then i5 else if k = 6 then i6 else i7), cI, cB, cS, cT, fun k q hq => ?_, fun k q hq => ?_⟩
  · match k, hq with
    | 0, hq => cases hq; exact hn0
    | 1, hq => cases hq; exact hn1
    | 2, hq => cases hq; exact hn2
    | 3, hq => cases hq; exact hn3
    | 4, hq => cases hq; exact hn4
    | 5, hq => cases hq; exact hn5
    | 6, hq => cases hq; exact hn6
    | 7, hq => cases hq; exact hn7
    | k + 8, hq => simp at hq
  · match k, hq with
    | 0, hq => cases hq; exact ⟨fun n z => ⟨fun k h => (by cases h), kI, kI1, pI, kI2⟩, eI⟩
    | 1, hq => cases hq; exact ⟨fun n z => ⟨fun k h => (by cases h), kB, kB1, pB, kB2⟩, eB⟩
    | 2, hq => cases hq; exact ⟨fun n z => ⟨fun k h => (by cases h), kS, kS1, pS, kS2⟩, kS, pS, kS1, kS2, eS, fS⟩
    | 3, hq => cases hq; exact ⟨fun n z => ⟨fun k h => (by cases h), kT, kT1, pT, kT2⟩, kT, pT, kT1, kT2, eT, fT⟩
    | k + 4, hq => simp at hq
