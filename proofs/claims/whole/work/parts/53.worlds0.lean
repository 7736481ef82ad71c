theorem rp_u1 {w : Cond} {i : Nat} (h : tables_1_1[i]? = some w) : w ∈ lw_tbl := List.mem_append_right _ (List.mem_append_left _ (List.mem_of_getElem? h))
theorem rp_u2 {w : Cond} {i : Nat} (h : tables_1_2[i]? = some w) : w ∈ lw_tbl := List.mem_append_right _ (List.mem_append_right _ (List.mem_append_left _ (List.mem_of_getElem? h)))
theorem rp_u3 {w : Cond} {i : Nat} (h : tables_1_3[i]? = some w) : w ∈ lw_tbl := List.mem_append_right _ (List.mem_append_right _ (List.mem_append_right _ (List.mem_append_left _ (List.mem_of_getElem? h))))
theorem rp_u4 {w : Cond} {i : Nat} (h : tables_1_4[i]? = some w) : w ∈ lw_tbl := List.mem_append_right _ (List.mem_append_right _ (List.mem_append_right _ (List.mem_append_right _ (List.mem_append_left _ (List.mem_of_getElem? h)))))
theorem rp_u5 {w : Cond} {i : Nat} (h : tables_1_5[i]? = some w) : w ∈ lw_tbl := List.mem_append_right _ (List.mem_append_right _ (List.mem_append_right _ (List.mem_append_right _ (List.mem_append_right _ (List.mem_of_getElem? h)))))
/-- the two systems as their constructors leave them -/
def x0 : rp_St := fun k => if k = 31 then upd (fun _ => 0) 0 1 else if k = 37 then upd (fun _ => 0) 0 1 else if k = 40 then upd (fun _ => 0) 8 1 else if k = 43 then upd (fun _ => 0) 8 1 else fun _ => 0
def m0 : rp_St := fun k => if k = 1 then upd (fun _ => 0) 2 1 else fun _ => 0
def st_pi (k : Nat) : Nat := ([7, 8, 9, 10, 11, 12, 13, 23, 24, 25, 26, 27, 28, 29, 38, 39, 40, 41, 42, 43, 44, 45, 46, 47, 48, 49, 50, 51, 14, 15, 16, 17, 18, 19, 30, 31, 32, 33, 34, 35, 6, 20, 21, 22, 36, 37, 5, 57, 4, 58, 3, 59, 2, 60, 0, 61, 1, 52, 54, 55, 56, 53, 62, 63, 64, 65, 66, 67, 68, 69, 70, 71, 72, 73, 74, 75, 76] : List Nat).getD k 0
theorem st_pi_inj : ∀ i, i < 77 → ∀ j, j < 77 → st_pi i = st_pi j → i = j := by decide +kernel
theorem k_cell {cA : ClassId} {n : Nat} {f g : Nat → Option Nat} (h : ∀ i, i < n → f i = g i) : vp_cell cA (n, .inr (.inr (.inr (.inr f)))) = vp_cell cA (n, .inr (.inr (.inr (.inr g)))) := by
  rw [vp_cell_q, vp_cell_q]
  unfold arrV
  congr 2
  funext j
  show va_rf (f j.val) = va_rf (g j.val)
  rw [h j.val j.isLt]
def st_al (q0 q52 q59 q57 q55 q53 q1 q2 q3 q4 q5 q6 q7 q8 q9 q10 q11 q12 q13 q14 q15 q16 q17 q18 q19 q20 q21 q22 q23 q24 q25 q26 q27 q28 q29 q30 q31 q32 q33 q34 q35 q36 q37 q38 q39 q40 q41 q42 q43 q44 q45 q46 q47 q48 q49 q50 q51 q54 q56 q58 q60 q61 p0 p1 p2 p3 p4 p5 p6 p7 p8 p9 p10 p11 p12 p13 p14 : Nat) : List Nat := [q2, q3, q4, q5, q6, q7, q8, q18, q19, q20, q21, q22, q23, q24, q33, q34, q35, q36, q37, q38, q39, q40, q41, q42, q43, q44, q45, q46, q9, q10, q11, q12, q13, q14, q25, q26, q27, q28, q29, q30, q1, q15, q16, q17, q31, q32, q53, q54, q55, q56, q57, q58, q59, q60, q0, q61, q52, q47, q49, q50, q51, q48, p0, p1, p2, p3, p4, p5, p6, p7, p8, p9, p10, p11, p12, p13, p14]
def st_w6 (cI cB cS : ClassId) (q0 q52 q59 q57 q55 q53 q1 q2 q3 q4 q5 q6 q7 q8 q9 q10 q11 q12 q13 q14 q15 q16 q17 q18 q19 q20 q21 q22 q23 q24 q25 q26 q27 q28 q29 q30 q31 q32 q33 q34 q35 q36 q37 q38 q39 q40 q41 q42 q43 q44 q45 q46 q47 q48 q49 q50 q51 q54 q56 q58 q60 q61 : Nat) : va_W := [(q0, .inr (6, [.ref q1, .ref q17, .int 0, .ref q33, .ref q40, .ref q47, .ref q50, .ref q52, .ref q61])), (q52, .inl (cS, 4, .inr (.inr (.inr (.inr (va_up (va_up (va_up (va_up (fun _ => none) (0 : Int32).toNatClampNeg (some q53)) (1 : Int32).toNatClampNeg (some q55)) (2 : Int32).toNatClampNeg (some q57)) (3 : Int32).toNatClampNeg (some q59))))))), (q59, .inr (4, [.int 0, .int 0, .ref q60])), (q57, .inr (4, [.int 0, .int 0, .ref q58])), (q55, .inr (4, [.int 0, .int 0, .ref q56])), (q53, .inr (4, [.int 0, .int 0, .ref q54])), (q1, .inr (1, [.ref q2, .ref q9, .ref q12, .ref q15, .int 0, .ref q16, .int 0, .int 0, .int 1])), (q2, .inr (0, [.int 0, .ref q3, .ref q4, .ref q5, .ref q6, .ref q7, .ref q8])), (q3, .inl (cI, 7, .inl (fun _ => 0))), (q4, .inl (cI, 7, .inl (fun _ => 0))), (q5, .inl (cI, 7, .inl (fun _ => 0))), (q6, .inl (cI, 7, .inl (fun _ => 0))), (q7, .inl (cI, 7, .inl (fun _ => 0))), (q8, .inl (cI, 7, .inl (fun _ => 0))), (q9, .inr (2, [.int 0, .int 0, .ref q10, .ref q11])), (q10, .inl (cI, 50, .inl (fun _ => 0))), (q11, .inl (cI, 50, .inl (fun _ => 0))), (q12, .inr (2, [.int 1, .int 0, .ref q13, .ref q14])), (q13, .inl (cI, 50, .inl (fun _ => 0))), (q14, .inl (cI, 50, .inl (fun _ => 0))), (q15, .inl (cB, 50, .inl (fun _ => 0))), (q16, .inl (cI, 20, .inl (fun _ => 0))), (q17, .inr (1, [.ref q18, .ref q25, .ref q28, .ref q31, .int 0, .ref q32, .int 0, .int 0, .int 1])), (q18, .inr (0, [.int 0, .ref q19, .ref q20, .ref q21, .ref q22, .ref q23, .ref q24])), (q19, .inl (cI, 7, .inl (fun _ => 0))), (q20, .inl (cI, 7, .inl (fun _ => 0))), (q21, .inl (cI, 7, .inl (fun _ => 0))), (q22, .inl (cI, 7, .inl (fun _ => 0))), (q23, .inl (cI, 7, .inl (fun _ => 0))), (q24, .inl (cI, 7, .inl (fun _ => 0))), (q25, .inr (2, [.int 0, .int 0, .ref q26, .ref q27])), (q26, .inl (cI, 50, .inl (fun _ => 0))), (q27, .inl (cI, 50, .inl (fun _ => 0))), (q28, .inr (2, [.int 1, .int 0, .ref q29, .ref q30])), (q29, .inl (cI, 50, .inl (fun _ => 0))), (q30, .inl (cI, 50, .inl (fun _ => 0))), (q31, .inl (cB, 50, .inl (fun _ => 0))), (q32, .inl (cI, 20, .inl (fun _ => 0))), (q33, .inr (0, [.int 0, .ref q34, .ref q35, .ref q36, .ref q37, .ref q38, .ref q39])), (q34, .inl (cI, 7, .inl (fun _ => 0))), (q35, .inl (cI, 7, .inl (fun _ => 0))), (q36, .inl (cI, 7, .inl (fun _ => 0))), (q37, .inl (cI, 7, .inl (fun _ => 0))), (q38, .inl (cI, 7, .inl (fun _ => 0))), (q39, .inl (cI, 7, .inl (fun _ => 0))), (q40, .inr (0, [.int 0, .ref q41, .ref q42, .ref q43, .ref q44, .ref q45, .ref q46])), (q41, .inl (cI, 7, .inl (fun _ => 0))), (q42, .inl (cI, 7, .inl (fun _ => 0))), (q43, .inl (cI, 7, .inl (fun _ => 0))), (q44, .inl (cI, 7, .inl (fun _ => 0))), (q45, .inl (cI, 7, .inl (fun _ => 0))), (q46, .inl (cI, 7, .inl (fun _ => 0))), (q47, .inr (3, [.ref q48, .int 0, .int 0, .int 0, .int 0, .ref q49])), (q48, .inl (cB, 50, .inl (fun _ => 0))), (q49, .inl (cI, 50, .inl (fun _ => 0))), (q50, .inr (5, [.int 0, .int 0, .int 0, .int 0, .ref q51])), (q51, .inl (cI, 40, .inl (fun _ => 0))), (q54, .inl (cI, 40, .inl (fun _ => 0))), (q56, .inl (cI, 40, .inl (fun _ => 0))), (q58, .inl (cI, 40, .inl (fun _ => 0))), (q60, .inl (cI, 40, .inl (fun _ => 0))), (q61, .inl (cI, 6, .inl (fun _ => 0)))]
def st_w7 (cI cT : ClassId) (ad : Nat → Nat) (p0 p1 p2 p3 p4 p5 p6 p7 p8 p9 p10 p11 p12 p13 p14 : Nat) : va_W := [(p0, .inr (7, [.ref p1, .ref p2, .ref p3, .int 0, .ref p4, .ref p5, .ref p6, .int 0, .int 0, .int 0, .int 0, .ref p7, .int 0, .ref p8, .ref p9, .ref p10, .int 0, .int 0, .int 0, .int 0, .ref p11, .ref p12, .ref p13, .ref p14])), (p1, .inl (cI, 221, .inl (upd (fun _ => 0) (2 : Int32).toNatClampNeg 1))), (p2, .inl (cI, 221, .inl (fun _ => 0))), (p3, .inl (cI, 221, .inl (fun _ => 0))), (p4, .inl (cI, 6, .inl (fun _ => 0))), (p5, .inl (cI, 7, .inl (fun _ => 0))), (p6, .inl (cT, 2, .inr (.inr (.inr (.inr (va_up (va_up (fun _ => none) (0 : Int32).toNatClampNeg (some (ad 0))) (1 : Int32).toNatClampNeg (some (ad 1)))))))), (p7, .inl (cI, 60, .inl (fun _ => 0))), (p8, .inl (cI, 4, .inl (fun _ => 0))), (p9, .inl (cI, 60, .inl (fun _ => 0))), (p10, .inl (cI, 40, .inl (fun _ => 0))), (p11, .inl (cI, 4, .inl (fun _ => 0))), (p12, .inl (cI, 4, .inl (fun _ => 0))), (p13, .inl (cI, 160, .inl (fun _ => 0))), (p14, .inl (cI, 40, .inl (fun _ => 0)))]
set_option maxRecDepth 100000 in
set_option maxHeartbeats 8000000 in
theorem st_x {D : va_G} {cI cB cS cT : ClassId} {ad : Nat → Nat} {H : Heap} (q0 q52 q59 q57 q55 q53 q1 q2 q3 q4 q5 q6 q7 q8 q9 q10 q11 q12 q13 q14 q15 q16 q17 q18 q19 q20 q21 q22 q23 q24 q25 q26 q27 q28 q29 q30 q31 q32 q33 q34 q35 q36 q37 q38 q39 q40 q41 q42 q43 q44 q45 q46 q47 q48 q49 q50 q51 q54 q56 q58 q60 q61 p0 p1 p2 p3 p4 p5 p6 p7 p8 p9 p10 p11 p12 p13 p14 : Nat) (hP : va_P D vwCl (st_w6 cI cB cS q0 q52 q59 q57 q55 q53 q1 q2 q3 q4 q5 q6 q7 q8 q9 q10 q11 q12 q13 q14 q15 q16 q17 q18 q19 q20 q21 q22 q23 q24 q25 q26 q27 q28 q29 q30 q31 q32 q33 q34 q35 q36 q37 q38 q39 q40 q41 q42 q43 q44 q45 q46 q47 q48 q49 q50 q51 q54 q56 q58 q60 q61 ++ st_w7 cI cT ad p0 p1 p2 p3 p4 p5 p6 p7 p8 p9 p10 p11 p12 p13 p14) H) : va_P D vwCl (rp_w (fun k => (st_al q0 q52 q59 q57 q55 q53 q1 q2 q3 q4 q5 q6 q7 q8 q9 q10 q11 q12 q13 q14 q15 q16 q17 q18 q19 q20 q21 q22 q23 q24 q25 q26 q27 q28 q29 q30 q31 q32 q33 q34 q35 q36 q37 q38 q39 q40 q41 q42 q43 q44 q45 q46 q47 q48 q49 q50 q51 q54 q56 q58 q60 q61 p0 p1 p2 p3 p4 p5 p6 p7 p8 p9 p10 p11 p12 p13 p14).getD k 0) (xt cI cB cS (fun k => (st_al q0 q52 q59 q57 q55 q53 q1 q2 q3 q4 q5 q6 q7 q8 q9 q10 q11 q12 q13 q14 q15 q16 q17 q18 q19 q20 q21 q22 q23 q24 q25 q26 q27 q28 q29 q30 q31 q32 q33 q34 q35 q36 q37 q38 q39 q40 q41 q42 q43 q44 q45 q46 q47 q48 q49 q50 q51 q54 q56 q58 q60 q61 p0 p1 p2 p3 p4 p5 p6 p7 p8 p9 p10 p11 p12 p13 p14).getD k 0)) 62 x0) H := by
  intro k q hk
  obtain ⟨hk, rfl⟩ := rp_w_get hk
  match k, hk with
  | 0, _ => exact hP 7 _ rfl
  | 1, _ => exact hP 8 _ rfl
  | 2, _ => exact hP 9 _ rfl
  | 3, _ => exact hP 10 _ rfl
  | 4, _ => exact hP 11 _ rfl
  | 5, _ => exact hP 12 _ rfl
  | 6, _ => exact hP 13 _ rfl
  | 7, _ => exact hP 23 _ rfl
  | 8, _ => exact hP 24 _ rfl
  | 9, _ => exact hP 25 _ rfl
  | 10, _ => exact hP 26 _ rfl
  | 11, _ => exact hP 27 _ rfl
  | 12, _ => exact hP 28 _ rfl
  | 13, _ => exact hP 29 _ rfl
  | 14, _ => exact hP 38 _ rfl
  | 15, _ => exact hP 39 _ rfl
  | 16, _ => exact hP 40 _ rfl
  | 17, _ => exact hP 41 _ rfl
  | 18, _ => exact hP 42 _ rfl
  | 19, _ => exact hP 43 _ rfl
  | 20, _ => exact hP 44 _ rfl
  | 21, _ => exact hP 45 _ rfl
  | 22, _ => exact hP 46 _ rfl
  | 23, _ => exact hP 47 _ rfl
  | 24, _ => exact hP 48 _ rfl
  | 25, _ => exact hP 49 _ rfl
  | 26, _ => exact hP 50 _ rfl
  | 27, _ => exact hP 51 _ rfl
  | 28, _ => exact hP 14 _ rfl
  | 29, _ => exact hP 15 _ rfl
  | 30, _ => exact hP 16 _ rfl
  | 31, _ => exact hP 17 _ rfl
  | 32, _ => exact hP 18 _ rfl
  | 33, _ => exact hP 19 _ rfl
  | 34, _ => exact hP 30 _ rfl
  | 35, _ => exact hP 31 _ rfl
  | 36, _ => exact hP 32 _ rfl
  | 37, _ => exact hP 33 _ rfl
  | 38, _ => exact hP 34 _ rfl
  | 39, _ => exact hP 35 _ rfl
  | 40, _ => exact hP 6 _ rfl
  | 41, _ => exact hP 20 _ rfl
  | 42, _ => exact hP 21 _ rfl
  | 43, _ => exact hP 22 _ rfl
  | 44, _ => exact hP 36 _ rfl
  | 45, _ => exact hP 37 _ rfl
  | 46, _ => exact hP 5 _ rfl
  | 47, _ => exact hP 57 _ rfl
  | 48, _ => exact hP 4 _ rfl
  | 49, _ => exact hP 58 _ rfl
  | 50, _ => exact hP 3 _ rfl
  | 51, _ => exact hP 59 _ rfl
  | 52, _ => exact hP 2 _ rfl
  | 53, _ => exact hP 60 _ rfl
  | 54, _ => exact hP 0 _ rfl
  | 55, _ => exact hP 61 _ rfl
  | 56, _ =>
    have h := hP 1 _ rfl
    show H[_]? = some (vp_cell cS (4, .inr (.inr (.inr (.inr (fun i => some (([q2, q3, q4, q5, q6, q7, q8, q18, q19, q20, q21, q22, q23, q24, q33, q34, q35, q36, q37, q38, q39, q40, q41, q42, q43, q44, q45, q46, q9, q10, q11, q12, q13, q14, q25, q26, q27, q28, q29, q30, q1, q15, q16, q17, q31, q32, q53, q54, q55, q56, q57, q58, q59, q60, q0, q61, q52, q47, q49, q50, q51, q48, p0, p1, p2, p3, p4, p5, p6, p7, p8, p9, p10, p11, p12, p13, p14] : List Nat).getD (46 + 2 * i) 0)))))))
    refine Eq.trans h ?_
    refine congrArg some (k_cell (fun i hi => ?_))
    match i, hi with
    | 0, _ => rfl
    | 1, _ => rfl
    | 2, _ => rfl
    | 3, _ => rfl
    | i + 4, h => omega
  | 57, _ => exact hP 52 _ rfl
  | 58, _ => exact hP 54 _ rfl
  | 59, _ => exact hP 55 _ rfl
  | 60, _ => exact hP 56 _ rfl
  | 61, _ => exact hP 53 _ rfl
  | k + 62, h => omega
set_option maxRecDepth 100000 in
set_option maxHeartbeats 8000000 in
theorem st_m {D : va_G} {cI cB cS cT : ClassId} {ad : Nat → Nat} {H : Heap} (q0 q52 q59 q57 q55 q53 q1 q2 q3 q4 q5 q6 q7 q8 q9 q10 q11 q12 q13 q14 q15 q16 q17 q18 q19 q20 q21 q22 q23 q24 q25 q26 q27 q28 q29 q30 q31 q32 q33 q34 q35 q36 q37 q38 q39 q40 q41 q42 q43 q44 q45 q46 q47 q48 q49 q50 q51 q54 q56 q58 q60 q61 p0 p1 p2 p3 p4 p5 p6 p7 p8 p9 p10 p11 p12 p13 p14 : Nat) (hP : va_P D vwCl (st_w6 cI cB cS q0 q52 q59 q57 q55 q53 q1 q2 q3 q4 q5 q6 q7 q8 q9 q10 q11 q12 q13 q14 q15 q16 q17 q18 q19 q20 q21 q22 q23 q24 q25 q26 q27 q28 q29 q30 q31 q32 q33 q34 q35 q36 q37 q38 q39 q40 q41 q42 q43 q44 q45 q46 q47 q48 q49 q50 q51 q54 q56 q58 q60 q61 ++ st_w7 cI cT ad p0 p1 p2 p3 p4 p5 p6 p7 p8 p9 p10 p11 p12 p13 p14) H) : va_P D vwCl (rp_w (fun k => (st_al q0 q52 q59 q57 q55 q53 q1 q2 q3 q4 q5 q6 q7 q8 q9 q10 q11 q12 q13 q14 q15 q16 q17 q18 q19 q20 q21 q22 q23 q24 q25 q26 q27 q28 q29 q30 q31 q32 q33 q34 q35 q36 q37 q38 q39 q40 q41 q42 q43 q44 q45 q46 q47 q48 q49 q50 q51 q54 q56 q58 q60 q61 p0 p1 p2 p3 p4 p5 p6 p7 p8 p9 p10 p11 p12 p13 p14).getD (62 + k) 0) (mt cI cT ad (fun k => (st_al q0 q52 q59 q57 q55 q53 q1 q2 q3 q4 q5 q6 q7 q8 q9 q10 q11 q12 q13 q14 q15 q16 q17 q18 q19 q20 q21 q22 q23 q24 q25 q26 q27 q28 q29 q30 q31 q32 q33 q34 q35 q36 q37 q38 q39 q40 q41 q42 q43 q44 q45 q46 q47 q48 q49 q50 q51 q54 q56 q58 q60 q61 p0 p1 p2 p3 p4 p5 p6 p7 p8 p9 p10 p11 p12 p13 p14).getD (62 + k) 0)) 15 m0) H := by
  intro k q hk
  obtain ⟨hk, rfl⟩ := rp_w_get hk
  match k, hk with
  | 0, _ => exact hP 62 _ rfl
  | 1, _ => exact hP 63 _ rfl
  | 2, _ => exact hP 64 _ rfl
  | 3, _ => exact hP 65 _ rfl
  | 4, _ => exact hP 66 _ rfl
  | 5, _ => exact hP 67 _ rfl
  | 6, _ =>
    have h := hP 68 _ rfl
    show H[_]? = some (vp_cell cT (2, .inr (.inr (.inr (.inr (fun i => some (ad i)))))))
    refine Eq.trans h ?_
    refine congrArg some (k_cell (fun i hi => ?_))
    match i, hi with
    | 0, _ => rfl
    | 1, _ => rfl
    | i + 2, h => omega
  | 7, _ => exact hP 69 _ rfl
  | 8, _ => exact hP 70 _ rfl
  | 9, _ => exact hP 71 _ rfl
  | 10, _ => exact hP 72 _ rfl
  | 11, _ => exact hP 73 _ rfl
  | 12, _ => exact hP 74 _ rfl
  | 13, _ => exact hP 75 _ rfl
  | 14, _ => exact hP 76 _ rfl
  | k + 15, h => omega
set_option maxRecDepth 100000 in
set_option maxHeartbeats 8000000 in
theorem st_get {cI cB cS cT : ClassId} {ad : Nat → Nat} (q0 q52 q59 q57 q55 q53 q1 q2 q3 q4 q5 q6 q7 q8 q9 q10 q11 q12 q13 q14 q15 q16 q17 q18 q19 q20 q21 q22 q23 q24 q25 q26 q27 q28 q29 q30 q31 q32 q33 q34 q35 q36 q37 q38 q39 q40 q41 q42 q43 q44 q45 q46 q47 q48 q49 q50 q51 q54 q56 q58 q60 q61 p0 p1 p2 p3 p4 p5 p6 p7 p8 p9 p10 p11 p12 p13 p14 : Nat) : ∀ k, k < 77 → ∃ e : va_E, (st_w6 cI cB cS q0 q52 q59 q57 q55 q53 q1 q2 q3 q4 q5 q6 q7 q8 q9 q10 q11 q12 q13 q14 q15 q16 q17 q18 q19 q20 q21 q22 q23 q24 q25 q26 q27 q28 q29 q30 q31 q32 q33 q34 q35 q36 q37 q38 q39 q40 q41 q42 q43 q44 q45 q46 q47 q48 q49 q50 q51 q54 q56 q58 q60 q61 ++ st_w7 cI cT ad p0 p1 p2 p3 p4 p5 p6 p7 p8 p9 p10 p11 p12 p13 p14)[st_pi k]? = some ((st_al q0 q52 q59 q57 q55 q53 q1 q2 q3 q4 q5 q6 q7 q8 q9 q10 q11 q12 q13 q14 q15 q16 q17 q18 q19 q20 q21 q22 q23 q24 q25 q26 q27 q28 q29 q30 q31 q32 q33 q34 q35 q36 q37 q38 q39 q40 q41 q42 q43 q44 q45 q46 q47 q48 q49 q50 q51 q54 q56 q58 q60 q61 p0 p1 p2 p3 p4 p5 p6 p7 p8 p9 p10 p11 p12 p13 p14).getD k 0, e) := by
  intro k hk
  match k, hk with
  | 0, _ => exact ⟨_, rfl⟩
  | 1, _ => exact ⟨_, rfl⟩
  | 2, _ => exact ⟨_, rfl⟩
  | 3, _ => exact ⟨_, rfl⟩
  | 4, _ => exact ⟨_, rfl⟩
  | 5, _ => exact ⟨_, rfl⟩
  | 6, _ => exact ⟨_, rfl⟩
  | 7, _ => exact ⟨_, rfl⟩
  | 8, _ => exact ⟨_, rfl⟩
  | 9, _ => exact ⟨_, rfl⟩
  | 10, _ => exact ⟨_, rfl⟩
  | 11, _ => exact ⟨_, rfl⟩
  | 12, _ => exact ⟨_, rfl⟩
  | 13, _ => exact ⟨_, rfl⟩
  | 14, _ => exact ⟨_, rfl⟩
  | 15, _ => exact ⟨_, rfl⟩
  | 16, _ => exact ⟨_, rfl⟩
  | 17, _ => exact ⟨_, rfl⟩
  | 18, _ => exact ⟨_, rfl⟩
  | 19, _ => exact ⟨_, rfl⟩
  | 20, _ => exact ⟨_, rfl⟩
  | 21, _ => exact ⟨_, rfl⟩
  | 22, _ => exact ⟨_, rfl⟩
  | 23, _ => exact ⟨_, rfl⟩
  | 24, _ => exact ⟨_, rfl⟩
  | 25, _ => exact ⟨_, rfl⟩
  | 26, _ => exact ⟨_, rfl⟩
  | 27, _ => exact ⟨_, rfl⟩
  | 28, _ => exact ⟨_, rfl⟩
  | 29, _ => exact ⟨_, rfl⟩
  | 30, _ => exact ⟨_, rfl⟩
  | 31, _ => exact ⟨_, rfl⟩
  | 32, _ => exact ⟨_, rfl⟩
  | 33, _ => exact ⟨_, rfl⟩
  | 34, _ => exact ⟨_, rfl⟩
  | 35, _ => exact ⟨_, rfl⟩
  | 36, _ => exact ⟨_, rfl⟩
  | 37, _ => exact ⟨_, rfl⟩
  | 38, _ => exact ⟨_, rfl⟩
  | 39, _ => exact ⟨_, rfl⟩
  | 40, _ => exact ⟨_, rfl⟩
  | 41, _ => exact ⟨_, rfl⟩
  | 42, _ => exact ⟨_, rfl⟩
  | 43, _ => exact ⟨_, rfl⟩
  | 44, _ => exact ⟨_, rfl⟩
  | 45, _ => exact ⟨_, rfl⟩
  | 46, _ => exact ⟨_, rfl⟩
  | 47, _ => exact ⟨_, rfl⟩
  | 48, _ => exact ⟨_, rfl⟩
  | 49, _ => exact ⟨_, rfl⟩
  | 50, _ => exact ⟨_, rfl⟩
  | 51, _ => exact ⟨_, rfl⟩
  | 52, _ => exact ⟨_, rfl⟩
  | 53, _ => exact ⟨_, rfl⟩
  | 54, _ => exact ⟨_, rfl⟩
  | 55, _ => exact ⟨_, rfl⟩
  | 56, _ => exact ⟨_, rfl⟩
  | 57, _ => exact ⟨_, rfl⟩
  | 58, _ => exact ⟨_, rfl⟩
  | 59, _ => exact ⟨_, rfl⟩
  | 60, _ => exact ⟨_, rfl⟩
  | 61, _ => exact ⟨_, rfl⟩
  | 62, _ => exact ⟨_, rfl⟩
  | 63, _ => exact ⟨_, rfl⟩
  | 64, _ => exact ⟨_, rfl⟩
  | 65, _ => exact ⟨_, rfl⟩
  | 66, _ => exact ⟨_, rfl⟩
  | 67, _ => exact ⟨_, rfl⟩
  | 68, _ => exact ⟨_, rfl⟩
  | 69, _ => exact ⟨_, rfl⟩
  | 70, _ => exact ⟨_, rfl⟩
  | 71, _ => exact ⟨_, rfl⟩
  | 72, _ => exact ⟨_, rfl⟩
  | 73, _ => exact ⟨_, rfl⟩
  | 74, _ => exact ⟨_, rfl⟩
  | 75, _ => exact ⟨_, rfl⟩
  | 76, _ => exact ⟨_, rfl⟩
  | k + 77, h => omega
