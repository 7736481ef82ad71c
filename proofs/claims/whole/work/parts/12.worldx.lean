/-! THE CLASS'S WORLD: 62 cells. Balls b at 7b (now's, kept's, thought, firstDanced), laws l at 28+3l (now's two, kept's two), evenings e at 40+3e, sheets s at 46+2s -/
def xb_ball (a : Nat → Nat) (k : Nat) (f : Nat → Int32) : List Value := [.int (f 0), .ref (a (k + 1)), .ref (a (k + 2)), .ref (a (k + 3)), .ref (a (k + 4)), .ref (a (k + 5)), .ref (a (k + 6))]
def xb_law (a : Nat → Nat) (k : Nat) (f : Nat → Int32) : List Value := [.int (f 0), .int (f 1), .ref (a (k + 1)), .ref (a (k + 2))]
def xb_eve (a : Nat → Nat) (e : Nat) (f : Nat → Int32) : List Value := [.ref (a (7 * e)), .ref (a (28 + 3 * (2 * e))), .ref (a (28 + 3 * (2 * e + 1))), .ref (a (40 + 3 * e + 1)), .int (f 4), .ref (a (40 + 3 * e + 2)), .int (f 6), .int (f 7), .int (f 8)]
def xb_sheet (a : Nat → Nat) (k : Nat) (f : Nat → Int32) : List Value := [.int (f 0), .int (f 1), .ref (a (k + 1))]
def xb_reg (a : Nat → Nat) (f : Nat → Int32) : List Value := [.ref (a 40), .ref (a 43), .int (f 2), .ref (a 14), .ref (a 21), .ref (a 57), .ref (a 59), .ref (a 56), .ref (a 55)]
def xb_reader (a : Nat → Nat) (f : Nat → Int32) : List Value := [.ref (a 61), .int (f 1), .int (f 2), .int (f 3), .int (f 4), .ref (a 58)]
def xb_voices (a : Nat → Nat) (f : Nat → Int32) : List Value := [.int (f 0), .int (f 1), .int (f 2), .int (f 3), .ref (a 60)]
def xt (cI cB cS : ClassId) (a : Nat → Nat) : rp_Tab := fun k f =>
  if k < 28 then (if k % 7 = 0 then .inr (0, xb_ball a k f) else .inl (cI, 7, .inl f))
  else if k < 40 then (if (k - 28) % 3 = 0 then .inr (2, xb_law a k f) else .inl (cI, 50, .inl f))
  else if k < 46 then (if (k - 40) % 3 = 0 then .inr (1, xb_eve a ((k - 40) / 3) f) else if (k - 40) % 3 = 1 then .inl (cB, 50, .inl f) else .inl (cI, 20, .inl f))
  else if k < 54 then (if k % 2 = 0 then .inr (4, xb_sheet a k f) else .inl (cI, 40, .inl f))
  else if k = 54 then .inr (6, xb_reg a f)
  else if k = 55 then .inl (cI, 6, .inl f)
  else if k = 56 then .inl (cS, 4, .inr (.inr (.inr (.inr (fun i => some (a (46 + 2 * i)))))))
  else if k = 57 then .inr (3, xb_reader a f)
  else if k = 58 then .inl (cI, 50, .inl f)
  else if k = 59 then .inr (5, xb_voices a f)
  else if k = 60 then .inl (cI, 40, .inl f)
  else .inl (cB, 50, .inl f)
section XT
variable {cI cB cS : ClassId} {a : Nat → Nat}
theorem xt_ball {b : Nat} (h : b < 4) (f : Nat → Int32) : xt cI cB cS a (7 * b) f = .inr (0, xb_ball a (7 * b) f) := by
  unfold xt; rw [if_pos (by omega), if_pos (by omega)]
theorem xt_bar {b : Nat} (h : b < 4) (j : Nat) (h1 : (0 < j ∧ j < 7)) (f : Nat → Int32) : xt cI cB cS a (7 * b + j) f = .inl (cI, 7, .inl f) := by
  unfold xt; rw [if_pos (by omega), if_neg (by omega)]
theorem xt_law {i : Nat} (h : i < 4) (f : Nat → Int32) : xt cI cB cS a (28 + 3 * i) f = .inr (2, xb_law a (28 + 3 * i) f) := by
  unfold xt; rw [if_neg (by omega), if_pos (by omega), if_pos (by omega)]
theorem xt_lar {i : Nat} (h : i < 4) (j : Nat) (h1 : (0 < j ∧ j < 3)) (f : Nat → Int32) : xt cI cB cS a (28 + 3 * i + j) f = .inl (cI, 50, .inl f) := by
  unfold xt; rw [if_neg (by omega), if_pos (by omega), if_neg (by omega)]
theorem xt_eve {i : Nat} (h : i < 2) (f : Nat → Int32) : xt cI cB cS a (40 + 3 * i) f = .inr (1, xb_eve a i f) := by
  unfold xt; rw [if_neg (by omega), if_neg (by omega), if_pos (by omega), if_pos (by omega), show (40 + 3 * i - 40) / 3 = i by omega]
theorem xt_tape {i : Nat} (h : i < 2) (f : Nat → Int32) : xt cI cB cS a (40 + 3 * i + 1) f = .inl (cB, 50, .inl f) := by
  unfold xt; rw [if_neg (by omega), if_neg (by omega), if_pos (by omega), if_neg (by omega), if_pos (by omega)]
theorem xt_wait {i : Nat} (h : i < 2) (f : Nat → Int32) : xt cI cB cS a (40 + 3 * i + 2) f = .inl (cI, 20, .inl f) := by
  unfold xt; rw [if_neg (by omega), if_neg (by omega), if_pos (by omega), if_neg (by omega), if_neg (by omega)]
theorem xt_sheet {i : Nat} (h : i < 4) (f : Nat → Int32) : xt cI cB cS a (46 + 2 * i) f = .inr (4, xb_sheet a (46 + 2 * i) f) := by
  unfold xt; rw [if_neg (by omega), if_neg (by omega), if_neg (by omega), if_pos (by omega), if_pos (by omega)]
theorem xt_num {i : Nat} (h : i < 4) (f : Nat → Int32) : xt cI cB cS a (46 + 2 * i + 1) f = .inl (cI, 40, .inl f) := by
  unfold xt; rw [if_neg (by omega), if_neg (by omega), if_neg (by omega), if_pos (by omega), if_neg (by omega)]
theorem xt_reg (f : Nat → Int32) : xt cI cB cS a 54 f = .inr (6, xb_reg a f) := rfl
theorem xt_err (f : Nat → Int32) : xt cI cB cS a 55 f = .inl (cI, 6, .inl f) := rfl
theorem xt_shs (f : Nat → Int32) : xt cI cB cS a 56 f = .inl (cS, 4, .inr (.inr (.inr (.inr (fun i => some (a (46 + 2 * i))))))) := rfl
theorem xt_reader (f : Nat → Int32) : xt cI cB cS a 57 f = .inr (3, xb_reader a f) := rfl
theorem xt_rcode (f : Nat → Int32) : xt cI cB cS a 58 f = .inl (cI, 50, .inl f) := rfl
theorem xt_voices (f : Nat → Int32) : xt cI cB cS a 59 f = .inr (5, xb_voices a f) := rfl
theorem xt_bodies (f : Nat → Int32) : xt cI cB cS a 60 f = .inl (cI, 40, .inl f) := rfl
theorem xt_rbytes (f : Nat → Int32) : xt cI cB cS a 61 f = .inl (cB, 50, .inl f) := rfl
end XT
theorem rp_in_lt {i : Int32} {n : Nat} (h : rp_in i n = true) : i.toNatClampNeg < n := by
  simp [rp_in] at h
  exact h.2
def xAb : Nat → Int32 := fun j => match j with
  | 0 => -1 | 1 => 0 | 2 => 0 | 3 => 0 | 4 => 1 | 5 => 2 | _ => 3
def xBo : Nat → Int32 := fun j => match j with
  | 0 => 10 | 1 => 11 | 2 => 12 | 3 => 13 | 4 => 20 | 9 => 30 | 14 => 40 | 19 => 50 | 21 => 60 | 26 => 70 | 27 => 71 | _ => 0
/-- what the class is given: the words between nest mates, its two tables -/
def xE (a : Nat → Nat) (U : State) : Prop := (va_Nw (.methodLinkNest "RegretPegs$Law" 41 yX6_heldRue "RegretPegs") U ∧ va_Nw (.methodLinkNest "RegretPegs$Ball" 67 yX6_heldRue "RegretPegs") U) ∧ (va_Nw (.fieldLinkNest "RegretPegs$Voices" 32 "RegretPegs" "BODIES" "[I" "RegretPegs") U ∧ va_Nw (.fieldLinkNest "RegretPegs$Voices" 39 "RegretPegs" "ABOVE" "[I" "RegretPegs") U) ∧ (∃ t : Nat, va_Z "RegretPegs" "ABOVE" "[I" (.ref t) (rp_A a 62) U U.heap ∧ va_T .int t 7 (fun j => .int (xAb j)) (rp_A a 62) U U.heap) ∧ ∃ t : Nat, va_Z "RegretPegs" "BODIES" "[I" (.ref t) (rp_A a 62) U U.heap ∧ va_T .int t 28 (fun j => .int (xBo j)) (rp_A a 62) U U.heap
theorem xE_ok (a : Nat → Nat) : rp_E (rp_A a 62) (xE a) := by
  intro s U locs h hW hS
  obtain ⟨⟨h1, h2⟩, ⟨h3, h4⟩, ⟨t, h5, h6⟩, ⟨t2, h7, h8⟩⟩ := h
  have hq : ∀ q : Nat, q < s.heap.size → ¬ rp_A a 62 q → U.heap[q]? = s.heap[q]? := hS.2.1
  exact ⟨⟨h1.warmM hW, h2.warmM hW⟩, ⟨h3.warmF hW, h4.warmF hW⟩, ⟨t, (h5.moved hW.alike).kept hq, (h6.moved hW.alike).kept hq⟩, ⟨t2, (h7.moved hW.alike).kept hq, (h8.moved hW.alike).kept hq⟩⟩
abbrev xTy (cI cB cS : ClassId) : List (ClassId × FieldType) := [(cI, .int), (cB, .byte), (cS, .object "RegretPegs$Sheet")]
abbrev xC (p : Program) (s : State) (m : MethodId) (args : Array Value) (meth : Method) (c : Code) (cc : ByteArray) (maxL : Nat) (own : String) (ret : Option FieldType) (D : va_G) (cI cB cS : ClassId) (a : Nat → Nat) : Prop := rp_C p s m args meth c cc maxL own ret D (xTy cI cB cS) a 62 (xE a)
abbrev xW (D : va_G) (cI cB cS : ClassId) (a : Nat → Nat) (s : State) (σ : rp_St) (H : Heap) (locs : List Loc) : Prop := rp_W D a (xt cI cB cS a) 62 s σ H locs
abbrev xM (l : Launch) (D : va_G) (cI cB cS : ClassId) (a : Nat → Nat) (y : MethodName) (cc : ByteArray) (maxL : Nat) (ret : Option FieldType) (h : Nat) (avs : List Value) (σ : rp_St) (Qc : Array Value → State → Outcome → State → Prop) : Prop := rp_M l D (xTy cI cB cS) a (xt cI cB cS a) 62 (xE a) y cc maxL ret h avs σ Qc
section XS
variable {p : Program} {l : Launch} {e : Env} {R : Room} {s : State} {m : MethodId} {args : Array Value} {below : List Frame} {meth : Method} {c : Code} {H : Heap} {locs : List Loc} {cells slots : Nat} {Q : State → Prop}
variable {cc : ByteArray} {pc maxL : Nat} {own : String} {ret : Option FieldType} {D : va_G} {cI cB cS : ClassId} {a : Nat → Nat} {σ : rp_St} {ls : Array Slot} {rest : List Value}
/-- a number of the table ABOVE, in the class itself; of both tables, in Voices -/
theorem xs_above (hC : xC p s m args meth c cc maxL "RegretPegs" ret D cI cB cS a) (hw : xW D cI cB cS a s σ H locs) {index : Nat} (hl : Cond.fieldLink "RegretPegs" index "RegretPegs" "ABOVE" "[I" ∈ rp_W0) (hd : decode cc pc = .ok (.getstatic index, 3)) (kk : ∀ t : Nat, va_T .int t 7 (fun j => .int (xAb j)) (rp_A a 62) s s.heap → W p l e R s m args below meth c H locs cells slots Q (F0 m (pc + 3) ls (.ref t :: rest))) : W p l e R s m args below meth c H locs cells slots Q (F0 m pc ls rest) := by
  obtain ⟨hx, hb, hml, hown, hts, hlk, hr, hK, hI, hN⟩ := hC
  obtain ⟨-, -, ⟨t, h5, h6⟩, -⟩ := hN
  exact va_gets hx hb h5 hw.2 hown (hts _ hl) (fun _ h => h) hd (kk t h6)
theorem xs_aboveN (hC : xC p s m args meth c cc maxL "RegretPegs$Voices" ret D cI cB cS a) (hw : xW D cI cB cS a s σ H locs) (hd : decode cc pc = .ok (.getstatic 39, 3)) (kk : ∀ t : Nat, va_T .int t 7 (fun j => .int (xAb j)) (rp_A a 62) s s.heap → W p l e R s m args below meth c H locs cells slots Q (F0 m (pc + 3) ls (.ref t :: rest))) : W p l e R s m args below meth c H locs cells slots Q (F0 m pc ls rest) := by
  obtain ⟨hx, hb, hml, hown, hts, hlk, hr, hK, hI, hN⟩ := hC
  obtain ⟨-, ⟨-, h4⟩, ⟨t, h5, h6⟩, -⟩ := hN
  exact va_getsN hx hb h5 hw.2 hown (va_tabs rfl rfl h4) (fun _ h => h) hd (kk t h6)
theorem xs_bodiesN (hC : xC p s m args meth c cc maxL "RegretPegs$Voices" ret D cI cB cS a) (hw : xW D cI cB cS a s σ H locs) (hd : decode cc pc = .ok (.getstatic 32, 3)) (kk : ∀ t : Nat, va_T .int t 28 (fun j => .int (xBo j)) (rp_A a 62) s s.heap → W p l e R s m args below meth c H locs cells slots Q (F0 m (pc + 3) ls (.ref t :: rest))) : W p l e R s m args below meth c H locs cells slots Q (F0 m pc ls rest) := by
  obtain ⟨hx, hb, hml, hown, hts, hlk, hr, hK, hI, hN⟩ := hC
  obtain ⟨-, ⟨h4, -⟩, -, ⟨t, h5, h6⟩⟩ := hN
  exact va_getsN hx hb h5 hw.2 hown (va_tabs rfl rfl h4) (fun _ h => h) hd (kk t h6)
theorem xs_tab (hC : xC p s m args meth c cc maxL own ret D cI cB cS a) (hw : xW D cI cB cS a s σ H locs) {t n : Nat} {g : Nat → Int32} (hT : va_T .int t n (fun j => .int (g j)) (rp_A a 62) s s.heap) {i : Int32} (hin : rp_in i n = true) (hd : decode cc pc = .ok (.iaload, 1)) (kk : W p l e R s m args below meth c H locs cells slots Q (F0 m (pc + 1) ls (.int (g i.toNatClampNeg) :: rest))) : W p l e R s m args below meth c H locs cells slots Q (F0 m pc ls (.int i :: .ref t :: rest)) := by
  obtain ⟨hx, hb, hml, hown, hts, hlk, hr, hK, hI, hN⟩ := hC
  exact va_ti hx hb hT hw.2 (rp_in_vp hin) rfl hd kk
/-- a static method of a nest mate -/
theorem rp_runN {Qc : Array Value → State → Outcome → State → Prop} {tys : List (ClassId × FieldType)} {tab : rp_Tab} {N : Nat} {en : State → Prop} {y : MethodName} {cc' : ByteArray} {maxL' : Nat} {ret' : Option FieldType} {h h' n index : Nat} {As st : List Value} {host : String} (hC : rp_C p s m args meth c cc maxL own ret D tys a N en) (hE : rp_E (rp_A a N) en) (hw : rp_W D a tab N s σ H locs) (hls : ls.size = maxL) (hM : rp_M l D tys a tab N en y cc' maxL' ret' h' As σ Qc) (hNw : va_Nw (.methodLinkNest own index y host) s) (h1 : Cond.static y ∈ rp_W0) (h2 : Cond.initialized y.cls ∈ rp_W0) (h3 : Cond.code y cc' maxL' ret' ∈ rp_W0) (hy : y.cls ≠ "java/lang/invoke/MethodHandle" ∧ y.cls ≠ "java/lang/invoke/VarHandle" ∧ (parseMethodDescriptor y.desc).map (fun d => d.parameters.length) = some n) (h4 : maxL' ≤ 41) (hn : As.length = n) (hst : st = As.reverse ++ rest) (hcat : (rest.map fun v => v.category).sum ≤ 8) (hh : h' < h) (hd : decode cc pc = .ok (.invokestatic index, 3)) :
    va_Run p l e (rp_rm h) s m args below meth c H locs 0 0 0 0 (F0 m pc ls st) rest (Qc As.toArray) (rp_A a N) := by
  have hpre := rp_pre (avs := As) hC hE hw
  obtain ⟨hx, hb, hml, hown, hts, hlk, hr, hK, hI, hN⟩ := hC
  exact va_runSN (nL := maxL) ⟨hx, hb, hml, hown, hts⟩ hM ⟨va_cnB n hts (rp_good1 h3) rfl rfl rfl hNw (hts _ h2) hy ⟨hh, by show 8 + (maxL' + 11) + 60 * h' ≤ 60 * h; omega⟩, hts _ h1, trivial⟩ hpre rfl hn hls hst (lv_room hcat) hd ⟨Nat.le_refl _, Nat.le_refl _⟩
end XS
