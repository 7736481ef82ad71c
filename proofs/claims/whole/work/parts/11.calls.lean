/-! CONTRACTS over a system's world -/
def rp_P (D : va_G) (tys : List (ClassId × FieldType)) (a : Nat → Nat) (tab : rp_Tab) (N : Nat) (en : State → Prop) (σ : rp_St) (U : State) : Prop := va_P D vwCl (rp_w a tab N σ) U.heap ∧ va_K D vwCl tys U ∧ rp_I a N ∧ en U
abbrev rp_Qi (D : va_G) (a : Nat → Nat) (tab : rp_Tab) (N : Nat) (res : Int32 × rp_St) : Array Value → State → Outcome → State → Prop := va_Qi (fun r (_ : Unit) => r = res.1) (fun _ t => va_P D vwCl (rp_w a tab N res.2) t.heap) (rp_A a N)
abbrev rp_Qv (D : va_G) (a : Nat → Nat) (tab : rp_Tab) (N : Nat) (res : Int32 × rp_St) : Array Value → State → Outcome → State → Prop := va_Qv (fun (_ : Unit) => True) (fun _ t => va_P D vwCl (rp_w a tab N res.2) t.heap) (rp_A a N)
abbrev rp_Qr (D : va_G) (a : Nat → Nat) (tab : rp_Tab) (N : Nat) (res : Nat × rp_St) : Array Value → State → Outcome → State → Prop := va_Qr (fun (_ : Unit) => True) (fun _ ra t => ra = a (28 + 3 * res.1) ∧ va_P D vwCl (rp_w a tab N res.2) t.heap) (rp_A a N)
def rp_M (l : Launch) (D : va_G) (tys : List (ClassId × FieldType)) (a : Nat → Nat) (tab : rp_Tab) (N : Nat) (en : State → Prop) (y : MethodName) (cc : ByteArray) (maxL : Nat) (ret : Option FieldType) (h : Nat) (avs : List Value) (σ : rp_St) (Qc : Array Value → State → Outcome → State → Prop) : Prop := Met l y (.code y cc maxL ret :: rp_W0) (rp_rm h) (va_Pc avs (rp_P D tys a tab N en σ)) Qc 0 0 (rp_A a N)
/-- what a system is given stays, whatever the system does -/
def rp_E (A : Nat → Prop) (en : State → Prop) : Prop := ∀ (s U : State) (locs : List Loc), en s → s.WarmedH U.vm → va_S A s.heap U.heap locs → en U
/-- the words of a call -/
def rp_V (own : String) (index : Nat) (C : String) (y : MethodName) (cc : ByteArray) (maxL : Nat) (ret : Option FieldType) (n : Nat) : Prop := Cond.methodLink own index y ∈ rp_W0 ∧ Cond.instanceMethod y ∈ rp_W0 ∧ Cond.selects C y y ∈ rp_W0 ∧ Cond.initialized C ∈ rp_W0 ∧ Cond.code y cc maxL ret ∈ rp_W0 ∧ (y.cls = C ∧ y.cls ≠ "java/lang/invoke/MethodHandle" ∧ y.cls ≠ "java/lang/invoke/VarHandle" ∧ (parseMethodDescriptor y.desc).map (fun d => d.parameters.length) = some n) ∧ maxL ≤ 41
def rp_Z (own : String) (index : Nat) (y : MethodName) (cc : ByteArray) (maxL : Nat) (ret : Option FieldType) (n : Nat) : Prop := Cond.methodLink own index y ∈ rp_W0 ∧ Cond.static y ∈ rp_W0 ∧ Cond.initialized own ∈ rp_W0 ∧ Cond.code y cc maxL ret ∈ rp_W0 ∧ (y.cls = own ∧ y.cls ≠ "java/lang/invoke/MethodHandle" ∧ y.cls ≠ "java/lang/invoke/VarHandle" ∧ (parseMethodDescriptor y.desc).map (fun d => d.parameters.length) = some n) ∧ maxL ≤ 41
theorem rp_good1 {y : MethodName} {cc : ByteArray} {maxL : Nat} {ret : Option FieldType} (h : Cond.code y cc maxL ret ∈ rp_W0) : GoodIn rp_W0 (Cond.code y cc maxL ret :: rp_W0) := fun w hw => (List.mem_cons.mp hw).elim (fun e => e ▸ rp_W0_good _ h) (rp_W0_good w)
theorem rp_goodV {own : String} {index : Nat} {C : String} {y : MethodName} {cc : ByteArray} {maxL : Nat} {ret : Option FieldType} {n : Nat} (h : rp_V own index C y cc maxL ret n) : GoodIn rp_W0 (wsV own index C y (Cond.code y cc maxL ret :: rp_W0)) := by
  obtain ⟨h1, h2, h3, h4, h5, -⟩ := h
  intro w hw
  unfold wsV at hw
  rcases List.mem_append.mp hw with q | q
  · simp only [List.mem_cons, List.not_mem_nil, or_false] at q
    rcases q with rfl | rfl | rfl | rfl
    · exact rp_W0_good _ h1
    · exact rp_W0_good _ h2
    · exact rp_W0_good _ h3
    · exact rp_W0_good _ h4
  · exact rp_good1 h5 w q
theorem rp_goodZ {own : String} {index : Nat} {y : MethodName} {cc : ByteArray} {maxL : Nat} {ret : Option FieldType} {n : Nat} (h : rp_Z own index y cc maxL ret n) : GoodIn rp_W0 (wsS own index y (Cond.code y cc maxL ret :: rp_W0)) := by
  obtain ⟨h1, h2, h3, h5, -⟩ := h
  intro w hw
  unfold wsS at hw
  rcases List.mem_append.mp hw with q | q
  · simp only [List.mem_cons, List.not_mem_nil, or_false] at q
    rcases q with rfl | rfl | rfl
    · exact rp_W0_good _ h1
    · exact rp_W0_good _ h2
    · exact rp_W0_good _ h3
  · exact rp_good1 h5 w q
def rp_nz0 (y : Int32) : Bool := !decide (y = 0)
theorem rp_nz0_e {y : Int32} (h : rp_nz0 y = true) : ¬ y = 0 := by simpa [rp_nz0] using h
theorem rp_ne {x : Int32} (k : Int32) (z : Int) (hz : k.toInt = z) (h : ¬ x = k) : x.toInt ≠ z := fun q => h (Int32.toInt_inj.mp (q.trans hz.symm))
theorem rp_lkc {a o d k z : Int} {r : List (Int × Int)} (h : k ≠ a) (hr : Op.lookupswitch.offset r d k = z) : Op.lookupswitch.offset ((a, o) :: r) d k = z := by
  unfold Op.lookupswitch.offset
  rw [if_neg (fun q => h q.symm)]
  exact hr
section RPC
variable {p : Program} {l : Launch} {e : Env} {R : Room} {s : State} {m : MethodId} {args : Array Value} {below : List Frame} {meth : Method} {c : Code} {H : Heap} {locs : List Loc} {cells slots : Nat} {Q : State → Prop}
variable {cc : ByteArray} {pc maxL : Nat} {own : String} {ret : Option FieldType} {D : va_G} {tys : List (ClassId × FieldType)} {a : Nat → Nat} {tab : rp_Tab} {N : Nat} {en : State → Prop} {σ : rp_St} {ls : Array Slot} {rest : List Value}
theorem rp_blind {avs : List Value} (hE : rp_E (rp_A a N) en) : FrameBlind (va_Pc avs (rp_P D tys a tab N en σ)) := by
  intro b U g mk q
  obtain ⟨h0, hP, hK, hI, hN⟩ := q
  exact ⟨h0, hP, va_K.moved (u := U) (U := U.calling g mk b) (Vm.Alike.refl U.vm) hK, hI, hE U (U.calling g mk b) [] hN (State.WarmedH.refl U) va_S.rf⟩
theorem rp_pre {avs : List Value} (hC : rp_C p s m args meth c cc maxL own ret D tys a N en) (hE : rp_E (rp_A a N) en) (hw : rp_W D a tab N s σ H locs) : PreS s H (va_Pc avs (rp_P D tys a tab N en σ)) avs := by
  obtain ⟨hx, hb, hml, hown, hts, hlk, hr, hK, hI, hN⟩ := hC
  exact ⟨rp_blind hE, fun U hU hW => ⟨rfl, by rw [hU]; exact hw.1, va_K.moved hW.alike hK, hI, hE s U locs hN hW (by rw [hU]; exact hw.2)⟩⟩
theorem rp_entry {Qc : Array Value → State → Outcome → State → Prop} {y : MethodName} {h : Nat} {avs : List Value} (hy : plainName y.cls = true) (hlen : (lg_sl avs).length ≤ maxL)
    (body : ∀ (p : Program) (e : Env) (s : State) (m : MethodId) (below : List Frame) (meth : Method) (c : Code) (ls : Array Slot), rp_C p s m avs.toArray meth c cc maxL y.cls ret D tys a N en → rp_W D a tab N s σ s.heap [] → lv_has ls maxL (lv_args 0 avs) → W p l e (rp_rm h) s m avs.toArray below meth c s.heap [] 0 0 (MQ below Qc avs.toArray s 0 0 (rp_A a N)) (F0 m 0 ls [])) : rp_M l D tys a tab N en y cc maxL ret h avs σ Qc := by
  refine Met.ofW (cc := cc) (maxL := maxL) (ret := ret) hy rfl ?_
  intro p e s m args below meth c s₁ B hml hv
  obtain ⟨rfl, hP, hK, hI, hN⟩ := hv
  have hts := atoms_spec (ws := Cond.code y cc maxL ret :: rp_W0) B.pre
  have hown : s.vm.findClass y.cls = some m.cls := findClass_of_methodNamed B.named
  have hl := lv_entry avs (n := maxL) hlen
  rw [lg_entry_eq]
  exact body p e s m below meth c _ ⟨B.exec, B.bytes, hml, hown, fun w hw => hts w (List.mem_cons_of_mem _ hw), B.notSynchronized, B.returns, hK, hI, hN⟩ ⟨hP, va_S.rf⟩ hl
theorem rp_reti {res : Int32 × rp_St} {v : Int32} (hC : rp_C p s m args meth c cc maxL own (some .int) D tys a N en) (hw : rp_W D a tab N s σ H locs) (hF : some (v, σ) = some res) (hd : decode cc pc = .ok (.ireturn, 1)) : W p l e R s m args below meth c H locs 0 0 (MQ below (rp_Qi D a tab N res) args s 0 0 (rp_A a N)) (F0 m pc ls [.int v]) := by
  obtain ⟨hx, hb, hml, hown, hts, hlk, hr, hK, hI, hN⟩ := hC
  cases hF
  exact W.iret hx hb hr (fun t ht hW => ⟨⟨v, (), rfl, rfl, by show va_P _ _ _ t.heap; rw [ht]; exact hw.1⟩, hw.2.F ht⟩) hw.2.2.2 hd hlk
theorem rp_nz {v : Int32} (h : (v == 0 || v == 1) = true) : narrow .boolean (.int v) = .int v ∧ fits .boolean (.int v) = true := by
  simp only [Bool.or_eq_true, beq_iff_eq] at h
  rcases h with rfl | rfl
  · exact ⟨by decide +kernel, by decide +kernel⟩
  · exact ⟨by decide +kernel, by decide +kernel⟩
theorem rp_retz {res : Int32 × rp_St} {v : Int32} (hC : rp_C p s m args meth c cc maxL own (some .boolean) D tys a N en) (hw : rp_W D a tab N s σ H locs) (hz : (v == 0 || v == 1) = true) (hF : some (v, σ) = some res) (hd : decode cc pc = .ok (.ireturn, 1)) : W p l e R s m args below meth c H locs 0 0 (MQ below (rp_Qi D a tab N res) args s 0 0 (rp_A a N)) (F0 m pc ls [.int v]) := by
  obtain ⟨hx, hb, hml, hown, hts, hlk, hr, hK, hI, hN⟩ := hC
  cases hF
  exact W.zret hx hb hr (rp_nz hz).1 (fun t ht hW => ⟨⟨v, (), rfl, rfl, by show va_P _ _ _ t.heap; rw [ht]; exact hw.1⟩, hw.2.F ht⟩) hw.2.2.2 hd hlk
theorem rp_retv {res : Int32 × rp_St} {v : Int32} (hC : rp_C p s m args meth c cc maxL own none D tys a N en) (hw : rp_W D a tab N s σ H locs) (hF : some (v, σ) = some res) (hd : decode cc pc = .ok (.return_, 1)) : W p l e R s m args below meth c H locs 0 0 (MQ below (rp_Qv D a tab N res) args s 0 0 (rp_A a N)) (F0 m pc ls []) := by
  obtain ⟨hx, hb, hml, hown, hts, hlk, hr, hK, hI, hN⟩ := hC
  cases hF
  exact W.vret hx hb hr (fun t ht hW => ⟨⟨(), rfl, trivial, by show va_P _ _ _ t.heap; rw [ht]; exact hw.1⟩, hw.2.F ht⟩) hw.2.2.2 hd hlk
theorem rp_reta {res : Nat × rp_St} {k : Nat} {C : String} (hC : rp_C p s m args meth c cc maxL own (some (.object C)) D tys a N en) (hw : rp_W D a tab N s σ H locs) (hF : some (k, σ) = some res) (hd : decode cc pc = .ok (.areturn, 1)) : W p l e R s m args below meth c H locs 0 0 (MQ below (rp_Qr D a tab N res) args s 0 0 (rp_A a N)) (F0 m pc ls [.ref (a (28 + 3 * k))]) := by
  obtain ⟨hx, hb, hml, hown, hts, hlk, hr, hK, hI, hN⟩ := hC
  cases hF
  exact W.aret hx hb hr (Or.inl ⟨C, rfl⟩) (Or.inr ⟨_, rfl⟩) (fun t ht hW => ⟨⟨(), _, rfl, trivial, rfl, by show va_P _ _ _ t.heap; rw [ht]; exact hw.1⟩, hw.2.F ht⟩) hw.2.2.2 hd hlk
variable {y : MethodName} {cc' : ByteArray} {maxL' : Nat} {ret' : Option FieldType} {h h' n index k ci : Nat} {As : List Value} {fs st : List Value} {C : String} {T : u_T} {nf : Nat}
theorem rp_runV {Qc : Array Value → State → Outcome → State → Prop} (hC : rp_C p s m args meth c cc maxL own ret D tys a N en) (hE : rp_E (rp_A a N) en) (hw : rp_W D a tab N s σ H locs) (hls : ls.size = maxL) (hM : rp_M l D tys a tab N en y cc' maxL' ret' h' (.ref (a k) :: As) σ Qc) (hV : rp_V own index C y cc' maxL' ret' n) (hk : k < N) (ht : tab k (σ k) = .inr (ci, fs)) (hci : vwCl[ci]? = some (C, T, nf)) (hn : As.length = n) (hst : st = As.reverse ++ .ref (a k) :: rest) (hcat : (rest.map fun v => v.category).sum ≤ 8) (hh : h' < h) (hd : decode cc pc = .ok (.invokevirtual index, 3)) :
    va_Run p l e (rp_rm h) s m args below meth c H locs 0 0 0 0 (F0 m pc ls st) rest (Qc (Value.ref (a k) :: As).toArray) (rp_A a N) := by
  have hpre := rp_pre (avs := .ref (a k) :: As) hC hE hw
  obtain ⟨hx, hb, hml, hown, hts, hlk, hr, hK, hI, hN⟩ := hC
  have cw : CallW (rp_rm h) s args own C index y cc' maxL' ret' (Cond.code y cc' maxL' ret' :: rp_W0) (rp_rm h') 0 0 n := cwV n hts (rp_goodV hV) rfl rfl rfl hV.2.2.2.2.2.1 ⟨hh, by have := hV.2.2.2.2.2.2; show 8 + (maxL' + 11) + 60 * h' ≤ 60 * h; omega⟩
  exact va_runV (nL := maxL) ⟨hx, hb, hml, hown, hts⟩ hM cw ⟨hpre.1, va_recv hK hw.1 hci (q0 := k) (by rw [rp_w_at hk, ht]), hpre.2⟩ rfl hn hls hst (lv_room hcat) hd ⟨Nat.le_refl _, Nat.le_refl _⟩
theorem rp_runZ {Qc : Array Value → State → Outcome → State → Prop} (hC : rp_C p s m args meth c cc maxL own ret D tys a N en) (hE : rp_E (rp_A a N) en) (hw : rp_W D a tab N s σ H locs) (hls : ls.size = maxL) (hM : rp_M l D tys a tab N en y cc' maxL' ret' h' As σ Qc) (hV : rp_Z own index y cc' maxL' ret' n) (hn : As.length = n) (hst : st = As.reverse ++ rest) (hcat : (rest.map fun v => v.category).sum ≤ 8) (hh : h' < h) (hd : decode cc pc = .ok (.invokestatic index, 3)) :
    va_Run p l e (rp_rm h) s m args below meth c H locs 0 0 0 0 (F0 m pc ls st) rest (Qc As.toArray) (rp_A a N) := by
  have hpre := rp_pre (avs := As) hC hE hw
  obtain ⟨hx, hb, hml, hown, hts, hlk, hr, hK, hI, hN⟩ := hC
  exact va_runS (nL := maxL) ⟨hx, hb, hml, hown, hts⟩ hM (cwS n hts (rp_goodZ hV) rfl rfl rfl hV.2.2.2.2.1 ⟨hh, by have := hV.2.2.2.2.2; show 8 + (maxL' + 11) + 60 * h' ≤ 60 * h; omega⟩) hpre rfl hn hls hst (lv_room hcat) hd ⟨Nat.le_refl _, Nat.le_refl _⟩
/-- behind a call: the answer, and the world as the callee left it -/
theorem rp_ki {r : Int32} {τ : rp_St} {av : Array Value} (hr : va_Run p l e R s m args below meth c H locs 0 0 0 0 (F0 m pc ls st) rest (rp_Qi D a tab N (r, τ) av) (rp_A a N)) (hw : rp_W D a tab N s σ H locs) (kk : ∀ (H1 : Heap) (locs1 : List Loc), rp_W D a tab N s τ H1 locs1 → W p l e R s m args below meth c H1 locs1 0 0 Q (F0 m (pc + 3) ls (.int r :: rest))) : W p l e R s m args below meth c H locs 0 0 Q (F0 m pc ls st) := by
  refine va_calli hr hw.2 (fun _ _ h => h) (fun _ h => h) (fun r0 u t H1 locs1 ht hvm hp hB hz hk hS => ?_)
  subst hp
  rw [ht] at hB
  exact kk H1 locs1 ⟨hB, hS⟩
theorem rp_kv {r : Int32} {τ : rp_St} {av : Array Value} (hr : va_Run p l e R s m args below meth c H locs 0 0 0 0 (F0 m pc ls st) rest (rp_Qv D a tab N (r, τ) av) (rp_A a N)) (hw : rp_W D a tab N s σ H locs) (kk : ∀ (H1 : Heap) (locs1 : List Loc), rp_W D a tab N s τ H1 locs1 → W p l e R s m args below meth c H1 locs1 0 0 Q (F0 m (pc + 3) ls rest)) : W p l e R s m args below meth c H locs 0 0 Q (F0 m pc ls st) := by
  refine va_callv hr hw.2 (fun _ _ h => h) (fun _ h => h) (fun u t H1 locs1 ht hvm hp hB hz hk hS => ?_)
  rw [ht] at hB
  exact kk H1 locs1 ⟨hB, hS⟩
theorem rp_kr {r : Nat} {τ : rp_St} {av : Array Value} (hr : va_Run p l e R s m args below meth c H locs 0 0 0 0 (F0 m pc ls st) rest (rp_Qr D a tab N (r, τ) av) (rp_A a N)) (hw : rp_W D a tab N s σ H locs) (kk : ∀ (H1 : Heap) (locs1 : List Loc), rp_W D a tab N s τ H1 locs1 → W p l e R s m args below meth c H1 locs1 0 0 Q (F0 m (pc + 3) ls (.ref (a (28 + 3 * r)) :: rest))) : W p l e R s m args below meth c H locs 0 0 Q (F0 m pc ls st) := by
  refine va_callr hr hw.2 (fun _ _ h => h) (fun _ h => h) (fun u ra t H1 locs1 ht hvm hp hB hz hk hS => ?_)
  obtain ⟨rfl, hB⟩ := hB
  rw [ht] at hB
  exact kk H1 locs1 ⟨hB, hS⟩
theorem rp_max {x z : Int32} (hC : rp_C p s m args meth c cc maxL own ret D tys a N en) (hls : ls.size = maxL) (hm : Cond.methodLink own index Lib.Math.max.name ∈ rp_W0) (hm2 : Cond.static Lib.Math.max.name ∈ rp_W0) (hm3 : Cond.initialized "java/lang/Math" ∈ rp_W0) (hm4 : Cond.code Lib.Math.max.name Lib.Math.max.code 2 (some .int) ∈ rp_W0) (hcat : (rest.map fun v => v.category).sum ≤ 8) (hh : 0 < h) (hd : decode cc pc = .ok (.invokestatic index, 3))
    (kk : W p l e (rp_rm h) s m args below meth c H locs 0 0 Q (F0 m (pc + 3) ls (.int (if x < z then z else x) :: rest))) : W p l e (rp_rm h) s m args below meth c H locs 0 0 Q (F0 m pc ls (.int z :: .int x :: rest)) := by
  obtain ⟨hx, hb, hml, hown, hts, hlk, hr, hK, hI, hN⟩ := hC
  exact va_mmax (R := rp_rm h) hx hb (hml.trans hls.symm) hown (hts _ hm) (hts _ hm2) (hts _ hm3) (hts _ hm4) hh (by show _ ≤ 60 * h; omega) (Nat.zero_le _) (Nat.zero_le _) hd kk
theorem rp_min {x z : Int32} (hC : rp_C p s m args meth c cc maxL own ret D tys a N en) (hls : ls.size = maxL) (hm : Cond.methodLink own index Lib.Math.min.name ∈ rp_W0) (hm2 : Cond.static Lib.Math.min.name ∈ rp_W0) (hm3 : Cond.initialized "java/lang/Math" ∈ rp_W0) (hm4 : Cond.code Lib.Math.min.name Lib.Math.min.code 2 (some .int) ∈ rp_W0) (hcat : (rest.map fun v => v.category).sum ≤ 8) (hh : 0 < h) (hd : decode cc pc = .ok (.invokestatic index, 3))
    (kk : W p l e (rp_rm h) s m args below meth c H locs 0 0 Q (F0 m (pc + 3) ls (.int (if z < x then z else x) :: rest))) : W p l e (rp_rm h) s m args below meth c H locs 0 0 Q (F0 m pc ls (.int z :: .int x :: rest)) := by
  obtain ⟨hx, hb, hml, hown, hts, hlk, hr, hK, hI, hN⟩ := hC
  exact va_mmin (R := rp_rm h) hx hb (hml.trans hls.symm) hown (hts _ hm) (hts _ hm2) (hts _ hm3) (hts _ hm4) hh (by show _ ≤ 60 * h; omega) (Nat.zero_le _) (Nat.zero_le _) hd kk
end RPC
