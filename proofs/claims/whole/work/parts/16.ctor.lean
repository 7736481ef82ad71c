/-! CONSTRUCTORS: worlds that grow, cell by cell -/
/-- words that the class's constructors take: private ones of nest mates, the row of sheets -/
def kN (U : State) : Prop := (va_Nw (.methodLinkNest "RegretPegs" 9 yX1_init "RegretPegs") U ∧ va_Nw (.methodLinkNest "RegretPegs$Evening" 11 yX0_init "RegretPegs") U ∧ va_Nw (.methodLinkNest "RegretPegs" 25 yX0_init "RegretPegs") U ∧ va_Nw (.methodLinkNest "RegretPegs" 35 yX3_init "RegretPegs") U ∧ va_Nw (.methodLinkNest "RegretPegs" 42 yX5_init "RegretPegs") U ∧ va_Nw (.methodLinkNest "RegretPegs" 49 yX4_init "RegretPegs") U) ∧ va_AO "RegretPegs$Sheet" U
/-- and the reference's: its texts -/
def kS (ad : Nat → Nat) (A : Nat → Prop) (U : State) : Prop := (vk_R "RegretPegsModel" 27 "rom" (ad 0) U ∧ vk_R "RegretPegsModel" 29 "dmp" (ad 1) U) ∧ va_AO "java/lang/String" U ∧ ∀ i, i < 2 → va_O "java/lang/String" (ad i) A U U.heap
def kp (D : va_G) (tys : List (ClassId × FieldType)) (en : State → Prop) (sz : Nat) (ws : va_W) (U : State) : Prop := U.heap.size = sz ∧ va_P D vwCl ws U.heap ∧ va_K D vwCl tys U ∧ va_D (fun _ => True) ws ∧ en U
def k_rm (h mc ms : Nat) : Room := { frames := h, cells := mc, slots := ms, locals := 60 * h }
def kM (l : Launch) (D : va_G) (tys : List (ClassId × FieldType)) (en : State → Prop) (y : MethodName) (cc : ByteArray) (maxL h mc ms : Nat) (avs : List Value) (ws : va_W) (sz : Nat) (B : State → Prop) : Prop := Met l y (.code y cc maxL none :: rp_W0) (k_rm h mc ms) (va_Pc avs (kp D tys en sz ws)) (va_Qv (fun (_ : Unit) => True) (fun _ t => B t) (va_A ws sz)) mc ms (va_A ws sz)
/-- a constructor's own frame: what stays -/
def kC (p : Program) (s : State) (m : MethodId) (args : Array Value) (meth : Method) (c : Code) (cc : ByteArray) (maxL : Nat) (own : String) (D : va_G) (tys : List (ClassId × FieldType)) (en : State → Prop) : Prop :=
  p.tables.exec = Jvm.exec ∧ c.code = cc ∧ c.maxLocals = maxL ∧ s.vm.findClass own = some m.cls ∧ (∀ w ∈ rp_W0, w.before args s = true) ∧ meth.locks = false ∧ meth.sig.returnType = none ∧ va_K D vwCl tys s ∧ meth.name = "<init>" ∧ en s
theorem k_blind {D : va_G} {tys : List (ClassId × FieldType)} {en : State → Prop} {sz : Nat} {ws : va_W} {avs : List Value} (hE : ∀ (U : State) (g : JFrame) (mk : MethodId) (b : Array Value), en U → en (U.calling g mk b)) : FrameBlind (va_Pc avs (kp D tys en sz ws)) := by
  intro b U g mk q
  obtain ⟨h0, h1, hP, hK, hD, hN⟩ := q
  exact ⟨h0, h1, hP, va_K.moved (u := U) (U := U.calling g mk b) (Vm.Alike.refl U.vm) hK, hD, hE U g mk b hN⟩
theorem kN_blind (U : State) (g : JFrame) (mk : MethodId) (b : Array Value) (h : kN U) : kN (U.calling g mk b) := by
  obtain ⟨⟨h1, h2, h3, h4, h5, h7⟩, h6⟩ := h
  exact ⟨⟨h1.warmM (State.WarmedH.refl U), h2.warmM (State.WarmedH.refl U), h3.warmM (State.WarmedH.refl U), h4.warmM (State.WarmedH.refl U), h5.warmM (State.WarmedH.refl U), h7.warmM (State.WarmedH.refl U)⟩, va_AO.moved (u := U) (U := U.calling g mk b) (Vm.Alike.refl U.vm) h6⟩
theorem kN_warm {s U : State} (hW : s.WarmedH U.vm) (h : kN s) : kN U := by
  obtain ⟨⟨h1, h2, h3, h4, h5, h7⟩, h6⟩ := h
  exact ⟨⟨h1.warmM hW, h2.warmM hW, h3.warmM hW, h4.warmM hW, h5.warmM hW, h7.warmM hW⟩, h6.moved hW.alike⟩
theorem kS_blind {ad : Nat → Nat} {A : Nat → Prop} (U : State) (g : JFrame) (mk : MethodId) (b : Array Value) (h : kS ad A U) : kS ad A (U.calling g mk b) := by
  obtain ⟨⟨h1, h2⟩, h6, h7⟩ := h
  exact ⟨⟨h1.same (u := U) (U := U.calling g mk b) rfl, h2.same (u := U) (U := U.calling g mk b) rfl⟩, va_AO.moved (u := U) (U := U.calling g mk b) (Vm.Alike.refl U.vm) h6, fun i hi => va_O.moved (u := U) (U := U.calling g mk b) (Vm.Alike.refl U.vm) (h7 i hi)⟩
section KR
variable {p : Program} {l : Launch} {e : Env} {R : Room} {s : State} {m : MethodId} {args : Array Value} {below : List Frame} {meth : Method} {c : Code} {H : Heap} {locs : List Loc} {cells slots : Nat} {Q : State → Prop}
variable {cc : ByteArray} {pc maxL : Nat} {own : String} {D : va_G} {tys : List (ClassId × FieldType)} {en : State → Prop} {ls : Array Slot} {rest : List Value} {A : Nat → Prop} {ws : va_W} {H0 : Heap}
theorem k_newi {cA : ClassId} (hx : p.tables.exec = Jvm.exec) (hb : c.code = cc) (hts : ∀ w ∈ rp_W0, w.before args s = true) (hK : va_K D vwCl tys s) (hP : va_P D vwCl ws H) (hD : va_D A ws) (hS : va_S A H0 H locs) (hA : ∀ q, H0.size ≤ q → A q) (t0 : Nat) (hty : tys[t0]? = some (cA, .int)) {n : Int32} (N' : Nat) (hn : ¬ n < 0) (hN : n.toNatClampNeg = N') (hby : N' * componentBytes .int ≤ 536870912) (hc : cells + 1 ≤ R.cells) (hs : slots + N' ≤ R.slots) (hd : decode cc pc = .ok (.newarray .int, 2))
    (kk : ∀ (q : Nat) (H1 : Heap), va_P D vwCl (ws ++ [(q, .inl (cA, N', .inl (fun _ => 0)))]) H1 → va_D A (ws ++ [(q, .inl (cA, N', .inl (fun _ => 0)))]) → va_S A H0 H1 locs → W p l e R s m args below meth c H1 locs (cells + 1) (slots + N') Q (F0 m (pc + 2) ls (.ref q :: rest))) : W p l e R s m args below meth c H locs cells slots Q (F0 m pc ls (.int n :: rest)) := by
  refine va_newa (atype := .int) (ty := .int) (a0 := (N', .inl (fun _ => 0))) hx hb (hts _ wd_67) rfl hK hP hD hS hA (fun _ => rfl) hn hN hby hc hs hd (fun q cB H1 hK2 hP hD hS => ?_)
  have e1 : s.vm.findClass "[I" = some cB := (hK2.2 tys.length (cB, .int) (by simp)).2
  have e2 : s.vm.findClass "[I" = some cA := (hK.2 t0 _ hty).2
  have e3 : cB = cA := Option.some.inj (e1.symm.trans e2)
  subst e3
  exact kk q H1 hP hD hS
theorem k_newb {cA : ClassId} (hx : p.tables.exec = Jvm.exec) (hb : c.code = cc) (hts : ∀ w ∈ rp_W0, w.before args s = true) (hK : va_K D vwCl tys s) (hP : va_P D vwCl ws H) (hD : va_D A ws) (hS : va_S A H0 H locs) (hA : ∀ q, H0.size ≤ q → A q) (t0 : Nat) (hty : tys[t0]? = some (cA, .byte)) {n : Int32} (N' : Nat) (hn : ¬ n < 0) (hN : n.toNatClampNeg = N') (hby : N' * componentBytes .byte ≤ 536870912) (hc : cells + 1 ≤ R.cells) (hs : slots + N' ≤ R.slots) (hd : decode cc pc = .ok (.newarray .byte, 2))
    (kk : ∀ (q : Nat) (H1 : Heap), va_P D vwCl (ws ++ [(q, .inl (cA, N', .inl (fun _ => 0)))]) H1 → va_D A (ws ++ [(q, .inl (cA, N', .inl (fun _ => 0)))]) → va_S A H0 H1 locs → W p l e R s m args below meth c H1 locs (cells + 1) (slots + N') Q (F0 m (pc + 2) ls (.ref q :: rest))) : W p l e R s m args below meth c H locs cells slots Q (F0 m pc ls (.int n :: rest)) := by
  refine va_newa (atype := .byte) (ty := .byte) (a0 := (N', .inl (fun _ => 0))) hx hb (hts _ wd_126) rfl hK hP hD hS hA (fun _ => rfl) hn hN hby hc hs hd (fun q cB H1 hK2 hP hD hS => ?_)
  have e1 : s.vm.findClass "[B" = some cB := (hK2.2 tys.length (cB, .byte) (by simp)).2
  have e2 : s.vm.findClass "[B" = some cA := (hK.2 t0 _ hty).2
  have e3 : cB = cA := Option.some.inj (e1.symm.trans e2)
  subst e3
  exact kk q H1 hP hD hS
theorem k_newq {cA : ClassId} {C : String} {index : Nat} (hx : p.tables.exec = Jvm.exec) (hb : c.code = cc) (hown : s.vm.findClass own = some m.cls) (hcl : (Cond.classLink own index C).before args s = true) (hAO : va_AO C s) (hK : va_K D vwCl tys s) (hP : va_P D vwCl ws H) (hD : va_D A ws) (hS : va_S A H0 H locs) (hA : ∀ q, H0.size ≤ q → A q) (t0 : Nat) (hty : tys[t0]? = some (cA, .object C)) {n : Int32} (N' : Nat) (hn : ¬ n < 0) (hN : n.toNatClampNeg = N') (hby : N' * 4 ≤ 536870912) (hc : cells + 1 ≤ R.cells) (hs : slots + N' ≤ R.slots) (hd : decode cc pc = .ok (.anewarray index, 3))
    (kk : ∀ (q : Nat) (H1 : Heap), va_P D vwCl (ws ++ [(q, .inl (cA, N', .inr (.inr (.inr (.inr (fun _ => none))))))]) H1 → va_D A (ws ++ [(q, .inl (cA, N', .inr (.inr (.inr (.inr (fun _ => none))))))]) → va_S A H0 H1 locs → W p l e R s m args below meth c H1 locs (cells + 1) (slots + N') Q (F0 m (pc + 3) ls (.ref q :: rest))) : W p l e R s m args below meth c H locs cells slots Q (F0 m pc ls (.int n :: rest)) := by
  refine va_newq hx hb hown hcl hAO hK hP hD hS hA hn hN hby hc hs hd (fun q cB H1 hK2 hP hD hS => ?_)
  obtain ⟨kB, cmB, -, -, -, e1⟩ := (hK2.2 tys.length (cB, .object C) (by simp)).2
  obtain ⟨kA, cmA, -, -, -, e2⟩ := (hK.2 t0 _ hty).2
  have e3 : cB = cA := Option.some.inj (e1.symm.trans e2)
  subst e3
  exact kk q H1 hP hD hS
/-- a constructor's call: what the callee made stands beside the rest -/
theorem k_call {mc ms b : Nat} {As st : List Value} {wc wr : va_W} {B : State → Prop} {en' : State → Prop} (hK : va_K D vwCl tys s) (hP : va_P D vwCl ws H) (hD : va_D A ws) (hS : va_S A H0 H locs) (hA : ∀ q, H0.size ≤ q → A q) (isC isR : List Nat) (hCm : isC.map (fun i => ws[i]?) = wc.map some) (hRm : isR.map (fun i => ws[i]?) = wr.map some) (hnc : va_nd isC = true) (hn : va_nd isR = true) (hdis : ∀ i ∈ isR, i ∉ isC)
    (hr : PreS s H (va_Pc (.ref b :: As) (kp D tys en' H.size wc)) (.ref b :: As) → va_Run p l e R s m args below meth c H locs cells slots mc ms (F0 m pc ls st) rest (va_Qv (fun (_ : Unit) => True) (fun _ t => B t) (va_A wc H.size) (Value.ref b :: As).toArray) (va_A wc H.size)) (hE : ∀ (U : State) (g : JFrame) (mk : MethodId) (b : Array Value), en' U → en' (U.calling g mk b)) (hEU : ∀ U : State, U.heap = H → s.WarmedH U.vm → en' U)
    (kk : ∀ (t : State) (H1 : Heap) (locs1 : List Loc), t.heap = H1 → B t → (∀ w1 : va_W, va_P D vwCl w1 H1 → va_D (va_A wc H.size) w1 → va_P D vwCl (wr ++ w1) H1 ∧ va_D A (wr ++ w1)) → va_S A H0 H1 locs1 → W p l e R s m args below meth c H1 locs1 (cells + mc) (slots + ms) Q (F0 m (pc + 3) ls rest)) : W p l e R s m args below meth c H locs cells slots Q (F0 m pc ls st) := by
  have hFc := va_free (wc := wc) hD hS hA isC hCm
  have hPc : va_P D vwCl wc H := by
    intro k q hk
    have h1 : (isC.map (fun i => ws[i]?))[k]? = some (some q) := by rw [hCm, List.getElem?_map, hk]; rfl
    rw [List.getElem?_map] at h1
    cases hi : isC[k]? with
    | none => rw [hi] at h1; cases h1
    | some i => rw [hi] at h1; exact hP i q (Option.some.inj h1)
  have hDc := hD.sub (ws' := wc) isC hnc hCm
  have hpre : PreS s H (va_Pc (.ref b :: As) (kp D tys en' H.size wc)) (.ref b :: As) := ⟨k_blind hE, fun U hU hW => ⟨rfl, by rw [hU], by rw [hU]; exact hPc, va_K.moved hW.alike hK, hDc.weaken (fun _ _ _ _ => trivial), hEU U hU hW⟩⟩
  refine va_callv (hr hpre) hS (fun q _ h => hFc q h) hFc (fun u t H1 locs1 ht hvm hw hB hz hk1 hS1 => ?_)
  exact kk t H1 locs1 ht hB (fun w1 hP1 hD1 => va_join hP hD isC isR hCm hRm hn hdis hk1 hFc hP1 hD1) hS1
/-- a private constructor of a nest mate; an open one -/
theorem k_runN {y : MethodName} {cc' : ByteArray} {maxL' h h' mc ms MC MS n index b sz : Nat} {As st : List Value} {wc : va_W} {B : State → Prop} {en' : State → Prop} (hx : p.tables.exec = Jvm.exec) (hb : c.code = cc) (hml : c.maxLocals = maxL) (hown : s.vm.findClass own = some m.cls) (hts : ∀ w ∈ rp_W0, w.before args s = true) (hls : ls.size = maxL) (hM : kM l D tys en' y cc' maxL' h' mc ms (.ref b :: As) wc sz B) (hNw : va_Nw (.methodLinkNest own index y "RegretPegs") s) (h1 : Cond.instanceMethod y ∈ rp_W0) (h2 : Cond.initialized y.cls ∈ rp_W0) (h3 : Cond.code y cc' maxL' none ∈ rp_W0) (hy : y.cls ≠ "java/lang/invoke/MethodHandle" ∧ y.cls ≠ "java/lang/invoke/VarHandle" ∧ (parseMethodDescriptor y.desc).map (fun d => d.parameters.length) = some n) (hyn : y.name = "<init>") (h4 : maxL' ≤ 41) (hn : As.length = n) (hst : st = As.reverse ++ .ref b :: rest) (hcat : (rest.map fun v => v.category).sum ≤ 8) (hh : h' < h) (hd : decode cc pc = .ok (.invokespecial index, 3)) (hf : cells + mc ≤ MC ∧ slots + ms ≤ MS) (hpre : PreS s H (va_Pc (.ref b :: As) (kp D tys en' sz wc)) (.ref b :: As)) :
    va_Run p l e (k_rm h MC MS) s m args below meth c H locs cells slots mc ms (F0 m pc ls st) rest (va_Qv (fun (_ : Unit) => True) (fun _ t => B t) (va_A wc sz) (Value.ref b :: As).toArray) (va_A wc sz) :=
  va_runIN (nL := maxL) ⟨hx, hb, hml, hown, hts⟩ hM ⟨va_cnB n hts (rp_good1 h3) rfl rfl rfl hNw (hts _ h2) hy ⟨hh, by show 8 + (maxL' + 11) + 60 * h' ≤ 60 * h; omega⟩, hyn, hts _ h1⟩ hpre rfl hn hls hst (lv_room hcat) hd hf
theorem k_runI {y : MethodName} {cc' : ByteArray} {maxL' h' mc ms n index b sz : Nat} {As st : List Value} {wc : va_W} {B : State → Prop} {en' : State → Prop} (hx : p.tables.exec = Jvm.exec) (hb : c.code = cc) (hml : c.maxLocals = maxL) (hown : s.vm.findClass own = some m.cls) (hts : ∀ w ∈ rp_W0, w.before args s = true) (hls : ls.size = maxL) (hM : kM l D tys en' y cc' maxL' h' mc ms (.ref b :: As) wc sz B) (hml2 : Cond.methodLink own index y ∈ rp_W0) (h1 : Cond.instanceMethod y ∈ rp_W0) (h2 : Cond.initialized y.cls ∈ rp_W0) (h3 : Cond.code y cc' maxL' none ∈ rp_W0) (hy : y.cls ≠ "java/lang/invoke/MethodHandle" ∧ y.cls ≠ "java/lang/invoke/VarHandle" ∧ (parseMethodDescriptor y.desc).map (fun d => d.parameters.length) = some n) (hyn : y.name = "<init>") (h4 : maxL' ≤ 41) (hn : As.length = n) (hst : st = As.reverse ++ .ref b :: rest) (hcat : (rest.map fun v => v.category).sum ≤ 8) (hR : h' + 1 ≤ R.frames ∧ 8 + (maxL' + 11) + 60 * h' ≤ R.locals) (hd : decode cc pc = .ok (.invokespecial index, 3)) (hf : cells + mc ≤ R.cells ∧ slots + ms ≤ R.slots) (hpre : PreS s H (va_Pc (.ref b :: As) (kp D tys en' sz wc)) (.ref b :: As)) :
    va_Run p l e R s m args below meth c H locs cells slots mc ms (F0 m pc ls st) rest (va_Qv (fun (_ : Unit) => True) (fun _ t => B t) (va_A wc sz) (Value.ref b :: As).toArray) (va_A wc sz) :=
  va_runI (nL := maxL) ⟨hx, hb, hml, hown, hts⟩ hM (cwI n hts (rp_good1 h3) rfl rfl rfl (hts _ h2) (hts _ hml2) (hts _ h1) hyn hy hR) hpre rfl hn hls hst (lv_room hcat) hd hf
theorem k_entry {y : MethodName} {h mc ms sz : Nat} {avs : List Value} {B : State → Prop} (hy : plainName y.cls = true) (hyn : y.name = "<init>") (hlen : (lg_sl avs).length ≤ maxL)
    (body : ∀ (p : Program) (e : Env) (s : State) (m : MethodId) (below : List Frame) (meth : Method) (c : Code) (ls : Array Slot) (A : Nat → Prop), s.heap.size = sz → A = va_A ws s.heap.size → kC p s m avs.toArray meth c cc maxL y.cls D tys en → va_P D vwCl ws s.heap → va_D A ws → (∀ q, s.heap.size ≤ q → A q) → lv_has ls maxL (lv_args 0 avs) → W p l e (k_rm h mc ms) s m avs.toArray below meth c s.heap [] 0 0 (MQ below (va_Qv (fun (_ : Unit) => True) (fun _ t => B t) A) avs.toArray s mc ms A) (F0 m 0 ls [])) : kM l D tys en y cc maxL h mc ms avs ws sz B := by
  refine Met.ofW (cc := cc) (maxL := maxL) (ret := none) hy rfl ?_
  intro p e s m args below meth c s₁ Bd hml hv
  obtain ⟨rfl, hsz, hP, hK, hD, hN⟩ := hv
  have hts := atoms_spec (ws := Cond.code y cc maxL none :: rp_W0) Bd.pre
  have hown : s.vm.findClass y.cls = some m.cls := findClass_of_methodNamed Bd.named
  have hl := lv_entry avs (n := maxL) hlen
  have hin : meth.name = "<init>" := by rw [(name_of_methodNamed Bd.named Bd.method).1]; exact hyn
  rw [lg_entry_eq]
  subst hsz
  exact body p e s m below meth c _ _ rfl rfl ⟨Bd.exec, Bd.bytes, hml, hown, fun w hw => hts w (List.mem_cons_of_mem _ hw), Bd.notSynchronized, Bd.returns, hK, hin, hN⟩ hP (hD.self (sz := s.heap.size)) (fun q h => Or.inr h) hl
theorem k_ret {B : State → Prop} (hC : kC p s m args meth c cc maxL own D tys en) (hS : va_S A s.heap H locs) (hB : ∀ t : State, t.heap = H → B t) (hd : decode cc pc = .ok (.return_, 1)) : W p l e R s m args below meth c H locs cells slots (MQ below (va_Qv (fun (_ : Unit) => True) (fun _ t => B t) A) args s cells slots A) (F0 m pc ls []) := by
  obtain ⟨hx, hb, hml, hown, hts, hlk, hr, hK, hin, hN⟩ := hC
  exact W.vret hx hb hr (fun t ht hW => ⟨⟨(), rfl, trivial, hB t ht⟩, hS.F ht⟩) hS.2.2 hd hlk
end KR
/-! worlds as rows whose order doesn't matter -/
theorem kd_iff {A : Nat → Prop} {ws : va_W} : va_D A ws ↔ (ws.map (fun q => q.1)).Nodup ∧ ∀ q ∈ ws, A q.1 := by
  constructor
  · intro h
    refine ⟨?_, fun q hq => ?_⟩
    · rw [List.nodup_iff_pairwise_ne, List.pairwise_iff_getElem]
      intro i j hi hj hij e
      rw [List.length_map] at hi hj
      rw [List.getElem_map, List.getElem_map] at e
      have := h.1 i j ws[i] ws[j] (List.getElem?_eq_getElem hi) (List.getElem?_eq_getElem hj) e
      omega
    · obtain ⟨k, hk⟩ := List.getElem?_of_mem hq
      exact h.2 k q hk
  · intro h
    refine ⟨fun i j x y hi hj hxy => ?_, fun k q hk => h.2 q (List.mem_of_getElem? hk)⟩
    have hn := h.1
    rw [List.nodup_iff_pairwise_ne, List.pairwise_iff_getElem] at hn
    obtain ⟨li, ei⟩ := List.getElem?_eq_some_iff.mp hi
    obtain ⟨lj, ej⟩ := List.getElem?_eq_some_iff.mp hj
    rcases Nat.lt_trichotomy i j with q | q | q
    · exact absurd (by rw [List.getElem_map, List.getElem_map, ei, ej, hxy]) (hn i j (by rw [List.length_map]; exact li) (by rw [List.length_map]; exact lj) q)
    · exact q
    · exact absurd (by rw [List.getElem_map, List.getElem_map, ei, ej, hxy]) (hn j i (by rw [List.length_map]; exact lj) (by rw [List.length_map]; exact li) q)
theorem kp_perm {D : va_G} {cl : List vw_C} {ws ws' : va_W} {H : Heap} (h : ws.Perm ws') (hP : va_P D cl ws H) : va_P D cl ws' H := by
  intro k q hk
  obtain ⟨i, hi⟩ := List.getElem?_of_mem (h.mem_iff.mpr (List.mem_of_getElem? hk))
  exact hP i q hi
theorem kd_perm {A : Nat → Prop} {ws ws' : va_W} (h : ws.Perm ws') (hD : va_D A ws) : va_D A ws' := by
  rw [kd_iff] at hD ⊢
  exact ⟨(h.map _).nodup_iff.mp hD.1, fun q hq => hD.2 q (h.mem_iff.mpr hq)⟩
theorem k_nd : ∀ n : Nat, va_nd (List.range n) = true := by
  have key : ∀ l : List Nat, l.Nodup → va_nd l = true := by
    intro l
    induction l with
    | nil => intro _; rfl
    | cons a l ih =>
      intro h
      rw [List.nodup_cons] at h
      simp only [va_nd, Bool.and_eq_true, decide_eq_true_eq]
      exact ⟨h.1, ih h.2⟩
  exact fun n => key _ List.nodup_range
section KL
variable {p : Program} {l : Launch} {e : Env} {R : Room} {s : State} {m : MethodId} {args : Array Value} {below : List Frame} {meth : Method} {c : Code} {H : Heap} {locs : List Loc} {cells slots : Nat} {Q : State → Prop}
variable {pc : Nat} {D : va_G} {tys : List (ClassId × FieldType)} {ls : Array Slot} {rest : List Value} {A : Nat → Prop} {H0 : Heap}
/-- a constructor's call on the cell that was made last -/
theorem k_callL {mc ms b : Nat} {As st : List Value} {cell : Nat × va_E} {wr : va_W} {B : State → Prop} {en' : State → Prop} (hK : va_K D vwCl tys s) (hP : va_P D vwCl (wr ++ [cell]) H) (hD : va_D A (wr ++ [cell])) (hS : va_S A H0 H locs) (hA : ∀ q, H0.size ≤ q → A q)
    (hr : PreS s H (va_Pc (.ref b :: As) (kp D tys en' H.size [cell])) (.ref b :: As) → va_Run p l e R s m args below meth c H locs cells slots mc ms (F0 m pc ls st) rest (va_Qv (fun (_ : Unit) => True) (fun _ t => B t) (va_A [cell] H.size) (Value.ref b :: As).toArray) (va_A [cell] H.size)) (hE : ∀ (U : State) (g : JFrame) (mk : MethodId) (b : Array Value), en' U → en' (U.calling g mk b)) (hEU : ∀ U : State, U.heap = H → s.WarmedH U.vm → en' U)
    (kk : ∀ (t : State) (H1 : Heap) (locs1 : List Loc), t.heap = H1 → B t → (∀ w1 : va_W, va_P D vwCl w1 H1 → va_D (va_A [cell] H.size) w1 → va_P D vwCl (wr ++ w1) H1 ∧ va_D A (wr ++ w1)) → va_S A H0 H1 locs1 → W p l e R s m args below meth c H1 locs1 (cells + mc) (slots + ms) Q (F0 m (pc + 3) ls rest)) : W p l e R s m args below meth c H locs cells slots Q (F0 m pc ls st) := by
  refine k_call (wc := [cell]) (wr := wr) hK hP hD hS hA [wr.length] (List.range wr.length) ?_ ?_ (by simp [va_nd]) (k_nd _) (fun i hi => ?_) hr hE hEU kk
  · simp
  · apply List.ext_getElem?
    intro i
    by_cases hi : i < wr.length
    · rw [List.getElem?_map, List.getElem?_map, List.getElem?_range hi, Option.map_some, List.getElem?_append_left hi, List.getElem?_eq_getElem hi, Option.map_some]
    · rw [List.getElem?_eq_none (by simp; omega), List.getElem?_eq_none (by simp; omega)]
  · have := List.mem_range.mp hi
    simp
    omega
end KL
