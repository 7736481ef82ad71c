/-! THE REFERENCE'S WORLD: 15 cells; its two texts lie outside -/
def mb_obj (a : Nat → Nat) (f : Nat → Int32) : List Value := [.ref (a 1), .ref (a 2), .ref (a 3), .int (f 3), .ref (a 4), .ref (a 5), .ref (a 6), .int (f 7), .int (f 8), .int (f 9), .int (f 10), .ref (a 7), .int (f 12), .ref (a 8), .ref (a 9), .ref (a 10), .int (f 16), .int (f 17), .int (f 18), .int (f 19), .ref (a 11), .ref (a 12), .ref (a 13), .ref (a 14)]
def mLen (k : Nat) : Nat := match k with
  | 1 => 221 | 2 => 221 | 3 => 221 | 4 => 6 | 5 => 7 | 7 => 60 | 8 => 4 | 9 => 60 | 10 => 40 | 11 => 4 | 12 => 4 | 13 => 160 | _ => 40
def mt (cI cT : ClassId) (ad a : Nat → Nat) : rp_Tab := fun k f => if k = 0 then .inr (7, mb_obj a f) else if k = 6 then .inl (cT, 2, .inr (.inr (.inr (.inr (fun i => some (ad i)))))) else .inl (cI, mLen k, .inl f)
section MT
variable {cI cT : ClassId} {ad a : Nat → Nat}
theorem mt_obj (f : Nat → Int32) : mt cI cT ad a 0 f = .inr (7, mb_obj a f) := rfl
theorem mt_named (f : Nat → Int32) : mt cI cT ad a 6 f = .inl (cT, 2, .inr (.inr (.inr (.inr (fun i => some (ad i)))))) := rfl
theorem mt_arr (k n : Nat) (h : (!decide (k = 0) && !decide (k = 6) && decide (mLen k = n)) = true) (f : Nat → Int32) : mt cI cT ad a k f = .inl (cI, n, .inl f) := by
  simp only [Bool.and_eq_true, Bool.not_eq_true', decide_eq_false_iff_not, decide_eq_true_eq] at h
  obtain ⟨⟨h1, h2⟩, h3⟩ := h
  unfold mt
  rw [if_neg h1, if_neg h2, h3]
end MT
def mByt : List (List Int32) := [[114, 111, 109], [100, 109, 112]]
/-- the char at a place of a text -/
def sCh (i k : Nat) : Int32 := (mByt.getD i []).getD k 0
/-- what the reference is given: its two texts, statics of the JDK's -/
def mE (ad av a : Nat → Nat) (U : State) : Prop := vk_S 2 [3, 3] mByt ad av (rp_A a 15) U U.heap ∧ va_Z "java/lang/String" "COMPACT_STRINGS" "Z" (.int 1) (rp_A a 15) U U.heap ∧ va_Zq "jdk/internal/util/Preconditions" "SIOOBE_FORMATTER" "Ljava/util/function/BiFunction;" (rp_A a 15) U U.heap
theorem mE_ok {ad av : Nat → Nat} (a : Nat → Nat) : rp_E (rp_A a 15) (mE ad av a) := by
  intro s U locs h hW hS
  obtain ⟨h1, h2, h3⟩ := h
  have hq : ∀ q : Nat, q < s.heap.size → ¬ rp_A a 15 q → U.heap[q]? = s.heap[q]? := hS.2.1
  exact ⟨(h1.moved hW.alike).kept hq, (h2.moved hW.alike).kept hq, (h3.moved hW.alike).kept hq⟩
abbrev mTy (cI cT : ClassId) : List (ClassId × FieldType) := [(cI, .int), (cT, .object "java/lang/String")]
abbrev mC (p : Program) (s : State) (m : MethodId) (args : Array Value) (meth : Method) (c : Code) (cc : ByteArray) (maxL : Nat) (own : String) (ret : Option FieldType) (D : va_G) (cI cT : ClassId) (ad av a : Nat → Nat) : Prop := rp_C p s m args meth c cc maxL own ret D (mTy cI cT) a 15 (mE ad av a)
abbrev mW (D : va_G) (cI cT : ClassId) (ad _av a : Nat → Nat) (s : State) (σ : rp_St) (H : Heap) (locs : List Loc) : Prop := rp_W D a (mt cI cT ad a) 15 s σ H locs
abbrev mM (l : Launch) (D : va_G) (cI cT : ClassId) (ad av a : Nat → Nat) (y : MethodName) (cc : ByteArray) (maxL : Nat) (ret : Option FieldType) (h : Nat) (avs : List Value) (σ : rp_St) (Qc : Array Value → State → Outcome → State → Prop) : Prop := rp_M l D (mTy cI cT) a (mt cI cT ad a) 15 (mE ad av a) y cc maxL ret h avs σ Qc
section MS
variable {p : Program} {l : Launch} {e : Env} {R : Room} {s : State} {m : MethodId} {args : Array Value} {below : List Frame} {meth : Method} {c : Code} {H : Heap} {locs : List Loc} {cells slots : Nat} {Q : State → Prop}
variable {cc : ByteArray} {pc maxL : Nat} {own : String} {ret : Option FieldType} {D : va_G} {cI cT : ClassId} {ad av a : Nat → Nat} {σ : rp_St} {ls : Array Slot} {rest : List Value}
theorem rp_retn {tys : List (ClassId × FieldType)} {tab : rp_Tab} {N : Nat} {en : State → Prop} {res : Int32 × rp_St} {v : Int32} {ty : FieldType} (hC : rp_C p s m args meth c cc maxL own (some ty) D tys a N en) (hw : rp_W D a tab N s σ H locs) (hn : narrow ty (.int v) = .int v) (hF : some (v, σ) = some res) (hd : decode cc pc = .ok (.ireturn, 1)) : W p l e R s m args below meth c H locs 0 0 (MQ below (rp_Qi D a tab N res) args s 0 0 (rp_A a N)) (F0 m pc ls [.int v]) := by
  obtain ⟨hx, hb, hml, hown, hts, hlk, hr, hK, hI, hN⟩ := hC
  cases hF
  exact W.zret hx hb hr hn (fun t ht hW => ⟨⟨v, (), rfl, rfl, by show va_P _ _ _ t.heap; rw [ht]; exact hw.1⟩, hw.2.F ht⟩) hw.2.2.2 hd hlk
/-- a call on an object that lies outside the world -/
theorem rp_runW {tys : List (ClassId × FieldType)} {tab : rp_Tab} {N : Nat} {en : State → Prop} {y : MethodName} {cc' : ByteArray} {maxL' : Nat} {ret' : Option FieldType} {h h' n index b : Nat} {As st : List Value} {C : String} {Qc : Array Value → State → Outcome → State → Prop} (hC : rp_C p s m args meth c cc maxL own ret D tys a N en) (hE : rp_E (rp_A a N) en) (hw : rp_W D a tab N s σ H locs) (hls : ls.size = maxL) (hM : rp_M l D tys a tab N en y cc' maxL' ret' h' (.ref b :: As) σ Qc) (hV : rp_V own index C y cc' maxL' ret' n) (hrec : ∃ cell : Cell, H[b]? = some cell ∧ cell.vm.isStatics = false ∧ s.vm.findClass C = some cell.cls) (hn : As.length = n) (hst : st = As.reverse ++ .ref b :: rest) (hcat : (rest.map fun v => v.category).sum ≤ 8) (hh : h' < h) (hd : decode cc pc = .ok (.invokevirtual index, 3)) :
    va_Run p l e (rp_rm h) s m args below meth c H locs 0 0 0 0 (F0 m pc ls st) rest (Qc (Value.ref b :: As).toArray) (rp_A a N) := by
  have hpre := rp_pre (avs := .ref b :: As) hC hE hw
  obtain ⟨hx, hb, hml, hown, hts, hlk, hr, hK, hI, hN⟩ := hC
  have cw : CallW (rp_rm h) s args own C index y cc' maxL' ret' (Cond.code y cc' maxL' ret' :: rp_W0) (rp_rm h') 0 0 n := cwV n hts (rp_goodV hV) rfl rfl rfl hV.2.2.2.2.2.1 ⟨hh, by have := hV.2.2.2.2.2.2; show 8 + (maxL' + 11) + 60 * h' ≤ 60 * h; omega⟩
  exact va_runV (nL := maxL) ⟨hx, hb, hml, hown, hts⟩ hM cw ⟨hpre.1, hrec, hpre.2⟩ rfl hn hls hst (lv_room hcat) hd ⟨Nat.le_refl _, Nat.le_refl _⟩
/-- a static method of another class -/
theorem rp_runY {tys : List (ClassId × FieldType)} {tab : rp_Tab} {N : Nat} {en : State → Prop} {y : MethodName} {cc' : ByteArray} {maxL' : Nat} {ret' : Option FieldType} {h h' n index : Nat} {As st : List Value} {Qc : Array Value → State → Outcome → State → Prop} (hC : rp_C p s m args meth c cc maxL own ret D tys a N en) (hE : rp_E (rp_A a N) en) (hw : rp_W D a tab N s σ H locs) (hls : ls.size = maxL) (hM : rp_M l D tys a tab N en y cc' maxL' ret' h' As σ Qc) (h1 : Cond.methodLink own index y ∈ rp_W0) (h2 : Cond.static y ∈ rp_W0) (h3 : Cond.initialized y.cls ∈ rp_W0) (h4 : Cond.code y cc' maxL' ret' ∈ rp_W0) (hy : y.cls ≠ "java/lang/invoke/MethodHandle" ∧ y.cls ≠ "java/lang/invoke/VarHandle" ∧ (parseMethodDescriptor y.desc).map (fun d => d.parameters.length) = some n) (h5 : maxL' ≤ 41) (hn : As.length = n) (hst : st = As.reverse ++ rest) (hcat : (rest.map fun v => v.category).sum ≤ 8) (hh : h' < h) (hd : decode cc pc = .ok (.invokestatic index, 3)) :
    va_Run p l e (rp_rm h) s m args below meth c H locs 0 0 0 0 (F0 m pc ls st) rest (Qc As.toArray) (rp_A a N) := by
  have hpre := rp_pre (avs := As) hC hE hw
  obtain ⟨hx, hb, hml, hown, hts, hlk, hr, hK, hI, hN⟩ := hC
  have hG : GoodIn rp_W0 (va_wsS own index y (Cond.code y cc' maxL' ret' :: rp_W0)) := by
    intro w hw
    unfold va_wsS at hw
    rcases List.mem_append.mp hw with q | q
    · simp only [List.mem_cons, List.not_mem_nil, or_false] at q
      rcases q with rfl | rfl | rfl
      · exact rp_W0_good _ h1
      · exact rp_W0_good _ h2
      · exact rp_W0_good _ h3
    · exact rp_good1 h4 w q
  exact va_runS (nL := maxL) ⟨hx, hb, hml, hown, hts⟩ hM (va_cwS n hts hG rfl rfl rfl hy ⟨hh, by show 8 + (maxL' + 11) + 60 * h' ≤ 60 * h; omega⟩) hpre rfl hn hls hst (lv_room hcat) hd ⟨Nat.le_refl _, Nat.le_refl _⟩
end MS
/-! ===== String.length, String.charAt on the two texts ===== -/
theorem vJ_coder : rp_V "java/lang/String" 335 "java/lang/String" yJ0_coder_7d493 cJ0_coder_7d493 1 (some .byte) 0 := ⟨wd_777, wd_778, wd_779, wd_11, wd_780, ⟨rfl, by decide, by decide, by decide +kernel⟩, by decide⟩
theorem vJ_lat : rp_V "java/lang/String" 492 "java/lang/String" yJ0_isLatin1_aae02 cJ0_isLatin1_aae02 1 (some .boolean) 0 := ⟨wd_787, wd_788, wd_789, wd_11, wd_790, ⟨rfl, by decide, by decide, by decide +kernel⟩, by decide⟩
theorem vJ_length : rp_V "RegretPegsModel" 126 "java/lang/String" yJ0_length_8abf5 cJ0_length_8abf5 1 (some .int) 0 := ⟨wd_773, wd_774, wd_775, wd_11, wd_776, ⟨rfl, by decide, by decide, by decide +kernel⟩, by decide⟩
theorem vJ_charAt : rp_V "RegretPegsModel" 129 "java/lang/String" yJ0_charAt_5068e cJ0_charAt_5068e 2 (some .char) 1 := ⟨wd_783, wd_784, wd_785, wd_11, wd_786, ⟨rfl, by decide, by decide, by decide +kernel⟩, by decide⟩
section MJ
variable {l : Launch} {D : va_G} {cI cT : ClassId} {ad av a : Nat → Nat}
theorem mJ_coder (i : Nat) (hi : i < 2) (σ : rp_St) : mM l D cI cT ad av a yJ0_coder_7d493 cJ0_coder_7d493 1 (some .byte) 1 [.ref (ad i)] σ (rp_Qi D a (mt cI cT ad a) 15 (0, σ)) :=
  rp_entry (by decide) (Nat.le_of_ble_eq_true rfl) (fun p e s m below meth c ls hC hw hl => by
    have hx := hC.1
    have hb := hC.2.1
    have hown := hC.2.2.2.1
    have hts := hC.2.2.2.2.1
    obtain ⟨hS, hZ, -⟩ := hC.2.2.2.2.2.2.2.2.2
    have hl : lv_has ls 1 [(0, .ref (ad i))] := hl
    refine va_gets (pc := 0) hx hb hZ hw.2 hown (hts _ wd_781) (fun _ h => h) dJ0_coder_7d493_0 ?_
    refine lv_if_eq (pc := 3) (tgt := 13) hx hb dJ0_coder_7d493_3 (by decide) (fun hc => absurd hc (by decide)) (fun hc => ?_)
    refine lv_aload_n (pc := 6) hx hb dJ0_coder_7d493_6 rfl (lv_at hl 0 rfl) ?_
    refine vk_getf (pc := 7) hx hb (hS.1 i hi).2.1 hw.2 hown (hts _ wd_1143) (fun _ h => h) dJ0_coder_7d493_7 ?_
    refine lv_goto (pc := 10) (tgt := 14) hx hb dJ0_coder_7d493_10 (by decide) ?_
    exact rp_retn (pc := 14) hC hw (by decide +kernel) rfl dJ0_coder_7d493_14)
theorem mJ_lat (i : Nat) (hi : i < 2) (σ : rp_St) : mM l D cI cT ad av a yJ0_isLatin1_aae02 cJ0_isLatin1_aae02 1 (some .boolean) 1 [.ref (ad i)] σ (rp_Qi D a (mt cI cT ad a) 15 (1, σ)) :=
  rp_entry (by decide) (Nat.le_of_ble_eq_true rfl) (fun p e s m below meth c ls hC hw hl => by
    have hx := hC.1
    have hb := hC.2.1
    have hown := hC.2.2.2.1
    have hts := hC.2.2.2.2.1
    obtain ⟨hS, hZ, -⟩ := hC.2.2.2.2.2.2.2.2.2
    have hl : lv_has ls 1 [(0, .ref (ad i))] := hl
    refine va_gets (pc := 0) hx hb hZ hw.2 hown (hts _ wd_781) (fun _ h => h) dJ0_isLatin1_aae02_0 ?_
    refine lv_if_eq (pc := 3) (tgt := 17) hx hb dJ0_isLatin1_aae02_3 (by decide) (fun hc => absurd hc (by decide)) (fun hc => ?_)
    refine lv_aload_n (pc := 6) hx hb dJ0_isLatin1_aae02_6 rfl (lv_at hl 0 rfl) ?_
    refine vk_getf (pc := 7) hx hb (hS.1 i hi).2.1 hw.2 hown (hts _ wd_1143) (fun _ h => h) dJ0_isLatin1_aae02_7 ?_
    refine lv_if_ne (pc := 10) (tgt := 17) hx hb dJ0_isLatin1_aae02_10 (by decide) (fun hc => absurd rfl hc) (fun hc => ?_)
    refine lv_iconst (pc := 13) (v := 1) hx hb dJ0_isLatin1_aae02_13 (by decide) ?_
    refine lv_goto (pc := 14) (tgt := 18) hx hb dJ0_isLatin1_aae02_14 (by decide) ?_
    exact rp_retn (pc := 18) hC hw (by decide +kernel) rfl dJ0_isLatin1_aae02_18)
theorem mJ_length (i : Nat) (hi : i < 2) (σ : rp_St) : mM l D cI cT ad av a yJ0_length_8abf5 cJ0_length_8abf5 1 (some .int) 2 [.ref (ad i)] σ (rp_Qi D a (mt cI cT ad a) 15 (3, σ)) :=
  rp_entry (by decide) (Nat.le_of_ble_eq_true rfl) (fun p e s m below meth c ls hC hw hl => by
    have hx := hC.1
    have hb := hC.2.1
    have hown := hC.2.2.2.1
    have hts := hC.2.2.2.2.1
    obtain ⟨hS, hZ, -⟩ := hC.2.2.2.2.2.2.2.2.2
    have hl : lv_has ls 1 [(0, .ref (ad i))] := hl
    refine lv_aload_n (pc := 0) hx hb dJ0_length_8abf5_0 rfl (lv_at hl 0 rfl) ?_
    refine vk_getf (pc := 1) hx hb (hS.1 i hi).2.2.1 hw.2 hown (hts _ wd_1142) (fun _ h => h) dJ0_length_8abf5_1 ?_
    refine va_tlen (pc := 4) (v := 3) hx hb (hS.1 i hi).2.2.2 hw.2 (by rcases (show i = 0 ∨ i = 1 by omega) with rfl | rfl <;> rfl) dJ0_length_8abf5_4 ?_
    refine lv_aload_n (pc := 5) hx hb dJ0_length_8abf5_5 rfl (lv_at hl 0 rfl) ?_
    refine rp_ki (rp_runW (rest := [.int 3]) hC (mE_ok _) hw hl.1 (mJ_coder i hi σ) vJ_coder (vk_recv hS hi hw.2) rfl rfl (Nat.le_of_ble_eq_true rfl) (by decide) dJ0_length_8abf5_6) hw (fun H locs hw => ?_)
    refine lv_ishr (pc := 9) hx hb dJ0_length_8abf5_9 ?_
    exact rp_reti (pc := 10) hC hw (by rw [show ((3 : Int32) >>> ((0 : Int32) &&& 31)) = 3 by decide]) dJ0_length_8abf5_10)
theorem mJ_pre (i n : Int32) (v : Value) (hv : v = .null ∨ ∃ t, v = .ref t) (h0 : ¬ i < 0) (h1 : i < n) (σ : rp_St) : mM l D cI cT ad av a yJ3_checkIndex_8e157 cJ3_checkIndex_8e157 3 (some .int) 1 [.int i, .int n, v] σ (rp_Qi D a (mt cI cT ad a) 15 (i, σ)) := by
  have key : ∀ v : Value, lv_args 0 [.int i, .int n, v] = [(0, .int i), (1, .int n), (2, v)] → (lg_sl [.int i, .int n, v]).length ≤ 3 → mM l D cI cT ad av a yJ3_checkIndex_8e157 cJ3_checkIndex_8e157 3 (some .int) 1 [.int i, .int n, v] σ (rp_Qi D a (mt cI cT ad a) 15 (i, σ)) := by
    intro v e1 e2
    refine rp_entry (by decide) e2 (fun p e s m below meth c ls hC hw hl => ?_)
    have hx := hC.1
    have hb := hC.2.1
    rw [e1] at hl
    refine lv_iload_n (pc := 0) hx hb dJ3_checkIndex_8e157_0 rfl (lv_at hl 0 rfl) ?_
    refine lv_if_lt (pc := 1) (tgt := 9) hx hb dJ3_checkIndex_8e157_1 (by decide) (fun hc => absurd hc h0) (fun hc => ?_)
    refine lv_iload_n (pc := 4) hx hb dJ3_checkIndex_8e157_4 rfl (lv_at hl 0 rfl) ?_
    refine lv_iload_n (pc := 5) hx hb dJ3_checkIndex_8e157_5 rfl (lv_at hl 1 rfl) ?_
    refine lv_icmp_lt (pc := 6) (tgt := 16) hx hb dJ3_checkIndex_8e157_6 (by decide) (fun hc => ?_) (fun hc => absurd h1 hc)
    refine lv_iload_n (pc := 16) hx hb dJ3_checkIndex_8e157_16 rfl (lv_at hl 0 rfl) ?_
    exact rp_reti (pc := 17) hC hw rfl dJ3_checkIndex_8e157_17
  rcases hv with rfl | ⟨t, rfl⟩
  · exact key _ rfl (Nat.le_of_ble_eq_true rfl)
  · exact key _ rfl (Nat.le_of_ble_eq_true rfl)
theorem mJ_check (i n : Int32) (h0 : ¬ i < 0) (h1 : i < n) (σ : rp_St) : mM l D cI cT ad av a yJ0_checkIndex_df160 cJ0_checkIndex_df160 2 none 2 [.int i, .int n] σ (rp_Qv D a (mt cI cT ad a) 15 (0, σ)) :=
  rp_entry (by decide) (Nat.le_of_ble_eq_true rfl) (fun p e s m below meth c ls hC hw hl => by
    have hx := hC.1
    have hb := hC.2.1
    have hown := hC.2.2.2.1
    have hts := hC.2.2.2.2.1
    obtain ⟨hS, hZ, hQ⟩ := hC.2.2.2.2.2.2.2.2.2
    have hl : lv_has ls 2 [(0, .int i), (1, .int n)] := hl
    obtain ⟨v, hv, hZv⟩ : ∃ v : Value, (v = .null ∨ ∃ t, v = .ref t) ∧ va_Z "jdk/internal/util/Preconditions" "SIOOBE_FORMATTER" "Ljava/util/function/BiFunction;" v (rp_A a 15) s s.heap := by
      rcases hQ with h | ⟨t, h⟩
      · exact ⟨_, Or.inl rfl, h⟩
      · exact ⟨_, Or.inr ⟨t, rfl⟩, h⟩
    refine lv_iload_n (pc := 0) hx hb dJ0_checkIndex_df160_0 rfl (lv_at hl 0 rfl) ?_
    refine lv_iload_n (pc := 1) hx hb dJ0_checkIndex_df160_1 rfl (lv_at hl 1 rfl) ?_
    refine va_gets (pc := 2) hx hb hZv hw.2 hown (hts _ wd_797) (fun _ h => h) dJ0_checkIndex_df160_2 ?_
    refine rp_ki (rp_runY (n := 3) (rest := []) hC (mE_ok _) hw hl.1 (mJ_pre i n v hv h0 h1 σ) wd_799 wd_800 wd_13 wd_801 ⟨by decide, by decide, by decide +kernel⟩ (by decide) rfl rfl (Nat.le_of_ble_eq_true rfl) (by decide) dJ0_checkIndex_df160_5) hw (fun H locs hw => ?_)
    refine lv_pop (pc := 8) hx hb dJ0_checkIndex_df160_8 rfl ?_
    exact rp_retv (pc := 9) (v := 0) hC hw rfl dJ0_checkIndex_df160_9)
theorem mJ_latAt (i : Nat) (hi : i < 2) (k : Int32) (hk : rp_in k 3 = true) (σ : rp_St) : mM l D cI cT ad av a yJ1_charAt_3b067 cJ1_charAt_3b067 2 (some .char) 3 [.ref (av i), .int k] σ (rp_Qi D a (mt cI cT ad a) 15 (sCh i k.toNatClampNeg, σ)) :=
  rp_entry (by decide) (Nat.le_of_ble_eq_true rfl) (fun p e s m below meth c ls hC hw hl => by
    have hx := hC.1
    have hb := hC.2.1
    have hown := hC.2.2.2.1
    have hts := hC.2.2.2.2.1
    obtain ⟨hS, hZ, hQ⟩ := hC.2.2.2.2.2.2.2.2.2
    have hl : lv_has ls 2 [(0, .ref (av i)), (1, .int k)] := hl
    have hv := rp_in_vp hk
    obtain ⟨j, hj, rfl⟩ := vp_in_of hv (by decide)
    have e2 : ([3, 3] : List Nat).getD i 0 = 3 := by rcases (show i = 0 ∨ i = 1 by omega) with rfl | rfl <;> rfl
    have hT := (hS.1 i hi).2.2.2
    rw [e2] at hT
    have e1 : (nI j).toNatClampNeg = j := nI_clamp (by omega)
    refine lv_iload_n (pc := 0) hx hb dJ1_charAt_3b067_0 rfl (lv_at hl 1 rfl) ?_
    refine lv_aload_n (pc := 1) hx hb dJ1_charAt_3b067_1 rfl (lv_at hl 0 rfl) ?_
    refine va_tlen (pc := 2) (v := 3) hx hb hT hw.2 rfl dJ1_charAt_3b067_2 ?_
    refine rp_kv (rp_runY (n := 2) (rest := []) hC (mE_ok _) hw hl.1 (mJ_check (nI j) 3 (nI_pos (by omega)) (nI_lt (a := j) (b := 3) hj (by omega)) σ) wd_794 wd_795 wd_11 wd_796 ⟨by decide, by decide, by decide +kernel⟩ (by decide) rfl rfl (Nat.le_of_ble_eq_true rfl) (by decide) dJ1_charAt_3b067_3) hw (fun H locs hw => ?_)
    refine lv_aload_n (pc := 6) hx hb dJ1_charAt_3b067_6 rfl (lv_at hl 0 rfl) ?_
    refine lv_iload_n (pc := 7) hx hb dJ1_charAt_3b067_7 rfl (lv_at hl 1 rfl) ?_
    refine va_tb (pc := 8) (v := .int (sCh i j)) hx hb hT hw.2 hv (by rw [e1]; rfl) dJ1_charAt_3b067_8 ?_
    refine lv_sipush (pc := 9) (v := 255) hx hb dJ1_charAt_3b067_9 (by decide) ?_
    refine lv_iand (pc := 12) hx hb dJ1_charAt_3b067_12 ?_
    have key : ((sCh i j &&& 255).toUInt32 % 65536).toInt32 = sCh i j ∧ narrow .char (.int (sCh i j)) = .int (sCh i j) := by
      rcases (show i = 0 ∨ i = 1 by omega) with rfl | rfl <;> rcases (show j = 0 ∨ j = 1 ∨ j = 2 by omega) with rfl | rfl | rfl <;> exact ⟨by decide +kernel, by decide +kernel⟩
    refine lv_i2c (pc := 13) (v := sCh i j) hx hb dJ1_charAt_3b067_13 key.1 ?_
    exact rp_retn (pc := 14) hC hw key.2 (by rw [e1]) dJ1_charAt_3b067_14)
theorem mJ_charAt (i : Nat) (hi : i < 2) (k : Int32) (hk : rp_in k 3 = true) (σ : rp_St) : mM l D cI cT ad av a yJ0_charAt_5068e cJ0_charAt_5068e 2 (some .char) 4 [.ref (ad i), .int k] σ (rp_Qi D a (mt cI cT ad a) 15 (sCh i k.toNatClampNeg, σ)) :=
  rp_entry (by decide) (Nat.le_of_ble_eq_true rfl) (fun p e s m below meth c ls hC hw hl => by
    have hx := hC.1
    have hb := hC.2.1
    have hown := hC.2.2.2.1
    have hts := hC.2.2.2.2.1
    obtain ⟨hS, hZ, hQ⟩ := hC.2.2.2.2.2.2.2.2.2
    have hl : lv_has ls 2 [(0, .ref (ad i)), (1, .int k)] := hl
    refine lv_aload_n (pc := 0) hx hb dJ0_charAt_5068e_0 rfl (lv_at hl 0 rfl) ?_
    refine rp_ki (rp_runW (rest := []) hC (mE_ok _) hw hl.1 (mJ_lat i hi σ) vJ_lat (vk_recv hS hi hw.2) rfl rfl (Nat.le_of_ble_eq_true rfl) (by decide) dJ0_charAt_5068e_1) hw (fun H locs hw => ?_)
    refine lv_if_eq (pc := 4) (tgt := 16) hx hb dJ0_charAt_5068e_4 (by decide) (fun hc => absurd hc (by decide)) (fun hc => ?_)
    refine lv_aload_n (pc := 7) hx hb dJ0_charAt_5068e_7 rfl (lv_at hl 0 rfl) ?_
    refine vk_getf (pc := 8) hx hb (hS.1 i hi).2.2.1 hw.2 hown (hts _ wd_1142) (fun _ h => h) dJ0_charAt_5068e_8 ?_
    refine lv_iload_n (pc := 11) hx hb dJ0_charAt_5068e_11 rfl (lv_at hl 1 rfl) ?_
    refine rp_ki (rp_runY (n := 2) (rest := []) hC (mE_ok _) hw hl.1 (mJ_latAt i hi k hk σ) wd_791 wd_792 wd_12 wd_793 ⟨by decide, by decide, by decide +kernel⟩ (by decide) rfl rfl (Nat.le_of_ble_eq_true rfl) (by decide) dJ0_charAt_5068e_12) hw (fun H locs hw => ?_)
    refine rp_retn (pc := 15) hC hw ?_ rfl dJ0_charAt_5068e_15
    obtain ⟨j, hj, rfl⟩ := vp_in_of (rp_in_vp hk) (by decide)
    rw [show (nI j).toNatClampNeg = j from nI_clamp (by omega)]
    rcases (show i = 0 ∨ i = 1 by omega) with rfl | rfl <;> rcases (show j = 0 ∨ j = 1 ∨ j = 2 by omega) with rfl | rfl | rfl <;> decide +kernel)
end MJ
