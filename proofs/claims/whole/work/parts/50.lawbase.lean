/-! THE LAW: two systems side by side, and the script -/
/-! THE CLAIM OUT OF ONE WALK OF THE LAW'S BODY. Your part is whole_start (and what it stands on); all else here is the same for every law, but numbers. -/
def R_law : String := "RegretPegsLaw"
def lw_P (b : Addr) (xs : List Int32) (args : Array Value) (s : State) : Prop := args = #[.ref b] ∧ s.IntsAt b xs ∧ xs.length ≤ 3072 ∧ (Jvm.Cond.and given_1 narrow_1).before args s = true
def lw_Q (_ : Array Value) (s : State) (o : Outcome) (t : State) : Prop := o = .returned (some (.int 1)) ∧ Framed s o t [] 600000 7302250
def lw_Z (below : List Frame) (a : Array Value) (s : State) : State → Prop := fun t => ∃ o, t.status = .running ∧ Ended t below o ∧ lw_Q a s o t
/-- the law's own end, with 1 on the stack, nothing written that was there before, its room as the claim has it -/
theorem lw_ret {p : Program} {l : Launch} {e : Env} {s : State} {m : MethodId} {below : List Frame} {meth : Method} {c : Code} {b : Nat} (hx : p.tables.exec = Jvm.exec) (hb : c.code = code) (hr : meth.sig.returnType = ret) (hlocks : meth.locks = false) {pc : Nat} {H : Heap} {ls : Array Slot} (hdg : decode code pc = .ok (.ireturn, 1)) : W p l e room_1 s m #[Value.ref b] below meth c H [] 600000 7302250 (lw_Z below #[Value.ref b] s) (F0 m pc ls [.int 1]) := by
  intro T hT X
  obtain ⟨fs, hret, hrun, hended, hW, hframe⟩ := X.leave (v := some (.int 1)) (hlocks := hlocks) (fun h => by rw [hr] at h; cases h)
  have hmeth' : T.vm.method? m = some meth := X.method'
  refine ⟨T.setFrames fs, ?_, .returned (some (.int 1)), hrun, hended, rfl, ⟨_, rfl⟩, hW, hframe⟩
  jvm_step X.here [X.here.top, hx, hb, hdg, hmeth', hr, ret, narrow_b1]
  (try refine ⟨rfl, ?_⟩); (try refine ⟨rfl, ?_⟩)
  first | (intro acts; rw [hret _ acts rfl rfl rfl]) | rw [hret _ _ rfl rfl rfl]
  exact Steps.refl _
/-- what holds at the law's entry: the machine, the code, the tables' words (any of lw_tbl by 'hts w (by decide +kernel)'), the script of L ints xs at the cell b, what the Statement gives of the start (any of its parts by flat_of_before) -/
def lw_At (p : Program) (s : State) (m : MethodId) (meth : Method) (c : Code) (b L : Nat) (xs : Nat → Int32) : Prop :=
  p.tables.exec = Jvm.exec ∧ c.code = code ∧ meth.sig.returnType = ret ∧ c.maxLocals = 4 ∧ s.vm.findClass R_law = some m.cls ∧ (∀ w ∈ lw_tbl, w.before #[Value.ref b] s = true) ∧ va_X b L xs s s.heap ∧ b < s.heap.size ∧ meth.locks = false ∧ (Jvm.Cond.and given_1 narrow_1).before #[Value.ref b] s = true
def lC (p : Program) (s : State) (m : MethodId) (meth : Method) (c : Code) (b L : Nat) (xs : Nat → Int32) (D : va_G) (cI cB cS cT : ClassId) (ax am ad av : Nat → Nat) : Prop :=
  lw_At p s m meth c b L xs ∧ va_K D vwCl [(cI, .int), (cB, .byte), (cS, .object "RegretPegs$Sheet"), (cT, .object "java/lang/String")] s ∧ rp_I ax 62 ∧ rp_I am 15 ∧ (∀ k, k < 62 → s.heap.size ≤ ax k) ∧ (∀ k, k < 15 → s.heap.size ≤ am k) ∧ (∀ i j, i < 62 → j < 15 → ax i ≠ am j) ∧ xE ax s ∧ mE ad av am s
def lS (D : va_G) (cI cB cS cT : ClassId) (ax am ad : Nat → Nat) (s : State) (σ τ : rp_St) (H : Heap) (locs : List Loc) : Prop := va_P D vwCl (rp_w ax (xt cI cB cS ax) 62 σ) H ∧ va_P D vwCl (rp_w am (mt cI cT ad am) 15 τ) H ∧ va_S (fun q => s.heap.size ≤ q) s.heap H locs
section LR
variable {p : Program} {l : Launch} {e : Env} {s : State} {m : MethodId} {below : List Frame} {meth : Method} {c : Code} {H : Heap} {locs : List Loc} {cells slots : Nat} {Q : State → Prop}
variable {pc : Nat} {D : va_G} {cI cB cS cT : ClassId} {ax am ad av : Nat → Nat} {ls : Array Slot} {rest : List Value} {σ τ σ' : rp_St} {b L : Nat} {xs : Nat → Int32}
variable {y : MethodName} {cc' : ByteArray} {maxL' : Nat} {ret' : Option FieldType} {h n index : Nat} {As st : List Value} {r : Int32}
theorem lx_call (hC : lC p s m meth c b L xs D cI cB cS cT ax am ad av) (hw : lS D cI cB cS cT ax am ad s σ τ H locs) (hls : ls.size = 4) (hM : xM l D cI cB cS ax y cc' maxL' ret' h (.ref (ax 54) :: As) σ (rp_Qi D ax (xt cI cB cS ax) 62 (r, σ'))) (hV : rp_V "RegretPegsLaw" index "RegretPegs" y cc' maxL' ret' n) (hn : As.length = n) (hst : st = As.reverse ++ .ref (ax 54) :: rest) (hcat : (rest.map fun v => v.category).sum ≤ 8) (hh : h ≤ 1000) (hcs : cells ≤ 600000 ∧ slots ≤ 7302250) (hd : decode code pc = .ok (.invokevirtual index, 3))
    (kk : ∀ (H1 : Heap) (locs1 : List Loc), lS D cI cB cS cT ax am ad s σ' τ H1 locs1 → W p l e room_1 s m #[Value.ref b] below meth c H1 locs1 cells slots Q (F0 m (pc + 3) ls (.int r :: rest))) : W p l e room_1 s m #[Value.ref b] below meth c H locs cells slots Q (F0 m pc ls st) := by
  obtain ⟨⟨hx, hb, hr, hml, hown, hts, hX, hbl, hlk, hgv⟩, hK, hI, hI2, hA1, hA2, hne, hE1, hE2⟩ := hC
  obtain ⟨hP, hP2, hS⟩ := hw
  have hts0 : ∀ w ∈ rp_W0, w.before #[Value.ref b] s = true := fun w hw => hts w (rp_W0_in w hw)
  have hK1 : va_K D vwCl (xTy cI cB cS) s := hK.sub [0, 1, 2] rfl
  have hS0 : va_S (rp_A ax 62) s.heap H [] := ⟨hS.1, fun q h1 _ => hS.2.1 q h1 (by omega), fun _ h => by cases h⟩
  have cw : CallW room_1 s #[Value.ref b] "RegretPegsLaw" "RegretPegs" index y cc' maxL' ret' (Cond.code y cc' maxL' ret' :: rp_W0) (rp_rm h) 0 0 n := cwV n hts0 (rp_goodV hV) rfl rfl rfl hV.2.2.2.2.2.1 ⟨by show h + 1 ≤ 2048; omega, by have := hV.2.2.2.2.2.2; show 8 + (maxL' + 11) + 60 * h ≤ 84000; omega⟩
  have hrun := va_runV (e := e) (meth := meth) (below := below) (H := H) (locs := locs) (cells := cells) (slots := slots) (g := F0 m pc ls st) (rest := rest) (nL := 4) ⟨hx, hb, hml, hown, hts0⟩ hM cw ⟨rp_blind (xE_ok ax), va_recv hK hP (ci := 6) (q0 := 54) rfl (by rw [rp_w_at (by decide)]; rfl), fun U hU hW => ⟨rfl, by rw [hU]; exact hP, va_K.moved hW.alike hK1, hI, xE_ok ax s U [] hE1 hW (by rw [hU]; exact hS0)⟩⟩ rfl hn hls hst (lv_room hcat) hd ⟨hcs.1, hcs.2⟩
  have hsub : ∀ q, rp_A ax 62 q → s.heap.size ≤ q := fun q h => by obtain ⟨k, hk, rfl⟩ := h; exact hA1 k hk
  refine va_calli hrun hS (fun q _ h => hsub q h) hsub (fun r0 u t H1 locs1 ht hvm hp hB hz hk hS1 => ?_)
  have hp : r0 = r := hp
  subst hp
  have hB : va_P D vwCl (rp_w ax (xt cI cB cS ax) 62 σ') t.heap := hB
  rw [ht] at hB
  refine kk H1 locs1 ⟨hB, hP2.kept (fun k q hq => ?_), hS1⟩
  obtain ⟨hk15, rfl⟩ := rp_w_get hq
  exact hk _ (hP2 k _ hq).lt (fun ⟨i, hi, e⟩ => hne i k hi hk15 e.symm)
theorem lm_call (hC : lC p s m meth c b L xs D cI cB cS cT ax am ad av) (hw : lS D cI cB cS cT ax am ad s σ τ H locs) (hls : ls.size = 4) (hM : mM l D cI cT ad av am y cc' maxL' ret' h (.ref (am 0) :: As) τ (rp_Qi D am (mt cI cT ad am) 15 (r, σ'))) (hV : rp_V "RegretPegsLaw" index "RegretPegsModel" y cc' maxL' ret' n) (hn : As.length = n) (hst : st = As.reverse ++ .ref (am 0) :: rest) (hcat : (rest.map fun v => v.category).sum ≤ 8) (hh : h ≤ 1000) (hcs : cells ≤ 600000 ∧ slots ≤ 7302250) (hd : decode code pc = .ok (.invokevirtual index, 3))
    (kk : ∀ (H1 : Heap) (locs1 : List Loc), lS D cI cB cS cT ax am ad s σ σ' H1 locs1 → W p l e room_1 s m #[Value.ref b] below meth c H1 locs1 cells slots Q (F0 m (pc + 3) ls (.int r :: rest))) : W p l e room_1 s m #[Value.ref b] below meth c H locs cells slots Q (F0 m pc ls st) := by
  obtain ⟨⟨hx, hb, hr, hml, hown, hts, hX, hbl, hlk, hgv⟩, hK, hI, hI2, hA1, hA2, hne, hE1, hE2⟩ := hC
  obtain ⟨hP, hP2, hS⟩ := hw
  have hts0 : ∀ w ∈ rp_W0, w.before #[Value.ref b] s = true := fun w hw => hts w (rp_W0_in w hw)
  have hK1 : va_K D vwCl (mTy cI cT) s := hK.sub [0, 3] rfl
  have hS0 : va_S (rp_A am 15) s.heap H [] := ⟨hS.1, fun q h1 _ => hS.2.1 q h1 (by omega), fun _ h => by cases h⟩
  have cw : CallW room_1 s #[Value.ref b] "RegretPegsLaw" "RegretPegsModel" index y cc' maxL' ret' (Cond.code y cc' maxL' ret' :: rp_W0) (rp_rm h) 0 0 n := cwV n hts0 (rp_goodV hV) rfl rfl rfl hV.2.2.2.2.2.1 ⟨by show h + 1 ≤ 2048; omega, by have := hV.2.2.2.2.2.2; show 8 + (maxL' + 11) + 60 * h ≤ 84000; omega⟩
  have hrun := va_runV (e := e) (meth := meth) (below := below) (H := H) (locs := locs) (cells := cells) (slots := slots) (g := F0 m pc ls st) (rest := rest) (nL := 4) ⟨hx, hb, hml, hown, hts0⟩ hM cw ⟨rp_blind (mE_ok am), va_recv hK hP2 (ci := 7) (q0 := 0) rfl (by rw [rp_w_at (by decide)]; rfl), fun U hU hW => ⟨rfl, by rw [hU]; exact hP2, va_K.moved hW.alike hK1, hI2, mE_ok am s U [] hE2 hW (by rw [hU]; exact hS0)⟩⟩ rfl hn hls hst (lv_room hcat) hd ⟨hcs.1, hcs.2⟩
  have hsub : ∀ q, rp_A am 15 q → s.heap.size ≤ q := fun q h => by obtain ⟨k, hk, rfl⟩ := h; exact hA2 k hk
  refine va_calli hrun hS (fun q _ h => hsub q h) hsub (fun r0 u t H1 locs1 ht hvm hp hB hz hk hS1 => ?_)
  have hp : r0 = r := hp
  subst hp
  have hB : va_P D vwCl (rp_w am (mt cI cT ad am) 15 σ') t.heap := hB
  rw [ht] at hB
  refine kk H1 locs1 ⟨hP.kept (fun k q hq => ?_), hB, hS1⟩
  obtain ⟨hk61, rfl⟩ := rp_w_get hq
  exact hk _ (hP k _ hq).lt (fun ⟨i, hi, e⟩ => hne k i hk61 hi e)
theorem ls_ld (hC : lC p s m meth c b L xs D cI cB cS cT ax am ad av) (hw : lS D cI cB cS cT ax am ad s σ τ H locs) {i : Int32} (hin : vp_in i L) (hd : decode code pc = .ok (.iaload, 1)) (kk : W p l e room_1 s m #[Value.ref b] below meth c H locs cells slots Q (F0 m (pc + 1) ls (.int (xs i.toNatClampNeg) :: rest))) : W p l e room_1 s m #[Value.ref b] below meth c H locs cells slots Q (F0 m pc ls (.int i :: .ref b :: rest)) := by
  obtain ⟨⟨hx, hb, hr, hml, hown, hts, hX, hbl, hlk, hgv⟩, -⟩ := hC
  exact va_sld hx hb hX hbl (A := fun q => s.heap.size ≤ q) (by omega) hw.2.2 hin hd kk
theorem ls_len (hC : lC p s m meth c b L xs D cI cB cS cT ax am ad av) (hw : lS D cI cB cS cT ax am ad s σ τ H locs) (hd : decode code pc = .ok (.arraylength, 1)) (kk : W p l e room_1 s m #[Value.ref b] below meth c H locs cells slots Q (F0 m (pc + 1) ls (.int (nI L) :: rest))) : W p l e room_1 s m #[Value.ref b] below meth c H locs cells slots Q (F0 m pc ls (.ref b :: rest)) := by
  obtain ⟨⟨hx, hb, hr, hml, hown, hts, hX, hbl, hlk, hgv⟩, -⟩ := hC
  exact va_slen hx hb hX hbl (A := fun q => s.heap.size ≤ q) (by omega) hw.2.2 hd kk
end LR
