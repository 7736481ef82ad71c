/-! BASE: a system's world is a row of N cells; its state is what the int fields and int elements hold, by cell and place -/
abbrev rp_St : Type := Nat → Nat → Int32
abbrev rp_Tab : Type := Nat → (Nat → Int32) → va_E
def rp_w (a : Nat → Nat) (tab : rp_Tab) (N : Nat) (σ : rp_St) : va_W := (List.range N).map (fun k => (a k, tab k (σ k)))
def rp_A (a : Nat → Nat) (N : Nat) : Nat → Prop := fun q => ∃ k, k < N ∧ q = a k
def rp_I (a : Nat → Nat) (N : Nat) : Prop := ∀ i j, i < N → j < N → a i = a j → i = j
def rp_row (σ : rp_St) (k : Nat) (f : Nat → Int32) : rp_St := fun j => if j = k then f else σ j
def rp_put (σ : rp_St) (k i : Nat) (v : Int32) : rp_St := rp_row σ k (upd (σ k) i v)
theorem rp_w_at {a : Nat → Nat} {tab : rp_Tab} {N : Nat} {σ : rp_St} {k : Nat} (h : k < N) : (rp_w a tab N σ)[k]? = some (a k, tab k (σ k)) := by
  simp [rp_w, h]
theorem rp_w_get {a : Nat → Nat} {tab : rp_Tab} {N : Nat} {σ : rp_St} {k : Nat} {q : Nat × va_E} (h : (rp_w a tab N σ)[k]? = some q) : k < N ∧ q = (a k, tab k (σ k)) := by
  by_cases hk : k < N
  · rw [rp_w_at hk] at h
    exact ⟨hk, (Option.some.inj h).symm⟩
  · have hz : (rp_w a tab N σ)[k]? = none := by
      apply List.getElem?_eq_none
      simp [rp_w]
      omega
    rw [hz] at h
    cases h
theorem rp_w_set {a : Nat → Nat} {tab : rp_Tab} {N : Nat} {σ : rp_St} {k : Nat} {f : Nat → Int32} (h : k < N) : (rp_w a tab N σ).set k (a k, tab k f) = rp_w a tab N (rp_row σ k f) := by
  apply List.ext_getElem?
  intro j
  by_cases hj : j = k
  · subst hj
    rw [List.getElem?_set_self (by simpa [rp_w] using h), rp_w_at h]
    simp [rp_row]
  · rw [List.getElem?_set_ne (Ne.symm hj)]
    by_cases hN : j < N
    · rw [rp_w_at hN, rp_w_at hN]
      simp [rp_row, hj]
    · rw [List.getElem?_eq_none (by simp [rp_w]; omega), List.getElem?_eq_none (by simp [rp_w]; omega)]
theorem rp_w_D {a : Nat → Nat} {tab : rp_Tab} {N : Nat} {σ : rp_St} (hI : rp_I a N) : va_D (rp_A a N) (rp_w a tab N σ) := by
  refine ⟨fun i j p q hi hj h => ?_, fun k q hk => ?_⟩
  · obtain ⟨h1, rfl⟩ := rp_w_get hi
    obtain ⟨h2, rfl⟩ := rp_w_get hj
    exact hI i j h1 h2 h
  · obtain ⟨h1, rfl⟩ := rp_w_get hk
    exact ⟨k, h1, rfl⟩
/-- what stays over a method: the machine, its code, the tables' words, the classes, what a system is given -/
def rp_C (p : Program) (s : State) (m : MethodId) (args : Array Value) (meth : Method) (c : Code) (cc : ByteArray) (maxL : Nat) (own : String) (ret : Option FieldType) (D : va_G) (tys : List (ClassId × FieldType)) (a : Nat → Nat) (N : Nat) (en : State → Prop) : Prop :=
  p.tables.exec = Jvm.exec ∧ c.code = cc ∧ c.maxLocals = maxL ∧ s.vm.findClass own = some m.cls ∧ (∀ w ∈ rp_W0, w.before args s = true) ∧ meth.locks = false ∧ meth.sig.returnType = ret ∧ va_K D vwCl tys s ∧ rp_I a N ∧ en s
/-- the world now -/
def rp_W (D : va_G) (a : Nat → Nat) (tab : rp_Tab) (N : Nat) (s : State) (σ : rp_St) (H : Heap) (locs : List Loc) : Prop := va_P D vwCl (rp_w a tab N σ) H ∧ va_S (rp_A a N) s.heap H locs
/-- field i of class ci, as entry 'index' of class own's file has it -/
def rp_F (own : String) (index ci i : Nat) : Prop := ∃ (C : String) (T : u_T) (n : Nat), vwCl[ci]? = some (C, T, n) ∧ i < n ∧ (∀ w ∈ u_ws C T n, w ∈ rp_W0) ∧ Cond.fieldLink own index (T i).1 (T i).2.1 (T i).2.2.1 ∈ rp_W0
/-- the same, to write it -/
def rp_G (own : String) (index ci i : Nat) (ty : FieldType) : Prop := ∃ (C : String) (T : u_T) (n : Nat) (ty0 : Nat → FieldType), vwCl[ci]? = some (C, T, n) ∧ i < n ∧ (∀ w ∈ u_ws C T n, w ∈ rp_W0) ∧ Cond.fieldLink own index (T i).1 (T i).2.1 (T i).2.2.1 ∈ rp_W0 ∧ (∀ k, k < n → parseFieldDescriptor (T k).2.2.1 = some (ty0 k)) ∧ (∀ a, a < n → ∀ b, b < n → a ≠ b → (T a).2.1 ≠ (T b).2.1) ∧ (T i).2.2.2 = false ∧ parseFieldDescriptor (T i).2.2.1 = some ty
def rp_in (i : Int32) (n : Nat) : Bool := !decide (i < 0) && decide (i.toNatClampNeg < n)
theorem rp_in_vp {i : Int32} {n : Nat} (h : rp_in i n = true) : vp_in i n := by
  simp [rp_in] at h
  intro q
  rcases q with q | q
  · exact absurd q (by simpa using h.1)
  · omega
/-- a guard, a name, a call in a method's value -/
def rp_gu {β : Type} (b : Bool) (e : Option β) : Option β := if b = true then e else none
def rp_nm {α β : Type} (v : α) (k : α → Option β) : Option β := k v
def rp_bd {α β : Type} (x : Option (α × rp_St)) (k : α → rp_St → Option β) : Option β := match x with
  | none => none
  | some q => k q.1 q.2
/-- a loop: so many rounds at most -/
def rp_lp {X : Type} (z : X) (f : X → X) : Nat → X
  | 0 => z
  | n + 1 => f (rp_lp z f n)
theorem rp_gu_e {β : Type} {b : Bool} {e : Option β} {x : β} (h : rp_gu b e = some x) : b = true ∧ e = some x := by
  unfold rp_gu at h
  by_cases hb : b = true
  · rw [if_pos hb] at h
    exact ⟨hb, h⟩
  · rw [if_neg hb] at h
    cases h
theorem rp_nm_e {α β : Type} {v : α} {k : α → Option β} {x : β} (h : rp_nm v k = some x) : ∃ y, y = v ∧ k y = some x := ⟨v, rfl, h⟩
theorem rp_bd_e {α β : Type} {z : Option (α × rp_St)} {k : α → rp_St → Option β} {x : β} (h : rp_bd z k = some x) : ∃ (r : α) (τ : rp_St), z = some (r, τ) ∧ k r τ = some x := by
  cases z with
  | none => cases h
  | some q => exact ⟨q.1, q.2, rfl, h⟩
theorem rp_it {β : Type} {c : Prop} [Decidable c] {e f x : β} (h : c) (hF : (if c then e else f) = x) : e = x := by rw [if_pos h] at hF; exact hF
theorem rp_if {β : Type} {c : Prop} [Decidable c] {e f x : β} (h : ¬ c) (hF : (if c then e else f) = x) : f = x := by rw [if_neg h] at hF; exact hF
/-- a method's room, by its height -/
def rp_rm (h : Nat) : Room := { frames := h, cells := 0, slots := 0, locals := 60 * h }
section RPB
variable {p : Program} {l : Launch} {e : Env} {R : Room} {s : State} {m : MethodId} {args : Array Value} {below : List Frame} {meth : Method} {c : Code} {H : Heap} {locs : List Loc} {cells slots : Nat} {Q : State → Prop}
variable {cc : ByteArray} {pc maxL : Nat} {own : String} {ret : Option FieldType} {D : va_G} {tys : List (ClassId × FieldType)} {a : Nat → Nat} {tab : rp_Tab} {N : Nat} {en : State → Prop} {σ : rp_St} {ls : Array Slot} {rest : List Value}
theorem rp_top {x y : Int32} (h : y = x) (k : W p l e R s m args below meth c H locs cells slots Q (F0 m pc ls (.int y :: rest))) : W p l e R s m args below meth c H locs cells slots Q (F0 m pc ls (.int x :: rest)) := h ▸ k
theorem rp_Wn {τ : rp_St} (h : τ = σ) (hw : rp_W D a tab N s σ H locs) : rp_W D a tab N s τ H locs := h ▸ hw
theorem rp_get (hC : rp_C p s m args meth c cc maxL own ret D tys a N en) (hw : rp_W D a tab N s σ H locs) (k : Nat) (hk : k < N) {ci : Nat} {fs : List Value} (ht : tab k (σ k) = .inr (ci, fs)) {i index : Nat} (hF : rp_F own index ci i) (v : Value) (hv : fs[i]? = some v) (hd : decode cc pc = .ok (.getfield index, 3))
    (kk : W p l e R s m args below meth c H locs cells slots Q (F0 m (pc + 3) ls (v :: rest))) : W p l e R s m args below meth c H locs cells slots Q (F0 m pc ls (.ref (a k) :: rest)) := by
  obtain ⟨hx, hb, hml, hown, hts, hlk, hr, hK, hI, hE⟩ := hC
  obtain ⟨C, T, n, h1, h2, h3, h4⟩ := hF
  exact va_get hx hb hts h3 hown hK hw.1 k (by rw [rp_w_at hk, ht]) h1 i h2 (hts _ h4) (fun _ h => h) hv hd kk
theorem rp_set (hC : rp_C p s m args meth c cc maxL own ret D tys a N en) (hw : rp_W D a tab N s σ H locs) (k : Nat) (hk : k < N) {ci : Nat} {fs : (Nat → Int32) → List Value} (ht : ∀ f, tab k f = .inr (ci, fs f)) {i index : Nat} {ty : FieldType} (hF : rp_G own index ci i ty) {v : Int32} (hset : (fs (σ k)).set i (.int v) = fs (upd (σ k) i v)) (hlen : i < (fs (σ k)).length) (hn : narrow ty (.int v) = .int v) (hf : fits ty (.int v) = true) (hd : decode cc pc = .ok (.putfield index, 3))
    (kk : ∀ (H1 : Heap) (locs1 : List Loc), rp_W D a tab N s (rp_put σ k i v) H1 locs1 → W p l e R s m args below meth c H1 locs1 cells slots Q (F0 m (pc + 3) ls rest)) : W p l e R s m args below meth c H locs cells slots Q (F0 m pc ls (.int v :: .ref (a k) :: rest)) := by
  obtain ⟨hx, hb, hml, hown, hts, hlk, hr, hK, hI, hE⟩ := hC
  obtain ⟨C, T, n, ty0, h1, h2, h3, h4, h5, h6, h7, h8⟩ := hF
  refine va_put hx hb hts h3 ty0 h5 h6 hown hK hw.1 (rp_w_D hI) hw.2 k (by rw [rp_w_at hk, ht]) h1 i h2 (hts _ h4) (fun _ h => h) h7 h8 hn hf hlen hd (fun H1 locs1 hP hD hS => kk H1 locs1 ⟨?_, hS⟩)
  rw [hset, ← ht, rp_w_set hk] at hP
  exact hP
theorem rp_ald (hC : rp_C p s m args meth c cc maxL own ret D tys a N en) (hw : rp_W D a tab N s σ H locs) (k : Nat) (hk : k < N) {cA : ClassId} {n : Nat} (ht : ∀ f, tab k f = .inl (cA, n, .inl f)) (t0 : Nat) (hty : tys[t0]? = some (cA, .int)) {i : Int32} (hin : rp_in i n = true) (hd : decode cc pc = .ok (.iaload, 1))
    (kk : W p l e R s m args below meth c H locs cells slots Q (F0 m (pc + 1) ls (.int (σ k i.toNatClampNeg) :: rest))) : W p l e R s m args below meth c H locs cells slots Q (F0 m pc ls (.int i :: .ref (a k) :: rest)) := by
  obtain ⟨hx, hb, hml, hown, hts, hlk, hr, hK, hI, hE⟩ := hC
  exact va_iald hx hb hK hw.1 k t0 (by rw [rp_w_at hk, ht]) hty (rp_in_vp hin) hd kk
theorem rp_bald (hC : rp_C p s m args meth c cc maxL own ret D tys a N en) (hw : rp_W D a tab N s σ H locs) (k : Nat) (hk : k < N) {cA : ClassId} {n : Nat} (ht : ∀ f, tab k f = .inl (cA, n, .inl f)) (t0 : Nat) (hty : tys[t0]? = some (cA, .byte)) {i : Int32} (hin : rp_in i n = true) (hd : decode cc pc = .ok (.baload, 1))
    (kk : W p l e R s m args below meth c H locs cells slots Q (F0 m (pc + 1) ls (.int (σ k i.toNatClampNeg) :: rest))) : W p l e R s m args below meth c H locs cells slots Q (F0 m pc ls (.int i :: .ref (a k) :: rest)) := by
  obtain ⟨hx, hb, hml, hown, hts, hlk, hr, hK, hI, hE⟩ := hC
  exact va_bald hx hb hK hw.1 k t0 (by rw [rp_w_at hk, ht]) hty (rp_in_vp hin) hd kk
theorem rp_aald (hC : rp_C p s m args meth c cc maxL own ret D tys a N en) (hw : rp_W D a tab N s σ H locs) (k : Nat) (hk : k < N) {cA : ClassId} {n : Nat} {g : Nat → Option Nat} (ht : ∀ f, tab k f = .inl (cA, n, .inr (.inr (.inr (.inr g))))) (t0 : Nat) {C : String} (hty : tys[t0]? = some (cA, .object C)) {i : Int32} (hin : rp_in i n = true) (hd : decode cc pc = .ok (.aaload, 1))
    (kk : W p l e R s m args below meth c H locs cells slots Q (F0 m (pc + 1) ls (va_rf (g i.toNatClampNeg) :: rest))) : W p l e R s m args below meth c H locs cells slots Q (F0 m pc ls (.int i :: .ref (a k) :: rest)) := by
  obtain ⟨hx, hb, hml, hown, hts, hlk, hr, hK, hI, hE⟩ := hC
  exact va_aldq hx hb hK hw.1 k t0 (by rw [rp_w_at hk, ht]) hty (rp_in_vp hin) hd kk
theorem rp_alen (hC : rp_C p s m args meth c cc maxL own ret D tys a N en) (hw : rp_W D a tab N s σ H locs) (k : Nat) (hk : k < N) {cA : ClassId} {x : vp_A} (ht : tab k (σ k) = .inl (cA, x)) (t0 : Nat) {ty : FieldType} (hty : tys[t0]? = some (cA, ty)) (v : Int32) (hv : Int32.ofNat x.1 = v) (hd : decode cc pc = .ok (.arraylength, 1))
    (kk : W p l e R s m args below meth c H locs cells slots Q (F0 m (pc + 1) ls (.int v :: rest))) : W p l e R s m args below meth c H locs cells slots Q (F0 m pc ls (.ref (a k) :: rest)) := by
  obtain ⟨hx, hb, hml, hown, hts, hlk, hr, hK, hI, hE⟩ := hC
  exact va_alen hx hb hK hw.1 k t0 (by rw [rp_w_at hk, ht]) hty hv hd kk
theorem rp_ast (hC : rp_C p s m args meth c cc maxL own ret D tys a N en) (hw : rp_W D a tab N s σ H locs) (k : Nat) (hk : k < N) {cA : ClassId} {n : Nat} (ht : ∀ f, tab k f = .inl (cA, n, .inl f)) (t0 : Nat) (hty : tys[t0]? = some (cA, .int)) {i v : Int32} (hin : rp_in i n = true) (hd : decode cc pc = .ok (.iastore, 1))
    (kk : ∀ (H1 : Heap) (locs1 : List Loc), rp_W D a tab N s (rp_put σ k i.toNatClampNeg v) H1 locs1 → W p l e R s m args below meth c H1 locs1 cells slots Q (F0 m (pc + 1) ls rest)) : W p l e R s m args below meth c H locs cells slots Q (F0 m pc ls (.int v :: .int i :: .ref (a k) :: rest)) := by
  obtain ⟨hx, hb, hml, hown, hts, hlk, hr, hK, hI, hE⟩ := hC
  refine va_iast hx hb hK hw.1 (rp_w_D hI) hw.2 k t0 (by rw [rp_w_at hk, ht]) hty (rp_in_vp hin) hd (fun H1 locs1 hP hD hS => kk H1 locs1 ⟨?_, hS⟩)
  rw [← ht, rp_w_set hk] at hP
  exact hP
theorem rp_bast (hC : rp_C p s m args meth c cc maxL own ret D tys a N en) (hw : rp_W D a tab N s σ H locs) (k : Nat) (hk : k < N) {cA : ClassId} {n : Nat} (ht : ∀ f, tab k f = .inl (cA, n, .inl f)) (t0 : Nat) (hty : tys[t0]? = some (cA, .byte)) {i v : Int32} (hin : rp_in i n = true) (hd : decode cc pc = .ok (.bastore, 1))
    (kk : ∀ (H1 : Heap) (locs1 : List Loc), rp_W D a tab N s (rp_put σ k i.toNatClampNeg (vp_nar .byte v)) H1 locs1 → W p l e R s m args below meth c H1 locs1 cells slots Q (F0 m (pc + 1) ls rest)) : W p l e R s m args below meth c H locs cells slots Q (F0 m pc ls (.int v :: .int i :: .ref (a k) :: rest)) := by
  obtain ⟨hx, hb, hml, hown, hts, hlk, hr, hK, hI, hE⟩ := hC
  refine va_bast hx hb hK hw.1 (rp_w_D hI) hw.2 k t0 (by rw [rp_w_at hk, ht]) hty (rp_in_vp hin) hd (fun H1 locs1 hP hD hS => kk H1 locs1 ⟨?_, hS⟩)
  rw [← ht, rp_w_set hk] at hP
  exact hP
/-- System.arraycopy between two rows of ints -/
theorem rp_cpyi (hC : rp_C p s m args meth c cc maxL own ret D tys a N en) (hw : rp_W D a tab N s σ H locs) (hls : ls.size = maxL) (j k : Nat) (hj : j < N) (hk : k < N) {cA : ClassId} {n0 n1 : Nat} (htj : ∀ f, tab j f = .inl (cA, n0, .inl f)) (htk : ∀ f, tab k f = .inl (cA, n1, .inl f)) (t0 : Nat) (hty : tys[t0]? = some (cA, .int)) {index : Nat} (hm : Cond.methodLink own index arraycopyName ∈ rp_W0) (hm2 : Cond.native arraycopyName ∈ rp_W0) (hm3 : Cond.static arraycopyName ∈ rp_W0) (hm4 : Cond.initialized "java/lang/System" ∈ rp_W0) {sp dp n : Int32} (hg : (!decide (sp < 0) && !decide (dp < 0) && !decide (n < 0) && decide (sp.toNatClampNeg + n.toNatClampNeg ≤ n0) && decide (dp.toNatClampNeg + n.toNatClampNeg ≤ n1)) = true) (hfr : 1 ≤ R.frames) (hlo : (rest.map fun v => v.category).sum + (nativeFrameWords "java/lang/System" "arraycopy" 5 + 11) ≤ R.locals) (hd : decode cc pc = .ok (.invokestatic index, 3))
    (kk : ∀ (H1 : Heap) (locs1 : List Loc), rp_W D a tab N s (rp_row σ k (va_cpy (σ j) (σ k) sp.toNatClampNeg dp.toNatClampNeg n.toNatClampNeg)) H1 locs1 → W p l e R s m args below meth c H1 locs1 cells slots Q (F0 m (pc + 3) ls rest)) : W p l e R s m args below meth c H locs cells slots Q (F0 m pc ls (.int n :: .int dp :: .ref (a k) :: .int sp :: .ref (a j) :: rest)) := by
  obtain ⟨hx, hb, hml, hown, hts, hlk, hr, hK, hI, hE⟩ := hC
  simp only [Bool.and_eq_true, Bool.not_eq_true', decide_eq_false_iff_not, decide_eq_true_eq] at hg
  obtain ⟨⟨⟨⟨g1, g2⟩, g3⟩, g4⟩, g5⟩ := hg
  refine va_copyi hx hb (hml.trans hls.symm) hown (hts _ hm) (hts _ hm2) (hts _ hm3) (hts _ hm4) hK hw.1 (rp_w_D hI) hw.2 j k t0 t0 (by rw [rp_w_at hj, htj]) (by rw [rp_w_at hk, htk]) hty hty rfl g1 g2 g3 g4 g5 (fun i _ => rfl) hfr hlo hd (fun H1 locs1 hP hD hS => kk H1 locs1 ⟨?_, hS⟩)
  rw [← htk, rp_w_set hk] at hP
  exact hP
/-- System.arraycopy between two rows of bytes -/
theorem rp_cpyb (hC : rp_C p s m args meth c cc maxL own ret D tys a N en) (hw : rp_W D a tab N s σ H locs) (hls : ls.size = maxL) (j k : Nat) (hj : j < N) (hk : k < N) {cA : ClassId} {n0 n1 : Nat} (htj : ∀ f, tab j f = .inl (cA, n0, .inl f)) (htk : ∀ f, tab k f = .inl (cA, n1, .inl f)) (t0 : Nat) (hty : tys[t0]? = some (cA, .byte)) {index : Nat} (hm : Cond.methodLink own index arraycopyName ∈ rp_W0) (hm2 : Cond.native arraycopyName ∈ rp_W0) (hm3 : Cond.static arraycopyName ∈ rp_W0) (hm4 : Cond.initialized "java/lang/System" ∈ rp_W0) {sp dp n : Int32} (hg : (!decide (sp < 0) && !decide (dp < 0) && !decide (n < 0) && decide (sp.toNatClampNeg + n.toNatClampNeg ≤ n0) && decide (dp.toNatClampNeg + n.toNatClampNeg ≤ n1) && (List.range 50).all (fun i => (σ j i).toInt8.toInt32 == σ j i)) = true) (hn0 : n0 = 50) (hfr : 1 ≤ R.frames) (hlo : (rest.map fun v => v.category).sum + (nativeFrameWords "java/lang/System" "arraycopy" 5 + 11) ≤ R.locals) (hd : decode cc pc = .ok (.invokestatic index, 3))
    (kk : ∀ (H1 : Heap) (locs1 : List Loc), rp_W D a tab N s (rp_row σ k (va_cpy (σ j) (σ k) sp.toNatClampNeg dp.toNatClampNeg n.toNatClampNeg)) H1 locs1 → W p l e R s m args below meth c H1 locs1 cells slots Q (F0 m (pc + 3) ls rest)) : W p l e R s m args below meth c H locs cells slots Q (F0 m pc ls (.int n :: .int dp :: .ref (a k) :: .int sp :: .ref (a j) :: rest)) := by
  obtain ⟨hx, hb, hml, hown, hts, hlk, hr, hK, hI, hE⟩ := hC
  simp only [Bool.and_eq_true, Bool.not_eq_true', decide_eq_false_iff_not, decide_eq_true_eq] at hg
  obtain ⟨⟨⟨⟨⟨g1, g2⟩, g3⟩, g4⟩, g5⟩, g6⟩ := hg
  refine va_copyi hx hb (hml.trans hls.symm) hown (hts _ hm) (hts _ hm2) (hts _ hm3) (hts _ hm4) hK hw.1 (rp_w_D hI) hw.2 j k t0 t0 (by rw [rp_w_at hj, htj]) (by rw [rp_w_at hk, htk]) hty hty rfl g1 g2 g3 g4 g5 (fun i hi => ?_) hfr hlo hd (fun H1 locs1 hP hD hS => kk H1 locs1 ⟨?_, hS⟩)
  · have h6 := List.all_eq_true.mp g6 (sp.toNatClampNeg + i) (List.mem_range.mpr (by omega))
    rw [beq_iff_eq] at h6
    rw [← h6]
    exact pk_fb _
  · rw [← htk, rp_w_set hk] at hP
    exact hP
end RPB
