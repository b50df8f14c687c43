/-! OBJECTS MADE: walks over a world that grows -/
def kTys (kA : Nat → ClassId) : List (ClassId × FieldType) := [(kA 1, .int), (kA 2, .long), (kA 3, .boolean), (kA 4, .object "PrimeCoins$Town"), (kA 5, .object "PrimeCoins$Tray")]
def NIW : List Cond := [.methodLinkNest RX10 25 yX8_init RX10, .methodLinkNest RX10 52 yX5_init RX10, .methodLinkNest RX5 20 yX8_init RX10, .methodLinkNest RX5 27 yX7_init RX10, .methodLinkNest RX10 59 yX4_init RX10, .methodLinkNest RX10 73 yX0_init RX10, .methodLinkNest RX10 80 yX2_init RX10, .methodLinkNest RX10 85 yX9_init RX10]
def EI (D : va_G) (kA : Nat → ClassId) (U : State) : Prop := va_K D vwCl (kTys kA) U ∧ va_AO "PrimeCoins$Town" U ∧ va_AO "PrimeCoins$Tray" U ∧ ∀ w ∈ NIW, va_Nw w U
theorem EI.warm {D : va_G} {kA : Nat → ClassId} {s U : State} (hW : s.WarmedH U.vm) (h : EI D kA s) : EI D kA U := by
  obtain ⟨h1, h2, h3, h4⟩ := h
  refine ⟨va_K.moved hW.alike h1, h2.moved hW.alike, h3.moved hW.alike, ?_⟩
  intro w hw
  have h5 := h4 w hw
  unfold NIW at hw
  simp only [List.mem_cons, List.not_mem_nil, or_false] at hw
  rcases hw with rfl | rfl | rfl | rfl | rfl | rfl | rfl | rfl <;> exact va_Nw.warmM hW h5
def dflV (ci : Nat) : List Value := (List.range (cTb ci).2.2).map (fun k => match fty ci k with
  | 0 => .int 0
  | 1 => .long 0
  | _ => .null)
theorem cl_dfl : ∀ ci, ci < 11 → ∀ j, j < (cTb ci).2.2 → defaultValue ((parseFieldDescriptor ((cTb ci).2.1 j).2.2.1).getD .int) = vp_V (dflV ci) j := by decide +kernel
def wI (y : MethodName) (cc : ByteArray) (n : Nat) : List Cond := .code y cc n none :: GI
def rI (k mc ms : Nat) : Room := { frames := 3 + 3 * k, cells := mc, slots := ms, locals := 60 + 60 * k }
def QcI (D : va_G) (w0 : va_W) (sz : Nat) (Post : va_W → Prop) : Array Value → State → Outcome → State → Prop := fun _ st o t => (∃ w1, Post w1 ∧ o = .returned none ∧ va_P D vwCl w1 t.heap ∧ va_D (va_A w0 sz) w1) ∧ va_F (va_A w0 sz) st t
/-- THE CONTRACT of a method without an answer over a world of its own -/
def CtI (l : Launch) (D : va_G) (kA : Nat → ClassId) (y : MethodName) (cc : ByteArray) (nL k : Nat) (As : List Value) (w0 : va_W) (mc ms : Nat) (Post : va_W → Prop) : Prop :=
  ∀ sz, Met l y (wI y cc nL) (rI k mc ms) (va_Pc As (fun U => U.heap.size = sz ∧ va_P D vwCl w0 U.heap ∧ EI D kA U ∧ va_D (fun _ => True) w0)) (QcI D w0 sz Post) mc ms (va_A w0 sz)
def Ki (p : Program) (s : State) (m : MethodId) (args : Array Value) (meth : Method) (c : Code) (D : va_G) (kA : Nat → ClassId) (A : Nat → Prop) (nL own : Nat) (cc : ByteArray) (nm : String) : Prop :=
  p.tables.exec = Jvm.exec ∧ c.code = cc ∧ c.maxLocals = nL ∧ s.vm.findClass (ownN own) = some m.cls ∧ (∀ w ∈ GI, w.before args s = true) ∧ EI D kA s ∧ (∀ q, s.heap.size ≤ q → A q) ∧ meth.locks = false ∧ meth.name = nm
def XI (p : Program) (l : Launch) (e : Env) (R : Room) (s : State) (m : MethodId) (args : Array Value) (below : List Frame) (meth : Method) (c : Code) (D : va_G) (A : Nat → Prop) (nL cl sl : Nat) (Q : State → Prop) (pc : Nat) (lv : List (Nat × Value)) (S : List Value) (w : va_W) : Prop :=
  ∀ (H : Heap) (locs : List Loc) (ls : Array Slot), va_P D vwCl w H → va_D A w → va_S A s.heap H locs → lv_has ls nL lv → W p l e R s m args below meth c H locs cl sl Q (F0 m pc ls S)
section XIS
variable {p : Program} {l : Launch} {e : Env} {R : Room} {s : State} {m : MethodId} {args : Array Value} {below : List Frame} {meth : Method} {c : Code} {D : va_G} {kA : Nat → ClassId} {A : Nat → Prop} {nL cl sl own : Nat} {cc : ByteArray} {nm : String} {Q : State → Prop}
variable {pc : Nat} {lv : List (Nat × Value)} {S : List Value} {w : va_W}
theorem xi_w {w2 : va_W} (e2 : w2 = w) (h : XI p l e R s m args below meth c D A nL cl sl Q pc lv S w2) : XI p l e R s m args below meth c D A nL cl sl Q pc lv S w := by rw [← e2]; exact h
theorem xi_aload (C : Ki p s m args meth c D kA A nL own cc nm) {k : Fin 4} (i j : Nat) {a : Nat} (hd : decode cc pc = .ok (.aload_n k, 1)) (hi : (k : Nat) = i) (hj : lv[j]? = some (i, .ref a)) (h : XI p l e R s m args below meth c D A nL cl sl Q (pc + 1) lv (.ref a :: S) w) : XI p l e R s m args below meth c D A nL cl sl Q pc lv S w := by
  obtain ⟨hx, hb, -⟩ := C
  intro H locs ls hP hD hS hl
  exact lv_aload_n hx hb hd hi (lv_at hl j hj) (h H locs ls hP hD hS hl)
theorem xi_iload (C : Ki p s m args meth c D kA A nL own cc nm) {k : Fin 4} (i j : Nat) {x : Int32} (hd : decode cc pc = .ok (.iload_n k, 1)) (hi : (k : Nat) = i) (hj : lv[j]? = some (i, .int x)) (h : XI p l e R s m args below meth c D A nL cl sl Q (pc + 1) lv (.int x :: S) w) : XI p l e R s m args below meth c D A nL cl sl Q pc lv S w := by
  obtain ⟨hx, hb, -⟩ := C
  intro H locs ls hP hD hS hl
  exact lv_iload_n hx hb hd hi (lv_at hl j hj) (h H locs ls hP hD hS hl)
theorem xi_iload4 (C : Ki p s m args meth c D kA A nL own cc nm) (i j : Nat) {x : Int32} (hd : decode cc pc = .ok (.iload i, 2)) (hj : lv[j]? = some (i, .int x)) (h : XI p l e R s m args below meth c D A nL cl sl Q (pc + 2) lv (.int x :: S) w) : XI p l e R s m args below meth c D A nL cl sl Q pc lv S w := by
  obtain ⟨hx, hb, -⟩ := C
  intro H locs ls hP hD hS hl
  exact lv_iload hx hb hd (lv_at hl j hj) (h H locs ls hP hD hS hl)
theorem xi_lload (C : Ki p s m args meth c D kA A nL own cc nm) {k : Fin 4} (i j : Nat) {x : Int64} (hd : decode cc pc = .ok (.lload_n k, 1)) (hi : (k : Nat) = i) (hj : lv[j]? = some (i, .long x)) (h : XI p l e R s m args below meth c D A nL cl sl Q (pc + 1) lv (.long x :: S) w) : XI p l e R s m args below meth c D A nL cl sl Q pc lv S w := by
  obtain ⟨hx, hb, -⟩ := C
  intro H locs ls hP hD hS hl
  exact lv_lload_n hx hb hd hi (lv_at hl j hj) (h H locs ls hP hD hS hl)
theorem xi_iconst (C : Ki p s m args meth c D kA A nL own cc nm) {n : Int} (v : Int32) (hd : decode cc pc = .ok (.iconst n, 1)) (hv : Int32.ofInt n = v) (h : XI p l e R s m args below meth c D A nL cl sl Q (pc + 1) lv (.int v :: S) w) : XI p l e R s m args below meth c D A nL cl sl Q pc lv S w := by
  obtain ⟨hx, hb, -⟩ := C
  intro H locs ls hP hD hS hl
  exact lv_iconst hx hb hd hv (h H locs ls hP hD hS hl)
theorem xi_bipush (C : Ki p s m args meth c D kA A nL own cc nm) {n : Int} (v : Int32) (hd : decode cc pc = .ok (.bipush n, 2)) (hv : (Int8.ofInt n).toInt32 = v) (h : XI p l e R s m args below meth c D A nL cl sl Q (pc + 2) lv (.int v :: S) w) : XI p l e R s m args below meth c D A nL cl sl Q pc lv S w := by
  obtain ⟨hx, hb, -⟩ := C
  intro H locs ls hP hD hS hl
  exact lv_bipush hx hb hd hv (h H locs ls hP hD hS hl)
theorem xi_sipush (C : Ki p s m args meth c D kA A nL own cc nm) {n : Int} (v : Int32) (hd : decode cc pc = .ok (.sipush n, 3)) (hv : (Int16.ofInt n).toInt32 = v) (h : XI p l e R s m args below meth c D A nL cl sl Q (pc + 3) lv (.int v :: S) w) : XI p l e R s m args below meth c D A nL cl sl Q pc lv S w := by
  obtain ⟨hx, hb, -⟩ := C
  intro H locs ls hP hD hS hl
  exact lv_sipush hx hb hd hv (h H locs ls hP hD hS hl)
theorem xi_ldc (C : Ki p s m args meth c D kA A nL own cc nm) {k : Nat} {z : Int} (hd : decode cc pc = .ok (.ldc k, 2)) (hk : look (KIt own) k = some z) (h : XI p l e R s m args below meth c D A nL cl sl Q (pc + 2) lv (.int (Int32.ofInt z) :: S) w) : XI p l e R s m args below meth c D A nL cl sl Q pc lv S w := by
  obtain ⟨hx, hb, hml, hown, hts, -⟩ := C
  intro H locs ls hP hD hS hl
  exact lv_ldc hx hb hown (hts _ (List.mem_append_right _ (conI_ok hk).2)) hd (h H locs ls hP hD hS hl)
theorem xi_lconst (C : Ki p s m args meth c D kA A nL own cc nm) {n : Fin 2} (v : Int64) (hd : decode cc pc = .ok (.lconst n, 1)) (hv : Int64.ofNat (n : Nat) = v) (h : XI p l e R s m args below meth c D A nL cl sl Q (pc + 1) lv (.long v :: S) w) : XI p l e R s m args below meth c D A nL cl sl Q pc lv S w := by
  obtain ⟨hx, hb, -⟩ := C
  intro H locs ls hP hD hS hl
  exact lv_lconst hx hb hd hv (h H locs ls hP hD hS hl)
theorem xi_dup (C : Ki p s m args meth c D kA A nL own cc nm) {v : Value} (hd : decode cc pc = .ok (.dup, 1)) (hv : v.category = 1) (h : XI p l e R s m args below meth c D A nL cl sl Q (pc + 1) lv (v :: v :: S) w) : XI p l e R s m args below meth c D A nL cl sl Q pc lv (v :: S) w := by
  obtain ⟨hx, hb, -⟩ := C
  intro H locs ls hP hD hS hl
  exact lv_dup hx hb hd hv (h H locs ls hP hD hS hl)
theorem xi_iadd (C : Ki p s m args meth c D kA A nL own cc nm) {x y : Int32} (hd : decode cc pc = .ok (.iadd, 1)) (h : XI p l e R s m args below meth c D A nL cl sl Q (pc + 1) lv (.int (x + y) :: S) w) : XI p l e R s m args below meth c D A nL cl sl Q pc lv (.int y :: .int x :: S) w := by
  obtain ⟨hx, hb, -⟩ := C
  intro H locs ls hP hD hS hl
  exact lv_iadd hx hb hd (h H locs ls hP hD hS hl)
theorem xi_isub (C : Ki p s m args meth c D kA A nL own cc nm) {x y : Int32} (hd : decode cc pc = .ok (.isub, 1)) (h : XI p l e R s m args below meth c D A nL cl sl Q (pc + 1) lv (.int (x - y) :: S) w) : XI p l e R s m args below meth c D A nL cl sl Q pc lv (.int y :: .int x :: S) w := by
  obtain ⟨hx, hb, -⟩ := C
  intro H locs ls hP hD hS hl
  exact lv_isub hx hb hd (h H locs ls hP hD hS hl)
theorem xi_imul (C : Ki p s m args meth c D kA A nL own cc nm) {x y : Int32} (hd : decode cc pc = .ok (.imul, 1)) (h : XI p l e R s m args below meth c D A nL cl sl Q (pc + 1) lv (.int (x * y) :: S) w) : XI p l e R s m args below meth c D A nL cl sl Q pc lv (.int y :: .int x :: S) w := by
  obtain ⟨hx, hb, -⟩ := C
  intro H locs ls hP hD hS hl
  exact lv_imul hx hb hd (h H locs ls hP hD hS hl)
theorem xi_goto (C : Ki p s m args meth c D kA A nL own cc nm) {off : Int} (tgt : Nat) (hd : decode cc pc = .ok (.goto off, 3)) (ht : (pc : Int) + off = (tgt : Int)) (h : XI p l e R s m args below meth c D A nL cl sl Q tgt lv S w) : XI p l e R s m args below meth c D A nL cl sl Q pc lv S w := by
  obtain ⟨hx, hb, -⟩ := C
  intro H locs ls hP hD hS hl
  exact lv_goto hx hb hd ht (h H locs ls hP hD hS hl)
theorem xi_icmpge (C : Ki p s m args meth c D kA A nL own cc nm) {x y : Int32} {off : Int} (tgt : Nat) (hd : decode cc pc = .ok (.if_icmp .ge off, 3)) (ht : (pc : Int) + off = (tgt : Int)) (h1 : y ≤ x → XI p l e R s m args below meth c D A nL cl sl Q tgt lv S w) (h2 : ¬ y ≤ x → XI p l e R s m args below meth c D A nL cl sl Q (pc + 3) lv S w) : XI p l e R s m args below meth c D A nL cl sl Q pc lv (.int y :: .int x :: S) w := by
  obtain ⟨hx, hb, -⟩ := C
  intro H locs ls hP hD hS hl
  exact lv_icmp_ge hx hb hd ht (fun q => h1 q H locs ls hP hD hS hl) (fun q => h2 q H locs ls hP hD hS hl)
theorem xi_icmplt (C : Ki p s m args meth c D kA A nL own cc nm) {x y : Int32} {off : Int} (tgt : Nat) (hd : decode cc pc = .ok (.if_icmp .lt off, 3)) (ht : (pc : Int) + off = (tgt : Int)) (h1 : x < y → XI p l e R s m args below meth c D A nL cl sl Q tgt lv S w) (h2 : ¬ x < y → XI p l e R s m args below meth c D A nL cl sl Q (pc + 3) lv S w) : XI p l e R s m args below meth c D A nL cl sl Q pc lv (.int y :: .int x :: S) w := by
  obtain ⟨hx, hb, -⟩ := C
  intro H locs ls hP hD hS hl
  exact lv_icmp_lt hx hb hd ht (fun q => h1 q H locs ls hP hD hS hl) (fun q => h2 q H locs ls hP hD hS hl)
theorem xi_icmpgt (C : Ki p s m args meth c D kA A nL own cc nm) {x y : Int32} {off : Int} (tgt : Nat) (hd : decode cc pc = .ok (.if_icmp .gt off, 3)) (ht : (pc : Int) + off = (tgt : Int)) (h1 : y < x → XI p l e R s m args below meth c D A nL cl sl Q tgt lv S w) (h2 : ¬ y < x → XI p l e R s m args below meth c D A nL cl sl Q (pc + 3) lv S w) : XI p l e R s m args below meth c D A nL cl sl Q pc lv (.int y :: .int x :: S) w := by
  obtain ⟨hx, hb, -⟩ := C
  intro H locs ls hP hD hS hl
  exact lv_icmp_gt hx hb hd ht (fun q => h1 q H locs ls hP hD hS hl) (fun q => h2 q H locs ls hP hD hS hl)
theorem xi_iinc (C : Ki p s m args meth c D kA A nL own cc nm) {n : Int} {x : Int32} (i j : Nat) (v : Int32) {lv2 : List (Nat × Value)} (hd : decode cc pc = .ok (.iinc i n, 3)) (hj : lv[j]? = some (i, .int x)) (hv : x + Int32.ofInt n = v) (hi : i < nL) (h2 : (i, Value.int v) :: lv.filter (fun q => !(q.1 == i) && !(q.1 + 1 == i && q.2.category == 2)) = lv2) (h : XI p l e R s m args below meth c D A nL cl sl Q (pc + 3) lv2 S w) : XI p l e R s m args below meth c D A nL cl sl Q pc lv S w := by
  obtain ⟨hx, hb, -⟩ := C
  intro H locs ls hP hD hS hl
  exact lv_iinc hx hb hd hl hj hv hi h2 (fun ls2 hl2 => h H locs ls2 hP hD hS hl2)
theorem xi_istore (C : Ki p s m args meth c D kA A nL own cc nm) {k : Fin 4} {x : Int32} (i : Nat) {lv2 : List (Nat × Value)} (hd : decode cc pc = .ok (.istore_n k, 1)) (hi : (k : Nat) = i) (hi2 : i < nL) (h2 : (i, Value.int x) :: lv.filter (fun q => !(q.1 == i) && !(q.1 + 1 == i && q.2.category == 2)) = lv2) (h : XI p l e R s m args below meth c D A nL cl sl Q (pc + 1) lv2 S w) : XI p l e R s m args below meth c D A nL cl sl Q pc lv (.int x :: S) w := by
  obtain ⟨hx, hb, -⟩ := C
  intro H locs ls hP hD hS hl
  exact lv_istore_n hx hb hd hi hl hi2 h2 (fun ls2 hl2 => h H locs ls2 hP hD hS hl2)
theorem xi_istore4 (C : Ki p s m args meth c D kA A nL own cc nm) {x : Int32} (i : Nat) {lv2 : List (Nat × Value)} (hd : decode cc pc = .ok (.istore i, 2)) (hi2 : i < nL) (h2 : (i, Value.int x) :: lv.filter (fun q => !(q.1 == i) && !(q.1 + 1 == i && q.2.category == 2)) = lv2) (h : XI p l e R s m args below meth c D A nL cl sl Q (pc + 2) lv2 S w) : XI p l e R s m args below meth c D A nL cl sl Q pc lv (.int x :: S) w := by
  obtain ⟨hx, hb, -⟩ := C
  intro H locs ls hP hD hS hl
  exact lv_istore hx hb hd hl hi2 h2 (fun ls2 hl2 => h H locs ls2 hP hD hS hl2)
theorem xi_astore (C : Ki p s m args meth c D kA A nL own cc nm) {k : Fin 4} {x : Nat} (i : Nat) {lv2 : List (Nat × Value)} (hd : decode cc pc = .ok (.astore_n k, 1)) (hi : (k : Nat) = i) (hi2 : i < nL) (h2 : (i, Value.ref x) :: lv.filter (fun q => !(q.1 == i) && !(q.1 + 1 == i && q.2.category == 2)) = lv2) (h : XI p l e R s m args below meth c D A nL cl sl Q (pc + 1) lv2 S w) : XI p l e R s m args below meth c D A nL cl sl Q pc lv (.ref x :: S) w := by
  obtain ⟨hx, hb, -⟩ := C
  intro H locs ls hP hD hS hl
  exact lv_astore_n hx hb hd hi hl hi2 h2 (fun ls2 hl2 => h H locs ls2 hP hD hS hl2)
theorem xi_objInit (C : Ki p s m args meth c D kA A nL own cc nm) {idx a : Nat} (hd : decode cc pc = .ok (.invokespecial idx, 3)) (hw1 : Cond.methodLink (ownN own) idx objectInit ∈ GI) (hfr : 1 ≤ R.frames) (hlo : 40 ≤ R.locals) (hcs : (S.map fun v => v.category).sum ≤ 8) (h : XI p l e R s m args below meth c D A nL cl sl Q (pc + 3) lv S w) : XI p l e R s m args below meth c D A nL cl sl Q pc lv (.ref a :: S) w := by
  obtain ⟨hx, hb, hml, hown, hts, -⟩ := C
  intro H locs ls hP hD hS hl
  have hm : 2 * (F0 m pc ls (.ref a :: S)).monitorRoom + (S.map fun v => v.category).sum ≤ 8 := lv_room hcs
  exact W.objInit hx hb hown (hts _ hw1) (hts _ gi0) (hts _ gi1) rfl (by rw [hml]; exact hl.1) rfl hd hfr (by omega) (h H locs ls hP hD hS hl)
theorem xi_put (C : Ki p s m args meth c D kA A nL own cc nm) {k ci f a : Nat} {fs : List Value} {v : Value} (q0 : Nat) (ty : FieldType) (hd : decode cc pc = .ok (.putfield k, 3)) (hf : look (FLt own) k = some (ci, f)) (hq : w[q0]? = some (a, .inr (ci, fs))) (hty : parseFieldDescriptor ((cTb ci).2.1 f).2.2.1 = some ty) (hfin : ((cTb ci).2.1 f).2.2.2 = false) (hn : narrow ty v = v) (hft : fits ty v = true) (hl9 : f < fs.length) (h : XI p l e R s m args below meth c D A nL cl sl Q (pc + 3) lv S (w.set q0 (a, .inr (ci, fs.set f v)))) : XI p l e R s m args below meth c D A nL cl sl Q pc lv (v :: .ref a :: S) w := by
  obtain ⟨hx, hb, hml, hown, hts, hE, -⟩ := C
  intro H locs ls hP hD hS hl
  obtain ⟨hc, hfl, hm, ho⟩ := fld_ok hf
  have hts2 : ∀ w ∈ GB, w.before args s = true := fun w hw => hts w (List.mem_append_right _ hw)
  exact va_put (C := (cTb ci).1) (T := (cTb ci).2.1) (N := (cTb ci).2.2) (ci := ci) (v := v) (ty := ty) hx hb hts2 (cl_lay hc) (fun k => (parseFieldDescriptor ((cTb ci).2.1 k).2.2.1).getD .int) (cl_ty ci hc) (cl_nm ci hc) hown hE.1 hP hD hS q0 hq (cl_get hc) f hfl (hts2 _ (in_fld ho hm)) (fun _ z => z) hfin hty hn hft hl9 hd (fun H1 locs1 hP1 hD1 hS1 => h H1 locs1 ls hP1 hD1 hS1 hl)
theorem xi_putF (C : Ki p s m args meth c D kA A nL own cc "<init>") {k ci f a : Nat} {fs : List Value} {v : Value} (q0 : Nat) (ty : FieldType) (hd : decode cc pc = .ok (.putfield k, 3)) (hf : look (FLt own) k = some (ci, f)) (hq : w[q0]? = some (a, .inr (ci, fs))) (hty : parseFieldDescriptor ((cTb ci).2.1 f).2.2.1 = some ty) (hfin : ((cTb ci).2.1 f).2.2.2 = true) (hdc : ((cTb ci).2.1 f).1 = ownN own) (hn : narrow ty v = v) (hft : fits ty v = true) (hl9 : f < fs.length) (h : XI p l e R s m args below meth c D A nL cl sl Q (pc + 3) lv S (w.set q0 (a, .inr (ci, fs.set f v)))) : XI p l e R s m args below meth c D A nL cl sl Q pc lv (v :: .ref a :: S) w := by
  obtain ⟨hx, hb, hml, hown, hts, hE, hA, hlk, hnm⟩ := C
  intro H locs ls hP hD hS hl
  obtain ⟨hc, hfl, hm, ho⟩ := fld_ok hf
  have hts2 : ∀ w ∈ GB, w.before args s = true := fun w hw => hts w (List.mem_append_right _ hw)
  exact va_putF (C := (cTb ci).1) (T := (cTb ci).2.1) (N := (cTb ci).2.2) (ci := ci) (v := v) (ty := ty) hx hb hts2 (cl_lay hc) (fun k => (parseFieldDescriptor ((cTb ci).2.1 k).2.2.1).getD .int) (cl_ty ci hc) (cl_nm ci hc) hown hE.1 hP hD hS q0 hq (cl_get hc) f hfl (hts2 _ (in_fld ho hm)) (fun _ z => z) hfin hnm hdc hty hn hft hl9 hd (fun H1 locs1 hP1 hD1 hS1 => h H1 locs1 ls hP1 hD1 hS1 hl)
theorem xi_get (C : Ki p s m args meth c D kA A nL own cc nm) {k ci f a : Nat} {fs : List Value} {v : Value} (q0 : Nat) (hd : decode cc pc = .ok (.getfield k, 3)) (hf : look (FLt own) k = some (ci, f)) (hq : w[q0]? = some (a, .inr (ci, fs))) (hv : fs[f]? = some v) (h : XI p l e R s m args below meth c D A nL cl sl Q (pc + 3) lv (v :: S) w) : XI p l e R s m args below meth c D A nL cl sl Q pc lv (.ref a :: S) w := by
  obtain ⟨hx, hb, hml, hown, hts, hE, -⟩ := C
  intro H locs ls hP hD hS hl
  obtain ⟨hc, hfl, hm, ho⟩ := fld_ok hf
  have hts2 : ∀ w ∈ GB, w.before args s = true := fun w hw => hts w (List.mem_append_right _ hw)
  exact va_get (C := (cTb ci).1) (T := (cTb ci).2.1) (N := (cTb ci).2.2) (ci := ci) hx hb hts2 (cl_lay hc) hown hE.1 hP q0 hq (cl_get hc) f hfl (hts2 _ (in_fld ho hm)) (fun _ z => z) hv hd (h H locs ls hP hD hS hl)
theorem xi_kid {cA cB : ClassId} {t : Nat} {ty : FieldType} (hE : EI D kA s) (ht : (kTys kA)[t]? = some (cB, ty)) (h : va_RA s cA ty) : cA = cB := by
  have h2 := (hE.1.2 t _ ht).2
  have go : ∀ {c : ClassId}, va_RA s c ty → s.vm.findClass ("[" ++ ty.toString) = some c := by
    intro c hc
    cases ty <;> first | exact hc | (obtain ⟨kA, comp, -, -, -, h4⟩ := hc; exact h4)
  exact Option.some.inj ((go h).symm.trans (go h2))
theorem xi_new (C : Ki p s m args meth c D kA A nL own cc nm) {idx ci : Nat} {C9 : String} {N9 : Nat} (hC9 : C9 = (cTb ci).1) (hN9 : N9 = (cTb ci).2.2) (hd : decode cc pc = .ok (.new idx, 3)) (hc : ci < 11) (hw1 : Cond.classLink (ownN own) idx C9 ∈ GI) (hw2 : Cond.instantiable C9 N9 ∈ GI) (hw3 : Cond.initialized C9 ∈ GI) (hcl : cl + 1 ≤ R.cells) (hsl : sl + N9 ≤ R.slots) (h : ∀ q, XI p l e R s m args below meth c D A nL (cl + 1) (sl + N9) Q (pc + 3) lv (.ref q :: S) (w ++ [(q, .inr (ci, dflV ci))])) : XI p l e R s m args below meth c D A nL cl sl Q pc lv S w := by
  subst hC9
  subst hN9
  obtain ⟨hx, hb, hml, hown, hts, hE, hA, -⟩ := C
  intro H locs ls hP hD hS hl
  have hts2 : ∀ w ∈ GB, w.before args s = true := fun w hw => hts w (List.mem_append_right _ hw)
  exact va_new (C := (cTb ci).1) (T := (cTb ci).2.1) (N := (cTb ci).2.2) (ci := ci) (fs := dflV ci) hx hb hts2 (cl_lay hc) (fun k => (parseFieldDescriptor ((cTb ci).2.1 k).2.2.1).getD .int) (cl_ty ci hc) hown (hts _ hw1) (hts _ hw2) (hts _ hw3) hE.1 hP hD hS hA (cl_get hc) (cl_dfl ci hc) hcl hsl hd (fun q H1 hP1 hD1 hS1 => h q H1 locs ls hP1 hD1 hS1 hl)
theorem xi_newI (C : Ki p s m args meth c D kA A nL own cc nm) {n : Int32} (N9 : Nat) (hd : decode cc pc = .ok (.newarray .int, 2)) (hn : ¬ n < 0) (hN : n.toNatClampNeg = N9) (hby : N9 * 4 ≤ 536870912) (hcl : cl + 1 ≤ R.cells) (hsl : sl + N9 ≤ R.slots) (h : ∀ q, XI p l e R s m args below meth c D A nL (cl + 1) (sl + N9) Q (pc + 2) lv (.ref q :: S) (w ++ [(q, .inl (kA 1, N9, .inl (fun _ => 0)))])) : XI p l e R s m args below meth c D A nL cl sl Q pc lv (.int n :: S) w := by
  obtain ⟨hx, hb, hml, hown, hts, hE, hA, -⟩ := C
  intro H locs ls hP hD hS hl
  refine va_newa (atype := .int) (ty := .int) (a0 := (N9, .inl (fun _ => 0))) hx hb (hts _ gi2) rfl hE.1 hP hD hS hA (fun cA => rfl) hn hN hby hcl hsl hd (fun q cA H1 hK1 hP1 hD1 hS1 => ?_)
  have e1 : cA = kA 1 := xi_kid (t := 0) hE rfl (hK1.2 5 (cA, .int) rfl).2
  rw [e1] at hP1 hD1
  exact h q H1 locs ls hP1 hD1 hS1 hl
theorem xi_newJ (C : Ki p s m args meth c D kA A nL own cc nm) {n : Int32} (N9 : Nat) (hd : decode cc pc = .ok (.newarray .long, 2)) (hn : ¬ n < 0) (hN : n.toNatClampNeg = N9) (hby : N9 * 8 ≤ 536870912) (hcl : cl + 1 ≤ R.cells) (hsl : sl + N9 ≤ R.slots) (h : ∀ q, XI p l e R s m args below meth c D A nL (cl + 1) (sl + N9) Q (pc + 2) lv (.ref q :: S) (w ++ [(q, .inl (kA 2, N9, .inr (.inl (fun _ => 0))))])) : XI p l e R s m args below meth c D A nL cl sl Q pc lv (.int n :: S) w := by
  obtain ⟨hx, hb, hml, hown, hts, hE, hA, -⟩ := C
  intro H locs ls hP hD hS hl
  refine va_newa (atype := .long) (ty := .long) (a0 := (N9, .inr (.inl (fun _ => 0)))) hx hb (hts _ gi3) rfl hE.1 hP hD hS hA (fun cA => rfl) hn hN hby hcl hsl hd (fun q cA H1 hK1 hP1 hD1 hS1 => ?_)
  have e1 : cA = kA 2 := xi_kid (t := 1) hE rfl (hK1.2 5 (cA, .long) rfl).2
  rw [e1] at hP1 hD1
  exact h q H1 locs ls hP1 hD1 hS1 hl
theorem xi_newZ (C : Ki p s m args meth c D kA A nL own cc nm) {n : Int32} (N9 : Nat) (hd : decode cc pc = .ok (.newarray .boolean, 2)) (hn : ¬ n < 0) (hN : n.toNatClampNeg = N9) (hby : N9 * 1 ≤ 536870912) (hcl : cl + 1 ≤ R.cells) (hsl : sl + N9 ≤ R.slots) (h : ∀ q, XI p l e R s m args below meth c D A nL (cl + 1) (sl + N9) Q (pc + 2) lv (.ref q :: S) (w ++ [(q, .inl (kA 3, N9, .inl (fun _ => 0)))])) : XI p l e R s m args below meth c D A nL cl sl Q pc lv (.int n :: S) w := by
  obtain ⟨hx, hb, hml, hown, hts, hE, hA, -⟩ := C
  intro H locs ls hP hD hS hl
  refine va_newa (atype := .boolean) (ty := .boolean) (a0 := (N9, .inl (fun _ => 0))) hx hb (hts _ gi4) rfl hE.1 hP hD hS hA (fun cA => rfl) hn hN hby hcl hsl hd (fun q cA H1 hK1 hP1 hD1 hS1 => ?_)
  have e1 : cA = kA 3 := xi_kid (t := 2) hE rfl (hK1.2 5 (cA, .boolean) rfl).2
  rw [e1] at hP1 hD1
  exact h q H1 locs ls hP1 hD1 hS1 hl
theorem xi_newQ (C : Ki p s m args meth c D kA A nL own cc nm) {n : Int32} {C9 : String} {idx : Nat} (t N9 : Nat) (hd : decode cc pc = .ok (.anewarray idx, 3)) (hw1 : Cond.classLink (ownN own) idx C9 ∈ GI) (hao : va_AO C9 s) (ht : (kTys kA)[t]? = some (kA (t + 1), .object C9)) (hn : ¬ n < 0) (hN : n.toNatClampNeg = N9) (hby : N9 * 4 ≤ 536870912) (hcl : cl + 1 ≤ R.cells) (hsl : sl + N9 ≤ R.slots) (h : ∀ q, XI p l e R s m args below meth c D A nL (cl + 1) (sl + N9) Q (pc + 3) lv (.ref q :: S) (w ++ [(q, .inl (kA (t + 1), N9, .inr (.inr (.inr (.inr (fun _ => none))))))])) : XI p l e R s m args below meth c D A nL cl sl Q pc lv (.int n :: S) w := by
  obtain ⟨hx, hb, hml, hown, hts, hE, hA, -⟩ := C
  intro H locs ls hP hD hS hl
  refine va_newq hx hb hown (hts _ hw1) hao hE.1 hP hD hS hA hn hN hby hcl hsl hd (fun q cA H1 hK1 hP1 hD1 hS1 => ?_)
  have e1 : cA = kA (t + 1) := xi_kid (t := t) hE ht (hK1.2 5 (cA, .object C9) rfl).2
  rw [e1] at hP1 hD1
  exact h q H1 locs ls hP1 hD1 hS1 hl
theorem xi_iast (C : Ki p s m args meth c D kA A nL own cc nm) {i x : Int32} {a n : Nat} {f : Nat → Int32} (q0 : Nat) (hd : decode cc pc = .ok (.iastore, 1)) (hq : w[q0]? = some (a, .inl (kA 1, n, .inl f))) (hin : vp_in i n) (h : XI p l e R s m args below meth c D A nL cl sl Q (pc + 1) lv S (w.set q0 (a, .inl (kA 1, n, .inl (upd f i.toNatClampNeg x))))) : XI p l e R s m args below meth c D A nL cl sl Q pc lv (.int x :: .int i :: .ref a :: S) w := by
  obtain ⟨hx, hb, hml, hown, hts, hE, -⟩ := C
  intro H locs ls hP hD hS hl
  exact va_iast hx hb hE.1 hP hD hS q0 0 hq rfl hin hd (fun H1 locs1 hP1 hD1 hS1 => h H1 locs1 ls hP1 hD1 hS1 hl)
theorem xi_iald (C : Ki p s m args meth c D kA A nL own cc nm) {i : Int32} {a n : Nat} {f : Nat → Int32} (q0 : Nat) (hd : decode cc pc = .ok (.iaload, 1)) (hq : w[q0]? = some (a, .inl (kA 1, n, .inl f))) (hin : vp_in i n) (h : XI p l e R s m args below meth c D A nL cl sl Q (pc + 1) lv (.int (f i.toNatClampNeg) :: S) w) : XI p l e R s m args below meth c D A nL cl sl Q pc lv (.int i :: .ref a :: S) w := by
  obtain ⟨hx, hb, hml, hown, hts, hE, -⟩ := C
  intro H locs ls hP hD hS hl
  exact va_iald hx hb hE.1 hP q0 0 hq rfl hin hd (h H locs ls hP hD hS hl)
theorem xi_last (C : Ki p s m args meth c D kA A nL own cc nm) {i : Int32} {x : Int64} {a n : Nat} {f : Nat → Int64} (q0 : Nat) (hd : decode cc pc = .ok (.lastore, 1)) (hq : w[q0]? = some (a, .inl (kA 2, n, .inr (.inl f)))) (hin : vp_in i n) (h : XI p l e R s m args below meth c D A nL cl sl Q (pc + 1) lv S (w.set q0 (a, .inl (kA 2, n, .inr (.inl (vp_updL f i.toNatClampNeg x)))))) : XI p l e R s m args below meth c D A nL cl sl Q pc lv (.long x :: .int i :: .ref a :: S) w := by
  obtain ⟨hx, hb, hml, hown, hts, hE, -⟩ := C
  intro H locs ls hP hD hS hl
  exact va_last hx hb hE.1 hP hD hS q0 1 hq rfl hin hd (fun H1 locs1 hP1 hD1 hS1 => h H1 locs1 ls hP1 hD1 hS1 hl)
theorem xi_alenJ (C : Ki p s m args meth c D kA A nL own cc nm) {a n : Nat} {f : Nat → Int64} {v : Int32} (q0 : Nat) (hd : decode cc pc = .ok (.arraylength, 1)) (hq : w[q0]? = some (a, .inl (kA 2, n, .inr (.inl f)))) (hv : Int32.ofNat n = v) (h : XI p l e R s m args below meth c D A nL cl sl Q (pc + 1) lv (.int v :: S) w) : XI p l e R s m args below meth c D A nL cl sl Q pc lv (.ref a :: S) w := by
  obtain ⟨hx, hb, hml, hown, hts, hE, -⟩ := C
  intro H locs ls hP hD hS hl
  exact va_alen hx hb hE.1 hP q0 1 hq rfl hv hd (h H locs ls hP hD hS hl)
theorem xi_astq (C : Ki p s m args meth c D kA A nL own cc nm) {i : Int32} {a n v ci : Nat} {vs : List Value} {f : Nat → Option Nat} (q0 qk t : Nat) (hd : decode cc pc = .ok (.aastore, 1)) (hq : w[q0]? = some (a, .inl (kA (t + 1), n, .inr (.inr (.inr (.inr f)))))) (hk : w[qk]? = some (v, .inr (ci, vs))) (hc : ci < 11) (ht : (kTys kA)[t]? = some (kA (t + 1), .object (cTb ci).1)) (hin : vp_in i n) (h : XI p l e R s m args below meth c D A nL cl sl Q (pc + 1) lv S (w.set q0 (a, .inl (kA (t + 1), n, .inr (.inr (.inr (.inr (va_up f i.toNatClampNeg (some v))))))))) : XI p l e R s m args below meth c D A nL cl sl Q pc lv (.ref v :: .int i :: .ref a :: S) w := by
  obtain ⟨hx, hb, hml, hown, hts, hE, -⟩ := C
  intro H locs ls hP hD hS hl
  exact va_astq (r := ((cTb ci).1, (cTb ci).2.1, (cTb ci).2.2)) hx hb hE.1 hP hD hS q0 t qk ci hq ht hk (cl_get hc) hin hd (fun H1 locs1 hP1 hD1 hS1 => h H1 locs1 ls hP1 hD1 hS1 hl)
/-- the end -/
def QI (below : List Frame) (D : va_G) (w0 : va_W) (Post : va_W → Prop) (args : Array Value) (s : State) (mc ms : Nat) : State → Prop := MQ below (QcI D w0 s.heap.size Post) args s mc ms (va_A w0 s.heap.size)
theorem xi_return {w0 : va_W} {Post : va_W → Prop} {mc ms : Nat} (C : Ki p s m args meth c D kA A nL own cc nm) (hA2 : A = va_A w0 s.heap.size) (hr : meth.sig.returnType = none) (hd : decode cc pc = .ok (.return_, 1)) (hc : cl ≤ mc) (hs : sl ≤ ms) (hp : Post w) : XI p l e R s m args below meth c D A nL cl sl (QI below D w0 Post args s mc ms) pc lv [] w := by
  obtain ⟨hx, hb, hml, hown, hts, hE, hA, hlk, -⟩ := C
  intro H locs ls hP hD hS hl
  refine W.widen hc hs ?_
  subst hA2
  exact W.vret hx hb hr (fun t ht hW => ⟨⟨w, hp, rfl, by rw [ht]; exact hP, hD⟩, hS.F ht⟩) hS.2.2 hd hlk
theorem xi_join {A0 : Nat → Prop} {wr wc w1 : va_W} {H H1 : Heap} (hP : va_P D vwCl (wr ++ wc) H) (hD : va_D A0 (wr ++ wc)) (hk : ∀ q : Nat, q < H.size → ¬ va_A wc H.size q → H1[q]? = H[q]?) (hF : ∀ q, va_A wc H.size q → A0 q) (hP1 : va_P D vwCl w1 H1) (hD1 : va_D (va_A wc H.size) w1) : va_P D vwCl (wr ++ w1) H1 ∧ va_D A0 (wr ++ w1) := by
  have hl : ∀ (k : Nat) (q : Nat × va_E), wr[k]? = some q → q.1 < H.size ∧ ¬ va_A wc H.size q.1 := by
    intro k q hq
    have hk9 : k < wr.length := (List.getElem?_eq_some_iff.mp hq).1
    have h2 : (wr ++ wc)[k]? = some q := by rw [List.getElem?_append_left hk9]; exact hq
    refine ⟨(hP k q h2).lt, ?_⟩
    rintro (⟨k2, e2, h3⟩ | h3)
    · have h4 : (wr ++ wc)[wr.length + k2]? = some (q.1, e2) := by rw [List.getElem?_append_right (by omega), Nat.add_sub_cancel_left]; exact h3
      have := hD.1 k (wr.length + k2) q (q.1, e2) h2 h4 rfl
      omega
    · have := (hP k q h2).lt
      omega
  have hPr : va_P D vwCl wr H1 := fun k q hq => by
    have hk9 : k < wr.length := (List.getElem?_eq_some_iff.mp hq).1
    have h2 : (wr ++ wc)[k]? = some q := by rw [List.getElem?_append_left hk9]; exact hq
    exact (hP k q h2).kept (hk q.1 (hl k q hq).1 (hl k q hq).2)
  refine ⟨hPr.app hP1, ?_, ?_⟩
  · intro i j x y hi hj exy
    by_cases h1 : i < wr.length
    · rw [List.getElem?_append_left h1] at hi
      by_cases h2 : j < wr.length
      · rw [List.getElem?_append_left h2] at hj
        exact hD.1 i j x y (by rw [List.getElem?_append_left h1]; exact hi) (by rw [List.getElem?_append_left h2]; exact hj) exy
      · rw [List.getElem?_append_right (by omega)] at hj
        exact absurd (hD1.2 _ y hj) (by rw [← exy]; exact (hl i x hi).2)
    · rw [List.getElem?_append_right (by omega)] at hi
      by_cases h2 : j < wr.length
      · rw [List.getElem?_append_left h2] at hj
        exact absurd (hD1.2 _ x hi) (by rw [exy]; exact (hl j y hj).2)
      · rw [List.getElem?_append_right (by omega)] at hj
        have := hD1.1 _ _ x y hi hj exy
        omega
  · intro k q hq
    by_cases h1 : k < wr.length
    · rw [List.getElem?_append_left h1] at hq
      exact hD.2 k q (by rw [List.getElem?_append_left h1]; exact hq)
    · rw [List.getElem?_append_right (by omega)] at hq
      exact hF _ (hD1.2 _ q hq)
theorem ei_blind {As : List Value} {w0 : va_W} {sz : Nat} : FrameBlind (va_Pc As (fun U => U.heap.size = sz ∧ va_P D vwCl w0 U.heap ∧ EI D kA U ∧ va_D (fun _ => True) w0)) := by
  intro a U g mk q
  obtain ⟨q0, q1, qP, qK, qD⟩ := q
  exact ⟨q0, q1, qP, qK.warm (s := U) (U := U.calling g mk a) (State.WarmedH.refl U), qD⟩
theorem xi_free {wr wc : va_W} {H : Heap} {locs : List Loc} (hA : ∀ q, s.heap.size ≤ q → A q) (hD : va_D A (wr ++ wc)) (hS : va_S A s.heap H locs) : ∀ q, va_A wc H.size q → A q := by
  rintro q (⟨k2, e2, h3⟩ | h3)
  · have h4 : (wr ++ wc)[wr.length + k2]? = some (q, e2) := by rw [List.getElem?_append_right (by omega), Nat.add_sub_cancel_left]; exact h3
    exact hD.2 _ _ h4
  · exact hA q (Nat.le_trans hS.1 h3)
theorem xi_part {wr wc : va_W} {H : Heap} (hP : va_P D vwCl (wr ++ wc) H) : va_P D vwCl wc H := fun k q hq => hP (wr.length + k) q (by rw [List.getElem?_append_right (by omega), Nat.add_sub_cancel_left]; exact hq)
theorem xi_partD {wr wc : va_W} (hD : va_D A (wr ++ wc)) : va_D (fun _ => True) wc := by
  refine ⟨fun i j x y hi hj exy => ?_, fun _ _ _ => trivial⟩
  have := hD.1 (wr.length + i) (wr.length + j) x y (by rw [List.getElem?_append_right (by omega), Nat.add_sub_cancel_left]; exact hi) (by rw [List.getElem?_append_right (by omega), Nat.add_sub_cancel_left]; exact hj) exy
  omega
theorem xi_after {wr wc : va_W} {Post : va_W → Prop} {mc ms : Nat} {st0 : List Value} {Aa : Array Value} {H : Heap} {locs : List Loc} {ls : Array Slot} (C : Ki p s m args meth c D kA A nL own cc nm) (hP : va_P D vwCl (wr ++ wc) H) (hD : va_D A (wr ++ wc)) (hS : va_S A s.heap H locs) (hl : lv_has ls nL lv)
    (run : va_Run p l e R s m args below meth c H locs cl sl mc ms (F0 m pc ls st0) S (QcI D wc H.size Post Aa) (va_A wc H.size)) (h : ∀ w1, Post w1 → XI p l e R s m args below meth c D A nL (cl + mc) (sl + ms) Q (pc + 3) lv S (wr ++ w1)) : W p l e R s m args below meth c H locs cl sl Q (F0 m pc ls st0) := by
  obtain ⟨hx, hb, hml, hown, hts, hE, hA, hlk, -⟩ := C
  intro T hT X
  obtain ⟨v, st₀, t, T', Lc, h0, X', hL2, e1, e2, ⟨⟨w1, hp1, ho, hP1, hD1⟩, hF⟩, st⟩ := run T hT X
  have hsub := xi_free (wr := wr) (wc := wc) hA hD hS
  obtain ⟨k1, k2, k3⟩ := vx_keep h0 e1 hS (fun q _ h => hsub q h) hsub hL2 hF
  rw [← e1] at hP1
  obtain ⟨j1, j2⟩ := xi_join hP hD (fun q h1 h2 => k2 q h1 h2) hsub hP1 hD1
  obtain ⟨t2, a1, b1⟩ := h w1 hp1 T'.heap (locs ++ Lc) ls j1 j2 k3 hl T' rfl X'
  refine ⟨t2, st t2 ?_, b1⟩
  cases ho
  exact a1
/-- a constructor called: its world is the last of ours -/
theorem xi_callI (C : Ki p s m args meth c D kA A nL own cc nm) {y : MethodName} {cy : ByteArray} {n idx k na : Nat} {b : Addr} {As : List Value} {wr wc : va_W} {Post : va_W → Prop} {mc ms : Nat} (hd : decode cc pc = .ok (.invokespecial idx, 3)) (hCt : CtI l D kA y cy n k (.ref b :: As) wc mc ms Post)
    (hin : y.name = "<init>") (hlink : Cond.methodLink (ownN own) idx y ∈ GI) (hinst : Cond.instanceMethod y ∈ GI) (hcode : Cond.code y cy n none ∈ GI) (hini : Cond.initialized y.cls ∈ GI) (hy : y.cls ≠ "java/lang/invoke/MethodHandle" ∧ y.cls ≠ "java/lang/invoke/VarHandle" ∧ (parseMethodDescriptor y.desc).map (fun d => d.parameters.length) = some na) (hna : As.length = na)
    (hfr : 4 + 3 * k ≤ R.frames) (hlo : 79 + n + 60 * k ≤ R.locals) (hcl : cl + mc ≤ R.cells) (hsl : sl + ms ≤ R.slots) (hcs : (S.map fun v => v.category).sum ≤ 8) (h : ∀ w1, Post w1 → XI p l e R s m args below meth c D A nL (cl + mc) (sl + ms) Q (pc + 3) lv S (wr ++ w1)) : XI p l e R s m args below meth c D A nL cl sl Q pc lv (As.reverse ++ .ref b :: S) (wr ++ wc) := by
  have C0 := C
  obtain ⟨hx, hb, hml, hown, hts, hE, hA, hlk, -⟩ := C
  intro H locs ls hP hD hS hl
  refine xi_after (Aa := (Value.ref b :: As).toArray) C0 hP hD hS hl ?_ h
  refine va_runI (own := ownN own) (index := idx) (y := y) (bytes := cy) (maxL := n) (ws := wI y cy n) (rm := rI k mc ms) (n := na) (Ts := GI) (nL := nL) (b := b) (As := As) ⟨hx, hb, hml, hown, hts⟩ (hCt H.size) ⟨⟨rfl, rfl, by show 3 + 3 * k + 1 ≤ R.frames; omega, by show 8 + (n + 11) + (60 + 60 * k) ≤ R.locals; omega, pay_in hts (fun w hw => gi_in w (by
      rcases List.mem_cons.mp hw with rfl | hw
      · exact hcode
      · exact hw)), List.mem_cons_self, hts _ hcode, hts _ hini, ⟨hy.1, hy.2.1⟩, fun sig hsig => by
      have h2 := hy.2.2
      rw [hsig] at h2
      exact (Option.some.inj h2).symm, hts _ hlink⟩, hin, hts _ hinst⟩ ⟨ei_blind, fun U hU hW => ⟨rfl, by rw [hU], by rw [hU]; exact xi_part hP, hE.warm hW, xi_partD hD⟩⟩ rfl hna hl.1 rfl (lv_room hcs) hd ⟨hcl, hsl⟩
/-- a private constructor of a nest mate -/
theorem xi_callN (C : Ki p s m args meth c D kA A nL own cc nm) {y : MethodName} {cy : ByteArray} {n idx k na : Nat} {b : Addr} {As : List Value} {wr wc : va_W} {Post : va_W → Prop} {mc ms : Nat} (hd : decode cc pc = .ok (.invokespecial idx, 3)) (hCt : CtI l D kA y cy n k (.ref b :: As) wc mc ms Post)
    (hin : y.name = "<init>") (hlink : Cond.methodLinkNest (ownN own) idx y RX10 ∈ NIW) (hinst : Cond.instanceMethod y ∈ GI) (hcode : Cond.code y cy n none ∈ GI) (hini : Cond.initialized y.cls ∈ GI) (hy : y.cls ≠ "java/lang/invoke/MethodHandle" ∧ y.cls ≠ "java/lang/invoke/VarHandle" ∧ (parseMethodDescriptor y.desc).map (fun d => d.parameters.length) = some na) (hna : As.length = na)
    (hfr : 4 + 3 * k ≤ R.frames) (hlo : 79 + n + 60 * k ≤ R.locals) (hcl : cl + mc ≤ R.cells) (hsl : sl + ms ≤ R.slots) (hcs : (S.map fun v => v.category).sum ≤ 8) (h : ∀ w1, Post w1 → XI p l e R s m args below meth c D A nL (cl + mc) (sl + ms) Q (pc + 3) lv S (wr ++ w1)) : XI p l e R s m args below meth c D A nL cl sl Q pc lv (As.reverse ++ .ref b :: S) (wr ++ wc) := by
  have C0 := C
  obtain ⟨hx, hb, hml, hown, hts, hE, hA, hlk, -⟩ := C
  intro H locs ls hP hD hS hl
  refine xi_after (Aa := (Value.ref b :: As).toArray) C0 hP hD hS hl ?_ h
  have hG : GoodIn GI (wI y cy n) := fun w hw => gi_in w (by
    rcases List.mem_cons.mp hw with rfl | hw
    · exact hcode
    · exact hw)
  refine va_runIN (own := ownN own) (host := RX10) (index := idx) (y := y) (bytes := cy) (maxL := n) (ws := wI y cy n) (rm := rI k mc ms) (n := na) (Ts := GI) (nL := nL) (b := b) (As := As) ⟨hx, hb, hml, hown, hts⟩ (hCt H.size) ⟨va_cnB na hts hG rfl rfl rfl (hE.2.2.2 _ hlink) (hts _ hini) hy ⟨by show 3 + 3 * k + 1 ≤ R.frames; omega, by show 8 + (n + 11) + (60 + 60 * k) ≤ R.locals; omega⟩, hin, hts _ hinst⟩ ⟨ei_blind, fun U hU hW => ⟨rfl, by rw [hU], by rw [hU]; exact xi_part hP, hE.warm hW, xi_partD hD⟩⟩ rfl hna hl.1 rfl (lv_room hcs) hd ⟨hcl, hsl⟩
/-- a static method without an answer -/
theorem xi_callS (C : Ki p s m args meth c D kA A nL own cc nm) {y : Nat} {idx k na : Nat} {As : List Value} {wr wc : va_W} {Post : va_W → Prop} {mc ms : Nat} (hd : decode cc pc = .ok (.invokestatic idx, 3)) (hk : look (CLt own) idx = some (y, true, na)) (hr : mR y = none) (hCt : CtI l D kA (mY y) (mC y) (mL y) k As wc mc ms Post) (hna : As.length = na)
    (hfr : 4 + 3 * k ≤ R.frames) (hlo : 91 + 60 * k ≤ R.locals) (hcl : cl + mc ≤ R.cells) (hsl : sl + ms ≤ R.slots) (hcs : (S.map fun v => v.category).sum ≤ 8) (h : ∀ w1, Post w1 → XI p l e R s m args below meth c D A nL (cl + mc) (sl + ms) Q (pc + 3) lv S (wr ++ w1)) : XI p l e R s m args below meth c D A nL cl sl Q pc lv (As.reverse ++ S) (wr ++ wc) := by
  have C0 := C
  obtain ⟨hx, hb, hml, hown, hts, hE, hA, hlk, -⟩ := C
  intro H locs ls hP hD hS hl
  refine xi_after (Aa := As.toArray) C0 hP hD hS hl ?_ h
  obtain ⟨hy, hnm, hpar, hm, ho⟩ := call_ok hk
  have hmy := ml_ok y hy
  have hts2 : ∀ w ∈ GB, w.before args s = true := fun w hw => hts w (List.mem_append_right _ hw)
  have hcode : Cond.code (mY y) (mC y) (mL y) none ∈ GB := by rw [← hr]; exact in_code hy
  refine va_runS (own := ownN own) (index := idx) (y := mY y) (bytes := mC y) (maxL := mL y) (ret := none) (ws := wI (mY y) (mC y) (mL y)) (rm := rI k mc ms) (n := na) (Ts := GI) (nL := nL) (As := As) ⟨hx, hb, hml, hown, hts⟩ (hCt H.size) ⟨⟨rfl, rfl, by show 3 + 3 * k + 1 ≤ R.frames; omega, by show 8 + (mL y + 11) + (60 + 60 * k) ≤ R.locals; omega, pay_in hts (fun w hw => gi_in w (by
      rcases List.mem_cons.mp hw with rfl | hw
      · exact List.mem_append_right _ hcode
      · exact hw)), List.mem_cons_self, hts2 _ hcode, hts2 _ (in_call ho hm (by simp [callW])), hnm, fun sig hsig => by
      rw [hsig] at hpar
      exact (Option.some.inj hpar).symm, hts2 _ (in_call ho hm (by simp [callW]))⟩, hts2 _ (in_call ho hm (by simp [callW]))⟩ ⟨ei_blind, fun U hU hW => ⟨rfl, by rw [hU], by rw [hU]; exact xi_part hP, hE.warm hW, xi_partD hD⟩⟩ rfl hna hl.1 rfl (lv_room hcs) hd ⟨hcl, hsl⟩
end XIS
/-- a contract out of a walk -/
theorem mk_I {l : Launch} {D : va_G} {kA : Nat → ClassId} {y : MethodName} {cc : ByteArray} {nL k own mc ms : Nat} {As : List Value} {w0 : va_W} {Post : va_W → Prop} (hy : plainName y.cls = true) (hown : y.cls = ownN own) (hlen : (lg_sl As).length ≤ nL)
    (h : ∀ (p : Program) (e : Env) (s : State) (m : MethodId) (args : Array Value) (below : List Frame) (meth : Method) (c : Code) (A : Nat → Prop), Ki p s m args meth c D kA A nL own cc y.name → A = va_A w0 s.heap.size → meth.sig.returnType = none → XI p l e (rI k mc ms) s m args below meth c D A nL 0 0 (QI below D w0 Post args s mc ms) 0 (lv_args 0 As) [] w0) : CtI l D kA y cc nL k As w0 mc ms Post := by
  intro sz
  refine Met.ofW (cc := cc) (maxL := nL) (ret := none) hy rfl ?_
  intro p e s m args below meth c s₁ B hml hv
  obtain ⟨rfl, hsz, hP, hE, hD0⟩ := hv
  subst hsz
  have hts0 := atoms_spec (ws := wI y cc nL) B.pre
  have hl := lv_entry As hlen
  rw [lg_entry_eq]
  have C : Ki p s m As.toArray meth c D kA (va_A w0 s.heap.size) nL own cc y.name :=
    ⟨B.exec, B.bytes, hml, by rw [← hown]; exact findClass_of_methodNamed B.named, fun w hw => hts0 w (List.mem_cons_of_mem _ hw), hE, fun q h => Or.inr h, B.notSynchronized, (name_of_methodNamed B.named B.method).1⟩
  exact h p e s m _ below meth c _ C rfl B.returns s.heap [] _ hP hD0.self va_S.rf hl
