def R_law : String := "PrimeCoinsLaw"
def lw_P (b : Addr) (xs : List Int32) (args : Array Value) (s : State) : Prop := args = #[.ref b] ∧ s.IntsAt b xs ∧ xs.length ≤ 3072 ∧ (Jvm.Cond.and given_1 narrow_1).before args s = true
def lw_Q (_ : Array Value) (s : State) (o : Outcome) (t : State) : Prop := o = .returned (some (.int 1)) ∧ Framed s o t [] 601024 7293033
def lw_Z (below : List Frame) (a : Array Value) (s : State) : State → Prop := fun t => ∃ o, t.status = .running ∧ Ended t below o ∧ lw_Q a s o t
/-- the law's own end, with 1 on the stack, nothing written that was there before, its room as the claim has it -/
theorem lw_ret {p : Program} {l : Launch} {e : Env} {s : State} {m : MethodId} {below : List Frame} {meth : Method} {c : Code} {b : Nat} (hx : p.tables.exec = Jvm.exec) (hb : c.code = code) (hr : meth.sig.returnType = ret) (hlocks : meth.locks = false) {pc : Nat} {H : Heap} {ls : Array Slot} (hdg : decode code pc = .ok (.ireturn, 1)) : W p l e room_1 s m #[Value.ref b] below meth c H [] 601024 7293033 (lw_Z below #[Value.ref b] s) (F0 m pc ls [.int 1]) := by
  intro T hT X
  obtain ⟨fs, hret, hrun, hended, hW, hframe⟩ := X.leave (v := some (.int 1)) (hlocks := hlocks) (fun h => by rw [hr] at h; cases h)
  have hmeth' : T.vm.method? m = some meth := X.method'
  refine ⟨T.setFrames fs, ?_, .returned (some (.int 1)), hrun, hended, rfl, ⟨_, rfl⟩, hW, hframe⟩
  jvm_step X.here [X.here.top, hx, hb, hdg, hmeth', hr, ret, narrow_b1]
  (try refine ⟨rfl, ?_⟩); (try refine ⟨rfl, ?_⟩)
  first | (intro acts; rw [hret _ acts rfl rfl rfl]) | rw [hret _ _ rfl rfl rfl]
  exact Steps.refl _
/-- what holds at the law's entry: the machine, the code, the tables' words (any of lw_tbl by 'hts w (by decide +kernel)'), the script of L ints xs at the cell b, what the Statement gives of the start (any of its parts by flat_of_before) -/
def lw_At (p : Program) (s : State) (m : MethodId) (meth : Method) (c : Code) (b L : Nat) (xs : Nat → Int32) : Prop :=
  p.tables.exec = Jvm.exec ∧ c.code = code ∧ meth.sig.returnType = ret ∧ c.maxLocals = 8 ∧ s.vm.findClass R_law = some m.cls ∧ (∀ w ∈ lw_tbl, w.before #[Value.ref b] s = true) ∧ va_X b L xs s s.heap ∧ b < s.heap.size ∧ meth.locks = false ∧ (Jvm.Cond.and given_1 narrow_1).before #[Value.ref b] s = true
def W23 (kA : Nat → ClassId) (x0 y0 o0 cq1 cq2 cq3 cq4 cq6 cq7 cq8 cq9 cq10 cq11 cq12 cq14 cq15 cq16 cq17 cq18 cq19 cq20 cq21 cq22 cq23 cq24 cq25 cq27 cq28 cq29 cq30 cq31 cq32 cq33 cq34 cq35 cq36 cq37 cq38 cq39 cq40 cq41 cq42 cq43 cq44 cq46 cq47 cq48 cq49 cq50 cq51 cq53 cq54 cq55 cq56 cq57 cq58 cq59 cq61 cq62 cq63 cq64 cq65 cq66 cq67 cq69 cq70 cq71 cq72 cq73 cq74 cq75 cq76 cq77 cq78 cq79 cq80 mq1 mq2 mq3 mq4 mq5 mq6 mq7 mq8 mq9 mq10 mq11 mq12 mq13 : Nat) (cf5 : Nat → Int64) (cf13 : Nat → Int64) (cf26 : Nat → Int64) (cf45 : Nat → Int32) (cf52 : Nat → Int64) (cf60 : Nat → Int64) (cf68 : Nat → Int64) (mf14 : Nat → Int32) (mf15 : Nat → Int32) : va_W := ((x0, .inr (9, [.ref cq1, .int (Int32.ofInt ((0 : Nat) : Int)), .int (Int32.ofInt ((0 : Nat) : Int)), .int (-1), .ref cq2, .ref cq10, .ref cq18, .ref cq19, .ref cq20, .ref cq21, .ref cq22, .ref cq36, .ref cq39, .ref cq46, .ref cq48])) :: (cq1, .inl (kA 1, 700, .inl (fun _ => 0))) :: (cq2, .inr (7, [.int (Int32.ofInt ((0 : Nat) : Int)), .int (Int32.ofInt ((0 : Nat) : Int)), .int (Int32.ofInt ((0 : Nat) : Int)), .int (Int32.ofInt ((0 : Nat) : Int)), .ref cq3, .ref cq6, .ref cq7, .ref cq8, .ref cq9])) :: (cq3, .inr (1, [.ref cq4])) :: (cq4, .inl (kA 2, 25, .inr (.inl cf5))) :: (cq6, .inl (kA 1, 8, .inl (fun _ => 0))) :: (cq7, .inl (kA 1, 40, .inl (fun _ => 0))) :: (cq8, .inl (kA 1, 96, .inl (fun _ => 0))) :: (cq9, .inl (kA 1, 8, .inl (fun _ => 0))) :: (cq10, .inr (7, [.int (Int32.ofInt ((0 : Nat) : Int)), .int (Int32.ofInt ((0 : Nat) : Int)), .int (Int32.ofInt ((0 : Nat) : Int)), .int (Int32.ofInt ((0 : Nat) : Int)), .ref cq11, .ref cq14, .ref cq15, .ref cq16, .ref cq17])) :: (cq11, .inr (1, [.ref cq12])) :: (cq12, .inl (kA 2, 25, .inr (.inl cf13))) :: (cq14, .inl (kA 1, 8, .inl (fun _ => 0))) :: (cq15, .inl (kA 1, 40, .inl (fun _ => 0))) :: (cq16, .inl (kA 1, 96, .inl (fun _ => 0))) :: (cq17, .inl (kA 1, 8, .inl (fun _ => 0))) :: (cq18, .inl (kA 4, 3, .inr (.inr (.inr (.inr (va_up (va_up (va_up (fun _ => none) (Int32.ofInt ((0 : Nat) : Int)).toNatClampNeg (some cq49)) (Int32.ofInt ((1 : Nat) : Int)).toNatClampNeg (some cq57)) (Int32.ofInt ((2 : Nat) : Int)).toNatClampNeg (some cq65))))))) :: (cq19, .inl (kA 3, 3, .inl (fun _ => 0))) :: (cq20, .inl (kA 5, 4, .inr (.inr (.inr (.inr (va_up (va_up (va_up (va_up (fun _ => none) (Int32.ofInt ((0 : Nat) : Int)).toNatClampNeg (some cq73)) (Int32.ofInt ((1 : Nat) : Int)).toNatClampNeg (some cq75)) (Int32.ofInt ((2 : Nat) : Int)).toNatClampNeg (some cq77)) (Int32.ofInt ((3 : Nat) : Int)).toNatClampNeg (some cq79))))))) :: (cq21, .inl (kA 1, 8, .inl (fun _ => 0))) :: (cq22, .inr (4, [.int (Int32.ofInt ((0 : Nat) : Int)), .int (-1), .ref cq23, .ref cq31, .int (Int32.ofInt ((0 : Nat) : Int))])) :: (cq23, .inr (7, [.int (Int32.ofInt ((0 : Nat) : Int)), .int (Int32.ofInt ((0 : Nat) : Int)), .int (Int32.ofInt ((0 : Nat) : Int)), .int (Int32.ofInt ((0 : Nat) : Int)), .ref cq24, .ref cq27, .ref cq28, .ref cq29, .ref cq30])) :: (cq24, .inr (1, [.ref cq25])) :: (cq25, .inl (kA 2, 25, .inr (.inl cf26))) :: (cq27, .inl (kA 1, 8, .inl (fun _ => 0))) :: (cq28, .inl (kA 1, 40, .inl (fun _ => 0))) :: (cq29, .inl (kA 1, 96, .inl (fun _ => 0))) :: (cq30, .inl (kA 1, 8, .inl (fun _ => 0))) :: (cq31, .inr (6, [.ref cq32, .ref cq33, .ref cq34, .ref cq35, .int (Int32.ofInt ((0 : Nat) : Int)), .int (Int32.ofInt ((0 : Nat) : Int)), .int (Int32.ofInt ((0 : Nat) : Int))])) :: (cq32, .inl (kA 1, 700, .inl (fun _ => 0))) :: (cq33, .inl (kA 1, 701, .inl (fun _ => 0))) :: (cq34, .inl (kA 1, 701, .inl (fun _ => 0))) :: (cq35, .inl (kA 1, 701, .inl (fun _ => 0))) :: (cq36, .inr (3, [.int (Int32.ofInt ((0 : Nat) : Int)), .ref cq37, .ref cq38])) :: (cq37, .inl (kA 2, 384, .inr (.inl (fun _ => 0)))) :: (cq38, .inl (kA 2, 384, .inr (.inl (fun _ => 0)))) :: (cq39, .inr (5, [.int (Int32.ofInt ((0 : Nat) : Int)), .int (Int32.ofInt ((0 : Nat) : Int)), .int (Int32.ofInt ((0 : Nat) : Int)), .ref cq40, .ref cq41, .ref cq42, .ref cq43, .ref cq44])) :: (cq40, .inl (kA 1, 24310, .inl (fun _ => 0))) :: (cq41, .inl (kA 2, 380, .inr (.inl (fun _ => 0)))) :: (cq42, .inl (kA 1, 6, .inl (fun _ => 0))) :: (cq43, .inl (kA 1, 6, .inl (fun _ => 0))) :: (cq44, .inl (kA 1, 90, .inl cf45)) :: (cq46, .inr (0, [.ref cq47])) :: (cq47, .inl (kA 1, 4, .inl (fun _ => 0))) :: (cq48, .inr (2, [.int (Int32.ofInt ((0 : Nat) : Int))])) :: (cq49, .inr (7, [.int (Int32.ofInt ((0 : Nat) : Int)), .int (Int32.ofInt ((0 : Nat) : Int)), .int (Int32.ofInt ((0 : Nat) : Int)), .int (Int32.ofInt ((0 : Nat) : Int)), .ref cq50, .ref cq53, .ref cq54, .ref cq55, .ref cq56])) :: (cq50, .inr (1, [.ref cq51])) :: (cq51, .inl (kA 2, 25, .inr (.inl cf52))) :: (cq53, .inl (kA 1, 8, .inl (fun _ => 0))) :: (cq54, .inl (kA 1, 40, .inl (fun _ => 0))) :: (cq55, .inl (kA 1, 96, .inl (fun _ => 0))) :: (cq56, .inl (kA 1, 8, .inl (fun _ => 0))) :: (cq57, .inr (7, [.int (Int32.ofInt ((0 : Nat) : Int)), .int (Int32.ofInt ((0 : Nat) : Int)), .int (Int32.ofInt ((0 : Nat) : Int)), .int (Int32.ofInt ((0 : Nat) : Int)), .ref cq58, .ref cq61, .ref cq62, .ref cq63, .ref cq64])) :: (cq58, .inr (1, [.ref cq59])) :: (cq59, .inl (kA 2, 25, .inr (.inl cf60))) :: (cq61, .inl (kA 1, 8, .inl (fun _ => 0))) :: (cq62, .inl (kA 1, 40, .inl (fun _ => 0))) :: (cq63, .inl (kA 1, 96, .inl (fun _ => 0))) :: (cq64, .inl (kA 1, 8, .inl (fun _ => 0))) :: (cq65, .inr (7, [.int (Int32.ofInt ((0 : Nat) : Int)), .int (Int32.ofInt ((0 : Nat) : Int)), .int (Int32.ofInt ((0 : Nat) : Int)), .int (Int32.ofInt ((0 : Nat) : Int)), .ref cq66, .ref cq69, .ref cq70, .ref cq71, .ref cq72])) :: (cq66, .inr (1, [.ref cq67])) :: (cq67, .inl (kA 2, 25, .inr (.inl cf68))) :: (cq69, .inl (kA 1, 8, .inl (fun _ => 0))) :: (cq70, .inl (kA 1, 40, .inl (fun _ => 0))) :: (cq71, .inl (kA 1, 96, .inl (fun _ => 0))) :: (cq72, .inl (kA 1, 8, .inl (fun _ => 0))) :: (cq73, .inr (8, [.int (-1), .int (Int32.ofInt ((0 : Nat) : Int)), .ref cq74])) :: (cq74, .inl (kA 2, 30, .inr (.inl (fun _ => 0)))) :: (cq75, .inr (8, [.int (-1), .int (Int32.ofInt ((0 : Nat) : Int)), .ref cq76])) :: (cq76, .inl (kA 2, 30, .inr (.inl (fun _ => 0)))) :: (cq77, .inr (8, [.int (-1), .int (Int32.ofInt ((0 : Nat) : Int)), .ref cq78])) :: (cq78, .inl (kA 2, 30, .inr (.inl (fun _ => 0)))) :: (cq79, .inr (8, [.int (-1), .int (Int32.ofInt ((0 : Nat) : Int)), .ref cq80])) :: (cq80, .inl (kA 2, 30, .inr (.inl (fun _ => 0)))) :: (y0, .inr (10, [.ref mq1, .ref mq2, .ref mq3, .ref mq4, .ref mq5, .int 0, .ref mq6, .int 0, .int 0, .int 0, .int 0, .int 0, .int 0, .int 0, .int 0, .int 0, .int (-1), .ref mq7, .int 0, .ref mq8, .int 0, .ref mq9, .ref mq10, .int 0, .int 0, .long 0, .ref mq11, .ref mq12, .ref mq13])) :: (mq3, .inl (kA 1, 181, .inl (fun _ => 0))) :: (mq4, .inl (kA 1, 543, .inl (fun _ => 0))) :: (mq5, .inl (kA 3, 3, .inl (fun _ => 0))) :: (mq6, .inl (kA 1, 700, .inl (fun _ => 0))) :: (mq7, .inl (kA 1, 8, .inl (fun _ => 0))) :: (mq8, .inl (kA 2, 512, .inr (.inl (fun _ => 0)))) :: (mq9, .inl (kA 1, 24000, .inl (fun _ => 0))) :: (mq10, .inl (kA 1, 32768, .inl (fun _ => 0))) :: (mq11, .inl (kA 1, 4, .inl (upd (upd (upd (upd (fun _ => 0) (Int32.ofInt ((0 : Nat) : Int)).toNatClampNeg (-1)) (Int32.ofInt ((1 : Nat) : Int)).toNatClampNeg (-1)) (Int32.ofInt ((2 : Nat) : Int)).toNatClampNeg (-1)) (Int32.ofInt ((3 : Nat) : Int)).toNatClampNeg (-1)))) :: (mq12, .inl (kA 1, 4, .inl (fun _ => 0))) :: (mq13, .inl (kA 2, 120, .inr (.inl (fun _ => 0)))) :: (mq2, .inl (kA 1, 181, .inl mf14)) :: (mq1, .inl (kA 1, 181, .inl mf15)) :: (o0, .inl (kA 2, 1, .inr (.inl (fun _ => 0)))) :: [])
theorem adK_lt {AL : List Nat} {b : Nat} {ad : Nat → Nat} {i : Nat} (h : i < 89) : adK AL b ad i = AL.getD i 0 := if_pos h
theorem adK_mid {AL : List Nat} {b : Nat} {ad : Nat → Nat} {i : Nat} (h : 1000 ≤ i) (h2 : i ≤ 3000) : adK AL b ad i = ad i := by
  unfold adK
  rw [if_neg (by omega), if_neg (by omega), if_neg (by omega)]
set_option maxRecDepth 100000 in
theorem ps_at {kA : Nat → ClassId} {x0 y0 o0 cq1 cq2 cq3 cq4 cq6 cq7 cq8 cq9 cq10 cq11 cq12 cq14 cq15 cq16 cq17 cq18 cq19 cq20 cq21 cq22 cq23 cq24 cq25 cq27 cq28 cq29 cq30 cq31 cq32 cq33 cq34 cq35 cq36 cq37 cq38 cq39 cq40 cq41 cq42 cq43 cq44 cq46 cq47 cq48 cq49 cq50 cq51 cq53 cq54 cq55 cq56 cq57 cq58 cq59 cq61 cq62 cq63 cq64 cq65 cq66 cq67 cq69 cq70 cq71 cq72 cq73 cq74 cq75 cq76 cq77 cq78 cq79 cq80 mq1 mq2 mq3 mq4 mq5 mq6 mq7 mq8 mq9 mq10 mq11 mq12 mq13 : Nat} {cf5 : Nat → Int64} {cf13 : Nat → Int64} {cf26 : Nat → Int64} {cf45 : Nat → Int32} {cf52 : Nat → Int64} {cf60 : Nat → Int64} {cf68 : Nat → Int64} {mf14 : Nat → Int32} {mf15 : Nat → Int32} : ∀ k, k < 89 → ∃ en, (W23 kA x0 y0 o0 cq1 cq2 cq3 cq4 cq6 cq7 cq8 cq9 cq10 cq11 cq12 cq14 cq15 cq16 cq17 cq18 cq19 cq20 cq21 cq22 cq23 cq24 cq25 cq27 cq28 cq29 cq30 cq31 cq32 cq33 cq34 cq35 cq36 cq37 cq38 cq39 cq40 cq41 cq42 cq43 cq44 cq46 cq47 cq48 cq49 cq50 cq51 cq53 cq54 cq55 cq56 cq57 cq58 cq59 cq61 cq62 cq63 cq64 cq65 cq66 cq67 cq69 cq70 cq71 cq72 cq73 cq74 cq75 cq76 cq77 cq78 cq79 cq80 mq1 mq2 mq3 mq4 mq5 mq6 mq7 mq8 mq9 mq10 mq11 mq12 mq13 cf5 cf13 cf26 cf45 cf52 cf60 cf68 mf14 mf15)[psL.getD k 0]? = some ([x0, cq22, cq31, cq33, cq34, cq35, cq1, cq2, cq3, cq4, cq6, cq7, cq8, cq9, cq23, cq24, cq25, cq27, cq28, cq29, cq30, cq18, cq49, cq50, cq51, cq53, cq54, cq55, cq56, cq57, cq58, cq59, cq61, cq62, cq63, cq64, cq65, cq66, cq67, cq69, cq70, cq71, cq72, cq19, cq20, cq73, cq74, cq75, cq76, cq77, cq78, cq79, cq80, cq21, cq36, cq37, cq38, cq39, cq40, cq41, cq42, cq43, cq44, cq46, cq47, cq48, y0, mq1, mq2, mq3, mq4, mq5, mq6, mq7, mq8, mq9, mq10, mq11, mq12, mq13, cq10, cq11, cq12, cq14, cq15, cq16, cq17, cq32, o0].getD k 0, en)
  | 0, _ => ⟨_, rfl⟩
  | 1, _ => ⟨_, rfl⟩
  | 2, _ => ⟨_, rfl⟩
  | 3, _ => ⟨_, rfl⟩
  | 4, _ => ⟨_, rfl⟩
  | 5, _ => ⟨_, rfl⟩
  | 6, _ => ⟨_, rfl⟩
  | 7, _ => ⟨_, rfl⟩
  | 8, _ => ⟨_, rfl⟩
  | 9, _ => ⟨_, rfl⟩
  | 10, _ => ⟨_, rfl⟩
  | 11, _ => ⟨_, rfl⟩
  | 12, _ => ⟨_, rfl⟩
  | 13, _ => ⟨_, rfl⟩
  | 14, _ => ⟨_, rfl⟩
  | 15, _ => ⟨_, rfl⟩
  | 16, _ => ⟨_, rfl⟩
  | 17, _ => ⟨_, rfl⟩
  | 18, _ => ⟨_, rfl⟩
  | 19, _ => ⟨_, rfl⟩
  | 20, _ => ⟨_, rfl⟩
  | 21, _ => ⟨_, rfl⟩
  | 22, _ => ⟨_, rfl⟩
  | 23, _ => ⟨_, rfl⟩
  | 24, _ => ⟨_, rfl⟩
  | 25, _ => ⟨_, rfl⟩
  | 26, _ => ⟨_, rfl⟩
  | 27, _ => ⟨_, rfl⟩
  | 28, _ => ⟨_, rfl⟩
  | 29, _ => ⟨_, rfl⟩
  | 30, _ => ⟨_, rfl⟩
  | 31, _ => ⟨_, rfl⟩
  | 32, _ => ⟨_, rfl⟩
  | 33, _ => ⟨_, rfl⟩
  | 34, _ => ⟨_, rfl⟩
  | 35, _ => ⟨_, rfl⟩
  | 36, _ => ⟨_, rfl⟩
  | 37, _ => ⟨_, rfl⟩
  | 38, _ => ⟨_, rfl⟩
  | 39, _ => ⟨_, rfl⟩
  | 40, _ => ⟨_, rfl⟩
  | 41, _ => ⟨_, rfl⟩
  | 42, _ => ⟨_, rfl⟩
  | 43, _ => ⟨_, rfl⟩
  | 44, _ => ⟨_, rfl⟩
  | 45, _ => ⟨_, rfl⟩
  | 46, _ => ⟨_, rfl⟩
  | 47, _ => ⟨_, rfl⟩
  | 48, _ => ⟨_, rfl⟩
  | 49, _ => ⟨_, rfl⟩
  | 50, _ => ⟨_, rfl⟩
  | 51, _ => ⟨_, rfl⟩
  | 52, _ => ⟨_, rfl⟩
  | 53, _ => ⟨_, rfl⟩
  | 54, _ => ⟨_, rfl⟩
  | 55, _ => ⟨_, rfl⟩
  | 56, _ => ⟨_, rfl⟩
  | 57, _ => ⟨_, rfl⟩
  | 58, _ => ⟨_, rfl⟩
  | 59, _ => ⟨_, rfl⟩
  | 60, _ => ⟨_, rfl⟩
  | 61, _ => ⟨_, rfl⟩
  | 62, _ => ⟨_, rfl⟩
  | 63, _ => ⟨_, rfl⟩
  | 64, _ => ⟨_, rfl⟩
  | 65, _ => ⟨_, rfl⟩
  | 66, _ => ⟨_, rfl⟩
  | 67, _ => ⟨_, rfl⟩
  | 68, _ => ⟨_, rfl⟩
  | 69, _ => ⟨_, rfl⟩
  | 70, _ => ⟨_, rfl⟩
  | 71, _ => ⟨_, rfl⟩
  | 72, _ => ⟨_, rfl⟩
  | 73, _ => ⟨_, rfl⟩
  | 74, _ => ⟨_, rfl⟩
  | 75, _ => ⟨_, rfl⟩
  | 76, _ => ⟨_, rfl⟩
  | 77, _ => ⟨_, rfl⟩
  | 78, _ => ⟨_, rfl⟩
  | 79, _ => ⟨_, rfl⟩
  | 80, _ => ⟨_, rfl⟩
  | 81, _ => ⟨_, rfl⟩
  | 82, _ => ⟨_, rfl⟩
  | 83, _ => ⟨_, rfl⟩
  | 84, _ => ⟨_, rfl⟩
  | 85, _ => ⟨_, rfl⟩
  | 86, _ => ⟨_, rfl⟩
  | 87, _ => ⟨_, rfl⟩
  | 88, _ => ⟨_, rfl⟩
  | k + 89, h => absurd h (by omega)
set_option maxRecDepth 100000 in
set_option maxHeartbeats 4000000 in
theorem ws_at {D : va_G} {kA : Nat → ClassId} {b : Nat} {ad : Nat → Nat} {fv : Value} {H : Heap} {x0 y0 o0 cq1 cq2 cq3 cq4 cq6 cq7 cq8 cq9 cq10 cq11 cq12 cq14 cq15 cq16 cq17 cq18 cq19 cq20 cq21 cq22 cq23 cq24 cq25 cq27 cq28 cq29 cq30 cq31 cq32 cq33 cq34 cq35 cq36 cq37 cq38 cq39 cq40 cq41 cq42 cq43 cq44 cq46 cq47 cq48 cq49 cq50 cq51 cq53 cq54 cq55 cq56 cq57 cq58 cq59 cq61 cq62 cq63 cq64 cq65 cq66 cq67 cq69 cq70 cq71 cq72 cq73 cq74 cq75 cq76 cq77 cq78 cq79 cq80 mq1 mq2 mq3 mq4 mq5 mq6 mq7 mq8 mq9 mq10 mq11 mq12 mq13 : Nat} {cf5 : Nat → Int64} {cf13 : Nat → Int64} {cf26 : Nat → Int64} {cf45 : Nat → Int32} {cf52 : Nat → Int64} {cf60 : Nat → Int64} {cf68 : Nat → Int64} {mf14 : Nat → Int32} {mf15 : Nat → Int32} (hP : va_P D vwCl (W23 kA x0 y0 o0 cq1 cq2 cq3 cq4 cq6 cq7 cq8 cq9 cq10 cq11 cq12 cq14 cq15 cq16 cq17 cq18 cq19 cq20 cq21 cq22 cq23 cq24 cq25 cq27 cq28 cq29 cq30 cq31 cq32 cq33 cq34 cq35 cq36 cq37 cq38 cq39 cq40 cq41 cq42 cq43 cq44 cq46 cq47 cq48 cq49 cq50 cq51 cq53 cq54 cq55 cq56 cq57 cq58 cq59 cq61 cq62 cq63 cq64 cq65 cq66 cq67 cq69 cq70 cq71 cq72 cq73 cq74 cq75 cq76 cq77 cq78 cq79 cq80 mq1 mq2 mq3 mq4 mq5 mq6 mq7 mq8 mq9 mq10 mq11 mq12 mq13 cf5 cf13 cf26 cf45 cf52 cf60 cf68 mf14 mf15) H) : ∀ k, k < 89 → va_at D vwCl (adK [x0, cq22, cq31, cq33, cq34, cq35, cq1, cq2, cq3, cq4, cq6, cq7, cq8, cq9, cq23, cq24, cq25, cq27, cq28, cq29, cq30, cq18, cq49, cq50, cq51, cq53, cq54, cq55, cq56, cq57, cq58, cq59, cq61, cq62, cq63, cq64, cq65, cq66, cq67, cq69, cq70, cq71, cq72, cq19, cq20, cq73, cq74, cq75, cq76, cq77, cq78, cq79, cq80, cq21, cq36, cq37, cq38, cq39, cq40, cq41, cq42, cq43, cq44, cq46, cq47, cq48, y0, mq1, mq2, mq3, mq4, mq5, mq6, mq7, mq8, mq9, mq10, mq11, mq12, mq13, cq10, cq11, cq12, cq14, cq15, cq16, cq17, cq32, o0] b ad k, cellE (D, kA, adK [x0, cq22, cq31, cq33, cq34, cq35, cq1, cq2, cq3, cq4, cq6, cq7, cq8, cq9, cq23, cq24, cq25, cq27, cq28, cq29, cq30, cq18, cq49, cq50, cq51, cq53, cq54, cq55, cq56, cq57, cq58, cq59, cq61, cq62, cq63, cq64, cq65, cq66, cq67, cq69, cq70, cq71, cq72, cq19, cq20, cq73, cq74, cq75, cq76, cq77, cq78, cq79, cq80, cq21, cq36, cq37, cq38, cq39, cq40, cq41, cq42, cq43, cq44, cq46, cq47, cq48, y0, mq1, mq2, mq3, mq4, mq5, mq6, mq7, mq8, mq9, mq10, mq11, mq12, mq13, cq10, cq11, cq12, cq14, cq15, cq16, cq17, cq32, o0] b ad, fv) (sg0 cf5 cf26 cf52 cf60 cf68 cf45 mf15 mf14 cf13) k) H
    | 0, _ => by
      rw [cell_obj _ _ (show TY 0 = 10 + 9 from rfl) (by decide)]
      exact hP 0 (x0, .inr (9, [.ref cq1, .int (Int32.ofInt ((0 : Nat) : Int)), .int (Int32.ofInt ((0 : Nat) : Int)), .int (-1), .ref cq2, .ref cq10, .ref cq18, .ref cq19, .ref cq20, .ref cq21, .ref cq22, .ref cq36, .ref cq39, .ref cq46, .ref cq48])) rfl
    | 1, _ => by
      rw [cell_obj _ _ (show TY 1 = 10 + 4 from rfl) (by decide)]
      exact hP 20 (cq22, .inr (4, [.int (Int32.ofInt ((0 : Nat) : Int)), .int (-1), .ref cq23, .ref cq31, .int (Int32.ofInt ((0 : Nat) : Int))])) rfl
    | 2, _ => by
      rw [cell_obj _ _ (show TY 2 = 10 + 6 from rfl) (by decide)]
      exact hP 28 (cq31, .inr (6, [.ref cq32, .ref cq33, .ref cq34, .ref cq35, .int (Int32.ofInt ((0 : Nat) : Int)), .int (Int32.ofInt ((0 : Nat) : Int)), .int (Int32.ofInt ((0 : Nat) : Int))])) rfl
    | 3, _ => by
      rw [cell_int _ _ (show TY 3 / 1000000 = 1 from rfl)]
      exact va_atI (hP 30 _ rfl) (fun j _ => rfl)
    | 4, _ => by
      rw [cell_int _ _ (show TY 4 / 1000000 = 1 from rfl)]
      exact va_atI (hP 31 _ rfl) (fun j _ => rfl)
    | 5, _ => by
      rw [cell_int _ _ (show TY 5 / 1000000 = 1 from rfl)]
      exact va_atI (hP 32 _ rfl) (fun j _ => rfl)
    | 6, _ => by
      rw [cell_int _ _ (show TY 6 / 1000000 = 1 from rfl)]
      exact va_atI (hP 1 _ rfl) (fun j _ => rfl)
    | 7, _ => by
      rw [cell_obj _ _ (show TY 7 = 10 + 7 from rfl) (by decide)]
      exact hP 2 (cq2, .inr (7, [.int (Int32.ofInt ((0 : Nat) : Int)), .int (Int32.ofInt ((0 : Nat) : Int)), .int (Int32.ofInt ((0 : Nat) : Int)), .int (Int32.ofInt ((0 : Nat) : Int)), .ref cq3, .ref cq6, .ref cq7, .ref cq8, .ref cq9])) rfl
    | 8, _ => by
      rw [cell_obj _ _ (show TY 8 = 10 + 1 from rfl) (by decide)]
      exact hP 3 (cq3, .inr (1, [.ref cq4])) rfl
    | 9, _ => by
      rw [cell_long _ _ (show TY 9 / 1000000 = 2 from rfl)]
      exact va_atJ (hP 4 _ rfl) (fun j _ => (Int64.ofInt_toInt _).symm)
    | 10, _ => by
      rw [cell_int _ _ (show TY 10 / 1000000 = 1 from rfl)]
      exact va_atI (hP 5 _ rfl) (fun j _ => rfl)
    | 11, _ => by
      rw [cell_int _ _ (show TY 11 / 1000000 = 1 from rfl)]
      exact va_atI (hP 6 _ rfl) (fun j _ => rfl)
    | 12, _ => by
      rw [cell_int _ _ (show TY 12 / 1000000 = 1 from rfl)]
      exact va_atI (hP 7 _ rfl) (fun j _ => rfl)
    | 13, _ => by
      rw [cell_int _ _ (show TY 13 / 1000000 = 1 from rfl)]
      exact va_atI (hP 8 _ rfl) (fun j _ => rfl)
    | 14, _ => by
      rw [cell_obj _ _ (show TY 14 = 10 + 7 from rfl) (by decide)]
      exact hP 21 (cq23, .inr (7, [.int (Int32.ofInt ((0 : Nat) : Int)), .int (Int32.ofInt ((0 : Nat) : Int)), .int (Int32.ofInt ((0 : Nat) : Int)), .int (Int32.ofInt ((0 : Nat) : Int)), .ref cq24, .ref cq27, .ref cq28, .ref cq29, .ref cq30])) rfl
    | 15, _ => by
      rw [cell_obj _ _ (show TY 15 = 10 + 1 from rfl) (by decide)]
      exact hP 22 (cq24, .inr (1, [.ref cq25])) rfl
    | 16, _ => by
      rw [cell_long _ _ (show TY 16 / 1000000 = 2 from rfl)]
      exact va_atJ (hP 23 _ rfl) (fun j _ => (Int64.ofInt_toInt _).symm)
    | 17, _ => by
      rw [cell_int _ _ (show TY 17 / 1000000 = 1 from rfl)]
      exact va_atI (hP 24 _ rfl) (fun j _ => rfl)
    | 18, _ => by
      rw [cell_int _ _ (show TY 18 / 1000000 = 1 from rfl)]
      exact va_atI (hP 25 _ rfl) (fun j _ => rfl)
    | 19, _ => by
      rw [cell_int _ _ (show TY 19 / 1000000 = 1 from rfl)]
      exact va_atI (hP 26 _ rfl) (fun j _ => rfl)
    | 20, _ => by
      rw [cell_int _ _ (show TY 20 / 1000000 = 1 from rfl)]
      exact va_atI (hP 27 _ rfl) (fun j _ => rfl)
    | 21, _ => by
      rw [cell_refs _ _ (show TY 21 / 1000000 = 4 from rfl) (by decide)]
      exact va_atQ (hP 16 _ rfl) (fun j hj => match j, hj with
        | 0, _ => rfl
        | 1, _ => rfl
        | 2, _ => rfl
        | j + 3, hj => absurd hj (by show ¬ (j + 3 < 3); omega))
    | 22, _ => by
      rw [cell_obj _ _ (show TY 22 = 10 + 7 from rfl) (by decide)]
      exact hP 45 (cq49, .inr (7, [.int (Int32.ofInt ((0 : Nat) : Int)), .int (Int32.ofInt ((0 : Nat) : Int)), .int (Int32.ofInt ((0 : Nat) : Int)), .int (Int32.ofInt ((0 : Nat) : Int)), .ref cq50, .ref cq53, .ref cq54, .ref cq55, .ref cq56])) rfl
    | 23, _ => by
      rw [cell_obj _ _ (show TY 23 = 10 + 1 from rfl) (by decide)]
      exact hP 46 (cq50, .inr (1, [.ref cq51])) rfl
    | 24, _ => by
      rw [cell_long _ _ (show TY 24 / 1000000 = 2 from rfl)]
      exact va_atJ (hP 47 _ rfl) (fun j _ => (Int64.ofInt_toInt _).symm)
    | 25, _ => by
      rw [cell_int _ _ (show TY 25 / 1000000 = 1 from rfl)]
      exact va_atI (hP 48 _ rfl) (fun j _ => rfl)
    | 26, _ => by
      rw [cell_int _ _ (show TY 26 / 1000000 = 1 from rfl)]
      exact va_atI (hP 49 _ rfl) (fun j _ => rfl)
    | 27, _ => by
      rw [cell_int _ _ (show TY 27 / 1000000 = 1 from rfl)]
      exact va_atI (hP 50 _ rfl) (fun j _ => rfl)
    | 28, _ => by
      rw [cell_int _ _ (show TY 28 / 1000000 = 1 from rfl)]
      exact va_atI (hP 51 _ rfl) (fun j _ => rfl)
    | 29, _ => by
      rw [cell_obj _ _ (show TY 29 = 10 + 7 from rfl) (by decide)]
      exact hP 52 (cq57, .inr (7, [.int (Int32.ofInt ((0 : Nat) : Int)), .int (Int32.ofInt ((0 : Nat) : Int)), .int (Int32.ofInt ((0 : Nat) : Int)), .int (Int32.ofInt ((0 : Nat) : Int)), .ref cq58, .ref cq61, .ref cq62, .ref cq63, .ref cq64])) rfl
    | 30, _ => by
      rw [cell_obj _ _ (show TY 30 = 10 + 1 from rfl) (by decide)]
      exact hP 53 (cq58, .inr (1, [.ref cq59])) rfl
    | 31, _ => by
      rw [cell_long _ _ (show TY 31 / 1000000 = 2 from rfl)]
      exact va_atJ (hP 54 _ rfl) (fun j _ => (Int64.ofInt_toInt _).symm)
    | 32, _ => by
      rw [cell_int _ _ (show TY 32 / 1000000 = 1 from rfl)]
      exact va_atI (hP 55 _ rfl) (fun j _ => rfl)
    | 33, _ => by
      rw [cell_int _ _ (show TY 33 / 1000000 = 1 from rfl)]
      exact va_atI (hP 56 _ rfl) (fun j _ => rfl)
    | 34, _ => by
      rw [cell_int _ _ (show TY 34 / 1000000 = 1 from rfl)]
      exact va_atI (hP 57 _ rfl) (fun j _ => rfl)
    | 35, _ => by
      rw [cell_int _ _ (show TY 35 / 1000000 = 1 from rfl)]
      exact va_atI (hP 58 _ rfl) (fun j _ => rfl)
    | 36, _ => by
      rw [cell_obj _ _ (show TY 36 = 10 + 7 from rfl) (by decide)]
      exact hP 59 (cq65, .inr (7, [.int (Int32.ofInt ((0 : Nat) : Int)), .int (Int32.ofInt ((0 : Nat) : Int)), .int (Int32.ofInt ((0 : Nat) : Int)), .int (Int32.ofInt ((0 : Nat) : Int)), .ref cq66, .ref cq69, .ref cq70, .ref cq71, .ref cq72])) rfl
    | 37, _ => by
      rw [cell_obj _ _ (show TY 37 = 10 + 1 from rfl) (by decide)]
      exact hP 60 (cq66, .inr (1, [.ref cq67])) rfl
    | 38, _ => by
      rw [cell_long _ _ (show TY 38 / 1000000 = 2 from rfl)]
      exact va_atJ (hP 61 _ rfl) (fun j _ => (Int64.ofInt_toInt _).symm)
    | 39, _ => by
      rw [cell_int _ _ (show TY 39 / 1000000 = 1 from rfl)]
      exact va_atI (hP 62 _ rfl) (fun j _ => rfl)
    | 40, _ => by
      rw [cell_int _ _ (show TY 40 / 1000000 = 1 from rfl)]
      exact va_atI (hP 63 _ rfl) (fun j _ => rfl)
    | 41, _ => by
      rw [cell_int _ _ (show TY 41 / 1000000 = 1 from rfl)]
      exact va_atI (hP 64 _ rfl) (fun j _ => rfl)
    | 42, _ => by
      rw [cell_int _ _ (show TY 42 / 1000000 = 1 from rfl)]
      exact va_atI (hP 65 _ rfl) (fun j _ => rfl)
    | 43, _ => by
      rw [cell_bool _ _ (show TY 43 / 1000000 = 3 from rfl)]
      exact va_atI (hP 17 _ rfl) (fun j _ => rfl)
    | 44, _ => by
      rw [cell_refs _ _ (show TY 44 / 1000000 = 5 from rfl) (by decide)]
      exact va_atQ (hP 18 _ rfl) (fun j hj => match j, hj with
        | 0, _ => rfl
        | 1, _ => rfl
        | 2, _ => rfl
        | 3, _ => rfl
        | j + 4, hj => absurd hj (by show ¬ (j + 4 < 4); omega))
    | 45, _ => by
      rw [cell_obj _ _ (show TY 45 = 10 + 8 from rfl) (by decide)]
      exact hP 66 (cq73, .inr (8, [.int (-1), .int (Int32.ofInt ((0 : Nat) : Int)), .ref cq74])) rfl
    | 46, _ => by
      rw [cell_long _ _ (show TY 46 / 1000000 = 2 from rfl)]
      exact va_atJ (hP 67 _ rfl) (fun j _ => rfl)
    | 47, _ => by
      rw [cell_obj _ _ (show TY 47 = 10 + 8 from rfl) (by decide)]
      exact hP 68 (cq75, .inr (8, [.int (-1), .int (Int32.ofInt ((0 : Nat) : Int)), .ref cq76])) rfl
    | 48, _ => by
      rw [cell_long _ _ (show TY 48 / 1000000 = 2 from rfl)]
      exact va_atJ (hP 69 _ rfl) (fun j _ => rfl)
    | 49, _ => by
      rw [cell_obj _ _ (show TY 49 = 10 + 8 from rfl) (by decide)]
      exact hP 70 (cq77, .inr (8, [.int (-1), .int (Int32.ofInt ((0 : Nat) : Int)), .ref cq78])) rfl
    | 50, _ => by
      rw [cell_long _ _ (show TY 50 / 1000000 = 2 from rfl)]
      exact va_atJ (hP 71 _ rfl) (fun j _ => rfl)
    | 51, _ => by
      rw [cell_obj _ _ (show TY 51 = 10 + 8 from rfl) (by decide)]
      exact hP 72 (cq79, .inr (8, [.int (-1), .int (Int32.ofInt ((0 : Nat) : Int)), .ref cq80])) rfl
    | 52, _ => by
      rw [cell_long _ _ (show TY 52 / 1000000 = 2 from rfl)]
      exact va_atJ (hP 73 _ rfl) (fun j _ => rfl)
    | 53, _ => by
      rw [cell_int _ _ (show TY 53 / 1000000 = 1 from rfl)]
      exact va_atI (hP 19 _ rfl) (fun j _ => rfl)
    | 54, _ => by
      rw [cell_obj _ _ (show TY 54 = 10 + 3 from rfl) (by decide)]
      exact hP 33 (cq36, .inr (3, [.int (Int32.ofInt ((0 : Nat) : Int)), .ref cq37, .ref cq38])) rfl
    | 55, _ => by
      rw [cell_long _ _ (show TY 55 / 1000000 = 2 from rfl)]
      exact va_atJ (hP 34 _ rfl) (fun j _ => rfl)
    | 56, _ => by
      rw [cell_long _ _ (show TY 56 / 1000000 = 2 from rfl)]
      exact va_atJ (hP 35 _ rfl) (fun j _ => rfl)
    | 57, _ => by
      rw [cell_obj _ _ (show TY 57 = 10 + 5 from rfl) (by decide)]
      exact hP 36 (cq39, .inr (5, [.int (Int32.ofInt ((0 : Nat) : Int)), .int (Int32.ofInt ((0 : Nat) : Int)), .int (Int32.ofInt ((0 : Nat) : Int)), .ref cq40, .ref cq41, .ref cq42, .ref cq43, .ref cq44])) rfl
    | 58, _ => by
      rw [cell_int _ _ (show TY 58 / 1000000 = 1 from rfl)]
      exact va_atI (hP 37 _ rfl) (fun j _ => rfl)
    | 59, _ => by
      rw [cell_long _ _ (show TY 59 / 1000000 = 2 from rfl)]
      exact va_atJ (hP 38 _ rfl) (fun j _ => rfl)
    | 60, _ => by
      rw [cell_int _ _ (show TY 60 / 1000000 = 1 from rfl)]
      exact va_atI (hP 39 _ rfl) (fun j _ => rfl)
    | 61, _ => by
      rw [cell_int _ _ (show TY 61 / 1000000 = 1 from rfl)]
      exact va_atI (hP 40 _ rfl) (fun j _ => rfl)
    | 62, _ => by
      rw [cell_int _ _ (show TY 62 / 1000000 = 1 from rfl)]
      exact va_atI (hP 41 _ rfl) (fun j _ => (Int32.ofInt_toInt _).symm)
    | 63, _ => by
      rw [cell_obj _ _ (show TY 63 = 10 + 0 from rfl) (by decide)]
      exact hP 42 (cq46, .inr (0, [.ref cq47])) rfl
    | 64, _ => by
      rw [cell_int _ _ (show TY 64 / 1000000 = 1 from rfl)]
      exact va_atI (hP 43 _ rfl) (fun j _ => rfl)
    | 65, _ => by
      rw [cell_obj _ _ (show TY 65 = 10 + 2 from rfl) (by decide)]
      exact hP 44 (cq48, .inr (2, [.int (Int32.ofInt ((0 : Nat) : Int))])) rfl
    | 66, _ => by
      rw [cell_obj _ _ (show TY 66 = 10 + 10 from rfl) (by decide)]
      exact hP 74 (y0, .inr (10, [.ref mq1, .ref mq2, .ref mq3, .ref mq4, .ref mq5, .int 0, .ref mq6, .int 0, .int 0, .int 0, .int 0, .int 0, .int 0, .int 0, .int 0, .int 0, .int (-1), .ref mq7, .int 0, .ref mq8, .int 0, .ref mq9, .ref mq10, .int 0, .int 0, .long 0, .ref mq11, .ref mq12, .ref mq13])) rfl
    | 67, _ => by
      rw [cell_int _ _ (show TY 67 / 1000000 = 1 from rfl)]
      exact va_atI (hP 87 _ rfl) (fun j _ => (Int32.ofInt_toInt _).symm)
    | 68, _ => by
      rw [cell_int _ _ (show TY 68 / 1000000 = 1 from rfl)]
      exact va_atI (hP 86 _ rfl) (fun j _ => (Int32.ofInt_toInt _).symm)
    | 69, _ => by
      rw [cell_int _ _ (show TY 69 / 1000000 = 1 from rfl)]
      exact va_atI (hP 75 _ rfl) (fun j _ => rfl)
    | 70, _ => by
      rw [cell_int _ _ (show TY 70 / 1000000 = 1 from rfl)]
      exact va_atI (hP 76 _ rfl) (fun j _ => rfl)
    | 71, _ => by
      rw [cell_bool _ _ (show TY 71 / 1000000 = 3 from rfl)]
      exact va_atI (hP 77 _ rfl) (fun j _ => rfl)
    | 72, _ => by
      rw [cell_int _ _ (show TY 72 / 1000000 = 1 from rfl)]
      exact va_atI (hP 78 _ rfl) (fun j _ => rfl)
    | 73, _ => by
      rw [cell_int _ _ (show TY 73 / 1000000 = 1 from rfl)]
      exact va_atI (hP 79 _ rfl) (fun j _ => rfl)
    | 74, _ => by
      rw [cell_long _ _ (show TY 74 / 1000000 = 2 from rfl)]
      exact va_atJ (hP 80 _ rfl) (fun j _ => rfl)
    | 75, _ => by
      rw [cell_int _ _ (show TY 75 / 1000000 = 1 from rfl)]
      exact va_atI (hP 81 _ rfl) (fun j _ => rfl)
    | 76, _ => by
      rw [cell_int _ _ (show TY 76 / 1000000 = 1 from rfl)]
      exact va_atI (hP 82 _ rfl) (fun j _ => rfl)
    | 77, _ => by
      rw [cell_int _ _ (show TY 77 / 1000000 = 1 from rfl)]
      exact va_atI (hP 83 _ rfl) (fun j hj => match j, hj with
        | 0, _ => rfl
        | 1, _ => rfl
        | 2, _ => rfl
        | 3, _ => rfl
        | j + 4, hj => absurd hj (by show ¬ (j + 4 < 4); omega))
    | 78, _ => by
      rw [cell_int _ _ (show TY 78 / 1000000 = 1 from rfl)]
      exact va_atI (hP 84 _ rfl) (fun j _ => rfl)
    | 79, _ => by
      rw [cell_long _ _ (show TY 79 / 1000000 = 2 from rfl)]
      exact va_atJ (hP 85 _ rfl) (fun j _ => rfl)
    | 80, _ => by
      rw [cell_obj _ _ (show TY 80 = 10 + 7 from rfl) (by decide)]
      exact hP 9 (cq10, .inr (7, [.int (Int32.ofInt ((0 : Nat) : Int)), .int (Int32.ofInt ((0 : Nat) : Int)), .int (Int32.ofInt ((0 : Nat) : Int)), .int (Int32.ofInt ((0 : Nat) : Int)), .ref cq11, .ref cq14, .ref cq15, .ref cq16, .ref cq17])) rfl
    | 81, _ => by
      rw [cell_obj _ _ (show TY 81 = 10 + 1 from rfl) (by decide)]
      exact hP 10 (cq11, .inr (1, [.ref cq12])) rfl
    | 82, _ => by
      rw [cell_long _ _ (show TY 82 / 1000000 = 2 from rfl)]
      exact va_atJ (hP 11 _ rfl) (fun j _ => (Int64.ofInt_toInt _).symm)
    | 83, _ => by
      rw [cell_int _ _ (show TY 83 / 1000000 = 1 from rfl)]
      exact va_atI (hP 12 _ rfl) (fun j _ => rfl)
    | 84, _ => by
      rw [cell_int _ _ (show TY 84 / 1000000 = 1 from rfl)]
      exact va_atI (hP 13 _ rfl) (fun j _ => rfl)
    | 85, _ => by
      rw [cell_int _ _ (show TY 85 / 1000000 = 1 from rfl)]
      exact va_atI (hP 14 _ rfl) (fun j _ => rfl)
    | 86, _ => by
      rw [cell_int _ _ (show TY 86 / 1000000 = 1 from rfl)]
      exact va_atI (hP 15 _ rfl) (fun j _ => rfl)
    | 87, _ => by
      rw [cell_int _ _ (show TY 87 / 1000000 = 1 from rfl)]
      exact va_atI (hP 29 _ rfl) (fun j _ => rfl)
    | 88, _ => by
      rw [cell_long _ _ (show TY 88 / 1000000 = 2 from rfl)]
      exact va_atJ (hP 88 _ rfl) (fun j _ => rfl)
    | k + 89, h => absurd h (by omega)
set_option maxRecDepth 100000 in
theorem at_23 (l : Launch) (hflags : l.flags = flags0) {p : Program} {e : Env} {s : State} {m : MethodId} {below : List Frame} {meth : Method} {c : Code} {b L : Nat} {xs : Nat → Int32} {D : va_G} {kA : Nat → ClassId} {ad : Nat → Nat} {fv : Value} {x0 y0 o0 cq1 cq2 cq3 cq4 cq6 cq7 cq8 cq9 cq10 cq11 cq12 cq14 cq15 cq16 cq17 cq18 cq19 cq20 cq21 cq22 cq23 cq24 cq25 cq27 cq28 cq29 cq30 cq31 cq32 cq33 cq34 cq35 cq36 cq37 cq38 cq39 cq40 cq41 cq42 cq43 cq44 cq46 cq47 cq48 cq49 cq50 cq51 cq53 cq54 cq55 cq56 cq57 cq58 cq59 cq61 cq62 cq63 cq64 cq65 cq66 cq67 cq69 cq70 cq71 cq72 cq73 cq74 cq75 cq76 cq77 cq78 cq79 cq80 mq1 mq2 mq3 mq4 mq5 mq6 mq7 mq8 mq9 mq10 mq11 mq12 mq13 : Nat} {cf5 : Nat → Int64} {cf13 : Nat → Int64} {cf26 : Nat → Int64} {cf45 : Nat → Int32} {cf52 : Nat → Int64} {cf60 : Nat → Int64} {cf68 : Nat → Int64} {mf14 : Nat → Int32} {mf15 : Nat → Int32} (hL : L ≤ 3072) (C0 : lw_At p s m meth c b L xs) (hEI : EI D kA s) (hEN : ∀ (K : KT), (∀ i, 1000 ≤ i → i ≤ 3000 → K.2.2.1 i = ad i) → K.2.2.2 = fv → EN K (A0 s) s s.heap) (hh0 : ∀ j, j < 25 → cf5 j = 1) (hh1 : ∀ j, j < 25 → cf13 j = 1) (hh2 : ∀ j, j < 25 → cf26 j = 1) (hh3 : ∀ r m, r ≤ 9 → m ≤ 8 → cf45 (9 * r + m) = Int32.ofInt ((wyN r m : Nat) : Int)) (hh4 : ∀ j, j < 25 → cf52 j = 1) (hh5 : ∀ j, j < 25 → cf60 j = 1) (hh6 : ∀ j, j < 25 → cf68 j = 1) (hh7 : ∀ j, j < 181 → mf14 j = if 156 ≤ j then 1 else 0) (hh8 : ∀ j, j < 181 → mf15 j = mf14 j) :
    XI p l e room_1 s m #[Value.ref b] below meth c D (A0 s) 8 89 89614 (lw_Z below #[Value.ref b] s) 23 [(4, .int 0), (3, .ref o0), (2, .ref y0), (1, .ref x0), (0, .ref b)] [] (W23 kA x0 y0 o0 cq1 cq2 cq3 cq4 cq6 cq7 cq8 cq9 cq10 cq11 cq12 cq14 cq15 cq16 cq17 cq18 cq19 cq20 cq21 cq22 cq23 cq24 cq25 cq27 cq28 cq29 cq30 cq31 cq32 cq33 cq34 cq35 cq36 cq37 cq38 cq39 cq40 cq41 cq42 cq43 cq44 cq46 cq47 cq48 cq49 cq50 cq51 cq53 cq54 cq55 cq56 cq57 cq58 cq59 cq61 cq62 cq63 cq64 cq65 cq66 cq67 cq69 cq70 cq71 cq72 cq73 cq74 cq75 cq76 cq77 cq78 cq79 cq80 mq1 mq2 mq3 mq4 mq5 mq6 mq7 mq8 mq9 mq10 mq11 mq12 mq13 cf5 cf13 cf26 cf45 cf52 cf60 cf68 mf14 mf15) := by
  obtain ⟨hx, hb, hr, hml, hown, hts, hX, hbl, hlk, hgv⟩ := C0
  have hgi : ∀ w ∈ GI, w.before #[Value.ref b] s = true := fun w hw => hts w (gi_ok w hw).1
  intro H locs ls hP hD hS hl
  have h81 : nW (D, kA, adK [x0, cq22, cq31, cq33, cq34, cq35, cq1, cq2, cq3, cq4, cq6, cq7, cq8, cq9, cq23, cq24, cq25, cq27, cq28, cq29, cq30, cq18, cq49, cq50, cq51, cq53, cq54, cq55, cq56, cq57, cq58, cq59, cq61, cq62, cq63, cq64, cq65, cq66, cq67, cq69, cq70, cq71, cq72, cq19, cq20, cq73, cq74, cq75, cq76, cq77, cq78, cq79, cq80, cq21, cq36, cq37, cq38, cq39, cq40, cq41, cq42, cq43, cq44, cq46, cq47, cq48, y0, mq1, mq2, mq3, mq4, mq5, mq6, mq7, mq8, mq9, mq10, mq11, mq12, mq13, cq10, cq11, cq12, cq14, cq15, cq16, cq17, cq32, o0] b ad, fv) = 89 := rfl
  have hDs : ∀ σ, va_D (A0 s) (WS (D, kA, adK [x0, cq22, cq31, cq33, cq34, cq35, cq1, cq2, cq3, cq4, cq6, cq7, cq8, cq9, cq23, cq24, cq25, cq27, cq28, cq29, cq30, cq18, cq49, cq50, cq51, cq53, cq54, cq55, cq56, cq57, cq58, cq59, cq61, cq62, cq63, cq64, cq65, cq66, cq67, cq69, cq70, cq71, cq72, cq19, cq20, cq73, cq74, cq75, cq76, cq77, cq78, cq79, cq80, cq21, cq36, cq37, cq38, cq39, cq40, cq41, cq42, cq43, cq44, cq46, cq47, cq48, y0, mq1, mq2, mq3, mq4, mq5, mq6, mq7, mq8, mq9, mq10, mq11, mq12, mq13, cq10, cq11, cq12, cq14, cq15, cq16, cq17, cq32, o0] b ad, fv) σ) := by
    intro σ
    refine ⟨fun i j x y hi hj exy => ?_, fun k q hq => ?_⟩
    · obtain ⟨i1, i2⟩ := WS_inv hi
      obtain ⟨j1, j2⟩ := WS_inv hj
      rw [h81] at i1 j1
      obtain ⟨e1, g1⟩ := ps_at (kA := kA) (x0 := x0) (y0 := y0) (o0 := o0) (cq1 := cq1) (cq2 := cq2) (cq3 := cq3) (cq4 := cq4) (cq6 := cq6) (cq7 := cq7) (cq8 := cq8) (cq9 := cq9) (cq10 := cq10) (cq11 := cq11) (cq12 := cq12) (cq14 := cq14) (cq15 := cq15) (cq16 := cq16) (cq17 := cq17) (cq18 := cq18) (cq19 := cq19) (cq20 := cq20) (cq21 := cq21) (cq22 := cq22) (cq23 := cq23) (cq24 := cq24) (cq25 := cq25) (cq27 := cq27) (cq28 := cq28) (cq29 := cq29) (cq30 := cq30) (cq31 := cq31) (cq32 := cq32) (cq33 := cq33) (cq34 := cq34) (cq35 := cq35) (cq36 := cq36) (cq37 := cq37) (cq38 := cq38) (cq39 := cq39) (cq40 := cq40) (cq41 := cq41) (cq42 := cq42) (cq43 := cq43) (cq44 := cq44) (cq46 := cq46) (cq47 := cq47) (cq48 := cq48) (cq49 := cq49) (cq50 := cq50) (cq51 := cq51) (cq53 := cq53) (cq54 := cq54) (cq55 := cq55) (cq56 := cq56) (cq57 := cq57) (cq58 := cq58) (cq59 := cq59) (cq61 := cq61) (cq62 := cq62) (cq63 := cq63) (cq64 := cq64) (cq65 := cq65) (cq66 := cq66) (cq67 := cq67) (cq69 := cq69) (cq70 := cq70) (cq71 := cq71) (cq72 := cq72) (cq73 := cq73) (cq74 := cq74) (cq75 := cq75) (cq76 := cq76) (cq77 := cq77) (cq78 := cq78) (cq79 := cq79) (cq80 := cq80) (mq1 := mq1) (mq2 := mq2) (mq3 := mq3) (mq4 := mq4) (mq5 := mq5) (mq6 := mq6) (mq7 := mq7) (mq8 := mq8) (mq9 := mq9) (mq10 := mq10) (mq11 := mq11) (mq12 := mq12) (mq13 := mq13) (cf5 := cf5) (cf13 := cf13) (cf26 := cf26) (cf45 := cf45) (cf52 := cf52) (cf60 := cf60) (cf68 := cf68) (mf14 := mf14) (mf15 := mf15) i i1
      obtain ⟨e2, g2⟩ := ps_at (kA := kA) (x0 := x0) (y0 := y0) (o0 := o0) (cq1 := cq1) (cq2 := cq2) (cq3 := cq3) (cq4 := cq4) (cq6 := cq6) (cq7 := cq7) (cq8 := cq8) (cq9 := cq9) (cq10 := cq10) (cq11 := cq11) (cq12 := cq12) (cq14 := cq14) (cq15 := cq15) (cq16 := cq16) (cq17 := cq17) (cq18 := cq18) (cq19 := cq19) (cq20 := cq20) (cq21 := cq21) (cq22 := cq22) (cq23 := cq23) (cq24 := cq24) (cq25 := cq25) (cq27 := cq27) (cq28 := cq28) (cq29 := cq29) (cq30 := cq30) (cq31 := cq31) (cq32 := cq32) (cq33 := cq33) (cq34 := cq34) (cq35 := cq35) (cq36 := cq36) (cq37 := cq37) (cq38 := cq38) (cq39 := cq39) (cq40 := cq40) (cq41 := cq41) (cq42 := cq42) (cq43 := cq43) (cq44 := cq44) (cq46 := cq46) (cq47 := cq47) (cq48 := cq48) (cq49 := cq49) (cq50 := cq50) (cq51 := cq51) (cq53 := cq53) (cq54 := cq54) (cq55 := cq55) (cq56 := cq56) (cq57 := cq57) (cq58 := cq58) (cq59 := cq59) (cq61 := cq61) (cq62 := cq62) (cq63 := cq63) (cq64 := cq64) (cq65 := cq65) (cq66 := cq66) (cq67 := cq67) (cq69 := cq69) (cq70 := cq70) (cq71 := cq71) (cq72 := cq72) (cq73 := cq73) (cq74 := cq74) (cq75 := cq75) (cq76 := cq76) (cq77 := cq77) (cq78 := cq78) (cq79 := cq79) (cq80 := cq80) (mq1 := mq1) (mq2 := mq2) (mq3 := mq3) (mq4 := mq4) (mq5 := mq5) (mq6 := mq6) (mq7 := mq7) (mq8 := mq8) (mq9 := mq9) (mq10 := mq10) (mq11 := mq11) (mq12 := mq12) (mq13 := mq13) (cf5 := cf5) (cf13 := cf13) (cf26 := cf26) (cf45 := cf45) (cf52 := cf52) (cf60 := cf60) (cf68 := cf68) (mf14 := mf14) (mf15 := mf15) j j1
      rw [i2, j2] at exy
      exact ps_inj i i1 j j1 (hD.1 _ _ _ _ g1 g2 ((adK_lt i1).symm.trans (exy.trans (adK_lt j1))))
    · obtain ⟨k1, k2⟩ := WS_inv hq
      rw [h81] at k1
      obtain ⟨e1, g1⟩ := ps_at (kA := kA) (x0 := x0) (y0 := y0) (o0 := o0) (cq1 := cq1) (cq2 := cq2) (cq3 := cq3) (cq4 := cq4) (cq6 := cq6) (cq7 := cq7) (cq8 := cq8) (cq9 := cq9) (cq10 := cq10) (cq11 := cq11) (cq12 := cq12) (cq14 := cq14) (cq15 := cq15) (cq16 := cq16) (cq17 := cq17) (cq18 := cq18) (cq19 := cq19) (cq20 := cq20) (cq21 := cq21) (cq22 := cq22) (cq23 := cq23) (cq24 := cq24) (cq25 := cq25) (cq27 := cq27) (cq28 := cq28) (cq29 := cq29) (cq30 := cq30) (cq31 := cq31) (cq32 := cq32) (cq33 := cq33) (cq34 := cq34) (cq35 := cq35) (cq36 := cq36) (cq37 := cq37) (cq38 := cq38) (cq39 := cq39) (cq40 := cq40) (cq41 := cq41) (cq42 := cq42) (cq43 := cq43) (cq44 := cq44) (cq46 := cq46) (cq47 := cq47) (cq48 := cq48) (cq49 := cq49) (cq50 := cq50) (cq51 := cq51) (cq53 := cq53) (cq54 := cq54) (cq55 := cq55) (cq56 := cq56) (cq57 := cq57) (cq58 := cq58) (cq59 := cq59) (cq61 := cq61) (cq62 := cq62) (cq63 := cq63) (cq64 := cq64) (cq65 := cq65) (cq66 := cq66) (cq67 := cq67) (cq69 := cq69) (cq70 := cq70) (cq71 := cq71) (cq72 := cq72) (cq73 := cq73) (cq74 := cq74) (cq75 := cq75) (cq76 := cq76) (cq77 := cq77) (cq78 := cq78) (cq79 := cq79) (cq80 := cq80) (mq1 := mq1) (mq2 := mq2) (mq3 := mq3) (mq4 := mq4) (mq5 := mq5) (mq6 := mq6) (mq7 := mq7) (mq8 := mq8) (mq9 := mq9) (mq10 := mq10) (mq11 := mq11) (mq12 := mq12) (mq13 := mq13) (cf5 := cf5) (cf13 := cf13) (cf26 := cf26) (cf45 := cf45) (cf52 := cf52) (cf60 := cf60) (cf68 := cf68) (mf14 := mf14) (mf15 := mf15) k k1
      have h9 := hD.2 _ _ g1
      rw [k2]
      show A0 s (adK [x0, cq22, cq31, cq33, cq34, cq35, cq1, cq2, cq3, cq4, cq6, cq7, cq8, cq9, cq23, cq24, cq25, cq27, cq28, cq29, cq30, cq18, cq49, cq50, cq51, cq53, cq54, cq55, cq56, cq57, cq58, cq59, cq61, cq62, cq63, cq64, cq65, cq66, cq67, cq69, cq70, cq71, cq72, cq19, cq20, cq73, cq74, cq75, cq76, cq77, cq78, cq79, cq80, cq21, cq36, cq37, cq38, cq39, cq40, cq41, cq42, cq43, cq44, cq46, cq47, cq48, y0, mq1, mq2, mq3, mq4, mq5, mq6, mq7, mq8, mq9, mq10, mq11, mq12, mq13, cq10, cq11, cq12, cq14, cq15, cq16, cq17, cq32, o0] b ad k)
      rw [adK_lt k1]
      exact h9
  have hAA : A0 s = AA (D, kA, adK [x0, cq22, cq31, cq33, cq34, cq35, cq1, cq2, cq3, cq4, cq6, cq7, cq8, cq9, cq23, cq24, cq25, cq27, cq28, cq29, cq30, cq18, cq49, cq50, cq51, cq53, cq54, cq55, cq56, cq57, cq58, cq59, cq61, cq62, cq63, cq64, cq65, cq66, cq67, cq69, cq70, cq71, cq72, cq19, cq20, cq73, cq74, cq75, cq76, cq77, cq78, cq79, cq80, cq21, cq36, cq37, cq38, cq39, cq40, cq41, cq42, cq43, cq44, cq46, cq47, cq48, y0, mq1, mq2, mq3, mq4, mq5, mq6, mq7, mq8, mq9, mq10, mq11, mq12, mq13, cq10, cq11, cq12, cq14, cq15, cq16, cq17, cq32, o0] b ad, fv) s.heap.size := by
    funext q
    refine propext ⟨fun h => Or.inr h, fun h => ?_⟩
    rcases h with ⟨a, a1, a2⟩ | h
    · have := (hDs (sg0 cf5 cf26 cf52 cf60 cf68 cf45 mf15 mf14 cf13)).2 a _ (WS_getN _ _ a1)
      rw [a2]
      exact this
    · exact h
  have hst : l.stackTraces = false := by
    unfold Launch.stackTraces
    rw [hflags]
    decide
  have C : Cx p l s m #[Value.ref b] meth c (D, kA, adK [x0, cq22, cq31, cq33, cq34, cq35, cq1, cq2, cq3, cq4, cq6, cq7, cq8, cq9, cq23, cq24, cq25, cq27, cq28, cq29, cq30, cq18, cq49, cq50, cq51, cq53, cq54, cq55, cq56, cq57, cq58, cq59, cq61, cq62, cq63, cq64, cq65, cq66, cq67, cq69, cq70, cq71, cq72, cq19, cq20, cq73, cq74, cq75, cq76, cq77, cq78, cq79, cq80, cq21, cq36, cq37, cq38, cq39, cq40, cq41, cq42, cq43, cq44, cq46, cq47, cq48, y0, mq1, mq2, mq3, mq4, mq5, mq6, mq7, mq8, mq9, mq10, mq11, mq12, mq13, cq10, cq11, cq12, cq14, cq15, cq16, cq17, cq32, o0] b ad, fv) (A0 s) 8 12 cL_law ret False := ⟨hx, hb, hml, hown, fun w hw => hgi w (List.mem_append_right _ hw), hEI.1, hDs, hEN _ (fun i h1 h2 => adK_mid h1 h2) rfl, hAA, hlk, hr, hst, fun z => z.elim⟩
  have W9 : LwC p l room_1 s m #[Value.ref b] meth c (D, kA, adK [x0, cq22, cq31, cq33, cq34, cq35, cq1, cq2, cq3, cq4, cq6, cq7, cq8, cq9, cq23, cq24, cq25, cq27, cq28, cq29, cq30, cq18, cq49, cq50, cq51, cq53, cq54, cq55, cq56, cq57, cq58, cq59, cq61, cq62, cq63, cq64, cq65, cq66, cq67, cq69, cq70, cq71, cq72, cq19, cq20, cq73, cq74, cq75, cq76, cq77, cq78, cq79, cq80, cq21, cq36, cq37, cq38, cq39, cq40, cq41, cq42, cq43, cq44, cq46, cq47, cq48, y0, mq1, mq2, mq3, mq4, mq5, mq6, mq7, mq8, mq9, mq10, mq11, mq12, mq13, cq10, cq11, cq12, cq14, cq15, cq16, cq17, cq32, o0] b ad, fv) (A0 s) 8 ret False L xs (Inv (fun j => (cf45 j).toInt)) := ⟨by show (1 : Nat) ≠ 0; decide, C, hX, hbl, fun h => absurd hbl (Nat.not_lt.mpr h), nc_start hgv, hts, by decide, by decide, by omega, thrown_ct, fun σ τ h g => Inv_80 σ τ h g⟩
  have hEnd : ∀ cl sl i σ, cl ≤ room_1.cells → sl ≤ room_1.slots → XM p l e room_1 s m #[Value.ref b] below meth c (D, kA, adK [x0, cq22, cq31, cq33, cq34, cq35, cq1, cq2, cq3, cq4, cq6, cq7, cq8, cq9, cq23, cq24, cq25, cq27, cq28, cq29, cq30, cq18, cq49, cq50, cq51, cq53, cq54, cq55, cq56, cq57, cq58, cq59, cq61, cq62, cq63, cq64, cq65, cq66, cq67, cq69, cq70, cq71, cq72, cq19, cq20, cq73, cq74, cq75, cq76, cq77, cq78, cq79, cq80, cq21, cq36, cq37, cq38, cq39, cq40, cq41, cq42, cq43, cq44, cq46, cq47, cq48, y0, mq1, mq2, mq3, mq4, mq5, mq6, mq7, mq8, mq9, mq10, mq11, mq12, mq13, cq10, cq11, cq12, cq14, cq15, cq16, cq17, cq32, o0] b ad, fv) (A0 s) 8 cl sl (lw_Z below #[Value.ref b] s) 3792 (LL i uV uV uV) [] σ := by
    intro cl sl i σ h1 h2
    have hC := clo_L (Q := lw_Z below #[Value.ref b] s) (R := room_1) (e := e) (below := below) (cl := cl) (sl := sl) (d := 40) W9.1 C (by decide) (by decide) h1 h2
    refine st_iconst hC dL_law_3792 rfl ?_
    intro hn hL hS hO H locs ls hP hSS hl
    refine va_forget (fun q hq => hSS.2.2 q hq) ?_
    exact W.widen h1 h2 (lw_ret hx hb hr hlk dL_law_3793)
  have hgo := lw_loop (e := e) (below := below) (Q := lw_Z below #[Value.ref b] s) W9 (wyT_0 hh3) hEnd 512 0 89 89614 (sg0 cf5 cf26 cf52 cf60 cf68 cf45 mf15 mf14 cf13) (Inv_0 hh0 hh8 hh7) (by decide) (by omega) (by omega) (by decide) (by decide)
  refine hgo rfl ?_ (fun v hv => nomatch hv) okS_0 H locs ls ?_ hS ⟨hl.1, hl.2.1, fun j hj => ?_⟩
  · intro v hv
    simp only [List.mem_cons, List.not_mem_nil, or_false] at hv
    rcases hv with rfl | rfl | rfl | rfl | rfl | rfl | rfl | rfl
    · exact Or.inr (Or.inr (Or.inr (Or.inr (Or.inr (Or.inl rfl)))))
    · exact Or.inl ⟨by decide, rfl⟩
    · exact Or.inl ⟨by decide, rfl⟩
    · exact Or.inr (Or.inr (Or.inr (Or.inr (Or.inr (Or.inr rfl)))))
    · exact ⟨by decide, by decide⟩
    · trivial
    · trivial
    · trivial
  · intro k q hq
    obtain ⟨k1, k2⟩ := WS_inv hq
    rw [h81] at k1
    rw [k2]
    exact ws_at hP k k1
  · match j, hj with
    | 0, _ => exact hl.2.2 (0, .ref b) (by simp)
    | 1, _ => exact hl.2.2 (1, .ref x0) (by simp)
    | 2, _ => exact hl.2.2 (2, .ref y0) (by simp)
    | 3, _ => exact hl.2.2 (3, .ref o0) (by simp)
    | 4, _ => exact hl.2.2 (4, .int 0) (by simp)
    | 5, hj => exact absurd rfl hj
    | 6, hj => exact absurd rfl hj
    | 7, hj => exact absurd rfl hj
    | j + 8, hj => exact absurd rfl hj
set_option maxRecDepth 100000 in
set_option maxHeartbeats 4000000 in
theorem whole_start {p : Program} {e : Env} {s : State} {m : MethodId} {below : List Frame} {meth : Method} {c : Code} (l : Launch) (hflags : l.flags = flags0) {b L : Nat} {xs : Nat → Int32} (hL : L ≤ 3072) (C0 : lw_At p s m meth c b L xs) : W p l e room_1 s m #[Value.ref b] below meth c s.heap [] 0 0 (lw_Z below #[Value.ref b] s) (entryFrame m ([Value.ref b] : List Value).toArray 8) := by
  obtain ⟨D, kA, hEI⟩ := ei_start C0.2.2.2.2.2.1
  obtain ⟨ad, fv, hEN⟩ := en_start C0.2.2.2.2.2.1 C0.2.2.2.2.2.2.2.2.2
  have C00 := C0
  obtain ⟨hx, hb, hr, hml, hown, hts, hX, hbl, hlk, hgv⟩ := C0
  have hgi : ∀ w ∈ GI, w.before #[Value.ref b] s = true := fun w hw => hts w (gi_ok w hw).1
  have C : Ki p s m #[Value.ref b] meth c D kA (A0 s) 8 12 cL_law meth.name := ⟨hx, hb, hml, hown, hgi, hEI, fun q h => h, hlk, rfl⟩
  have key : XI p l e room_1 s m #[Value.ref b] below meth c D (A0 s) 8 0 0 (lw_Z below #[Value.ref b] s) 0 [(0, .ref b)] [] [] := by
    refine xi_new (ci := 9) (C9 := RX10) (N9 := 15) C rfl rfl dL_law_0 (by decide) gi72 gi63 gi64 (by exact Nat.le_of_ble_eq_true rfl) (by exact Nat.le_of_ble_eq_true rfl) (fun x0 => ?_)
    refine xi_w (w2 := (x0, .inr (9, dflV 9)) :: []) rfl ?_
    refine xi_dup C dL_law_3 rfl ?_
    refine xi_callI (As := []) (wr := []) (wc := (x0, .inr (9, dflV 9)) :: []) (S := [.ref x0]) (na := 0) C dL_law_4 (i_X10 x0) rfl gi74 gi65 gi66 gi64 ⟨by decide, by decide, rfl⟩ rfl (by exact Nat.le_of_ble_eq_true rfl) (by exact Nat.le_of_ble_eq_true rfl) (by exact Nat.le_of_ble_eq_true rfl) (by exact Nat.le_of_ble_eq_true rfl) (by exact Nat.le_of_ble_eq_true rfl) (fun w1 hw1 => ?_)
    obtain ⟨cq1, cq2, cq3, cq4, cf5, cq6, cq7, cq8, cq9, cq10, cq11, cq12, cf13, cq14, cq15, cq16, cq17, cq18, cq19, cq20, cq21, cq22, cq23, cq24, cq25, cf26, cq27, cq28, cq29, cq30, cq31, cq32, cq33, cq34, cq35, cq36, cq37, cq38, cq39, cq40, cq41, cq42, cq43, cq44, cf45, cq46, cq47, cq48, cq49, cq50, cq51, cf52, cq53, cq54, cq55, cq56, cq57, cq58, cq59, cf60, cq61, cq62, cq63, cq64, cq65, cq66, cq67, cf68, cq69, cq70, cq71, cq72, cq73, cq74, cq75, cq76, cq77, cq78, cq79, cq80, hh0, hh1, hh2, hh3, hh4, hh5, hh6, rfl⟩ := hw1
    refine xi_w (w2 := ((x0, .inr (9, [.ref cq1, .int (Int32.ofInt ((0 : Nat) : Int)), .int (Int32.ofInt ((0 : Nat) : Int)), .int (-1), .ref cq2, .ref cq10, .ref cq18, .ref cq19, .ref cq20, .ref cq21, .ref cq22, .ref cq36, .ref cq39, .ref cq46, .ref cq48])) :: (cq1, .inl (kA 1, 700, .inl (fun _ => 0))) :: (cq2, .inr (7, [.int (Int32.ofInt ((0 : Nat) : Int)), .int (Int32.ofInt ((0 : Nat) : Int)), .int (Int32.ofInt ((0 : Nat) : Int)), .int (Int32.ofInt ((0 : Nat) : Int)), .ref cq3, .ref cq6, .ref cq7, .ref cq8, .ref cq9])) :: (cq3, .inr (1, [.ref cq4])) :: (cq4, .inl (kA 2, 25, .inr (.inl cf5))) :: (cq6, .inl (kA 1, 8, .inl (fun _ => 0))) :: (cq7, .inl (kA 1, 40, .inl (fun _ => 0))) :: (cq8, .inl (kA 1, 96, .inl (fun _ => 0))) :: (cq9, .inl (kA 1, 8, .inl (fun _ => 0))) :: (cq10, .inr (7, [.int (Int32.ofInt ((0 : Nat) : Int)), .int (Int32.ofInt ((0 : Nat) : Int)), .int (Int32.ofInt ((0 : Nat) : Int)), .int (Int32.ofInt ((0 : Nat) : Int)), .ref cq11, .ref cq14, .ref cq15, .ref cq16, .ref cq17])) :: (cq11, .inr (1, [.ref cq12])) :: (cq12, .inl (kA 2, 25, .inr (.inl cf13))) :: (cq14, .inl (kA 1, 8, .inl (fun _ => 0))) :: (cq15, .inl (kA 1, 40, .inl (fun _ => 0))) :: (cq16, .inl (kA 1, 96, .inl (fun _ => 0))) :: (cq17, .inl (kA 1, 8, .inl (fun _ => 0))) :: (cq18, .inl (kA 4, 3, .inr (.inr (.inr (.inr (va_up (va_up (va_up (fun _ => none) (Int32.ofInt ((0 : Nat) : Int)).toNatClampNeg (some cq49)) (Int32.ofInt ((1 : Nat) : Int)).toNatClampNeg (some cq57)) (Int32.ofInt ((2 : Nat) : Int)).toNatClampNeg (some cq65))))))) :: (cq19, .inl (kA 3, 3, .inl (fun _ => 0))) :: (cq20, .inl (kA 5, 4, .inr (.inr (.inr (.inr (va_up (va_up (va_up (va_up (fun _ => none) (Int32.ofInt ((0 : Nat) : Int)).toNatClampNeg (some cq73)) (Int32.ofInt ((1 : Nat) : Int)).toNatClampNeg (some cq75)) (Int32.ofInt ((2 : Nat) : Int)).toNatClampNeg (some cq77)) (Int32.ofInt ((3 : Nat) : Int)).toNatClampNeg (some cq79))))))) :: (cq21, .inl (kA 1, 8, .inl (fun _ => 0))) :: (cq22, .inr (4, [.int (Int32.ofInt ((0 : Nat) : Int)), .int (-1), .ref cq23, .ref cq31, .int (Int32.ofInt ((0 : Nat) : Int))])) :: (cq23, .inr (7, [.int (Int32.ofInt ((0 : Nat) : Int)), .int (Int32.ofInt ((0 : Nat) : Int)), .int (Int32.ofInt ((0 : Nat) : Int)), .int (Int32.ofInt ((0 : Nat) : Int)), .ref cq24, .ref cq27, .ref cq28, .ref cq29, .ref cq30])) :: (cq24, .inr (1, [.ref cq25])) :: (cq25, .inl (kA 2, 25, .inr (.inl cf26))) :: (cq27, .inl (kA 1, 8, .inl (fun _ => 0))) :: (cq28, .inl (kA 1, 40, .inl (fun _ => 0))) :: (cq29, .inl (kA 1, 96, .inl (fun _ => 0))) :: (cq30, .inl (kA 1, 8, .inl (fun _ => 0))) :: (cq31, .inr (6, [.ref cq32, .ref cq33, .ref cq34, .ref cq35, .int (Int32.ofInt ((0 : Nat) : Int)), .int (Int32.ofInt ((0 : Nat) : Int)), .int (Int32.ofInt ((0 : Nat) : Int))])) :: (cq32, .inl (kA 1, 700, .inl (fun _ => 0))) :: (cq33, .inl (kA 1, 701, .inl (fun _ => 0))) :: (cq34, .inl (kA 1, 701, .inl (fun _ => 0))) :: (cq35, .inl (kA 1, 701, .inl (fun _ => 0))) :: (cq36, .inr (3, [.int (Int32.ofInt ((0 : Nat) : Int)), .ref cq37, .ref cq38])) :: (cq37, .inl (kA 2, 384, .inr (.inl (fun _ => 0)))) :: (cq38, .inl (kA 2, 384, .inr (.inl (fun _ => 0)))) :: (cq39, .inr (5, [.int (Int32.ofInt ((0 : Nat) : Int)), .int (Int32.ofInt ((0 : Nat) : Int)), .int (Int32.ofInt ((0 : Nat) : Int)), .ref cq40, .ref cq41, .ref cq42, .ref cq43, .ref cq44])) :: (cq40, .inl (kA 1, 24310, .inl (fun _ => 0))) :: (cq41, .inl (kA 2, 380, .inr (.inl (fun _ => 0)))) :: (cq42, .inl (kA 1, 6, .inl (fun _ => 0))) :: (cq43, .inl (kA 1, 6, .inl (fun _ => 0))) :: (cq44, .inl (kA 1, 90, .inl cf45)) :: (cq46, .inr (0, [.ref cq47])) :: (cq47, .inl (kA 1, 4, .inl (fun _ => 0))) :: (cq48, .inr (2, [.int (Int32.ofInt ((0 : Nat) : Int))])) :: (cq49, .inr (7, [.int (Int32.ofInt ((0 : Nat) : Int)), .int (Int32.ofInt ((0 : Nat) : Int)), .int (Int32.ofInt ((0 : Nat) : Int)), .int (Int32.ofInt ((0 : Nat) : Int)), .ref cq50, .ref cq53, .ref cq54, .ref cq55, .ref cq56])) :: (cq50, .inr (1, [.ref cq51])) :: (cq51, .inl (kA 2, 25, .inr (.inl cf52))) :: (cq53, .inl (kA 1, 8, .inl (fun _ => 0))) :: (cq54, .inl (kA 1, 40, .inl (fun _ => 0))) :: (cq55, .inl (kA 1, 96, .inl (fun _ => 0))) :: (cq56, .inl (kA 1, 8, .inl (fun _ => 0))) :: (cq57, .inr (7, [.int (Int32.ofInt ((0 : Nat) : Int)), .int (Int32.ofInt ((0 : Nat) : Int)), .int (Int32.ofInt ((0 : Nat) : Int)), .int (Int32.ofInt ((0 : Nat) : Int)), .ref cq58, .ref cq61, .ref cq62, .ref cq63, .ref cq64])) :: (cq58, .inr (1, [.ref cq59])) :: (cq59, .inl (kA 2, 25, .inr (.inl cf60))) :: (cq61, .inl (kA 1, 8, .inl (fun _ => 0))) :: (cq62, .inl (kA 1, 40, .inl (fun _ => 0))) :: (cq63, .inl (kA 1, 96, .inl (fun _ => 0))) :: (cq64, .inl (kA 1, 8, .inl (fun _ => 0))) :: (cq65, .inr (7, [.int (Int32.ofInt ((0 : Nat) : Int)), .int (Int32.ofInt ((0 : Nat) : Int)), .int (Int32.ofInt ((0 : Nat) : Int)), .int (Int32.ofInt ((0 : Nat) : Int)), .ref cq66, .ref cq69, .ref cq70, .ref cq71, .ref cq72])) :: (cq66, .inr (1, [.ref cq67])) :: (cq67, .inl (kA 2, 25, .inr (.inl cf68))) :: (cq69, .inl (kA 1, 8, .inl (fun _ => 0))) :: (cq70, .inl (kA 1, 40, .inl (fun _ => 0))) :: (cq71, .inl (kA 1, 96, .inl (fun _ => 0))) :: (cq72, .inl (kA 1, 8, .inl (fun _ => 0))) :: (cq73, .inr (8, [.int (-1), .int (Int32.ofInt ((0 : Nat) : Int)), .ref cq74])) :: (cq74, .inl (kA 2, 30, .inr (.inl (fun _ => 0)))) :: (cq75, .inr (8, [.int (-1), .int (Int32.ofInt ((0 : Nat) : Int)), .ref cq76])) :: (cq76, .inl (kA 2, 30, .inr (.inl (fun _ => 0)))) :: (cq77, .inr (8, [.int (-1), .int (Int32.ofInt ((0 : Nat) : Int)), .ref cq78])) :: (cq78, .inl (kA 2, 30, .inr (.inl (fun _ => 0)))) :: (cq79, .inr (8, [.int (-1), .int (Int32.ofInt ((0 : Nat) : Int)), .ref cq80])) :: (cq80, .inl (kA 2, 30, .inr (.inl (fun _ => 0)))) :: [])) rfl ?_
    refine xi_astore C 1 (lv2 := [(1, .ref x0), (0, .ref b)]) dL_law_7 rfl (by decide) rfl ?_
    refine xi_new (ci := 10) (C9 := RX11) (N9 := 29) C rfl rfl dL_law_8 (by decide) gi73 gi68 gi69 (by exact Nat.le_of_ble_eq_true rfl) (by exact Nat.le_of_ble_eq_true rfl) (fun y0 => ?_)
    refine xi_dup C dL_law_11 rfl ?_
    refine xi_callI (As := []) (wr := ((x0, .inr (9, [.ref cq1, .int (Int32.ofInt ((0 : Nat) : Int)), .int (Int32.ofInt ((0 : Nat) : Int)), .int (-1), .ref cq2, .ref cq10, .ref cq18, .ref cq19, .ref cq20, .ref cq21, .ref cq22, .ref cq36, .ref cq39, .ref cq46, .ref cq48])) :: (cq1, .inl (kA 1, 700, .inl (fun _ => 0))) :: (cq2, .inr (7, [.int (Int32.ofInt ((0 : Nat) : Int)), .int (Int32.ofInt ((0 : Nat) : Int)), .int (Int32.ofInt ((0 : Nat) : Int)), .int (Int32.ofInt ((0 : Nat) : Int)), .ref cq3, .ref cq6, .ref cq7, .ref cq8, .ref cq9])) :: (cq3, .inr (1, [.ref cq4])) :: (cq4, .inl (kA 2, 25, .inr (.inl cf5))) :: (cq6, .inl (kA 1, 8, .inl (fun _ => 0))) :: (cq7, .inl (kA 1, 40, .inl (fun _ => 0))) :: (cq8, .inl (kA 1, 96, .inl (fun _ => 0))) :: (cq9, .inl (kA 1, 8, .inl (fun _ => 0))) :: (cq10, .inr (7, [.int (Int32.ofInt ((0 : Nat) : Int)), .int (Int32.ofInt ((0 : Nat) : Int)), .int (Int32.ofInt ((0 : Nat) : Int)), .int (Int32.ofInt ((0 : Nat) : Int)), .ref cq11, .ref cq14, .ref cq15, .ref cq16, .ref cq17])) :: (cq11, .inr (1, [.ref cq12])) :: (cq12, .inl (kA 2, 25, .inr (.inl cf13))) :: (cq14, .inl (kA 1, 8, .inl (fun _ => 0))) :: (cq15, .inl (kA 1, 40, .inl (fun _ => 0))) :: (cq16, .inl (kA 1, 96, .inl (fun _ => 0))) :: (cq17, .inl (kA 1, 8, .inl (fun _ => 0))) :: (cq18, .inl (kA 4, 3, .inr (.inr (.inr (.inr (va_up (va_up (va_up (fun _ => none) (Int32.ofInt ((0 : Nat) : Int)).toNatClampNeg (some cq49)) (Int32.ofInt ((1 : Nat) : Int)).toNatClampNeg (some cq57)) (Int32.ofInt ((2 : Nat) : Int)).toNatClampNeg (some cq65))))))) :: (cq19, .inl (kA 3, 3, .inl (fun _ => 0))) :: (cq20, .inl (kA 5, 4, .inr (.inr (.inr (.inr (va_up (va_up (va_up (va_up (fun _ => none) (Int32.ofInt ((0 : Nat) : Int)).toNatClampNeg (some cq73)) (Int32.ofInt ((1 : Nat) : Int)).toNatClampNeg (some cq75)) (Int32.ofInt ((2 : Nat) : Int)).toNatClampNeg (some cq77)) (Int32.ofInt ((3 : Nat) : Int)).toNatClampNeg (some cq79))))))) :: (cq21, .inl (kA 1, 8, .inl (fun _ => 0))) :: (cq22, .inr (4, [.int (Int32.ofInt ((0 : Nat) : Int)), .int (-1), .ref cq23, .ref cq31, .int (Int32.ofInt ((0 : Nat) : Int))])) :: (cq23, .inr (7, [.int (Int32.ofInt ((0 : Nat) : Int)), .int (Int32.ofInt ((0 : Nat) : Int)), .int (Int32.ofInt ((0 : Nat) : Int)), .int (Int32.ofInt ((0 : Nat) : Int)), .ref cq24, .ref cq27, .ref cq28, .ref cq29, .ref cq30])) :: (cq24, .inr (1, [.ref cq25])) :: (cq25, .inl (kA 2, 25, .inr (.inl cf26))) :: (cq27, .inl (kA 1, 8, .inl (fun _ => 0))) :: (cq28, .inl (kA 1, 40, .inl (fun _ => 0))) :: (cq29, .inl (kA 1, 96, .inl (fun _ => 0))) :: (cq30, .inl (kA 1, 8, .inl (fun _ => 0))) :: (cq31, .inr (6, [.ref cq32, .ref cq33, .ref cq34, .ref cq35, .int (Int32.ofInt ((0 : Nat) : Int)), .int (Int32.ofInt ((0 : Nat) : Int)), .int (Int32.ofInt ((0 : Nat) : Int))])) :: (cq32, .inl (kA 1, 700, .inl (fun _ => 0))) :: (cq33, .inl (kA 1, 701, .inl (fun _ => 0))) :: (cq34, .inl (kA 1, 701, .inl (fun _ => 0))) :: (cq35, .inl (kA 1, 701, .inl (fun _ => 0))) :: (cq36, .inr (3, [.int (Int32.ofInt ((0 : Nat) : Int)), .ref cq37, .ref cq38])) :: (cq37, .inl (kA 2, 384, .inr (.inl (fun _ => 0)))) :: (cq38, .inl (kA 2, 384, .inr (.inl (fun _ => 0)))) :: (cq39, .inr (5, [.int (Int32.ofInt ((0 : Nat) : Int)), .int (Int32.ofInt ((0 : Nat) : Int)), .int (Int32.ofInt ((0 : Nat) : Int)), .ref cq40, .ref cq41, .ref cq42, .ref cq43, .ref cq44])) :: (cq40, .inl (kA 1, 24310, .inl (fun _ => 0))) :: (cq41, .inl (kA 2, 380, .inr (.inl (fun _ => 0)))) :: (cq42, .inl (kA 1, 6, .inl (fun _ => 0))) :: (cq43, .inl (kA 1, 6, .inl (fun _ => 0))) :: (cq44, .inl (kA 1, 90, .inl cf45)) :: (cq46, .inr (0, [.ref cq47])) :: (cq47, .inl (kA 1, 4, .inl (fun _ => 0))) :: (cq48, .inr (2, [.int (Int32.ofInt ((0 : Nat) : Int))])) :: (cq49, .inr (7, [.int (Int32.ofInt ((0 : Nat) : Int)), .int (Int32.ofInt ((0 : Nat) : Int)), .int (Int32.ofInt ((0 : Nat) : Int)), .int (Int32.ofInt ((0 : Nat) : Int)), .ref cq50, .ref cq53, .ref cq54, .ref cq55, .ref cq56])) :: (cq50, .inr (1, [.ref cq51])) :: (cq51, .inl (kA 2, 25, .inr (.inl cf52))) :: (cq53, .inl (kA 1, 8, .inl (fun _ => 0))) :: (cq54, .inl (kA 1, 40, .inl (fun _ => 0))) :: (cq55, .inl (kA 1, 96, .inl (fun _ => 0))) :: (cq56, .inl (kA 1, 8, .inl (fun _ => 0))) :: (cq57, .inr (7, [.int (Int32.ofInt ((0 : Nat) : Int)), .int (Int32.ofInt ((0 : Nat) : Int)), .int (Int32.ofInt ((0 : Nat) : Int)), .int (Int32.ofInt ((0 : Nat) : Int)), .ref cq58, .ref cq61, .ref cq62, .ref cq63, .ref cq64])) :: (cq58, .inr (1, [.ref cq59])) :: (cq59, .inl (kA 2, 25, .inr (.inl cf60))) :: (cq61, .inl (kA 1, 8, .inl (fun _ => 0))) :: (cq62, .inl (kA 1, 40, .inl (fun _ => 0))) :: (cq63, .inl (kA 1, 96, .inl (fun _ => 0))) :: (cq64, .inl (kA 1, 8, .inl (fun _ => 0))) :: (cq65, .inr (7, [.int (Int32.ofInt ((0 : Nat) : Int)), .int (Int32.ofInt ((0 : Nat) : Int)), .int (Int32.ofInt ((0 : Nat) : Int)), .int (Int32.ofInt ((0 : Nat) : Int)), .ref cq66, .ref cq69, .ref cq70, .ref cq71, .ref cq72])) :: (cq66, .inr (1, [.ref cq67])) :: (cq67, .inl (kA 2, 25, .inr (.inl cf68))) :: (cq69, .inl (kA 1, 8, .inl (fun _ => 0))) :: (cq70, .inl (kA 1, 40, .inl (fun _ => 0))) :: (cq71, .inl (kA 1, 96, .inl (fun _ => 0))) :: (cq72, .inl (kA 1, 8, .inl (fun _ => 0))) :: (cq73, .inr (8, [.int (-1), .int (Int32.ofInt ((0 : Nat) : Int)), .ref cq74])) :: (cq74, .inl (kA 2, 30, .inr (.inl (fun _ => 0)))) :: (cq75, .inr (8, [.int (-1), .int (Int32.ofInt ((0 : Nat) : Int)), .ref cq76])) :: (cq76, .inl (kA 2, 30, .inr (.inl (fun _ => 0)))) :: (cq77, .inr (8, [.int (-1), .int (Int32.ofInt ((0 : Nat) : Int)), .ref cq78])) :: (cq78, .inl (kA 2, 30, .inr (.inl (fun _ => 0)))) :: (cq79, .inr (8, [.int (-1), .int (Int32.ofInt ((0 : Nat) : Int)), .ref cq80])) :: (cq80, .inl (kA 2, 30, .inr (.inl (fun _ => 0)))) :: [])) (wc := (y0, .inr (10, dflV 10)) :: []) (S := [.ref y0]) (na := 0) C dL_law_12 (i_X11 y0) rfl gi75 gi70 gi71 gi69 ⟨by decide, by decide, rfl⟩ rfl (by exact Nat.le_of_ble_eq_true rfl) (by exact Nat.le_of_ble_eq_true rfl) (by exact Nat.le_of_ble_eq_true rfl) (by exact Nat.le_of_ble_eq_true rfl) (by exact Nat.le_of_ble_eq_true rfl) (fun w1 hw1 => ?_)
    obtain ⟨mq1, mq2, mq3, mq4, mq5, mq6, mq7, mq8, mq9, mq10, mq11, mq12, mq13, mf14, mf15, hh7, hh8, rfl⟩ := hw1
    refine xi_astore C 2 (lv2 := [(2, .ref y0), (1, .ref x0), (0, .ref b)]) dL_law_15 rfl (by decide) rfl ?_
    refine xi_iconst C (Int32.ofInt ((1 : Nat) : Int)) dL_law_16 rfl ?_
    refine xi_newJ C 1 dL_law_17 (i_nn (a := 1) (by decide)) (i_cl (a := 1) (by decide)) (by exact Nat.le_of_ble_eq_true rfl) (by exact Nat.le_of_ble_eq_true rfl) (by exact Nat.le_of_ble_eq_true rfl) (fun o0 => ?_)
    refine xi_w (w2 := W23 kA x0 y0 o0 cq1 cq2 cq3 cq4 cq6 cq7 cq8 cq9 cq10 cq11 cq12 cq14 cq15 cq16 cq17 cq18 cq19 cq20 cq21 cq22 cq23 cq24 cq25 cq27 cq28 cq29 cq30 cq31 cq32 cq33 cq34 cq35 cq36 cq37 cq38 cq39 cq40 cq41 cq42 cq43 cq44 cq46 cq47 cq48 cq49 cq50 cq51 cq53 cq54 cq55 cq56 cq57 cq58 cq59 cq61 cq62 cq63 cq64 cq65 cq66 cq67 cq69 cq70 cq71 cq72 cq73 cq74 cq75 cq76 cq77 cq78 cq79 cq80 mq1 mq2 mq3 mq4 mq5 mq6 mq7 mq8 mq9 mq10 mq11 mq12 mq13 cf5 cf13 cf26 cf45 cf52 cf60 cf68 mf14 mf15) rfl ?_
    refine xi_astore C 3 (lv2 := [(3, .ref o0), (2, .ref y0), (1, .ref x0), (0, .ref b)]) dL_law_19 rfl (by decide) rfl ?_
    refine xi_iconst C 0 dL_law_20 rfl ?_
    refine xi_istore4 C 4 (lv2 := [(4, .int 0), (3, .ref o0), (2, .ref y0), (1, .ref x0), (0, .ref b)]) dL_law_21 (by decide) rfl ?_
    exact at_23 l hflags hL C00 hEI hEN hh0 hh1 hh2 hh3 hh4 hh5 hh6 hh7 hh8
  rw [lg_entry_eq]
  exact key s.heap [] _ (fun k q h => nomatch h) ⟨fun i j x y h => (nomatch h), fun k q h => (nomatch h)⟩ va_S.rf (lv_entry [Value.ref b] (Nat.le_of_ble_eq_true rfl))
