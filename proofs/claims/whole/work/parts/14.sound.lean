/-! WHAT THE MACHINE GIVES beside the world: statics, constants, words; the judgement XM; contracts Ct -/
def EN (K : KT) (A : Nat → Prop) (U : State) (H : Heap) : Prop :=
  vx_Zq Bundle.tN "UNASSIGNED_STACK" Bundle.steD A U H ∧ vx_Zq Bundle.tN "SUPPRESSED_SENTINEL" Bundle.listD A U H ∧
  (∀ k, k < SLen.length → va_O "java/lang/String" (K.2.2.1 (1000 + k)) A U H ∧ va_OF "java/lang/String" "coder" "B" (.int 0) (K.2.2.1 (1000 + k)) A U H ∧ va_OF "java/lang/String" "value" "[B" (.ref (K.2.2.1 (2000 + k))) (K.2.2.1 (1000 + k)) A U H ∧ va_T .byte (K.2.2.1 (2000 + k)) (SLen.getD k 0) (fun j => .int (Int32.ofInt (schr k j))) A U H) ∧
  va_Z "PrimeCoins$Numbers" "PRIMES" "[I" (.ref (K.2.2.1 3000)) A U H ∧ va_T .int (K.2.2.1 3000) 25 (fun j => .int (Int32.ofInt (prm j))) A U H ∧
  va_Z "java/lang/String" "COMPACT_STRINGS" "Z" (.int 1) A U H ∧
  va_Z "jdk/internal/util/Preconditions" "SIOOBE_FORMATTER" "Ljava/util/function/BiFunction;" K.2.2.2 A U H ∧ (K.2.2.2 = .null ∨ ∃ a, K.2.2.2 = .ref a) ∧
  (∀ j q, STl[j]? = some q → vk_R (ownN q.1) q.2.1 q.2.2 (K.2.2.1 (1000 + j)) U) ∧ (∀ w ∈ NGW, va_Nw w U)
theorem ngw_warm {s U : State} (hW : s.WarmedH U.vm) (h : ∀ w ∈ NGW, va_Nw w s) : ∀ w ∈ NGW, va_Nw w U := by
  have hd : ∀ x : MethodName, va_Nw (.declares x) s → va_Nw (.declares x) U := fun x hZ => va_tabs rfl (rfl : (s.setVm U.vm).vm = U.vm) (by rw [Cond.declares_setVm hW.alike]; exact hZ)
  intro w hw
  have h1 := h w hw
  unfold NGW at hw
  simp only [List.mem_cons, List.not_mem_nil, or_false] at hw
  rcases hw with rfl | rfl | rfl | rfl | rfl | rfl | rfl
  · exact va_Nw.warmC hW h1
  · exact va_Nw.warmC hW h1
  · exact va_Nw.warmC hW h1
  · exact va_Nw.warmC hW h1
  · exact hd _ h1
  · exact hd _ h1
  · exact hd _ h1
theorem EN.to {K : KT} {A B : Nat → Prop} {s U : State} {H H1 : Heap} (hW : s.WarmedH U.vm) (hq : ∀ a : Nat, a < H.size → ¬ A a → H1[a]? = H[a]?) (hAB : ∀ q, B q → A q) (h : EN K A s H) : EN K B U H1 := by
  obtain ⟨h1, h2, h3, h4, h5, h6, h7, h8, h9, h10⟩ := h
  have ha := hW.alike
  exact ⟨((h1.moved ha).kept hq).narrow hAB, ((h2.moved ha).kept hq).narrow hAB, fun k hk => ⟨(((h3 k hk).1.moved ha).kept hq).narrow hAB, (((h3 k hk).2.1.moved ha).kept hq).narrow hAB, (((h3 k hk).2.2.1.moved ha).kept hq).narrow hAB, (((h3 k hk).2.2.2.moved ha).kept hq).narrow hAB⟩,
    ((h4.moved ha).kept hq).narrow hAB, ((h5.moved ha).kept hq).narrow hAB, ((h6.moved ha).kept hq).narrow hAB, ((h7.moved ha).kept hq).narrow hAB, h8, fun j q hj => vk_R.warm hW (h9 j q hj), ngw_warm hW h10⟩
def mcO (r : Rs) : Nat := match r with | .inl _ => 0 | .inr _ => 1
def msO (r : Rs) : Nat := match r with | .inl _ => 0 | .inr _ => 6
def rmO (d : Nat) (r : Rs) : Room := { frames := 12 + d, cells := mcO r, slots := msO r, locals := 160 + 40 * d }
def wM (y : Nat) : List Cond := .code (mY y) (mC y) (mL y) (mR y) :: GB
def Wd (K : KT) (σ : Sg) (sz : Nat) (U : State) : Prop := va_P K.1 vwCl (WS K σ) U.heap ∧ va_K K.1 vwCl (tysK K) U ∧ va_D (AA K sz) (WS K σ) ∧ EN K (AA K sz) U U.heap
def okRs (r : Rs) : Prop := match r with | .inl vs => okL vs | .inr E => 1 ≤ E ∧ E ≤ 4
def QcO (K : KT) (σ' : Sg) (r : Rs) (sz : Nat) : Array Value → State → Outcome → State → Prop := fun _ st o t => (∃ vs, r = .inl vs ∧ okS σ' ∧ okL vs ∧ ((vs = [] ∧ o = .returned none) ∨ ∃ v, vs = [v] ∧ o = .returned (some (cv K v))) ∧ va_P K.1 vwCl (WS K σ') t.heap) ∧ va_F (AA K sz) st t
def XCO (K : KT) (σ' : Sg) (r : Rs) (sz : Nat) : String → State → State → Prop := fun E st t => (∃ k, r = .inr k ∧ okS σ' ∧ (1 ≤ k ∧ k ≤ 4) ∧ E = excN k ∧ va_P K.1 vwCl (WS K σ') t.heap) ∧ va_F (AA K sz) st t
/-- THE CONTRACT of method y: called with As over the memory σ it ends with r and the memory σ' -/
def Ct (d y : Nat) (As : List Vv) (σ : Sg) (r : Rs) (σ' : Sg) : Prop :=
  okL As → okS σ → ∃ d', d' ≤ d ∧ ∀ (l : Launch) (K : KT) (sz : Nat), l.stackTraces = false →
    vx_Met l (mY y) (wM y) (rmO d' r) (va_Pc (As.map (cv K)) (fun U => U.heap.size = sz ∧ Wd K σ sz U)) (QcO K σ' r sz) (XCO K σ' r sz) (mcO r) (msO r) (AA K sz)
theorem Ct.mono {d d2 y : Nat} {As : List Vv} {σ σ' : Sg} {r : Rs} (h : Ct d y As σ r σ') (hd : d ≤ d2) : Ct d2 y As σ r σ' := fun h1 h2 => by
  obtain ⟨d', hd', k⟩ := h h1 h2
  exact ⟨d', Nat.le_trans hd' hd, k⟩
def HL (K : KT) (ls : Array Slot) (nL : Nat) (L : List Vv) : Prop := ls.size = nL ∧ lv_wf ls ∧ ∀ j, (lg L j).1 ≠ 9 → ls[j]? = some (.val (cv K (lg L j)))
def toL (K : KT) (L : List Vv) : List (Nat × Value) := (List.range L.length).filterMap (fun j => if (lg L j).1 = 9 then none else some (j, cv K (lg L j)))
theorem lg_out : ∀ {L : List Vv} {j : Nat}, L.length ≤ j → lg L j = uV := by
  intro L
  induction L with
  | nil => intro j _; rfl
  | cons v L ih =>
    intro j hj
    cases j with
    | zero => simp at hj
    | succ j => exact ih (by simp at hj; omega)
theorem HL.to {K : KT} {ls : Array Slot} {nL : Nat} {L : List Vv} (h : HL K ls nL L) : lv_has ls nL (toL K L) := by
  refine ⟨h.1, h.2.1, fun q hq => ?_⟩
  unfold toL at hq
  obtain ⟨j, -, hj⟩ := List.mem_filterMap.mp hq
  by_cases h9 : (lg L j).1 = 9
  · rw [if_pos h9] at hj; cases hj
  · rw [if_neg h9] at hj
    cases hj
    exact h.2.2 j h9
theorem toL_mem {K : KT} {L : List Vv} {j : Nat} (h : (lg L j).1 ≠ 9) : (j, cv K (lg L j)) ∈ toL K L := by
  unfold toL
  refine List.mem_filterMap.mpr ⟨j, List.mem_range.mpr ?_, by rw [if_neg h]⟩
  by_cases hj : j < L.length
  · exact hj
  · exact absurd (by rw [lg_out (Nat.not_lt.mp hj)]) h
theorem ls1_len : ∀ (L : List Vv) (i : Nat) (v : Vv), (ls1 L i v).length = L.length := by
  intro L
  induction L with
  | nil => intro i v; rfl
  | cons w L ih =>
    intro i v
    match i with
    | 0 => rfl
    | 1 => show (unl w :: ls1 L 0 v).length = _; rw [List.length_cons, ih]; rfl
    | i + 2 => show (w :: ls1 L (i + 1) v).length = _; rw [List.length_cons, ih]; rfl
theorem lg_ls1 : ∀ (L : List Vv) (i j : Nat) (v : Vv), lg (ls1 L i v) j = if j = i then (if i < L.length then v else uV) else if j + 1 = i then unl (lg L j) else lg L j := by
  intro L
  induction L with
  | nil =>
    intro i j v
    show uV = _
    by_cases h : j = i
    · rw [if_pos h, if_neg (by simp)]
    · rw [if_neg h]
      by_cases h2 : j + 1 = i
      · rw [if_pos h2]; rfl
      · rw [if_neg h2]; rfl
  | cons w L ih =>
    intro i j v
    match i with
    | 0 =>
      show lg (v :: L) j = _
      cases j with
      | zero => simp [lg]
      | succ j => simp [lg]
    | 1 =>
      show lg (unl w :: ls1 L 0 v) j = _
      cases j with
      | zero => simp [lg]
      | succ j =>
        show lg (ls1 L 0 v) j = _
        rw [ih]
        by_cases h : j = 0
        · subst h; simp [lg]
        · rw [if_neg h, if_neg (by omega), if_neg (by omega), if_neg (by omega)]; rfl
    | i + 2 =>
      show lg (w :: ls1 L (i + 1) v) j = _
      cases j with
      | zero => simp [lg]
      | succ j =>
        show lg (ls1 L (i + 1) v) j = _
        rw [ih]
        simp [lg, show (i + 2 < L.length + 1) = (i + 1 < L.length) from propext ⟨fun h => by omega, fun h => by omega⟩]
theorem unl_9 {v : Vv} (h : (unl v).1 ≠ 9) : unl v = v ∧ v.1 ≠ 1 := by
  unfold unl at h ⊢
  cases hb : Nat.beq v.1 1 with
  | true => rw [hb] at h; exact absurd rfl h
  | false => exact ⟨rfl, fun q => by rw [q] at hb; cases hb⟩
theorem cv_cat {K : KT} (hK : K.2.2.2 = .null ∨ ∃ a, K.2.2.2 = .ref a) {v : Vv} : (cv K v).category = catV v := by
  unfold cv catV
  split
  · rename_i h; rw [h]; rfl
  · rename_i h; rw [h]; rfl
  · rename_i h
    rw [h, if_neg (by decide)]
    rcases hK with h | ⟨a, h⟩ <;> rw [h] <;> rfl
  · rename_i h0 h1 h33
    rw [if_neg (fun q => h1 q)]
    rfl
theorem HL.store1 {K : KT} (hK : K.2.2.2 = .null ∨ ∃ a, K.2.2.2 = .ref a) {ls' : Array Slot} {nL i : Nat} {L : List Vv} {v : Vv} (hi : i < L.length)
    (h : lv_has ls' nL ((i, cv K v) :: (toL K L).filter (fun q => !(q.1 == i) && !(q.1 + 1 == i && q.2.category == 2)))) : HL K ls' nL (ls1 L i v) := by
  refine ⟨h.1, h.2.1, fun j hj => ?_⟩
  rw [lg_ls1] at hj ⊢
  by_cases e1 : j = i
  · rw [if_pos e1, if_pos hi] at hj ⊢
    rw [e1]
    exact h.2.2 (i, cv K v) List.mem_cons_self
  · rw [if_neg e1] at hj ⊢
    by_cases e2 : j + 1 = i
    · rw [if_pos e2] at hj ⊢
      obtain ⟨u1, u2⟩ := unl_9 hj
      rw [u1] at hj ⊢
      refine h.2.2 (j, cv K (lg L j)) (List.mem_cons_of_mem _ (List.mem_filter.mpr ⟨toL_mem hj, ?_⟩))
      have : (cv K (lg L j)).category = 1 := by rw [cv_cat hK]; unfold catV; rw [if_neg u2]
      simp [e1, this]
    · rw [if_neg e2] at hj ⊢
      refine h.2.2 (j, cv K (lg L j)) (List.mem_cons_of_mem _ (List.mem_filter.mpr ⟨toL_mem hj, ?_⟩))
      simp [e1, e2]
theorem HL.store2 {K : KT} (hK : K.2.2.2 = .null ∨ ∃ a, K.2.2.2 = .ref a) {ls' : Array Slot} {nL i : Nat} {L : List Vv} {v : Vv} (hi : i + 1 < L.length)
    (h : lv_has ls' nL ((i, cv K v) :: (toL K L).filter (fun q => !(q.1 == i) && (!(q.1 == i + 1) && !(q.1 + 1 == i && q.2.category == 2))))) : HL K ls' nL (ls1 (ls1 L (i + 1) uV) i v) := by
  have key : ∀ j, lg (ls1 (ls1 L (i + 1) uV) i v) j = if j = i then v else if j = i + 1 then uV else if j + 1 = i then unl (lg L j) else lg L j := fun j => by
    rw [lg_ls1, ls1_len, lg_ls1]
    by_cases e1 : j = i
    · rw [if_pos e1, if_pos e1, if_pos (by omega)]
    · by_cases e3 : j = i + 1
      · subst e3
        simp [show ¬ (i + 1 = i) by omega, show ¬ (i + 1 + 1 = i) by omega, hi]
      · rw [if_neg e1, if_neg e1, if_neg e3, if_neg e3, if_neg (show ¬ j + 1 = i + 1 by omega)]
  refine ⟨h.1, h.2.1, fun j hj => ?_⟩
  rw [key] at hj ⊢
  by_cases e1 : j = i
  · rw [if_pos e1] at hj ⊢
    rw [e1]
    exact h.2.2 (i, cv K v) List.mem_cons_self
  · rw [if_neg e1] at hj ⊢
    by_cases e3 : j = i + 1
    · rw [if_pos e3] at hj
      exact absurd rfl hj
    · rw [if_neg e3] at hj ⊢
      by_cases e2 : j + 1 = i
      · rw [if_pos e2] at hj ⊢
        obtain ⟨u1, u2⟩ := unl_9 hj
        rw [u1] at hj ⊢
        refine h.2.2 (j, cv K (lg L j)) (List.mem_cons_of_mem _ (List.mem_filter.mpr ⟨toL_mem hj, ?_⟩))
        have : (cv K (lg L j)).category = 1 := by rw [cv_cat hK]; unfold catV; rw [if_neg u2]
        simp [e1, e3, this]
      · rw [if_neg e2] at hj ⊢
        refine h.2.2 (j, cv K (lg L j)) (List.mem_cons_of_mem _ (List.mem_filter.mpr ⟨toL_mem hj, ?_⟩))
        simp [e1, e2, e3]
theorem okc {v : Vv} {S : List Vv} (h : okV v) (hS : okL S) : okL (v :: S) := fun w hw => by
  rcases List.mem_cons.mp hw with rfl | hw
  · exact h
  · exact hS w hw
theorem okh {v : Vv} {S : List Vv} (h : okL (v :: S)) : okV v := h v List.mem_cons_self
theorem okt {v : Vv} {S : List Vv} (h : okL (v :: S)) : okL S := fun w hw => h w (List.mem_cons_of_mem _ hw)
theorem ok_lg : ∀ {L : List Vv} (j : Nat), okL L → okV (lg L j) := by
  intro L
  induction L with
  | nil => intro j _; trivial
  | cons v L ih =>
    intro j h
    cases j with
    | zero => exact okh h
    | succ j => exact ih j (okt h)
theorem ok_unl {v : Vv} (h : okV v) : okV (unl v) := by
  unfold unl
  cases Nat.beq v.1 1 with
  | true => trivial
  | false => exact h
theorem ok_ls1 : ∀ {L : List Vv} {i : Nat} {v : Vv}, okL L → okV v → okL (ls1 L i v) := by
  intro L
  induction L with
  | nil => intro i v h _; exact h
  | cons w L ih =>
    intro i v h hv
    match i with
    | 0 => exact okc hv (okt h)
    | 1 => exact okc (ok_unl (okh h)) (ih (okt h) hv)
    | i + 2 => exact okc (okh h) (ih (okt h) hv)
theorem ok_i {z : Int} : okV (iV z) ↔ in32 z := Iff.rfl
theorem ok_l {z : Int} : okV (lV z) ↔ in64 z := Iff.rfl
theorem ok_r {t a : Nat} (h : 10 ≤ t) : okV (rV t a) ↔ okR t a := by
  unfold okV
  split <;> simp_all
theorem skd_or (a j : Nat) : skd a j = 1 ∨ skd a j ≠ 1 := by omega
theorem okS_ups {σ : Sg} {a j : Nat} {z : Int} (h : okS σ) (hz : if skd a j = 1 then in64 z else in32 z) : okS (upS σ a j z) := by
  intro b k hb
  unfold upS
  by_cases e : b = a ∧ k = j
  · have h1 : (if b = a ∧ k = j then z else σ b k) = z := if_pos e
    rw [h1, e.1, e.2]; exact hz
  · have h1 : (if b = a ∧ k = j then z else σ b k) = σ b k := if_neg e
    rw [h1]; exact h b k hb
theorem okS_cps {σ : Sg} {a sp b dp n : Nat} (h : okS σ) (ha : a < 88) (hk : ∀ i j, skd a i = skd b j) : okS (cpS σ a sp b dp n) := by
  intro c k hc
  unfold cpS
  by_cases e : c = b ∧ dp ≤ k ∧ k < dp + n
  · have h1 : (if c = b ∧ dp ≤ k ∧ k < dp + n then σ a (sp + (k - dp)) else σ c k) = σ a (sp + (k - dp)) := if_pos e
    rw [h1, e.1, ← hk (sp + (k - dp)) k]; exact h a _ (Nat.lt_succ_of_lt ha)
  · have h1 : (if c = b ∧ dp ≤ k ∧ k < dp + n then σ a (sp + (k - dp)) else σ c k) = σ c k := if_neg e
    rw [h1]; exact h c k hc
theorem skd_arr {a : Nat} (h : 1000 ≤ TY a) (j : Nat) : skd a j = if TY a / 1000000 = 2 then 1 else 0 := by
  unfold skd
  rw [if_neg (by omega)]
theorem okR_w {t a : Nat} (h : okR t a) (h1 : t ≠ 30) (h2 : t ≠ 31) (h3 : t ≠ 6000025) (h4 : t ≠ 33 ∧ t ≠ 34 ∧ t ≠ 35) : a < 88 ∧ TY a = t := by
  rcases h with h | h | h | h | h | h | h
  · exact h
  · exact absurd h.1 h1
  · exact absurd h.1 h2
  · exact absurd h.1 h3
  · exact absurd h h4.1
  · exact absurd h h4.2.1
  · exact absurd h h4.2.2
theorem cvr {K : KT} {t : Nat} (a : Nat) (h : 10 ≤ t) (h2 : t ≠ 33) : cv K (t, a, (0 : Int)) = .ref (K.2.2.1 a) := cv_r K a h h2
theorem ok_fval {σ : Sg} {ci k a : Nat} (hS : okS σ) (ha : a < 88) (hT : TY a = 10 + ci) (hc : ci < 11) (hk : k < (cTb ci).2.2) : okV (fval ci k σ a) := by
  have h1 := ty_refs a ha (by omega)
  have e : TY a - 10 = ci := by omega
  rw [e] at h1
  have h2 := hS a k (Nat.lt_succ_of_lt ha)
  have hsk : skd a k = fty ci k := by unfold skd; rw [if_pos (by omega), e]
  rw [hsk] at h2
  rcases h1.2.2 k hk with q | q | ⟨q1, q2, q3, q4⟩
  · unfold fval; rw [q] at h2 ⊢; exact h2
  · unfold fval; rw [q] at h2 ⊢; exact h2
  · unfold fval
    split
    · rename_i h; omega
    · rename_i h; omega
    · rw [ok_r q1]; exact Or.inl ⟨q3, q4⟩
theorem addP {x : Int} (hx : 0 ≤ x) {pc : Nat} {off : Int} (h : x = (pc : Int) + off) : (pc : Int) + off = ((tgJ pc off : Nat) : Int) := by
  unfold tgJ; omega
section SND
variable {p : Program} {l : Launch} {e : Env} {R : Room} {s : State} {m : MethodId} {args : Array Value} {below : List Frame} {meth : Method} {c : Code} {K : KT} {A : Nat → Prop} {nL cl sl : Nat} {hh : Prop} {Q : State → Prop}
def XM (p : Program) (l : Launch) (e : Env) (R : Room) (s : State) (m : MethodId) (args : Array Value) (below : List Frame) (meth : Method) (c : Code) (K : KT) (A : Nat → Prop) (nL cl sl : Nat) (Q : State → Prop) (pc : Nat) (L S : List Vv) (σ : Sg) : Prop :=
  L.length = nL → okL L → okL S → okS σ → ∀ (H : Heap) (locs : List Loc) (ls : Array Slot), va_P K.1 vwCl (WS K σ) H → va_S A s.heap H locs → HL K ls nL L → W p l e R s m args below meth c H locs cl sl Q (F0 m pc ls (S.map (cv K)))
def Cx (p : Program) (l : Launch) (s : State) (m : MethodId) (args : Array Value) (meth : Method) (c : Code) (K : KT) (A : Nat → Prop) (nL : Nat) (own : Nat) (cc : ByteArray) (r : Option FieldType) (hh : Prop) : Prop :=
  p.tables.exec = Jvm.exec ∧ c.code = cc ∧ c.maxLocals = nL ∧ s.vm.findClass (ownN own) = some m.cls ∧ (∀ w ∈ GB, w.before args s = true) ∧ va_K K.1 vwCl (tysK K) s ∧ (∀ σ, va_D A (WS K σ)) ∧ EN K A s s.heap ∧ A = AA K s.heap.size ∧ meth.locks = false ∧ meth.sig.returnType = r ∧ l.stackTraces = false ∧ (hh → ∀ x ∈ c.exceptionTable.toList, False)
variable {own : Nat} {cc : ByteArray} {r : Option FieldType} {pc : Nat} {L S : List Vv} {σ : Sg}

theorem xs_iconst (C : Cx p l s m args meth c K A nL own cc r hh) {z : Int} (hd : decode cc pc = .ok (.iconst z, 1)) (h : XM p l e R s m args below meth c K A nL cl sl Q (pc + 1) L (iV (w32 z) :: S) σ) : XM p l e R s m args below meth c K A nL cl sl Q pc L (S) σ := by
  obtain ⟨hx, hb, hml, hown, hts, hK, hD, hE, hA, hlk, hr, hst, hnt⟩ := C
  intro hn hL hS hO H locs ls hP hSS hl
  refine lv_iconst (v := Int32.ofInt (w32 z)) hx hb hd (w32_of z).symm ?_
  exact h hn hL (okc (w32_in z) hS) hO H locs ls hP hSS hl
theorem w8_of (z : Int) : (Int8.ofInt z).toInt32 = Int32.ofInt (w8 z) := by
  apply Int32.toInt_inj.mp
  rw [i32_to (by unfold in32 w8; omega), Int8.toInt_toInt32, Int8.toInt_ofInt]
  unfold w8
  simp only [Int.bmod, Int8.size]
  omega
theorem w16_of (z : Int) : (Int16.ofInt z).toInt32 = Int32.ofInt (w16 z) := by
  apply Int32.toInt_inj.mp
  rw [i32_to (by unfold in32 w16; omega), Int16.toInt_toInt32, Int16.toInt_ofInt]
  unfold w16
  simp only [Int.bmod, Int16.size]
  omega
theorem w8_32 (z : Int) : in32 (w8 z) := by unfold in32 w8; omega
theorem w16_32 (z : Int) : in32 (w16 z) := by unfold in32 w16; omega
theorem xs_bipush (C : Cx p l s m args meth c K A nL own cc r hh) {z : Int} (hd : decode cc pc = .ok (.bipush z, 2)) (h : XM p l e R s m args below meth c K A nL cl sl Q (pc + 2) L (iV (w8 z) :: S) σ) : XM p l e R s m args below meth c K A nL cl sl Q pc L (S) σ := by
  obtain ⟨hx, hb, hml, hown, hts, hK, hD, hE, hA, hlk, hr, hst, hnt⟩ := C
  intro hn hL hS hO H locs ls hP hSS hl
  refine lv_bipush (v := Int32.ofInt (w8 z)) hx hb hd (w8_of z) ?_
  exact h hn hL (okc (w8_32 z) hS) hO H locs ls hP hSS hl
theorem xs_sipush (C : Cx p l s m args meth c K A nL own cc r hh) {z : Int} (hd : decode cc pc = .ok (.sipush z, 3)) (h : XM p l e R s m args below meth c K A nL cl sl Q (pc + 3) L (iV (w16 z) :: S) σ) : XM p l e R s m args below meth c K A nL cl sl Q pc L (S) σ := by
  obtain ⟨hx, hb, hml, hown, hts, hK, hD, hE, hA, hlk, hr, hst, hnt⟩ := C
  intro hn hL hS hO H locs ls hP hSS hl
  refine lv_sipush (v := Int32.ofInt (w16 z)) hx hb hd (w16_of z) ?_
  exact h hn hL (okc (w16_32 z) hS) hO H locs ls hP hSS hl
theorem xs_lconst (C : Cx p l s m args meth c K A nL own cc r hh) {f : Fin 2} (hd : decode cc pc = .ok (.lconst f, 1)) (h : XM p l e R s m args below meth c K A nL cl sl Q (pc + 1) L (lV ((f : Nat) : Int) :: S) σ) : XM p l e R s m args below meth c K A nL cl sl Q pc L (S) σ := by
  obtain ⟨hx, hb, hml, hown, hts, hK, hD, hE, hA, hlk, hr, hst, hnt⟩ := C
  intro hn hL hS hO H locs ls hP hSS hl
  refine lv_lconst (v := Int64.ofInt ((f : Nat) : Int)) hx hb hd (by rw [Int64.ofInt_eq_ofNat]) ?_
  exact h hn hL (okc (show in64 ((f : Nat) : Int) from by have := f.isLt; unfold in64; omega) hS) hO H locs ls hP hSS hl
theorem xs_ldcI (C : Cx p l s m args meth c K A nL own cc r hh) {k : Nat} (hd : decode cc pc = .ok (.ldc k, 2)) {z : Int} (hk : look (KIt own) k = some z) (h : XM p l e R s m args below meth c K A nL cl sl Q (pc + 2) L (iV z :: S) σ) : XM p l e R s m args below meth c K A nL cl sl Q pc L (S) σ := by
  obtain ⟨hx, hb, hml, hown, hts, hK, hD, hE, hA, hlk, hr, hst, hnt⟩ := C
  intro hn hL hS hO H locs ls hP hSS hl
  have q := conI_ok hk
  refine lv_ldc (v := Int32.ofInt z) hx hb hown (hts _ q.2) hd ?_
  exact h hn hL (okc q.1 hS) hO H locs ls hP hSS hl
theorem xs_ldcwI (C : Cx p l s m args meth c K A nL own cc r hh) {k : Nat} (hd : decode cc pc = .ok (.ldc_w k, 3)) {z : Int} (hk : look (KIt own) k = some z) (h : XM p l e R s m args below meth c K A nL cl sl Q (pc + 3) L (iV z :: S) σ) : XM p l e R s m args below meth c K A nL cl sl Q pc L (S) σ := by
  obtain ⟨hx, hb, hml, hown, hts, hK, hD, hE, hA, hlk, hr, hst, hnt⟩ := C
  intro hn hL hS hO H locs ls hP hSS hl
  have q := conI_ok hk
  refine lv_ldcw (v := Int32.ofInt z) hx hb hown (hts _ q.2) hd ?_
  exact h hn hL (okc q.1 hS) hO H locs ls hP hSS hl
theorem xs_ldc2 (C : Cx p l s m args meth c K A nL own cc r hh) {k : Nat} (hd : decode cc pc = .ok (.ldc2_w k, 3)) {z : Int} (hk : look (KJt own) k = some z) (h : XM p l e R s m args below meth c K A nL cl sl Q (pc + 3) L (lV z :: S) σ) : XM p l e R s m args below meth c K A nL cl sl Q pc L (S) σ := by
  obtain ⟨hx, hb, hml, hown, hts, hK, hD, hE, hA, hlk, hr, hst, hnt⟩ := C
  intro hn hL hS hO H locs ls hP hSS hl
  have q := conJ_ok hk
  refine lv_ldc2 (v := Int64.ofInt z) hx hb hown (hts _ q.2) hd ?_
  exact h hn hL (okc q.1 hS) hO H locs ls hP hSS hl
theorem xs_ldcS (C : Cx p l s m args meth c K A nL own cc r hh) {k : Nat} (hd : decode cc pc = .ok (.ldc k, 2)) {j : Nat} (hk : look (STt own) k = some j) (h : XM p l e R s m args below meth c K A nL cl sl Q (pc + 2) L (rV 30 (1000 + j) :: S) σ) : XM p l e R s m args below meth c K A nL cl sl Q pc L (S) σ := by
  obtain ⟨hx, hb, hml, hown, hts, hK, hD, hE, hA, hlk, hr, hst, hnt⟩ := C
  intro hn hL hS hO H locs ls hP hSS hl
  obtain ⟨t, ht⟩ := str_ok hk
  have hj : j < STl.length := (List.getElem?_eq_some_iff.mp ht).1
  have hSt := hE.2.2.2.2.2.2.2.2.1 j _ ht
  obtain ⟨q9, hq9⟩ : ∃ q, q = 1000 + j := ⟨_, rfl⟩
  rw [← hq9] at h hSt
  have hok : okR 30 q9 := Or.inr (Or.inl ⟨rfl, by omega, by omega⟩)
  have h9 := h hn hL (okc ((ok_r (t := 30) (a := q9) (by decide)).mpr hok) hS) hO H locs ls hP hSS hl
  rw [List.map_cons, cv_r K (t := 30) q9 (by decide) (by decide)] at h9
  exact va_ldcS (q := K.2.2.1 q9) hx hb hown hSt hd h9
theorem xs_iload (C : Cx p l s m args meth c K A nL own cc r hh) {k : Nat} (hd : decode cc pc = .ok (.iload k, 2)) {z : Int} (hk : lg L k = iV z) (h : XM p l e R s m args below meth c K A nL cl sl Q (pc + 2) L (iV z :: S) σ) : XM p l e R s m args below meth c K A nL cl sl Q pc L (S) σ := by
  obtain ⟨hx, hb, hml, hown, hts, hK, hD, hE, hA, hlk, hr, hst, hnt⟩ := C
  intro hn hL hS hO H locs ls hP hSS hl
  have q := hl.2.2 (k : Nat) (by rw [hk]; show (0 : Nat) ≠ 9; decide)
  rw [hk] at q
  refine lv_iload hx hb hd q ?_
  exact h hn hL (okc (by rw [← hk]; exact ok_lg _ hL) hS) hO H locs ls hP hSS hl
theorem xs_iload_n (C : Cx p l s m args meth c K A nL own cc r hh) {k : Fin 4} (hd : decode cc pc = .ok (.iload_n k, 1)) {z : Int} (hk : lg L k = iV z) (h : XM p l e R s m args below meth c K A nL cl sl Q (pc + 1) L (iV z :: S) σ) : XM p l e R s m args below meth c K A nL cl sl Q pc L (S) σ := by
  obtain ⟨hx, hb, hml, hown, hts, hK, hD, hE, hA, hlk, hr, hst, hnt⟩ := C
  intro hn hL hS hO H locs ls hP hSS hl
  have q := hl.2.2 (k : Nat) (by rw [hk]; show (0 : Nat) ≠ 9; decide)
  rw [hk] at q
  refine lv_iload_n (i := (k : Nat)) hx hb hd rfl q ?_
  exact h hn hL (okc (by rw [← hk]; exact ok_lg _ hL) hS) hO H locs ls hP hSS hl
theorem xs_lload (C : Cx p l s m args meth c K A nL own cc r hh) {k : Nat} (hd : decode cc pc = .ok (.lload k, 2)) {z : Int} (hk : lg L k = lV z) (h : XM p l e R s m args below meth c K A nL cl sl Q (pc + 2) L (lV z :: S) σ) : XM p l e R s m args below meth c K A nL cl sl Q pc L (S) σ := by
  obtain ⟨hx, hb, hml, hown, hts, hK, hD, hE, hA, hlk, hr, hst, hnt⟩ := C
  intro hn hL hS hO H locs ls hP hSS hl
  have q := hl.2.2 (k : Nat) (by rw [hk]; show (1 : Nat) ≠ 9; decide)
  rw [hk] at q
  refine lv_lload hx hb hd q ?_
  exact h hn hL (okc (by rw [← hk]; exact ok_lg _ hL) hS) hO H locs ls hP hSS hl
theorem xs_lload_n (C : Cx p l s m args meth c K A nL own cc r hh) {k : Fin 4} (hd : decode cc pc = .ok (.lload_n k, 1)) {z : Int} (hk : lg L k = lV z) (h : XM p l e R s m args below meth c K A nL cl sl Q (pc + 1) L (lV z :: S) σ) : XM p l e R s m args below meth c K A nL cl sl Q pc L (S) σ := by
  obtain ⟨hx, hb, hml, hown, hts, hK, hD, hE, hA, hlk, hr, hst, hnt⟩ := C
  intro hn hL hS hO H locs ls hP hSS hl
  have q := hl.2.2 (k : Nat) (by rw [hk]; show (1 : Nat) ≠ 9; decide)
  rw [hk] at q
  refine lv_lload_n (i := (k : Nat)) hx hb hd rfl q ?_
  exact h hn hL (okc (by rw [← hk]; exact ok_lg _ hL) hS) hO H locs ls hP hSS hl
theorem xs_aload (C : Cx p l s m args meth c K A nL own cc r hh) {k : Nat} (hd : decode cc pc = .ok (.aload k, 2)) {t a : Nat} (hk : lg L k = rV t a) (h1 : 10 ≤ t) (h2 : t ≠ 33) (h : XM p l e R s m args below meth c K A nL cl sl Q (pc + 2) L (rV t a :: S) σ) : XM p l e R s m args below meth c K A nL cl sl Q pc L (S) σ := by
  obtain ⟨hx, hb, hml, hown, hts, hK, hD, hE, hA, hlk, hr, hst, hnt⟩ := C
  intro hn hL hS hO H locs ls hP hSS hl
  have q := hl.2.2 (k : Nat) (by rw [hk]; show t ≠ 9; omega)
  rw [hk, cv_r K a h1 h2] at q
  refine lv_aload hx hb hd q ?_
  have h9 := h hn hL (okc (by rw [← hk]; exact ok_lg _ hL) hS) hO H locs ls hP hSS hl
  rw [List.map_cons, cv_r K a h1 h2] at h9
  exact h9
theorem xs_aload_n (C : Cx p l s m args meth c K A nL own cc r hh) {k : Fin 4} (hd : decode cc pc = .ok (.aload_n k, 1)) {t a : Nat} (hk : lg L k = rV t a) (h1 : 10 ≤ t) (h2 : t ≠ 33) (h : XM p l e R s m args below meth c K A nL cl sl Q (pc + 1) L (rV t a :: S) σ) : XM p l e R s m args below meth c K A nL cl sl Q pc L (S) σ := by
  obtain ⟨hx, hb, hml, hown, hts, hK, hD, hE, hA, hlk, hr, hst, hnt⟩ := C
  intro hn hL hS hO H locs ls hP hSS hl
  have q := hl.2.2 (k : Nat) (by rw [hk]; show t ≠ 9; omega)
  rw [hk, cv_r K a h1 h2] at q
  refine lv_aload_n (i := (k : Nat)) hx hb hd rfl q ?_
  have h9 := h hn hL (okc (by rw [← hk]; exact ok_lg _ hL) hS) hO H locs ls hP hSS hl
  rw [List.map_cons, cv_r K a h1 h2] at h9
  exact h9
theorem xs_istore (C : Cx p l s m args meth c K A nL own cc r hh) {k : Nat} (hd : decode cc pc = .ok (.istore k, 2)) {z : Int} (hk : (k : Nat) < L.length) (h : XM p l e R s m args below meth c K A nL cl sl Q (pc + 2) (ls1 L k (iV z)) S σ) : XM p l e R s m args below meth c K A nL cl sl Q pc L (iV z :: S) σ := by
  obtain ⟨hx, hb, hml, hown, hts, hK, hD, hE, hA, hlk, hr, hst, hnt⟩ := C
  intro hn hL hS hO H locs ls hP hSS hl
  refine lv_istore hx hb hd hl.to (by rw [← hn]; exact hk) rfl (fun ls' hl' => ?_)
  exact h (by rw [ls1_len]; exact hn) (ok_ls1 hL (okh hS)) (okt hS) hO H locs ls' hP hSS (HL.store1 hE.2.2.2.2.2.2.2.1 hk hl')
theorem xs_istore_n (C : Cx p l s m args meth c K A nL own cc r hh) {k : Fin 4} (hd : decode cc pc = .ok (.istore_n k, 1)) {z : Int} (hk : (k : Nat) < L.length) (h : XM p l e R s m args below meth c K A nL cl sl Q (pc + 1) (ls1 L k (iV z)) S σ) : XM p l e R s m args below meth c K A nL cl sl Q pc L (iV z :: S) σ := by
  obtain ⟨hx, hb, hml, hown, hts, hK, hD, hE, hA, hlk, hr, hst, hnt⟩ := C
  intro hn hL hS hO H locs ls hP hSS hl
  refine lv_istore_n (i := (k : Nat)) hx hb hd rfl hl.to (by rw [← hn]; exact hk) rfl (fun ls' hl' => ?_)
  exact h (by rw [ls1_len]; exact hn) (ok_ls1 hL (okh hS)) (okt hS) hO H locs ls' hP hSS (HL.store1 hE.2.2.2.2.2.2.2.1 hk hl')
theorem xs_lstore (C : Cx p l s m args meth c K A nL own cc r hh) {k : Nat} (hd : decode cc pc = .ok (.lstore k, 2)) {z : Int} (hk : (k : Nat) + 1 < L.length) (h : XM p l e R s m args below meth c K A nL cl sl Q (pc + 2) (ls1 (ls1 L (k + 1) uV) k (lV z)) S σ) : XM p l e R s m args below meth c K A nL cl sl Q pc L (lV z :: S) σ := by
  obtain ⟨hx, hb, hml, hown, hts, hK, hD, hE, hA, hlk, hr, hst, hnt⟩ := C
  intro hn hL hS hO H locs ls hP hSS hl
  refine lv_lstore hx hb hd hl.to (by rw [← hn]; exact hk) rfl (fun ls' hl' => ?_)
  exact h (by rw [ls1_len, ls1_len]; exact hn) (ok_ls1 (ok_ls1 hL trivial) (okh hS)) (okt hS) hO H locs ls' hP hSS (HL.store2 hE.2.2.2.2.2.2.2.1 hk hl')
theorem xs_lstore_n (C : Cx p l s m args meth c K A nL own cc r hh) {k : Fin 4} (hd : decode cc pc = .ok (.lstore_n k, 1)) {z : Int} (hk : (k : Nat) + 1 < L.length) (h : XM p l e R s m args below meth c K A nL cl sl Q (pc + 1) (ls1 (ls1 L (k + 1) uV) k (lV z)) S σ) : XM p l e R s m args below meth c K A nL cl sl Q pc L (lV z :: S) σ := by
  obtain ⟨hx, hb, hml, hown, hts, hK, hD, hE, hA, hlk, hr, hst, hnt⟩ := C
  intro hn hL hS hO H locs ls hP hSS hl
  refine lv_lstore_n (i := (k : Nat)) hx hb hd rfl hl.to (by rw [← hn]; exact hk) rfl (fun ls' hl' => ?_)
  exact h (by rw [ls1_len, ls1_len]; exact hn) (ok_ls1 (ok_ls1 hL trivial) (okh hS)) (okt hS) hO H locs ls' hP hSS (HL.store2 hE.2.2.2.2.2.2.2.1 hk hl')
theorem xs_astore (C : Cx p l s m args meth c K A nL own cc r hh) {k : Nat} (hd : decode cc pc = .ok (.astore k, 2)) {t a : Nat} (h1 : 10 ≤ t) (h2 : t ≠ 33) (hk : (k : Nat) < L.length) (h : XM p l e R s m args below meth c K A nL cl sl Q (pc + 2) (ls1 L k (rV t a)) S σ) : XM p l e R s m args below meth c K A nL cl sl Q pc L (rV t a :: S) σ := by
  obtain ⟨hx, hb, hml, hown, hts, hK, hD, hE, hA, hlk, hr, hst, hnt⟩ := C
  intro hn hL hS hO H locs ls hP hSS hl
  rw [List.map_cons, cv_r K a h1 h2]
  refine lv_astore hx hb hd hl.to (by rw [← hn]; exact hk) rfl (fun ls' hl' => ?_)
  exact h (by rw [ls1_len]; exact hn) (ok_ls1 hL (okh hS)) (okt hS) hO H locs ls' hP hSS (HL.store1 hE.2.2.2.2.2.2.2.1 hk (by rw [cv_r K a h1 h2]; exact hl'))
theorem xs_astore_n (C : Cx p l s m args meth c K A nL own cc r hh) {k : Fin 4} (hd : decode cc pc = .ok (.astore_n k, 1)) {t a : Nat} (h1 : 10 ≤ t) (h2 : t ≠ 33) (hk : (k : Nat) < L.length) (h : XM p l e R s m args below meth c K A nL cl sl Q (pc + 1) (ls1 L k (rV t a)) S σ) : XM p l e R s m args below meth c K A nL cl sl Q pc L (rV t a :: S) σ := by
  obtain ⟨hx, hb, hml, hown, hts, hK, hD, hE, hA, hlk, hr, hst, hnt⟩ := C
  intro hn hL hS hO H locs ls hP hSS hl
  rw [List.map_cons, cv_r K a h1 h2]
  refine lv_astore_n (i := (k : Nat)) hx hb hd rfl hl.to (by rw [← hn]; exact hk) rfl (fun ls' hl' => ?_)
  exact h (by rw [ls1_len]; exact hn) (ok_ls1 hL (okh hS)) (okt hS) hO H locs ls' hP hSS (HL.store1 hE.2.2.2.2.2.2.2.1 hk (by rw [cv_r K a h1 h2]; exact hl'))
theorem toL_at {K : KT} {L : List Vv} {j : Nat} {v : Vv} (hk : lg L j = v) (h : v.1 ≠ 9) : ∃ n : Nat, (toL K L)[n]? = some (j, cv K v) := by
  have h1 := toL_mem (K := K) (L := L) (j := j) (by rw [hk]; exact h)
  rw [hk] at h1
  exact List.getElem?_of_mem h1
theorem xs_iinc (C : Cx p l s m args meth c K A nL own cc r hh) {k : Nat} {q : Int} (hd : decode cc pc = .ok (.iinc k q, 3)) {z : Int} (hk : lg L k = iV z) (hk2 : k < L.length) (h : XM p l e R s m args below meth c K A nL cl sl Q (pc + 3) (ls1 L k (iV (w32 (z + q)))) S σ) : XM p l e R s m args below meth c K A nL cl sl Q pc L (S) σ := by
  obtain ⟨hx, hb, hml, hown, hts, hK, hD, hE, hA, hlk, hr, hst, hnt⟩ := C
  intro hn hL hS hO H locs ls hP hSS hl
  obtain ⟨n, hn2⟩ := toL_at (K := K) hk (show (0 : Nat) ≠ 9 by decide)
  refine lv_iinc (v := Int32.ofInt (w32 (z + q))) hx hb hd hl.to hn2 (by rw [w32_of, Int32.ofInt_add]) (by rw [← hn]; exact hk2) rfl (fun ls' hl' => ?_)
  exact h (by rw [ls1_len]; exact hn) (ok_ls1 hL (w32_in _)) hS hO H locs ls' hP hSS (HL.store1 hE.2.2.2.2.2.2.2.1 hk2 hl')
theorem sub_32 (x y : Int) : Int32.ofInt x - Int32.ofInt y = Int32.ofInt (w32 (x - y)) := by rw [w32_of, Int32.ofInt_sub]
theorem add_32 (x y : Int) : Int32.ofInt x + Int32.ofInt y = Int32.ofInt (w32 (x + y)) := by rw [w32_of, Int32.ofInt_add]
theorem mul_32 (x y : Int) : Int32.ofInt x * Int32.ofInt y = Int32.ofInt (w32 (x * y)) := by rw [w32_of, Int32.ofInt_mul]
theorem neg_32 (x : Int) : -Int32.ofInt x = Int32.ofInt (w32 (-x)) := by rw [w32_of, Int32.ofInt_neg]
theorem sub_64 (x y : Int) : Int64.ofInt x - Int64.ofInt y = Int64.ofInt (w64 (x - y)) := by rw [w64_of, Int64.ofInt_sub]
theorem add_64 (x y : Int) : Int64.ofInt x + Int64.ofInt y = Int64.ofInt (w64 (x + y)) := by rw [w64_of, Int64.ofInt_add]
theorem mul_64 (x y : Int) : Int64.ofInt x * Int64.ofInt y = Int64.ofInt (w64 (x * y)) := by rw [w64_of, Int64.ofInt_mul]
theorem neg_64 (x : Int) : -Int64.ofInt x = Int64.ofInt (w64 (-x)) := by rw [w64_of, Int64.ofInt_neg]
theorem div_32 {x y : Int} (hx : in32 x) (hy : in32 y) : Int32.ofInt x / Int32.ofInt y = Int32.ofInt (w32 (x.tdiv y)) := by
  apply Int32.toInt_inj.mp
  rw [Int32.toInt_div, i32_to hx, i32_to hy, w32_of, Int32.toInt_ofInt]
theorem div_64 {x y : Int} (hx : in64 x) (hy : in64 y) : Int64.ofInt x / Int64.ofInt y = Int64.ofInt (w64 (x.tdiv y)) := by
  apply Int64.toInt_inj.mp
  rw [Int64.toInt_div, i64_to hx, i64_to hy, w64_of, Int64.toInt_ofInt]
theorem rem_32 {x y : Int} (hx : in32 x) (hy : in32 y) : Int32.ofInt x - Int32.ofInt x / Int32.ofInt y * Int32.ofInt y = Int32.ofInt (x.tmod y) := by
  rw [div_32 hx hy, w32_of, ← Int32.ofInt_mul, ← Int32.ofInt_sub]
  congr 1
  have := Int.tmod_add_mul_tdiv x y
  rw [Int.mul_comm]; omega
theorem rem_64 {x y : Int} (hx : in64 x) (hy : in64 y) : Int64.ofInt x - Int64.ofInt x / Int64.ofInt y * Int64.ofInt y = Int64.ofInt (x.tmod y) := by
  rw [div_64 hx hy, w64_of, ← Int64.ofInt_mul, ← Int64.ofInt_sub]
  congr 1
  have := Int.tmod_add_mul_tdiv x y
  rw [Int.mul_comm]; omega
theorem tmod_in {x y lo hi : Int} (h1 : lo ≤ x) (h2 : x < hi) (hl : lo ≤ 0) (hh : 0 < hi) : lo ≤ x.tmod y ∧ x.tmod y < hi := by
  by_cases hy : y = 0
  · subst hy; rw [Int.tmod_zero]; exact ⟨h1, h2⟩
  have n1 := Int.natAbs_tmod x y
  have n2 := Nat.mod_le x.natAbs y.natAbs
  rcases Int.le_total 0 x with h | h
  · have a := Int.tmod_nonneg y h
    omega
  · have h' : 0 ≤ -x := by omega
    have e : x.tmod y = -((-x).tmod y) := by rw [Int.neg_tmod, Int.neg_neg]
    have a := Int.tmod_nonneg y h'
    omega
theorem rem_in32 {x y : Int} (hx : in32 x) : in32 (x.tmod y) := tmod_in hx.1 hx.2 (by decide) (by decide)
theorem rem_in64 {x y : Int} (hx : in64 x) : in64 (x.tmod y) := tmod_in hx.1 hx.2 (by decide) (by decide)
theorem ne_32 {y : Int} (hy : in32 y) (h : y ≠ 0) : ¬ Int32.ofInt y = 0 := by
  intro q
  have := (i32_eq hy (⟨by decide, by decide⟩ : in32 0)).mp (by rw [q]; rfl)
  exact h this
theorem ne_64 {y : Int} (hy : in64 y) (h : y ≠ 0) : ¬ Int64.ofInt y = 0 := by
  intro q
  have := (i64_eq hy (⟨by decide, by decide⟩ : in64 0)).mp (by rw [q]; rfl)
  exact h this
theorem xs_iadd (C : Cx p l s m args meth c K A nL own cc r hh) {x y : Int} (hd : decode cc pc = .ok (.iadd, 1)) (h : XM p l e R s m args below meth c K A nL cl sl Q (pc + 1) L (iV (w32 (x + y)) :: S) σ) : XM p l e R s m args below meth c K A nL cl sl Q pc L (iV y :: iV x :: S) σ := by
  obtain ⟨hx, hb, hml, hown, hts, hK, hD, hE, hA, hlk, hr, hst, hnt⟩ := C
  intro hn hL hS hO H locs ls hP hSS hl
  refine lv_iadd hx hb hd ?_
  rw [add_32]
  exact h hn hL (okc (w32_in _) (okt (okt hS))) hO H locs ls hP hSS hl
theorem xs_isub (C : Cx p l s m args meth c K A nL own cc r hh) {x y : Int} (hd : decode cc pc = .ok (.isub, 1)) (h : XM p l e R s m args below meth c K A nL cl sl Q (pc + 1) L (iV (w32 (x - y)) :: S) σ) : XM p l e R s m args below meth c K A nL cl sl Q pc L (iV y :: iV x :: S) σ := by
  obtain ⟨hx, hb, hml, hown, hts, hK, hD, hE, hA, hlk, hr, hst, hnt⟩ := C
  intro hn hL hS hO H locs ls hP hSS hl
  refine lv_isub hx hb hd ?_
  rw [sub_32]
  exact h hn hL (okc (w32_in _) (okt (okt hS))) hO H locs ls hP hSS hl
theorem xs_imul (C : Cx p l s m args meth c K A nL own cc r hh) {x y : Int} (hd : decode cc pc = .ok (.imul, 1)) (h : XM p l e R s m args below meth c K A nL cl sl Q (pc + 1) L (iV (w32 (x * y)) :: S) σ) : XM p l e R s m args below meth c K A nL cl sl Q pc L (iV y :: iV x :: S) σ := by
  obtain ⟨hx, hb, hml, hown, hts, hK, hD, hE, hA, hlk, hr, hst, hnt⟩ := C
  intro hn hL hS hO H locs ls hP hSS hl
  refine lv_imul hx hb hd ?_
  rw [mul_32]
  exact h hn hL (okc (w32_in _) (okt (okt hS))) hO H locs ls hP hSS hl
theorem xs_ladd (C : Cx p l s m args meth c K A nL own cc r hh) {x y : Int} (hd : decode cc pc = .ok (.ladd, 1)) (h : XM p l e R s m args below meth c K A nL cl sl Q (pc + 1) L (lV (w64 (x + y)) :: S) σ) : XM p l e R s m args below meth c K A nL cl sl Q pc L (lV y :: lV x :: S) σ := by
  obtain ⟨hx, hb, hml, hown, hts, hK, hD, hE, hA, hlk, hr, hst, hnt⟩ := C
  intro hn hL hS hO H locs ls hP hSS hl
  refine lv_ladd hx hb hd ?_
  rw [add_64]
  exact h hn hL (okc (w64_in _) (okt (okt hS))) hO H locs ls hP hSS hl
theorem xs_lsub (C : Cx p l s m args meth c K A nL own cc r hh) {x y : Int} (hd : decode cc pc = .ok (.lsub, 1)) (h : XM p l e R s m args below meth c K A nL cl sl Q (pc + 1) L (lV (w64 (x - y)) :: S) σ) : XM p l e R s m args below meth c K A nL cl sl Q pc L (lV y :: lV x :: S) σ := by
  obtain ⟨hx, hb, hml, hown, hts, hK, hD, hE, hA, hlk, hr, hst, hnt⟩ := C
  intro hn hL hS hO H locs ls hP hSS hl
  refine lv_lsub hx hb hd ?_
  rw [sub_64]
  exact h hn hL (okc (w64_in _) (okt (okt hS))) hO H locs ls hP hSS hl
theorem xs_lmul (C : Cx p l s m args meth c K A nL own cc r hh) {x y : Int} (hd : decode cc pc = .ok (.lmul, 1)) (h : XM p l e R s m args below meth c K A nL cl sl Q (pc + 1) L (lV (w64 (x * y)) :: S) σ) : XM p l e R s m args below meth c K A nL cl sl Q pc L (lV y :: lV x :: S) σ := by
  obtain ⟨hx, hb, hml, hown, hts, hK, hD, hE, hA, hlk, hr, hst, hnt⟩ := C
  intro hn hL hS hO H locs ls hP hSS hl
  refine lv_lmul hx hb hd ?_
  rw [mul_64]
  exact h hn hL (okc (w64_in _) (okt (okt hS))) hO H locs ls hP hSS hl
theorem xs_idiv (C : Cx p l s m args meth c K A nL own cc r hh) {x y : Int} (hd : decode cc pc = .ok (.idiv, 1)) (h0 : y ≠ 0) (h : XM p l e R s m args below meth c K A nL cl sl Q (pc + 1) L (iV (w32 (x.tdiv y)) :: S) σ) : XM p l e R s m args below meth c K A nL cl sl Q pc L (iV y :: iV x :: S) σ := by
  obtain ⟨hx, hb, hml, hown, hts, hK, hD, hE, hA, hlk, hr, hst, hnt⟩ := C
  intro hn hL hS hO H locs ls hP hSS hl
  have hy : in32 y := okh hS
  have hx2 : in32 x := okh (okt hS)
  refine lv_idiv hx hb hd (ne_32 hy h0) ?_
  rw [div_32 hx2 hy]
  exact h hn hL (okc (w32_in _) (okt (okt hS))) hO H locs ls hP hSS hl
theorem xs_irem (C : Cx p l s m args meth c K A nL own cc r hh) {x y : Int} (hd : decode cc pc = .ok (.irem, 1)) (h0 : y ≠ 0) (h : XM p l e R s m args below meth c K A nL cl sl Q (pc + 1) L (iV (x.tmod y) :: S) σ) : XM p l e R s m args below meth c K A nL cl sl Q pc L (iV y :: iV x :: S) σ := by
  obtain ⟨hx, hb, hml, hown, hts, hK, hD, hE, hA, hlk, hr, hst, hnt⟩ := C
  intro hn hL hS hO H locs ls hP hSS hl
  have hy : in32 y := okh hS
  have hx2 : in32 x := okh (okt hS)
  refine lv_irem hx hb hd (ne_32 hy h0) ?_
  rw [rem_32 hx2 hy]
  exact h hn hL (okc (rem_in32 hx2) (okt (okt hS))) hO H locs ls hP hSS hl
theorem xs_ldiv (C : Cx p l s m args meth c K A nL own cc r hh) {x y : Int} (hd : decode cc pc = .ok (.ldiv, 1)) (h0 : y ≠ 0) (h : XM p l e R s m args below meth c K A nL cl sl Q (pc + 1) L (lV (w64 (x.tdiv y)) :: S) σ) : XM p l e R s m args below meth c K A nL cl sl Q pc L (lV y :: lV x :: S) σ := by
  obtain ⟨hx, hb, hml, hown, hts, hK, hD, hE, hA, hlk, hr, hst, hnt⟩ := C
  intro hn hL hS hO H locs ls hP hSS hl
  have hy : in64 y := okh hS
  have hx2 : in64 x := okh (okt hS)
  refine lv_ldiv hx hb hd (ne_64 hy h0) ?_
  rw [div_64 hx2 hy]
  exact h hn hL (okc (w64_in _) (okt (okt hS))) hO H locs ls hP hSS hl
theorem xs_lrem (C : Cx p l s m args meth c K A nL own cc r hh) {x y : Int} (hd : decode cc pc = .ok (.lrem, 1)) (h0 : y ≠ 0) (h : XM p l e R s m args below meth c K A nL cl sl Q (pc + 1) L (lV (x.tmod y) :: S) σ) : XM p l e R s m args below meth c K A nL cl sl Q pc L (lV y :: lV x :: S) σ := by
  obtain ⟨hx, hb, hml, hown, hts, hK, hD, hE, hA, hlk, hr, hst, hnt⟩ := C
  intro hn hL hS hO H locs ls hP hSS hl
  have hy : in64 y := okh hS
  have hx2 : in64 x := okh (okt hS)
  refine lv_lrem hx hb hd (ne_64 hy h0) ?_
  rw [rem_64 hx2 hy]
  exact h hn hL (okc (rem_in64 hx2) (okt (okt hS))) hO H locs ls hP hSS hl
theorem xs_iand (C : Cx p l s m args meth c K A nL own cc r hh) {x y : Int} (hd : decode cc pc = .ok (.iand, 1)) (h : XM p l e R s m args below meth c K A nL cl sl Q (pc + 1) L (iV (iandI x y) :: S) σ) : XM p l e R s m args below meth c K A nL cl sl Q pc L (iV y :: iV x :: S) σ := by
  obtain ⟨hx, hb, hml, hown, hts, hK, hD, hE, hA, hlk, hr, hst, hnt⟩ := C
  intro hn hL hS hO H locs ls hP hSS hl
  refine lv_iand hx hb hd ?_
  have h9 := h hn hL (okc (i32_in _) (okt (okt hS))) hO H locs ls hP hSS hl
  rw [List.map_cons, cv_i, show Int32.ofInt (iandI x y) = _ from i32_back _] at h9
  exact h9
theorem xs_ior (C : Cx p l s m args meth c K A nL own cc r hh) {x y : Int} (hd : decode cc pc = .ok (.ior, 1)) (h : XM p l e R s m args below meth c K A nL cl sl Q (pc + 1) L (iV (iorI x y) :: S) σ) : XM p l e R s m args below meth c K A nL cl sl Q pc L (iV y :: iV x :: S) σ := by
  obtain ⟨hx, hb, hml, hown, hts, hK, hD, hE, hA, hlk, hr, hst, hnt⟩ := C
  intro hn hL hS hO H locs ls hP hSS hl
  refine lv_ior hx hb hd ?_
  have h9 := h hn hL (okc (i32_in _) (okt (okt hS))) hO H locs ls hP hSS hl
  rw [List.map_cons, cv_i, show Int32.ofInt (iorI x y) = _ from i32_back _] at h9
  exact h9
theorem xs_ixor (C : Cx p l s m args meth c K A nL own cc r hh) {x y : Int} (hd : decode cc pc = .ok (.ixor, 1)) (h : XM p l e R s m args below meth c K A nL cl sl Q (pc + 1) L (iV (ixorI x y) :: S) σ) : XM p l e R s m args below meth c K A nL cl sl Q pc L (iV y :: iV x :: S) σ := by
  obtain ⟨hx, hb, hml, hown, hts, hK, hD, hE, hA, hlk, hr, hst, hnt⟩ := C
  intro hn hL hS hO H locs ls hP hSS hl
  refine lv_ixor hx hb hd ?_
  have h9 := h hn hL (okc (i32_in _) (okt (okt hS))) hO H locs ls hP hSS hl
  rw [List.map_cons, cv_i, show Int32.ofInt (ixorI x y) = _ from i32_back _] at h9
  exact h9
theorem xs_ishl (C : Cx p l s m args meth c K A nL own cc r hh) {x y : Int} (hd : decode cc pc = .ok (.ishl, 1)) (h : XM p l e R s m args below meth c K A nL cl sl Q (pc + 1) L (iV (ishlI x y) :: S) σ) : XM p l e R s m args below meth c K A nL cl sl Q pc L (iV y :: iV x :: S) σ := by
  obtain ⟨hx, hb, hml, hown, hts, hK, hD, hE, hA, hlk, hr, hst, hnt⟩ := C
  intro hn hL hS hO H locs ls hP hSS hl
  refine lv_ishl hx hb hd ?_
  have h9 := h hn hL (okc (i32_in _) (okt (okt hS))) hO H locs ls hP hSS hl
  rw [List.map_cons, cv_i, show Int32.ofInt (ishlI x y) = _ from i32_back _] at h9
  exact h9
theorem xs_ishr (C : Cx p l s m args meth c K A nL own cc r hh) {x y : Int} (hd : decode cc pc = .ok (.ishr, 1)) (h : XM p l e R s m args below meth c K A nL cl sl Q (pc + 1) L (iV (ishrI x y) :: S) σ) : XM p l e R s m args below meth c K A nL cl sl Q pc L (iV y :: iV x :: S) σ := by
  obtain ⟨hx, hb, hml, hown, hts, hK, hD, hE, hA, hlk, hr, hst, hnt⟩ := C
  intro hn hL hS hO H locs ls hP hSS hl
  refine lv_ishr hx hb hd ?_
  have h9 := h hn hL (okc (i32_in _) (okt (okt hS))) hO H locs ls hP hSS hl
  rw [List.map_cons, cv_i, show Int32.ofInt (ishrI x y) = _ from i32_back _] at h9
  exact h9
theorem xs_land (C : Cx p l s m args meth c K A nL own cc r hh) {x y : Int} (hd : decode cc pc = .ok (.land, 1)) (h : XM p l e R s m args below meth c K A nL cl sl Q (pc + 1) L (lV (landI x y) :: S) σ) : XM p l e R s m args below meth c K A nL cl sl Q pc L (lV y :: lV x :: S) σ := by
  obtain ⟨hx, hb, hml, hown, hts, hK, hD, hE, hA, hlk, hr, hst, hnt⟩ := C
  intro hn hL hS hO H locs ls hP hSS hl
  refine lv_land hx hb hd ?_
  have h9 := h hn hL (okc (i64_in _) (okt (okt hS))) hO H locs ls hP hSS hl
  rw [List.map_cons, cv_l, show Int64.ofInt (landI x y) = _ from i64_back _] at h9
  exact h9
theorem xs_lor (C : Cx p l s m args meth c K A nL own cc r hh) {x y : Int} (hd : decode cc pc = .ok (.lor, 1)) (h : XM p l e R s m args below meth c K A nL cl sl Q (pc + 1) L (lV (lorI x y) :: S) σ) : XM p l e R s m args below meth c K A nL cl sl Q pc L (lV y :: lV x :: S) σ := by
  obtain ⟨hx, hb, hml, hown, hts, hK, hD, hE, hA, hlk, hr, hst, hnt⟩ := C
  intro hn hL hS hO H locs ls hP hSS hl
  refine lv_lor hx hb hd ?_
  have h9 := h hn hL (okc (i64_in _) (okt (okt hS))) hO H locs ls hP hSS hl
  rw [List.map_cons, cv_l, show Int64.ofInt (lorI x y) = _ from i64_back _] at h9
  exact h9
theorem xs_iushr (C : Cx p l s m args meth c K A nL own cc r hh) {x y : Int} (hd : decode cc pc = .ok (.iushr, 1)) (h : XM p l e R s m args below meth c K A nL cl sl Q (pc + 1) L (iV (iushrI x y) :: S) σ) : XM p l e R s m args below meth c K A nL cl sl Q pc L (iV y :: iV x :: S) σ := by
  obtain ⟨hx, hb, hml, hown, hts, hK, hD, hE, hA, hlk, hr, hst, hnt⟩ := C
  intro hn hL hS hO H locs ls hP hSS hl
  refine lv_iushr (v := Int32.ofInt (iushrI x y)) hx hb hd (i32_back _).symm ?_
  exact h hn hL (okc (i32_in _) (okt (okt hS))) hO H locs ls hP hSS hl
theorem xs_lshl (C : Cx p l s m args meth c K A nL own cc r hh) {x y : Int} (hd : decode cc pc = .ok (.lshl, 1)) (h : XM p l e R s m args below meth c K A nL cl sl Q (pc + 1) L (lV (lshlI x y) :: S) σ) : XM p l e R s m args below meth c K A nL cl sl Q pc L (iV y :: lV x :: S) σ := by
  obtain ⟨hx, hb, hml, hown, hts, hK, hD, hE, hA, hlk, hr, hst, hnt⟩ := C
  intro hn hL hS hO H locs ls hP hSS hl
  refine lv_lshl (v := Int64.ofInt (lshlI x y)) hx hb hd (i64_back _).symm ?_
  exact h hn hL (okc (i64_in _) (okt (okt hS))) hO H locs ls hP hSS hl
theorem xs_lshr (C : Cx p l s m args meth c K A nL own cc r hh) {x y : Int} (hd : decode cc pc = .ok (.lshr, 1)) (h : XM p l e R s m args below meth c K A nL cl sl Q (pc + 1) L (lV (lshrI x y) :: S) σ) : XM p l e R s m args below meth c K A nL cl sl Q pc L (iV y :: lV x :: S) σ := by
  obtain ⟨hx, hb, hml, hown, hts, hK, hD, hE, hA, hlk, hr, hst, hnt⟩ := C
  intro hn hL hS hO H locs ls hP hSS hl
  refine lv_lshr (v := Int64.ofInt (lshrI x y)) hx hb hd (i64_back _).symm ?_
  exact h hn hL (okc (i64_in _) (okt (okt hS))) hO H locs ls hP hSS hl
theorem xs_ineg (C : Cx p l s m args meth c K A nL own cc r hh) {x : Int} (hd : decode cc pc = .ok (.ineg, 1)) (h : XM p l e R s m args below meth c K A nL cl sl Q (pc + 1) L (iV (w32 (-x)) :: S) σ) : XM p l e R s m args below meth c K A nL cl sl Q pc L (iV x :: S) σ := by
  obtain ⟨hx, hb, hml, hown, hts, hK, hD, hE, hA, hlk, hr, hst, hnt⟩ := C
  intro hn hL hS hO H locs ls hP hSS hl
  refine lv_ineg hx hb hd ?_
  rw [neg_32]
  exact h hn hL (okc (w32_in _) (okt hS)) hO H locs ls hP hSS hl
theorem xs_lneg (C : Cx p l s m args meth c K A nL own cc r hh) {x : Int} (hd : decode cc pc = .ok (.lneg, 1)) (h : XM p l e R s m args below meth c K A nL cl sl Q (pc + 1) L (lV (w64 (-x)) :: S) σ) : XM p l e R s m args below meth c K A nL cl sl Q pc L (lV x :: S) σ := by
  obtain ⟨hx, hb, hml, hown, hts, hK, hD, hE, hA, hlk, hr, hst, hnt⟩ := C
  intro hn hL hS hO H locs ls hP hSS hl
  refine lv_lneg hx hb hd ?_
  rw [neg_64]
  exact h hn hL (okc (w64_in _) (okt hS)) hO H locs ls hP hSS hl
theorem i2l_of {x : Int} (h : in32 x) : (Int32.ofInt x).toInt64 = Int64.ofInt x := by
  apply Int64.toInt_inj.mp
  rw [Int32.toInt_toInt64, i32_to h, i64_to (by unfold in64; unfold in32 at h; omega)]
theorem l2i_of (x : Int) : (Int64.ofInt x).toInt32 = Int32.ofInt (w32 x) := by
  apply Int32.toInt_inj.mp
  rw [Int64.toInt_toInt32, Int64.toInt_ofInt, w32_of, Int32.toInt_ofInt]
  simp only [Int.bmod, Int64.size, Int32.size]
  omega
theorem i2b_of {x : Int} (h : in32 x) : (Int32.ofInt x).toInt8.toInt32 = Int32.ofInt (w8 x) := by
  apply Int32.toInt_inj.mp
  rw [Int8.toInt_toInt32, Int32.toInt_toInt8, i32_to h, i32_to (w8_32 x)]
  unfold w8
  simp only [Int.bmod]
  omega
theorem i2s_of {x : Int} (h : in32 x) : (Int32.ofInt x).toInt16.toInt32 = Int32.ofInt (w16 x) := by
  apply Int32.toInt_inj.mp
  rw [Int16.toInt_toInt32, Int32.toInt_toInt16, i32_to h, i32_to (w16_32 x)]
  unfold w16
  simp only [Int.bmod]
  omega
theorem i2c_of {x : Int} (h0 : 0 ≤ x) (h : x < 65536) : ((Int32.ofInt x).toUInt32 % 65536).toInt32 = Int32.ofInt x := by
  obtain ⟨n, rfl⟩ := Int.eq_ofNat_of_zero_le h0
  have hn : n < 65536 := by omega
  have e : Int32.ofInt (n : Int) = nI n := by unfold nI; rw [Int32.ofInt_eq_ofNat]
  rw [e, pk_char, pk_tn (by omega), Nat.mod_eq_of_lt hn]
theorem cmp_of {x y : Int} (hx : in64 x) (hy : in64 y) : lg_cmp (Int64.ofInt x) (Int64.ofInt y) = Int32.ofInt (cmpI x y) := by
  unfold lg_cmp cmpI
  by_cases h1 : y < x
  · rw [if_pos h1, if_pos (show Int64.ofInt x > Int64.ofInt y from (i64_lt hy hx).mpr h1)]; rfl
  · rw [if_neg h1, if_neg (fun q => h1 ((i64_lt hy hx).mp q))]
    by_cases h2 : x = y
    · rw [if_pos h2, if_pos (by rw [h2])]; rfl
    · rw [if_neg h2, if_neg (fun q => h2 ((i64_eq hx hy).mp q))]; rfl
theorem cmp_in (x y : Int) : in32 (cmpI x y) := by
  unfold cmpI
  split
  · exact ⟨by decide, by decide⟩
  · split <;> exact ⟨by decide, by decide⟩
theorem xs_i2l (C : Cx p l s m args meth c K A nL own cc r hh) {x : Int} (hd : decode cc pc = .ok (.i2l, 1)) (h : XM p l e R s m args below meth c K A nL cl sl Q (pc + 1) L (lV x :: S) σ) : XM p l e R s m args below meth c K A nL cl sl Q pc L (iV x :: S) σ := by
  obtain ⟨hx, hb, hml, hown, hts, hK, hD, hE, hA, hlk, hr, hst, hnt⟩ := C
  intro hn hL hS hO H locs ls hP hSS hl
  have hx2 : in32 x := okh hS
  refine lv_i2l (v := Int64.ofInt x) hx hb hd (i2l_of hx2) ?_
  exact h hn hL (okc (by show in64 x; unfold in64; unfold in32 at hx2; omega) (okt hS)) hO H locs ls hP hSS hl
theorem xs_l2i (C : Cx p l s m args meth c K A nL own cc r hh) {x : Int} (hd : decode cc pc = .ok (.l2i, 1)) (h : XM p l e R s m args below meth c K A nL cl sl Q (pc + 1) L (iV (w32 x) :: S) σ) : XM p l e R s m args below meth c K A nL cl sl Q pc L (lV x :: S) σ := by
  obtain ⟨hx, hb, hml, hown, hts, hK, hD, hE, hA, hlk, hr, hst, hnt⟩ := C
  intro hn hL hS hO H locs ls hP hSS hl
  refine lv_l2i (v := Int32.ofInt (w32 x)) hx hb hd (l2i_of x) ?_
  exact h hn hL (okc (w32_in x) (okt hS)) hO H locs ls hP hSS hl
theorem xs_i2b (C : Cx p l s m args meth c K A nL own cc r hh) {x : Int} (hd : decode cc pc = .ok (.i2b, 1)) (h : XM p l e R s m args below meth c K A nL cl sl Q (pc + 1) L (iV (w8 x) :: S) σ) : XM p l e R s m args below meth c K A nL cl sl Q pc L (iV x :: S) σ := by
  obtain ⟨hx, hb, hml, hown, hts, hK, hD, hE, hA, hlk, hr, hst, hnt⟩ := C
  intro hn hL hS hO H locs ls hP hSS hl
  refine lv_i2b (v := Int32.ofInt (w8 x)) hx hb hd (i2b_of (okh hS)) ?_
  exact h hn hL (okc (w8_32 x) (okt hS)) hO H locs ls hP hSS hl
theorem xs_i2s (C : Cx p l s m args meth c K A nL own cc r hh) {x : Int} (hd : decode cc pc = .ok (.i2s, 1)) (h : XM p l e R s m args below meth c K A nL cl sl Q (pc + 1) L (iV (w16 x) :: S) σ) : XM p l e R s m args below meth c K A nL cl sl Q pc L (iV x :: S) σ := by
  obtain ⟨hx, hb, hml, hown, hts, hK, hD, hE, hA, hlk, hr, hst, hnt⟩ := C
  intro hn hL hS hO H locs ls hP hSS hl
  refine lv_i2s (v := Int32.ofInt (w16 x)) hx hb hd (i2s_of (okh hS)) ?_
  exact h hn hL (okc (w16_32 x) (okt hS)) hO H locs ls hP hSS hl
theorem xs_i2c (C : Cx p l s m args meth c K A nL own cc r hh) {x : Int} (hd : decode cc pc = .ok (.i2c, 1)) (h0 : 0 ≤ x) (h1 : x < 65536) (h : XM p l e R s m args below meth c K A nL cl sl Q (pc + 1) L (iV x :: S) σ) : XM p l e R s m args below meth c K A nL cl sl Q pc L (iV x :: S) σ := by
  obtain ⟨hx, hb, hml, hown, hts, hK, hD, hE, hA, hlk, hr, hst, hnt⟩ := C
  intro hn hL hS hO H locs ls hP hSS hl
  refine lv_i2c (v := Int32.ofInt x) hx hb hd (i2c_of h0 h1) ?_
  exact h hn hL hS hO H locs ls hP hSS hl
theorem xs_lcmp (C : Cx p l s m args meth c K A nL own cc r hh) {x y : Int} (hd : decode cc pc = .ok (.lcmp, 1)) (h : XM p l e R s m args below meth c K A nL cl sl Q (pc + 1) L (iV (cmpI x y) :: S) σ) : XM p l e R s m args below meth c K A nL cl sl Q pc L (lV y :: lV x :: S) σ := by
  obtain ⟨hx, hb, hml, hown, hts, hK, hD, hE, hA, hlk, hr, hst, hnt⟩ := C
  intro hn hL hS hO H locs ls hP hSS hl
  refine W.lcmp hx hb hd ?_
  rw [cmp_of (okh (okt hS)) (okh hS)]
  exact h hn hL (okc (cmp_in x y) (okt (okt hS))) hO H locs ls hP hSS hl
theorem xs_dup (C : Cx p l s m args meth c K A nL own cc r hh) {v : Vv} (hd : decode cc pc = .ok (.dup, 1)) (h1 : v.1 ≠ 1) (h : XM p l e R s m args below meth c K A nL cl sl Q (pc + 1) L (v :: v :: S) σ) : XM p l e R s m args below meth c K A nL cl sl Q pc L (v :: S) σ := by
  obtain ⟨hx, hb, hml, hown, hts, hK, hD, hE, hA, hlk, hr, hst, hnt⟩ := C
  intro hn hL hS hO H locs ls hP hSS hl
  refine lv_dup hx hb hd (by rw [cv_cat hE.2.2.2.2.2.2.2.1]; unfold catV; rw [if_neg h1]) ?_
  exact h hn hL (okc (okh hS) hS) hO H locs ls hP hSS hl
theorem xs_dup2 (C : Cx p l s m args meth c K A nL own cc r hh) {v u : Vv} (hd : decode cc pc = .ok (.dup2, 1)) (h1 : v.1 ≠ 1) (h2 : u.1 ≠ 1) (h : XM p l e R s m args below meth c K A nL cl sl Q (pc + 1) L (v :: u :: v :: u :: S) σ) : XM p l e R s m args below meth c K A nL cl sl Q pc L (v :: u :: S) σ := by
  obtain ⟨hx, hb, hml, hown, hts, hK, hD, hE, hA, hlk, hr, hst, hnt⟩ := C
  intro hn hL hS hO H locs ls hP hSS hl
  refine lv_dup2_11 hx hb hd (by rw [cv_cat hE.2.2.2.2.2.2.2.1]; unfold catV; rw [if_neg h1]) (by rw [cv_cat hE.2.2.2.2.2.2.2.1]; unfold catV; rw [if_neg h2]) ?_
  exact h hn hL (okc (okh hS) (okc (okh (okt hS)) hS)) hO H locs ls hP hSS hl
theorem xs_dup2l (C : Cx p l s m args meth c K A nL own cc r hh) {z : Int} (hd : decode cc pc = .ok (.dup2, 1)) (h : XM p l e R s m args below meth c K A nL cl sl Q (pc + 1) L (lV z :: lV z :: S) σ) : XM p l e R s m args below meth c K A nL cl sl Q pc L (lV z :: S) σ := by
  obtain ⟨hx, hb, hml, hown, hts, hK, hD, hE, hA, hlk, hr, hst, hnt⟩ := C
  intro hn hL hS hO H locs ls hP hSS hl
  refine lv_dup2_2 hx hb hd rfl ?_
  exact h hn hL (okc (okh hS) hS) hO H locs ls hP hSS hl
theorem xs_pop (C : Cx p l s m args meth c K A nL own cc r hh) {z : Int} (hd : decode cc pc = .ok (.pop, 1)) (h : XM p l e R s m args below meth c K A nL cl sl Q (pc + 1) L S σ) : XM p l e R s m args below meth c K A nL cl sl Q pc L (iV z :: S) σ := by
  obtain ⟨hx, hb, hml, hown, hts, hK, hD, hE, hA, hlk, hr, hst, hnt⟩ := C
  intro hn hL hS hO H locs ls hP hSS hl
  refine lv_pop hx hb hd rfl ?_
  exact h hn hL (okt hS) hO H locs ls hP hSS hl
theorem xs_pop2 (C : Cx p l s m args meth c K A nL own cc r hh) {v u : Vv} (hd : decode cc pc = .ok (.pop2, 1)) (h1 : v.1 ≠ 1) (h2 : u.1 ≠ 1) (h : XM p l e R s m args below meth c K A nL cl sl Q (pc + 1) L S σ) : XM p l e R s m args below meth c K A nL cl sl Q pc L (v :: u :: S) σ := by
  obtain ⟨hx, hb, hml, hown, hts, hK, hD, hE, hA, hlk, hr, hst, hnt⟩ := C
  intro hn hL hS hO H locs ls hP hSS hl
  refine lv_pop2_11 hx hb hd (by rw [cv_cat hE.2.2.2.2.2.2.2.1]; unfold catV; rw [if_neg h1]) (by rw [cv_cat hE.2.2.2.2.2.2.2.1]; unfold catV; rw [if_neg h2]) ?_
  exact h hn hL (okt (okt hS)) hO H locs ls hP hSS hl
theorem xs_pop2l (C : Cx p l s m args meth c K A nL own cc r hh) {z : Int} (hd : decode cc pc = .ok (.pop2, 1)) (h : XM p l e R s m args below meth c K A nL cl sl Q (pc + 1) L S σ) : XM p l e R s m args below meth c K A nL cl sl Q pc L (lV z :: S) σ := by
  obtain ⟨hx, hb, hml, hown, hts, hK, hD, hE, hA, hlk, hr, hst, hnt⟩ := C
  intro hn hL hS hO H locs ls hP hSS hl
  refine lv_pop2_2 hx hb hd rfl ?_
  exact h hn hL (okt hS) hO H locs ls hP hSS hl
theorem xs_goto (C : Cx p l s m args meth c K A nL own cc r hh) {off : Int} (hd : decode cc pc = .ok (.goto off, 3)) (h0 : 0 ≤ (pc : Int) + off) (h : XM p l e R s m args below meth c K A nL cl sl Q (tgJ pc off) L S σ) : XM p l e R s m args below meth c K A nL cl sl Q pc L (S) σ := by
  obtain ⟨hx, hb, hml, hown, hts, hK, hD, hE, hA, hlk, hr, hst, hnt⟩ := C
  intro hn hL hS hO H locs ls hP hSS hl
  refine lv_goto hx hb hd (addP h0 rfl) ?_
  exact h hn hL hS hO H locs ls hP hSS hl
theorem xs_if_eq (C : Cx p l s m args meth c K A nL own cc r hh) {x : Int} {off : Int} (hd : decode cc pc = .ok (.ifCond .eq off, 3)) (h0 : 0 ≤ (pc : Int) + off) (h : brJ .eq x 0 (XM p l e R s m args below meth c K A nL cl sl Q (tgJ pc off) L S σ) (XM p l e R s m args below meth c K A nL cl sl Q (pc + 3) L S σ)) : XM p l e R s m args below meth c K A nL cl sl Q pc L (iV x :: S) σ := by
  obtain ⟨hx, hb, hml, hown, hts, hK, hD, hE, hA, hlk, hr, hst, hnt⟩ := C
  intro hn hL hS hO H locs ls hP hSS hl
  have hx2 : in32 x := okh hS
  have hy : in32 0 := ⟨by decide, by decide⟩
  have h : (if x = 0 then XM p l e R s m args below meth c K A nL cl sl Q (tgJ pc off) L S σ else XM p l e R s m args below meth c K A nL cl sl Q (pc + 3) L S σ) := h
  refine lv_if_eq hx hb hd (addP h0 rfl) (fun q => ?_) (fun q => ?_)
  · have q2 : (x = 0) := (i32_eq hx2 hy).mp q
    rw [if_pos q2] at h
    exact h hn hL (okt hS) hO H locs ls hP hSS hl
  · have q2 : ¬ (x = 0) := fun z => q ((i32_eq hx2 hy).mpr z)
    rw [if_neg q2] at h
    exact h hn hL (okt hS) hO H locs ls hP hSS hl
theorem xs_if_ne (C : Cx p l s m args meth c K A nL own cc r hh) {x : Int} {off : Int} (hd : decode cc pc = .ok (.ifCond .ne off, 3)) (h0 : 0 ≤ (pc : Int) + off) (h : brJ .ne x 0 (XM p l e R s m args below meth c K A nL cl sl Q (tgJ pc off) L S σ) (XM p l e R s m args below meth c K A nL cl sl Q (pc + 3) L S σ)) : XM p l e R s m args below meth c K A nL cl sl Q pc L (iV x :: S) σ := by
  obtain ⟨hx, hb, hml, hown, hts, hK, hD, hE, hA, hlk, hr, hst, hnt⟩ := C
  intro hn hL hS hO H locs ls hP hSS hl
  have hx2 : in32 x := okh hS
  have hy : in32 0 := ⟨by decide, by decide⟩
  have h : (if x = 0 then XM p l e R s m args below meth c K A nL cl sl Q (pc + 3) L S σ else XM p l e R s m args below meth c K A nL cl sl Q (tgJ pc off) L S σ) := h
  refine lv_if_ne hx hb hd (addP h0 rfl) (fun q => ?_) (fun q => ?_)
  · have q2 : ¬ (x = 0) := fun z => q ((i32_eq hx2 hy).mpr z)
    rw [if_neg q2] at h
    exact h hn hL (okt hS) hO H locs ls hP hSS hl
  · have q2 : (x = 0) := (i32_eq hx2 hy).mp q
    rw [if_pos q2] at h
    exact h hn hL (okt hS) hO H locs ls hP hSS hl
theorem xs_if_lt (C : Cx p l s m args meth c K A nL own cc r hh) {x : Int} {off : Int} (hd : decode cc pc = .ok (.ifCond .lt off, 3)) (h0 : 0 ≤ (pc : Int) + off) (h : brJ .lt x 0 (XM p l e R s m args below meth c K A nL cl sl Q (tgJ pc off) L S σ) (XM p l e R s m args below meth c K A nL cl sl Q (pc + 3) L S σ)) : XM p l e R s m args below meth c K A nL cl sl Q pc L (iV x :: S) σ := by
  obtain ⟨hx, hb, hml, hown, hts, hK, hD, hE, hA, hlk, hr, hst, hnt⟩ := C
  intro hn hL hS hO H locs ls hP hSS hl
  have hx2 : in32 x := okh hS
  have hy : in32 0 := ⟨by decide, by decide⟩
  have h : (if x < 0 then XM p l e R s m args below meth c K A nL cl sl Q (tgJ pc off) L S σ else XM p l e R s m args below meth c K A nL cl sl Q (pc + 3) L S σ) := h
  refine lv_if_lt hx hb hd (addP h0 rfl) (fun q => ?_) (fun q => ?_)
  · have q2 : (x < 0) := (i32_lt hx2 hy).mp q
    rw [if_pos q2] at h
    exact h hn hL (okt hS) hO H locs ls hP hSS hl
  · have q2 : ¬ (x < 0) := fun z => q ((i32_lt hx2 hy).mpr z)
    rw [if_neg q2] at h
    exact h hn hL (okt hS) hO H locs ls hP hSS hl
theorem xs_if_ge (C : Cx p l s m args meth c K A nL own cc r hh) {x : Int} {off : Int} (hd : decode cc pc = .ok (.ifCond .ge off, 3)) (h0 : 0 ≤ (pc : Int) + off) (h : brJ .ge x 0 (XM p l e R s m args below meth c K A nL cl sl Q (tgJ pc off) L S σ) (XM p l e R s m args below meth c K A nL cl sl Q (pc + 3) L S σ)) : XM p l e R s m args below meth c K A nL cl sl Q pc L (iV x :: S) σ := by
  obtain ⟨hx, hb, hml, hown, hts, hK, hD, hE, hA, hlk, hr, hst, hnt⟩ := C
  intro hn hL hS hO H locs ls hP hSS hl
  have hx2 : in32 x := okh hS
  have hy : in32 0 := ⟨by decide, by decide⟩
  have h : (if x < 0 then XM p l e R s m args below meth c K A nL cl sl Q (pc + 3) L S σ else XM p l e R s m args below meth c K A nL cl sl Q (tgJ pc off) L S σ) := h
  refine lv_if_ge hx hb hd (addP h0 rfl) (fun q => ?_) (fun q => ?_)
  · have q2 : ¬ (x < 0) := Int.not_lt.mpr ((i32_le hy hx2).mp q)
    rw [if_neg q2] at h
    exact h hn hL (okt hS) hO H locs ls hP hSS hl
  · have q2 : (x < 0) := Int.not_le.mp (fun z => q ((i32_le hy hx2).mpr z))
    rw [if_pos q2] at h
    exact h hn hL (okt hS) hO H locs ls hP hSS hl
theorem xs_if_gt (C : Cx p l s m args meth c K A nL own cc r hh) {x : Int} {off : Int} (hd : decode cc pc = .ok (.ifCond .gt off, 3)) (h0 : 0 ≤ (pc : Int) + off) (h : brJ .gt x 0 (XM p l e R s m args below meth c K A nL cl sl Q (tgJ pc off) L S σ) (XM p l e R s m args below meth c K A nL cl sl Q (pc + 3) L S σ)) : XM p l e R s m args below meth c K A nL cl sl Q pc L (iV x :: S) σ := by
  obtain ⟨hx, hb, hml, hown, hts, hK, hD, hE, hA, hlk, hr, hst, hnt⟩ := C
  intro hn hL hS hO H locs ls hP hSS hl
  have hx2 : in32 x := okh hS
  have hy : in32 0 := ⟨by decide, by decide⟩
  have h : (if 0 < x then XM p l e R s m args below meth c K A nL cl sl Q (tgJ pc off) L S σ else XM p l e R s m args below meth c K A nL cl sl Q (pc + 3) L S σ) := h
  refine lv_if_gt hx hb hd (addP h0 rfl) (fun q => ?_) (fun q => ?_)
  · have q2 : (0 < x) := (i32_lt hy hx2).mp q
    rw [if_pos q2] at h
    exact h hn hL (okt hS) hO H locs ls hP hSS hl
  · have q2 : ¬ (0 < x) := fun z => q ((i32_lt hy hx2).mpr z)
    rw [if_neg q2] at h
    exact h hn hL (okt hS) hO H locs ls hP hSS hl
theorem xs_if_le (C : Cx p l s m args meth c K A nL own cc r hh) {x : Int} {off : Int} (hd : decode cc pc = .ok (.ifCond .le off, 3)) (h0 : 0 ≤ (pc : Int) + off) (h : brJ .le x 0 (XM p l e R s m args below meth c K A nL cl sl Q (tgJ pc off) L S σ) (XM p l e R s m args below meth c K A nL cl sl Q (pc + 3) L S σ)) : XM p l e R s m args below meth c K A nL cl sl Q pc L (iV x :: S) σ := by
  obtain ⟨hx, hb, hml, hown, hts, hK, hD, hE, hA, hlk, hr, hst, hnt⟩ := C
  intro hn hL hS hO H locs ls hP hSS hl
  have hx2 : in32 x := okh hS
  have hy : in32 0 := ⟨by decide, by decide⟩
  have h : (if 0 < x then XM p l e R s m args below meth c K A nL cl sl Q (pc + 3) L S σ else XM p l e R s m args below meth c K A nL cl sl Q (tgJ pc off) L S σ) := h
  refine lv_if_le hx hb hd (addP h0 rfl) (fun q => ?_) (fun q => ?_)
  · have q2 : ¬ (0 < x) := Int.not_lt.mpr ((i32_le hx2 hy).mp q)
    rw [if_neg q2] at h
    exact h hn hL (okt hS) hO H locs ls hP hSS hl
  · have q2 : (0 < x) := Int.not_le.mp (fun z => q ((i32_le hx2 hy).mpr z))
    rw [if_pos q2] at h
    exact h hn hL (okt hS) hO H locs ls hP hSS hl
theorem xs_icmp_eq (C : Cx p l s m args meth c K A nL own cc r hh) {x y : Int} {off : Int} (hd : decode cc pc = .ok (.if_icmp .eq off, 3)) (h0 : 0 ≤ (pc : Int) + off) (h : brJ .eq x y (XM p l e R s m args below meth c K A nL cl sl Q (tgJ pc off) L S σ) (XM p l e R s m args below meth c K A nL cl sl Q (pc + 3) L S σ)) : XM p l e R s m args below meth c K A nL cl sl Q pc L (iV y :: iV x :: S) σ := by
  obtain ⟨hx, hb, hml, hown, hts, hK, hD, hE, hA, hlk, hr, hst, hnt⟩ := C
  intro hn hL hS hO H locs ls hP hSS hl
  have hy : in32 y := okh hS
  have hx2 : in32 x := okh (okt hS)
  have h : (if x = y then XM p l e R s m args below meth c K A nL cl sl Q (tgJ pc off) L S σ else XM p l e R s m args below meth c K A nL cl sl Q (pc + 3) L S σ) := h
  refine lv_icmp_eq hx hb hd (addP h0 rfl) (fun q => ?_) (fun q => ?_)
  · have q2 : (x = y) := (i32_eq hx2 hy).mp q
    rw [if_pos q2] at h
    exact h hn hL (okt (okt hS)) hO H locs ls hP hSS hl
  · have q2 : ¬ (x = y) := fun z => q ((i32_eq hx2 hy).mpr z)
    rw [if_neg q2] at h
    exact h hn hL (okt (okt hS)) hO H locs ls hP hSS hl
theorem xs_icmp_ne (C : Cx p l s m args meth c K A nL own cc r hh) {x y : Int} {off : Int} (hd : decode cc pc = .ok (.if_icmp .ne off, 3)) (h0 : 0 ≤ (pc : Int) + off) (h : brJ .ne x y (XM p l e R s m args below meth c K A nL cl sl Q (tgJ pc off) L S σ) (XM p l e R s m args below meth c K A nL cl sl Q (pc + 3) L S σ)) : XM p l e R s m args below meth c K A nL cl sl Q pc L (iV y :: iV x :: S) σ := by
  obtain ⟨hx, hb, hml, hown, hts, hK, hD, hE, hA, hlk, hr, hst, hnt⟩ := C
  intro hn hL hS hO H locs ls hP hSS hl
  have hy : in32 y := okh hS
  have hx2 : in32 x := okh (okt hS)
  have h : (if x = y then XM p l e R s m args below meth c K A nL cl sl Q (pc + 3) L S σ else XM p l e R s m args below meth c K A nL cl sl Q (tgJ pc off) L S σ) := h
  refine lv_icmp_ne hx hb hd (addP h0 rfl) (fun q => ?_) (fun q => ?_)
  · have q2 : ¬ (x = y) := fun z => q ((i32_eq hx2 hy).mpr z)
    rw [if_neg q2] at h
    exact h hn hL (okt (okt hS)) hO H locs ls hP hSS hl
  · have q2 : (x = y) := (i32_eq hx2 hy).mp q
    rw [if_pos q2] at h
    exact h hn hL (okt (okt hS)) hO H locs ls hP hSS hl
theorem xs_icmp_lt (C : Cx p l s m args meth c K A nL own cc r hh) {x y : Int} {off : Int} (hd : decode cc pc = .ok (.if_icmp .lt off, 3)) (h0 : 0 ≤ (pc : Int) + off) (h : brJ .lt x y (XM p l e R s m args below meth c K A nL cl sl Q (tgJ pc off) L S σ) (XM p l e R s m args below meth c K A nL cl sl Q (pc + 3) L S σ)) : XM p l e R s m args below meth c K A nL cl sl Q pc L (iV y :: iV x :: S) σ := by
  obtain ⟨hx, hb, hml, hown, hts, hK, hD, hE, hA, hlk, hr, hst, hnt⟩ := C
  intro hn hL hS hO H locs ls hP hSS hl
  have hy : in32 y := okh hS
  have hx2 : in32 x := okh (okt hS)
  have h : (if x < y then XM p l e R s m args below meth c K A nL cl sl Q (tgJ pc off) L S σ else XM p l e R s m args below meth c K A nL cl sl Q (pc + 3) L S σ) := h
  refine lv_icmp_lt hx hb hd (addP h0 rfl) (fun q => ?_) (fun q => ?_)
  · have q2 : (x < y) := (i32_lt hx2 hy).mp q
    rw [if_pos q2] at h
    exact h hn hL (okt (okt hS)) hO H locs ls hP hSS hl
  · have q2 : ¬ (x < y) := fun z => q ((i32_lt hx2 hy).mpr z)
    rw [if_neg q2] at h
    exact h hn hL (okt (okt hS)) hO H locs ls hP hSS hl
theorem xs_icmp_ge (C : Cx p l s m args meth c K A nL own cc r hh) {x y : Int} {off : Int} (hd : decode cc pc = .ok (.if_icmp .ge off, 3)) (h0 : 0 ≤ (pc : Int) + off) (h : brJ .ge x y (XM p l e R s m args below meth c K A nL cl sl Q (tgJ pc off) L S σ) (XM p l e R s m args below meth c K A nL cl sl Q (pc + 3) L S σ)) : XM p l e R s m args below meth c K A nL cl sl Q pc L (iV y :: iV x :: S) σ := by
  obtain ⟨hx, hb, hml, hown, hts, hK, hD, hE, hA, hlk, hr, hst, hnt⟩ := C
  intro hn hL hS hO H locs ls hP hSS hl
  have hy : in32 y := okh hS
  have hx2 : in32 x := okh (okt hS)
  have h : (if x < y then XM p l e R s m args below meth c K A nL cl sl Q (pc + 3) L S σ else XM p l e R s m args below meth c K A nL cl sl Q (tgJ pc off) L S σ) := h
  refine lv_icmp_ge hx hb hd (addP h0 rfl) (fun q => ?_) (fun q => ?_)
  · have q2 : ¬ (x < y) := Int.not_lt.mpr ((i32_le hy hx2).mp q)
    rw [if_neg q2] at h
    exact h hn hL (okt (okt hS)) hO H locs ls hP hSS hl
  · have q2 : (x < y) := Int.not_le.mp (fun z => q ((i32_le hy hx2).mpr z))
    rw [if_pos q2] at h
    exact h hn hL (okt (okt hS)) hO H locs ls hP hSS hl
theorem xs_icmp_gt (C : Cx p l s m args meth c K A nL own cc r hh) {x y : Int} {off : Int} (hd : decode cc pc = .ok (.if_icmp .gt off, 3)) (h0 : 0 ≤ (pc : Int) + off) (h : brJ .gt x y (XM p l e R s m args below meth c K A nL cl sl Q (tgJ pc off) L S σ) (XM p l e R s m args below meth c K A nL cl sl Q (pc + 3) L S σ)) : XM p l e R s m args below meth c K A nL cl sl Q pc L (iV y :: iV x :: S) σ := by
  obtain ⟨hx, hb, hml, hown, hts, hK, hD, hE, hA, hlk, hr, hst, hnt⟩ := C
  intro hn hL hS hO H locs ls hP hSS hl
  have hy : in32 y := okh hS
  have hx2 : in32 x := okh (okt hS)
  have h : (if y < x then XM p l e R s m args below meth c K A nL cl sl Q (tgJ pc off) L S σ else XM p l e R s m args below meth c K A nL cl sl Q (pc + 3) L S σ) := h
  refine lv_icmp_gt hx hb hd (addP h0 rfl) (fun q => ?_) (fun q => ?_)
  · have q2 : (y < x) := (i32_lt hy hx2).mp q
    rw [if_pos q2] at h
    exact h hn hL (okt (okt hS)) hO H locs ls hP hSS hl
  · have q2 : ¬ (y < x) := fun z => q ((i32_lt hy hx2).mpr z)
    rw [if_neg q2] at h
    exact h hn hL (okt (okt hS)) hO H locs ls hP hSS hl
theorem xs_icmp_le (C : Cx p l s m args meth c K A nL own cc r hh) {x y : Int} {off : Int} (hd : decode cc pc = .ok (.if_icmp .le off, 3)) (h0 : 0 ≤ (pc : Int) + off) (h : brJ .le x y (XM p l e R s m args below meth c K A nL cl sl Q (tgJ pc off) L S σ) (XM p l e R s m args below meth c K A nL cl sl Q (pc + 3) L S σ)) : XM p l e R s m args below meth c K A nL cl sl Q pc L (iV y :: iV x :: S) σ := by
  obtain ⟨hx, hb, hml, hown, hts, hK, hD, hE, hA, hlk, hr, hst, hnt⟩ := C
  intro hn hL hS hO H locs ls hP hSS hl
  have hy : in32 y := okh hS
  have hx2 : in32 x := okh (okt hS)
  have h : (if y < x then XM p l e R s m args below meth c K A nL cl sl Q (pc + 3) L S σ else XM p l e R s m args below meth c K A nL cl sl Q (tgJ pc off) L S σ) := h
  refine lv_icmp_le hx hb hd (addP h0 rfl) (fun q => ?_) (fun q => ?_)
  · have q2 : ¬ (y < x) := Int.not_lt.mpr ((i32_le hx2 hy).mp q)
    rw [if_neg q2] at h
    exact h hn hL (okt (okt hS)) hO H locs ls hP hSS hl
  · have q2 : (y < x) := Int.not_le.mp (fun z => q ((i32_le hx2 hy).mpr z))
    rw [if_pos q2] at h
    exact h hn hL (okt (okt hS)) hO H locs ls hP hSS hl
theorem xs_tsw (C : Cx p l s m args meth c K A nL own cc r hh) {z dflt lo hi : Int} {offs : Array Int} {ln : Nat} (hd : decode cc pc = .ok (.tableswitch dflt lo hi offs, ln)) (h1 : z < lo ∨ hi < z → 0 ≤ (pc : Int) + dflt ∧ XM p l e R s m args below meth c K A nL cl sl Q (tgJ pc dflt) L S σ) (h2 : ¬ z < lo → ¬ hi < z → ∃ off, offs[(z - lo).toNat]? = some off ∧ 0 ≤ (pc : Int) + off ∧ XM p l e R s m args below meth c K A nL cl sl Q (tgJ pc off) L S σ) : XM p l e R s m args below meth c K A nL cl sl Q pc L (iV z :: S) σ := by
  obtain ⟨hx, hb, hml, hown, hts, hK, hD, hE, hA, hlk, hr, hst, hnt⟩ := C
  intro hn hL hS hO H locs ls hP hSS hl
  have hz : (Int32.ofInt z).toInt = z := i32_to (okh hS)
  by_cases q : z < lo ∨ hi < z
  · obtain ⟨q1, q2⟩ := h1 q
    refine lv_tableOut hx hb hd (by rw [hz]; exact q) (addP q1 rfl) ?_
    exact q2 hn hL (okt hS) hO H locs ls hP hSS hl
  · obtain ⟨off, g1, g2, g3⟩ := h2 (fun z => q (Or.inl z)) (fun z => q (Or.inr z))
    refine lv_tableIn (off := off) hx hb hd (by rw [hz]; exact fun z => q (Or.inl z)) (by rw [hz]; exact fun z => q (Or.inr z)) (by rw [hz]; exact g1) (addP g2 rfl) ?_
    exact g3 hn hL (okt hS) hO H locs ls hP hSS hl
end SND
