/-! THE LAW'S BODY: what its places need -/
abbrev LL (i : Int) (x y z : Vv) : List Vv := [rV 34 4000, rV 19 0, rV 20 66, rV 35 88, iV i, x, y, z]
theorem wk_L {i : Int} {x y z : Vv} : wkr (LL i x y z) (LL i uV uV uV) := ⟨Or.inl rfl, Or.inl rfl, Or.inl rfl, Or.inl rfl, Or.inl rfl, Or.inr rfl, Or.inr rfl, Or.inr rfl, trivial⟩
def sv (xs : Nat → Int32) (j : Int) : Int := (xs j.toNat).toInt
def lg2 (a b : Int) : Int := lorI (lshlI a 32) (landI b 4294967295)
theorem o80_self (σ : Sg) : o80 σ σ = σ := by
  funext a
  unfold o80
  by_cases q : a = 88
  · rw [if_pos q, q]
  · rw [if_neg q]
def JtP (P : Sg → Prop) (y z : Nat) (As : List Vv) (f : Int → Vv) (cd : Nat → Int) (σ : Sg) : Prop :=
  (∃ v σ1, Ct 40 y (rV 19 0 :: As) σ (.inl [f v]) σ1 ∧ ∀ τ, (∀ a, a ≠ 88 → τ a = σ1 a) → ∃ σ2, Ct 40 z (rV 20 66 :: As) τ (.inl [f v]) σ2 ∧ σ2 66 5 = 0 ∧ P σ2) ∨
  (∃ E σ1, cd E ≠ 0 ∧ Ct 40 y (rV 19 0 :: As) σ (.inr E) σ1 ∧ ∀ τ, (∀ a, a ≠ 88 → τ a = σ1 a) → ∃ v σ2, Ct 40 z (rV 20 66 :: As) τ (.inl [f v]) σ2 ∧ σ2 66 5 = cd E ∧ P σ2)
def JnP (P : Sg → Prop) (y z : Nat) (As : List Vv) (σ : Sg) : Prop :=
  ∃ v σ1, Ct 40 y (rV 19 0 :: As) σ (.inl [iV v]) σ1 ∧ ∃ σ2, Ct 40 z (rV 20 66 :: As) σ1 (.inl [iV v]) σ2 ∧ P σ2
def JvP (P : Sg → Prop) (y z : Nat) (As : List Vv) (cd : Nat → Int) (σ : Sg) : Prop :=
  (∃ σ1, Ct 40 y (rV 19 0 :: As) σ (.inl []) σ1 ∧ ∀ τ, (∀ a, a ≠ 88 → τ a = σ1 a) → ∃ σ2, Ct 40 z (rV 20 66 :: As) τ (.inl []) σ2 ∧ σ2 66 5 = 0 ∧ P σ2) ∨
  (∃ E σ1, cd E ≠ 0 ∧ Ct 40 y (rV 19 0 :: As) σ (.inr E) σ1 ∧ ∀ τ, (∀ a, a ≠ 88 → τ a = σ1 a) → ∃ σ2, Ct 40 z (rV 20 66 :: As) τ (.inl []) σ2 ∧ σ2 66 5 = cd E ∧ P σ2)
theorem ag_up {σ σ1 : Sg} {v : Int} : ∀ a, a ≠ 88 → upS (o80 σ σ1) 88 0 v a = σ1 a := fun a h => by
  funext j
  unfold upS
  rw [if_neg (fun q => h q.1), o80_ne h]
theorem ag_o {σ σ1 : Sg} : ∀ a, a ≠ 88 → o80 σ σ1 a = σ1 a := fun a h => o80_ne h
section LWB
variable {p : Program} {l : Launch} {e : Env} {R : Room} {s : State} {m : MethodId} {args : Array Value} {below : List Frame} {meth : Method} {c : Code} {K : KT} {A : Nat → Prop} {nL cl sl : Nat} {hh : Prop} {Q : State → Prop}
variable {r : Option FieldType} {pc : Nat} {L S : List Vv} {σ : Sg} {n : Nat} {xs : Nat → Int32}
/-- what the law's frame has -/
def LwC (p : Program) (l : Launch) (R : Room) (s : State) (m : MethodId) (args : Array Value) (meth : Method) (c : Code) (K : KT) (A : Nat → Prop) (nL : Nat) (r : Option FieldType) (hh : Prop) (n : Nat) (xs : Nat → Int32) (P : Sg → Prop) : Prop :=
  K.2.2.1 9998 ≠ 0 ∧ Cx p l s m args meth c K A nL 12 cL_law r hh ∧ va_X (K.2.2.1 4000) n xs s s.heap ∧ K.2.2.1 4000 < s.heap.size ∧ ¬ A (K.2.2.1 4000) ∧ NC s ∧ (∀ w ∈ lw_tbl, w.before args s = true) ∧ 61 ≤ R.frames ∧ 1940 ≤ R.locals ∧ n < 2147483648 ∧
  (∀ τ, Ct 40 MX11_thrown [rV 20 66] τ (.inl [iV (τ 66 5)]) τ) ∧ (∀ σ τ : Sg, (∀ a, a ≠ 88 → τ a = σ a) → P σ → P τ)
variable {P : Sg → Prop}
theorem sc_at (W9 : LwC p l R s m args meth c K A nL r hh n xs P) {j : Int} (hj : 0 ≤ j ∧ j < (n : Int)) (d : decode cL_law pc = .ok (.iaload, 1)) (h : XM p l e R s m args below meth c K A nL cl sl Q (pc + 1) L (iV (sv xs j) :: S) σ) : XM p l e R s m args below meth c K A nL cl sl Q pc L (iV j :: rV 34 4000 :: S) σ := by
  obtain ⟨h81, ⟨hx, hb, hml, hown, hts, hK, hD, hE, hA, hlk, hr, hst, hnt⟩, hX, hbl, hbA, hNC, ht, hfr, hlo, hn9, -⟩ := W9
  intro hn hL hS hO H locs ls hP hSS hl
  have hj2 : in32 j := okh hS
  have hv : okV (iV (sv xs j)) := ⟨Int32.le_toInt _, Int32.toInt_lt _⟩
  have h9 := h hn hL (okc hv (okt (okt hS))) hO H locs ls hP hSS hl
  have e1 : cv K (iV (sv xs j)) = .int (xs (Int32.ofInt j).toNatClampNeg) := by
    rw [i32_cl hj2]
    show Value.int (Int32.ofInt (xs j.toNat).toInt) = _
    rw [Int32.ofInt_toInt]
  rw [List.map_cons, e1] at h9
  exact va_sld hx hb hX hbl hbA hSS (i32_in' hj2 hj) d h9
theorem sc_len (W9 : LwC p l R s m args meth c K A nL r hh n xs P) (d : decode cL_law pc = .ok (.arraylength, 1)) (h : XM p l e R s m args below meth c K A nL cl sl Q (pc + 1) L (iV (n : Int) :: S) σ) : XM p l e R s m args below meth c K A nL cl sl Q pc L (rV 34 4000 :: S) σ := by
  obtain ⟨h81, ⟨hx, hb, hml, hown, hts, hK, hD, hE, hA, hlk, hr, hst, hnt⟩, hX, hbl, hbA, hNC, ht, hfr, hlo, hn9, -⟩ := W9
  intro hn hL hS hO H locs ls hP hSS hl
  have hv : okV (iV (n : Int)) := ⟨by show (-2147483648 : Int) ≤ (n : Int); omega, by show (n : Int) < 2147483648; omega⟩
  have h9 := h hn hL (okc hv (okt hS)) hO H locs ls hP hSS hl
  rw [List.map_cons, cv_i, ← i_on] at h9
  exact va_slen hx hb hX hbl hbA hSS d h9
theorem sc_rd {C9 : Nat → List Vv → Sg → Rs → Sg → Prop} {Xr : List Vv → Sg → Prop} {Xt : Nat → Sg → Prop} (W9 : LwC p l R s m args meth c K A nL r hh n xs P) (hC : Clo C9 12 cL_law r (XM p l e R s m args below meth c K A nL cl sl Q) Xr Xt) {i j : Int} {x y z : Vv} (hj : 0 ≤ i + j ∧ i + j < (n : Int)) (hj2 : w32 j = j) (d0 : decode cL_law pc = .ok (.aload_n 0, 1)) (d1 : decode cL_law (pc + 1) = .ok (.iload 4, 2)) (d3 : decode cL_law (pc + 3) = .ok (.iconst j, 1)) (d4 : decode cL_law (pc + 4) = .ok (.iadd, 1)) (d5 : decode cL_law (pc + 5) = .ok (.iaload, 1))
    (h : XM p l e R s m args below meth c K A nL cl sl Q (pc + 6) (LL i x y z) (iV (sv xs (i + j)) :: S) σ) : XM p l e R s m args below meth c K A nL cl sl Q pc (LL i x y z) S σ := by
  have hn := W9.2.2.2.2.2.2.2.2.2.1
  refine st_aload_n hC d0 rfl (by decide) (by decide) ?_
  refine st_iload hC d1 rfl ?_
  refine st_iconst hC d3 hj2 ?_
  refine st_iadd hC d4 ?_
  rw [show w32 (i + j) = i + j by unfold w32; omega]
  exact sc_at W9 hj d5 h
theorem sc_rl {C9 : Nat → List Vv → Sg → Rs → Sg → Prop} {Xr : List Vv → Sg → Prop} {Xt : Nat → Sg → Prop} (W9 : LwC p l R s m args meth c K A nL r hh n xs P) (hC : Clo C9 12 cL_law r (XM p l e R s m args below meth c K A nL cl sl Q) Xr Xt) {i j j' : Int} {x y z : Vv} (hj : 0 ≤ i + j ∧ i + j < (n : Int)) (hj2 : w32 j = j) (hk : 0 ≤ i + j' ∧ i + j' < (n : Int)) (hk2 : w32 j' = j')
    (d0 : decode cL_law pc = .ok (.aload_n 0, 1)) (d1 : decode cL_law (pc + 1) = .ok (.iload 4, 2)) (d3 : decode cL_law (pc + 3) = .ok (.iconst j, 1)) (d4 : decode cL_law (pc + 4) = .ok (.iadd, 1)) (d5 : decode cL_law (pc + 5) = .ok (.iaload, 1))
    (d6 : decode cL_law (pc + 6) = .ok (.i2l, 1)) (d7 : decode cL_law (pc + 7) = .ok (.bipush 32, 2)) (d9 : decode cL_law (pc + 9) = .ok (.lshl, 1))
    (g0 : decode cL_law (pc + 10) = .ok (.aload_n 0, 1)) (g1 : decode cL_law (pc + 10 + 1) = .ok (.iload 4, 2)) (g3 : decode cL_law (pc + 10 + 3) = .ok (.iconst j', 1)) (g4 : decode cL_law (pc + 10 + 4) = .ok (.iadd, 1)) (g5 : decode cL_law (pc + 10 + 5) = .ok (.iaload, 1))
    (g6 : decode cL_law (pc + 16) = .ok (.i2l, 1)) (g7 : decode cL_law (pc + 17) = .ok (.ldc2_w 206, 3)) (g8 : decode cL_law (pc + 20) = .ok (.land, 1)) (g9 : decode cL_law (pc + 21) = .ok (.lor, 1))
    (h : XM p l e R s m args below meth c K A nL cl sl Q (pc + 22) (LL i x y z) (lV (lg2 (sv xs (i + j)) (sv xs (i + j'))) :: S) σ) : XM p l e R s m args below meth c K A nL cl sl Q pc (LL i x y z) S σ := by
  refine sc_rd W9 hC hj hj2 d0 d1 d3 d4 d5 ?_
  refine st_i2l hC d6 ?_
  refine st_bipush hC d7 rfl ?_
  refine st_lshl hC d9 ?_
  refine sc_rd W9 hC hk hk2 g0 g1 g3 g4 g5 ?_
  refine st_i2l hC g6 ?_
  refine st_ldc2 hC g7 (show look (KJt 12) 206 = some 4294967295 from rfl) ?_
  refine st_land hC g8 ?_
  exact st_lor hC g9 h
theorem XM_wid {cl2 sl2 : Nat} (h1 : cl ≤ cl2) (h2 : sl ≤ sl2) (h : XM p l e R s m args below meth c K A nL cl2 sl2 Q pc L S σ) : XM p l e R s m args below meth c K A nL cl sl Q pc L S σ := fun hn hL hS hO H locs ls hP hSS hl => W.widen h1 h2 (h hn hL hS hO H locs ls hP hSS hl)
/-- a call of a method of the reference or the class that comes back -/
theorem ctn {y : Nat} {As : List Vv} {rr : List Vv} {σ' : Sg} (h : Ct 40 y As σ (.inl rr) σ') (h9 : As.all (fun v => v.2.1 != 9998) = true) (h9r : rr.all (fun v => v.2.1 != 9998) = true) : CtN 40 y As σ (.inl rr) (o80 σ σ') := ⟨σ', h, rfl, n9 h9, fun vs hvs => by cases hvs; exact n9 h9r, rr, rfl⟩
/-- the fault is the reference's too; then the answers agree -/
theorem seg_C (W9 : LwC p l R s m args meth c K A nL r hh n xs P) (hcl : cl ≤ R.cells) (hsl : sl ≤ R.slots) {i k : Int} {y z : Vv} {o1 : Int} {t1 : Nat} (hk : σ 66 5 = k)
    (d0 : decode cL_law pc = .ok (.aload_n 2, 1)) (d1 : decode cL_law (pc + 1) = .ok (.invokevirtual 182, 3)) (d4 : decode cL_law (pc + 4) = .ok (.iload 5, 2)) (d6 : decode cL_law (pc + 6) = .ok (.if_icmp .eq o1, 3)) (ht1 : ((pc + 6 : Nat) : Int) + o1 = (t1 : Int)) 
    (h : XM p l e R s m args below meth c K A nL cl sl Q t1 (LL i (iV k) y z) [] σ) : XM p l e R s m args below meth c K A nL cl sl Q pc (LL i (iV k) y z) [] σ := by
  obtain ⟨h81, C, hX, hbl, hbA, hNC, ht, hfr, hlo, hn9, hth, hPP⟩ := W9
  have hC := clo_L (Q := Q) (e := e) (below := below) (cl := cl) (sl := sl) (d := 40) h81 C (by omega) (by omega) hcl hsl
  refine st_aload_n hC d0 rfl (by decide) (by decide) ?_
  refine st_invV (t := 20) (a := 66) (ci := 10) (As := []) (S := []) (y := MX11_thrown) hC d1 (show look (CLt 12) 182 = some (MX11_thrown, false, 0) from rfl) rfl rfl (by decide) ⟨by decide, rfl, by decide +kernel⟩ (ctn (hth σ) rfl rfl) ?_
  rw [o80_self]
  refine st_iload hC d4 rfl ?_
  refine st_icmp_eq hC d6 ht1 ?_
  rw [if_pos hk]
  exact h
theorem seg_D (W9 : LwC p l R s m args meth c K A nL r hh n xs P) (hcl : cl ≤ R.cells) (hsl : sl ≤ R.slots) {i k : Int} {y z : Vv} {o1 : Int} {t1 : Nat}
    (d0 : decode cL_law pc = .ok (.iload 5, 2)) (d2 : decode cL_law (pc + 2) = .ok (.ifCond .ne o1, 3)) (ht1 : ((pc + 2 : Nat) : Int) + o1 = (t1 : Int)) (d5 : decode cL_law (pc + 5) = .ok (.aload_n 3, 1)) (d6 : decode cL_law (pc + 6) = .ok (.iconst 0, 1)) (d7 : decode cL_law (pc + 7) = .ok (.laload, 1))
    (hm : k = 0 → XM p l e R s m args below meth c K A nL cl sl Q (pc + 8) (LL i (iV k) y z) [lV (σ 88 0)] σ) (h : XM p l e R s m args below meth c K A nL cl sl Q t1 (LL i (iV k) y z) [] σ) : XM p l e R s m args below meth c K A nL cl sl Q pc (LL i (iV k) y z) [] σ := by
  obtain ⟨h81, C, hX, hbl, hbA, hNC, ht, hfr, hlo, hn9, hth, hPP⟩ := W9
  have hC := clo_L (Q := Q) (e := e) (below := below) (cl := cl) (sl := sl) (d := 40) h81 C (by omega) (by omega) hcl hsl
  refine st_iload hC d0 rfl ?_
  refine st_if_ne hC d2 ht1 ?_
  by_cases hk : k = 0
  · rw [if_pos hk]
    refine st_aload_n hC d5 rfl (by decide) (by decide) ?_
    refine st_iconst hC d6 rfl ?_
    exact xs_laldO h81 C d7 (hm hk)
  · rw [if_neg hk]
    exact h
end LWB
