/-! THE LAW'S WRAPPERS: the words beside, a call whose throw is caught, the contract of a wrapper (one cell of six slots, an answer always) -/
def NC (U : State) : Prop := ∀ E F, 1 ≤ E → E ≤ 4 → 1 ≤ F → F ≤ 4 → E ≠ F → va_Nc (excN E) (excN F) U
theorem NC.moved {s U : State} (hv : s.vm.Alike U.vm) (h : NC s) : NC U := fun E F a b c d e => (h E F a b c d e).moved hv
def excP (E : Nat) : Nat := match E with
  | 1 => 18
  | 2 => 13
  | 3 => 50
  | _ => 155
def GWx : List Cond := [.classLink RL 18 (excN 1), .classLink RL 13 (excN 2), .classLink RL 50 (excN 3), .classLink RL 155 (excN 4)]
def GW : List Cond := GWx ++ GB
def rmW : Room := { frames := 60, cells := 1, slots := 6, locals := 1900 }
def wW (y : MethodName) (cc : ByteArray) (n : Nat) (th : List (Nat × Nat × Nat × Nat)) : List Cond := .codeWith y cc n (some .int) th :: GW
def CtL (y : MethodName) (w : List Cond) (As : List Vv) (σ : Sg) (v : Int) (σ' : Sg) : Prop :=
  okL As → okS σ → ∀ (l : Launch) (K : KT) (sz : Nat), l.stackTraces = false →
    vx_Met l y w rmW (va_Pc (As.map (cv K)) (fun U => U.heap.size = sz ∧ Wd K σ sz U ∧ NC U)) (QcO K σ' (.inl [iV v]) sz) (fun _ _ _ => False) 1 6 (AA K sz)
def QfW (below : List Frame) (K : KT) (σf : Sg) (v : Int) (args : Array Value) (s : State) (A : Nat → Prop) : State → Prop := vx_MQ below (QcO K σf (.inl [iV v]) s.heap.size) (fun _ _ _ => False) args s 1 6 A
theorem HL.storeU {K : KT} (hK : K.2.2.2 = .null ∨ ∃ a, K.2.2.2 = .ref a) {ls' : Array Slot} {nL i : Nat} {L : List Vv} {w : Value} (hi : i < L.length)
    (h : lv_has ls' nL ((i, w) :: (toL K L).filter (fun q => !(q.1 == i) && !(q.1 + 1 == i && q.2.category == 2)))) : HL K ls' nL (ls1 L i uV) := by
  refine ⟨h.1, h.2.1, fun j hj => ?_⟩
  rw [lg_ls1] at hj ⊢
  by_cases e1 : j = i
  · rw [if_pos e1, if_pos hi] at hj
    exact absurd rfl hj
  · rw [if_neg e1] at hj ⊢
    by_cases e2 : j + 1 = i
    · rw [if_pos e2] at hj ⊢
      obtain ⟨u1, u2⟩ := unl_9 hj
      rw [u1] at hj ⊢
      refine h.2.2 (j, cv K (lg L j)) (List.mem_cons_of_mem _ (List.mem_filter.mpr ⟨toL_mem hj, ?_⟩))
      have : (cv K (lg L j)).category = 1 := by rw [cv_cat hK]; unfold catV; rw [if_neg u2]
      simp [e1, this]
    · rw [if_neg e2] at hj ⊢
      refine h.2.2 (j, cv K (lg L j)) (List.mem_cons_of_mem _ (List.mem_filter.mpr ⟨toL_mem hj, ?_⟩))
      simp [e1, e2]
section WRP
variable {p : Program} {l : Launch} {e : Env} {R : Room} {s : State} {m : MethodId} {args : Array Value} {below : List Frame} {meth : Method} {c : Code} {K : KT} {A : Nat → Prop} {nL cl sl : Nat} {hh : Prop} {Q : State → Prop}
variable {own : Nat} {cc : ByteArray} {r : Option FieldType} {pc : Nat} {L S : List Vv} {σ : Sg}
theorem callB_g {d d' y o k na : Nat} {b : Bool} {rr : Rs} (hd' : d' ≤ d) (hfr : 13 + d ≤ R.frames) (hlo : 191 + 40 * d ≤ R.locals) (hts : ∀ w ∈ GB, w.before args s = true) (hk : look (CLt o) k = some (y, b, na)) :
    CallB R s args (ownN o) k (mY y) (mC y) (mL y) (mR y) (wM y) (rmO d' rr) (mcO rr) (msO rr) na := by
  obtain ⟨hy, hnm, hpar, hm, ho⟩ := call_ok hk
  have hl := ml_ok y hy
  have hin : ∀ w ∈ wM y, w ∈ GB := fun w hw => by
    rcases List.mem_cons.mp hw with rfl | hw
    · exact in_code hy
    · exact hw
  refine ⟨rfl, rfl, ?_, ?_, pay_in hts (fun w hw => gb_in w (hin w hw)), List.mem_cons_self, hts _ (in_code hy), hts _ (in_call ho hm (by simp [callW])), hnm, fun sig hsig => ?_, hts _ (in_call ho hm (by simp [callW]))⟩
  · show 12 + d' + 1 ≤ R.frames; omega
  · show 8 + (mL y + 11) + (160 + 40 * d') ≤ R.locals; omega
  · rw [hsig] at hpar
    exact (Option.some.inj hpar).symm
theorem mc_le (rr : Rs) : mcO rr ≤ 1 ∧ msO rr ≤ 6 := by
  cases rr with
  | inl _ => exact ⟨Nat.zero_le _, Nat.zero_le _⟩
  | inr _ => exact ⟨Nat.le_refl _, Nat.le_refl _⟩
/-- a virtual call from a place with cells made; a throw goes on as vx_W -/
theorem xs_callVH {d k y na t a : Nat} {As : List Vv} {rr : Rs} {σ' : Sg} (C : Cx p l s m args meth c K A nL own cc r hh) (hd : decode cc pc = .ok (.invokevirtual k, 3)) (hk : look (CLt own) k = some (y, false, na)) (hlen : As.length = na) (hcs : csum S ≤ 8)
    (hfr : 13 + d ≤ R.frames) (hlo : 191 + 40 * d ≤ R.locals) (hcl : cl + mcO rr ≤ R.cells) (hsl : sl + msO rr ≤ R.slots)
    (hrv : ∃ ci, ci < 11 ∧ t = 10 + ci ∧ (mY y).cls = (cTb ci).1)
    (hCt : Ct d y (rV t a :: As) σ rr σ') (kN : ∀ vs, rr = .inl vs → XM p l e R s m args below meth c K A nL cl sl Q (pc + 3) L (vs ++ S) σ')
    (kX : ∀ E, rr = .inr E → okS σ' → 1 ≤ E → E ≤ 4 → L.length = nL → okL L → okL S → ∀ (H : Heap) (locs : List Loc) (ls : Array Slot) (q : Addr) (ce : Cell), va_P K.1 vwCl (WS K σ') H → va_S A s.heap H locs → HL K ls nL L → H[q]? = some ce → ce.vm = .none → s.vm.findClass (excN E) = some ce.cls → vx_W p l e R s m args below meth c H locs (cl + 1) (sl + 6) Q (F0 m pc ls (S.map (cv K))) q) :
    XM p l e R s m args below meth c K A nL cl sl Q pc L (As.reverse ++ rV t a :: S) σ := by
  obtain ⟨hx, hb, hml, hown, hts, hK, hD, hE, hA, hlk, hr, hst, hnt⟩ := C
  intro hn hL hS hO H locs ls hP hSS hl
  have hrok : okV (rV t a) := okh (okL_rr hS)
  obtain ⟨d', hd', hM⟩ := hCt (okc hrok (okL_rev (okL_l hS))) hO
  obtain ⟨hy, hnm, hpar, hm, ho⟩ := call_ok hk
  have ht : 10 ≤ t ∧ t ≠ 33 := by
    obtain ⟨ci, h0, h1, -⟩ := hrv
    omega
  have hrc : ∃ cell : Cell, H[K.2.2.1 a]? = some cell ∧ cell.vm.isStatics = false ∧ s.vm.findClass (mY y).cls = some cell.cls := by
    obtain ⟨ci, h0, h1, h2⟩ := hrv
    subst h1
    obtain ⟨ha, hT⟩ := okw_obj hrok h0
    have hg := WS_get K σ ha
    rw [cell_obj K σ hT h0] at hg
    rw [h2]
    exact va_recv hK hP (cl_get h0) hg
  have hsub : ∀ q, AA K H.size q → A q := fun q hq => by
    rw [hA]
    rcases hq with h | h
    · exact Or.inl h
    · exact Or.inr (Nat.le_trans hSS.1 h)
  have run := vx_runV (meth := meth) (below := below) (e := e) (locs := locs) (cells := cl) (slots := sl) (own := ownN own) (C := (mY y).cls) (index := k) (y := mY y) (bytes := mC y) (maxL := mL y) (ret := mR y) (ws := wM y) (rm := rmO d' rr) (n := na) (Ts := GB) (nL := nL) (b := K.2.2.1 a) (As := As.map (cv K)) (rest := S.map (cv K)) (g := F0 m pc ls ((As.reverse ++ rV t a :: S).map (cv K))) ⟨hx, hb, hml, hown, hts⟩ (hM l K H.size hst) ⟨callB_g hd' hfr hlo hts hk, hts _ (in_call ho hm (by simp [callW])), hts _ (in_call ho hm (by simp [callW]))⟩ ⟨wd_blind, hrc, fun U hU hW => ⟨by rw [List.map_cons, cv_nr ht.1 ht.2], wd_call hK hD hE hA hP hSS hU hW⟩⟩ rfl (by rw [List.length_map]; exact hlen) hl.1 (by rw [List.map_append, List.map_reverse, List.map_cons, cv_nr ht.1 ht.2]) (lv_room (by rw [cat_S hE]; exact hcs)) hd ⟨hcl, hsl⟩
  intro T hT X
  rcases run T hT X with ⟨v, st₀, t2, T', Lc, h0, X', hL2, e1, e2, ⟨⟨vs, hvs, hO', hrr, hv, hP1⟩, hF⟩, st⟩ | ⟨q, st₀, t2, T', Lc, E, ce, h0, X', hL2, e1, e2, ⟨⟨k2, hk2, hO', hrr, hEE, hP1⟩, hF⟩, hce, hcv, hcl2, st⟩
  · subst hvs
    obtain ⟨k1, k2, k3⟩ := vx_keep h0 e1 hSS (fun q _ h => hsub q h) hsub hL2 hF
    rw [← e1] at hP1
    obtain ⟨t3, a1, b1⟩ := kN vs rfl hn hL (okL_app hrr (okt (okL_rr hS))) hO' T'.heap (locs ++ Lc) ls hP1 k3 hl T' rfl X'
    refine ⟨t3, st t3 ?_, b1⟩
    rcases hv with ⟨rfl, hv⟩ | ⟨w, rfl, hv⟩
    · cases hv; exact a1
    · cases hv; exact a1
  · subst hk2
    obtain ⟨k1, k2', k3⟩ := vx_keep h0 e1 hSS (fun q _ h => hsub q h) hsub hL2 hF
    rw [← e1] at hP1
    subst hEE
    obtain ⟨t3, a1, b1⟩ := kX k2 rfl hO' hrr.1 hrr.2 hn hL (okt (okL_rr hS)) T'.heap (locs ++ Lc) ls q ce hP1 k3 hl (by rw [e1]; exact hce) hcv hcl2 T' rfl X'
    exact ⟨t3, st.trans a1, b1⟩
/-- the throw E caught: its number is stored away, then the place behind -/
theorem xw_catch {E pc2 i : Nat} {x : ExceptionTableEntry} {pre suf : List ExceptionTableEntry} {stk : List Value} (C : Cx p l s m args meth c K A nL 12 cc r hh) (hgw : ∀ w ∈ GW, w.before args s = true) (hNC : NC s) (hE1 : 1 ≤ E) (hE4 : E ≤ 4)
    (ht : c.exceptionTable.toList = pre ++ x :: suf) (hpre : ∀ z ∈ pre, ∃ F, 1 ≤ F ∧ F ≤ 4 ∧ F ≠ E ∧ z.catchType = excP F) (hx : x.catchType = excP E) (hcov : covers x pc = true)
    (hst2 : (decode cc x.handlerPc = .ok (.astore i, 2) ∧ pc2 = x.handlerPc + 2) ∨ (∃ k : Fin 4, (k : Nat) = i ∧ decode cc x.handlerPc = .ok (.astore_n k, 1) ∧ pc2 = x.handlerPc + 1)) (hi : i < L.length)
    (hO : okS σ) (hn : L.length = nL) (hL : okL L) (kk : XM p l e R s m args below meth c K A nL cl sl Q pc2 (ls1 L i uV) [] σ)
    {H : Heap} {locs : List Loc} {ls : Array Slot} {q : Addr} {ce : Cell} (hP : va_P K.1 vwCl (WS K σ) H) (hSS : va_S A s.heap H locs) (hl : HL K ls nL L) (hce : H[q]? = some ce) (hcv : ce.vm = .none) (hcl : s.vm.findClass (excN E) = some ce.cls) :
    vx_W p l e R s m args below meth c H locs cl sl Q (F0 m pc ls stk) q := by
  obtain ⟨hx0, hb, hml, hown, hts, hK, hD, hE, hA, hlk, hr, hst, hnt⟩ := C
  have lk : ∀ F, 1 ≤ F → F ≤ 4 → (Cond.classLink RL (excP F) (excN F)).before args s = true := by
    intro F f1 f4
    refine hgw _ (List.mem_append_left _ ?_)
    unfold GWx
    rcases (show F = 1 ∨ F = 2 ∨ F = 3 ∨ F = 4 by omega) with rfl | rfl | rfl | rfl
    · exact List.mem_cons_self
    · exact List.mem_cons_of_mem _ List.mem_cons_self
    · exact List.mem_cons_of_mem _ (List.mem_cons_of_mem _ List.mem_cons_self)
    · exact List.mem_cons_of_mem _ (List.mem_cons_of_mem _ (List.mem_cons_of_mem _ List.mem_cons_self))
  have p0 : ∀ F, 1 ≤ F → F ≤ 4 → excP F ≠ 0 := by
    intro F f1 f4
    rcases (show F = 1 ∨ F = 2 ∨ F = 3 ∨ F = 4 by omega) with rfl | rfl | rfl | rfl <;> decide
  have hcast : (Cond.castable (excN E) (excN E)).before args s = true := by
    refine va_Nw.use rfl (hE.2.2.2.2.2.2.2.2.2 _ ?_)
    unfold NGW
    rcases (show E = 1 ∨ E = 2 ∨ E = 3 ∨ E = 4 by omega) with rfl | rfl | rfl | rfl
    · exact List.mem_cons_self
    · exact List.mem_cons_of_mem _ List.mem_cons_self
    · exact List.mem_cons_of_mem _ (List.mem_cons_of_mem _ List.mem_cons_self)
    · exact List.mem_cons_of_mem _ (List.mem_cons_of_mem _ (List.mem_cons_of_mem _ List.mem_cons_self))
  refine vx_catch (own := RL) (name := excN E) (E := excN E) (ce := ce) hown pre x suf ht (fun z hz => ?_) hcov (by rw [hx]; exact p0 E hE1 hE4) (by rw [hx]; exact lk E hE1 hE4) hcast hce hcv hcl ?_
  · obtain ⟨F, f1, f4, f5, f6⟩ := hpre z hz
    exact Or.inr ⟨by rw [f6]; exact p0 F f1 f4, excN F, by rw [f6]; exact lk F f1 f4, hNC E F hE1 hE4 f1 f4 (Ne.symm f5)⟩
  · have go : ∀ ls' : Array Slot, lv_has ls' nL ((i, Value.ref q) :: (toL K L).filter (fun q => !(q.1 == i) && !(q.1 + 1 == i && q.2.category == 2))) → W p l e R s m args below meth c H locs cl sl Q (F0 m pc2 ls' []) := fun ls' hl' =>
      kk (by rw [ls1_len]; exact hn) (ok_ls1 hL trivial) (fun v hv => nomatch hv) hO H locs ls' hP hSS (HL.storeU hE.2.2.2.2.2.2.2.1 hi hl')
    rcases hst2 with ⟨d1, rfl⟩ | ⟨k, hki, d1, rfl⟩
    · exact lv_astore (i := i) hx0 hb d1 hl.to (by rw [← hn]; exact hi) rfl (fun ls' hl' => go ls' hl')
    · exact lv_astore_n (i := i) hx0 hb d1 hki hl.to (by rw [← hn]; exact hi) rfl (fun ls' hl' => go ls' hl')
theorem xw_ireturn {v z : Int} {σf : Sg} (C : Cx p l s m args meth c K A nL own cc (some .int) hh) (hd : decode cc pc = .ok (.ireturn, 1)) (hc : cl ≤ 1) (hs : sl ≤ 6) (h : z = v ∧ σ = σf) : XM p l e R s m args below meth c K A nL cl sl (QfW below K σf v args s A) pc L [iV z] σ := by
  obtain ⟨hx, hb, hml, hown, hts, hK, hD, hE, hA, hlk, hr, hst, hnt⟩ := C
  intro hn hL hS hO H locs ls hP hSS hl
  obtain ⟨rfl, rfl⟩ := h
  refine W.widen hc hs ?_
  refine vx_ret ?_
  exact W.zret hx hb hr (nar_ok (okh hS) (show narR (some .int) z from trivial)) (fun t ht hW => ⟨⟨_, rfl, hO, hS, Or.inr ⟨_, rfl, rfl⟩, by rw [ht]; exact hP⟩, by rw [← hA]; exact hSS.F ht⟩) hSS.2.2 hd hlk
end WRP
/-- a wrapper's contract out of its walk -/
theorem mk_W {y : MethodName} {cc : ByteArray} {n : Nat} {th : List (Nat × Nat × Nat × Nat)} {As : List Vv} {σ σ' : Sg} {v : Int} (hy : plainName y.cls = true) (hown : y.cls = RL) (hlen : (ent As).length ≤ n)
    (h : ∀ (p : Program) (l : Launch) (e : Env) (s : State) (m : MethodId) (args : Array Value) (below : List Frame) (meth : Method) (c : Code) (K : KT) (A : Nat → Prop), Cx p l s m args meth c K A n 12 cc (some .int) False → (∀ w ∈ GW, w.before args s = true) → NC s → c.exceptionTable.toList = tableOf th → XM p l e rmW s m args below meth c K A n 0 0 (QfW below K σ' v args s A) 0 (ent As ++ List.replicate (n - (ent As).length) uV) [] σ) : CtL y (wW y cc n th) As σ v σ' := by
  intro hok hS l K sz hst
  refine vx_ofWH (cc := cc) (maxL := n) (ret := some .int) (hh := th) hy rfl ?_
  intro p e s m args below meth c s₁ B hml hv
  obtain ⟨rfl, hsz, ⟨hP, hK, hD, hE⟩, hNC⟩ := hv
  subst hsz
  have hts0 := atoms_spec (ws := wW y cc n th) B.pre
  have hgw : ∀ w ∈ GW, w.before (As.map (cv K)).toArray s = true := fun w hw => hts0 w (List.mem_cons_of_mem _ hw)
  have hKn := hE.2.2.2.2.2.2.2.1
  have hle : (lg_sl (As.map (cv K))).length ≤ n := by rw [ent_len hKn]; exact hlen
  have hl := lv_entry (As.map (cv K)) hle
  rw [lg_entry_eq]
  have C : Cx p l s m (As.map (cv K)).toArray meth c K (AA K s.heap.size) n 12 cc (some .int) False :=
    ⟨B.exec, B.bytes, hml, by show s.vm.findClass RL = _; rw [← hown]; exact findClass_of_methodNamed B.named, fun w hw => hgw w (List.mem_append_right _ hw), hK, WD_all hD, hE, rfl, B.notSynchronized, B.returns, hst, fun z => z.elim⟩
  have hX := h p l e s m _ below meth c K _ C hgw hNC (vx_table (x := y) B (hts0 _ List.mem_cons_self))
  refine hX (by rw [List.length_append, List.length_replicate]; omega) (okL_app (ent_ok hok) okL_rep) (fun v hv => nomatch hv) hS s.heap [] _ hP va_S.rf ⟨hl.1, hl.2.1, fun j hj => ?_⟩
  rw [lg_app] at hj ⊢
  by_cases hj2 : j < (ent As).length
  · rw [if_pos hj2] at hj ⊢
    have h9 := ent_args (K := K) hKn As 0 j hj
    rw [Nat.zero_add] at h9
    exact hl.2.2 _ h9
  · rw [if_neg hj2, lg_rep] at hj
    exact absurd rfl hj
