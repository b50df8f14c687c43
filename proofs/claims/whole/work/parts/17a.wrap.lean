/-! THE WORLD without the law's own row -/
def o80 (σ τ : Sg) : Sg := fun a => if a = 88 then σ 88 else τ a
theorem o80_ne {σ τ : Sg} {a : Nat} (h : a ≠ 88) : o80 σ τ a = τ a := if_neg h
theorem o80_80 {σ τ : Sg} : o80 σ τ 88 = σ 88 := if_pos rfl
theorem okS_o80 {σ τ : Sg} (h : okS σ) (g : okS τ) : okS (o80 σ τ) := by
  intro a j ha
  by_cases q : a = 88
  · subst q; exact h 88 j ha
  · rw [o80_ne q]; exact g a j ha
def K0 (K : KT) : KT := (K.1, K.2.1, fun i => if i = 9998 then 0 else K.2.2.1 i, K.2.2.2)
theorem K0_a {K : KT} {i : Nat} (h : i ≠ 9998) : (K0 K).2.2.1 i = K.2.2.1 i := if_neg h
theorem nW_K0 (K : KT) : nW (K0 K) = 88 := if_pos (show (if 9998 = 9998 then 0 else K.2.2.1 9998) = 0 from if_pos rfl)
theorem cv_K0 {K : KT} {v : Vv} (h : v.2.1 ≠ 9998) : cv (K0 K) v = cv K v := by
  unfold cv
  split
  · rfl
  · rfl
  · rfl
  · rw [K0_a h]
theorem fval_K0 {σ : Sg} {ci k a : Nat} (ha : a < 88) (hT : TY a = 10 + ci) (hc : ci < 11) (hk : k < (cTb ci).2.2) : (fval ci k σ a).2.1 ≠ 9998 := by
  have h1 := ty_refs a ha (by omega)
  have e : TY a - 10 = ci := by omega
  rw [e] at h1
  rcases h1.2.2 k hk with q | q | ⟨q1, q2, q3, q4⟩
  · unfold fval; rw [q]; exact (by decide : (0 : Nat) ≠ 9998)
  · unfold fval; rw [q]; exact (by decide : (0 : Nat) ≠ 9998)
  · unfold fval
    split
    · rename_i h; omega
    · rename_i h; omega
    · show a + fof ci k ≠ 9998; omega
theorem ty_21 : ∀ a, a < 88 → TY a = 4000003 → a = 21 := by decide +kernel
theorem ty_44 : ∀ a, a < 88 → TY a = 5000004 → a = 44 := by decide +kernel
theorem cellE_K0 {K : KT} {σ : Sg} {a : Nat} (ha : a < 88) : cellE (K0 K) σ a = cellE K σ a := by
  rcases ty_kind a ha with h | ⟨h1, h2, h3⟩
  · obtain ⟨q1, q2, -⟩ := ty_refs a ha (by omega)
    rw [cell_obj (K0 K) σ (show TY a = 10 + (TY a - 10) by omega) q1, cell_obj K σ (show TY a = 10 + (TY a - 10) by omega) q1]
    unfold flds
    rw [List.map_congr_left fun k hk => cv_K0 (K := K) (fval_K0 ha (show TY a = 10 + (TY a - 10) by omega) q1 (List.mem_range.mp hk))]
  · rcases h3 with h3 | h3 | h3 | h3 | h3
    · rw [cell_int _ _ h3, cell_int _ _ h3]; rfl
    · rw [cell_long _ _ h3, cell_long _ _ h3]; rfl
    · rw [cell_bool _ _ h3, cell_bool _ _ h3]; rfl
    · have e21 := ty_21 a ha h3
      subst e21
      rw [cell_refs (K0 K) σ (show TY 21 / 1000000 = 4 from rfl) (by decide), cell_refs K σ (show TY 21 / 1000000 = 4 from rfl) (by decide)]
      have : (fun j => some ((K0 K).2.2.1 (21 + 1 + strd 4 * j))) = (fun j => some (K.2.2.1 (21 + 1 + strd 4 * j))) := funext fun j => congrArg some (K0_a (show 21 + 1 + 7 * j ≠ 9998 by omega))
      rw [this]
      rfl
    · have e44 := ty_44 a ha h3
      subst e44
      rw [cell_refs (K0 K) σ (show TY 44 / 1000000 = 5 from rfl) (by decide), cell_refs K σ (show TY 44 / 1000000 = 5 from rfl) (by decide)]
      have : (fun j => some ((K0 K).2.2.1 (44 + 1 + strd 5 * j))) = (fun j => some (K.2.2.1 (44 + 1 + strd 5 * j))) := funext fun j => congrArg some (K0_a (show 44 + 1 + 2 * j ≠ 9998 by omega))
      rw [this]
      rfl
theorem cellE_o80 {K : KT} {σ τ : Sg} {a : Nat} (h : a ≠ 88) : cellE K (o80 σ τ) a = cellE K τ a := by
  have e : o80 σ τ a = τ a := o80_ne h
  have hv : ∀ ci, flds K (o80 σ τ) ci a = flds K τ ci a := fun ci => by
    unfold flds
    refine List.map_congr_left (fun k _ => ?_)
    unfold fval
    rw [e]
  unfold cellE
  rw [hv, e]
theorem cellE_80 {K : KT} {σ τ : Sg} (h : σ 88 = τ 88) : cellE K σ 88 = cellE K τ 88 := by
  rw [cell_long K σ (show TY 88 / 1000000 = 2 from rfl), cell_long K τ (show TY 88 / 1000000 = 2 from rfl), h]
theorem AA_K0 {K : KT} {sz : Nat} {q : Nat} (h : AA (K0 K) sz q) : AA K sz q := by
  rcases h with ⟨a, h1, h2⟩ | h
  · rw [nW_K0] at h1
    rw [K0_a (by omega)] at h2
    exact Or.inl ⟨a, Nat.lt_of_lt_of_le h1 (nW_ge K), h2⟩
  · exact Or.inr h
theorem WS_K0 {K : KT} {σ : Sg} {k : Nat} {q : Nat × va_E} (h : (WS (K0 K) σ)[k]? = some q) : k < 88 ∧ q = (K.2.2.1 k, cellE K σ k) := by
  obtain ⟨h1, h2⟩ := WS_inv h
  rw [nW_K0] at h1
  rw [h2, K0_a (by omega), cellE_K0 h1]
  exact ⟨h1, rfl⟩
theorem WS_K0g {K : KT} {σ : Sg} {k : Nat} (h : k < 88) : (WS (K0 K) σ)[k]? = some (K.2.2.1 k, cellE K σ k) := by
  rw [WS_get (K0 K) σ h, K0_a (by omega), cellE_K0 h]
theorem EN_K0 {K : KT} {A : Nat → Prop} {U : State} {H : Heap} (h : EN K A U H) : EN (K0 K) A U H := by
  obtain ⟨h1, h2, h3, h4, h5, h6, h7, h8, h9, h10⟩ := h
  have l1 : SLen.length < 5000 := by decide
  have l2 : STl.length < 5000 := by decide
  refine ⟨h1, h2, fun k hk => ?_, ?_, ?_, h6, h7, h8, fun j q hj => ?_, h10⟩
  · rw [K0_a (show 1000 + k ≠ 9998 by omega), K0_a (show 2000 + k ≠ 9998 by omega)]; exact h3 k hk
  · rw [K0_a (by decide)]; exact h4
  · rw [K0_a (by decide)]; exact h5
  · have := (List.getElem?_eq_some_iff.mp hj).1
    rw [K0_a (show 1000 + j ≠ 9998 by omega)]
    exact h9 j q hj
theorem Wd_K0 {K : KT} {σ : Sg} {sz : Nat} {U : State} (h81 : K.2.2.1 9998 ≠ 0) (h : Wd K σ sz U) : Wd (K0 K) σ sz U := by
  obtain ⟨hP, hK, hD, hE⟩ := h
  refine ⟨fun k q hq => ?_, hK, ⟨fun i j x y hi hj exy => ?_, fun k q hq => ?_⟩, ?_⟩
  · obtain ⟨h1, h2⟩ := WS_K0 hq
    exact hP k q (by rw [h2]; exact WS_get K σ h1)
  · obtain ⟨i1, i2⟩ := WS_K0 hi
    obtain ⟨j1, j2⟩ := WS_K0 hj
    exact hD.1 i j x y (by rw [i2]; exact WS_get K σ i1) (by rw [j2]; exact WS_get K σ j1) exy
  · obtain ⟨h1, h2⟩ := WS_K0 hq
    rw [h2]
    exact Or.inl ⟨k, by rw [nW_K0]; exact h1, by rw [K0_a (by omega)]⟩
  · exact EN.to (s := U) (U := U) (A := AA K sz) (B := AA (K0 K) sz) (State.WarmedH.refl U) (fun _ _ _ => rfl) (fun q hq => AA_K0 hq) (EN_K0 hE)
theorem WS_ag {K : KT} {σ τ : Sg} (hag : ∀ a, a ≠ 88 → τ a = σ a) : WS (K0 K) τ = WS (K0 K) σ := by
  unfold WS
  refine List.map_congr_left (fun a ha => ?_)
  have h1 := List.mem_range.mp ha
  rw [nW_K0] at h1
  have e := hag a (by omega)
  have hv : ∀ ci, flds (K0 K) τ ci a = flds (K0 K) σ ci a := fun ci => by
    unfold flds
    refine List.map_congr_left (fun k _ => ?_)
    unfold fval
    rw [e]
  unfold cellE
  rw [hv, e]
theorem Wd_ag {K : KT} {σ τ : Sg} {sz : Nat} {U : State} (hag : ∀ a, a ≠ 88 → τ a = σ a) (h : Wd (K0 K) σ sz U) : Wd (K0 K) τ sz U := by
  unfold Wd at h ⊢
  rw [WS_ag hag]
  exact h
theorem WS_back {K : KT} {A : Nat → Prop} {σ τ : Sg} {H H1 : Heap} (h81 : K.2.2.1 9998 ≠ 0) (hD : va_D A (WS K σ)) (hP : va_P K.1 vwCl (WS K σ) H) (k2 : ∀ q : Nat, q < H.size → ¬ AA (K0 K) H.size q → H1[q]? = H[q]?) (hP1 : va_P K.1 vwCl (WS (K0 K) τ) H1) : va_P K.1 vwCl (WS K (o80 σ τ)) H1 := by
  intro k q hq
  obtain ⟨h1, h2⟩ := WS_inv hq
  have hle := nW_le K
  by_cases e : k = 88
  · subst e
    have hg := WS_getN K σ h1
    have hp := hP 88 _ hg
    rw [h2, cellE_80 (show o80 σ τ 88 = σ 88 from o80_80)]
    refine hp.kept (k2 _ hp.lt ?_)
    rintro (⟨a, a1, a2⟩ | h)
    · rw [nW_K0] at a1
      rw [K0_a (by omega)] at a2
      have := hD.1 88 a _ _ hg (WS_get K σ a1) a2
      omega
    · exact absurd hp.lt (Nat.not_lt.mpr h)
  · rw [h2, cellE_o80 e]
    exact hP1 k _ (WS_K0g (by omega))
/-! THE LAW'S WRAPPERS: the words beside, a call whose throw is caught, the contract of a wrapper (one cell of six slots, an answer always) -/
def NC (U : State) : Prop := ∀ E F, 1 ≤ E → E ≤ 4 → 1 ≤ F → F ≤ 4 → E ≠ F → va_Nc (excN E) (excN F) U
theorem NC.moved {s U : State} (hv : s.vm.Alike U.vm) (h : NC s) : NC U := fun E F a b c d e => (h E F a b c d e).moved hv
def excP (E : Nat) : Nat := match E with
  | 1 => 18
  | 2 => 13
  | 3 => 50
  | _ => 155
def GWx : List Cond := [.classLink RL 18 (excN 1), .classLink RL 13 (excN 2), .classLink RL 50 (excN 3), .classLink RL 155 (excN 4)]
def GW : List Cond := GWx ++ GB
def rmW : Room := { frames := 60, cells := 1, slots := 6, locals := 1900 }
def wW (y : MethodName) (cc : ByteArray) (n : Nat) (th : List (Nat × Nat × Nat × Nat)) : List Cond := .codeWith y cc n (some .int) th :: GW
def CtL (y : MethodName) (w : List Cond) (As : List Vv) (σ : Sg) (v : Int) (σ' : Sg) : Prop :=
  okL As → okS σ → ∀ (l : Launch) (K : KT) (sz : Nat), l.stackTraces = false → K.2.2.1 9998 ≠ 0 →
    vx_Met l y w rmW (va_Pc (As.map (cv K)) (fun U => U.heap.size = sz ∧ Wd K σ sz U ∧ NC U)) (QcO K σ' (.inl [iV v]) sz) (fun _ _ _ => False) 1 6 (AA K sz)
def QfW (below : List Frame) (K : KT) (σf : Sg) (v : Int) (args : Array Value) (s : State) (A : Nat → Prop) : State → Prop := vx_MQ below (QcO K σf (.inl [iV v]) s.heap.size) (fun _ _ _ => False) args s 1 6 A
theorem HL.storeU {K : KT} (hK : K.2.2.2 = .null ∨ ∃ a, K.2.2.2 = .ref a) {ls' : Array Slot} {nL i : Nat} {L : List Vv} {w : Value} (hi : i < L.length)
    (h : lv_has ls' nL ((i, w) :: (toL K L).filter (fun q => !(q.1 == i) && !(q.1 + 1 == i && q.2.category == 2)))) : HL K ls' nL (ls1 L i uV) := by
  refine ⟨h.1, h.2.1, fun j hj => ?_⟩
  rw [lg_ls1] at hj ⊢
  by_cases e1 : j = i
  · rw [if_pos e1, if_pos hi] at hj
    exact absurd rfl hj
  · rw [if_neg e1] at hj ⊢
    by_cases e2 : j + 1 = i
    · rw [if_pos e2] at hj ⊢
      obtain ⟨u1, u2⟩ := unl_9 hj
      rw [u1] at hj ⊢
      refine h.2.2 (j, cv K (lg L j)) (List.mem_cons_of_mem _ (List.mem_filter.mpr ⟨toL_mem hj, ?_⟩))
      have : (cv K (lg L j)).category = 1 := by rw [cv_cat hK]; unfold catV; rw [if_neg u2]
      simp [e1, this]
    · rw [if_neg e2] at hj ⊢
      refine h.2.2 (j, cv K (lg L j)) (List.mem_cons_of_mem _ (List.mem_filter.mpr ⟨toL_mem hj, ?_⟩))
      simp [e1, e2]
section WRP
variable {p : Program} {l : Launch} {e : Env} {R : Room} {s : State} {m : MethodId} {args : Array Value} {below : List Frame} {meth : Method} {c : Code} {K : KT} {A : Nat → Prop} {nL cl sl : Nat} {hh : Prop} {Q : State → Prop}
variable {own : Nat} {cc : ByteArray} {r : Option FieldType} {pc : Nat} {L S : List Vv} {σ : Sg}
theorem callB_g {d d' y o k na : Nat} {b : Bool} {rr : Rs} (hd' : d' ≤ d) (hfr : 13 + d ≤ R.frames) (hlo : 191 + 40 * d ≤ R.locals) (hts : ∀ w ∈ GB, w.before args s = true) (hk : look (CLt o) k = some (y, b, na)) :
    CallB R s args (ownN o) k (mY y) (mC y) (mL y) (mR y) (wM y) (rmO d' rr) (mcO rr) (msO rr) na := by
  obtain ⟨hy, hnm, hpar, hm, ho⟩ := call_ok hk
  have hl := ml_ok y hy
  have hin : ∀ w ∈ wM y, w ∈ GB := fun w hw => by
    rcases List.mem_cons.mp hw with rfl | hw
    · exact in_code hy
    · exact hw
  refine ⟨rfl, rfl, ?_, ?_, pay_in hts (fun w hw => gb_in w (hin w hw)), List.mem_cons_self, hts _ (in_code hy), hts _ (in_call ho hm (by simp [callW])), hnm, fun sig hsig => ?_, hts _ (in_call ho hm (by simp [callW]))⟩
  · show 12 + d' + 1 ≤ R.frames; omega
  · show 8 + (mL y + 11) + (160 + 40 * d') ≤ R.locals; omega
  · rw [hsig] at hpar
    exact (Option.some.inj hpar).symm
theorem mc_le (rr : Rs) : mcO rr ≤ 1 ∧ msO rr ≤ 6 := by
  cases rr with
  | inl _ => exact ⟨Nat.zero_le _, Nat.zero_le _⟩
  | inr _ => exact ⟨Nat.le_refl _, Nat.le_refl _⟩
/-- a virtual call from a place with cells made: the law's own row is kept; a throw goes on as vx_W -/
theorem xs_callG {d k y na t a : Nat} {τ : Sg} {As : List Vv} {rr : Rs} {σ' : Sg} (h81 : K.2.2.1 9998 ≠ 0) (C : Cx p l s m args meth c K A nL own cc r hh) (hd : decode cc pc = .ok (.invokevirtual k, 3)) (hk : look (CLt own) k = some (y, false, na)) (hlen : As.length = na) (hcs : csum S ≤ 8)
    (hfr : 13 + d ≤ R.frames) (hlo : 191 + 40 * d ≤ R.locals) (hcl : cl + mcO rr ≤ R.cells) (hsl : sl + msO rr ≤ R.slots)
    (hrv : ∃ ci, ci < 11 ∧ t = 10 + ci ∧ (mY y).cls = (cTb ci).1) (h9 : ∀ v ∈ As, v.2.1 ≠ 9998) (h9r : ∀ vs, rr = .inl vs → ∀ v ∈ vs, v.2.1 ≠ 9998)
    (hag : ∀ a, a ≠ 88 → τ a = σ a) (hτ : okS σ → okS τ) (hCt : Ct d y (rV t a :: As) τ rr σ') (kN : ∀ vs, rr = .inl vs → okS σ' → XM p l e R s m args below meth c K A nL cl sl Q (pc + 3) L (vs ++ S) (o80 σ σ'))
    (kX : ∀ E, rr = .inr E → okS (o80 σ σ') → 1 ≤ E → E ≤ 4 → L.length = nL → okL L → okL S → ∀ (H : Heap) (locs : List Loc) (ls : Array Slot) (q : Addr) (ce : Cell), va_P K.1 vwCl (WS K (o80 σ σ')) H → va_S A s.heap H locs → HL K ls nL L → H[q]? = some ce → ce.vm = .none → s.vm.findClass (excN E) = some ce.cls → vx_W p l e R s m args below meth c H locs (cl + 1) (sl + 6) Q (F0 m pc ls (S.map (cv K))) q) :
    XM p l e R s m args below meth c K A nL cl sl Q pc L (As.reverse ++ rV t a :: S) σ := by
  obtain ⟨hx, hb, hml, hown, hts, hK, hD, hE, hA, hlk, hr, hst, hnt⟩ := C
  intro hn hL hS hO H locs ls hP hSS hl
  have hrok : okV (rV t a) := okh (okL_rr hS)
  obtain ⟨d', hd', hM⟩ := hCt (okc hrok (okL_rev (okL_l hS))) (hτ hO)
  obtain ⟨hy, hnm, hpar, hm, ho⟩ := call_ok hk
  have ht : 10 ≤ t ∧ t ≠ 33 := by
    obtain ⟨ci, h0, h1, -⟩ := hrv
    omega
  have hrc0 : a < 88 ∧ ∃ cell : Cell, H[K.2.2.1 a]? = some cell ∧ cell.vm.isStatics = false ∧ s.vm.findClass (mY y).cls = some cell.cls := by
    obtain ⟨ci, h0, h1, h2⟩ := hrv
    subst h1
    obtain ⟨ha, hT⟩ := okw_obj hrok h0
    have hg := WS_get K σ ha
    rw [cell_obj K σ hT h0] at hg
    rw [h2]
    exact ⟨ha, va_recv hK hP (cl_get h0) hg⟩
  obtain ⟨ha80, hrc⟩ := hrc0
  have hcvA : As.map (cv (K0 K)) = As.map (cv K) := List.map_congr_left fun v hv => cv_K0 (h9 v hv)
  have hsub : ∀ q, AA (K0 K) H.size q → A q := fun q hq => by
    rw [hA]
    rcases AA_K0 hq with h | h
    · exact Or.inl h
    · exact Or.inr (Nat.le_trans hSS.1 h)
  have run := vx_runV (meth := meth) (below := below) (e := e) (locs := locs) (cells := cl) (slots := sl) (own := ownN own) (C := (mY y).cls) (index := k) (y := mY y) (bytes := mC y) (maxL := mL y) (ret := mR y) (ws := wM y) (rm := rmO d' rr) (n := na) (Ts := GB) (nL := nL) (b := K.2.2.1 a) (As := As.map (cv K)) (rest := S.map (cv K)) (g := F0 m pc ls ((As.reverse ++ rV t a :: S).map (cv K))) ⟨hx, hb, hml, hown, hts⟩ (hM l (K0 K) H.size hst) ⟨callB_g hd' hfr hlo hts hk, hts _ (in_call ho hm (by simp [callW])), hts _ (in_call ho hm (by simp [callW]))⟩ ⟨wd_blind, hrc, fun U hU hW => ⟨by rw [List.map_cons, hcvA, cv_K0 (show (rV t a).2.1 ≠ 9998 by show a ≠ 9998; omega), cv_nr ht.1 ht.2], by rw [(wd_call hK hD hE hA hP hSS hU hW).1], Wd_ag hag (Wd_K0 h81 (wd_call hK hD hE hA hP hSS hU hW).2)⟩⟩ rfl (by rw [List.length_map]; exact hlen) hl.1 (by rw [List.map_append, List.map_reverse, List.map_cons, cv_nr ht.1 ht.2]) (lv_room (by rw [cat_S hE]; exact hcs)) hd ⟨hcl, hsl⟩
  have back : ∀ {T' : State} {τ : Sg}, okS τ → (∀ q : Nat, q < H.size → ¬ AA (K0 K) H.size q → T'.heap[q]? = H[q]?) → va_P K.1 vwCl (WS (K0 K) τ) T'.heap → va_P K.1 vwCl (WS K (o80 σ τ)) T'.heap ∧ okS (o80 σ τ) := by
    intro T' τ hτ k2 hP1
    exact ⟨WS_back h81 (hD σ) hP k2 hP1, okS_o80 hO hτ⟩
  intro T hT X
  rcases run T hT X with ⟨v, st₀, t2, T', Lc, h0, X', hL2, e1, e2, ⟨⟨vs, hvs, hO', hrr, hv, hP1⟩, hF⟩, st⟩ | ⟨q, st₀, t2, T', Lc, E, ce, h0, X', hL2, e1, e2, ⟨⟨k2, hk2, hO', hrr, hEE, hP1⟩, hF⟩, hce, hcv, hcl2, st⟩
  · subst hvs
    obtain ⟨k1, k2, k3⟩ := vx_keep h0 e1 hSS (fun q _ h => hsub q h) hsub hL2 hF
    rw [← e1] at hP1
    obtain ⟨b1, b2⟩ := back hO' k2 hP1
    obtain ⟨t3, a1, b3⟩ := kN vs rfl hO' hn hL (okL_app hrr (okt (okL_rr hS))) b2 T'.heap (locs ++ Lc) ls b1 k3 hl T' rfl X'
    refine ⟨t3, st t3 ?_, b3⟩
    rcases hv with ⟨rfl, hv⟩ | ⟨w, rfl, hv⟩
    · cases hv; exact a1
    · cases hv
      rw [cv_K0 (h9r _ rfl w List.mem_cons_self)]
      exact a1
  · subst hk2
    obtain ⟨k1, k2', k3⟩ := vx_keep h0 e1 hSS (fun q _ h => hsub q h) hsub hL2 hF
    rw [← e1] at hP1
    subst hEE
    obtain ⟨b1, b2⟩ := back hO' k2' hP1
    obtain ⟨t3, a1, b3⟩ := kX k2 rfl b2 hrr.1 hrr.2 hn hL (okt (okL_rr hS)) T'.heap (locs ++ Lc) ls q ce b1 k3 hl (by rw [e1]; exact hce) hcv hcl2 T' rfl X'
    exact ⟨t3, st.trans a1, b3⟩
theorem xs_callVH {d k y na t a : Nat} {As : List Vv} {rr : Rs} {σ' : Sg} (h81 : K.2.2.1 9998 ≠ 0) (C : Cx p l s m args meth c K A nL own cc r hh) (hd : decode cc pc = .ok (.invokevirtual k, 3)) (hk : look (CLt own) k = some (y, false, na)) (hlen : As.length = na) (hcs : csum S ≤ 8)
    (hfr : 13 + d ≤ R.frames) (hlo : 191 + 40 * d ≤ R.locals) (hcl : cl + mcO rr ≤ R.cells) (hsl : sl + msO rr ≤ R.slots)
    (hrv : ∃ ci, ci < 11 ∧ t = 10 + ci ∧ (mY y).cls = (cTb ci).1) (h9 : ∀ v ∈ As, v.2.1 ≠ 9998) (h9r : ∀ vs, rr = .inl vs → ∀ v ∈ vs, v.2.1 ≠ 9998)
    (hCt : Ct d y (rV t a :: As) σ rr σ') (kN : ∀ vs, rr = .inl vs → XM p l e R s m args below meth c K A nL cl sl Q (pc + 3) L (vs ++ S) (o80 σ σ'))
    (kX : ∀ E, rr = .inr E → okS (o80 σ σ') → 1 ≤ E → E ≤ 4 → L.length = nL → okL L → okL S → ∀ (H : Heap) (locs : List Loc) (ls : Array Slot) (q : Addr) (ce : Cell), va_P K.1 vwCl (WS K (o80 σ σ')) H → va_S A s.heap H locs → HL K ls nL L → H[q]? = some ce → ce.vm = .none → s.vm.findClass (excN E) = some ce.cls → vx_W p l e R s m args below meth c H locs (cl + 1) (sl + 6) Q (F0 m pc ls (S.map (cv K))) q) :
    XM p l e R s m args below meth c K A nL cl sl Q pc L (As.reverse ++ rV t a :: S) σ := xs_callG h81 C hd hk hlen hcs hfr hlo hcl hsl hrv h9 h9r (fun _ _ => rfl) (fun z => z) hCt (fun vs hv _ => kN vs hv) kX
/-- the law's own row: written, read -/
theorem xs_lastO (h81 : K.2.2.1 9998 ≠ 0) (C : Cx p l s m args meth c K A nL own cc r hh) (hd : decode cc pc = .ok (.lastore, 1)) {z : Int} (h : XM p l e R s m args below meth c K A nL cl sl Q (pc + 1) L S (upS σ 88 0 z)) : XM p l e R s m args below meth c K A nL cl sl Q pc L (lV z :: iV 0 :: rV 35 88 :: S) σ := by
  obtain ⟨hx, hb, hml, hown, hts, hK, hD, hE, hA, hlk, hr, hst, hnt⟩ := C
  intro hn hL hS hO H locs ls hP hSS hl
  have hg := WS_getN K σ (show 88 < nW K by unfold nW; rw [if_neg h81]; decide)
  rw [cell_long K σ (show TY 88 / 1000000 = 2 from rfl)] at hg
  have hz : if skd 88 0 = 1 then in64 z else in32 z := okh hS
  rw [List.map_cons, List.map_cons, List.map_cons, show cv K (rV 35 88) = .ref (K.2.2.1 88) from rfl]
  refine va_last hx hb hK hP (hD σ) hSS 88 1 hg rfl (i32_in' (show in32 0 from ⟨by decide, by decide⟩) (show (0 : Int) ≤ 0 ∧ (0 : Int) < ((TY 88 % 1000000 : Nat) : Int) by decide)) hd (fun H1 locs1 hP1 hD1 hS1 => ?_)
  rw [i32_cl (show in32 0 from ⟨by decide, by decide⟩), WS_longs (show TY 88 / 1000000 = 2 from rfl)] at hP1
  exact h hn hL (okt (okt (okt hS))) (okS_ups hO hz) H1 locs1 ls hP1 hS1 hl
theorem xs_laldO (h81 : K.2.2.1 9998 ≠ 0) (C : Cx p l s m args meth c K A nL own cc r hh) (hd : decode cc pc = .ok (.laload, 1)) (h : XM p l e R s m args below meth c K A nL cl sl Q (pc + 1) L (lV (σ 88 0) :: S) σ) : XM p l e R s m args below meth c K A nL cl sl Q pc L (iV 0 :: rV 35 88 :: S) σ := by
  obtain ⟨hx, hb, hml, hown, hts, hK, hD, hE, hA, hlk, hr, hst, hnt⟩ := C
  intro hn hL hS hO H locs ls hP hSS hl
  have hg := WS_getN K σ (show 88 < nW K by unfold nW; rw [if_neg h81]; decide)
  rw [cell_long K σ (show TY 88 / 1000000 = 2 from rfl)] at hg
  have hz : in64 (σ 88 0) := hO 88 0 (by decide)
  have h9 := h hn hL (okc (show okV (lV (σ 88 0)) from hz) (okt (okt hS))) hO H locs ls hP hSS hl
  rw [List.map_cons, List.map_cons, show cv K (rV 35 88) = .ref (K.2.2.1 88) from rfl]
  exact va_lald hx hb hK hP 88 1 hg rfl (i32_in' (show in32 0 from ⟨by decide, by decide⟩) (show (0 : Int) ≤ 0 ∧ (0 : Int) < ((TY 88 % 1000000 : Nat) : Int) by decide)) hd h9
/-- the throw E caught: its number is stored away, then the place behind -/
theorem xw_catch {E pc2 i : Nat} {x : ExceptionTableEntry} {pre suf : List ExceptionTableEntry} {stk : List Value} (C : Cx p l s m args meth c K A nL 12 cc r hh) (hgw : ∀ w ∈ GW, w.before args s = true) (hNC : NC s) (hE1 : 1 ≤ E) (hE4 : E ≤ 4)
    (ht : c.exceptionTable.toList = pre ++ x :: suf) (hpre : ∀ z ∈ pre, ∃ F, 1 ≤ F ∧ F ≤ 4 ∧ F ≠ E ∧ z.catchType = excP F) (hx : x.catchType = excP E) (hcov : covers x pc = true)
    (hst2 : (decode cc x.handlerPc = .ok (.astore i, 2) ∧ pc2 = x.handlerPc + 2) ∨ (∃ k : Fin 4, (k : Nat) = i ∧ decode cc x.handlerPc = .ok (.astore_n k, 1) ∧ pc2 = x.handlerPc + 1)) (hi : i < L.length)
    (hO : okS σ) (hn : L.length = nL) (hL : okL L) (kk : XM p l e R s m args below meth c K A nL cl sl Q pc2 (ls1 L i uV) [] σ)
    {H : Heap} {locs : List Loc} {ls : Array Slot} {q : Addr} {ce : Cell} (hP : va_P K.1 vwCl (WS K σ) H) (hSS : va_S A s.heap H locs) (hl : HL K ls nL L) (hce : H[q]? = some ce) (hcv : ce.vm = .none) (hcl : s.vm.findClass (excN E) = some ce.cls) :
    vx_W p l e R s m args below meth c H locs cl sl Q (F0 m pc ls stk) q := by
  obtain ⟨hx0, hb, hml, hown, hts, hK, hD, hE, hA, hlk, hr, hst, hnt⟩ := C
  have lk : ∀ F, 1 ≤ F → F ≤ 4 → (Cond.classLink RL (excP F) (excN F)).before args s = true := by
    intro F f1 f4
    refine hgw _ (List.mem_append_left _ ?_)
    unfold GWx
    rcases (show F = 1 ∨ F = 2 ∨ F = 3 ∨ F = 4 by omega) with rfl | rfl | rfl | rfl
    · exact List.mem_cons_self
    · exact List.mem_cons_of_mem _ List.mem_cons_self
    · exact List.mem_cons_of_mem _ (List.mem_cons_of_mem _ List.mem_cons_self)
    · exact List.mem_cons_of_mem _ (List.mem_cons_of_mem _ (List.mem_cons_of_mem _ List.mem_cons_self))
  have p0 : ∀ F, 1 ≤ F → F ≤ 4 → excP F ≠ 0 := by
    intro F f1 f4
    rcases (show F = 1 ∨ F = 2 ∨ F = 3 ∨ F = 4 by omega) with rfl | rfl | rfl | rfl <;> decide
  have hcast : (Cond.castable (excN E) (excN E)).before args s = true := by
    refine va_Nw.use rfl (hE.2.2.2.2.2.2.2.2.2 _ ?_)
    unfold NGW
    rcases (show E = 1 ∨ E = 2 ∨ E = 3 ∨ E = 4 by omega) with rfl | rfl | rfl | rfl
    · exact List.mem_cons_self
    · exact List.mem_cons_of_mem _ List.mem_cons_self
    · exact List.mem_cons_of_mem _ (List.mem_cons_of_mem _ List.mem_cons_self)
    · exact List.mem_cons_of_mem _ (List.mem_cons_of_mem _ (List.mem_cons_of_mem _ List.mem_cons_self))
  refine vx_catch (own := RL) (name := excN E) (E := excN E) (ce := ce) hown pre x suf ht (fun z hz => ?_) hcov (by rw [hx]; exact p0 E hE1 hE4) (by rw [hx]; exact lk E hE1 hE4) hcast hce hcv hcl ?_
  · obtain ⟨F, f1, f4, f5, f6⟩ := hpre z hz
    exact Or.inr ⟨by rw [f6]; exact p0 F f1 f4, excN F, by rw [f6]; exact lk F f1 f4, hNC E F hE1 hE4 f1 f4 (Ne.symm f5)⟩
  · have go : ∀ ls' : Array Slot, lv_has ls' nL ((i, Value.ref q) :: (toL K L).filter (fun q => !(q.1 == i) && !(q.1 + 1 == i && q.2.category == 2))) → W p l e R s m args below meth c H locs cl sl Q (F0 m pc2 ls' []) := fun ls' hl' =>
      kk (by rw [ls1_len]; exact hn) (ok_ls1 hL trivial) (fun v hv => nomatch hv) hO H locs ls' hP hSS (HL.storeU hE.2.2.2.2.2.2.2.1 hi hl')
    rcases hst2 with ⟨d1, rfl⟩ | ⟨k, hki, d1, rfl⟩
    · exact lv_astore (i := i) hx0 hb d1 hl.to (by rw [← hn]; exact hi) rfl (fun ls' hl' => go ls' hl')
    · exact lv_astore_n (i := i) hx0 hb d1 hki hl.to (by rw [← hn]; exact hi) rfl (fun ls' hl' => go ls' hl')
theorem xw_ireturn {v z : Int} {σf : Sg} (C : Cx p l s m args meth c K A nL own cc (some .int) hh) (hd : decode cc pc = .ok (.ireturn, 1)) (hc : cl ≤ 1) (hs : sl ≤ 6) (h : z = v ∧ σ = σf) : XM p l e R s m args below meth c K A nL cl sl (QfW below K σf v args s A) pc L [iV z] σ := by
  obtain ⟨hx, hb, hml, hown, hts, hK, hD, hE, hA, hlk, hr, hst, hnt⟩ := C
  intro hn hL hS hO H locs ls hP hSS hl
  obtain ⟨rfl, rfl⟩ := h
  refine W.widen hc hs ?_
  refine vx_ret ?_
  exact W.zret hx hb hr (nar_ok (okh hS) (show narR (some .int) z from trivial)) (fun t ht hW => ⟨⟨_, rfl, hO, hS, Or.inr ⟨_, rfl, rfl⟩, by rw [ht]; exact hP⟩, by rw [← hA]; exact hSS.F ht⟩) hSS.2.2 hd hlk
end WRP
/-- a wrapper's contract out of its walk -/
theorem mk_W {y : MethodName} {cc : ByteArray} {n : Nat} {th : List (Nat × Nat × Nat × Nat)} {As : List Vv} {σ σ' : Sg} {v : Int} (hy : plainName y.cls = true) (hown : y.cls = RL) (hlen : (ent As).length ≤ n)
    (h : ∀ (p : Program) (l : Launch) (e : Env) (s : State) (m : MethodId) (args : Array Value) (below : List Frame) (meth : Method) (c : Code) (K : KT) (A : Nat → Prop), K.2.2.1 9998 ≠ 0 → Cx p l s m args meth c K A n 12 cc (some .int) False → (∀ w ∈ GW, w.before args s = true) → NC s → c.exceptionTable.toList = tableOf th → XM p l e rmW s m args below meth c K A n 0 0 (QfW below K σ' v args s A) 0 (ent As ++ List.replicate (n - (ent As).length) uV) [] σ) : CtL y (wW y cc n th) As σ v σ' := by
  intro hok hS l K sz hst h81
  refine vx_ofWH (cc := cc) (maxL := n) (ret := some .int) (hh := th) hy rfl ?_
  intro p e s m args below meth c s₁ B hml hv
  obtain ⟨rfl, hsz, ⟨hP, hK, hD, hE⟩, hNC⟩ := hv
  subst hsz
  have hts0 := atoms_spec (ws := wW y cc n th) B.pre
  have hgw : ∀ w ∈ GW, w.before (As.map (cv K)).toArray s = true := fun w hw => hts0 w (List.mem_cons_of_mem _ hw)
  have hKn := hE.2.2.2.2.2.2.2.1
  have hle : (lg_sl (As.map (cv K))).length ≤ n := by rw [ent_len hKn]; exact hlen
  have hl := lv_entry (As.map (cv K)) hle
  rw [lg_entry_eq]
  have C : Cx p l s m (As.map (cv K)).toArray meth c K (AA K s.heap.size) n 12 cc (some .int) False :=
    ⟨B.exec, B.bytes, hml, by show s.vm.findClass RL = _; rw [← hown]; exact findClass_of_methodNamed B.named, fun w hw => hgw w (List.mem_append_right _ hw), hK, WD_all hD, hE, rfl, B.notSynchronized, B.returns, hst, fun z => z.elim⟩
  have hX := h p l e s m _ below meth c K _ h81 C hgw hNC (vx_table (x := y) B (hts0 _ List.mem_cons_self))
  refine hX (by rw [List.length_append, List.length_replicate]; omega) (okL_app (ent_ok hok) okL_rep) (fun v hv => nomatch hv) hS s.heap [] _ hP va_S.rf ⟨hl.1, hl.2.1, fun j hj => ?_⟩
  rw [lg_app] at hj ⊢
  by_cases hj2 : j < (ent As).length
  · rw [if_pos hj2] at hj ⊢
    have h9 := ent_args (K := K) hKn As 0 j hj
    rw [Nat.zero_add] at h9
    exact hl.2.2 _ h9
  · rw [if_neg hj2, lg_rep] at hj
    exact absurd rfl hj
