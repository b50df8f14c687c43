section SND3
variable {p : Program} {l : Launch} {e : Env} {R : Room} {s : State} {m : MethodId} {args : Array Value} {below : List Frame} {meth : Method} {c : Code} {K : KT} {A : Nat → Prop} {nL : Nat} {Q : State → Prop}
variable {own : Nat} {cc : ByteArray} {r : Option FieldType} {pc : Nat} {L S : List Vv} {σ : Sg} {res : Rs} {σf : Sg}
/-- the end that a method with result res and memory σf owes -/
def Qf (below : List Frame) (K : KT) (σf : Sg) (res : Rs) (args : Array Value) (s : State) (A : Nat → Prop) : State → Prop := vx_MQ below (QcO K σf res s.heap.size) (XCO K σf res s.heap.size) args s (mcO res) (msO res) A
theorem nar_ok {z : Int} (hz : in32 z) {ty : FieldType} (h : narR (some ty) z) : narrow ty (.int (Int32.ofInt z)) = .int (Int32.ofInt z) := by
  unfold narR at h
  split at h
  · rename_i q; cases q; rfl
  · rename_i q; cases q
    rcases h with rfl | rfl <;> decide +kernel
  · rename_i q; cases q
    have e := i2b_of hz
    rw [show w8 z = z by unfold w8; omega] at e
    show Value.int (Int32.ofInt z).toInt8.toInt32 = _
    rw [e]
  · rename_i q; cases q
    obtain ⟨n, rfl⟩ := Int.eq_ofNat_of_zero_le h.1
    have e : Int32.ofInt (n : Int) = nI n := by unfold nI; rw [Int32.ofInt_eq_ofNat]
    rw [e]
    exact (pk_charN (by omega)).1
  · exact h.elim
theorem xs_ireturn (C : Cx p l s m args meth c K A nL own cc r True) (hd : decode cc pc = .ok (.ireturn, 1)) {z : Int} (hz : narR r z) (h : res = .inl [iV z] ∧ σ = σf) : XM p l e R s m args below meth c K A nL 0 0 (Qf below K σf res args s A) pc L [iV z] σ := by
  obtain ⟨hx, hb, hml, hown, hts, hK, hD, hE, hA, hlk, hr, hst, hnt⟩ := C
  intro hn hL hS hO H locs ls hP hSS hl
  obtain ⟨rfl, rfl⟩ := h
  cases r with
  | none => exact hz.elim
  | some ty =>
    refine vx_ret ?_
    exact W.zret hx hb hr (nar_ok (okh hS) hz) (fun t ht hW => ⟨⟨_, rfl, hO, hS, Or.inr ⟨_, rfl, rfl⟩, by rw [ht]; exact hP⟩, by rw [← hA]; exact hSS.F ht⟩) hSS.2.2 hd hlk
theorem xs_lreturn (C : Cx p l s m args meth c K A nL own cc (some .long) True) (hd : decode cc pc = .ok (.lreturn, 1)) {z : Int} (h : res = .inl [lV z] ∧ σ = σf) : XM p l e R s m args below meth c K A nL 0 0 (Qf below K σf res args s A) pc L [lV z] σ := by
  obtain ⟨hx, hb, hml, hown, hts, hK, hD, hE, hA, hlk, hr, hst, hnt⟩ := C
  intro hn hL hS hO H locs ls hP hSS hl
  obtain ⟨rfl, rfl⟩ := h
  refine vx_ret ?_
  exact W.lret hx hb hr (fun t ht hW => ⟨⟨_, rfl, hO, hS, Or.inr ⟨_, rfl, rfl⟩, by rw [ht]; exact hP⟩, by rw [← hA]; exact hSS.F ht⟩) hSS.2.2 hd hlk
theorem xs_areturn {cn : String} (C : Cx p l s m args meth c K A nL own cc (some (.object cn)) True) (hd : decode cc pc = .ok (.areturn, 1)) {t a : Nat} (h1 : 10 ≤ t) (h2 : t ≠ 33) (h : res = .inl [rV t a] ∧ σ = σf) : XM p l e R s m args below meth c K A nL 0 0 (Qf below K σf res args s A) pc L [rV t a] σ := by
  obtain ⟨hx, hb, hml, hown, hts, hK, hD, hE, hA, hlk, hr, hst, hnt⟩ := C
  intro hn hL hS hO H locs ls hP hSS hl
  obtain ⟨rfl, rfl⟩ := h
  refine vx_ret ?_
  exact W.aret hx hb hr (Or.inl ⟨cn, rfl⟩) (Or.inr ⟨_, cv_nr h1 h2⟩) (fun t ht hW => ⟨⟨_, rfl, hO, hS, Or.inr ⟨_, rfl, rfl⟩, by rw [ht]; exact hP⟩, by rw [← hA]; exact hSS.F ht⟩) hSS.2.2 hd hlk
theorem xs_return (C : Cx p l s m args meth c K A nL own cc none True) (hd : decode cc pc = .ok (.return_, 1)) (h : res = .inl [] ∧ σ = σf) : XM p l e R s m args below meth c K A nL 0 0 (Qf below K σf res args s A) pc L [] σ := by
  obtain ⟨hx, hb, hml, hown, hts, hK, hD, hE, hA, hlk, hr, hst, hnt⟩ := C
  intro hn hL hS hO H locs ls hP hSS hl
  obtain ⟨rfl, rfl⟩ := h
  refine vx_ret ?_
  exact W.vret hx hb hr (fun t ht hW => ⟨⟨_, rfl, hO, hS, Or.inl ⟨rfl, rfl⟩, by rw [ht]; exact hP⟩, by rw [← hA]; exact hSS.F ht⟩) hSS.2.2 hd hlk
theorem ml_ok : ∀ y, y < NM → mL y ≤ 12 := by decide +kernel
theorem wd_blind {K : KT} {σ : Sg} {sz : Nat} {av : List Value} : FrameBlind (va_Pc av (fun U => U.heap.size = sz ∧ Wd K σ sz U)) := by
  intro a U g mk q
  obtain ⟨q0, q1, qP, qK, qD, qE⟩ := q
  exact ⟨q0, q1, qP, va_K.moved (u := U) (U := U.calling g mk a) (Vm.Alike.refl U.vm) qK, qD, EN.to (s := U) (U := U.calling g mk a) (State.WarmedH.refl U) (fun _ _ _ => rfl) (fun _ h => h) qE⟩
theorem wd_call {H : Heap} {locs : List Loc} {U : State} (hK : va_K K.1 vwCl (tysK K) s) (hD : ∀ σ, va_D A (WS K σ)) (hE : EN K A s s.heap) (hA : A = AA K s.heap.size) (hP : va_P K.1 vwCl (WS K σ) H) (hSS : va_S A s.heap H locs) (hU : U.heap = H) (hW : s.WarmedH U.vm) : U.heap.size = H.size ∧ Wd K σ H.size U := by
  refine ⟨by rw [hU], by rw [hU]; exact hP, va_K.moved hW.alike hK, ⟨(hD σ).1, fun k q hk => ?_⟩, ?_⟩
  · obtain ⟨h1, h2⟩ := WS_inv hk
    rw [h2]
    exact Or.inl ⟨k, h1, rfl⟩
  · rw [hU]
    refine EN.to hW hSS.2.1 (fun q hq => ?_) hE
    rw [hA]
    rcases hq with h | h
    · exact Or.inl h
    · exact Or.inr (Nat.le_trans hSS.1 h)
theorem okL_app {vs S : List Vv} (h1 : okL vs) (h2 : okL S) : okL (vs ++ S) := fun v hv => (List.mem_append.mp hv).elim (h1 v) (h2 v)
theorem okL_rev {As : List Vv} (h : okL As.reverse) : okL As := fun v hv => h v (List.mem_reverse.mpr hv)
theorem okL_l {a b : List Vv} (h : okL (a ++ b)) : okL a := fun v hv => h v (List.mem_append_left _ hv)
theorem okL_rr {a b : List Vv} (h : okL (a ++ b)) : okL b := fun v hv => h v (List.mem_append_right _ hv)
theorem cat_S (hE : EN K A s s.heap) (S : List Vv) : (List.map (fun v => v.category) (List.map (cv K) S)).sum = csum S := by
  unfold csum
  rw [List.map_map]
  congr 1
  exact List.map_congr_left (fun v _ => cv_cat hE.2.2.2.2.2.2.2.1)
/-- behind a call: the callee returned, or threw through -/
theorem xs_after {d y : Nat} {rr : Rs} {σ' : Sg} {H : Heap} {locs : List Loc} {ls : Array Slot} {st0 : List Value} {Aa : Array Value}
    (C : Cx p l s m args meth c K A nL own cc r True) (hn : L.length = nL) (hL : okL L) (hS : okL S) (hSS : va_S A s.heap H locs) (hl : HL K ls nL L)
    (run : vx_Run p l e R s m args below meth c H locs 0 0 (mcO rr) (msO rr) (F0 m pc ls st0) (S.map (cv K)) (QcO K σ' rr H.size Aa) (XCO K σ' rr H.size) (AA K H.size))
    (kN : ∀ vs, rr = .inl vs → XM p l e R s m args below meth c K A nL 0 0 (Qf below K σf res args s A) (pc + 3) L (vs ++ S) σ') (kX : ∀ E, rr = .inr E → res = .inr E ∧ σ' = σf) :
    W p l e R s m args below meth c H locs 0 0 (Qf below K σf res args s A) (F0 m pc ls st0) := by
  obtain ⟨hx, hb, hml, hown, hts, hK, hD, hE, hA, hlk, hr, hst, hnt⟩ := C
  have hsub : ∀ q, AA K H.size q → A q := fun q hq => by
    rw [hA]
    rcases hq with h | h
    · exact Or.inl h
    · exact Or.inr (Nat.le_trans hSS.1 h)
  intro T hT X
  rcases run T hT X with ⟨v, st₀, t, T', Lc, h0, X', hL2, e1, e2, ⟨⟨vs, hvs, hO', hrr, hv, hP1⟩, hF⟩, st⟩ | ⟨q, st₀, t, T', Lc, E, ce, h0, X', hL2, e1, e2, ⟨⟨k, hk, hO', hrr, hEE, hP1⟩, hF⟩, hce, hcv, hcl, st⟩
  · subst hvs
    obtain ⟨k1, k2, k3⟩ := vx_keep h0 e1 hSS (fun q _ h => hsub q h) hsub hL2 hF
    rw [← e1] at hP1
    obtain ⟨t2, a1, b1⟩ := kN vs rfl hn hL (okL_app hrr hS) hO' T'.heap (locs ++ Lc) ls hP1 k3 hl T' rfl X'
    refine ⟨t2, st t2 ?_, b1⟩
    rcases hv with ⟨rfl, hv⟩ | ⟨w, rfl, hv⟩
    · cases hv; exact a1
    · cases hv; exact a1
  · subst hk
    obtain ⟨k1, k2, k3⟩ := vx_keep h0 e1 hSS (fun q _ h => hsub q h) hsub hL2 hF
    obtain ⟨g1, g2⟩ := kX k rfl
    subst g1
    subst g2
    rw [← e1] at hP1
    have ko := vx_out (p := p) (l := l) (e := e) (R := R) (s := s) (m := m) (args := args) (below := below) (meth := meth) (c := c) (H := T'.heap) (locs := locs ++ Lc) (cells := 0 + 1) (slots := 0 + 6) (free := A) (ls := ls) (rest := S.map (cv K)) (Qc := QcO K σ' (.inr k) s.heap.size) (XC := XCO K σ' (.inr k) s.heap.size) (pc := pc) (E := E) (ce := ce) (q := q) (mc := 1) (ms := 6)
      (fun x hx2 => (hnt trivial x hx2).elim) hlk (by rw [e1]; exact hce) hcv hcl (fun t9 ht9 _ => ⟨⟨k, rfl, hO', hrr, hEE, by rw [ht9]; exact hP1⟩, by rw [← hA]; exact k3.F ht9⟩) k3.2.2 (Nat.le_refl _) (Nat.le_refl _)
    obtain ⟨t2, a1, b1⟩ := ko T' rfl X'
    exact ⟨t2, st.trans a1, b1⟩
theorem gb_in : GoodIn GB GB := fun w hw => ⟨hw, good_of_word (gb_ok w hw).2⟩
theorem callB_y {d d' y o k na : Nat} {b : Bool} {rr : Rs} (hd' : d' ≤ d) (hR : R = rmO (d + 1) res) (hts : ∀ w ∈ GB, w.before args s = true) (hk : look (CLt o) k = some (y, b, na)) :
    CallB R s args (ownN o) k (mY y) (mC y) (mL y) (mR y) (wM y) (rmO d' rr) (mcO rr) (msO rr) na := by
  obtain ⟨hy, hnm, hpar, hm, ho⟩ := call_ok hk
  have hl := ml_ok y hy
  have hin : ∀ w ∈ wM y, w ∈ GB := fun w hw => by
    rcases List.mem_cons.mp hw with rfl | hw
    · exact in_code hy
    · exact hw
  refine ⟨rfl, rfl, ?_, ?_, pay_in hts (fun w hw => gb_in w (hin w hw)), List.mem_cons_self, hts _ (in_code hy), hts _ (in_call ho hm (by simp [callW])), hnm, fun sig hsig => ?_, hts _ (in_call ho hm (by simp [callW]))⟩
  · rw [hR]; show 12 + d' + 1 ≤ 12 + (d + 1); omega
  · rw [hR]; show 8 + (mL y + 11) + (160 + 40 * d') ≤ 160 + 40 * (d + 1); omega
  · rw [hsig] at hpar
    exact (Option.some.inj hpar).symm
theorem xs_callS {d k y na : Nat} {As : List Vv} {rr : Rs} {σ' : Sg} (C : Cx p l s m args meth c K A nL own cc r True) (hd : decode cc pc = .ok (.invokestatic k, 3)) (hk : look (CLt own) k = some (y, true, na)) (hlen : As.length = na) (hcs : csum S ≤ 8) (hR : R = rmO (d + 1) res)
    (hCt : Ct d y As σ rr σ') (kN : ∀ vs, rr = .inl vs → XM p l e R s m args below meth c K A nL 0 0 (Qf below K σf res args s A) (pc + 3) L (vs ++ S) σ') (kX : ∀ E, rr = .inr E → res = .inr E ∧ σ' = σf) :
    XM p l e R s m args below meth c K A nL 0 0 (Qf below K σf res args s A) pc L (As.reverse ++ S) σ := by
  have C0 := C
  obtain ⟨hx, hb, hml, hown, hts, hK, hD, hE, hA, hlk, hr, hst, hnt⟩ := C
  intro hn hL hS hO H locs ls hP hSS hl
  obtain ⟨d', hd', hM⟩ := hCt (okL_rev (okL_l hS)) hO
  obtain ⟨hy, hnm, hpar, hm, ho⟩ := call_ok hk
  have hcost : mcO rr ≤ mcO res ∧ msO rr ≤ msO res := by
    cases rr with
    | inl _ => exact ⟨Nat.zero_le _, Nat.zero_le _⟩
    | inr E => rw [(kX E rfl).1]; exact ⟨Nat.le_refl _, Nat.le_refl _⟩
  refine xs_after (d := d) (y := y) (Aa := (As.map (cv K)).toArray) C0 hn hL (okL_rr hS) hSS hl ?_ kN kX
  refine vx_runS (own := ownN own) (index := k) (y := mY y) (bytes := mC y) (maxL := mL y) (ret := mR y) (ws := wM y) (rm := rmO d' rr) (n := na) (Ts := GB) (nL := nL) ⟨hx, hb, hml, hown, hts⟩ (hM l K H.size hst) ⟨callB_y hd' hR hts hk, hts _ (in_call ho hm (by simp [callW]))⟩ ⟨wd_blind, fun U hU hW => ⟨rfl, wd_call hK hD hE hA hP hSS hU hW⟩⟩ rfl (by rw [List.length_map]; exact hlen) hl.1 (by rw [List.map_append, List.map_reverse]) (lv_room (by rw [cat_S hE]; exact hcs)) hd ?_
  rw [hR]
  show 0 + mcO rr ≤ mcO res ∧ 0 + msO rr ≤ msO res
  omega
theorem xs_callV {d k y na t a : Nat} {As : List Vv} {rr : Rs} {σ' : Sg} (C : Cx p l s m args meth c K A nL own cc r True) (hd : decode cc pc = .ok (.invokevirtual k, 3)) (hk : look (CLt own) k = some (y, false, na)) (hlen : As.length = na) (hcs : csum S ≤ 8) (hR : R = rmO (d + 1) res)
    (hrv : (∃ ci, ci < 11 ∧ t = 10 + ci ∧ (mY y).cls = (cTb ci).1) ∨ (t = 30 ∧ a < 1000 + SLen.length ∧ (mY y).cls = "java/lang/String"))
    (hCt : Ct d y (rV t a :: As) σ rr σ') (kN : ∀ vs, rr = .inl vs → XM p l e R s m args below meth c K A nL 0 0 (Qf below K σf res args s A) (pc + 3) L (vs ++ S) σ') (kX : ∀ E, rr = .inr E → res = .inr E ∧ σ' = σf) :
    XM p l e R s m args below meth c K A nL 0 0 (Qf below K σf res args s A) pc L (As.reverse ++ rV t a :: S) σ := by
  have C0 := C
  obtain ⟨hx, hb, hml, hown, hts, hK, hD, hE, hA, hlk, hr, hst, hnt⟩ := C
  intro hn hL hS hO H locs ls hP hSS hl
  have hrok : okV (rV t a) := okh (okL_rr hS)
  obtain ⟨d', hd', hM⟩ := hCt (okc hrok (okL_rev (okL_l hS))) hO
  obtain ⟨hy, hnm, hpar, hm, ho⟩ := call_ok hk
  have hcost : mcO rr ≤ mcO res ∧ msO rr ≤ msO res := by
    cases rr with
    | inl _ => exact ⟨Nat.zero_le _, Nat.zero_le _⟩
    | inr E => rw [(kX E rfl).1]; exact ⟨Nat.le_refl _, Nat.le_refl _⟩
  have ht : 10 ≤ t ∧ t ≠ 33 := by
    rcases hrv with ⟨ci, h0, h1, -⟩ | ⟨h1, -⟩ <;> omega
  have hrc : ∃ cell : Cell, H[K.2.2.1 a]? = some cell ∧ cell.vm.isStatics = false ∧ s.vm.findClass (mY y).cls = some cell.cls := by
    rcases hrv with ⟨ci, h0, h1, h2⟩ | ⟨h1, h2, h3⟩
    · subst h1
      obtain ⟨ha, hT⟩ := okw_obj hrok h0
      have hg := WS_get K σ ha
      rw [cell_obj K σ hT h0] at hg
      rw [h2]
      exact va_recv hK hP (cl_get h0) hg
    · subst h1
      obtain ⟨j, hj1, hj⟩ := okw_str hrok h2
      have hE3 := (hE.2.2.1 j hj).1
      rw [← hj1] at hE3
      obtain ⟨cell, g1, g2, g3, -⟩ := hE3.kept hSS.2.1
      rw [h3]
      exact ⟨cell, g1, g2, g3⟩
  refine xs_after (d := d) (y := y) (Aa := (Value.ref (K.2.2.1 a) :: As.map (cv K)).toArray) C0 hn hL (okt (okL_rr hS)) hSS hl ?_ kN kX
  refine vx_runV (own := ownN own) (C := (mY y).cls) (index := k) (y := mY y) (bytes := mC y) (maxL := mL y) (ret := mR y) (ws := wM y) (rm := rmO d' rr) (n := na) (Ts := GB) (nL := nL) (b := K.2.2.1 a) ⟨hx, hb, hml, hown, hts⟩ (hM l K H.size hst) ⟨callB_y hd' hR hts hk, hts _ (in_call ho hm (by simp [callW])), hts _ (in_call ho hm (by simp [callW]))⟩ ⟨wd_blind, hrc, fun U hU hW => ⟨by rw [List.map_cons, cv_nr ht.1 ht.2], wd_call hK hD hE hA hP hSS hU hW⟩⟩ rfl (by rw [List.length_map]; exact hlen) hl.1 (by rw [List.map_append, List.map_reverse, List.map_cons, cv_nr ht.1 ht.2]) (lv_room (by rw [cat_S hE]; exact hcs)) hd ?_
  rw [hR]
  show 0 + mcO rr ≤ mcO res ∧ 0 + msO rr ≤ msO res
  omega
theorem xs_throw {d j E : Nat} (C : Cx p l s m args meth c K A nL 10 cc r True) (hE1 : 1 ≤ E) (hE4 : E ≤ 4) (hR : R = rmO (d + 1) res) (d0 : decode cc pc = .ok (.new (excK E), 3)) (d3 : decode cc (pc + 3) = .ok (.dup, 1))
    (dd : (∃ k, look (STt 10) k = some j ∧ decode cc (pc + 4) = .ok (.ldc k, 2) ∧ decode cc (pc + 6) = .ok (.invokespecial (excC E), 3) ∧ decode cc (pc + 9) = .ok (.athrow, 1)) ∨
     (∃ k, look (STt 10) k = some j ∧ decode cc (pc + 4) = .ok (.ldc_w k, 3) ∧ decode cc (pc + 7) = .ok (.invokespecial (excC E), 3) ∧ decode cc (pc + 10) = .ok (.athrow, 1))) (h : res = .inr E ∧ σ = σf) :
    XM p l e R s m args below meth c K A nL 0 0 (Qf below K σf res args s A) pc L [] σ := by
  obtain ⟨hx, hb, hml, hown, hts, hK, hD, hE, hA, hlk, hr, hst, hnt⟩ := C
  intro hn hL hS hO H locs ls hP hSS hl
  obtain ⟨rfl, rfl⟩ := h
  have hE5 : E < 5 := by omega
  obtain ⟨q1, q2, q3⟩ := exc_ok E hE5
  obtain ⟨b0, b1, b2, b5⟩ := exc_dec E hE5
  have hgx : ∀ w ∈ GBx E, w.before args s = true := fun w hw => hts w (in_exc hE5 hw)
  have hat : ∀ w ∈ xt_A RX10 (excC E) (excN E) (excI E) (excB E), w.before args s = true :=
    vx_hat (B := NGW) (fun w hw => hgx w (List.mem_cons_of_mem _ (List.mem_cons_of_mem _ hw))) q3 (fun w hw => by
      have hot : w.onTables = true := by
        unfold NGW at hw
        simp only [List.mem_cons, List.not_mem_nil, or_false] at hw
        rcases hw with rfl | rfl | rfl | rfl | rfl | rfl | rfl <;> rfl
      exact va_Nw.use hot (hE.2.2.2.2.2.2.2.2.2 w hw))
  obtain ⟨k, hk, dd2⟩ : ∃ k, look (STt 10) k = some j ∧ ((decode cc (pc + 4) = .ok (.ldc k, 2) ∧ decode cc (pc + 6) = .ok (.invokespecial (excC E), 3) ∧ decode cc (pc + 9) = .ok (.athrow, 1)) ∨ (decode cc (pc + 4) = .ok (.ldc_w k, 3) ∧ decode cc (pc + 7) = .ok (.invokespecial (excC E), 3) ∧ decode cc (pc + 10) = .ok (.athrow, 1))) := by
    rcases dd with ⟨k, h1, h2⟩ | ⟨k, h1, h2⟩
    · exact ⟨k, h1, Or.inl h2⟩
    · exact ⟨k, h1, Or.inr h2⟩
  obtain ⟨tx, htx⟩ := str_ok hk
  have hSt := hE.2.2.2.2.2.2.2.2.1 j _ htx
  refine xt_throw (own := RX10) (cls := excN E) (ik := excK E) (is := k) (ic := excC E) (i1 := excI E) (b1 := excB E) (A := A) hx hb hst hown q1 b0 b1 b2 b5 (hgx _ List.mem_cons_self) (hgx _ (List.mem_cons_of_mem _ List.mem_cons_self)) hSt hat q2 hE.1 hE.2.1 hSS (by rw [hml]; exact hl.1) d0 d3 dd2 (hnt trivial) ?_ ?_ ?_ ?_ hlk (fun t ht hz hq => ?_) hSS.2.2 (Nat.le_refl _) (Nat.le_refl _)
  · rw [hR]; show 5 < 12 + (d + 1); omega
  · rw [hR]; show 82 ≤ 160 + 40 * (d + 1); omega
  · rw [hR]; exact Nat.le_refl 1
  · rw [hR]; exact Nat.le_refl 6
  · refine ⟨⟨E, rfl, hO, ⟨hE1, hE4⟩, rfl, fun k q hk => (hP k q hk).kept (hq q.1 (hP k q hk).lt)⟩, ?_, fun q h1 h2 => ?_⟩
    · exact Nat.le_trans hSS.1 hz
    · rw [hq q (Nat.lt_of_lt_of_le h1 hSS.1)]
      exact hSS.2.1 q h1 (by rw [hA]; exact h2)
end SND3
