/-! the law calls a wrapper -/
theorem gwx_in : ∀ w ∈ GWx, w ∈ lw_tbl ∧ goodWord w = true := by
  intro w hw
  unfold GWx at hw
  simp only [List.mem_cons, List.not_mem_nil, or_false] at hw
  rcases hw with rfl | rfl | rfl | rfl
  · exact ⟨tbk_in (k := 3) (List.mem_of_getElem? (i := 210) (rfl : tables_1_3[210]? = some (Cond.classLink RL 18 (excN 1)))), rfl⟩
  · exact ⟨tbk_in (k := 2) (List.mem_of_getElem? (i := 181) (rfl : tables_1_2[181]? = some (Cond.classLink RL 13 (excN 2)))), rfl⟩
  · exact ⟨tbk_in (k := 4) (List.mem_of_getElem? (i := 122) (rfl : tables_1_4[122]? = some (Cond.classLink RL 50 (excN 3)))), rfl⟩
  · exact ⟨tbk_in (k := 6) (List.mem_of_getElem? (i := 112) (rfl : tables_1_6[112]? = some (Cond.classLink RL 155 (excN 4)))), rfl⟩
theorem gw_in : ∀ w ∈ GW, w ∈ lw_tbl ∧ goodWord w = true := fun w hw => (List.mem_append.mp hw).elim (gwx_in w) (gb_ok w)
theorem gw_mk {idx n : Nat} {y : MethodName} {cc : ByteArray} {th : List (Nat × Nat × Nat × Nat)} (hy : y.cls = RL) (h1 : Cond.methodLink RL idx y ∈ lw_tbl) (h2 : Cond.static y ∈ lw_tbl) (h3 : Cond.codeWith y cc n (some .int) th ∈ lw_tbl) : GoodIn lw_tbl (va_wsS RL idx y (wW y cc n th)) := by
  intro w hw
  unfold va_wsS at hw
  rcases List.mem_append.mp hw with h | h
  · simp only [List.mem_cons, List.not_mem_nil, or_false] at h
    rcases h with rfl | rfl | rfl
    · exact ⟨h1, Or.inl rfl⟩
    · exact ⟨h2, Or.inl rfl⟩
    · rw [hy]
      exact ⟨tbk_in (k := 1) (List.mem_of_getElem? (i := 0) (rfl : tables_1_1[0]? = some (Cond.initialized RL))), Or.inl rfl⟩
  · rcases List.mem_cons.mp h with rfl | h
    · exact ⟨h3, Or.inl rfl⟩
    · exact ⟨(gw_in w h).1, good_of_word (gw_in w h).2⟩
theorem wl_blind {K : KT} {σ : Sg} {sz : Nat} {av : List Value} : FrameBlind (va_Pc av (fun U => U.heap.size = sz ∧ Wd K σ sz U ∧ NC U)) := by
  intro a U g mk q
  obtain ⟨q0, q1, q2, q3⟩ := q
  obtain ⟨_, _, h2⟩ := wd_blind (av := av) a U g mk ⟨q0, q1, q2⟩
  exact ⟨q0, q1, h2, q3.moved (s := U) (U := U.calling g mk a) (Vm.Alike.refl U.vm)⟩
section LCL
variable {p : Program} {l : Launch} {e : Env} {R : Room} {s : State} {m : MethodId} {args : Array Value} {below : List Frame} {meth : Method} {c : Code} {K : KT} {A : Nat → Prop} {nL cl sl : Nat} {hh : Prop} {Q : State → Prop}
variable {cc : ByteArray} {r : Option FieldType} {pc : Nat} {L S : List Vv} {σ : Sg}
theorem xs_callW {y : MethodName} {cy : ByteArray} {n k na : Nat} {th : List (Nat × Nat × Nat × Nat)} {As : List Vv} {v : Int} {σ' : Sg} (h81 : K.2.2.1 9998 ≠ 0) (C : Cx p l s m args meth c K A nL 12 cc r hh) (hd : decode cc pc = .ok (.invokestatic k, 3)) (hcw : vx_CSW R s args RL k y cy n (some .int) th (wW y cy n th) rmW 1 6 na) (hNC : NC s)
    (hlen : As.length = na) (hcs : csum S ≤ 8) (hcl : cl + 1 ≤ R.cells) (hsl : sl + 6 ≤ R.slots) (hCt : CtL y (wW y cy n th) As σ v σ') (kN : XM p l e R s m args below meth c K A nL (cl + 1) (sl + 6) Q (pc + 3) L (iV v :: S) σ') :
    XM p l e R s m args below meth c K A nL cl sl Q pc L (As.reverse ++ S) σ := by
  obtain ⟨hx, hb, hml, hown, hts, hK, hD, hE, hA, hlk, hr, hst, hnt⟩ := C
  intro hn hL hS hO H locs ls hP hSS hl
  have hM := hCt (okL_rev (okL_l hS)) hO l K H.size hst h81
  have hsub : ∀ q, AA K H.size q → A q := fun q hq => by
    rw [hA]
    rcases hq with h | h
    · exact Or.inl h
    · exact Or.inr (Nat.le_trans hSS.1 h)
  have run := vx_runSX (meth := meth) (below := below) (e := e) (locs := locs) (cells := cl) (slots := sl) (own := RL) (index := k) (y := y) (bytes := cy) (maxL := n) (ret := some .int) (hh := th) (ws := wW y cy n th) (rm := rmW) (n := na) (Ts := GB) (nL := nL) (As := As.map (cv K)) (rest := S.map (cv K)) (g := F0 m pc ls ((As.reverse ++ S).map (cv K))) ⟨hx, hb, hml, hown, hts⟩ hM hcw ⟨wl_blind, fun U hU hW => ⟨rfl, (wd_call hK hD hE hA hP hSS hU hW).1, (wd_call hK hD hE hA hP hSS hU hW).2, hNC.moved hW.alike⟩⟩ rfl (by rw [List.length_map]; exact hlen) hl.1 (by rw [List.map_append, List.map_reverse]) (lv_room (by rw [cat_S hE]; exact hcs)) hd ⟨hcl, hsl⟩
  intro T hT X
  rcases run T hT X with ⟨w, st₀, t2, T', Lc, h0, X', hL2, e1, e2, ⟨⟨vs, hvs, hO', hrr, hv, hP1⟩, hF⟩, st⟩ | ⟨q, st₀, t2, T', Lc, E, ce, h0, X', hL2, e1, e2, hf, -⟩
  · cases hvs
    obtain ⟨k1, k2, k3⟩ := vx_keep h0 e1 hSS (fun q _ h => hsub q h) hsub hL2 hF
    rw [← e1] at hP1
    obtain ⟨t3, a1, b1⟩ := kN hn hL (okL_app hrr (okL_rr hS)) hO' T'.heap (locs ++ Lc) ls hP1 k3 hl T' rfl X'
    refine ⟨t3, st t3 ?_, b1⟩
    rcases hv with ⟨hv, -⟩ | ⟨z, hz, hv⟩
    · cases hv
    · cases hz
      cases hv
      exact a1
  · exact hf.elim
/-- the words of a wrapper's call, at the law's frame -/
theorem csw_L {y : MethodName} {cy : ByteArray} {n k : Nat} (na : Nat) {th : List (Nat × Nat × Nat × Nat)} (ht : ∀ w ∈ lw_tbl, w.before args s = true) (hG : GoodIn lw_tbl (va_wsS RL k y (wW y cy n th))) (hd : y.cls ≠ "java/lang/invoke/MethodHandle" ∧ y.cls ≠ "java/lang/invoke/VarHandle" ∧ (parseMethodDescriptor y.desc).map (fun d => d.parameters.length) = some na) (hR : 61 ≤ R.frames ∧ 1919 + n ≤ R.locals) : vx_CSW R s args RL k y cy n (some .int) th (wW y cy n th) rmW 1 6 na :=
  vx_cwSW na ht hG rfl rfl rfl hd ⟨hR.1, by show 8 + (n + 11) + 1900 ≤ R.locals; omega⟩
end LCL
