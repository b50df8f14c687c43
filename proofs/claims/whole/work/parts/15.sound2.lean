section SND2
variable {p : Program} {l : Launch} {e : Env} {R : Room} {s : State} {m : MethodId} {args : Array Value} {below : List Frame} {meth : Method} {c : Code} {K : KT} {A : Nat → Prop} {nL cl sl : Nat} {hh : Prop} {Q : State → Prop}
variable {own : Nat} {cc : ByteArray} {r : Option FieldType} {pc : Nat} {L S : List Vv} {σ : Sg}
theorem okw_obj {ci a : Nat} (h : okV (rV (10 + ci) a)) (hc : ci < 11) : a < 88 ∧ TY a = 10 + ci :=
  okR_w ((ok_r (t := 10 + ci) (a := a) (Nat.le_add_right 10 ci)).mp h) (by omega) (by omega) (by omega) (by omega)
theorem okw_arr {t a : Nat} (h : okV (rV t a)) (h1 : 1000000 ≤ t) (h2 : t ≠ 6000025) : a < 88 ∧ TY a = t :=
  okR_w ((ok_r (t := t) (a := a) (Nat.le_trans (by decide) h1)).mp h) (by omega) (by omega) h2 (by omega)
theorem fls_get {K : KT} {σ : Sg} {ci f a : Nat} (h : f < (cTb ci).2.2) : (flds K σ ci a)[f]? = some (cv K (fval ci f σ a)) := by
  unfold flds
  rw [List.getElem?_map, List.getElem?_range h]
  rfl
theorem fls_len {K : KT} {σ : Sg} {ci a : Nat} : (flds K σ ci a).length = (cTb ci).2.2 := by
  unfold flds
  rw [List.length_map, List.length_range]
theorem fty_lt {ci f : Nat} (hc : ci < 11) (hf : f < (cTb ci).2.2) : (fty ci f = 0 → parseFieldDescriptor ((cTb ci).2.1 f).2.2.1 = some .int ∧ ((cTb ci).2.1 f).2.2.2 = false) ∧ (fty ci f = 1 → parseFieldDescriptor ((cTb ci).2.1 f).2.2.1 = some .long ∧ ((cTb ci).2.1 f).2.2.2 = false) := ⟨cl_int ci hc f hf, cl_lng ci hc f hf⟩
theorem cv_nr {K : KT} {t a : Nat} (h : 10 ≤ t) (h2 : t ≠ 33) : cv K (t, a, 0) = .ref (K.2.2.1 a) := cv_r K a h h2
theorem xs_getf (C : Cx p l s m args meth c K A nL own cc r hh) {k : Nat} (hd : decode cc pc = .ok (.getfield k, 3)) {ci f a : Nat} (hf : look (FLt own) k = some (ci, f)) (h : XM p l e R s m args below meth c K A nL cl sl Q (pc + 3) L (fval ci f σ a :: S) σ) : XM p l e R s m args below meth c K A nL cl sl Q pc L (rV (10 + ci) a :: S) σ := by
  obtain ⟨hx, hb, hml, hown, hts, hK, hD, hE, hA, hlk, hr, hst, hnt⟩ := C
  intro hn hL hS hO H locs ls hP hSS hl
  obtain ⟨hc, hfl, hm, ho⟩ := fld_ok hf
  obtain ⟨ha, hT⟩ := okw_obj (okh hS) hc
  have hg := WS_get K σ ha
  rw [cell_obj K σ hT hc] at hg
  have h9 := h hn hL (okc (ok_fval hO ha hT hc hfl) (okt hS)) hO H locs ls hP hSS hl
  rw [List.map_cons] at h9 ⊢
  rw [cv_nr (Nat.le_add_right 10 ci) (by omega)]
  exact va_get (D := K.1) (cl := vwCl) (C := (cTb ci).1) (T := (cTb ci).2.1) (N := (cTb ci).2.2) (ci := ci) hx hb hts (cl_lay hc) hown hK hP a hg (cl_get hc) f hfl (hts _ (in_fld ho hm)) (fun _ z => z) (fls_get hfl) hd h9
theorem xs_putf (C : Cx p l s m args meth c K A nL own cc r hh) {k : Nat} (hd : decode cc pc = .ok (.putfield k, 3)) {ci f a : Nat} {v : Vv} (hf : look (FLt own) k = some (ci, f)) (hv : (fty ci f = 0 ∧ v.1 = 0) ∨ (fty ci f = 1 ∧ v.1 = 1)) (h : XM p l e R s m args below meth c K A nL cl sl Q (pc + 3) L S (upS σ a f v.2.2)) : XM p l e R s m args below meth c K A nL cl sl Q pc L (v :: rV (10 + ci) a :: S) σ := by
  obtain ⟨hx, hb, hml, hown, hts, hK, hD, hE, hA, hlk, hr, hst, hnt⟩ := C
  intro hn hL hS hO H locs ls hP hSS hl
  obtain ⟨hc, hfl, hm, ho⟩ := fld_ok hf
  obtain ⟨ha, hT⟩ := okw_obj (okh (okt hS)) hc
  have hg := WS_get K σ ha
  rw [cell_obj K σ hT hc] at hg
  have hok : okV v := okh hS
  obtain ⟨ty, hty, hnr, hft, hfin, hzz⟩ : ∃ ty, parseFieldDescriptor ((cTb ci).2.1 f).2.2.1 = some ty ∧ narrow ty (cv K v) = cv K v ∧ fits ty (cv K v) = true ∧ ((cTb ci).2.1 f).2.2.2 = false ∧ (if skd a f = 1 then in64 v.2.2 else in32 v.2.2) := by
    have hsk : skd a f = fty ci f := by unfold skd; rw [if_pos (by omega), hT, Nat.add_sub_cancel_left]
    obtain ⟨v1, v2, v3⟩ := v
    rcases hv with ⟨h1, h2⟩ | ⟨h1, h2⟩
    · have h2 : v1 = 0 := h2
      subst h2
      refine ⟨.int, ((fty_lt hc hfl).1 h1).1, rfl, rfl, ((fty_lt hc hfl).1 h1).2, ?_⟩
      rw [hsk, h1, if_neg (by decide)]
      exact hok
    · have h2 : v1 = 1 := h2
      subst h2
      refine ⟨.long, ((fty_lt hc hfl).2 h1).1, rfl, rfl, ((fty_lt hc hfl).2 h1).2, ?_⟩
      rw [hsk, h1, if_pos rfl]
      exact hok
  rw [List.map_cons, List.map_cons, cv_nr (Nat.le_add_right 10 ci) (by omega)]
  refine va_put (D := K.1) (cl := vwCl) (A := A) (H0 := s.heap) (C := (cTb ci).1) (T := (cTb ci).2.1) (N := (cTb ci).2.2) (ci := ci) (v := cv K v) (ty := ty) hx hb hts (cl_lay hc) (fun k => (parseFieldDescriptor ((cTb ci).2.1 k).2.2.1).getD .int) (cl_ty ci hc) (cl_nm ci hc) hown hK hP (hD σ) hSS a hg (cl_get hc) f hfl (hts _ (in_fld ho hm)) (fun _ z => z) hfin hty hnr hft (by rw [fls_len]; exact hfl) hd (fun H1 locs1 hP1 hD1 hS1 => ?_)
  rw [WS_put hT hc hfl hv] at hP1
  exact h hn hL (okt (okt hS)) (okS_ups hO hzz) H1 locs1 ls hP1 hS1 hl
theorem xs_getsP (C : Cx p l s m args meth c K A nL own cc r hh) (hd : decode cc pc = .ok (.getstatic 9, 3)) (ho : own = 3) (h : XM p l e R s m args below meth c K A nL cl sl Q (pc + 3) L (rV 6000025 3000 :: S) σ) : XM p l e R s m args below meth c K A nL cl sl Q pc L (S) σ := by
  obtain ⟨hx, hb, hml, hown, hts, hK, hD, hE, hA, hlk, hr, hst, hnt⟩ := C
  intro hn hL hS hO H locs ls hP hSS hl
  subst ho
  have h9 := h hn hL (okc ((ok_r (t := 6000025) (by decide)).mpr (Or.inr (Or.inr (Or.inr (Or.inl ⟨rfl, rfl⟩))))) hS) hO H locs ls hP hSS hl
  rw [List.map_cons, cv_nr (by decide) (by decide)] at h9
  exact va_gets hx hb hE.2.2.2.1 hSS hown (hts _ (in_spc List.mem_cons_self)) (fun _ z => z) hd h9
theorem xs_getsC (C : Cx p l s m args meth c K A nL own cc r hh) (hd : decode cc pc = .ok (.getstatic 38, 3)) (ho : own = 13) (h : XM p l e R s m args below meth c K A nL cl sl Q (pc + 3) L (iV 1 :: S) σ) : XM p l e R s m args below meth c K A nL cl sl Q pc L (S) σ := by
  obtain ⟨hx, hb, hml, hown, hts, hK, hD, hE, hA, hlk, hr, hst, hnt⟩ := C
  intro hn hL hS hO H locs ls hP hSS hl
  subst ho
  have h9 := h hn hL (okc (show in32 1 from ⟨by decide, by decide⟩) hS) hO H locs ls hP hSS hl
  exact va_gets (v := .int 1) hx hb hE.2.2.2.2.2.1 hSS hown (hts _ (in_spc (List.mem_cons_of_mem _ List.mem_cons_self))) (fun _ z => z) hd h9
theorem xs_getsF (C : Cx p l s m args meth c K A nL own cc r hh) (hd : decode cc pc = .ok (.getstatic 1053, 3)) (ho : own = 13) (h : XM p l e R s m args below meth c K A nL cl sl Q (pc + 3) L (rV 33 0 :: S) σ) : XM p l e R s m args below meth c K A nL cl sl Q pc L (S) σ := by
  obtain ⟨hx, hb, hml, hown, hts, hK, hD, hE, hA, hlk, hr, hst, hnt⟩ := C
  intro hn hL hS hO H locs ls hP hSS hl
  subst ho
  have h9 := h hn hL (okc ((ok_r (t := 33) (by decide)).mpr (Or.inr (Or.inr (Or.inr (Or.inr (Or.inl rfl)))))) hS) hO H locs ls hP hSS hl
  exact va_gets (v := K.2.2.2) hx hb hE.2.2.2.2.2.2.1 hSS hown (hts _ (in_spc (List.mem_cons_of_mem _ (List.mem_cons_of_mem _ List.mem_cons_self)))) (fun _ z => z) hd h9
theorem okw_str {a : Nat} (h : okV (rV 30 a)) (h2 : a < 1000 + SLen.length) : ∃ j, a = 1000 + j ∧ j < SLen.length := by
  rcases (ok_r (t := 30) (by decide)).mp h with q | q | q | q | q
  · exact absurd q.2 (by
      intro q2
      rcases ty_kind a q.1 with z | z <;> omega)
  · exact ⟨a - 1000, by omega, by omega⟩
  · omega
  · omega
  · omega
theorem okw_byt {a : Nat} (h : okV (rV 31 a)) : ∃ j, a = 2000 + j ∧ j < SLen.length := by
  rcases (ok_r (t := 31) (by decide)).mp h with q | q | q | q | q
  · exact absurd q.2 (by
      intro q2
      rcases ty_kind a q.1 with z | z <;> omega)
  · omega
  · exact ⟨a - 2000, by omega, by omega⟩
  · omega
  · omega
theorem xs_getfV (C : Cx p l s m args meth c K A nL own cc r hh) (hd : decode cc pc = .ok (.getfield 9, 3)) (ho : own = 13) {a : Nat} (ha : a < 1000 + SLen.length) (h : XM p l e R s m args below meth c K A nL cl sl Q (pc + 3) L (rV 31 (a + 1000) :: S) σ) : XM p l e R s m args below meth c K A nL cl sl Q pc L (rV 30 a :: S) σ := by
  obtain ⟨hx, hb, hml, hown, hts, hK, hD, hE, hA, hlk, hr, hst, hnt⟩ := C
  intro hn hL hS hO H locs ls hP hSS hl
  subst ho
  obtain ⟨j, rfl, hj⟩ := okw_str (okh hS) ha
  have e : 1000 + j + 1000 = 2000 + j := by omega
  rw [e] at h
  have hE3 := hE.2.2.1 j hj
  generalize hq1 : 1000 + j = q1 at *
  generalize hq2 : 2000 + j = q2 at *
  have h9 := h hn hL (okc ((ok_r (t := 31) (a := q2) (by decide)).mpr (Or.inr (Or.inr (Or.inl ⟨rfl, by omega, by omega⟩)))) (okt hS)) hO H locs ls hP hSS hl
  rw [List.map_cons, cv_nr (t := 31) (by decide) (by decide)] at h9
  rw [List.map_cons, cv_nr (t := 30) (by decide) (by decide)]
  exact vk_getf hx hb hE3.2.2.1 hSS hown (hts _ (in_spc (List.mem_cons_of_mem _ (List.mem_cons_of_mem _ (List.mem_cons_of_mem _ List.mem_cons_self))))) (fun _ z => z) hd h9
theorem xs_getfC (C : Cx p l s m args meth c K A nL own cc r hh) (hd : decode cc pc = .ok (.getfield 15, 3)) (ho : own = 13) {a : Nat} (ha : a < 1000 + SLen.length) (h : XM p l e R s m args below meth c K A nL cl sl Q (pc + 3) L (iV 0 :: S) σ) : XM p l e R s m args below meth c K A nL cl sl Q pc L (rV 30 a :: S) σ := by
  obtain ⟨hx, hb, hml, hown, hts, hK, hD, hE, hA, hlk, hr, hst, hnt⟩ := C
  intro hn hL hS hO H locs ls hP hSS hl
  subst ho
  obtain ⟨j, rfl, hj⟩ := okw_str (okh hS) ha
  have hE3 := hE.2.2.1 j hj
  generalize hq1 : 1000 + j = q1 at *
  have h9 := h hn hL (okc (show in32 0 from ⟨by decide, by decide⟩) (okt hS)) hO H locs ls hP hSS hl
  rw [List.map_cons, cv_nr (t := 30) (by decide) (by decide)]
  exact vk_getf (v := .int 0) hx hb hE3.2.1 hSS hown (hts _ (in_spc (List.mem_cons_of_mem _ (List.mem_cons_of_mem _ (List.mem_cons_of_mem _ (List.mem_cons_of_mem _ List.mem_cons_self)))))) (fun _ z => z) hd h9
theorem tysK_at {K : KT} {a : Nat} (ha : a < 88) (h : 1000000 ≤ TY a) : ∃ (t0 : Nat) (ty : FieldType), (tysK K)[t0]? = some (K.2.1 (TY a / 1000000), ty) := by
  rcases ty_kind a ha with z | ⟨z1, z2, z3⟩
  · omega
  · rcases z3 with z | z | z | z | z
    · exact ⟨0, .int, by rw [z]; rfl⟩
    · exact ⟨1, .long, by rw [z]; rfl⟩
    · exact ⟨2, .boolean, by rw [z]; rfl⟩
    · exact ⟨3, .object "PrimeCoins$Town", by rw [z]; rfl⟩
    · exact ⟨4, .object "PrimeCoins$Tray", by rw [z]; rfl⟩
theorem cell_arr (K : KT) (σ : Sg) {a : Nat} (ha : a < 88) (h : 1000000 ≤ TY a) : ∃ x, cellE K σ a = .inl (K.2.1 (TY a / 1000000), TY a % 1000000, x) := by
  rcases ty_kind a ha with z | ⟨z1, z2, z3⟩
  · omega
  · rcases z3 with z | z | z | z | z
    · exact ⟨_, by rw [cell_int K σ z, z]⟩
    · exact ⟨_, by rw [cell_long K σ z, z]⟩
    · exact ⟨_, by rw [cell_bool K σ z, z]⟩
    · exact ⟨_, by rw [cell_refs K σ (kd := 4) (by rw [z]) (by decide), z]⟩
    · exact ⟨_, by rw [cell_refs K σ (kd := 5) (by rw [z]) (by decide), z]⟩
theorem xs_alenA (C : Cx p l s m args meth c K A nL own cc r hh) (hd : decode cc pc = .ok (.arraylength, 1)) {t a : Nat} (ht : 1000000 ≤ t) (ht2 : t ≠ 6000025) (h : XM p l e R s m args below meth c K A nL cl sl Q (pc + 1) L (iV ((t % 1000000 : Nat) : Int) :: S) σ) : XM p l e R s m args below meth c K A nL cl sl Q pc L (rV t a :: S) σ := by
  obtain ⟨hx, hb, hml, hown, hts, hK, hD, hE, hA, hlk, hr, hst, hnt⟩ := C
  intro hn hL hS hO H locs ls hP hSS hl
  obtain ⟨ha, hT⟩ := okw_arr (okh hS) ht ht2
  subst hT
  have hg := WS_get K σ ha
  obtain ⟨x, hx2⟩ := cell_arr K σ ha ht
  rw [hx2] at hg
  obtain ⟨t0, ty, ht0⟩ := tysK_at (K := K) ha ht
  have hb2 : TY a % 1000000 < 1000000 := Nat.mod_lt _ (by decide)
  have h9 := h hn hL (okc (show in32 ((TY a % 1000000 : Nat) : Int) from by unfold in32; omega) (okt hS)) hO H locs ls hP hSS hl
  rw [List.map_cons, cv_nr (Nat.le_trans (by decide) ht) (by omega)]
  exact va_alen hx hb hK hP a t0 hg ht0 (v := Int32.ofInt ((TY a % 1000000 : Nat) : Int)) (by rw [Int32.ofInt_eq_ofNat]) hd h9
theorem xs_alenP (C : Cx p l s m args meth c K A nL own cc r hh) (hd : decode cc pc = .ok (.arraylength, 1)) (h : XM p l e R s m args below meth c K A nL cl sl Q (pc + 1) L (iV 25 :: S) σ) : XM p l e R s m args below meth c K A nL cl sl Q pc L (rV 6000025 3000 :: S) σ := by
  obtain ⟨hx, hb, hml, hown, hts, hK, hD, hE, hA, hlk, hr, hst, hnt⟩ := C
  intro hn hL hS hO H locs ls hP hSS hl
  have h9 := h hn hL (okc (show in32 25 from ⟨by decide, by decide⟩) (okt hS)) hO H locs ls hP hSS hl
  rw [List.map_cons, cv_nr (t := 6000025) (by decide) (by decide)]
  exact va_tlen hx hb hE.2.2.2.2.1 hSS (v := Int32.ofInt 25) rfl hd h9
theorem xs_alenB (C : Cx p l s m args meth c K A nL own cc r hh) (hd : decode cc pc = .ok (.arraylength, 1)) {a : Nat} (h : XM p l e R s m args below meth c K A nL cl sl Q (pc + 1) L (iV ((SLen.getD (a - 2000) 0 : Nat) : Int) :: S) σ) : XM p l e R s m args below meth c K A nL cl sl Q pc L (rV 31 a :: S) σ := by
  obtain ⟨hx, hb, hml, hown, hts, hK, hD, hE, hA, hlk, hr, hst, hnt⟩ := C
  intro hn hL hS hO H locs ls hP hSS hl
  obtain ⟨j, hj1, hj⟩ := okw_byt (okh hS)
  have e : a - 2000 = j := by omega
  rw [e] at h
  have hE3 := hE.2.2.1 j hj
  rw [← hj1] at hE3
  have hl1 := (schr_in j hj).1
  have h9 := h hn hL (okc (show in32 ((SLen.getD j 0 : Nat) : Int) from by unfold in32; omega) (okt hS)) hO H locs ls hP hSS hl
  rw [List.map_cons, cv_nr (t := 31) (by decide) (by decide)]
  exact va_tlen hx hb hE3.2.2.2 hSS (v := Int32.ofInt ((SLen.getD j 0 : Nat) : Int)) (by rw [Int32.ofInt_eq_ofNat]) hd h9
theorem xs_iald (C : Cx p l s m args meth c K A nL own cc r hh) (hd : decode cc pc = .ok (.iaload, 1)) {j : Int} {t a : Nat} (ht : t / 1000000 = 1) (hj : 0 ≤ j ∧ j < ((t % 1000000 : Nat) : Int)) (h : XM p l e R s m args below meth c K A nL cl sl Q (pc + 1) L (iV (σ a j.toNat) :: S) σ) : XM p l e R s m args below meth c K A nL cl sl Q pc L (iV j :: rV t a :: S) σ := by
  obtain ⟨hx, hb, hml, hown, hts, hK, hD, hE, hA, hlk, hr, hst, hnt⟩ := C
  intro hn hL hS hO H locs ls hP hSS hl
  have h1m : 1000000 ≤ t := by omega
  obtain ⟨ha, hT⟩ := okw_arr (okh (okt hS)) h1m (by omega)
  subst hT
  have hg := WS_get K σ ha
  rw [cell_int K σ ht] at hg
  have hj2 : in32 j := okh hS
  have hz := hO a j.toNat (Nat.lt_succ_of_lt ha)
  rw [skd_arr (by omega), ht] at hz
  have h9 := h hn hL (okc (show okV (iV (σ a j.toNat)) from hz) (okt (okt hS))) hO H locs ls hP hSS hl
  rw [← i32_cl hj2] at h9
  rw [List.map_cons, List.map_cons, cv_nr (Nat.le_trans (by decide) h1m) (by omega)]
  exact va_iald hx hb hK hP a 0 hg rfl (i32_in' hj2 hj) hd h9
theorem xs_lald (C : Cx p l s m args meth c K A nL own cc r hh) (hd : decode cc pc = .ok (.laload, 1)) {j : Int} {t a : Nat} (ht : t / 1000000 = 2) (hj : 0 ≤ j ∧ j < ((t % 1000000 : Nat) : Int)) (h : XM p l e R s m args below meth c K A nL cl sl Q (pc + 1) L (lV (σ a j.toNat) :: S) σ) : XM p l e R s m args below meth c K A nL cl sl Q pc L (iV j :: rV t a :: S) σ := by
  obtain ⟨hx, hb, hml, hown, hts, hK, hD, hE, hA, hlk, hr, hst, hnt⟩ := C
  intro hn hL hS hO H locs ls hP hSS hl
  have h1m : 1000000 ≤ t := by omega
  obtain ⟨ha, hT⟩ := okw_arr (okh (okt hS)) h1m (by omega)
  subst hT
  have hg := WS_get K σ ha
  rw [cell_long K σ ht] at hg
  have hj2 : in32 j := okh hS
  have hz := hO a j.toNat (Nat.lt_succ_of_lt ha)
  rw [skd_arr (by omega), ht] at hz
  have h9 := h hn hL (okc (show okV (lV (σ a j.toNat)) from hz) (okt (okt hS))) hO H locs ls hP hSS hl
  rw [← i32_cl hj2] at h9
  rw [List.map_cons, List.map_cons, cv_nr (Nat.le_trans (by decide) h1m) (by omega)]
  exact va_lald hx hb hK hP a 1 hg rfl (i32_in' hj2 hj) hd h9
theorem xs_zald (C : Cx p l s m args meth c K A nL own cc r hh) (hd : decode cc pc = .ok (.baload, 1)) {j : Int} {t a : Nat} (ht : t / 1000000 = 3) (hj : 0 ≤ j ∧ j < ((t % 1000000 : Nat) : Int)) (h : XM p l e R s m args below meth c K A nL cl sl Q (pc + 1) L (iV (σ a j.toNat) :: S) σ) : XM p l e R s m args below meth c K A nL cl sl Q pc L (iV j :: rV t a :: S) σ := by
  obtain ⟨hx, hb, hml, hown, hts, hK, hD, hE, hA, hlk, hr, hst, hnt⟩ := C
  intro hn hL hS hO H locs ls hP hSS hl
  have h1m : 1000000 ≤ t := by omega
  obtain ⟨ha, hT⟩ := okw_arr (okh (okt hS)) h1m (by omega)
  subst hT
  have hg := WS_get K σ ha
  rw [cell_bool K σ ht] at hg
  have hj2 : in32 j := okh hS
  have hz := hO a j.toNat (Nat.lt_succ_of_lt ha)
  rw [skd_arr (by omega), ht] at hz
  have h9 := h hn hL (okc (show okV (iV (σ a j.toNat)) from hz) (okt (okt hS))) hO H locs ls hP hSS hl
  rw [← i32_cl hj2] at h9
  rw [List.map_cons, List.map_cons, cv_nr (Nat.le_trans (by decide) h1m) (by omega)]
  exact va_zald hx hb hK hP a 2 hg rfl (i32_in' hj2 hj) hd h9
theorem xs_ialdP (C : Cx p l s m args meth c K A nL own cc r hh) (hd : decode cc pc = .ok (.iaload, 1)) {j : Int} {a : Nat} (hj : 0 ≤ j ∧ j < 25) (h : XM p l e R s m args below meth c K A nL cl sl Q (pc + 1) L (iV (prm j.toNat) :: S) σ) : XM p l e R s m args below meth c K A nL cl sl Q pc L (iV j :: rV 6000025 a :: S) σ := by
  obtain ⟨hx, hb, hml, hown, hts, hK, hD, hE, hA, hlk, hr, hst, hnt⟩ := C
  intro hn hL hS hO H locs ls hP hSS hl
  have ha : a = 3000 := by
    rcases (ok_r (t := 6000025) (by decide)).mp (okh (okt hS)) with q | q | q | q | q
    · exact absurd q.2 (by
        intro q2
        rcases ty_kind a q.1 with z | ⟨z1, z2, z3⟩ <;> omega)
    · omega
    · omega
    · exact q.2
    · omega
  subst ha
  have hj2 : in32 j := okh hS
  have hp1 := prm_in j.toNat (by omega)
  have h9 := h hn hL (okc (show in32 (prm j.toNat) from by unfold in32; omega) (okt (okt hS))) hO H locs ls hP hSS hl
  rw [← i32_cl hj2] at h9
  rw [List.map_cons, List.map_cons, cv_nr (t := 6000025) (by decide) (by decide)]
  exact va_ti hx hb hE.2.2.2.2.1 hSS (i32_in' hj2 hj) rfl hd h9
theorem xs_baldB (C : Cx p l s m args meth c K A nL own cc r hh) (hd : decode cc pc = .ok (.baload, 1)) {j : Int} {a : Nat} (hj : 0 ≤ j ∧ j < ((SLen.getD (a - 2000) 0 : Nat) : Int)) (h : XM p l e R s m args below meth c K A nL cl sl Q (pc + 1) L (iV (schr (a - 2000) j.toNat) :: S) σ) : XM p l e R s m args below meth c K A nL cl sl Q pc L (iV j :: rV 31 a :: S) σ := by
  obtain ⟨hx, hb, hml, hown, hts, hK, hD, hE, hA, hlk, hr, hst, hnt⟩ := C
  intro hn hL hS hO H locs ls hP hSS hl
  obtain ⟨q, hq1, hq⟩ := okw_byt (okh (okt hS))
  have e : a - 2000 = q := by omega
  rw [e] at h hj
  have hE3 := hE.2.2.1 q hq
  rw [← hq1] at hE3
  have hj2 : in32 j := okh hS
  have hp1 := (schr_in q hq).2 j.toNat (by omega)
  have h9 := h hn hL (okc (show in32 (schr q j.toNat) from by unfold in32; omega) (okt (okt hS))) hO H locs ls hP hSS hl
  rw [← i32_cl hj2] at h9
  rw [List.map_cons, List.map_cons, cv_nr (t := 31) (by decide) (by decide)]
  exact va_tb hx hb hE3.2.2.2 hSS (i32_in' hj2 hj) rfl hd h9
theorem xs_aaldT (C : Cx p l s m args meth c K A nL own cc r hh) (hd : decode cc pc = .ok (.aaload, 1)) {j : Int} {a : Nat} (hj : 0 ≤ j ∧ j < 3) (h : XM p l e R s m args below meth c K A nL cl sl Q (pc + 1) L (rV 17 (a + 1 + 7 * j.toNat) :: S) σ) : XM p l e R s m args below meth c K A nL cl sl Q pc L (iV j :: rV 4000003 a :: S) σ := by
  obtain ⟨hx, hb, hml, hown, hts, hK, hD, hE, hA, hlk, hr, hst, hnt⟩ := C
  intro hn hL hS hO H locs ls hP hSS hl
  obtain ⟨ha, hT⟩ := okw_arr (okh (okt hS)) (by decide) (by decide)
  have hg := WS_get K σ ha
  rw [cell_refs K σ (kd := 4) (by rw [hT]) (by decide), hT] at hg
  have hj2 : in32 j := okh hS
  have hj3 : j.toNat < 3 := by omega
  have hr2 := (ty_rows a ha).1 hT j.toNat hj3
  generalize hq : a + 1 + 7 * j.toNat = q9 at h hr2
  have h9 := h hn hL (okc ((ok_r (t := 17) (a := q9) (by decide)).mpr (Or.inl hr2)) (okt (okt hS))) hO H locs ls hP hSS hl
  rw [List.map_cons, cv_nr (t := 17) (by decide) (by decide)] at h9
  rw [List.map_cons, List.map_cons, cv_nr (t := 4000003) (by decide) (by decide)]
  refine va_aldq hx hb hK hP a 3 hg rfl (i32_in' hj2 hj) hd ?_
  rw [i32_cl hj2]
  show W p l e R s m args below meth c H locs cl sl Q (F0 m (pc + 1) ls (.ref (K.2.2.1 (a + 1 + 7 * j.toNat)) :: _))
  rw [hq]
  exact h9
theorem xs_aaldR (C : Cx p l s m args meth c K A nL own cc r hh) (hd : decode cc pc = .ok (.aaload, 1)) {j : Int} {a : Nat} (hj : 0 ≤ j ∧ j < 4) (h : XM p l e R s m args below meth c K A nL cl sl Q (pc + 1) L (rV 18 (a + 1 + 2 * j.toNat) :: S) σ) : XM p l e R s m args below meth c K A nL cl sl Q pc L (iV j :: rV 5000004 a :: S) σ := by
  obtain ⟨hx, hb, hml, hown, hts, hK, hD, hE, hA, hlk, hr, hst, hnt⟩ := C
  intro hn hL hS hO H locs ls hP hSS hl
  obtain ⟨ha, hT⟩ := okw_arr (okh (okt hS)) (by decide) (by decide)
  have hg := WS_get K σ ha
  rw [cell_refs K σ (kd := 5) (by rw [hT]) (by decide), hT] at hg
  have hj2 : in32 j := okh hS
  have hj3 : j.toNat < 4 := by omega
  have hr2 := (ty_rows a ha).2 hT j.toNat hj3
  generalize hq : a + 1 + 2 * j.toNat = q9 at h hr2
  have h9 := h hn hL (okc ((ok_r (t := 18) (a := q9) (by decide)).mpr (Or.inl hr2)) (okt (okt hS))) hO H locs ls hP hSS hl
  rw [List.map_cons, cv_nr (t := 18) (by decide) (by decide)] at h9
  rw [List.map_cons, List.map_cons, cv_nr (t := 5000004) (by decide) (by decide)]
  refine va_aldq hx hb hK hP a 4 hg rfl (i32_in' hj2 hj) hd ?_
  rw [i32_cl hj2]
  show W p l e R s m args below meth c H locs cl sl Q (F0 m (pc + 1) ls (.ref (K.2.2.1 (a + 1 + 2 * j.toNat)) :: _))
  rw [hq]
  exact h9
theorem xs_iast (C : Cx p l s m args meth c K A nL own cc r hh) (hd : decode cc pc = .ok (.iastore, 1)) {z j : Int} {t a : Nat} (ht : t / 1000000 = 1) (hj : 0 ≤ j ∧ j < ((t % 1000000 : Nat) : Int)) (h : XM p l e R s m args below meth c K A nL cl sl Q (pc + 1) L S (upS σ a j.toNat z)) : XM p l e R s m args below meth c K A nL cl sl Q pc L (iV z :: iV j :: rV t a :: S) σ := by
  obtain ⟨hx, hb, hml, hown, hts, hK, hD, hE, hA, hlk, hr, hst, hnt⟩ := C
  intro hn hL hS hO H locs ls hP hSS hl
  have h1m : 1000000 ≤ t := by omega
  obtain ⟨ha, hT⟩ := okw_arr (okh (okt (okt hS))) h1m (by omega)
  subst hT
  have hg := WS_get K σ ha
  rw [cell_int K σ ht] at hg
  have hj2 : in32 j := okh (okt hS)
  have hz : if skd a j.toNat = 1 then in64 z else in32 z := by
    rw [skd_arr (by omega), ht]
    exact okh hS
  rw [List.map_cons, List.map_cons, List.map_cons, cv_nr (Nat.le_trans (by decide) h1m) (by omega)]
  refine va_iast hx hb hK hP (hD σ) hSS a 0 hg rfl (i32_in' hj2 hj) hd (fun H1 locs1 hP1 hD1 hS1 => ?_)
  rw [i32_cl hj2, WS_ints ht] at hP1
  exact h hn hL (okt (okt (okt hS))) (okS_ups hO hz) H1 locs1 ls hP1 hS1 hl
theorem xs_last (C : Cx p l s m args meth c K A nL own cc r hh) (hd : decode cc pc = .ok (.lastore, 1)) {z j : Int} {t a : Nat} (ht : t / 1000000 = 2) (hj : 0 ≤ j ∧ j < ((t % 1000000 : Nat) : Int)) (h : XM p l e R s m args below meth c K A nL cl sl Q (pc + 1) L S (upS σ a j.toNat z)) : XM p l e R s m args below meth c K A nL cl sl Q pc L (lV z :: iV j :: rV t a :: S) σ := by
  obtain ⟨hx, hb, hml, hown, hts, hK, hD, hE, hA, hlk, hr, hst, hnt⟩ := C
  intro hn hL hS hO H locs ls hP hSS hl
  have h1m : 1000000 ≤ t := by omega
  obtain ⟨ha, hT⟩ := okw_arr (okh (okt (okt hS))) h1m (by omega)
  subst hT
  have hg := WS_get K σ ha
  rw [cell_long K σ ht] at hg
  have hj2 : in32 j := okh (okt hS)
  have hz : if skd a j.toNat = 1 then in64 z else in32 z := by
    rw [skd_arr (by omega), ht]
    exact okh hS
  rw [List.map_cons, List.map_cons, List.map_cons, cv_nr (Nat.le_trans (by decide) h1m) (by omega)]
  refine va_last hx hb hK hP (hD σ) hSS a 1 hg rfl (i32_in' hj2 hj) hd (fun H1 locs1 hP1 hD1 hS1 => ?_)
  rw [i32_cl hj2, WS_longs ht] at hP1
  exact h hn hL (okt (okt (okt hS))) (okS_ups hO hz) H1 locs1 ls hP1 hS1 hl
theorem nar_b {z : Int} (h : z = 0 ∨ z = 1) : vp_nar .boolean (Int32.ofInt z) = Int32.ofInt z := by
  rcases h with rfl | rfl <;> decide +kernel
theorem xs_zast (C : Cx p l s m args meth c K A nL own cc r hh) (hd : decode cc pc = .ok (.bastore, 1)) {z j : Int} {t a : Nat} (ht : t / 1000000 = 3) (hj : 0 ≤ j ∧ j < ((t % 1000000 : Nat) : Int)) (hz01 : z = 0 ∨ z = 1) (h : XM p l e R s m args below meth c K A nL cl sl Q (pc + 1) L S (upS σ a j.toNat z)) : XM p l e R s m args below meth c K A nL cl sl Q pc L (iV z :: iV j :: rV t a :: S) σ := by
  obtain ⟨hx, hb, hml, hown, hts, hK, hD, hE, hA, hlk, hr, hst, hnt⟩ := C
  intro hn hL hS hO H locs ls hP hSS hl
  have h1m : 1000000 ≤ t := by omega
  obtain ⟨ha, hT⟩ := okw_arr (okh (okt (okt hS))) h1m (by omega)
  subst hT
  have hg := WS_get K σ ha
  rw [cell_bool K σ ht] at hg
  have hj2 : in32 j := okh (okt hS)
  have hz : if skd a j.toNat = 1 then in64 z else in32 z := by
    rw [skd_arr (by omega), ht]
    exact okh hS
  rw [List.map_cons, List.map_cons, List.map_cons, cv_nr (Nat.le_trans (by decide) h1m) (by omega)]
  refine va_zast hx hb hK hP (hD σ) hSS a 2 hg rfl (i32_in' hj2 hj) hd (fun H1 locs1 hP1 hD1 hS1 => ?_)
  rw [i32_cl hj2, nar_b hz01, WS_bools ht] at hP1
  exact h hn hL (okt (okt (okt hS))) (okS_ups hO hz) H1 locs1 ls hP1 hS1 hl
theorem xs_cpyI (C : Cx p l s m args meth c K A nL own cc r hh) {k : Nat} (hd : decode cc pc = .ok (.invokestatic k, 3)) {nn dp sp : Int} {t1 t2 a b : Nat} (hk : look (CPt own) k = some ()) (hc8 : csum S ≤ 8) (ht1 : t1 / 1000000 = 1) (ht2 : t2 / 1000000 = 1) (g1 : 0 ≤ sp) (g2 : 0 ≤ dp) (g3 : 0 ≤ nn) (g4 : sp + nn ≤ ((t1 % 1000000 : Nat) : Int)) (g5 : dp + nn ≤ ((t2 % 1000000 : Nat) : Int)) (hR : 1 ≤ R.frames ∧ 60 ≤ R.locals) (h : XM p l e R s m args below meth c K A nL cl sl Q (pc + 3) L S (cpS σ a sp.toNat b dp.toNat nn.toNat)) : XM p l e R s m args below meth c K A nL cl sl Q pc L (iV nn :: iV dp :: rV t2 b :: iV sp :: rV t1 a :: S) σ := by
  obtain ⟨hx, hb, hml, hown, hts, hK, hD, hE, hA, hlk, hr, hst, hnt⟩ := C
  intro hn hL hS hO H locs ls hP hSS hl
  have h1m : 1000000 ≤ t1 := by omega
  have h2m : 1000000 ≤ t2 := by omega
  obtain ⟨ha, hTa⟩ := okw_arr (okh (okt (okt (okt (okt hS))))) h1m (by omega)
  obtain ⟨hb9, hTb⟩ := okw_arr (okh (okt (okt hS))) h2m (by omega)
  subst hTa
  subst hTb
  have hga := WS_get K σ ha
  have hgb := WS_get K σ hb9
  rw [cell_int K σ ht1] at hga
  rw [cell_int K σ ht2] at hgb
  have s1 : in32 nn := okh hS
  have s2 : in32 dp := okh (okt hS)
  have s3 : in32 sp := okh (okt (okt (okt hS)))
  have nl : ∀ z : Int, in32 z → 0 ≤ z → ¬ Int32.ofInt z < 0 := fun z hz h0 q => by
    have := (i32_lt hz ⟨by decide, by decide⟩).mp (show Int32.ofInt z < Int32.ofInt 0 from q)
    omega
  have ho : own < 19 := own_ltP ⟨_, _, hk⟩
  rw [List.map_cons, List.map_cons, List.map_cons, List.map_cons, List.map_cons, cv_nr (Nat.le_trans (by decide) h1m) (by omega), cv_nr (Nat.le_trans (by decide) h2m) (by omega)]
  refine va_copyi hx hb (by rw [hml, ← hl.1]) hown (hts _ (in_cpy ho (List.mem_map.mpr ⟨_, look_mem hk, rfl⟩))) (hts _ (in_spc (by simp [GBs]))) (hts _ (in_spc (by simp [GBs]))) (hts _ (in_spc (by simp [GBs]))) hK hP (hD σ) hSS a b 0 0 hga hgb rfl rfl rfl (nl _ s3 g1) (nl _ s2 g2) (nl _ s1 g3) (by rw [i32_cl s3, i32_cl s1]; omega) (by rw [i32_cl s2, i32_cl s1]; omega) (fun _ _ => rfl) hR.1 ?_ hd (fun H1 locs1 hP1 hD1 hS1 => ?_)
  · have e : (List.map (fun v => v.category) (List.map (cv K) S)).sum = csum S := by
      unfold csum
      rw [List.map_map]
      congr 1
      exact List.map_congr_left (fun v _ => cv_cat hE.2.2.2.2.2.2.2.1)
    have e2 : nativeFrameWords "java/lang/System" "arraycopy" 5 ≤ 40 := by decide +kernel
    rw [e]
    have := hR.2
    omega
  · rw [i32_cl s3, i32_cl s2, i32_cl s1, WS_cpi ht2] at hP1
    exact h hn hL (okt (okt (okt (okt (okt hS))))) (okS_cps hO ha (fun i j => by rw [skd_arr (by omega), skd_arr (by omega), ht1, ht2])) H1 locs1 ls hP1 hS1 hl
theorem xs_cpyL (C : Cx p l s m args meth c K A nL own cc r hh) {k : Nat} (hd : decode cc pc = .ok (.invokestatic k, 3)) {nn dp sp : Int} {t1 t2 a b : Nat} (hk : look (CPt own) k = some ()) (hc8 : csum S ≤ 8) (ht1 : t1 / 1000000 = 2) (ht2 : t2 / 1000000 = 2) (g1 : 0 ≤ sp) (g2 : 0 ≤ dp) (g3 : 0 ≤ nn) (g4 : sp + nn ≤ ((t1 % 1000000 : Nat) : Int)) (g5 : dp + nn ≤ ((t2 % 1000000 : Nat) : Int)) (hR : 1 ≤ R.frames ∧ 60 ≤ R.locals) (h : XM p l e R s m args below meth c K A nL cl sl Q (pc + 3) L S (cpS σ a sp.toNat b dp.toNat nn.toNat)) : XM p l e R s m args below meth c K A nL cl sl Q pc L (iV nn :: iV dp :: rV t2 b :: iV sp :: rV t1 a :: S) σ := by
  obtain ⟨hx, hb, hml, hown, hts, hK, hD, hE, hA, hlk, hr, hst, hnt⟩ := C
  intro hn hL hS hO H locs ls hP hSS hl
  have h1m : 1000000 ≤ t1 := by omega
  have h2m : 1000000 ≤ t2 := by omega
  obtain ⟨ha, hTa⟩ := okw_arr (okh (okt (okt (okt (okt hS))))) h1m (by omega)
  obtain ⟨hb9, hTb⟩ := okw_arr (okh (okt (okt hS))) h2m (by omega)
  subst hTa
  subst hTb
  have hga := WS_get K σ ha
  have hgb := WS_get K σ hb9
  rw [cell_long K σ ht1] at hga
  rw [cell_long K σ ht2] at hgb
  have s1 : in32 nn := okh hS
  have s2 : in32 dp := okh (okt hS)
  have s3 : in32 sp := okh (okt (okt (okt hS)))
  have nl : ∀ z : Int, in32 z → 0 ≤ z → ¬ Int32.ofInt z < 0 := fun z hz h0 q => by
    have := (i32_lt hz ⟨by decide, by decide⟩).mp (show Int32.ofInt z < Int32.ofInt 0 from q)
    omega
  have ho : own < 19 := own_ltP ⟨_, _, hk⟩
  rw [List.map_cons, List.map_cons, List.map_cons, List.map_cons, List.map_cons, cv_nr (Nat.le_trans (by decide) h1m) (by omega), cv_nr (Nat.le_trans (by decide) h2m) (by omega)]
  refine va_copyl hx hb (by rw [hml, ← hl.1]) hown (hts _ (in_cpy ho (List.mem_map.mpr ⟨_, look_mem hk, rfl⟩))) (hts _ (in_spc (by simp [GBs]))) (hts _ (in_spc (by simp [GBs]))) (hts _ (in_spc (by simp [GBs]))) hK hP (hD σ) hSS a b 1 1 hga hgb rfl rfl rfl (nl _ s3 g1) (nl _ s2 g2) (nl _ s1 g3) (by rw [i32_cl s3, i32_cl s1]; omega) (by rw [i32_cl s2, i32_cl s1]; omega) (fun _ _ => rfl) hR.1 ?_ hd (fun H1 locs1 hP1 hD1 hS1 => ?_)
  · have e : (List.map (fun v => v.category) (List.map (cv K) S)).sum = csum S := by
      unfold csum
      rw [List.map_map]
      congr 1
      exact List.map_congr_left (fun v _ => cv_cat hE.2.2.2.2.2.2.2.1)
    have e2 : nativeFrameWords "java/lang/System" "arraycopy" 5 ≤ 40 := by decide +kernel
    rw [e]
    have := hR.2
    omega
  · rw [i32_cl s3, i32_cl s2, i32_cl s1, WS_cpl ht2] at hP1
    exact h hn hL (okt (okt (okt (okt (okt hS))))) (okS_cps hO ha (fun i j => by rw [skd_arr (by omega), skd_arr (by omega), ht1, ht2])) H1 locs1 ls hP1 hS1 hl
theorem max_32 {x y : Int} (hx : in32 x) (hy : in32 y) : (if Int32.ofInt x < Int32.ofInt y then Int32.ofInt y else Int32.ofInt x) = Int32.ofInt (max x y) := by
  by_cases h : x < y
  · rw [if_pos ((i32_lt hx hy).mpr h), show max x y = y by omega]
  · rw [if_neg (fun q => h ((i32_lt hx hy).mp q)), show max x y = x by omega]
theorem min_32 {x y : Int} (hx : in32 x) (hy : in32 y) : (if Int32.ofInt y < Int32.ofInt x then Int32.ofInt y else Int32.ofInt x) = Int32.ofInt (min x y) := by
  by_cases h : y < x
  · rw [if_pos ((i32_lt hy hx).mpr h), show min x y = y by omega]
  · rw [if_neg (fun q => h ((i32_lt hy hx).mp q)), show min x y = x by omega]
theorem max_64 {x y : Int} (hx : in64 x) (hy : in64 y) : (if Int64.ofInt y < Int64.ofInt x then Int64.ofInt x else Int64.ofInt y) = Int64.ofInt (max x y) := by
  by_cases h : y < x
  · rw [if_pos ((i64_lt hy hx).mpr h), show max x y = x by omega]
  · rw [if_neg (fun q => h ((i64_lt hy hx).mp q)), show max x y = y by omega]
theorem abs_64 {x : Int} (hx : in64 x) : (if 0 < Int64.ofInt x then Int64.ofInt x else -Int64.ofInt x) = Int64.ofInt (absI x) := by
  unfold absI
  have e0 : (0 : Int64) = Int64.ofInt 0 := rfl
  rw [e0]
  by_cases h : 0 < x
  · rw [if_pos h, if_pos ((i64_lt (x := 0) ⟨by decide, by decide⟩ hx).mpr h)]
  · rw [if_neg h, if_neg (fun q => h ((i64_lt (x := 0) ⟨by decide, by decide⟩ hx).mp q)), neg_64]
theorem abs_in {x : Int} (hx : in64 x) : in64 (absI x) := by
  unfold absI
  split
  · exact hx
  · exact w64_in _
theorem xs_mmax (C : Cx p l s m args meth c K A nL own cc r hh) {d k : Nat} {res : Rs} (hd : decode cc pc = .ok (.invokestatic k, 3)) {x y : Int} (hk : look (MXt own) k = some 0) (hc8 : csum S ≤ 8) (hR : R = rmO (d + 1) res) (h : XM p l e R s m args below meth c K A nL 0 0 Q (pc + 3) L (iV (max x y) :: S) σ) : XM p l e R s m args below meth c K A nL 0 0 Q pc L (iV y :: iV x :: S) σ := by
  obtain ⟨hx, hb, hml, hown, hts, hK, hD, hE, hA, hlk, hr, hst, hnt⟩ := C
  intro hn hL hS hO H locs ls hP hSS hl
  have hy : in32 y := okh hS
  have hx2 : in32 x := okh (okt hS)
  have ho : own < 19 := own_ltM ⟨_, _, hk⟩
  have h9 := h hn hL (okc (show in32 (max x y) from by unfold in32 at *; omega) (okt (okt hS))) hO H locs ls hP hSS hl
  have e : (List.map (fun v => v.category) (List.map (cv K) S)).sum = csum S := by
    unfold csum
    rw [List.map_map]
    congr 1
    exact List.map_congr_left (fun v _ => cv_cat hE.2.2.2.2.2.2.2.1)
  refine va_mmax hx hb (by rw [hml, ← hl.1]) hown (hts _ (in_mx ho (List.mem_map.mpr ⟨_, look_mem hk, rfl⟩))) (hts _ (in_mn (by simp [GBn]))) (hts _ (in_mn (by simp [GBn]))) (hts _ (in_mn (by simp [GBn]))) (by rw [hR]; show 1 ≤ 12 + (d + 1); omega) (by rw [e, hR]; show _ ≤ 160 + 40 * (d + 1); omega) (Nat.zero_le _) (Nat.zero_le _) hd ?_
  rw [max_32 hx2 hy]
  exact h9
theorem xs_mmin (C : Cx p l s m args meth c K A nL own cc r hh) {d k : Nat} {res : Rs} (hd : decode cc pc = .ok (.invokestatic k, 3)) {x y : Int} (hk : look (MXt own) k = some 1) (hc8 : csum S ≤ 8) (hR : R = rmO (d + 1) res) (h : XM p l e R s m args below meth c K A nL 0 0 Q (pc + 3) L (iV (min x y) :: S) σ) : XM p l e R s m args below meth c K A nL 0 0 Q pc L (iV y :: iV x :: S) σ := by
  obtain ⟨hx, hb, hml, hown, hts, hK, hD, hE, hA, hlk, hr, hst, hnt⟩ := C
  intro hn hL hS hO H locs ls hP hSS hl
  have hy : in32 y := okh hS
  have hx2 : in32 x := okh (okt hS)
  have ho : own < 19 := own_ltM ⟨_, _, hk⟩
  have h9 := h hn hL (okc (show in32 (min x y) from by unfold in32 at *; omega) (okt (okt hS))) hO H locs ls hP hSS hl
  have e : (List.map (fun v => v.category) (List.map (cv K) S)).sum = csum S := by
    unfold csum
    rw [List.map_map]
    congr 1
    exact List.map_congr_left (fun v _ => cv_cat hE.2.2.2.2.2.2.2.1)
  refine va_mmin hx hb (by rw [hml, ← hl.1]) hown (hts _ (in_mx ho (List.mem_map.mpr ⟨_, look_mem hk, rfl⟩))) (hts _ (in_mn (by simp [GBn]))) (hts _ (in_mn (by simp [GBn]))) (hts _ (in_mn (by simp [GBn]))) (by rw [hR]; show 1 ≤ 12 + (d + 1); omega) (by rw [e, hR]; show _ ≤ 160 + 40 * (d + 1); omega) (Nat.zero_le _) (Nat.zero_le _) hd ?_
  rw [min_32 hx2 hy]
  exact h9
theorem xs_lmax (C : Cx p l s m args meth c K A nL own cc r hh) {d k : Nat} {res : Rs} (hd : decode cc pc = .ok (.invokestatic k, 3)) {x y : Int} (hk : look (MXt own) k = some 2) (hc8 : csum S ≤ 8) (hR : R = rmO (d + 1) res) (h : XM p l e R s m args below meth c K A nL 0 0 Q (pc + 3) L (lV (max x y) :: S) σ) : XM p l e R s m args below meth c K A nL 0 0 Q pc L (lV y :: lV x :: S) σ := by
  obtain ⟨hx, hb, hml, hown, hts, hK, hD, hE, hA, hlk, hr, hst, hnt⟩ := C
  intro hn hL hS hO H locs ls hP hSS hl
  have hy : in64 y := okh hS
  have hx2 : in64 x := okh (okt hS)
  have ho : own < 19 := own_ltM ⟨_, _, hk⟩
  have h9 := h hn hL (okc (show in64 (max x y) from by unfold in64 at *; omega) (okt (okt hS))) hO H locs ls hP hSS hl
  have e : (List.map (fun v => v.category) (List.map (cv K) S)).sum = csum S := by
    unfold csum
    rw [List.map_map]
    congr 1
    exact List.map_congr_left (fun v _ => cv_cat hE.2.2.2.2.2.2.2.1)
  refine va_mmax_long hx hb (by rw [hml, ← hl.1]) hown (hts _ (in_mx ho (List.mem_map.mpr ⟨_, look_mem hk, rfl⟩))) (hts _ (in_mn (by simp [GBn]))) (hts _ (in_mn (by simp [GBn]))) (hts _ (in_mn (by simp [GBn]))) (by rw [hR]; show 1 ≤ 12 + (d + 1); omega) (by rw [e, hR]; show _ ≤ 160 + 40 * (d + 1); omega) (Nat.zero_le _) (Nat.zero_le _) hd ?_
  rw [max_64 hx2 hy]
  exact h9
theorem xs_labs (C : Cx p l s m args meth c K A nL own cc r hh) {d k : Nat} {res : Rs} (hd : decode cc pc = .ok (.invokestatic k, 3)) {x : Int} (hk : look (MXt own) k = some 3) (hc8 : csum S ≤ 8) (hR : R = rmO (d + 1) res) (h : XM p l e R s m args below meth c K A nL 0 0 Q (pc + 3) L (lV (absI x) :: S) σ) : XM p l e R s m args below meth c K A nL 0 0 Q pc L (lV x :: S) σ := by
  obtain ⟨hx, hb, hml, hown, hts, hK, hD, hE, hA, hlk, hr, hst, hnt⟩ := C
  intro hn hL hS hO H locs ls hP hSS hl
  have hx2 : in64 x := okh hS
  have ho : own < 19 := own_ltM ⟨_, _, hk⟩
  have h9 := h hn hL (okc (show in64 (absI x) from abs_in hx2) (okt hS)) hO H locs ls hP hSS hl
  have e : (List.map (fun v => v.category) (List.map (cv K) S)).sum = csum S := by
    unfold csum
    rw [List.map_map]
    congr 1
    exact List.map_congr_left (fun v _ => cv_cat hE.2.2.2.2.2.2.2.1)
  refine va_mabs_long hx hb (by rw [hml, ← hl.1]) hown (hts _ (in_mx ho (List.mem_map.mpr ⟨_, look_mem hk, rfl⟩))) (hts _ (in_mn (by simp [GBn]))) (hts _ (in_mn (by simp [GBn]))) (hts _ (in_mn (by simp [GBn]))) (by rw [hR]; show 1 ≤ 12 + (d + 1); omega) (by rw [e, hR]; show _ ≤ 160 + 40 * (d + 1); omega) (Nat.zero_le _) (Nat.zero_le _) hd ?_
  rw [abs_64 hx2]
  exact h9
end SND2
