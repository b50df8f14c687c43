/-! the wrappers' walks -/
theorem n9 {L : List Vv} (h : L.all (fun v => v.2.1 != 9998) = true) : ∀ v ∈ L, v.2.1 ≠ 9998 := fun v hv => by
  have := List.all_eq_true.mp h v hv
  simpa using this
def cdN (E : Nat) : Int := if E = 1 then 1 else 0
def cdNI (E : Nat) : Int := if E = 1 then 1 else if E = 2 then 2 else 0
def cdI (E : Nat) : Int := if E = 2 then 1 else 0
def cdD (E : Nat) : Int := if E = 1 then 1 else if E = 2 then 2 else if E = 3 then 3 else 0
def cdY (E : Nat) : Int := if E = 2 then 1 else if E = 3 then 2 else 0
def cdP (E : Nat) : Int := if E = 1 then 1 else if E = 3 then 2 else 0
def cdJ (E : Nat) : Int := if E = 1 then 1 else if E = 3 then 2 else if E = 2 then 3 else 0
def cdW (E : Nat) : Int := if E = 1 then 1 else if E = 3 then 2 else if E = 4 then 3 else 0
set_option maxRecDepth 20000 in
theorem w_town {σ σ1 : Sg} {x : Int} {v : Int} (h : Ct 40 MX10_town (rV 19 0 :: [iV x]) σ (.inl [iV v]) σ1) : CtL yL_town (wW yL_town cL_town 4 [(0, 9, 12, 13)]) [rV 19 0, iV x, rV 35 88] σ 0 (upS (o80 σ σ1) 88 0 v) := by
  refine mk_W (by decide +kernel) rfl (Nat.le_of_ble_eq_true rfl) ?_
  intro p l e s m args below meth c K A h81 C hgw hNC ht
  have hC := clo_L (Q := QfW below K ((upS (o80 σ σ1) 88 0 v)) (0) args s A) (cl := 0) (sl := 0) (d := 40) (R := rmW) (p := p) (e := e) (below := below) h81 C (by decide) (by decide) (by decide) (by decide)
  refine st_aload_n hC dL_town_0 rfl (by decide) (by decide) ?_
  refine st_iconst hC dL_town_1 rfl ?_
  refine st_aload_n hC dL_town_2 rfl (by decide) (by decide) ?_
  refine st_iload_n hC dL_town_3 rfl ?_
  refine xs_callVH (d := 40) (t := 19) (a := 0) (As := [iV x]) (S := [iV 0, rV 35 88]) h81 C dL_town_4 (show look (CLt 12) 7 = some (MX10_town, false, 1) from rfl) rfl (by decide) (by decide) (by decide) (Nat.le_of_ble_eq_true rfl) (Nat.le_of_ble_eq_true rfl) ⟨9, by decide, rfl, by decide +kernel⟩ (n9 rfl) (fun vs hvs => by cases hvs; exact n9 rfl) h (fun vs hvs => ?_) (fun E hE => nomatch hE)
  cases hvs
  refine st_i2l hC dL_town_7 ?_
  refine xs_lastO h81 C dL_town_8 ?_
  refine st_goto (tg := 15) hC dL_town_9 rfl ?_
  refine st_iconst hC dL_town_15 rfl ?_
  exact xw_ireturn C dL_town_16 (by decide) (by decide) ⟨rfl, rfl⟩
set_option maxRecDepth 20000 in
theorem w_town_2 {σ σ1 : Sg} {x : Int} (h : Ct 40 MX10_town (rV 19 0 :: [iV x]) σ (.inr 2) σ1) : CtL yL_town (wW yL_town cL_town 4 [(0, 9, 12, 13)]) [rV 19 0, iV x, rV 35 88] σ 1 (o80 σ σ1) := by
  refine mk_W (by decide +kernel) rfl (Nat.le_of_ble_eq_true rfl) ?_
  intro p l e s m args below meth c K A h81 C hgw hNC ht
  have hC := clo_L (Q := QfW below K ((o80 σ σ1)) (1) args s A) (cl := 0) (sl := 0) (d := 40) (R := rmW) (p := p) (e := e) (below := below) h81 C (by decide) (by decide) (by decide) (by decide)
  refine st_aload_n hC dL_town_0 rfl (by decide) (by decide) ?_
  refine st_iconst hC dL_town_1 rfl ?_
  refine st_aload_n hC dL_town_2 rfl (by decide) (by decide) ?_
  refine st_iload_n hC dL_town_3 rfl ?_
  refine xs_callVH (d := 40) (t := 19) (a := 0) (As := [iV x]) (S := [iV 0, rV 35 88]) h81 C dL_town_4 (show look (CLt 12) 7 = some (MX10_town, false, 1) from rfl) rfl (by decide) (by decide) (by decide) (Nat.le_of_ble_eq_true rfl) (Nat.le_of_ble_eq_true rfl) ⟨9, by decide, rfl, by decide +kernel⟩ (n9 rfl) (fun vs hvs => by cases hvs) h (fun vs hvs => nomatch hvs) (fun E hE hO1 hE1 hE4 hn1 hL1 hS1 H locs ls q ce hP hSS hl hce hcv hcl => ?_)
  cases hE
  refine xw_catch (E := 2) (pc2 := 13) (i := 3) (x := ⟨0, 9, 12, 13⟩) (pre := []) (suf := []) C hgw hNC (by decide) (by decide) (ht.trans rfl) (fun z hz => nomatch hz) rfl (by decide) (Or.inr ⟨3, rfl, dL_town_12, rfl⟩) (Nat.le_of_ble_eq_true rfl) hO1 hn1 hL1 ?_ hP hSS hl hce hcv hcl
  refine xs_iconst C dL_town_13 ?_
  exact xw_ireturn C dL_town_14 (by decide) (by decide) ⟨by decide, rfl⟩
theorem w_town_x {σ σ1 : Sg} {x : Int} {E : Nat} (hE : cdI E ≠ 0) (h : Ct 40 MX10_town (rV 19 0 :: [iV x]) σ (.inr E) σ1) : CtL yL_town (wW yL_town cL_town 4 [(0, 9, 12, 13)]) [rV 19 0, iV x, rV 35 88] σ (cdI E) (o80 σ σ1) := by
  by_cases e2 : E = 2
  · subst e2; exact w_town_2 h
  exact absurd (show cdI E = 0 by unfold cdI; rw [if_neg e2]) hE
set_option maxRecDepth 20000 in
theorem w_coin {σ σ1 : Sg} {x : Int} {v : Int} (h : Ct 40 MX10_coin (rV 19 0 :: [iV x]) σ (.inl [iV v]) σ1) : CtL yL_coin (wW yL_coin cL_coin 4 [(0, 9, 12, 18)]) [rV 19 0, iV x, rV 35 88] σ 0 (upS (o80 σ σ1) 88 0 v) := by
  refine mk_W (by decide +kernel) rfl (Nat.le_of_ble_eq_true rfl) ?_
  intro p l e s m args below meth c K A h81 C hgw hNC ht
  have hC := clo_L (Q := QfW below K ((upS (o80 σ σ1) 88 0 v)) (0) args s A) (cl := 0) (sl := 0) (d := 40) (R := rmW) (p := p) (e := e) (below := below) h81 C (by decide) (by decide) (by decide) (by decide)
  refine st_aload_n hC dL_coin_0 rfl (by decide) (by decide) ?_
  refine st_iconst hC dL_coin_1 rfl ?_
  refine st_aload_n hC dL_coin_2 rfl (by decide) (by decide) ?_
  refine st_iload_n hC dL_coin_3 rfl ?_
  refine xs_callVH (d := 40) (t := 19) (a := 0) (As := [iV x]) (S := [iV 0, rV 35 88]) h81 C dL_coin_4 (show look (CLt 12) 15 = some (MX10_coin, false, 1) from rfl) rfl (by decide) (by decide) (by decide) (Nat.le_of_ble_eq_true rfl) (Nat.le_of_ble_eq_true rfl) ⟨9, by decide, rfl, by decide +kernel⟩ (n9 rfl) (fun vs hvs => by cases hvs; exact n9 rfl) h (fun vs hvs => ?_) (fun E hE => nomatch hE)
  cases hvs
  refine st_i2l hC dL_coin_7 ?_
  refine xs_lastO h81 C dL_coin_8 ?_
  refine st_goto (tg := 15) hC dL_coin_9 rfl ?_
  refine st_iconst hC dL_coin_15 rfl ?_
  exact xw_ireturn C dL_coin_16 (by decide) (by decide) ⟨rfl, rfl⟩
set_option maxRecDepth 20000 in
theorem w_coin_1 {σ σ1 : Sg} {x : Int} (h : Ct 40 MX10_coin (rV 19 0 :: [iV x]) σ (.inr 1) σ1) : CtL yL_coin (wW yL_coin cL_coin 4 [(0, 9, 12, 18)]) [rV 19 0, iV x, rV 35 88] σ 1 (o80 σ σ1) := by
  refine mk_W (by decide +kernel) rfl (Nat.le_of_ble_eq_true rfl) ?_
  intro p l e s m args below meth c K A h81 C hgw hNC ht
  have hC := clo_L (Q := QfW below K ((o80 σ σ1)) (1) args s A) (cl := 0) (sl := 0) (d := 40) (R := rmW) (p := p) (e := e) (below := below) h81 C (by decide) (by decide) (by decide) (by decide)
  refine st_aload_n hC dL_coin_0 rfl (by decide) (by decide) ?_
  refine st_iconst hC dL_coin_1 rfl ?_
  refine st_aload_n hC dL_coin_2 rfl (by decide) (by decide) ?_
  refine st_iload_n hC dL_coin_3 rfl ?_
  refine xs_callVH (d := 40) (t := 19) (a := 0) (As := [iV x]) (S := [iV 0, rV 35 88]) h81 C dL_coin_4 (show look (CLt 12) 15 = some (MX10_coin, false, 1) from rfl) rfl (by decide) (by decide) (by decide) (Nat.le_of_ble_eq_true rfl) (Nat.le_of_ble_eq_true rfl) ⟨9, by decide, rfl, by decide +kernel⟩ (n9 rfl) (fun vs hvs => by cases hvs) h (fun vs hvs => nomatch hvs) (fun E hE hO1 hE1 hE4 hn1 hL1 hS1 H locs ls q ce hP hSS hl hce hcv hcl => ?_)
  cases hE
  refine xw_catch (E := 1) (pc2 := 13) (i := 3) (x := ⟨0, 9, 12, 18⟩) (pre := []) (suf := []) C hgw hNC (by decide) (by decide) (ht.trans rfl) (fun z hz => nomatch hz) rfl (by decide) (Or.inr ⟨3, rfl, dL_coin_12, rfl⟩) (Nat.le_of_ble_eq_true rfl) hO1 hn1 hL1 ?_ hP hSS hl hce hcv hcl
  refine xs_iconst C dL_coin_13 ?_
  exact xw_ireturn C dL_coin_14 (by decide) (by decide) ⟨by decide, rfl⟩
theorem w_coin_x {σ σ1 : Sg} {x : Int} {E : Nat} (hE : cdN E ≠ 0) (h : Ct 40 MX10_coin (rV 19 0 :: [iV x]) σ (.inr E) σ1) : CtL yL_coin (wW yL_coin cL_coin 4 [(0, 9, 12, 18)]) [rV 19 0, iV x, rV 35 88] σ (cdN E) (o80 σ σ1) := by
  by_cases e1 : E = 1
  · subst e1; exact w_coin_1 h
  exact absurd (show cdN E = 0 by unfold cdN; rw [if_neg e1]) hE
set_option maxRecDepth 20000 in
theorem w_has {σ σ1 : Sg} {x y : Int} {v : Int} (h : Ct 40 MX10_has (rV 19 0 :: [iV x, iV y]) σ (.inl [iV v]) σ1) : CtL yL_has (wW yL_has cL_has 5 [(0, 10, 13, 18)]) [rV 19 0, iV x, iV y, rV 35 88] σ 0 (upS (o80 σ σ1) 88 0 v) := by
  refine mk_W (by decide +kernel) rfl (Nat.le_of_ble_eq_true rfl) ?_
  intro p l e s m args below meth c K A h81 C hgw hNC ht
  have hC := clo_L (Q := QfW below K ((upS (o80 σ σ1) 88 0 v)) (0) args s A) (cl := 0) (sl := 0) (d := 40) (R := rmW) (p := p) (e := e) (below := below) h81 C (by decide) (by decide) (by decide) (by decide)
  refine st_aload_n hC dL_has_0 rfl (by decide) (by decide) ?_
  refine st_iconst hC dL_has_1 rfl ?_
  refine st_aload_n hC dL_has_2 rfl (by decide) (by decide) ?_
  refine st_iload_n hC dL_has_3 rfl ?_
  refine st_iload_n hC dL_has_4 rfl ?_
  refine xs_callVH (d := 40) (t := 19) (a := 0) (As := [iV x, iV y]) (S := [iV 0, rV 35 88]) h81 C dL_has_5 (show look (CLt 12) 20 = some (MX10_has, false, 2) from rfl) rfl (by decide) (by decide) (by decide) (Nat.le_of_ble_eq_true rfl) (Nat.le_of_ble_eq_true rfl) ⟨9, by decide, rfl, by decide +kernel⟩ (n9 rfl) (fun vs hvs => by cases hvs; exact n9 rfl) h (fun vs hvs => ?_) (fun E hE => nomatch hE)
  cases hvs
  refine st_i2l hC dL_has_8 ?_
  refine xs_lastO h81 C dL_has_9 ?_
  refine st_goto (tg := 17) hC dL_has_10 rfl ?_
  refine st_iconst hC dL_has_17 rfl ?_
  exact xw_ireturn C dL_has_18 (by decide) (by decide) ⟨rfl, rfl⟩
set_option maxRecDepth 20000 in
theorem w_has_1 {σ σ1 : Sg} {x y : Int} (h : Ct 40 MX10_has (rV 19 0 :: [iV x, iV y]) σ (.inr 1) σ1) : CtL yL_has (wW yL_has cL_has 5 [(0, 10, 13, 18)]) [rV 19 0, iV x, iV y, rV 35 88] σ 1 (o80 σ σ1) := by
  refine mk_W (by decide +kernel) rfl (Nat.le_of_ble_eq_true rfl) ?_
  intro p l e s m args below meth c K A h81 C hgw hNC ht
  have hC := clo_L (Q := QfW below K ((o80 σ σ1)) (1) args s A) (cl := 0) (sl := 0) (d := 40) (R := rmW) (p := p) (e := e) (below := below) h81 C (by decide) (by decide) (by decide) (by decide)
  refine st_aload_n hC dL_has_0 rfl (by decide) (by decide) ?_
  refine st_iconst hC dL_has_1 rfl ?_
  refine st_aload_n hC dL_has_2 rfl (by decide) (by decide) ?_
  refine st_iload_n hC dL_has_3 rfl ?_
  refine st_iload_n hC dL_has_4 rfl ?_
  refine xs_callVH (d := 40) (t := 19) (a := 0) (As := [iV x, iV y]) (S := [iV 0, rV 35 88]) h81 C dL_has_5 (show look (CLt 12) 20 = some (MX10_has, false, 2) from rfl) rfl (by decide) (by decide) (by decide) (Nat.le_of_ble_eq_true rfl) (Nat.le_of_ble_eq_true rfl) ⟨9, by decide, rfl, by decide +kernel⟩ (n9 rfl) (fun vs hvs => by cases hvs) h (fun vs hvs => nomatch hvs) (fun E hE hO1 hE1 hE4 hn1 hL1 hS1 H locs ls q ce hP hSS hl hce hcv hcl => ?_)
  cases hE
  refine xw_catch (E := 1) (pc2 := 15) (i := 4) (x := ⟨0, 10, 13, 18⟩) (pre := []) (suf := []) C hgw hNC (by decide) (by decide) (ht.trans rfl) (fun z hz => nomatch hz) rfl (by decide) (Or.inl ⟨dL_has_13, rfl⟩) (Nat.le_of_ble_eq_true rfl) hO1 hn1 hL1 ?_ hP hSS hl hce hcv hcl
  refine xs_iconst C dL_has_15 ?_
  exact xw_ireturn C dL_has_16 (by decide) (by decide) ⟨by decide, rfl⟩
theorem w_has_x {σ σ1 : Sg} {x y : Int} {E : Nat} (hE : cdN E ≠ 0) (h : Ct 40 MX10_has (rV 19 0 :: [iV x, iV y]) σ (.inr E) σ1) : CtL yL_has (wW yL_has cL_has 5 [(0, 10, 13, 18)]) [rV 19 0, iV x, iV y, rV 35 88] σ (cdN E) (o80 σ σ1) := by
  by_cases e1 : E = 1
  · subst e1; exact w_has_1 h
  exact absurd (show cdN E = 0 by unfold cdN; rw [if_neg e1]) hE
set_option maxRecDepth 20000 in
theorem w_purse {σ σ1 : Sg} {x y : Int} {v : Int} (h : Ct 40 MX10_purse (rV 19 0 :: [iV x, iV y]) σ (.inl [iV v]) σ1) : CtL yL_purse (wW yL_purse cL_purse 5 [(0, 10, 13, 18), (0, 10, 17, 13)]) [rV 19 0, iV x, iV y, rV 35 88] σ 0 (upS (o80 σ σ1) 88 0 v) := by
  refine mk_W (by decide +kernel) rfl (Nat.le_of_ble_eq_true rfl) ?_
  intro p l e s m args below meth c K A h81 C hgw hNC ht
  have hC := clo_L (Q := QfW below K ((upS (o80 σ σ1) 88 0 v)) (0) args s A) (cl := 0) (sl := 0) (d := 40) (R := rmW) (p := p) (e := e) (below := below) h81 C (by decide) (by decide) (by decide) (by decide)
  refine st_aload_n hC dL_purse_0 rfl (by decide) (by decide) ?_
  refine st_iconst hC dL_purse_1 rfl ?_
  refine st_aload_n hC dL_purse_2 rfl (by decide) (by decide) ?_
  refine st_iload_n hC dL_purse_3 rfl ?_
  refine st_iload_n hC dL_purse_4 rfl ?_
  refine xs_callVH (d := 40) (t := 19) (a := 0) (As := [iV x, iV y]) (S := [iV 0, rV 35 88]) h81 C dL_purse_5 (show look (CLt 12) 24 = some (MX10_purse, false, 2) from rfl) rfl (by decide) (by decide) (by decide) (Nat.le_of_ble_eq_true rfl) (Nat.le_of_ble_eq_true rfl) ⟨9, by decide, rfl, by decide +kernel⟩ (n9 rfl) (fun vs hvs => by cases hvs; exact n9 rfl) h (fun vs hvs => ?_) (fun E hE => nomatch hE)
  cases hvs
  refine st_i2l hC dL_purse_8 ?_
  refine xs_lastO h81 C dL_purse_9 ?_
  refine st_goto (tg := 21) hC dL_purse_10 rfl ?_
  refine st_iconst hC dL_purse_21 rfl ?_
  exact xw_ireturn C dL_purse_22 (by decide) (by decide) ⟨rfl, rfl⟩
set_option maxRecDepth 20000 in
theorem w_purse_1 {σ σ1 : Sg} {x y : Int} (h : Ct 40 MX10_purse (rV 19 0 :: [iV x, iV y]) σ (.inr 1) σ1) : CtL yL_purse (wW yL_purse cL_purse 5 [(0, 10, 13, 18), (0, 10, 17, 13)]) [rV 19 0, iV x, iV y, rV 35 88] σ 1 (o80 σ σ1) := by
  refine mk_W (by decide +kernel) rfl (Nat.le_of_ble_eq_true rfl) ?_
  intro p l e s m args below meth c K A h81 C hgw hNC ht
  have hC := clo_L (Q := QfW below K ((o80 σ σ1)) (1) args s A) (cl := 0) (sl := 0) (d := 40) (R := rmW) (p := p) (e := e) (below := below) h81 C (by decide) (by decide) (by decide) (by decide)
  refine st_aload_n hC dL_purse_0 rfl (by decide) (by decide) ?_
  refine st_iconst hC dL_purse_1 rfl ?_
  refine st_aload_n hC dL_purse_2 rfl (by decide) (by decide) ?_
  refine st_iload_n hC dL_purse_3 rfl ?_
  refine st_iload_n hC dL_purse_4 rfl ?_
  refine xs_callVH (d := 40) (t := 19) (a := 0) (As := [iV x, iV y]) (S := [iV 0, rV 35 88]) h81 C dL_purse_5 (show look (CLt 12) 24 = some (MX10_purse, false, 2) from rfl) rfl (by decide) (by decide) (by decide) (Nat.le_of_ble_eq_true rfl) (Nat.le_of_ble_eq_true rfl) ⟨9, by decide, rfl, by decide +kernel⟩ (n9 rfl) (fun vs hvs => by cases hvs) h (fun vs hvs => nomatch hvs) (fun E hE hO1 hE1 hE4 hn1 hL1 hS1 H locs ls q ce hP hSS hl hce hcv hcl => ?_)
  cases hE
  refine xw_catch (E := 1) (pc2 := 15) (i := 4) (x := ⟨0, 10, 13, 18⟩) (pre := []) (suf := [⟨0, 10, 17, 13⟩]) C hgw hNC (by decide) (by decide) (ht.trans rfl) (fun z hz => nomatch hz) rfl (by decide) (Or.inl ⟨dL_purse_13, rfl⟩) (Nat.le_of_ble_eq_true rfl) hO1 hn1 hL1 ?_ hP hSS hl hce hcv hcl
  refine xs_iconst C dL_purse_15 ?_
  exact xw_ireturn C dL_purse_16 (by decide) (by decide) ⟨by decide, rfl⟩
set_option maxRecDepth 20000 in
theorem w_purse_2 {σ σ1 : Sg} {x y : Int} (h : Ct 40 MX10_purse (rV 19 0 :: [iV x, iV y]) σ (.inr 2) σ1) : CtL yL_purse (wW yL_purse cL_purse 5 [(0, 10, 13, 18), (0, 10, 17, 13)]) [rV 19 0, iV x, iV y, rV 35 88] σ 2 (o80 σ σ1) := by
  refine mk_W (by decide +kernel) rfl (Nat.le_of_ble_eq_true rfl) ?_
  intro p l e s m args below meth c K A h81 C hgw hNC ht
  have hC := clo_L (Q := QfW below K ((o80 σ σ1)) (2) args s A) (cl := 0) (sl := 0) (d := 40) (R := rmW) (p := p) (e := e) (below := below) h81 C (by decide) (by decide) (by decide) (by decide)
  refine st_aload_n hC dL_purse_0 rfl (by decide) (by decide) ?_
  refine st_iconst hC dL_purse_1 rfl ?_
  refine st_aload_n hC dL_purse_2 rfl (by decide) (by decide) ?_
  refine st_iload_n hC dL_purse_3 rfl ?_
  refine st_iload_n hC dL_purse_4 rfl ?_
  refine xs_callVH (d := 40) (t := 19) (a := 0) (As := [iV x, iV y]) (S := [iV 0, rV 35 88]) h81 C dL_purse_5 (show look (CLt 12) 24 = some (MX10_purse, false, 2) from rfl) rfl (by decide) (by decide) (by decide) (Nat.le_of_ble_eq_true rfl) (Nat.le_of_ble_eq_true rfl) ⟨9, by decide, rfl, by decide +kernel⟩ (n9 rfl) (fun vs hvs => by cases hvs) h (fun vs hvs => nomatch hvs) (fun E hE hO1 hE1 hE4 hn1 hL1 hS1 H locs ls q ce hP hSS hl hce hcv hcl => ?_)
  cases hE
  refine xw_catch (E := 2) (pc2 := 19) (i := 4) (x := ⟨0, 10, 17, 13⟩) (pre := [⟨0, 10, 13, 18⟩]) (suf := []) C hgw hNC (by decide) (by decide) (ht.trans rfl) (fun z hz => by cases hz with
    | head => exact ⟨1, by decide, by decide, by decide, rfl⟩
    | tail _ h9 => nomatch h9) rfl (by decide) (Or.inl ⟨dL_purse_17, rfl⟩) (Nat.le_of_ble_eq_true rfl) hO1 hn1 hL1 ?_ hP hSS hl hce hcv hcl
  refine xs_iconst C dL_purse_19 ?_
  exact xw_ireturn C dL_purse_20 (by decide) (by decide) ⟨by decide, rfl⟩
theorem w_purse_x {σ σ1 : Sg} {x y : Int} {E : Nat} (hE : cdNI E ≠ 0) (h : Ct 40 MX10_purse (rV 19 0 :: [iV x, iV y]) σ (.inr E) σ1) : CtL yL_purse (wW yL_purse cL_purse 5 [(0, 10, 13, 18), (0, 10, 17, 13)]) [rV 19 0, iV x, iV y, rV 35 88] σ (cdNI E) (o80 σ σ1) := by
  by_cases e1 : E = 1
  · subst e1; exact w_purse_1 h
  by_cases e2 : E = 2
  · subst e2; exact w_purse_2 h
  exact absurd (show cdNI E = 0 by unfold cdNI; rw [if_neg e1, if_neg e2]) hE
set_option maxRecDepth 20000 in
theorem w_worth {σ σ1 : Sg} {x : Int} {v : Int} (h : Ct 40 MX10_worth (rV 19 0 :: [iV x]) σ (.inl [lV v]) σ1) : CtL yL_worth (wW yL_worth cL_worth 4 [(0, 8, 11, 18)]) [rV 19 0, iV x, rV 35 88] σ 0 (upS (o80 σ σ1) 88 0 v) := by
  refine mk_W (by decide +kernel) rfl (Nat.le_of_ble_eq_true rfl) ?_
  intro p l e s m args below meth c K A h81 C hgw hNC ht
  have hC := clo_L (Q := QfW below K ((upS (o80 σ σ1) 88 0 v)) (0) args s A) (cl := 0) (sl := 0) (d := 40) (R := rmW) (p := p) (e := e) (below := below) h81 C (by decide) (by decide) (by decide) (by decide)
  refine st_aload_n hC dL_worth_0 rfl (by decide) (by decide) ?_
  refine st_iconst hC dL_worth_1 rfl ?_
  refine st_aload_n hC dL_worth_2 rfl (by decide) (by decide) ?_
  refine st_iload_n hC dL_worth_3 rfl ?_
  refine xs_callVH (d := 40) (t := 19) (a := 0) (As := [iV x]) (S := [iV 0, rV 35 88]) h81 C dL_worth_4 (show look (CLt 12) 27 = some (MX10_worth, false, 1) from rfl) rfl (by decide) (by decide) (by decide) (Nat.le_of_ble_eq_true rfl) (Nat.le_of_ble_eq_true rfl) ⟨9, by decide, rfl, by decide +kernel⟩ (n9 rfl) (fun vs hvs => by cases hvs; exact n9 rfl) h (fun vs hvs => ?_) (fun E hE => nomatch hE)
  cases hvs
  refine xs_lastO h81 C dL_worth_7 ?_
  refine st_goto (tg := 14) hC dL_worth_8 rfl ?_
  refine st_iconst hC dL_worth_14 rfl ?_
  exact xw_ireturn C dL_worth_15 (by decide) (by decide) ⟨rfl, rfl⟩
set_option maxRecDepth 20000 in
theorem w_worth_1 {σ σ1 : Sg} {x : Int} (h : Ct 40 MX10_worth (rV 19 0 :: [iV x]) σ (.inr 1) σ1) : CtL yL_worth (wW yL_worth cL_worth 4 [(0, 8, 11, 18)]) [rV 19 0, iV x, rV 35 88] σ 1 (o80 σ σ1) := by
  refine mk_W (by decide +kernel) rfl (Nat.le_of_ble_eq_true rfl) ?_
  intro p l e s m args below meth c K A h81 C hgw hNC ht
  have hC := clo_L (Q := QfW below K ((o80 σ σ1)) (1) args s A) (cl := 0) (sl := 0) (d := 40) (R := rmW) (p := p) (e := e) (below := below) h81 C (by decide) (by decide) (by decide) (by decide)
  refine st_aload_n hC dL_worth_0 rfl (by decide) (by decide) ?_
  refine st_iconst hC dL_worth_1 rfl ?_
  refine st_aload_n hC dL_worth_2 rfl (by decide) (by decide) ?_
  refine st_iload_n hC dL_worth_3 rfl ?_
  refine xs_callVH (d := 40) (t := 19) (a := 0) (As := [iV x]) (S := [iV 0, rV 35 88]) h81 C dL_worth_4 (show look (CLt 12) 27 = some (MX10_worth, false, 1) from rfl) rfl (by decide) (by decide) (by decide) (Nat.le_of_ble_eq_true rfl) (Nat.le_of_ble_eq_true rfl) ⟨9, by decide, rfl, by decide +kernel⟩ (n9 rfl) (fun vs hvs => by cases hvs) h (fun vs hvs => nomatch hvs) (fun E hE hO1 hE1 hE4 hn1 hL1 hS1 H locs ls q ce hP hSS hl hce hcv hcl => ?_)
  cases hE
  refine xw_catch (E := 1) (pc2 := 12) (i := 3) (x := ⟨0, 8, 11, 18⟩) (pre := []) (suf := []) C hgw hNC (by decide) (by decide) (ht.trans rfl) (fun z hz => nomatch hz) rfl (by decide) (Or.inr ⟨3, rfl, dL_worth_11, rfl⟩) (Nat.le_of_ble_eq_true rfl) hO1 hn1 hL1 ?_ hP hSS hl hce hcv hcl
  refine xs_iconst C dL_worth_12 ?_
  exact xw_ireturn C dL_worth_13 (by decide) (by decide) ⟨by decide, rfl⟩
theorem w_worth_x {σ σ1 : Sg} {x : Int} {E : Nat} (hE : cdN E ≠ 0) (h : Ct 40 MX10_worth (rV 19 0 :: [iV x]) σ (.inr E) σ1) : CtL yL_worth (wW yL_worth cL_worth 4 [(0, 8, 11, 18)]) [rV 19 0, iV x, rV 35 88] σ (cdN E) (o80 σ σ1) := by
  by_cases e1 : E = 1
  · subst e1; exact w_worth_1 h
  exact absurd (show cdN E = 0 by unfold cdN; rw [if_neg e1]) hE
set_option maxRecDepth 20000 in
theorem w_change {σ σ1 : Sg} {x y : Int} {v : Int} (h : Ct 40 MX10_change (rV 19 0 :: [iV x, iV y]) σ (.inl [iV v]) σ1) : CtL yL_change (wW yL_change cL_change 5 [(0, 10, 13, 18), (0, 10, 17, 13)]) [rV 19 0, iV x, iV y, rV 35 88] σ 0 (upS (o80 σ σ1) 88 0 v) := by
  refine mk_W (by decide +kernel) rfl (Nat.le_of_ble_eq_true rfl) ?_
  intro p l e s m args below meth c K A h81 C hgw hNC ht
  have hC := clo_L (Q := QfW below K ((upS (o80 σ σ1) 88 0 v)) (0) args s A) (cl := 0) (sl := 0) (d := 40) (R := rmW) (p := p) (e := e) (below := below) h81 C (by decide) (by decide) (by decide) (by decide)
  refine st_aload_n hC dL_change_0 rfl (by decide) (by decide) ?_
  refine st_iconst hC dL_change_1 rfl ?_
  refine st_aload_n hC dL_change_2 rfl (by decide) (by decide) ?_
  refine st_iload_n hC dL_change_3 rfl ?_
  refine st_iload_n hC dL_change_4 rfl ?_
  refine xs_callVH (d := 40) (t := 19) (a := 0) (As := [iV x, iV y]) (S := [iV 0, rV 35 88]) h81 C dL_change_5 (show look (CLt 12) 31 = some (MX10_change, false, 2) from rfl) rfl (by decide) (by decide) (by decide) (Nat.le_of_ble_eq_true rfl) (Nat.le_of_ble_eq_true rfl) ⟨9, by decide, rfl, by decide +kernel⟩ (n9 rfl) (fun vs hvs => by cases hvs; exact n9 rfl) h (fun vs hvs => ?_) (fun E hE => nomatch hE)
  cases hvs
  refine st_i2l hC dL_change_8 ?_
  refine xs_lastO h81 C dL_change_9 ?_
  refine st_goto (tg := 21) hC dL_change_10 rfl ?_
  refine st_iconst hC dL_change_21 rfl ?_
  exact xw_ireturn C dL_change_22 (by decide) (by decide) ⟨rfl, rfl⟩
set_option maxRecDepth 20000 in
theorem w_change_1 {σ σ1 : Sg} {x y : Int} (h : Ct 40 MX10_change (rV 19 0 :: [iV x, iV y]) σ (.inr 1) σ1) : CtL yL_change (wW yL_change cL_change 5 [(0, 10, 13, 18), (0, 10, 17, 13)]) [rV 19 0, iV x, iV y, rV 35 88] σ 1 (o80 σ σ1) := by
  refine mk_W (by decide +kernel) rfl (Nat.le_of_ble_eq_true rfl) ?_
  intro p l e s m args below meth c K A h81 C hgw hNC ht
  have hC := clo_L (Q := QfW below K ((o80 σ σ1)) (1) args s A) (cl := 0) (sl := 0) (d := 40) (R := rmW) (p := p) (e := e) (below := below) h81 C (by decide) (by decide) (by decide) (by decide)
  refine st_aload_n hC dL_change_0 rfl (by decide) (by decide) ?_
  refine st_iconst hC dL_change_1 rfl ?_
  refine st_aload_n hC dL_change_2 rfl (by decide) (by decide) ?_
  refine st_iload_n hC dL_change_3 rfl ?_
  refine st_iload_n hC dL_change_4 rfl ?_
  refine xs_callVH (d := 40) (t := 19) (a := 0) (As := [iV x, iV y]) (S := [iV 0, rV 35 88]) h81 C dL_change_5 (show look (CLt 12) 31 = some (MX10_change, false, 2) from rfl) rfl (by decide) (by decide) (by decide) (Nat.le_of_ble_eq_true rfl) (Nat.le_of_ble_eq_true rfl) ⟨9, by decide, rfl, by decide +kernel⟩ (n9 rfl) (fun vs hvs => by cases hvs) h (fun vs hvs => nomatch hvs) (fun E hE hO1 hE1 hE4 hn1 hL1 hS1 H locs ls q ce hP hSS hl hce hcv hcl => ?_)
  cases hE
  refine xw_catch (E := 1) (pc2 := 15) (i := 4) (x := ⟨0, 10, 13, 18⟩) (pre := []) (suf := [⟨0, 10, 17, 13⟩]) C hgw hNC (by decide) (by decide) (ht.trans rfl) (fun z hz => nomatch hz) rfl (by decide) (Or.inl ⟨dL_change_13, rfl⟩) (Nat.le_of_ble_eq_true rfl) hO1 hn1 hL1 ?_ hP hSS hl hce hcv hcl
  refine xs_iconst C dL_change_15 ?_
  exact xw_ireturn C dL_change_16 (by decide) (by decide) ⟨by decide, rfl⟩
set_option maxRecDepth 20000 in
theorem w_change_2 {σ σ1 : Sg} {x y : Int} (h : Ct 40 MX10_change (rV 19 0 :: [iV x, iV y]) σ (.inr 2) σ1) : CtL yL_change (wW yL_change cL_change 5 [(0, 10, 13, 18), (0, 10, 17, 13)]) [rV 19 0, iV x, iV y, rV 35 88] σ 2 (o80 σ σ1) := by
  refine mk_W (by decide +kernel) rfl (Nat.le_of_ble_eq_true rfl) ?_
  intro p l e s m args below meth c K A h81 C hgw hNC ht
  have hC := clo_L (Q := QfW below K ((o80 σ σ1)) (2) args s A) (cl := 0) (sl := 0) (d := 40) (R := rmW) (p := p) (e := e) (below := below) h81 C (by decide) (by decide) (by decide) (by decide)
  refine st_aload_n hC dL_change_0 rfl (by decide) (by decide) ?_
  refine st_iconst hC dL_change_1 rfl ?_
  refine st_aload_n hC dL_change_2 rfl (by decide) (by decide) ?_
  refine st_iload_n hC dL_change_3 rfl ?_
  refine st_iload_n hC dL_change_4 rfl ?_
  refine xs_callVH (d := 40) (t := 19) (a := 0) (As := [iV x, iV y]) (S := [iV 0, rV 35 88]) h81 C dL_change_5 (show look (CLt 12) 31 = some (MX10_change, false, 2) from rfl) rfl (by decide) (by decide) (by decide) (Nat.le_of_ble_eq_true rfl) (Nat.le_of_ble_eq_true rfl) ⟨9, by decide, rfl, by decide +kernel⟩ (n9 rfl) (fun vs hvs => by cases hvs) h (fun vs hvs => nomatch hvs) (fun E hE hO1 hE1 hE4 hn1 hL1 hS1 H locs ls q ce hP hSS hl hce hcv hcl => ?_)
  cases hE
  refine xw_catch (E := 2) (pc2 := 19) (i := 4) (x := ⟨0, 10, 17, 13⟩) (pre := [⟨0, 10, 13, 18⟩]) (suf := []) C hgw hNC (by decide) (by decide) (ht.trans rfl) (fun z hz => by cases hz with
    | head => exact ⟨1, by decide, by decide, by decide, rfl⟩
    | tail _ h9 => nomatch h9) rfl (by decide) (Or.inl ⟨dL_change_17, rfl⟩) (Nat.le_of_ble_eq_true rfl) hO1 hn1 hL1 ?_ hP hSS hl hce hcv hcl
  refine xs_iconst C dL_change_19 ?_
  exact xw_ireturn C dL_change_20 (by decide) (by decide) ⟨by decide, rfl⟩
theorem w_change_x {σ σ1 : Sg} {x y : Int} {E : Nat} (hE : cdNI E ≠ 0) (h : Ct 40 MX10_change (rV 19 0 :: [iV x, iV y]) σ (.inr E) σ1) : CtL yL_change (wW yL_change cL_change 5 [(0, 10, 13, 18), (0, 10, 17, 13)]) [rV 19 0, iV x, iV y, rV 35 88] σ (cdNI E) (o80 σ σ1) := by
  by_cases e1 : E = 1
  · subst e1; exact w_change_1 h
  by_cases e2 : E = 2
  · subst e2; exact w_change_2 h
  exact absurd (show cdNI E = 0 by unfold cdNI; rw [if_neg e1, if_neg e2]) hE
set_option maxRecDepth 20000 in
theorem w_may {σ σ1 : Sg} {x y z : Int} {v : Int} (h : Ct 40 MX10_may (rV 19 0 :: [iV x, iV y, lV z]) σ (.inl [iV v]) σ1) : CtL yL_may (wW yL_may cL_may 7 [(0, 12, 15, 18), (0, 12, 19, 13)]) [rV 19 0, iV x, iV y, lV z, rV 35 88] σ 0 (upS (o80 σ σ1) 88 0 v) := by
  refine mk_W (by decide +kernel) rfl (Nat.le_of_ble_eq_true rfl) ?_
  intro p l e s m args below meth c K A h81 C hgw hNC ht
  have hC := clo_L (Q := QfW below K ((upS (o80 σ σ1) 88 0 v)) (0) args s A) (cl := 0) (sl := 0) (d := 40) (R := rmW) (p := p) (e := e) (below := below) h81 C (by decide) (by decide) (by decide) (by decide)
  refine st_aload hC dL_may_0 rfl (by decide) (by decide) ?_
  refine st_iconst hC dL_may_2 rfl ?_
  refine st_aload_n hC dL_may_3 rfl (by decide) (by decide) ?_
  refine st_iload_n hC dL_may_4 rfl ?_
  refine st_iload_n hC dL_may_5 rfl ?_
  refine st_lload_n hC dL_may_6 rfl ?_
  refine xs_callVH (d := 40) (t := 19) (a := 0) (As := [iV x, iV y, lV z]) (S := [iV 0, rV 35 88]) h81 C dL_may_7 (show look (CLt 12) 34 = some (MX10_may, false, 3) from rfl) rfl (by decide) (by decide) (by decide) (Nat.le_of_ble_eq_true rfl) (Nat.le_of_ble_eq_true rfl) ⟨9, by decide, rfl, by decide +kernel⟩ (n9 rfl) (fun vs hvs => by cases hvs; exact n9 rfl) h (fun vs hvs => ?_) (fun E hE => nomatch hE)
  cases hvs
  refine st_i2l hC dL_may_10 ?_
  refine xs_lastO h81 C dL_may_11 ?_
  refine st_goto (tg := 23) hC dL_may_12 rfl ?_
  refine st_iconst hC dL_may_23 rfl ?_
  exact xw_ireturn C dL_may_24 (by decide) (by decide) ⟨rfl, rfl⟩
set_option maxRecDepth 20000 in
theorem w_may_1 {σ σ1 : Sg} {x y z : Int} (h : Ct 40 MX10_may (rV 19 0 :: [iV x, iV y, lV z]) σ (.inr 1) σ1) : CtL yL_may (wW yL_may cL_may 7 [(0, 12, 15, 18), (0, 12, 19, 13)]) [rV 19 0, iV x, iV y, lV z, rV 35 88] σ 1 (o80 σ σ1) := by
  refine mk_W (by decide +kernel) rfl (Nat.le_of_ble_eq_true rfl) ?_
  intro p l e s m args below meth c K A h81 C hgw hNC ht
  have hC := clo_L (Q := QfW below K ((o80 σ σ1)) (1) args s A) (cl := 0) (sl := 0) (d := 40) (R := rmW) (p := p) (e := e) (below := below) h81 C (by decide) (by decide) (by decide) (by decide)
  refine st_aload hC dL_may_0 rfl (by decide) (by decide) ?_
  refine st_iconst hC dL_may_2 rfl ?_
  refine st_aload_n hC dL_may_3 rfl (by decide) (by decide) ?_
  refine st_iload_n hC dL_may_4 rfl ?_
  refine st_iload_n hC dL_may_5 rfl ?_
  refine st_lload_n hC dL_may_6 rfl ?_
  refine xs_callVH (d := 40) (t := 19) (a := 0) (As := [iV x, iV y, lV z]) (S := [iV 0, rV 35 88]) h81 C dL_may_7 (show look (CLt 12) 34 = some (MX10_may, false, 3) from rfl) rfl (by decide) (by decide) (by decide) (Nat.le_of_ble_eq_true rfl) (Nat.le_of_ble_eq_true rfl) ⟨9, by decide, rfl, by decide +kernel⟩ (n9 rfl) (fun vs hvs => by cases hvs) h (fun vs hvs => nomatch hvs) (fun E hE hO1 hE1 hE4 hn1 hL1 hS1 H locs ls q ce hP hSS hl hce hcv hcl => ?_)
  cases hE
  refine xw_catch (E := 1) (pc2 := 17) (i := 6) (x := ⟨0, 12, 15, 18⟩) (pre := []) (suf := [⟨0, 12, 19, 13⟩]) C hgw hNC (by decide) (by decide) (ht.trans rfl) (fun z hz => nomatch hz) rfl (by decide) (Or.inl ⟨dL_may_15, rfl⟩) (Nat.le_of_ble_eq_true rfl) hO1 hn1 hL1 ?_ hP hSS hl hce hcv hcl
  refine xs_iconst C dL_may_17 ?_
  exact xw_ireturn C dL_may_18 (by decide) (by decide) ⟨by decide, rfl⟩
set_option maxRecDepth 20000 in
theorem w_may_2 {σ σ1 : Sg} {x y z : Int} (h : Ct 40 MX10_may (rV 19 0 :: [iV x, iV y, lV z]) σ (.inr 2) σ1) : CtL yL_may (wW yL_may cL_may 7 [(0, 12, 15, 18), (0, 12, 19, 13)]) [rV 19 0, iV x, iV y, lV z, rV 35 88] σ 2 (o80 σ σ1) := by
  refine mk_W (by decide +kernel) rfl (Nat.le_of_ble_eq_true rfl) ?_
  intro p l e s m args below meth c K A h81 C hgw hNC ht
  have hC := clo_L (Q := QfW below K ((o80 σ σ1)) (2) args s A) (cl := 0) (sl := 0) (d := 40) (R := rmW) (p := p) (e := e) (below := below) h81 C (by decide) (by decide) (by decide) (by decide)
  refine st_aload hC dL_may_0 rfl (by decide) (by decide) ?_
  refine st_iconst hC dL_may_2 rfl ?_
  refine st_aload_n hC dL_may_3 rfl (by decide) (by decide) ?_
  refine st_iload_n hC dL_may_4 rfl ?_
  refine st_iload_n hC dL_may_5 rfl ?_
  refine st_lload_n hC dL_may_6 rfl ?_
  refine xs_callVH (d := 40) (t := 19) (a := 0) (As := [iV x, iV y, lV z]) (S := [iV 0, rV 35 88]) h81 C dL_may_7 (show look (CLt 12) 34 = some (MX10_may, false, 3) from rfl) rfl (by decide) (by decide) (by decide) (Nat.le_of_ble_eq_true rfl) (Nat.le_of_ble_eq_true rfl) ⟨9, by decide, rfl, by decide +kernel⟩ (n9 rfl) (fun vs hvs => by cases hvs) h (fun vs hvs => nomatch hvs) (fun E hE hO1 hE1 hE4 hn1 hL1 hS1 H locs ls q ce hP hSS hl hce hcv hcl => ?_)
  cases hE
  refine xw_catch (E := 2) (pc2 := 21) (i := 6) (x := ⟨0, 12, 19, 13⟩) (pre := [⟨0, 12, 15, 18⟩]) (suf := []) C hgw hNC (by decide) (by decide) (ht.trans rfl) (fun z hz => by cases hz with
    | head => exact ⟨1, by decide, by decide, by decide, rfl⟩
    | tail _ h9 => nomatch h9) rfl (by decide) (Or.inl ⟨dL_may_19, rfl⟩) (Nat.le_of_ble_eq_true rfl) hO1 hn1 hL1 ?_ hP hSS hl hce hcv hcl
  refine xs_iconst C dL_may_21 ?_
  exact xw_ireturn C dL_may_22 (by decide) (by decide) ⟨by decide, rfl⟩
theorem w_may_x {σ σ1 : Sg} {x y z : Int} {E : Nat} (hE : cdNI E ≠ 0) (h : Ct 40 MX10_may (rV 19 0 :: [iV x, iV y, lV z]) σ (.inr E) σ1) : CtL yL_may (wW yL_may cL_may 7 [(0, 12, 15, 18), (0, 12, 19, 13)]) [rV 19 0, iV x, iV y, lV z, rV 35 88] σ (cdNI E) (o80 σ σ1) := by
  by_cases e1 : E = 1
  · subst e1; exact w_may_1 h
  by_cases e2 : E = 2
  · subst e2; exact w_may_2 h
  exact absurd (show cdNI E = 0 by unfold cdNI; rw [if_neg e1, if_neg e2]) hE
set_option maxRecDepth 20000 in
theorem w_pay {σ σ1 : Sg} {x y z : Int} {v : Int} (h : Ct 40 MX10_pay (rV 19 0 :: [iV x, iV y, lV z]) σ (.inl [iV v]) σ1) : CtL yL_pay (wW yL_pay cL_pay 7 [(0, 12, 15, 18), (0, 12, 19, 13)]) [rV 19 0, iV x, iV y, lV z, rV 35 88] σ 0 (upS (o80 σ σ1) 88 0 v) := by
  refine mk_W (by decide +kernel) rfl (Nat.le_of_ble_eq_true rfl) ?_
  intro p l e s m args below meth c K A h81 C hgw hNC ht
  have hC := clo_L (Q := QfW below K ((upS (o80 σ σ1) 88 0 v)) (0) args s A) (cl := 0) (sl := 0) (d := 40) (R := rmW) (p := p) (e := e) (below := below) h81 C (by decide) (by decide) (by decide) (by decide)
  refine st_aload hC dL_pay_0 rfl (by decide) (by decide) ?_
  refine st_iconst hC dL_pay_2 rfl ?_
  refine st_aload_n hC dL_pay_3 rfl (by decide) (by decide) ?_
  refine st_iload_n hC dL_pay_4 rfl ?_
  refine st_iload_n hC dL_pay_5 rfl ?_
  refine st_lload_n hC dL_pay_6 rfl ?_
  refine xs_callVH (d := 40) (t := 19) (a := 0) (As := [iV x, iV y, lV z]) (S := [iV 0, rV 35 88]) h81 C dL_pay_7 (show look (CLt 12) 38 = some (MX10_pay, false, 3) from rfl) rfl (by decide) (by decide) (by decide) (Nat.le_of_ble_eq_true rfl) (Nat.le_of_ble_eq_true rfl) ⟨9, by decide, rfl, by decide +kernel⟩ (n9 rfl) (fun vs hvs => by cases hvs; exact n9 rfl) h (fun vs hvs => ?_) (fun E hE => nomatch hE)
  cases hvs
  refine st_i2l hC dL_pay_10 ?_
  refine xs_lastO h81 C dL_pay_11 ?_
  refine st_goto (tg := 23) hC dL_pay_12 rfl ?_
  refine st_iconst hC dL_pay_23 rfl ?_
  exact xw_ireturn C dL_pay_24 (by decide) (by decide) ⟨rfl, rfl⟩
set_option maxRecDepth 20000 in
theorem w_pay_1 {σ σ1 : Sg} {x y z : Int} (h : Ct 40 MX10_pay (rV 19 0 :: [iV x, iV y, lV z]) σ (.inr 1) σ1) : CtL yL_pay (wW yL_pay cL_pay 7 [(0, 12, 15, 18), (0, 12, 19, 13)]) [rV 19 0, iV x, iV y, lV z, rV 35 88] σ 1 (o80 σ σ1) := by
  refine mk_W (by decide +kernel) rfl (Nat.le_of_ble_eq_true rfl) ?_
  intro p l e s m args below meth c K A h81 C hgw hNC ht
  have hC := clo_L (Q := QfW below K ((o80 σ σ1)) (1) args s A) (cl := 0) (sl := 0) (d := 40) (R := rmW) (p := p) (e := e) (below := below) h81 C (by decide) (by decide) (by decide) (by decide)
  refine st_aload hC dL_pay_0 rfl (by decide) (by decide) ?_
  refine st_iconst hC dL_pay_2 rfl ?_
  refine st_aload_n hC dL_pay_3 rfl (by decide) (by decide) ?_
  refine st_iload_n hC dL_pay_4 rfl ?_
  refine st_iload_n hC dL_pay_5 rfl ?_
  refine st_lload_n hC dL_pay_6 rfl ?_
  refine xs_callVH (d := 40) (t := 19) (a := 0) (As := [iV x, iV y, lV z]) (S := [iV 0, rV 35 88]) h81 C dL_pay_7 (show look (CLt 12) 38 = some (MX10_pay, false, 3) from rfl) rfl (by decide) (by decide) (by decide) (Nat.le_of_ble_eq_true rfl) (Nat.le_of_ble_eq_true rfl) ⟨9, by decide, rfl, by decide +kernel⟩ (n9 rfl) (fun vs hvs => by cases hvs) h (fun vs hvs => nomatch hvs) (fun E hE hO1 hE1 hE4 hn1 hL1 hS1 H locs ls q ce hP hSS hl hce hcv hcl => ?_)
  cases hE
  refine xw_catch (E := 1) (pc2 := 17) (i := 6) (x := ⟨0, 12, 15, 18⟩) (pre := []) (suf := [⟨0, 12, 19, 13⟩]) C hgw hNC (by decide) (by decide) (ht.trans rfl) (fun z hz => nomatch hz) rfl (by decide) (Or.inl ⟨dL_pay_15, rfl⟩) (Nat.le_of_ble_eq_true rfl) hO1 hn1 hL1 ?_ hP hSS hl hce hcv hcl
  refine xs_iconst C dL_pay_17 ?_
  exact xw_ireturn C dL_pay_18 (by decide) (by decide) ⟨by decide, rfl⟩
set_option maxRecDepth 20000 in
theorem w_pay_2 {σ σ1 : Sg} {x y z : Int} (h : Ct 40 MX10_pay (rV 19 0 :: [iV x, iV y, lV z]) σ (.inr 2) σ1) : CtL yL_pay (wW yL_pay cL_pay 7 [(0, 12, 15, 18), (0, 12, 19, 13)]) [rV 19 0, iV x, iV y, lV z, rV 35 88] σ 2 (o80 σ σ1) := by
  refine mk_W (by decide +kernel) rfl (Nat.le_of_ble_eq_true rfl) ?_
  intro p l e s m args below meth c K A h81 C hgw hNC ht
  have hC := clo_L (Q := QfW below K ((o80 σ σ1)) (2) args s A) (cl := 0) (sl := 0) (d := 40) (R := rmW) (p := p) (e := e) (below := below) h81 C (by decide) (by decide) (by decide) (by decide)
  refine st_aload hC dL_pay_0 rfl (by decide) (by decide) ?_
  refine st_iconst hC dL_pay_2 rfl ?_
  refine st_aload_n hC dL_pay_3 rfl (by decide) (by decide) ?_
  refine st_iload_n hC dL_pay_4 rfl ?_
  refine st_iload_n hC dL_pay_5 rfl ?_
  refine st_lload_n hC dL_pay_6 rfl ?_
  refine xs_callVH (d := 40) (t := 19) (a := 0) (As := [iV x, iV y, lV z]) (S := [iV 0, rV 35 88]) h81 C dL_pay_7 (show look (CLt 12) 38 = some (MX10_pay, false, 3) from rfl) rfl (by decide) (by decide) (by decide) (Nat.le_of_ble_eq_true rfl) (Nat.le_of_ble_eq_true rfl) ⟨9, by decide, rfl, by decide +kernel⟩ (n9 rfl) (fun vs hvs => by cases hvs) h (fun vs hvs => nomatch hvs) (fun E hE hO1 hE1 hE4 hn1 hL1 hS1 H locs ls q ce hP hSS hl hce hcv hcl => ?_)
  cases hE
  refine xw_catch (E := 2) (pc2 := 21) (i := 6) (x := ⟨0, 12, 19, 13⟩) (pre := [⟨0, 12, 15, 18⟩]) (suf := []) C hgw hNC (by decide) (by decide) (ht.trans rfl) (fun z hz => by cases hz with
    | head => exact ⟨1, by decide, by decide, by decide, rfl⟩
    | tail _ h9 => nomatch h9) rfl (by decide) (Or.inl ⟨dL_pay_19, rfl⟩) (Nat.le_of_ble_eq_true rfl) hO1 hn1 hL1 ?_ hP hSS hl hce hcv hcl
  refine xs_iconst C dL_pay_21 ?_
  exact xw_ireturn C dL_pay_22 (by decide) (by decide) ⟨by decide, rfl⟩
theorem w_pay_x {σ σ1 : Sg} {x y z : Int} {E : Nat} (hE : cdNI E ≠ 0) (h : Ct 40 MX10_pay (rV 19 0 :: [iV x, iV y, lV z]) σ (.inr E) σ1) : CtL yL_pay (wW yL_pay cL_pay 7 [(0, 12, 15, 18), (0, 12, 19, 13)]) [rV 19 0, iV x, iV y, lV z, rV 35 88] σ (cdNI E) (o80 σ σ1) := by
  by_cases e1 : E = 1
  · subst e1; exact w_pay_1 h
  by_cases e2 : E = 2
  · subst e2; exact w_pay_2 h
  exact absurd (show cdNI E = 0 by unfold cdNI; rw [if_neg e1, if_neg e2]) hE
set_option maxRecDepth 20000 in
theorem w_changes {σ σ1 : Sg} {x y : Int} {v : Int} (h : Ct 40 MX10_changes (rV 19 0 :: [iV x, iV y]) σ (.inl [iV v]) σ1) : CtL yL_changes (wW yL_changes cL_changes 5 [(0, 10, 13, 18)]) [rV 19 0, iV x, iV y, rV 35 88] σ 0 (upS (o80 σ σ1) 88 0 v) := by
  refine mk_W (by decide +kernel) rfl (Nat.le_of_ble_eq_true rfl) ?_
  intro p l e s m args below meth c K A h81 C hgw hNC ht
  have hC := clo_L (Q := QfW below K ((upS (o80 σ σ1) 88 0 v)) (0) args s A) (cl := 0) (sl := 0) (d := 40) (R := rmW) (p := p) (e := e) (below := below) h81 C (by decide) (by decide) (by decide) (by decide)
  refine st_aload_n hC dL_changes_0 rfl (by decide) (by decide) ?_
  refine st_iconst hC dL_changes_1 rfl ?_
  refine st_aload_n hC dL_changes_2 rfl (by decide) (by decide) ?_
  refine st_iload_n hC dL_changes_3 rfl ?_
  refine st_iload_n hC dL_changes_4 rfl ?_
  refine xs_callVH (d := 40) (t := 19) (a := 0) (As := [iV x, iV y]) (S := [iV 0, rV 35 88]) h81 C dL_changes_5 (show look (CLt 12) 41 = some (MX10_changes, false, 2) from rfl) rfl (by decide) (by decide) (by decide) (Nat.le_of_ble_eq_true rfl) (Nat.le_of_ble_eq_true rfl) ⟨9, by decide, rfl, by decide +kernel⟩ (n9 rfl) (fun vs hvs => by cases hvs; exact n9 rfl) h (fun vs hvs => ?_) (fun E hE => nomatch hE)
  cases hvs
  refine st_i2l hC dL_changes_8 ?_
  refine xs_lastO h81 C dL_changes_9 ?_
  refine st_goto (tg := 17) hC dL_changes_10 rfl ?_
  refine st_iconst hC dL_changes_17 rfl ?_
  exact xw_ireturn C dL_changes_18 (by decide) (by decide) ⟨rfl, rfl⟩
set_option maxRecDepth 20000 in
theorem w_changes_1 {σ σ1 : Sg} {x y : Int} (h : Ct 40 MX10_changes (rV 19 0 :: [iV x, iV y]) σ (.inr 1) σ1) : CtL yL_changes (wW yL_changes cL_changes 5 [(0, 10, 13, 18)]) [rV 19 0, iV x, iV y, rV 35 88] σ 1 (o80 σ σ1) := by
  refine mk_W (by decide +kernel) rfl (Nat.le_of_ble_eq_true rfl) ?_
  intro p l e s m args below meth c K A h81 C hgw hNC ht
  have hC := clo_L (Q := QfW below K ((o80 σ σ1)) (1) args s A) (cl := 0) (sl := 0) (d := 40) (R := rmW) (p := p) (e := e) (below := below) h81 C (by decide) (by decide) (by decide) (by decide)
  refine st_aload_n hC dL_changes_0 rfl (by decide) (by decide) ?_
  refine st_iconst hC dL_changes_1 rfl ?_
  refine st_aload_n hC dL_changes_2 rfl (by decide) (by decide) ?_
  refine st_iload_n hC dL_changes_3 rfl ?_
  refine st_iload_n hC dL_changes_4 rfl ?_
  refine xs_callVH (d := 40) (t := 19) (a := 0) (As := [iV x, iV y]) (S := [iV 0, rV 35 88]) h81 C dL_changes_5 (show look (CLt 12) 41 = some (MX10_changes, false, 2) from rfl) rfl (by decide) (by decide) (by decide) (Nat.le_of_ble_eq_true rfl) (Nat.le_of_ble_eq_true rfl) ⟨9, by decide, rfl, by decide +kernel⟩ (n9 rfl) (fun vs hvs => by cases hvs) h (fun vs hvs => nomatch hvs) (fun E hE hO1 hE1 hE4 hn1 hL1 hS1 H locs ls q ce hP hSS hl hce hcv hcl => ?_)
  cases hE
  refine xw_catch (E := 1) (pc2 := 15) (i := 4) (x := ⟨0, 10, 13, 18⟩) (pre := []) (suf := []) C hgw hNC (by decide) (by decide) (ht.trans rfl) (fun z hz => nomatch hz) rfl (by decide) (Or.inl ⟨dL_changes_13, rfl⟩) (Nat.le_of_ble_eq_true rfl) hO1 hn1 hL1 ?_ hP hSS hl hce hcv hcl
  refine xs_iconst C dL_changes_15 ?_
  exact xw_ireturn C dL_changes_16 (by decide) (by decide) ⟨by decide, rfl⟩
theorem w_changes_x {σ σ1 : Sg} {x y : Int} {E : Nat} (hE : cdN E ≠ 0) (h : Ct 40 MX10_changes (rV 19 0 :: [iV x, iV y]) σ (.inr E) σ1) : CtL yL_changes (wW yL_changes cL_changes 5 [(0, 10, 13, 18)]) [rV 19 0, iV x, iV y, rV 35 88] σ (cdN E) (o80 σ σ1) := by
  by_cases e1 : E = 1
  · subst e1; exact w_changes_1 h
  exact absurd (show cdN E = 0 by unfold cdN; rw [if_neg e1]) hE
set_option maxRecDepth 20000 in
theorem w_tax {σ σ1 : Sg} {x : Int} {v : Int} (h : Ct 40 MX10_tax (rV 19 0 :: [iV x]) σ (.inl [iV v]) σ1) : CtL yL_tax (wW yL_tax cL_tax 4 [(0, 9, 12, 18)]) [rV 19 0, iV x, rV 35 88] σ 0 (upS (o80 σ σ1) 88 0 v) := by
  refine mk_W (by decide +kernel) rfl (Nat.le_of_ble_eq_true rfl) ?_
  intro p l e s m args below meth c K A h81 C hgw hNC ht
  have hC := clo_L (Q := QfW below K ((upS (o80 σ σ1) 88 0 v)) (0) args s A) (cl := 0) (sl := 0) (d := 40) (R := rmW) (p := p) (e := e) (below := below) h81 C (by decide) (by decide) (by decide) (by decide)
  refine st_aload_n hC dL_tax_0 rfl (by decide) (by decide) ?_
  refine st_iconst hC dL_tax_1 rfl ?_
  refine st_aload_n hC dL_tax_2 rfl (by decide) (by decide) ?_
  refine st_iload_n hC dL_tax_3 rfl ?_
  refine xs_callVH (d := 40) (t := 19) (a := 0) (As := [iV x]) (S := [iV 0, rV 35 88]) h81 C dL_tax_4 (show look (CLt 12) 44 = some (MX10_tax, false, 1) from rfl) rfl (by decide) (by decide) (by decide) (Nat.le_of_ble_eq_true rfl) (Nat.le_of_ble_eq_true rfl) ⟨9, by decide, rfl, by decide +kernel⟩ (n9 rfl) (fun vs hvs => by cases hvs; exact n9 rfl) h (fun vs hvs => ?_) (fun E hE => nomatch hE)
  cases hvs
  refine st_i2l hC dL_tax_7 ?_
  refine xs_lastO h81 C dL_tax_8 ?_
  refine st_goto (tg := 15) hC dL_tax_9 rfl ?_
  refine st_iconst hC dL_tax_15 rfl ?_
  exact xw_ireturn C dL_tax_16 (by decide) (by decide) ⟨rfl, rfl⟩
set_option maxRecDepth 20000 in
theorem w_tax_1 {σ σ1 : Sg} {x : Int} (h : Ct 40 MX10_tax (rV 19 0 :: [iV x]) σ (.inr 1) σ1) : CtL yL_tax (wW yL_tax cL_tax 4 [(0, 9, 12, 18)]) [rV 19 0, iV x, rV 35 88] σ 1 (o80 σ σ1) := by
  refine mk_W (by decide +kernel) rfl (Nat.le_of_ble_eq_true rfl) ?_
  intro p l e s m args below meth c K A h81 C hgw hNC ht
  have hC := clo_L (Q := QfW below K ((o80 σ σ1)) (1) args s A) (cl := 0) (sl := 0) (d := 40) (R := rmW) (p := p) (e := e) (below := below) h81 C (by decide) (by decide) (by decide) (by decide)
  refine st_aload_n hC dL_tax_0 rfl (by decide) (by decide) ?_
  refine st_iconst hC dL_tax_1 rfl ?_
  refine st_aload_n hC dL_tax_2 rfl (by decide) (by decide) ?_
  refine st_iload_n hC dL_tax_3 rfl ?_
  refine xs_callVH (d := 40) (t := 19) (a := 0) (As := [iV x]) (S := [iV 0, rV 35 88]) h81 C dL_tax_4 (show look (CLt 12) 44 = some (MX10_tax, false, 1) from rfl) rfl (by decide) (by decide) (by decide) (Nat.le_of_ble_eq_true rfl) (Nat.le_of_ble_eq_true rfl) ⟨9, by decide, rfl, by decide +kernel⟩ (n9 rfl) (fun vs hvs => by cases hvs) h (fun vs hvs => nomatch hvs) (fun E hE hO1 hE1 hE4 hn1 hL1 hS1 H locs ls q ce hP hSS hl hce hcv hcl => ?_)
  cases hE
  refine xw_catch (E := 1) (pc2 := 13) (i := 3) (x := ⟨0, 9, 12, 18⟩) (pre := []) (suf := []) C hgw hNC (by decide) (by decide) (ht.trans rfl) (fun z hz => nomatch hz) rfl (by decide) (Or.inr ⟨3, rfl, dL_tax_12, rfl⟩) (Nat.le_of_ble_eq_true rfl) hO1 hn1 hL1 ?_ hP hSS hl hce hcv hcl
  refine xs_iconst C dL_tax_13 ?_
  exact xw_ireturn C dL_tax_14 (by decide) (by decide) ⟨by decide, rfl⟩
theorem w_tax_x {σ σ1 : Sg} {x : Int} {E : Nat} (hE : cdN E ≠ 0) (h : Ct 40 MX10_tax (rV 19 0 :: [iV x]) σ (.inr E) σ1) : CtL yL_tax (wW yL_tax cL_tax 4 [(0, 9, 12, 18)]) [rV 19 0, iV x, rV 35 88] σ (cdN E) (o80 σ σ1) := by
  by_cases e1 : E = 1
  · subst e1; exact w_tax_1 h
  exact absurd (show cdN E = 0 by unfold cdN; rw [if_neg e1]) hE
set_option maxRecDepth 20000 in
theorem w_strike {σ σ1 : Sg} {x y : Int} {v : Int} (h : Ct 40 MX10_strike (rV 19 0 :: [iV x, iV y]) σ (.inl [iV v]) σ1) : CtL yL_strike (wW yL_strike cL_strike 5 [(0, 10, 13, 18), (0, 10, 17, 13), (0, 10, 21, 50)]) [rV 19 0, iV x, iV y, rV 35 88] σ 0 (upS (o80 σ σ1) 88 0 v) := by
  refine mk_W (by decide +kernel) rfl (Nat.le_of_ble_eq_true rfl) ?_
  intro p l e s m args below meth c K A h81 C hgw hNC ht
  have hC := clo_L (Q := QfW below K ((upS (o80 σ σ1) 88 0 v)) (0) args s A) (cl := 0) (sl := 0) (d := 40) (R := rmW) (p := p) (e := e) (below := below) h81 C (by decide) (by decide) (by decide) (by decide)
  refine st_aload_n hC dL_strike_0 rfl (by decide) (by decide) ?_
  refine st_iconst hC dL_strike_1 rfl ?_
  refine st_aload_n hC dL_strike_2 rfl (by decide) (by decide) ?_
  refine st_iload_n hC dL_strike_3 rfl ?_
  refine st_iload_n hC dL_strike_4 rfl ?_
  refine xs_callVH (d := 40) (t := 19) (a := 0) (As := [iV x, iV y]) (S := [iV 0, rV 35 88]) h81 C dL_strike_5 (show look (CLt 12) 47 = some (MX10_strike, false, 2) from rfl) rfl (by decide) (by decide) (by decide) (Nat.le_of_ble_eq_true rfl) (Nat.le_of_ble_eq_true rfl) ⟨9, by decide, rfl, by decide +kernel⟩ (n9 rfl) (fun vs hvs => by cases hvs; exact n9 rfl) h (fun vs hvs => ?_) (fun E hE => nomatch hE)
  cases hvs
  refine st_i2l hC dL_strike_8 ?_
  refine xs_lastO h81 C dL_strike_9 ?_
  refine st_goto (tg := 25) hC dL_strike_10 rfl ?_
  refine st_iconst hC dL_strike_25 rfl ?_
  exact xw_ireturn C dL_strike_26 (by decide) (by decide) ⟨rfl, rfl⟩
set_option maxRecDepth 20000 in
theorem w_strike_1 {σ σ1 : Sg} {x y : Int} (h : Ct 40 MX10_strike (rV 19 0 :: [iV x, iV y]) σ (.inr 1) σ1) : CtL yL_strike (wW yL_strike cL_strike 5 [(0, 10, 13, 18), (0, 10, 17, 13), (0, 10, 21, 50)]) [rV 19 0, iV x, iV y, rV 35 88] σ 1 (o80 σ σ1) := by
  refine mk_W (by decide +kernel) rfl (Nat.le_of_ble_eq_true rfl) ?_
  intro p l e s m args below meth c K A h81 C hgw hNC ht
  have hC := clo_L (Q := QfW below K ((o80 σ σ1)) (1) args s A) (cl := 0) (sl := 0) (d := 40) (R := rmW) (p := p) (e := e) (below := below) h81 C (by decide) (by decide) (by decide) (by decide)
  refine st_aload_n hC dL_strike_0 rfl (by decide) (by decide) ?_
  refine st_iconst hC dL_strike_1 rfl ?_
  refine st_aload_n hC dL_strike_2 rfl (by decide) (by decide) ?_
  refine st_iload_n hC dL_strike_3 rfl ?_
  refine st_iload_n hC dL_strike_4 rfl ?_
  refine xs_callVH (d := 40) (t := 19) (a := 0) (As := [iV x, iV y]) (S := [iV 0, rV 35 88]) h81 C dL_strike_5 (show look (CLt 12) 47 = some (MX10_strike, false, 2) from rfl) rfl (by decide) (by decide) (by decide) (Nat.le_of_ble_eq_true rfl) (Nat.le_of_ble_eq_true rfl) ⟨9, by decide, rfl, by decide +kernel⟩ (n9 rfl) (fun vs hvs => by cases hvs) h (fun vs hvs => nomatch hvs) (fun E hE hO1 hE1 hE4 hn1 hL1 hS1 H locs ls q ce hP hSS hl hce hcv hcl => ?_)
  cases hE
  refine xw_catch (E := 1) (pc2 := 15) (i := 4) (x := ⟨0, 10, 13, 18⟩) (pre := []) (suf := [⟨0, 10, 17, 13⟩, ⟨0, 10, 21, 50⟩]) C hgw hNC (by decide) (by decide) (ht.trans rfl) (fun z hz => nomatch hz) rfl (by decide) (Or.inl ⟨dL_strike_13, rfl⟩) (Nat.le_of_ble_eq_true rfl) hO1 hn1 hL1 ?_ hP hSS hl hce hcv hcl
  refine xs_iconst C dL_strike_15 ?_
  exact xw_ireturn C dL_strike_16 (by decide) (by decide) ⟨by decide, rfl⟩
set_option maxRecDepth 20000 in
theorem w_strike_2 {σ σ1 : Sg} {x y : Int} (h : Ct 40 MX10_strike (rV 19 0 :: [iV x, iV y]) σ (.inr 2) σ1) : CtL yL_strike (wW yL_strike cL_strike 5 [(0, 10, 13, 18), (0, 10, 17, 13), (0, 10, 21, 50)]) [rV 19 0, iV x, iV y, rV 35 88] σ 2 (o80 σ σ1) := by
  refine mk_W (by decide +kernel) rfl (Nat.le_of_ble_eq_true rfl) ?_
  intro p l e s m args below meth c K A h81 C hgw hNC ht
  have hC := clo_L (Q := QfW below K ((o80 σ σ1)) (2) args s A) (cl := 0) (sl := 0) (d := 40) (R := rmW) (p := p) (e := e) (below := below) h81 C (by decide) (by decide) (by decide) (by decide)
  refine st_aload_n hC dL_strike_0 rfl (by decide) (by decide) ?_
  refine st_iconst hC dL_strike_1 rfl ?_
  refine st_aload_n hC dL_strike_2 rfl (by decide) (by decide) ?_
  refine st_iload_n hC dL_strike_3 rfl ?_
  refine st_iload_n hC dL_strike_4 rfl ?_
  refine xs_callVH (d := 40) (t := 19) (a := 0) (As := [iV x, iV y]) (S := [iV 0, rV 35 88]) h81 C dL_strike_5 (show look (CLt 12) 47 = some (MX10_strike, false, 2) from rfl) rfl (by decide) (by decide) (by decide) (Nat.le_of_ble_eq_true rfl) (Nat.le_of_ble_eq_true rfl) ⟨9, by decide, rfl, by decide +kernel⟩ (n9 rfl) (fun vs hvs => by cases hvs) h (fun vs hvs => nomatch hvs) (fun E hE hO1 hE1 hE4 hn1 hL1 hS1 H locs ls q ce hP hSS hl hce hcv hcl => ?_)
  cases hE
  refine xw_catch (E := 2) (pc2 := 19) (i := 4) (x := ⟨0, 10, 17, 13⟩) (pre := [⟨0, 10, 13, 18⟩]) (suf := [⟨0, 10, 21, 50⟩]) C hgw hNC (by decide) (by decide) (ht.trans rfl) (fun z hz => by cases hz with
    | head => exact ⟨1, by decide, by decide, by decide, rfl⟩
    | tail _ h9 => nomatch h9) rfl (by decide) (Or.inl ⟨dL_strike_17, rfl⟩) (Nat.le_of_ble_eq_true rfl) hO1 hn1 hL1 ?_ hP hSS hl hce hcv hcl
  refine xs_iconst C dL_strike_19 ?_
  exact xw_ireturn C dL_strike_20 (by decide) (by decide) ⟨by decide, rfl⟩
set_option maxRecDepth 20000 in
theorem w_strike_3 {σ σ1 : Sg} {x y : Int} (h : Ct 40 MX10_strike (rV 19 0 :: [iV x, iV y]) σ (.inr 3) σ1) : CtL yL_strike (wW yL_strike cL_strike 5 [(0, 10, 13, 18), (0, 10, 17, 13), (0, 10, 21, 50)]) [rV 19 0, iV x, iV y, rV 35 88] σ 3 (o80 σ σ1) := by
  refine mk_W (by decide +kernel) rfl (Nat.le_of_ble_eq_true rfl) ?_
  intro p l e s m args below meth c K A h81 C hgw hNC ht
  have hC := clo_L (Q := QfW below K ((o80 σ σ1)) (3) args s A) (cl := 0) (sl := 0) (d := 40) (R := rmW) (p := p) (e := e) (below := below) h81 C (by decide) (by decide) (by decide) (by decide)
  refine st_aload_n hC dL_strike_0 rfl (by decide) (by decide) ?_
  refine st_iconst hC dL_strike_1 rfl ?_
  refine st_aload_n hC dL_strike_2 rfl (by decide) (by decide) ?_
  refine st_iload_n hC dL_strike_3 rfl ?_
  refine st_iload_n hC dL_strike_4 rfl ?_
  refine xs_callVH (d := 40) (t := 19) (a := 0) (As := [iV x, iV y]) (S := [iV 0, rV 35 88]) h81 C dL_strike_5 (show look (CLt 12) 47 = some (MX10_strike, false, 2) from rfl) rfl (by decide) (by decide) (by decide) (Nat.le_of_ble_eq_true rfl) (Nat.le_of_ble_eq_true rfl) ⟨9, by decide, rfl, by decide +kernel⟩ (n9 rfl) (fun vs hvs => by cases hvs) h (fun vs hvs => nomatch hvs) (fun E hE hO1 hE1 hE4 hn1 hL1 hS1 H locs ls q ce hP hSS hl hce hcv hcl => ?_)
  cases hE
  refine xw_catch (E := 3) (pc2 := 23) (i := 4) (x := ⟨0, 10, 21, 50⟩) (pre := [⟨0, 10, 13, 18⟩, ⟨0, 10, 17, 13⟩]) (suf := []) C hgw hNC (by decide) (by decide) (ht.trans rfl) (fun z hz => by cases hz with
    | head => exact ⟨1, by decide, by decide, by decide, rfl⟩
    | tail _ h9 => cases h9 with
      | head => exact ⟨2, by decide, by decide, by decide, rfl⟩
      | tail _ h9 => nomatch h9) rfl (by decide) (Or.inl ⟨dL_strike_21, rfl⟩) (Nat.le_of_ble_eq_true rfl) hO1 hn1 hL1 ?_ hP hSS hl hce hcv hcl
  refine xs_iconst C dL_strike_23 ?_
  exact xw_ireturn C dL_strike_24 (by decide) (by decide) ⟨by decide, rfl⟩
theorem w_strike_x {σ σ1 : Sg} {x y : Int} {E : Nat} (hE : cdD E ≠ 0) (h : Ct 40 MX10_strike (rV 19 0 :: [iV x, iV y]) σ (.inr E) σ1) : CtL yL_strike (wW yL_strike cL_strike 5 [(0, 10, 13, 18), (0, 10, 17, 13), (0, 10, 21, 50)]) [rV 19 0, iV x, iV y, rV 35 88] σ (cdD E) (o80 σ σ1) := by
  by_cases e1 : E = 1
  · subst e1; exact w_strike_1 h
  by_cases e2 : E = 2
  · subst e2; exact w_strike_2 h
  by_cases e3 : E = 3
  · subst e3; exact w_strike_3 h
  exact absurd (show cdD E = 0 by unfold cdD; rw [if_neg e1, if_neg e2, if_neg e3]) hE
set_option maxRecDepth 20000 in
theorem w_readOut {σ σ1 : Sg} {x : Int} {v : Int} (h : Ct 40 MX10_readOut (rV 19 0 :: [lV x]) σ (.inl [lV v]) σ1) : CtL yL_readOut (wW yL_readOut cL_readOut 5 [(0, 8, 11, 13)]) [rV 19 0, lV x, rV 35 88] σ 0 (upS (o80 σ σ1) 88 0 v) := by
  refine mk_W (by decide +kernel) rfl (Nat.le_of_ble_eq_true rfl) ?_
  intro p l e s m args below meth c K A h81 C hgw hNC ht
  have hC := clo_L (Q := QfW below K ((upS (o80 σ σ1) 88 0 v)) (0) args s A) (cl := 0) (sl := 0) (d := 40) (R := rmW) (p := p) (e := e) (below := below) h81 C (by decide) (by decide) (by decide) (by decide)
  refine st_aload_n hC dL_readOut_0 rfl (by decide) (by decide) ?_
  refine st_iconst hC dL_readOut_1 rfl ?_
  refine st_aload_n hC dL_readOut_2 rfl (by decide) (by decide) ?_
  refine st_lload_n hC dL_readOut_3 rfl ?_
  refine xs_callVH (d := 40) (t := 19) (a := 0) (As := [lV x]) (S := [iV 0, rV 35 88]) h81 C dL_readOut_4 (show look (CLt 12) 52 = some (MX10_readOut, false, 1) from rfl) rfl (by decide) (by decide) (by decide) (Nat.le_of_ble_eq_true rfl) (Nat.le_of_ble_eq_true rfl) ⟨9, by decide, rfl, by decide +kernel⟩ (n9 rfl) (fun vs hvs => by cases hvs; exact n9 rfl) h (fun vs hvs => ?_) (fun E hE => nomatch hE)
  cases hvs
  refine xs_lastO h81 C dL_readOut_7 ?_
  refine st_goto (tg := 15) hC dL_readOut_8 rfl ?_
  refine st_iconst hC dL_readOut_15 rfl ?_
  exact xw_ireturn C dL_readOut_16 (by decide) (by decide) ⟨rfl, rfl⟩
set_option maxRecDepth 20000 in
theorem w_readOut_2 {σ σ1 : Sg} {x : Int} (h : Ct 40 MX10_readOut (rV 19 0 :: [lV x]) σ (.inr 2) σ1) : CtL yL_readOut (wW yL_readOut cL_readOut 5 [(0, 8, 11, 13)]) [rV 19 0, lV x, rV 35 88] σ 1 (o80 σ σ1) := by
  refine mk_W (by decide +kernel) rfl (Nat.le_of_ble_eq_true rfl) ?_
  intro p l e s m args below meth c K A h81 C hgw hNC ht
  have hC := clo_L (Q := QfW below K ((o80 σ σ1)) (1) args s A) (cl := 0) (sl := 0) (d := 40) (R := rmW) (p := p) (e := e) (below := below) h81 C (by decide) (by decide) (by decide) (by decide)
  refine st_aload_n hC dL_readOut_0 rfl (by decide) (by decide) ?_
  refine st_iconst hC dL_readOut_1 rfl ?_
  refine st_aload_n hC dL_readOut_2 rfl (by decide) (by decide) ?_
  refine st_lload_n hC dL_readOut_3 rfl ?_
  refine xs_callVH (d := 40) (t := 19) (a := 0) (As := [lV x]) (S := [iV 0, rV 35 88]) h81 C dL_readOut_4 (show look (CLt 12) 52 = some (MX10_readOut, false, 1) from rfl) rfl (by decide) (by decide) (by decide) (Nat.le_of_ble_eq_true rfl) (Nat.le_of_ble_eq_true rfl) ⟨9, by decide, rfl, by decide +kernel⟩ (n9 rfl) (fun vs hvs => by cases hvs) h (fun vs hvs => nomatch hvs) (fun E hE hO1 hE1 hE4 hn1 hL1 hS1 H locs ls q ce hP hSS hl hce hcv hcl => ?_)
  cases hE
  refine xw_catch (E := 2) (pc2 := 13) (i := 4) (x := ⟨0, 8, 11, 13⟩) (pre := []) (suf := []) C hgw hNC (by decide) (by decide) (ht.trans rfl) (fun z hz => nomatch hz) rfl (by decide) (Or.inl ⟨dL_readOut_11, rfl⟩) (Nat.le_of_ble_eq_true rfl) hO1 hn1 hL1 ?_ hP hSS hl hce hcv hcl
  refine xs_iconst C dL_readOut_13 ?_
  exact xw_ireturn C dL_readOut_14 (by decide) (by decide) ⟨by decide, rfl⟩
theorem w_readOut_x {σ σ1 : Sg} {x : Int} {E : Nat} (hE : cdI E ≠ 0) (h : Ct 40 MX10_readOut (rV 19 0 :: [lV x]) σ (.inr E) σ1) : CtL yL_readOut (wW yL_readOut cL_readOut 5 [(0, 8, 11, 13)]) [rV 19 0, lV x, rV 35 88] σ (cdI E) (o80 σ σ1) := by
  by_cases e2 : E = 2
  · subst e2; exact w_readOut_2 h
  exact absurd (show cdI E = 0 by unfold cdI; rw [if_neg e2]) hE
set_option maxRecDepth 20000 in
theorem w_year {σ σ1 : Sg} {x y : Int} {v : Int} (h : Ct 40 MX10_year (rV 19 0 :: [iV x, iV y]) σ (.inl [iV v]) σ1) : CtL yL_year (wW yL_year cL_year 5 [(0, 10, 13, 13), (0, 10, 17, 50)]) [rV 19 0, iV x, iV y, rV 35 88] σ 0 (upS (o80 σ σ1) 88 0 v) := by
  refine mk_W (by decide +kernel) rfl (Nat.le_of_ble_eq_true rfl) ?_
  intro p l e s m args below meth c K A h81 C hgw hNC ht
  have hC := clo_L (Q := QfW below K ((upS (o80 σ σ1) 88 0 v)) (0) args s A) (cl := 0) (sl := 0) (d := 40) (R := rmW) (p := p) (e := e) (below := below) h81 C (by decide) (by decide) (by decide) (by decide)
  refine st_aload_n hC dL_year_0 rfl (by decide) (by decide) ?_
  refine st_iconst hC dL_year_1 rfl ?_
  refine st_aload_n hC dL_year_2 rfl (by decide) (by decide) ?_
  refine st_iload_n hC dL_year_3 rfl ?_
  refine st_iload_n hC dL_year_4 rfl ?_
  refine xs_callVH (d := 40) (t := 19) (a := 0) (As := [iV x, iV y]) (S := [iV 0, rV 35 88]) h81 C dL_year_5 (show look (CLt 12) 56 = some (MX10_year, false, 2) from rfl) rfl (by decide) (by decide) (by decide) (Nat.le_of_ble_eq_true rfl) (Nat.le_of_ble_eq_true rfl) ⟨9, by decide, rfl, by decide +kernel⟩ (n9 rfl) (fun vs hvs => by cases hvs; exact n9 rfl) h (fun vs hvs => ?_) (fun E hE => nomatch hE)
  cases hvs
  refine st_i2l hC dL_year_8 ?_
  refine xs_lastO h81 C dL_year_9 ?_
  refine st_goto (tg := 21) hC dL_year_10 rfl ?_
  refine st_iconst hC dL_year_21 rfl ?_
  exact xw_ireturn C dL_year_22 (by decide) (by decide) ⟨rfl, rfl⟩
set_option maxRecDepth 20000 in
theorem w_year_2 {σ σ1 : Sg} {x y : Int} (h : Ct 40 MX10_year (rV 19 0 :: [iV x, iV y]) σ (.inr 2) σ1) : CtL yL_year (wW yL_year cL_year 5 [(0, 10, 13, 13), (0, 10, 17, 50)]) [rV 19 0, iV x, iV y, rV 35 88] σ 1 (o80 σ σ1) := by
  refine mk_W (by decide +kernel) rfl (Nat.le_of_ble_eq_true rfl) ?_
  intro p l e s m args below meth c K A h81 C hgw hNC ht
  have hC := clo_L (Q := QfW below K ((o80 σ σ1)) (1) args s A) (cl := 0) (sl := 0) (d := 40) (R := rmW) (p := p) (e := e) (below := below) h81 C (by decide) (by decide) (by decide) (by decide)
  refine st_aload_n hC dL_year_0 rfl (by decide) (by decide) ?_
  refine st_iconst hC dL_year_1 rfl ?_
  refine st_aload_n hC dL_year_2 rfl (by decide) (by decide) ?_
  refine st_iload_n hC dL_year_3 rfl ?_
  refine st_iload_n hC dL_year_4 rfl ?_
  refine xs_callVH (d := 40) (t := 19) (a := 0) (As := [iV x, iV y]) (S := [iV 0, rV 35 88]) h81 C dL_year_5 (show look (CLt 12) 56 = some (MX10_year, false, 2) from rfl) rfl (by decide) (by decide) (by decide) (Nat.le_of_ble_eq_true rfl) (Nat.le_of_ble_eq_true rfl) ⟨9, by decide, rfl, by decide +kernel⟩ (n9 rfl) (fun vs hvs => by cases hvs) h (fun vs hvs => nomatch hvs) (fun E hE hO1 hE1 hE4 hn1 hL1 hS1 H locs ls q ce hP hSS hl hce hcv hcl => ?_)
  cases hE
  refine xw_catch (E := 2) (pc2 := 15) (i := 4) (x := ⟨0, 10, 13, 13⟩) (pre := []) (suf := [⟨0, 10, 17, 50⟩]) C hgw hNC (by decide) (by decide) (ht.trans rfl) (fun z hz => nomatch hz) rfl (by decide) (Or.inl ⟨dL_year_13, rfl⟩) (Nat.le_of_ble_eq_true rfl) hO1 hn1 hL1 ?_ hP hSS hl hce hcv hcl
  refine xs_iconst C dL_year_15 ?_
  exact xw_ireturn C dL_year_16 (by decide) (by decide) ⟨by decide, rfl⟩
set_option maxRecDepth 20000 in
theorem w_year_3 {σ σ1 : Sg} {x y : Int} (h : Ct 40 MX10_year (rV 19 0 :: [iV x, iV y]) σ (.inr 3) σ1) : CtL yL_year (wW yL_year cL_year 5 [(0, 10, 13, 13), (0, 10, 17, 50)]) [rV 19 0, iV x, iV y, rV 35 88] σ 2 (o80 σ σ1) := by
  refine mk_W (by decide +kernel) rfl (Nat.le_of_ble_eq_true rfl) ?_
  intro p l e s m args below meth c K A h81 C hgw hNC ht
  have hC := clo_L (Q := QfW below K ((o80 σ σ1)) (2) args s A) (cl := 0) (sl := 0) (d := 40) (R := rmW) (p := p) (e := e) (below := below) h81 C (by decide) (by decide) (by decide) (by decide)
  refine st_aload_n hC dL_year_0 rfl (by decide) (by decide) ?_
  refine st_iconst hC dL_year_1 rfl ?_
  refine st_aload_n hC dL_year_2 rfl (by decide) (by decide) ?_
  refine st_iload_n hC dL_year_3 rfl ?_
  refine st_iload_n hC dL_year_4 rfl ?_
  refine xs_callVH (d := 40) (t := 19) (a := 0) (As := [iV x, iV y]) (S := [iV 0, rV 35 88]) h81 C dL_year_5 (show look (CLt 12) 56 = some (MX10_year, false, 2) from rfl) rfl (by decide) (by decide) (by decide) (Nat.le_of_ble_eq_true rfl) (Nat.le_of_ble_eq_true rfl) ⟨9, by decide, rfl, by decide +kernel⟩ (n9 rfl) (fun vs hvs => by cases hvs) h (fun vs hvs => nomatch hvs) (fun E hE hO1 hE1 hE4 hn1 hL1 hS1 H locs ls q ce hP hSS hl hce hcv hcl => ?_)
  cases hE
  refine xw_catch (E := 3) (pc2 := 19) (i := 4) (x := ⟨0, 10, 17, 50⟩) (pre := [⟨0, 10, 13, 13⟩]) (suf := []) C hgw hNC (by decide) (by decide) (ht.trans rfl) (fun z hz => by cases hz with
    | head => exact ⟨2, by decide, by decide, by decide, rfl⟩
    | tail _ h9 => nomatch h9) rfl (by decide) (Or.inl ⟨dL_year_17, rfl⟩) (Nat.le_of_ble_eq_true rfl) hO1 hn1 hL1 ?_ hP hSS hl hce hcv hcl
  refine xs_iconst C dL_year_19 ?_
  exact xw_ireturn C dL_year_20 (by decide) (by decide) ⟨by decide, rfl⟩
theorem w_year_x {σ σ1 : Sg} {x y : Int} {E : Nat} (hE : cdY E ≠ 0) (h : Ct 40 MX10_year (rV 19 0 :: [iV x, iV y]) σ (.inr E) σ1) : CtL yL_year (wW yL_year cL_year 5 [(0, 10, 13, 13), (0, 10, 17, 50)]) [rV 19 0, iV x, iV y, rV 35 88] σ (cdY E) (o80 σ σ1) := by
  by_cases e2 : E = 2
  · subst e2; exact w_year_2 h
  by_cases e3 : E = 3
  · subst e3; exact w_year_3 h
  exact absurd (show cdY E = 0 by unfold cdY; rw [if_neg e2, if_neg e3]) hE
set_option maxRecDepth 20000 in
theorem w_judge {σ σ1 : Sg} {x y : Int} {v : Int} (h : Ct 40 MX10_judge (rV 19 0 :: [iV x, iV y]) σ (.inl [iV v]) σ1) : CtL yL_judge (wW yL_judge cL_judge 5 [(0, 10, 13, 18), (0, 10, 17, 50), (0, 10, 21, 13)]) [rV 19 0, iV x, iV y, rV 35 88] σ 0 (upS (o80 σ σ1) 88 0 v) := by
  refine mk_W (by decide +kernel) rfl (Nat.le_of_ble_eq_true rfl) ?_
  intro p l e s m args below meth c K A h81 C hgw hNC ht
  have hC := clo_L (Q := QfW below K ((upS (o80 σ σ1) 88 0 v)) (0) args s A) (cl := 0) (sl := 0) (d := 40) (R := rmW) (p := p) (e := e) (below := below) h81 C (by decide) (by decide) (by decide) (by decide)
  refine st_aload_n hC dL_judge_0 rfl (by decide) (by decide) ?_
  refine st_iconst hC dL_judge_1 rfl ?_
  refine st_aload_n hC dL_judge_2 rfl (by decide) (by decide) ?_
  refine st_iload_n hC dL_judge_3 rfl ?_
  refine st_iload_n hC dL_judge_4 rfl ?_
  refine xs_callVH (d := 40) (t := 19) (a := 0) (As := [iV x, iV y]) (S := [iV 0, rV 35 88]) h81 C dL_judge_5 (show look (CLt 12) 59 = some (MX10_judge, false, 2) from rfl) rfl (by decide) (by decide) (by decide) (Nat.le_of_ble_eq_true rfl) (Nat.le_of_ble_eq_true rfl) ⟨9, by decide, rfl, by decide +kernel⟩ (n9 rfl) (fun vs hvs => by cases hvs; exact n9 rfl) h (fun vs hvs => ?_) (fun E hE => nomatch hE)
  cases hvs
  refine st_i2l hC dL_judge_8 ?_
  refine xs_lastO h81 C dL_judge_9 ?_
  refine st_goto (tg := 25) hC dL_judge_10 rfl ?_
  refine st_iconst hC dL_judge_25 rfl ?_
  exact xw_ireturn C dL_judge_26 (by decide) (by decide) ⟨rfl, rfl⟩
set_option maxRecDepth 20000 in
theorem w_judge_1 {σ σ1 : Sg} {x y : Int} (h : Ct 40 MX10_judge (rV 19 0 :: [iV x, iV y]) σ (.inr 1) σ1) : CtL yL_judge (wW yL_judge cL_judge 5 [(0, 10, 13, 18), (0, 10, 17, 50), (0, 10, 21, 13)]) [rV 19 0, iV x, iV y, rV 35 88] σ 1 (o80 σ σ1) := by
  refine mk_W (by decide +kernel) rfl (Nat.le_of_ble_eq_true rfl) ?_
  intro p l e s m args below meth c K A h81 C hgw hNC ht
  have hC := clo_L (Q := QfW below K ((o80 σ σ1)) (1) args s A) (cl := 0) (sl := 0) (d := 40) (R := rmW) (p := p) (e := e) (below := below) h81 C (by decide) (by decide) (by decide) (by decide)
  refine st_aload_n hC dL_judge_0 rfl (by decide) (by decide) ?_
  refine st_iconst hC dL_judge_1 rfl ?_
  refine st_aload_n hC dL_judge_2 rfl (by decide) (by decide) ?_
  refine st_iload_n hC dL_judge_3 rfl ?_
  refine st_iload_n hC dL_judge_4 rfl ?_
  refine xs_callVH (d := 40) (t := 19) (a := 0) (As := [iV x, iV y]) (S := [iV 0, rV 35 88]) h81 C dL_judge_5 (show look (CLt 12) 59 = some (MX10_judge, false, 2) from rfl) rfl (by decide) (by decide) (by decide) (Nat.le_of_ble_eq_true rfl) (Nat.le_of_ble_eq_true rfl) ⟨9, by decide, rfl, by decide +kernel⟩ (n9 rfl) (fun vs hvs => by cases hvs) h (fun vs hvs => nomatch hvs) (fun E hE hO1 hE1 hE4 hn1 hL1 hS1 H locs ls q ce hP hSS hl hce hcv hcl => ?_)
  cases hE
  refine xw_catch (E := 1) (pc2 := 15) (i := 4) (x := ⟨0, 10, 13, 18⟩) (pre := []) (suf := [⟨0, 10, 17, 50⟩, ⟨0, 10, 21, 13⟩]) C hgw hNC (by decide) (by decide) (ht.trans rfl) (fun z hz => nomatch hz) rfl (by decide) (Or.inl ⟨dL_judge_13, rfl⟩) (Nat.le_of_ble_eq_true rfl) hO1 hn1 hL1 ?_ hP hSS hl hce hcv hcl
  refine xs_iconst C dL_judge_15 ?_
  exact xw_ireturn C dL_judge_16 (by decide) (by decide) ⟨by decide, rfl⟩
set_option maxRecDepth 20000 in
theorem w_judge_3 {σ σ1 : Sg} {x y : Int} (h : Ct 40 MX10_judge (rV 19 0 :: [iV x, iV y]) σ (.inr 3) σ1) : CtL yL_judge (wW yL_judge cL_judge 5 [(0, 10, 13, 18), (0, 10, 17, 50), (0, 10, 21, 13)]) [rV 19 0, iV x, iV y, rV 35 88] σ 2 (o80 σ σ1) := by
  refine mk_W (by decide +kernel) rfl (Nat.le_of_ble_eq_true rfl) ?_
  intro p l e s m args below meth c K A h81 C hgw hNC ht
  have hC := clo_L (Q := QfW below K ((o80 σ σ1)) (2) args s A) (cl := 0) (sl := 0) (d := 40) (R := rmW) (p := p) (e := e) (below := below) h81 C (by decide) (by decide) (by decide) (by decide)
  refine st_aload_n hC dL_judge_0 rfl (by decide) (by decide) ?_
  refine st_iconst hC dL_judge_1 rfl ?_
  refine st_aload_n hC dL_judge_2 rfl (by decide) (by decide) ?_
  refine st_iload_n hC dL_judge_3 rfl ?_
  refine st_iload_n hC dL_judge_4 rfl ?_
  refine xs_callVH (d := 40) (t := 19) (a := 0) (As := [iV x, iV y]) (S := [iV 0, rV 35 88]) h81 C dL_judge_5 (show look (CLt 12) 59 = some (MX10_judge, false, 2) from rfl) rfl (by decide) (by decide) (by decide) (Nat.le_of_ble_eq_true rfl) (Nat.le_of_ble_eq_true rfl) ⟨9, by decide, rfl, by decide +kernel⟩ (n9 rfl) (fun vs hvs => by cases hvs) h (fun vs hvs => nomatch hvs) (fun E hE hO1 hE1 hE4 hn1 hL1 hS1 H locs ls q ce hP hSS hl hce hcv hcl => ?_)
  cases hE
  refine xw_catch (E := 3) (pc2 := 19) (i := 4) (x := ⟨0, 10, 17, 50⟩) (pre := [⟨0, 10, 13, 18⟩]) (suf := [⟨0, 10, 21, 13⟩]) C hgw hNC (by decide) (by decide) (ht.trans rfl) (fun z hz => by cases hz with
    | head => exact ⟨1, by decide, by decide, by decide, rfl⟩
    | tail _ h9 => nomatch h9) rfl (by decide) (Or.inl ⟨dL_judge_17, rfl⟩) (Nat.le_of_ble_eq_true rfl) hO1 hn1 hL1 ?_ hP hSS hl hce hcv hcl
  refine xs_iconst C dL_judge_19 ?_
  exact xw_ireturn C dL_judge_20 (by decide) (by decide) ⟨by decide, rfl⟩
set_option maxRecDepth 20000 in
theorem w_judge_2 {σ σ1 : Sg} {x y : Int} (h : Ct 40 MX10_judge (rV 19 0 :: [iV x, iV y]) σ (.inr 2) σ1) : CtL yL_judge (wW yL_judge cL_judge 5 [(0, 10, 13, 18), (0, 10, 17, 50), (0, 10, 21, 13)]) [rV 19 0, iV x, iV y, rV 35 88] σ 3 (o80 σ σ1) := by
  refine mk_W (by decide +kernel) rfl (Nat.le_of_ble_eq_true rfl) ?_
  intro p l e s m args below meth c K A h81 C hgw hNC ht
  have hC := clo_L (Q := QfW below K ((o80 σ σ1)) (3) args s A) (cl := 0) (sl := 0) (d := 40) (R := rmW) (p := p) (e := e) (below := below) h81 C (by decide) (by decide) (by decide) (by decide)
  refine st_aload_n hC dL_judge_0 rfl (by decide) (by decide) ?_
  refine st_iconst hC dL_judge_1 rfl ?_
  refine st_aload_n hC dL_judge_2 rfl (by decide) (by decide) ?_
  refine st_iload_n hC dL_judge_3 rfl ?_
  refine st_iload_n hC dL_judge_4 rfl ?_
  refine xs_callVH (d := 40) (t := 19) (a := 0) (As := [iV x, iV y]) (S := [iV 0, rV 35 88]) h81 C dL_judge_5 (show look (CLt 12) 59 = some (MX10_judge, false, 2) from rfl) rfl (by decide) (by decide) (by decide) (Nat.le_of_ble_eq_true rfl) (Nat.le_of_ble_eq_true rfl) ⟨9, by decide, rfl, by decide +kernel⟩ (n9 rfl) (fun vs hvs => by cases hvs) h (fun vs hvs => nomatch hvs) (fun E hE hO1 hE1 hE4 hn1 hL1 hS1 H locs ls q ce hP hSS hl hce hcv hcl => ?_)
  cases hE
  refine xw_catch (E := 2) (pc2 := 23) (i := 4) (x := ⟨0, 10, 21, 13⟩) (pre := [⟨0, 10, 13, 18⟩, ⟨0, 10, 17, 50⟩]) (suf := []) C hgw hNC (by decide) (by decide) (ht.trans rfl) (fun z hz => by cases hz with
    | head => exact ⟨1, by decide, by decide, by decide, rfl⟩
    | tail _ h9 => cases h9 with
      | head => exact ⟨3, by decide, by decide, by decide, rfl⟩
      | tail _ h9 => nomatch h9) rfl (by decide) (Or.inl ⟨dL_judge_21, rfl⟩) (Nat.le_of_ble_eq_true rfl) hO1 hn1 hL1 ?_ hP hSS hl hce hcv hcl
  refine xs_iconst C dL_judge_23 ?_
  exact xw_ireturn C dL_judge_24 (by decide) (by decide) ⟨by decide, rfl⟩
theorem w_judge_x {σ σ1 : Sg} {x y : Int} {E : Nat} (hE : cdJ E ≠ 0) (h : Ct 40 MX10_judge (rV 19 0 :: [iV x, iV y]) σ (.inr E) σ1) : CtL yL_judge (wW yL_judge cL_judge 5 [(0, 10, 13, 18), (0, 10, 17, 50), (0, 10, 21, 13)]) [rV 19 0, iV x, iV y, rV 35 88] σ (cdJ E) (o80 σ σ1) := by
  by_cases e1 : E = 1
  · subst e1; exact w_judge_1 h
  by_cases e3 : E = 3
  · subst e3; exact w_judge_3 h
  by_cases e2 : E = 2
  · subst e2; exact w_judge_2 h
  exact absurd (show cdJ E = 0 by unfold cdJ; rw [if_neg e1, if_neg e3, if_neg e2]) hE
set_option maxRecDepth 20000 in
theorem w_perform {σ σ1 : Sg} {x : Int} {v : Int} (h : Ct 40 MX10_perform (rV 19 0 :: [iV x]) σ (.inl [iV v]) σ1) : CtL yL_perform (wW yL_perform cL_perform 4 [(0, 9, 12, 18), (0, 9, 15, 50)]) [rV 19 0, iV x, rV 35 88] σ 0 (upS (o80 σ σ1) 88 0 v) := by
  refine mk_W (by decide +kernel) rfl (Nat.le_of_ble_eq_true rfl) ?_
  intro p l e s m args below meth c K A h81 C hgw hNC ht
  have hC := clo_L (Q := QfW below K ((upS (o80 σ σ1) 88 0 v)) (0) args s A) (cl := 0) (sl := 0) (d := 40) (R := rmW) (p := p) (e := e) (below := below) h81 C (by decide) (by decide) (by decide) (by decide)
  refine st_aload_n hC dL_perform_0 rfl (by decide) (by decide) ?_
  refine st_iconst hC dL_perform_1 rfl ?_
  refine st_aload_n hC dL_perform_2 rfl (by decide) (by decide) ?_
  refine st_iload_n hC dL_perform_3 rfl ?_
  refine xs_callVH (d := 40) (t := 19) (a := 0) (As := [iV x]) (S := [iV 0, rV 35 88]) h81 C dL_perform_4 (show look (CLt 12) 62 = some (MX10_perform, false, 1) from rfl) rfl (by decide) (by decide) (by decide) (Nat.le_of_ble_eq_true rfl) (Nat.le_of_ble_eq_true rfl) ⟨9, by decide, rfl, by decide +kernel⟩ (n9 rfl) (fun vs hvs => by cases hvs; exact n9 rfl) h (fun vs hvs => ?_) (fun E hE => nomatch hE)
  cases hvs
  refine st_i2l hC dL_perform_7 ?_
  refine xs_lastO h81 C dL_perform_8 ?_
  refine st_goto (tg := 18) hC dL_perform_9 rfl ?_
  refine st_iconst hC dL_perform_18 rfl ?_
  exact xw_ireturn C dL_perform_19 (by decide) (by decide) ⟨rfl, rfl⟩
set_option maxRecDepth 20000 in
theorem w_perform_1 {σ σ1 : Sg} {x : Int} (h : Ct 40 MX10_perform (rV 19 0 :: [iV x]) σ (.inr 1) σ1) : CtL yL_perform (wW yL_perform cL_perform 4 [(0, 9, 12, 18), (0, 9, 15, 50)]) [rV 19 0, iV x, rV 35 88] σ 1 (o80 σ σ1) := by
  refine mk_W (by decide +kernel) rfl (Nat.le_of_ble_eq_true rfl) ?_
  intro p l e s m args below meth c K A h81 C hgw hNC ht
  have hC := clo_L (Q := QfW below K ((o80 σ σ1)) (1) args s A) (cl := 0) (sl := 0) (d := 40) (R := rmW) (p := p) (e := e) (below := below) h81 C (by decide) (by decide) (by decide) (by decide)
  refine st_aload_n hC dL_perform_0 rfl (by decide) (by decide) ?_
  refine st_iconst hC dL_perform_1 rfl ?_
  refine st_aload_n hC dL_perform_2 rfl (by decide) (by decide) ?_
  refine st_iload_n hC dL_perform_3 rfl ?_
  refine xs_callVH (d := 40) (t := 19) (a := 0) (As := [iV x]) (S := [iV 0, rV 35 88]) h81 C dL_perform_4 (show look (CLt 12) 62 = some (MX10_perform, false, 1) from rfl) rfl (by decide) (by decide) (by decide) (Nat.le_of_ble_eq_true rfl) (Nat.le_of_ble_eq_true rfl) ⟨9, by decide, rfl, by decide +kernel⟩ (n9 rfl) (fun vs hvs => by cases hvs) h (fun vs hvs => nomatch hvs) (fun E hE hO1 hE1 hE4 hn1 hL1 hS1 H locs ls q ce hP hSS hl hce hcv hcl => ?_)
  cases hE
  refine xw_catch (E := 1) (pc2 := 13) (i := 3) (x := ⟨0, 9, 12, 18⟩) (pre := []) (suf := [⟨0, 9, 15, 50⟩]) C hgw hNC (by decide) (by decide) (ht.trans rfl) (fun z hz => nomatch hz) rfl (by decide) (Or.inr ⟨3, rfl, dL_perform_12, rfl⟩) (Nat.le_of_ble_eq_true rfl) hO1 hn1 hL1 ?_ hP hSS hl hce hcv hcl
  refine xs_iconst C dL_perform_13 ?_
  exact xw_ireturn C dL_perform_14 (by decide) (by decide) ⟨by decide, rfl⟩
set_option maxRecDepth 20000 in
theorem w_perform_3 {σ σ1 : Sg} {x : Int} (h : Ct 40 MX10_perform (rV 19 0 :: [iV x]) σ (.inr 3) σ1) : CtL yL_perform (wW yL_perform cL_perform 4 [(0, 9, 12, 18), (0, 9, 15, 50)]) [rV 19 0, iV x, rV 35 88] σ 2 (o80 σ σ1) := by
  refine mk_W (by decide +kernel) rfl (Nat.le_of_ble_eq_true rfl) ?_
  intro p l e s m args below meth c K A h81 C hgw hNC ht
  have hC := clo_L (Q := QfW below K ((o80 σ σ1)) (2) args s A) (cl := 0) (sl := 0) (d := 40) (R := rmW) (p := p) (e := e) (below := below) h81 C (by decide) (by decide) (by decide) (by decide)
  refine st_aload_n hC dL_perform_0 rfl (by decide) (by decide) ?_
  refine st_iconst hC dL_perform_1 rfl ?_
  refine st_aload_n hC dL_perform_2 rfl (by decide) (by decide) ?_
  refine st_iload_n hC dL_perform_3 rfl ?_
  refine xs_callVH (d := 40) (t := 19) (a := 0) (As := [iV x]) (S := [iV 0, rV 35 88]) h81 C dL_perform_4 (show look (CLt 12) 62 = some (MX10_perform, false, 1) from rfl) rfl (by decide) (by decide) (by decide) (Nat.le_of_ble_eq_true rfl) (Nat.le_of_ble_eq_true rfl) ⟨9, by decide, rfl, by decide +kernel⟩ (n9 rfl) (fun vs hvs => by cases hvs) h (fun vs hvs => nomatch hvs) (fun E hE hO1 hE1 hE4 hn1 hL1 hS1 H locs ls q ce hP hSS hl hce hcv hcl => ?_)
  cases hE
  refine xw_catch (E := 3) (pc2 := 16) (i := 3) (x := ⟨0, 9, 15, 50⟩) (pre := [⟨0, 9, 12, 18⟩]) (suf := []) C hgw hNC (by decide) (by decide) (ht.trans rfl) (fun z hz => by cases hz with
    | head => exact ⟨1, by decide, by decide, by decide, rfl⟩
    | tail _ h9 => nomatch h9) rfl (by decide) (Or.inr ⟨3, rfl, dL_perform_15, rfl⟩) (Nat.le_of_ble_eq_true rfl) hO1 hn1 hL1 ?_ hP hSS hl hce hcv hcl
  refine xs_iconst C dL_perform_16 ?_
  exact xw_ireturn C dL_perform_17 (by decide) (by decide) ⟨by decide, rfl⟩
theorem w_perform_x {σ σ1 : Sg} {x : Int} {E : Nat} (hE : cdP E ≠ 0) (h : Ct 40 MX10_perform (rV 19 0 :: [iV x]) σ (.inr E) σ1) : CtL yL_perform (wW yL_perform cL_perform 4 [(0, 9, 12, 18), (0, 9, 15, 50)]) [rV 19 0, iV x, rV 35 88] σ (cdP E) (o80 σ σ1) := by
  by_cases e1 : E = 1
  · subst e1; exact w_perform_1 h
  by_cases e3 : E = 3
  · subst e3; exact w_perform_3 h
  exact absurd (show cdP E = 0 by unfold cdP; rw [if_neg e1, if_neg e3]) hE
set_option maxRecDepth 20000 in
theorem w_prices {σ σ1 : Sg} {x : Int} {v : Int} (h : Ct 40 MX10_prices (rV 19 0 :: [iV x]) σ (.inl [iV v]) σ1) : CtL yL_prices (wW yL_prices cL_prices 4 [(0, 9, 12, 18)]) [rV 19 0, iV x, rV 35 88] σ 0 (upS (o80 σ σ1) 88 0 v) := by
  refine mk_W (by decide +kernel) rfl (Nat.le_of_ble_eq_true rfl) ?_
  intro p l e s m args below meth c K A h81 C hgw hNC ht
  have hC := clo_L (Q := QfW below K ((upS (o80 σ σ1) 88 0 v)) (0) args s A) (cl := 0) (sl := 0) (d := 40) (R := rmW) (p := p) (e := e) (below := below) h81 C (by decide) (by decide) (by decide) (by decide)
  refine st_aload_n hC dL_prices_0 rfl (by decide) (by decide) ?_
  refine st_iconst hC dL_prices_1 rfl ?_
  refine st_aload_n hC dL_prices_2 rfl (by decide) (by decide) ?_
  refine st_iload_n hC dL_prices_3 rfl ?_
  refine xs_callVH (d := 40) (t := 19) (a := 0) (As := [iV x]) (S := [iV 0, rV 35 88]) h81 C dL_prices_4 (show look (CLt 12) 65 = some (MX10_prices, false, 1) from rfl) rfl (by decide) (by decide) (by decide) (Nat.le_of_ble_eq_true rfl) (Nat.le_of_ble_eq_true rfl) ⟨9, by decide, rfl, by decide +kernel⟩ (n9 rfl) (fun vs hvs => by cases hvs; exact n9 rfl) h (fun vs hvs => ?_) (fun E hE => nomatch hE)
  cases hvs
  refine st_i2l hC dL_prices_7 ?_
  refine xs_lastO h81 C dL_prices_8 ?_
  refine st_goto (tg := 15) hC dL_prices_9 rfl ?_
  refine st_iconst hC dL_prices_15 rfl ?_
  exact xw_ireturn C dL_prices_16 (by decide) (by decide) ⟨rfl, rfl⟩
set_option maxRecDepth 20000 in
theorem w_prices_1 {σ σ1 : Sg} {x : Int} (h : Ct 40 MX10_prices (rV 19 0 :: [iV x]) σ (.inr 1) σ1) : CtL yL_prices (wW yL_prices cL_prices 4 [(0, 9, 12, 18)]) [rV 19 0, iV x, rV 35 88] σ 1 (o80 σ σ1) := by
  refine mk_W (by decide +kernel) rfl (Nat.le_of_ble_eq_true rfl) ?_
  intro p l e s m args below meth c K A h81 C hgw hNC ht
  have hC := clo_L (Q := QfW below K ((o80 σ σ1)) (1) args s A) (cl := 0) (sl := 0) (d := 40) (R := rmW) (p := p) (e := e) (below := below) h81 C (by decide) (by decide) (by decide) (by decide)
  refine st_aload_n hC dL_prices_0 rfl (by decide) (by decide) ?_
  refine st_iconst hC dL_prices_1 rfl ?_
  refine st_aload_n hC dL_prices_2 rfl (by decide) (by decide) ?_
  refine st_iload_n hC dL_prices_3 rfl ?_
  refine xs_callVH (d := 40) (t := 19) (a := 0) (As := [iV x]) (S := [iV 0, rV 35 88]) h81 C dL_prices_4 (show look (CLt 12) 65 = some (MX10_prices, false, 1) from rfl) rfl (by decide) (by decide) (by decide) (Nat.le_of_ble_eq_true rfl) (Nat.le_of_ble_eq_true rfl) ⟨9, by decide, rfl, by decide +kernel⟩ (n9 rfl) (fun vs hvs => by cases hvs) h (fun vs hvs => nomatch hvs) (fun E hE hO1 hE1 hE4 hn1 hL1 hS1 H locs ls q ce hP hSS hl hce hcv hcl => ?_)
  cases hE
  refine xw_catch (E := 1) (pc2 := 13) (i := 3) (x := ⟨0, 9, 12, 18⟩) (pre := []) (suf := []) C hgw hNC (by decide) (by decide) (ht.trans rfl) (fun z hz => nomatch hz) rfl (by decide) (Or.inr ⟨3, rfl, dL_prices_12, rfl⟩) (Nat.le_of_ble_eq_true rfl) hO1 hn1 hL1 ?_ hP hSS hl hce hcv hcl
  refine xs_iconst C dL_prices_13 ?_
  exact xw_ireturn C dL_prices_14 (by decide) (by decide) ⟨by decide, rfl⟩
theorem w_prices_x {σ σ1 : Sg} {x : Int} {E : Nat} (hE : cdN E ≠ 0) (h : Ct 40 MX10_prices (rV 19 0 :: [iV x]) σ (.inr E) σ1) : CtL yL_prices (wW yL_prices cL_prices 4 [(0, 9, 12, 18)]) [rV 19 0, iV x, rV 35 88] σ (cdN E) (o80 σ σ1) := by
  by_cases e1 : E = 1
  · subst e1; exact w_prices_1 h
  exact absurd (show cdN E = 0 by unfold cdN; rw [if_neg e1]) hE
set_option maxRecDepth 20000 in
theorem w_price {σ σ1 : Sg} {x y : Int} {v : Int} (h : Ct 40 MX10_price (rV 19 0 :: [iV x, iV y]) σ (.inl [lV v]) σ1) : CtL yL_price (wW yL_price cL_price 5 [(0, 9, 12, 18)]) [rV 19 0, iV x, iV y, rV 35 88] σ 0 (upS (o80 σ σ1) 88 0 v) := by
  refine mk_W (by decide +kernel) rfl (Nat.le_of_ble_eq_true rfl) ?_
  intro p l e s m args below meth c K A h81 C hgw hNC ht
  have hC := clo_L (Q := QfW below K ((upS (o80 σ σ1) 88 0 v)) (0) args s A) (cl := 0) (sl := 0) (d := 40) (R := rmW) (p := p) (e := e) (below := below) h81 C (by decide) (by decide) (by decide) (by decide)
  refine st_aload_n hC dL_price_0 rfl (by decide) (by decide) ?_
  refine st_iconst hC dL_price_1 rfl ?_
  refine st_aload_n hC dL_price_2 rfl (by decide) (by decide) ?_
  refine st_iload_n hC dL_price_3 rfl ?_
  refine st_iload_n hC dL_price_4 rfl ?_
  refine xs_callVH (d := 40) (t := 19) (a := 0) (As := [iV x, iV y]) (S := [iV 0, rV 35 88]) h81 C dL_price_5 (show look (CLt 12) 68 = some (MX10_price, false, 2) from rfl) rfl (by decide) (by decide) (by decide) (Nat.le_of_ble_eq_true rfl) (Nat.le_of_ble_eq_true rfl) ⟨9, by decide, rfl, by decide +kernel⟩ (n9 rfl) (fun vs hvs => by cases hvs; exact n9 rfl) h (fun vs hvs => ?_) (fun E hE => nomatch hE)
  cases hvs
  refine xs_lastO h81 C dL_price_8 ?_
  refine st_goto (tg := 16) hC dL_price_9 rfl ?_
  refine st_iconst hC dL_price_16 rfl ?_
  exact xw_ireturn C dL_price_17 (by decide) (by decide) ⟨rfl, rfl⟩
set_option maxRecDepth 20000 in
theorem w_price_1 {σ σ1 : Sg} {x y : Int} (h : Ct 40 MX10_price (rV 19 0 :: [iV x, iV y]) σ (.inr 1) σ1) : CtL yL_price (wW yL_price cL_price 5 [(0, 9, 12, 18)]) [rV 19 0, iV x, iV y, rV 35 88] σ 1 (o80 σ σ1) := by
  refine mk_W (by decide +kernel) rfl (Nat.le_of_ble_eq_true rfl) ?_
  intro p l e s m args below meth c K A h81 C hgw hNC ht
  have hC := clo_L (Q := QfW below K ((o80 σ σ1)) (1) args s A) (cl := 0) (sl := 0) (d := 40) (R := rmW) (p := p) (e := e) (below := below) h81 C (by decide) (by decide) (by decide) (by decide)
  refine st_aload_n hC dL_price_0 rfl (by decide) (by decide) ?_
  refine st_iconst hC dL_price_1 rfl ?_
  refine st_aload_n hC dL_price_2 rfl (by decide) (by decide) ?_
  refine st_iload_n hC dL_price_3 rfl ?_
  refine st_iload_n hC dL_price_4 rfl ?_
  refine xs_callVH (d := 40) (t := 19) (a := 0) (As := [iV x, iV y]) (S := [iV 0, rV 35 88]) h81 C dL_price_5 (show look (CLt 12) 68 = some (MX10_price, false, 2) from rfl) rfl (by decide) (by decide) (by decide) (Nat.le_of_ble_eq_true rfl) (Nat.le_of_ble_eq_true rfl) ⟨9, by decide, rfl, by decide +kernel⟩ (n9 rfl) (fun vs hvs => by cases hvs) h (fun vs hvs => nomatch hvs) (fun E hE hO1 hE1 hE4 hn1 hL1 hS1 H locs ls q ce hP hSS hl hce hcv hcl => ?_)
  cases hE
  refine xw_catch (E := 1) (pc2 := 14) (i := 4) (x := ⟨0, 9, 12, 18⟩) (pre := []) (suf := []) C hgw hNC (by decide) (by decide) (ht.trans rfl) (fun z hz => nomatch hz) rfl (by decide) (Or.inl ⟨dL_price_12, rfl⟩) (Nat.le_of_ble_eq_true rfl) hO1 hn1 hL1 ?_ hP hSS hl hce hcv hcl
  refine xs_iconst C dL_price_14 ?_
  exact xw_ireturn C dL_price_15 (by decide) (by decide) ⟨by decide, rfl⟩
theorem w_price_x {σ σ1 : Sg} {x y : Int} {E : Nat} (hE : cdN E ≠ 0) (h : Ct 40 MX10_price (rV 19 0 :: [iV x, iV y]) σ (.inr E) σ1) : CtL yL_price (wW yL_price cL_price 5 [(0, 9, 12, 18)]) [rV 19 0, iV x, iV y, rV 35 88] σ (cdN E) (o80 σ σ1) := by
  by_cases e1 : E = 1
  · subst e1; exact w_price_1 h
  exact absurd (show cdN E = 0 by unfold cdN; rw [if_neg e1]) hE
set_option maxRecDepth 20000 in
theorem w_gap {σ σ1 : Sg} {x : Int} {v : Int} (h : Ct 40 MX10_gap (rV 19 0 :: [iV x]) σ (.inl [lV v]) σ1) : CtL yL_gap (wW yL_gap cL_gap 4 [(0, 8, 11, 18)]) [rV 19 0, iV x, rV 35 88] σ 0 (upS (o80 σ σ1) 88 0 v) := by
  refine mk_W (by decide +kernel) rfl (Nat.le_of_ble_eq_true rfl) ?_
  intro p l e s m args below meth c K A h81 C hgw hNC ht
  have hC := clo_L (Q := QfW below K ((upS (o80 σ σ1) 88 0 v)) (0) args s A) (cl := 0) (sl := 0) (d := 40) (R := rmW) (p := p) (e := e) (below := below) h81 C (by decide) (by decide) (by decide) (by decide)
  refine st_aload_n hC dL_gap_0 rfl (by decide) (by decide) ?_
  refine st_iconst hC dL_gap_1 rfl ?_
  refine st_aload_n hC dL_gap_2 rfl (by decide) (by decide) ?_
  refine st_iload_n hC dL_gap_3 rfl ?_
  refine xs_callVH (d := 40) (t := 19) (a := 0) (As := [iV x]) (S := [iV 0, rV 35 88]) h81 C dL_gap_4 (show look (CLt 12) 72 = some (MX10_gap, false, 1) from rfl) rfl (by decide) (by decide) (by decide) (Nat.le_of_ble_eq_true rfl) (Nat.le_of_ble_eq_true rfl) ⟨9, by decide, rfl, by decide +kernel⟩ (n9 rfl) (fun vs hvs => by cases hvs; exact n9 rfl) h (fun vs hvs => ?_) (fun E hE => nomatch hE)
  cases hvs
  refine xs_lastO h81 C dL_gap_7 ?_
  refine st_goto (tg := 14) hC dL_gap_8 rfl ?_
  refine st_iconst hC dL_gap_14 rfl ?_
  exact xw_ireturn C dL_gap_15 (by decide) (by decide) ⟨rfl, rfl⟩
set_option maxRecDepth 20000 in
theorem w_gap_1 {σ σ1 : Sg} {x : Int} (h : Ct 40 MX10_gap (rV 19 0 :: [iV x]) σ (.inr 1) σ1) : CtL yL_gap (wW yL_gap cL_gap 4 [(0, 8, 11, 18)]) [rV 19 0, iV x, rV 35 88] σ 1 (o80 σ σ1) := by
  refine mk_W (by decide +kernel) rfl (Nat.le_of_ble_eq_true rfl) ?_
  intro p l e s m args below meth c K A h81 C hgw hNC ht
  have hC := clo_L (Q := QfW below K ((o80 σ σ1)) (1) args s A) (cl := 0) (sl := 0) (d := 40) (R := rmW) (p := p) (e := e) (below := below) h81 C (by decide) (by decide) (by decide) (by decide)
  refine st_aload_n hC dL_gap_0 rfl (by decide) (by decide) ?_
  refine st_iconst hC dL_gap_1 rfl ?_
  refine st_aload_n hC dL_gap_2 rfl (by decide) (by decide) ?_
  refine st_iload_n hC dL_gap_3 rfl ?_
  refine xs_callVH (d := 40) (t := 19) (a := 0) (As := [iV x]) (S := [iV 0, rV 35 88]) h81 C dL_gap_4 (show look (CLt 12) 72 = some (MX10_gap, false, 1) from rfl) rfl (by decide) (by decide) (by decide) (Nat.le_of_ble_eq_true rfl) (Nat.le_of_ble_eq_true rfl) ⟨9, by decide, rfl, by decide +kernel⟩ (n9 rfl) (fun vs hvs => by cases hvs) h (fun vs hvs => nomatch hvs) (fun E hE hO1 hE1 hE4 hn1 hL1 hS1 H locs ls q ce hP hSS hl hce hcv hcl => ?_)
  cases hE
  refine xw_catch (E := 1) (pc2 := 12) (i := 3) (x := ⟨0, 8, 11, 18⟩) (pre := []) (suf := []) C hgw hNC (by decide) (by decide) (ht.trans rfl) (fun z hz => nomatch hz) rfl (by decide) (Or.inr ⟨3, rfl, dL_gap_11, rfl⟩) (Nat.le_of_ble_eq_true rfl) hO1 hn1 hL1 ?_ hP hSS hl hce hcv hcl
  refine xs_iconst C dL_gap_12 ?_
  exact xw_ireturn C dL_gap_13 (by decide) (by decide) ⟨by decide, rfl⟩
theorem w_gap_x {σ σ1 : Sg} {x : Int} {E : Nat} (hE : cdN E ≠ 0) (h : Ct 40 MX10_gap (rV 19 0 :: [iV x]) σ (.inr E) σ1) : CtL yL_gap (wW yL_gap cL_gap 4 [(0, 8, 11, 18)]) [rV 19 0, iV x, rV 35 88] σ (cdN E) (o80 σ σ1) := by
  by_cases e1 : E = 1
  · subst e1; exact w_gap_1 h
  exact absurd (show cdN E = 0 by unfold cdN; rw [if_neg e1]) hE
set_option maxRecDepth 20000 in
theorem w_nearest {σ σ1 : Sg} {x y : Int} {v : Int} (h : Ct 40 MX10_nearest (rV 19 0 :: [iV x, lV y]) σ (.inl [lV v]) σ1) : CtL yL_nearest (wW yL_nearest cL_nearest 6 [(0, 10, 13, 18)]) [rV 19 0, iV x, lV y, rV 35 88] σ 0 (upS (o80 σ σ1) 88 0 v) := by
  refine mk_W (by decide +kernel) rfl (Nat.le_of_ble_eq_true rfl) ?_
  intro p l e s m args below meth c K A h81 C hgw hNC ht
  have hC := clo_L (Q := QfW below K ((upS (o80 σ σ1) 88 0 v)) (0) args s A) (cl := 0) (sl := 0) (d := 40) (R := rmW) (p := p) (e := e) (below := below) h81 C (by decide) (by decide) (by decide) (by decide)
  refine st_aload hC dL_nearest_0 rfl (by decide) (by decide) ?_
  refine st_iconst hC dL_nearest_2 rfl ?_
  refine st_aload_n hC dL_nearest_3 rfl (by decide) (by decide) ?_
  refine st_iload_n hC dL_nearest_4 rfl ?_
  refine st_lload_n hC dL_nearest_5 rfl ?_
  refine xs_callVH (d := 40) (t := 19) (a := 0) (As := [iV x, lV y]) (S := [iV 0, rV 35 88]) h81 C dL_nearest_6 (show look (CLt 12) 75 = some (MX10_nearest, false, 2) from rfl) rfl (by decide) (by decide) (by decide) (Nat.le_of_ble_eq_true rfl) (Nat.le_of_ble_eq_true rfl) ⟨9, by decide, rfl, by decide +kernel⟩ (n9 rfl) (fun vs hvs => by cases hvs; exact n9 rfl) h (fun vs hvs => ?_) (fun E hE => nomatch hE)
  cases hvs
  refine xs_lastO h81 C dL_nearest_9 ?_
  refine st_goto (tg := 17) hC dL_nearest_10 rfl ?_
  refine st_iconst hC dL_nearest_17 rfl ?_
  exact xw_ireturn C dL_nearest_18 (by decide) (by decide) ⟨rfl, rfl⟩
set_option maxRecDepth 20000 in
theorem w_nearest_1 {σ σ1 : Sg} {x y : Int} (h : Ct 40 MX10_nearest (rV 19 0 :: [iV x, lV y]) σ (.inr 1) σ1) : CtL yL_nearest (wW yL_nearest cL_nearest 6 [(0, 10, 13, 18)]) [rV 19 0, iV x, lV y, rV 35 88] σ 1 (o80 σ σ1) := by
  refine mk_W (by decide +kernel) rfl (Nat.le_of_ble_eq_true rfl) ?_
  intro p l e s m args below meth c K A h81 C hgw hNC ht
  have hC := clo_L (Q := QfW below K ((o80 σ σ1)) (1) args s A) (cl := 0) (sl := 0) (d := 40) (R := rmW) (p := p) (e := e) (below := below) h81 C (by decide) (by decide) (by decide) (by decide)
  refine st_aload hC dL_nearest_0 rfl (by decide) (by decide) ?_
  refine st_iconst hC dL_nearest_2 rfl ?_
  refine st_aload_n hC dL_nearest_3 rfl (by decide) (by decide) ?_
  refine st_iload_n hC dL_nearest_4 rfl ?_
  refine st_lload_n hC dL_nearest_5 rfl ?_
  refine xs_callVH (d := 40) (t := 19) (a := 0) (As := [iV x, lV y]) (S := [iV 0, rV 35 88]) h81 C dL_nearest_6 (show look (CLt 12) 75 = some (MX10_nearest, false, 2) from rfl) rfl (by decide) (by decide) (by decide) (Nat.le_of_ble_eq_true rfl) (Nat.le_of_ble_eq_true rfl) ⟨9, by decide, rfl, by decide +kernel⟩ (n9 rfl) (fun vs hvs => by cases hvs) h (fun vs hvs => nomatch hvs) (fun E hE hO1 hE1 hE4 hn1 hL1 hS1 H locs ls q ce hP hSS hl hce hcv hcl => ?_)
  cases hE
  refine xw_catch (E := 1) (pc2 := 15) (i := 5) (x := ⟨0, 10, 13, 18⟩) (pre := []) (suf := []) C hgw hNC (by decide) (by decide) (ht.trans rfl) (fun z hz => nomatch hz) rfl (by decide) (Or.inl ⟨dL_nearest_13, rfl⟩) (Nat.le_of_ble_eq_true rfl) hO1 hn1 hL1 ?_ hP hSS hl hce hcv hcl
  refine xs_iconst C dL_nearest_15 ?_
  exact xw_ireturn C dL_nearest_16 (by decide) (by decide) ⟨by decide, rfl⟩
theorem w_nearest_x {σ σ1 : Sg} {x y : Int} {E : Nat} (hE : cdN E ≠ 0) (h : Ct 40 MX10_nearest (rV 19 0 :: [iV x, lV y]) σ (.inr E) σ1) : CtL yL_nearest (wW yL_nearest cL_nearest 6 [(0, 10, 13, 18)]) [rV 19 0, iV x, lV y, rV 35 88] σ (cdN E) (o80 σ σ1) := by
  by_cases e1 : E = 1
  · subst e1; exact w_nearest_1 h
  exact absurd (show cdN E = 0 by unfold cdN; rw [if_neg e1]) hE
set_option maxRecDepth 20000 in
theorem w_half {σ σ1 : Sg} {x : Int} {v : Int} (h : Ct 40 MX10_half (rV 19 0 :: [iV x]) σ (.inl [lV v]) σ1) : CtL yL_half (wW yL_half cL_half 4 [(0, 8, 11, 18)]) [rV 19 0, iV x, rV 35 88] σ 0 (upS (o80 σ σ1) 88 0 v) := by
  refine mk_W (by decide +kernel) rfl (Nat.le_of_ble_eq_true rfl) ?_
  intro p l e s m args below meth c K A h81 C hgw hNC ht
  have hC := clo_L (Q := QfW below K ((upS (o80 σ σ1) 88 0 v)) (0) args s A) (cl := 0) (sl := 0) (d := 40) (R := rmW) (p := p) (e := e) (below := below) h81 C (by decide) (by decide) (by decide) (by decide)
  refine st_aload_n hC dL_half_0 rfl (by decide) (by decide) ?_
  refine st_iconst hC dL_half_1 rfl ?_
  refine st_aload_n hC dL_half_2 rfl (by decide) (by decide) ?_
  refine st_iload_n hC dL_half_3 rfl ?_
  refine xs_callVH (d := 40) (t := 19) (a := 0) (As := [iV x]) (S := [iV 0, rV 35 88]) h81 C dL_half_4 (show look (CLt 12) 79 = some (MX10_half, false, 1) from rfl) rfl (by decide) (by decide) (by decide) (Nat.le_of_ble_eq_true rfl) (Nat.le_of_ble_eq_true rfl) ⟨9, by decide, rfl, by decide +kernel⟩ (n9 rfl) (fun vs hvs => by cases hvs; exact n9 rfl) h (fun vs hvs => ?_) (fun E hE => nomatch hE)
  cases hvs
  refine xs_lastO h81 C dL_half_7 ?_
  refine st_goto (tg := 14) hC dL_half_8 rfl ?_
  refine st_iconst hC dL_half_14 rfl ?_
  exact xw_ireturn C dL_half_15 (by decide) (by decide) ⟨rfl, rfl⟩
set_option maxRecDepth 20000 in
theorem w_half_1 {σ σ1 : Sg} {x : Int} (h : Ct 40 MX10_half (rV 19 0 :: [iV x]) σ (.inr 1) σ1) : CtL yL_half (wW yL_half cL_half 4 [(0, 8, 11, 18)]) [rV 19 0, iV x, rV 35 88] σ 1 (o80 σ σ1) := by
  refine mk_W (by decide +kernel) rfl (Nat.le_of_ble_eq_true rfl) ?_
  intro p l e s m args below meth c K A h81 C hgw hNC ht
  have hC := clo_L (Q := QfW below K ((o80 σ σ1)) (1) args s A) (cl := 0) (sl := 0) (d := 40) (R := rmW) (p := p) (e := e) (below := below) h81 C (by decide) (by decide) (by decide) (by decide)
  refine st_aload_n hC dL_half_0 rfl (by decide) (by decide) ?_
  refine st_iconst hC dL_half_1 rfl ?_
  refine st_aload_n hC dL_half_2 rfl (by decide) (by decide) ?_
  refine st_iload_n hC dL_half_3 rfl ?_
  refine xs_callVH (d := 40) (t := 19) (a := 0) (As := [iV x]) (S := [iV 0, rV 35 88]) h81 C dL_half_4 (show look (CLt 12) 79 = some (MX10_half, false, 1) from rfl) rfl (by decide) (by decide) (by decide) (Nat.le_of_ble_eq_true rfl) (Nat.le_of_ble_eq_true rfl) ⟨9, by decide, rfl, by decide +kernel⟩ (n9 rfl) (fun vs hvs => by cases hvs) h (fun vs hvs => nomatch hvs) (fun E hE hO1 hE1 hE4 hn1 hL1 hS1 H locs ls q ce hP hSS hl hce hcv hcl => ?_)
  cases hE
  refine xw_catch (E := 1) (pc2 := 12) (i := 3) (x := ⟨0, 8, 11, 18⟩) (pre := []) (suf := []) C hgw hNC (by decide) (by decide) (ht.trans rfl) (fun z hz => nomatch hz) rfl (by decide) (Or.inr ⟨3, rfl, dL_half_11, rfl⟩) (Nat.le_of_ble_eq_true rfl) hO1 hn1 hL1 ?_ hP hSS hl hce hcv hcl
  refine xs_iconst C dL_half_12 ?_
  exact xw_ireturn C dL_half_13 (by decide) (by decide) ⟨by decide, rfl⟩
theorem w_half_x {σ σ1 : Sg} {x : Int} {E : Nat} (hE : cdN E ≠ 0) (h : Ct 40 MX10_half (rV 19 0 :: [iV x]) σ (.inr E) σ1) : CtL yL_half (wW yL_half cL_half 4 [(0, 8, 11, 18)]) [rV 19 0, iV x, rV 35 88] σ (cdN E) (o80 σ σ1) := by
  by_cases e1 : E = 1
  · subst e1; exact w_half_1 h
  exact absurd (show cdN E = 0 by unfold cdN; rw [if_neg e1]) hE
set_option maxRecDepth 20000 in
theorem w_fewest {σ σ1 : Sg} {x y : Int} {v : Int} (h : Ct 40 MX10_fewest (rV 19 0 :: [iV x, lV y]) σ (.inl [iV v]) σ1) : CtL yL_fewest (wW yL_fewest cL_fewest 6 [(0, 11, 14, 18), (0, 11, 18, 13)]) [rV 19 0, iV x, lV y, rV 35 88] σ 0 (upS (o80 σ σ1) 88 0 v) := by
  refine mk_W (by decide +kernel) rfl (Nat.le_of_ble_eq_true rfl) ?_
  intro p l e s m args below meth c K A h81 C hgw hNC ht
  have hC := clo_L (Q := QfW below K ((upS (o80 σ σ1) 88 0 v)) (0) args s A) (cl := 0) (sl := 0) (d := 40) (R := rmW) (p := p) (e := e) (below := below) h81 C (by decide) (by decide) (by decide) (by decide)
  refine st_aload hC dL_fewest_0 rfl (by decide) (by decide) ?_
  refine st_iconst hC dL_fewest_2 rfl ?_
  refine st_aload_n hC dL_fewest_3 rfl (by decide) (by decide) ?_
  refine st_iload_n hC dL_fewest_4 rfl ?_
  refine st_lload_n hC dL_fewest_5 rfl ?_
  refine xs_callVH (d := 40) (t := 19) (a := 0) (As := [iV x, lV y]) (S := [iV 0, rV 35 88]) h81 C dL_fewest_6 (show look (CLt 12) 82 = some (MX10_fewest, false, 2) from rfl) rfl (by decide) (by decide) (by decide) (Nat.le_of_ble_eq_true rfl) (Nat.le_of_ble_eq_true rfl) ⟨9, by decide, rfl, by decide +kernel⟩ (n9 rfl) (fun vs hvs => by cases hvs; exact n9 rfl) h (fun vs hvs => ?_) (fun E hE => nomatch hE)
  cases hvs
  refine st_i2l hC dL_fewest_9 ?_
  refine xs_lastO h81 C dL_fewest_10 ?_
  refine st_goto (tg := 22) hC dL_fewest_11 rfl ?_
  refine st_iconst hC dL_fewest_22 rfl ?_
  exact xw_ireturn C dL_fewest_23 (by decide) (by decide) ⟨rfl, rfl⟩
set_option maxRecDepth 20000 in
theorem w_fewest_1 {σ σ1 : Sg} {x y : Int} (h : Ct 40 MX10_fewest (rV 19 0 :: [iV x, lV y]) σ (.inr 1) σ1) : CtL yL_fewest (wW yL_fewest cL_fewest 6 [(0, 11, 14, 18), (0, 11, 18, 13)]) [rV 19 0, iV x, lV y, rV 35 88] σ 1 (o80 σ σ1) := by
  refine mk_W (by decide +kernel) rfl (Nat.le_of_ble_eq_true rfl) ?_
  intro p l e s m args below meth c K A h81 C hgw hNC ht
  have hC := clo_L (Q := QfW below K ((o80 σ σ1)) (1) args s A) (cl := 0) (sl := 0) (d := 40) (R := rmW) (p := p) (e := e) (below := below) h81 C (by decide) (by decide) (by decide) (by decide)
  refine st_aload hC dL_fewest_0 rfl (by decide) (by decide) ?_
  refine st_iconst hC dL_fewest_2 rfl ?_
  refine st_aload_n hC dL_fewest_3 rfl (by decide) (by decide) ?_
  refine st_iload_n hC dL_fewest_4 rfl ?_
  refine st_lload_n hC dL_fewest_5 rfl ?_
  refine xs_callVH (d := 40) (t := 19) (a := 0) (As := [iV x, lV y]) (S := [iV 0, rV 35 88]) h81 C dL_fewest_6 (show look (CLt 12) 82 = some (MX10_fewest, false, 2) from rfl) rfl (by decide) (by decide) (by decide) (Nat.le_of_ble_eq_true rfl) (Nat.le_of_ble_eq_true rfl) ⟨9, by decide, rfl, by decide +kernel⟩ (n9 rfl) (fun vs hvs => by cases hvs) h (fun vs hvs => nomatch hvs) (fun E hE hO1 hE1 hE4 hn1 hL1 hS1 H locs ls q ce hP hSS hl hce hcv hcl => ?_)
  cases hE
  refine xw_catch (E := 1) (pc2 := 16) (i := 5) (x := ⟨0, 11, 14, 18⟩) (pre := []) (suf := [⟨0, 11, 18, 13⟩]) C hgw hNC (by decide) (by decide) (ht.trans rfl) (fun z hz => nomatch hz) rfl (by decide) (Or.inl ⟨dL_fewest_14, rfl⟩) (Nat.le_of_ble_eq_true rfl) hO1 hn1 hL1 ?_ hP hSS hl hce hcv hcl
  refine xs_iconst C dL_fewest_16 ?_
  exact xw_ireturn C dL_fewest_17 (by decide) (by decide) ⟨by decide, rfl⟩
set_option maxRecDepth 20000 in
theorem w_fewest_2 {σ σ1 : Sg} {x y : Int} (h : Ct 40 MX10_fewest (rV 19 0 :: [iV x, lV y]) σ (.inr 2) σ1) : CtL yL_fewest (wW yL_fewest cL_fewest 6 [(0, 11, 14, 18), (0, 11, 18, 13)]) [rV 19 0, iV x, lV y, rV 35 88] σ 2 (o80 σ σ1) := by
  refine mk_W (by decide +kernel) rfl (Nat.le_of_ble_eq_true rfl) ?_
  intro p l e s m args below meth c K A h81 C hgw hNC ht
  have hC := clo_L (Q := QfW below K ((o80 σ σ1)) (2) args s A) (cl := 0) (sl := 0) (d := 40) (R := rmW) (p := p) (e := e) (below := below) h81 C (by decide) (by decide) (by decide) (by decide)
  refine st_aload hC dL_fewest_0 rfl (by decide) (by decide) ?_
  refine st_iconst hC dL_fewest_2 rfl ?_
  refine st_aload_n hC dL_fewest_3 rfl (by decide) (by decide) ?_
  refine st_iload_n hC dL_fewest_4 rfl ?_
  refine st_lload_n hC dL_fewest_5 rfl ?_
  refine xs_callVH (d := 40) (t := 19) (a := 0) (As := [iV x, lV y]) (S := [iV 0, rV 35 88]) h81 C dL_fewest_6 (show look (CLt 12) 82 = some (MX10_fewest, false, 2) from rfl) rfl (by decide) (by decide) (by decide) (Nat.le_of_ble_eq_true rfl) (Nat.le_of_ble_eq_true rfl) ⟨9, by decide, rfl, by decide +kernel⟩ (n9 rfl) (fun vs hvs => by cases hvs) h (fun vs hvs => nomatch hvs) (fun E hE hO1 hE1 hE4 hn1 hL1 hS1 H locs ls q ce hP hSS hl hce hcv hcl => ?_)
  cases hE
  refine xw_catch (E := 2) (pc2 := 20) (i := 5) (x := ⟨0, 11, 18, 13⟩) (pre := [⟨0, 11, 14, 18⟩]) (suf := []) C hgw hNC (by decide) (by decide) (ht.trans rfl) (fun z hz => by cases hz with
    | head => exact ⟨1, by decide, by decide, by decide, rfl⟩
    | tail _ h9 => nomatch h9) rfl (by decide) (Or.inl ⟨dL_fewest_18, rfl⟩) (Nat.le_of_ble_eq_true rfl) hO1 hn1 hL1 ?_ hP hSS hl hce hcv hcl
  refine xs_iconst C dL_fewest_20 ?_
  exact xw_ireturn C dL_fewest_21 (by decide) (by decide) ⟨by decide, rfl⟩
theorem w_fewest_x {σ σ1 : Sg} {x y : Int} {E : Nat} (hE : cdNI E ≠ 0) (h : Ct 40 MX10_fewest (rV 19 0 :: [iV x, lV y]) σ (.inr E) σ1) : CtL yL_fewest (wW yL_fewest cL_fewest 6 [(0, 11, 14, 18), (0, 11, 18, 13)]) [rV 19 0, iV x, lV y, rV 35 88] σ (cdNI E) (o80 σ σ1) := by
  by_cases e1 : E = 1
  · subst e1; exact w_fewest_1 h
  by_cases e2 : E = 2
  · subst e2; exact w_fewest_2 h
  exact absurd (show cdNI E = 0 by unfold cdNI; rw [if_neg e1, if_neg e2]) hE
set_option maxRecDepth 20000 in
theorem w_together {σ σ1 : Sg} {x y z : Int} {v : Int} (h : Ct 40 MX10_together (rV 19 0 :: [iV x, lV y, iV z]) σ (.inl [iV v]) σ1) : CtL yL_together (wW yL_together cL_together 7 [(0, 13, 16, 13)]) [rV 19 0, iV x, lV y, iV z, rV 35 88] σ 0 (upS (o80 σ σ1) 88 0 v) := by
  refine mk_W (by decide +kernel) rfl (Nat.le_of_ble_eq_true rfl) ?_
  intro p l e s m args below meth c K A h81 C hgw hNC ht
  have hC := clo_L (Q := QfW below K ((upS (o80 σ σ1) 88 0 v)) (0) args s A) (cl := 0) (sl := 0) (d := 40) (R := rmW) (p := p) (e := e) (below := below) h81 C (by decide) (by decide) (by decide) (by decide)
  refine st_aload hC dL_together_0 rfl (by decide) (by decide) ?_
  refine st_iconst hC dL_together_2 rfl ?_
  refine st_aload_n hC dL_together_3 rfl (by decide) (by decide) ?_
  refine st_iload_n hC dL_together_4 rfl ?_
  refine st_lload_n hC dL_together_5 rfl ?_
  refine st_iload hC dL_together_6 rfl ?_
  refine xs_callVH (d := 40) (t := 19) (a := 0) (As := [iV x, lV y, iV z]) (S := [iV 0, rV 35 88]) h81 C dL_together_8 (show look (CLt 12) 86 = some (MX10_together, false, 3) from rfl) rfl (by decide) (by decide) (by decide) (Nat.le_of_ble_eq_true rfl) (Nat.le_of_ble_eq_true rfl) ⟨9, by decide, rfl, by decide +kernel⟩ (n9 rfl) (fun vs hvs => by cases hvs; exact n9 rfl) h (fun vs hvs => ?_) (fun E hE => nomatch hE)
  cases hvs
  refine st_i2l hC dL_together_11 ?_
  refine xs_lastO h81 C dL_together_12 ?_
  refine st_goto (tg := 20) hC dL_together_13 rfl ?_
  refine st_iconst hC dL_together_20 rfl ?_
  exact xw_ireturn C dL_together_21 (by decide) (by decide) ⟨rfl, rfl⟩
set_option maxRecDepth 20000 in
theorem w_together_2 {σ σ1 : Sg} {x y z : Int} (h : Ct 40 MX10_together (rV 19 0 :: [iV x, lV y, iV z]) σ (.inr 2) σ1) : CtL yL_together (wW yL_together cL_together 7 [(0, 13, 16, 13)]) [rV 19 0, iV x, lV y, iV z, rV 35 88] σ 1 (o80 σ σ1) := by
  refine mk_W (by decide +kernel) rfl (Nat.le_of_ble_eq_true rfl) ?_
  intro p l e s m args below meth c K A h81 C hgw hNC ht
  have hC := clo_L (Q := QfW below K ((o80 σ σ1)) (1) args s A) (cl := 0) (sl := 0) (d := 40) (R := rmW) (p := p) (e := e) (below := below) h81 C (by decide) (by decide) (by decide) (by decide)
  refine st_aload hC dL_together_0 rfl (by decide) (by decide) ?_
  refine st_iconst hC dL_together_2 rfl ?_
  refine st_aload_n hC dL_together_3 rfl (by decide) (by decide) ?_
  refine st_iload_n hC dL_together_4 rfl ?_
  refine st_lload_n hC dL_together_5 rfl ?_
  refine st_iload hC dL_together_6 rfl ?_
  refine xs_callVH (d := 40) (t := 19) (a := 0) (As := [iV x, lV y, iV z]) (S := [iV 0, rV 35 88]) h81 C dL_together_8 (show look (CLt 12) 86 = some (MX10_together, false, 3) from rfl) rfl (by decide) (by decide) (by decide) (Nat.le_of_ble_eq_true rfl) (Nat.le_of_ble_eq_true rfl) ⟨9, by decide, rfl, by decide +kernel⟩ (n9 rfl) (fun vs hvs => by cases hvs) h (fun vs hvs => nomatch hvs) (fun E hE hO1 hE1 hE4 hn1 hL1 hS1 H locs ls q ce hP hSS hl hce hcv hcl => ?_)
  cases hE
  refine xw_catch (E := 2) (pc2 := 18) (i := 6) (x := ⟨0, 13, 16, 13⟩) (pre := []) (suf := []) C hgw hNC (by decide) (by decide) (ht.trans rfl) (fun z hz => nomatch hz) rfl (by decide) (Or.inl ⟨dL_together_16, rfl⟩) (Nat.le_of_ble_eq_true rfl) hO1 hn1 hL1 ?_ hP hSS hl hce hcv hcl
  refine xs_iconst C dL_together_18 ?_
  exact xw_ireturn C dL_together_19 (by decide) (by decide) ⟨by decide, rfl⟩
theorem w_together_x {σ σ1 : Sg} {x y z : Int} {E : Nat} (hE : cdI E ≠ 0) (h : Ct 40 MX10_together (rV 19 0 :: [iV x, lV y, iV z]) σ (.inr E) σ1) : CtL yL_together (wW yL_together cL_together 7 [(0, 13, 16, 13)]) [rV 19 0, iV x, lV y, iV z, rV 35 88] σ (cdI E) (o80 σ σ1) := by
  by_cases e2 : E = 2
  · subst e2; exact w_together_2 h
  exact absurd (show cdI E = 0 by unfold cdI; rw [if_neg e2]) hE
set_option maxRecDepth 20000 in
theorem w_between {σ σ1 : Sg} {x y z : Int} {v : Int} (h : Ct 40 MX10_between (rV 19 0 :: [iV x, lV y, lV z]) σ (.inl [iV v]) σ1) : CtL yL_between (wW yL_between cL_between 8 [(0, 13, 16, 18)]) [rV 19 0, iV x, lV y, lV z, rV 35 88] σ 0 (upS (o80 σ σ1) 88 0 v) := by
  refine mk_W (by decide +kernel) rfl (Nat.le_of_ble_eq_true rfl) ?_
  intro p l e s m args below meth c K A h81 C hgw hNC ht
  have hC := clo_L (Q := QfW below K ((upS (o80 σ σ1) 88 0 v)) (0) args s A) (cl := 0) (sl := 0) (d := 40) (R := rmW) (p := p) (e := e) (below := below) h81 C (by decide) (by decide) (by decide) (by decide)
  refine st_aload hC dL_between_0 rfl (by decide) (by decide) ?_
  refine st_iconst hC dL_between_2 rfl ?_
  refine st_aload_n hC dL_between_3 rfl (by decide) (by decide) ?_
  refine st_iload_n hC dL_between_4 rfl ?_
  refine st_lload_n hC dL_between_5 rfl ?_
  refine st_lload hC dL_between_6 rfl ?_
  refine xs_callVH (d := 40) (t := 19) (a := 0) (As := [iV x, lV y, lV z]) (S := [iV 0, rV 35 88]) h81 C dL_between_8 (show look (CLt 12) 90 = some (MX10_between, false, 3) from rfl) rfl (by decide) (by decide) (by decide) (Nat.le_of_ble_eq_true rfl) (Nat.le_of_ble_eq_true rfl) ⟨9, by decide, rfl, by decide +kernel⟩ (n9 rfl) (fun vs hvs => by cases hvs; exact n9 rfl) h (fun vs hvs => ?_) (fun E hE => nomatch hE)
  cases hvs
  refine st_i2l hC dL_between_11 ?_
  refine xs_lastO h81 C dL_between_12 ?_
  refine st_goto (tg := 20) hC dL_between_13 rfl ?_
  refine st_iconst hC dL_between_20 rfl ?_
  exact xw_ireturn C dL_between_21 (by decide) (by decide) ⟨rfl, rfl⟩
set_option maxRecDepth 20000 in
theorem w_between_1 {σ σ1 : Sg} {x y z : Int} (h : Ct 40 MX10_between (rV 19 0 :: [iV x, lV y, lV z]) σ (.inr 1) σ1) : CtL yL_between (wW yL_between cL_between 8 [(0, 13, 16, 18)]) [rV 19 0, iV x, lV y, lV z, rV 35 88] σ 1 (o80 σ σ1) := by
  refine mk_W (by decide +kernel) rfl (Nat.le_of_ble_eq_true rfl) ?_
  intro p l e s m args below meth c K A h81 C hgw hNC ht
  have hC := clo_L (Q := QfW below K ((o80 σ σ1)) (1) args s A) (cl := 0) (sl := 0) (d := 40) (R := rmW) (p := p) (e := e) (below := below) h81 C (by decide) (by decide) (by decide) (by decide)
  refine st_aload hC dL_between_0 rfl (by decide) (by decide) ?_
  refine st_iconst hC dL_between_2 rfl ?_
  refine st_aload_n hC dL_between_3 rfl (by decide) (by decide) ?_
  refine st_iload_n hC dL_between_4 rfl ?_
  refine st_lload_n hC dL_between_5 rfl ?_
  refine st_lload hC dL_between_6 rfl ?_
  refine xs_callVH (d := 40) (t := 19) (a := 0) (As := [iV x, lV y, lV z]) (S := [iV 0, rV 35 88]) h81 C dL_between_8 (show look (CLt 12) 90 = some (MX10_between, false, 3) from rfl) rfl (by decide) (by decide) (by decide) (Nat.le_of_ble_eq_true rfl) (Nat.le_of_ble_eq_true rfl) ⟨9, by decide, rfl, by decide +kernel⟩ (n9 rfl) (fun vs hvs => by cases hvs) h (fun vs hvs => nomatch hvs) (fun E hE hO1 hE1 hE4 hn1 hL1 hS1 H locs ls q ce hP hSS hl hce hcv hcl => ?_)
  cases hE
  refine xw_catch (E := 1) (pc2 := 18) (i := 7) (x := ⟨0, 13, 16, 18⟩) (pre := []) (suf := []) C hgw hNC (by decide) (by decide) (ht.trans rfl) (fun z hz => nomatch hz) rfl (by decide) (Or.inl ⟨dL_between_16, rfl⟩) (Nat.le_of_ble_eq_true rfl) hO1 hn1 hL1 ?_ hP hSS hl hce hcv hcl
  refine xs_iconst C dL_between_18 ?_
  exact xw_ireturn C dL_between_19 (by decide) (by decide) ⟨by decide, rfl⟩
theorem w_between_x {σ σ1 : Sg} {x y z : Int} {E : Nat} (hE : cdN E ≠ 0) (h : Ct 40 MX10_between (rV 19 0 :: [iV x, lV y, lV z]) σ (.inr E) σ1) : CtL yL_between (wW yL_between cL_between 8 [(0, 13, 16, 18)]) [rV 19 0, iV x, lV y, lV z, rV 35 88] σ (cdN E) (o80 σ σ1) := by
  by_cases e1 : E = 1
  · subst e1; exact w_between_1 h
  exact absurd (show cdN E = 0 by unfold cdN; rw [if_neg e1]) hE
set_option maxRecDepth 20000 in
theorem w_dear {σ σ1 : Sg} {x y : Int} {v : Int} (h : Ct 40 MX10_dear (rV 19 0 :: [iV x, iV y]) σ (.inl [iV v]) σ1) : CtL yL_dear (wW yL_dear cL_dear 5 [(0, 10, 13, 18), (0, 10, 17, 13)]) [rV 19 0, iV x, iV y, rV 35 88] σ 0 (upS (o80 σ σ1) 88 0 v) := by
  refine mk_W (by decide +kernel) rfl (Nat.le_of_ble_eq_true rfl) ?_
  intro p l e s m args below meth c K A h81 C hgw hNC ht
  have hC := clo_L (Q := QfW below K ((upS (o80 σ σ1) 88 0 v)) (0) args s A) (cl := 0) (sl := 0) (d := 40) (R := rmW) (p := p) (e := e) (below := below) h81 C (by decide) (by decide) (by decide) (by decide)
  refine st_aload_n hC dL_dear_0 rfl (by decide) (by decide) ?_
  refine st_iconst hC dL_dear_1 rfl ?_
  refine st_aload_n hC dL_dear_2 rfl (by decide) (by decide) ?_
  refine st_iload_n hC dL_dear_3 rfl ?_
  refine st_iload_n hC dL_dear_4 rfl ?_
  refine xs_callVH (d := 40) (t := 19) (a := 0) (As := [iV x, iV y]) (S := [iV 0, rV 35 88]) h81 C dL_dear_5 (show look (CLt 12) 94 = some (MX10_dear, false, 2) from rfl) rfl (by decide) (by decide) (by decide) (Nat.le_of_ble_eq_true rfl) (Nat.le_of_ble_eq_true rfl) ⟨9, by decide, rfl, by decide +kernel⟩ (n9 rfl) (fun vs hvs => by cases hvs; exact n9 rfl) h (fun vs hvs => ?_) (fun E hE => nomatch hE)
  cases hvs
  refine st_i2l hC dL_dear_8 ?_
  refine xs_lastO h81 C dL_dear_9 ?_
  refine st_goto (tg := 21) hC dL_dear_10 rfl ?_
  refine st_iconst hC dL_dear_21 rfl ?_
  exact xw_ireturn C dL_dear_22 (by decide) (by decide) ⟨rfl, rfl⟩
set_option maxRecDepth 20000 in
theorem w_dear_1 {σ σ1 : Sg} {x y : Int} (h : Ct 40 MX10_dear (rV 19 0 :: [iV x, iV y]) σ (.inr 1) σ1) : CtL yL_dear (wW yL_dear cL_dear 5 [(0, 10, 13, 18), (0, 10, 17, 13)]) [rV 19 0, iV x, iV y, rV 35 88] σ 1 (o80 σ σ1) := by
  refine mk_W (by decide +kernel) rfl (Nat.le_of_ble_eq_true rfl) ?_
  intro p l e s m args below meth c K A h81 C hgw hNC ht
  have hC := clo_L (Q := QfW below K ((o80 σ σ1)) (1) args s A) (cl := 0) (sl := 0) (d := 40) (R := rmW) (p := p) (e := e) (below := below) h81 C (by decide) (by decide) (by decide) (by decide)
  refine st_aload_n hC dL_dear_0 rfl (by decide) (by decide) ?_
  refine st_iconst hC dL_dear_1 rfl ?_
  refine st_aload_n hC dL_dear_2 rfl (by decide) (by decide) ?_
  refine st_iload_n hC dL_dear_3 rfl ?_
  refine st_iload_n hC dL_dear_4 rfl ?_
  refine xs_callVH (d := 40) (t := 19) (a := 0) (As := [iV x, iV y]) (S := [iV 0, rV 35 88]) h81 C dL_dear_5 (show look (CLt 12) 94 = some (MX10_dear, false, 2) from rfl) rfl (by decide) (by decide) (by decide) (Nat.le_of_ble_eq_true rfl) (Nat.le_of_ble_eq_true rfl) ⟨9, by decide, rfl, by decide +kernel⟩ (n9 rfl) (fun vs hvs => by cases hvs) h (fun vs hvs => nomatch hvs) (fun E hE hO1 hE1 hE4 hn1 hL1 hS1 H locs ls q ce hP hSS hl hce hcv hcl => ?_)
  cases hE
  refine xw_catch (E := 1) (pc2 := 15) (i := 4) (x := ⟨0, 10, 13, 18⟩) (pre := []) (suf := [⟨0, 10, 17, 13⟩]) C hgw hNC (by decide) (by decide) (ht.trans rfl) (fun z hz => nomatch hz) rfl (by decide) (Or.inl ⟨dL_dear_13, rfl⟩) (Nat.le_of_ble_eq_true rfl) hO1 hn1 hL1 ?_ hP hSS hl hce hcv hcl
  refine xs_iconst C dL_dear_15 ?_
  exact xw_ireturn C dL_dear_16 (by decide) (by decide) ⟨by decide, rfl⟩
set_option maxRecDepth 20000 in
theorem w_dear_2 {σ σ1 : Sg} {x y : Int} (h : Ct 40 MX10_dear (rV 19 0 :: [iV x, iV y]) σ (.inr 2) σ1) : CtL yL_dear (wW yL_dear cL_dear 5 [(0, 10, 13, 18), (0, 10, 17, 13)]) [rV 19 0, iV x, iV y, rV 35 88] σ 2 (o80 σ σ1) := by
  refine mk_W (by decide +kernel) rfl (Nat.le_of_ble_eq_true rfl) ?_
  intro p l e s m args below meth c K A h81 C hgw hNC ht
  have hC := clo_L (Q := QfW below K ((o80 σ σ1)) (2) args s A) (cl := 0) (sl := 0) (d := 40) (R := rmW) (p := p) (e := e) (below := below) h81 C (by decide) (by decide) (by decide) (by decide)
  refine st_aload_n hC dL_dear_0 rfl (by decide) (by decide) ?_
  refine st_iconst hC dL_dear_1 rfl ?_
  refine st_aload_n hC dL_dear_2 rfl (by decide) (by decide) ?_
  refine st_iload_n hC dL_dear_3 rfl ?_
  refine st_iload_n hC dL_dear_4 rfl ?_
  refine xs_callVH (d := 40) (t := 19) (a := 0) (As := [iV x, iV y]) (S := [iV 0, rV 35 88]) h81 C dL_dear_5 (show look (CLt 12) 94 = some (MX10_dear, false, 2) from rfl) rfl (by decide) (by decide) (by decide) (Nat.le_of_ble_eq_true rfl) (Nat.le_of_ble_eq_true rfl) ⟨9, by decide, rfl, by decide +kernel⟩ (n9 rfl) (fun vs hvs => by cases hvs) h (fun vs hvs => nomatch hvs) (fun E hE hO1 hE1 hE4 hn1 hL1 hS1 H locs ls q ce hP hSS hl hce hcv hcl => ?_)
  cases hE
  refine xw_catch (E := 2) (pc2 := 19) (i := 4) (x := ⟨0, 10, 17, 13⟩) (pre := [⟨0, 10, 13, 18⟩]) (suf := []) C hgw hNC (by decide) (by decide) (ht.trans rfl) (fun z hz => by cases hz with
    | head => exact ⟨1, by decide, by decide, by decide, rfl⟩
    | tail _ h9 => nomatch h9) rfl (by decide) (Or.inl ⟨dL_dear_17, rfl⟩) (Nat.le_of_ble_eq_true rfl) hO1 hn1 hL1 ?_ hP hSS hl hce hcv hcl
  refine xs_iconst C dL_dear_19 ?_
  exact xw_ireturn C dL_dear_20 (by decide) (by decide) ⟨by decide, rfl⟩
theorem w_dear_x {σ σ1 : Sg} {x y : Int} {E : Nat} (hE : cdNI E ≠ 0) (h : Ct 40 MX10_dear (rV 19 0 :: [iV x, iV y]) σ (.inr E) σ1) : CtL yL_dear (wW yL_dear cL_dear 5 [(0, 10, 13, 18), (0, 10, 17, 13)]) [rV 19 0, iV x, iV y, rV 35 88] σ (cdNI E) (o80 σ σ1) := by
  by_cases e1 : E = 1
  · subst e1; exact w_dear_1 h
  by_cases e2 : E = 2
  · subst e2; exact w_dear_2 h
  exact absurd (show cdNI E = 0 by unfold cdNI; rw [if_neg e1, if_neg e2]) hE
set_option maxRecDepth 20000 in
theorem w_grows {σ σ1 : Sg} {x y : Int} {v : Int} (h : Ct 40 MX10_grows (rV 19 0 :: [iV x, iV y]) σ (.inl [lV v]) σ1) : CtL yL_grows (wW yL_grows cL_grows 5 [(0, 9, 12, 18), (0, 9, 16, 13)]) [rV 19 0, iV x, iV y, rV 35 88] σ 0 (upS (o80 σ σ1) 88 0 v) := by
  refine mk_W (by decide +kernel) rfl (Nat.le_of_ble_eq_true rfl) ?_
  intro p l e s m args below meth c K A h81 C hgw hNC ht
  have hC := clo_L (Q := QfW below K ((upS (o80 σ σ1) 88 0 v)) (0) args s A) (cl := 0) (sl := 0) (d := 40) (R := rmW) (p := p) (e := e) (below := below) h81 C (by decide) (by decide) (by decide) (by decide)
  refine st_aload_n hC dL_grows_0 rfl (by decide) (by decide) ?_
  refine st_iconst hC dL_grows_1 rfl ?_
  refine st_aload_n hC dL_grows_2 rfl (by decide) (by decide) ?_
  refine st_iload_n hC dL_grows_3 rfl ?_
  refine st_iload_n hC dL_grows_4 rfl ?_
  refine xs_callVH (d := 40) (t := 19) (a := 0) (As := [iV x, iV y]) (S := [iV 0, rV 35 88]) h81 C dL_grows_5 (show look (CLt 12) 97 = some (MX10_grows, false, 2) from rfl) rfl (by decide) (by decide) (by decide) (Nat.le_of_ble_eq_true rfl) (Nat.le_of_ble_eq_true rfl) ⟨9, by decide, rfl, by decide +kernel⟩ (n9 rfl) (fun vs hvs => by cases hvs; exact n9 rfl) h (fun vs hvs => ?_) (fun E hE => nomatch hE)
  cases hvs
  refine xs_lastO h81 C dL_grows_8 ?_
  refine st_goto (tg := 20) hC dL_grows_9 rfl ?_
  refine st_iconst hC dL_grows_20 rfl ?_
  exact xw_ireturn C dL_grows_21 (by decide) (by decide) ⟨rfl, rfl⟩
set_option maxRecDepth 20000 in
theorem w_grows_1 {σ σ1 : Sg} {x y : Int} (h : Ct 40 MX10_grows (rV 19 0 :: [iV x, iV y]) σ (.inr 1) σ1) : CtL yL_grows (wW yL_grows cL_grows 5 [(0, 9, 12, 18), (0, 9, 16, 13)]) [rV 19 0, iV x, iV y, rV 35 88] σ 1 (o80 σ σ1) := by
  refine mk_W (by decide +kernel) rfl (Nat.le_of_ble_eq_true rfl) ?_
  intro p l e s m args below meth c K A h81 C hgw hNC ht
  have hC := clo_L (Q := QfW below K ((o80 σ σ1)) (1) args s A) (cl := 0) (sl := 0) (d := 40) (R := rmW) (p := p) (e := e) (below := below) h81 C (by decide) (by decide) (by decide) (by decide)
  refine st_aload_n hC dL_grows_0 rfl (by decide) (by decide) ?_
  refine st_iconst hC dL_grows_1 rfl ?_
  refine st_aload_n hC dL_grows_2 rfl (by decide) (by decide) ?_
  refine st_iload_n hC dL_grows_3 rfl ?_
  refine st_iload_n hC dL_grows_4 rfl ?_
  refine xs_callVH (d := 40) (t := 19) (a := 0) (As := [iV x, iV y]) (S := [iV 0, rV 35 88]) h81 C dL_grows_5 (show look (CLt 12) 97 = some (MX10_grows, false, 2) from rfl) rfl (by decide) (by decide) (by decide) (Nat.le_of_ble_eq_true rfl) (Nat.le_of_ble_eq_true rfl) ⟨9, by decide, rfl, by decide +kernel⟩ (n9 rfl) (fun vs hvs => by cases hvs) h (fun vs hvs => nomatch hvs) (fun E hE hO1 hE1 hE4 hn1 hL1 hS1 H locs ls q ce hP hSS hl hce hcv hcl => ?_)
  cases hE
  refine xw_catch (E := 1) (pc2 := 14) (i := 4) (x := ⟨0, 9, 12, 18⟩) (pre := []) (suf := [⟨0, 9, 16, 13⟩]) C hgw hNC (by decide) (by decide) (ht.trans rfl) (fun z hz => nomatch hz) rfl (by decide) (Or.inl ⟨dL_grows_12, rfl⟩) (Nat.le_of_ble_eq_true rfl) hO1 hn1 hL1 ?_ hP hSS hl hce hcv hcl
  refine xs_iconst C dL_grows_14 ?_
  exact xw_ireturn C dL_grows_15 (by decide) (by decide) ⟨by decide, rfl⟩
set_option maxRecDepth 20000 in
theorem w_grows_2 {σ σ1 : Sg} {x y : Int} (h : Ct 40 MX10_grows (rV 19 0 :: [iV x, iV y]) σ (.inr 2) σ1) : CtL yL_grows (wW yL_grows cL_grows 5 [(0, 9, 12, 18), (0, 9, 16, 13)]) [rV 19 0, iV x, iV y, rV 35 88] σ 2 (o80 σ σ1) := by
  refine mk_W (by decide +kernel) rfl (Nat.le_of_ble_eq_true rfl) ?_
  intro p l e s m args below meth c K A h81 C hgw hNC ht
  have hC := clo_L (Q := QfW below K ((o80 σ σ1)) (2) args s A) (cl := 0) (sl := 0) (d := 40) (R := rmW) (p := p) (e := e) (below := below) h81 C (by decide) (by decide) (by decide) (by decide)
  refine st_aload_n hC dL_grows_0 rfl (by decide) (by decide) ?_
  refine st_iconst hC dL_grows_1 rfl ?_
  refine st_aload_n hC dL_grows_2 rfl (by decide) (by decide) ?_
  refine st_iload_n hC dL_grows_3 rfl ?_
  refine st_iload_n hC dL_grows_4 rfl ?_
  refine xs_callVH (d := 40) (t := 19) (a := 0) (As := [iV x, iV y]) (S := [iV 0, rV 35 88]) h81 C dL_grows_5 (show look (CLt 12) 97 = some (MX10_grows, false, 2) from rfl) rfl (by decide) (by decide) (by decide) (Nat.le_of_ble_eq_true rfl) (Nat.le_of_ble_eq_true rfl) ⟨9, by decide, rfl, by decide +kernel⟩ (n9 rfl) (fun vs hvs => by cases hvs) h (fun vs hvs => nomatch hvs) (fun E hE hO1 hE1 hE4 hn1 hL1 hS1 H locs ls q ce hP hSS hl hce hcv hcl => ?_)
  cases hE
  refine xw_catch (E := 2) (pc2 := 18) (i := 4) (x := ⟨0, 9, 16, 13⟩) (pre := [⟨0, 9, 12, 18⟩]) (suf := []) C hgw hNC (by decide) (by decide) (ht.trans rfl) (fun z hz => by cases hz with
    | head => exact ⟨1, by decide, by decide, by decide, rfl⟩
    | tail _ h9 => nomatch h9) rfl (by decide) (Or.inl ⟨dL_grows_16, rfl⟩) (Nat.le_of_ble_eq_true rfl) hO1 hn1 hL1 ?_ hP hSS hl hce hcv hcl
  refine xs_iconst C dL_grows_18 ?_
  exact xw_ireturn C dL_grows_19 (by decide) (by decide) ⟨by decide, rfl⟩
theorem w_grows_x {σ σ1 : Sg} {x y : Int} {E : Nat} (hE : cdNI E ≠ 0) (h : Ct 40 MX10_grows (rV 19 0 :: [iV x, iV y]) σ (.inr E) σ1) : CtL yL_grows (wW yL_grows cL_grows 5 [(0, 9, 12, 18), (0, 9, 16, 13)]) [rV 19 0, iV x, iV y, rV 35 88] σ (cdNI E) (o80 σ σ1) := by
  by_cases e1 : E = 1
  · subst e1; exact w_grows_1 h
  by_cases e2 : E = 2
  · subst e2; exact w_grows_2 h
  exact absurd (show cdNI E = 0 by unfold cdNI; rw [if_neg e1, if_neg e2]) hE
set_option maxRecDepth 20000 in
theorem w_swap {σ σ1 : Sg} {x y z : Int} {v : Int} (h : Ct 40 MX10_swap (rV 19 0 :: [iV x, iV y, iV z]) σ (.inl [lV v]) σ1) : CtL yL_swap (wW yL_swap cL_swap 6 [(0, 11, 14, 18), (0, 11, 18, 13)]) [rV 19 0, iV x, iV y, iV z, rV 35 88] σ 0 (upS (o80 σ σ1) 88 0 v) := by
  refine mk_W (by decide +kernel) rfl (Nat.le_of_ble_eq_true rfl) ?_
  intro p l e s m args below meth c K A h81 C hgw hNC ht
  have hC := clo_L (Q := QfW below K ((upS (o80 σ σ1) 88 0 v)) (0) args s A) (cl := 0) (sl := 0) (d := 40) (R := rmW) (p := p) (e := e) (below := below) h81 C (by decide) (by decide) (by decide) (by decide)
  refine st_aload hC dL_swap_0 rfl (by decide) (by decide) ?_
  refine st_iconst hC dL_swap_2 rfl ?_
  refine st_aload_n hC dL_swap_3 rfl (by decide) (by decide) ?_
  refine st_iload_n hC dL_swap_4 rfl ?_
  refine st_iload_n hC dL_swap_5 rfl ?_
  refine st_iload_n hC dL_swap_6 rfl ?_
  refine xs_callVH (d := 40) (t := 19) (a := 0) (As := [iV x, iV y, iV z]) (S := [iV 0, rV 35 88]) h81 C dL_swap_7 (show look (CLt 12) 100 = some (MX10_swap, false, 3) from rfl) rfl (by decide) (by decide) (by decide) (Nat.le_of_ble_eq_true rfl) (Nat.le_of_ble_eq_true rfl) ⟨9, by decide, rfl, by decide +kernel⟩ (n9 rfl) (fun vs hvs => by cases hvs; exact n9 rfl) h (fun vs hvs => ?_) (fun E hE => nomatch hE)
  cases hvs
  refine xs_lastO h81 C dL_swap_10 ?_
  refine st_goto (tg := 22) hC dL_swap_11 rfl ?_
  refine st_iconst hC dL_swap_22 rfl ?_
  exact xw_ireturn C dL_swap_23 (by decide) (by decide) ⟨rfl, rfl⟩
set_option maxRecDepth 20000 in
theorem w_swap_1 {σ σ1 : Sg} {x y z : Int} (h : Ct 40 MX10_swap (rV 19 0 :: [iV x, iV y, iV z]) σ (.inr 1) σ1) : CtL yL_swap (wW yL_swap cL_swap 6 [(0, 11, 14, 18), (0, 11, 18, 13)]) [rV 19 0, iV x, iV y, iV z, rV 35 88] σ 1 (o80 σ σ1) := by
  refine mk_W (by decide +kernel) rfl (Nat.le_of_ble_eq_true rfl) ?_
  intro p l e s m args below meth c K A h81 C hgw hNC ht
  have hC := clo_L (Q := QfW below K ((o80 σ σ1)) (1) args s A) (cl := 0) (sl := 0) (d := 40) (R := rmW) (p := p) (e := e) (below := below) h81 C (by decide) (by decide) (by decide) (by decide)
  refine st_aload hC dL_swap_0 rfl (by decide) (by decide) ?_
  refine st_iconst hC dL_swap_2 rfl ?_
  refine st_aload_n hC dL_swap_3 rfl (by decide) (by decide) ?_
  refine st_iload_n hC dL_swap_4 rfl ?_
  refine st_iload_n hC dL_swap_5 rfl ?_
  refine st_iload_n hC dL_swap_6 rfl ?_
  refine xs_callVH (d := 40) (t := 19) (a := 0) (As := [iV x, iV y, iV z]) (S := [iV 0, rV 35 88]) h81 C dL_swap_7 (show look (CLt 12) 100 = some (MX10_swap, false, 3) from rfl) rfl (by decide) (by decide) (by decide) (Nat.le_of_ble_eq_true rfl) (Nat.le_of_ble_eq_true rfl) ⟨9, by decide, rfl, by decide +kernel⟩ (n9 rfl) (fun vs hvs => by cases hvs) h (fun vs hvs => nomatch hvs) (fun E hE hO1 hE1 hE4 hn1 hL1 hS1 H locs ls q ce hP hSS hl hce hcv hcl => ?_)
  cases hE
  refine xw_catch (E := 1) (pc2 := 16) (i := 5) (x := ⟨0, 11, 14, 18⟩) (pre := []) (suf := [⟨0, 11, 18, 13⟩]) C hgw hNC (by decide) (by decide) (ht.trans rfl) (fun z hz => nomatch hz) rfl (by decide) (Or.inl ⟨dL_swap_14, rfl⟩) (Nat.le_of_ble_eq_true rfl) hO1 hn1 hL1 ?_ hP hSS hl hce hcv hcl
  refine xs_iconst C dL_swap_16 ?_
  exact xw_ireturn C dL_swap_17 (by decide) (by decide) ⟨by decide, rfl⟩
set_option maxRecDepth 20000 in
theorem w_swap_2 {σ σ1 : Sg} {x y z : Int} (h : Ct 40 MX10_swap (rV 19 0 :: [iV x, iV y, iV z]) σ (.inr 2) σ1) : CtL yL_swap (wW yL_swap cL_swap 6 [(0, 11, 14, 18), (0, 11, 18, 13)]) [rV 19 0, iV x, iV y, iV z, rV 35 88] σ 2 (o80 σ σ1) := by
  refine mk_W (by decide +kernel) rfl (Nat.le_of_ble_eq_true rfl) ?_
  intro p l e s m args below meth c K A h81 C hgw hNC ht
  have hC := clo_L (Q := QfW below K ((o80 σ σ1)) (2) args s A) (cl := 0) (sl := 0) (d := 40) (R := rmW) (p := p) (e := e) (below := below) h81 C (by decide) (by decide) (by decide) (by decide)
  refine st_aload hC dL_swap_0 rfl (by decide) (by decide) ?_
  refine st_iconst hC dL_swap_2 rfl ?_
  refine st_aload_n hC dL_swap_3 rfl (by decide) (by decide) ?_
  refine st_iload_n hC dL_swap_4 rfl ?_
  refine st_iload_n hC dL_swap_5 rfl ?_
  refine st_iload_n hC dL_swap_6 rfl ?_
  refine xs_callVH (d := 40) (t := 19) (a := 0) (As := [iV x, iV y, iV z]) (S := [iV 0, rV 35 88]) h81 C dL_swap_7 (show look (CLt 12) 100 = some (MX10_swap, false, 3) from rfl) rfl (by decide) (by decide) (by decide) (Nat.le_of_ble_eq_true rfl) (Nat.le_of_ble_eq_true rfl) ⟨9, by decide, rfl, by decide +kernel⟩ (n9 rfl) (fun vs hvs => by cases hvs) h (fun vs hvs => nomatch hvs) (fun E hE hO1 hE1 hE4 hn1 hL1 hS1 H locs ls q ce hP hSS hl hce hcv hcl => ?_)
  cases hE
  refine xw_catch (E := 2) (pc2 := 20) (i := 5) (x := ⟨0, 11, 18, 13⟩) (pre := [⟨0, 11, 14, 18⟩]) (suf := []) C hgw hNC (by decide) (by decide) (ht.trans rfl) (fun z hz => by cases hz with
    | head => exact ⟨1, by decide, by decide, by decide, rfl⟩
    | tail _ h9 => nomatch h9) rfl (by decide) (Or.inl ⟨dL_swap_18, rfl⟩) (Nat.le_of_ble_eq_true rfl) hO1 hn1 hL1 ?_ hP hSS hl hce hcv hcl
  refine xs_iconst C dL_swap_20 ?_
  exact xw_ireturn C dL_swap_21 (by decide) (by decide) ⟨by decide, rfl⟩
theorem w_swap_x {σ σ1 : Sg} {x y z : Int} {E : Nat} (hE : cdNI E ≠ 0) (h : Ct 40 MX10_swap (rV 19 0 :: [iV x, iV y, iV z]) σ (.inr E) σ1) : CtL yL_swap (wW yL_swap cL_swap 6 [(0, 11, 14, 18), (0, 11, 18, 13)]) [rV 19 0, iV x, iV y, iV z, rV 35 88] σ (cdNI E) (o80 σ σ1) := by
  by_cases e1 : E = 1
  · subst e1; exact w_swap_1 h
  by_cases e2 : E = 2
  · subst e2; exact w_swap_2 h
  exact absurd (show cdNI E = 0 by unfold cdNI; rw [if_neg e1, if_neg e2]) hE
set_option maxRecDepth 20000 in
theorem w_common {σ σ1 : Sg} {x y : Int} {v : Int} (h : Ct 40 MX10_common (rV 19 0 :: [iV x, iV y]) σ (.inl [lV v]) σ1) : CtL yL_common (wW yL_common cL_common 5 [(0, 9, 12, 18)]) [rV 19 0, iV x, iV y, rV 35 88] σ 0 (upS (o80 σ σ1) 88 0 v) := by
  refine mk_W (by decide +kernel) rfl (Nat.le_of_ble_eq_true rfl) ?_
  intro p l e s m args below meth c K A h81 C hgw hNC ht
  have hC := clo_L (Q := QfW below K ((upS (o80 σ σ1) 88 0 v)) (0) args s A) (cl := 0) (sl := 0) (d := 40) (R := rmW) (p := p) (e := e) (below := below) h81 C (by decide) (by decide) (by decide) (by decide)
  refine st_aload_n hC dL_common_0 rfl (by decide) (by decide) ?_
  refine st_iconst hC dL_common_1 rfl ?_
  refine st_aload_n hC dL_common_2 rfl (by decide) (by decide) ?_
  refine st_iload_n hC dL_common_3 rfl ?_
  refine st_iload_n hC dL_common_4 rfl ?_
  refine xs_callVH (d := 40) (t := 19) (a := 0) (As := [iV x, iV y]) (S := [iV 0, rV 35 88]) h81 C dL_common_5 (show look (CLt 12) 104 = some (MX10_common, false, 2) from rfl) rfl (by decide) (by decide) (by decide) (Nat.le_of_ble_eq_true rfl) (Nat.le_of_ble_eq_true rfl) ⟨9, by decide, rfl, by decide +kernel⟩ (n9 rfl) (fun vs hvs => by cases hvs; exact n9 rfl) h (fun vs hvs => ?_) (fun E hE => nomatch hE)
  cases hvs
  refine xs_lastO h81 C dL_common_8 ?_
  refine st_goto (tg := 16) hC dL_common_9 rfl ?_
  refine st_iconst hC dL_common_16 rfl ?_
  exact xw_ireturn C dL_common_17 (by decide) (by decide) ⟨rfl, rfl⟩
set_option maxRecDepth 20000 in
theorem w_common_1 {σ σ1 : Sg} {x y : Int} (h : Ct 40 MX10_common (rV 19 0 :: [iV x, iV y]) σ (.inr 1) σ1) : CtL yL_common (wW yL_common cL_common 5 [(0, 9, 12, 18)]) [rV 19 0, iV x, iV y, rV 35 88] σ 1 (o80 σ σ1) := by
  refine mk_W (by decide +kernel) rfl (Nat.le_of_ble_eq_true rfl) ?_
  intro p l e s m args below meth c K A h81 C hgw hNC ht
  have hC := clo_L (Q := QfW below K ((o80 σ σ1)) (1) args s A) (cl := 0) (sl := 0) (d := 40) (R := rmW) (p := p) (e := e) (below := below) h81 C (by decide) (by decide) (by decide) (by decide)
  refine st_aload_n hC dL_common_0 rfl (by decide) (by decide) ?_
  refine st_iconst hC dL_common_1 rfl ?_
  refine st_aload_n hC dL_common_2 rfl (by decide) (by decide) ?_
  refine st_iload_n hC dL_common_3 rfl ?_
  refine st_iload_n hC dL_common_4 rfl ?_
  refine xs_callVH (d := 40) (t := 19) (a := 0) (As := [iV x, iV y]) (S := [iV 0, rV 35 88]) h81 C dL_common_5 (show look (CLt 12) 104 = some (MX10_common, false, 2) from rfl) rfl (by decide) (by decide) (by decide) (Nat.le_of_ble_eq_true rfl) (Nat.le_of_ble_eq_true rfl) ⟨9, by decide, rfl, by decide +kernel⟩ (n9 rfl) (fun vs hvs => by cases hvs) h (fun vs hvs => nomatch hvs) (fun E hE hO1 hE1 hE4 hn1 hL1 hS1 H locs ls q ce hP hSS hl hce hcv hcl => ?_)
  cases hE
  refine xw_catch (E := 1) (pc2 := 14) (i := 4) (x := ⟨0, 9, 12, 18⟩) (pre := []) (suf := []) C hgw hNC (by decide) (by decide) (ht.trans rfl) (fun z hz => nomatch hz) rfl (by decide) (Or.inl ⟨dL_common_12, rfl⟩) (Nat.le_of_ble_eq_true rfl) hO1 hn1 hL1 ?_ hP hSS hl hce hcv hcl
  refine xs_iconst C dL_common_14 ?_
  exact xw_ireturn C dL_common_15 (by decide) (by decide) ⟨by decide, rfl⟩
theorem w_common_x {σ σ1 : Sg} {x y : Int} {E : Nat} (hE : cdN E ≠ 0) (h : Ct 40 MX10_common (rV 19 0 :: [iV x, iV y]) σ (.inr E) σ1) : CtL yL_common (wW yL_common cL_common 5 [(0, 9, 12, 18)]) [rV 19 0, iV x, iV y, rV 35 88] σ (cdN E) (o80 σ σ1) := by
  by_cases e1 : E = 1
  · subst e1; exact w_common_1 h
  exact absurd (show cdN E = 0 by unfold cdN; rw [if_neg e1]) hE
set_option maxRecDepth 20000 in
theorem w_least {σ σ1 : Sg} {x y : Int} {v : Int} (h : Ct 40 MX10_least (rV 19 0 :: [iV x, iV y]) σ (.inl [iV v]) σ1) : CtL yL_least (wW yL_least cL_least 5 [(0, 10, 13, 18)]) [rV 19 0, iV x, iV y, rV 35 88] σ 0 (upS (o80 σ σ1) 88 0 v) := by
  refine mk_W (by decide +kernel) rfl (Nat.le_of_ble_eq_true rfl) ?_
  intro p l e s m args below meth c K A h81 C hgw hNC ht
  have hC := clo_L (Q := QfW below K ((upS (o80 σ σ1) 88 0 v)) (0) args s A) (cl := 0) (sl := 0) (d := 40) (R := rmW) (p := p) (e := e) (below := below) h81 C (by decide) (by decide) (by decide) (by decide)
  refine st_aload_n hC dL_least_0 rfl (by decide) (by decide) ?_
  refine st_iconst hC dL_least_1 rfl ?_
  refine st_aload_n hC dL_least_2 rfl (by decide) (by decide) ?_
  refine st_iload_n hC dL_least_3 rfl ?_
  refine st_iload_n hC dL_least_4 rfl ?_
  refine xs_callVH (d := 40) (t := 19) (a := 0) (As := [iV x, iV y]) (S := [iV 0, rV 35 88]) h81 C dL_least_5 (show look (CLt 12) 107 = some (MX10_least, false, 2) from rfl) rfl (by decide) (by decide) (by decide) (Nat.le_of_ble_eq_true rfl) (Nat.le_of_ble_eq_true rfl) ⟨9, by decide, rfl, by decide +kernel⟩ (n9 rfl) (fun vs hvs => by cases hvs; exact n9 rfl) h (fun vs hvs => ?_) (fun E hE => nomatch hE)
  cases hvs
  refine st_i2l hC dL_least_8 ?_
  refine xs_lastO h81 C dL_least_9 ?_
  refine st_goto (tg := 17) hC dL_least_10 rfl ?_
  refine st_iconst hC dL_least_17 rfl ?_
  exact xw_ireturn C dL_least_18 (by decide) (by decide) ⟨rfl, rfl⟩
set_option maxRecDepth 20000 in
theorem w_least_1 {σ σ1 : Sg} {x y : Int} (h : Ct 40 MX10_least (rV 19 0 :: [iV x, iV y]) σ (.inr 1) σ1) : CtL yL_least (wW yL_least cL_least 5 [(0, 10, 13, 18)]) [rV 19 0, iV x, iV y, rV 35 88] σ 1 (o80 σ σ1) := by
  refine mk_W (by decide +kernel) rfl (Nat.le_of_ble_eq_true rfl) ?_
  intro p l e s m args below meth c K A h81 C hgw hNC ht
  have hC := clo_L (Q := QfW below K ((o80 σ σ1)) (1) args s A) (cl := 0) (sl := 0) (d := 40) (R := rmW) (p := p) (e := e) (below := below) h81 C (by decide) (by decide) (by decide) (by decide)
  refine st_aload_n hC dL_least_0 rfl (by decide) (by decide) ?_
  refine st_iconst hC dL_least_1 rfl ?_
  refine st_aload_n hC dL_least_2 rfl (by decide) (by decide) ?_
  refine st_iload_n hC dL_least_3 rfl ?_
  refine st_iload_n hC dL_least_4 rfl ?_
  refine xs_callVH (d := 40) (t := 19) (a := 0) (As := [iV x, iV y]) (S := [iV 0, rV 35 88]) h81 C dL_least_5 (show look (CLt 12) 107 = some (MX10_least, false, 2) from rfl) rfl (by decide) (by decide) (by decide) (Nat.le_of_ble_eq_true rfl) (Nat.le_of_ble_eq_true rfl) ⟨9, by decide, rfl, by decide +kernel⟩ (n9 rfl) (fun vs hvs => by cases hvs) h (fun vs hvs => nomatch hvs) (fun E hE hO1 hE1 hE4 hn1 hL1 hS1 H locs ls q ce hP hSS hl hce hcv hcl => ?_)
  cases hE
  refine xw_catch (E := 1) (pc2 := 15) (i := 4) (x := ⟨0, 10, 13, 18⟩) (pre := []) (suf := []) C hgw hNC (by decide) (by decide) (ht.trans rfl) (fun z hz => nomatch hz) rfl (by decide) (Or.inl ⟨dL_least_13, rfl⟩) (Nat.le_of_ble_eq_true rfl) hO1 hn1 hL1 ?_ hP hSS hl hce hcv hcl
  refine xs_iconst C dL_least_15 ?_
  exact xw_ireturn C dL_least_16 (by decide) (by decide) ⟨by decide, rfl⟩
theorem w_least_x {σ σ1 : Sg} {x y : Int} {E : Nat} (hE : cdN E ≠ 0) (h : Ct 40 MX10_least (rV 19 0 :: [iV x, iV y]) σ (.inr E) σ1) : CtL yL_least (wW yL_least cL_least 5 [(0, 10, 13, 18)]) [rV 19 0, iV x, iV y, rV 35 88] σ (cdN E) (o80 σ σ1) := by
  by_cases e1 : E = 1
  · subst e1; exact w_least_1 h
  exact absurd (show cdN E = 0 by unfold cdN; rw [if_neg e1]) hE
set_option maxRecDepth 20000 in
theorem w_stolen {σ σ1 : Sg} {x y z : Int} {v : Int} (h : Ct 40 MX10_stolen (rV 19 0 :: [iV x, lV y, lV z]) σ (.inl [iV v]) σ1) : CtL yL_stolen (wW yL_stolen cL_stolen 8 [(0, 13, 16, 18), (0, 13, 20, 13)]) [rV 19 0, iV x, lV y, lV z, rV 35 88] σ 0 (upS (o80 σ σ1) 88 0 v) := by
  refine mk_W (by decide +kernel) rfl (Nat.le_of_ble_eq_true rfl) ?_
  intro p l e s m args below meth c K A h81 C hgw hNC ht
  have hC := clo_L (Q := QfW below K ((upS (o80 σ σ1) 88 0 v)) (0) args s A) (cl := 0) (sl := 0) (d := 40) (R := rmW) (p := p) (e := e) (below := below) h81 C (by decide) (by decide) (by decide) (by decide)
  refine st_aload hC dL_stolen_0 rfl (by decide) (by decide) ?_
  refine st_iconst hC dL_stolen_2 rfl ?_
  refine st_aload_n hC dL_stolen_3 rfl (by decide) (by decide) ?_
  refine st_iload_n hC dL_stolen_4 rfl ?_
  refine st_lload_n hC dL_stolen_5 rfl ?_
  refine st_lload hC dL_stolen_6 rfl ?_
  refine xs_callVH (d := 40) (t := 19) (a := 0) (As := [iV x, lV y, lV z]) (S := [iV 0, rV 35 88]) h81 C dL_stolen_8 (show look (CLt 12) 110 = some (MX10_stolen, false, 3) from rfl) rfl (by decide) (by decide) (by decide) (Nat.le_of_ble_eq_true rfl) (Nat.le_of_ble_eq_true rfl) ⟨9, by decide, rfl, by decide +kernel⟩ (n9 rfl) (fun vs hvs => by cases hvs; exact n9 rfl) h (fun vs hvs => ?_) (fun E hE => nomatch hE)
  cases hvs
  refine st_i2l hC dL_stolen_11 ?_
  refine xs_lastO h81 C dL_stolen_12 ?_
  refine st_goto (tg := 24) hC dL_stolen_13 rfl ?_
  refine st_iconst hC dL_stolen_24 rfl ?_
  exact xw_ireturn C dL_stolen_25 (by decide) (by decide) ⟨rfl, rfl⟩
set_option maxRecDepth 20000 in
theorem w_stolen_1 {σ σ1 : Sg} {x y z : Int} (h : Ct 40 MX10_stolen (rV 19 0 :: [iV x, lV y, lV z]) σ (.inr 1) σ1) : CtL yL_stolen (wW yL_stolen cL_stolen 8 [(0, 13, 16, 18), (0, 13, 20, 13)]) [rV 19 0, iV x, lV y, lV z, rV 35 88] σ 1 (o80 σ σ1) := by
  refine mk_W (by decide +kernel) rfl (Nat.le_of_ble_eq_true rfl) ?_
  intro p l e s m args below meth c K A h81 C hgw hNC ht
  have hC := clo_L (Q := QfW below K ((o80 σ σ1)) (1) args s A) (cl := 0) (sl := 0) (d := 40) (R := rmW) (p := p) (e := e) (below := below) h81 C (by decide) (by decide) (by decide) (by decide)
  refine st_aload hC dL_stolen_0 rfl (by decide) (by decide) ?_
  refine st_iconst hC dL_stolen_2 rfl ?_
  refine st_aload_n hC dL_stolen_3 rfl (by decide) (by decide) ?_
  refine st_iload_n hC dL_stolen_4 rfl ?_
  refine st_lload_n hC dL_stolen_5 rfl ?_
  refine st_lload hC dL_stolen_6 rfl ?_
  refine xs_callVH (d := 40) (t := 19) (a := 0) (As := [iV x, lV y, lV z]) (S := [iV 0, rV 35 88]) h81 C dL_stolen_8 (show look (CLt 12) 110 = some (MX10_stolen, false, 3) from rfl) rfl (by decide) (by decide) (by decide) (Nat.le_of_ble_eq_true rfl) (Nat.le_of_ble_eq_true rfl) ⟨9, by decide, rfl, by decide +kernel⟩ (n9 rfl) (fun vs hvs => by cases hvs) h (fun vs hvs => nomatch hvs) (fun E hE hO1 hE1 hE4 hn1 hL1 hS1 H locs ls q ce hP hSS hl hce hcv hcl => ?_)
  cases hE
  refine xw_catch (E := 1) (pc2 := 18) (i := 7) (x := ⟨0, 13, 16, 18⟩) (pre := []) (suf := [⟨0, 13, 20, 13⟩]) C hgw hNC (by decide) (by decide) (ht.trans rfl) (fun z hz => nomatch hz) rfl (by decide) (Or.inl ⟨dL_stolen_16, rfl⟩) (Nat.le_of_ble_eq_true rfl) hO1 hn1 hL1 ?_ hP hSS hl hce hcv hcl
  refine xs_iconst C dL_stolen_18 ?_
  exact xw_ireturn C dL_stolen_19 (by decide) (by decide) ⟨by decide, rfl⟩
set_option maxRecDepth 20000 in
theorem w_stolen_2 {σ σ1 : Sg} {x y z : Int} (h : Ct 40 MX10_stolen (rV 19 0 :: [iV x, lV y, lV z]) σ (.inr 2) σ1) : CtL yL_stolen (wW yL_stolen cL_stolen 8 [(0, 13, 16, 18), (0, 13, 20, 13)]) [rV 19 0, iV x, lV y, lV z, rV 35 88] σ 2 (o80 σ σ1) := by
  refine mk_W (by decide +kernel) rfl (Nat.le_of_ble_eq_true rfl) ?_
  intro p l e s m args below meth c K A h81 C hgw hNC ht
  have hC := clo_L (Q := QfW below K ((o80 σ σ1)) (2) args s A) (cl := 0) (sl := 0) (d := 40) (R := rmW) (p := p) (e := e) (below := below) h81 C (by decide) (by decide) (by decide) (by decide)
  refine st_aload hC dL_stolen_0 rfl (by decide) (by decide) ?_
  refine st_iconst hC dL_stolen_2 rfl ?_
  refine st_aload_n hC dL_stolen_3 rfl (by decide) (by decide) ?_
  refine st_iload_n hC dL_stolen_4 rfl ?_
  refine st_lload_n hC dL_stolen_5 rfl ?_
  refine st_lload hC dL_stolen_6 rfl ?_
  refine xs_callVH (d := 40) (t := 19) (a := 0) (As := [iV x, lV y, lV z]) (S := [iV 0, rV 35 88]) h81 C dL_stolen_8 (show look (CLt 12) 110 = some (MX10_stolen, false, 3) from rfl) rfl (by decide) (by decide) (by decide) (Nat.le_of_ble_eq_true rfl) (Nat.le_of_ble_eq_true rfl) ⟨9, by decide, rfl, by decide +kernel⟩ (n9 rfl) (fun vs hvs => by cases hvs) h (fun vs hvs => nomatch hvs) (fun E hE hO1 hE1 hE4 hn1 hL1 hS1 H locs ls q ce hP hSS hl hce hcv hcl => ?_)
  cases hE
  refine xw_catch (E := 2) (pc2 := 22) (i := 7) (x := ⟨0, 13, 20, 13⟩) (pre := [⟨0, 13, 16, 18⟩]) (suf := []) C hgw hNC (by decide) (by decide) (ht.trans rfl) (fun z hz => by cases hz with
    | head => exact ⟨1, by decide, by decide, by decide, rfl⟩
    | tail _ h9 => nomatch h9) rfl (by decide) (Or.inl ⟨dL_stolen_20, rfl⟩) (Nat.le_of_ble_eq_true rfl) hO1 hn1 hL1 ?_ hP hSS hl hce hcv hcl
  refine xs_iconst C dL_stolen_22 ?_
  exact xw_ireturn C dL_stolen_23 (by decide) (by decide) ⟨by decide, rfl⟩
theorem w_stolen_x {σ σ1 : Sg} {x y z : Int} {E : Nat} (hE : cdNI E ≠ 0) (h : Ct 40 MX10_stolen (rV 19 0 :: [iV x, lV y, lV z]) σ (.inr E) σ1) : CtL yL_stolen (wW yL_stolen cL_stolen 8 [(0, 13, 16, 18), (0, 13, 20, 13)]) [rV 19 0, iV x, lV y, lV z, rV 35 88] σ (cdNI E) (o80 σ σ1) := by
  by_cases e1 : E = 1
  · subst e1; exact w_stolen_1 h
  by_cases e2 : E = 2
  · subst e2; exact w_stolen_2 h
  exact absurd (show cdNI E = 0 by unfold cdNI; rw [if_neg e1, if_neg e2]) hE
set_option maxRecDepth 20000 in
theorem w_fitting {σ σ1 : Sg} {x y z : Int} {v : Int} (h : Ct 40 MX10_fitting (rV 19 0 :: [iV x, iV y, iV z]) σ (.inl [lV v]) σ1) : CtL yL_fitting (wW yL_fitting cL_fitting 6 [(0, 11, 14, 18), (0, 11, 18, 50), (0, 11, 22, 13)]) [rV 19 0, iV x, iV y, iV z, rV 35 88] σ 0 (upS (o80 σ σ1) 88 0 v) := by
  refine mk_W (by decide +kernel) rfl (Nat.le_of_ble_eq_true rfl) ?_
  intro p l e s m args below meth c K A h81 C hgw hNC ht
  have hC := clo_L (Q := QfW below K ((upS (o80 σ σ1) 88 0 v)) (0) args s A) (cl := 0) (sl := 0) (d := 40) (R := rmW) (p := p) (e := e) (below := below) h81 C (by decide) (by decide) (by decide) (by decide)
  refine st_aload hC dL_fitting_0 rfl (by decide) (by decide) ?_
  refine st_iconst hC dL_fitting_2 rfl ?_
  refine st_aload_n hC dL_fitting_3 rfl (by decide) (by decide) ?_
  refine st_iload_n hC dL_fitting_4 rfl ?_
  refine st_iload_n hC dL_fitting_5 rfl ?_
  refine st_iload_n hC dL_fitting_6 rfl ?_
  refine xs_callVH (d := 40) (t := 19) (a := 0) (As := [iV x, iV y, iV z]) (S := [iV 0, rV 35 88]) h81 C dL_fitting_7 (show look (CLt 12) 113 = some (MX10_fitting, false, 3) from rfl) rfl (by decide) (by decide) (by decide) (Nat.le_of_ble_eq_true rfl) (Nat.le_of_ble_eq_true rfl) ⟨9, by decide, rfl, by decide +kernel⟩ (n9 rfl) (fun vs hvs => by cases hvs; exact n9 rfl) h (fun vs hvs => ?_) (fun E hE => nomatch hE)
  cases hvs
  refine xs_lastO h81 C dL_fitting_10 ?_
  refine st_goto (tg := 26) hC dL_fitting_11 rfl ?_
  refine st_iconst hC dL_fitting_26 rfl ?_
  exact xw_ireturn C dL_fitting_27 (by decide) (by decide) ⟨rfl, rfl⟩
set_option maxRecDepth 20000 in
theorem w_fitting_1 {σ σ1 : Sg} {x y z : Int} (h : Ct 40 MX10_fitting (rV 19 0 :: [iV x, iV y, iV z]) σ (.inr 1) σ1) : CtL yL_fitting (wW yL_fitting cL_fitting 6 [(0, 11, 14, 18), (0, 11, 18, 50), (0, 11, 22, 13)]) [rV 19 0, iV x, iV y, iV z, rV 35 88] σ 1 (o80 σ σ1) := by
  refine mk_W (by decide +kernel) rfl (Nat.le_of_ble_eq_true rfl) ?_
  intro p l e s m args below meth c K A h81 C hgw hNC ht
  have hC := clo_L (Q := QfW below K ((o80 σ σ1)) (1) args s A) (cl := 0) (sl := 0) (d := 40) (R := rmW) (p := p) (e := e) (below := below) h81 C (by decide) (by decide) (by decide) (by decide)
  refine st_aload hC dL_fitting_0 rfl (by decide) (by decide) ?_
  refine st_iconst hC dL_fitting_2 rfl ?_
  refine st_aload_n hC dL_fitting_3 rfl (by decide) (by decide) ?_
  refine st_iload_n hC dL_fitting_4 rfl ?_
  refine st_iload_n hC dL_fitting_5 rfl ?_
  refine st_iload_n hC dL_fitting_6 rfl ?_
  refine xs_callVH (d := 40) (t := 19) (a := 0) (As := [iV x, iV y, iV z]) (S := [iV 0, rV 35 88]) h81 C dL_fitting_7 (show look (CLt 12) 113 = some (MX10_fitting, false, 3) from rfl) rfl (by decide) (by decide) (by decide) (Nat.le_of_ble_eq_true rfl) (Nat.le_of_ble_eq_true rfl) ⟨9, by decide, rfl, by decide +kernel⟩ (n9 rfl) (fun vs hvs => by cases hvs) h (fun vs hvs => nomatch hvs) (fun E hE hO1 hE1 hE4 hn1 hL1 hS1 H locs ls q ce hP hSS hl hce hcv hcl => ?_)
  cases hE
  refine xw_catch (E := 1) (pc2 := 16) (i := 5) (x := ⟨0, 11, 14, 18⟩) (pre := []) (suf := [⟨0, 11, 18, 50⟩, ⟨0, 11, 22, 13⟩]) C hgw hNC (by decide) (by decide) (ht.trans rfl) (fun z hz => nomatch hz) rfl (by decide) (Or.inl ⟨dL_fitting_14, rfl⟩) (Nat.le_of_ble_eq_true rfl) hO1 hn1 hL1 ?_ hP hSS hl hce hcv hcl
  refine xs_iconst C dL_fitting_16 ?_
  exact xw_ireturn C dL_fitting_17 (by decide) (by decide) ⟨by decide, rfl⟩
set_option maxRecDepth 20000 in
theorem w_fitting_3 {σ σ1 : Sg} {x y z : Int} (h : Ct 40 MX10_fitting (rV 19 0 :: [iV x, iV y, iV z]) σ (.inr 3) σ1) : CtL yL_fitting (wW yL_fitting cL_fitting 6 [(0, 11, 14, 18), (0, 11, 18, 50), (0, 11, 22, 13)]) [rV 19 0, iV x, iV y, iV z, rV 35 88] σ 2 (o80 σ σ1) := by
  refine mk_W (by decide +kernel) rfl (Nat.le_of_ble_eq_true rfl) ?_
  intro p l e s m args below meth c K A h81 C hgw hNC ht
  have hC := clo_L (Q := QfW below K ((o80 σ σ1)) (2) args s A) (cl := 0) (sl := 0) (d := 40) (R := rmW) (p := p) (e := e) (below := below) h81 C (by decide) (by decide) (by decide) (by decide)
  refine st_aload hC dL_fitting_0 rfl (by decide) (by decide) ?_
  refine st_iconst hC dL_fitting_2 rfl ?_
  refine st_aload_n hC dL_fitting_3 rfl (by decide) (by decide) ?_
  refine st_iload_n hC dL_fitting_4 rfl ?_
  refine st_iload_n hC dL_fitting_5 rfl ?_
  refine st_iload_n hC dL_fitting_6 rfl ?_
  refine xs_callVH (d := 40) (t := 19) (a := 0) (As := [iV x, iV y, iV z]) (S := [iV 0, rV 35 88]) h81 C dL_fitting_7 (show look (CLt 12) 113 = some (MX10_fitting, false, 3) from rfl) rfl (by decide) (by decide) (by decide) (Nat.le_of_ble_eq_true rfl) (Nat.le_of_ble_eq_true rfl) ⟨9, by decide, rfl, by decide +kernel⟩ (n9 rfl) (fun vs hvs => by cases hvs) h (fun vs hvs => nomatch hvs) (fun E hE hO1 hE1 hE4 hn1 hL1 hS1 H locs ls q ce hP hSS hl hce hcv hcl => ?_)
  cases hE
  refine xw_catch (E := 3) (pc2 := 20) (i := 5) (x := ⟨0, 11, 18, 50⟩) (pre := [⟨0, 11, 14, 18⟩]) (suf := [⟨0, 11, 22, 13⟩]) C hgw hNC (by decide) (by decide) (ht.trans rfl) (fun z hz => by cases hz with
    | head => exact ⟨1, by decide, by decide, by decide, rfl⟩
    | tail _ h9 => nomatch h9) rfl (by decide) (Or.inl ⟨dL_fitting_18, rfl⟩) (Nat.le_of_ble_eq_true rfl) hO1 hn1 hL1 ?_ hP hSS hl hce hcv hcl
  refine xs_iconst C dL_fitting_20 ?_
  exact xw_ireturn C dL_fitting_21 (by decide) (by decide) ⟨by decide, rfl⟩
set_option maxRecDepth 20000 in
theorem w_fitting_2 {σ σ1 : Sg} {x y z : Int} (h : Ct 40 MX10_fitting (rV 19 0 :: [iV x, iV y, iV z]) σ (.inr 2) σ1) : CtL yL_fitting (wW yL_fitting cL_fitting 6 [(0, 11, 14, 18), (0, 11, 18, 50), (0, 11, 22, 13)]) [rV 19 0, iV x, iV y, iV z, rV 35 88] σ 3 (o80 σ σ1) := by
  refine mk_W (by decide +kernel) rfl (Nat.le_of_ble_eq_true rfl) ?_
  intro p l e s m args below meth c K A h81 C hgw hNC ht
  have hC := clo_L (Q := QfW below K ((o80 σ σ1)) (3) args s A) (cl := 0) (sl := 0) (d := 40) (R := rmW) (p := p) (e := e) (below := below) h81 C (by decide) (by decide) (by decide) (by decide)
  refine st_aload hC dL_fitting_0 rfl (by decide) (by decide) ?_
  refine st_iconst hC dL_fitting_2 rfl ?_
  refine st_aload_n hC dL_fitting_3 rfl (by decide) (by decide) ?_
  refine st_iload_n hC dL_fitting_4 rfl ?_
  refine st_iload_n hC dL_fitting_5 rfl ?_
  refine st_iload_n hC dL_fitting_6 rfl ?_
  refine xs_callVH (d := 40) (t := 19) (a := 0) (As := [iV x, iV y, iV z]) (S := [iV 0, rV 35 88]) h81 C dL_fitting_7 (show look (CLt 12) 113 = some (MX10_fitting, false, 3) from rfl) rfl (by decide) (by decide) (by decide) (Nat.le_of_ble_eq_true rfl) (Nat.le_of_ble_eq_true rfl) ⟨9, by decide, rfl, by decide +kernel⟩ (n9 rfl) (fun vs hvs => by cases hvs) h (fun vs hvs => nomatch hvs) (fun E hE hO1 hE1 hE4 hn1 hL1 hS1 H locs ls q ce hP hSS hl hce hcv hcl => ?_)
  cases hE
  refine xw_catch (E := 2) (pc2 := 24) (i := 5) (x := ⟨0, 11, 22, 13⟩) (pre := [⟨0, 11, 14, 18⟩, ⟨0, 11, 18, 50⟩]) (suf := []) C hgw hNC (by decide) (by decide) (ht.trans rfl) (fun z hz => by cases hz with
    | head => exact ⟨1, by decide, by decide, by decide, rfl⟩
    | tail _ h9 => cases h9 with
      | head => exact ⟨3, by decide, by decide, by decide, rfl⟩
      | tail _ h9 => nomatch h9) rfl (by decide) (Or.inl ⟨dL_fitting_22, rfl⟩) (Nat.le_of_ble_eq_true rfl) hO1 hn1 hL1 ?_ hP hSS hl hce hcv hcl
  refine xs_iconst C dL_fitting_24 ?_
  exact xw_ireturn C dL_fitting_25 (by decide) (by decide) ⟨by decide, rfl⟩
theorem w_fitting_x {σ σ1 : Sg} {x y z : Int} {E : Nat} (hE : cdJ E ≠ 0) (h : Ct 40 MX10_fitting (rV 19 0 :: [iV x, iV y, iV z]) σ (.inr E) σ1) : CtL yL_fitting (wW yL_fitting cL_fitting 6 [(0, 11, 14, 18), (0, 11, 18, 50), (0, 11, 22, 13)]) [rV 19 0, iV x, iV y, iV z, rV 35 88] σ (cdJ E) (o80 σ σ1) := by
  by_cases e1 : E = 1
  · subst e1; exact w_fitting_1 h
  by_cases e3 : E = 3
  · subst e3; exact w_fitting_3 h
  by_cases e2 : E = 2
  · subst e2; exact w_fitting_2 h
  exact absurd (show cdJ E = 0 by unfold cdJ; rw [if_neg e1, if_neg e3, if_neg e2]) hE
set_option maxRecDepth 20000 in
theorem w_trial {σ σ1 : Sg} {x y : Int} {v : Int} (h : Ct 40 MX10_trial (rV 19 0 :: [iV x, iV y]) σ (.inl [iV v]) σ1) : CtL yL_trial (wW yL_trial cL_trial 5 [(0, 10, 13, 13)]) [rV 19 0, iV x, iV y, rV 35 88] σ 0 (upS (o80 σ σ1) 88 0 v) := by
  refine mk_W (by decide +kernel) rfl (Nat.le_of_ble_eq_true rfl) ?_
  intro p l e s m args below meth c K A h81 C hgw hNC ht
  have hC := clo_L (Q := QfW below K ((upS (o80 σ σ1) 88 0 v)) (0) args s A) (cl := 0) (sl := 0) (d := 40) (R := rmW) (p := p) (e := e) (below := below) h81 C (by decide) (by decide) (by decide) (by decide)
  refine st_aload_n hC dL_trial_0 rfl (by decide) (by decide) ?_
  refine st_iconst hC dL_trial_1 rfl ?_
  refine st_aload_n hC dL_trial_2 rfl (by decide) (by decide) ?_
  refine st_iload_n hC dL_trial_3 rfl ?_
  refine st_iload_n hC dL_trial_4 rfl ?_
  refine xs_callVH (d := 40) (t := 19) (a := 0) (As := [iV x, iV y]) (S := [iV 0, rV 35 88]) h81 C dL_trial_5 (show look (CLt 12) 116 = some (MX10_trial, false, 2) from rfl) rfl (by decide) (by decide) (by decide) (Nat.le_of_ble_eq_true rfl) (Nat.le_of_ble_eq_true rfl) ⟨9, by decide, rfl, by decide +kernel⟩ (n9 rfl) (fun vs hvs => by cases hvs; exact n9 rfl) h (fun vs hvs => ?_) (fun E hE => nomatch hE)
  cases hvs
  refine st_i2l hC dL_trial_8 ?_
  refine xs_lastO h81 C dL_trial_9 ?_
  refine st_goto (tg := 17) hC dL_trial_10 rfl ?_
  refine st_iconst hC dL_trial_17 rfl ?_
  exact xw_ireturn C dL_trial_18 (by decide) (by decide) ⟨rfl, rfl⟩
set_option maxRecDepth 20000 in
theorem w_trial_2 {σ σ1 : Sg} {x y : Int} (h : Ct 40 MX10_trial (rV 19 0 :: [iV x, iV y]) σ (.inr 2) σ1) : CtL yL_trial (wW yL_trial cL_trial 5 [(0, 10, 13, 13)]) [rV 19 0, iV x, iV y, rV 35 88] σ 1 (o80 σ σ1) := by
  refine mk_W (by decide +kernel) rfl (Nat.le_of_ble_eq_true rfl) ?_
  intro p l e s m args below meth c K A h81 C hgw hNC ht
  have hC := clo_L (Q := QfW below K ((o80 σ σ1)) (1) args s A) (cl := 0) (sl := 0) (d := 40) (R := rmW) (p := p) (e := e) (below := below) h81 C (by decide) (by decide) (by decide) (by decide)
  refine st_aload_n hC dL_trial_0 rfl (by decide) (by decide) ?_
  refine st_iconst hC dL_trial_1 rfl ?_
  refine st_aload_n hC dL_trial_2 rfl (by decide) (by decide) ?_
  refine st_iload_n hC dL_trial_3 rfl ?_
  refine st_iload_n hC dL_trial_4 rfl ?_
  refine xs_callVH (d := 40) (t := 19) (a := 0) (As := [iV x, iV y]) (S := [iV 0, rV 35 88]) h81 C dL_trial_5 (show look (CLt 12) 116 = some (MX10_trial, false, 2) from rfl) rfl (by decide) (by decide) (by decide) (Nat.le_of_ble_eq_true rfl) (Nat.le_of_ble_eq_true rfl) ⟨9, by decide, rfl, by decide +kernel⟩ (n9 rfl) (fun vs hvs => by cases hvs) h (fun vs hvs => nomatch hvs) (fun E hE hO1 hE1 hE4 hn1 hL1 hS1 H locs ls q ce hP hSS hl hce hcv hcl => ?_)
  cases hE
  refine xw_catch (E := 2) (pc2 := 15) (i := 4) (x := ⟨0, 10, 13, 13⟩) (pre := []) (suf := []) C hgw hNC (by decide) (by decide) (ht.trans rfl) (fun z hz => nomatch hz) rfl (by decide) (Or.inl ⟨dL_trial_13, rfl⟩) (Nat.le_of_ble_eq_true rfl) hO1 hn1 hL1 ?_ hP hSS hl hce hcv hcl
  refine xs_iconst C dL_trial_15 ?_
  exact xw_ireturn C dL_trial_16 (by decide) (by decide) ⟨by decide, rfl⟩
theorem w_trial_x {σ σ1 : Sg} {x y : Int} {E : Nat} (hE : cdI E ≠ 0) (h : Ct 40 MX10_trial (rV 19 0 :: [iV x, iV y]) σ (.inr E) σ1) : CtL yL_trial (wW yL_trial cL_trial 5 [(0, 10, 13, 13)]) [rV 19 0, iV x, iV y, rV 35 88] σ (cdI E) (o80 σ σ1) := by
  by_cases e2 : E = 2
  · subst e2; exact w_trial_2 h
  exact absurd (show cdI E = 0 by unfold cdI; rw [if_neg e2]) hE
set_option maxRecDepth 20000 in
theorem w_squares {σ σ1 : Sg} {x y : Int} {v : Int} (h : Ct 40 MX10_squares (rV 19 0 :: [iV x, iV y]) σ (.inl [iV v]) σ1) : CtL yL_squares (wW yL_squares cL_squares 5 [(0, 10, 13, 13)]) [rV 19 0, iV x, iV y, rV 35 88] σ 0 (upS (o80 σ σ1) 88 0 v) := by
  refine mk_W (by decide +kernel) rfl (Nat.le_of_ble_eq_true rfl) ?_
  intro p l e s m args below meth c K A h81 C hgw hNC ht
  have hC := clo_L (Q := QfW below K ((upS (o80 σ σ1) 88 0 v)) (0) args s A) (cl := 0) (sl := 0) (d := 40) (R := rmW) (p := p) (e := e) (below := below) h81 C (by decide) (by decide) (by decide) (by decide)
  refine st_aload_n hC dL_squares_0 rfl (by decide) (by decide) ?_
  refine st_iconst hC dL_squares_1 rfl ?_
  refine st_aload_n hC dL_squares_2 rfl (by decide) (by decide) ?_
  refine st_iload_n hC dL_squares_3 rfl ?_
  refine st_iload_n hC dL_squares_4 rfl ?_
  refine xs_callVH (d := 40) (t := 19) (a := 0) (As := [iV x, iV y]) (S := [iV 0, rV 35 88]) h81 C dL_squares_5 (show look (CLt 12) 119 = some (MX10_squares, false, 2) from rfl) rfl (by decide) (by decide) (by decide) (Nat.le_of_ble_eq_true rfl) (Nat.le_of_ble_eq_true rfl) ⟨9, by decide, rfl, by decide +kernel⟩ (n9 rfl) (fun vs hvs => by cases hvs; exact n9 rfl) h (fun vs hvs => ?_) (fun E hE => nomatch hE)
  cases hvs
  refine st_i2l hC dL_squares_8 ?_
  refine xs_lastO h81 C dL_squares_9 ?_
  refine st_goto (tg := 17) hC dL_squares_10 rfl ?_
  refine st_iconst hC dL_squares_17 rfl ?_
  exact xw_ireturn C dL_squares_18 (by decide) (by decide) ⟨rfl, rfl⟩
set_option maxRecDepth 20000 in
theorem w_squares_2 {σ σ1 : Sg} {x y : Int} (h : Ct 40 MX10_squares (rV 19 0 :: [iV x, iV y]) σ (.inr 2) σ1) : CtL yL_squares (wW yL_squares cL_squares 5 [(0, 10, 13, 13)]) [rV 19 0, iV x, iV y, rV 35 88] σ 1 (o80 σ σ1) := by
  refine mk_W (by decide +kernel) rfl (Nat.le_of_ble_eq_true rfl) ?_
  intro p l e s m args below meth c K A h81 C hgw hNC ht
  have hC := clo_L (Q := QfW below K ((o80 σ σ1)) (1) args s A) (cl := 0) (sl := 0) (d := 40) (R := rmW) (p := p) (e := e) (below := below) h81 C (by decide) (by decide) (by decide) (by decide)
  refine st_aload_n hC dL_squares_0 rfl (by decide) (by decide) ?_
  refine st_iconst hC dL_squares_1 rfl ?_
  refine st_aload_n hC dL_squares_2 rfl (by decide) (by decide) ?_
  refine st_iload_n hC dL_squares_3 rfl ?_
  refine st_iload_n hC dL_squares_4 rfl ?_
  refine xs_callVH (d := 40) (t := 19) (a := 0) (As := [iV x, iV y]) (S := [iV 0, rV 35 88]) h81 C dL_squares_5 (show look (CLt 12) 119 = some (MX10_squares, false, 2) from rfl) rfl (by decide) (by decide) (by decide) (Nat.le_of_ble_eq_true rfl) (Nat.le_of_ble_eq_true rfl) ⟨9, by decide, rfl, by decide +kernel⟩ (n9 rfl) (fun vs hvs => by cases hvs) h (fun vs hvs => nomatch hvs) (fun E hE hO1 hE1 hE4 hn1 hL1 hS1 H locs ls q ce hP hSS hl hce hcv hcl => ?_)
  cases hE
  refine xw_catch (E := 2) (pc2 := 15) (i := 4) (x := ⟨0, 10, 13, 13⟩) (pre := []) (suf := []) C hgw hNC (by decide) (by decide) (ht.trans rfl) (fun z hz => nomatch hz) rfl (by decide) (Or.inl ⟨dL_squares_13, rfl⟩) (Nat.le_of_ble_eq_true rfl) hO1 hn1 hL1 ?_ hP hSS hl hce hcv hcl
  refine xs_iconst C dL_squares_15 ?_
  exact xw_ireturn C dL_squares_16 (by decide) (by decide) ⟨by decide, rfl⟩
theorem w_squares_x {σ σ1 : Sg} {x y : Int} {E : Nat} (hE : cdI E ≠ 0) (h : Ct 40 MX10_squares (rV 19 0 :: [iV x, iV y]) σ (.inr E) σ1) : CtL yL_squares (wW yL_squares cL_squares 5 [(0, 10, 13, 13)]) [rV 19 0, iV x, iV y, rV 35 88] σ (cdI E) (o80 σ σ1) := by
  by_cases e2 : E = 2
  · subst e2; exact w_squares_2 h
  exact absurd (show cdI E = 0 by unfold cdI; rw [if_neg e2]) hE
set_option maxRecDepth 20000 in
theorem w_rounds {σ σ1 : Sg} {x y z : Int} {v : Int} (h : Ct 40 MX10_rounds (rV 19 0 :: [iV x, iV y, iV z]) σ (.inl [iV v]) σ1) : CtL yL_rounds (wW yL_rounds cL_rounds 6 [(0, 12, 15, 13)]) [rV 19 0, iV x, iV y, iV z, rV 35 88] σ 0 (upS (o80 σ σ1) 88 0 v) := by
  refine mk_W (by decide +kernel) rfl (Nat.le_of_ble_eq_true rfl) ?_
  intro p l e s m args below meth c K A h81 C hgw hNC ht
  have hC := clo_L (Q := QfW below K ((upS (o80 σ σ1) 88 0 v)) (0) args s A) (cl := 0) (sl := 0) (d := 40) (R := rmW) (p := p) (e := e) (below := below) h81 C (by decide) (by decide) (by decide) (by decide)
  refine st_aload hC dL_rounds_0 rfl (by decide) (by decide) ?_
  refine st_iconst hC dL_rounds_2 rfl ?_
  refine st_aload_n hC dL_rounds_3 rfl (by decide) (by decide) ?_
  refine st_iload_n hC dL_rounds_4 rfl ?_
  refine st_iload_n hC dL_rounds_5 rfl ?_
  refine st_iload_n hC dL_rounds_6 rfl ?_
  refine xs_callVH (d := 40) (t := 19) (a := 0) (As := [iV x, iV y, iV z]) (S := [iV 0, rV 35 88]) h81 C dL_rounds_7 (show look (CLt 12) 122 = some (MX10_rounds, false, 3) from rfl) rfl (by decide) (by decide) (by decide) (Nat.le_of_ble_eq_true rfl) (Nat.le_of_ble_eq_true rfl) ⟨9, by decide, rfl, by decide +kernel⟩ (n9 rfl) (fun vs hvs => by cases hvs; exact n9 rfl) h (fun vs hvs => ?_) (fun E hE => nomatch hE)
  cases hvs
  refine st_i2l hC dL_rounds_10 ?_
  refine xs_lastO h81 C dL_rounds_11 ?_
  refine st_goto (tg := 19) hC dL_rounds_12 rfl ?_
  refine st_iconst hC dL_rounds_19 rfl ?_
  exact xw_ireturn C dL_rounds_20 (by decide) (by decide) ⟨rfl, rfl⟩
set_option maxRecDepth 20000 in
theorem w_rounds_2 {σ σ1 : Sg} {x y z : Int} (h : Ct 40 MX10_rounds (rV 19 0 :: [iV x, iV y, iV z]) σ (.inr 2) σ1) : CtL yL_rounds (wW yL_rounds cL_rounds 6 [(0, 12, 15, 13)]) [rV 19 0, iV x, iV y, iV z, rV 35 88] σ 1 (o80 σ σ1) := by
  refine mk_W (by decide +kernel) rfl (Nat.le_of_ble_eq_true rfl) ?_
  intro p l e s m args below meth c K A h81 C hgw hNC ht
  have hC := clo_L (Q := QfW below K ((o80 σ σ1)) (1) args s A) (cl := 0) (sl := 0) (d := 40) (R := rmW) (p := p) (e := e) (below := below) h81 C (by decide) (by decide) (by decide) (by decide)
  refine st_aload hC dL_rounds_0 rfl (by decide) (by decide) ?_
  refine st_iconst hC dL_rounds_2 rfl ?_
  refine st_aload_n hC dL_rounds_3 rfl (by decide) (by decide) ?_
  refine st_iload_n hC dL_rounds_4 rfl ?_
  refine st_iload_n hC dL_rounds_5 rfl ?_
  refine st_iload_n hC dL_rounds_6 rfl ?_
  refine xs_callVH (d := 40) (t := 19) (a := 0) (As := [iV x, iV y, iV z]) (S := [iV 0, rV 35 88]) h81 C dL_rounds_7 (show look (CLt 12) 122 = some (MX10_rounds, false, 3) from rfl) rfl (by decide) (by decide) (by decide) (Nat.le_of_ble_eq_true rfl) (Nat.le_of_ble_eq_true rfl) ⟨9, by decide, rfl, by decide +kernel⟩ (n9 rfl) (fun vs hvs => by cases hvs) h (fun vs hvs => nomatch hvs) (fun E hE hO1 hE1 hE4 hn1 hL1 hS1 H locs ls q ce hP hSS hl hce hcv hcl => ?_)
  cases hE
  refine xw_catch (E := 2) (pc2 := 17) (i := 5) (x := ⟨0, 12, 15, 13⟩) (pre := []) (suf := []) C hgw hNC (by decide) (by decide) (ht.trans rfl) (fun z hz => nomatch hz) rfl (by decide) (Or.inl ⟨dL_rounds_15, rfl⟩) (Nat.le_of_ble_eq_true rfl) hO1 hn1 hL1 ?_ hP hSS hl hce hcv hcl
  refine xs_iconst C dL_rounds_17 ?_
  exact xw_ireturn C dL_rounds_18 (by decide) (by decide) ⟨by decide, rfl⟩
theorem w_rounds_x {σ σ1 : Sg} {x y z : Int} {E : Nat} (hE : cdI E ≠ 0) (h : Ct 40 MX10_rounds (rV 19 0 :: [iV x, iV y, iV z]) σ (.inr E) σ1) : CtL yL_rounds (wW yL_rounds cL_rounds 6 [(0, 12, 15, 13)]) [rV 19 0, iV x, iV y, iV z, rV 35 88] σ (cdI E) (o80 σ σ1) := by
  by_cases e2 : E = 2
  · subst e2; exact w_rounds_2 h
  exact absurd (show cdI E = 0 by unfold cdI; rw [if_neg e2]) hE
set_option maxRecDepth 20000 in
theorem w_factor {σ σ1 : Sg} {x y : Int} {v : Int} (h : Ct 40 MX10_factor (rV 19 0 :: [iV x, iV y]) σ (.inl [iV v]) σ1) : CtL yL_factor (wW yL_factor cL_factor 5 [(0, 10, 13, 13)]) [rV 19 0, iV x, iV y, rV 35 88] σ 0 (upS (o80 σ σ1) 88 0 v) := by
  refine mk_W (by decide +kernel) rfl (Nat.le_of_ble_eq_true rfl) ?_
  intro p l e s m args below meth c K A h81 C hgw hNC ht
  have hC := clo_L (Q := QfW below K ((upS (o80 σ σ1) 88 0 v)) (0) args s A) (cl := 0) (sl := 0) (d := 40) (R := rmW) (p := p) (e := e) (below := below) h81 C (by decide) (by decide) (by decide) (by decide)
  refine st_aload_n hC dL_factor_0 rfl (by decide) (by decide) ?_
  refine st_iconst hC dL_factor_1 rfl ?_
  refine st_aload_n hC dL_factor_2 rfl (by decide) (by decide) ?_
  refine st_iload_n hC dL_factor_3 rfl ?_
  refine st_iload_n hC dL_factor_4 rfl ?_
  refine xs_callVH (d := 40) (t := 19) (a := 0) (As := [iV x, iV y]) (S := [iV 0, rV 35 88]) h81 C dL_factor_5 (show look (CLt 12) 126 = some (MX10_factor, false, 2) from rfl) rfl (by decide) (by decide) (by decide) (Nat.le_of_ble_eq_true rfl) (Nat.le_of_ble_eq_true rfl) ⟨9, by decide, rfl, by decide +kernel⟩ (n9 rfl) (fun vs hvs => by cases hvs; exact n9 rfl) h (fun vs hvs => ?_) (fun E hE => nomatch hE)
  cases hvs
  refine st_i2l hC dL_factor_8 ?_
  refine xs_lastO h81 C dL_factor_9 ?_
  refine st_goto (tg := 17) hC dL_factor_10 rfl ?_
  refine st_iconst hC dL_factor_17 rfl ?_
  exact xw_ireturn C dL_factor_18 (by decide) (by decide) ⟨rfl, rfl⟩
set_option maxRecDepth 20000 in
theorem w_factor_2 {σ σ1 : Sg} {x y : Int} (h : Ct 40 MX10_factor (rV 19 0 :: [iV x, iV y]) σ (.inr 2) σ1) : CtL yL_factor (wW yL_factor cL_factor 5 [(0, 10, 13, 13)]) [rV 19 0, iV x, iV y, rV 35 88] σ 1 (o80 σ σ1) := by
  refine mk_W (by decide +kernel) rfl (Nat.le_of_ble_eq_true rfl) ?_
  intro p l e s m args below meth c K A h81 C hgw hNC ht
  have hC := clo_L (Q := QfW below K ((o80 σ σ1)) (1) args s A) (cl := 0) (sl := 0) (d := 40) (R := rmW) (p := p) (e := e) (below := below) h81 C (by decide) (by decide) (by decide) (by decide)
  refine st_aload_n hC dL_factor_0 rfl (by decide) (by decide) ?_
  refine st_iconst hC dL_factor_1 rfl ?_
  refine st_aload_n hC dL_factor_2 rfl (by decide) (by decide) ?_
  refine st_iload_n hC dL_factor_3 rfl ?_
  refine st_iload_n hC dL_factor_4 rfl ?_
  refine xs_callVH (d := 40) (t := 19) (a := 0) (As := [iV x, iV y]) (S := [iV 0, rV 35 88]) h81 C dL_factor_5 (show look (CLt 12) 126 = some (MX10_factor, false, 2) from rfl) rfl (by decide) (by decide) (by decide) (Nat.le_of_ble_eq_true rfl) (Nat.le_of_ble_eq_true rfl) ⟨9, by decide, rfl, by decide +kernel⟩ (n9 rfl) (fun vs hvs => by cases hvs) h (fun vs hvs => nomatch hvs) (fun E hE hO1 hE1 hE4 hn1 hL1 hS1 H locs ls q ce hP hSS hl hce hcv hcl => ?_)
  cases hE
  refine xw_catch (E := 2) (pc2 := 15) (i := 4) (x := ⟨0, 10, 13, 13⟩) (pre := []) (suf := []) C hgw hNC (by decide) (by decide) (ht.trans rfl) (fun z hz => nomatch hz) rfl (by decide) (Or.inl ⟨dL_factor_13, rfl⟩) (Nat.le_of_ble_eq_true rfl) hO1 hn1 hL1 ?_ hP hSS hl hce hcv hcl
  refine xs_iconst C dL_factor_15 ?_
  exact xw_ireturn C dL_factor_16 (by decide) (by decide) ⟨by decide, rfl⟩
theorem w_factor_x {σ σ1 : Sg} {x y : Int} {E : Nat} (hE : cdI E ≠ 0) (h : Ct 40 MX10_factor (rV 19 0 :: [iV x, iV y]) σ (.inr E) σ1) : CtL yL_factor (wW yL_factor cL_factor 5 [(0, 10, 13, 13)]) [rV 19 0, iV x, iV y, rV 35 88] σ (cdI E) (o80 σ σ1) := by
  by_cases e2 : E = 2
  · subst e2; exact w_factor_2 h
  exact absurd (show cdI E = 0 by unfold cdI; rw [if_neg e2]) hE
set_option maxRecDepth 20000 in
theorem w_smooth {σ σ1 : Sg} {x y : Int} {v : Int} (h : Ct 40 MX10_smooth (rV 19 0 :: [iV x, iV y]) σ (.inl [iV v]) σ1) : CtL yL_smooth (wW yL_smooth cL_smooth 5 [(0, 10, 13, 13)]) [rV 19 0, iV x, iV y, rV 35 88] σ 0 (upS (o80 σ σ1) 88 0 v) := by
  refine mk_W (by decide +kernel) rfl (Nat.le_of_ble_eq_true rfl) ?_
  intro p l e s m args below meth c K A h81 C hgw hNC ht
  have hC := clo_L (Q := QfW below K ((upS (o80 σ σ1) 88 0 v)) (0) args s A) (cl := 0) (sl := 0) (d := 40) (R := rmW) (p := p) (e := e) (below := below) h81 C (by decide) (by decide) (by decide) (by decide)
  refine st_aload_n hC dL_smooth_0 rfl (by decide) (by decide) ?_
  refine st_iconst hC dL_smooth_1 rfl ?_
  refine st_aload_n hC dL_smooth_2 rfl (by decide) (by decide) ?_
  refine st_iload_n hC dL_smooth_3 rfl ?_
  refine st_iload_n hC dL_smooth_4 rfl ?_
  refine xs_callVH (d := 40) (t := 19) (a := 0) (As := [iV x, iV y]) (S := [iV 0, rV 35 88]) h81 C dL_smooth_5 (show look (CLt 12) 129 = some (MX10_smooth, false, 2) from rfl) rfl (by decide) (by decide) (by decide) (Nat.le_of_ble_eq_true rfl) (Nat.le_of_ble_eq_true rfl) ⟨9, by decide, rfl, by decide +kernel⟩ (n9 rfl) (fun vs hvs => by cases hvs; exact n9 rfl) h (fun vs hvs => ?_) (fun E hE => nomatch hE)
  cases hvs
  refine st_i2l hC dL_smooth_8 ?_
  refine xs_lastO h81 C dL_smooth_9 ?_
  refine st_goto (tg := 17) hC dL_smooth_10 rfl ?_
  refine st_iconst hC dL_smooth_17 rfl ?_
  exact xw_ireturn C dL_smooth_18 (by decide) (by decide) ⟨rfl, rfl⟩
set_option maxRecDepth 20000 in
theorem w_smooth_2 {σ σ1 : Sg} {x y : Int} (h : Ct 40 MX10_smooth (rV 19 0 :: [iV x, iV y]) σ (.inr 2) σ1) : CtL yL_smooth (wW yL_smooth cL_smooth 5 [(0, 10, 13, 13)]) [rV 19 0, iV x, iV y, rV 35 88] σ 1 (o80 σ σ1) := by
  refine mk_W (by decide +kernel) rfl (Nat.le_of_ble_eq_true rfl) ?_
  intro p l e s m args below meth c K A h81 C hgw hNC ht
  have hC := clo_L (Q := QfW below K ((o80 σ σ1)) (1) args s A) (cl := 0) (sl := 0) (d := 40) (R := rmW) (p := p) (e := e) (below := below) h81 C (by decide) (by decide) (by decide) (by decide)
  refine st_aload_n hC dL_smooth_0 rfl (by decide) (by decide) ?_
  refine st_iconst hC dL_smooth_1 rfl ?_
  refine st_aload_n hC dL_smooth_2 rfl (by decide) (by decide) ?_
  refine st_iload_n hC dL_smooth_3 rfl ?_
  refine st_iload_n hC dL_smooth_4 rfl ?_
  refine xs_callVH (d := 40) (t := 19) (a := 0) (As := [iV x, iV y]) (S := [iV 0, rV 35 88]) h81 C dL_smooth_5 (show look (CLt 12) 129 = some (MX10_smooth, false, 2) from rfl) rfl (by decide) (by decide) (by decide) (Nat.le_of_ble_eq_true rfl) (Nat.le_of_ble_eq_true rfl) ⟨9, by decide, rfl, by decide +kernel⟩ (n9 rfl) (fun vs hvs => by cases hvs) h (fun vs hvs => nomatch hvs) (fun E hE hO1 hE1 hE4 hn1 hL1 hS1 H locs ls q ce hP hSS hl hce hcv hcl => ?_)
  cases hE
  refine xw_catch (E := 2) (pc2 := 15) (i := 4) (x := ⟨0, 10, 13, 13⟩) (pre := []) (suf := []) C hgw hNC (by decide) (by decide) (ht.trans rfl) (fun z hz => nomatch hz) rfl (by decide) (Or.inl ⟨dL_smooth_13, rfl⟩) (Nat.le_of_ble_eq_true rfl) hO1 hn1 hL1 ?_ hP hSS hl hce hcv hcl
  refine xs_iconst C dL_smooth_15 ?_
  exact xw_ireturn C dL_smooth_16 (by decide) (by decide) ⟨by decide, rfl⟩
theorem w_smooth_x {σ σ1 : Sg} {x y : Int} {E : Nat} (hE : cdI E ≠ 0) (h : Ct 40 MX10_smooth (rV 19 0 :: [iV x, iV y]) σ (.inr E) σ1) : CtL yL_smooth (wW yL_smooth cL_smooth 5 [(0, 10, 13, 13)]) [rV 19 0, iV x, iV y, rV 35 88] σ (cdI E) (o80 σ σ1) := by
  by_cases e2 : E = 2
  · subst e2; exact w_smooth_2 h
  exact absurd (show cdI E = 0 by unfold cdI; rw [if_neg e2]) hE
set_option maxRecDepth 20000 in
theorem w_primesTo {σ σ1 : Sg} {x : Int} {v : Int} (h : Ct 40 MX10_primesTo (rV 19 0 :: [iV x]) σ (.inl [iV v]) σ1) : CtL yL_primesTo (wW yL_primesTo cL_primesTo 4 [(0, 9, 12, 13)]) [rV 19 0, iV x, rV 35 88] σ 0 (upS (o80 σ σ1) 88 0 v) := by
  refine mk_W (by decide +kernel) rfl (Nat.le_of_ble_eq_true rfl) ?_
  intro p l e s m args below meth c K A h81 C hgw hNC ht
  have hC := clo_L (Q := QfW below K ((upS (o80 σ σ1) 88 0 v)) (0) args s A) (cl := 0) (sl := 0) (d := 40) (R := rmW) (p := p) (e := e) (below := below) h81 C (by decide) (by decide) (by decide) (by decide)
  refine st_aload_n hC dL_primesTo_0 rfl (by decide) (by decide) ?_
  refine st_iconst hC dL_primesTo_1 rfl ?_
  refine st_aload_n hC dL_primesTo_2 rfl (by decide) (by decide) ?_
  refine st_iload_n hC dL_primesTo_3 rfl ?_
  refine xs_callVH (d := 40) (t := 19) (a := 0) (As := [iV x]) (S := [iV 0, rV 35 88]) h81 C dL_primesTo_4 (show look (CLt 12) 132 = some (MX10_primesTo, false, 1) from rfl) rfl (by decide) (by decide) (by decide) (Nat.le_of_ble_eq_true rfl) (Nat.le_of_ble_eq_true rfl) ⟨9, by decide, rfl, by decide +kernel⟩ (n9 rfl) (fun vs hvs => by cases hvs; exact n9 rfl) h (fun vs hvs => ?_) (fun E hE => nomatch hE)
  cases hvs
  refine st_i2l hC dL_primesTo_7 ?_
  refine xs_lastO h81 C dL_primesTo_8 ?_
  refine st_goto (tg := 15) hC dL_primesTo_9 rfl ?_
  refine st_iconst hC dL_primesTo_15 rfl ?_
  exact xw_ireturn C dL_primesTo_16 (by decide) (by decide) ⟨rfl, rfl⟩
set_option maxRecDepth 20000 in
theorem w_primesTo_2 {σ σ1 : Sg} {x : Int} (h : Ct 40 MX10_primesTo (rV 19 0 :: [iV x]) σ (.inr 2) σ1) : CtL yL_primesTo (wW yL_primesTo cL_primesTo 4 [(0, 9, 12, 13)]) [rV 19 0, iV x, rV 35 88] σ 1 (o80 σ σ1) := by
  refine mk_W (by decide +kernel) rfl (Nat.le_of_ble_eq_true rfl) ?_
  intro p l e s m args below meth c K A h81 C hgw hNC ht
  have hC := clo_L (Q := QfW below K ((o80 σ σ1)) (1) args s A) (cl := 0) (sl := 0) (d := 40) (R := rmW) (p := p) (e := e) (below := below) h81 C (by decide) (by decide) (by decide) (by decide)
  refine st_aload_n hC dL_primesTo_0 rfl (by decide) (by decide) ?_
  refine st_iconst hC dL_primesTo_1 rfl ?_
  refine st_aload_n hC dL_primesTo_2 rfl (by decide) (by decide) ?_
  refine st_iload_n hC dL_primesTo_3 rfl ?_
  refine xs_callVH (d := 40) (t := 19) (a := 0) (As := [iV x]) (S := [iV 0, rV 35 88]) h81 C dL_primesTo_4 (show look (CLt 12) 132 = some (MX10_primesTo, false, 1) from rfl) rfl (by decide) (by decide) (by decide) (Nat.le_of_ble_eq_true rfl) (Nat.le_of_ble_eq_true rfl) ⟨9, by decide, rfl, by decide +kernel⟩ (n9 rfl) (fun vs hvs => by cases hvs) h (fun vs hvs => nomatch hvs) (fun E hE hO1 hE1 hE4 hn1 hL1 hS1 H locs ls q ce hP hSS hl hce hcv hcl => ?_)
  cases hE
  refine xw_catch (E := 2) (pc2 := 13) (i := 3) (x := ⟨0, 9, 12, 13⟩) (pre := []) (suf := []) C hgw hNC (by decide) (by decide) (ht.trans rfl) (fun z hz => nomatch hz) rfl (by decide) (Or.inr ⟨3, rfl, dL_primesTo_12, rfl⟩) (Nat.le_of_ble_eq_true rfl) hO1 hn1 hL1 ?_ hP hSS hl hce hcv hcl
  refine xs_iconst C dL_primesTo_13 ?_
  exact xw_ireturn C dL_primesTo_14 (by decide) (by decide) ⟨by decide, rfl⟩
theorem w_primesTo_x {σ σ1 : Sg} {x : Int} {E : Nat} (hE : cdI E ≠ 0) (h : Ct 40 MX10_primesTo (rV 19 0 :: [iV x]) σ (.inr E) σ1) : CtL yL_primesTo (wW yL_primesTo cL_primesTo 4 [(0, 9, 12, 13)]) [rV 19 0, iV x, rV 35 88] σ (cdI E) (o80 σ σ1) := by
  by_cases e2 : E = 2
  · subst e2; exact w_primesTo_2 h
  exact absurd (show cdI E = 0 by unfold cdI; rw [if_neg e2]) hE
set_option maxRecDepth 20000 in
theorem w_witness {σ σ1 : Sg} {x : Int} {v : Int} (h : Ct 40 MX10_witness (rV 19 0 :: [iV x]) σ (.inl [iV v]) σ1) : CtL yL_witness (wW yL_witness cL_witness 4 [(0, 9, 12, 13)]) [rV 19 0, iV x, rV 35 88] σ 0 (upS (o80 σ σ1) 88 0 v) := by
  refine mk_W (by decide +kernel) rfl (Nat.le_of_ble_eq_true rfl) ?_
  intro p l e s m args below meth c K A h81 C hgw hNC ht
  have hC := clo_L (Q := QfW below K ((upS (o80 σ σ1) 88 0 v)) (0) args s A) (cl := 0) (sl := 0) (d := 40) (R := rmW) (p := p) (e := e) (below := below) h81 C (by decide) (by decide) (by decide) (by decide)
  refine st_aload_n hC dL_witness_0 rfl (by decide) (by decide) ?_
  refine st_iconst hC dL_witness_1 rfl ?_
  refine st_aload_n hC dL_witness_2 rfl (by decide) (by decide) ?_
  refine st_iload_n hC dL_witness_3 rfl ?_
  refine xs_callVH (d := 40) (t := 19) (a := 0) (As := [iV x]) (S := [iV 0, rV 35 88]) h81 C dL_witness_4 (show look (CLt 12) 135 = some (MX10_witness, false, 1) from rfl) rfl (by decide) (by decide) (by decide) (Nat.le_of_ble_eq_true rfl) (Nat.le_of_ble_eq_true rfl) ⟨9, by decide, rfl, by decide +kernel⟩ (n9 rfl) (fun vs hvs => by cases hvs; exact n9 rfl) h (fun vs hvs => ?_) (fun E hE => nomatch hE)
  cases hvs
  refine st_i2l hC dL_witness_7 ?_
  refine xs_lastO h81 C dL_witness_8 ?_
  refine st_goto (tg := 15) hC dL_witness_9 rfl ?_
  refine st_iconst hC dL_witness_15 rfl ?_
  exact xw_ireturn C dL_witness_16 (by decide) (by decide) ⟨rfl, rfl⟩
set_option maxRecDepth 20000 in
theorem w_witness_2 {σ σ1 : Sg} {x : Int} (h : Ct 40 MX10_witness (rV 19 0 :: [iV x]) σ (.inr 2) σ1) : CtL yL_witness (wW yL_witness cL_witness 4 [(0, 9, 12, 13)]) [rV 19 0, iV x, rV 35 88] σ 1 (o80 σ σ1) := by
  refine mk_W (by decide +kernel) rfl (Nat.le_of_ble_eq_true rfl) ?_
  intro p l e s m args below meth c K A h81 C hgw hNC ht
  have hC := clo_L (Q := QfW below K ((o80 σ σ1)) (1) args s A) (cl := 0) (sl := 0) (d := 40) (R := rmW) (p := p) (e := e) (below := below) h81 C (by decide) (by decide) (by decide) (by decide)
  refine st_aload_n hC dL_witness_0 rfl (by decide) (by decide) ?_
  refine st_iconst hC dL_witness_1 rfl ?_
  refine st_aload_n hC dL_witness_2 rfl (by decide) (by decide) ?_
  refine st_iload_n hC dL_witness_3 rfl ?_
  refine xs_callVH (d := 40) (t := 19) (a := 0) (As := [iV x]) (S := [iV 0, rV 35 88]) h81 C dL_witness_4 (show look (CLt 12) 135 = some (MX10_witness, false, 1) from rfl) rfl (by decide) (by decide) (by decide) (Nat.le_of_ble_eq_true rfl) (Nat.le_of_ble_eq_true rfl) ⟨9, by decide, rfl, by decide +kernel⟩ (n9 rfl) (fun vs hvs => by cases hvs) h (fun vs hvs => nomatch hvs) (fun E hE hO1 hE1 hE4 hn1 hL1 hS1 H locs ls q ce hP hSS hl hce hcv hcl => ?_)
  cases hE
  refine xw_catch (E := 2) (pc2 := 13) (i := 3) (x := ⟨0, 9, 12, 13⟩) (pre := []) (suf := []) C hgw hNC (by decide) (by decide) (ht.trans rfl) (fun z hz => nomatch hz) rfl (by decide) (Or.inr ⟨3, rfl, dL_witness_12, rfl⟩) (Nat.le_of_ble_eq_true rfl) hO1 hn1 hL1 ?_ hP hSS hl hce hcv hcl
  refine xs_iconst C dL_witness_13 ?_
  exact xw_ireturn C dL_witness_14 (by decide) (by decide) ⟨by decide, rfl⟩
theorem w_witness_x {σ σ1 : Sg} {x : Int} {E : Nat} (hE : cdI E ≠ 0) (h : Ct 40 MX10_witness (rV 19 0 :: [iV x]) σ (.inr E) σ1) : CtL yL_witness (wW yL_witness cL_witness 4 [(0, 9, 12, 13)]) [rV 19 0, iV x, rV 35 88] σ (cdI E) (o80 σ σ1) := by
  by_cases e2 : E = 2
  · subst e2; exact w_witness_2 h
  exact absurd (show cdI E = 0 by unfold cdI; rw [if_neg e2]) hE
set_option maxRecDepth 20000 in
theorem w_order {σ σ1 : Sg} {x y : Int} {v : Int} (h : Ct 40 MX10_order (rV 19 0 :: [iV x, iV y]) σ (.inl [iV v]) σ1) : CtL yL_order (wW yL_order cL_order 5 [(0, 10, 13, 13)]) [rV 19 0, iV x, iV y, rV 35 88] σ 0 (upS (o80 σ σ1) 88 0 v) := by
  refine mk_W (by decide +kernel) rfl (Nat.le_of_ble_eq_true rfl) ?_
  intro p l e s m args below meth c K A h81 C hgw hNC ht
  have hC := clo_L (Q := QfW below K ((upS (o80 σ σ1) 88 0 v)) (0) args s A) (cl := 0) (sl := 0) (d := 40) (R := rmW) (p := p) (e := e) (below := below) h81 C (by decide) (by decide) (by decide) (by decide)
  refine st_aload_n hC dL_order_0 rfl (by decide) (by decide) ?_
  refine st_iconst hC dL_order_1 rfl ?_
  refine st_aload_n hC dL_order_2 rfl (by decide) (by decide) ?_
  refine st_iload_n hC dL_order_3 rfl ?_
  refine st_iload_n hC dL_order_4 rfl ?_
  refine xs_callVH (d := 40) (t := 19) (a := 0) (As := [iV x, iV y]) (S := [iV 0, rV 35 88]) h81 C dL_order_5 (show look (CLt 12) 138 = some (MX10_order, false, 2) from rfl) rfl (by decide) (by decide) (by decide) (Nat.le_of_ble_eq_true rfl) (Nat.le_of_ble_eq_true rfl) ⟨9, by decide, rfl, by decide +kernel⟩ (n9 rfl) (fun vs hvs => by cases hvs; exact n9 rfl) h (fun vs hvs => ?_) (fun E hE => nomatch hE)
  cases hvs
  refine st_i2l hC dL_order_8 ?_
  refine xs_lastO h81 C dL_order_9 ?_
  refine st_goto (tg := 17) hC dL_order_10 rfl ?_
  refine st_iconst hC dL_order_17 rfl ?_
  exact xw_ireturn C dL_order_18 (by decide) (by decide) ⟨rfl, rfl⟩
set_option maxRecDepth 20000 in
theorem w_order_2 {σ σ1 : Sg} {x y : Int} (h : Ct 40 MX10_order (rV 19 0 :: [iV x, iV y]) σ (.inr 2) σ1) : CtL yL_order (wW yL_order cL_order 5 [(0, 10, 13, 13)]) [rV 19 0, iV x, iV y, rV 35 88] σ 1 (o80 σ σ1) := by
  refine mk_W (by decide +kernel) rfl (Nat.le_of_ble_eq_true rfl) ?_
  intro p l e s m args below meth c K A h81 C hgw hNC ht
  have hC := clo_L (Q := QfW below K ((o80 σ σ1)) (1) args s A) (cl := 0) (sl := 0) (d := 40) (R := rmW) (p := p) (e := e) (below := below) h81 C (by decide) (by decide) (by decide) (by decide)
  refine st_aload_n hC dL_order_0 rfl (by decide) (by decide) ?_
  refine st_iconst hC dL_order_1 rfl ?_
  refine st_aload_n hC dL_order_2 rfl (by decide) (by decide) ?_
  refine st_iload_n hC dL_order_3 rfl ?_
  refine st_iload_n hC dL_order_4 rfl ?_
  refine xs_callVH (d := 40) (t := 19) (a := 0) (As := [iV x, iV y]) (S := [iV 0, rV 35 88]) h81 C dL_order_5 (show look (CLt 12) 138 = some (MX10_order, false, 2) from rfl) rfl (by decide) (by decide) (by decide) (Nat.le_of_ble_eq_true rfl) (Nat.le_of_ble_eq_true rfl) ⟨9, by decide, rfl, by decide +kernel⟩ (n9 rfl) (fun vs hvs => by cases hvs) h (fun vs hvs => nomatch hvs) (fun E hE hO1 hE1 hE4 hn1 hL1 hS1 H locs ls q ce hP hSS hl hce hcv hcl => ?_)
  cases hE
  refine xw_catch (E := 2) (pc2 := 15) (i := 4) (x := ⟨0, 10, 13, 13⟩) (pre := []) (suf := []) C hgw hNC (by decide) (by decide) (ht.trans rfl) (fun z hz => nomatch hz) rfl (by decide) (Or.inl ⟨dL_order_13, rfl⟩) (Nat.le_of_ble_eq_true rfl) hO1 hn1 hL1 ?_ hP hSS hl hce hcv hcl
  refine xs_iconst C dL_order_15 ?_
  exact xw_ireturn C dL_order_16 (by decide) (by decide) ⟨by decide, rfl⟩
theorem w_order_x {σ σ1 : Sg} {x y : Int} {E : Nat} (hE : cdI E ≠ 0) (h : Ct 40 MX10_order (rV 19 0 :: [iV x, iV y]) σ (.inr E) σ1) : CtL yL_order (wW yL_order cL_order 5 [(0, 10, 13, 13)]) [rV 19 0, iV x, iV y, rV 35 88] σ (cdI E) (o80 σ σ1) := by
  by_cases e2 : E = 2
  · subst e2; exact w_order_2 h
  exact absurd (show cdI E = 0 by unfold cdI; rw [if_neg e2]) hE
set_option maxRecDepth 20000 in
theorem w_owe {σ σ1 : Sg} {x y z : Int} {v : Int} (h : Ct 40 MX10_owe (rV 19 0 :: [iV x, iV y, lV z]) σ (.inl [lV v]) σ1) : CtL yL_owe (wW yL_owe cL_owe 7 [(0, 11, 14, 18), (0, 11, 18, 13), (0, 11, 22, 50)]) [rV 19 0, iV x, iV y, lV z, rV 35 88] σ 0 (upS (o80 σ σ1) 88 0 v) := by
  refine mk_W (by decide +kernel) rfl (Nat.le_of_ble_eq_true rfl) ?_
  intro p l e s m args below meth c K A h81 C hgw hNC ht
  have hC := clo_L (Q := QfW below K ((upS (o80 σ σ1) 88 0 v)) (0) args s A) (cl := 0) (sl := 0) (d := 40) (R := rmW) (p := p) (e := e) (below := below) h81 C (by decide) (by decide) (by decide) (by decide)
  refine st_aload hC dL_owe_0 rfl (by decide) (by decide) ?_
  refine st_iconst hC dL_owe_2 rfl ?_
  refine st_aload_n hC dL_owe_3 rfl (by decide) (by decide) ?_
  refine st_iload_n hC dL_owe_4 rfl ?_
  refine st_iload_n hC dL_owe_5 rfl ?_
  refine st_lload_n hC dL_owe_6 rfl ?_
  refine xs_callVH (d := 40) (t := 19) (a := 0) (As := [iV x, iV y, lV z]) (S := [iV 0, rV 35 88]) h81 C dL_owe_7 (show look (CLt 12) 141 = some (MX10_owe, false, 3) from rfl) rfl (by decide) (by decide) (by decide) (Nat.le_of_ble_eq_true rfl) (Nat.le_of_ble_eq_true rfl) ⟨9, by decide, rfl, by decide +kernel⟩ (n9 rfl) (fun vs hvs => by cases hvs; exact n9 rfl) h (fun vs hvs => ?_) (fun E hE => nomatch hE)
  cases hvs
  refine xs_lastO h81 C dL_owe_10 ?_
  refine st_goto (tg := 26) hC dL_owe_11 rfl ?_
  refine st_iconst hC dL_owe_26 rfl ?_
  exact xw_ireturn C dL_owe_27 (by decide) (by decide) ⟨rfl, rfl⟩
set_option maxRecDepth 20000 in
theorem w_owe_1 {σ σ1 : Sg} {x y z : Int} (h : Ct 40 MX10_owe (rV 19 0 :: [iV x, iV y, lV z]) σ (.inr 1) σ1) : CtL yL_owe (wW yL_owe cL_owe 7 [(0, 11, 14, 18), (0, 11, 18, 13), (0, 11, 22, 50)]) [rV 19 0, iV x, iV y, lV z, rV 35 88] σ 1 (o80 σ σ1) := by
  refine mk_W (by decide +kernel) rfl (Nat.le_of_ble_eq_true rfl) ?_
  intro p l e s m args below meth c K A h81 C hgw hNC ht
  have hC := clo_L (Q := QfW below K ((o80 σ σ1)) (1) args s A) (cl := 0) (sl := 0) (d := 40) (R := rmW) (p := p) (e := e) (below := below) h81 C (by decide) (by decide) (by decide) (by decide)
  refine st_aload hC dL_owe_0 rfl (by decide) (by decide) ?_
  refine st_iconst hC dL_owe_2 rfl ?_
  refine st_aload_n hC dL_owe_3 rfl (by decide) (by decide) ?_
  refine st_iload_n hC dL_owe_4 rfl ?_
  refine st_iload_n hC dL_owe_5 rfl ?_
  refine st_lload_n hC dL_owe_6 rfl ?_
  refine xs_callVH (d := 40) (t := 19) (a := 0) (As := [iV x, iV y, lV z]) (S := [iV 0, rV 35 88]) h81 C dL_owe_7 (show look (CLt 12) 141 = some (MX10_owe, false, 3) from rfl) rfl (by decide) (by decide) (by decide) (Nat.le_of_ble_eq_true rfl) (Nat.le_of_ble_eq_true rfl) ⟨9, by decide, rfl, by decide +kernel⟩ (n9 rfl) (fun vs hvs => by cases hvs) h (fun vs hvs => nomatch hvs) (fun E hE hO1 hE1 hE4 hn1 hL1 hS1 H locs ls q ce hP hSS hl hce hcv hcl => ?_)
  cases hE
  refine xw_catch (E := 1) (pc2 := 16) (i := 6) (x := ⟨0, 11, 14, 18⟩) (pre := []) (suf := [⟨0, 11, 18, 13⟩, ⟨0, 11, 22, 50⟩]) C hgw hNC (by decide) (by decide) (ht.trans rfl) (fun z hz => nomatch hz) rfl (by decide) (Or.inl ⟨dL_owe_14, rfl⟩) (Nat.le_of_ble_eq_true rfl) hO1 hn1 hL1 ?_ hP hSS hl hce hcv hcl
  refine xs_iconst C dL_owe_16 ?_
  exact xw_ireturn C dL_owe_17 (by decide) (by decide) ⟨by decide, rfl⟩
set_option maxRecDepth 20000 in
theorem w_owe_2 {σ σ1 : Sg} {x y z : Int} (h : Ct 40 MX10_owe (rV 19 0 :: [iV x, iV y, lV z]) σ (.inr 2) σ1) : CtL yL_owe (wW yL_owe cL_owe 7 [(0, 11, 14, 18), (0, 11, 18, 13), (0, 11, 22, 50)]) [rV 19 0, iV x, iV y, lV z, rV 35 88] σ 2 (o80 σ σ1) := by
  refine mk_W (by decide +kernel) rfl (Nat.le_of_ble_eq_true rfl) ?_
  intro p l e s m args below meth c K A h81 C hgw hNC ht
  have hC := clo_L (Q := QfW below K ((o80 σ σ1)) (2) args s A) (cl := 0) (sl := 0) (d := 40) (R := rmW) (p := p) (e := e) (below := below) h81 C (by decide) (by decide) (by decide) (by decide)
  refine st_aload hC dL_owe_0 rfl (by decide) (by decide) ?_
  refine st_iconst hC dL_owe_2 rfl ?_
  refine st_aload_n hC dL_owe_3 rfl (by decide) (by decide) ?_
  refine st_iload_n hC dL_owe_4 rfl ?_
  refine st_iload_n hC dL_owe_5 rfl ?_
  refine st_lload_n hC dL_owe_6 rfl ?_
  refine xs_callVH (d := 40) (t := 19) (a := 0) (As := [iV x, iV y, lV z]) (S := [iV 0, rV 35 88]) h81 C dL_owe_7 (show look (CLt 12) 141 = some (MX10_owe, false, 3) from rfl) rfl (by decide) (by decide) (by decide) (Nat.le_of_ble_eq_true rfl) (Nat.le_of_ble_eq_true rfl) ⟨9, by decide, rfl, by decide +kernel⟩ (n9 rfl) (fun vs hvs => by cases hvs) h (fun vs hvs => nomatch hvs) (fun E hE hO1 hE1 hE4 hn1 hL1 hS1 H locs ls q ce hP hSS hl hce hcv hcl => ?_)
  cases hE
  refine xw_catch (E := 2) (pc2 := 20) (i := 6) (x := ⟨0, 11, 18, 13⟩) (pre := [⟨0, 11, 14, 18⟩]) (suf := [⟨0, 11, 22, 50⟩]) C hgw hNC (by decide) (by decide) (ht.trans rfl) (fun z hz => by cases hz with
    | head => exact ⟨1, by decide, by decide, by decide, rfl⟩
    | tail _ h9 => nomatch h9) rfl (by decide) (Or.inl ⟨dL_owe_18, rfl⟩) (Nat.le_of_ble_eq_true rfl) hO1 hn1 hL1 ?_ hP hSS hl hce hcv hcl
  refine xs_iconst C dL_owe_20 ?_
  exact xw_ireturn C dL_owe_21 (by decide) (by decide) ⟨by decide, rfl⟩
set_option maxRecDepth 20000 in
theorem w_owe_3 {σ σ1 : Sg} {x y z : Int} (h : Ct 40 MX10_owe (rV 19 0 :: [iV x, iV y, lV z]) σ (.inr 3) σ1) : CtL yL_owe (wW yL_owe cL_owe 7 [(0, 11, 14, 18), (0, 11, 18, 13), (0, 11, 22, 50)]) [rV 19 0, iV x, iV y, lV z, rV 35 88] σ 3 (o80 σ σ1) := by
  refine mk_W (by decide +kernel) rfl (Nat.le_of_ble_eq_true rfl) ?_
  intro p l e s m args below meth c K A h81 C hgw hNC ht
  have hC := clo_L (Q := QfW below K ((o80 σ σ1)) (3) args s A) (cl := 0) (sl := 0) (d := 40) (R := rmW) (p := p) (e := e) (below := below) h81 C (by decide) (by decide) (by decide) (by decide)
  refine st_aload hC dL_owe_0 rfl (by decide) (by decide) ?_
  refine st_iconst hC dL_owe_2 rfl ?_
  refine st_aload_n hC dL_owe_3 rfl (by decide) (by decide) ?_
  refine st_iload_n hC dL_owe_4 rfl ?_
  refine st_iload_n hC dL_owe_5 rfl ?_
  refine st_lload_n hC dL_owe_6 rfl ?_
  refine xs_callVH (d := 40) (t := 19) (a := 0) (As := [iV x, iV y, lV z]) (S := [iV 0, rV 35 88]) h81 C dL_owe_7 (show look (CLt 12) 141 = some (MX10_owe, false, 3) from rfl) rfl (by decide) (by decide) (by decide) (Nat.le_of_ble_eq_true rfl) (Nat.le_of_ble_eq_true rfl) ⟨9, by decide, rfl, by decide +kernel⟩ (n9 rfl) (fun vs hvs => by cases hvs) h (fun vs hvs => nomatch hvs) (fun E hE hO1 hE1 hE4 hn1 hL1 hS1 H locs ls q ce hP hSS hl hce hcv hcl => ?_)
  cases hE
  refine xw_catch (E := 3) (pc2 := 24) (i := 6) (x := ⟨0, 11, 22, 50⟩) (pre := [⟨0, 11, 14, 18⟩, ⟨0, 11, 18, 13⟩]) (suf := []) C hgw hNC (by decide) (by decide) (ht.trans rfl) (fun z hz => by cases hz with
    | head => exact ⟨1, by decide, by decide, by decide, rfl⟩
    | tail _ h9 => cases h9 with
      | head => exact ⟨2, by decide, by decide, by decide, rfl⟩
      | tail _ h9 => nomatch h9) rfl (by decide) (Or.inl ⟨dL_owe_22, rfl⟩) (Nat.le_of_ble_eq_true rfl) hO1 hn1 hL1 ?_ hP hSS hl hce hcv hcl
  refine xs_iconst C dL_owe_24 ?_
  exact xw_ireturn C dL_owe_25 (by decide) (by decide) ⟨by decide, rfl⟩
theorem w_owe_x {σ σ1 : Sg} {x y z : Int} {E : Nat} (hE : cdD E ≠ 0) (h : Ct 40 MX10_owe (rV 19 0 :: [iV x, iV y, lV z]) σ (.inr E) σ1) : CtL yL_owe (wW yL_owe cL_owe 7 [(0, 11, 14, 18), (0, 11, 18, 13), (0, 11, 22, 50)]) [rV 19 0, iV x, iV y, lV z, rV 35 88] σ (cdD E) (o80 σ σ1) := by
  by_cases e1 : E = 1
  · subst e1; exact w_owe_1 h
  by_cases e2 : E = 2
  · subst e2; exact w_owe_2 h
  by_cases e3 : E = 3
  · subst e3; exact w_owe_3 h
  exact absurd (show cdD E = 0 by unfold cdD; rw [if_neg e1, if_neg e2, if_neg e3]) hE
set_option maxRecDepth 20000 in
theorem w_owed {σ σ1 : Sg} {x y : Int} {v : Int} (h : Ct 40 MX10_owed (rV 19 0 :: [iV x, iV y]) σ (.inl [lV v]) σ1) : CtL yL_owed (wW yL_owed cL_owed 5 [(0, 9, 12, 18)]) [rV 19 0, iV x, iV y, rV 35 88] σ 0 (upS (o80 σ σ1) 88 0 v) := by
  refine mk_W (by decide +kernel) rfl (Nat.le_of_ble_eq_true rfl) ?_
  intro p l e s m args below meth c K A h81 C hgw hNC ht
  have hC := clo_L (Q := QfW below K ((upS (o80 σ σ1) 88 0 v)) (0) args s A) (cl := 0) (sl := 0) (d := 40) (R := rmW) (p := p) (e := e) (below := below) h81 C (by decide) (by decide) (by decide) (by decide)
  refine st_aload_n hC dL_owed_0 rfl (by decide) (by decide) ?_
  refine st_iconst hC dL_owed_1 rfl ?_
  refine st_aload_n hC dL_owed_2 rfl (by decide) (by decide) ?_
  refine st_iload_n hC dL_owed_3 rfl ?_
  refine st_iload_n hC dL_owed_4 rfl ?_
  refine xs_callVH (d := 40) (t := 19) (a := 0) (As := [iV x, iV y]) (S := [iV 0, rV 35 88]) h81 C dL_owed_5 (show look (CLt 12) 145 = some (MX10_owed, false, 2) from rfl) rfl (by decide) (by decide) (by decide) (Nat.le_of_ble_eq_true rfl) (Nat.le_of_ble_eq_true rfl) ⟨9, by decide, rfl, by decide +kernel⟩ (n9 rfl) (fun vs hvs => by cases hvs; exact n9 rfl) h (fun vs hvs => ?_) (fun E hE => nomatch hE)
  cases hvs
  refine xs_lastO h81 C dL_owed_8 ?_
  refine st_goto (tg := 16) hC dL_owed_9 rfl ?_
  refine st_iconst hC dL_owed_16 rfl ?_
  exact xw_ireturn C dL_owed_17 (by decide) (by decide) ⟨rfl, rfl⟩
set_option maxRecDepth 20000 in
theorem w_owed_1 {σ σ1 : Sg} {x y : Int} (h : Ct 40 MX10_owed (rV 19 0 :: [iV x, iV y]) σ (.inr 1) σ1) : CtL yL_owed (wW yL_owed cL_owed 5 [(0, 9, 12, 18)]) [rV 19 0, iV x, iV y, rV 35 88] σ 1 (o80 σ σ1) := by
  refine mk_W (by decide +kernel) rfl (Nat.le_of_ble_eq_true rfl) ?_
  intro p l e s m args below meth c K A h81 C hgw hNC ht
  have hC := clo_L (Q := QfW below K ((o80 σ σ1)) (1) args s A) (cl := 0) (sl := 0) (d := 40) (R := rmW) (p := p) (e := e) (below := below) h81 C (by decide) (by decide) (by decide) (by decide)
  refine st_aload_n hC dL_owed_0 rfl (by decide) (by decide) ?_
  refine st_iconst hC dL_owed_1 rfl ?_
  refine st_aload_n hC dL_owed_2 rfl (by decide) (by decide) ?_
  refine st_iload_n hC dL_owed_3 rfl ?_
  refine st_iload_n hC dL_owed_4 rfl ?_
  refine xs_callVH (d := 40) (t := 19) (a := 0) (As := [iV x, iV y]) (S := [iV 0, rV 35 88]) h81 C dL_owed_5 (show look (CLt 12) 145 = some (MX10_owed, false, 2) from rfl) rfl (by decide) (by decide) (by decide) (Nat.le_of_ble_eq_true rfl) (Nat.le_of_ble_eq_true rfl) ⟨9, by decide, rfl, by decide +kernel⟩ (n9 rfl) (fun vs hvs => by cases hvs) h (fun vs hvs => nomatch hvs) (fun E hE hO1 hE1 hE4 hn1 hL1 hS1 H locs ls q ce hP hSS hl hce hcv hcl => ?_)
  cases hE
  refine xw_catch (E := 1) (pc2 := 14) (i := 4) (x := ⟨0, 9, 12, 18⟩) (pre := []) (suf := []) C hgw hNC (by decide) (by decide) (ht.trans rfl) (fun z hz => nomatch hz) rfl (by decide) (Or.inl ⟨dL_owed_12, rfl⟩) (Nat.le_of_ble_eq_true rfl) hO1 hn1 hL1 ?_ hP hSS hl hce hcv hcl
  refine xs_iconst C dL_owed_14 ?_
  exact xw_ireturn C dL_owed_15 (by decide) (by decide) ⟨by decide, rfl⟩
theorem w_owed_x {σ σ1 : Sg} {x y : Int} {E : Nat} (hE : cdN E ≠ 0) (h : Ct 40 MX10_owed (rV 19 0 :: [iV x, iV y]) σ (.inr E) σ1) : CtL yL_owed (wW yL_owed cL_owed 5 [(0, 9, 12, 18)]) [rV 19 0, iV x, iV y, rV 35 88] σ (cdN E) (o80 σ σ1) := by
  by_cases e1 : E = 1
  · subst e1; exact w_owed_1 h
  exact absurd (show cdN E = 0 by unfold cdN; rw [if_neg e1]) hE
set_option maxRecDepth 20000 in
theorem w_tray {σ σ1 : Sg} {x y z : Int} (h : Ct 40 MX10_tray (rV 19 0 :: [iV x, iV y, iV z]) σ (.inl []) σ1) : CtL yL_tray (wW yL_tray cL_tray 5 [(0, 7, 10, 18), (0, 7, 14, 13)]) [rV 19 0, iV x, iV y, iV z] σ 0 (o80 σ σ1) := by
  refine mk_W (by decide +kernel) rfl (Nat.le_of_ble_eq_true rfl) ?_
  intro p l e s m args below meth c K A h81 C hgw hNC ht
  have hC := clo_L (Q := QfW below K ((o80 σ σ1)) (0) args s A) (cl := 0) (sl := 0) (d := 40) (R := rmW) (p := p) (e := e) (below := below) h81 C (by decide) (by decide) (by decide) (by decide)
  refine st_aload_n hC dL_tray_0 rfl (by decide) (by decide) ?_
  refine st_iload_n hC dL_tray_1 rfl ?_
  refine st_iload_n hC dL_tray_2 rfl ?_
  refine st_iload_n hC dL_tray_3 rfl ?_
  refine xs_callVH (d := 40) (t := 19) (a := 0) (As := [iV x, iV y, iV z]) (S := []) h81 C dL_tray_4 (show look (CLt 12) 148 = some (MX10_tray, false, 3) from rfl) rfl (by decide) (by decide) (by decide) (Nat.le_of_ble_eq_true rfl) (Nat.le_of_ble_eq_true rfl) ⟨9, by decide, rfl, by decide +kernel⟩ (n9 rfl) (fun vs hvs => by cases hvs; exact n9 rfl) h (fun vs hvs => ?_) (fun E hE => nomatch hE)
  cases hvs
  refine st_goto (tg := 18) hC dL_tray_7 rfl ?_
  refine st_iconst hC dL_tray_18 rfl ?_
  exact xw_ireturn C dL_tray_19 (by decide) (by decide) ⟨rfl, rfl⟩
set_option maxRecDepth 20000 in
theorem w_tray_1 {σ σ1 : Sg} {x y z : Int} (h : Ct 40 MX10_tray (rV 19 0 :: [iV x, iV y, iV z]) σ (.inr 1) σ1) : CtL yL_tray (wW yL_tray cL_tray 5 [(0, 7, 10, 18), (0, 7, 14, 13)]) [rV 19 0, iV x, iV y, iV z] σ 1 (o80 σ σ1) := by
  refine mk_W (by decide +kernel) rfl (Nat.le_of_ble_eq_true rfl) ?_
  intro p l e s m args below meth c K A h81 C hgw hNC ht
  have hC := clo_L (Q := QfW below K ((o80 σ σ1)) (1) args s A) (cl := 0) (sl := 0) (d := 40) (R := rmW) (p := p) (e := e) (below := below) h81 C (by decide) (by decide) (by decide) (by decide)
  refine st_aload_n hC dL_tray_0 rfl (by decide) (by decide) ?_
  refine st_iload_n hC dL_tray_1 rfl ?_
  refine st_iload_n hC dL_tray_2 rfl ?_
  refine st_iload_n hC dL_tray_3 rfl ?_
  refine xs_callVH (d := 40) (t := 19) (a := 0) (As := [iV x, iV y, iV z]) (S := []) h81 C dL_tray_4 (show look (CLt 12) 148 = some (MX10_tray, false, 3) from rfl) rfl (by decide) (by decide) (by decide) (Nat.le_of_ble_eq_true rfl) (Nat.le_of_ble_eq_true rfl) ⟨9, by decide, rfl, by decide +kernel⟩ (n9 rfl) (fun vs hvs => by cases hvs) h (fun vs hvs => nomatch hvs) (fun E hE hO1 hE1 hE4 hn1 hL1 hS1 H locs ls q ce hP hSS hl hce hcv hcl => ?_)
  cases hE
  refine xw_catch (E := 1) (pc2 := 12) (i := 4) (x := ⟨0, 7, 10, 18⟩) (pre := []) (suf := [⟨0, 7, 14, 13⟩]) C hgw hNC (by decide) (by decide) (ht.trans rfl) (fun z hz => nomatch hz) rfl (by decide) (Or.inl ⟨dL_tray_10, rfl⟩) (Nat.le_of_ble_eq_true rfl) hO1 hn1 hL1 ?_ hP hSS hl hce hcv hcl
  refine xs_iconst C dL_tray_12 ?_
  exact xw_ireturn C dL_tray_13 (by decide) (by decide) ⟨by decide, rfl⟩
set_option maxRecDepth 20000 in
theorem w_tray_2 {σ σ1 : Sg} {x y z : Int} (h : Ct 40 MX10_tray (rV 19 0 :: [iV x, iV y, iV z]) σ (.inr 2) σ1) : CtL yL_tray (wW yL_tray cL_tray 5 [(0, 7, 10, 18), (0, 7, 14, 13)]) [rV 19 0, iV x, iV y, iV z] σ 2 (o80 σ σ1) := by
  refine mk_W (by decide +kernel) rfl (Nat.le_of_ble_eq_true rfl) ?_
  intro p l e s m args below meth c K A h81 C hgw hNC ht
  have hC := clo_L (Q := QfW below K ((o80 σ σ1)) (2) args s A) (cl := 0) (sl := 0) (d := 40) (R := rmW) (p := p) (e := e) (below := below) h81 C (by decide) (by decide) (by decide) (by decide)
  refine st_aload_n hC dL_tray_0 rfl (by decide) (by decide) ?_
  refine st_iload_n hC dL_tray_1 rfl ?_
  refine st_iload_n hC dL_tray_2 rfl ?_
  refine st_iload_n hC dL_tray_3 rfl ?_
  refine xs_callVH (d := 40) (t := 19) (a := 0) (As := [iV x, iV y, iV z]) (S := []) h81 C dL_tray_4 (show look (CLt 12) 148 = some (MX10_tray, false, 3) from rfl) rfl (by decide) (by decide) (by decide) (Nat.le_of_ble_eq_true rfl) (Nat.le_of_ble_eq_true rfl) ⟨9, by decide, rfl, by decide +kernel⟩ (n9 rfl) (fun vs hvs => by cases hvs) h (fun vs hvs => nomatch hvs) (fun E hE hO1 hE1 hE4 hn1 hL1 hS1 H locs ls q ce hP hSS hl hce hcv hcl => ?_)
  cases hE
  refine xw_catch (E := 2) (pc2 := 16) (i := 4) (x := ⟨0, 7, 14, 13⟩) (pre := [⟨0, 7, 10, 18⟩]) (suf := []) C hgw hNC (by decide) (by decide) (ht.trans rfl) (fun z hz => by cases hz with
    | head => exact ⟨1, by decide, by decide, by decide, rfl⟩
    | tail _ h9 => nomatch h9) rfl (by decide) (Or.inl ⟨dL_tray_14, rfl⟩) (Nat.le_of_ble_eq_true rfl) hO1 hn1 hL1 ?_ hP hSS hl hce hcv hcl
  refine xs_iconst C dL_tray_16 ?_
  exact xw_ireturn C dL_tray_17 (by decide) (by decide) ⟨by decide, rfl⟩
theorem w_tray_x {σ σ1 : Sg} {x y z : Int} {E : Nat} (hE : cdNI E ≠ 0) (h : Ct 40 MX10_tray (rV 19 0 :: [iV x, iV y, iV z]) σ (.inr E) σ1) : CtL yL_tray (wW yL_tray cL_tray 5 [(0, 7, 10, 18), (0, 7, 14, 13)]) [rV 19 0, iV x, iV y, iV z] σ (cdNI E) (o80 σ σ1) := by
  by_cases e1 : E = 1
  · subst e1; exact w_tray_1 h
  by_cases e2 : E = 2
  · subst e2; exact w_tray_2 h
  exact absurd (show cdNI E = 0 by unfold cdNI; rw [if_neg e1, if_neg e2]) hE
set_option maxRecDepth 20000 in
theorem w_write {σ σ1 : Sg} {x y z : Int} {v : Int} (h : Ct 40 MX10_write (rV 19 0 :: [iV x, iV y, lV z]) σ (.inl [lV v]) σ1) : CtL yL_write (wW yL_write cL_write 7 [(0, 11, 14, 18), (0, 11, 18, 50), (0, 11, 22, 155)]) [rV 19 0, iV x, iV y, lV z, rV 35 88] σ 0 (upS (o80 σ σ1) 88 0 v) := by
  refine mk_W (by decide +kernel) rfl (Nat.le_of_ble_eq_true rfl) ?_
  intro p l e s m args below meth c K A h81 C hgw hNC ht
  have hC := clo_L (Q := QfW below K ((upS (o80 σ σ1) 88 0 v)) (0) args s A) (cl := 0) (sl := 0) (d := 40) (R := rmW) (p := p) (e := e) (below := below) h81 C (by decide) (by decide) (by decide) (by decide)
  refine st_aload hC dL_write_0 rfl (by decide) (by decide) ?_
  refine st_iconst hC dL_write_2 rfl ?_
  refine st_aload_n hC dL_write_3 rfl (by decide) (by decide) ?_
  refine st_iload_n hC dL_write_4 rfl ?_
  refine st_iload_n hC dL_write_5 rfl ?_
  refine st_lload_n hC dL_write_6 rfl ?_
  refine xs_callVH (d := 40) (t := 19) (a := 0) (As := [iV x, iV y, lV z]) (S := [iV 0, rV 35 88]) h81 C dL_write_7 (show look (CLt 12) 152 = some (MX10_write, false, 3) from rfl) rfl (by decide) (by decide) (by decide) (Nat.le_of_ble_eq_true rfl) (Nat.le_of_ble_eq_true rfl) ⟨9, by decide, rfl, by decide +kernel⟩ (n9 rfl) (fun vs hvs => by cases hvs; exact n9 rfl) h (fun vs hvs => ?_) (fun E hE => nomatch hE)
  cases hvs
  refine xs_lastO h81 C dL_write_10 ?_
  refine st_goto (tg := 26) hC dL_write_11 rfl ?_
  refine st_iconst hC dL_write_26 rfl ?_
  exact xw_ireturn C dL_write_27 (by decide) (by decide) ⟨rfl, rfl⟩
set_option maxRecDepth 20000 in
theorem w_write_1 {σ σ1 : Sg} {x y z : Int} (h : Ct 40 MX10_write (rV 19 0 :: [iV x, iV y, lV z]) σ (.inr 1) σ1) : CtL yL_write (wW yL_write cL_write 7 [(0, 11, 14, 18), (0, 11, 18, 50), (0, 11, 22, 155)]) [rV 19 0, iV x, iV y, lV z, rV 35 88] σ 1 (o80 σ σ1) := by
  refine mk_W (by decide +kernel) rfl (Nat.le_of_ble_eq_true rfl) ?_
  intro p l e s m args below meth c K A h81 C hgw hNC ht
  have hC := clo_L (Q := QfW below K ((o80 σ σ1)) (1) args s A) (cl := 0) (sl := 0) (d := 40) (R := rmW) (p := p) (e := e) (below := below) h81 C (by decide) (by decide) (by decide) (by decide)
  refine st_aload hC dL_write_0 rfl (by decide) (by decide) ?_
  refine st_iconst hC dL_write_2 rfl ?_
  refine st_aload_n hC dL_write_3 rfl (by decide) (by decide) ?_
  refine st_iload_n hC dL_write_4 rfl ?_
  refine st_iload_n hC dL_write_5 rfl ?_
  refine st_lload_n hC dL_write_6 rfl ?_
  refine xs_callVH (d := 40) (t := 19) (a := 0) (As := [iV x, iV y, lV z]) (S := [iV 0, rV 35 88]) h81 C dL_write_7 (show look (CLt 12) 152 = some (MX10_write, false, 3) from rfl) rfl (by decide) (by decide) (by decide) (Nat.le_of_ble_eq_true rfl) (Nat.le_of_ble_eq_true rfl) ⟨9, by decide, rfl, by decide +kernel⟩ (n9 rfl) (fun vs hvs => by cases hvs) h (fun vs hvs => nomatch hvs) (fun E hE hO1 hE1 hE4 hn1 hL1 hS1 H locs ls q ce hP hSS hl hce hcv hcl => ?_)
  cases hE
  refine xw_catch (E := 1) (pc2 := 16) (i := 6) (x := ⟨0, 11, 14, 18⟩) (pre := []) (suf := [⟨0, 11, 18, 50⟩, ⟨0, 11, 22, 155⟩]) C hgw hNC (by decide) (by decide) (ht.trans rfl) (fun z hz => nomatch hz) rfl (by decide) (Or.inl ⟨dL_write_14, rfl⟩) (Nat.le_of_ble_eq_true rfl) hO1 hn1 hL1 ?_ hP hSS hl hce hcv hcl
  refine xs_iconst C dL_write_16 ?_
  exact xw_ireturn C dL_write_17 (by decide) (by decide) ⟨by decide, rfl⟩
set_option maxRecDepth 20000 in
theorem w_write_3 {σ σ1 : Sg} {x y z : Int} (h : Ct 40 MX10_write (rV 19 0 :: [iV x, iV y, lV z]) σ (.inr 3) σ1) : CtL yL_write (wW yL_write cL_write 7 [(0, 11, 14, 18), (0, 11, 18, 50), (0, 11, 22, 155)]) [rV 19 0, iV x, iV y, lV z, rV 35 88] σ 2 (o80 σ σ1) := by
  refine mk_W (by decide +kernel) rfl (Nat.le_of_ble_eq_true rfl) ?_
  intro p l e s m args below meth c K A h81 C hgw hNC ht
  have hC := clo_L (Q := QfW below K ((o80 σ σ1)) (2) args s A) (cl := 0) (sl := 0) (d := 40) (R := rmW) (p := p) (e := e) (below := below) h81 C (by decide) (by decide) (by decide) (by decide)
  refine st_aload hC dL_write_0 rfl (by decide) (by decide) ?_
  refine st_iconst hC dL_write_2 rfl ?_
  refine st_aload_n hC dL_write_3 rfl (by decide) (by decide) ?_
  refine st_iload_n hC dL_write_4 rfl ?_
  refine st_iload_n hC dL_write_5 rfl ?_
  refine st_lload_n hC dL_write_6 rfl ?_
  refine xs_callVH (d := 40) (t := 19) (a := 0) (As := [iV x, iV y, lV z]) (S := [iV 0, rV 35 88]) h81 C dL_write_7 (show look (CLt 12) 152 = some (MX10_write, false, 3) from rfl) rfl (by decide) (by decide) (by decide) (Nat.le_of_ble_eq_true rfl) (Nat.le_of_ble_eq_true rfl) ⟨9, by decide, rfl, by decide +kernel⟩ (n9 rfl) (fun vs hvs => by cases hvs) h (fun vs hvs => nomatch hvs) (fun E hE hO1 hE1 hE4 hn1 hL1 hS1 H locs ls q ce hP hSS hl hce hcv hcl => ?_)
  cases hE
  refine xw_catch (E := 3) (pc2 := 20) (i := 6) (x := ⟨0, 11, 18, 50⟩) (pre := [⟨0, 11, 14, 18⟩]) (suf := [⟨0, 11, 22, 155⟩]) C hgw hNC (by decide) (by decide) (ht.trans rfl) (fun z hz => by cases hz with
    | head => exact ⟨1, by decide, by decide, by decide, rfl⟩
    | tail _ h9 => nomatch h9) rfl (by decide) (Or.inl ⟨dL_write_18, rfl⟩) (Nat.le_of_ble_eq_true rfl) hO1 hn1 hL1 ?_ hP hSS hl hce hcv hcl
  refine xs_iconst C dL_write_20 ?_
  exact xw_ireturn C dL_write_21 (by decide) (by decide) ⟨by decide, rfl⟩
set_option maxRecDepth 20000 in
theorem w_write_4 {σ σ1 : Sg} {x y z : Int} (h : Ct 40 MX10_write (rV 19 0 :: [iV x, iV y, lV z]) σ (.inr 4) σ1) : CtL yL_write (wW yL_write cL_write 7 [(0, 11, 14, 18), (0, 11, 18, 50), (0, 11, 22, 155)]) [rV 19 0, iV x, iV y, lV z, rV 35 88] σ 3 (o80 σ σ1) := by
  refine mk_W (by decide +kernel) rfl (Nat.le_of_ble_eq_true rfl) ?_
  intro p l e s m args below meth c K A h81 C hgw hNC ht
  have hC := clo_L (Q := QfW below K ((o80 σ σ1)) (3) args s A) (cl := 0) (sl := 0) (d := 40) (R := rmW) (p := p) (e := e) (below := below) h81 C (by decide) (by decide) (by decide) (by decide)
  refine st_aload hC dL_write_0 rfl (by decide) (by decide) ?_
  refine st_iconst hC dL_write_2 rfl ?_
  refine st_aload_n hC dL_write_3 rfl (by decide) (by decide) ?_
  refine st_iload_n hC dL_write_4 rfl ?_
  refine st_iload_n hC dL_write_5 rfl ?_
  refine st_lload_n hC dL_write_6 rfl ?_
  refine xs_callVH (d := 40) (t := 19) (a := 0) (As := [iV x, iV y, lV z]) (S := [iV 0, rV 35 88]) h81 C dL_write_7 (show look (CLt 12) 152 = some (MX10_write, false, 3) from rfl) rfl (by decide) (by decide) (by decide) (Nat.le_of_ble_eq_true rfl) (Nat.le_of_ble_eq_true rfl) ⟨9, by decide, rfl, by decide +kernel⟩ (n9 rfl) (fun vs hvs => by cases hvs) h (fun vs hvs => nomatch hvs) (fun E hE hO1 hE1 hE4 hn1 hL1 hS1 H locs ls q ce hP hSS hl hce hcv hcl => ?_)
  cases hE
  refine xw_catch (E := 4) (pc2 := 24) (i := 6) (x := ⟨0, 11, 22, 155⟩) (pre := [⟨0, 11, 14, 18⟩, ⟨0, 11, 18, 50⟩]) (suf := []) C hgw hNC (by decide) (by decide) (ht.trans rfl) (fun z hz => by cases hz with
    | head => exact ⟨1, by decide, by decide, by decide, rfl⟩
    | tail _ h9 => cases h9 with
      | head => exact ⟨3, by decide, by decide, by decide, rfl⟩
      | tail _ h9 => nomatch h9) rfl (by decide) (Or.inl ⟨dL_write_22, rfl⟩) (Nat.le_of_ble_eq_true rfl) hO1 hn1 hL1 ?_ hP hSS hl hce hcv hcl
  refine xs_iconst C dL_write_24 ?_
  exact xw_ireturn C dL_write_25 (by decide) (by decide) ⟨by decide, rfl⟩
theorem w_write_x {σ σ1 : Sg} {x y z : Int} {E : Nat} (hE : cdW E ≠ 0) (h : Ct 40 MX10_write (rV 19 0 :: [iV x, iV y, lV z]) σ (.inr E) σ1) : CtL yL_write (wW yL_write cL_write 7 [(0, 11, 14, 18), (0, 11, 18, 50), (0, 11, 22, 155)]) [rV 19 0, iV x, iV y, lV z, rV 35 88] σ (cdW E) (o80 σ σ1) := by
  by_cases e1 : E = 1
  · subst e1; exact w_write_1 h
  by_cases e3 : E = 3
  · subst e3; exact w_write_3 h
  by_cases e4 : E = 4
  · subst e4; exact w_write_4 h
  exact absurd (show cdW E = 0 by unfold cdW; rw [if_neg e1, if_neg e3, if_neg e4]) hE
set_option maxRecDepth 20000 in
theorem w_pour {σ σ1 : Sg} {x : Int} {v : Int} (h : Ct 40 MX10_pour (rV 19 0 :: [iV x]) σ (.inl [iV v]) σ1) : CtL yL_pour (wW yL_pour cL_pour 4 [(0, 9, 12, 18), (0, 9, 15, 50)]) [rV 19 0, iV x, rV 35 88] σ 0 (upS (o80 σ σ1) 88 0 v) := by
  refine mk_W (by decide +kernel) rfl (Nat.le_of_ble_eq_true rfl) ?_
  intro p l e s m args below meth c K A h81 C hgw hNC ht
  have hC := clo_L (Q := QfW below K ((upS (o80 σ σ1) 88 0 v)) (0) args s A) (cl := 0) (sl := 0) (d := 40) (R := rmW) (p := p) (e := e) (below := below) h81 C (by decide) (by decide) (by decide) (by decide)
  refine st_aload_n hC dL_pour_0 rfl (by decide) (by decide) ?_
  refine st_iconst hC dL_pour_1 rfl ?_
  refine st_aload_n hC dL_pour_2 rfl (by decide) (by decide) ?_
  refine st_iload_n hC dL_pour_3 rfl ?_
  refine xs_callVH (d := 40) (t := 19) (a := 0) (As := [iV x]) (S := [iV 0, rV 35 88]) h81 C dL_pour_4 (show look (CLt 12) 157 = some (MX10_pour, false, 1) from rfl) rfl (by decide) (by decide) (by decide) (Nat.le_of_ble_eq_true rfl) (Nat.le_of_ble_eq_true rfl) ⟨9, by decide, rfl, by decide +kernel⟩ (n9 rfl) (fun vs hvs => by cases hvs; exact n9 rfl) h (fun vs hvs => ?_) (fun E hE => nomatch hE)
  cases hvs
  refine st_i2l hC dL_pour_7 ?_
  refine xs_lastO h81 C dL_pour_8 ?_
  refine st_goto (tg := 18) hC dL_pour_9 rfl ?_
  refine st_iconst hC dL_pour_18 rfl ?_
  exact xw_ireturn C dL_pour_19 (by decide) (by decide) ⟨rfl, rfl⟩
set_option maxRecDepth 20000 in
theorem w_pour_1 {σ σ1 : Sg} {x : Int} (h : Ct 40 MX10_pour (rV 19 0 :: [iV x]) σ (.inr 1) σ1) : CtL yL_pour (wW yL_pour cL_pour 4 [(0, 9, 12, 18), (0, 9, 15, 50)]) [rV 19 0, iV x, rV 35 88] σ 1 (o80 σ σ1) := by
  refine mk_W (by decide +kernel) rfl (Nat.le_of_ble_eq_true rfl) ?_
  intro p l e s m args below meth c K A h81 C hgw hNC ht
  have hC := clo_L (Q := QfW below K ((o80 σ σ1)) (1) args s A) (cl := 0) (sl := 0) (d := 40) (R := rmW) (p := p) (e := e) (below := below) h81 C (by decide) (by decide) (by decide) (by decide)
  refine st_aload_n hC dL_pour_0 rfl (by decide) (by decide) ?_
  refine st_iconst hC dL_pour_1 rfl ?_
  refine st_aload_n hC dL_pour_2 rfl (by decide) (by decide) ?_
  refine st_iload_n hC dL_pour_3 rfl ?_
  refine xs_callVH (d := 40) (t := 19) (a := 0) (As := [iV x]) (S := [iV 0, rV 35 88]) h81 C dL_pour_4 (show look (CLt 12) 157 = some (MX10_pour, false, 1) from rfl) rfl (by decide) (by decide) (by decide) (Nat.le_of_ble_eq_true rfl) (Nat.le_of_ble_eq_true rfl) ⟨9, by decide, rfl, by decide +kernel⟩ (n9 rfl) (fun vs hvs => by cases hvs) h (fun vs hvs => nomatch hvs) (fun E hE hO1 hE1 hE4 hn1 hL1 hS1 H locs ls q ce hP hSS hl hce hcv hcl => ?_)
  cases hE
  refine xw_catch (E := 1) (pc2 := 13) (i := 3) (x := ⟨0, 9, 12, 18⟩) (pre := []) (suf := [⟨0, 9, 15, 50⟩]) C hgw hNC (by decide) (by decide) (ht.trans rfl) (fun z hz => nomatch hz) rfl (by decide) (Or.inr ⟨3, rfl, dL_pour_12, rfl⟩) (Nat.le_of_ble_eq_true rfl) hO1 hn1 hL1 ?_ hP hSS hl hce hcv hcl
  refine xs_iconst C dL_pour_13 ?_
  exact xw_ireturn C dL_pour_14 (by decide) (by decide) ⟨by decide, rfl⟩
set_option maxRecDepth 20000 in
theorem w_pour_3 {σ σ1 : Sg} {x : Int} (h : Ct 40 MX10_pour (rV 19 0 :: [iV x]) σ (.inr 3) σ1) : CtL yL_pour (wW yL_pour cL_pour 4 [(0, 9, 12, 18), (0, 9, 15, 50)]) [rV 19 0, iV x, rV 35 88] σ 2 (o80 σ σ1) := by
  refine mk_W (by decide +kernel) rfl (Nat.le_of_ble_eq_true rfl) ?_
  intro p l e s m args below meth c K A h81 C hgw hNC ht
  have hC := clo_L (Q := QfW below K ((o80 σ σ1)) (2) args s A) (cl := 0) (sl := 0) (d := 40) (R := rmW) (p := p) (e := e) (below := below) h81 C (by decide) (by decide) (by decide) (by decide)
  refine st_aload_n hC dL_pour_0 rfl (by decide) (by decide) ?_
  refine st_iconst hC dL_pour_1 rfl ?_
  refine st_aload_n hC dL_pour_2 rfl (by decide) (by decide) ?_
  refine st_iload_n hC dL_pour_3 rfl ?_
  refine xs_callVH (d := 40) (t := 19) (a := 0) (As := [iV x]) (S := [iV 0, rV 35 88]) h81 C dL_pour_4 (show look (CLt 12) 157 = some (MX10_pour, false, 1) from rfl) rfl (by decide) (by decide) (by decide) (Nat.le_of_ble_eq_true rfl) (Nat.le_of_ble_eq_true rfl) ⟨9, by decide, rfl, by decide +kernel⟩ (n9 rfl) (fun vs hvs => by cases hvs) h (fun vs hvs => nomatch hvs) (fun E hE hO1 hE1 hE4 hn1 hL1 hS1 H locs ls q ce hP hSS hl hce hcv hcl => ?_)
  cases hE
  refine xw_catch (E := 3) (pc2 := 16) (i := 3) (x := ⟨0, 9, 15, 50⟩) (pre := [⟨0, 9, 12, 18⟩]) (suf := []) C hgw hNC (by decide) (by decide) (ht.trans rfl) (fun z hz => by cases hz with
    | head => exact ⟨1, by decide, by decide, by decide, rfl⟩
    | tail _ h9 => nomatch h9) rfl (by decide) (Or.inr ⟨3, rfl, dL_pour_15, rfl⟩) (Nat.le_of_ble_eq_true rfl) hO1 hn1 hL1 ?_ hP hSS hl hce hcv hcl
  refine xs_iconst C dL_pour_16 ?_
  exact xw_ireturn C dL_pour_17 (by decide) (by decide) ⟨by decide, rfl⟩
theorem w_pour_x {σ σ1 : Sg} {x : Int} {E : Nat} (hE : cdP E ≠ 0) (h : Ct 40 MX10_pour (rV 19 0 :: [iV x]) σ (.inr E) σ1) : CtL yL_pour (wW yL_pour cL_pour 4 [(0, 9, 12, 18), (0, 9, 15, 50)]) [rV 19 0, iV x, rV 35 88] σ (cdP E) (o80 σ σ1) := by
  by_cases e1 : E = 1
  · subst e1; exact w_pour_1 h
  by_cases e3 : E = 3
  · subst e3; exact w_pour_3 h
  exact absurd (show cdP E = 0 by unfold cdP; rw [if_neg e1, if_neg e3]) hE
set_option maxRecDepth 20000 in
theorem w_image {σ σ1 : Sg} {x : Int} (h : Ct 40 MX10_image (rV 19 0 :: [iV x]) σ (.inl []) σ1) : CtL yL_image (wW yL_image cL_image 3 [(0, 5, 8, 18)]) [rV 19 0, iV x] σ 0 (o80 σ σ1) := by
  refine mk_W (by decide +kernel) rfl (Nat.le_of_ble_eq_true rfl) ?_
  intro p l e s m args below meth c K A h81 C hgw hNC ht
  have hC := clo_L (Q := QfW below K ((o80 σ σ1)) (0) args s A) (cl := 0) (sl := 0) (d := 40) (R := rmW) (p := p) (e := e) (below := below) h81 C (by decide) (by decide) (by decide) (by decide)
  refine st_aload_n hC dL_image_0 rfl (by decide) (by decide) ?_
  refine st_iload_n hC dL_image_1 rfl ?_
  refine xs_callVH (d := 40) (t := 19) (a := 0) (As := [iV x]) (S := []) h81 C dL_image_2 (show look (CLt 12) 160 = some (MX10_image, false, 1) from rfl) rfl (by decide) (by decide) (by decide) (Nat.le_of_ble_eq_true rfl) (Nat.le_of_ble_eq_true rfl) ⟨9, by decide, rfl, by decide +kernel⟩ (n9 rfl) (fun vs hvs => by cases hvs; exact n9 rfl) h (fun vs hvs => ?_) (fun E hE => nomatch hE)
  cases hvs
  refine st_goto (tg := 11) hC dL_image_5 rfl ?_
  refine st_iconst hC dL_image_11 rfl ?_
  exact xw_ireturn C dL_image_12 (by decide) (by decide) ⟨rfl, rfl⟩
set_option maxRecDepth 20000 in
theorem w_image_1 {σ σ1 : Sg} {x : Int} (h : Ct 40 MX10_image (rV 19 0 :: [iV x]) σ (.inr 1) σ1) : CtL yL_image (wW yL_image cL_image 3 [(0, 5, 8, 18)]) [rV 19 0, iV x] σ 1 (o80 σ σ1) := by
  refine mk_W (by decide +kernel) rfl (Nat.le_of_ble_eq_true rfl) ?_
  intro p l e s m args below meth c K A h81 C hgw hNC ht
  have hC := clo_L (Q := QfW below K ((o80 σ σ1)) (1) args s A) (cl := 0) (sl := 0) (d := 40) (R := rmW) (p := p) (e := e) (below := below) h81 C (by decide) (by decide) (by decide) (by decide)
  refine st_aload_n hC dL_image_0 rfl (by decide) (by decide) ?_
  refine st_iload_n hC dL_image_1 rfl ?_
  refine xs_callVH (d := 40) (t := 19) (a := 0) (As := [iV x]) (S := []) h81 C dL_image_2 (show look (CLt 12) 160 = some (MX10_image, false, 1) from rfl) rfl (by decide) (by decide) (by decide) (Nat.le_of_ble_eq_true rfl) (Nat.le_of_ble_eq_true rfl) ⟨9, by decide, rfl, by decide +kernel⟩ (n9 rfl) (fun vs hvs => by cases hvs) h (fun vs hvs => nomatch hvs) (fun E hE hO1 hE1 hE4 hn1 hL1 hS1 H locs ls q ce hP hSS hl hce hcv hcl => ?_)
  cases hE
  refine xw_catch (E := 1) (pc2 := 9) (i := 2) (x := ⟨0, 5, 8, 18⟩) (pre := []) (suf := []) C hgw hNC (by decide) (by decide) (ht.trans rfl) (fun z hz => nomatch hz) rfl (by decide) (Or.inr ⟨2, rfl, dL_image_8, rfl⟩) (Nat.le_of_ble_eq_true rfl) hO1 hn1 hL1 ?_ hP hSS hl hce hcv hcl
  refine xs_iconst C dL_image_9 ?_
  exact xw_ireturn C dL_image_10 (by decide) (by decide) ⟨by decide, rfl⟩
theorem w_image_x {σ σ1 : Sg} {x : Int} {E : Nat} (hE : cdN E ≠ 0) (h : Ct 40 MX10_image (rV 19 0 :: [iV x]) σ (.inr E) σ1) : CtL yL_image (wW yL_image cL_image 3 [(0, 5, 8, 18)]) [rV 19 0, iV x] σ (cdN E) (o80 σ σ1) := by
  by_cases e1 : E = 1
  · subst e1; exact w_image_1 h
  exact absurd (show cdN E = 0 by unfold cdN; rw [if_neg e1]) hE
set_option maxRecDepth 20000 in
theorem w_restore {σ σ1 : Sg} {x : Int} (h : Ct 40 MX10_restore (rV 19 0 :: [iV x]) σ (.inl []) σ1) : CtL yL_restore (wW yL_restore cL_restore 3 [(0, 5, 8, 18), (0, 5, 11, 50)]) [rV 19 0, iV x] σ 0 (o80 σ σ1) := by
  refine mk_W (by decide +kernel) rfl (Nat.le_of_ble_eq_true rfl) ?_
  intro p l e s m args below meth c K A h81 C hgw hNC ht
  have hC := clo_L (Q := QfW below K ((o80 σ σ1)) (0) args s A) (cl := 0) (sl := 0) (d := 40) (R := rmW) (p := p) (e := e) (below := below) h81 C (by decide) (by decide) (by decide) (by decide)
  refine st_aload_n hC dL_restore_0 rfl (by decide) (by decide) ?_
  refine st_iload_n hC dL_restore_1 rfl ?_
  refine xs_callVH (d := 40) (t := 19) (a := 0) (As := [iV x]) (S := []) h81 C dL_restore_2 (show look (CLt 12) 164 = some (MX10_restore, false, 1) from rfl) rfl (by decide) (by decide) (by decide) (Nat.le_of_ble_eq_true rfl) (Nat.le_of_ble_eq_true rfl) ⟨9, by decide, rfl, by decide +kernel⟩ (n9 rfl) (fun vs hvs => by cases hvs; exact n9 rfl) h (fun vs hvs => ?_) (fun E hE => nomatch hE)
  cases hvs
  refine st_goto (tg := 14) hC dL_restore_5 rfl ?_
  refine st_iconst hC dL_restore_14 rfl ?_
  exact xw_ireturn C dL_restore_15 (by decide) (by decide) ⟨rfl, rfl⟩
set_option maxRecDepth 20000 in
theorem w_restore_1 {σ σ1 : Sg} {x : Int} (h : Ct 40 MX10_restore (rV 19 0 :: [iV x]) σ (.inr 1) σ1) : CtL yL_restore (wW yL_restore cL_restore 3 [(0, 5, 8, 18), (0, 5, 11, 50)]) [rV 19 0, iV x] σ 1 (o80 σ σ1) := by
  refine mk_W (by decide +kernel) rfl (Nat.le_of_ble_eq_true rfl) ?_
  intro p l e s m args below meth c K A h81 C hgw hNC ht
  have hC := clo_L (Q := QfW below K ((o80 σ σ1)) (1) args s A) (cl := 0) (sl := 0) (d := 40) (R := rmW) (p := p) (e := e) (below := below) h81 C (by decide) (by decide) (by decide) (by decide)
  refine st_aload_n hC dL_restore_0 rfl (by decide) (by decide) ?_
  refine st_iload_n hC dL_restore_1 rfl ?_
  refine xs_callVH (d := 40) (t := 19) (a := 0) (As := [iV x]) (S := []) h81 C dL_restore_2 (show look (CLt 12) 164 = some (MX10_restore, false, 1) from rfl) rfl (by decide) (by decide) (by decide) (Nat.le_of_ble_eq_true rfl) (Nat.le_of_ble_eq_true rfl) ⟨9, by decide, rfl, by decide +kernel⟩ (n9 rfl) (fun vs hvs => by cases hvs) h (fun vs hvs => nomatch hvs) (fun E hE hO1 hE1 hE4 hn1 hL1 hS1 H locs ls q ce hP hSS hl hce hcv hcl => ?_)
  cases hE
  refine xw_catch (E := 1) (pc2 := 9) (i := 2) (x := ⟨0, 5, 8, 18⟩) (pre := []) (suf := [⟨0, 5, 11, 50⟩]) C hgw hNC (by decide) (by decide) (ht.trans rfl) (fun z hz => nomatch hz) rfl (by decide) (Or.inr ⟨2, rfl, dL_restore_8, rfl⟩) (Nat.le_of_ble_eq_true rfl) hO1 hn1 hL1 ?_ hP hSS hl hce hcv hcl
  refine xs_iconst C dL_restore_9 ?_
  exact xw_ireturn C dL_restore_10 (by decide) (by decide) ⟨by decide, rfl⟩
set_option maxRecDepth 20000 in
theorem w_restore_3 {σ σ1 : Sg} {x : Int} (h : Ct 40 MX10_restore (rV 19 0 :: [iV x]) σ (.inr 3) σ1) : CtL yL_restore (wW yL_restore cL_restore 3 [(0, 5, 8, 18), (0, 5, 11, 50)]) [rV 19 0, iV x] σ 2 (o80 σ σ1) := by
  refine mk_W (by decide +kernel) rfl (Nat.le_of_ble_eq_true rfl) ?_
  intro p l e s m args below meth c K A h81 C hgw hNC ht
  have hC := clo_L (Q := QfW below K ((o80 σ σ1)) (2) args s A) (cl := 0) (sl := 0) (d := 40) (R := rmW) (p := p) (e := e) (below := below) h81 C (by decide) (by decide) (by decide) (by decide)
  refine st_aload_n hC dL_restore_0 rfl (by decide) (by decide) ?_
  refine st_iload_n hC dL_restore_1 rfl ?_
  refine xs_callVH (d := 40) (t := 19) (a := 0) (As := [iV x]) (S := []) h81 C dL_restore_2 (show look (CLt 12) 164 = some (MX10_restore, false, 1) from rfl) rfl (by decide) (by decide) (by decide) (Nat.le_of_ble_eq_true rfl) (Nat.le_of_ble_eq_true rfl) ⟨9, by decide, rfl, by decide +kernel⟩ (n9 rfl) (fun vs hvs => by cases hvs) h (fun vs hvs => nomatch hvs) (fun E hE hO1 hE1 hE4 hn1 hL1 hS1 H locs ls q ce hP hSS hl hce hcv hcl => ?_)
  cases hE
  refine xw_catch (E := 3) (pc2 := 12) (i := 2) (x := ⟨0, 5, 11, 50⟩) (pre := [⟨0, 5, 8, 18⟩]) (suf := []) C hgw hNC (by decide) (by decide) (ht.trans rfl) (fun z hz => by cases hz with
    | head => exact ⟨1, by decide, by decide, by decide, rfl⟩
    | tail _ h9 => nomatch h9) rfl (by decide) (Or.inr ⟨2, rfl, dL_restore_11, rfl⟩) (Nat.le_of_ble_eq_true rfl) hO1 hn1 hL1 ?_ hP hSS hl hce hcv hcl
  refine xs_iconst C dL_restore_12 ?_
  exact xw_ireturn C dL_restore_13 (by decide) (by decide) ⟨by decide, rfl⟩
theorem w_restore_x {σ σ1 : Sg} {x : Int} {E : Nat} (hE : cdP E ≠ 0) (h : Ct 40 MX10_restore (rV 19 0 :: [iV x]) σ (.inr E) σ1) : CtL yL_restore (wW yL_restore cL_restore 3 [(0, 5, 8, 18), (0, 5, 11, 50)]) [rV 19 0, iV x] σ (cdP E) (o80 σ σ1) := by
  by_cases e1 : E = 1
  · subst e1; exact w_restore_1 h
  by_cases e3 : E = 3
  · subst e3; exact w_restore_3 h
  exact absurd (show cdP E = 0 by unfold cdP; rw [if_neg e1, if_neg e3]) hE
