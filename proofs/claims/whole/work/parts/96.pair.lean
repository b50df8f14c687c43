/-! PAIRS: fewest, grows -/
theorem FQ_frc {σ τ : Sg} (h : FQ σ τ) : FrC σ τ := FrC.of (fun a ha => h a (by
  rcases ha with ⟨h1, _⟩ | h1
  · by_cases q : a < 57 ∨ 61 < a
    · exact q
    · exfalso
      have := (by decide : ∀ z : Fin 5, 57 + z.val ∈ scr) ⟨a - 57, by omega⟩
      have this : 57 + (a - 57) ∈ scr := this
      rw [show 57 + (a - 57) = a by omega] at this
      exact h1 this
  · omega))
theorem FN_frr {σ τ : Sg} (h : FN σ τ) : FrR σ τ := by
  have n75 : ∀ b, b ∉ scr → b ≠ 66 ∧ b ≠ 75 ∧ b ≠ 76 := fun b hb => ⟨fun q => hb (by rw [q]; decide), fun q => hb (by rw [q]; decide), fun q => hb (by rw [q]; decide)⟩
  exact ⟨⟨fun a h1 _ => h.1 a (n75 a h1).1 (n75 a h1).2.1 (n75 a h1).2.2, h.2 7 (by decide), h.2 15 (by decide), h.2 16 (by decide)⟩, fun a ha => h.1 a (by omega) (by omega) (by omega)⟩
theorem stI_gr {N : Tn} (hW : WFN N) {f : Nat} {S : Qs} (hV : VS N S) (hf : f ≤ S.2) : VS N (stI N (S.2 - f) f S) ∧ gr (6 * (S.2 - f)) S (stI N (S.2 - f) f S) := stI_ok hW (S.2 - f) f S (by omega) hV
def FwC (N : Tn) (x1 x2 : Int) (a : Nat → Nat) (v : Int) (d f : Nat) (S : Qs) : Prop := ∀ σ, CR N σ S → CK N σ → σ 57 1 = (f : Int) → (∀ j, j < 8 → σ 53 j = (a j : Int)) → ∃ σ1, (∀ (X : Nat → List Vv → List Vv → Sg → Prop) (Xr : List Vv → Sg → Prop) (Xt : Nat → Sg → Prop), Clo (Ct 7) 10 cX10_fewest (some .int) X Xr Xt → Xr [iV v] σ1 → X 25 [rV 19 0, iV x1, lV x2, uV, iV (d : Int)] [] σ) ∧ FQ σ σ1
def FwR (N : Tn) (x1 x2 : Int) (a : Nat → Nat) (v : Int) (d f : Nat) (S : Qs) : Prop := ∀ τ, RR τ S → RowM τ 67 0 N → (∀ j, j < 8 → τ 73 j = (a j : Int)) → ∃ τ1, (∀ (X : Nat → List Vv → List Vv → Sg → Prop) (Xr : List Vv → Sg → Prop) (Xt : Nat → Sg → Prop), Clo (Ct 7) 11 cX11_fewest (some .int) X Xr Xt → Xr [iV v] τ1 → X 50 [rV 20 66, iV x1, lV x2, uV, iV (f : Int), iV (d : Int), uV, uV, uV, uV] [] τ) ∧ FN τ τ1
set_option maxRecDepth 20000 in
theorem fw_step {N : Tn} (hW : WFN N) {x1 x2 : Int} {a : Nat → Nat} (hz : ∀ j, N 1 ≤ j → a j = 0) {d f : Nat} {S : Qs} (hV : VS N S) (hf : f ≤ S.2) (hd : d ≤ 3000) (hdS : d < S.2) (hb : S.2 ≤ 21001) (ih : S.2 ≤ 3000 → S.2 < (stI N (S.2 - f) f S).2 → ∃ v : Int, FwC N x1 x2 a v (d + 1) S.2 (stI N (S.2 - f) f S) ∧ FwR N x1 x2 a v (d + 1) S.2 (stI N (S.2 - f) f S)) : ∃ v : Int, FwC N x1 x2 a v d f S ∧ FwR N x1 x2 a v d f S := by
  have h8 := hW.1.1
  -- the reference's look
  have look : ∀ τ, RR τ S → RowM τ 67 0 N → (∀ j, j < 8 → τ 73 j = (a j : Int)) → ∀ (X : Nat → List Vv → List Vv → Sg → Prop) (Xr : List Vv → Sg → Prop) (Xt : Nat → Sg → Prop), Clo (Ct 7) 11 cX11_fewest (some .int) X Xr Xt → (anH N a S.1 (S.2 - f) f = true → Xr [iV (d : Int)] τ) → (anH N a S.1 (S.2 - f) f = false → (if (3000 : Int) < (S.2 : Int) then (Xr [iV (-1000)] τ) else (X 106 [rV 20 66, iV x1, lV x2, uV, iV (f : Int), iV (d : Int), iV (S.2 : Int), iV (f : Int), uV, uV] [] τ))) → X 50 [rV 20 66, iV x1, lV x2, uV, iV (f : Int), iV (d : Int), uV, uV, uV, uV] [] τ := by
    intro τ hR hM ha X Xr Xt hC hyes hno
    refine bX11_fewest_50 hC ?_
    rw [hR.1]
    have key : ∀ r i : Nat, i + r = S.2 → (anH N a S.1 r i = true → Xr [iV (d : Int)] τ) → (anH N a S.1 r i = false → (if (3000 : Int) < (S.2 : Int) then (Xr [iV (-1000)] τ) else (X 106 [rV 20 66, iV x1, lV x2, uV, iV (f : Int), iV (d : Int), iV (S.2 : Int), iV (f : Int), uV, uV] [] τ))) → X 60 [rV 20 66, iV x1, lV x2, uV, iV (f : Int), iV (d : Int), iV (S.2 : Int), iV (i : Int), uV, uV] [] τ := by
      intro r
      induction r with
      | zero =>
        intro i hi _ hn
        have hi : i = S.2 := hi
        refine bX11_fewest_60 hC ?_
        rw [if_neg (by omega)]
        exact hn rfl
      | succ r ihr =>
        intro i hi hy hn
        rw [anH_s] at hy hn
        refine bX11_fewest_60 hC ?_
        rw [if_pos (by omega), Int.toNat_natCast, hR.2.1 i (by omega)]
        refine ⟨by omega, _, ctX11_isAsked (by decide) h8 (hV i (by omega)).1 hM ha, ?_⟩
        cases q : hdB N a (S.1 i) with
        | true =>
          rw [q, Bool.true_or] at hy
          rw [if_neg (by decide)]
          exact hy rfl
        | false =>
          rw [q, Bool.false_or] at hy hn
          rw [if_pos (by decide), w32_s (by omega)]
          exact ihr (i + 1) (by omega) hy hn
    exact key (S.2 - f) f (by omega) hyes hno
  have hnew : ∀ σ, CR N σ S → σ 57 1 = (f : Int) → (∀ j, j < 8 → σ 53 j = (a j : Int)) → Ct 7 MX6_newOneHolds [rV 15 57, rV 1000008 53] σ (.inl [iV (b01 (anH N a S.1 (S.2 - f) f))]) σ := fun σ hc hf1 ha => ctX6_newHolds (by decide) h8 hc hf1 hf (by omega) ha hz
  cases hA : anH N a S.1 (S.2 - f) f with
  | true =>
    rw [hA] at hnew look
    refine ⟨(d : Int), ?_, ?_⟩
    · intro σ hc hk hf1 ha
      refine ⟨σ, ?_, FQ.refl σ⟩
      intro X Xr Xt hC hr
      refine bX10_fewest_25 hC ?_
      rw [if_neg (by omega)]
      refine ⟨_, hnew σ hc hf1 ha, ?_⟩
      rw [if_neg (by decide)]
      exact hr
    · intro τ hR hM ha
      refine ⟨τ, ?_, FN.refl τ⟩
      intro X Xr Xt hC hr
      exact look τ hR hM ha X Xr Xt hC (fun _ => hr) (fun q => Bool.noConfusion q)
  | false =>
    rw [hA] at hnew look
    by_cases hB : 3000 < S.2
    · refine ⟨-1000, ?_, ?_⟩
      · intro σ hc hk hf1 ha
        refine ⟨σ, ?_, FQ.refl σ⟩
        intro X Xr Xt hC hr
        refine bX10_fewest_25 hC ?_
        rw [if_neg (by omega)]
        refine ⟨_, hnew σ hc hf1 ha, ?_⟩
        rw [if_pos (by decide), hc.1, if_pos (by omega)]
        exact hr
      · intro τ hR hM ha
        refine ⟨τ, ?_, FN.refl τ⟩
        intro X Xr Xt hC hr
        refine look τ hR hM ha X Xr Xt hC (fun q => Bool.noConfusion q) (fun _ => ?_)
        rw [if_pos (by omega)]
        exact hr
    · by_cases hE : f = S.2
      · refine ⟨-1, ?_, ?_⟩
        · intro σ hc hk hf1 ha
          refine ⟨σ, ?_, FQ.refl σ⟩
          intro X Xr Xt hC hr
          have hhn : Ct 7 MX6_hasNew [rV 15 57] σ (.inl [iV 0]) σ := by
            refine (eX6_hasNew (d := 6) ?_).mono (by decide)
            intro X Xr Xt hC hr
            refine bX6_hasNew_0 hC ?_
            rw [hf1, hc.1, if_neg (by omega)]
            exact hr
          refine bX10_fewest_25 hC ?_
          rw [if_neg (by omega)]
          refine ⟨_, hnew σ hc hf1 ha, ?_⟩
          rw [if_pos (by decide), hc.1, if_neg (by omega)]
          refine ⟨_, hhn, ?_⟩
          rw [if_pos rfl]
          exact hr
        · intro τ hR hM ha
          refine ⟨τ, ?_, FN.refl τ⟩
          intro X Xr Xt hC hr
          refine look τ hR hM ha X Xr Xt hC (fun q => Bool.noConfusion q) (fun _ => ?_)
          rw [if_neg (by omega)]
          refine bX11_fewest_106 hC ?_
          rw [if_neg (by omega), hR.1, if_pos rfl]
          exact hr
      · obtain ⟨tv, tg⟩ := stI_gr hW hV hf
        have tg1 := tg.1
        have tg2 := tg.2.1
        obtain ⟨T, hT⟩ : ∃ T, T = stI N (S.2 - f) f S := ⟨_, rfl⟩
        have hhn : ∀ σ, CR N σ S → σ 57 1 = (f : Int) → Ct 7 MX6_hasNew [rV 15 57] σ (.inl [iV 1]) σ := by
          intro σ hc hf1
          refine (eX6_hasNew (d := 6) ?_).mono (by decide)
          intro X Xr Xt hC hr
          refine bX6_hasNew_0 hC ?_
          rw [hf1, hc.1, if_pos (by omega)]
          exact hr
        -- the class's round
        have roundC : ∀ σ, CR N σ S → CK N σ → σ 57 1 = (f : Int) → (∀ j, j < 8 → σ 53 j = (a j : Int)) → ∃ σ2, (∀ (X : Nat → List Vv → List Vv → Sg → Prop) (Xr : List Vv → Sg → Prop) (Xt : Nat → Sg → Prop), Clo (Ct 7) 10 cX10_fewest (some .int) X Xr Xt → X 25 [rV 19 0, iV x1, lV x2, uV, iV ((d + 1 : Nat) : Int)] [] σ2 → X 25 [rV 19 0, iV x1, lV x2, uV, iV (d : Int)] [] σ) ∧ CR N σ2 T ∧ CK N σ2 ∧ σ2 57 1 = (S.2 : Int) ∧ (∀ j, j < 8 → σ2 53 j = (a j : Int)) ∧ FQ σ σ2 := by
          intro σ hc hk hf1 ha
          obtain ⟨σ2, s1, s2, s3, s4, s5⟩ := ctX6_step (d := 7) (by decide) hW hV hc hk hf1 hf (by omega)
          refine ⟨σ2, ?_, by rw [hT]; exact s2, s3, s4, fun j hj => by rw [s5 53 (by decide)]; exact ha j hj, s5⟩
          intro X Xr Xt hC hx
          refine bX10_fewest_25 hC ?_
          rw [if_neg (by omega)]
          refine ⟨_, hnew σ hc hf1 ha, ?_⟩
          rw [if_pos (by decide), hc.1, if_neg (by omega)]
          refine ⟨_, hhn σ hc hf1, ?_⟩
          rw [if_neg (by decide)]
          refine ⟨_, s1, ?_⟩
          rw [w32_s (by omega)]
          exact hx
        have roundR : ∀ τ, RR τ S → RowM τ 67 0 N → (∀ j, j < 8 → τ 73 j = (a j : Int)) → ∃ τ2, (∀ (X : Nat → List Vv → List Vv → Sg → Prop) (Xr : List Vv → Sg → Prop) (Xt : Nat → Sg → Prop), Clo (Ct 7) 11 cX11_fewest (some .int) X Xr Xt → (if T.2 = S.2 then Xr [iV (-1)] τ2 else X 50 [rV 20 66, iV x1, lV x2, uV, iV (S.2 : Int), iV ((d + 1 : Nat) : Int), uV, uV, uV, uV] [] τ2) → X 50 [rV 20 66, iV x1, lV x2, uV, iV (f : Int), iV (d : Int), uV, uV, uV, uV] [] τ) ∧ RR τ2 T ∧ RowM τ2 67 0 N ∧ (∀ j, j < 8 → τ2 73 j = (a j : Int)) ∧ FN τ τ2 := by
          intro τ hR hM ha
          obtain ⟨τ2, s1, s2, s3⟩ := r_fewest hW (x1 := x1) (x2 := x2) (x4 := (f : Int)) (x5 := (d : Int)) (to := S.2) (by omega) (S.2 - f) f τ S (by omega) hR hM hV (Nat.le_refl _) (by omega)
          have s2' : RR τ2 T := by rw [hT]; exact s2
          refine ⟨τ2, ?_, s2', RowM_cell hM (s3.1 67 (by decide) (by decide) (by decide)), fun j hj => by rw [s3.1 73 (by decide) (by decide) (by decide)]; exact ha j hj, s3⟩
          intro X Xr Xt hC hx
          refine look τ hR hM ha X Xr Xt hC (fun q => Bool.noConfusion q) (fun _ => ?_)
          rw [if_neg (by omega)]
          refine s1 X Xr Xt hC ?_
          refine bX11_fewest_106 hC ?_
          rw [if_neg (by omega), s2'.1, w32_s (by omega)]
          by_cases q : T.2 = S.2
          · rw [if_pos q] at hx
            rw [if_pos (by rw [q])]
            exact hx
          · rw [if_neg q] at hx
            rw [if_neg (fun z => q (Int.ofNat_inj.mp z))]
            exact hx
        rw [← hT] at ih tv tg1 tg2
        by_cases hQ : T.2 = S.2
        · refine ⟨-1, ?_, ?_⟩
          · intro σ hc hk hf1 ha
            obtain ⟨σ2, q1, q2, q3, q4, q5, q6⟩ := roundC σ hc hk hf1 ha
            refine ⟨σ2, ?_, q6⟩
            intro X Xr Xt hC hr
            refine q1 X Xr Xt hC ?_
            have hn2 := ctX6_newHolds (d := 7) (f := S.2) (by decide) h8 q2 q4 (by omega) (by omega) q5 hz
            have e0 : anH N a T.1 (T.2 - S.2) S.2 = false := by rw [hQ, Nat.sub_self]; rfl
            rw [e0] at hn2
            have hh2 : Ct 7 MX6_hasNew [rV 15 57] σ2 (.inl [iV 0]) σ2 := by
              refine (eX6_hasNew (d := 6) ?_).mono (by decide)
              intro X Xr Xt hC hr
              refine bX6_hasNew_0 hC ?_
              rw [q4, q2.1, if_neg (by omega)]
              exact hr
            refine bX10_fewest_25 hC ?_
            rw [if_neg (by omega)]
            refine ⟨_, hn2, ?_⟩
            rw [if_pos (by decide), q2.1, if_neg (by omega)]
            refine ⟨_, hh2, ?_⟩
            rw [if_pos rfl]
            exact hr
          · intro τ hR hM ha
            obtain ⟨τ2, q1, q2, q3, q4, q5⟩ := roundR τ hR hM ha
            refine ⟨τ2, ?_, q5⟩
            intro X Xr Xt hC hr
            refine q1 X Xr Xt hC ?_
            rw [if_pos hQ]
            exact hr
        · obtain ⟨v, vC, vR⟩ := ih (by omega) (by omega)
          refine ⟨v, ?_, ?_⟩
          · intro σ hc hk hf1 ha
            obtain ⟨σ2, q1, q2, q3, q4, q5, q6⟩ := roundC σ hc hk hf1 ha
            obtain ⟨σ1, p1, p2⟩ := vC σ2 q2 q3 q4 q5
            exact ⟨σ1, fun X Xr Xt hC hr => q1 X Xr Xt hC (p1 X Xr Xt hC hr), q6.trans p2⟩
          · intro τ hR hM ha
            obtain ⟨τ2, q1, q2, q3, q4, q5⟩ := roundR τ hR hM ha
            obtain ⟨τ1, p1, p2⟩ := vR τ2 q2 q3 q4
            refine ⟨τ1, fun X Xr Xt hC hr => q1 X Xr Xt hC ?_, q5.trans p2⟩
            rw [if_neg hQ]
            exact p1 X Xr Xt hC hr
theorem fw_all {N : Tn} (hW : WFN N) {x1 x2 : Int} {a : Nat → Nat} (hz : ∀ j, N 1 ≤ j → a j = 0) : ∀ (g d f : Nat) (S : Qs), VS N S → f ≤ S.2 → d ≤ 3000 → d < S.2 → S.2 ≤ 21001 → 3001 ≤ S.2 + g → ∃ v : Int, FwC N x1 x2 a v d f S ∧ FwR N x1 x2 a v d f S := by
  intro g
  induction g with
  | zero =>
    intro d f S hV hf hd hdS hb hg
    exact fw_step hW hz hV hf hd hdS hb (fun h => by omega)
  | succ g ih =>
    intro d f S hV hf hd hdS hb hg
    refine fw_step hW hz hV hf hd hdS hb (fun h hl => ?_)
    obtain ⟨tv, tg⟩ := stI_gr hW hV hf
    have tg1 := tg.1
    have tg2 := tg.2.1
    exact ih (d + 1) S.2 _ tv tg1 (by omega) (by omega) (by omega) (by omega)
theorem jt_fewest {ω : Nat → Int} {σ : Sg} (hI : Inv ω σ) (hω : wyT ω) (x y : Int) (hy : in64 y) : Jt ω MX10_fewest MX11_fewest [iV x, lV y] iV cdNI σ := by
  obtain ⟨N, hQ⟩ := hI.1
  have hW := hQ.2.2
  have h5 := hW.1.2.1
  have h8 := hW.1.1
  by_cases h : 0 ≤ x ∧ x < N 2
  · obtain ⟨p, hp⟩ := z_nat h.1
    subst hp
    have hp2 : p < N 2 := by omega
    obtain ⟨σ1, c1, c2, c3⟩ := ctX8_takeApart (d := 6) (t := 7) (by decide) hW hy hQ.1 (by decide)
    have hR1 : RowT σ1 7 N := RowT_fr hQ.1 (fun i hi => c2 _ (by omega))
    cases e1 : PQ N y with
    | false =>
      have hnn : Ct 7 MX10_needPrice [rV 19 0, lV y] σ (.inr 2) σ1 := by
        refine (eX10_needPrice (d := 6) ?_)
        intro X Xr Xt hC hr
        refine bX10_needPrice_0 hC ?_
        refine ⟨_, _, c1, ?_⟩
        rw [e1, if_pos (by decide)]
        exact hr
      refine Or.inr ⟨2, σ1, by decide, ?_, ?_⟩
      · refine (eX10_fewest (d := 7) ?_).mono (by decide)
        intro X Xr Xt hC hr
        refine bX10_fewest_0 hC ?_
        exact Or.inl ⟨ctX10_needPerson (by decide) hQ.1 h, Or.inr ⟨_, _, hnn, hr⟩⟩
      · intro τ ha
        have hM0 := RowM_c hQ.2.1 (c53 c2) ha
        obtain ⟨σ2, r1, r2, r3⟩ := ctX11_laysPrice (d := 7) (by decide) hW hy hM0
        refine ⟨0, upS σ2 66 5 2, ?_, ups_eq, Inv_c hI hQ (c53 c2) (fun i hi => c2 _ (by omega)) ha (th_r (r73 r2)) (RowM_ups (RowM_r hM0 (r2 67 (by decide))) (by decide))⟩
        refine (eX11_fewest (d := 7) ?_).mono (by decide)
        intro X Xr Xt hC hr
        refine bX11_fewest_0 hC ?_
        refine ⟨_, ctX11_isP (by decide) h5 hM0 h, ?_⟩
        rw [if_neg (by decide)]
        refine ⟨_, _, r1, ?_⟩
        rw [e1, if_pos (by decide), ups_eq, if_pos (by decide)]
        exact hr
    | true =>
      have hnp : Ct 7 MX10_needPrice [rV 19 0, lV y] σ (.inl []) σ1 := by
        refine (eX10_needPrice (d := 6) ?_)
        intro X Xr Xt hC hr
        refine bX10_needPrice_0 hC ?_
        refine ⟨_, _, c1, ?_⟩
        rw [e1, if_neg (by decide)]
        exact hr
      have ha53 := c3 (PQ_1 e1)
      have hz : ∀ j, N 1 ≤ j → aN N y.toNat j = 0 := fun j hj => aN_z hj
      have hw62 : wyT (σ1 62) := by rw [c2 62 (by decide), hI.2.2.2.2]; exact hω
      obtain ⟨σ2, b1, b2, b3, b4, b5⟩ := ctX6_begin (d := 7) (p := p) (by decide) hW hp2 hR1 hw62
      have ha2 : ∀ j, j < 8 → σ2 53 j = (aN N y.toNat j : Int) := fun j hj => by rw [b5 53 (by decide)]; exact ha53 j hj
      obtain ⟨v, vC, vR⟩ := fw_all hW (x1 := (p : Int)) (x2 := y) hz 3000 0 0 (S0 N p) (S0_vs hW (by omega)) (Nat.zero_le _) (Nat.zero_le _) (by rw [S0_2]; decide) (by rw [S0_2]; decide) (by rw [S0_2]; decide)
      obtain ⟨σ3, p1, p2⟩ := vC σ2 b2 b3 b4 ha2
      have hfc : FrC σ σ3 := ((c53 c2).trans (FQ_frc b5)).trans (FQ_frc p2)
      have hT7 : ∀ i, i ≤ 6 → σ3 (7 + i) = σ (7 + i) := fun i hi => by rw [p2 _ (by omega), b5 _ (by omega), c2 _ (by omega)]
      refine Or.inl ⟨v, σ3, ?_, ?_⟩
      · refine (eX10_fewest (d := 7) ?_).mono (by decide)
        intro X Xr Xt hC hr
        refine bX10_fewest_0 hC ?_
        exact Or.inl ⟨ctX10_needPerson (by decide) hQ.1 h, Or.inl ⟨_, hnp, _, b1, p1 X Xr Xt hC hr⟩⟩
      · intro τ ha
        have hM0 := RowM_c hQ.2.1 hfc ha
        obtain ⟨τ1, r1, r2, r3⟩ := ctX11_laysPrice (d := 7) (by decide) hW hy hM0
        have hM1 : RowM (upS τ1 66 5 0) 67 0 N := RowM_ups (RowM_r hM0 (r2 67 (by decide))) (by decide)
        obtain ⟨τ2, s1, s2, s3⟩ := ctX11_beginsMet (d := 7) (by decide) hW hp2 hM1
        have hM2 : RowM τ2 67 0 N := RowM_cell hM1 (s3.1 67 (by decide) (by decide) (by decide))
        have ha73 : ∀ j, j < 8 → τ2 73 j = (aN N y.toNat j : Int) := fun j hj => by
          rw [s3.1 73 (by decide) (by decide) (by decide), ups_cell (by decide)]
          exact r3 (PQ_1 e1) j hj
        obtain ⟨τ3, q1, q2⟩ := vR τ2 s2 hM2 ha73
        refine ⟨τ3, ?_, by rw [q2.2 5 (by decide), s3.2 5 (by decide)]; exact ups_eq, Inv_c hI hQ hfc hT7 ha (((th_r (r73 r2)).trans (FN_frr s3)).trans (FN_frr q2)) (RowM_cell hM2 (q2.1 67 (by decide) (by decide) (by decide)))⟩
        refine (eX11_fewest (d := 7) ?_).mono (by decide)
        intro X Xr Xt hC hr
        refine bX11_fewest_0 hC ?_
        refine ⟨_, ctX11_isP (by decide) h5 hM0 h, ?_⟩
        rw [if_neg (by decide)]
        refine ⟨_, _, r1, ?_⟩
        rw [e1, if_neg (by decide), ups_eq, if_neg (by decide)]
        exact ⟨_, s1, q1 X Xr Xt hC hr⟩
  · refine Or.inr ⟨1, σ, by decide, ?_, ?_⟩
    · refine (eX10_fewest (d := 7) ?_).mono (by decide)
      intro X Xr Xt hC hr
      refine bX10_fewest_0 hC ?_
      exact Or.inr ⟨_, ctX10_needPerson_no (by decide) hQ.1 h, hr⟩
    · intro τ ha
      have hM0 := (InvN_ag hQ ha).2.1
      have hM : ∀ v, RowM (upS τ 66 5 v) 67 0 N := fun v => RowM_ups hM0 (by decide)
      refine ⟨0, upS τ 66 5 1, ?_, ups_eq, Inv_fr hI (th_fr ha)⟩
      refine (eX11_fewest (d := 7) ?_).mono (by decide)
      intro X Xr Xt hC hr
      refine bX11_fewest_0 hC ?_
      refine ⟨_, ctX11_isP_no (by decide) h5 hM0 h, ?_⟩
      rw [if_pos (by decide), ups_eq, if_pos (by decide)]
      exact hr
