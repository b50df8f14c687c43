/-! THE SEARCH: the reference's rounds -/
set_option maxRecDepth 20000 in
theorem r_fewest {N : Tn} (hW : WFN N) {x1 x4 x5 : Int} {x2 : Int} {to : Nat} (hto : to ≤ 3000) : ∀ r i (τ : Sg) (T : Qs), i + r = to → RR τ T → RowM τ 67 0 N → VS N T → to ≤ T.2 → T.2 + 6 * r ≤ 23900 → ∃ ν, (∀ (X : Nat → List Vv → List Vv → Sg → Prop) (Xr : List Vv → Sg → Prop) (Xt : Nat → Sg → Prop), Clo (Ct 7) 11 cX11_fewest (some .int) X Xr Xt → X 106 [rV 20 66, iV x1, lV x2, uV, iV x4, iV x5, iV (to : Int), iV (to : Int), uV, uV] [] ν → X 106 [rV 20 66, iV x1, lV x2, uV, iV x4, iV x5, iV (to : Int), iV (i : Int), uV, uV] [] τ) ∧ RR ν (stI N r i T) ∧ FN τ ν := by
  have h6 := hW.1.2.2.1
  have inner : ∀ i D, okD N D → i < 24000 → i < to → ∀ r k (μ : Sg) (T : Qs), k + r = N 3 → RR μ T → RowM μ 67 0 N → i < T.2 → T.1 i = D → T.2 + r ≤ 23990 → ∃ ν, (∀ (X : Nat → List Vv → List Vv → Sg → Prop) (Xr : List Vv → Sg → Prop) (Xt : Nat → Sg → Prop), Clo (Ct 7) 11 cX11_fewest (some .int) X Xr Xt → X 106 [rV 20 66, iV x1, lV x2, uV, iV x4, iV x5, iV (to : Int), iV ((i + 1 : Nat) : Int), uV, uV] [] ν → X 116 [rV 20 66, iV x1, lV x2, uV, iV x4, iV x5, iV (to : Int), iV (i : Int), iV (k : Int), uV] [] μ) ∧ RR ν (stK N D r k T) ∧ FN μ ν := by
    intro i D hD hi hito r
    induction r with
    | zero =>
      intro k μ T hk hc hM _ _ _
      have hk : k = N 3 := hk
      refine ⟨μ, ?_, hc, FN.refl μ⟩
      intro X Xr Xt hC hx
      refine bX11_fewest_116 hC ?_
      rw [rwm0 hM (by decide), if_neg (by omega), w32_s (by omega)]
      exact hx
    | succ r ih =>
      intro k μ T hk hc hM hiT hTi hbd
      have hgr : T.2 ≤ (cvS N k D T).2 ∧ (cvS N k D T).2 ≤ T.2 + 1 ∧ ∀ i, i < T.2 → (cvS N k D T).1 i = T.1 i := by
        unfold cvS
        split
        · exact mtS_gr _ _
        · exact (gr.refl T).mono (by decide)
      have q75 := hc.2.1 i hiT
      rw [hTi] at q75
      have hch := ctX11_changed (d := 7) (k := k) (by decide) hW (show k < 6 by omega) hD hM
      cases hb : cvB N k D with
      | false =>
        have he : cvS N k D T = T := if_neg (by rw [hb]; decide)
        obtain ⟨ν, n1, n2, n3⟩ := ih (k + 1) μ T (by omega) hc hM hiT hTi (by omega)
        have es : stK N D (r + 1) k T = stK N D r (k + 1) T := by show stK N D r (k + 1) (cvS N k D T) = _; rw [he]
        rw [es]
        refine ⟨ν, ?_, n2, n3⟩
        intro X Xr Xt hC hx
        rw [hb, if_neg (by decide)] at hch
        refine bX11_fewest_116 hC ?_
        rw [rwm0 hM (by decide), if_pos (by omega), Int.toNat_natCast, q75]
        refine ⟨by omega, _, hch, ?_⟩
        rw [if_pos rfl, w32_s (by omega)]
        exact n1 X Xr Xt hC hx
      | true =>
        have hok := (cv_ok hW (show k < 6 by omega) hD hb).1
        have he : cvS N k D T = mtS T (cvN N k D) := if_pos hb
        obtain ⟨ν0, t1, t2, t3⟩ := ctX11_meets (d := 7) (by decide) hok.1 hc (by omega)
        rw [he] at hgr
        obtain ⟨ν, n1, n2, n3⟩ := ih (k + 1) ν0 _ (by omega) t2 (RowM_cell hM (t3.1 67 (by decide) (by decide) (by decide))) (by omega) (by rw [hgr.2.2 i hiT]; exact hTi) (by omega)
        have es : stK N D (r + 1) k T = stK N D r (k + 1) (mtS T (cvN N k D)) := by show stK N D r (k + 1) (cvS N k D T) = _; rw [he]
        rw [es]
        refine ⟨ν, ?_, n2, t3.trans n3⟩
        intro X Xr Xt hC hx
        rw [hb, if_pos rfl] at hch
        refine bX11_fewest_116 hC ?_
        rw [rwm0 hM (by decide), if_pos (by omega), Int.toNat_natCast, q75]
        refine ⟨by omega, _, hch, ?_⟩
        rw [if_neg (by omega), w32_s (by omega)]
        exact ⟨_, t1, n1 X Xr Xt hC hx⟩
  intro r
  induction r with
  | zero =>
    intro i τ T hi hc _ _ _ _
    have hi : i = to := hi
    refine ⟨τ, ?_, hc, FN.refl τ⟩
    intro X Xr Xt hC hx
    rw [hi]
    exact hx
  | succ r ih =>
    intro i τ T hi hc hM hv hT hbd
    have hDi := hv i (by omega)
    obtain ⟨v1, v2⟩ := stK_ok hW hDi (N 3) 0 T (by omega) hv
    obtain ⟨ν0, t1, t2, t3⟩ := inner i (T.1 i) hDi (by omega) (by omega) (N 3) 0 τ T (Nat.zero_add _) hc hM (by omega) rfl (by omega)
    have g1 := v2.1
    have g2 := v2.2.1
    obtain ⟨ν, n1, n2, n3⟩ := ih (i + 1) ν0 _ (by omega) t2 (RowM_cell hM (t3.1 67 (by decide) (by decide) (by decide))) v1 (by omega) (by omega)
    refine ⟨ν, ?_, n2, t3.trans n3⟩
    intro X Xr Xt hC hx
    refine bX11_fewest_106 hC ?_
    rw [if_pos (by omega)]
    exact t1 X Xr Xt hC (n1 X Xr Xt hC hx)
set_option maxRecDepth 20000 in
theorem r_grows {N : Tn} (hW : WFN N) {x1 x4 x5 : Int} {x2 : Int} {to : Nat} (hto : to ≤ 3000) : ∀ r i (τ : Sg) (T : Qs), i + r = to → RR τ T → RowM τ 67 0 N → VS N T → to ≤ T.2 → T.2 + 6 * r ≤ 23900 → ∃ ν, (∀ (X : Nat → List Vv → List Vv → Sg → Prop) (Xr : List Vv → Sg → Prop) (Xt : Nat → Sg → Prop), Clo (Ct 7) 11 cX11_grows (some .long) X Xr Xt → X 68 [rV 20 66, iV x1, iV x2, iV x4, iV x5, iV (to : Int), iV (to : Int), uV, uV] [] ν → X 68 [rV 20 66, iV x1, iV x2, iV x4, iV x5, iV (to : Int), iV (i : Int), uV, uV] [] τ) ∧ RR ν (stI N r i T) ∧ FN τ ν := by
  have h6 := hW.1.2.2.1
  have inner : ∀ i D, okD N D → i < 24000 → i < to → ∀ r k (μ : Sg) (T : Qs), k + r = N 3 → RR μ T → RowM μ 67 0 N → i < T.2 → T.1 i = D → T.2 + r ≤ 23990 → ∃ ν, (∀ (X : Nat → List Vv → List Vv → Sg → Prop) (Xr : List Vv → Sg → Prop) (Xt : Nat → Sg → Prop), Clo (Ct 7) 11 cX11_grows (some .long) X Xr Xt → X 68 [rV 20 66, iV x1, iV x2, iV x4, iV x5, iV (to : Int), iV ((i + 1 : Nat) : Int), uV, uV] [] ν → X 78 [rV 20 66, iV x1, iV x2, iV x4, iV x5, iV (to : Int), iV (i : Int), iV (k : Int), uV] [] μ) ∧ RR ν (stK N D r k T) ∧ FN μ ν := by
    intro i D hD hi hito r
    induction r with
    | zero =>
      intro k μ T hk hc hM _ _ _
      have hk : k = N 3 := hk
      refine ⟨μ, ?_, hc, FN.refl μ⟩
      intro X Xr Xt hC hx
      refine bX11_grows_78 hC ?_
      rw [rwm0 hM (by decide), if_neg (by omega), w32_s (by omega)]
      exact hx
    | succ r ih =>
      intro k μ T hk hc hM hiT hTi hbd
      have hgr : T.2 ≤ (cvS N k D T).2 ∧ (cvS N k D T).2 ≤ T.2 + 1 ∧ ∀ i, i < T.2 → (cvS N k D T).1 i = T.1 i := by
        unfold cvS
        split
        · exact mtS_gr _ _
        · exact (gr.refl T).mono (by decide)
      have q75 := hc.2.1 i hiT
      rw [hTi] at q75
      have hch := ctX11_changed (d := 7) (k := k) (by decide) hW (show k < 6 by omega) hD hM
      cases hb : cvB N k D with
      | false =>
        have he : cvS N k D T = T := if_neg (by rw [hb]; decide)
        obtain ⟨ν, n1, n2, n3⟩ := ih (k + 1) μ T (by omega) hc hM hiT hTi (by omega)
        have es : stK N D (r + 1) k T = stK N D r (k + 1) T := by show stK N D r (k + 1) (cvS N k D T) = _; rw [he]
        rw [es]
        refine ⟨ν, ?_, n2, n3⟩
        intro X Xr Xt hC hx
        rw [hb, if_neg (by decide)] at hch
        refine bX11_grows_78 hC ?_
        rw [rwm0 hM (by decide), if_pos (by omega), Int.toNat_natCast, q75]
        refine ⟨by omega, _, hch, ?_⟩
        rw [if_pos rfl, w32_s (by omega)]
        exact n1 X Xr Xt hC hx
      | true =>
        have hok := (cv_ok hW (show k < 6 by omega) hD hb).1
        have he : cvS N k D T = mtS T (cvN N k D) := if_pos hb
        obtain ⟨ν0, t1, t2, t3⟩ := ctX11_meets (d := 7) (by decide) hok.1 hc (by omega)
        rw [he] at hgr
        obtain ⟨ν, n1, n2, n3⟩ := ih (k + 1) ν0 _ (by omega) t2 (RowM_cell hM (t3.1 67 (by decide) (by decide) (by decide))) (by omega) (by rw [hgr.2.2 i hiT]; exact hTi) (by omega)
        have es : stK N D (r + 1) k T = stK N D r (k + 1) (mtS T (cvN N k D)) := by show stK N D r (k + 1) (cvS N k D T) = _; rw [he]
        rw [es]
        refine ⟨ν, ?_, n2, t3.trans n3⟩
        intro X Xr Xt hC hx
        rw [hb, if_pos rfl] at hch
        refine bX11_grows_78 hC ?_
        rw [rwm0 hM (by decide), if_pos (by omega), Int.toNat_natCast, q75]
        refine ⟨by omega, _, hch, ?_⟩
        rw [if_neg (by omega), w32_s (by omega)]
        exact ⟨_, t1, n1 X Xr Xt hC hx⟩
  intro r
  induction r with
  | zero =>
    intro i τ T hi hc _ _ _ _
    have hi : i = to := hi
    refine ⟨τ, ?_, hc, FN.refl τ⟩
    intro X Xr Xt hC hx
    rw [hi]
    exact hx
  | succ r ih =>
    intro i τ T hi hc hM hv hT hbd
    have hDi := hv i (by omega)
    obtain ⟨v1, v2⟩ := stK_ok hW hDi (N 3) 0 T (by omega) hv
    obtain ⟨ν0, t1, t2, t3⟩ := inner i (T.1 i) hDi (by omega) (by omega) (N 3) 0 τ T (Nat.zero_add _) hc hM (by omega) rfl (by omega)
    have g1 := v2.1
    have g2 := v2.2.1
    obtain ⟨ν, n1, n2, n3⟩ := ih (i + 1) ν0 _ (by omega) t2 (RowM_cell hM (t3.1 67 (by decide) (by decide) (by decide))) v1 (by omega) (by omega)
    refine ⟨ν, ?_, n2, t3.trans n3⟩
    intro X Xr Xt hC hx
    refine bX11_grows_68 hC ?_
    rw [if_pos (by omega)]
    exact t1 X Xr Xt hC (n1 X Xr Xt hC hx)
