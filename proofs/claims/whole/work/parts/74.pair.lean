/-! PAIRS: perform, judge -/
/-- the tray's fault: 1 no such, 2 missing -/
theorem ctX10_needTray {d x : Nat} (hd : 1 ≤ d) {σ : Sg} (hx : x < 4) (hs : σ (45 + 2 * x) 0 ≠ -1) : Ct d MX10_needTray [rV 19 0, iV (x : Int)] σ (.inl [rV 18 (45 + 2 * x)]) σ := by
  refine (eX10_needTray (d := 0) ?_).mono hd
  intro X Xr Xt hC hr
  refine bX10_needTray_0 hC ?_
  rw [if_neg (by omega), if_pos (by omega), Int.toNat_natCast, if_neg hs]
  exact ⟨by omega, by omega, hr⟩
theorem ctX10_needTray_3 {d x : Nat} (hd : 1 ≤ d) {σ : Sg} (hx : x < 4) (hs : σ (45 + 2 * x) 0 = -1) : Ct d MX10_needTray [rV 19 0, iV (x : Int)] σ (.inr 3) σ := by
  refine (eX10_needTray (d := 0) ?_).mono hd
  intro X Xr Xt hC hr
  refine bX10_needTray_0 hC ?_
  rw [if_neg (by omega), if_pos (by omega), Int.toNat_natCast, if_pos hs]
  exact ⟨by omega, hr⟩
theorem ctX10_needTray_1 {d : Nat} {x : Int} (hd : 1 ≤ d) {σ : Sg} (hx : ¬ (0 ≤ x ∧ x ≤ 3)) : Ct d MX10_needTray [rV 19 0, iV x] σ (.inr 1) σ := by
  refine (eX10_needTray (d := 0) ?_).mono hd
  intro X Xr Xt hC hr
  refine bX10_needTray_0 hC ?_
  by_cases a : x < 0
  · rw [if_pos a]; exact hr
  · rw [if_neg a, if_neg (by omega)]; exact hr
theorem ctX11_isTray {d : Nat} {x : Int} (hd : 2 ≤ d) {σ : Sg} (hx : 0 ≤ x ∧ x ≤ 3) : Ct d MX11_isTray [iV x] σ (.inl [iV 1]) σ := by
  refine (eX11_isTray (d := 1) ?_).mono hd
  intro X Xr Xt hC hr
  refine bX11_isTray_0 hC ?_
  exact ⟨_, ctX11_wi (by decide) hx, Or.inr rfl, hr⟩
theorem ctX11_isTray_no {d : Nat} {x : Int} (hd : 2 ≤ d) {σ : Sg} (hx : ¬ (0 ≤ x ∧ x ≤ 3)) : Ct d MX11_isTray [iV x] σ (.inl [iV 0]) σ := by
  refine (eX11_isTray (d := 1) ?_).mono hd
  intro X Xr Xt hC hr
  refine bX11_isTray_0 hC ?_
  exact ⟨_, ctX11_wi_no (by decide) hx, Or.inl rfl, hr⟩
theorem ctX11_trayFault {d x : Nat} (hd : 3 ≤ d) {σ : Sg} (hx : x < 4) (hs : σ 77 x ≠ -1) : Ct d MX11_trayFault [rV 20 66, iV (x : Int)] σ (.inl [iV 0]) σ := by
  refine (eX11_trayFault (d := 2) ?_).mono hd
  intro X Xr Xt hC hr
  refine bX11_trayFault_0 hC ?_
  refine ⟨_, ctX11_isTray (by decide) ⟨by omega, by omega⟩, ?_⟩
  rw [if_neg (by decide), Int.toNat_natCast, if_neg hs]
  exact ⟨by omega, hr⟩
theorem ctX11_trayFault_2 {d x : Nat} (hd : 3 ≤ d) {σ : Sg} (hx : x < 4) (hs : σ 77 x = -1) : Ct d MX11_trayFault [rV 20 66, iV (x : Int)] σ (.inl [iV 2]) σ := by
  refine (eX11_trayFault (d := 2) ?_).mono hd
  intro X Xr Xt hC hr
  refine bX11_trayFault_0 hC ?_
  refine ⟨_, ctX11_isTray (by decide) ⟨by omega, by omega⟩, ?_⟩
  rw [if_neg (by decide), Int.toNat_natCast, if_pos hs]
  exact ⟨by omega, hr⟩
theorem ctX11_trayFault_1 {d : Nat} {x : Int} (hd : 3 ≤ d) {σ : Sg} (hx : ¬ (0 ≤ x ∧ x ≤ 3)) : Ct d MX11_trayFault [rV 20 66, iV x] σ (.inl [iV 1]) σ := by
  refine (eX11_trayFault (d := 2) ?_).mono hd
  intro X Xr Xt hC hr
  refine bX11_trayFault_0 hC ?_
  refine ⟨_, ctX11_isTray_no (by decide) hx, ?_⟩
  rw [if_pos (by decide)]
  exact hr
/-- a tray as both sides keep it: sort s, many m, numbers Z -/
theorem ty_get {ω : Nat → Int} {σ : Sg} (hI : Inv ω σ) {x : Nat} (hx : x < 4) : ∃ m : Nat, ∃ Z : Nat → Int, m ≤ 30 ∧ σ (45 + 2 * x) 1 = (m : Int) ∧ σ 78 x = (m : Int) ∧ (∀ j, j < 30 → σ (46 + 2 * x) j = Z j) ∧ (∀ j, j < 30 → σ 79 (30 * x + j) = Z j) ∧ σ (45 + 2 * x) 0 = σ 77 x := by
  obtain ⟨h1, h2, h3, h4, h5⟩ := hI.2.2.2.1 x hx
  obtain ⟨m, hm⟩ := z_nat h4.1
  exact ⟨m, fun j => σ (46 + 2 * x) j, by omega, by rw [h2, hm], hm, fun j _ => rfl, fun j hj => (h5 j hj).symm, h1⟩
theorem jt_perform {ω : Nat → Int} {σ : Sg} (hI : Inv ω σ) (hS : okS σ) (x : Int) : Jt ω MX10_perform MX11_perform [iV x] iV cdP σ := by
  obtain ⟨N, hQ⟩ := hI.1
  have hW := hQ.2.2
  have h5 := hW.1.2.1
  have h8 := hW.1.1
  by_cases h : 0 ≤ x ∧ x ≤ 3
  · obtain ⟨p, hp⟩ := z_nat h.1
    subst hp
    have hp4 : p < 4 := by omega
    obtain ⟨m, Z, t1, t2, t3, t4, t5, t6⟩ := ty_get hI hp4
    have hz64 : ∀ j, j < 30 → in64 (Z j) := by
      intro j hj
      have := hS 79 (30 * p + j) (by decide)
      rw [t5 j hj] at this
      exact this
    by_cases s : σ 77 p = -1
    · refine Or.inr ⟨3, σ, by decide, ?_, ?_⟩
      · refine (eX10_perform (d := 6) ?_).mono (by decide)
        intro X Xr Xt hC hr
        refine bX10_perform_0 hC ?_
        exact Or.inr ⟨_, ctX10_needTray_3 (by decide) hp4 (by rw [t6]; exact s), hr⟩
      · intro τ ha
        have hM0 := (InvN_ag hQ ha).2.1
        have hM : ∀ v, RowM (upS τ 66 5 v) 67 0 N := fun v => RowM_ups hM0 (by decide)
        refine ⟨0, upS τ 66 5 2, ?_, ups_eq, Inv_fr hI (th_fr ha)⟩
        refine (eX11_perform (d := 6) ?_).mono (by decide)
        intro X Xr Xt hC hr
        refine bX11_perform_0 hC ?_
        refine ⟨_, ctX11_trayFault_2 (by decide) hp4 (by rw [ha 77 (by decide)]; exact s), ?_⟩
        rw [ups_eq, if_pos (by decide)]
        exact hr
    · have hmk := mkG_ok Z m 0 N hW
      refine Or.inl ⟨((mkG Z m 0 N).1 : Int), tnS σ 7 (mkG Z m 0 N).2, ?_, ?_⟩
      · refine (eX10_perform (d := 6) ?_).mono (by decide)
        intro X Xr Xt hC hr
        refine bX10_perform_0 hC ?_
        have hmd := ctX8_makeDeals (d := 6) (t := 7) (i := 45 + 2 * p) (m := m) (Z := Z) (σ := σ) (by decide) t1 (by omega) t2 (fun j hj => by rw [show 45 + 2 * p + 1 = 46 + 2 * p by omega]; exact t4 j hj) hz64 N hW
        rw [tnS_id hQ.1] at hmd
        exact Or.inl ⟨_, ctX10_needTray (by decide) hp4 (by rw [t6]; exact s), _, _, hmd, hr⟩
      · intro τ ha
        have hcf := (FrC.refl σ).tn (M := (mkG Z m 0 N).2)
        have hM0 := RowM_c hQ.2.1 hcf ha
        have hM1 : RowM (upS τ 66 5 0) 67 0 N := RowM_ups hM0 (by decide)
        have e : ∀ a, 67 < a → a < 80 → upS τ 66 5 0 a = σ a := fun a h1 h2 => by rw [ups_cell (by omega), ha a (by omega), tnS_cell (by omega)]
        refine ⟨rwS (upS τ 66 5 0) 67 0 (mkG Z m 0 N).2, ?_, by rw [rwS_cell (by decide)]; exact ups_eq, wr_end hI hcf (tnS_row _ _ _) ha (th_r (FrR.refl τ)).rw67 (rwS_row _ _ _ _) hmk.1⟩
        refine (eX11_perform (d := 6) ?_).mono (by decide)
        intro X Xr Xt hC hr
        refine bX11_perform_0 hC ?_
        have e77 : τ 77 = σ 77 := by rw [ha 77 (by decide), tnS_cell (by decide)]
        refine ⟨_, ctX11_trayFault (by decide) hp4 (by rw [e77]; exact s), ?_⟩
        rw [ups_eq, if_neg (by decide)]
        have hg := ctX11_goesBy (d := 6) (x := p) (m := m) (Z := Z) (σ := upS τ 66 5 0) (by decide) hp4 t1 (by rw [e 78 (by decide) (by decide)]; exact t3) (fun j hj => by rw [e 79 (by decide) (by decide)]; exact t5 j hj) hz64 N hW
        rw [rwS_id hM1] at hg
        exact ⟨_, _, hg, hr⟩
  · refine Or.inr ⟨1, σ, by decide, ?_, ?_⟩
    · refine (eX10_perform (d := 6) ?_).mono (by decide)
      intro X Xr Xt hC hr
      refine bX10_perform_0 hC ?_
      exact Or.inr ⟨_, ctX10_needTray_1 (by decide) h, hr⟩
    · intro τ ha
      have hM0 := (InvN_ag hQ ha).2.1
      have hM : ∀ v, RowM (upS τ 66 5 v) 67 0 N := fun v => RowM_ups hM0 (by decide)
      refine ⟨0, upS τ 66 5 1, ?_, ups_eq, Inv_fr hI (th_fr ha)⟩
      refine (eX11_perform (d := 6) ?_).mono (by decide)
      intro X Xr Xt hC hr
      refine bX11_perform_0 hC ?_
      refine ⟨_, ctX11_trayFault_1 (by decide) h, ?_⟩
      rw [ups_eq, if_pos (by decide)]
      exact hr
/-- the richest of the first k -/
def rcN (N : Tn) : Nat → Nat
  | 0 => 0
  | k + 1 => if wN N (rcN N k) < wN N k then k else rcN N k
theorem rcN_s (N : Tn) (k : Nat) : rcN N (k + 1) = if wN N (rcN N k) < wN N k then k else rcN N k := rfl
theorem rcN_lt (N : Tn) : ∀ k, rcN N (k + 1) ≤ k := by
  intro k
  induction k with
  | zero => rw [rcN_s]; split <;> exact Nat.le_refl _
  | succ k ih => rw [rcN_s]; split <;> omega
def rcV (N : Tn) : Int := if N 2 = 0 then -1 else (rcN N (N 2) : Int)
theorem ctX8_richest {d t : Nat} {N : Tn} (hd : 3 ≤ d) (hW : WFN N) {σ : Sg} (hR : RowT σ t N) : Ct d MX8_richest [rV 17 t] σ (.inl [iV (rcV N)]) σ := by
  have h5 := hW.1.2.1
  refine (eX8_richest (d := 2) ?_).mono hd
  intro X Xr Xt hC hr
  refine bX8_richest_0 hC ?_
  unfold rcV at hr
  have key : ∀ k, k ≤ N 2 → 1 ≤ k → ∀ b : Nat, b = rcN N k → X 15 [rV 17 t, iV (b : Int), iV (k : Int)] [] σ := by
    refine loop_up (P := fun k => 1 ≤ k → ∀ b : Nat, b = rcN N k → X 15 [rV 17 t, iV (b : Int), iV (k : Int)] [] σ) ?_ ?_
    · intro h1 b hb
      refine bX8_richest_15 hC ?_
      rw [hR.1 2 (by omega), if_neg (by omega)]
      rw [if_neg (by omega), ← hb] at hr
      exact hr
    · intro k hk ih h1 b hb
      have hbk : b ≤ k - 1 := by
        have := rcN_lt N (k - 1)
        rw [show k - 1 + 1 = k by omega] at this
        omega
      refine bX8_richest_15 hC ?_
      rw [hR.1 2 (by omega), if_pos (by omega)]
      refine ⟨_, ctX8_worthOf (p := k) (by decide) hW (by omega) hR, _, ctX8_worthOf (p := b) (by decide) hW (by omega) hR, ?_⟩
      rw [w32_s (by omega)]
      by_cases c : wN N b < wN N k
      · rw [if_pos (Int.ofNat_lt.mpr c)]
        exact ih (by omega) k (by rw [rcN_s, ← hb, if_pos c])
      · rw [if_neg (fun q => c (Int.ofNat_lt.mp q))]
        exact ih (by omega) b (by rw [rcN_s, ← hb, if_neg c])
  rw [hR.1 2 (by omega)]
  by_cases z : N 2 = 0
  · rw [if_neg (by omega)]
    refine bX8_richest_15 hC ?_
    rw [hR.1 2 (by omega), if_neg (by omega)]
    rw [if_pos z] at hr
    exact hr
  · rw [if_pos (by omega)]
    exact key 1 (by omega) (by omega) 0 (Nat.le_zero.mp (rcN_lt N 0)).symm
theorem ctX11_richest {d : Nat} {N : Tn} (hd : 3 ≤ d) (hW : WFN N) {σ : Sg} (hM : RowM σ 67 0 N) : Ct d MX11_richest [rV 20 66] σ (.inl [iV (rcV N)]) σ := by
  have h5 := hW.1.2.1
  refine (eX11_richest (d := 2) ?_).mono hd
  intro X Xr Xt hC hr
  refine bX11_richest_0 hC ?_
  unfold rcV at hr
  have key : ∀ k, k ≤ N 2 → 1 ≤ k → ∀ b : Nat, b = rcN N k → X 4 [rV 20 66, iV (b : Int), iV (k : Int)] [] σ := by
    refine loop_up (P := fun k => 1 ≤ k → ∀ b : Nat, b = rcN N k → X 4 [rV 20 66, iV (b : Int), iV (k : Int)] [] σ) ?_ ?_
    · intro h1 b hb
      refine bX11_richest_4 hC ?_
      refine ⟨_, ctX11_people (by decide) hM, ?_⟩
      rw [if_neg (by omega)]
      rw [if_neg (by omega), ← hb] at hr
      exact hr
    · intro k hk ih h1 b hb
      have hbk : b ≤ k - 1 := by
        have := rcN_lt N (k - 1)
        rw [show k - 1 + 1 = k by omega] at this
        omega
      refine bX11_richest_4 hC ?_
      refine ⟨_, ctX11_people (by decide) hM, ?_⟩
      rw [if_pos (by omega), if_neg (by omega)]
      refine ⟨_, ctX11_worthOf (p := k) (by decide) (by omega) hW hM, _, ctX11_worthOf (p := b) (by decide) (by omega) hW hM, ?_⟩
      rw [w32_s (by omega)]
      by_cases c : wN N b < wN N k
      · rw [if_pos (Int.ofNat_lt.mpr c)]
        exact ih (by omega) k (by rw [rcN_s, ← hb, if_pos c])
      · rw [if_neg (fun q => c (Int.ofNat_lt.mp q))]
        exact ih (by omega) b (by rw [rcN_s, ← hb, if_neg c])
  refine bX11_richest_4 hC ?_
  refine ⟨_, ctX11_people (by decide) hM, ?_⟩
  by_cases z : N 2 = 0
  · rw [if_neg (by omega)]
    rw [if_pos z] at hr
    exact hr
  · rw [if_pos (by omega), if_pos rfl]
    exact key 1 (by omega) (by omega) 0 (Nat.le_zero.mp (rcN_lt N 0)).symm
theorem FrC.tn14 {σ τ : Sg} {M : Tn} (h : FrC σ τ) : FrC σ (tnS τ 80 M) := h.trans (FrC.of (fun a ha => tnS_cell (by
  by_cases q : a < 80 ∨ 80 + 6 < a
  · exact q
  · exfalso
    rcases ha with ⟨h1, _⟩ | h2
    · exact h1 ((by decide : ∀ z : Fin 7, 80 + z.val ∈ scr) ⟨a - 80, by omega⟩ |> fun e => by
        have e : 80 + (a - 80) ∈ scr := e
        rw [show 80 + (a - 80) = a by omega] at e
        exact e)
    · omega)))
def jdV (Z : Nat → Int) (m : Nat) (N : Tn) (w : Int) : Int := if w = 2 then rcV (mkG Z m 0 N).2 else if (mkG Z m 0 N).1 = m then (if w = 0 then -1 else 0) else if w = 0 then ((mkG Z m 0 N).1 : Int) else (dfV (mkG Z m 0 N).2 (Z (mkG Z m 0 N).1) : Int)
theorem mkG_df (Z : Nat → Int) : ∀ f i N, (mkG Z f i N).1 = i + f ∨ dfV (mkG Z f i N).2 (Z (mkG Z f i N).1) ≠ 0 := by
  intro f
  induction f with
  | zero => intro i N; exact Or.inl rfl
  | succ f ih =>
    intro i N
    rw [mkG_s]
    split
    · have := ih (i + 1) (dlN N (Z i).toNat)
      rcases this with q | q
      · exact Or.inl (by omega)
      · exact Or.inr q
    · rename_i h; exact Or.inr h
theorem jt_judge {ω : Nat → Int} {σ : Sg} (hI : Inv ω σ) (hS : okS σ) (x w : Int) : Jt ω MX10_judge MX11_judge [iV x, iV w] iV cdJ σ := by
  obtain ⟨N, hQ⟩ := hI.1
  have hW := hQ.2.2
  have h5 := hW.1.2.1
  have h8 := hW.1.1
  by_cases h : 0 ≤ x ∧ x ≤ 3
  · obtain ⟨p, hp⟩ := z_nat h.1
    subst hp
    have hp4 : p < 4 := by omega
    obtain ⟨m, Z, t1, t2, t3, t4, t5, t6⟩ := ty_get hI hp4
    have hz64 : ∀ j, j < 30 → in64 (Z j) := by
      intro j hj
      have := hS 79 (30 * p + j) (by decide)
      rw [t5 j hj] at this
      exact this
    by_cases s : σ 77 p = -1
    · refine Or.inr ⟨3, σ, by decide, ?_, ?_⟩
      · refine (eX10_judge (d := 6) ?_).mono (by decide)
        intro X Xr Xt hC hr
        refine bX10_judge_0 hC ?_
        exact Or.inr ⟨_, ctX10_needTray_3 (by decide) hp4 (by rw [t6]; exact s), hr⟩
      · intro τ ha
        have hM0 := (InvN_ag hQ ha).2.1
        have hM : ∀ v, RowM (upS τ 66 5 v) 67 0 N := fun v => RowM_ups hM0 (by decide)
        refine ⟨0, upS τ 66 5 2, ?_, ups_eq, Inv_fr hI (th_fr ha)⟩
        refine (eX11_judge (d := 6) ?_).mono (by decide)
        intro X Xr Xt hC hr
        refine bX11_judge_0 hC ?_
        refine ⟨_, ctX11_trayFault_2 (by decide) hp4 (by rw [ha 77 (by decide)]; exact s), ?_⟩
        rw [ups_eq, if_neg (by decide), if_pos (by decide)]
        exact hr
    · by_cases g : 0 ≤ w ∧ w ≤ 2
      · have hmk := mkG_ok Z m 0 N hW
        have hdf := mkG_df Z m 0 N
        refine Or.inl ⟨jdV Z m N w, tnS σ 80 (mkG Z m 0 N).2, ?_, ?_⟩
        · refine (eX10_judge (d := 6) ?_).mono (by decide)
          intro X Xr Xt hC hr
          refine bX10_judge_0 hC ?_
          have hmd := ctX8_makeDeals (d := 6) (t := 80) (i := 45 + 2 * p) (m := m) (Z := Z) (σ := σ) (by decide) t1 (by omega) t2 (fun j hj => by rw [show 45 + 2 * p + 1 = 46 + 2 * p by omega]; exact t4 j hj) hz64 N hW
          refine Or.inl ⟨_, ctX10_needTray (by decide) hp4 (by rw [t6]; exact s), Or.inl ⟨ctX10_needWhat (by decide) g, _, ctX8_become (t := 80) (s := 7) (by decide) (by decide) hQ.1, _, _, hmd, ?_⟩⟩
          unfold jdV at hr
          by_cases w2 : w = 2
          · rw [if_pos w2] at hr ⊢
            exact ⟨_, ctX8_richest (by decide) hmk.1 (tnS_row _ _ _), hr⟩
          rw [if_neg w2] at hr ⊢
          have hm2 : tnS σ 80 (mkG Z m 0 N).2 (45 + 2 * p) 1 = (m : Int) := by rw [tnS_cell (by omega)]; exact t2
          rw [hm2]
          by_cases c : (mkG Z m 0 N).1 = m
          · rw [if_pos c] at hr
            rw [if_pos (by rw [c])]
            by_cases w0 : w = 0
            · rw [if_pos w0] at hr ⊢; exact hr
            · rw [if_neg w0] at hr ⊢; exact hr
          · rw [if_neg c] at hr
            rw [if_neg (fun q => c (Int.ofNat_inj.mp q))]
            by_cases w0 : w = 0
            · rw [if_pos w0] at hr ⊢; exact hr
            · rw [if_neg w0] at hr ⊢
              have hlt : (mkG Z m 0 N).1 < m := by have := hmk.2.2; omega
              have hat := ctX9_at (d := 6) (i := 45 + 2 * p) (k := (mkG Z m 0 N).1) (by decide) hm2 t1 hlt
              have hz : tnS σ 80 (mkG Z m 0 N).2 (45 + 2 * p + 1) (mkG Z m 0 N).1 = Z (mkG Z m 0 N).1 := by rw [tnS_cell (by omega), show 45 + 2 * p + 1 = 46 + 2 * p by omega]; exact t4 _ (by omega)
              rw [hz] at hat
              exact ⟨_, hat, _, ctX8_dealFault (by decide) hmk.1 (hz64 _ (by omega)) (tnS_row _ _ _), hr⟩
        · intro τ ha
          have hcf := (FrC.refl σ).tn14 (M := (mkG Z m 0 N).2)
          have hM0 := RowM_c hQ.2.1 hcf ha
          have hM1 : RowM (upS τ 66 5 0) 67 0 N := RowM_ups hM0 (by decide)
          have e77 : τ 77 = σ 77 := by rw [ha 77 (by decide), tnS_cell (by decide)]
          have e78 : τ 78 = σ 78 := by rw [ha 78 (by decide), tnS_cell (by decide)]
          have e79 : τ 79 = σ 79 := by rw [ha 79 (by decide), tnS_cell (by decide)]
          obtain ⟨υ, hυ⟩ : ∃ υ, υ = rwS (upS τ 66 5 0) 69 0 N := ⟨_, rfl⟩
          have hM2 : RowM υ 67 0 N := by rw [hυ]; exact RowM_cell hM1 (rwS_cell (by decide))
          have u77 : υ 78 = σ 78 := by rw [hυ, rwS_cell (by decide), ups_cell (by decide), e78]
          have u79 : υ 79 = σ 79 := by rw [hυ, rwS_cell (by decide), ups_cell (by decide), e79]
          have hg := ctX11_goesBy (d := 6) (x := p) (m := m) (Z := Z) (σ := υ) (by decide) hp4 t1 (by rw [u77]; exact t3) (fun j hj => by rw [u79]; exact t5 j hj) hz64 N hW
          rw [rwS_id hM2] at hg
          have hb : Ct 6 MX11_copies [rV 1000181 69, rV 1000181 67] (rwS υ 67 0 (mkG Z m 0 N).2) (.inl []) (rwS (rwS υ 67 0 (mkG Z m 0 N).2) 67 0 N) := ctX11_copies (by decide) (by decide) (RowM_cell (by rw [hυ]; exact rwS_row _ _ _ _) (rwS_cell (by decide)))
          rw [rwS_rwS, rwS_id hM2] at hb
          have hc0 : Ct 6 MX11_copies [rV 1000181 67, rV 1000181 69] (upS τ 66 5 0) (.inl []) υ := by rw [hυ]; exact ctX11_copies (by decide) (by decide) hM1
          have hfr : FrR τ υ := by rw [hυ]; exact (th_r (FrR.refl τ)).cell (c := 69) (by decide) (by decide) (fun b hb => rwS_cell hb)
          have hu5 : υ 66 5 = 0 := by rw [hυ, rwS_cell (by decide)]; exact ups_eq
          have hM3 : ∀ M, rwS υ 67 0 M 78 p = (m : Int) := fun M => by rw [rwS_cell (by decide), u77]; exact t3
          have hZ3 : ∀ M j, j < 30 → rwS υ 67 0 M 79 (30 * p + j) = Z j := fun M j hj => by rw [rwS_cell (by decide), u79]; exact t5 j hj
          refine ⟨υ, ?_, hu5, wr_end hI hcf (RowT_fr hQ.1 (fun i hi => tnS_cell (by omega))) ha hfr hM2 hW⟩
          clear hυ
          refine (eX11_judge (d := 6) ?_).mono (by decide)
          intro X Xr Xt hC hr
          refine bX11_judge_0 hC ?_
          refine ⟨_, ctX11_trayFault (by decide) hp4 (by rw [e77]; exact s), ?_⟩
          rw [ups_eq, if_pos rfl]
          refine ⟨_, ctX11_wi (by decide) g, ?_⟩
          rw [if_neg (by decide), if_neg (by decide), Int.toNat_natCast]
          refine ⟨_, hc0, _, _, hg, by omega, ?_⟩
          have hrc := ctX11_richest (d := 6) (by decide) hmk.1 (rwS_row υ 67 0 (mkG Z m 0 N).2)
          rw [hM3]
          unfold jdV at hr
          by_cases c : (mkG Z m 0 N).1 = m
          · rw [if_pos c] at hr
            rw [if_pos (by rw [c])]
            refine ⟨_, hrc, _, hb, ?_⟩
            by_cases w2 : w = 2
            · rw [if_pos w2] at hr
              rw [if_neg (by omega), if_neg (by omega)]
              exact hr
            rw [if_neg w2] at hr
            by_cases w0 : w = 0
            · rw [if_pos w0] at hr ⊢; exact hr
            · rw [if_neg w0] at hr
              rw [if_neg w0, if_pos (by omega)]
              exact hr
          · rw [if_neg c] at hr
            rw [if_neg (fun q => c (Int.ofNat_inj.mp q))]
            have hlt : (mkG Z m 0 N).1 < m := by have := hmk.2.2; omega
            have hdf2 : dfV (mkG Z m 0 N).2 (Z (mkG Z m 0 N).1) ≠ 0 := hdf.resolve_left (by omega)
            rw [w_30 hp4 (by omega), Int.toNat_natCast, hZ3 _ _ (by omega)]
            refine ⟨by omega, _, ctX11_dealWhy (by decide) hmk.1 (hz64 _ (by omega)) (rwS_row _ _ _ _), _, hrc, _, hb, ?_⟩
            by_cases w2 : w = 2
            · rw [if_pos w2] at hr
              rw [if_neg (by omega), if_neg (by omega)]
              exact hr
            rw [if_neg w2] at hr
            by_cases w0 : w = 0
            · rw [if_pos w0] at hr
              rw [if_pos w0, if_neg (fun q => hdf2 (Int.ofNat_eq_zero.mp q))]
              exact hr
            · rw [if_neg w0] at hr
              rw [if_neg w0, if_pos (by omega)]
              exact hr
      · refine Or.inr ⟨2, σ, by decide, ?_, ?_⟩
        · refine (eX10_judge (d := 6) ?_).mono (by decide)
          intro X Xr Xt hC hr
          refine bX10_judge_0 hC ?_
          exact Or.inl ⟨_, ctX10_needTray (by decide) hp4 (by rw [t6]; exact s), Or.inr ⟨_, ctX10_needWhat_no (by decide) g, hr⟩⟩
        · intro τ ha
          have hM0 := (InvN_ag hQ ha).2.1
          have hM : ∀ v, RowM (upS τ 66 5 v) 67 0 N := fun v => RowM_ups hM0 (by decide)
          refine ⟨0, upS (upS τ 66 5 0) 66 5 3, ?_, ups_eq, Inv_fr hI ((th_fr ha).ups66 (by decide) (by decide) (by decide))⟩
          refine (eX11_judge (d := 6) ?_).mono (by decide)
          intro X Xr Xt hC hr
          refine bX11_judge_0 hC ?_
          refine ⟨_, ctX11_trayFault (by decide) hp4 (by rw [ha 77 (by decide)]; exact s), ?_⟩
          rw [ups_eq, if_pos rfl]
          refine ⟨_, ctX11_wi_no (by decide) g, ?_⟩
          rw [if_pos (by decide), ups_eq, if_pos (by decide)]
          exact hr
  · refine Or.inr ⟨1, σ, by decide, ?_, ?_⟩
    · refine (eX10_judge (d := 6) ?_).mono (by decide)
      intro X Xr Xt hC hr
      refine bX10_judge_0 hC ?_
      exact Or.inr ⟨_, ctX10_needTray_1 (by decide) h, hr⟩
    · intro τ ha
      have hM0 := (InvN_ag hQ ha).2.1
      have hM : ∀ v, RowM (upS τ 66 5 v) 67 0 N := fun v => RowM_ups hM0 (by decide)
      refine ⟨0, upS τ 66 5 1, ?_, ups_eq, Inv_fr hI (th_fr ha)⟩
      refine (eX11_judge (d := 6) ?_).mono (by decide)
      intro X Xr Xt hC hr
      refine bX11_judge_0 hC ?_
      refine ⟨_, ctX11_trayFault_1 (by decide) h, ?_⟩
      rw [ups_eq, if_neg (by decide), if_pos (by decide)]
      exact hr
