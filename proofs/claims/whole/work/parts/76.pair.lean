/-! PAIRS: pour, image, restore, feed -/
def soS (σ : Sg) (a off n : Nat) (F : Nat → Int) : Sg := fun b j => if b = a ∧ off ≤ j ∧ j < off + n then F (j - off) else σ b j
theorem soS_0 (σ : Sg) (a off : Nat) (F : Nat → Int) : soS σ a off 0 F = σ := by funext b j; exact if_neg (by omega)
theorem soS_s (σ : Sg) (a off k : Nat) (F : Nat → Int) : upS (soS σ a off k F) a (off + k) (F k) = soS σ a off (k + 1) F := by
  funext b j
  unfold upS soS
  by_cases q : b = a ∧ j = off + k
  · rw [if_pos q, if_pos (by omega), show j - off = k by omega]
  · rw [if_neg q]
    by_cases q2 : b = a ∧ off ≤ j ∧ j < off + k
    · rw [if_pos q2, if_pos (by omega)]
    · rw [if_neg q2, if_neg (by omega)]
theorem soS_cell {σ : Sg} {a off n b : Nat} {F : Nat → Int} (h : b ≠ a) : soS σ a off n F b = σ b := by funext j; exact if_neg (fun q => h q.1)
theorem soS_in {σ : Sg} {a off n j : Nat} {F : Nat → Int} (h : j < n) : soS σ a off n F a (off + j) = F j := by
  unfold soS
  rw [if_pos ⟨rfl, by omega, by omega⟩, show off + j - off = j by omega]
theorem soS_out {σ : Sg} {a off n j : Nat} {F : Nat → Int} (h : j < off ∨ off + n ≤ j) : soS σ a off n F a j = σ a j := if_neg (by omega)
theorem soS_row {σ : Sg} {a off : Nat} {N : Tn} : soS σ a off 181 (fun j => (N j : Int)) = rwS σ a off N := rfl
theorem wN_64 {N : Tn} (hW : WFN N) {p : Nat} (hp : p < 5) : in64 (wN N p : Int) := by
  have := wN_le hW hp
  constructor
  · exact Int.le_trans (by decide) (Int.natCast_nonneg _)
  · omega
theorem jt_pour {ω : Nat → Int} {σ : Sg} (hI : Inv ω σ) (x : Int) : Jt ω MX10_pour MX11_pour [iV x] iV cdP σ := by
  obtain ⟨N, hQ⟩ := hI.1
  have hW := hQ.2.2
  have h5 := hW.1.2.1
  have h8 := hW.1.1
  by_cases h : 0 ≤ x ∧ x ≤ 3
  · obtain ⟨p, hp⟩ := z_nat h.1
    subst hp
    have hp4 : p < 4 := by omega
    obtain ⟨m, Z, t1, t2, t3, t4, t5, t6⟩ := ty_get hI hp4
    have hs3 := (hI.2.2.2.1 p hp4).2.2.1
    by_cases s : σ 77 p = -1
    · refine Or.inr ⟨3, σ, by decide, ?_, ?_⟩
      · refine (eX10_pour (d := 6) ?_).mono (by decide)
        intro X Xr Xt hC hr
        refine bX10_pour_0 hC ?_
        exact Or.inr ⟨_, ctX10_needTray_3 (by decide) hp4 (by rw [t6]; exact s), hr⟩
      · intro τ ha
        have hM0 := (InvN_ag hQ ha).2.1
        have hM : ∀ v, RowM (upS τ 66 5 v) 67 0 N := fun v => RowM_ups hM0 (by decide)
        refine ⟨0, upS τ 66 5 2, ?_, ups_eq, Inv_fr hI (th_fr ha)⟩
        refine (eX11_pour (d := 6) ?_).mono (by decide)
        intro X Xr Xt hC hr
        refine bX11_pour_0 hC ?_
        refine ⟨_, ctX11_trayFault_2 (by decide) hp4 (by rw [ha 77 (by decide)]; exact s), ?_⟩
        rw [ups_eq, if_pos (by decide)]
        exact hr
    · obtain ⟨n, hn⟩ : ∃ n, n = min (N 2) m := ⟨_, rfl⟩
      have hn1 : n ≤ N 2 := by omega
      have hn2 : n ≤ m := by omega
      obtain ⟨G, hG⟩ : ∃ G : Nat → Int, G = fun j => ctV (σ 77 p) (wN N j : Int) := ⟨_, rfl⟩
      have hGj : ∀ j, ctV (σ 77 p) (wN N j : Int) = G j := fun j => by rw [hG]
      refine Or.inl ⟨(n : Int), soS σ (46 + 2 * p) 0 n G, ?_, ?_⟩
      · refine (eX10_pour (d := 6) ?_).mono (by decide)
        intro X Xr Xt hC hr
        refine bX10_pour_0 hC ?_
        refine Or.inl ⟨_, ctX10_needTray (by decide) hp4 (by rw [t6]; exact s), ?_⟩
        rw [hQ.1.1 2 (by decide), t2, show min (N 2 : Int) (m : Int) = (n : Int) by omega]
        have key : ∀ k, k ≤ n → X 24 [rV 19 0, iV (p : Int), rV 18 (45 + 2 * p), iV (n : Int), iV (k : Int)] [] (soS σ (46 + 2 * p) 0 k G) := by
          refine loop_up (P := fun k => X 24 [rV 19 0, iV (p : Int), rV 18 (45 + 2 * p), iV (n : Int), iV (k : Int)] [] (soS σ (46 + 2 * p) 0 k G)) ?_ ?_
          · refine bX10_pour_24 hC ?_
            rw [if_neg (by omega)]
            exact hr
          · intro k hk ih
            refine bX10_pour_24 hC ?_
            rw [if_pos (by omega)]
            have hpt := ctX9_put (d := 6) (i := 45 + 2 * p) (k := k) (m := m) (v := (wN N k : Int)) (σ := soS σ (46 + 2 * p) 0 k G) (by decide) (by rw [soS_cell (by omega)]; exact t2) t1 (by omega)
            rw [soS_cell (show 45 + 2 * p ≠ 46 + 2 * p by omega), t6, show 45 + 2 * p + 1 = 46 + 2 * p by omega, hGj] at hpt
            have hss := soS_s σ (46 + 2 * p) 0 k G
            rw [Nat.zero_add] at hss
            rw [hss] at hpt
            refine ⟨_, ctX8_worthOf (p := k) (by decide) hW (by omega) (RowT_fr hQ.1 (fun i hi => soS_cell (by omega))), _, _, hpt, ?_⟩
            rw [w32_s (by omega)]
            exact ih
        have := key 0 (Nat.zero_le _)
        rw [soS_0] at this
        exact this
      · intro τ ha
        have e77 : τ 77 = σ 77 := by rw [ha 77 (by decide), soS_cell (by omega)]
        have e78 : τ 78 = σ 78 := by rw [ha 78 (by decide), soS_cell (by omega)]
        have e67 : τ 67 = σ 67 := by rw [ha 67 (by decide), soS_cell (by omega)]
        have hM1 : RowM (upS τ 66 5 0) 67 0 N := RowM_ups (RowM_cell hQ.2.1 e67) (by decide)
        refine ⟨soS (upS τ 66 5 0) 79 (30 * p) n G, ?_, by rw [soS_cell (by decide)]; exact ups_eq, Inv_lay hI hp4 (G := G) (f := fun j => decide (j < n)) (fun a h1 => soS_cell h1) ?_ ha (fun a h1 h2 => by rw [soS_cell h2, ups_cell h1]) (fun q hq => by rw [soS_cell (by decide), ups_ne (Or.inr hq)]) ?_ ?_⟩
        · refine (eX11_pour (d := 6) ?_).mono (by decide)
          intro X Xr Xt hC hr
          refine bX11_pour_0 hC ?_
          refine ⟨_, ctX11_trayFault (by decide) hp4 (by rw [e77]; exact s), ?_⟩
          rw [ups_eq, if_neg (by decide), Int.toNat_natCast, ups_cell (by decide), e78, t3]
          refine ⟨by omega, _, ctX11_people (by decide) hM1, ?_⟩
          rw [show min (m : Int) (N 2 : Int) = (n : Int) by omega]
          have hMs : ∀ k, RowM (soS (upS τ 66 5 0) 79 (30 * p) k G) 67 0 N := fun k => RowM_cell hM1 (soS_cell (by decide))
          have key : ∀ k, k ≤ n → X 34 [rV 20 66, iV (p : Int), iV (n : Int), iV (k : Int)] [] (soS (upS τ 66 5 0) 79 (30 * p) k G) := by
            refine loop_up (P := fun k => X 34 [rV 20 66, iV (p : Int), iV (n : Int), iV (k : Int)] [] (soS (upS τ 66 5 0) 79 (30 * p) k G)) ?_ ?_
            · refine bX11_pour_34 hC ?_
              rw [if_neg (by omega)]
              exact hr
            · intro k hk ih
              refine bX11_pour_34 hC ?_
              rw [if_pos (by omega)]
              have e7 : soS (upS τ 66 5 0) 79 (30 * p) k G 77 p = σ 77 p := by rw [soS_cell (by decide), ups_cell (by decide), e77]
              have hct := ctX11_cut (d := 6) (k := k) (v := (wN N k : Int)) (σ := soS (upS τ 66 5 0) 79 (30 * p) k G) (by decide) hp4 (by omega) (by rw [e7]; omega) (wN_64 hW (by omega))
              rw [e7, hGj, soS_s] at hct
              refine ⟨_, ctX11_worthOf (p := k) (by decide) (by omega) hW (hMs k), _, _, hct, ?_⟩
              rw [w32_s (by omega)]
              exact ih
          have := key 0 (Nat.zero_le _)
          rw [soS_0] at this
          exact this
        · intro j hj
          by_cases q : j < n
          · have := soS_in (σ := σ) (a := 46 + 2 * p) (off := 0) (F := G) q
            rw [Nat.zero_add] at this
            rw [if_pos (decide_eq_true q), this]
          · rw [if_neg (by rw [decide_eq_false q]; decide), soS_out (by omega)]
        · intro j hj
          by_cases q : j < n
          · rw [if_pos (decide_eq_true q), soS_in q]
          · rw [if_neg (by rw [decide_eq_false q]; decide), soS_out (by omega), ups_cell (by decide), ha 79 (by decide), soS_cell (by omega)]
        · intro j hj
          rw [soS_out (by omega), ups_cell (by decide), ha 79 (by decide), soS_cell (by omega)]
  · refine Or.inr ⟨1, σ, by decide, ?_, ?_⟩
    · refine (eX10_pour (d := 6) ?_).mono (by decide)
      intro X Xr Xt hC hr
      refine bX10_pour_0 hC ?_
      exact Or.inr ⟨_, ctX10_needTray_1 (by decide) h, hr⟩
    · intro τ ha
      have hM0 := (InvN_ag hQ ha).2.1
      have hM : ∀ v, RowM (upS τ 66 5 v) 67 0 N := fun v => RowM_ups hM0 (by decide)
      refine ⟨0, upS τ 66 5 1, ?_, ups_eq, Inv_fr hI (th_fr ha)⟩
      refine (eX11_pour (d := 6) ?_).mono (by decide)
      intro X Xr Xt hC hr
      refine bX11_pour_0 hC ?_
      refine ⟨_, ctX11_trayFault_1 (by decide) h, ?_⟩
      rw [ups_eq, if_pos (by decide)]
      exact hr
/-! images -/
theorem ctX10_needImage {d : Nat} {x : Int} (hd : 1 ≤ d) {σ : Sg} (h : 0 ≤ x ∧ x ≤ 2) : Ct d MX10_needImage [rV 19 0, iV x] σ (.inl []) σ := by
  refine (eX10_needImage (d := 0) ?_).mono hd
  intro X Xr Xt hC hr
  refine bX10_needImage_0 hC ?_
  rw [if_neg (by omega), if_pos (by omega)]
  exact hr
theorem ctX10_needImage_no {d : Nat} {x : Int} (hd : 1 ≤ d) {σ : Sg} (h : ¬ (0 ≤ x ∧ x ≤ 2)) : Ct d MX10_needImage [rV 19 0, iV x] σ (.inr 1) σ := by
  refine (eX10_needImage (d := 0) ?_).mono hd
  intro X Xr Xt hC hr
  refine bX10_needImage_0 hC ?_
  by_cases a : x < 0
  · rw [if_pos a]; exact hr
  · rw [if_neg a, if_neg (by omega)]; exact hr
theorem w_181 {x k : Nat} (hx : x < 3) (hk : k < 181) : w32 (w32 (181 * (x : Int)) + (k : Int)) = ((181 * x + k : Nat) : Int) := by unfold w32; omega
theorem jv_image {ω : Nat → Int} {σ : Sg} (hI : Inv ω σ) (x : Int) : Jv ω MX10_image MX11_image [iV x] cdN σ := by
  obtain ⟨N, hQ⟩ := hI.1
  have hW := hQ.2.2
  have h5 := hW.1.2.1
  have h8 := hW.1.1
  by_cases h : 0 ≤ x ∧ x ≤ 2
  · obtain ⟨p, hp⟩ := z_nat h.1
    subst hp
    have hp3 : p < 3 := by omega
    obtain ⟨υ, hυ⟩ : ∃ υ, υ = upS (tnS σ (22 + 7 * p) N) 43 p 1 := ⟨_, rfl⟩
    have c1 : ∀ a, (a < 22 + 7 * p ∨ 22 + 7 * p + 6 < a) → a ≠ 43 → υ a = σ a := fun a h1 h2 => by rw [hυ, ups_cell h2, tnS_cell h1]
    have cT : RowT υ (22 + 7 * p) N := by rw [hυ]; exact RowT_fr (tnS_row _ _ _) (fun i hi => ups_cell (by omega))
    have c43 : υ 43 p = 1 := by rw [hυ, ups_eq]
    have c43o : ∀ i, i ≠ p → υ 43 i = σ 43 i := fun i hi => by rw [hυ, ups_ne (Or.inr hi), tnS_cell (by omega)]
    refine Or.inl ⟨υ, ?_, ?_⟩
    · refine (eX10_image (d := 6) ?_).mono (by decide)
      intro X Xr Xt hC hr
      refine bX10_image_0 hC ?_
      refine Or.inl ⟨ctX10_needImage (by decide) h, ?_⟩
      have hb := ctX8_become (d := 6) (t := 21 + 1 + 7 * p) (s := 7) (by decide) (by omega) hQ.1
      rw [Int.toNat_natCast]
      rw [hυ] at hr
      exact ⟨by omega, _, hb, by omega, hr⟩
    · intro τ ha
      clear hυ
      have e : ∀ a, (a < 22 + 7 * p ∨ 22 + 7 * p + 6 < a) → a ≠ 43 → a ≠ 88 → τ a = σ a := fun a h1 h2 h3 => by rw [ha a h3, c1 a h1 h2]
      obtain ⟨τ1, ht1⟩ : ∃ τ1, τ1 = upS (upS τ 66 5 0) 71 p 1 := ⟨_, rfl⟩
      have f1 : ∀ a, a ≠ 66 → a ≠ 71 → τ1 a = τ a := fun a h1 h2 => by rw [ht1, ups_cell h2, ups_cell h1]
      have f66 : ∀ k, k ≠ 5 → τ1 66 k = τ 66 k := fun k hk => by rw [ht1, ups_cell (by decide), ups_ne (Or.inr hk)]
      have f5 : τ1 66 5 = 0 := by rw [ht1, ups_cell (by decide), ups_eq]
      have f71 : τ1 71 p = 1 := by rw [ht1, ups_eq]
      have f71o : ∀ i, i ≠ p → τ1 71 i = σ 71 i := fun i hi => by rw [ht1, ups_ne (Or.inr hi), ups_cell (by decide), e 71 (by omega) (by decide) (by decide)]
      have hM1 : RowM τ1 67 0 N := RowM_cell hQ.2.1 (by rw [f1 67 (by decide) (by decide), e 67 (by omega) (by decide) (by decide)])
      refine ⟨rwS τ1 70 (181 * p) N, ?_, by rw [rwS_cell (by decide)]; exact f5, ?_⟩
      · refine (eX11_image (d := 6) ?_).mono (by decide)
        intro X Xr Xt hC hr
        refine bX11_image_0 hC ?_
        refine ⟨_, ctX11_wi (by decide) h, ?_⟩
        rw [if_neg (by decide), ups_eq, if_neg (by decide), Int.toNat_natCast, ← ht1]
        refine ⟨by omega, ?_⟩
        have key : ∀ k : Nat, k ≤ 181 → X 38 [rV 20 66, iV (p : Int), iV (k : Int)] [] (soS τ1 70 (181 * p) k (fun j => (N j : Int))) := by
          refine loop_up (P := fun k : Nat => X 38 [rV 20 66, iV (p : Int), iV (k : Int)] [] (soS τ1 70 (181 * p) k (fun j => (N j : Int)))) ?_ ?_
          · refine bX11_image_38 hC ?_
            rw [if_neg (by decide), soS_row]
            exact hr
          · intro k hk ih
            refine bX11_image_38 hC ?_
            rw [if_pos (by omega), w_181 hp3 hk, Int.toNat_natCast, Int.toNat_natCast, soS_cell (show 67 ≠ 70 by decide), rwm0 hM1 hk, soS_s τ1 70 (181 * p) k (fun j => (N j : Int)), w32_s (by omega)]
            exact ⟨by omega, by omega, ih⟩
        have := key 0 (Nat.zero_le _)
        rw [soS_0] at this
        exact this
      · clear ht1
        have g : ∀ a, (a < 22 + 7 * p ∨ 22 + 7 * p + 6 < a) → a ≠ 43 → a ≠ 88 → a ≠ 66 → a ≠ 71 → a ≠ 70 → rwS τ1 70 (181 * p) N a = σ a := fun a h1 h2 h3 h4 h5 h6 => by rw [rwS_cell h6, f1 a h4 h5, e a h1 h2 h3]
        refine ⟨⟨N, InvN_e hQ (fun a h1 h2 => g a (by omega) (by omega) (by omega) (by omega) (by omega) (by omega)) (g 67 (by omega) (by decide) (by decide) (by decide) (by decide) (by decide))⟩, ?_, InvP_e hI.2.2.1 (g 0 (by omega) (by decide) (by decide) (by decide) (by decide) (by decide)) (g 6 (by omega) (by decide) (by decide) (by decide) (by decide) (by decide)) (g 72 (by omega) (by decide) (by decide) (by decide) (by decide) (by decide)) ?_ ?_ ?_, InvY_e hI.2.2.2.1 (fun a h1 h2 => g a (by omega) (by omega) (by omega) (by omega) (by omega) (by omega)) (g 77 (by omega) (by decide) (by decide) (by decide) (by decide) (by decide)) (g 78 (by omega) (by decide) (by decide) (by decide) (by decide) (by decide)) (g 79 (by omega) (by decide) (by decide) (by decide) (by decide) (by decide)), ?_⟩
        · intro i hi
          have g43 : rwS τ1 70 (181 * p) N 43 = υ 43 := by rw [rwS_cell (by decide), f1 43 (by decide) (by decide), ha 43 (by decide)]
          have g71 : rwS τ1 70 (181 * p) N 71 = τ1 71 := rwS_cell (by decide)
          rw [g43, g71]
          by_cases q : i = p
          · rw [q, c43, f71]
            refine ⟨Or.inr rfl, rfl, fun _ => ⟨N, RowT_fr cT ?_, rwS_row _ _ _ _, hW⟩⟩
            intro k hk
            rw [rwS_cell (by omega), f1 _ (by omega) (by omega), ha _ (by omega)]
          · obtain ⟨i1, i2, i3⟩ := hI.2.1 i hi
            rw [c43o i q, f71o i q]
            refine ⟨i1, i2, ?_⟩
            intro z
            obtain ⟨M, j1, j2, j3⟩ := i3 z
            refine ⟨M, RowT_fr j1 (fun k hk => g _ (by omega) (by omega) (by omega) (by omega) (by omega) (by omega)), ?_, j3⟩
            intro j hj
            have := j2 j hj
            have e2 : rwS τ1 70 (181 * p) N 70 (181 * i + j) = τ1 70 (181 * i + j) := if_neg (by omega)
            rw [e2, f1 70 (by decide) (by decide), e 70 (by omega) (by decide) (by decide)]
            exact this
        · rw [rwS_cell (by decide), f66 7 (by decide), e 66 (by omega) (by decide) (by decide)]
        · rw [rwS_cell (by decide), f66 15 (by decide), e 66 (by omega) (by decide) (by decide)]
        · rw [rwS_cell (by decide), f66 16 (by decide), e 66 (by omega) (by decide) (by decide)]
        · rw [g 62 (by omega) (by decide) (by decide) (by decide) (by decide) (by decide)]
          exact hI.2.2.2.2
  · refine Or.inr ⟨1, σ, by decide, ?_, ?_⟩
    · refine (eX10_image (d := 6) ?_).mono (by decide)
      intro X Xr Xt hC hr
      refine bX10_image_0 hC ?_
      exact Or.inr ⟨_, ctX10_needImage_no (by decide) h, hr⟩
    · intro τ ha
      refine ⟨upS τ 66 5 1, ?_, ups_eq, Inv_fr hI (th_fr ha)⟩
      refine (eX11_image (d := 6) ?_).mono (by decide)
      intro X Xr Xt hC hr
      refine bX11_image_0 hC ?_
      refine ⟨_, ctX11_wi_no (by decide) h, ?_⟩
      rw [if_pos (by decide), ups_eq, if_pos (by decide)]
      exact hr
theorem jv_restore {ω : Nat → Int} {σ : Sg} (hI : Inv ω σ) (x : Int) : Jv ω MX10_restore MX11_restore [iV x] cdP σ := by
  obtain ⟨N, hQ⟩ := hI.1
  have hW := hQ.2.2
  have h5 := hW.1.2.1
  have h8 := hW.1.1
  by_cases h : 0 ≤ x ∧ x ≤ 2
  · obtain ⟨p, hp⟩ := z_nat h.1
    subst hp
    have hp3 : p < 3 := by omega
    obtain ⟨i1, i2, i3⟩ := hI.2.1 p hp3
    by_cases s : σ 43 p = 0
    · refine Or.inr ⟨3, σ, by decide, ?_, ?_⟩
      · refine (eX10_restore (d := 6) ?_).mono (by decide)
        intro X Xr Xt hC hr
        refine bX10_restore_0 hC ?_
        refine Or.inl ⟨ctX10_needImage (by decide) h, ?_⟩
        rw [Int.toNat_natCast, if_pos s]
        exact ⟨by omega, hr⟩
      · intro τ ha
        refine ⟨upS τ 66 5 2, ?_, ups_eq, Inv_fr hI (th_fr ha)⟩
        refine (eX11_restore (d := 6) ?_).mono (by decide)
        intro X Xr Xt hC hr
        refine bX11_restore_0 hC ?_
        refine ⟨_, ctX11_wi (by decide) h, ?_⟩
        rw [if_neg (by decide), Int.toNat_natCast, ha 71 (by decide), if_pos (by rw [i2]; exact s), ups_eq, if_pos (by decide)]
        exact ⟨by omega, hr⟩
    · obtain ⟨M, m1, m2, m3⟩ := i3 (i1.resolve_left s)
      refine Or.inl ⟨tnS σ 7 M, ?_, ?_⟩
      · refine (eX10_restore (d := 6) ?_).mono (by decide)
        intro X Xr Xt hC hr
        refine bX10_restore_0 hC ?_
        refine Or.inl ⟨ctX10_needImage (by decide) h, ?_⟩
        have hb := ctX8_become (d := 6) (t := 7) (s := 21 + 1 + 7 * p) (by decide) (by omega) m1
        rw [Int.toNat_natCast, if_neg s]
        exact ⟨by omega, by omega, _, hb, hr⟩
      · intro τ ha
        have hcf := (FrC.refl σ).tn (M := M)
        have e : ∀ a, 66 < a → a < 80 → upS τ 66 5 0 a = σ a := fun a h1 h2 => by rw [ups_cell (by omega), ha a (by omega), tnS_cell (by omega)]
        have hM70 : RowM (upS τ 66 5 0) 70 (181 * p) M := RowM_cell m2 (e 70 (by decide) (by decide))
        refine ⟨rwS (upS τ 66 5 0) 67 0 M, ?_, by rw [rwS_cell (by decide)]; exact ups_eq, wr_end hI hcf (tnS_row _ _ _) ha (th_r (FrR.refl τ)).rw67 (rwS_row _ _ _ _) m3⟩
        refine (eX11_restore (d := 6) ?_).mono (by decide)
        intro X Xr Xt hC hr
        refine bX11_restore_0 hC ?_
        refine ⟨_, ctX11_wi (by decide) h, ?_⟩
        have e71 : τ 71 = σ 71 := by rw [ha 71 (by decide), tnS_cell (by decide)]
        rw [if_neg (by decide), Int.toNat_natCast, e71, if_neg (by rw [i2]; exact s), ups_eq, if_neg (by decide)]
        refine ⟨by omega, ?_⟩
        have key : ∀ k : Nat, k ≤ 181 → X 44 [rV 20 66, iV (p : Int), iV (k : Int)] [] (soS (upS τ 66 5 0) 67 0 k (fun j => (M j : Int))) := by
          refine loop_up (P := fun k : Nat => X 44 [rV 20 66, iV (p : Int), iV (k : Int)] [] (soS (upS τ 66 5 0) 67 0 k (fun j => (M j : Int)))) ?_ ?_
          · refine bX11_restore_44 hC ?_
            rw [if_neg (by decide), soS_row]
            exact hr
          · intro k hk ih
            refine bX11_restore_44 hC ?_
            have hss := soS_s (upS τ 66 5 0) 67 0 k (fun j => (M j : Int))
            rw [Nat.zero_add] at hss
            rw [if_pos (by omega), w_181 hp3 hk, Int.toNat_natCast, Int.toNat_natCast, soS_cell (show 70 ≠ 67 by decide), hM70 k hk, hss, w32_s (by omega)]
            exact ⟨by omega, by omega, ih⟩
        have := key 0 (Nat.zero_le _)
        rw [soS_0] at this
        exact this
  · refine Or.inr ⟨1, σ, by decide, ?_, ?_⟩
    · refine (eX10_restore (d := 6) ?_).mono (by decide)
      intro X Xr Xt hC hr
      refine bX10_restore_0 hC ?_
      exact Or.inr ⟨_, ctX10_needImage_no (by decide) h, hr⟩
    · intro τ ha
      refine ⟨upS τ 66 5 1, ?_, ups_eq, Inv_fr hI (th_fr ha)⟩
      refine (eX11_restore (d := 6) ?_).mono (by decide)
      intro X Xr Xt hC hr
      refine bX11_restore_0 hC ?_
      refine ⟨_, ctX11_wi_no (by decide) h, ?_⟩
      rw [if_pos (by decide), ups_eq, if_pos (by decide)]
      exact hr
