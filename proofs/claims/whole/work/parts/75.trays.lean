/-! PAIRS: tray, write, pour, image, restore -/
theorem InvN_e {σ τ : Sg} {N : Tn} (h : InvN σ N) (e : ∀ a, 7 ≤ a → a ≤ 13 → τ a = σ a) (e67 : τ 67 = σ 67) : InvN τ N := ⟨RowT_fr h.1 (fun i hi => e _ (by omega) (by omega)), RowM_cell h.2.1 e67, h.2.2⟩
theorem InvI_e {σ τ : Sg} (h : InvI σ) (e : ∀ a, 22 ≤ a → a ≤ 43 → τ a = σ a) (e70 : τ 70 = σ 70) (e71 : τ 71 = σ 71) : InvI τ := by
  intro i hi
  have := h i hi
  rw [e 43 (by decide) (by decide), e71]
  refine ⟨this.1, this.2.1, ?_⟩
  intro q
  obtain ⟨N, h1, h2, h3⟩ := this.2.2 q
  exact ⟨N, RowT_fr h1 (fun k hk => e _ (by omega) (by omega)), RowM_cell h2 e70, h3⟩
theorem InvP_e {σ τ : Sg} (h : InvP σ) (e0 : τ 0 = σ 0) (e6 : τ 6 = σ 6) (e72 : τ 72 = σ 72) (e7 : τ 66 7 = σ 66 7) (e15 : τ 66 15 = σ 66 15) (e16 : τ 66 16 = σ 66 16) : InvP τ := by
  obtain ⟨n, h1, h2, h3, h4, h5, h6⟩ := h
  exact ⟨n, h1, by rw [e0]; exact h2, by rw [e7]; exact h3, by rw [e6, e72]; exact h4, by rw [e0, e15]; exact h5, by rw [e0, e16]; exact h6⟩
theorem InvY_e {σ τ : Sg} (h : InvY σ) (e : ∀ a, 45 ≤ a → a ≤ 52 → τ a = σ a) (e77 : τ 77 = σ 77) (e78 : τ 78 = σ 78) (e79 : τ 79 = σ 79) : InvY τ := by
  intro i hi
  rw [e (45 + 2 * i) (by omega) (by omega), e (46 + 2 * i) (by omega) (by omega), e77, e78, e79]
  exact h i hi
/-- a call without a result that may throw -/
def Jv (ω : Nat → Int) (y z : Nat) (As : List Vv) (cd : Nat → Int) (σ : Sg) : Prop :=
  (∃ σ1, Ct 40 y (rV 19 0 :: As) σ (.inl []) σ1 ∧ ∀ τ, ag80 σ1 τ → ∃ σ2, Ct 40 z (rV 20 66 :: As) τ (.inl []) σ2 ∧ σ2 66 5 = 0 ∧ Inv ω σ2) ∨
  (∃ E σ1, cd E ≠ 0 ∧ Ct 40 y (rV 19 0 :: As) σ (.inr E) σ1 ∧ ∀ τ, ag80 σ1 τ → ∃ σ2, Ct 40 z (rV 20 66 :: As) τ (.inl []) σ2 ∧ σ2 66 5 = cd E ∧ Inv ω σ2)
/-! cutting to 8 shl s bits -/
theorem w64_bmod (x : Int) : x.bmod (2 ^ 64) = w64 x := by
  rw [Int.bmod_def]
  show (if x % 18446744073709551616 < (18446744073709551616 + 1) / 2 then x % 18446744073709551616 else x % 18446744073709551616 - 18446744073709551616) = w64 x
  unfold w64
  split <;> omega
theorem lcut {v c : Int} {k : Nat} (hk : k < 64) (hc : BitVec.twoPow 64 k = BitVec.ofInt 64 c) : lshrI (lshlI v (k : Int)) (k : Int) = w64 (v * c) / ((2 ^ k : Nat) : Int) := by
  unfold lshrI lshlI
  rw [Int64.ofInt_toInt]
  show (((Int64.ofInt v <<< ((Int32.ofInt (k : Int)).toInt64 &&& 63)) >>> ((Int32.ofInt (k : Int)).toInt64 &&& 63)).toBitVec).toInt = _
  rw [Int64.toBitVec_shiftRight, Int64.toBitVec_shiftLeft, sh32l hk]
  rw [BitVec.sshiftRight_eq', BitVec.shiftLeft_eq', BitVec.toNat_ofNat, Nat.mod_eq_of_lt (by omega : k < 2 ^ 64), BitVec.toInt_sshiftRight, Int.shiftRight_eq_div_pow, BitVec.shiftLeft_eq_mul_twoPow, hc]
  show (BitVec.ofInt 64 v * BitVec.ofInt 64 c).toInt / _ = _
  rw [← BitVec.ofInt_mul, BitVec.toInt_ofInt, w64_bmod]
def ctV (s v : Int) : Int := if s = 0 then w8 (w32 v) else if s = 1 then w16 (w32 v) else if s = 2 then w32 v else v
theorem lcut_s {s v : Int} (hs : 0 ≤ s ∧ s ≤ 3) (hv : in64 v) : lshrI (lshlI v (w32 (64 - ishlI 8 s))) (w32 (64 - ishlI 8 s)) = ctV s v := by
  have h4 : s = 0 ∨ s = 1 ∨ s = 2 ∨ s = 3 := by omega
  unfold in64 at hv
  rcases h4 with h | h | h | h
  · subst h
    rw [show w32 (64 - ishlI 8 0) = ((56 : Nat) : Int) by decide, lcut (c := 72057594037927936) (by decide) (by decide)]
    show w64 (v * 72057594037927936) / 72057594037927936 = w8 (w32 v)
    unfold w64 w8 w32; omega
  · subst h
    rw [show w32 (64 - ishlI 8 1) = ((48 : Nat) : Int) by decide, lcut (c := 281474976710656) (by decide) (by decide)]
    show w64 (v * 281474976710656) / 281474976710656 = w16 (w32 v)
    unfold w64 w16 w32; omega
  · subst h
    rw [show w32 (64 - ishlI 8 2) = ((32 : Nat) : Int) by decide, lcut (c := 4294967296) (by decide) (by decide)]
    show w64 (v * 4294967296) / 4294967296 = w32 v
    unfold w64 w32; omega
  · subst h
    rw [show w32 (64 - ishlI 8 3) = ((0 : Nat) : Int) by decide, lcut (c := 1) (by decide) (by decide)]
    show w64 (v * 1) / 1 = v
    unfold w64; omega
theorem ctX9_cut {d i : Nat} {v : Int} (hd : 1 ≤ d) {σ : Sg} : Ct d MX9_cutToSort [rV 18 i, lV v] σ (.inl [lV (ctV (σ i 0) v)]) σ := by
  refine (eX9_cutToSort (d := 0) ?_).mono hd
  intro X Xr Xt hC hr
  refine bX9_cutToSort_0 hC ?_
  unfold ctV at hr
  by_cases a : σ i 0 = 0
  · rw [if_pos a] at hr ⊢; exact hr
  rw [if_neg a] at hr ⊢
  by_cases b : σ i 0 = 1
  · rw [if_pos b] at hr ⊢; exact hr
  rw [if_neg b] at hr ⊢
  by_cases c : σ i 0 = 2
  · rw [if_pos c] at hr ⊢; exact hr
  rw [if_neg c] at hr ⊢
  exact hr
theorem ctX9_put {d i k m : Nat} {v : Int} (hd : 2 ≤ d) {σ : Sg} (hm : σ i 1 = (m : Int)) (h30 : m ≤ 30) (hk : k < m) : Ct d MX9_put [rV 18 i, iV (k : Int), lV v] σ (.inl [lV (ctV (σ i 0) v)]) (upS σ (i + 1) k (ctV (σ i 0) v)) := by
  refine (eX9_put (d := 1) ?_).mono hd
  intro X Xr Xt hC hr
  refine bX9_put_0 hC ?_
  refine ⟨_, ctX9_cut (by decide), ?_⟩
  rw [if_neg (by omega), hm, if_pos (by omega), Int.toNat_natCast]
  exact ⟨by omega, hr⟩
theorem ctX11_cut {d p k : Nat} {v : Int} (hd : 1 ≤ d) {σ : Sg} (hp : p < 4) (hk : k < 30) (hs : 0 ≤ σ 77 p ∧ σ 77 p ≤ 3) (hv : in64 v) : Ct d MX11_cut [rV 20 66, iV (p : Int), iV (k : Int), lV v] σ (.inl [lV (ctV (σ 77 p) v)]) (upS σ 79 (30 * p + k) (ctV (σ 77 p) v)) := by
  refine (eX11_cut (d := 0) ?_).mono hd
  intro X Xr Xt hC hr
  refine bX11_cut_0 hC ?_
  rw [w_30 hp hk, Int.toNat_natCast, Int.toNat_natCast, lcut_s hs hv, ups_eq]
  exact ⟨by omega, by omega, by omega, hr⟩
/-- the trays after writes to tray p: class cells 45 + 2 p and behind it, the reference's 77, 78, 79 -/
theorem InvY_up {σ τ : Sg} (h : InvY σ) {p : Nat} (hp : p < 4) (eo : ∀ i, i < 4 → i ≠ p → τ (45 + 2 * i) = σ (45 + 2 * i) ∧ τ (46 + 2 * i) = σ (46 + 2 * i) ∧ τ 77 i = σ 77 i ∧ τ 78 i = σ 78 i ∧ ∀ j, j < 30 → τ 79 (30 * i + j) = σ 79 (30 * i + j)) (ep : τ (45 + 2 * p) 0 = τ 77 p ∧ τ (45 + 2 * p) 1 = τ 78 p ∧ (-1 ≤ τ 77 p ∧ τ 77 p ≤ 3) ∧ (0 ≤ τ 78 p ∧ τ 78 p ≤ 30) ∧ ∀ j, j < 30 → τ (46 + 2 * p) j = τ 79 (30 * p + j)) : InvY τ := by
  intro i hi
  by_cases e : i = p
  · rw [e]; exact ep
  · obtain ⟨e1, e2, e3, e4, e5⟩ := eo i hi e
    obtain ⟨h1, h2, h3, h4, h5⟩ := h i hi
    rw [e1, e2, e3, e4]
    exact ⟨h1, h2, h3, h4, fun j hj => by rw [e5 j hj]; exact h5 j hj⟩
/-- all but one tray, the scratch and the thrown slot is as it was -/
theorem Inv_ty {ω : Nat → Int} {σ τ : Sg} (hI : Inv ω σ) (e : ∀ a, a ≠ 66 → a ≠ 77 → a ≠ 78 → a ≠ 79 → a ≠ 88 → (a < 45 ∨ 52 < a) → τ a = σ a) (e66 : ∀ k, k ≠ 5 → τ 66 k = σ 66 k) (hY : InvY τ) : Inv ω τ := by
  obtain ⟨⟨N, hN⟩, h2, h3, h4, h5⟩ := hI
  refine ⟨⟨N, InvN_e hN (fun a h1 h2 => e a (by omega) (by omega) (by omega) (by omega) (by omega) (by omega)) (e 67 (by decide) (by decide) (by decide) (by decide) (by decide) (by decide))⟩, InvI_e h2 (fun a h1 h2 => e a (by omega) (by omega) (by omega) (by omega) (by omega) (by omega)) (e 70 (by decide) (by decide) (by decide) (by decide) (by decide) (by decide)) (e 71 (by decide) (by decide) (by decide) (by decide) (by decide) (by decide)), InvP_e h3 (e 0 (by decide) (by decide) (by decide) (by decide) (by decide) (by decide)) (e 6 (by decide) (by decide) (by decide) (by decide) (by decide) (by decide)) (e 72 (by decide) (by decide) (by decide) (by decide) (by decide) (by decide)) (e66 7 (by decide)) (e66 15 (by decide)) (e66 16 (by decide)), hY, ?_⟩
  rw [e 62 (by decide) (by decide) (by decide) (by decide) (by decide) (by decide)]
  exact h5
theorem jv_tray {ω : Nat → Int} {σ : Sg} (hI : Inv ω σ) (x y z : Int) : Jv ω MX10_tray MX11_tray [iV x, iV y, iV z] cdNI σ := by
  obtain ⟨N, hQ⟩ := hI.1
  have hW := hQ.2.2
  have h5 := hW.1.2.1
  have h8 := hW.1.1
  by_cases h : 0 ≤ x ∧ x ≤ 3
  · obtain ⟨p, hp⟩ := z_nat h.1
    subst hp
    have hp4 : p < 4 := by omega
    by_cases g : (0 ≤ y ∧ y ≤ 3) ∧ (0 ≤ z ∧ z ≤ 30)
    · obtain ⟨g, g2⟩ := g
      obtain ⟨υ, hυ⟩ : ∃ υ, υ = flS (upS (upS σ (45 + 2 * p) 0 y) (45 + 2 * p) 1 z) (46 + 2 * p) 30 0 := ⟨_, rfl⟩
      have c1 : ∀ a, a ≠ 45 + 2 * p → a ≠ 46 + 2 * p → υ a = σ a := fun a h1 h2 => by rw [hυ, flS_cell h2, ups_cell h1, ups_cell h1]
      have c2 : υ (45 + 2 * p) 0 = y := by rw [hυ, flS_cell (by omega), ups_ne (Or.inr (by decide)), ups_eq]
      have c3 : υ (45 + 2 * p) 1 = z := by rw [hυ, flS_cell (by omega), ups_eq]
      have c4 : ∀ j, j < 30 → υ (46 + 2 * p) j = 0 := fun j hj => by rw [hυ, flS_in hj]
      refine Or.inl ⟨υ, ?_, ?_⟩
      · refine (eX10_tray (d := 6) ?_).mono (by decide)
        intro X Xr Xt hC hr
        refine bX10_tray_0 hC ?_
        rw [if_neg (by omega), if_pos (by omega), if_neg (by omega), if_neg (by omega), if_neg (by omega), if_neg (by omega), Int.toNat_natCast]
        have hl : Ct 6 MX9_layRow [rV 18 (44 + 1 + 2 * p), iV y, iV z] σ (.inl []) υ := by
          refine (eX9_layRow (d := 5) ?_).mono (by decide)
          intro X Xr Xt hC hr
          refine bX9_layRow_0 hC ?_
          rw [show max 0 (min z 30) = z by omega]
          refine ⟨_, ctJ7_fillJ (n := 30) (by decide) rfl (by decide), ?_⟩
          rw [hυ] at hr
          rw [show 44 + 1 + 2 * p = 45 + 2 * p by omega, show 45 + 2 * p + 1 = 46 + 2 * p by omega]
          exact hr
        exact ⟨by omega, _, hl, hr⟩
      · intro τ ha
        clear hυ
        obtain ⟨τ1, ht1⟩ : ∃ τ1, τ1 = upS (upS (upS τ 66 5 0) 77 p y) 78 p z := ⟨_, rfl⟩
        obtain ⟨υ2, hυ2⟩ : ∃ υ2 : Nat → Sg, υ2 = fun k => fun b j => if b = 79 ∧ 30 * p ≤ j ∧ j < 30 * p + k then (0 : Int) else τ1 b j := ⟨_, rfl⟩
        have u0 : υ2 0 = τ1 := by rw [hυ2]; funext b j; exact if_neg (by omega)
        have us : ∀ k, upS (υ2 k) 79 (30 * p + k) 0 = υ2 (k + 1) := by
          intro k
          rw [hυ2]
          funext b j
          unfold upS
          by_cases q : b = 79 ∧ j = 30 * p + k
          · rw [if_pos q]
            show (0 : Int) = if b = 79 ∧ 30 * p ≤ j ∧ j < 30 * p + (k + 1) then 0 else τ1 b j
            rw [if_pos (by omega)]
          · rw [if_neg q]
            show (if b = 79 ∧ 30 * p ≤ j ∧ j < 30 * p + k then (0 : Int) else τ1 b j) = if b = 79 ∧ 30 * p ≤ j ∧ j < 30 * p + (k + 1) then 0 else τ1 b j
            by_cases q2 : b = 79 ∧ 30 * p ≤ j ∧ j < 30 * p + k
            · rw [if_pos q2, if_pos (by omega)]
            · rw [if_neg q2, if_neg (by omega)]
        have un : ∀ a, a ≠ 79 → υ2 30 a = τ1 a := fun a h1 => by rw [hυ2]; funext j; exact if_neg (fun q => h1 q.1)
        have ui : ∀ j, j < 30 → υ2 30 79 (30 * p + j) = 0 := fun j hj => by rw [hυ2]; exact if_pos ⟨rfl, by omega, by omega⟩
        have uo : ∀ j, (j < 30 * p ∨ 30 * p + 30 ≤ j) → υ2 30 79 j = τ1 79 j := fun j hj => by rw [hυ2]; exact if_neg (by omega)
        clear hυ2
        have b66 : ∀ k, k ≠ 5 → τ1 66 k = σ 66 k := fun k hk => by rw [ht1, ups_cell (by decide), ups_cell (by decide), ups_ne (Or.inr hk), ha 66 (by decide), c1 66 (by omega) (by omega)]
        have b5 : τ1 66 5 = 0 := by rw [ht1, ups_cell (by decide), ups_cell (by decide), ups_eq]
        have b77 : τ1 77 p = y := by rw [ht1, ups_cell (by decide), ups_eq]
        have b78 : τ1 78 p = z := by rw [ht1, ups_eq]
        have b77o : ∀ i, i ≠ p → τ1 77 i = σ 77 i := fun i hi => by rw [ht1, ups_cell (by decide), ups_ne (Or.inr hi), ups_cell (by decide), ha 77 (by decide), c1 77 (by omega) (by omega)]
        have b78o : ∀ i, i ≠ p → τ1 78 i = σ 78 i := fun i hi => by rw [ht1, ups_ne (Or.inr hi), ups_cell (by decide), ups_cell (by decide), ha 78 (by decide), c1 78 (by omega) (by omega)]
        have ba : ∀ a, a ≠ 66 → a ≠ 77 → a ≠ 78 → a ≠ 88 → τ1 a = υ a := fun a h1 h2 h3 h4 => by rw [ht1, ups_cell h3, ups_cell h2, ups_cell h1, ha a h4]
        refine ⟨υ2 30, ?_, by rw [un 66 (by decide)]; exact b5, Inv_ty hI ?_ ?_ (InvY_up hI.2.2.2.1 hp4 ?_ ?_)⟩
        · refine (eX11_tray (d := 6) ?_).mono (by decide)
          intro X Xr Xt hC hr
          refine bX11_tray_0 hC ?_
          refine ⟨_, ctX11_isTray (by decide) h, ?_⟩
          rw [if_neg (by decide)]
          refine ⟨_, ctX11_wi (by decide) g, ?_⟩
          rw [if_neg (by decide)]
          refine ⟨_, ctX11_wi (by decide) g2, ?_⟩
          rw [if_neg (by decide), ups_eq, if_neg (by decide), Int.toNat_natCast, ← ht1]
          refine ⟨by omega, by omega, ?_⟩
          have key : ∀ k : Nat, k ≤ 30 → X 69 [rV 20 66, iV (p : Int), iV y, iV z, iV (k : Int)] [] (υ2 k) := by
            refine loop_up (P := fun k : Nat => X 69 [rV 20 66, iV (p : Int), iV y, iV z, iV (k : Int)] [] (υ2 k)) ?_ ?_
            · refine bX11_tray_69 hC ?_
              rw [if_neg (by decide)]
              exact hr
            · intro k hk ih
              refine bX11_tray_69 hC ?_
              rw [if_pos (by omega), w_30 hp4 hk, Int.toNat_natCast, us, w32_s (by omega)]
              exact ⟨by omega, ih⟩
          have := key 0 (Nat.zero_le _)
          rw [u0] at this
          exact this
        · intro a h1 h2 h3 h4 h5 h6
          rw [un a h4, ba a h1 h2 h3 h5, c1 a (by omega) (by omega)]
        · intro k hk
          rw [un 66 (by decide)]
          exact b66 k hk
        · intro i hi hne
          rw [un _ (by omega), un _ (by omega), un 77 (by decide), un 78 (by decide), ba _ (by omega) (by omega) (by omega) (by omega), ba _ (by omega) (by omega) (by omega) (by omega), c1 _ (by omega) (by omega), c1 _ (by omega) (by omega)]
          refine ⟨rfl, rfl, b77o i hne, b78o i hne, ?_⟩
          intro j hj
          rw [uo _ (by omega), ba 79 (by decide) (by decide) (by decide) (by decide), c1 79 (by omega) (by omega)]
        · rw [un (45 + 2 * p) (by omega), un (46 + 2 * p) (by omega), un 77 (by decide), un 78 (by decide), ba (45 + 2 * p) (by omega) (by omega) (by omega) (by omega), ba (46 + 2 * p) (by omega) (by omega) (by omega) (by omega), b77, b78, c2, c3]
          refine ⟨rfl, rfl, by omega, g2, ?_⟩
          intro j hj
          rw [ui j hj, c4 j hj]
    · refine Or.inr ⟨2, σ, by decide, ?_, ?_⟩
      · refine (eX10_tray (d := 6) ?_).mono (by decide)
        intro X Xr Xt hC hr
        refine bX10_tray_0 hC ?_
        rw [if_neg (by omega), if_pos (by omega)]
        by_cases q1 : y < 0
        · rw [if_pos q1]; exact hr
        rw [if_neg q1]
        by_cases q2 : 3 < y
        · rw [if_pos q2]; exact hr
        rw [if_neg q2]
        by_cases q3 : z < 0
        · rw [if_pos q3]; exact hr
        rw [if_neg q3, if_pos (by omega)]
        exact hr
      · intro τ ha
        refine ⟨upS τ 66 5 2, ?_, ups_eq, Inv_fr hI (th_fr ha)⟩
        refine (eX11_tray (d := 6) ?_).mono (by decide)
        intro X Xr Xt hC hr
        refine bX11_tray_0 hC ?_
        refine ⟨_, ctX11_isTray (by decide) h, ?_⟩
        rw [if_neg (by decide)]
        by_cases q1 : 0 ≤ y ∧ y ≤ 3
        · refine ⟨_, ctX11_wi (by decide) q1, ?_⟩
          rw [if_neg (by decide)]
          refine ⟨_, ctX11_wi_no (by decide) (fun q => g ⟨q1, q⟩), ?_⟩
          rw [if_pos (by decide), ups_eq, if_pos (by decide)]
          exact hr
        · refine ⟨_, ctX11_wi_no (by decide) q1, ?_⟩
          rw [if_pos (by decide), ups_eq, if_pos (by decide)]
          exact hr
  · refine Or.inr ⟨1, σ, by decide, ?_, ?_⟩
    · refine (eX10_tray (d := 6) ?_).mono (by decide)
      intro X Xr Xt hC hr
      refine bX10_tray_0 hC ?_
      by_cases q1 : x < 0
      · rw [if_pos q1]; exact hr
      · rw [if_neg q1, if_neg (by omega)]; exact hr
    · intro τ ha
      refine ⟨upS τ 66 5 1, ?_, ups_eq, Inv_fr hI (th_fr ha)⟩
      refine (eX11_tray (d := 6) ?_).mono (by decide)
      intro X Xr Xt hC hr
      refine bX11_tray_0 hC ?_
      refine ⟨_, ctX11_isTray_no (by decide) h, ?_⟩
      rw [if_pos (by decide), ups_eq, if_pos (by decide)]
      exact hr
/-- k numbers F laid into tray p from its first place on -/
theorem Inv_lay {ω : Nat → Int} {σ υ τ σ2 : Sg} (hI : Inv ω σ) {p : Nat} (hp : p < 4) {G : Nat → Int} {f : Nat → Bool} (c1 : ∀ a, a ≠ 46 + 2 * p → υ a = σ a) (c2 : ∀ j, j < 30 → υ (46 + 2 * p) j = if f j = true then G j else σ (46 + 2 * p) j) (ha : ag80 υ τ) (r1 : ∀ a, a ≠ 66 → a ≠ 79 → σ2 a = τ a) (r66 : ∀ k, k ≠ 5 → σ2 66 k = τ 66 k) (r2 : ∀ j, j < 30 → σ2 79 (30 * p + j) = if f j = true then G j else σ 79 (30 * p + j)) (r3 : ∀ j, (j < 30 * p ∨ 30 * p + 30 ≤ j) → σ2 79 j = σ 79 j) : Inv ω σ2 := by
  have hy := hI.2.2.2.1 p hp
  have e : ∀ a, a ≠ 66 → a ≠ 79 → a ≠ 88 → a ≠ 46 + 2 * p → σ2 a = σ a := fun a h1 h2 h3 h4 => by rw [r1 a h1 h2, ha a h3, c1 a h4]
  refine Inv_ty hI (fun a h1 h2 h3 h4 h5 h6 => e a h1 h4 h5 (by omega)) (fun k hk => by rw [r66 k hk, ha 66 (by decide), c1 66 (by omega)]) (InvY_up hI.2.2.2.1 hp ?_ ?_)
  · intro i hi hne
    rw [e _ (by omega) (by omega) (by omega) (by omega), e _ (by omega) (by omega) (by omega) (by omega), e 77 (by decide) (by decide) (by decide) (by omega), e 78 (by decide) (by decide) (by decide) (by omega)]
    exact ⟨rfl, rfl, rfl, rfl, fun j hj => r3 _ (by omega)⟩
  · rw [e _ (by omega) (by omega) (by omega) (by omega), e 77 (by decide) (by decide) (by decide) (by omega), e 78 (by decide) (by decide) (by decide) (by omega)]
    refine ⟨hy.1, hy.2.1, hy.2.2.1, hy.2.2.2.1, ?_⟩
    intro j hj
    rw [r1 _ (by omega) (by omega), ha _ (by omega), c2 j hj, r2 j hj, hy.2.2.2.2 j hj]
theorem jt_write {ω : Nat → Int} {σ : Sg} (hI : Inv ω σ) (x y v : Int) (hv : in64 v) : Jt ω MX10_write MX11_write [iV x, iV y, lV v] lV cdW σ := by
  obtain ⟨N, hQ⟩ := hI.1
  have hW := hQ.2.2
  have h5 := hW.1.2.1
  have h8 := hW.1.1
  by_cases h : 0 ≤ x ∧ x ≤ 3
  · obtain ⟨p, hp⟩ := z_nat h.1
    subst hp
    have hp4 : p < 4 := by omega
    obtain ⟨m, Z, t1, t2, t3, t4, t5, t6⟩ := ty_get hI hp4
    have hs3 := (hI.2.2.2.1 p hp4).2.2.1
    have e1 : w32 ((m : Int) - 1) = (m : Int) - 1 := by clear t2 t3 t4 t5 t6; unfold w32; omega
    by_cases s : σ 77 p = -1
    · refine Or.inr ⟨3, σ, by decide, ?_, ?_⟩
      · refine (eX10_write (d := 6) ?_).mono (by decide)
        intro X Xr Xt hC hr
        refine bX10_write_0 hC ?_
        exact Or.inr ⟨_, ctX10_needTray_3 (by decide) hp4 (by rw [t6]; exact s), hr⟩
      · intro τ ha
        have hM0 := (InvN_ag hQ ha).2.1
        have hM : ∀ v, RowM (upS τ 66 5 v) 67 0 N := fun v => RowM_ups hM0 (by decide)
        refine ⟨0, upS τ 66 5 2, ?_, ups_eq, Inv_fr hI (th_fr ha)⟩
        refine (eX11_write (d := 6) ?_).mono (by decide)
        intro X Xr Xt hC hr
        refine bX11_write_0 hC ?_
        refine ⟨_, ctX11_trayFault_2 (by decide) hp4 (by rw [ha 77 (by decide)]; exact s), ?_⟩
        rw [ups_eq, if_pos (by decide)]
        exact hr
    · by_cases g : 0 ≤ y ∧ y < m
      · obtain ⟨k, hk⟩ := z_nat g.1
        subst hk
        have hk : k < m := by omega
        refine Or.inl ⟨ctV (σ 77 p) v, upS σ (46 + 2 * p) k (ctV (σ 77 p) v), ?_, ?_⟩
        · refine (eX10_write (d := 6) ?_).mono (by decide)
          intro X Xr Xt hC hr
          refine bX10_write_0 hC ?_
          refine Or.inl ⟨_, ctX10_needTray (by decide) hp4 (by rw [t6]; exact s), ?_⟩
          have hpt := ctX9_put (d := 6) (i := 45 + 2 * p) (k := k) (v := v) (by decide) t2 t1 hk
          rw [t6, show 45 + 2 * p + 1 = 46 + 2 * p by omega] at hpt
          rw [t2, if_neg (by omega), if_pos (by omega)]
          exact ⟨_, _, hpt, hr⟩
        · intro τ ha
          have e77 : τ 77 = σ 77 := by rw [ha 77 (by decide), ups_cell (by omega)]
          have e78 : τ 78 = σ 78 := by rw [ha 78 (by decide), ups_cell (by omega)]
          have hsn : 0 ≤ upS τ 66 5 0 77 p ∧ upS τ 66 5 0 77 p ≤ 3 := by rw [ups_cell (by decide), e77]; omega
          have hct := ctX11_cut (d := 6) (k := k) (v := v) (by decide) hp4 (by omega) hsn hv
          rw [show upS τ 66 5 0 77 p = σ 77 p by rw [ups_cell (by decide), e77]] at hct
          refine ⟨upS (upS τ 66 5 0) 79 (30 * p + k) (ctV (σ 77 p) v), ?_, by rw [ups_cell (by decide)]; exact ups_eq, Inv_lay hI hp4 (G := fun _ => ctV (σ 77 p) v) (f := fun j => decide (j = k)) (fun a h1 => ups_cell h1) ?_ ha (fun a h1 h2 => by rw [ups_cell h2, ups_cell h1]) (fun q hq => by rw [ups_cell (by decide), ups_ne (Or.inr hq)]) ?_ ?_⟩
          · refine (eX11_write (d := 6) ?_).mono (by decide)
            intro X Xr Xt hC hr
            refine bX11_write_0 hC ?_
            refine ⟨_, ctX11_trayFault (by decide) hp4 (by rw [e77]; exact s), ?_⟩
            rw [ups_eq, if_neg (by decide), Int.toNat_natCast, ups_cell (by decide), e78, t3, e1]
            refine ⟨by omega, _, ctX11_wi (by decide) ⟨by omega, by omega⟩, ?_⟩
            rw [if_neg (by decide)]
            exact ⟨_, _, hct, hr⟩
          · intro j hj
            by_cases q : j = k
            · rw [if_pos (decide_eq_true q), q, ups_eq]
            · rw [if_neg (by rw [decide_eq_false q]; decide), ups_ne (Or.inr q)]
          · intro j hj
            by_cases q : j = k
            · rw [if_pos (decide_eq_true q), q, ups_eq]
            · rw [if_neg (by rw [decide_eq_false q]; decide), ups_ne (Or.inr (by omega)), ups_cell (by decide), ha 79 (by decide), ups_cell (by omega)]
          · intro j hj
            rw [ups_ne (Or.inr (by omega)), ups_cell (by decide), ha 79 (by decide), ups_cell (by omega)]
      · refine Or.inr ⟨4, σ, by decide, ?_, ?_⟩
        · refine (eX10_write (d := 6) ?_).mono (by decide)
          intro X Xr Xt hC hr
          refine bX10_write_0 hC ?_
          refine Or.inl ⟨_, ctX10_needTray (by decide) hp4 (by rw [t6]; exact s), ?_⟩
          rw [t2]
          by_cases q : y < 0
          · rw [if_pos q]; exact hr
          · rw [if_neg q, if_neg (by omega)]; exact hr
        · intro τ ha
          have hM0 := (InvN_ag hQ ha).2.1
          have hM : ∀ v, RowM (upS τ 66 5 v) 67 0 N := fun v => RowM_ups hM0 (by decide)
          refine ⟨0, upS (upS τ 66 5 0) 66 5 3, ?_, ups_eq, Inv_fr hI ((th_fr ha).ups66 (by decide) (by decide) (by decide))⟩
          refine (eX11_write (d := 6) ?_).mono (by decide)
          intro X Xr Xt hC hr
          refine bX11_write_0 hC ?_
          refine ⟨_, ctX11_trayFault (by decide) hp4 (by rw [ha 77 (by decide)]; exact s), ?_⟩
          rw [ups_eq, if_neg (by decide), Int.toNat_natCast, ups_cell (by decide), ha 78 (by decide), t3, e1]
          refine ⟨by omega, _, ctX11_wi_no (by decide) (by omega), ?_⟩
          rw [if_pos (by decide)]
          exact ⟨_, _, ctX11_fails (by decide), hr⟩
  · refine Or.inr ⟨1, σ, by decide, ?_, ?_⟩
    · refine (eX10_write (d := 6) ?_).mono (by decide)
      intro X Xr Xt hC hr
      refine bX10_write_0 hC ?_
      exact Or.inr ⟨_, ctX10_needTray_1 (by decide) h, hr⟩
    · intro τ ha
      have hM0 := (InvN_ag hQ ha).2.1
      have hM : ∀ v, RowM (upS τ 66 5 v) 67 0 N := fun v => RowM_ups hM0 (by decide)
      refine ⟨0, upS τ 66 5 1, ?_, ups_eq, Inv_fr hI (th_fr ha)⟩
      refine (eX11_write (d := 6) ?_).mono (by decide)
      intro X Xr Xt hC hr
      refine bX11_write_0 hC ?_
      refine ⟨_, ctX11_trayFault_1 (by decide) h, ?_⟩
      rw [ups_eq, if_pos (by decide)]
      exact hr
