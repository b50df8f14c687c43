/-! THE SEARCH: begin, step -/
theorem w32_bv (a : Nat) : BitVec.ofInt 32 (w32 (a : Int)) = BitVec.ofNat 32 a := by
  apply BitVec.eq_of_toNat_eq
  rw [BitVec.toNat_ofInt, BitVec.toNat_ofNat]
  show (w32 (a : Int) % 4294967296).toNat = a % 4294967296
  unfold w32
  omega
theorem nI32 (a : Nat) : (BitVec.ofNat 32 a).toInt = w32 (a : Int) := by
  rw [← BitVec.ofInt_natCast, BitVec.toInt_ofInt, Int.bmod_def]
  show (if (a : Int) % 4294967296 < (4294967296 + 1) / 2 then (a : Int) % 4294967296 else (a : Int) % 4294967296 - 4294967296) = w32 (a : Int)
  unfold w32
  split <;> omega
theorem ishl_w {a k : Nat} (hk : k < 32) : ishlI (a : Int) (k : Int) = w32 ((a * 2 ^ k : Nat) : Int) := by
  unfold ishlI
  show ((Int32.ofInt (a : Int) <<< (Int32.ofInt (k : Int) &&& 31)).toBitVec).toInt = _
  rw [Int32.toBitVec_shiftLeft, sh32 hk, o32]
  rw [BitVec.shiftLeft_eq', BitVec.toNat_ofNat, Nat.mod_eq_of_lt (by omega : k < 2 ^ 32)]
  rw [← nI32]
  congr 1
  apply BitVec.eq_of_toNat_eq
  rw [BitVec.toNat_shiftLeft, BitVec.toNat_ofNat, BitVec.toNat_ofNat, Nat.shiftLeft_eq]
  rw [Nat.mod_mul_mod]
theorem ior_w (a b : Nat) : iorI (w32 (a : Int)) (w32 (b : Int)) = w32 ((a ||| b : Nat) : Int) := by
  unfold iorI
  show ((Int32.ofInt (w32 (a : Int)) ||| Int32.ofInt (w32 (b : Int))).toBitVec).toInt = _
  rw [Int32.toBitVec_or]
  have e : ∀ z : Nat, (Int32.ofInt (w32 (z : Int))).toBitVec = BitVec.ofNat 32 z := fun z => w32_bv z
  rw [e, e, ← BitVec.ofNat_or, nI32]
theorem or_16 {a v c : Nat} (h : a < 16 ^ c) : a ||| v * 2 ^ (4 * c) = a + v * 16 ^ c := by
  have e : (16 : Nat) ^ c = 2 ^ (4 * c) := by rw [Nat.pow_mul]
  rw [e] at h ⊢
  have := Nat.two_pow_add_eq_or_of_lt h v
  rw [Nat.mul_comm (2 ^ (4 * c)) v] at this
  rw [Nat.or_comm, ← this, Nat.add_comm]
theorem w_4c {c : Nat} (h : c < 8) : w32 (4 * (c : Int)) = ((4 * c : Nat) : Int) := by unfold w32; omega
/-- one more coin's four bits -/
theorem or_step4 {v : Nat → Nat} {c : Nat} (hc : c < 8) (hv : ∀ e, e < 8 → v e < 16) : iorI (w32 (cdB 16 v c : Int)) (ishlI (v c : Int) (w32 (4 * (c : Int)))) = w32 (cdB 16 v (c + 1) : Int) := by
  have hl := (cdB_ok (B := 16) (by decide) c (fun e he => hv e (by omega))).1
  rw [w_4c hc, ishl_w (by omega), ior_w, or_16 hl, cdB_s]
theorem hN_16 {N : Tn} (hW : WFN N) {p : Nat} (hp : p < 5) : ∀ e, e < 8 → hN N p e < 16 := fun e he => Nat.lt_of_le_of_lt (hN_le hW hp he) (by decide)
theorem sN_16 {N : Tn} (hW : WFN N) {k s : Nat} (hk : k < 6) (hs : s < 2) : ∀ e, e < 8 → sN N k s e < 16 := fun e he => Nat.lt_of_le_of_lt (sN_le hW hk hs he) (by decide)
/-- the code of a purse -/
def D0 (N : Tn) (p : Nat) : Nat := cdB 10 (hN N p) 8
theorem D0_ok {N : Tn} (hW : WFN N) {p : Nat} (hp : p < 5) : okD N (D0 N p) ∧ pkc (D0 N p) = cdB 16 (hN N p) 8 := by
  have h9 : ∀ c, c < 8 → hN N p c ≤ 9 := fun c hc => hN_le hW hp hc
  obtain ⟨h1, h2⟩ := code_of h9
  refine ⟨⟨h1, fun c hc hn => ?_, ?_⟩, pkc_code h9⟩
  · show dg (cdB 10 (hN N p) 8) c = 0
    rw [h2 c hc]
    exact hW.2.2.2.2.1 p c hp hc (Or.inr hn)
  · show sumN (dg (cdB 10 (hN N p) 8)) 8 ≤ 9
    rw [sumN_congr h2]
    exact hW.2.2.2.1 p hp
def S0 (N : Tn) (p : Nat) : Qs := mtS ((fun _ => 0), 0) (D0 N p)
theorem S0_2 (N : Tn) (p : Nat) : (S0 N p).2 = 1 := rfl
theorem S0_1 (N : Tn) (p : Nat) : (S0 N p).1 0 = D0 N p := rfl
theorem S0_vs {N : Tn} (hW : WFN N) {p : Nat} (hp : p < 5) : VS N (S0 N p) := mtS_ok (fun i hi => absurd hi (Nat.not_lt_zero i)) (D0_ok hW hp).1
/-- only the search's cells have changed -/
def FQ (σ τ : Sg) : Prop := ∀ b, b < 57 ∨ 61 < b → τ b = σ b
theorem FQ.refl (σ : Sg) : FQ σ σ := fun _ _ => rfl
theorem FQ.trans {σ τ υ : Sg} (h : FQ σ τ) (g : FQ τ υ) : FQ σ υ := fun b hb => (g b hb).trans (h b hb)
theorem FQ.fm {σ τ : Sg} (h : FM σ τ) : FQ σ τ := fun b hb => h.1 b (by omega) (by omega) (by omega)
theorem FQ.up {σ τ : Sg} {a k : Nat} {v : Int} (h : FQ σ τ) (ha : 57 ≤ a ∧ a ≤ 61) : FQ σ (upS τ a k v) := fun b hb => by rw [ups_cell (by omega)]; exact h b hb
set_option maxRecDepth 20000 in
theorem ctX6_begin {d p : Nat} {N : Tn} {σ : Sg} (hd : 5 ≤ d) (hW : WFN N) (hp : p < N 2) (hR : RowT σ 7 N) (hw : wyT (σ 62)) : ∃ σ1, Ct d MX6_begin [rV 15 57, rV 17 7, iV (p : Int)] σ (.inl []) σ1 ∧ CR N σ1 (S0 N p) ∧ CK N σ1 ∧ σ1 57 1 = 0 ∧ FQ σ σ1 := by
  have h5 := hW.1.2.1
  have h6 := hW.1.2.2.1
  have hp5 : p < 5 := by omega
  obtain ⟨hD, hpk⟩ := D0_ok hW hp5
  obtain ⟨μ0, hμ0⟩ : ∃ μ, μ = upS (upS (upS (flS σ 59 380 0) 57 0 0) 57 1 0) 57 2 (N 3 : Int) := ⟨_, rfl⟩
  have f0 : FQ σ μ0 := by
    intro b hb
    rw [hμ0, ups_cell (by omega), ups_cell (by omega), ups_cell (by omega), flS_cell (by omega)]
  have m59 : ∀ j, j < 380 → μ0 59 j = 0 := fun j hj => by rw [hμ0, ups_cell (by decide), ups_cell (by decide), ups_cell (by decide), flS_in hj]
  have m570 : μ0 57 0 = 0 := by rw [hμ0, ups_ne (Or.inr (by decide)), ups_ne (Or.inr (by decide)), ups_eq]
  have m571 : μ0 57 1 = 0 := by rw [hμ0, ups_ne (Or.inr (by decide)), ups_eq]
  have m572 : μ0 57 2 = (N 3 : Int) := by rw [hμ0, ups_eq]
  -- goes and comes
  have GE : ∀ r k (μ : Sg), k + r = N 3 → (∀ b, b ≠ 60 → b ≠ 61 → μ b = μ0 b) → (∀ e, e < k → μ 60 e = (gkN N e 0 : Int) ∧ μ 61 e = (gkN N e 1 : Int)) → ∃ ν, (∀ (X : Nat → List Vv → List Vv → Sg → Prop) (Xr : List Vv → Sg → Prop) (Xt : Nat → Sg → Prop), Clo (Ct 4) 6 cX6_begin none X Xr Xt → X 126 [rV 15 57, rV 17 7, iV (p : Int), iV 0, iV 0] [] ν → X 33 [rV 15 57, rV 17 7, iV (p : Int), iV (k : Int), uV] [] μ) ∧ (∀ b, b ≠ 60 → b ≠ 61 → ν b = μ0 b) ∧ (∀ e, e < N 3 → ν 60 e = (gkN N e 0 : Int) ∧ ν 61 e = (gkN N e 1 : Int)) := by
    intro r
    induction r with
    | zero =>
      intro k μ hk h1 h2
      have hk : k = N 3 := hk
      refine ⟨μ, ?_, h1, by rw [← hk]; exact h2⟩
      intro X Xr Xt hC hx
      refine bX6_begin_33 hC ?_
      rw [h1 57 (by decide) (by decide), m572, if_neg (by omega)]
      exact hx
    | succ r ih =>
      intro k μ hk h1 h2
      have hk6 : k < 6 := by omega
      have hRμ : ∀ (ν : Sg), (∀ b, b ≠ 60 → b ≠ 61 → ν b = μ0 b) → RowT ν 7 N := fun ν hν => RowT_fr hR (fun i hi => by rw [hν _ (by omega) (by omega)]; exact f0 _ (by omega))
      obtain ⟨ξ, hξ⟩ : ∃ ξ : Nat → Sg, ξ = fun c => upS (upS μ 60 k (cdB 16 (sN N k 0) c : Int)) 61 k (cdB 16 (sN N k 1) c : Int) := ⟨_, rfl⟩
      have x1 : ∀ c b, b ≠ 60 → b ≠ 61 → ξ c b = μ0 b := fun c b hb1 hb2 => by rw [hξ]; show upS (upS μ 60 k _) 61 k _ b = μ0 b; rw [ups_cell hb2, ups_cell hb1]; exact h1 b hb1 hb2
      have x60 : ∀ c, ξ c 60 k = (cdB 16 (sN N k 0) c : Int) := fun c => by rw [hξ]; show upS (upS μ 60 k _) 61 k _ 60 k = _; rw [ups_cell (by decide), ups_eq]
      have x61 : ∀ c, ξ c 61 k = (cdB 16 (sN N k 1) c : Int) := fun c => by rw [hξ]; show upS (upS μ 60 k _) 61 k _ 61 k = _; rw [ups_eq]
      have xo : ∀ c e, e ≠ k → ξ c 60 e = μ 60 e ∧ ξ c 61 e = μ 61 e := fun c e he => by
        rw [hξ]
        show upS (upS μ 60 k _) 61 k _ 60 e = _ ∧ upS (upS μ 60 k _) 61 k _ 61 e = _
        exact ⟨by rw [ups_cell (by decide), ups_ne (Or.inr he)], by rw [ups_ne (Or.inr he), ups_cell (by decide)]⟩
      have xs : ∀ c, upS (upS (ξ c) 60 k (cdB 16 (sN N k 0) (c + 1) : Int)) 61 k (cdB 16 (sN N k 1) (c + 1) : Int) = ξ (c + 1) := fun c => by
        rw [hξ]
        show upS (upS (upS (upS μ 60 k _) 61 k _) 60 k _) 61 k _ = upS (upS μ 60 k _) 61 k _
        rw [ups_comm (show 61 ≠ 60 by decide), ups_ups, ups_ups]
      have x0 : ξ 0 = upS (upS μ 60 k 0) 61 k 0 := by rw [hξ]; rfl
      clear hξ
      obtain ⟨ν, n1, n2, n3⟩ := ih (k + 1) (ξ 8) (by omega) (x1 8) (by
        intro e he
        by_cases q : e = k
        · rw [q, x60, x61]; exact ⟨rfl, rfl⟩
        · rw [(xo 8 e q).1, (xo 8 e q).2]; exact h2 e (by omega))
      refine ⟨ν, ?_, n2, n3⟩
      intro X Xr Xt hC hx
      refine bX6_begin_33 hC ?_
      rw [h1 57 (by decide) (by decide), m572, if_pos (by omega), Int.toNat_natCast, ← x0]
      refine ⟨by omega, by omega, ?_⟩
      have key : ∀ c : Nat, c ≤ 8 → X 58 [rV 15 57, rV 17 7, iV (p : Int), iV (k : Int), iV (c : Int)] [] (ξ c) := by
        refine loop_up (P := fun c : Nat => X 58 [rV 15 57, rV 17 7, iV (p : Int), iV (k : Int), iV (c : Int)] [] (ξ c)) ?_ ?_
        · refine bX6_begin_58 hC ?_
          rw [if_neg (by decide), w32_s (by omega)]
          exact n1 X Xr Xt hC hx
        · intro c hc ihc
          refine bX6_begin_58 hC ?_
          have hl : ∀ s, s < 2 → cdB 16 (sN N k s) c < 2147483648 ∧ cdB 16 (sN N k s) (c + 1) < 2147483648 := by
            intro s hs
            have hg := gk_lt hW hk6 hs
            unfold gkN cdB at hg
            exact ⟨Nat.lt_of_le_of_lt (sumN_mono (by omega)) hg, Nat.lt_of_le_of_lt (sumN_mono (by omega)) hg⟩
          have st : ∀ s, s < 2 → iorI (cdB 16 (sN N k s) c : Int) (ishlI (sN N k s c : Int) (w32 (4 * (c : Int)))) = (cdB 16 (sN N k s) (c + 1) : Int) := by
            intro s hs
            have := or_step4 hc (sN_16 hW hk6 hs)
            rw [w32_n (hl s hs).1, w32_n (hl s hs).2] at this
            exact this
          have o0 := ctX8_onSide (d := 4) (k := k) (s := 0) (c := c) (by decide) hk6 (by decide) hc (hRμ (ξ c) (x1 c))
          have o1 := ctX8_onSide (d := 4) (k := k) (s := 1) (c := c) (by decide) hk6 (by decide) hc (hRμ (upS (ξ c) 60 k (cdB 16 (sN N k 0) (c + 1) : Int)) (fun b hb1 hb2 => by rw [ups_cell hb1]; exact x1 c b hb1 hb2))
          rw [if_pos (by omega), Int.toNat_natCast]
          refine ⟨by omega, _, o0, by omega, by omega, ?_⟩
          rw [x60, st 0 (by decide)]
          refine ⟨_, o1, by omega, ?_⟩
          rw [ups_cell (show 61 ≠ 60 by decide), x61, st 1 (by decide), xs, w32_s (by omega)]
          exact ihc
      exact key 0 (Nat.zero_le _)
  obtain ⟨ν, n1, n2, n3⟩ := GE (N 3) 0 μ0 (Nat.zero_add _) (fun _ _ _ => rfl) (fun e he => absurd he (Nat.not_lt_zero e))
  have fν : FQ σ ν := fun b hb => by rw [n2 b (by omega) (by omega)]; exact f0 b hb
  have hwν : wyT (ν 62) := by rw [fν 62 (by decide)]; exact hw
  have cr0 : CR N ν ((fun _ => 0), 0) := by
    refine ⟨by rw [n2 57 (by decide) (by decide)]; exact m570, fun i hi => absurd hi (Nat.not_lt_zero i), ?_⟩
    intro D hDD
    have hrl := rkD_lt hDD
    rw [n2 59 (by decide) (by decide), m59 _ (by omega), bit_z]
    rfl
  obtain ⟨σ1, e1, e2, e3⟩ := ctX6_meet (d := 4) (by decide) hD hwν cr0 (by show 0 < 24310; decide)
  refine ⟨σ1, ?_, e2, CK_fm ⟨by rw [n2 57 (by decide) (by decide)]; exact m572, n3, hwν⟩ e3, by rw [e3.2 1 (by decide), n2 57 (by decide) (by decide)]; exact m571, fν.trans (FQ.fm e3)⟩
  refine (eX6_begin (d := 4) ?_).mono hd
  intro X Xr Xt hC hr
  refine bX6_begin_0 hC ?_
  have e73 : ((upS (upS (flS σ 59 380 0) 57 0 0) 57 1 0) 7 3) = (N 3 : Int) := by rw [ups_cell (by decide), ups_cell (by decide), flS_cell (by decide)]; exact hR.1 3 (by decide)
  refine ⟨_, ctJ7_fillJ (n := 380) (by decide) rfl (by decide), ?_⟩
  rw [e73, show min (N 3 : Int) 6 = (N 3 : Int) by omega, ← hμ0]
  refine n1 X Xr Xt hC ?_
  have hRν : RowT ν 7 N := RowT_fr hR (fun i hi => fν _ (by omega))
  have key : ∀ c : Nat, c ≤ 8 → X 126 [rV 15 57, rV 17 7, iV (p : Int), iV (w32 (cdB 16 (hN N p) c : Int)), iV (c : Int)] [] ν := by
    refine loop_up (P := fun c : Nat => X 126 [rV 15 57, rV 17 7, iV (p : Int), iV (w32 (cdB 16 (hN N p) c : Int)), iV (c : Int)] [] ν) ?_ ?_
    · refine bX6_begin_126 hC ?_
      rw [if_neg (by decide), ← hpk]
      exact ⟨_, e1, hr⟩
    · intro c hc ihc
      refine bX6_begin_126 hC ?_
      rw [if_pos (by omega)]
      refine ⟨_, ctX8_held (by decide) hp5 hc hRν, ?_⟩
      rw [or_step4 hc (hN_16 hW hp5), w32_s (by omega)]
      exact ihc
  have := key 0 (Nat.zero_le _)
  have e0 : w32 (cdB 16 (hN N p) 0 : Int) = 0 := by show w32 ((0 : Nat) : Int) = 0; rw [w32_n (by decide)]; rfl
  rw [e0] at this
  exact this
set_option maxRecDepth 20000 in
theorem ctX6_step {d f : Nat} {N : Tn} {S : Qs} {σ : Sg} (hd : 5 ≤ d) (hW : WFN N) (hV : VS N S) (hC0 : CR N σ S) (hK : CK N σ) (hf : σ 57 1 = (f : Int)) (hfS : f ≤ S.2) (hn : S.2 ≤ 3000) : ∃ σ1, Ct d MX6_step [rV 15 57] σ (.inl []) σ1 ∧ CR N σ1 (stI N (S.2 - f) f S) ∧ CK N σ1 ∧ σ1 57 1 = (S.2 : Int) ∧ FQ σ σ1 := by
  have h6 := hW.1.2.2.1
  obtain ⟨to, hto⟩ : ∃ to, to = S.2 := ⟨_, rfl⟩
  have inner : ∀ i D, okD N D → i < 24310 → ∀ r k (μ : Sg) (T : Qs), k + r = N 3 → CR N μ T → CK N μ → i < T.2 → T.1 i = D → T.2 + r ≤ 24000 → ∃ ν, (∀ (X : Nat → List Vv → List Vv → Sg → Prop) (Xr : List Vv → Sg → Prop) (Xt : Nat → Sg → Prop), Clo (Ct 4) 6 cX6_step none X Xr Xt → X 10 [rV 15 57, iV (to : Int), iV ((i + 1 : Nat) : Int), uV] [] ν → X 24 [rV 15 57, iV (to : Int), iV (i : Int), iV (k : Int)] [] μ) ∧ CR N ν (stK N D r k T) ∧ FM μ ν := by
    intro i D hD hi r
    induction r with
    | zero =>
      intro k μ T hk hc hck _ _ _
      have hk : k = N 3 := hk
      refine ⟨μ, ?_, hc, FM.refl μ⟩
      intro X Xr Xt hC hx
      refine bX6_step_24 hC ?_
      rw [hck.1, if_neg (by omega), w32_s (by omega)]
      exact hx
    | succ r ih =>
      intro k μ T hk hc hck hiT hTi hbd
      obtain ⟨ν0, t1, t2, t3⟩ := ctX6_try (d := 4) (k := k) (by decide) hW (by omega) hD hck.2.2 hc (by omega)
      have hgr : T.2 ≤ (cvS N k D T).2 ∧ (cvS N k D T).2 ≤ T.2 + 1 ∧ ∀ i, i < T.2 → (cvS N k D T).1 i = T.1 i := by
        unfold cvS
        split
        · exact mtS_gr _ _
        · exact (gr.refl T).mono (by decide)
      obtain ⟨ν, n1, n2, n3⟩ := ih (k + 1) ν0 (cvS N k D T) (by omega) t2 (CK_fm hck t3) (by omega) (by rw [hgr.2.2 i hiT]; exact hTi) (by omega)
      refine ⟨ν, ?_, n2, t3.trans n3⟩
      intro X Xr Xt hC hx
      refine bX6_step_24 hC ?_
      have q58 := hc.2.1 i hiT
      rw [hTi] at q58
      obtain ⟨q60, q61⟩ := hck.2.1 k (by omega)
      rw [hck.1, if_pos (by omega), if_pos (by omega), Int.toNat_natCast, Int.toNat_natCast, q58, q60, q61, w32_s (by omega)]
      exact ⟨by omega, by omega, by omega, _, t1, n1 X Xr Xt hC hx⟩
  have outer : ∀ r i (μ : Sg) (T : Qs), i + r = to → CR N μ T → CK N μ → VS N T → to ≤ T.2 → T.2 + 6 * r ≤ 24000 → ∃ ν, (∀ (X : Nat → List Vv → List Vv → Sg → Prop) (Xr : List Vv → Sg → Prop) (Xt : Nat → Sg → Prop), Clo (Ct 4) 6 cX6_step none X Xr Xt → Xr [] (upS ν 57 1 (to : Int)) → X 10 [rV 15 57, iV (to : Int), iV (i : Int), uV] [] μ) ∧ CR N ν (stI N r i T) ∧ FM μ ν := by
    intro r
    induction r with
    | zero =>
      intro i μ T hi hc _ _ _ _
      have hi : i = to := hi
      refine ⟨μ, ?_, hc, FM.refl μ⟩
      intro X Xr Xt hC hx
      refine bX6_step_10 hC ?_
      rw [if_neg (by omega)]
      exact hx
    | succ r ih =>
      intro i μ T hi hc hck hv hT hbd
      have hDi := hv i (by omega)
      obtain ⟨v1, v2⟩ := stK_ok hW hDi (N 3) 0 T (by omega) hv
      obtain ⟨ν0, t1, t2, t3⟩ := inner i (T.1 i) hDi (by omega) (N 3) 0 μ T (Nat.zero_add _) hc hck (by omega) rfl (by omega)
      have g1 := v2.1
      have g2 := v2.2.1
      obtain ⟨ν, n1, n2, n3⟩ := ih (i + 1) ν0 _ (by omega) t2 (CK_fm hck t3) v1 (by omega) (by omega)
      refine ⟨ν, ?_, n2, t3.trans n3⟩
      intro X Xr Xt hC hx
      refine bX6_step_10 hC ?_
      rw [if_pos (by omega), if_pos (by omega)]
      exact t1 X Xr Xt hC (n1 X Xr Xt hC hx)
  obtain ⟨ν, n1, n2, n3⟩ := outer (S.2 - f) f σ S (by omega) hC0 hK hV (by omega) (by omega)
  have hckν := CK_fm hK n3
  refine ⟨upS ν 57 1 (to : Int), ?_, ⟨?_, ?_, ?_⟩, ⟨?_, ?_, ?_⟩, by rw [ups_eq, hto], (FQ.fm n3).up (by decide)⟩
  · refine (eX6_step (d := 4) ?_).mono hd
    intro X Xr Xt hC hr
    refine bX6_step_0 hC ?_
    rw [hC0.1, hf, ← hto]
    exact n1 X Xr Xt hC hr
  · rw [ups_ne (Or.inr (by decide))]; exact n2.1
  · rw [ups_cell (by decide)]; exact n2.2.1
  · rw [ups_cell (by decide)]; exact n2.2.2
  · rw [ups_ne (Or.inr (by decide))]; exact hckν.1
  · rw [ups_cell (by decide), ups_cell (by decide)]; exact hckν.2.1
  · rw [ups_cell (by decide)]; exact hckν.2.2
