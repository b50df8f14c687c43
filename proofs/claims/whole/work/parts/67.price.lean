/-! PRICES taken apart; may, together -/
def stS (σ : Sg) (a n : Nat) (f : Nat → Int) : Sg := fun b j => if b = a ∧ j < n then f j else σ b j
theorem stS_in {σ : Sg} {a n j : Nat} {f : Nat → Int} (h : j < n) : stS σ a n f a j = f j := if_pos ⟨rfl, h⟩
theorem stS_cell {σ : Sg} {a n b : Nat} {f : Nat → Int} (h : b ≠ a) : stS σ a n f b = σ b := by funext j; exact if_neg (fun q => h q.1)
theorem stS_ups {σ : Sg} {a n k : Nat} {f : Nat → Int} {v : Int} (h : k < n) : upS (stS σ a n f) a k v = stS σ a n (fun j => if j = k then v else f j) := by
  funext b j
  unfold upS stS
  by_cases h1 : b = a ∧ j = k
  · rw [if_pos h1, if_pos ⟨h1.1, by omega⟩]
    show v = if j = k then v else f j
    rw [if_pos h1.2]
  · rw [if_neg h1]
    by_cases h2 : b = a ∧ j < n
    · rw [if_pos h2, if_pos h2]
      show f j = if j = k then v else f j
      rw [if_neg (fun q => h1 ⟨h2.1, q⟩)]
    · rw [if_neg h2, if_neg h2]
theorem flS_st (σ : Sg) (a n : Nat) (v : Int) : flS σ a n v = stS σ a n (fun _ => v) := rfl
theorem stS_fr {σ τ : Sg} {a n : Nat} {f : Nat → Int} (h : Fr σ τ) (ha : a ∈ scr) (h6 : a ≠ 66) : Fr σ (stS τ a n f) := ⟨fun b hb => by rw [stS_cell (fun e => hb (by rw [e]; exact ha))]; exact h.1 b hb, by rw [stS_cell (Ne.symm h6)]; exact h.2.1, by rw [stS_cell (Ne.symm h6)]; exact h.2.2.1, by rw [stS_cell (Ne.symm h6)]; exact h.2.2.2⟩
def cntD (k : Nat) : Nat → Nat → Nat
  | 0, _ => 0
  | f + 1, n => if n % k = 0 then cntD k f (n / k) + 1 else 0
theorem cntD_s {k f n : Nat} (h : n % k = 0) : cntD k (f + 1) n = cntD k f (n / k) + 1 := if_pos h
theorem cntD_n {k f n : Nat} (h : ¬ n % k = 0) : cntD k (f + 1) n = 0 := if_neg h
theorem cntD_le (k : Nat) : ∀ f n, cntD k f n ≤ f := by
  intro f
  induction f with
  | zero => intro n; exact Nat.le_refl 0
  | succ f ih =>
    intro n
    by_cases h : n % k = 0
    · rw [cntD_s h]; have := ih (n / k); omega
    · rw [cntD_n h]; exact Nat.zero_le _
def lfP (N : Tn) (n : Nat) : Nat → Nat
  | 0 => n
  | c + 1 => strp (N (4 + c)) 64 (lfP N n c)
theorem lfP_s (N : Tn) (n c : Nat) : lfP N n (c + 1) = strp (N (4 + c)) 64 (lfP N n c) := rfl
theorem lfP_le (N : Tn) (n : Nat) : ∀ c, lfP N n c ≤ n := by
  intro c
  induction c with
  | zero => exact Nat.le_refl _
  | succ c ih => rw [lfP_s]; exact Nat.le_trans strp_le ih
theorem lfP_pos (N : Tn) {n : Nat} (h : 0 < n) : ∀ c, 0 < lfP N n c := by
  intro c
  induction c with
  | zero => exact h
  | succ c ih => rw [lfP_s]; exact strp_pos ih
def aN (N : Tn) (n c : Nat) : Nat := if c < N 1 then cntD (N (4 + c)) 64 (lfP N n c) else 0
theorem aN_le (N : Tn) (n c : Nat) : aN N n c ≤ 64 := by
  unfold aN
  split
  · exact cntD_le _ _ _
  · exact Nat.zero_le _
def PQ (N : Tn) (x : Int) : Bool := decide (1 ≤ x) && decide (lfP N x.toNat (N 1) = 1)
/-- the counts of the coins ahead of c, and of c so far -/
def cpF (N : Tn) (n c i : Nat) : Nat → Int := fun j => if j < c then (aN N n j : Int) else if j = c then (i : Int) else 0
theorem cpF_up (N : Tn) (n c i : Nat) : (fun j => if j = c then ((i + 1 : Nat) : Int) else cpF N n c i j) = cpF N n c (i + 1) := by
  funext j
  unfold cpF
  by_cases h : j = c
  · rw [if_pos h, if_neg (by omega), if_pos h]
  · rw [if_neg h]
    by_cases g : j < c
    · rw [if_pos g, if_pos g]
    · rw [if_neg g, if_neg g, if_neg h, if_neg h]
theorem cpF_next {N : Tn} {n c : Nat} (hc : c < N 1) : cpF N n c (cntD (N (4 + c)) 64 (lfP N n c)) = cpF N n (c + 1) 0 := by
  funext j
  unfold cpF
  by_cases h : j = c
  · rw [if_neg (by omega), if_pos h, if_pos (by omega), h]
    unfold aN
    rw [if_pos hc]
  · by_cases g : j < c
    · rw [if_pos g, if_pos (by omega)]
    · rw [if_neg g, if_neg h, if_neg (by omega)]
      by_cases e : j = c + 1
      · rw [if_pos e]; rfl
      · rw [if_neg e]
theorem cpF_0 (N : Tn) (n : Nat) : cpF N n 0 0 = fun _ => 0 := by
  funext j
  unfold cpF
  rw [if_neg (by omega)]
  by_cases e : j = 0
  · rw [if_pos e]; rfl
  · rw [if_neg e]
theorem cpF_end {N : Tn} {n j : Nat} : cpF N n (N 1) 0 j = (aN N n j : Int) := by
  unfold cpF
  by_cases h : j < N 1
  · rw [if_pos h]
  · have e : aN N n j = 0 := by unfold aN; rw [if_neg h]
    rw [if_neg h, e]
    by_cases q : j = N 1
    · rw [if_pos q]
    · rw [if_neg q]; rfl
theorem ctX8_takeApart {d t : Nat} {N : Tn} (hd : 2 ≤ d) (hW : WFN N) {x : Int} (hx : in64 x) {σ : Sg} (hR : RowT σ t N) (ht : t < 46) : ∃ σ1, Ct d MX8_takeApart [rV 17 t, lV x, rV 1000008 53] σ (.inl [iV (b01 (PQ N x))]) σ1 ∧ (∀ b, b ≠ 53 → σ1 b = σ b) ∧ (1 ≤ x → ∀ j, j < 8 → σ1 53 j = (aN N x.toNat j : Int)) := by
  have h8 := hW.1.1
  by_cases h : x < 1
  · refine ⟨flS σ 53 8 0, ?_, fun b hb => flS_cell hb, fun q => absurd h (by omega)⟩
    refine (eX8_takeApart (d := 1) ?_).mono hd
    intro X Xr Xt hC hr
    refine bX8_takeApart_0 hC ?_
    refine ⟨_, ctJ7_fillI (n := 8) (by decide) rfl (by decide), ?_⟩
    have e : PQ N x = false := by unfold PQ; rw [decide_eq_false (show ¬ 1 ≤ x by omega)]; rfl
    rw [e] at hr
    rw [if_pos h]
    exact hr
  · obtain ⟨n, hn⟩ := z_nat (show 0 ≤ x by omega)
    subst hn
    rw [Int.toNat_natCast]
    have hn1 : 0 < n := by omega
    have hx2 : n < 9223372036854775808 := by have := hx.2; omega
    refine ⟨stS σ 53 8 (cpF N n (N 1) 0), ?_, fun b hb => stS_cell hb, fun _ j hj => by rw [stS_in hj, cpF_end]⟩
    refine (eX8_takeApart (d := 1) ?_).mono hd
    intro X Xr Xt hC hr
    refine bX8_takeApart_0 hC ?_
    refine ⟨_, ctJ7_fillI (n := 8) (by decide) rfl (by decide), ?_⟩
    rw [if_neg h, flS_st, ← cpF_0 N n]
    have hRs : ∀ F, RowT (stS σ 53 8 F) t N := fun F => RowT_fr hR (fun i hi => stS_cell (by omega))
    have key : ∀ c, c ≤ N 1 → X 19 [rV 17 t, lV (n : Int), uV, rV 1000008 53, lV (lfP N n c : Int), uV, iV (c : Int), uV, uV] [] (stS σ 53 8 (cpF N n c 0)) := by
      refine loop_up (P := fun c => X 19 [rV 17 t, lV (n : Int), uV, rV 1000008 53, lV (lfP N n c : Int), uV, iV (c : Int), uV, uV] [] (stS σ 53 8 (cpF N n c 0))) ?_ ?_
      · refine bX8_takeApart_19 hC ?_
        rw [(hRs _).1 1 (by omega), if_neg (by omega)]
        have e : PQ N (n : Int) = decide (lfP N n (N 1) = 1) := by unfold PQ; rw [decide_eq_true (show 1 ≤ (n : Int) by omega), Int.toNat_natCast]; rfl
        rw [e] at hr
        by_cases q : lfP N n (N 1) = 1
        · rw [decide_eq_true q] at hr
          rw [if_pos (by omega)]
          exact hr
        · rw [decide_eq_false q] at hr
          rw [if_neg (by omega)]
          exact hr
      · intro c hc ih
        refine bX8_takeApart_19 hC ?_
        rw [(hRs _).1 1 (by omega), if_pos (by omega), if_pos (by omega)]
        refine ⟨by omega, ?_⟩
        have hq := hW.2.1 c hc
        rw [Int.toNat_natCast, (hRs _).2.2.1 c (by omega), show max (N (4 + c) : Int) 2 = (N (4 + c) : Int) by omega]
        have inn : ∀ g i m : Nat, i + g = 64 → m ≤ n → strp (N (4 + c)) g m = lfP N n (c + 1) → i + cntD (N (4 + c)) g m = cntD (N (4 + c)) 64 (lfP N n c) → X 51 [rV 17 t, lV (n : Int), uV, rV 1000008 53, lV (m : Int), uV, iV (c : Int), iV (N (4 + c) : Int), iV (i : Int)] [] (stS σ 53 8 (cpF N n c i)) := by
          intro g
          induction g with
          | zero =>
            intro i m hi hm h1 h2
            refine bX8_takeApart_51 hC ?_
            have hi : i = 64 := hi
            have h2 : i = cntD (N (4 + c)) 64 (lfP N n c) := h2
            have h1 : m = lfP N n (c + 1) := h1
            rw [if_neg (by omega), w32_s (by omega), h2, cpF_next hc, h1]
            exact ih
          | succ g ihg =>
            intro i m hi hm h1 h2
            refine bX8_takeApart_51 hC ?_
            rw [if_pos (by omega)]
            refine ⟨by omega, ?_⟩
            rw [tmod_nat, tdiv_nat]
            by_cases z : m % N (4 + c) = 0
            · rw [strp_s z] at h1
              rw [cntD_s z] at h2
              rw [if_pos (by rw [z]; rfl)]
              refine ⟨by omega, by omega, by omega, ?_⟩
              have hdl := Nat.div_le_self m (N (4 + c))
              rw [Int.toNat_natCast, w64_n (show m / N (4 + c) < 9223372036854775808 by omega), w32_s (show i < 2147483647 by omega), stS_ups (by omega), stS_in (by omega)]
              have e0 : cpF N n c i c = (i : Int) := by unfold cpF; rw [if_neg (by omega), if_pos rfl]
              rw [e0, w32_s (by omega), cpF_up]
              exact ihg (i + 1) _ (by omega) (by omega) h1 (by omega)
            · rw [strp_n z] at h1
              rw [cntD_n z, Nat.add_zero] at h2
              rw [if_neg (by generalize m % N (4 + c) = zz at z; omega), w32_s (by omega), h2, cpF_next hc, h1]
              exact ih
        exact inn 64 0 (lfP N n c) rfl (lfP_le N n c) rfl (Nat.zero_add _)
    exact key 0 (Nat.zero_le _)
theorem ctX11_laysPrice {d : Nat} {N : Tn} (hd : 2 ≤ d) (hW : WFN N) {x : Int} (hx : in64 x) {σ : Sg} (hM : RowM σ 67 0 N) : ∃ σ1, Ct d MX11_laysPrice [rV 20 66, lV x] σ (.inl [iV (b01 (PQ N x))]) σ1 ∧ (∀ b, b ≠ 73 → σ1 b = σ b) ∧ (1 ≤ x → ∀ j, j < 8 → σ1 73 j = (aN N x.toNat j : Int)) := by
  have h8 := hW.1.1
  by_cases h : x < 1
  · refine ⟨σ, ?_, fun b hb => rfl, fun q => absurd h (by omega)⟩
    refine (eX11_laysPrice (d := 1) ?_).mono hd
    intro X Xr Xt hC hr
    refine bX11_laysPrice_0 hC ?_
    have e : PQ N x = false := by unfold PQ; rw [decide_eq_false (show ¬ 1 ≤ x by omega)]; rfl
    rw [e] at hr
    rw [if_pos h]
    exact hr
  · obtain ⟨n, hn⟩ := z_nat (show 0 ≤ x by omega)
    subst hn
    rw [Int.toNat_natCast]
    have hn1 : 0 < n := by omega
    have hx2 : n < 9223372036854775808 := by have := hx.2; omega
    refine ⟨stS σ 73 8 (cpF N n (N 1) 0), ?_, fun b hb => stS_cell hb, fun _ j hj => by rw [stS_in hj, cpF_end]⟩
    refine (eX11_laysPrice (d := 1) ?_).mono hd
    intro X Xr Xt hC hr
    refine bX11_laysPrice_0 hC ?_
    rw [if_neg h]
    have hMs : ∀ F, RowM (stS σ 73 8 F) 67 0 N := fun F => RowM_cell hM (stS_cell (by decide))
    have key : ∀ c, c ≤ N 1 → X 37 [rV 20 66, lV (n : Int), uV, lV (lfP N n c : Int), uV, iV (c : Int)] [] (stS σ 73 8 (cpF N n c 0)) := by
      refine loop_up (P := fun c => X 37 [rV 20 66, lV (n : Int), uV, lV (lfP N n c : Int), uV, iV (c : Int)] [] (stS σ 73 8 (cpF N n c 0))) ?_ ?_
      · refine bX11_laysPrice_37 hC ?_
        refine ⟨_, ctX11_coins (by decide) (hMs _), ?_⟩
        rw [if_neg (by omega)]
        have e : PQ N (n : Int) = decide (lfP N n (N 1) = 1) := by unfold PQ; rw [decide_eq_true (show 1 ≤ (n : Int) by omega), Int.toNat_natCast]; rfl
        rw [e] at hr
        by_cases q : lfP N n (N 1) = 1
        · rw [decide_eq_true q] at hr
          rw [if_pos (by omega)]
          exact hr
        · rw [decide_eq_false q] at hr
          rw [if_neg (by omega)]
          exact hr
      · intro c hc ih
        refine bX11_laysPrice_37 hC ?_
        refine ⟨_, ctX11_coins (by decide) (hMs _), ?_⟩
        rw [if_pos (by omega)]
        have hq := hW.2.1 c hc
        have inn : ∀ g i m : Nat, i + g = 64 → 0 < m → m ≤ n → m < 2 ^ g → strp (N (4 + c)) g m = lfP N n (c + 1) → i + cntD (N (4 + c)) g m = cntD (N (4 + c)) 64 (lfP N n c) → X 46 [rV 20 66, lV (n : Int), uV, lV (m : Int), uV, iV (c : Int)] [] (stS σ 73 8 (cpF N n c i)) := by
          intro g
          induction g with
          | zero => intro i m _ h0 _ hf; exact absurd hf (by show ¬ m < 1; omega)
          | succ g ihg =>
            intro i m hi h0 hm hf h1 h2
            refine bX11_laysPrice_46 hC ?_
            refine ⟨_, ctX11_prime (by decide) (by omega) (hMs _), by omega, ?_⟩
            rw [tmod_nat]
            by_cases z : m % N (4 + c) = 0
            · rw [strp_s z] at h1
              rw [cntD_s z] at h2
              rw [if_pos (by rw [z]; rfl)]
              have e0 : cpF N n c i c = (i : Int) := by unfold cpF; rw [if_neg (by omega), if_pos rfl]
              have hdl := Nat.div_le_self m (N (4 + c))
              have hdv := Nat.dvd_of_mod_eq_zero z
              have d3 : 1 ≤ m / N (4 + c) := by rw [Nat.le_div_iff_mul_le (by omega), Nat.one_mul]; exact Nat.le_of_dvd h0 hdv
              have d4 : m / N (4 + c) ≤ m / 2 := Nat.div_le_div_left hq.2.1 (by decide)
              refine ⟨by omega, by omega, ?_⟩
              rw [Int.toNat_natCast, stS_ups (by omega), stS_in (by omega), e0, w32_s (by omega), cpF_up]
              refine ⟨_, ctX11_prime (by decide) (by omega) (hMs _), by omega, ?_⟩
              rw [tdiv_nat, w64_n (show m / N (4 + c) < 9223372036854775808 by omega)]
              exact ihg (i + 1) _ (by omega) d3 (by omega) (by rw [Nat.pow_succ] at hf; generalize m / N (4 + c) = zz at d4; omega) h1 (by omega)
            · rw [strp_n z] at h1
              rw [cntD_n z, Nat.add_zero] at h2
              rw [if_neg (by generalize m % N (4 + c) = zz at z; omega), w32_s (by omega), h2, cpF_next hc, h1]
              exact ih
        exact inn 64 0 (lfP N n c) rfl (lfP_pos N hn1 c) (lfP_le N n c) (Nat.lt_of_le_of_lt (lfP_le N n c) (by omega)) rfl (Nat.zero_add _)
    have key0 : ∀ k : Nat, k ≤ 8 → X 13 [rV 20 66, lV (n : Int), uV, lV (n : Int), uV, iV (k : Int)] [] (flS σ 73 k 0) := by
      refine loop_up (P := fun k : Nat => X 13 [rV 20 66, lV (n : Int), uV, lV (n : Int), uV, iV (k : Int)] [] (flS σ 73 k 0)) ?_ ?_
      · refine bX11_laysPrice_13 hC ?_
        rw [if_neg (by decide), flS_st, ← cpF_0 N n]
        exact key 0 (Nat.zero_le _)
      · intro k hk ih
        refine bX11_laysPrice_13 hC ?_
        rw [if_pos (by omega)]
        refine ⟨by omega, ?_⟩
        rw [Int.toNat_natCast, flS_s, w32_s (by omega)]
        exact ih
    have := key0 0 (Nat.zero_le _)
    rw [flS_0] at this
    exact this
/-! have all -/
def hsN (N : Tn) (s c k : Nat) : Nat := sumN (fun p => bt s p * hN N p c) k
theorem hsN_s (N : Tn) (s c k : Nat) : hsN N s c (k + 1) = hsN N s c k + bt s k * hN N k c := rfl
def haB (N : Tn) (a : Nat → Nat) (s : Nat) : Bool := (List.range (N 1)).all (fun c => decide (a c ≤ hsN N s c (N 2)))
theorem haB_t {N : Tn} {a : Nat → Nat} {s : Nat} : haB N a s = true ↔ ∀ c, c < N 1 → a c ≤ hsN N s c (N 2) := by
  unfold haB
  rw [List.all_eq_true]
  constructor
  · intro h c hc; exact of_decide_eq_true (h c (List.mem_range.mpr hc))
  · intro h c hc; exact decide_eq_true (h c (List.mem_range.mp hc))
theorem haB_f {N : Tn} {a : Nat → Nat} {s c : Nat} (hc : c < N 1) (h : hsN N s c (N 2) < a c) : haB N a s = false := by
  cases e : haB N a s with
  | false => rfl
  | true => have := haB_t.mp e c hc; omega
theorem hsN_le {N : Tn} (hW : WFN N) (s : Nat) {c k : Nat} (hc : c < 8) (hk : k ≤ N 2) : hsN N s c k ≤ k * 9 := sumN_bound (fun i hi => by
  have h5 := hW.1.2.1
  have h1 := hN_le hW (show i < 5 by omega) hc
  show bt s i * hN N i c ≤ 9
  cases bt_01 s i with
  | inl h => rw [h, Nat.zero_mul]; exact Nat.zero_le _
  | inr h => rw [h, Nat.one_mul]; exact h1)
theorem ctX8_allHold {d s t : Nat} {N : Tn} {a : Nat → Nat} (hd : 3 ≤ d) (hW : WFN N) (hs : s < 2147483648) {σ : Sg} (hR : RowT σ t N) (ha : ∀ j, j < 8 → σ 53 j = (a j : Int)) (hz : ∀ j, N 1 ≤ j → a j = 0) : Ct d MX8_allHold [rV 17 t, iV (s : Int), rV 1000008 53] σ (.inl [iV (b01 (haB N a s))]) σ := by
  refine (eX8_allHold (d := 2) ?_).mono hd
  intro X Xr Xt hC hr
  refine bX8_allHold_0 hC ?_
  have h5 := hW.1.2.1
  have h8 := hW.1.1
  have key : ∀ c, c ≤ 8 → (∀ e, e < c → e < N 1 → a e ≤ hsN N s e (N 2)) → X 2 [rV 17 t, iV (s : Int), rV 1000008 53, iV (c : Int), uV, uV] [] σ := by
    refine loop_up (P := fun c => (∀ e, e < c → e < N 1 → a e ≤ hsN N s e (N 2)) → X 2 [rV 17 t, iV (s : Int), rV 1000008 53, iV (c : Int), uV, uV] [] σ) ?_ ?_
    · intro h1
      refine bX8_allHold_2 hC ?_
      rw [if_neg (by decide)]
      rw [haB_t.mpr (fun c hc => h1 c (by omega) hc)] at hr
      exact hr
    · intro c hc ih h1
      refine bX8_allHold_2 hC ?_
      rw [if_pos (by omega), if_pos (by omega)]
      have key2 : ∀ k, k ≤ N 2 → ∀ x : Nat, x = hsN N s c k → X 20 [rV 17 t, iV (s : Int), rV 1000008 53, iV (c : Int), iV (x : Int), iV (k : Int)] [] σ := by
        refine loop_up (P := fun k => ∀ x : Nat, x = hsN N s c k → X 20 [rV 17 t, iV (s : Int), rV 1000008 53, iV (c : Int), iV (x : Int), iV (k : Int)] [] σ) ?_ ?_
        · intro x hx
          refine bX8_allHold_20 hC ?_
          rw [hR.1 2 (by omega), if_neg (by omega)]
          refine ⟨by omega, ?_⟩
          rw [Int.toNat_natCast, ha c hc]
          by_cases q : x < a c
          · rw [if_pos (by omega)]
            have hcn : c < N 1 := by
              by_cases z : c < N 1
              · exact z
              · have := hz c (by omega); omega
            rw [haB_f hcn (by omega)] at hr
            exact hr
          · rw [if_neg (by omega), w32_s (by omega)]
            refine ih ?_
            intro e h2 h3
            by_cases q2 : e = c
            · rw [q2]; omega
            · exact h1 e (by omega) h3
        · intro k hk ihk x hx
          refine bX8_allHold_20 hC ?_
          rw [hR.1 2 (by omega), if_pos (by omega)]
          refine ⟨_, ctX8_held (by decide) (by omega) hc hR, ?_⟩
          have hb := hsN_le hW s (k := k + 1) hc (by omega)
          have e := hsN_s N s c k
          have hh := hN_le hW (show k < 5 by omega) hc
          have hm : bt s k * hN N k c ≤ 9 := by
            cases bt_01 s k with
            | inl h => rw [h, Nat.zero_mul]; exact Nat.zero_le _
            | inr h => rw [h, Nat.one_mul]; exact hh
          rw [bt_I hs (by omega), ← Int.natCast_mul, w32_n (show bt s k * hN N k c < 2147483648 by omega), ← Int.natCast_add, w32_n (by omega), w32_s (by omega)]
          exact ihk _ (by omega)
      exact key2 0 (Nat.zero_le _) 0 rfl
  exact key 0 (Nat.zero_le _) (fun e he => absurd he (Nat.not_lt_zero e))
theorem ctX11_haveAll {d s : Nat} {N : Tn} {a : Nat → Nat} (hd : 3 ≤ d) (hW : WFN N) (hs : s < 2147483648) {σ : Sg} (hM : RowM σ 67 0 N) (ha : ∀ j, j < 8 → σ 73 j = (a j : Int)) : Ct d MX11_haveAll [rV 20 66, iV (s : Int)] σ (.inl [iV (b01 (haB N a s))]) σ := by
  refine (eX11_haveAll (d := 2) ?_).mono hd
  intro X Xr Xt hC hr
  refine bX11_haveAll_0 hC ?_
  have h5 := hW.1.2.1
  have h8 := hW.1.1
  have key : ∀ c, c ≤ N 1 → (∀ e, e < c → a e ≤ hsN N s e (N 2)) → X 2 [rV 20 66, iV (s : Int), iV (c : Int), uV, uV] [] σ := by
    refine loop_up (P := fun c => (∀ e, e < c → a e ≤ hsN N s e (N 2)) → X 2 [rV 20 66, iV (s : Int), iV (c : Int), uV, uV] [] σ) ?_ ?_
    · intro h1
      refine bX11_haveAll_2 hC ?_
      refine ⟨_, ctX11_coins (by decide) hM, ?_⟩
      rw [if_neg (by omega)]
      rw [haB_t.mpr h1] at hr
      exact hr
    · intro c hc ih h1
      refine bX11_haveAll_2 hC ?_
      refine ⟨_, ctX11_coins (by decide) hM, ?_⟩
      rw [if_pos (by omega)]
      have key2 : ∀ k, k ≤ N 2 → ∀ x : Nat, x = hsN N s c k → X 15 [rV 20 66, iV (s : Int), iV (c : Int), iV (x : Int), iV (k : Int)] [] σ := by
        refine loop_up (P := fun k => ∀ x : Nat, x = hsN N s c k → X 15 [rV 20 66, iV (s : Int), iV (c : Int), iV (x : Int), iV (k : Int)] [] σ) ?_ ?_
        · intro x hx
          refine bX11_haveAll_15 hC ?_
          refine ⟨_, ctX11_people (by decide) hM, ?_⟩
          rw [if_neg (by omega)]
          refine ⟨by omega, ?_⟩
          rw [Int.toNat_natCast, ha c (by omega)]
          by_cases q : x < a c
          · rw [if_pos (by omega)]
            rw [haB_f hc (by omega)] at hr
            exact hr
          · rw [if_neg (by omega), w32_s (by omega)]
            refine ih ?_
            intro e h2
            by_cases q2 : e = c
            · rw [q2]; omega
            · exact h1 e (by omega)
        · intro k hk ihk x hx
          refine bX11_haveAll_15 hC ?_
          refine ⟨_, ctX11_people (by decide) hM, ?_⟩
          rw [if_pos (by omega), bt_I hs (by omega)]
          have hb := hsN_le hW s (k := k + 1) (show c < 8 by omega) (by omega)
          have e := hsN_s N s c k
          rw [w32_s (show k < 2147483647 by omega)]
          cases bt_01 s k with
          | inl h =>
            rw [h, Nat.zero_mul] at e
            rw [h, if_neg (by decide), show w32 ((x : Int) + 0) = (x : Int) by unfold w32; omega]
            exact ihk _ (by omega)
          | inr h =>
            rw [h, Nat.one_mul] at e
            rw [h, if_pos (by decide)]
            refine ⟨_, ctX11_of (by decide) (by omega) (by omega) hM, ?_⟩
            rw [← Int.natCast_add, w32_n (by omega)]
            exact ihk _ (by omega)
      exact key2 0 (Nat.zero_le _) 0 rfl
  exact key 0 (Nat.zero_le _) (fun e he => absurd he (Nat.not_lt_zero e))
theorem bt_one (p k : Nat) : bt (2 ^ p) k = if p = k then 1 else 0 := by
  have h := Nat.testBit_two_pow (n := p) (m := k)
  rw [Nat.testBit_eq_decide_div_mod_eq] at h
  have hb := bt_01 (2 ^ p) k
  unfold bt at hb ⊢
  by_cases e : p = k
  · rw [decide_eq_true e] at h
    rw [if_pos e]
    exact of_decide_eq_true h
  · rw [decide_eq_false e] at h
    rw [if_neg e]
    have := of_decide_eq_false h
    omega
theorem hsN_one (N : Tn) {p c : Nat} : ∀ k, hsN N (2 ^ p) c k = if p < k then hN N p c else 0 := by
  intro k
  induction k with
  | zero => rw [if_neg (Nat.not_lt_zero p)]; rfl
  | succ k ih =>
    rw [hsN_s, ih, bt_one]
    by_cases e : p = k
    · rw [if_pos e, if_neg (by omega), if_pos (by omega), e]; omega
    · rw [if_neg e]
      by_cases f : p < k
      · rw [if_pos f, if_pos (by omega)]; omega
      · rw [if_neg f, if_neg (by omega)]; omega
theorem ctX11_hasAll {d p : Nat} {N : Tn} {a : Nat → Nat} (hd : 3 ≤ d) (hW : WFN N) (hp : p < N 2) {σ : Sg} (hM : RowM σ 67 0 N) (ha : ∀ j, j < 8 → σ 73 j = (a j : Int)) : Ct d MX11_hasAll [rV 20 66, iV (p : Int)] σ (.inl [iV (b01 (haB N a (2 ^ p)))]) σ := by
  refine (eX11_hasAll (d := 2) ?_).mono hd
  intro X Xr Xt hC hr
  refine bX11_hasAll_0 hC ?_
  have h5 := hW.1.2.1
  have h8 := hW.1.1
  have he : ∀ c, hsN N (2 ^ p) c (N 2) = hN N p c := fun c => by rw [hsN_one, if_pos hp]
  have key : ∀ c, c ≤ N 1 → (∀ e, e < c → a e ≤ hN N p e) → X 2 [rV 20 66, iV (p : Int), iV (c : Int)] [] σ := by
    refine loop_up (P := fun c => (∀ e, e < c → a e ≤ hN N p e) → X 2 [rV 20 66, iV (p : Int), iV (c : Int)] [] σ) ?_ ?_
    · intro h1
      refine bX11_hasAll_2 hC ?_
      refine ⟨_, ctX11_coins (by decide) hM, ?_⟩
      rw [if_neg (by omega)]
      rw [haB_t.mpr (fun c hc => by rw [he]; exact h1 c hc)] at hr
      exact hr
    · intro c hc ih h1
      refine bX11_hasAll_2 hC ?_
      refine ⟨_, ctX11_coins (by decide) hM, ?_⟩
      rw [if_pos (by omega)]
      refine ⟨_, ctX11_of (by decide) (by omega) (by omega) hM, by omega, ?_⟩
      rw [Int.toNat_natCast, ha c (by omega)]
      by_cases q : hN N p c < a c
      · rw [if_pos (by omega)]
        rw [haB_f hc (by rw [he]; exact q)] at hr
        exact hr
      · rw [if_neg (by omega), w32_s (by omega)]
        refine ih ?_
        intro e h2
        by_cases q2 : e = c
        · rw [q2]; omega
        · exact h1 e (by omega)
  exact key 0 (Nat.zero_le _) (fun e he => absurd he (Nat.not_lt_zero e))
theorem ctX11_askedMany {d : Nat} {a : Nat → Nat} (hd : 1 ≤ d) {σ : Sg} (ha : ∀ j, j < 8 → σ 73 j = (a j : Int)) (hb : ∀ j, j < 8 → a j ≤ 64) : Ct d MX11_askedMany [rV 20 66] σ (.inl [iV (sumN a 8 : Int)]) σ := by
  refine (eX11_askedMany (d := 0) ?_).mono hd
  intro X Xr Xt hC hr
  refine bX11_askedMany_0 hC ?_
  have hbd : ∀ k, k ≤ 8 → sumN a k ≤ k * 64 := fun k hk => sumN_bound (fun i hi => hb i (by omega))
  have key : ∀ k, k ≤ 8 → X 4 [rV 20 66, iV (sumN a k : Int), iV (k : Int)] [] σ := by
    refine loop_up (P := fun k => X 4 [rV 20 66, iV (sumN a k : Int), iV (k : Int)] [] σ) ?_ ?_
    · refine bX11_askedMany_4 hC ?_
      rw [if_neg (by decide)]
      exact hr
    · intro k hk ih
      refine bX11_askedMany_4 hC ?_
      rw [if_pos (by omega)]
      refine ⟨by omega, ?_⟩
      have := hbd (k + 1) (by omega)
      rw [sumN_s] at this
      rw [Int.toNat_natCast, ha k hk, w32_s (by omega), ← Int.natCast_add, w32_n (by omega)]
      exact ih
  exact key 0 (Nat.zero_le _)
/-- why a price can't be paid -/
def pfN (N : Tn) (p q : Nat) (x : Int) : Nat := if PQ N x = false then 1 else if haB N (aN N x.toNat) (2 ^ p) = false then 2 else if 9 < mN N q + sumN (aN N x.toNat) 8 then 3 else 0
theorem PQ_1 {N : Tn} {x : Int} (h : PQ N x = true) : 1 ≤ x := by
  by_cases q : 1 ≤ x
  · exact q
  · unfold PQ at h
    rw [decide_eq_false q] at h
    exact Bool.noConfusion h
theorem ctX10_payFault {d p q : Nat} {N : Tn} (hd : 5 ≤ d) (hW : WFN N) (hp : p < N 2) (hq : q < N 2) {x : Int} (hx : in64 x) {σ : Sg} (hR : RowT σ 7 N) : ∃ σ1, Ct d MX10_payFault [rV 19 0, iV (p : Int), iV (q : Int), lV x] σ (.inl [iV (pfN N p q x : Int)]) σ1 ∧ (∀ b, b ≠ 53 → σ1 b = σ b) ∧ (1 ≤ x → ∀ j, j < 8 → σ1 53 j = (aN N x.toNat j : Int)) := by
  have h5 := hW.1.2.1
  have h8 := hW.1.1
  obtain ⟨σ1, hc, hf, ha⟩ := ctX8_takeApart (d := 4) (t := 7) (by decide) hW hx hR (by decide)
  refine ⟨σ1, ?_, hf, ha⟩
  have hR1 : RowT σ1 7 N := RowT_fr hR (fun i hi => hf _ (by omega))
  refine (eX10_payFault (d := 4) ?_).mono hd
  intro X Xr Xt hC hr
  refine bX10_payFault_0 hC ?_
  refine ⟨_, _, hc, ?_⟩
  unfold pfN at hr
  cases e1 : PQ N x with
  | false =>
    rw [e1, if_pos rfl] at hr
    rw [if_pos (by decide)]
    exact hr
  | true =>
    rw [e1, if_neg (by decide)] at hr
    rw [if_neg (by decide), ishl_1 (by omega)]
    have ha := ha (PQ_1 e1)
    have hp5 : 2 ^ p ≤ 2 ^ 5 := Nat.pow_le_pow_right (by decide) (by omega)
    refine ⟨_, ctX8_allHold (by decide) hW (by omega) hR1 ha (fun j hj => by unfold aN; rw [if_neg (by omega)]), ?_⟩
    cases e2 : haB N (aN N x.toNat) (2 ^ p) with
    | false =>
      rw [e2, if_pos rfl] at hr
      rw [if_pos (by decide)]
      exact hr
    | true =>
      rw [e2, if_neg (by decide)] at hr
      rw [if_neg (by decide)]
      have hbd : ∀ k, k ≤ 8 → sumN (aN N x.toNat) k ≤ k * 64 := fun k hk => sumN_bound (fun i hi => aN_le N _ i)
      have key : ∀ k, k ≤ 8 → X 42 [rV 19 0, iV (p : Int), iV (q : Int), lV x, uV, iV (sumN (aN N x.toNat) k : Int), iV (k : Int)] [] σ1 := by
        refine loop_up (P := fun k => X 42 [rV 19 0, iV (p : Int), iV (q : Int), lV x, uV, iV (sumN (aN N x.toNat) k : Int), iV (k : Int)] [] σ1) ?_ ?_
        · refine bX10_payFault_42 hC ?_
          rw [if_neg (by decide)]
          refine ⟨_, ctX8_many (by decide) hW (by omega) hR1, ?_⟩
          have := hbd 8 (by decide)
          have := mN_le hW (show q < 5 by omega)
          rw [← Int.natCast_add, w32_n (by omega)]
          by_cases z : 9 < mN N q + sumN (aN N x.toNat) 8
          · rw [if_pos z] at hr
            rw [if_pos (by omega)]
            exact hr
          · rw [if_neg z] at hr
            rw [if_neg (by omega)]
            exact hr
        · intro k hk ih
          refine bX10_payFault_42 hC ?_
          rw [if_pos (by omega)]
          refine ⟨by omega, ?_⟩
          have := hbd (k + 1) (by omega)
          rw [sumN_s] at this
          rw [Int.toNat_natCast, ha k hk, w32_s (by omega), ← Int.natCast_add, w32_n (by omega)]
          exact ih
      exact key 0 (Nat.zero_le _)
theorem ctX11_whyNot {d p q : Nat} {N : Tn} (hd : 5 ≤ d) (hW : WFN N) (hp : p < N 2) (hq : q < N 2) {x : Int} (hx : in64 x) {σ : Sg} (hM : RowM σ 67 0 N) : ∃ σ1, Ct d MX11_whyNot [rV 20 66, iV (p : Int), iV (q : Int), lV x] σ (.inl [iV (pfN N p q x : Int)]) σ1 ∧ (∀ b, b ≠ 73 → σ1 b = σ b) ∧ (1 ≤ x → ∀ j, j < 8 → σ1 73 j = (aN N x.toNat j : Int)) := by
  have h5 := hW.1.2.1
  have h8 := hW.1.1
  obtain ⟨σ1, hc, hf, ha⟩ := ctX11_laysPrice (d := 4) (by decide) hW hx hM
  refine ⟨σ1, ?_, hf, ha⟩
  have hM1 : RowM σ1 67 0 N := RowM_cell hM (hf _ (by decide))
  refine (eX11_whyNot (d := 4) ?_).mono hd
  intro X Xr Xt hC hr
  refine bX11_whyNot_0 hC ?_
  refine ⟨_, _, hc, ?_⟩
  unfold pfN at hr
  cases e1 : PQ N x with
  | false =>
    rw [e1, if_pos rfl] at hr
    rw [if_pos (by decide)]
    exact hr
  | true =>
    rw [e1, if_neg (by decide)] at hr
    rw [if_neg (by decide)]
    have ha := ha (PQ_1 e1)
    refine ⟨_, ctX11_hasAll (by decide) hW hp hM1 ha, ?_⟩
    cases e2 : haB N (aN N x.toNat) (2 ^ p) with
    | false =>
      rw [e2, if_pos rfl] at hr
      rw [if_pos (by decide)]
      exact hr
    | true =>
      rw [e2, if_neg (by decide)] at hr
      rw [if_neg (by decide)]
      have hbd : sumN (aN N x.toNat) 8 ≤ 8 * 64 := sumN_bound (fun i hi => aN_le N _ i)
      have := mN_le hW (show q < 5 by omega)
      refine ⟨_, ctX11_size (by decide) (by omega) hW hM1, _, ctX11_askedMany (by decide) ha (fun j _ => aN_le N _ j), ?_⟩
      rw [← Int.natCast_add, w32_n (by omega)]
      by_cases z : 9 < mN N q + sumN (aN N x.toNat) 8
      · rw [if_pos z] at hr
        rw [if_pos (by omega)]
        exact hr
      · rw [if_neg z] at hr
        rw [if_neg (by omega)]
        exact hr
