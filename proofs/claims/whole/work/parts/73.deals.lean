/-! PAIRS: perform, judge -/
theorem cps_in {σ : Sg} {a b n j : Nat} (h : j < n) : cpS σ a 0 b 0 n b j = σ a j := by
  unfold cpS
  rw [if_pos ⟨rfl, Nat.zero_le j, by omega⟩, Nat.sub_zero, Nat.zero_add]
theorem cps_out {σ : Sg} {a b c n j : Nat} (h : ¬ (c = b ∧ j < n)) : cpS σ a 0 b 0 n c j = σ c j := by
  unfold cpS
  rw [if_neg (by omega)]
theorem ctX8_become {d t s : Nat} {N : Tn} (hd : 2 ≤ d) (hts : t + 6 < s ∨ s + 6 < t) {σ : Sg} (hR : RowT σ s N) : Ct d MX8_become [rV 17 t, rV 17 s] σ (.inl []) (tnS σ t N) := by
  refine (eX8_become (d := 1) ?_).mono hd
  intro X Xr Xt hC hr
  refine bX8_become_0 hC ?_
  have u0 : ∀ (ρ : Sg) (k : Nat) (v : Int), upS ρ t k v s = ρ s := fun ρ k v => ups_cell (by omega)
  simp only [u0]
  rw [hR.1 0 (by decide), hR.1 1 (by decide), hR.1 2 (by decide), hR.1 3 (by decide)]
  obtain ⟨μ0, hμ0⟩ : ∃ μ, μ = upS (upS (upS (upS σ t 0 (N 0 : Int)) t 1 (N 1 : Int)) t 2 (N 2 : Int)) t 3 (N 3 : Int) := ⟨_, rfl⟩
  rw [← hμ0]
  obtain ⟨μ1, hμ1⟩ : ∃ μ, μ = cpS μ0 (s + 2) 0 (t + 2) 0 25 := ⟨_, rfl⟩
  obtain ⟨μ2, hμ2⟩ : ∃ μ, μ = cpS μ1 (s + 3) 0 (t + 3) 0 8 := ⟨_, rfl⟩
  obtain ⟨μ3, hμ3⟩ : ∃ μ, μ = cpS μ2 (s + 4) 0 (t + 4) 0 40 := ⟨_, rfl⟩
  obtain ⟨μ4, hμ4⟩ : ∃ μ, μ = cpS μ3 (s + 5) 0 (t + 5) 0 96 := ⟨_, rfl⟩
  obtain ⟨μ5, hμ5⟩ : ∃ μ, μ = cpS μ4 (s + 6) 0 (t + 6) 0 8 := ⟨_, rfl⟩
  have c0 : ∀ b, b ≠ t → μ0 b = σ b := fun b hb => by rw [hμ0, ups_cell hb, ups_cell hb, ups_cell hb, ups_cell hb]
  have c1 : ∀ b, b ≠ t + 2 → μ1 b = μ0 b := fun b hb => by rw [hμ1, cps_cell hb]
  have c2 : ∀ b, b ≠ t + 3 → μ2 b = μ1 b := fun b hb => by rw [hμ2, cps_cell hb]
  have c3 : ∀ b, b ≠ t + 4 → μ3 b = μ2 b := fun b hb => by rw [hμ3, cps_cell hb]
  have c4 : ∀ b, b ≠ t + 5 → μ4 b = μ3 b := fun b hb => by rw [hμ4, cps_cell hb]
  have c5 : ∀ b, b ≠ t + 6 → μ5 b = μ4 b := fun b hb => by rw [hμ5, cps_cell hb]
  have h0 : ∀ j, j < 4 → μ0 t j = (N j : Int) := by
    intro j hj
    rw [hμ0]
    unfold upS
    match j, hj with
    | 0, _ => rw [if_neg (by omega), if_neg (by omega), if_neg (by omega), if_pos (by omega)]
    | 1, _ => rw [if_neg (by omega), if_neg (by omega), if_pos (by omega)]
    | 2, _ => rw [if_neg (by omega), if_pos (by omega)]
    | 3, _ => rw [if_pos (by omega)]
  have h0n : ∀ b j, ¬ (b = t ∧ j < 4) → μ0 b j = σ b j := by
    intro b j hb
    rw [hμ0]
    unfold upS
    rw [if_neg (by omega), if_neg (by omega), if_neg (by omega), if_neg (by omega)]
  have hfin : μ5 = tnS σ t N := by
    refine tn_ext ⟨?_, ?_, ?_, ?_, ?_, ?_⟩ ?_
    · intro j hj; rw [c5 _ (by omega), c4 _ (by omega), c3 _ (by omega), c2 _ (by omega), c1 _ (by omega)]; exact h0 j hj
    · intro j hj; rw [c5 _ (by omega), c4 _ (by omega), c3 _ (by omega), c2 _ (by omega), hμ1, cps_in hj, c0 _ (by omega)]; exact hR.2.1 j hj
    · intro j hj; rw [c5 _ (by omega), c4 _ (by omega), c3 _ (by omega), hμ2, cps_in hj, c1 _ (by omega), c0 _ (by omega)]; exact hR.2.2.1 j hj
    · intro j hj; rw [c5 _ (by omega), c4 _ (by omega), hμ3, cps_in hj, c2 _ (by omega), c1 _ (by omega), c0 _ (by omega)]; exact hR.2.2.2.1 j hj
    · intro j hj; rw [c5 _ (by omega), hμ4, cps_in hj, c3 _ (by omega), c2 _ (by omega), c1 _ (by omega), c0 _ (by omega)]; exact hR.2.2.2.2.1 j hj
    · intro j hj; rw [hμ5, cps_in hj, c4 _ (by omega), c3 _ (by omega), c2 _ (by omega), c1 _ (by omega), c0 _ (by omega)]; exact hR.2.2.2.2.2 j hj
    · intro b j q0 q2 q3 q4 q5 q6
      rw [hμ5, cps_out q6, hμ4, cps_out q5, hμ3, cps_out q4, hμ2, cps_out q3, hμ1, cps_out q2]
      exact h0n b j q0
  have hto : Ct 1 MX1_takeOver [rV 11 (t + 1), rV 11 (s + 1)] μ0 (.inl []) μ1 := by
    refine (eX1_takeOver (d := 0) ?_).mono (by decide)
    intro X Xr Xt hC hr
    refine bX1_takeOver_0 hC ?_
    rw [show s + 1 + 1 = s + 2 from rfl, show t + 1 + 1 = t + 2 from rfl, ← hμ1]
    exact hr
  refine ⟨μ1, hto, ?_⟩
  rw [← hμ2, ← hμ3, ← hμ4, ← hμ5, hfin]
  exact hr
theorem ctX11_copies {d a b : Nat} {N : Tn} (hd : 1 ≤ d) (hab : a ≠ b) {σ : Sg} (hM : RowM σ a 0 N) : Ct d MX11_copies [rV 1000181 a, rV 1000181 b] σ (.inl []) (rwS σ b 0 N) := by
  refine (eX11_copies (d := 0) ?_).mono hd
  intro X Xr Xt hC hr
  refine bX11_copies_0 hC ?_
  have st_s : ∀ k : Nat, upS (stS σ b k (fun j => (N j : Int))) b k (N k : Int) = stS σ b (k + 1) (fun j => (N j : Int)) := by
    intro k
    funext c j
    unfold upS stS
    by_cases h1 : c = b ∧ j = k
    · rw [if_pos h1, if_pos ⟨h1.1, by omega⟩, h1.2]
    · rw [if_neg h1]
      by_cases h2 : c = b ∧ j < k
      · rw [if_pos h2, if_pos ⟨h2.1, by omega⟩]
      · rw [if_neg h2, if_neg (by omega)]
  have key : ∀ k : Nat, k ≤ 181 → X 2 [rV 1000181 a, rV 1000181 b, iV (k : Int)] [] (stS σ b k (fun j => (N j : Int))) := by
    refine loop_up (P := fun k : Nat => X 2 [rV 1000181 a, rV 1000181 b, iV (k : Int)] [] (stS σ b k (fun j => (N j : Int)))) ?_ ?_
    · refine bX11_copies_2 hC ?_
      rw [if_neg (by decide)]
      have e : stS σ b 181 (fun j => (N j : Int)) = rwS σ b 0 N := by
        funext c j
        unfold stS rwS
        by_cases h2 : c = b ∧ j < 181
        · rw [if_pos h2, if_pos (by omega), Nat.sub_zero]
        · rw [if_neg h2, if_neg (by omega)]
      rw [e]
      exact hr
    · intro k hk ih
      refine bX11_copies_2 hC ?_
      rw [if_pos (by omega), Int.toNat_natCast, stS_cell hab]
      have := hM k hk
      rw [Nat.zero_add] at this
      rw [this, st_s, w32_s (by omega)]
      exact ⟨by omega, by omega, ih⟩
  have := key 0 (Nat.zero_le _)
  have e0 : stS σ b 0 (fun j => (N j : Int)) = σ := by
    funext c j
    unfold stS
    rw [if_neg (by omega)]
  rw [e0] at this
  exact this
/-! a deal -/
def dcN (N : Tn) (v : Nat) : Int := nrN N ((v % 100 : Nat) : Int)
def dfV (N : Tn) (v : Int) : Nat := if v < 0 then 1 else if ¬ v.toNat / 1000 < N 2 then 1 else if ¬ v.toNat / 100 % 10 < N 2 then 1 else if v.toNat / 1000 = v.toNat / 100 % 10 then 1 else if dcN N v.toNat = -1 then 1 else if hN N (v.toNat / 1000) (dcN N v.toNat).toNat = 0 then 2 else if mN N (v.toNat / 100 % 10) = 9 then 3 else 0
theorem dfV_no {N : Tn} {v : Int} (h : v < 0) : dfV N v = 1 := if_pos h
theorem dfV_n (N : Tn) (n : Nat) : dfV N (n : Int) = if ¬ n / 1000 < N 2 then 1 else if ¬ n / 100 % 10 < N 2 then 1 else if n / 1000 = n / 100 % 10 then 1 else if dcN N n = -1 then 1 else if hN N (n / 1000) (dcN N n).toNat = 0 then 2 else if mN N (n / 100 % 10) = 9 then 3 else 0 := by
  unfold dfV
  rw [if_neg (by omega), Int.toNat_natCast]
theorem dcN_rng (N : Tn) (v : Nat) : dcN N v = -1 ∨ (0 ≤ dcN N v ∧ dcN N v < N 1) := by
  have := nrN_rng N ((v % 100 : Nat) : Int)
  unfold dcN
  omega
theorem ctX8_dealFault {d t : Nat} {N : Tn} (hd : 3 ≤ d) (hW : WFN N) {v : Int} (hv : in64 v) {σ : Sg} (hR : RowT σ t N) : Ct d MX8_dealFault [rV 17 t, lV v] σ (.inl [iV (dfV N v : Int)]) σ := by
  have h5 := hW.1.2.1
  have h8 := hW.1.1
  refine (eX8_dealFault (d := 2) ?_).mono hd
  intro X Xr Xt hC hr
  refine bX8_dealFault_0 hC ?_
  by_cases a : v < 0
  · rw [dfV_no a] at hr
    refine ⟨_, ctX8_numberOf (N := N) (by decide) h8 (hR.1 1 (by decide)) hR.2.2.1, ?_⟩
    rw [if_pos a]
    exact hr
  · obtain ⟨n, hn⟩ := z_nat (show 0 ≤ v by omega)
    subst hn
    have hn2 : n < 9223372036854775808 := by have := hv.2; omega
    rw [dfV_n] at hr
    have e100 : ((n : Int).tmod 100) = ((n % 100 : Nat) : Int) := tmod_nat n 100
    have e1 : w64 ((n : Int).tdiv 1000) = ((n / 1000 : Nat) : Int) := by
      have : (n : Int).tdiv 1000 = ((n / 1000 : Nat) : Int) := tdiv_nat n 1000
      rw [this, w64_n (show n / 1000 < 9223372036854775808 by omega)]
    have e2 : (w64 ((n : Int).tdiv 100)).tmod 10 = ((n / 100 % 10 : Nat) : Int) := by
      have h1 : (n : Int).tdiv 100 = ((n / 100 : Nat) : Int) := tdiv_nat n 100
      rw [h1, w64_n (show n / 100 < 9223372036854775808 by omega)]
      exact tmod_nat (n / 100) 10
    rw [e100, e1, e2, w32_n (show n % 100 < 2147483648 by omega)]
    clear e100 e1 e2
    have hrg := dcN_rng N n
    refine ⟨dcN N n, ctX8_numberOf (N := N) (by decide) h8 (hR.1 1 (by decide)) hR.2.2.1, ?_⟩
    rw [if_neg (by omega), hR.1 2 (by decide)]
    generalize hg : n / 1000 = g at hr ⊢
    generalize ht : n / 100 % 10 = u at hr ⊢
    by_cases b : g < N 2
    · rw [if_neg (fun q => q b)] at hr
      rw [if_pos (by omega)]
      by_cases c : u < N 2
      · rw [if_neg (fun q => q c)] at hr
        rw [if_pos (by omega)]
        by_cases e : g = u
        · rw [if_pos e] at hr
          rw [if_pos (by omega)]
          exact hr
        rw [if_neg e] at hr
        rw [if_neg (by omega)]
        by_cases f : dcN N n = -1
        · rw [if_pos f] at hr ⊢; exact hr
        rw [if_neg f] at hr ⊢
        obtain ⟨k, hk⟩ := z_nat (show 0 ≤ dcN N n by omega)
        rw [hk, Int.toNat_natCast] at hr
        rw [hk, w32_n (show g < 2147483648 by omega), w32_n (show u < 2147483648 by omega)]
        have hm9 := mN_le hW (show u < 5 by omega)
        refine ⟨_, ctX8_held (by decide) (by omega) (by omega) hR, ?_⟩
        by_cases z : hN N g k = 0
        · rw [if_pos z] at hr
          rw [if_pos (by omega)]
          exact hr
        rw [if_neg z] at hr
        rw [if_neg (by omega)]
        refine ⟨_, ctX8_many (by decide) hW (by omega) hR, ?_⟩
        by_cases y : mN N u = 9
        · rw [if_pos y] at hr
          rw [if_neg (by omega)]
          exact hr
        · rw [if_neg y] at hr
          rw [if_pos (by omega)]
          exact hr
      · rw [if_pos c] at hr
        rw [if_neg (by omega)]
        exact hr
    · rw [if_pos b] at hr
      rw [if_neg (by omega)]
      exact hr
theorem ctX11_dealWhy {d : Nat} {N : Tn} (hd : 3 ≤ d) (hW : WFN N) {v : Int} (hv : in64 v) {σ : Sg} (hM : RowM σ 67 0 N) : Ct d MX11_dealWhy [rV 20 66, lV v] σ (.inl [iV (dfV N v : Int)]) σ := by
  have h5 := hW.1.2.1
  have h8 := hW.1.1
  refine (eX11_dealWhy (d := 2) ?_).mono hd
  intro X Xr Xt hC hr
  refine bX11_dealWhy_0 hC ?_
  by_cases a : v < 0
  · rw [dfV_no a] at hr
    rw [if_pos a]
    exact hr
  · obtain ⟨n, hn⟩ := z_nat (show 0 ≤ v by omega)
    subst hn
    have hn2 : n < 9223372036854775808 := by have := hv.2; omega
    rw [dfV_n] at hr
    have e100 : ((n : Int).tmod 100) = ((n % 100 : Nat) : Int) := tmod_nat n 100
    have e1 : w64 ((n : Int).tdiv 1000) = ((n / 1000 : Nat) : Int) := by
      have : (n : Int).tdiv 1000 = ((n / 1000 : Nat) : Int) := tdiv_nat n 1000
      rw [this, w64_n (show n / 1000 < 9223372036854775808 by omega)]
    have e2 : (w64 ((n : Int).tdiv 100)).tmod 10 = ((n / 100 % 10 : Nat) : Int) := by
      have h1 : (n : Int).tdiv 100 = ((n / 100 : Nat) : Int) := tdiv_nat n 100
      rw [h1, w64_n (show n / 100 < 9223372036854775808 by omega)]
      exact tmod_nat (n / 100) 10
    rw [if_neg (show ¬ (n : Int) < 0 by omega), e100, e1, e2]
    clear e100 e1 e2
    have hrg := dcN_rng N n
    by_cases b : n / 1000 < N 2
    · rw [if_neg (fun q => q b)] at hr
      have hn5 : n < 5000 := by omega
      have e3 : w32 ((w32 (n : Int)).tdiv 1000) = ((n / 1000 : Nat) : Int) := by
        have : (n : Int).tdiv 1000 = ((n / 1000 : Nat) : Int) := tdiv_nat n 1000
        rw [w32_n (show n < 2147483648 by omega), this, w32_n (show n / 1000 < 2147483648 by omega)]
      have e4 : (w32 ((w32 (n : Int)).tdiv 100)).tmod 10 = ((n / 100 % 10 : Nat) : Int) := by
        have h1 : (n : Int).tdiv 100 = ((n / 100 : Nat) : Int) := tdiv_nat n 100
        rw [w32_n (show n < 2147483648 by omega), h1, w32_n (show n / 100 < 2147483648 by omega)]
        exact tmod_nat (n / 100) 10
      rw [e3, e4]
      clear e3 e4
      generalize hg : n / 1000 = g at hr b ⊢
      generalize ht : n / 100 % 10 = u at hr ⊢
      refine ⟨_, ctX11_isP (by decide) h5 hM ⟨by omega, by omega⟩, ?_⟩
      rw [if_neg (by decide)]
      by_cases c : u < N 2
      · rw [if_neg (fun q => q c)] at hr
        refine ⟨_, ctX11_isP (by decide) h5 hM ⟨by omega, by omega⟩, ?_⟩
        rw [if_neg (by decide)]
        by_cases e : g = u
        · rw [if_pos e] at hr
          rw [if_pos (by omega)]
          exact hr
        rw [if_neg e] at hr
        rw [if_neg (by omega)]
        refine ⟨dcN N n, ctX11_coinOf (by decide) h8 hM, ?_⟩
        by_cases f : dcN N n = -1
        · rw [if_pos f] at hr ⊢; exact hr
        rw [if_neg f] at hr ⊢
        obtain ⟨k, hk⟩ := z_nat (show 0 ≤ dcN N n by omega)
        rw [hk, Int.toNat_natCast] at hr
        rw [hk]
        have hm9 := mN_le hW (show u < 5 by omega)
        refine ⟨_, ctX11_of (by decide) (by omega) (by omega) hM, ?_⟩
        by_cases z : hN N g k = 0
        · rw [if_pos z] at hr
          rw [if_pos (by omega)]
          exact hr
        rw [if_neg z] at hr
        rw [if_neg (by omega)]
        refine ⟨_, ctX11_size (by decide) (by omega) hW hM, ?_⟩
        by_cases y : mN N u = 9
        · rw [if_pos y] at hr
          rw [if_pos (by omega)]
          exact hr
        · rw [if_neg y] at hr
          rw [if_neg (by omega)]
          exact hr
      · rw [if_pos c] at hr
        refine ⟨_, ctX11_isP_no (by decide) h5 hM (by omega), ?_⟩
        rw [if_pos (by decide)]
        exact hr
    · rw [if_pos b] at hr
      refine ⟨_, ctX11_isP_no (by decide) h5 hM (by omega), ?_⟩
      rw [if_pos (by decide)]
      exact hr
theorem dfV_0 {N : Tn} {v : Int} (h : dfV N v = 0) : ∃ n : Nat, v = (n : Int) ∧ n < 5000 ∧ n / 1000 < N 2 ∧ n / 100 % 10 < N 2 ∧ n / 1000 ≠ n / 100 % 10 ∧ (∃ c : Nat, dcN N n = (c : Int) ∧ c < N 1 ∧ 0 < hN N (n / 1000) c) ∧ mN N (n / 100 % 10) ≠ 9 ∨ 5 < N 2 := by
  by_cases z : 5 < N 2
  · exact ⟨0, Or.inr z⟩
  by_cases a : v < 0
  · rw [dfV_no a] at h; omega
  · obtain ⟨n, hn⟩ := z_nat (show 0 ≤ v by omega)
    subst hn
    rw [dfV_n] at h
    have hrg := dcN_rng N n
    refine ⟨n, Or.inl ⟨rfl, ?_⟩⟩
    by_cases b : n / 1000 < N 2
    · rw [if_neg (fun q => q b)] at h
      by_cases c : n / 100 % 10 < N 2
      · rw [if_neg (fun q => q c)] at h
        by_cases e : n / 1000 = n / 100 % 10
        · rw [if_pos e] at h; omega
        rw [if_neg e] at h
        by_cases f : dcN N n = -1
        · rw [if_pos f] at h; omega
        rw [if_neg f] at h
        obtain ⟨k, hk⟩ := z_nat (show 0 ≤ dcN N n by omega)
        rw [hk, Int.toNat_natCast] at h
        by_cases y : hN N (n / 1000) k = 0
        · rw [if_pos y] at h; omega
        rw [if_neg y] at h
        by_cases w : mN N (n / 100 % 10) = 9
        · rw [if_pos w] at h; omega
        · exact ⟨by omega, b, c, e, ⟨k, hk, by omega, by omega⟩, w⟩
      · rw [if_pos c] at h; omega
    · rw [if_pos b] at h; omega
/-- the row behind a deal -/
def dlN (N : Tn) (n : Nat) : Tn := updN (updN N (12 + (8 * (n / 1000) + (dcN N n).toNat)) (hN N (n / 1000) (dcN N n).toNat - 1)) (12 + (8 * (n / 100 % 10) + (dcN N n).toNat)) (hN N (n / 100 % 10) (dcN N n).toNat + 1)
theorem mN_oth {N : Tn} {p q c v : Nat} (h5 : q < 5) (hc : c < 8) (h8 : N 1 ≤ 8) (hne : q ≠ p) : mN (updN N (12 + (8 * p + c)) v) q = mN N q := by
  unfold mN
  rw [updN_ne (by omega)]
  exact sumN_congr (fun i hi => by rw [hN_upd hc (by omega), if_neg (fun z => hne z.1)])
theorem dlN_wf {N : Tn} (hW : WFN N) {g u c : Nat} (hg : g < N 2) (hu : u < N 2) (hne : g ≠ u) (hc : c < N 1) (hm : mN N u ≠ 9) : WFN (updN (updN N (12 + (8 * g + c)) (hN N g c - 1)) (12 + (8 * u + c)) (hN N u c + 1)) := by
  have h5 := hW.1.2.1
  have h8 := hW.1.1
  have hmg := mN_le hW (show g < 5 by omega)
  have hmu := mN_le hW (show u < 5 by omega)
  have h1 := WFN_hold hW hg hc (v := hN N g c - 1) (by omega)
  have e1 : updN N (12 + (8 * g + c)) (hN N g c - 1) 1 = N 1 := updN_ne (by omega)
  have e2 : updN N (12 + (8 * g + c)) (hN N g c - 1) 2 = N 2 := updN_ne (by omega)
  have e3 : hN (updN N (12 + (8 * g + c)) (hN N g c - 1)) u c = hN N u c := by rw [hN_upd (by omega) (by omega), if_neg (by omega)]
  refine WFN_hold h1 (by rw [e2]; exact hu) (by rw [e1]; exact hc) ?_
  rw [mN_oth (by omega) (by omega) h8 (fun q => hne q.symm), e3]
  omega
/-- how many deals of Z from i on (f of them) are made, and the row then -/
def mkG (Z : Nat → Int) : Nat → Nat → Tn → Nat × Tn
  | 0, i, N => (i, N)
  | f + 1, i, N => if dfV N (Z i) = 0 then mkG Z f (i + 1) (dlN N (Z i).toNat) else (i, N)
theorem mkG_s (Z : Nat → Int) (f i : Nat) (N : Tn) : mkG Z (f + 1) i N = if dfV N (Z i) = 0 then mkG Z f (i + 1) (dlN N (Z i).toNat) else (i, N) := rfl
theorem dlN_ok {N : Tn} (hW : WFN N) {v : Int} (h : dfV N v = 0) : WFN (dlN N v.toNat) := by
  obtain ⟨n, q | q⟩ := dfV_0 h
  · obtain ⟨h1, h2, h3, h4, h6, ⟨c, k1, k2, k3⟩, h7⟩ := q
    rw [h1, Int.toNat_natCast]
    unfold dlN
    rw [k1, Int.toNat_natCast]
    exact dlN_wf hW h3 h4 h6 k2 h7
  · have := hW.1.2.1; omega
theorem mkG_ok (Z : Nat → Int) : ∀ f i N, WFN N → WFN (mkG Z f i N).2 ∧ i ≤ (mkG Z f i N).1 ∧ (mkG Z f i N).1 ≤ i + f := by
  intro f
  induction f with
  | zero => intro i N hW; exact ⟨hW, Nat.le_refl _, Nat.le_refl _⟩
  | succ f ih =>
    intro i N hW
    rw [mkG_s]
    split
    · rename_i h
      have := ih (i + 1) _ (dlN_ok hW h)
      exact ⟨this.1, by omega, by omega⟩
    · exact ⟨hW, Nat.le_refl _, Nat.le_add_right _ _⟩
theorem dl_a {n : Nat} (h : n < 5000) : w32 ((n : Int).tmod 100) = ((n % 100 : Nat) : Int) := by
  have : (n : Int).tmod 100 = ((n % 100 : Nat) : Int) := tmod_nat n 100
  rw [this, w32_n (show n % 100 < 2147483648 by omega)]
theorem dl_b {n : Nat} (h : n < 5000) : w32 (w64 ((n : Int).tdiv 1000)) = ((n / 1000 : Nat) : Int) := by
  have : (n : Int).tdiv 1000 = ((n / 1000 : Nat) : Int) := tdiv_nat n 1000
  rw [this, w64_n (show n / 1000 < 9223372036854775808 by omega), w32_n (show n / 1000 < 2147483648 by omega)]
theorem dl_c {n : Nat} (h : n < 5000) : w32 ((w64 ((n : Int).tdiv 100)).tmod 10) = ((n / 100 % 10 : Nat) : Int) := by
  have g1 : (n : Int).tdiv 100 = ((n / 100 : Nat) : Int) := tdiv_nat n 100
  have g2 : ((n / 100 : Nat) : Int).tmod 10 = ((n / 100 % 10 : Nat) : Int) := tmod_nat (n / 100) 10
  rw [g1, w64_n (show n / 100 < 9223372036854775808 by omega), g2, w32_n (show n / 100 % 10 < 2147483648 by omega)]
theorem dl_d {n : Nat} (h : n < 5000) : (w32 (n : Int)).tmod 100 = ((n % 100 : Nat) : Int) := by
  rw [w32_n (show n < 2147483648 by omega)]
  exact tmod_nat n 100
theorem dl_e {n : Nat} (h : n < 5000) : w32 ((w32 (n : Int)).tdiv 1000) = ((n / 1000 : Nat) : Int) := by
  have : (n : Int).tdiv 1000 = ((n / 1000 : Nat) : Int) := tdiv_nat n 1000
  rw [w32_n (show n < 2147483648 by omega), this, w32_n (show n / 1000 < 2147483648 by omega)]
theorem dl_f {n : Nat} (h : n < 5000) : (w32 ((w32 (n : Int)).tdiv 100)).tmod 10 = ((n / 100 % 10 : Nat) : Int) := by
  have g1 : (n : Int).tdiv 100 = ((n / 100 : Nat) : Int) := tdiv_nat n 100
  rw [w32_n (show n < 2147483648 by omega), g1, w32_n (show n / 100 < 2147483648 by omega)]
  exact tmod_nat (n / 100) 10
theorem w32_m1 {a : Nat} (h0 : 0 < a) (h : a < 2147483648) : w32 ((a : Int) - 1) = ((a - 1 : Nat) : Int) := by unfold w32; omega
/-- the tray i's numbers and how many -/
theorem ctX9_at {d i k : Nat} (hd : 1 ≤ d) {σ : Sg} {m : Nat} (hm : σ i 1 = (m : Int)) (hm30 : m ≤ 30) (hk : k < m) : Ct d MX9_at [rV 18 i, iV (k : Int)] σ (.inl [lV (σ (i + 1) k)]) σ := by
  refine (eX9_at (d := 0) ?_).mono hd
  intro X Xr Xt hC hr
  refine bX9_at_0 hC ?_
  rw [if_neg (by omega), hm, if_pos (by omega), Int.toNat_natCast]
  exact ⟨by omega, hr⟩
theorem ctX8_makeDeals {d t i m : Nat} {Z : Nat → Int} {σ : Sg} (hd : 4 ≤ d) (hm30 : m ≤ 30) (ht : i + 1 < t ∨ t + 6 < i) (hm : σ i 1 = (m : Int)) (hZ : ∀ j, j < 30 → σ (i + 1) j = Z j) (hz64 : ∀ j, j < 30 → in64 (Z j)) : ∀ N, WFN N → Ct d MX8_makeDeals [rV 17 t, rV 18 i] (tnS σ t N) (.inl [iV ((mkG Z m 0 N).1 : Int)]) (tnS σ t (mkG Z m 0 N).2) := by
  intro N hW
  refine (eX8_makeDeals (d := 3) ?_).mono hd
  intro X Xr Xt hC hr
  refine bX8_makeDeals_0 hC ?_
  have key : ∀ f k M, k + f = m → WFN M → mkG Z f k M = mkG Z m 0 N → X 2 [rV 17 t, rV 18 i, iV (k : Int), uV, uV, uV] [] (tnS σ t M) := by
    intro f
    induction f with
    | zero =>
      intro k M hk hWM he
      have hk : k = m := hk
      have he : (k, M) = mkG Z m 0 N := he
      refine bX8_makeDeals_2 hC ?_
      rw [tnS_cell (by omega), hm, if_neg (by omega)]
      rw [← he] at hr
      rw [← hk]
      exact hr
    | succ f ih =>
      intro k M hk hWM he
      rw [mkG_s] at he
      have hmt : tnS σ t M i 1 = (m : Int) := by rw [tnS_cell (by omega)]; exact hm
      have hzt : tnS σ t M (i + 1) k = Z k := by rw [tnS_cell (by omega)]; exact hZ k (by omega)
      have hat := ctX9_at (d := 3) (i := i) (k := k) (by decide) hmt hm30 (by omega)
      rw [hzt] at hat
      refine bX8_makeDeals_2 hC ?_
      rw [hmt, if_pos (by omega)]
      refine ⟨_, hat, _, ctX8_dealFault (by decide) hWM (hz64 k (by omega)) (tnS_row _ _ _), ?_⟩
      by_cases a : dfV M (Z k) = 0
      · rw [if_pos a] at he
        rw [if_pos (by omega)]
        have hWD := dlN_ok hWM a
        have h5 := hWM.1.2.1
        have h8 := hWM.1.1
        obtain ⟨n, q | q⟩ := dfV_0 a
        · clear a
          obtain ⟨h1, h2, h3, h4, h6, ⟨c, k1, k2, k3⟩, h7⟩ := q
          rw [h1, Int.toNat_natCast] at he hWD
          rw [h1]
          rw [dl_a h2, dl_b h2, dl_c h2]
          clear hmt hzt hat hm hZ h1
          unfold dlN at he hWD
          rw [k1, Int.toNat_natCast] at he hWD
          generalize hg : n / 1000 = g at *
          generalize hu : n / 100 % 10 = u at *
          have hnr : Ct 3 MX8_numberOf [rV 17 t, iV ((n % 100 : Nat) : Int)] (tnS σ t M) (.inl [iV (c : Int)]) (tnS σ t M) := by
            have := ctX8_numberOf (d := 3) (t := t) (x := ((n % 100 : Nat) : Int)) (N := M) (σ := tnS σ t M) (by decide) h8 (tnS_0 (by decide)) (tnS_row σ t M).2.2.1
            have e : nrN M ((n % 100 : Nat) : Int) = (c : Int) := k1
            rw [e] at this
            exact this
          have hb1 := hN_le hWM (show g < 5 by omega) (show c < 8 by omega)
          have hb2 := hN_le hWM (show u < 5 by omega) (show c < 8 by omega)
          refine ⟨_, hnr, _, ctX8_come (p := g) (c := c) (v := hN M g c - 1) (by decide) (by omega) (by omega) (by omega) (by omega), _, ctX8_come (p := u) (c := c) (v := hN M u c + 1) (by decide) (by omega) (by omega) ?_ (by omega), ?_⟩
          · rw [hN_upd (by omega) (by omega), if_neg (by omega)]
            omega
          · rw [w32_s (by omega)]
            exact ih (k + 1) _ (by omega) hWD he
        · omega
      · rw [if_neg a] at he
        rw [if_neg (by omega)]
        rw [← he] at hr
        exact hr
  exact key m 0 N (Nat.zero_add _) hW rfl
theorem w_30 {x k : Nat} (hx : x < 4) (hk : k < 30) : w32 (w32 (30 * (x : Int)) + (k : Int)) = ((30 * x + k : Nat) : Int) := by unfold w32; omega
theorem ctX11_goesBy {d x m : Nat} {Z : Nat → Int} {σ : Sg} (hd : 4 ≤ d) (hx : x < 4) (hm30 : m ≤ 30) (hm : σ 78 x = (m : Int)) (hZ : ∀ j, j < 30 → σ 79 (30 * x + j) = Z j) (hz64 : ∀ j, j < 30 → in64 (Z j)) : ∀ N, WFN N → Ct d MX11_goesBy [rV 20 66, iV (x : Int)] (rwS σ 67 0 N) (.inl [iV ((mkG Z m 0 N).1 : Int)]) (rwS σ 67 0 (mkG Z m 0 N).2) := by
  intro N hW
  refine (eX11_goesBy (d := 3) ?_).mono hd
  intro X Xr Xt hC hr
  refine bX11_goesBy_0 hC ?_
  have key : ∀ f k M, k + f = m → WFN M → mkG Z f k M = mkG Z m 0 N → X 2 [rV 20 66, iV (x : Int), iV (k : Int), uV, uV] [] (rwS σ 67 0 M) := by
    intro f
    induction f with
    | zero =>
      intro k M hk hWM he
      have hk : k = m := hk
      have he : (k, M) = mkG Z m 0 N := he
      refine bX11_goesBy_2 hC ?_
      rw [Int.toNat_natCast, rwS_cell (by decide), hm, if_neg (by omega)]
      rw [← he] at hr
      exact ⟨by omega, hr⟩
    | succ f ih =>
      intro k M hk hWM he
      rw [mkG_s] at he
      refine bX11_goesBy_2 hC ?_
      rw [Int.toNat_natCast, w_30 hx (by omega), Int.toNat_natCast, rwS_cell (show 78 ≠ 67 by decide), rwS_cell (show 79 ≠ 67 by decide), hm, if_pos (by omega), hZ k (by omega)]
      refine ⟨by omega, by omega, _, ctX11_dealWhy (by decide) hWM (hz64 k (by omega)) (rwS_row _ _ _ _), ?_⟩
      by_cases a : dfV M (Z k) = 0
      · rw [if_pos a] at he
        rw [if_pos (by omega)]
        have hWD := dlN_ok hWM a
        have h5 := hWM.1.2.1
        have h8 := hWM.1.1
        obtain ⟨n, q | q⟩ := dfV_0 a
        · clear a
          obtain ⟨h1, h2, h3, h4, h6, ⟨c, k1, k2, k3⟩, h7⟩ := q
          rw [h1, Int.toNat_natCast] at he hWD
          rw [h1]
          rw [dl_d h2, dl_e h2, dl_f h2]
          clear hm hZ h1
          unfold dlN at he hWD
          rw [k1, Int.toNat_natCast] at he hWD
          generalize hg : n / 1000 = g at *
          generalize hu : n / 100 % 10 = u at *
          have hnr : Ct 3 MX11_coinOf [rV 1000181 67, lV ((n % 100 : Nat) : Int)] (rwS σ 67 0 M) (.inl [iV (c : Int)]) (rwS σ 67 0 M) := by
            have := ctX11_coinOf (d := 3) (x := ((n % 100 : Nat) : Int)) (N := M) (by decide) h8 (rwS_row σ 67 0 M)
            have e : nrN M ((n % 100 : Nat) : Int) = (c : Int) := k1
            rw [e] at this
            exact this
          have hb1 := hN_le hWM (show g < 5 by omega) (show c < 8 by omega)
          have hb2 := hN_le hWM (show u < 5 by omega) (show c < 8 by omega)
          refine ⟨by omega, _, hnr, ?_⟩
          rw [w_hold (show g < 5 by omega) (show c < 8 by omega), w_hold (show u < 5 by omega) (show c < 8 by omega), Int.toNat_natCast, Int.toNat_natCast, rd_hold (by omega) (by omega) (rwS_row σ 67 0 M), w32_m1 k3 (by omega), rwS_up (by omega), rd_hold (by omega) (by omega) (rwS_row σ 67 0 _), hN_upd (by omega) (by omega), if_neg (by omega), w32_s (show hN M u c < 2147483647 by omega), rwS_up (by omega), w32_s (show k < 2147483647 by omega)]
          exact ⟨by omega, by omega, by omega, by omega, ih (k + 1) _ (by omega) hWD he⟩
        · omega
      · rw [if_neg a] at he
        rw [if_neg (by omega)]
        rw [← he] at hr
        exact hr
  exact key m 0 N (Nat.zero_add _) hW rfl
