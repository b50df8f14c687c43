/-! FITTING: the reference's bags, and the pair -/
def cF (ft : Nat → Bool) : List Nat → Nat
  | [] => 0
  | v :: l => (if ft v = true then 1 else 0) + cF ft l
def rfS (ft : Nat → Bool) (v : Nat) (s : Int × Int) : Int × Int := if ft v = true then (w32 (s.1 - 1), if s.1 = 0 then (v : Int) else s.2) else s
def rf (ft : Nat → Bool) : List Nat → Int × Int → Int × Int
  | [], s => s
  | v :: l, s => rf ft l (rfS ft v s)
theorem cF_app (ft : Nat → Bool) (l k : List Nat) : cF ft (l ++ k) = cF ft l + cF ft k := by
  induction l with
  | nil => show cF ft k = 0 + cF ft k; omega
  | cons v l ih => show (if ft v = true then 1 else 0) + cF ft (l ++ k) = (if ft v = true then 1 else 0) + cF ft l + cF ft k; rw [ih]; omega
theorem rf_app (ft : Nat → Bool) (l k : List Nat) : ∀ s, rf ft (l ++ k) s = rf ft k (rf ft l s) := by
  induction l with
  | nil => intro s; rfl
  | cons v l ih => intro s; exact ih (rfS ft v s)
theorem cF_le (ft : Nat → Bool) (l : List Nat) : cF ft l ≤ l.length := by
  induction l with
  | nil => exact Nat.le_refl 0
  | cons v l ih =>
    show (if ft v = true then 1 else 0) + cF ft l ≤ l.length + 1
    split <;> omega
def rbM (μ : Sg) (s : Int × Int) : Sg := upS (upS μ 66 25 s.2) 66 24 s.1
theorem rbM_24 {μ : Sg} {s : Int × Int} : rbM μ s 66 24 = s.1 := ups_eq
theorem rbM_25 {μ : Sg} {s : Int × Int} : rbM μ s 66 25 = s.2 := by unfold rbM; rw [ups_ne (Or.inr (by decide)), ups_eq]
theorem rbM_cell {μ : Sg} {s : Int × Int} {b : Nat} (h : b ≠ 66) : rbM μ s b = μ b := by unfold rbM; rw [ups_cell h, ups_cell h]
theorem rbM_66 {μ : Sg} {s : Int × Int} {k : Nat} (h : k ≠ 24) (h2 : k ≠ 25) : rbM μ s 66 k = μ 66 k := by unfold rbM; rw [ups_ne (Or.inr h), ups_ne (Or.inr h2)]
theorem ups_sw {μ : Sg} {a i j : Nat} {v w : Int} (h : i ≠ j) : upS (upS μ a i v) a j w = upS (upS μ a j w) a i v := by
  funext b k
  unfold upS
  by_cases q : b = a ∧ k = i
  · rw [if_neg (show ¬ (b = a ∧ k = j) by omega), if_pos q, if_pos q]
  · rw [if_neg q, if_neg q]
theorem rbM_1 {μ : Sg} {s : Int × Int} {w : Int} : upS (rbM μ s) 66 24 w = rbM μ (w, s.2) := by
  unfold rbM
  rw [ups_ups]
theorem rbM_2 {μ : Sg} {s : Int × Int} {w v : Int} : upS (upS (rbM μ s) 66 25 v) 66 24 w = rbM μ (w, v) := by
  unfold rbM
  rw [ups_sw (show 24 ≠ 25 by decide), ups_ups, ups_ups]
theorem ctX11_isFitting {d x m v : Nat} {Z : Nat → Int} (hd : 1 ≤ d) {σ : Sg} (hx : x < 4) (hm : σ 78 x = (m : Int)) (h30 : m ≤ 30) (hZ : ∀ j, j < 30 → σ 79 (30 * x + j) = Z j) (hv : vdA Z m) : Ct d MX11_isFitting [rV 20 66, iV (x : Int), lV (v : Int)] σ (.inl [iV (b01 (ftB Z m v))]) σ := by
  have hev := hv.1
  refine (eX11_isFitting (d := 0) ?_).mono hd
  intro X Xr Xt hC hr
  refine bX11_isFitting_0 hC ?_
  have key : ∀ g t : Nat, t + g = m / 2 → (∀ u, u < t → (v : Int).tmod (Z (2 * u)) = Z (2 * u + 1)) → X 3 [rV 20 66, iV (x : Int), lV (v : Int), uV, iV ((2 * t : Nat) : Int)] [] σ := by
    intro g
    induction g with
    | zero =>
      intro t ht h1
      have ht : t = m / 2 := ht
      refine bX11_isFitting_3 hC ?_
      rw [Int.toNat_natCast, hm, if_neg (by omega)]
      rw [ftB_t.mpr (by rw [← ht]; exact h1)] at hr
      exact ⟨by omega, hr⟩
    | succ g ih =>
      intro t ht h1
      have hvt := (hv.2 t (by omega)).1.1
      refine bX11_isFitting_3 hC ?_
      rw [Int.toNat_natCast, hm, if_pos (by omega), w_30 hx (by omega), w32_s (show 30 * x + 2 * t < 2147483647 by omega), Int.toNat_natCast, Int.toNat_natCast, hZ (2 * t) (by omega), show 30 * x + 2 * t + 1 = 30 * x + (2 * t + 1) by omega, hZ (2 * t + 1) (by omega), w_2 (by omega)]
      refine ⟨by omega, by omega, by omega, by omega, ?_⟩
      by_cases q : (v : Int).tmod (Z (2 * t)) = Z (2 * t + 1)
      · rw [if_pos q]
        refine ih (t + 1) (by omega) ?_
        intro u hu
        by_cases w : u = t
        · rw [w]; exact q
        · exact h1 u (by omega)
      · rw [if_neg q]
        rw [ftB_f (show t < m / 2 by omega) q] at hr
        exact hr
  exact key (m / 2) 0 (Nat.zero_add _) (fun u hu => absurd hu (Nat.not_lt_zero u))
theorem ctX11_bags {x m : Nat} {N : Tn} {Z : Nat → Int} {μ : Sg} (hW : WFN N) (hM : RowM μ 67 0 N) (hx : x < 4) (hm : μ 78 x = (m : Int)) (h30 : m ≤ 30) (hZ : ∀ j, j < 30 → μ 79 (30 * x + j) = Z j) (hv : vdA Z m) : ∀ (n d f P : Nat) (s : Int × Int), n ≤ 4 → n + 2 ≤ d → f ≤ 8 → P * 97 ^ n ≤ 88529281 → Ct d MX11_bags [rV 20 66, iV (x : Int), iV (n : Int), iV (f : Int), lV (P : Int)] (rbM μ s) (.inl [iV (cF (ftB Z m) (bgL N n f P) : Int)]) (rbM μ (rf (ftB Z m) (bgL N n f P) s)) := by
  have h8 := hW.1.1
  have hMr : ∀ s, RowM (rbM μ s) 67 0 N := fun s => RowM_cell hM (rbM_cell (by decide))
  intro n
  induction n with
  | zero =>
    intro d f P s _ hd _ _
    refine (eX11_bags (d := 1) ?_).mono hd
    intro X Xr Xt hC hr
    refine bX11_bags_0 hC ?_
    rw [if_pos (by decide)]
    refine ⟨_, ctX11_isFitting (by decide) hx (by rw [rbM_cell (by decide)]; exact hm) h30 (fun j hj => by rw [rbM_cell (by decide)]; exact hZ j hj) hv, ?_⟩
    have e1 : cF (ftB Z m) (bgL N 0 f P) = if ftB Z m P = true then 1 else 0 := by show (if ftB Z m P = true then 1 else 0) + 0 = _; rfl
    have e2 : rf (ftB Z m) (bgL N 0 f P) s = rfS (ftB Z m) P s := rfl
    rw [e1, e2] at hr
    unfold rfS at hr
    rw [rbM_24]
    by_cases a : ftB Z m P = true
    · rw [if_pos a, if_pos a] at hr
      rw [a, if_neg (by decide)]
      by_cases b : s.1 = 0
      · rw [if_pos b] at hr
        rw [if_pos b, ups_ne (Or.inr (by decide)), rbM_24, rbM_2]
        exact hr
      · rw [if_neg b] at hr
        rw [if_neg b, rbM_1]
        exact hr
    · rw [if_neg a, if_neg a] at hr
      rw [Bool.eq_false_iff.mpr a, if_pos (by decide)]
      exact hr
  | succ n ih =>
    intro d f P s hn hd hf hP
    obtain ⟨d2, rfl⟩ : ∃ d2, d = d2 + 1 := ⟨d - 1, by omega⟩
    refine (eX11_bags (d := d2) ?_)
    intro X Xr Xt hC hr
    refine bX11_bags_0 hC ?_
    rw [if_neg (by omega)]
    have hlen : (bgL N (n + 1) f P).length ≤ 330 := by
      rw [bgL_len (n + 1) (N 1 - f) f P rfl]
      exact lb_le ⟨n + 1, by omega⟩ ⟨N 1 - f, by omega⟩
    have hn1 : w32 (((n + 1 : Nat) : Int) - 1) = (n : Int) := by clear hr hP hlen; unfold w32; omega
    have key : ∀ (r k c : Nat) (u : Int × Int), k + r = 8 → c + (bgL N (n + 1) k P).length ≤ 330 → Xr [iV ((c + cF (ftB Z m) (bgL N (n + 1) k P) : Nat) : Int)] (rbM μ (rf (ftB Z m) (bgL N (n + 1) k P) u)) → X 47 [rV 20 66, iV (x : Int), iV ((n + 1 : Nat) : Int), iV (f : Int), lV (P : Int), uV, iV (c : Int), iV (k : Int)] [] (rbM μ u) := by
      intro r
      induction r with
      | zero =>
        intro k c u hk _ hx2
        have hk : k = 8 := hk
        refine bX11_bags_47 hC ?_
        refine ⟨_, ctX11_coins (by omega) (hMr _), ?_⟩
        rw [if_neg (by clear hn1; omega)]
        rw [bgL_e (show N 1 ≤ k by omega)] at hx2
        exact hx2
      | succ r ihr =>
        intro k c u hk hl hx2
        refine bX11_bags_47 hC ?_
        refine ⟨_, ctX11_coins (by omega) (hMr _), ?_⟩
        by_cases q : k < N 1
        · have hq := hW.2.1 k q
          have hP2 : P * N (4 + k) * 97 ^ n ≤ 88529281 := by
            have e1 : P * N (4 + k) * 97 ^ n ≤ P * 97 * 97 ^ n := Nat.mul_le_mul_right _ (Nat.mul_le_mul_left _ hq.2.2)
            rw [Nat.pow_succ, Nat.mul_comm (97 ^ n) 97, ← Nat.mul_assoc] at hP
            exact Nat.le_trans e1 hP
          have hP3 : P * N (4 + k) ≤ 88529281 := Nat.le_trans (Nat.le_mul_of_pos_right _ (Nat.pow_pos (by decide))) hP2
          rw [bgL_s q, List.length_append] at hl
          rw [bgL_s q, cF_app, rf_app, ← Nat.add_assoc] at hx2
          have hcl := cF_le (ftB Z m) (bgL N n k (P * N (4 + k)))
          rw [if_pos (by clear hn1; omega)]
          refine ⟨_, ctX11_prime (by omega) (by omega) (hMr _), ?_⟩
          rw [hn1, ← Int.natCast_mul, w64_n (by clear hn1; omega)]
          refine ⟨_, _, ih d2 k (P * N (4 + k)) u (by omega) (by omega) (by omega) hP2, ?_⟩
          rw [← Int.natCast_add, w32_n (by clear hn1; omega), w32_s (by clear hn1; omega)]
          exact ihr (k + 1) _ _ (by omega) (by omega) hx2
        · rw [bgL_e (show N 1 ≤ k by omega)] at hx2
          rw [if_neg (by clear hn1; omega)]
          exact hx2
    exact key (8 - f) f 0 s (by omega) (by omega) (by rw [Nat.zero_add]; exact hr)
theorem rf_neg (ft : Nat → Bool) : ∀ (l : List Nat) (s : Int × Int), s.1 < 0 → -2147483000 + (l.length : Int) ≤ s.1 → (rf ft l s).2 = s.2 := by
  intro l
  induction l with
  | nil => intro s _ _; rfl
  | cons v l ih =>
    intro s h1 h2
    have hl : ((v :: l).length : Int) = (l.length : Int) + 1 := rfl
    rw [hl] at h2
    show (rf ft l (rfS ft v s)).2 = s.2
    unfold rfS
    by_cases a : ft v = true
    · rw [if_pos a, if_neg (by omega)]
      have e : w32 (s.1 - 1) = s.1 - 1 := w32_id (by omega) (by omega)
      rw [e]
      clear e
      exact ih _ (by show s.1 - 1 < 0; omega) (by show _ ≤ s.1 - 1; omega)
    · rw [if_neg a]
      exact ih s h1 (by omega)
theorem skV_m1 (ft : Nat → Bool) : ∀ (l : List Nat) (f : Nat), skV ft (-1) l f = ((f + cF ft l : Nat) : Int) := by
  intro l
  induction l with
  | nil => intro f; exact if_pos rfl
  | cons v l ih =>
    intro f
    show (if ft v = true then (if (f : Int) = -1 then (v : Int) else skV ft (-1) l (f + 1)) else skV ft (-1) l f) = ((f + ((if ft v = true then 1 else 0) + cF ft l) : Nat) : Int)
    by_cases a : ft v = true
    · rw [if_pos a, if_pos a, if_neg (by omega), ih]; omega
    · rw [if_neg a, if_neg a, ih]; omega
theorem skV_lo (ft : Nat → Bool) {k : Int} (hk : k < -1) : ∀ (l : List Nat) (f : Nat), skV ft k l f = -1 := by
  intro l
  induction l with
  | nil => intro f; exact if_neg (by omega)
  | cons v l ih =>
    intro f
    show (if ft v = true then (if (f : Int) = k then (v : Int) else skV ft k l (f + 1)) else skV ft k l f) = -1
    by_cases a : ft v = true
    · rw [if_pos a, if_neg (by omega), ih]
    · rw [if_neg a, ih]
theorem skV_n (ft : Nat → Bool) {k : Nat} (hk : k < 2147483648) : ∀ (l : List Nat) (f : Nat) (z : Int), l.length ≤ 330 → f ≤ k → skV ft (k : Int) l f = if k < f + cF ft l then (rf ft l (((k - f : Nat) : Int), z)).2 else -1 := by
  intro l
  induction l with
  | nil => intro f z _ hf; rw [show cF ft [] = 0 from rfl, if_neg (by omega)]; exact if_neg (by omega)
  | cons v l ih =>
    intro f z hl hf
    have hl2 : (v :: l).length = l.length + 1 := rfl
    rw [hl2] at hl
    show (if ft v = true then (if (f : Int) = (k : Int) then (v : Int) else skV ft (k : Int) l (f + 1)) else skV ft (k : Int) l f) = if k < f + ((if ft v = true then 1 else 0) + cF ft l) then (rf ft l (rfS ft v (((k - f : Nat) : Int), z))).2 else -1
    unfold rfS
    by_cases a : ft v = true
    · rw [if_pos a, if_pos a, if_pos a]
      by_cases b : f = k
      · rw [if_pos (by omega), if_pos (by omega)]
        have h0 : ((k - f : Nat) : Int) = 0 := by omega
        show (v : Int) = (rf ft l (w32 (((k - f : Nat) : Int) - 1), if ((k - f : Nat) : Int) = 0 then (v : Int) else z)).2
        rw [if_pos h0, h0, rf_neg ft l _ (by show w32 (0 - 1) < 0; decide) (by show _ ≤ w32 (0 - 1); rw [show w32 (0 - 1) = -1 by decide]; omega)]
      · rw [if_neg (by omega)]
        have h0 : ¬ ((k - f : Nat) : Int) = 0 := by omega
        have h1 : w32 (((k - f : Nat) : Int) - 1) = ((k - (f + 1) : Nat) : Int) := by rw [show ((k - f : Nat) : Int) - 1 = ((k - (f + 1) : Nat) : Int) by omega, w32_n (by omega)]
        show skV ft (k : Int) l (f + 1) = if k < f + (1 + cF ft l) then (rf ft l (w32 (((k - f : Nat) : Int) - 1), if ((k - f : Nat) : Int) = 0 then (v : Int) else z)).2 else -1
        rw [if_neg h0, h1, ih (f + 1) z (by omega) (by omega), show f + 1 + cF ft l = f + (1 + cF ft l) by omega]
    · rw [if_neg a, if_neg a, if_neg a, ih f z (by omega) hf, Nat.zero_add]
theorem c64 {σ σ1 : Sg} (h : ∀ b, b ≠ 64 → σ1 b = σ b) : FrC σ σ1 := (FrC.refl σ).cell (by decide) (by decide) h
theorem rbM_fr {μ : Sg} {s : Int × Int} : FrR μ (rbM μ s) := ((FrR.refl μ).ups66 (by decide) (by decide) (by decide)).ups66 (by decide) (by decide) (by decide)
