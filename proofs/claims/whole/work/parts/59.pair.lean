/-! PAIRS: squares -/
/-- the whole root, and the greatest divisor up to it -/
def isRt (n r : Nat) : Prop := r * r ≤ n ∧ n < (r + 1) * (r + 1)
theorem sq_mono {a b : Nat} (h : a ≤ b) : a * a ≤ b * b := Nat.mul_le_mul h h
theorem rt_unique {n r s : Nat} (h : isRt n r) (g : isRt n s) : r = s := by
  by_cases a : r < s
  · have := sq_mono (show r + 1 ≤ s from a); have := h.2; have := g.1; omega
  · by_cases b : s < r
    · have := sq_mono (show s + 1 ≤ r from b); have := g.2; have := h.1; omega
    · omega
/-- rootA n: the least k from 1 on with n ≤ k * k -/
theorem raGo_spec (n : Nat) (hn : n ≤ 1000000) : ∀ f k, k + f = 1000 → 1 ≤ k → (k = 1 ∨ (k - 1) * (k - 1) < n) → (n ≤ raGo n f k * raGo n f k ∧ 1 ≤ raGo n f k ∧ raGo n f k ≤ 1000 ∧ (raGo n f k = 1 ∨ (raGo n f k - 1) * (raGo n f k - 1) < n)) := by
  intro f
  induction f with
  | zero =>
    intro k hk h1 h2
    have hk : k = 1000 := hk
    have := sq_mono (show 1000 ≤ k by omega)
    show n ≤ k * k ∧ 1 ≤ k ∧ k ≤ 1000 ∧ (k = 1 ∨ (k - 1) * (k - 1) < n)
    exact ⟨by omega, h1, by omega, h2⟩
  | succ f ih =>
    intro k hk h1 h2
    unfold raGo
    by_cases a : k * k < n
    · rw [if_pos a]
      exact ih (k + 1) (by omega) (by omega) (Or.inr a)
    · rw [if_neg a]
      exact ⟨by omega, h1, by omega, h2⟩
theorem rootA_spec {n : Nat} (hn : n ≤ 1000000) : n ≤ rootA n * rootA n ∧ 1 ≤ rootA n ∧ rootA n ≤ 1000 ∧ (rootA n = 1 ∨ (rootA n - 1) * (rootA n - 1) < n) := raGo_spec n hn 999 1 rfl (Nat.le_refl _) (Or.inl rfl)
/-- the greatest divisor from k downwards -/
def dvGo (n : Nat) : Nat → Nat
  | 0 => 1
  | k + 1 => if n % (k + 1) = 0 then k + 1 else dvGo n k
theorem dvGo_1 (n : Nat) : dvGo n 1 = 1 := by
  unfold dvGo
  by_cases a : n % (0 + 1) = 0
  · rw [if_pos a]
  · rw [if_neg a]; rfl
theorem dvGo_rng (n : Nat) : ∀ k, 1 ≤ dvGo n k ∧ (1 ≤ k → dvGo n k ≤ k) := by
  intro k
  induction k with
  | zero => exact ⟨Nat.le_refl _, fun h => absurd h (by omega)⟩
  | succ k ih =>
    unfold dvGo
    by_cases a : n % (k + 1) = 0
    · rw [if_pos a]; exact ⟨by omega, fun _ => Nat.le_refl _⟩
    · rw [if_neg a]
      refine ⟨ih.1, fun _ => ?_⟩
      by_cases b : 1 ≤ k
      · have := ih.2 b; omega
      · have : k = 0 := by omega
        subst this
        exact Nat.le_refl _
def sqA (n r e : Nat) (w : Int) : Int := if w = 0 then (e : Int) else w32 (w32 (w32 ((w32 ((e : Int) + w32 (((n : Int)).tdiv (e : Int)))).tdiv 2) - (r : Int)) + 1)
theorem dvGo_s (n k : Nat) : dvGo n (k + 1) = if n % (k + 1) = 0 then k + 1 else dvGo n k := rfl
def sqF (n : Nat) : Nat := if rootA n * rootA n = n then rootA n else rootA n - 1
theorem sqF_spec {n : Nat} (h3 : 3 ≤ n) (hn : n ≤ 1000000) : isRt n (sqF n) ∧ 1 ≤ sqF n ∧ sqF n ≤ 1000 ∧ (sqF n * sqF n = n → rootA n = sqF n) ∧ (sqF n * sqF n ≠ n → rootA n = sqF n + 1) := by
  have hr := rootA_spec hn
  unfold sqF
  by_cases a : rootA n * rootA n = n
  · rw [if_pos a]
    refine ⟨⟨by omega, ?_⟩, hr.2.1, hr.2.2.1, fun _ => rfl, fun q => absurd a q⟩
    have : (rootA n + 1) * (rootA n + 1) = rootA n * rootA n + rootA n + rootA n + 1 := by
      rw [Nat.succ_mul, Nat.mul_succ]
      omega
    omega
  · rw [if_neg a]
    have h2 : rootA n ≠ 1 := fun e => by
      have := hr.1
      rw [e] at this
      omega
    have h4 : (rootA n - 1) * (rootA n - 1) < n := hr.2.2.2.elim (fun e => absurd e h2) (fun e => e)
    refine ⟨⟨by omega, ?_⟩, by omega, by omega, fun q => absurd q (by omega), fun _ => by omega⟩
    rw [show rootA n - 1 + 1 = rootA n by omega]
    omega
theorem jt_squares {ω : Nat → Int} {σ : Sg} (hI : Inv ω σ) (x w : Int) : Jt ω MX10_squares MX11_squares [iV x, iV w] iV cdI σ := by
  by_cases h : 3 ≤ x ∧ x ≤ 1000000
  · obtain ⟨n, hn⟩ := z_nat (show 0 ≤ x by omega)
    subst hn
    have t2 : ((n : Nat) : Int).tmod 2 = ((n % 2 : Nat) : Int) := tmod_nat n 2
    by_cases o : n % 2 = 1
    · by_cases g : 0 ≤ w ∧ w ≤ 1
      · have hs := sqF_spec (n := n) (by omega) (by omega)
        have hr := rootA_spec (n := n) (by omega)
        refine Or.inl ⟨sqA n (rootA n) (dvGo n (sqF n)) w, σ, ?_, ?_⟩
        · refine (eX10_squares (d := 4) ?_).mono (by decide)
          intro X Xr Xt hC hr2
          refine bX10_squares_0 hC ?_
          rw [if_neg (by omega), if_neg (by omega), t2, if_neg (by omega)]
          refine Or.inl ⟨ctX10_needWhat (by decide) g, _, ctX3_rootAbove (by decide) (by omega), ?_⟩
          have key : ∀ k : Nat, 1 ≤ k → k ≤ 1000 → dvGo n k = dvGo n (sqF n) → X 56 [rV 19 0, iV (n : Int), iV w, iV (rootA n : Int), iV (k : Int), uV] [] σ := by
            intro k
            induction k with
            | zero => intro h0; exact absurd h0 (by omega)
            | succ k ih =>
              intro h0 h1 he
              refine bX10_squares_56 hC ?_
              have hend : dvGo n (k + 1) = k + 1 → (if w = 0 then Xr [iV ((k + 1 : Nat) : Int)] σ else Xr [iV (w32 (w32 (w32 ((w32 (((k + 1 : Nat) : Int) + w32 (((n : Int)).tdiv ((k + 1 : Nat) : Int)))).tdiv 2) - (rootA n : Int)) + 1))] σ) := by
                intro q
                rw [← he, q] at hr2
                unfold sqA at hr2
                by_cases w0 : w = 0
                · rw [if_pos w0] at hr2 ⊢; exact hr2
                · rw [if_neg w0] at hr2 ⊢; exact hr2
              by_cases c : k = 0
              · subst c
                rw [if_neg (by decide)]
                exact ⟨by decide, hend (dvGo_1 n)⟩
              · rw [if_pos (by omega)]
                refine ⟨by omega, ?_⟩
                rw [tmod_nat]
                rw [dvGo_s n k] at he hend
                by_cases z : n % (k + 1) = 0
                · rw [if_pos (by rw [z]; rfl)]
                  rw [if_pos z] at hend
                  exact ⟨by omega, hend rfl⟩
                · rw [if_neg (by generalize n % (k + 1) = zz at z; omega)]
                  rw [if_neg z] at he
                  rw [show w32 (((k + 1 : Nat) : Int) + (-1)) = (k : Int) by unfold w32; omega]
                  exact ih (by omega) (by omega) he
          rw [w32_sq (by omega)]
          have e : sqF n = if rootA n * rootA n = n then rootA n else rootA n - 1 := rfl
          by_cases z : rootA n * rootA n = n
          · rw [if_pos (by omega)]
            rw [if_pos z] at e
            exact key _ (by omega) (by omega) (by rw [e])
          · rw [if_neg (by omega)]
            rw [if_neg z] at e
            rw [show w32 ((rootA n : Int) - 1) = ((rootA n - 1 : Nat) : Int) by unfold w32; omega]
            exact key _ (by omega) (by omega) (by rw [e])
        · intro τ ha
          refine ⟨upS τ 66 5 0, ?_, ups_eq, Inv_fr hI (th_fr ha)⟩
          refine (eX11_squares (d := 4) ?_).mono (by decide)
          intro X Xr Xt hC hr2
          refine bX11_squares_0 hC ?_
          refine ⟨_, ctX11_within (by decide), ?_⟩
          rw [decide_eq_true h, if_neg (by decide), t2, if_pos (by omega)]
          refine ⟨_, ctX11_within (by decide), ?_⟩
          rw [decide_eq_true g, if_neg (by decide), ups_eq, if_neg (by decide)]
          have key : ∀ k, k ≤ sqF n → 1 ≤ k → X 57 [rV 20 66, iV (n : Int), iV w, iV (dvGo n k : Int), iV (k : Int), iV ((k + 1 : Nat) : Int)] [] (upS τ 66 5 0) := by
            refine loop_up (P := fun k => 1 ≤ k → X 57 [rV 20 66, iV (n : Int), iV w, iV (dvGo n k : Int), iV (k : Int), iV ((k + 1 : Nat) : Int)] [] (upS τ 66 5 0)) ?_ ?_
            · intro _
              refine bX11_squares_57 hC ?_
              have h7 := hs.1.2
              rw [w32_sq (by omega), w32_sq (by omega), if_pos (by omega)]
              have hd := (dvGo_rng n (sqF n)).1
              unfold sqA at hr2
              by_cases z : sqF n * sqF n = n
              · rw [if_pos (by omega)]
                rw [hs.2.2.2.1 z] at hr2
                by_cases w0 : w = 0
                · rw [if_pos w0] at hr2 ⊢; exact hr2
                · rw [if_neg w0] at hr2 ⊢; exact ⟨by omega, hr2⟩
              · rw [if_neg (by omega), w32_s (by omega)]
                rw [hs.2.2.2.2 z] at hr2
                by_cases w0 : w = 0
                · rw [if_pos w0] at hr2 ⊢; exact hr2
                · rw [if_neg w0] at hr2 ⊢; exact ⟨by omega, hr2⟩
            · intro k hk ih h1
              refine bX11_squares_57 hC ?_
              have h7 := hs.1.1
              have h6 := sq_mono (show k + 1 ≤ sqF n from hk)
              have ih := ih (by omega)
              rw [w32_sq (by omega), if_neg (by omega)]
              refine ⟨by omega, ?_⟩
              rw [tmod_nat, w32_s (by omega)]
              rw [dvGo_s n k] at ih
              by_cases z : n % (k + 1) = 0
              · rw [if_pos (by rw [z]; rfl)]
                rw [if_pos z] at ih
                exact ih
              · rw [if_neg (by generalize n % (k + 1) = zz at z; omega)]
                rw [if_neg z] at ih
                exact ih
          have k1 := key 1 (by omega) (Nat.le_refl _)
          rw [dvGo_1] at k1
          refine bX11_squares_57 hC ?_
          rw [show w32 ((1 : Int) * 1) = 1 by decide, if_neg (by omega)]
          refine ⟨by decide, ?_⟩
          rw [show ((n : Nat) : Int).tmod 1 = 0 from Int.tmod_one _, if_pos rfl]
          exact k1
      · refine Or.inr ⟨2, σ, by decide, ?_, ?_⟩
        · refine (eX10_squares (d := 4) ?_).mono (by decide)
          intro X Xr Xt hC hr
          refine bX10_squares_0 hC ?_
          rw [if_neg (by omega), if_neg (by omega), t2, if_neg (by omega)]
          exact Or.inr ⟨_, ctX10_needWhat_no (by decide) g, hr⟩
        · intro τ ha
          refine ⟨0, upS τ 66 5 1, ?_, ups_eq, Inv_fr hI (th_fr ha)⟩
          refine (eX11_squares (d := 4) ?_).mono (by decide)
          intro X Xr Xt hC hr
          refine bX11_squares_0 hC ?_
          refine ⟨_, ctX11_within (by decide), ?_⟩
          rw [decide_eq_true h, if_neg (by decide), t2, if_pos (by omega)]
          refine ⟨_, ctX11_within (by decide), ?_⟩
          rw [decide_eq_false g, if_pos (by decide), ups_eq, if_pos (by decide)]
          exact hr
    · refine Or.inr ⟨2, σ, by decide, ?_, ?_⟩
      · refine (eX10_squares (d := 4) ?_).mono (by decide)
        intro X Xr Xt hC hr
        refine bX10_squares_0 hC ?_
        rw [if_neg (by omega), if_neg (by omega), t2, if_pos (by omega)]
        exact hr
      · intro τ ha
        refine ⟨0, upS τ 66 5 1, ?_, ups_eq, Inv_fr hI (th_fr ha)⟩
        refine (eX11_squares (d := 4) ?_).mono (by decide)
        intro X Xr Xt hC hr
        refine bX11_squares_0 hC ?_
        refine ⟨_, ctX11_within (by decide), ?_⟩
        rw [decide_eq_true h, if_neg (by decide), t2, if_neg (by omega), ups_eq, if_pos (by decide)]
        exact hr
  · refine Or.inr ⟨2, σ, by decide, ?_, ?_⟩
    · refine (eX10_squares (d := 4) ?_).mono (by decide)
      intro X Xr Xt hC hr
      refine bX10_squares_0 hC ?_
      by_cases h0 : x < 3
      · rw [if_pos h0]; exact hr
      · rw [if_neg h0, if_pos (by omega)]; exact hr
    · intro τ ha
      refine ⟨0, upS τ 66 5 1, ?_, ups_eq, Inv_fr hI (th_fr ha)⟩
      refine (eX11_squares (d := 4) ?_).mono (by decide)
      intro X Xr Xt hC hr
      refine bX11_squares_0 hC ?_
      refine ⟨_, ctX11_within (by decide), ?_⟩
      rw [decide_eq_false h, if_pos (by decide), ups_eq, if_pos (by decide)]
      exact hr
