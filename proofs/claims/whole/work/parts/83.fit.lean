/-! FITTING: bags in order -/
def bgK (N : Tn) (G : Nat → Nat → List Nat) (P : Nat) : Nat → Nat → List Nat
  | 0, _ => []
  | r + 1, k => G k (P * N (4 + k)) ++ bgK N G P r (k + 1)
def bgL (N : Tn) : Nat → Nat → Nat → List Nat
  | 0, _, P => [P]
  | n + 1, f, P => bgK N (bgL N n) P (N 1 - f) f
theorem bgL_s {N : Tn} {n f P : Nat} (h : f < N 1) : bgL N (n + 1) f P = bgL N n f (P * N (4 + f)) ++ bgL N (n + 1) (f + 1) P := by
  show bgK N (bgL N n) P (N 1 - f) f = _ ++ bgK N (bgL N n) P (N 1 - (f + 1)) (f + 1)
  rw [show N 1 - f = (N 1 - (f + 1)) + 1 by omega]
  rfl
theorem bgL_e {N : Tn} {n f P : Nat} (h : N 1 ≤ f) : bgL N (n + 1) f P = [] := by
  show bgK N (bgL N n) P (N 1 - f) f = []
  rw [show N 1 - f = 0 by omega]
  rfl
def lbR (G : Nat → Nat) : Nat → Nat
  | 0 => 0
  | r + 1 => G (r + 1) + lbR G r
def lb : Nat → Nat → Nat
  | 0 => fun _ => 1
  | n + 1 => lbR (lb n)
theorem bgL_len {N : Tn} : ∀ n r f P, N 1 - f = r → (bgL N n f P).length = lb n r := by
  intro n
  induction n with
  | zero => intro r f P _; rfl
  | succ n ih =>
    intro r
    induction r with
    | zero => intro f P h; rw [bgL_e (by omega)]; rfl
    | succ r ihr =>
      intro f P h
      rw [bgL_s (by omega), List.length_append, ih (r + 1) f _ h, ihr (f + 1) P (by omega)]
      rfl
theorem lb_le : ∀ n : Fin 5, ∀ r : Fin 9, lb n.val r.val ≤ 330 := by decide
def pcN (N : Tn) (c : Nat → Nat) (j : Nat) : Nat := prodN (fun i => N (4 + c i)) j
def rsL (N : Tn) (n : Nat) (c : Nat → Nat) : Nat → List Nat
  | 0 => []
  | j + 1 => bgL N (n - j) (c j + 1) (pcN N c j) ++ rsL N n c j
theorem rsL_s (N : Tn) (n : Nat) (c : Nat → Nat) (j : Nat) : rsL N n c (j + 1) = bgL N (n - j) (c j + 1) (pcN N c j) ++ rsL N n c j := rfl
def csL (N : Tn) (f m P : Nat) : Nat → List Nat
  | 0 => []
  | i + 1 => bgL N (m - i) (f + 1) (P * N (4 + f) ^ i) ++ csL N f m P i
theorem csL_s (N : Tn) (f m P i : Nat) : csL N f m P (i + 1) = bgL N (m - i) (f + 1) (P * N (4 + f) ^ i) ++ csL N f m P i := rfl
theorem csL_sh (N : Tn) (f m P : Nat) : ∀ i, csL N f (m + 1) P (i + 1) = csL N f m (P * N (4 + f)) i ++ bgL N (m + 1) (f + 1) P := by
  intro i
  induction i with
  | zero =>
    rw [csL_s, Nat.pow_zero, Nat.mul_one, Nat.sub_zero]
    show _ ++ [] = [] ++ _
    rw [List.append_nil, List.nil_append]
  | succ i ih =>
    rw [csL_s, ih, csL_s, show m + 1 - (i + 1) = m - i by omega, Nat.pow_succ, Nat.mul_comm (N (4 + f) ^ i), ← Nat.mul_assoc, List.append_assoc]
theorem csL_eq {N : Tn} {f : Nat} (hf : f < N 1) : ∀ m P, bgL N m f P = (P * N (4 + f) ^ m) :: csL N f m P m := by
  intro m
  induction m with
  | zero => intro P; rw [Nat.pow_zero, Nat.mul_one]; rfl
  | succ m ih =>
    intro P
    rw [bgL_s hf, ih, csL_sh, Nat.pow_succ, Nat.mul_comm (N (4 + f) ^ m), ← Nat.mul_assoc]
    rfl
theorem rsL_congr {N : Tn} {n : Nat} {c e : Nat → Nat} : ∀ j, (∀ i, i < j → c i = e i) → rsL N n c j = rsL N n e j ∧ pcN N c j = pcN N e j := by
  intro j
  induction j with
  | zero => intro _; exact ⟨rfl, rfl⟩
  | succ j ih =>
    intro h
    have := ih (fun i hi => h i (by omega))
    refine ⟨?_, ?_⟩
    · rw [rsL_s, rsL_s, this.1, this.2, h j (by omega)]
    · have e1 : pcN N c (j + 1) = pcN N c j * N (4 + c j) := rfl
      have e2 : pcN N e (j + 1) = pcN N e j * N (4 + e j) := rfl
      rw [e1, e2, this.2, h j (by omega)]
theorem rsL_const {N : Tn} {n j0 f : Nat} {c e : Nat → Nat} (h1 : ∀ i, i < j0 → e i = c i) (h2 : ∀ i, j0 ≤ i → e i = f) : ∀ i, rsL N n e (j0 + i) = csL N f (n - j0) (pcN N c j0) i ++ rsL N n c j0 ∧ pcN N e (j0 + i) = pcN N c j0 * N (4 + f) ^ i := by
  intro i
  induction i with
  | zero =>
    have := rsL_congr (N := N) (n := n) (c := e) (e := c) j0 h1
    refine ⟨?_, ?_⟩
    · rw [Nat.add_zero, this.1]; rfl
    · rw [Nat.add_zero, this.2, Nat.pow_zero, Nat.mul_one]
  | succ i ih =>
    refine ⟨?_, ?_⟩
    · rw [← Nat.add_assoc, rsL_s, ih.1, ih.2, h2 (j0 + i) (by omega), csL_s, show n - (j0 + i) = n - j0 - i by omega, List.append_assoc]
    · have e1 : pcN N e (j0 + i + 1) = pcN N e (j0 + i) * N (4 + e (j0 + i)) := rfl
      rw [← Nat.add_assoc, e1, ih.2, h2 (j0 + i) (by omega), Nat.pow_succ, Nat.mul_assoc]
/-- raising place j0 (and all behind it) to f: what is left is what was left from there -/
theorem rs_raise {N : Tn} {n j0 f : Nat} {c e : Nat → Nat} (hj : j0 < n) (hf : f < N 1) (hc : f = c j0 + 1) (h1 : ∀ i, i < j0 → e i = c i) (h2 : ∀ i, j0 ≤ i → e i = f) : rsL N n c (j0 + 1) = pcN N e n :: rsL N n e n := by
  have := rsL_const (N := N) (n := n) h1 h2 (n - j0)
  rw [show j0 + (n - j0) = n by omega] at this
  rw [this.1, this.2, rsL_s, ← hc, csL_eq hf]
  rfl
theorem rs_first {N : Tn} {n : Nat} {e : Nat → Nat} (hf : 0 < N 1) (h2 : ∀ i, e i = 0) : bgL N n 0 1 = pcN N e n :: rsL N n e n := by
  have := rsL_const (N := N) (n := n) (j0 := 0) (f := 0) (c := e) (e := e) (fun i hi => absurd hi (Nat.not_lt_zero i)) (fun i _ => h2 i) n
  rw [Nat.zero_add] at this
  rw [this.1, this.2, csL_eq hf]
  show _ = _ :: (csL N 0 (n - 0) 1 n ++ [])
  rw [List.append_nil, Nat.sub_zero]
  rfl
/-! the remainders of a tray -/
def ftB (Z : Nat → Int) (m : Nat) (v : Nat) : Bool := (List.range (m / 2)).all (fun t => decide ((v : Int).tmod (Z (2 * t)) = Z (2 * t + 1)))
theorem ftB_t {Z : Nat → Int} {m v : Nat} : ftB Z m v = true ↔ ∀ t, t < m / 2 → (v : Int).tmod (Z (2 * t)) = Z (2 * t + 1) := by
  unfold ftB
  rw [List.all_eq_true]
  constructor
  · intro h t ht; exact of_decide_eq_true (h t (List.mem_range.mpr ht))
  · intro h t ht; exact decide_eq_true (h t (List.mem_range.mp ht))
theorem ftB_f {Z : Nat → Int} {m v t : Nat} (ht : t < m / 2) (h : ¬ (v : Int).tmod (Z (2 * t)) = Z (2 * t + 1)) : ftB Z m v = false := by
  cases e : ftB Z m v with
  | false => rfl
  | true => exact absurd (ftB_t.mp e t ht) h
def vdP (Z : Nat → Int) (t : Nat) : Prop := (2 ≤ Z (2 * t) ∧ Z (2 * t) ≤ 1000) ∧ (0 ≤ Z (2 * t + 1) ∧ Z (2 * t + 1) ≤ Z (2 * t) - 1)
def vdA (Z : Nat → Int) (m : Nat) : Prop := m % 2 = 0 ∧ ∀ t, t < m / 2 → vdP Z t
theorem ctX9_at_0 {d i : Nat} {k : Int} (hd : 1 ≤ d) {σ : Sg} {m : Nat} (hm : σ i 1 = (m : Int)) (hk : (m : Int) ≤ k) : Ct d MX9_at [rV 18 i, iV k] σ (.inl [lV 0]) σ := by
  refine (eX9_at (d := 0) ?_).mono hd
  intro X Xr Xt hC hr
  refine bX9_at_0 hC ?_
  by_cases a : k < 0
  · rw [if_pos a]; exact hr
  · rw [if_neg a, hm, if_neg (by omega)]; exact hr
theorem w_2 {t : Nat} (h : t < 1000) : w32 (((2 * t : Nat) : Int) + 2) = ((2 * (t + 1) : Nat) : Int) := by unfold w32; omega
theorem w_21 {t : Nat} (h : t < 1000) : w32 (((2 * t : Nat) : Int) + 1) = ((2 * t + 1 : Nat) : Int) := by unfold w32; omega
theorem ctX9_tells {d i m : Nat} {Z : Nat → Int} (hd : 2 ≤ d) {σ : Sg} (hm : σ i 1 = (m : Int)) (h30 : m ≤ 30) (hZ : ∀ j, j < 30 → σ (i + 1) j = Z j) : (vdA Z m → Ct d MX9_tellsRests [rV 18 i] σ (.inl [iV 1]) σ) ∧ (¬ vdA Z m → Ct d MX9_tellsRests [rV 18 i] σ (.inl [iV 0]) σ) := by
  have hat : ∀ k, k < m → Ct 1 MX9_at [rV 18 i, iV (k : Int)] σ (.inl [lV (Z k)]) σ := fun k hk => by
    have := ctX9_at (d := 1) (i := i) (k := k) (by decide) hm h30 hk
    rw [hZ k (by omega)] at this
    exact this
  have main : ∀ b : Int, ((vdA Z m ∧ b = 1) ∨ (¬ vdA Z m ∧ b = 0)) → Ct d MX9_tellsRests [rV 18 i] σ (.inl [iV b]) σ := by
    intro b hb
    refine (eX9_tellsRests (d := 1) ?_).mono hd
    intro X Xr Xt hC hr
    refine bX9_tellsRests_0 hC ?_
    have bad : ¬ vdA Z m → Xr [iV 0] σ := fun h => by
      rcases hb with ⟨h1, _⟩ | ⟨_, h2⟩
      · exact absurd h1 h
      · rw [h2] at hr; exact hr
    have key : ∀ g t : Nat, t + g = 16 → (∀ u, u < t → 2 * u + 1 < m → vdP Z u) → X 2 [rV 18 i, iV ((2 * t : Nat) : Int)] [] σ := by
      intro g
      induction g with
      | zero =>
        intro t ht hv
        have ht : t = 16 := ht
        refine bX9_tellsRests_2 hC ?_
        rw [hm, if_neg (by omega)]
        have e2 : (m : Int).tmod 2 = ((m % 2 : Nat) : Int) := tmod_nat m 2
        rw [e2]
        by_cases q : m % 2 = 0
        · rw [if_pos (by omega)]
          rcases hb with ⟨_, h2⟩ | ⟨h1, _⟩
          · rw [h2] at hr; exact hr
          · exact absurd ⟨q, fun u hu => hv u (by omega) (by omega)⟩ h1
        · rw [if_neg (by omega)]
          exact bad (fun z => q z.1)
      | succ g ih =>
        intro t ht hv
        refine bX9_tellsRests_2 hC ?_
        rw [hm]
        by_cases q : 2 * t < m
        · rw [if_pos (by omega), w_21 (by omega), w_2 (by omega)]
          by_cases q2 : 2 * t + 1 < m
          · have nb : ¬ vdP Z t → Xr [iV 0] σ := fun h => bad (fun z => h (z.2 t (by omega)))
            refine ⟨_, hat _ q, ?_⟩
            by_cases c1 : Z (2 * t) < 2
            · rw [if_pos c1]; exact nb (fun z => by have := z.1.1; omega)
            rw [if_neg c1]
            refine ⟨_, hat _ q, ?_⟩
            by_cases c2 : 1000 < Z (2 * t)
            · rw [if_pos c2]; exact nb (fun z => by have := z.1.2; omega)
            rw [if_neg c2]
            refine ⟨_, hat _ q2, ?_⟩
            by_cases c3 : Z (2 * t + 1) < 0
            · rw [if_pos c3]; exact nb (fun z => by have := z.2.1; omega)
            rw [if_neg c3]
            refine ⟨_, hat _ q2, _, hat _ q, ?_⟩
            by_cases c4 : Z (2 * t + 1) < Z (2 * t)
            · rw [if_pos c4]
              refine ih (t + 1) (by omega) ?_
              intro u hu hum
              by_cases w : u = t
              · rw [w]; exact ⟨⟨by omega, by omega⟩, by omega, by omega⟩
              · exact hv u (by omega) hum
            · rw [if_neg c4]; exact nb (fun z => by have := z.2.2; omega)
          · have odd : ¬ vdA Z m := fun z => by have := z.1; omega
            have h0 := ctX9_at_0 (d := 1) (k := ((2 * t + 1 : Nat) : Int)) (by decide) hm (by omega)
            refine ⟨_, hat _ q, ?_⟩
            by_cases c1 : Z (2 * t) < 2
            · rw [if_pos c1]; exact bad odd
            rw [if_neg c1]
            refine ⟨_, hat _ q, ?_⟩
            by_cases c2 : 1000 < Z (2 * t)
            · rw [if_pos c2]; exact bad odd
            rw [if_neg c2]
            refine ⟨_, h0, ?_⟩
            rw [if_neg (by decide)]
            refine ⟨_, h0, _, hat _ q, ?_⟩
            rw [if_pos (by omega)]
            exact ih (t + 1) (by omega) (fun u hu hum => hv u (by omega) hum)
        · rw [if_neg (by omega)]
          have e2 : (m : Int).tmod 2 = ((m % 2 : Nat) : Int) := tmod_nat m 2
          rw [e2]
          clear e2
          by_cases q3 : m % 2 = 0
          · rw [if_pos (by omega)]
            rcases hb with ⟨_, h2⟩ | ⟨h1, _⟩
            · rw [h2] at hr; exact hr
            · exact absurd ⟨q3, fun u hu => hv u (by omega) (by omega)⟩ h1
          · rw [if_neg (by omega)]
            exact bad (fun z => q3 z.1)
    exact key 16 0 rfl (fun u hu => absurd hu (Nat.not_lt_zero u))
  exact ⟨fun h => main 1 (Or.inl ⟨h, rfl⟩), fun h => main 0 (Or.inr ⟨h, rfl⟩)⟩
theorem ctX9_allRests {d i m v : Nat} {Z : Nat → Int} (hd : 2 ≤ d) {σ : Sg} (hm : σ i 1 = (m : Int)) (h30 : m ≤ 30) (hZ : ∀ j, j < 30 → σ (i + 1) j = Z j) (hv : vdA Z m) : Ct d MX9_allRestsOf [rV 18 i, lV (v : Int)] σ (.inl [iV (b01 (ftB Z m v))]) σ := by
  have hat : ∀ k, k < m → Ct 1 MX9_at [rV 18 i, iV (k : Int)] σ (.inl [lV (Z k)]) σ := fun k hk => by
    have := ctX9_at (d := 1) (i := i) (k := k) (by decide) hm h30 hk
    rw [hZ k (by omega)] at this
    exact this
  have hev := hv.1
  refine (eX9_allRestsOf (d := 1) ?_).mono hd
  intro X Xr Xt hC hr
  refine bX9_allRestsOf_0 hC ?_
  have key : ∀ g t : Nat, t + g = m / 2 → (∀ u, u < t → (v : Int).tmod (Z (2 * u)) = Z (2 * u + 1)) → X 2 [rV 18 i, lV (v : Int), uV, iV ((2 * t : Nat) : Int)] [] σ := by
    intro g
    induction g with
    | zero =>
      intro t ht h1
      have ht : t = m / 2 := ht
      refine bX9_allRestsOf_2 hC ?_
      rw [hm, if_neg (by omega)]
      rw [ftB_t.mpr (by rw [← ht]; exact h1)] at hr
      exact hr
    | succ g ih =>
      intro t ht h1
      have hvt := hv.2 t (by omega)
      refine bX9_allRestsOf_2 hC ?_
      rw [hm, if_pos (by omega), w_21 (by omega), w_2 (by omega)]
      refine ⟨_, hat _ (by omega), ?_⟩
      have := hvt.1.1
      rw [if_pos (by omega)]
      refine ⟨_, hat _ (by omega), by omega, _, hat _ (by omega), ?_⟩
      by_cases q : (v : Int).tmod (Z (2 * t)) = Z (2 * t + 1)
      · rw [if_pos q]
        refine ih (t + 1) (by omega) ?_
        intro u hu
        by_cases w : u = t
        · rw [w]; exact q
        · exact h1 u (by omega)
      · rw [if_neg q]
        rw [ftB_f (show t < m / 2 by omega) q] at hr
        exact hr
  exact key (m / 2) 0 (Nat.zero_add _) (fun u hu => absurd hu (Nat.not_lt_zero u))
