/-! THE ROW OF PRICES on both sides -/
theorem w_pp {a : Nat} (h0 : 0 < a) (h : a < 2147483648) : w32 ((a : Int) - 1 + -1) = ((a - 1 : Nat) : Int) - 1 := by unfold w32; omega
theorem w_p1 {a : Nat} (h : a < 2147483648) : w32 ((a : Int) - 1) = (a : Int) - 1 := by unfold w32; omega
theorem tn_p1 (a : Nat) : ((a : Int) - 1).toNat = a - 1 := by omega
theorem stS_ud {μ : Sg} {a n v : Nat} {G : Nat → Nat} : stS (upS μ a n (v : Int)) a n (fun j => (G j : Int)) = stS μ a (n + 1) (fun j => (ud G n v j : Int)) := by
  funext b j
  unfold stS upS ud
  by_cases h : b = a ∧ j < n
  · rw [if_pos h, if_pos (by omega)]
    show (G j : Int) = ((if j = n then v else G j : Nat) : Int)
    rw [if_neg (by omega)]
  · rw [if_neg h]
    by_cases h2 : b = a ∧ j = n
    · rw [if_pos h2, if_pos (by omega)]
      show (v : Int) = ((if j = n then v else G j : Nat) : Int)
      rw [if_pos h2.2]
    · rw [if_neg h2, if_neg (by omega)]
theorem ctX4_mergeTimes {d m w q : Nat} {A B : Nat → Nat} {σ : Sg} (hd : 1 ≤ d) (hm : σ 54 0 = (m : Int)) (h3 : m + w ≤ 384) (hA : ∀ k, k < m → σ 55 k = (A k : Int)) (hB : ∀ k, k < w → σ 56 k = (B k : Int)) (hq : ∀ k, k < m → A k * q < 9223372036854775808) : Ct d MX4_mergeTimes [rV 13 54, iV (q : Int), iV (w : Int)] σ (.inl []) (stS (upS σ 54 0 ((m + w : Nat) : Int)) 55 (m + w) (fun j => (mg A B q (m + w) m w j : Int))) := by
  refine (eX4_mergeTimes (d := 0) ?_).mono hd
  intro X Xr Xt hC hr
  refine bX4_mergeTimes_0 hC ?_
  rw [hm, ← Int.natCast_add, w32_n (show m + w < 2147483648 by omega), ups_eq, w_p1 (show m < 2147483648 by omega), w_p1 (show w < 2147483648 by omega), w_p1 (show m + w < 2147483648 by omega)]
  have key : ∀ n a b (μ : Sg), a + b = n → a ≤ m → b ≤ w → (∀ k, k < a → μ 55 k = (A k : Int)) → (∀ k, k < b → μ 56 k = (B k : Int)) → Xr [] (stS μ 55 n (fun j => (mg A B q n a b j : Int))) → X 30 [rV 13 54, iV (q : Int), iV (w : Int), iV ((a : Int) - 1), iV ((b : Int) - 1), iV ((n : Int) - 1)] [] μ := by
    intro n
    induction n with
    | zero =>
      intro a b μ hab ha hb h1 h2 hx
      refine bX4_mergeTimes_30 hC ?_
      rw [if_pos (by omega)]
      have e : stS μ 55 0 (fun j => (mg A B q 0 a b j : Int)) = μ := by funext c j; exact if_neg (by omega)
      rw [e] at hx
      exact hx
    | succ n ih =>
      intro a b μ hab ha hb h1 h2 hx
      refine bX4_mergeTimes_30 hC ?_
      have en : ((n + 1 : Nat) : Int) - 1 = (n : Int) := by omega
      rw [if_neg (by omega), en, show w32 ((n : Int) + -1) = (n : Int) - 1 by clear h1 h2 hx ih; unfold w32; omega, Int.toNat_natCast, tn_p1, tn_p1]
      have takeA : 0 < a → mg A B q (n + 1) a b = ud (mg A B q n (a - 1) b) n (A (a - 1) * q) → X 30 [rV 13 54, iV (q : Int), iV (w : Int), iV (((a - 1 : Nat) : Int) - 1), iV ((b : Int) - 1), iV ((n : Int) - 1)] [] (upS μ 55 n ((A (a - 1) * q : Nat) : Int)) := by
        intro h0 e
        rw [e] at hx
        refine ih (a - 1) b _ (by omega) (by omega) hb (fun k hk => by rw [ups_ne (Or.inr (by omega))]; exact h1 k (by omega)) (fun k hk => by rw [ups_cell (by decide)]; exact h2 k hk) ?_
        rw [stS_ud]
        exact hx
      have takeB : 0 < b → mg A B q (n + 1) a b = ud (mg A B q n a (b - 1)) n (B (b - 1)) → X 30 [rV 13 54, iV (q : Int), iV (w : Int), iV ((a : Int) - 1), iV (((b - 1 : Nat) : Int) - 1), iV ((n : Int) - 1)] [] (upS μ 55 n (B (b - 1) : Int)) := by
        intro h0 e
        rw [e] at hx
        refine ih a (b - 1) _ (by omega) ha (by omega) (fun k hk => by rw [ups_ne (Or.inr (by omega))]; exact h1 k (by omega)) (fun k hk => by rw [ups_cell (by decide)]; exact h2 k (by omega)) ?_
        rw [stS_ud]
        exact hx
      have hs := mg_s A B q n a b
      by_cases a0 : a = 0
      · rw [if_pos a0] at hs
        rw [if_pos (by omega), if_neg (by omega), w_pp (show 0 < b by omega) (by omega), h2 (b - 1) (by omega)]
        exact ⟨by omega, by omega, takeB (by omega) hs⟩
      rw [if_neg a0] at hs
      rw [if_neg (by omega)]
      have hqa := hq (a - 1) (by omega)
      have eA : w64 (μ 55 (a - 1) * (q : Int)) = ((A (a - 1) * q : Nat) : Int) := by rw [h1 (a - 1) (by omega), ← Int.natCast_mul, w64_n hqa]
      rw [eA, w_pp (show 0 < a by omega) (by omega)]
      by_cases b0 : b = 0
      · rw [if_pos b0] at hs
        rw [if_pos (by omega)]
        exact ⟨by omega, by omega, takeA (by omega) hs⟩
      rw [if_neg b0] at hs
      rw [if_neg (show ¬ (b : Int) - 1 < 0 by omega), h2 (b - 1) (by omega), w_pp (show 0 < b by omega) (by omega)]
      refine ⟨by omega, by omega, ?_⟩
      by_cases c : B (b - 1) < A (a - 1) * q
      · rw [if_pos c] at hs
        rw [if_pos (Int.ofNat_lt.mpr c)]
        exact ⟨by omega, by omega, takeA (by omega) hs⟩
      · rw [if_neg c] at hs
        rw [if_neg (fun z => c (Int.ofNat_lt.mp z)), if_neg (show ¬ (b : Int) - 1 < 0 by omega)]
        exact ⟨by omega, by omega, takeB (by omega) hs⟩
  exact key (m + w) m w _ rfl (Nat.le_refl m) (Nat.le_refl w) (fun k hk => by rw [ups_cell (by decide)]; exact hA k hk) (fun k hk => by rw [ups_cell (by decide)]; exact hB k hk) hr
def fI (S : Nat → Nat) (q m0 : Nat) : Nat → Nat → Nat
  | 0 => S
  | i + 1 => mg (fI S q m0 i) S q ((i + 1) * m0 + m0) ((i + 1) * m0) m0
def fS (N : Tn) (p : Nat) : Nat → Nat → Nat
  | 0 => fun _ => 1
  | c + 1 => fI (fS N p c) (N (4 + c)) (fM N p c) (hN N p c)
theorem fI_s (S : Nat → Nat) (q m0 i : Nat) : fI S q m0 (i + 1) = mg (fI S q m0 i) S q ((i + 1) * m0 + m0) ((i + 1) * m0) m0 := rfl
theorem fI_ok {S : Nat → Nat} {q m0 W : Nat} (h1 : 1 ≤ q) (hs : srt S m0) (hb : ∀ k, k < m0 → 1 ≤ S k ∧ S k ≤ W) : ∀ i, srt (fI S q m0 i) ((i + 1) * m0) ∧ (∀ k, k < (i + 1) * m0 → 1 ≤ fI S q m0 i k ∧ fI S q m0 i k ≤ W * q ^ i) ∧ (∀ P : Nat → Nat, sumN (fun k => P (fI S q m0 i k)) ((i + 1) * m0) = sumN (fun j => sumN (fun k => P (S k * q ^ j)) m0) (i + 1)) := by
  intro i
  induction i with
  | zero =>
    rw [Nat.zero_add, Nat.one_mul]
    refine ⟨hs, fun k hk => by rw [Nat.pow_zero, Nat.mul_one]; exact hb k hk, fun P => ?_⟩
    rw [sumN_s]
    show _ = 0 + sumN (fun k => P (S k * q ^ 0)) m0
    rw [Nat.zero_add]
    exact sumN_congr (fun k _ => by rw [Nat.pow_zero, Nat.mul_one]; rfl)
  | succ i ih =>
    obtain ⟨g1, g2, g3⟩ := ih
    have em : (i + 1 + 1) * m0 = (i + 1) * m0 + m0 := Nat.succ_mul _ _
    rw [em, fI_s]
    refine ⟨mg_srt _ _ _ _ _ _ rfl g1 hs, ?_, ?_⟩
    · refine mg_all _ _ _ (fun v => 1 ≤ v ∧ v ≤ W * q ^ (i + 1)) _ _ _ rfl ?_ ?_
      · intro k hk
        have := g2 k hk
        refine ⟨Nat.mul_pos this.1 h1, ?_⟩
        rw [Nat.pow_succ, ← Nat.mul_assoc]
        exact Nat.mul_le_mul_right q this.2
      · intro k hk
        have := hb k hk
        exact ⟨this.1, Nat.le_trans this.2 (Nat.le_mul_of_pos_right _ (Nat.pow_pos h1))⟩
    · intro P
      rw [mg_sum _ _ _ _ _ _ _ rfl, g3 (fun v => P (v * q)), sumN_l (fun j => sumN (fun k => P (S k * q ^ j)) m0) (i + 1)]
      have e1 : sumN (fun k => P (S k * q ^ 0)) m0 = sumN (fun k => P (S k)) m0 := sumN_congr (fun k _ => by rw [Nat.pow_zero, Nat.mul_one])
      have e2 : sumN (fun j => sumN (fun k => P (S k * q ^ j * q)) m0) (i + 1) = sumN (fun j => sumN (fun k => P (S k * q ^ (j + 1))) m0) (i + 1) := sumN_congr (fun j _ => sumN_congr (fun k _ => by rw [Nat.pow_succ, Nat.mul_assoc]))
      have e3 : sumN (fun j => sumN (fun k => (fun v => P (v * q)) (S k * q ^ j)) m0) (i + 1) = sumN (fun j => sumN (fun k => P (S k * q ^ j * q)) m0) (i + 1) := rfl
      rw [e1, e3, e2]
      omega
/-- the worth of the first c coins -/
def wP (N : Tn) (p c : Nat) : Nat := prodN (fun e => N (4 + e) ^ hN N p e) c
theorem fS_ok {N : Tn} (hW : WFN N) {p : Nat} : ∀ c, c ≤ N 1 → srt (fS N p c) (fM N p c) ∧ (∀ k, k < fM N p c → 1 ≤ fS N p c k ∧ fS N p c k ≤ wP N p c) ∧ (∀ P : Nat → Nat, sumN (fun k => P (fS N p c k)) (fM N p c) = GP N p c P) := by
  intro c
  induction c with
  | zero => intro _; exact ⟨fun _ _ _ _ => Nat.le_refl 1, fun _ _ => ⟨Nat.le_refl 1, Nat.le_refl 1⟩, fun P => by show 0 + P 1 = P 1; omega⟩
  | succ c ih =>
    intro hc
    obtain ⟨g1, g2, g3⟩ := ih (by omega)
    have hq := hW.2.1 c hc
    have := fI_ok (q := N (4 + c)) (by omega) g1 g2 (hN N p c)
    obtain ⟨k1, k2, k3⟩ := this
    have em : fM N p (c + 1) = (hN N p c + 1) * fM N p c := by rw [fM_s, Nat.mul_comm]
    rw [em]
    refine ⟨k1, k2, fun P => ?_⟩
    have e0 : sumN (fun k => P (fS N p (c + 1) k)) ((hN N p c + 1) * fM N p c) = sumN (fun k => P (fI (fS N p c) (N (4 + c)) (fM N p c) (hN N p c) k)) ((hN N p c + 1) * fM N p c) := rfl
    rw [e0, k3, GP_s]
    exact sumN_congr (fun j _ => g3 (fun v => P (v * N (4 + c) ^ j)))
/-- the memories of the class's fill -/
def fmI (μ : Sg) (S : Nat → Nat) (q m0 : Nat) : Nat → Sg
  | 0 => μ
  | i + 1 => stS (upS (fmI μ S q m0 i) 54 0 (((i + 1) * m0 + m0 : Nat) : Int)) 55 ((i + 1) * m0 + m0) (fun j => (fI S q m0 (i + 1) j : Int))
def fmF (σ : Sg) (N : Tn) (p : Nat) : Nat → Sg
  | 0 => upS (upS σ 55 0 1) 54 0 1
  | c + 1 => fmI (cpS (fmF σ N p c) 55 0 56 0 (fM N p c)) (fS N p c) (N (4 + c)) (fM N p c) (hN N p c)
theorem fmI_ok {μ : Sg} {S : Nat → Nat} {q m0 : Nat} (h1 : μ 54 0 = (m0 : Int)) (h2 : ∀ k, k < m0 → μ 55 k = (S k : Int)) (h3 : ∀ k, k < m0 → μ 56 k = (S k : Int)) : ∀ i, fmI μ S q m0 i 54 0 = (((i + 1) * m0 : Nat) : Int) ∧ (∀ k, k < (i + 1) * m0 → fmI μ S q m0 i 55 k = (fI S q m0 i k : Int)) ∧ (∀ k, k < m0 → fmI μ S q m0 i 56 k = (S k : Int)) ∧ (∀ b, b ≠ 54 → b ≠ 55 → fmI μ S q m0 i b = μ b) := by
  intro i
  induction i with
  | zero =>
    rw [Nat.zero_add, Nat.one_mul]
    exact ⟨h1, h2, h3, fun _ _ _ => rfl⟩
  | succ i ih =>
    have em : (i + 1 + 1) * m0 = (i + 1) * m0 + m0 := Nat.succ_mul _ _
    rw [em]
    refine ⟨?_, ?_, ?_, ?_⟩
    · show stS (upS (fmI μ S q m0 i) 54 0 _) 55 _ _ 54 0 = _
      rw [stS_cell (by decide), ups_eq]
    · intro k hk
      show stS (upS (fmI μ S q m0 i) 54 0 _) 55 _ _ 55 k = _
      rw [stS_in hk]
    · intro k hk
      show stS (upS (fmI μ S q m0 i) 54 0 _) 55 _ _ 56 k = _
      rw [stS_cell (by decide), ups_cell (by decide)]
      exact ih.2.2.1 k hk
    · intro b hb1 hb2
      show stS (upS (fmI μ S q m0 i) 54 0 _) 55 _ _ b = _
      rw [stS_cell hb2, ups_cell hb1]
      exact ih.2.2.2 b hb1 hb2
theorem fmF_ok {σ : Sg} {N : Tn} {p : Nat} : ∀ c, fmF σ N p c 54 0 = (fM N p c : Int) ∧ (∀ k, k < fM N p c → fmF σ N p c 55 k = (fS N p c k : Int)) ∧ (∀ b, b ≠ 54 → b ≠ 55 → b ≠ 56 → fmF σ N p c b = σ b) := by
  intro c
  induction c with
  | zero =>
    refine ⟨ups_eq, ?_, fun b h1 h2 _ => by show upS (upS σ 55 0 1) 54 0 1 b = σ b; rw [ups_cell h1, ups_cell h2]⟩
    intro k hk
    have hk : k < 1 := hk
    show upS (upS σ 55 0 1) 54 0 1 55 k = 1
    rw [ups_cell (by decide), show k = 0 by omega, ups_eq]
  | succ c ih =>
    obtain ⟨g1, g2, g3⟩ := ih
    have := fmI_ok (μ := cpS (fmF σ N p c) 55 0 56 0 (fM N p c)) (S := fS N p c) (q := N (4 + c)) (m0 := fM N p c) (by rw [cps_cell (by decide)]; exact g1) (fun k hk => by rw [cps_cell (by decide)]; exact g2 k hk) (fun k hk => by rw [cps_in hk]; exact g2 k hk) (hN N p c)
    obtain ⟨k1, k2, k3, k4⟩ := this
    have em : fM N p (c + 1) = (hN N p c + 1) * fM N p c := by rw [fM_s, Nat.mul_comm]
    rw [em]
    exact ⟨k1, k2, fun b h1 h2 h3 => (k4 b h1 h2).trans (by rw [cps_cell h3]; exact g3 b h1 h2 h3)⟩
theorem wP_le {N : Tn} (hW : WFN N) {p c : Nat} (hp : p < 5) (hc : c ≤ N 1) : wP N p c ≤ 760231058654565217 := wN_part hW hc (mN_le hW hp)
theorem ctX4_fill {d p : Nat} {N : Tn} (hd : 2 ≤ d) (hW : WFN N) (hp : p < 5) {σ : Sg} (hR : RowT σ 7 N) : Ct d MX4_fill [rV 13 54, rV 17 7, iV (p : Int)] σ (.inl []) (fmF σ N p (N 1)) := by
  have h8 := hW.1.1
  refine (eX4_fill (d := 1) ?_).mono hd
  intro X Xr Xt hC hr
  refine bX4_fill_0 hC ?_
  have hRf : ∀ c, RowT (fmF σ N p c) 7 N := fun c => RowT_fr hR (fun i hi => (fmF_ok c).2.2 _ (by omega) (by omega) (by omega))
  have key : ∀ c, c ≤ N 1 → X 14 [rV 13 54, rV 17 7, iV (p : Int), iV (c : Int), uV, uV] [] (fmF σ N p c) := by
    refine loop_up (P := fun c => X 14 [rV 13 54, rV 17 7, iV (p : Int), iV (c : Int), uV, uV] [] (fmF σ N p c)) ?_ ?_
    · refine bX4_fill_14 hC ?_
      rw [(hRf _).1 1 (by decide), if_neg (by omega)]
      exact hr
    · intro c hc ih
      obtain ⟨f1, f2, f3⟩ := fmF_ok (σ := σ) (N := N) (p := p) c
      have hm := fM_le hW hp (show c ≤ 8 by omega)
      have hm2 := fM_le hW hp (show c + 1 ≤ 8 by omega)
      rw [fM_s] at hm2
      have hq := hW.2.1 c hc
      obtain ⟨s1, s2, s3⟩ := fS_ok hW (p := p) c (by omega)
      have hIok := fmI_ok (μ := cpS (fmF σ N p c) 55 0 56 0 (fM N p c)) (S := fS N p c) (q := N (4 + c)) (m0 := fM N p c) (by rw [cps_cell (by decide)]; exact f1) (fun k hk => by rw [cps_cell (by decide)]; exact f2 k hk) (fun k hk => by rw [cps_in hk]; exact f2 k hk)
      have hFok := fI_ok (q := N (4 + c)) (by omega) s1 s2
      obtain ⟨m0, hm0⟩ : ∃ m0, m0 = fM N p c := ⟨_, rfl⟩
      rw [← hm0] at f1 f2 hm hm2 hIok hFok
      have hRI : ∀ i, RowT (fmI (cpS (fmF σ N p c) 55 0 56 0 m0) (fS N p c) (N (4 + c)) m0 i) 7 N := fun i => RowT_fr hR (fun j hj => by rw [(hIok i).2.2.2 _ (by omega) (by omega), cps_cell (by omega)]; exact f3 _ (by omega) (by omega) (by omega))
      refine bX4_fill_14 hC ?_
      rw [(hRf _).1 1 (by decide), if_pos (by omega), f1, Int.toNat_natCast]
      refine ⟨by omega, ?_⟩
      have ih : X 14 [rV 13 54, rV 17 7, iV (p : Int), iV ((c + 1 : Nat) : Int), uV, uV] [] (fmI (cpS (fmF σ N p c) 55 0 56 0 m0) (fS N p c) (N (4 + c)) m0 (hN N p c)) := by rw [hm0]; exact ih
      have key2 : ∀ i, i ≤ hN N p c → X 46 [rV 13 54, rV 17 7, iV (p : Int), iV (c : Int), iV (m0 : Int), iV (i : Int)] [] (fmI (cpS (fmF σ N p c) 55 0 56 0 m0) (fS N p c) (N (4 + c)) m0 i) := by
        refine loop_up (P := fun i => X 46 [rV 13 54, rV 17 7, iV (p : Int), iV (c : Int), iV (m0 : Int), iV (i : Int)] [] (fmI (cpS (fmF σ N p c) 55 0 56 0 m0) (fS N p c) (N (4 + c)) m0 i)) ?_ ?_
        · refine bX4_fill_46 hC ?_
          refine ⟨_, ctX8_held (by decide) hp (by omega) (hRI _), ?_⟩
          rw [if_neg (by omega), w32_s (by omega)]
          exact ih
        · intro i hi ihi
          obtain ⟨g1, g2, g3, g4⟩ := hIok i
          have hh9 := hN_le hW hp (show c < 8 by omega)
          obtain ⟨k1, k2, k3⟩ := hFok i
          have hb : (i + 1) * m0 + m0 ≤ 384 := by
            have e1 : (i + 1) * m0 + m0 = (i + 2) * m0 := (Nat.succ_mul (i + 1) m0).symm
            have e2 : (i + 2) * m0 ≤ (hN N p c + 1) * m0 := Nat.mul_le_mul_right _ (by omega)
            rw [e1]
            rw [Nat.mul_comm] at hm2
            exact Nat.le_trans e2 hm2
          refine bX4_fill_46 hC ?_
          refine ⟨_, ctX8_held (by decide) hp (by omega) (hRI _), ?_⟩
          rw [if_pos (by omega), g1, ← Int.natCast_add, w32_n (show (i + 1) * m0 + m0 < 2147483648 by omega), if_neg (by omega), w32_s (show i < 2147483647 by omega)]
          refine ⟨_, ctX8_primeOf (by decide) hW hc (hRI _), _, ctX4_mergeTimes (by decide) g1 hb g2 g3 ?_, ihi⟩
          intro k hk
          have a1 := (k2 k hk).2
          have a2 : wP N p c * N (4 + c) ^ i * N (4 + c) ≤ wP N p c * N (4 + c) ^ hN N p c := by
            rw [Nat.mul_assoc, ← Nat.pow_succ]
            exact Nat.mul_le_mul_left _ (Nat.pow_le_pow_right (by omega) hi)
          have a3 : wP N p c * N (4 + c) ^ hN N p c ≤ 760231058654565217 := wP_le hW hp (c := c + 1) hc
          have a4 := Nat.mul_le_mul_right (N (4 + c)) a1
          exact Nat.lt_of_le_of_lt (Nat.le_trans a4 (Nat.le_trans a2 a3)) (by decide)
      exact key2 0 (Nat.zero_le _)
  exact key 0 (Nat.zero_le _)
