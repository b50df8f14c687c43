/-! PRICES in order: sums over rows, sorted rows, merging, inserting -/
theorem sumN_l (f : Nat → Nat) : ∀ n, sumN f (n + 1) = f 0 + sumN (fun i => f (i + 1)) n := by
  intro n
  induction n with
  | zero => show 0 + f 0 = f 0 + 0; omega
  | succ n ih => rw [sumN_s, ih, sumN_s]; omega
theorem sumN_m (f : Nat → Nat) (m : Nat) : ∀ n, sumN f (m * n) = sumN (fun i => sumN (fun j => f (m * i + j)) m) n := by
  have h1 : ∀ a b, sumN f (a + b) = sumN f a + sumN (fun j => f (a + j)) b := by
    intro a b
    induction b with
    | zero => rfl
    | succ b ih => rw [← Nat.add_assoc, sumN_s, ih, sumN_s]; omega
  intro n
  induction n with
  | zero => rw [Nat.mul_zero]; rfl
  | succ n ih => rw [Nat.mul_succ, h1, ih, sumN_s]
def ud (F : Nat → Nat) (i v : Nat) : Nat → Nat := fun j => if j = i then v else F j
theorem ud_eq (F : Nat → Nat) (i v : Nat) : ud F i v i = v := if_pos rfl
theorem ud_ne {F : Nat → Nat} {i v j : Nat} (h : j ≠ i) : ud F i v j = F j := if_neg h
theorem sumN_ud {P : Nat → Nat} {F : Nat → Nat} {n v : Nat} : sumN (fun k => P (ud F n v k)) (n + 1) = sumN (fun k => P (F k)) n + P v := by
  rw [sumN_s, ud_eq, sumN_congr (g := fun k => P (F k)) (fun i hi => by rw [ud_ne (by omega)])]
def srt (S : Nat → Nat) (n : Nat) : Prop := ∀ i j, i ≤ j → j < n → S i ≤ S j
def cnt (S : Nat → Nat) (x n : Nat) : Nat := sumN (fun i => if S i ≤ x then 1 else 0) n
theorem cnt_le (S : Nat → Nat) (x n : Nat) : cnt S x n ≤ n := by
  have : cnt S x n ≤ n * 1 := sumN_bound (fun i hi => by split <;> omega)
  omega
theorem cnt_all {S : Nat → Nat} {x : Nat} : ∀ n, (∀ i, i < n → S i ≤ x) → cnt S x n = n := by
  intro n
  induction n with
  | zero => intro _; rfl
  | succ n ih =>
    intro h
    show cnt S x n + (if S n ≤ x then 1 else 0) = n + 1
    rw [ih (fun i hi => h i (by omega)), if_pos (h n (by omega))]
theorem cnt_iff {S : Nat → Nat} {x : Nat} : ∀ n, srt S n → ∀ k, k < n → (S k ≤ x ↔ k < cnt S x n) := by
  intro n
  induction n with
  | zero => intro _ k hk; exact absurd hk (Nat.not_lt_zero k)
  | succ n ih =>
    intro hs k hk
    by_cases a : S n ≤ x
    · rw [cnt_all (n + 1) (fun i hi => Nat.le_trans (hs i n (by omega) (by omega)) a)]
      exact ⟨fun _ => hk, fun _ => Nat.le_trans (hs k n (by omega) (by omega)) a⟩
    · have e : cnt S x (n + 1) = cnt S x n := by
        show cnt S x n + (if S n ≤ x then 1 else 0) = cnt S x n
        rw [if_neg a]
        rfl
      rw [e]
      by_cases q : k = n
      · have := cnt_le S x n
        rw [q]
        exact ⟨fun z => absurd z a, fun z => by omega⟩
      · exact ih (fun i j h1 h2 => hs i j h1 (by omega)) k (by omega)
theorem srt_eq {S T : Nat → Nat} {n : Nat} (hS : srt S n) (hT : srt T n) (h : ∀ P : Nat → Nat, sumN (fun i => P (S i)) n = sumN (fun i => P (T i)) n) : ∀ k, k < n → S k = T k := by
  intro k hk
  have hc : ∀ x, cnt S x n = cnt T x n := fun x => h (fun v => if v ≤ x then 1 else 0)
  have h1 : S k ≤ T k := (cnt_iff n hS k hk).mpr (by rw [hc]; exact (cnt_iff n hT k hk).mp (Nat.le_refl _))
  have h2 : T k ≤ S k := (cnt_iff n hT k hk).mpr (by rw [← hc]; exact (cnt_iff n hS k hk).mp (Nat.le_refl _))
  omega
/-- sums over all prices of the first c coins -/
def GP (N : Tn) (p : Nat) : Nat → (Nat → Nat) → Nat
  | 0, P => P 1
  | c + 1, P => sumN (fun i => GP N p c (fun v => P (v * N (4 + c) ^ i))) (hN N p c + 1)
theorem GP_s (N : Tn) (p c : Nat) (P : Nat → Nat) : GP N p (c + 1) P = sumN (fun i => GP N p c (fun v => P (v * N (4 + c) ^ i))) (hN N p c + 1) := rfl
theorem GP_one (N : Tn) (p : Nat) : ∀ c (P : Nat → Nat), P 1 ≤ GP N p c P := by
  intro c
  induction c with
  | zero => intro P; exact Nat.le_refl _
  | succ c ih =>
    intro P
    rw [GP_s]
    have h1 := ih (fun v => P (v * N (4 + c) ^ 0))
    have h2 : P (1 * N (4 + c) ^ 0) = P 1 := by rw [Nat.pow_zero]
    have h1 : P (1 * N (4 + c) ^ 0) ≤ GP N p c (fun v => P (v * N (4 + c) ^ 0)) := h1
    rw [h2] at h1
    exact Nat.le_trans h1 (sumN_le_one (f := fun i => GP N p c (fun v => P (v * N (4 + c) ^ i))) (i := 0) (by omega))
/-- how many prices the first c coins give -/
def fM (N : Tn) (p c : Nat) : Nat := prodN (fun e => hN N p e + 1) c
theorem fM_s (N : Tn) (p c : Nat) : fM N p (c + 1) = fM N p c * (hN N p c + 1) := rfl
theorem fM_pos (N : Tn) (p c : Nat) : 0 < fM N p c := prodN_pos (fun i _ => by omega)
def tb (n s : Nat) : Nat := if n = 0 then 1 else (s / n + 1) ^ (n - s % n) * (s / n + 2) ^ (s % n)
theorem tb_st : ∀ n : Fin 8, ∀ s x : Fin 10, s.val + x.val ≤ 9 → tb n.val s.val * (x.val + 1) ≤ tb (n.val + 1) (s.val + x.val) := by decide +kernel
theorem tb_le : ∀ n : Fin 9, ∀ s : Fin 10, tb n.val s.val ≤ 384 := by decide +kernel
theorem fM_le {N : Tn} (hW : WFN N) {p c : Nat} (hp : p < 5) (hc : c ≤ 8) : fM N p c ≤ 384 := by
  have h9 := hW.2.2.2.1 p hp
  have key : ∀ c, c ≤ 8 → fM N p c ≤ tb c (sumN (hN N p) c) := by
    intro c
    induction c with
    | zero => intro _; exact Nat.le_refl 1
    | succ c ih =>
      intro hc
      have hs : sumN (hN N p) (c + 1) ≤ sumN (hN N p) 8 := sumN_mono hc
      rw [sumN_s] at hs
      have := tb_st ⟨c, by omega⟩ ⟨sumN (hN N p) c, by omega⟩ ⟨hN N p c, by omega⟩ (by show sumN (hN N p) c + hN N p c ≤ 9; omega)
      have h1 := Nat.mul_le_mul_right (hN N p c + 1) (ih (by omega))
      rw [fM_s, sumN_s]
      exact Nat.le_trans h1 this
  have hs : sumN (hN N p) c ≤ sumN (hN N p) 8 := sumN_mono hc
  exact Nat.le_trans (key c hc) (tb_le ⟨c, by omega⟩ ⟨sumN (hN N p) c, by omega⟩)
/-! merging the first a of A (times q) and the first b of B -/
def mg (A B : Nat → Nat) (q : Nat) : Nat → Nat → Nat → Nat → Nat
  | 0, _, _ => fun _ => 0
  | n + 1, a, b => if a = 0 then ud (mg A B q n a (b - 1)) n (B (b - 1)) else if b = 0 then ud (mg A B q n (a - 1) b) n (A (a - 1) * q) else if B (b - 1) < A (a - 1) * q then ud (mg A B q n (a - 1) b) n (A (a - 1) * q) else ud (mg A B q n a (b - 1)) n (B (b - 1))
theorem mg_s (A B : Nat → Nat) (q n a b : Nat) : mg A B q (n + 1) a b = if a = 0 then ud (mg A B q n a (b - 1)) n (B (b - 1)) else if b = 0 then ud (mg A B q n (a - 1) b) n (A (a - 1) * q) else if B (b - 1) < A (a - 1) * q then ud (mg A B q n (a - 1) b) n (A (a - 1) * q) else ud (mg A B q n a (b - 1)) n (B (b - 1)) := rfl
/-- of a merge step: what it takes -/
theorem mg_cases (A B : Nat → Nat) (q n a b : Nat) (h : a + b = n + 1) : (0 < a ∧ (b = 0 ∨ B (b - 1) < A (a - 1) * q) ∧ mg A B q (n + 1) a b = ud (mg A B q n (a - 1) b) n (A (a - 1) * q)) ∨ (0 < b ∧ (a = 0 ∨ A (a - 1) * q ≤ B (b - 1)) ∧ mg A B q (n + 1) a b = ud (mg A B q n a (b - 1)) n (B (b - 1))) := by
  rw [mg_s]
  by_cases h1 : a = 0
  · rw [if_pos h1]; exact Or.inr ⟨by omega, Or.inl h1, rfl⟩
  rw [if_neg h1]
  by_cases h2 : b = 0
  · rw [if_pos h2]; exact Or.inl ⟨by omega, Or.inl h2, rfl⟩
  rw [if_neg h2]
  by_cases h3 : B (b - 1) < A (a - 1) * q
  · rw [if_pos h3]; exact Or.inl ⟨by omega, Or.inr h3, rfl⟩
  · rw [if_neg h3]; exact Or.inr ⟨by omega, Or.inr (by omega), rfl⟩
theorem mg_all (A B : Nat → Nat) (q : Nat) (Q : Nat → Prop) : ∀ n a b, a + b = n → (∀ k, k < a → Q (A k * q)) → (∀ k, k < b → Q (B k)) → ∀ j, j < n → Q (mg A B q n a b j) := by
  intro n
  induction n with
  | zero => intro a b _ _ _ j hj; exact absurd hj (Nat.not_lt_zero j)
  | succ n ih =>
    intro a b hab hA hB j hj
    rcases mg_cases A B q n a b hab with ⟨h1, _, e⟩ | ⟨h1, _, e⟩
    · rw [e]
      by_cases z : j = n
      · rw [z, ud_eq]; exact hA _ (by omega)
      · rw [ud_ne z]; exact ih (a - 1) b (by omega) (fun k hk => hA k (by omega)) hB j (by omega)
    · rw [e]
      by_cases z : j = n
      · rw [z, ud_eq]; exact hB _ (by omega)
      · rw [ud_ne z]; exact ih a (b - 1) (by omega) hA (fun k hk => hB k (by omega)) j (by omega)
theorem mg_sum (A B : Nat → Nat) (q : Nat) (P : Nat → Nat) : ∀ n a b, a + b = n → sumN (fun k => P (mg A B q n a b k)) n = sumN (fun k => P (A k * q)) a + sumN (fun k => P (B k)) b := by
  intro n
  induction n with
  | zero => intro a b h; rw [show a = 0 by omega, show b = 0 by omega]; rfl
  | succ n ih =>
    intro a b hab
    rcases mg_cases A B q n a b hab with ⟨h1, _, e⟩ | ⟨h1, _, e⟩
    · have e2 : sumN (fun k => P (A k * q)) a = sumN (fun k => P (A k * q)) (a - 1) + P (A (a - 1) * q) := by
        have := sumN_s (fun k => P (A k * q)) (a - 1)
        rw [show a - 1 + 1 = a by omega] at this
        exact this
      rw [e, sumN_ud, ih (a - 1) b (by omega), e2]
      omega
    · have e2 : sumN (fun k => P (B k)) b = sumN (fun k => P (B k)) (b - 1) + P (B (b - 1)) := by
        have := sumN_s (fun k => P (B k)) (b - 1)
        rw [show b - 1 + 1 = b by omega] at this
        exact this
      rw [e, sumN_ud, ih a (b - 1) (by omega), e2]
      omega
theorem mg_srt (A B : Nat → Nat) (q : Nat) : ∀ n a b, a + b = n → srt A a → srt B b → srt (mg A B q n a b) n := by
  intro n
  induction n with
  | zero => intro a b _ _ _ i j _ hj; exact absurd hj (Nat.not_lt_zero j)
  | succ n ih =>
    intro a b hab hA hB i j hij hj
    rcases mg_cases A B q n a b hab with ⟨h1, h2, e⟩ | ⟨h1, h2, e⟩
    · have ihh := ih (a - 1) b (by omega) (fun i j h1 h2 => hA i j h1 (by omega)) hB
      have hall := mg_all A B q (fun v => v ≤ A (a - 1) * q) n (a - 1) b (by omega) (fun k hk => Nat.mul_le_mul_right _ (hA k (a - 1) (by omega) (by omega))) (fun k hk => by
        rcases h2 with z | z
        · omega
        · exact Nat.le_trans (hB k (b - 1) (by omega) (by omega)) (Nat.le_of_lt z))
      rw [e]
      by_cases z : j = n
      · rw [z, ud_eq]
        by_cases y : i = n
        · rw [y, ud_eq]; exact Nat.le_refl _
        · rw [ud_ne y]; exact hall i (by omega)
      · rw [ud_ne z, ud_ne (by omega)]; exact ihh i j hij (by omega)
    · have ihh := ih a (b - 1) (by omega) hA (fun i j h1 h2 => hB i j h1 (by omega))
      have hall := mg_all A B q (fun v => v ≤ B (b - 1)) n a (b - 1) (by omega) (fun k hk => by
        rcases h2 with z | z
        · omega
        · exact Nat.le_trans (Nat.mul_le_mul_right _ (hA k (a - 1) (by omega) (by omega))) z) (fun k hk => hB k (b - 1) (by omega) (by omega))
      rw [e]
      by_cases z : j = n
      · rw [z, ud_eq]
        by_cases y : i = n
        · rw [y, ud_eq]; exact Nat.le_refl _
        · rw [ud_ne y]; exact hall i (by omega)
      · rw [ud_ne z, ud_ne (by omega)]; exact ihh i j hij (by omega)
/-! inserting v at j or ahead of it -/
def inG (F : Nat → Nat) (v : Nat) : Nat → Nat → Nat
  | 0 => ud F 0 v
  | j + 1 => if v < F j then inG (ud F (j + 1) (F j)) v j else ud F (j + 1) v
theorem inG_s (F : Nat → Nat) (v j : Nat) : inG F v (j + 1) = if v < F j then inG (ud F (j + 1) (F j)) v j else ud F (j + 1) v := rfl
theorem inG_hi {v : Nat} : ∀ j (F : Nat → Nat) k, j < k → inG F v j k = F k := by
  intro j
  induction j with
  | zero => intro F k hk; exact ud_ne (by omega)
  | succ j ih =>
    intro F k hk
    rw [inG_s]
    split
    · rw [ih _ k (by omega), ud_ne (by omega)]
    · exact ud_ne (by omega)
theorem inG_all {v : Nat} {Q : Nat → Prop} (hv : Q v) : ∀ j (F : Nat → Nat), (∀ k, k < j → Q (F k)) → ∀ k, k ≤ j → Q (inG F v j k) := by
  intro j
  induction j with
  | zero => intro F _ k hk; rw [show k = 0 by omega]; show Q (ud F 0 v 0); rw [ud_eq]; exact hv
  | succ j ih =>
    intro F hF k hk
    rw [inG_s]
    split
    · by_cases z : k = j + 1
      · rw [z, inG_hi j _ (j + 1) (by omega), ud_eq]; exact hF j (by omega)
      · refine ih _ (fun i hi => ?_) k (by omega)
        rw [ud_ne (by omega)]; exact hF i (by omega)
    · by_cases z : k = j + 1
      · rw [z, ud_eq]; exact hv
      · rw [ud_ne z]; exact hF k (by omega)
theorem inG_sum {v : Nat} {P : Nat → Nat} : ∀ j (F : Nat → Nat), sumN (fun k => P (inG F v j k)) (j + 1) = sumN (fun k => P (F k)) j + P v := by
  intro j
  induction j with
  | zero => intro F; exact sumN_ud
  | succ j ih =>
    intro F
    rw [inG_s]
    split
    · rw [sumN_s, ih, inG_hi j _ (j + 1) (by omega), ud_eq, sumN_s, sumN_congr (g := fun k => P (F k)) (fun i hi => by rw [ud_ne (by omega)])]
      omega
    · exact sumN_ud
theorem inG_srt {v : Nat} : ∀ j (F : Nat → Nat), srt F j → srt (inG F v j) (j + 1) := by
  intro j
  induction j with
  | zero => intro F _ a b h1 h2; rw [show a = 0 by omega, show b = 0 by omega]; exact Nat.le_refl _
  | succ j ih =>
    intro F hF a b h1 h2
    rw [inG_s]
    split
    · rename_i hv
      have hG : srt (ud F (j + 1) (F j)) j := fun i k h3 h4 => by rw [ud_ne (by omega), ud_ne (by omega)]; exact hF i k h3 (by omega)
      by_cases z : b = j + 1
      · rw [z, inG_hi j _ (j + 1) (by omega), ud_eq]
        by_cases y : a = j + 1
        · rw [y, inG_hi j _ (j + 1) (by omega), ud_eq]; exact Nat.le_refl _
        · exact inG_all (Q := fun w => w ≤ F j) (Nat.le_of_lt hv) j _ (fun k hk => by rw [ud_ne (by omega)]; exact hF k j (by omega) (by omega)) a (by omega)
      · exact ih _ hG a b h1 (by omega)
    · rename_i hv
      by_cases z : b = j + 1
      · rw [z, ud_eq]
        by_cases y : a = j + 1
        · rw [y, ud_eq]; exact Nat.le_refl _
        · rw [ud_ne y]; exact Nat.le_trans (hF a j (by omega) (by omega)) (by omega)
      · rw [ud_ne z, ud_ne (by omega)]; exact hF a b h1 (by omega)
/-- inserted one by one -/
def isF (L : Nat → Nat) : Nat → Nat → Nat
  | 0 => L
  | i + 1 => if i = 0 then L else inG (isF L i) (isF L i i) i
theorem isF_s (L : Nat → Nat) {i : Nat} (h : i ≠ 0) : isF L (i + 1) = inG (isF L i) (isF L i i) i := if_neg h
theorem isF_ok (L : Nat → Nat) : ∀ i, srt (isF L i) i ∧ (∀ k, i ≤ k → isF L i k = L k) ∧ (∀ P : Nat → Nat, sumN (fun k => P (isF L i k)) i = sumN (fun k => P (L k)) i) ∧ (∀ Q : Nat → Prop, (∀ k, k < i → Q (L k)) → ∀ k, k < i → Q (isF L i k)) := by
  intro i
  induction i with
  | zero => exact ⟨fun _ j _ h => absurd h (Nat.not_lt_zero j), fun _ _ => rfl, fun _ => rfl, fun _ h => h⟩
  | succ i ih =>
    by_cases z : i = 0
    · have e : isF L (i + 1) = L := if_pos z
      rw [e, z]
      exact ⟨fun a b h1 h2 => by rw [show a = 0 by omega, show b = 0 by omega]; exact Nat.le_refl _, fun _ _ => rfl, fun _ => rfl, fun _ h => h⟩
    · rw [isF_s L z]
      obtain ⟨h1, h2, h3, h4⟩ := ih
      refine ⟨inG_srt i _ h1, fun k hk => by rw [inG_hi i _ k (by omega)]; exact h2 k (by omega), ?_, ?_⟩
      · intro P
        rw [inG_sum, h3, h2 i (Nat.le_refl i), sumN_s]
      · intro Q hQ k hk
        refine inG_all (by rw [h2 i (Nat.le_refl i)]; exact hQ i (by omega)) i _ (fun k hk => h4 Q (fun k hk => hQ k (by omega)) k hk) k (by omega)
