/-! PURSES MET: the pure search and the class's -/
def inl (M : Nat → Nat) : Nat → Nat → Bool
  | 0, _ => false
  | n + 1, D => inl M n D || decide (M n = D)
theorem inl_t {M : Nat → Nat} {D : Nat} : ∀ n, inl M n D = true ↔ ∃ i, i < n ∧ M i = D := by
  intro n
  induction n with
  | zero => exact ⟨fun h => Bool.noConfusion h, fun ⟨i, h, _⟩ => absurd h (Nat.not_lt_zero i)⟩
  | succ n ih =>
    show (inl M n D || decide (M n = D)) = true ↔ _
    rw [Bool.or_eq_true, ih, decide_eq_true_iff]
    constructor
    · intro h
      rcases h with ⟨i, h1, h2⟩ | h
      · exact ⟨i, by omega, h2⟩
      · exact ⟨n, by omega, h⟩
    · rintro ⟨i, h1, h2⟩
      by_cases e : i = n
      · rw [e] at h2; exact Or.inr h2
      · exact Or.inl ⟨i, by omega, h2⟩
theorem inl_ud (M : Nat → Nat) (D E : Nat) : ∀ n, inl (ud M n D) (n + 1) E = (inl M n E || decide (D = E)) := by
  intro n
  show (inl (ud M n D) n E || decide (ud M n D n = E)) = _
  rw [ud_eq]
  congr 1
  have : ∀ k, k ≤ n → inl (ud M n D) k E = inl M k E := by
    intro k
    induction k with
    | zero => intro _; rfl
    | succ k ih =>
      intro hk
      show (inl (ud M n D) k E || decide (ud M n D k = E)) = (inl M k E || decide (M k = E))
      rw [ih (by omega), ud_ne (by omega)]
  exact this n (Nat.le_refl n)
abbrev Qs : Type := (Nat → Nat) × Nat
def mtS (S : Qs) (D : Nat) : Qs := if inl S.1 S.2 D = true then S else (ud S.1 S.2 D, S.2 + 1)
def cvV (N : Tn) (k D c : Nat) : Nat := dg D c - sN N k 0 c + sN N k 1 c
def cvP (N : Tn) (k D : Nat) : Bool := (List.range 8).all (fun c => decide (sN N k 0 c ≤ dg D c))
theorem cvP_t {N : Tn} {k D : Nat} : cvP N k D = true ↔ ∀ c, c < 8 → sN N k 0 c ≤ dg D c := by
  unfold cvP
  rw [List.all_eq_true]
  constructor
  · intro h c hc; exact of_decide_eq_true (h c (List.mem_range.mpr hc))
  · intro h c hc; exact decide_eq_true (h c (List.mem_range.mp hc))
theorem cvP_f {N : Tn} {k D c : Nat} (hc : c < 8) (h : dg D c < sN N k 0 c) : cvP N k D = false := by
  cases e : cvP N k D with
  | false => rfl
  | true => have := cvP_t.mp e c hc; omega
def cvB (N : Tn) (k D : Nat) : Bool := cvP N k D && decide (sumN (cvV N k D) 8 ≤ 9)
def cvN (N : Tn) (k D : Nat) : Nat := cdB 10 (cvV N k D) 8
def cvS (N : Tn) (k D : Nat) (S : Qs) : Qs := if cvB N k D = true then mtS S (cvN N k D) else S
def stK (N : Tn) (D : Nat) : Nat → Nat → Qs → Qs
  | 0, _, S => S
  | r + 1, k, S => stK N D r (k + 1) (cvS N k D S)
def stI (N : Tn) : Nat → Nat → Qs → Qs
  | 0, _, S => S
  | r + 1, i, S => stI N r (i + 1) (stK N (S.1 i) (N 3) 0 S)
def VS (N : Tn) (S : Qs) : Prop := ∀ i, i < S.2 → okD N (S.1 i)
/-- S grew to T by at most m -/
def gr (m : Nat) (S T : Qs) : Prop := S.2 ≤ T.2 ∧ T.2 ≤ S.2 + m ∧ ∀ i, i < S.2 → T.1 i = S.1 i
theorem gr.refl (S : Qs) : gr 0 S S := ⟨Nat.le_refl _, Nat.le_refl _, fun _ _ => rfl⟩
theorem gr.trans {a b : Nat} {S T U : Qs} (h : gr a S T) (g : gr b T U) : gr (a + b) S U := ⟨Nat.le_trans h.1 g.1, by have := h.2.1; have := g.2.1; omega, fun i hi => (g.2.2 i (Nat.lt_of_lt_of_le hi h.1)).trans (h.2.2 i hi)⟩
theorem gr.mono {a b : Nat} {S T : Qs} (h : gr a S T) (hab : a ≤ b) : gr b S T := ⟨h.1, by have := h.2.1; omega, h.2.2⟩
theorem mtS_gr (S : Qs) (D : Nat) : gr 1 S (mtS S D) := by
  unfold mtS
  split
  · exact (gr.refl S).mono (by decide)
  · exact ⟨Nat.le_succ _, Nat.le_refl _, fun i hi => ud_ne (by omega)⟩
theorem mtS_ok {N : Tn} {S : Qs} {D : Nat} (h : VS N S) (hD : okD N D) : VS N (mtS S D) := by
  unfold mtS
  split
  · exact h
  · intro i hi
    have hi : i < S.2 + 1 := hi
    show okD N (ud S.1 S.2 D i)
    by_cases e : i = S.2
    · rw [e, ud_eq]; exact hD
    · rw [ud_ne e]; exact h i (by omega)
theorem cv_ok {N : Tn} (hW : WFN N) {k D : Nat} (hk : k < 6) (hD : okD N D) (h : cvB N k D = true) : okD N (cvN N k D) ∧ ∀ c, c < 8 → dg (cvN N k D) c = cvV N k D c := by
  unfold cvB at h
  rw [Bool.and_eq_true, decide_eq_true_iff] at h
  have hle : ∀ c, c < 8 → cvV N k D c ≤ 9 := fun c hc => Nat.le_trans (sumN_le_one hc) h.2
  obtain ⟨h1, h2⟩ := code_of hle
  refine ⟨⟨h1, ?_, ?_⟩, h2⟩
  · intro c hc hn
    show dg (cdB 10 (cvV N k D) 8) c = 0
    rw [h2 c hc]
    unfold cvV
    rw [hD.2.1 c hc hn, hW.2.2.2.2.2.2.1 k 0 c hk (by decide) hc (Or.inr hn), hW.2.2.2.2.2.2.1 k 1 c hk (by decide) hc (Or.inr hn)]
  · have e : sumN (dg (cvN N k D)) 8 = sumN (cvV N k D) 8 := sumN_congr h2
    rw [e]
    exact h.2
theorem cvS_ok {N : Tn} (hW : WFN N) {k D : Nat} {S : Qs} (hk : k < 6) (hD : okD N D) (h : VS N S) : VS N (cvS N k D S) ∧ gr 1 S (cvS N k D S) := by
  unfold cvS
  split
  · rename_i q
    exact ⟨mtS_ok h (cv_ok hW hk hD q).1, mtS_gr _ _⟩
  · exact ⟨h, (gr.refl S).mono (by decide)⟩
theorem stK_ok {N : Tn} (hW : WFN N) {D : Nat} (hD : okD N D) : ∀ r k S, k + r ≤ 6 → VS N S → VS N (stK N D r k S) ∧ gr r S (stK N D r k S) := by
  intro r
  induction r with
  | zero => intro k S _ h; exact ⟨h, gr.refl S⟩
  | succ r ih =>
    intro k S hk h
    obtain ⟨h1, h2⟩ := cvS_ok hW (k := k) (by omega) hD h
    obtain ⟨h3, h4⟩ := ih (k + 1) _ (by omega) h1
    refine ⟨h3, ?_⟩
    have := h2.trans h4
    rw [Nat.add_comm] at this
    exact this
theorem stI_ok {N : Tn} (hW : WFN N) : ∀ r i S, i + r ≤ S.2 → VS N S → VS N (stI N r i S) ∧ gr (6 * r) S (stI N r i S) := by
  intro r
  induction r with
  | zero => intro i S _ h; exact ⟨h, gr.refl S⟩
  | succ r ih =>
    intro i S hi h
    have h6 := hW.1.2.2.1
    obtain ⟨h1, h2⟩ := stK_ok hW (h i (by omega)) (N 3) 0 S (by omega) h
    obtain ⟨h3, h4⟩ := ih (i + 1) _ (by have := h2.1; omega) h1
    refine ⟨h3, ?_⟩
    have := (h2.mono h6).trans h4
    rw [show 6 + 6 * r = 6 * (r + 1) by omega] at this
    exact this
/-! the class's memory -/
def gkN (N : Tn) (k s : Nat) : Nat := cdB 16 (sN N k s) 8
def CR (N : Tn) (σ : Sg) (S : Qs) : Prop := σ 57 0 = (S.2 : Int) ∧ (∀ i, i < S.2 → σ 58 i = w32 (pkc (S.1 i) : Int)) ∧ (∀ D, okD N D → (wb (σ 59 (rkD D / 64))).getLsbD (rkD D % 64) = inl S.1 S.2 D)
def CK (N : Tn) (σ : Sg) : Prop := σ 57 2 = (N 3 : Int) ∧ (∀ k, k < N 3 → σ 60 k = (gkN N k 0 : Int) ∧ σ 61 k = (gkN N k 1 : Int)) ∧ wyT (σ 62)
/-- only the purses met have changed -/
def FM (σ τ : Sg) : Prop := (∀ b, b ≠ 57 → b ≠ 58 → b ≠ 59 → τ b = σ b) ∧ ∀ j, j ≠ 0 → τ 57 j = σ 57 j
theorem FM.refl (σ : Sg) : FM σ σ := ⟨fun _ _ _ _ => rfl, fun _ _ => rfl⟩
theorem FM.trans {σ τ υ : Sg} (h : FM σ τ) (g : FM τ υ) : FM σ υ := ⟨fun b h1 h2 h3 => (g.1 b h1 h2 h3).trans (h.1 b h1 h2 h3), fun j hj => (g.2 j hj).trans (h.2 j hj)⟩
theorem CK_fm {N : Tn} {σ τ : Sg} (h : CK N σ) (f : FM σ τ) : CK N τ := by
  obtain ⟨h1, h2, h3⟩ := h
  refine ⟨by rw [f.2 2 (by decide)]; exact h1, fun k hk => ?_, ?_⟩
  · rw [f.1 60 (by decide) (by decide) (by decide), f.1 61 (by decide) (by decide) (by decide)]; exact h2 k hk
  · rw [f.1 62 (by decide) (by decide) (by decide)]; exact h3
theorem ctX6_meet {d D : Nat} {N : Tn} {S : Qs} {σ : Sg} (hd : 3 ≤ d) (hD : okD N D) (hw : wyT (σ 62)) (hC0 : CR N σ S) (hn : S.2 < 24310) : ∃ σ1, Ct d MX6_meet [rV 15 57, iV (w32 (pkc D : Int))] σ (.inl []) σ1 ∧ CR N σ1 (mtS S D) ∧ FM σ σ1 := by
  obtain ⟨c1, c2, c3⟩ := hC0
  have hrl := rkD_lt hD
  have hbit := c3 D hD
  obtain ⟨ρ, hρ⟩ : ∃ ρ, ρ = rkD D := ⟨_, rfl⟩
  have hrk : Ct 2 MX6_rankOf [rV 15 57, iV (w32 (pkc D : Int))] σ (.inl [iV (ρ : Int)]) σ := by rw [hρ]; exact ctX6_rankOf (by decide) hD hw
  rw [← hρ] at hrl hbit
  have ed : w32 ((ρ : Int).tdiv 64) = ((ρ / 64 : Nat) : Int) := by
    have : (ρ : Int).tdiv 64 = ((ρ / 64 : Nat) : Int) := tdiv_nat ρ 64
    rw [this, w32_n (show ρ / 64 < 2147483648 by omega)]
  have em : (ρ : Int).tmod 64 = ((ρ % 64 : Nat) : Int) := tmod_nat ρ 64
  cases hin : inl S.1 S.2 D with
  | true =>
    have hm : mtS S D = S := if_pos hin
    rw [hm]
    refine ⟨σ, ?_, ⟨c1, c2, c3⟩, FM.refl σ⟩
    refine (eX6_meet (d := 2) ?_).mono hd
    intro X Xr Xt hC hr
    refine bX6_meet_0 hC ?_
    refine ⟨_, hrk, ?_⟩
    rw [c1, ed, em, if_pos (by clear ed em; omega), if_neg (by clear ed em; omega), if_pos (by clear ed em; omega), Int.toNat_natCast, if_neg (fun q => by
      have := (bit_0 (show ρ % 64 < 64 by clear ed em; omega)).mp q
      rw [hbit, hin] at this
      exact Bool.noConfusion this)]
    exact ⟨by clear ed em; omega, hr⟩
  | false =>
    have hm : mtS S D = (ud S.1 S.2 D, S.2 + 1) := if_neg (by rw [hin]; decide)
    rw [hm]
    obtain ⟨w, hwd⟩ : ∃ w, w = lorI (σ 59 (ρ / 64)) (lshlI 1 ((ρ % 64 : Nat) : Int)) := ⟨_, rfl⟩
    refine ⟨upS (upS (upS σ 59 (ρ / 64) w) 58 S.2 (w32 (pkc D : Int))) 57 0 ((S.2 + 1 : Nat) : Int), ?_, ⟨ups_eq, ?_, ?_⟩, ?_, ?_⟩
    · refine (eX6_meet (d := 2) ?_).mono hd
      intro X Xr Xt hC hr
      refine bX6_meet_0 hC ?_
      refine ⟨_, hrk, ?_⟩
      rw [c1, ed, em, if_pos (by clear ed em; omega), if_neg (by clear ed em; omega), if_pos (by clear ed em; omega), Int.toNat_natCast, if_pos ((bit_0 (show ρ % 64 < 64 by clear ed em; omega)).mpr (by rw [hbit, hin])), ← hwd, ups_cell (show 57 ≠ 59 by decide), c1, Int.toNat_natCast, ups_cell (show 57 ≠ 58 by decide), ups_cell (show 57 ≠ 59 by decide), c1, w32_s (show S.2 < 2147483647 by clear ed em; omega)]
      exact ⟨by clear ed em; omega, by clear ed em; omega, by clear ed em; omega, by clear ed em; omega, hr⟩
    · intro i hi
      have hi : i < S.2 + 1 := hi
      show upS (upS (upS σ 59 (ρ / 64) w) 58 S.2 (w32 (pkc D : Int))) 57 0 ((S.2 + 1 : Nat) : Int) 58 i = w32 (pkc (ud S.1 S.2 D i) : Int)
      rw [ups_cell (by decide)]
      by_cases e : i = S.2
      · rw [e, ups_eq, ud_eq]
      · rw [ups_ne (Or.inr e), ups_cell (by decide), ud_ne e]
        exact c2 i (by clear ed em; omega)
    · intro E hE
      show (wb (upS (upS (upS σ 59 (ρ / 64) w) 58 S.2 (w32 (pkc D : Int))) 57 0 ((S.2 + 1 : Nat) : Int) 59 (rkD E / 64))).getLsbD (rkD E % 64) = inl (ud S.1 S.2 D) (S.2 + 1) E
      rw [ups_cell (by decide), ups_cell (by decide), inl_ud, ← c3 E hE]
      clear ed em hrk
      have hb : ρ % 64 < 64 := Nat.mod_lt _ (by decide)
      have hb2 : rkD E % 64 < 64 := Nat.mod_lt _ (by decide)
      by_cases q : rkD E / 64 = ρ / 64
      · rw [q, ups_eq, hwd, bit_or hb hb2]
        congr 1
        by_cases z : D = E
        · rw [decide_eq_true z, decide_eq_true (by rw [hρ, z])]
        · rw [decide_eq_false z, decide_eq_false]
          intro y
          apply z
          refine rkD_inj hD hE ?_
          rw [← hρ]
          omega
      · rw [ups_ne (Or.inr q)]
        have z : ¬ D = E := fun z => q (by rw [hρ, z])
        rw [decide_eq_false z, Bool.or_false]
    · intro b h1 h2 h3
      rw [ups_cell h1, ups_cell h2, ups_cell h3]
    · intro j hj
      rw [ups_ne (Or.inr hj), ups_cell (by decide), ups_cell (by decide)]
theorem cdB_lin {B : Nat} {a b e : Nat → Nat} : ∀ n, (∀ c, c < n → b c ≤ a c) → (cdB B (fun c => a c - b c + e c) n : Int) = (cdB B a n : Int) - (cdB B b n : Int) + (cdB B e n : Int) := by
  intro n
  induction n with
  | zero => intro _; rfl
  | succ n ih =>
    intro h
    have h1 := ih (fun c hc => h c (by omega))
    have h2 := h n (by omega)
    rw [cdB_s, cdB_s, cdB_s, cdB_s]
    have e2 : ((a n - b n + e n : Nat) : Int) = (a n : Int) - (b n : Int) + (e n : Int) := by omega
    rw [Int.natCast_add, Int.natCast_add, Int.natCast_add, Int.natCast_add, h1, Int.natCast_mul, Int.natCast_mul, Int.natCast_mul, Int.natCast_mul, e2, Int.add_mul, Int.sub_mul]
    omega
theorem w32_3 (p a b : Int) : w32 (w32 (w32 p - a) + b) = w32 (p - a + b) := by unfold w32; omega
theorem gk_lt {N : Tn} (hW : WFN N) {k s : Nat} (hk : k < 6) (hs : s < 2) : gkN N k s < 2147483648 := by
  have h : ∀ n, n ≤ 8 → cdB 16 (sN N k s) n ≤ cdB 16 (fun _ => 3) n := by
    intro n
    induction n with
    | zero => intro _; exact Nat.le_refl _
    | succ n ih =>
      intro hn
      rw [cdB_s, cdB_s]
      exact Nat.add_le_add (ih (by omega)) (Nat.mul_le_mul_right _ (sN_le hW hk hs (by omega)))
  exact Nat.lt_of_le_of_lt (h 8 (Nat.le_refl 8)) (by decide)
theorem gk_dg {N : Tn} (hW : WFN N) {k s c : Nat} (hk : k < 6) (hs : s < 2) (hc : c < 8) : dgB 16 (gkN N k s) c = sN N k s c := (cdB_ok (by decide) 8 (fun c hc => Nat.lt_of_le_of_lt (sN_le hW hk hs hc) (by decide))).2 c hc
theorem ctX6_oftN {d P c : Nat} (hd : 1 ≤ d) (hP : P < 2147483648) (hc : c < 8) {σ : Sg} : Ct d MX6_often [iV (P : Int), iV (c : Int)] σ (.inl [iV (dgB 16 P c : Int)]) σ := by
  have := ctX6_often (d := d) (P := P) (c := c) (σ := σ) hd (by omega) hc
  rw [w32_n hP] at this
  exact this
theorem ctX6_try {d D k : Nat} {N : Tn} {S : Qs} {σ : Sg} (hd : 4 ≤ d) (hW : WFN N) (hk : k < 6) (hD : okD N D) (hw : wyT (σ 62)) (hC0 : CR N σ S) (hn : S.2 < 24310) : ∃ σ1, Ct d MX6_tryChange [rV 15 57, iV (w32 (pkc D : Int)), iV (gkN N k 0 : Int), iV (gkN N k 1 : Int)] σ (.inl []) σ1 ∧ CR N σ1 (cvS N k D S) ∧ FM σ σ1 := by
  have g0 := gk_lt hW hk (show 0 < 2 by decide)
  have g1 := gk_lt hW hk (show 1 < 2 by decide)
  have o1 : ∀ c : Nat, c < 8 → Ct 3 MX6_often [iV (w32 (pkc D : Int)), iV (c : Int)] σ (.inl [iV (dg D c : Int)]) σ := fun c hc => by
    have := ctX6_often (d := 3) (P := pkc D) (c := c) (σ := σ) (by decide) (pkc_lt D) hc
    rw [pkc_dg D hc] at this
    exact this
  have o2 : ∀ s c : Nat, s < 2 → c < 8 → Ct 3 MX6_often [iV (gkN N k s : Int), iV (c : Int)] σ (.inl [iV (sN N k s c : Int)]) σ := fun s c hs hc => by
    have := ctX6_oftN (d := 3) (P := gkN N k s) (c := c) (σ := σ) (by decide) (gk_lt hW hk hs) hc
    rw [gk_dg hW hk hs hc] at this
    exact this
  have cvle : ∀ c, c < 8 → cvV N k D c ≤ 12 := fun c hc => by
    have := sN_le hW hk (show 1 < 2 by decide) hc
    have : dg D c ≤ 9 := dg_le
    unfold cvV
    omega
  -- the walk over the coins, by what comes of it
  have walk : ∀ (σ1 : Sg) (X : Nat → List Vv → List Vv → Sg → Prop) (Xr : List Vv → Sg → Prop) (Xt : Nat → Sg → Prop), Clo (Ct 3) 6 cX6_tryChange none X Xr Xt → (cvB N k D = false → Xr [] σ) → (cvB N k D = true → ∃ σ6, Ct 3 MX6_meet [rV 15 57, iV (w32 (pkc (cvN N k D) : Int))] σ (.inl []) σ6 ∧ Xr [] σ6) → X 6 [rV 15 57, iV (w32 (pkc D : Int)), iV (gkN N k 0 : Int), iV (gkN N k 1 : Int), iV 0, iV 0] [] σ := by
    intro σ1 X Xr Xt hC hno hyes
    have key : ∀ c, c ≤ 8 → (∀ e, e < c → sN N k 0 e ≤ dg D e) → ∀ x : Nat, x = sumN (cvV N k D) c → X 6 [rV 15 57, iV (w32 (pkc D : Int)), iV (gkN N k 0 : Int), iV (gkN N k 1 : Int), iV (x : Int), iV (c : Int)] [] σ := by
      refine loop_up (P := fun c => (∀ e, e < c → sN N k 0 e ≤ dg D e) → ∀ x : Nat, x = sumN (cvV N k D) c → X 6 [rV 15 57, iV (w32 (pkc D : Int)), iV (gkN N k 0 : Int), iV (gkN N k 1 : Int), iV (x : Int), iV (c : Int)] [] σ) ?_ ?_
      · intro h1 x hx
        refine bX6_tryChange_6 hC ?_
        have hp := cvP_t.mpr h1
        rw [if_neg (by decide)]
        by_cases z : sumN (cvV N k D) 8 ≤ 9
        · have hb : cvB N k D = true := by unfold cvB; rw [hp, decide_eq_true z]; rfl
          have e1 : (pkc (cvN N k D) : Int) = (pkc D : Int) - (gkN N k 0 : Int) + (gkN N k 1 : Int) := by
            have e0 : pkc (cvN N k D) = cdB 16 (cvV N k D) 8 := pkc_code (fun c hc => Nat.le_trans (sumN_le_one (f := cvV N k D) hc) z)
            rw [e0]
            exact cdB_lin 8 h1
          rw [if_neg (by omega), w32_3, ← e1]
          exact hyes hb
        · have hb : cvB N k D = false := by unfold cvB; rw [decide_eq_false z, Bool.and_false]
          rw [if_pos (by omega)]
          exact hno hb
      · intro c hc ih h1 x hx
        refine bX6_tryChange_6 hC ?_
        rw [if_pos (by omega)]
        refine ⟨_, o1 c hc, _, o2 0 c (by decide) hc, ?_⟩
        by_cases z : dg D c < sN N k 0 c
        · have hb : cvB N k D = false := by unfold cvB; rw [cvP_f hc z]; rfl
          rw [if_pos (by omega)]
          exact hno hb
        · rw [if_neg (by omega)]
          refine ⟨_, o1 c hc, _, o2 0 c (by decide) hc, _, o2 1 c (by decide) hc, ?_⟩
          have b1 := cvle c hc
          have bx : sumN (cvV N k D) c ≤ c * 12 := sumN_bound (fun i hi => cvle i (by omega))
          have es := sumN_s (cvV N k D) c
          have b2 : dg D c ≤ 9 := dg_le
          have b3 := sN_le hW hk (show 1 < 2 by decide) hc
          rw [w_sb (show sN N k 0 c ≤ dg D c by omega) (by omega), ← Int.natCast_add]
          have e2 : dg D c - sN N k 0 c + sN N k 1 c = cvV N k D c := rfl
          rw [e2, w32_n (show cvV N k D c < 2147483648 by omega), ← Int.natCast_add, w32_n (show x + cvV N k D c < 2147483648 by omega), w32_s (by omega)]
          refine ih ?_ _ (by omega)
          intro e he
          by_cases q : e = c
          · rw [q]; omega
          · exact h1 e (by omega)
    exact key 0 (Nat.zero_le _) (fun e he => absurd he (Nat.not_lt_zero e)) 0 rfl
  cases hb : cvB N k D with
  | false =>
    have he : cvS N k D S = S := if_neg (by rw [hb]; decide)
    rw [he]
    refine ⟨σ, ?_, hC0, FM.refl σ⟩
    refine (eX6_tryChange (d := 3) ?_).mono hd
    intro X Xr Xt hC hr
    refine bX6_tryChange_0 hC ?_
    exact walk σ X Xr Xt hC (fun _ => hr) (fun q => by rw [hb] at q; exact Bool.noConfusion q)
  | true =>
    have he : cvS N k D S = mtS S (cvN N k D) := if_pos hb
    rw [he]
    obtain ⟨σ1, m1, m2, m3⟩ := ctX6_meet (d := 3) (by decide) (cv_ok hW hk hD hb).1 hw hC0 hn
    refine ⟨σ1, ?_, m2, m3⟩
    refine (eX6_tryChange (d := 3) ?_).mono hd
    intro X Xr Xt hC hr
    refine bX6_tryChange_0 hC ?_
    exact walk σ1 X Xr Xt hC (fun q => by rw [hb] at q; exact Bool.noConfusion q) (fun _ => ⟨_, m1, hr⟩)
