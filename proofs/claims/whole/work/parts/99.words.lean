/-! the words of both programs -/
theorem sl_le : ∀ k : Fin 10, 0 < SLen.getD k.val 0 ∧ SLen.getD k.val 0 ≤ 6 := by decide
theorem sc_in : ∀ k : Fin 10, ∀ i : Fin 6, i.val < SLen.getD k.val 0 → 97 ≤ schr k.val i.val ∧ schr k.val i.val ≤ 122 := by decide
theorem iand_id {c : Int} (h0 : 0 ≤ c) (h1 : c ≤ 255) : iandI c 255 = c := by
  obtain ⟨a, ha⟩ := z_nat h0
  subst ha
  have e := iand_nat (a := a) (b := 255) (by omega) (by decide)
  rw [show ((255 : Nat) : Int) = 255 from rfl] at e
  rw [e, show (255 : Nat) = 2 ^ 8 - 1 from rfl, Nat.and_two_pow_sub_one_eq_mod, Nat.mod_eq_of_lt (by omega)]
theorem len_J {d k : Nat} (hd : 2 ≤ d) (hk : k < 10) {σ : Sg} : Ct d MJ0_length_8abf5 [rV 30 (1000 + k)] σ (.inl [iV ((SLen.getD k 0 : Nat) : Int)]) σ := by
  refine (eJ0_length_8abf5 (d := 1) ?_).mono hd
  intro X Xr Xt hC hr
  refine bJ0_length_8abf5_0 hC ?_
  have hc : Ct 1 MJ0_coder_7d493 [rV 30 (1000 + k)] σ (.inl [iV 0]) σ := by
    refine (eJ0_coder_7d493 (d := 0) ?_).mono (by decide)
    intro X Xr Xt hC hr
    refine bJ0_coder_7d493_0 hC ?_
    exact ⟨show 1000 + k < 1010 by omega, hr⟩
  refine ⟨show 1000 + k < 1010 by omega, show 1000 + k + 1000 < 2010 by omega, show 1000 + k < 1010 by omega, _, hc, ?_⟩
  have h6 := sl_le ⟨k, hk⟩
  have h6 : 0 < SLen.getD k 0 ∧ SLen.getD k 0 ≤ 6 := h6
  have e := ishr_nat (a := SLen.getD k 0) (k := 0) (by decide) (by omega)
  rw [show ((0 : Nat) : Int) = 0 from rfl, Nat.pow_zero, Nat.div_one] at e
  rw [show 1000 + k + 1000 - 2000 = k by omega, e]
  exact hr
theorem char_J {d k i : Nat} (hd : 4 ≤ d) (hk : k < 10) (hi : i < SLen.getD k 0) {σ : Sg} : Ct d MJ0_charAt_5068e [rV 30 (1000 + k), iV (i : Int)] σ (.inl [iV (schr k i)]) σ := by
  have h6 : 0 < SLen.getD k 0 ∧ SLen.getD k 0 ≤ 6 := sl_le ⟨k, hk⟩
  have hs : 97 ≤ schr k i ∧ schr k i ≤ 122 := sc_in ⟨k, hk⟩ ⟨i, by omega⟩ hi
  have c0 : Ct 1 MJ0_isLatin1_aae02 [rV 30 (1000 + k)] σ (.inl [iV 1]) σ := by
    refine (eJ0_isLatin1_aae02 (d := 0) ?_).mono (by decide)
    intro X Xr Xt hC hr
    refine bJ0_isLatin1_aae02_0 hC ?_
    exact ⟨show 1000 + k < 1010 by omega, hr⟩
  have c1 : Ct 1 MJ3_checkIndex_8e157 [iV (i : Int), iV ((SLen.getD k 0 : Nat) : Int), rV 33 0] σ (.inl [iV (i : Int)]) σ := by
    refine (eJ3_checkIndex_8e157 (d := 0) ?_).mono (by decide)
    intro X Xr Xt hC hr
    refine bJ3_checkIndex_8e157_0 hC ?_
    rw [if_neg (by omega), if_pos (by omega)]
    exact hr
  have c2 : Ct 2 MJ0_checkIndex_df160 [iV (i : Int), iV ((SLen.getD k 0 : Nat) : Int)] σ (.inl []) σ := by
    refine (eJ0_checkIndex_df160 (d := 1) ?_).mono (by decide)
    intro X Xr Xt hC hr
    refine bJ0_checkIndex_df160_0 hC ?_
    exact ⟨_, c1, hr⟩
  have c3 : Ct 3 MJ1_charAt_3b067 [rV 31 (1000 + k + 1000), iV (i : Int)] σ (.inl [iV (schr k i)]) σ := by
    refine (eJ1_charAt_3b067 (d := 2) ?_).mono (by decide)
    intro X Xr Xt hC hr
    refine bJ1_charAt_3b067_0 hC ?_
    rw [show 1000 + k + 1000 - 2000 = k by omega, Int.toNat_natCast, iand_id (by omega) (by omega)]
    exact ⟨show 1000 + k + 1000 < 2010 by omega, c2, show 1000 + k + 1000 < 2010 by omega, by omega, by omega, by omega, hr⟩
  refine (eJ0_charAt_5068e (d := 3) ?_).mono hd
  intro X Xr Xt hC hr
  refine bJ0_charAt_5068e_0 hC ?_
  refine ⟨show 1000 + k < 1010 by omega, _, c0.mono (by decide), ?_⟩
  rw [if_neg (by decide)]
  exact ⟨show 1000 + k < 1010 by omega, _, c3, by omega, hr⟩
theorem isWord_C {d k : Nat} (hd : 5 ≤ d) (hk : k < 10) {σ : Sg} {tx : Nat → Int} {n b e : Nat} (hn : n ≤ 700) (h : TxC σ tx n) (he : σ 2 6 = (e : Int)) (hen : e ≤ n) (hbe : b ≤ e) : Ct d MX7_isWord [rV 16 2, iV (b : Int), rV 30 (1000 + k)] σ (.inl [iV (b01 (isW k tx b e))]) σ := by
  have h6 : 0 < SLen.getD k 0 ∧ SLen.getD k 0 ≤ 6 := sl_le ⟨k, hk⟩
  obtain ⟨L, hL⟩ : ∃ L, L = SLen.getD k 0 := ⟨_, rfl⟩
  have hlen : Ct 4 MJ0_length_8abf5 [rV 30 (1000 + k)] σ (.inl [iV (L : Int)]) σ := by rw [hL]; exact len_J (by decide) hk
  refine (eX7_isWord (d := 4) ?_).mono hd
  intro X Xr Xt hC hr
  refine bX7_isWord_0 hC ?_
  refine ⟨show 1000 + k < 1010 by omega, _, hlen, ?_⟩
  rw [he, show (e : Int) - (b : Int) = ((e - b : Nat) : Int) by omega, w32_n (show e - b < 2147483648 by omega)]
  unfold isW at hr
  rw [← hL] at hr h6
  by_cases q : e = b + L
  · rw [if_pos (by omega)]
    rw [decide_eq_true q, Bool.true_and] at hr
    have key : ∀ r i : Nat, i + r = L → Xr [iV (b01 (eqF k tx b r i))] σ → X 17 [rV 16 2, iV (b : Int), rV 30 (1000 + k), iV (i : Int)] [] σ := by
      intro r
      induction r with
      | zero =>
        intro i hi hx
        have hi : i = L := hi
        refine bX7_isWord_17 hC ?_
        refine ⟨show 1000 + k < 1010 by omega, _, hlen, ?_⟩
        rw [if_neg (by omega)]
        exact hx
      | succ r ih =>
        intro i hi hx
        refine bX7_isWord_17 hC ?_
        refine ⟨show 1000 + k < 1010 by omega, _, hlen, ?_⟩
        rw [if_pos (by omega), show (b : Int) + (i : Int) = ((b + i : Nat) : Int) by omega, w32_n (show b + i < 2147483648 by omega)]
        refine ⟨_, signAt_C (by decide) hn h (by omega), show 1000 + k < 1010 by omega, _, char_J (by decide) hk (by omega), ?_⟩
        rw [eqF_s] at hx
        by_cases z : tx (b + i) = schr k i
        · rw [if_pos z, w32_s (show i < 2147483647 by omega)]
          rw [decide_eq_true z, Bool.true_and] at hx
          exact ih (i + 1) (by omega) hx
        · rw [if_neg z]
          rw [decide_eq_false z, Bool.false_and] at hx
          exact hx
    exact key L 0 (Nat.zero_add _) hr
  · rw [if_neg (by omega)]
    rw [decide_eq_false q, Bool.false_and] at hr
    exact hr
theorem kindOfWord_C {d : Nat} (hd : 6 ≤ d) {σ : Sg} {tx : Nat → Int} {n b e : Nat} (hn : n ≤ 700) (h : TxC σ tx n) (he : σ 2 6 = (e : Int)) (hen : e ≤ n) (hbe : b ≤ e) : Ct d MX7_kindOfWord [rV 16 2, iV (b : Int)] σ (.inl [iV (kwd tx b e : Int)]) σ := by
  have w : ∀ k, k < 10 → Ct 5 MX7_isWord [rV 16 2, iV (b : Int), rV 30 (1000 + k)] σ (.inl [iV (b01 (isW k tx b e))]) σ := fun k hk => isWord_C (by decide) hk hn h he hen hbe
  refine (eX7_kindOfWord (d := 5) ?_).mono hd
  intro X Xr Xt hC hr
  refine bX7_kindOfWord_0 hC ?_
  unfold kwd at hr
  refine ⟨_, w 0 (by decide), ?_⟩
  cases q : isW 0 tx b e with
  | true => rw [q] at hr; rw [if_neg (by decide)]; exact hr
  | false =>
    rw [q, if_neg (by decide)] at hr
    rw [if_pos (by decide)]
    clear q
    refine ⟨_, w 1 (by decide), ?_⟩
    cases q : isW 1 tx b e with
    | true => rw [q] at hr; rw [if_neg (by decide)]; exact hr
    | false =>
      rw [q, if_neg (by decide)] at hr
      rw [if_pos (by decide)]
      clear q
      refine ⟨_, w 2 (by decide), ?_⟩
      cases q : isW 2 tx b e with
      | true => rw [q] at hr; rw [if_neg (by decide)]; exact hr
      | false =>
        rw [q, if_neg (by decide)] at hr
        rw [if_pos (by decide)]
        clear q
        refine ⟨_, w 3 (by decide), ?_⟩
        cases q : isW 3 tx b e with
        | true => rw [q] at hr; rw [if_neg (by decide)]; exact hr
        | false =>
          rw [q, if_neg (by decide)] at hr
          rw [if_pos (by decide)]
          clear q
          refine ⟨_, w 4 (by decide), ?_⟩
          cases q : isW 4 tx b e with
          | true => rw [q] at hr; rw [if_neg (by decide)]; exact hr
          | false => rw [q, if_neg (by decide)] at hr; rw [if_pos (by decide)]; exact hr
/-- the reference's text -/
def TxR (τ : Sg) (tx : Nat → Int) (n : Nat) : Prop := τ 66 8 = (n : Int) ∧ ∀ j, j < n → τ 72 j = tx j
theorem isWord_R {d k : Nat} (hd : 5 ≤ d) (hk : k < 10) {τ : Sg} {tx : Nat → Int} {n b e : Nat} (hn : n ≤ 700) (h : TxR τ tx n) (he : τ 66 9 = (e : Int)) (hb : τ 66 10 = (b : Int)) (hen : e ≤ n) (hbe : b ≤ e) : Ct d MX11_isWord [rV 20 66, rV 30 (1000 + k)] τ (.inl [iV (b01 (decide (τ 66 13 = 0 ∧ τ 66 11 = 1) && isW k tx b e))]) τ := by
  have h6 : 0 < SLen.getD k 0 ∧ SLen.getD k 0 ≤ 6 := sl_le ⟨k, hk⟩
  obtain ⟨L, hL⟩ : ∃ L, L = SLen.getD k 0 := ⟨_, rfl⟩
  have hlen : Ct 4 MJ0_length_8abf5 [rV 30 (1000 + k)] τ (.inl [iV (L : Int)]) τ := by rw [hL]; exact len_J (by decide) hk
  refine (eX11_isWord (d := 4) ?_).mono hd
  intro X Xr Xt hC hr
  have z0 : ∀ x3 : Int, Xr [iV 0] τ → X 39 [rV 20 66, rV 30 (1000 + k), iV 0, iV x3] [] τ := by
    intro x3 hx
    refine bX11_isWord_39 hC ?_
    rw [if_pos rfl]
    exact ⟨Or.inl rfl, hx⟩
  refine bX11_isWord_0 hC ?_
  by_cases q1 : τ 66 13 = 0
  · rw [if_pos q1]
    by_cases q2 : τ 66 11 = 1
    · rw [if_pos q2]
      rw [decide_eq_true ⟨q1, q2⟩, Bool.true_and] at hr
      refine ⟨show 1000 + k < 1010 by omega, _, hlen, ?_⟩
      rw [he, hb, show (e : Int) - (b : Int) = ((e - b : Nat) : Int) by omega, w32_n (show e - b < 2147483648 by omega)]
      unfold isW at hr
      rw [← hL] at hr h6
      by_cases q : e = b + L
      · rw [if_pos (by omega)]
        rw [decide_eq_true q, Bool.true_and] at hr
        have key : ∀ r i : Nat, i + r = L → Xr [iV (b01 (eqF k tx b r i))] τ → X 39 [rV 20 66, rV 30 (1000 + k), iV 1, iV (i : Int)] [] τ := by
          intro r
          induction r with
          | zero =>
            intro i hi hx
            have hi : i = L := hi
            refine bX11_isWord_39 hC ?_
            rw [if_neg (by decide)]
            refine ⟨show 1000 + k < 1010 by omega, _, hlen, ?_⟩
            rw [if_neg (by omega)]
            exact ⟨Or.inr rfl, hx⟩
          | succ r ih =>
            intro i hi hx
            refine bX11_isWord_39 hC ?_
            rw [if_neg (by decide)]
            refine ⟨show 1000 + k < 1010 by omega, _, hlen, ?_⟩
            rw [if_pos (by omega), hb, show (b : Int) + (i : Int) = ((b + i : Nat) : Int) by omega, w32_n (show b + i < 2147483648 by omega), Int.toNat_natCast, h.2 (b + i) (by omega)]
            refine ⟨by omega, show 1000 + k < 1010 by omega, _, char_J (by decide) hk (by omega), ?_⟩
            rw [eqF_s] at hx
            by_cases z : tx (b + i) = schr k i
            · rw [if_pos z, w32_s (show i < 2147483647 by omega)]
              rw [decide_eq_true z, Bool.true_and] at hx
              exact ih (i + 1) (by omega) hx
            · rw [if_neg z]
              rw [decide_eq_false z, Bool.false_and] at hx
              exact z0 _ hx
        exact key L 0 (Nat.zero_add _) hr
      · rw [if_neg (by omega)]
        rw [decide_eq_false q, Bool.false_and] at hr
        exact z0 _ hr
    · rw [if_neg q2]
      rw [decide_eq_false (fun z => q2 z.2), Bool.false_and] at hr
      exact z0 _ hr
  · rw [if_neg q1]
    rw [decide_eq_false (fun z => q1 z.1), Bool.false_and] at hr
    exact z0 _ hr
