/-! FILLS and bit counts -/
theorem ctJ7_fillI {d t n T : Nat} (hd : 1 ≤ d) (hT : T = 1000000 + n) (hn : n < 1000000) {v : Int} {σ : Sg} : Ct d MJ7_fill_53178 [rV T t, iV v] σ (.inl []) (flS σ t n v) := by
  have hent : ent [rV T t, iV v] = [rV T t, iV v] := by
    rw [ent_cons, if_neg (show ¬ T = 1 by omega)]
    rfl
  refine (mk_Ct (d := 0) (y := MJ7_fill_53178) (own := 17) (by decide) rfl ?_ ?_).mono hd
  · rw [hent]; exact Nat.le_of_ble_eq_true rfl
  · intro X Xr Xt hC hr
    rw [hent]
    show X 0 [rV T t, iV v, uV, uV] [] σ
    have h1 : 1000000 ≤ 1000000 + n ∧ (1000000 + n) % 1000000 = n := ⟨by omega, by omega⟩
    have h2 : (1000000 + n) / 1000000 = 1 ∧ (1000000 + n) % 1000000 = n := ⟨by omega, by omega⟩
    rw [hT]
    refine bJ7_fill_53178_0 hC h1 h2 ?_
    have key : ∀ k, k ≤ n → X 5 [rV (1000000 + n) t, iV v, iV (k : Int), iV (n : Int)] [] (flS σ t k v) := by
      refine loop_up (P := fun k => X 5 [rV (1000000 + n) t, iV v, iV (k : Int), iV (n : Int)] [] (flS σ t k v)) ?_ ?_
      · refine bJ7_fill_53178_5 hC h1 h2 ?_
        rw [if_neg (by omega)]
        exact hr
      · intro k hk ih
        refine bJ7_fill_53178_5 hC h1 h2 ?_
        rw [if_pos (by omega)]
        refine ⟨by omega, ?_⟩
        rw [w32_s (by omega), Int.toNat_natCast, flS_s]
        exact ih
    have := key 0 (Nat.zero_le n)
    rw [flS_0] at this
    exact this
theorem ctJ7_fillJ {d t n T : Nat} (hd : 1 ≤ d) (hT : T = 2000000 + n) (hn : n < 1000000) {v : Int} {σ : Sg} : Ct d MJ7_fill_d0a16 [rV T t, lV v] σ (.inl []) (flS σ t n v) := by
  have hent : ent [rV T t, lV v] = [rV T t, lV v, uV] := by
    rw [ent_cons, if_neg (show ¬ T = 1 by omega)]
    rfl
  refine (mk_Ct (d := 0) (y := MJ7_fill_d0a16) (own := 17) (by decide) rfl ?_ ?_).mono hd
  · rw [hent]; exact Nat.le_of_ble_eq_true rfl
  · intro X Xr Xt hC hr
    rw [hent]
    show X 0 [rV T t, lV v, uV, uV, uV] [] σ
    have h1 : 1000000 ≤ 2000000 + n ∧ (2000000 + n) % 1000000 = n := ⟨by omega, by omega⟩
    have h2 : (2000000 + n) / 1000000 = 2 ∧ (2000000 + n) % 1000000 = n := ⟨by omega, by omega⟩
    rw [hT]
    refine bJ7_fill_d0a16_0 hC h1 h2 ?_
    have key : ∀ k, k ≤ n → X 6 [rV (2000000 + n) t, lV v, uV, iV (k : Int), iV (n : Int)] [] (flS σ t k v) := by
      refine loop_up (P := fun k => X 6 [rV (2000000 + n) t, lV v, uV, iV (k : Int), iV (n : Int)] [] (flS σ t k v)) ?_ ?_
      · refine bJ7_fill_d0a16_6 hC h1 h2 ?_
        rw [if_neg (by omega)]
        exact hr
      · intro k hk ih
        refine bJ7_fill_d0a16_6 hC h1 h2 ?_
        rw [if_pos (by omega)]
        refine ⟨by omega, ?_⟩
        rw [w32_s (by omega), Int.toNat_natCast, flS_s]
        exact ih
    have := key 0 (Nat.zero_le n)
    rw [flS_0] at this
    exact this
def bcI (x0 : Int) : Int := (iandI (w32 ((w32 ((iandI (w32 ((w32 ((iandI (w32 (x0 - (iandI (iushrI x0 1) 1431655765))) 858993459) + (iandI (iushrI (w32 (x0 - (iandI (iushrI x0 1) 1431655765))) 2) 858993459))) + (iushrI (w32 ((iandI (w32 (x0 - (iandI (iushrI x0 1) 1431655765))) 858993459) + (iandI (iushrI (w32 (x0 - (iandI (iushrI x0 1) 1431655765))) 2) 858993459))) 4))) 252645135) + (iushrI (iandI (w32 ((w32 ((iandI (w32 (x0 - (iandI (iushrI x0 1) 1431655765))) 858993459) + (iandI (iushrI (w32 (x0 - (iandI (iushrI x0 1) 1431655765))) 2) 858993459))) + (iushrI (w32 ((iandI (w32 (x0 - (iandI (iushrI x0 1) 1431655765))) 858993459) + (iandI (iushrI (w32 (x0 - (iandI (iushrI x0 1) 1431655765))) 2) 858993459))) 4))) 252645135) 8))) + (iushrI (w32 ((iandI (w32 ((w32 ((iandI (w32 (x0 - (iandI (iushrI x0 1) 1431655765))) 858993459) + (iandI (iushrI (w32 (x0 - (iandI (iushrI x0 1) 1431655765))) 2) 858993459))) + (iushrI (w32 ((iandI (w32 (x0 - (iandI (iushrI x0 1) 1431655765))) 858993459) + (iandI (iushrI (w32 (x0 - (iandI (iushrI x0 1) 1431655765))) 2) 858993459))) 4))) 252645135) + (iushrI (iandI (w32 ((w32 ((iandI (w32 (x0 - (iandI (iushrI x0 1) 1431655765))) 858993459) + (iandI (iushrI (w32 (x0 - (iandI (iushrI x0 1) 1431655765))) 2) 858993459))) + (iushrI (w32 ((iandI (w32 (x0 - (iandI (iushrI x0 1) 1431655765))) 858993459) + (iandI (iushrI (w32 (x0 - (iandI (iushrI x0 1) 1431655765))) 2) 858993459))) 4))) 252645135) 8))) 16))) 63)
def popc (n : Nat) : Nat := sumN (fun i => n / 2 ^ i % 2) 8
theorem bcI_eq : ∀ n : Fin 256, bcI ((n.val : Nat) : Int) = ((popc n.val : Nat) : Int) := by decide +kernel
theorem ctJ6_bitCount {d n : Nat} (hd : 1 ≤ d) (hn : n < 256) {σ : Sg} : Ct d MJ6_bitCount_0f7a4 [iV (n : Int)] σ (.inl [iV (popc n : Int)]) σ := by
  refine (eJ6_bitCount_0f7a4 (d := 0) ?_).mono hd
  intro X Xr Xt hC hr
  refine bJ6_bitCount_0f7a4_0 hC ?_
  show Xr [iV (bcI (n : Int))] σ
  rw [bcI_eq ⟨n, hn⟩]
  exact hr
theorem popc_step : ∀ n : Fin 256, n.val ≠ 0 → n.val &&& (n.val - 1) < n.val ∧ popc n.val = popc (n.val &&& (n.val - 1)) + 1 := by decide +kernel
theorem popc_le : ∀ n : Fin 256, popc n.val ≤ 8 := by decide +kernel
theorem ctX11_bits {d n : Nat} (hd : 1 ≤ d) (hn : n < 256) {σ : Sg} : Ct d MX11_bits [iV (n : Int)] σ (.inl [iV (popc n : Int)]) σ := by
  refine (eX11_bits (d := 0) ?_).mono hd
  intro X Xr Xt hC hr
  refine bX11_bits_0 hC ?_
  have key : ∀ b g c : Nat, g ≤ b → g < 256 → c + popc g = popc n → X 4 [iV (n : Int), iV (c : Int), iV (g : Int)] [] σ := by
    intro b
    induction b with
    | zero =>
      intro g c hg hl h
      have e : g = 0 := Nat.le_zero.mp hg
      refine bX11_bits_4 hC ?_
      rw [if_pos (by omega)]
      rw [e, show popc 0 = 0 from rfl, Nat.add_zero] at h
      rw [h]
      exact hr
    | succ b ih =>
      intro g c hg hl h
      by_cases e : g = 0
      · exact ih g c (by omega) hl h
      have hs := popc_step ⟨g, hl⟩ e
      have hs : g &&& (g - 1) < g ∧ popc g = popc (g &&& (g - 1)) + 1 := hs
      have hb := popc_le ⟨n, hn⟩
      have hb : popc n ≤ 8 := hb
      refine bX11_bits_4 hC ?_
      rw [if_neg (by omega), w32_s (by omega), show (g : Int) - 1 = ((g - 1 : Nat) : Int) by omega, w32_n (by omega), iand_nat (by omega) (by omega)]
      exact ih _ _ (by omega) (by omega) (by omega)
  exact key n n 0 (Nat.le_refl n) hn (by omega)
