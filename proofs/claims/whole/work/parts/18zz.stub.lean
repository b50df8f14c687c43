/-! STUBS -/
def wyT (ω : Nat → Int) : Prop := ∀ r m, r ≤ 9 → m ≤ 8 → ω (9 * r + m) = (wyN r m : Int)
def Inv (ω : Nat → Int) (σ : Sg) : Prop := σ 62 = ω
def ag80 (σ τ : Sg) : Prop := ∀ a, a ≠ 80 → τ a = σ a
def Jt (ω : Nat → Int) (y z : Nat) (As : List Vv) (f : Int → Vv) (cd : Nat → Int) (σ : Sg) : Prop :=
  (∃ v σ1, Ct 40 y (rV 19 0 :: As) σ (.inl [f v]) σ1 ∧ ∀ τ, ag80 σ1 τ → ∃ σ2, Ct 40 z (rV 20 66 :: As) τ (.inl [f v]) σ2 ∧ σ2 66 5 = 0 ∧ Inv ω σ2) ∨
  (∃ E σ1, cd E ≠ 0 ∧ Ct 40 y (rV 19 0 :: As) σ (.inr E) σ1 ∧ ∀ τ, ag80 σ1 τ → ∃ v σ2, Ct 40 z (rV 20 66 :: As) τ (.inl [f v]) σ2 ∧ σ2 66 5 = cd E ∧ Inv ω σ2)
def Jn (ω : Nat → Int) (y z : Nat) (As : List Vv) (f : Int → Vv) (σ : Sg) : Prop :=
  ∃ v σ1, Ct 40 y (rV 19 0 :: As) σ (.inl [f v]) σ1 ∧ ∃ σ2, Ct 40 z (rV 20 66 :: As) σ1 (.inl [f v]) σ2 ∧ Inv ω σ2
def Jv (ω : Nat → Int) (y z : Nat) (As : List Vv) (cd : Nat → Int) (σ : Sg) : Prop :=
  (∃ σ1, Ct 40 y (rV 19 0 :: As) σ (.inl []) σ1 ∧ ∀ τ, ag80 σ1 τ → ∃ σ2, Ct 40 z (rV 20 66 :: As) τ (.inl []) σ2 ∧ σ2 66 5 = 0 ∧ Inv ω σ2) ∨
  (∃ E σ1, cd E ≠ 0 ∧ Ct 40 y (rV 19 0 :: As) σ (.inr E) σ1 ∧ ∀ τ, ag80 σ1 τ → ∃ σ2, Ct 40 z (rV 20 66 :: As) τ (.inl []) σ2 ∧ σ2 66 5 = cd E ∧ Inv ω σ2)
theorem jt_change {ω : Nat → Int} {σ : Sg} (hI : Inv ω σ) (x w : Int) : Jt ω MX10_change MX11_change [iV x, iV w] iV cdNI σ :=  sorry
theorem jt_year {ω : Nat → Int} {σ : Sg} (hI : Inv ω σ) (x y : Int) : Jt ω MX10_year MX11_year [iV x, iV y] iV cdY σ :=  sorry
theorem jn_count {ω : Nat → Int} {σ : Sg} (hI : Inv ω σ) (w : Int) : Jn ω MX10_count MX11_count [iV w] iV σ :=  sorry
theorem jt_may {ω : Nat → Int} {σ : Sg} (hI : Inv ω σ) (x y z : Int) (hz : in64 z) : Jt ω MX10_may MX11_may [iV x, iV y, lV z] iV cdNI σ :=  sorry
theorem jt_pay {ω : Nat → Int} {σ : Sg} (hI : Inv ω σ) (x y z : Int) (hz : in64 z) : Jt ω MX10_pay MX11_pay [iV x, iV y, lV z] iV cdNI σ :=  sorry
theorem jv_tray {ω : Nat → Int} {σ : Sg} (hI : Inv ω σ) (x y z : Int) : Jv ω MX10_tray MX11_tray [iV x, iV y, iV z] cdNI σ :=  sorry
theorem jt_write {ω : Nat → Int} {σ : Sg} (hI : Inv ω σ) (x y v : Int) (hv : in64 v) : Jt ω MX10_write MX11_write [iV x, iV y, lV v] lV cdW σ :=  sorry
theorem jt_price {ω : Nat → Int} {σ : Sg} (hI : Inv ω σ) (x : Int) (y : Int) : Jt ω MX10_price MX11_price [iV x, iV y] lV cdN σ :=  sorry
theorem jt_gap {ω : Nat → Int} {σ : Sg} (hI : Inv ω σ) (x : Int) : Jt ω MX10_gap MX11_gap [iV x] lV cdN σ :=  sorry
theorem jt_between {ω : Nat → Int} {σ : Sg} (hI : Inv ω σ) (x : Int) (y z : Int) : Jt ω MX10_between MX11_between [iV x, lV y, lV z] iV cdN σ :=  sorry
theorem jt_half {ω : Nat → Int} {σ : Sg} (hI : Inv ω σ) (x : Int) : Jt ω MX10_half MX11_half [iV x] lV cdN σ :=  sorry
theorem jt_factor {ω : Nat → Int} {σ : Sg} (hI : Inv ω σ) (x w : Int) : Jt ω MX10_factor MX11_factor [iV x, iV w] iV cdI σ :=  sorry
theorem jt_perform {ω : Nat → Int} {σ : Sg} (hI : Inv ω σ) (hS : okS σ) (x : Int) : Jt ω MX10_perform MX11_perform [iV x] iV cdP σ :=  sorry
theorem jt_judge {ω : Nat → Int} {σ : Sg} (hI : Inv ω σ) (hS : okS σ) (x w : Int) : Jt ω MX10_judge MX11_judge [iV x, iV w] iV cdJ σ :=  sorry
theorem jt_coin {ω : Nat → Int} {σ : Sg} (hI : Inv ω σ) (x : Int) : Jt ω MX10_coin MX11_coin [iV x] iV cdN σ :=  sorry
theorem jt_worth {ω : Nat → Int} {σ : Sg} (hI : Inv ω σ) (x : Int) : Jt ω MX10_worth MX11_worth [iV x] lV cdN σ :=  sorry
theorem jt_has {ω : Nat → Int} {σ : Sg} (hI : Inv ω σ) (x q : Int) : Jt ω MX10_has MX11_has [iV x, iV q] iV cdN σ :=  sorry
theorem jn_treasury {ω : Nat → Int} {σ : Sg} (hI : Inv ω σ) (q : Int) : Jn ω MX10_treasury MX11_treasury [iV q] iV σ :=  sorry
theorem jn_fault {ω : Nat → Int} {σ : Sg} (hI : Inv ω σ) (q : Int) : Jn ω MX10_fault MX11_fault [iV q] iV σ :=  sorry
theorem jt_owed {ω : Nat → Int} {σ : Sg} (hI : Inv ω σ) (x y : Int) : Jt ω MX10_owed MX11_owed [iV x, iV y] lV cdN σ :=  sorry
theorem jt_fitting {ω : Nat → Int} {σ : Sg} (hI : Inv ω σ) (hS : okS σ) (x y k : Int) (hk : in32 k) : Jt ω MX10_fitting MX11_fitting [iV x, iV y, iV k] lV cdJ σ :=  sorry
theorem jt_squares {ω : Nat → Int} {σ : Sg} (hI : Inv ω σ) (x w : Int) : Jt ω MX10_squares MX11_squares [iV x, iV w] iV cdI σ :=  sorry
theorem jt_readOut {ω : Nat → Int} {σ : Sg} (hI : Inv ω σ) (x : Int) : Jt ω MX10_readOut MX11_readOut [lV x] lV cdI σ :=  sorry
theorem jt_together {ω : Nat → Int} {σ : Sg} (hI : Inv ω σ) (x y w : Int) (hy : in64 y) : Jt ω MX10_together MX11_together [iV x, lV y, iV w] iV cdI σ :=  sorry
theorem jt_owe {ω : Nat → Int} {σ : Sg} (hI : Inv ω σ) (x y z : Int) (hz : in64 z) : Jt ω MX10_owe MX11_owe [iV x, iV y, lV z] lV cdD σ :=  sorry
theorem jt_witness {ω : Nat → Int} {σ : Sg} (hI : Inv ω σ) (x : Int) : Jt ω MX10_witness MX11_witness [iV x] iV cdI σ :=  sorry
theorem jt_rounds {ω : Nat → Int} {σ : Sg} (hI : Inv ω σ) (x cc w : Int) : Jt ω MX10_rounds MX11_rounds [iV x, iV cc, iV w] iV cdI σ :=  sorry
theorem jn_struck {ω : Nat → Int} {σ : Sg} (hI : Inv ω σ) : Jn ω MX10_struck MX11_struck [] iV σ :=  sorry
theorem jt_pour {ω : Nat → Int} {σ : Sg} (hI : Inv ω σ) (x : Int) : Jt ω MX10_pour MX11_pour [iV x] iV cdP σ :=  sorry
theorem jv_image {ω : Nat → Int} {σ : Sg} (hI : Inv ω σ) (x : Int) : Jv ω MX10_image MX11_image [iV x] cdN σ :=  sorry
theorem jv_restore {ω : Nat → Int} {σ : Sg} (hI : Inv ω σ) (x : Int) : Jv ω MX10_restore MX11_restore [iV x] cdP σ :=  sorry
theorem jt_purse {ω : Nat → Int} {σ : Sg} (hI : Inv ω σ) (x w : Int) : Jt ω MX10_purse MX11_purse [iV x, iV w] iV cdNI σ :=  sorry
theorem jt_smooth {ω : Nat → Int} {σ : Sg} (hI : Inv ω σ) (x q : Int) : Jt ω MX10_smooth MX11_smooth [iV x, iV q] iV cdI σ :=  sorry
theorem jt_stolen {ω : Nat → Int} {σ : Sg} (hI : Inv ω σ) (x y z : Int) (hy : in64 y) (hz : in64 z) : Jt ω MX10_stolen MX11_stolen [iV x, lV y, lV z] iV cdNI σ :=  sorry
theorem jn_gainer {ω : Nat → Int} {σ : Sg} (hI : Inv ω σ) : Jn ω MX10_gainer MX11_gainer [] iV σ :=  sorry
theorem jt_swap {ω : Nat → Int} {σ : Sg} (hI : Inv ω σ) (x y w : Int) : Jt ω MX10_swap MX11_swap [iV x, iV y, iV w] lV cdNI σ :=  sorry
theorem jt_town {ω : Nat → Int} {σ : Sg} (hI : Inv ω σ) (x : Int) : Jt ω MX10_town MX11_town [iV x] iV cdI σ :=  sorry
theorem jt_order {ω : Nat → Int} {σ : Sg} (hI : Inv ω σ) (x y : Int) : Jt ω MX10_order MX11_order [iV x, iV y] iV cdI σ :=  sorry
theorem jn_friends {ω : Nat → Int} {σ : Sg} (hI : Inv ω σ) : Jn ω MX10_friends MX11_friends [] iV σ :=  sorry
theorem jt_fewest {ω : Nat → Int} {σ : Sg} (hI : Inv ω σ) (hω : wyT ω) (x y : Int) (hy : in64 y) : Jt ω MX10_fewest MX11_fewest [iV x, lV y] iV cdNI σ :=  sorry
theorem jt_nearest {ω : Nat → Int} {σ : Sg} (hI : Inv ω σ) (x : Int) (y : Int) (hy : in64 y) : Jt ω MX10_nearest MX11_nearest [iV x, lV y] lV cdN σ :=  sorry
theorem jt_prices {ω : Nat → Int} {σ : Sg} (hI : Inv ω σ) (x : Int) : Jt ω MX10_prices MX11_prices [iV x] iV cdN σ :=  sorry
theorem jt_dear {ω : Nat → Int} {σ : Sg} (hI : Inv ω σ) (x y : Int) : Jt ω MX10_dear MX11_dear [iV x, iV y] iV cdNI σ :=  sorry
theorem jt_grows {ω : Nat → Int} {σ : Sg} (hI : Inv ω σ) (hω : wyT ω) (x n : Int) : Jt ω MX10_grows MX11_grows [iV x, iV n] lV cdNI σ :=  sorry
theorem jt_strike {ω : Nat → Int} {σ : Sg} (hI : Inv ω σ) (x y : Int) : Jt ω MX10_strike MX11_strike [iV x, iV y] iV cdD σ :=  sorry
theorem jt_tax {ω : Nat → Int} {σ : Sg} (hI : Inv ω σ) (x : Int) : Jt ω MX10_tax MX11_tax [iV x] iV cdN σ :=  sorry
theorem jt_changes {ω : Nat → Int} {σ : Sg} (hI : Inv ω σ) (x y : Int) : Jt ω MX10_changes MX11_changes [iV x, iV y] iV cdN σ :=  sorry
theorem jn_feed {ω : Nat → Int} {σ : Sg} (hI : Inv ω σ) (a b c d e : Int) : Jn ω MX10_feed MX11_feed [iV a, iV b, iV c, iV d, iV e] iV σ :=  sorry
theorem jt_trial {ω : Nat → Int} {σ : Sg} (hI : Inv ω σ) (x w : Int) : Jt ω MX10_trial MX11_trial [iV x, iV w] iV cdI σ :=  sorry
theorem jt_primesTo {ω : Nat → Int} {σ : Sg} (hI : Inv ω σ) (x : Int) : Jt ω MX10_primesTo MX11_primesTo [iV x] iV cdI σ :=  sorry
theorem jt_least {ω : Nat → Int} {σ : Sg} (hI : Inv ω σ) (x y : Int) : Jt ω MX10_least MX11_least [iV x, iV y] iV cdN σ :=  sorry
theorem jt_common {ω : Nat → Int} {σ : Sg} (hI : Inv ω σ) (x y : Int) : Jt ω MX10_common MX11_common [iV x, iV y] lV cdN σ :=  sorry
theorem thrown_ct (τ : Sg) : Ct 40 MX11_thrown [rV 20 66] τ (.inl [iV (τ 66 5)]) τ := sorry
theorem Inv_80 {ω : Nat → Int} (σ τ : Sg) (h : ∀ a, a ≠ 80 → τ a = σ a) (g : Inv ω σ) : Inv ω τ := sorry
