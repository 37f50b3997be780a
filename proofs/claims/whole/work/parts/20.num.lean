/-! numbers: eI a is a - 1, so that 0 stands for NONE -/
def eI (n : Nat) : Int32 := nI n - 1
theorem eI_0 : eI 0 = -1 := by decide
theorem eI_s (n : Nat) : eI (n + 1) = nI n := nI_pred n
theorem nI_inj {a b : Nat} (ha : a < 2147483648) (hb : b < 2147483648) (h : nI a = nI b) : a = b := (nI_eq (by omega) (by omega)).mp h
theorem eI_toInt {n : Nat} (h : n < 2147483648) : (eI n).toInt = (n : Int) - 1 := by
  cases n with
  | zero => rw [eI_0]; decide
  | succ n => rw [eI_s, nI_toInt (by omega)]; omega
theorem eI_eq {a b : Nat} (ha : a < 2147483648) (hb : b < 2147483648) : eI a = eI b ↔ a = b := by
  rw [← Int32.toInt_inj, eI_toInt ha, eI_toInt hb]; omega
theorem eI_nI {a b : Nat} (ha : a < 2147483648) (hb : b < 2147483648) : eI a = nI b ↔ a = b + 1 := by
  rw [← Int32.toInt_inj, eI_toInt ha, nI_toInt (by omega)]; omega
theorem eI_m1 {a : Nat} (ha : a < 2147483648) : eI a = -1 ↔ a = 0 := by
  rw [← eI_0, eI_eq ha (by omega)]
theorem nI_m1 {a : Nat} (ha : a < 2147483648) : ¬ nI a = -1 := by
  rw [← eI_0, eq_comm, eI_nI (by omega) ha]; omega
theorem eI_lt0 {a : Nat} (ha : a < 2147483648) : eI a < 0 ↔ a = 0 := by
  rw [Int32.lt_iff_toInt_lt, eI_toInt ha, Int32.toInt_zero]; omega
theorem nI_lt0 {a : Nat} (ha : a < 2147483648) : ¬ nI a < 0 := nI_pos (by omega)
theorem nI_le_iff {a b : Nat} (ha : a < 2147483648) (hb : b < 2147483648) : nI a ≤ nI b ↔ a ≤ b := nI_leI (by omega) (by omega)
theorem nI_lt_iff {a b : Nat} (ha : a < 2147483648) (hb : b < 2147483648) : nI a < nI b ↔ a < b := nI_ltI (by omega) (by omega)
theorem nI_eq_iff {a b : Nat} (ha : a < 2147483648) (hb : b < 2147483648) : nI a = nI b ↔ a = b := nI_eq (by omega) (by omega)
theorem nI_clamp' {n : Nat} (h : n < 2147483648) : (nI n).toNatClampNeg = n := nI_clamp (by omega)
theorem inb_nI {n N : Nat} (h : n < N) (hN : N < 2147483648) : inb (nI n) N := vp_in_nI h (by omega)
theorem inb_nI_iff {n N : Nat} (hn : n < 2147483648) (hN : N < 2147483648) : inb (nI n) N ↔ n < N := by
  show vp_in (nI n) N ↔ _
  rw [vp_in_iff, nI_toInt (by omega)]; omega
theorem inb_eI_iff {n N : Nat} (hn : n < 2147483648) (hN : N < 2147483648) : inb (eI n) N ↔ 0 < n ∧ n ≤ N := by
  show vp_in (eI n) N ↔ _
  rw [vp_in_iff, eI_toInt hn]; omega
theorem lit32 (n : Nat) : (OfNat.ofNat n : Int32) = nI n := by
  first | rfl | exact fa_lit n
/-! the loop of a pure text -/
theorem lp_inv {σ ω : Type} {step : σ → Option (ω ⊕ σ)} (I : Nat → σ → Prop) (Post : ω → Prop) (N : Nat)
    (hs : ∀ k x, k ≤ N → I k x → (∃ o, step x = some (.inl o) ∧ Post o) ∨ (k < N ∧ ∃ y, step x = some (.inr y) ∧ I (k + 1) y)) :
    ∀ (d k fuel : Nat) (x : σ), k + d = N → I k x → d < fuel → ∃ o, gw_lp step fuel x = some o ∧ Post o := by
  intro d
  induction d with
  | zero =>
    intro k fuel x hk hI hf
    cases fuel with
    | zero => omega
    | succ fuel =>
      rcases hs k x (by omega) hI with ⟨o, h1, h2⟩ | ⟨h0, -⟩
      · exact ⟨o, by simp [gw_lp, h1], h2⟩
      · omega
  | succ d ih =>
    intro k fuel x hk hI hf
    cases fuel with
    | zero => omega
    | succ fuel =>
      rcases hs k x (by omega) hI with ⟨o, h1, h2⟩ | ⟨h0, y, h1, h2⟩
      · exact ⟨o, by simp [gw_lp, h1], h2⟩
      · obtain ⟨o, h3, h4⟩ := ih (k + 1) fuel y (by omega) h2 (by omega)
        exact ⟨o, by simp [gw_lp, h1, h3], h4⟩
theorem lp_run {σ ω : Type} {step : σ → Option (ω ⊕ σ)} (I : Nat → σ → Prop) (Post : ω → Prop) (N : Nat) (x : σ) (h0 : I 0 x)
    (hs : ∀ k x, k ≤ N → I k x → (∃ o, step x = some (.inl o) ∧ Post o) ∨ (k < N ∧ ∃ y, step x = some (.inr y) ∧ I (k + 1) y)) (hN : N < 100000) :
    ∃ o, gw_lp step gw_fl x = some o ∧ Post o := lp_inv I Post N hs N 0 gw_fl x (by omega) h0 hN
