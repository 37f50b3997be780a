/-! the share of the cells that are used, as bits -/
def fpv (u g : Nat) : UInt64 := FP.ddiv (FP.i2d (nI u)) (FP.i2d (nI (g + 1)))
def fpb (u g : Nat) : Bool := decide (nn64 (fpv u g)) && (match fP_bitsOf (fpv u g), fM_bitsOf (fpv u g) with
  | some a, some b => decide (a = b)
  | _, _ => false)
theorem fp_all : ∀ g, g < 160 → ∀ u, 1 ≤ u → u ≤ g + 1 → fpb u g = true := sorry
theorem fp_nn {u g : Nat} (hg : g < 160) (h1 : 1 ≤ u) (h2 : u ≤ g + 1) : nn64 (fpv u g) := by
  have := fp_all g hg u h1 h2
  rw [fpb, Bool.and_eq_true] at this
  exact of_decide_eq_true this.1
theorem fp_bits {u g : Nat} (hg : g < 160) (h1 : 1 ≤ u) (h2 : u ≤ g + 1) : ∃ b, fP_bitsOf (fpv u g) = some b ∧ fM_bitsOf (fpv u g) = some b := by
  have := fp_all g hg u h1 h2
  rw [fpb, Bool.and_eq_true] at this
  have h3 := this.2
  cases h4 : fP_bitsOf (fpv u g) with
  | none => rw [h4] at h3; cases h3
  | some a =>
    cases h5 : fM_bitsOf (fpv u g) with
    | none => rw [h4, h5] at h3; cases h3
    | some b =>
      rw [h4, h5] at h3
      exact ⟨a, rfl, by rw [of_decide_eq_true h3]⟩
