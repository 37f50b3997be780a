/-! counts -/
def cnt (p : Nat → Bool) : Nat → Nat
  | 0 => 0
  | n + 1 => cnt p n + (if p n = true then 1 else 0)
theorem t_usedCells {z : Sz} {W : Nat → Nat} {t : TS} (hs : Sm z) (h : Ht z W t) :
    fT_usedCells t = some (nI (cnt (fun c => decide (z.K c ≠ 0)) 160)) := by
  unfold fT_usedCells
  obtain ⟨o, h1, h2⟩ := lp_run (σ := Int32 × Int32) (ω := Int32) (step := fun x1 =>
   if (160 : Int32) ≤ x1.2 then
    some (.inl x1.1)
   else
    if inb x1.2 160 then
    if (tK t x1.2.toNatClampNeg) = 0 then
     some (.inr (x1.1, (x1.2 + (1 : Int32))))
    else
     some (.inr ((x1.1 + (1 : Int32)), (x1.2 + (1 : Int32))))
    else none)
    (fun k x => x = (nI (cnt (fun c => decide (z.K c ≠ 0)) k), nI k)) (fun o => o = nI (cnt (fun c => decide (z.K c ≠ 0)) 160)) 160 ((0 : Int32), (0 : Int32)) rfl (by
      intro k x hk hI
      rw [hI]
      by_cases h9 : k = 160
      · refine Or.inl ⟨nI (cnt (fun c => decide (z.K c ≠ 0)) 160), ?_, rfl⟩
        rw [h9]
        exact if_pos (show (160 : Int32) ≤ nI 160 by decide)
      · refine Or.inr ⟨by omega, (nI (cnt (fun c => decide (z.K c ≠ 0)) (k + 1)), nI (k + 1)), ?_, rfl⟩
        have hb := hs.k k
        show (if (160 : Int32) ≤ nI k then _ else if inb (nI k) 160 then _ else none) = _
        rw [if_neg (show ¬ (160 : Int32) ≤ nI k from nI_ge (b := 160) (by omega) (by omega)), if_pos (inb_nI (by omega) (by omega))]
        simp only [nI_clamp' (show k < 2147483648 by omega), h.k (show k < 160 by omega), cnt]
        by_cases h0 : z.K k = 0
        · rw [if_pos (by rw [h0]; rfl), if_neg (by simp [h0]), Nat.add_zero, nI_1]
        · rw [if_neg (nI_ne0 (by omega) (by omega)), if_pos (by simp [h0]), nI_1, nI_1]) (by omega)
  rw [h1, h2]
  rfl
