/-! the class's rows: W counts the words below -/
def Ht (z : Sz) (W : Nat → Nat) (t : TS) : Prop :=
  (∀ c, c < 160 → tK t c = nI (z.K c) ∧ tP t c = eI (z.P c) ∧ tB t c = eI (z.B c) ∧ tO t c = nI (z.O c) ∧ tE t c = eI (z.E c) ∧ tC t c = nI (msk z c 9) ∧ tW t c = nI (W c)) ∧
  (∀ p, p < 40 → eU (tN t) p = nI (z.U p) ∧ eX (tN t) p = lN (enc (z.X p))) ∧ tM t = nI z.M
theorem Ht.k {z : Sz} {W : Nat → Nat} {t : TS} (h : Ht z W t) {c : Nat} (hc : c < 160) : tK t c = nI (z.K c) := (h.1 c hc).1
theorem Ht.p {z : Sz} {W : Nat → Nat} {t : TS} (h : Ht z W t) {c : Nat} (hc : c < 160) : tP t c = eI (z.P c) := (h.1 c hc).2.1
theorem Ht.b {z : Sz} {W : Nat → Nat} {t : TS} (h : Ht z W t) {c : Nat} (hc : c < 160) : tB t c = eI (z.B c) := (h.1 c hc).2.2.1
theorem Ht.o {z : Sz} {W : Nat → Nat} {t : TS} (h : Ht z W t) {c : Nat} (hc : c < 160) : tO t c = nI (z.O c) := (h.1 c hc).2.2.2.1
theorem Ht.e {z : Sz} {W : Nat → Nat} {t : TS} (h : Ht z W t) {c : Nat} (hc : c < 160) : tE t c = eI (z.E c) := (h.1 c hc).2.2.2.2.1
theorem Ht.c {z : Sz} {W : Nat → Nat} {t : TS} (h : Ht z W t) {c : Nat} (hc : c < 160) : tC t c = nI (msk z c 9) := (h.1 c hc).2.2.2.2.2.1
theorem Ht.w {z : Sz} {W : Nat → Nat} {t : TS} (h : Ht z W t) {c : Nat} (hc : c < 160) : tW t c = nI (W c) := (h.1 c hc).2.2.2.2.2.2
theorem Ht.u {z : Sz} {W : Nat → Nat} {t : TS} (h : Ht z W t) {p : Nat} (hp : p < 40) : eU (tN t) p = nI (z.U p) := (h.2.1 p hp).1
theorem Ht.x {z : Sz} {W : Nat → Nat} {t : TS} (h : Ht z W t) {p : Nat} (hp : p < 40) : eX (tN t) p = lN (enc (z.X p)) := (h.2.1 p hp).2
theorem Ht.m {z : Sz} {W : Nat → Nat} {t : TS} (h : Ht z W t) : tM t = nI z.M := h.2.2
theorem J_at_n {n i : Nat} (f : Nat → Int32) (hi : i < n) (hn : n < 2147483648) : J_at n f (nI i) = f i := by
  rw [J_at, if_pos (inb_nI hi hn), nI_clamp' (by omega)]
theorem J_at_out {n i : Nat} (f : Nat → Int32) (hi : ¬ i < n) (hi2 : i < 2147483648) (hn : n < 2147483648) : J_at n f (nI i) = -1 := by
  rw [J_at, if_neg (fun h => hi ((inb_nI_iff hi2 hn).mp h))]
theorem J_at_m1 (n : Nat) (f : Nat → Int32) : J_at n f (-1) = -1 := by
  rw [J_at, if_neg (fun h => h (Or.inl (by decide)))]
theorem J_put_n {n i : Nat} (f : Nat → Int32) (v : Int32) (hi : i < n) (hn : n < 2147483648) : J_put n f (nI i) v = upd f i v := by
  rw [J_put, if_pos (inb_nI hi hn), nI_clamp' (by omega)]
theorem J_put_out {n i : Nat} (f : Nat → Int32) (v : Int32) (hi : ¬ i < n) (hi2 : i < 2147483648) (hn : n < 2147483648) : J_put n f (nI i) v = f := by
  rw [J_put, if_neg (fun h => hi ((inb_nI_iff hi2 hn).mp h))]
/-! masks -/
theorem bit_e : ∀ m, m < 512 → ∀ l, l < 9 → ((((nI m >>> (nI l &&& 31)) &&& (1 : Int32)) = 0) = (m.testBit l = false)) := by
  have h : ∀ m, m < 512 → ∀ l, l < 9 → (decide (((nI m >>> (nI l &&& 31)) &&& (1 : Int32)) = 0) = !(m.testBit l)) := by decide +kernel
  intro m hm l hl
  have h1 := h m hm l hl
  apply propext
  constructor
  · intro e
    rw [decide_eq_true e] at h1
    cases hb : m.testBit l
    · rfl
    · rw [hb] at h1; cases h1
  · intro e
    rw [e] at h1
    exact of_decide_eq_true h1
theorem one_bit_e : ∀ k, k < 9 → ∀ m, m < 2 ^ k → nI m ||| ((1 : Int32) <<< (nI k &&& 31)) = nI (m + 2 ^ k) := by decide +kernel
theorem bits_e : ∀ m, m < 512 → fM_bits (nI m) = some (fJ_bitCount (nI m)) := by decide +kernel
/-! children, in the class and in the model -/
theorem t_childOf {z : Sz} {W : Nat → Nat} {t : TS} (h : Ht z W t) {c l : Nat} (hc : c < 160) (hl : l < 9) :
    fT_childOf (nI c) (nI l) t = if ch z c l = 0 then -1 else nI (ch z c l) := by
  have h1 : msk z c 9 < 512 := msk_lt z c 9
  unfold fT_childOf
  rw [J_at_n _ hc (by omega), J_at_n _ hc (by omega), h.c hc, h.o hc, nI_add]
  simp only [bit_e _ h1 l hl, msk_bit z c 9 l hl]
  by_cases h2 : ch z c l = 0
  · simp [h2]
  · have h3 := (ch_0 (z := z) (c := c) (l := l) (by omega)).1
    rw [if_neg (by simp [h2]), if_neg h2, h3]
theorem t_childOf_m1 {t : TS} (l : Int32) (h : ∀ i : Int32, (((-1 : Int32) >>> (l &&& 31)) &&& (1 : Int32)) ≠ 0) : fT_childOf (-1) l t = -1 + l := by
  unfold fT_childOf
  rw [J_at_m1, J_at_m1, if_neg (h 0)]
theorem z_lettersOf {z : Sz} {t : MS} (hs : Sm z) (h : Mz z (mZ t)) {c : Nat} (hc : c < 160) :
    fM_lettersOf (nI c) t = some (nI (msk z c 9)) := by
  unfold fM_lettersOf
  obtain ⟨o, h1, h2⟩ := lp_run (σ := Int32 × Int32) (ω := Int32) (step := fun x1 =>
   if (9 : Int32) ≤ x1.2 then
    some (.inl x1.1)
   else
    (fM_child (nI c) x1.2 t).bind fun q3 =>
    gw_let (α := Int32 → Option (Int32 ⊕ Int32 × Int32)) (fun v4 =>
     gw_let (x1.1 ||| v4) fun v6 =>
     some (.inr (v6, (x1.2 + (1 : Int32))))
    ) fun j4 =>
    if q3 = (-1 : Int32) then
     j4 (0 : Int32)
    else
     j4 ((1 : Int32) <<< (x1.2 &&& 31)))
    (fun k x => x = (nI (msk z c k), nI k)) (fun o => o = nI (msk z c 9)) 9 ((0 : Int32), (0 : Int32)) rfl (by
      intro k x hk hI
      rw [hI]
      by_cases h9 : k = 9
      · refine Or.inl ⟨nI (msk z c 9), ?_, rfl⟩
        rw [h9]
        exact if_pos (show (9 : Int32) ≤ nI 9 by decide)
      · refine Or.inr ⟨by omega, (nI (msk z c (k + 1)), nI (k + 1)), ?_, rfl⟩
        show (if (9 : Int32) ≤ nI k then _ else _) = _
        rw [if_neg (show ¬ (9 : Int32) ≤ nI k from nI_ge (b := 9) (by omega) (by omega)), z_child hs h hc (by omega)]
        simp only [Option.bind_some, gw_let, msk]
        by_cases h0 : ch z c k = 0
        · rw [if_pos h0, if_pos rfl, if_pos h0, Int32.or_zero, Nat.add_zero, nI_1]
        · have := ch_lt z c k
          rw [if_neg h0, if_neg (nI_m1 (by omega)), if_neg h0, one_bit_e k (by omega) _ (msk_lt z c k), nI_1]) (by omega)
  rw [h1, h2]
  rfl
