/-! a leaf becomes inner -/
def unL (z : Sz) (c : Nat) (U : Nat → Nat) (X : Nat → List Nat) : Sz := sX (sE (sK z (fu z.K c 1)) (fu z.E c 0)) U X
/-- what is asked of the ends when the end of a leaf goes -/
def DropE (z : Sz) (c : Nat) (U : Nat → Nat) (X : Nat → List Nat) : Prop :=
  WFe U X ∧ (∀ q, z.U q = U q + if z.K c = 2 ∧ z.E c = q + 1 then 1 else 0) ∧ (∀ q, U q ≠ 0 → X q = z.X q)
theorem un_ch (z : Sz) {c : Nat} (U : Nat → Nat) (X : Nat → List Nat) (hk : z.K c = 2) (a b : Nat) : ch (unL z c U X) a b = ch z a b := by
  refine ch_same (fun x hx => ?_)
  have hK : ∀ y, 0 < (unL z c U X).K y ↔ 0 < z.K y := by
    intro y
    show 0 < fu z.K c 1 y ↔ _
    by_cases e : y = c
    · rw [e, fu_eq, hk]; omega
    · rw [fu_ne _ _ e]
  rw [ch_iff hx, ch_iff hx, hK]
  exact Iff.rfl
/-- a leaf that is left keeps its end -/
theorem drop_keep {z : Sz} {D : Nat → Nat} (h : WF z D) {c : Nat} {U : Nat → Nat} {X : Nat → List Nat} (hd : DropE z c U X) {y : Nat} (hy : z.K y = 2) (hyc : y ≠ c) : U (z.E y - 1) ≠ 0 ∧ X (z.E y - 1) = z.X (z.E y - 1) := by
  obtain ⟨-, e, he, h40, hu⟩ := h.leaf hy
  have h1 := h.uses e
  have hne : U e ≠ 0 := by
    intro h0
    have h2 := hd.2.1 e
    rw [h0] at h2
    by_cases e1 : z.K c = 2 ∧ z.E c = e + 1
    · rw [if_pos e1] at h2
      have hsum : 2 ≤ sm (fun x => if z.K x = 2 ∧ z.E x = e + 1 then 1 else 0) 160 := by
        have a1 := sm_upd (f := fun x => if z.K x = 2 ∧ z.E x = e + 1 then 1 else 0) (g := fun x => if x = y then 0 else if z.K x = 2 ∧ z.E x = e + 1 then 1 else 0) (n := 160) (k := y) (h.lt (by omega)) (fun i _ hi => by
          show _ = if i = y then 0 else _
          rw [if_neg hi])
        have a2 := sm_ge (f := fun x => if x = y then 0 else if z.K x = 2 ∧ z.E x = e + 1 then 1 else 0) (n := 160) (k := c) (h.lt (by omega))
        have a3 : (if c = y then 0 else if z.K c = 2 ∧ z.E c = e + 1 then 1 else 0) = 1 := by
          rw [if_neg (fun b => hyc b.symm), if_pos e1]
        have a4 : (if z.K y = 2 ∧ z.E y = e + 1 then 1 else 0) = 1 := if_pos ⟨hy, he⟩
        simp only [a3, a4, if_pos] at a1 a2
        omega
      omega
    · rw [if_neg e1] at h2; omega
  rw [he, Nat.add_sub_cancel]
  exact ⟨hne, hd.2.2 e hne⟩
theorem un_wf {z : Sz} {D : Nat → Nat} (h : WF z D) {c : Nat} {U : Nat → Nat} {X : Nat → List Nat} (hk : z.K c = 2) (hb : z.B c ≠ 1) (hd : DropE z c U X) (h11 : D c ≤ 11) : WF (unL z c U X) D := by
  have hcK : c ≠ 0 := by intro q; rw [q, h.root.1] at hk; omega
  have hch := un_ch z (c := c) U X hk
  have hK : ∀ y, y ≠ c → (unL z c U X).K y = z.K y := fun y hy => fu_ne _ _ hy
  have hE : ∀ y, y ≠ c → (unL z c U X).E y = z.E y := fun y hy => fu_ne _ _ hy
  have hKc : (unL z c U X).K c = 1 := fu_eq _ _ _
  have hEc : (unL z c U X).E c = 0 := fu_eq _ _ _
  have hK0 : ∀ y, (unL z c U X).K y ≠ 0 ↔ z.K y ≠ 0 := by
    intro y
    by_cases e : y = c
    · rw [e, hKc, hk]; omega
    · rw [hK y e]
  refine ⟨⟨by rw [hK 0 (fun q => hcK q.symm)]; exact h.root.1, h.root.2⟩, ?_, ?_, ?_, ?_, ?_, ?_, ?_, hd.1, ?_⟩
  · intro y hy
    have := h.2.1 y hy
    have := hK0 y
    omega
  · intro y hy
    have hyk : z.K y = 0 := by have := hK0 y; omega
    have hyc : y ≠ c := by intro q; rw [q] at hyk; omega
    rw [hE y hyc]
    exact h.free hyk
  · intro y hy0 hy
    have hy' := (hK0 y).mp hy
    obtain ⟨p, b, w1, w2, w3, w4, w5, w6, w7, w8⟩ := h.par hy0 hy'
    have hpc : p ≠ c := by intro q; rw [q] at w4; omega
    refine ⟨p, b, w1, w2, w3, by rw [hK p hpc]; exact w4, w5, w6, w7, fun hb0 => ?_⟩
    have w9 := w8 hb0
    have hyc : y ≠ c := by
      intro q
      subst q
      omega
    refine ⟨by rw [hK y hyc]; exact w9.1, w9.2.1, ?_⟩
    rw [hE y hyc]
    show X (z.E y - 1) = []
    rw [(drop_keep h hd w9.1 hyc).2]; exact w9.2.2
  · intro y hy
    have hyc : y ≠ c := by intro q; rw [q, hKc] at hy; omega
    rw [hK y hyc] at hy
    obtain ⟨b1, e, he, h40, hu⟩ := h.leaf hy
    have := (drop_keep h hd hy hyc).1
    rw [he, Nat.add_sub_cancel] at this
    exact ⟨b1, e, by rw [hE y hyc]; exact he, h40, this⟩
  · intro y hy
    by_cases hyc : y = c
    · subst hyc
      have hO : z.O y = 0 := (h.leaf hk).1
      have hlen := h.len hk hb
      refine ⟨hEc, by show z.O y < 160; omega, by omega, fun q => ?_⟩
      have q' : 0 < z.O y := q
      omega
    · rw [hK y hyc] at hy
      have hin := h.inn hy
      refine ⟨by rw [hE y hyc]; exact hin.1, hin.2.1, hin.2.2.1, fun q => ?_⟩
      obtain ⟨l, hl, hc⟩ := hin.2.2.2 q
      exact ⟨l, hl, by rw [hch]; exact hc⟩
  · intro y
    by_cases hyc : y = c
    · rw [hyc, hKc]; omega
    · rw [hK y hyc]; exact h.k3 y
  · intro y hy hyb
    have hyc : y ≠ c := by intro q; rw [q, hKc] at hy; omega
    rw [hK y hyc] at hy
    rw [hE y hyc]
    show D y + (X (z.E y - 1)).length ≤ 12
    rw [(drop_keep h hd hy hyc).2]
    exact h.len hy hyb
  · intro q
    show U q = _
    have h1 := hd.2.1 q
    rw [h.uses q] at h1
    have := sm_upd (f := fun y => if (unL z c U X).K y = 2 ∧ (unL z c U X).E y = q + 1 then 1 else 0) (g := fun y => if z.K y = 2 ∧ z.E y = q + 1 then 1 else 0) (n := 160) (k := c) (h.lt (by omega)) (fun y _ hy => by
      show (if (unL z c U X).K y = 2 ∧ (unL z c U X).E y = q + 1 then 1 else 0) = _
      rw [hK y hy, hE y hy])
    have e2 : (if (unL z c U X).K c = 2 ∧ (unL z c U X).E c = q + 1 then 1 else 0) = 0 := if_neg (fun b => by rw [hKc] at b; omega)
    simp only [e2] at this
    omega
theorem un_chain {z : Sz} {D : Nat → Nat} {c : Nat} {U : Nat → Nat} {X : Nat → List Nat} (y : Nat) : chain (unL z c U X) D y = chain z D y := by
  have : ∀ f y, up (unL z c U X) f y = up z f y := by
    intro f
    induction f with
    | zero => intro y; rfl
    | succ f ih =>
      intro y
      show y :: (if z.P y = 0 then [] else up (unL z c U X) f (z.P y - 1)) = _
      rw [ih]; rfl
  exact this _ y
theorem un_Pl {z : Sz} {D : Nat → Nat} {c : Nat} {U : Nat → Nat} {X : Nat → List Nat} (y : Nat) : Pl (unL z c U X) D y = Pl z D y := by
  have : ∀ f y, pw (unL z c U X) f y = pw z f y := by
    intro f
    induction f with
    | zero => intro y; rfl
    | succ f ih =>
      intro y
      show (if z.P y = 0 then [] else pw (unL z c U X) f (z.P y - 1) ++ _) = _
      rw [ih]; rfl
  exact this _ y
theorem un_W {z : Sz} {D : Nat → Nat} (h : WF z D) {c : Nat} {U : Nat → Nat} {X : Nat → List Nat} (hk : z.K c = 2) (a : Nat) : Wz (unL z c U X) D a + (if a ∈ chain z D c then 1 else 0) = Wz z D a := by
  have := sm_upd (f := fun y => if (unL z c U X).K y = 2 ∧ a ∈ chain (unL z c U X) D y then 1 else 0) (g := fun y => if z.K y = 2 ∧ a ∈ chain z D y then 1 else 0) (n := 160) (k := c) (h.lt (by omega)) (fun y _ hy => by
    have hK : (unL z c U X).K y = z.K y := fu_ne _ _ hy
    show (if (unL z c U X).K y = 2 ∧ a ∈ chain (unL z c U X) D y then 1 else 0) = _
    rw [hK, un_chain])
  have e1 : (if z.K c = 2 ∧ a ∈ chain z D c then 1 else 0) = if a ∈ chain z D c then 1 else 0 := by
    by_cases e : a ∈ chain z D c
    · rw [if_pos ⟨hk, e⟩, if_pos e]
    · rw [if_neg (fun b => e b.2), if_neg e]
  have e2 : (if (unL z c U X).K c = 2 ∧ a ∈ chain (unL z c U X) D c then 1 else 0) = 0 := by
    have hK : (unL z c U X).K c = 1 := fu_eq _ _ _
    exact if_neg (fun b => by rw [hK] at b; omega)
  simp only [e1, e2] at this
  rw [Wz, Wz]
  omega
theorem drop_ok {z : Sz} {D : Nat → Nat} (h : WF z D) {c p : Nat} (hk : z.K c = 2) (hE : z.E c = p + 1) : z.U p ≠ 0 ∧ p < 40 ∧ DropE z c (dU z.U p) (dX z.U z.X p) := by
  obtain ⟨-, e, he, h40, hu⟩ := h.leaf hk
  have : e = p := by omega
  subst this
  refine ⟨hu, h40, WFe_drop h.e hu, fun q => ?_, fun q hq => ?_⟩
  · by_cases e1 : q = e
    · subst e1
      rw [dU, fu_eq, if_pos ⟨hk, hE⟩]; omega
    · rw [dU, fu_ne _ _ e1, if_neg (fun b => by omega), Nat.add_zero]
  · rw [dX]
    by_cases e2 : z.U e = 1
    · rw [if_pos e2]
      by_cases e1 : q = e
      · subst e1
        rw [dU, fu_eq] at hq; omega
      · rw [fu_ne _ _ e1]
    · rw [if_neg e2]
/-! a cell without children goes -/
def rmC (z : Sz) (x : Nat) (U : Nat → Nat) (X : Nat → List Nat) : Sz :=
  sX (sE (sO (sB (sP (sK z (fu z.K x 0)) (fu z.P x 0)) (fu z.B x 0)) (fu (fu z.O (z.P x - 1) (if msk z (z.P x - 1) 9 = 2 ^ (z.B x - 1) then 0 else z.O (z.P x - 1))) x 0)) (fu z.E x 0)) U X
theorem msk_only {z : Sz} {D : Nat → Nat} (h : WF z D) {p l : Nat} (hc : ch z p l ≠ 0) : msk z p 9 = 2 ^ l ↔ ∀ b, ch z p b ≠ 0 → b = l := by
  have hl := (h.chp hc).2.2.2.1
  constructor
  · intro e b hb
    have hb9 := (h.chp hb).2.2.2.1
    have h1 := msk_bit z p 9 b hb9
    rw [e, Nat.testBit_two_pow, decide_eq_true hb] at h1
    exact (of_decide_eq_true h1).symm
  · intro hall
    refine Nat.eq_of_testBit_eq (fun b => ?_)
    rw [Nat.testBit_two_pow]
    by_cases hb9 : b < 9
    · rw [msk_bit z p 9 b hb9]
      by_cases e : l = b
      · subst e
        simp [hc]
      · have : ch z p b = 0 := by
          by_cases q : ch z p b = 0
          · exact q
          · exact absurd (hall b q).symm e
        simp [this, e]
    · have h1 := msk_lt z p 9
      have h2 : (2 : Nat) ^ 9 ≤ 2 ^ b := Nat.pow_le_pow_right (by omega) (by omega)
      rw [Nat.testBit_lt_two_pow (by omega)]
      simp; omega
theorem rm_ch {z : Sz} {D : Nat → Nat} (h : WF z D) {x : Nat} (U : Nat → Nat) (X : Nat → List Nat) (hx0 : x ≠ 0) (hx : z.K x ≠ 0) (hno : ∀ b, ch z x b = 0) (a b : Nat) : ch (rmC z x U X) a b = if ch z a b = x then 0 else ch z a b := by
  obtain ⟨p, l, w1, w2, w3, w4, w5, w6, w7, w8⟩ := h.par hx0 hx
  have hpx : p ≠ x := by intro q; rw [q] at w7; omega
  have hxc := h.ch_of hx0 hx w1 w2
  have hxc0 : ch z p l ≠ 0 := by rw [hxc]; exact hx0
  have hK : ∀ y, y ≠ x → (rmC z x U X).K y = z.K y := fun y hy => fu_ne _ _ hy
  have hP : ∀ y, y ≠ x → (rmC z x U X).P y = z.P y := fun y hy => fu_ne _ _ hy
  have hKx : (rmC z x U X).K x = 0 := fu_eq _ _ _
  have hOx : (rmC z x U X).O x = 0 := fu_eq _ _ _
  have hOe : ∀ y, y ≠ x → y ≠ p → (rmC z x U X).O y = z.O y := by
    intro y h1 h2
    show fu (fu z.O (z.P x - 1) _) x 0 y = _
    rw [fu_ne _ _ h1, w1, Nat.add_sub_cancel, fu_ne _ _ h2]
  have hOp : (rmC z x U X).O p = if msk z p 9 = 2 ^ l then 0 else z.O p := by
    show fu (fu z.O (z.P x - 1) (if msk z (z.P x - 1) 9 = 2 ^ (z.B x - 1) then 0 else z.O (z.P x - 1))) x 0 p = _
    rw [fu_ne _ _ hpx, w1, w2, Nat.add_sub_cancel, Nat.add_sub_cancel, fu_eq]
  by_cases hax : a = x
  · subst hax
    rw [hno b, if_neg (fun q => hx0 q.symm)]
    exact if_neg (fun q => by rw [hOx] at q; omega)
  · have main : (rmC z x U X).O a = z.O a → ch (rmC z x U X) a b = if ch z a b = x then 0 else ch z a b := by
      intro hO
      by_cases e : ch z a b = x
      · rw [if_pos e]
        have := ((ch_iff hx0).mp e).2.2.2.2
        refine if_neg (fun q => ?_)
        rw [hO, this, hKx] at q; omega
      · rw [if_neg e]
        refine ch_same (fun y hy => ?_)
        rw [ch_iff hy, ch_iff hy, hO]
        by_cases e2 : z.O a + b = x
        · rw [e2, hKx]
          constructor
          · rintro ⟨-, -, q, -⟩; omega
          · rintro ⟨q1, q2, q3, q4, q5⟩
            exact absurd ((ch_iff hx0).mpr ⟨q1, by omega, by rw [e2]; exact q3, by rw [e2]; exact q4, e2⟩) e
        · rw [hK _ e2, hP _ e2]
    by_cases hap : a = p
    · subst hap
      by_cases hm : msk z a 9 = 2 ^ l
      · rw [if_pos hm] at hOp
        have hall := (msk_only h hxc0).mp hm
        have : ch (rmC z x U X) a b = 0 := if_neg (fun q => by rw [hOp] at q; omega)
        rw [this]
        by_cases e : ch z a b = 0
        · rw [e, if_neg (fun q => hx0 q.symm)]
        · have := hall b e
          subst this
          rw [if_pos hxc]
      · rw [if_neg hm] at hOp
        exact main hOp
    · exact main (hOe a hax hap)
theorem rm_wf {z : Sz} {D : Nat → Nat} (h : WF z D) {x : Nat} {U : Nat → Nat} {X : Nat → List Nat} (hx0 : x ≠ 0) (hx : z.K x ≠ 0) (hno : ∀ b, ch z x b = 0) (hd : DropE z x U X) : WF (rmC z x U X) D := by
  have hch := rm_ch h U X hx0 hx hno
  obtain ⟨p, l, w1, w2, w3, w4, w5, w6, w7, w8⟩ := h.par hx0 hx
  have hpx : p ≠ x := by intro q; rw [q] at w7; omega
  have hxc := h.ch_of hx0 hx w1 w2
  have hxc0 : ch z p l ≠ 0 := by rw [hxc]; exact hx0
  have hK : ∀ y, y ≠ x → (rmC z x U X).K y = z.K y := fun y hy => fu_ne _ _ hy
  have hP : ∀ y, y ≠ x → (rmC z x U X).P y = z.P y := fun y hy => fu_ne _ _ hy
  have hB : ∀ y, y ≠ x → (rmC z x U X).B y = z.B y := fun y hy => fu_ne _ _ hy
  have hE : ∀ y, y ≠ x → (rmC z x U X).E y = z.E y := fun y hy => fu_ne _ _ hy
  have hKx : (rmC z x U X).K x = 0 := fu_eq _ _ _
  have hOx : (rmC z x U X).O x = 0 := fu_eq _ _ _
  have hOe : ∀ y, y ≠ x → y ≠ p → (rmC z x U X).O y = z.O y := by
    intro y h1 h2
    show fu (fu z.O (z.P x - 1) _) x 0 y = _
    rw [fu_ne _ _ h1, w1, Nat.add_sub_cancel, fu_ne _ _ h2]
  have hOp : (rmC z x U X).O p = if msk z p 9 = 2 ^ l then 0 else z.O p := by
    show fu (fu z.O (z.P x - 1) (if msk z (z.P x - 1) 9 = 2 ^ (z.B x - 1) then 0 else z.O (z.P x - 1))) x 0 p = _
    rw [fu_ne _ _ hpx, w1, w2, Nat.add_sub_cancel, Nat.add_sub_cancel, fu_eq]
  refine ⟨⟨by rw [hK 0 (fun q => hx0 q.symm)]; exact h.root.1, by rw [hP 0 (fun q => hx0 q.symm)]; exact h.root.2.1, by rw [hB 0 (fun q => hx0 q.symm)]; exact h.root.2.2.1, h.root.2.2.2⟩, ?_, ?_, ?_, ?_, ?_, ?_, ?_, hd.1, ?_⟩
  · intro y hy
    by_cases e : y = x
    · rw [e, hKx]
    · rw [hK y e]; exact h.2.1 y hy
  · intro y hy
    by_cases e : y = x
    · subst e
      exact ⟨fu_eq _ _ _, fu_eq _ _ _, hOx, fu_eq _ _ _⟩
    · rw [hK y e] at hy
      have hyp : y ≠ p := by intro q; rw [q] at hy; omega
      rw [hP y e, hB y e, hE y e, hOe y e hyp]
      exact h.free hy
  · intro y hy0 hy
    have e : y ≠ x := by intro q; rw [q, hKx] at hy; omega
    rw [hK y e] at hy
    obtain ⟨p', b, v1, v2, v3, v4, v5, v6, v7, v8⟩ := h.par hy0 hy
    have hyc := h.ch_of hy0 hy v1 v2
    have hp'x : p' ≠ x := by
      intro q
      rw [q, hno b] at hyc; exact hy0 hyc.symm
    have hO' : (rmC z x U X).O p' = z.O p' := by
      by_cases q : p' = p
      · subst q
        rw [hOp, if_neg]
        intro hm
        have := (msk_only h hxc0).mp hm b (by rw [hyc]; exact hy0)
        rw [this, hxc] at hyc
        exact e hyc.symm
      · exact hOe p' hp'x q
    refine ⟨p', b, by rw [hP y e]; exact v1, by rw [hB y e]; exact v2, v3, by rw [hK p' hp'x]; exact v4, by rw [hO']; exact v5, by rw [hO']; exact v6, v7, fun hb => ?_⟩
    have := v8 hb
    refine ⟨by rw [hK y e]; exact this.1, this.2.1, ?_⟩
    rw [hE y e]
    show X (z.E y - 1) = []
    rw [(drop_keep h hd this.1 e).2]; exact this.2.2
  · intro y hy
    have e : y ≠ x := by intro q; rw [q, hKx] at hy; omega
    rw [hK y e] at hy
    have hyp : y ≠ p := by intro q; rw [q] at hy; omega
    obtain ⟨b1, e', he', h40, hu⟩ := h.leaf hy
    have := (drop_keep h hd hy e).1
    rw [he', Nat.add_sub_cancel] at this
    exact ⟨by rw [hOe y e hyp]; exact b1, e', by rw [hE y e]; exact he', h40, this⟩
  · intro y hy
    have e : y ≠ x := by intro q; rw [q, hKx] at hy; omega
    rw [hK y e] at hy
    have hin := h.inn hy
    refine ⟨by rw [hE y e]; exact hin.1, ?_, hin.2.2.1, ?_⟩
    · by_cases q : y = p
      · subst q
        rw [hOp]; split
        · omega
        · exact hin.2.1
      · rw [hOe y e q]; exact hin.2.1
    · intro hO
      by_cases q : y = p
      · subst q
        rw [hOp] at hO
        by_cases hm : msk z y 9 = 2 ^ l
        · rw [if_pos hm] at hO; omega
        · have : ∃ b, ch z y b ≠ 0 ∧ b ≠ l := by
            refine Classical.byContradiction (fun hn => hm ((msk_only h hxc0).mpr (fun b hb => ?_)))
            exact Classical.byContradiction (fun hbl => hn ⟨b, hb, hbl⟩)
          obtain ⟨b, hb, hbl⟩ := this
          refine ⟨b, (h.chp hb).2.2.2.1, ?_⟩
          rw [hch, if_neg]
          · exact hb
          · intro r
            have h1 := (h.chp hb).2.2.1
            rw [r] at h1
            omega
      · rw [hOe y e q] at hO
        obtain ⟨b, hb, hcb⟩ := hin.2.2.2 hO
        refine ⟨b, hb, ?_⟩
        rw [hch, if_neg]
        · exact hcb
        · intro r
          have h1 := (h.chp hcb).2.1
          rw [r] at h1
          omega
  · intro y
    by_cases e : y = x
    · rw [e, hKx]; omega
    · rw [hK y e]; exact h.k3 y
  · intro y hy hb
    have e : y ≠ x := by intro q; rw [q, hKx] at hy; omega
    rw [hK y e] at hy
    rw [hB y e] at hb
    rw [hE y e]
    show D y + (X (z.E y - 1)).length ≤ 12
    rw [(drop_keep h hd hy e).2]
    exact h.len hy hb
  · intro q
    show U q = _
    have h1 := hd.2.1 q
    rw [h.uses q] at h1
    have := sm_upd (f := fun y => if (rmC z x U X).K y = 2 ∧ (rmC z x U X).E y = q + 1 then 1 else 0) (g := fun y => if z.K y = 2 ∧ z.E y = q + 1 then 1 else 0) (n := 160) (k := x) (h.lt hx) (fun y _ hy => by
      show (if (rmC z x U X).K y = 2 ∧ (rmC z x U X).E y = q + 1 then 1 else 0) = _
      rw [hK y hy, hE y hy])
    have e2 : (if (rmC z x U X).K x = 2 ∧ (rmC z x U X).E x = q + 1 then 1 else 0) = 0 := if_neg (fun b => by rw [hKx] at b; omega)
    simp only [e2] at this
    omega
theorem rm_chain {z : Sz} {D : Nat → Nat} (h : WF z D) {x : Nat} {U : Nat → Nat} {X : Nat → List Nat} (hx0 : x ≠ 0) (hx : z.K x ≠ 0) (hno : ∀ b, ch z x b = 0) (h' : WF (rmC z x U X) D) : ∀ y, z.K y ≠ 0 → y ≠ x → chain (rmC z x U X) D y = chain z D y := by
  refine wf_up h _ (fun _ => by rw [chain_0 h, chain_0 h']) ?_
  intro y hy0 hy ih hyx
  obtain ⟨p, b, w1, w2, w3, w4, w5, w6, w7, w8⟩ := h.par hy0 hy
  have hyc := h.ch_of hy0 hy w1 w2
  have hpx : p ≠ x := by
    intro q
    rw [q, hno b] at hyc; exact hy0 hyc.symm
  have hK' : (rmC z x U X).K y ≠ 0 := by
    show fu z.K x 0 y ≠ 0
    rw [fu_ne _ _ hyx]; exact hy
  have hP' : (rmC z x U X).P y = z.P y := fu_ne _ _ hyx
  rw [chain_s h hy0 hy, chain_s h' hy0 hK', hP', show z.P y - 1 = p by omega, ih p w1 w4 w7 hpx]
theorem rm_W {z : Sz} {D : Nat → Nat} (h : WF z D) {x : Nat} {U : Nat → Nat} {X : Nat → List Nat} (hx0 : x ≠ 0) (hx : z.K x ≠ 0) (hno : ∀ b, ch z x b = 0) (h' : WF (rmC z x U X) D) (a : Nat) : Wz (rmC z x U X) D a + (if z.K x = 2 ∧ a ∈ chain z D x then 1 else 0) = Wz z D a := by
  have hc := rm_chain h hx0 hx hno h'
  have := sm_upd (f := fun y => if (rmC z x U X).K y = 2 ∧ a ∈ chain (rmC z x U X) D y then 1 else 0) (g := fun y => if z.K y = 2 ∧ a ∈ chain z D y then 1 else 0) (n := 160) (k := x) (h.lt hx) (fun y _ hy => by
    have hK : (rmC z x U X).K y = z.K y := fu_ne _ _ hy
    show (if (rmC z x U X).K y = 2 ∧ a ∈ chain (rmC z x U X) D y then 1 else 0) = _
    rw [hK]
    by_cases e : z.K y = 2
    · rw [hc y (by omega) hy]
    · rw [if_neg (fun b => e b.1), if_neg (fun b => e b.1)])
  have e2 : (if (rmC z x U X).K x = 2 ∧ a ∈ chain (rmC z x U X) D x then 1 else 0) = 0 := by
    have hK : (rmC z x U X).K x = 0 := fu_eq _ _ _
    exact if_neg (fun b => by rw [hK] at b; omega)
  simp only [e2] at this
  rw [Wz, Wz]
  omega
theorem gr_filter (Q : Nat → Bool) {g g' : Nat → List (Nat × List Nat)} : ∀ {n : Nat}, (∀ l, l < n → g' l = (g l).filter (fun p => Q p.1)) → gr g' n = (gr g n).filter (fun p => Q p.1)
  | 0, _ => rfl
  | n + 1, h => by
    show gr g' n ++ _ = (gr g n ++ _).filter _
    rw [gr_filter Q (fun l hl => h l (by omega)), h n (by omega), List.filter_append, List.filter_map]
    rfl
theorem rm_T {z : Sz} {D : Nat → Nat} (h : WF z D) {x : Nat} {U : Nat → Nat} {X : Nat → List Nat} (hx0 : x ≠ 0) (hx : z.K x ≠ 0) (hno : ∀ b, ch z x b = 0) (hd : DropE z x U X) : ∀ c, z.K c ≠ 0 → c ≠ x → Tz (rmC z x U X) D c = (Tz z D c).filter (fun p => decide (p.1 ≠ x)) := by
  have h' := rm_wf h hx0 hx hno hd
  have hK : ∀ y, y ≠ x → (rmC z x U X).K y = z.K y := fun y hy => fu_ne _ _ hy
  have hE : ∀ y, y ≠ x → (rmC z x U X).E y = z.E y := fun y hy => fu_ne _ _ hy
  have hTx : (Tz z D x).filter (fun p => decide (p.1 ≠ x)) = [] := by
    rcases h.k12 hx with h1 | h1
    · have : ∀ n, gr (Tc z D x) n = [] := by
        intro n
        induction n with
        | zero => rfl
        | succ n ih =>
          show gr (Tc z D x) n ++ _ = []
          rw [ih, Tc_0 (hno n)]; rfl
      rw [T_inner h h1, this]; rfl
    · rw [T_leaf h h1]; simp
  refine wf_ind h _ ?_
  intro c hk ih hcx
  rcases h.k12 hk with h1 | h1
  · rw [T_inner h' (by rw [hK c hcx]; exact h1), T_inner h h1]
    refine gr_filter (fun y => decide (y ≠ x)) (fun l _ => ?_)
    show Tc (rmC z x U X) D c l = (Tc z D c l).filter (fun p => decide (p.1 ≠ x))
    rw [Tc, rm_ch h U X hx0 hx hno]
    by_cases hc : ch z c l = 0
    · have e0 : (if (0 : Nat) = x then 0 else 0) = 0 := by split <;> rfl
      rw [Tc_0 hc, hc, e0, if_pos rfl]; rfl
    · rw [Tc_1 hc]
      by_cases e : ch z c l = x
      · rw [if_pos e, if_pos rfl, e, hTx]
      · rw [if_neg e, if_neg hc]
        exact ih l hc e
  · rw [T_leaf h' (by rw [hK c hcx]; exact h1), T_leaf h h1, hE c hcx]
    show [(c, X (z.E c - 1))] = _
    rw [(drop_keep h hd h1 hcx).2]
    simp [hcx]
