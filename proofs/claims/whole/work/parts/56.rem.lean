/-! a leaf is removed -/
def rmF : Nat → Sz → Nat → Nat × Sz
  | 0, z, _ => (0, z)
  | f + 1, z, x => if x = 0 ∨ msk z x 9 ≠ 0 then (0, z) else ((rmF f (rmC z x z.U z.X) (z.P x - 1)).1 + 1, (rmF f (rmC z x z.U z.X) (z.P x - 1)).2)
def rmL (z : Sz) (x : Nat) : Sz := rmC z x (dU z.U (z.E x - 1)) (dX z.U z.X (z.E x - 1))
def remS (z : Sz) (x : Nat) : Nat × Sz := ((rmF 13 (rmL z x) (z.P x - 1)).1 + 1, (rmF 13 (rmL z x) (z.P x - 1)).2)
theorem drop_no {z : Sz} {D : Nat → Nat} (h : WF z D) {x : Nat} (hk : z.K x = 1) : DropE z x z.U z.X :=
  ⟨h.e, fun q => by rw [if_neg (fun b => by omega), Nat.add_zero], fun _ _ => rfl⟩
theorem msk_ch {z : Sz} {D : Nat → Nat} (h : WF z D) {x : Nat} : msk z x 9 = 0 ↔ ∀ b, ch z x b = 0 := by
  constructor
  · intro e b
    by_cases hb : b < 9
    · have := msk_bit z x 9 b hb
      rw [e] at this
      by_cases q : ch z x b = 0
      · exact q
      · rw [decide_eq_true q] at this; simp at this
    · exact h.ch9 (by omega)
  · intro hc
    have : ∀ n, msk z x n = 0 := by
      intro n
      induction n with
      | zero => rfl
      | succ n ih => rw [msk, ih, if_pos (hc n)]
    exact this 9
theorem clr_e : ∀ m, m < 512 → ∀ l, l < 9 → m.testBit l = true → nI m &&& (((1 : Int32) <<< (nI l &&& 31)) ^^^ (-1 : Int32)) = nI (m - 2 ^ l) := by decide +kernel
theorem clr_b : ∀ m, m < 512 → ∀ l, l < 9 → m.testBit l = true → ∀ b, b < 9 → (m - 2 ^ l).testBit b = (m.testBit b && !decide (b = l)) := by decide +kernel
theorem rm_msk {z : Sz} {D : Nat → Nat} (h : WF z D) {x p l : Nat} {U : Nat → Nat} {X : Nat → List Nat} (hx0 : x ≠ 0) (hx : z.K x ≠ 0) (hno : ∀ b, ch z x b = 0) (hp : z.P x = p + 1) (hb : z.B x = l + 1) (hl : l < 9) (y : Nat) : fu (fu (fun x => msk z x 9) p (msk z p 9 - 2 ^ l)) x 0 y = msk (rmC z x U X) y 9 := by
  have hch := rm_ch h U X hx0 hx hno
  have hxc := h.ch_of hx0 hx hp hb
  have hm : msk z p 9 < 512 := msk_lt z p 9
  have hbit : (msk z p 9).testBit l = true := by rw [msk_bit z p 9 l hl, hxc]; exact decide_eq_true hx0
  by_cases e1 : y = x
  · rw [e1, fu_eq]
    have : ∀ n, msk (rmC z x U X) x n = 0 := by
      intro n
      induction n with
      | zero => rfl
      | succ n ih =>
        rw [msk, ih, if_pos]
        rw [hch, hno n]
        split <;> rfl
    exact (this 9).symm
  · rw [fu_ne _ _ e1]
    by_cases e2 : y = p
    · subst e2
      rw [fu_eq]
      refine Nat.eq_of_testBit_eq (fun b => ?_)
      by_cases hb9 : b < 9
      · rw [clr_b _ hm l hl hbit b hb9, msk_bit z y 9 b hb9, msk_bit _ y 9 b hb9, hch]
        by_cases e3 : b = l
        · subst e3
          rw [hxc, if_pos rfl]; simp
        · by_cases e4 : ch z y b = 0
          · rw [e4]
            have : (if (0 : Nat) = x then 0 else 0) = 0 := by split <;> rfl
            rw [this]; simp
          · have e5 : ch z y b ≠ x := by
              intro q
              have q1 := (h.chp e4).2.2.1
              rw [q, hb] at q1; omega
            rw [if_neg e5, decide_eq_true e4, decide_eq_false e3]; rfl
      · have h1 := msk_lt (rmC z x U X) y 9
        have h3 : (2 : Nat) ^ 9 ≤ 2 ^ b := Nat.pow_le_pow_right (by omega) (by omega)
        have hpl : 0 < 2 ^ l := Nat.pow_pos (by omega)
        rw [Nat.testBit_lt_two_pow (by omega), Nat.testBit_lt_two_pow (by omega)]
    · rw [fu_ne _ _ e2]
      have : ∀ n, msk z y n = msk (rmC z x U X) y n := by
        intro n
        induction n with
        | zero => rfl
        | succ n ih =>
          rw [msk, msk, ih, hch]
          have e5 : ch z y n ≠ x := by
            intro q
            have q1 := (h.chp (c := y) (l := n) (by rw [q]; exact hx0)).2.1
            rw [q, hp] at q1; omega
          rw [if_neg e5]
      exact this 9
/-- one cell less in the class -/
theorem t_lose {z z' : Sz} {D C W : Nat → Nat} {t : TS} (h : WF z D) {x p l : Nat} (hx0 : x ≠ 0) (hx : z.K x ≠ 0) (hno : ∀ b, ch z x b = 0) (hp : z.P x = p + 1) (hb : z.B x = l + 1) (hl : l < 9) (hpc : p < 160) (hxc : x < 160) (hOz : z'.O = z.O) (hC : C = fun x => msk z x 9) (ht : Hr z' C W t) :
    Hr (sE (sO (sB (sP (sK z' (fu z'.K x 0)) (fu z'.P x 0)) (fu z'.B x 0)) (fu (fu z.O p (if msk z p 9 = 2 ^ l then 0 else z.O p)) x 0)) (fu z'.E x 0)) (fu (fu C p (msk z p 9 - 2 ^ l)) x 0) (fu W x 0) (fT_clearCell (nI x) (fT_loseChild (nI p) (nI l) t)) := by
  have hxch := h.ch_of hx0 hx hp hb
  have hm : msk z p 9 < 512 := msk_lt z p 9
  have hbit : (msk z p 9).testBit l = true := by rw [msk_bit z p 9 l hl, hxch]; exact decide_eq_true hx0
  have hge : 2 ^ l ≤ msk z p 9 := Nat.ge_two_pow_of_testBit hbit
  have hpl : 0 < 2 ^ l := Nat.pow_pos (by omega)
  have hv : (J_at 160 (tC t) (nI p)) &&& (((1 : Int32) <<< (nI l &&& 31)) ^^^ (-1 : Int32)) = nI (msk z p 9 - 2 ^ l) := by
    rw [J_at_n _ hpc (by omega), ht.c p hpc, hC]
    exact clr_e _ hm l hl hbit
  have k1 := Hr_C ht hpc (v := msk z p 9 - 2 ^ l) (i := nI p) (w := nI (msk z p 9 - 2 ^ l)) rfl rfl
  have k2 : Hr (sO z' (fu z.O p (if msk z p 9 = 2 ^ l then 0 else z.O p))) (fu C p (msk z p 9 - 2 ^ l)) W (fT_loseChild (nI p) (nI l) t) := by
    unfold fT_loseChild
    rw [gw_let, hv, gw_let]
    by_cases e : msk z p 9 = 2 ^ l
    · rw [if_pos (show nI (msk z p 9 - 2 ^ l) = 0 by rw [e, Nat.sub_self]; rfl), if_pos e, gw_let]
      have := Hr_O k1 hpc (v := 0) (i := nI p) (w := 0) rfl rfl
      rw [hOz] at this
      exact this
    · rw [if_neg (nI_ne0 (by omega) (by omega)), if_neg e, fu_same rfl, ← hOz]
      exact k1
  exact t_clear k2 hxc
theorem t_freeLeaf {z : Sz} {D : Nat → Nat} {t : TS} (h : WF z D) (ht : Ht z (Wz z D) t) {x : Nat} (hk : z.K x = 2) :
    Gd (fun o => o.1 = nI (remS z x).1 ∧ Ht (remS z x).2 (Wz (remS z x).2 D) o.2) (fT_freeLeaf (nI x) t) := by
  have hs := h.sml
  have hx : z.K x ≠ 0 := by omega
  have hxc := h.lt hx
  have hx0 : x ≠ 0 := by intro q; rw [q, h.root.1] at hk; omega
  have hno : ∀ b, ch z x b = 0 := fun b => h.ch0 (by omega)
  obtain ⟨hO, e, he, h40, hu⟩ := h.leaf hk
  obtain ⟨p, l, w1, w2, w3, w4, w5, w6, w7, w8⟩ := h.par hx0 hx
  have hpc := h.lt (c := p) (by omega)
  have hDx := h.dp hx
  obtain ⟨d1, d2, d3⟩ := drop_ok h hk he
  have hwf : WF (rmL z x) D := by
    rw [rmL, he, Nat.add_sub_cancel]
    exact rm_wf h hx0 hx hno d3
  unfold fT_freeLeaf
  rw [J_at_n _ hxc (by omega), ht.e hxc, he, eI_s]
  refine gd_bind (e_release hs.u ht.hr.n h40 hu) ?_
  intro n1 hn1
  rw [gw_let]
  have k1 := Hr_N ht.hr hn1
  have hpar : J_at 160 (tP (sTN t n1)) (nI x) = nI p := by
    rw [J_at_n _ hxc (by omega)]
    show tP t x = _
    rw [ht.p hxc, w1, eI_s]
  rw [hpar]
  have hWge : ∀ a, a ∈ chain z D p → 1 ≤ Wz z D a := by
    intro a ha
    have := sm_ge (f := fun y => if z.K y = 2 ∧ a ∈ chain z D y then 1 else 0) (n := 160) (k := x) hxc
    have e1 : (if z.K x = 2 ∧ a ∈ chain z D x then 1 else 0) = 1 := by
      rw [if_pos]
      refine ⟨hk, ?_⟩
      rw [chain_s h hx0 hx, w1, Nat.add_sub_cancel]
      exact List.mem_cons_of_mem _ ha
    simp only [e1] at this
    exact this
  refine gd_bind (t_addBelow h k1 (fun x _ => rfl) (c := p) (by omega) (v := -1) (W' := fun a => Wz z D a - if a ∈ chain z D p then 1 else 0) (fun a ha => by
    have := hWge a ha
    rw [if_pos ha, show (-1 : Int32) = -nI 1 by rfl, ← Int32.sub_eq_add_neg, nI_sub this]) (fun a ha => by rw [if_neg ha, Nat.sub_zero])) ?_
  intro t2 k2
  refine gd_bind (P := fun o => o.1 = nI (remS z x).1 ∧ Ht (remS z x).2 (Wz (remS z x).2 D) o.2) ?_ (fun a ha => gd_some ha)
  have hfirst := t_lose (t := t2) h hx0 hx hno w1 w2 w3 hpc hxc (z' := sX z (dU z.U e) (dX z.U z.X e)) rfl rfl k2
  have hW1 : fu (fun a => Wz z D a - if a ∈ chain z D p then 1 else 0) x 0 = Wz (rmL z x) D := by
    funext a
    have := rm_W h hx0 hx hno (U := dU z.U e) (X := dX z.U z.X e) (rm_wf h hx0 hx hno d3) a
    rw [chain_s h hx0 hx, w1, Nat.add_sub_cancel] at this
    have e0 : rmL z x = rmC z x (dU z.U e) (dX z.U z.X e) := by rw [rmL, he, Nat.add_sub_cancel]
    rw [e0]
    by_cases ea : a = x
    · have hK : (rmC z x (dU z.U e) (dX z.U z.X e)).K x = 0 := fu_eq _ _ _
      rw [ea, fu_eq, Wz_free (rm_wf h hx0 hx hno d3) hK]
    · rw [fu_ne _ _ ea]
      by_cases eb : a ∈ chain z D p
      · rw [if_pos ⟨hk, List.mem_cons_of_mem _ eb⟩] at this
        rw [if_pos eb]; omega
      · rw [if_neg (fun q => (List.mem_cons.mp q.2).elim ea eb)] at this
        rw [if_neg eb]; omega
  have hC1 : fu (fu (fun x => msk z x 9) p (msk z p 9 - 2 ^ l)) x 0 = fun y => msk (rmL z x) y 9 := by
    funext y
    rw [rmL, he, Nat.add_sub_cancel]
    exact rm_msk h hx0 hx hno w1 w2 w3 y
  rw [hW1, hC1] at hfirst
  have hz1 : rmL z x = sE (sO (sB (sP (sK (sX z (dU z.U e) (dX z.U z.X e)) (fu z.K x 0)) (fu z.P x 0)) (fu z.B x 0)) (fu (fu z.O p (if msk z p 9 = 2 ^ l then 0 else z.O p)) x 0)) (fu z.E x 0) := by
    rw [rmL, he, Nat.add_sub_cancel, rmC, w1, w2, Nat.add_sub_cancel, Nat.add_sub_cancel]
    rfl
  have hfirst2 : Hr (rmL z x) (fun y => msk (rmL z x) y 9) (Wz (rmL z x) D) (fT_clearCell (nI x) (fT_loseChild (nI p) (nI l) t2)) := by
    rw [hz1] at hfirst ⊢
    exact hfirst
  have hKp : (rmL z x).K p = 1 := by
    have hpx : p ≠ x := by intro q; rw [q] at w4; omega
    show fu z.K x 0 p = 1
    rw [fu_ne _ _ hpx]; exact w4
  refine gd_lp (fun k y => (k = 0 ∧ y = (0, nI x, 0, t2)) ∨ (1 ≤ k ∧ ∃ zi ci t', y = (nI k, nI ci, nI k, t') ∧ WF zi D ∧ zi.K ci = 1 ∧ D ci + k = D x ∧ Hr zi (fun y => msk zi y 9) (Wz zi D) t' ∧ (remS z x).1 = (rmF (14 - k) zi ci).1 + k ∧ (remS z x).2 = (rmF (14 - k) zi ci).2)) 13 (Or.inl ⟨rfl, rfl⟩) ?_ (by omega)
  rintro k y hk13 (⟨rfl, rfl⟩ | ⟨hk1, zi, ci, t', rfl, g1, g2, g3, g4, g5, g6⟩)
  · try dsimp only
    rw [if_neg (show ¬ (12 : Int32) < 0 by decide), if_neg (nI_nle (by omega) (by omega)), J_at_n _ hxc (by omega), k2.c x hxc, (msk_ch h).mpr hno, if_pos (show nI 0 = 0 from rfl), gw_let]
    have hp2 : J_at 160 (tP t2) (nI x) = nI p := by
      rw [J_at_n _ hxc (by omega), k2.p x hxc]
      show eI (z.P x) = _
      rw [w1, eI_s]
    have hb2 : J_at 160 (tB t2) (nI x) = nI l := by
      rw [J_at_n _ hxc (by omega), k2.b x hxc]
      show eI (z.B x) = _
      rw [w2, eI_s]
    rw [hp2, hb2, gw_let, gw_let]
    refine gd_inr (by omega) (Or.inr ⟨by omega, rmL z x, p, _, rfl, hwf, hKp, by omega, hfirst2, ?_, ?_⟩)
    · rw [remS, w1]; rfl
    · rw [remS, w1]; rfl
  · have hci := g1.lt (c := ci) (by omega)
    have hDc := g1.dp (c := ci) (by omega)
    try dsimp only
    rw [if_neg (show ¬ (12 : Int32) < nI k from nI_nlt (b := k) (a := 12) (by omega) (by omega))]
    have hrf : rmF (14 - k) zi ci = if ci = 0 ∨ msk zi ci 9 ≠ 0 then (0, zi) else ((rmF (13 - k) (rmC zi ci zi.U zi.X) (zi.P ci - 1)).1 + 1, (rmF (13 - k) (rmC zi ci zi.U zi.X) (zi.P ci - 1)).2) := by
      rw [show 14 - k = (13 - k) + 1 by omega, rmF]
    have hstop : ci = 0 ∨ msk zi ci 9 ≠ 0 → nI k = nI (remS z x).1 ∧ Ht (remS z x).2 (Wz (remS z x).2 D) t' := by
      intro hq
      rw [hrf, if_pos hq] at g5 g6
      rw [g5, g6]
      exact ⟨by rw [Nat.zero_add], g4.ht (fun _ _ => rfl)⟩
    by_cases e0 : ci = 0
    · rw [if_pos (show nI ci ≤ 0 by rw [e0]; decide)]
      exact gd_inl (hstop (Or.inl e0))
    · rw [if_neg (nI_nle (by omega) (by omega)), J_at_n _ hci (by omega), g4.c ci hci]
      have hm := msk_lt zi ci 9
      by_cases em : msk zi ci 9 = 0
      · have hno2 := (msk_ch g1).mp em
        obtain ⟨p', l', v1, v2, v3, v4, v5, v6, v7, v8⟩ := g1.par e0 (by omega)
        have hp'c := g1.lt (c := p') (by omega)
        have hwf2 := rm_wf g1 e0 (by omega) hno2 (drop_no g1 g2)
        rw [em, if_pos (show nI 0 = 0 from rfl), gw_let]
        have hp2 : J_at 160 (tP t') (nI ci) = nI p' := by rw [J_at_n _ hci (by omega), g4.p ci hci, v1, eI_s]
        have hb2 : J_at 160 (tB t') (nI ci) = nI l' := by rw [J_at_n _ hci (by omega), g4.b ci hci, v2, eI_s]
        rw [hp2, hb2, gw_let, gw_let, nI_1]
        rw [hrf, if_neg (fun q => q.elim e0 (fun b => b em)), v1, Nat.add_sub_cancel] at g5 g6
        have hls := t_lose (t := t') g1 e0 (by omega) hno2 v1 v2 v3 hp'c hci (z' := zi) rfl rfl g4
        have hW2 : fu (Wz zi D) ci 0 = Wz (rmC zi ci zi.U zi.X) D := by
          funext a
          have := rm_W g1 e0 (by omega) hno2 (U := zi.U) (X := zi.X) hwf2 a
          rw [if_neg (fun q => by omega), Nat.add_zero] at this
          by_cases ea : a = ci
          · have hK : (rmC zi ci zi.U zi.X).K ci = 0 := fu_eq _ _ _
            rw [ea, fu_eq, Wz_free hwf2 hK]
          · rw [fu_ne _ _ ea, this]
        have hC2 : fu (fu (fun x => msk zi x 9) p' (msk zi p' 9 - 2 ^ l')) ci 0 = fun y => msk (rmC zi ci zi.U zi.X) y 9 := by
          funext y
          exact rm_msk g1 e0 (by omega) hno2 v1 v2 v3 y
        have hz2 : rmC zi ci zi.U zi.X = sE (sO (sB (sP (sK zi (fu zi.K ci 0)) (fu zi.P ci 0)) (fu zi.B ci 0)) (fu (fu zi.O p' (if msk zi p' 9 = 2 ^ l' then 0 else zi.O p')) ci 0)) (fu zi.E ci 0) := by
          rw [rmC, v1, v2, Nat.add_sub_cancel, Nat.add_sub_cancel]
          rfl
        rw [hW2, hC2] at hls
        have hls2 : Hr (rmC zi ci zi.U zi.X) (fun y => msk (rmC zi ci zi.U zi.X) y 9) (Wz (rmC zi ci zi.U zi.X) D) (fT_clearCell (nI ci) (fT_loseChild (nI p') (nI l') t')) := by
          rw [hz2] at hls ⊢
          exact hls
        have hp'x : p' ≠ ci := by intro q; rw [q] at v7; omega
        refine gd_inr (by omega) (Or.inr ⟨by omega, rmC zi ci zi.U zi.X, p', _, rfl, hwf2, ?_, by omega, hls2, ?_, ?_⟩)
        · show fu zi.K ci 0 p' = 1
          rw [fu_ne _ _ hp'x]; exact v4
        · rw [g5, show 14 - (k + 1) = 13 - k by omega]
          show (rmF (13 - k) (rmC zi ci zi.U zi.X) p').1 + 1 + k = _
          omega
        · rw [g6, show 14 - (k + 1) = 13 - k by omega]
      · rw [if_neg (nI_ne0 (by omega) (by omega))]
        exact gd_inl (hstop (Or.inr em))
