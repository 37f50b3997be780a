/-! the loops that move children -/
theorem Sm_K {z : Sz} (h : Sm z) {f : Nat → Nat} (hf : ∀ c, f c < 3) : Sm (sK z f) := ⟨hf, h.2⟩
theorem Sm_P {z : Sz} (h : Sm z) {f : Nat → Nat} (hf : ∀ c, f c < 161) : Sm (sP z f) := ⟨h.1, hf, h.2.2⟩
theorem Sm_B {z : Sz} (h : Sm z) {f : Nat → Nat} (hf : ∀ c, f c < 10) : Sm (sB z f) := ⟨h.1, h.2.1, hf, h.2.2.2⟩
theorem Sm_O {z : Sz} (h : Sm z) {f : Nat → Nat} (hf : ∀ c, f c < 160) : Sm (sO z f) := ⟨h.1, h.2.1, h.2.2.1, hf, h.2.2.2.2⟩
theorem Sm_E {z : Sz} (h : Sm z) {f : Nat → Nat} (hf : ∀ c, f c < 41) : Sm (sE z f) := ⟨h.1, h.2.1, h.2.2.1, h.2.2.2.1, hf, h.2.2.2.2.2⟩
theorem fu_bd {f : Nat → Nat} {n x v : Nat} (hf : ∀ c, f c < n) (hv : v < n) : ∀ c, fu f x v c < n := by
  intro c
  by_cases e : c = x
  · rw [e, fu_eq]; exact hv
  · rw [fu_ne _ _ e]; exact hf c
theorem mvF_bd {z : Sz} {c o k n : Nat} {f : Nat → Nat} (hf : ∀ x, f x < n) (h0 : 0 < n) : ∀ x, mvF z c o k f x < n := by
  intro x
  rw [mvF]
  split
  · exact hf _
  · split
    · exact h0
    · exact hf _
theorem Sm_mv {z : Sz} {D : Nat → Nat} (h : WF z D) {c o k : Nat} (hf : Fit z c o) (hk : k ≤ 9) (hcK : z.K c = 1) : Sm (mvS z c o k) := by
  have hs := h.sml
  have hc := h.lt (c := c) (by omega)
  refine ⟨mvF_bd hs.k (by omega), fun x => ?_, mvF_bd hs.b (by omega), mvF_bd hs.o (by omega), mvF_bd hs.e (by omega), hs.u, hs.x⟩
  show mvP z c o k x < 161
  rw [mvP]
  split
  · omega
  · split
    · omega
    · split
      · rename_i h3
        have := hf.2 (z.P x - 1 - z.O c) (by have := h3.2.2.1; have := h3.2.1; omega) h3.2.2.2
        omega
      · exact hs.p x
theorem t_hand {z : Sz} {C W : Nat → Nat} {t : TS} (h : Hr z C W t) {a b : Nat} (ha : a < 160) (hO : z.O a < 160) (hP : ∀ x, z.P x < 1000) (hown : ∀ x, z.P x = a + 1 → z.O a ≤ x ∧ x < z.O a + 9) : Gd (fun t' => Hr (sP z (hnd z.P a b)) C W t') (fT_handChildrenOver (nI a) (nI b) t) := by
  unfold fT_handChildrenOver
  refine gd_bind (P := fun t' => Hr (sP z (hnd z.P a b)) C W t') ?_ (fun t' ht => gd_some ht)
  refine gd_lp (fun j y => ∃ t', y = (nI j, t') ∧ Hr (sP z (fun x => if z.P x = a + 1 ∧ x < z.O a + j then b + 1 else z.P x)) C W t') 9 ⟨t, rfl, ?_⟩ ?_ (by omega)
  · have : (fun x => if z.P x = a + 1 ∧ x < z.O a + 0 then b + 1 else z.P x) = z.P := by
      funext x
      rw [if_neg]
      rintro ⟨h1, h2⟩
      have := hown x h1
      omega
    rw [this]; exact h
  · rintro j y hj ⟨t', rfl, ht⟩
    try dsimp only
    by_cases e : j = 9
    · subst e
      rw [if_pos (show (8 : Int32) < nI 9 by decide)]
      refine gd_inl ?_
      have : (fun x => if z.P x = a + 1 ∧ x < z.O a + 9 then b + 1 else z.P x) = hnd z.P a b := by
        funext x
        rw [hnd]
        by_cases e1 : z.P x = a + 1
        · rw [if_pos ⟨e1, (hown x e1).2⟩, if_pos e1]
        · rw [if_neg (fun q => e1 q.1), if_neg e1]
      rw [← this]; exact ht
    · rw [if_neg (show ¬ (8 : Int32) < nI j from nI_nlt (b := j) (a := 8) (by omega) (by omega))]
      simp only [gw_let]
      have hOv : J_at 160 (tO t') (nI a) = nI (z.O a) := by
        rw [J_at_n _ ha (by omega)]; exact ht.o a ha
      rw [hOv, nI_add, nI_1]
      by_cases e1 : z.O a + j < 160
      · rw [J_at_n (tP t') e1 (by omega), ht.p _ e1]
        have hv : (fun x => if z.P x = a + 1 ∧ x < z.O a + j then b + 1 else z.P x) (z.O a + j) = z.P (z.O a + j) := if_neg (fun q => by have := q.2; omega)
        show Gd _ (if eI ((fun x => if z.P x = a + 1 ∧ x < z.O a + j then b + 1 else z.P x) (z.O a + j)) = nI a then _ else _)
        rw [hv]
        have hb := hP (z.O a + j)
        by_cases e2 : z.P (z.O a + j) = a + 1
        · rw [if_pos ((eI_nI (by omega) (by omega)).mpr e2)]
          refine gd_inr (by omega) ⟨_, rfl, ?_⟩
          have := Hr_P ht e1 (v := b + 1) (i := nI (z.O a + j)) (w := nI b) rfl (eI_s b).symm
          have e3 : fu (fun x => if z.P x = a + 1 ∧ x < z.O a + j then b + 1 else z.P x) (z.O a + j) (b + 1) = fun x => if z.P x = a + 1 ∧ x < z.O a + (j + 1) then b + 1 else z.P x := by
            funext x
            by_cases e4 : x = z.O a + j
            · subst e4
              rw [fu_eq, if_pos ⟨e2, by omega⟩]
            · rw [fu_ne _ _ e4]
              by_cases e5 : z.P x = a + 1 ∧ x < z.O a + j
              · rw [if_pos e5, if_pos ⟨e5.1, by omega⟩]
              · rw [if_neg e5, if_neg (fun q => e5 ⟨q.1, by omega⟩)]
          rw [← e3]
          exact this
        · rw [if_neg (fun q => e2 ((eI_nI (by omega) (by omega)).mp q))]
          refine gd_inr (by omega) ⟨t', rfl, ?_⟩
          have e3 : (fun x => if z.P x = a + 1 ∧ x < z.O a + (j + 1) then b + 1 else z.P x) = (fun x => if z.P x = a + 1 ∧ x < z.O a + j then b + 1 else z.P x) := by
            funext x
            by_cases e4 : x = z.O a + j
            · subst e4
              rw [if_neg (fun q => e2 q.1), if_neg (fun q => e2 q.1)]
            · by_cases e5 : z.P x = a + 1 ∧ x < z.O a + j
              · rw [if_pos e5, if_pos ⟨e5.1, by omega⟩]
              · rw [if_neg e5, if_neg (fun q => e5 ⟨q.1, by omega⟩)]
          rw [e3]; exact ht
      · rw [J_at_out _ e1 (by omega) (by omega), if_neg (fun q => nI_m1 (by omega) q.symm)]
        refine gd_inr (by omega) ⟨t', rfl, ?_⟩
        have : Hr (sP z (fun x => if z.P x = a + 1 ∧ x < z.O a + (j + 1) then b + 1 else z.P x)) C W t' := by
          refine ⟨ht.k, fun x hx => ?_, ht.b, ht.o, ht.e, ht.c, ht.w, ht.n, ht.m⟩
          rw [ht.p x hx]
          show eI (if z.P x = a + 1 ∧ x < z.O a + j then b + 1 else z.P x) = eI (if z.P x = a + 1 ∧ x < z.O a + (j + 1) then b + 1 else z.P x)
          by_cases e5 : z.P x = a + 1
          · rw [if_pos ⟨e5, by omega⟩, if_pos ⟨e5, by omega⟩]
          · rw [if_neg (fun q => e5 q.1), if_neg (fun q => e5 q.1)]
        exact this
theorem t_clear {z : Sz} {C W : Nat → Nat} {t : TS} (h : Hr z C W t) {a : Nat} (ha : a < 160) : Hr (sE (sO (sB (sP (sK z (fu z.K a 0)) (fu z.P a 0)) (fu z.B a 0)) (fu z.O a 0)) (fu z.E a 0)) (fu C a 0) (fu W a 0) (fT_clearCell (nI a) t) :=
  Hr_W (Hr_C (Hr_E (Hr_O (Hr_B (Hr_P (Hr_K h ha (v := 0) rfl rfl) ha (v := 0) rfl rfl) ha (v := 0) rfl rfl) ha (v := 0) rfl rfl) ha (v := 0) rfl rfl) ha (v := 0) rfl rfl) ha (v := 0) rfl rfl
theorem t_copy {z : Sz} {C W : Nat → Nat} {t : TS} (h : Hr z C W t) {a b : Nat} (ha : a < 160) (hb : b < 160) (hab : a ≠ b) : Hr (sE (sO (sB (sP (sK z (fu z.K b (z.K a))) (fu z.P b (z.P a))) (fu z.B b (z.B a))) (fu z.O b (z.O a))) (fu z.E b (z.E a))) (fu C b (C a)) (fu W b (W a)) (fT_copyCell (nI a) (nI b) t) :=
  Hr_W (Hr_C (Hr_E (Hr_O (Hr_B (Hr_P (Hr_K h hb rfl (by rw [J_at_n _ ha (by omega)]; exact h.k a ha)) hb rfl (by rw [J_at_n _ ha (by omega)]; exact h.p a ha)) hb rfl (by rw [J_at_n _ ha (by omega)]; exact h.b a ha)) hb rfl (by rw [J_at_n _ ha (by omega)]; exact h.o a ha)) hb rfl (by rw [J_at_n _ ha (by omega)]; exact h.e a ha)) hb rfl (by rw [J_at_n _ ha (by omega)]; exact h.c a ha)) hb rfl (by rw [J_at_n _ ha (by omega)]; exact h.w a ha)
theorem mvS_s {z : Sz} {D : Nat → Nat} (h : WF z D) {c o k : Nat} (hf : Fit z c o) (hk : k < 9) (hc : ch z c k ≠ 0) :
    mvS z c o (k + 1) = (fu (fu (mvS z c o k).K (o + k) ((mvS z c o k).K (z.O c + k))) (z.O c + k) 0, fu (fu (hnd (mvS z c o k).P (z.O c + k) (o + k)) (o + k) (c + 1)) (z.O c + k) 0, fu (fu (mvS z c o k).B (o + k) ((mvS z c o k).B (z.O c + k))) (z.O c + k) 0, fu (fu (mvS z c o k).O (o + k) ((mvS z c o k).O (z.O c + k))) (z.O c + k) 0, fu (fu (mvS z c o k).E (o + k) ((mvS z c o k).E (z.O c + k))) (z.O c + k) 0, z.U, z.X, z.M + mvn z c k + 1) := by
  have hm : z.M + mvn z c (k + 1) = z.M + mvn z c k + 1 := by rw [mvn, if_neg hc]; omega
  show (mvF z c o (k + 1) z.K, mvP z c o (k + 1), mvF z c o (k + 1) z.B, mvF z c o (k + 1) z.O, mvF z c o (k + 1) z.E, z.U, z.X, z.M + mvn z c (k + 1)) = _
  rw [mvF_s h hf hk hc, mvF_s h hf hk hc, mvF_s h hf hk hc, mvF_s h hf hk hc, mvP_s h hf hk hc, hm]
  rfl
/-- what the rows show of a cell that is about to move -/
theorem mv_at {z : Sz} {D : Nat → Nat} (h : WF z D) {c o k : Nat} (hf : Fit z c o) (hk : k < 9) (hc : ch z c k ≠ 0) :
    z.O c + k < 160 ∧ o + k < 160 ∧ z.O c + k ≠ o + k ∧ (∀ f, mvF z c o k f (z.O c + k) = f (z.O c + k)) ∧ mvP z c o k (z.O c + k) = c + 1 ∧ z.B (z.O c + k) = k + 1 ∧ c ≠ z.O c + k := by
  have hch := h.chp hc
  have hfit := hf.2 k hk hc
  rw [hch.2.2.2.2.2.1] at hch
  have hne : z.O c + k ≠ o + k := by
    intro e; rw [← e] at hfit; exact hch.1 hfit.2
  have hfr : ¬ toB z c o k (z.O c + k) := by
    intro a
    exact hch.1 (hf.to (by omega) a).1
  have hfk : ¬ frB z c k (z.O c + k) := fun a => by have := a.2.1; omega
  have hcf : c ≠ z.O c + k := by
    intro e
    have := hch.2.2.2.2.2.2.1
    rw [← e] at this; omega
  refine ⟨h.lt hch.1, hfit.1, hne, fun f => mvF_no hfr hfk, ?_, hch.2.2.1, hcf⟩
  rw [mvP, if_neg hfr, if_neg hfk, hch.2.1, if_neg]
  rintro ⟨-, h3⟩
  rw [Nat.add_sub_cancel] at h3
  obtain ⟨l, hl, e, hne⟩ := frB_ch h h3
  have := (h.chp (c := c) (l := l) (by rw [e]; exact hne)).2.2.2.2.2.2.1
  rw [e] at this; omega
theorem t_moveChildren {z : Sz} {D W : Nat → Nat} {t : TS} (h : WF z D) (ht : Ht z W t) {c n : Nat} (hcK : z.K c = 1) (hn : n < 512) :
    Gd (fun o => (lst z (msk z c 9 ||| n) = 0 → o = (0, t)) ∧ (lst z (msk z c 9 ||| n) ≠ 0 → o.1 = 1 ∧ Hr (mvT z c (lst z (msk z c 9 ||| n))) (mvF z c (lst z (msk z c 9 ||| n)) 9 (fun x => msk z x 9)) (mvF z c (lst z (msk z c 9 ||| n)) 9 W) o.2)) (fT_moveChildren (nI c) (nI n) t) := by
  have hs := h.sml
  have hc := h.lt (c := c) (by omega)
  have hm : msk z c 9 < 512 := msk_lt z c 9
  have hmn : msk z c 9 ||| n < 512 := Nat.or_lt_two_pow (n := 9) hm hn
  unfold fT_moveChildren
  simp only [gw_let]
  rw [J_at_n _ hc (by omega), J_at_n _ hc (by omega), ht.c hc, ht.o hc, show nI (msk z c 9) ||| nI n = nI (msk z c 9 ||| n) from (nI_or _ _).symm, t_leastOffset hs (fun x hx => ht.k hx) hmn]
  simp only [Option.bind_some]
  have hol := lst_lt z (msk z c 9 ||| n)
  by_cases e : lst z (msk z c 9 ||| n) = 0
  · rw [e, if_pos (show nI 0 = 0 from rfl)]
    exact gd_some ⟨fun _ => rfl, fun a => absurd rfl a⟩
  · rw [if_neg (nI_ne0 (by omega) (by omega))]
    have hfit := lst_fit e
    generalize lst z (msk z c 9 ||| n) = o at hol e hfit
    have hf : Fit z c o := by
      refine ⟨by omega, fun l hl hc => hfit l hl ?_⟩
      rw [Nat.testBit_or, msk_bit z c 9 l hl, decide_eq_true hc]; rfl
    refine gd_bind (P := fun t' => Hr (mvS z c o 9) (mvF z c o 9 (fun x => msk z x 9)) (mvF z c o 9 W) t') ?_ ?_
    · refine gd_lp (fun k y => ∃ t', y = (nI k, t') ∧ Hr (mvS z c o k) (mvF z c o k (fun x => msk z x 9)) (mvF z c o k W) t') 9 ⟨t, rfl, ?_⟩ ?_ (by omega)
      · have h0 : ∀ f, mvF z c o 0 f = f := by
          intro f; funext x
          exact mvF_no toB_0 frB_0
        rw [mvS_0, h0, h0]
        exact ht.hr
      · rintro k y hk ⟨t', rfl, h1⟩
        try dsimp only
        by_cases e1 : k = 9
        · subst e1
          rw [if_pos (show (8 : Int32) < nI 9 by decide)]
          exact gd_inl h1
        · rw [if_neg (show ¬ (8 : Int32) < nI k from nI_nlt (b := k) (a := 8) (by omega) (by omega))]
          simp only [bit_e _ hm k (show k < 9 by omega), msk_bit z c 9 k (show k < 9 by omega)]
          by_cases e2 : ch z c k = 0
          · rw [if_pos (by simp [e2]), nI_1]
            have h0 : ∀ f, mvF z c o (k + 1) f = mvF z c o k f := by
              intro f
              have q1 : ∀ x, toB z c o (k + 1) x ↔ toB z c o k x := fun x => ⟨fun a => (toB_s.mp a).elim id (fun b => absurd e2 b.2), fun a => toB_s.mpr (Or.inl a)⟩
              have q2 : ∀ x, frB z c (k + 1) x ↔ frB z c k x := fun x => ⟨fun a => (frB_s.mp a).elim id (fun b => absurd e2 b.2), fun a => frB_s.mpr (Or.inl a)⟩
              funext x
              by_cases a1 : toB z c o k x
              · rw [mvF_to a1, mvF_to ((q1 x).mpr a1)]
              · by_cases a2 : frB z c k x
                · rw [mvF_fr a1 a2, mvF_fr (fun b => a1 ((q1 x).mp b)) ((q2 x).mpr a2)]
                · rw [mvF_no a1 a2, mvF_no (fun b => a1 ((q1 x).mp b)) (fun b => a2 ((q2 x).mp b))]
            refine gd_inr (by omega) ⟨t', rfl, ?_⟩
            rw [mvS_n e2, h0, h0]; exact h1
          · rw [if_neg (by simp [e2]), nI_add, nI_add]
            have hk9 : k < 9 := by omega
            have ha := mv_at h hf hk9 e2
            have hsm := Sm_mv h hf (k := k) (by omega) hcK
            refine gd_bind (t_hand h1 (b := o + k) ha.1 (hsm.o _) (fun x => by have := hsm.p x; omega) (fun x hx => ?_)) ?_
            · have := mvP_own h hf hk9 e2 hx
              show mvF z c o k z.O _ ≤ x ∧ x < mvF z c o k z.O _ + 9
              rw [ha.2.2.2.1]
              exact ⟨this.2.2.1, this.2.2.2.1⟩
            · intro t2 h2
              try simp only [gw_let]
              have h3 := t_clear (t_copy h2 ha.1 ha.2.1 ha.2.2.1) ha.1
              have h4 := Hr_M h3 (v := z.M + mvn z c k + 1) (w := tM (fT_clearCell (nI (z.O c + k)) (fT_copyCell (nI (z.O c + k)) (nI (o + k)) t2)) + 1) (by rw [h3.m]; show nI (z.M + mvn z c k) + 1 = _; rw [nI_1])
              rw [nI_1]
              refine gd_inr (by omega) ⟨_, rfl, ?_⟩
              rw [mvS_s h hf hk9 e2, mvF_s h hf hk9 e2, mvF_s h hf hk9 e2]
              have hP1 : hnd (mvS z c o k).P (z.O c + k) (o + k) (z.O c + k) = c + 1 := by
                have : (mvS z c o k).P (z.O c + k) = c + 1 := ha.2.2.2.2.1
                rw [hnd, this, if_neg (by have := ha.2.2.2.2.2.2; omega)]
              rw [← hP1]
              exact h4
    · intro t1 h1
      refine gd_some ⟨fun a => absurd a e, fun _ => ⟨rfl, ?_⟩⟩
      exact Hr_O h1 hc rfl rfl
/-! the model moves them -/
theorem z_free {z : Sz} {t : MS} (h : Mz z (mZ t)) {a : Nat} (ha : a < 160) : Gd (fun t' => ∃ f, t' = sMZ t f ∧ Mz (sE (sO (sB (sP (sK z (fu z.K a 0)) (fu z.P a 0)) (fu z.B a 0)) (fu z.O a 0)) (fu z.E a 0)) f) (fM_free (nI a) t) := by
  unfold fM_free
  simp only [gw_let]
  rw [show (0 : Int32) + nI a = nI a by rw [← nI_0, nI_add, Nat.zero_add], show (160 : Int32) = nI 160 by rfl, show (320 : Int32) = nI 320 by rfl, show (480 : Int32) = nI 480 by rfl, show (640 : Int32) = nI 640 by rfl, nI_add, nI_add, nI_add, nI_add]
  rw [if_pos (inb_nI (by omega) (by omega)), if_pos (inb_nI (by omega) (by omega)), if_pos (inb_nI (by omega) (by omega)), if_pos (inb_nI (by omega) (by omega)), if_pos (inb_nI (by omega) (by omega)), upd_nI _ (by omega), upd_nI _ (by omega), upd_nI _ (by omega), upd_nI _ (by omega), upd_nI _ (by omega)]
  refine gd_some ⟨_, rfl, ?_⟩
  exact Mz_E (Mz_O (Mz_B (Mz_P (Mz_K h ha 0) ha 0) ha 0) ha 0) ha 0
theorem z_adopt {z : Sz} {t : MS} (hs : Sm z) (h : Mz z (mZ t)) {a b : Nat} (ha : a < 160) (hb : b < 160) (hown : ∀ x, z.P x = a + 1 → 0 < z.O a ∧ z.O a ≤ x ∧ x < z.O a + 9 ∧ x < 160 ∧ 0 < z.K x) : Gd (fun t' => ∃ f, t' = sMZ t f ∧ Mz (sP z (hnd z.P a b)) f) (fM_adopt (nI a) (nI b) t) := by
  have hOa := hs.o a
  unfold fM_adopt
  refine gd_bind (P := fun t' => ∃ f, t' = sMZ t f ∧ Mz (sP z (hnd z.P a b)) f) ?_ (fun t' ht => gd_some ht)
  refine gd_lp (fun j y => ∃ f, y = (nI j, sMZ t f) ∧ Mz (sP z (fun x => if z.P x = a + 1 ∧ x < z.O a + j then b + 1 else z.P x)) f) 9 ⟨mZ t, rfl, ?_⟩ ?_ (by omega)
  · have : (fun x => if z.P x = a + 1 ∧ x < z.O a + 0 then b + 1 else z.P x) = z.P := by
      funext x
      rw [if_neg]
      rintro ⟨h1, h2⟩
      have := hown x h1
      omega
    rw [this]; exact h
  · rintro j y hj ⟨f, rfl, hf⟩
    try dsimp only
    by_cases e : j = 9
    · subst e
      rw [if_pos (show (9 : Int32) ≤ nI 9 by decide)]
      refine gd_inl ⟨f, rfl, ?_⟩
      have : (fun x => if z.P x = a + 1 ∧ x < z.O a + 9 then b + 1 else z.P x) = hnd z.P a b := by
        funext x
        rw [hnd]
        by_cases e1 : z.P x = a + 1
        · rw [if_pos ⟨e1, (hown x e1).2.2.1⟩, if_pos e1]
        · rw [if_neg (fun q => e1 q.1), if_neg e1]
      rw [← this]; exact hf
    · rw [if_neg (show ¬ (9 : Int32) ≤ nI j from nI_ge (b := 9) (by omega) (by omega))]
      have hsj : Sm (sP z (fun x => if z.P x = a + 1 ∧ x < z.O a + j then b + 1 else z.P x)) := by
        refine Sm_P hs (fun x => ?_)
        split
        · omega
        · exact hs.p x
      rw [z_child hsj (t := sMZ t f) hf ha (show j < 16 by omega)]
      simp only [Option.bind_some]
      rw [nI_1]
      by_cases e2 : z.P (z.O a + j) = a + 1
      · obtain ⟨q1, q2, q3, q4, q5⟩ := hown _ e2
        have hch : ch (sP z (fun x => if z.P x = a + 1 ∧ x < z.O a + j then b + 1 else z.P x)) a j = z.O a + j := by
          refine ch_eq q1 q4 q5 ?_
          show (if z.P (z.O a + j) = a + 1 ∧ z.O a + j < z.O a + j then b + 1 else z.P (z.O a + j)) = a + 1
          rw [if_neg (fun q => by have := q.2; omega), e2]
        rw [hch, if_neg (show ¬ z.O a + j = 0 by omega), if_neg (nI_m1 (by omega)), show (160 : Int32) = nI 160 by rfl, nI_add, if_pos (inb_nI (by omega) (by omega)), upd_nI _ (by omega)]
        refine gd_inr (by omega) ⟨_, rfl, ?_⟩
        have := Mz_P hf q4 (b + 1)
        have e3 : fu (fun x => if z.P x = a + 1 ∧ x < z.O a + j then b + 1 else z.P x) (z.O a + j) (b + 1) = fun x => if z.P x = a + 1 ∧ x < z.O a + (j + 1) then b + 1 else z.P x := by
          funext x
          by_cases e4 : x = z.O a + j
          · subst e4
            rw [fu_eq, if_pos ⟨e2, by omega⟩]
          · rw [fu_ne _ _ e4]
            by_cases e5 : z.P x = a + 1 ∧ x < z.O a + j
            · rw [if_pos e5, if_pos ⟨e5.1, by omega⟩]
            · rw [if_neg e5, if_neg (fun q => e5 ⟨q.1, by omega⟩)]
        rw [← e3]
        rw [eI_s] at this
        exact this
      · have hch : ch (sP z (fun x => if z.P x = a + 1 ∧ x < z.O a + j then b + 1 else z.P x)) a j = 0 := by
          refine if_neg (fun q => e2 ?_)
          have q4 : (if z.P (z.O a + j) = a + 1 ∧ z.O a + j < z.O a + j then b + 1 else z.P (z.O a + j)) = a + 1 := q.2.2.2
          rwa [if_neg (fun q => by have := q.2; omega)] at q4
        rw [hch, if_pos rfl, if_pos rfl]
        refine gd_inr (by omega) ⟨f, rfl, ?_⟩
        have e3 : (fun x => if z.P x = a + 1 ∧ x < z.O a + (j + 1) then b + 1 else z.P x) = (fun x => if z.P x = a + 1 ∧ x < z.O a + j then b + 1 else z.P x) := by
          funext x
          by_cases e4 : x = z.O a + j
          · subst e4
            rw [if_neg (fun q => e2 q.1), if_neg (fun q => e2 q.1)]
          · by_cases e5 : z.P x = a + 1 ∧ x < z.O a + j
            · rw [if_pos e5, if_pos ⟨e5.1, by omega⟩]
            · rw [if_neg e5, if_neg (fun q => e5 ⟨q.1, by omega⟩)]
        rw [e3]; exact hf
theorem z_moveChildren {z : Sz} {D : Nat → Nat} {t : MS} (h : WF z D) (hz : Mz z (mZ t)) {c o : Nat} (hcK : z.K c = 1) (hf : Fit z c o) (ho : o < 160) : Gd (fun t' => ∃ f, t' = sMZ t f ∧ Mz (mvT z c o) f) (fM_moveChildren (nI c) (nI o) t) := by
  have hs := h.sml
  have hc := h.lt (c := c) (by omega)
  have hm : msk z c 9 < 512 := msk_lt z c 9
  unfold fM_moveChildren
  rw [z_lettersOf hs hz hc, z_offset hz hc]
  simp only [Option.bind_some]
  refine gd_bind (P := fun t' => ∃ f, t' = sMZ t f ∧ Mz (mvS z c o 9) f) ?_ ?_
  · refine gd_lp (fun k y => ∃ f, y = (nI k, sMZ t f) ∧ Mz (mvS z c o k) f) 9 ⟨mZ t, rfl, by rw [mvS_0]; exact hz⟩ ?_ (by omega)
    rintro k y hk ⟨f, rfl, h1⟩
    try dsimp only
    by_cases e1 : k = 9
    · subst e1
      rw [if_pos (show (9 : Int32) ≤ nI 9 by decide)]
      exact gd_inl ⟨f, rfl, h1⟩
    · rw [if_neg (show ¬ (9 : Int32) ≤ nI k from nI_ge (b := 9) (by omega) (by omega))]
      simp only [bit1_e _ hm k (show k < 9 by omega), msk_bit z c 9 k (show k < 9 by omega)]
      by_cases e2 : ch z c k = 0
      · rw [if_neg (by simp [e2]), nI_1]
        refine gd_inr (by omega) ⟨f, rfl, ?_⟩
        rw [mvS_n e2]; exact h1
      · rw [if_pos (by simp [e2])]
        have hk9 : k < 9 := by omega
        have ha := mv_at h hf hk9 e2
        have hsm := Sm_mv h hf (k := k) (by omega) hcK
        simp only [gw_let]
        rw [nI_add, nI_add, show (0 : Int32) + nI (z.O c + k) = nI (z.O c + k) by rw [← nI_0, nI_add, Nat.zero_add], show (0 : Int32) + nI (o + k) = nI (o + k) by rw [← nI_0, nI_add, Nat.zero_add], show (160 : Int32) = nI 160 by rfl, show (320 : Int32) = nI 320 by rfl, show (480 : Int32) = nI 480 by rfl, show (640 : Int32) = nI 640 by rfl]
        simp only [nI_add]
        rw [if_pos (inb_nI (by omega) (by omega)), if_pos (inb_nI (by omega) (by omega)), if_pos (inb_nI (by omega) (by omega)), if_pos (inb_nI (by omega) (by omega)), if_pos (inb_nI (by omega) (by omega)), if_pos (inb_nI (by omega) (by omega)), if_pos (inb_nI (by omega) (by omega)), if_pos (inb_nI (by omega) (by omega))]
        rw [nI_clamp' (show z.O c + k < 2147483648 by omega), nI_clamp' (show o + k < 2147483648 by omega), nI_clamp' (show 160 + (o + k) < 2147483648 by omega), nI_clamp' (show 320 + (o + k) < 2147483648 by omega), nI_clamp' (show 480 + (z.O c + k) < 2147483648 by omega), nI_clamp' (show 480 + (o + k) < 2147483648 by omega), nI_clamp' (show 640 + (z.O c + k) < 2147483648 by omega), nI_clamp' (show 640 + (o + k) < 2147483648 by omega)]
        have hne := ha.2.2.1
        have m1 := Mz_K h1 ha.2.1 ((mvS z c o k).K (z.O c + k))
        have m2 := Mz_P m1 ha.2.1 (c + 1)
        have m3 := Mz_B m2 ha.2.1 ((mvS z c o k).B (z.O c + k))
        have m4 := Mz_O m3 ha.2.1 ((mvS z c o k).O (z.O c + k))
        have m5 := Mz_E m4 ha.2.1 ((mvS z c o k).E (z.O c + k))
        have hB : (mvS z c o k).B (z.O c + k) = k + 1 := by
          show mvF z c o k z.B _ = _
          rw [ha.2.2.2.1]; exact ha.2.2.2.2.2.1
        rw [hB, eI_s] at m3 m4 m5
        rw [eI_s] at m2 m3 m4 m5
        rw [← h1.k _ ha.1] at m1 m2 m3 m4 m5
        rw [← h1.o _ ha.1] at m4 m5
        rw [← h1.e _ ha.1] at m5
        have hsm5 : Sm (sE (sO (sB (sP (sK (mvS z c o k) (fu (mvS z c o k).K (o + k) ((mvS z c o k).K (z.O c + k)))) (fu (mvS z c o k).P (o + k) (c + 1))) (fu (mvS z c o k).B (o + k) (k + 1))) (fu (mvS z c o k).O (o + k) ((mvS z c o k).O (z.O c + k)))) (fu (mvS z c o k).E (o + k) ((mvS z c o k).E (z.O c + k)))) :=
          Sm_E (Sm_O (Sm_B (Sm_P (Sm_K hsm (fu_bd hsm.k (hsm.k _))) (fu_bd hsm.p (by omega))) (fu_bd hsm.b (by omega))) (fu_bd hsm.o (hsm.o _))) (fu_bd hsm.e (hsm.e _))
        have hval : (upd (upd (upd f (o + k) (f (z.O c + k))) (160 + (o + k)) (nI c)) (320 + (o + k)) (nI k)) (480 + (z.O c + k)) = f (480 + (z.O c + k)) := by
          rw [upd_ne _ _ (by omega), upd_ne _ _ (by omega), upd_ne _ _ (by omega)]
        have hval2 : (upd (upd (upd (upd f (o + k) (f (z.O c + k))) (160 + (o + k)) (nI c)) (320 + (o + k)) (nI k)) (480 + (o + k)) (f (480 + (z.O c + k)))) (640 + (z.O c + k)) = f (640 + (z.O c + k)) := by
          rw [upd_ne _ _ (by omega), upd_ne _ _ (by omega), upd_ne _ _ (by omega), upd_ne _ _ (by omega)]
        show Gd _ ((fM_adopt _ _ (sMZ t (upd (upd (upd (upd (upd f (o + k) (f (z.O c + k))) (160 + (o + k)) (nI c)) (320 + (o + k)) (nI k)) (480 + (o + k)) ((upd (upd (upd f (o + k) (f (z.O c + k))) (160 + (o + k)) (nI c)) (320 + (o + k)) (nI k)) (480 + (z.O c + k)))) (640 + (o + k)) ((upd (upd (upd (upd f (o + k) (f (z.O c + k))) (160 + (o + k)) (nI c)) (320 + (o + k)) (nI k)) (480 + (o + k)) ((upd (upd (upd f (o + k) (f (z.O c + k))) (160 + (o + k)) (nI c)) (320 + (o + k)) (nI k)) (480 + (z.O c + k)))) (640 + (z.O c + k)))))).bind _)
        rw [hval, hval2]
        refine gd_bind (z_adopt hsm5 (t := sMZ t _) m5 ha.1 ha.2.1 (fun x hx => ?_)) ?_
        · by_cases e3 : x = o + k
          · subst e3
            have hx' : fu (mvS z c o k).P (o + k) (c + 1) (o + k) = z.O c + k + 1 := hx
            rw [fu_eq] at hx'
            have := ha.2.2.2.2.2.2
            omega
          · have hx' : fu (mvS z c o k).P (o + k) (c + 1) x = z.O c + k + 1 := hx
            rw [fu_ne _ _ e3] at hx'
            obtain ⟨g1, g2, g3, g4, g5, g6, g7⟩ := mvP_own h hf hk9 e2 hx'
            have hOv : fu (mvS z c o k).O (o + k) ((mvS z c o k).O (z.O c + k)) (z.O c + k) = z.O (z.O c + k) := by
              rw [fu_ne _ _ hne]
              show mvF z c o k z.O _ = _
              rw [ha.2.2.2.1]
            have hKv : fu (mvS z c o k).K (o + k) ((mvS z c o k).K (z.O c + k)) x = z.K x := by
              rw [fu_ne _ _ e3]
              exact mvF_no g6 g7
            have goal : 0 < fu (mvS z c o k).O (o + k) ((mvS z c o k).O (z.O c + k)) (z.O c + k) ∧ fu (mvS z c o k).O (o + k) ((mvS z c o k).O (z.O c + k)) (z.O c + k) ≤ x ∧ x < fu (mvS z c o k).O (o + k) ((mvS z c o k).O (z.O c + k)) (z.O c + k) + 9 ∧ x < 160 ∧ 0 < fu (mvS z c o k).K (o + k) ((mvS z c o k).K (z.O c + k)) x := by
              rw [hOv, hKv]
              exact ⟨g5, g3, g4, h.lt g2, by omega⟩
            exact goal
        · rintro t2 ⟨f2, rfl, m6⟩
          refine gd_bind (z_free (t := sMZ t f2) m6 ha.1) ?_
          rintro t3 ⟨f3, rfl, m7⟩
          rw [if_pos (show inb (1360 : Int32) 1361 from inb_nI (n := 1360) (by omega) (by omega)), if_pos (show inb (1360 : Int32) 1361 from inb_nI (n := 1360) (by omega) (by omega)), nI_1]
          refine gd_inr (by omega) ⟨_, rfl, ?_⟩
          have m8 := Mz_M m7 (z.M + mvn z c k + 1)
          have hv3 : f3 1360 + 1 = nI (z.M + mvn z c k + 1) := by
            rw [m7.m]
            show nI (z.M + mvn z c k) + 1 = _
            rw [nI_1]
          show Mz _ (upd f3 1360 (f3 1360 + 1))
          rw [hv3, mvS_s h hf hk9 e2]
          have hPP : fu (hnd (mvS z c o k).P (z.O c + k) (o + k)) (o + k) (c + 1) = hnd (fu (mvS z c o k).P (o + k) (c + 1)) (z.O c + k) (o + k) := by
            funext x
            by_cases e3 : x = o + k
            · rw [e3, fu_eq, hnd, fu_eq, if_neg (by have := ha.2.2.2.2.2.2; omega)]
            · rw [fu_ne _ _ e3, hnd, hnd, fu_ne _ _ e3]
          rw [hPP, hB]
          exact m8
  · rintro t1 ⟨f, rfl, h1⟩
    rw [show (480 : Int32) = nI 480 by rfl, nI_add, if_pos (inb_nI (by omega) (by omega)), upd_nI _ (by omega)]
    exact gd_some ⟨_, rfl, Mz_O h1 hc o⟩
