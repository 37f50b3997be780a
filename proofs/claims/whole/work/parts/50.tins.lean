/-! the depth of a cell is determined -/
theorem wf_uni {z : Sz} {D D' : Nat → Nat} (h : WF z D) (h' : WF z D') : ∀ c, z.K c ≠ 0 → D c = D' c := by
  refine wf_up h _ (by rw [h.root.2.2.2, h'.root.2.2.2]) ?_
  intro c h0 hk ih
  obtain ⟨p, l, w1, w2, w3, w4, w5, w6, w7, w8⟩ := h.par h0 hk
  obtain ⟨p', l', v1, v2, v3, v4, v5, v6, v7, v8⟩ := h'.par h0 hk
  have : p' = p := by omega
  subst this
  rw [w7, v7, ih p' w1 w4 w7]
theorem chain_D {z : Sz} {D D' : Nat → Nat} (h : WF z D) (h' : WF z D') {c : Nat} (hk : z.K c ≠ 0) : chain z D c = chain z D' c := by
  rw [chain, chain, wf_uni h h' c hk]
theorem Wz_D {z : Sz} {D D' : Nat → Nat} (h : WF z D) (h' : WF z D') : Wz z D = Wz z D' := by
  funext a
  refine sm_congr (fun y _ => ?_)
  by_cases e : z.K y = 2
  · rw [chain_D h h' (by omega)]
  · rw [if_neg (fun b => e b.1), if_neg (fun b => e b.1)]
theorem T_D {z : Sz} {D D' : Nat → Nat} (h : WF z D) (h' : WF z D') {c : Nat} (hk : z.K c ≠ 0) : Tz z D c = Tz z D' c := by
  rw [Tz, Tz, wf_uni h h' c hk]
theorem F_D {z : Sz} {D D' : Nat → Nat} (h : WF z D) (h' : WF z D') {c : Nat} (hk : z.K c ≠ 0) (w : List Nat) : Fz z D c w = Fz z D' c w := by
  rw [Fz, Fz, wf_uni h h' c hk]
/-! the class: counts up to the root, a child -/
theorem t_addBelow {z z' : Sz} {D C W W' : Nat → Nat} {t : TS} (h : WF z D) (ht : Hr z' C W t) (hP : ∀ x, x < 160 → z'.P x = z.P x) {c : Nat} (hk : z.K c ≠ 0) {v : Int32} (h1 : ∀ a, a ∈ chain z D c → nI (W a) + v = nI (W' a)) (h2 : ∀ a, a ∉ chain z D c → W' a = W a) : Gd (fun t' => Hr z' C W' t') (fT_addBelow (nI c) v t) := by
  have hdc := h.dp hk
  unfold fT_addBelow
  refine gd_bind (P := fun t' => Hr z' C W' t') ?_ (fun a ha => gd_some ha)
  refine gd_lp (fun j y => ∃ t', (∃ a, y = (nI a, nI j, t') ∧ z.K a ≠ 0 ∧ D a + j = D c ∧ (∀ b, b ∈ chain z D a → b ∈ chain z D c) ∧ Hr z' C (fun b => if b ∈ chain z D c ∧ b ∉ chain z D a then W' b else W b) t') ∨ (y = (-1, nI j, t') ∧ Hr z' C W' t')) 14 ⟨t, Or.inl ⟨c, rfl, hk, rfl, fun b hb => hb, ?_⟩⟩ ?_ (by omega)
  · have : (fun b => if b ∈ chain z D c ∧ b ∉ chain z D c then W' b else W b) = W := by
      funext b
      rw [if_neg (fun q => q.2 q.1)]
    rw [this]; exact ht
  · rintro j y hj ⟨t', ⟨a, rfl, g1, g2, g3, g4⟩ | ⟨rfl, g4⟩⟩
    · have hc := h.lt g1
      try dsimp only
      rw [if_neg (show ¬ (12 : Int32) < nI j from nI_nlt (b := j) (a := 12) (by omega) (by omega)), if_neg (nI_m1 (by omega))]
      simp only [gw_let]
      rw [J_at_n (tW t') hc (by omega), g4.w a hc, if_neg (fun q => q.2 (chain_self a)), h1 a (g3 a (chain_self a)), nI_1]
      have g5 := Hr_W g4 hc (v := W' a) (i := nI a) (w := nI (W' a)) rfl rfl
      have hp : J_at 160 (tP (sTW t' (J_put 160 (tW t') (nI a) (nI (W' a))))) (nI a) = eI (z.P a) := by
        rw [J_at_n _ hc (by omega), ← hP a hc]; exact g4.p a hc
      rw [hp]
      refine gd_inr (by omega) ?_
      by_cases e0 : a = 0
      · subst e0
        rw [h.root.2.1, eI_0]
        refine ⟨_, Or.inr ⟨rfl, ?_⟩⟩
        have : fu (fun b => if b ∈ chain z D c ∧ b ∉ chain z D 0 then W' b else W b) 0 (W' 0) = W' := by
          funext b
          by_cases e1 : b = 0
          · rw [e1, fu_eq]
          · rw [fu_ne _ _ e1, chain_0 h]
            by_cases e2 : b ∈ chain z D c
            · rw [if_pos ⟨e2, fun q => e1 (List.mem_singleton.mp q)⟩]
            · rw [if_neg (fun q => e2 q.1), h2 b e2]
        rw [this] at g5
        exact g5
      · obtain ⟨p, l, q1, q2, q3, q4, q5, q6, q7, q8⟩ := h.par e0 g1
        have hch := chain_s h e0 g1
        rw [q1, Nat.add_sub_cancel] at hch
        rw [q1, eI_s]
        refine ⟨_, Or.inl ⟨p, rfl, by omega, by omega, fun b hb => g3 b (by rw [hch]; exact List.mem_cons_of_mem _ hb), ?_⟩⟩
        have : fu (fun b => if b ∈ chain z D c ∧ b ∉ chain z D a then W' b else W b) a (W' a) = fun b => if b ∈ chain z D c ∧ b ∉ chain z D p then W' b else W b := by
          funext b
          by_cases e1 : b = a
          · subst e1
            have n1 : b ∉ chain z D p := by
              have := chain_nodup h b g1
              rw [hch] at this
              exact (List.nodup_cons.mp this).1
            rw [fu_eq, if_pos ⟨g3 b (chain_self b), n1⟩]
          · rw [fu_ne _ _ e1, hch]
            by_cases e2 : b ∈ chain z D c ∧ b ∉ chain z D p
            · rw [if_pos e2, if_pos ⟨e2.1, fun q => (List.mem_cons.mp q).elim e1 e2.2⟩]
            · rw [if_neg e2, if_neg (fun q => e2 ⟨q.1, fun m => q.2 (List.mem_cons_of_mem _ m)⟩)]
        rw [this] at g5
        exact g5
    · dsimp only
      by_cases e1 : (12 : Int32) < nI j
      · rw [if_pos e1]; exact gd_inl g4
      · rw [if_neg e1, if_pos rfl]; exact gd_inl g4
theorem t_putChild {z : Sz} {C W : Nat → Nat} {t : TS} (ht : Hr z C W t) {c o l k e : Nat} (hc : c < 160) (ho : z.O c = o) (hx : o + l < 160) (hl : l < 9) (hC : C c < 512) {kk ee : Int32} (hk : kk = nI k) (he : ee = eI e) :
    ∃ t', fT_putChild (nI c) (nI l) kk ee t = (nI (o + l), t') ∧ Hr (sE (sB (sP (sK z (fu z.K (o + l) k)) (fu z.P (o + l) (c + 1))) (fu z.B (o + l) (l + 1))) (fu z.E (o + l) e)) (fu C c (C c ||| 2 ^ l)) (fu W (o + l) 1) t' := by
  have hv : J_at 160 (tO t) (nI c) + nI l = nI (o + l) := by rw [J_at_n _ hc (by omega), ht.o c hc, ho, nI_add]
  have g1 := Hr_W (Hr_E (Hr_B (Hr_P (Hr_K ht hx (i := nI (o + l)) rfl hk) hx (v := c + 1) (i := nI (o + l)) (w := nI c) rfl (eI_s c).symm) hx (v := l + 1) (i := nI (o + l)) (w := nI l) rfl (eI_s l).symm) hx (i := nI (o + l)) rfl he) hx (v := 1) (i := nI (o + l)) (w := 1) rfl rfl
  have g2 := Hr_C g1 hc (v := C c ||| 2 ^ l) (i := nI c) (w := (J_at 160 (tC t) (nI c)) ||| ((1 : Int32) <<< (nI l &&& 31))) rfl (by
    rw [J_at_n _ hc (by omega), ht.c c hc, shl_e l hl, nI_or])
  refine ⟨_, ?_, g2⟩
  unfold fT_putChild
  simp only [gw_let]
  rw [hv]
theorem put_msk {z : Sz} {D : Nat → Nat} (h : WF z D) {c o l k e : Nat} {U : Nat → Nat} {X : Nat → List Nat} (hp : PutOk z c o l) (hk : k ≠ 0) (x : Nat) : fu (fun x => msk z x 9) c (msk z c 9 ||| 2 ^ l) x = msk (putC z c o l k e U X) x 9 := by
  obtain ⟨c1, c2, c3⟩ := put_ch h (e := e) (U := U) (X := X) hp hk
  have hm1 : ∀ (z z' : Sz) (x n : Nat), (∀ l, ch z x l = ch z' x l) → msk z x n = msk z' x n := by
    intro z z' x n hc
    induction n with
    | zero => rfl
    | succ n ih => rw [msk, msk, ih, hc n]
  have hxx : z.K (o + l) = 0 := hp.2.2.2.2.2.1
  by_cases e1 : x = c
  · subst e1
    rw [fu_eq]
    refine Nat.eq_of_testBit_eq (fun b => ?_)
    rw [Nat.testBit_or, Nat.testBit_two_pow]
    by_cases hb : b < 9
    · rw [msk_bit z x 9 b hb, msk_bit _ x 9 b hb]
      by_cases e2 : b = l
      · subst e2
        rw [c1]
        have := hp.2.2.1
        have h1 : o + b ≠ 0 := by omega
        rw [decide_eq_true h1]; simp
      · rw [c2 x b (by intro q; rw [← q] at hxx; have := hp.1; omega) (fun q => e2 q.2)]
        have h1 : ¬ l = b := fun q => e2 q.symm
        rw [decide_eq_false h1, Bool.or_false]
    · have h1 := msk_lt z x 9
      have h2 := msk_lt (putC z x o l k e U X) x 9
      have h3 : (2 : Nat) ^ 9 ≤ 2 ^ b := Nat.pow_le_pow_right (by omega) (by omega)
      rw [Nat.testBit_lt_two_pow (by omega), Nat.testBit_lt_two_pow (by omega)]
      have := hp.2.1
      simp; omega
  · rw [fu_ne _ _ e1]
    refine hm1 _ _ _ _ (fun b => ?_)
    by_cases e2 : x = o + l
    · rw [e2, c3 b]
      exact h.ch0 (by omega)
    · exact (c2 x b e2 (fun q => e1 q.1)).symm
/-! a leaf is hung -/
theorem put_U {z : Sz} {c o l k e : Nat} {U : Nat → Nat} {X : Nat → List Nat} : (putC z c o l k e U X).U = U := rfl
theorem put_X {z : Sz} {c o l k e : Nat} {U : Nat → Nat} {X : Nat → List Nat} : (putC z c o l k e U X).X = X := rfl
def hangS (z : Sz) (c o l : Nat) (r : List Nat) : Option (Nat × Sz) :=
  if plc z.U z.X r = 0 then none else some (o + l, putC z c o l 2 (plc z.U z.X r) (gU z.U (plc z.U z.X r - 1)) (gX z.X (plc z.U z.X r - 1) r))
theorem putE_leaf {z : Sz} {D : Nat → Nat} (h : WF z D) {c l p : Nat} {r : List Nat} (hr : okw r) (hp : plc z.U z.X r = p + 1) (h0 : l = 0 → r = [] ∧ c ≠ 0) (h1 : 1 ≤ l → D c + 1 + r.length ≤ 12) : PutE z D c l 2 (p + 1) (gU z.U p) (gX z.X p r) := by
  obtain ⟨g1, g2, g3⟩ := WFe_give h.e hr hp
  refine ⟨g1, fun q => ?_, fun q hq => ?_, Or.inr ⟨rfl, p, rfl, g2, fun e => ?_, fun e => ?_⟩⟩
  · by_cases e : q = p
    · subst e; rw [gU, fu_eq, if_pos ⟨rfl, rfl⟩]
    · rw [gU, fu_ne _ _ e, if_neg (fun b => e (by omega)), Nat.add_zero]
  · by_cases e : q = p
    · subst e; rw [gX, fu_eq]; exact (g3 hq).symm
    · rw [gX, fu_ne _ _ e]
  · rw [gX, fu_eq]; exact h0 e
  · rw [gX, fu_eq]; exact h1 e
/-- rows after an end was kept and the counts are up: the leaf comes -/
theorem t_hangLeaf {z : Sz} {D : Nat → Nat} {t : TS} (h : WF z D) {c o l : Nat} {r : List Nat} (hp : PutOk z c o l) (ht : Hr (sO z (fu z.O c o)) (fun x => msk z x 9) (Wz z D) t) (hr : okw r) (h0 : l = 0 → r = [] ∧ c ≠ 0) (h1 : 1 ≤ l → D c + 1 + r.length ≤ 12) :
    Gd (fun w => (hangS z c o l r = none → w.1 = -1) ∧ ∀ x zf, hangS z c o l r = some (x, zf) → w.1 = nI x ∧ ∀ Df, WF zf Df → Ht zf (Wz zf Df) w.2) (fT_hangLeaf (nI c) (nI l) (lN (enc r)) t) := by
  have hs := h.sml
  have hc := h.lt (c := c) (by have := hp.1; omega)
  unfold fT_hangLeaf
  rw [if_neg (nI_m1 (by omega))]
  refine gd_bind (e_keep h.e hs.u ht.n hr) ?_
  rintro ⟨o1, o2⟩ ⟨g1, -, g2⟩
  have h40 := plc_le z.U z.X r
  dsimp only at g1 g2 ⊢
  simp only [gw_let]
  by_cases e : plc z.U z.X r = 0
  · have hS : hangS z c o l r = none := by rw [hangS, if_pos e]
    rw [g1, e, if_pos (by rw [eI_0])]
    exact gd_some ⟨fun _ => rfl, fun x zf q => by rw [hS] at q; cases q⟩
  · obtain ⟨p, hpp⟩ : ∃ p, plc z.U z.X r = p + 1 := ⟨plc z.U z.X r - 1, by omega⟩
    have hS : hangS z c o l r = some (o + l, putC z c o l 2 (p + 1) (gU z.U p) (gX z.X p r)) := by
      rw [hangS, if_neg e, hpp, Nat.add_sub_cancel]
    rw [g1, hpp, if_neg (by rw [eI_s]; exact nI_m1 (by omega))]
    have k1 := Hr_N ht (g2 p hpp)
    refine gd_bind (t_addBelow h k1 (fun x _ => rfl) (c := c) (by have := hp.1; omega) (v := 1) (W' := fun a => Wz z D a + if a ∈ chain z D c then 1 else 0) (fun a ha => by rw [if_pos ha, nI_1]) (fun a ha => by rw [if_neg ha, Nat.add_zero])) ?_
    intro t2 k2
    obtain ⟨t3, e3, k3⟩ := t_putChild k2 (c := c) (o := o) (l := l) (k := 2) (e := p + 1) hc (fu_eq _ _ _) hp.2.2.2.2.1 hp.2.1 (msk_lt z c 9) (kk := 2) (ee := eI (p + 1)) rfl rfl
    try simp only [gw_let]
    rw [e3]
    refine gd_some ⟨fun q => (by rw [hS] at q; cases q), fun x zf q => ?_⟩
    rw [hS] at q
    injection q with q
    injection q with q1 q2
    subst q1 q2
    refine ⟨rfl, fun Df hDf => ?_⟩
    have hE := putE_leaf h hr hpp h0 h1
    have hw := put_wf h hp hE
    rw [Wz_D hDf hw]
    have k4 : Hr (putC z c o l 2 (p + 1) (gU z.U p) (gX z.X p r)) (fu (fun x => msk z x 9) c (msk z c 9 ||| 2 ^ l)) (fu (fun a => Wz z D a + if a ∈ chain z D c then 1 else 0) (o + l) 1) t3 := k3
    have k5 : fu (fun a => Wz z D a + if a ∈ chain z D c then 1 else 0) (o + l) 1 = Wz (putC z c o l 2 (p + 1) (gU z.U p) (gX z.X p r)) (fu D (o + l) (D c + 1)) := by
      funext a
      rw [put_W h hp hw (by omega)]
      by_cases ea : a = o + l
      · rw [ea, fu_eq, Wz_free h hp.2.2.2.2.2.1, if_pos ⟨rfl, Or.inl rfl⟩]
      · rw [fu_ne _ _ ea]
        by_cases eb : a ∈ chain z D c
        · rw [if_pos eb, if_pos ⟨rfl, Or.inr eb⟩]
        · rw [if_neg eb, if_neg (fun q => q.2.elim ea eb)]
    rw [k5] at k4
    exact k4.ht (fun x _ => put_msk h hp (by omega) x)
/-! two leaves -/
def frkS (z : Sz) (c : Nat) (u r : List Nat) : Option (Nat × Sz) :=
  if lst z (2 ^ hd0 u ||| 2 ^ hd0 r) = 0 then none
  else match hangS z c (lst z (2 ^ hd0 u ||| 2 ^ hd0 r)) (hd0 u) u.tail with
    | none => none
    | some (_, z1) => hangS z1 c (lst z (2 ^ hd0 u ||| 2 ^ hd0 r)) (hd0 r) r.tail
/-- the words that part below a cell without children -/
def Part (D : Nat → Nat) (c : Nat) (u r : List Nat) : Prop := okw u ∧ okw r ∧ D c + u.length ≤ 12 ∧ D c + r.length ≤ 12 ∧ c ≠ 0
theorem tail_len {u : List Nat} (h : okw u) : (hd0 u = 0 → u.tail = []) ∧ (1 ≤ hd0 u → u.tail.length + 1 = u.length) := by
  cases u with
  | nil => exact ⟨fun _ => rfl, fun q => by have : (1 : Nat) ≤ 0 := q; omega⟩
  | cons a v => exact ⟨fun q => by have := okw_head h; have : a = 0 := q; omega, fun _ => rfl⟩
theorem frk_ok1 {z : Sz} {D : Nat → Nat} {c : Nat} {u r : List Nat} (hcK : z.K c = 1) (hO : z.O c = 0) (hpt : Part D c u r) (e : lst z (2 ^ hd0 u ||| 2 ^ hd0 r) ≠ 0) :
    PutOk z c (lst z (2 ^ hd0 u ||| 2 ^ hd0 r)) (hd0 u) ∧ z.K (lst z (2 ^ hd0 u ||| 2 ^ hd0 r) + hd0 r) = 0 ∧ lst z (2 ^ hd0 u ||| 2 ^ hd0 r) + hd0 r < 160 ∧ hd0 r < 9 := by
  have h1 := hd0_lt hpt.1.2
  have h2 := hd0_lt hpt.2.1.2
  have f1 := lst_fit e (hd0 u) h1 (by rw [Nat.testBit_or, Nat.testBit_two_pow]; simp)
  have f2 := lst_fit e (hd0 r) h2 (by rw [Nat.testBit_or, Nat.testBit_two_pow, Nat.testBit_two_pow]; simp)
  exact ⟨⟨hcK, h1, by omega, lst_lt _ _, f1.1, f1.2, Or.inr hO⟩, f2.2, f2.1, h2⟩
theorem frk_ok2 {z : Sz} {D : Nat → Nat} {c p o : Nat} {u r : List Nat} {U : Nat → Nat} {X : Nat → List Nat} (h : WF z D) (hp : PutOk z c o (hd0 u)) (hx : z.K (o + hd0 r) = 0) (hx2 : o + hd0 r < 160) (h9 : hd0 r < 9) (hne : hd0 u ≠ hd0 r) : PutOk (putC z c o (hd0 u) 2 p U X) c o (hd0 r) := by
  have hcx : c ≠ o + hd0 u := by intro q; have := hp.2.2.2.2.2.1; rw [← q] at this; have := hp.1; omega
  refine ⟨?_, h9, hp.2.2.1, hp.2.2.2.1, hx2, ?_, Or.inl (fu_eq _ _ _)⟩
  · show fu z.K (o + hd0 u) 2 c = 1
    rw [fu_ne _ _ hcx]; exact hp.1
  · show fu z.K (o + hd0 u) 2 (o + hd0 r) = 0
    rw [fu_ne _ _ (by omega)]; exact hx
theorem t_fork {z : Sz} {D : Nat → Nat} {t : TS} (h : WF z D) {c : Nat} {u r : List Nat} (hcK : z.K c = 1) (hO : z.O c = 0) (hpt : Part D c u r) (hne : hd0 u ≠ hd0 r) (ht : Hr z (fun x => msk z x 9) (fun a => Wz z D a + if a ∈ chain z D c then 1 else 0) t) :
    Gd (fun w => (frkS z c u r = none → w.1 = -1) ∧ ∀ x zf, frkS z c u r = some (x, zf) → w.1 = nI x ∧ ∀ Df, WF zf Df → Ht zf (Wz zf Df) w.2) (fT_fork (nI c) (lN (enc u)) (lN (enc r)) t) := by
  have hs := h.sml
  have hc := h.lt (c := c) (by omega)
  have hu9 := hd0_lt hpt.1.2
  have hr9 := hd0_lt hpt.2.1.2
  have hm1 : 2 ^ hd0 u < 512 := Nat.pow_lt_pow_right (n := 9) (by omega) hu9
  have hm : 2 ^ hd0 u ||| 2 ^ hd0 r < 512 := or_lt hm1 hr9
  have tu := tail_len hpt.1
  have tr := tail_len hpt.2.1
  unfold fT_fork
  simp only [gw_let]
  rw [firstOf_e hpt.1, firstOf_e hpt.2.1, withoutFirst_e hpt.1, withoutFirst_e hpt.2.1, shl_e _ hu9, shl_e _ hr9, or_e _ hm1 _ hr9, t_placeFirst hs ht hc hm]
  simp only [Option.bind_some]
  by_cases e : lst z (2 ^ hd0 u ||| 2 ^ hd0 r) = 0
  · have hS : frkS z c u r = none := by rw [frkS, if_pos e]
    rw [if_pos e, if_pos rfl]
    exact gd_some ⟨fun _ => rfl, fun x zf q => by rw [hS] at q; cases q⟩
  · obtain ⟨p1, p2, p3, p4⟩ := frk_ok1 hcK hO hpt e
    rw [if_neg e, if_neg (by decide)]
    have hS : frkS z c u r = match hangS z c (lst z (2 ^ hd0 u ||| 2 ^ hd0 r)) (hd0 u) u.tail with
      | none => none
      | some (_, z1) => hangS z1 c (lst z (2 ^ hd0 u ||| 2 ^ hd0 r)) (hd0 r) r.tail := by rw [frkS, if_neg e]
    have k0 := Hr_O ht hc (v := lst z (2 ^ hd0 u ||| 2 ^ hd0 r)) (i := nI c) (w := nI (lst z (2 ^ hd0 u ||| 2 ^ hd0 r))) rfl rfl
    generalize lst z (2 ^ hd0 u ||| 2 ^ hd0 r) = o at e p1 p2 p3 hS k0
    refine gd_bind (e_keep h.e hs.u k0.n (okw_tl hpt.1)) ?_
    rintro ⟨o1, o2⟩ ⟨g1, g0, g2⟩
    dsimp only at g1 g0 g2 ⊢
    have h40 := plc_le z.U z.X u.tail
    by_cases e1 : plc z.U z.X u.tail = 0
    · have hS1 : frkS z c u r = none := by rw [hS, hangS, if_pos e1]
      -- no place for the old one: whatever the second keep does
      have hany : ∀ (x : Option (Int32 × ES)), (∃ y, x = some y) → Gd (fun w : Int32 × TS => (frkS z c u r = none → w.1 = -1) ∧ ∀ x zf, frkS z c u r = some (x, zf) → w.1 = nI x ∧ ∀ Df, WF zf Df → Ht zf (Wz zf Df) w.2) (x.bind fun q7 => if o1 = (-1 : Int32) then some ((-1 : Int32), sTN (sTN (sTO t (J_put 160 (tO t) (nI c) (nI o))) o2) q7.2) else if q7.1 = (-1 : Int32) then some ((-1 : Int32), sTN (sTN (sTO t (J_put 160 (tO t) (nI c) (nI o))) o2) q7.2) else (fT_addBelow (nI c) (1 : Int32) (sTN (sTN (sTO t (J_put 160 (tO t) (nI c) (nI o))) o2) q7.2)).bind fun q11 => some ((fT_putChild (nI c) (nI (hd0 r)) (2 : Int32) q7.1 (fT_putChild (nI c) (nI (hd0 u)) (2 : Int32) o1 q11).2).1, (fT_putChild (nI c) (nI (hd0 r)) (2 : Int32) q7.1 (fT_putChild (nI c) (nI (hd0 u)) (2 : Int32) o1 q11).2).2)) := by
        rintro x ⟨y, rfl⟩
        simp only [Option.bind_some]
        rw [if_pos (by rw [g1, e1, eI_0])]
        exact gd_some ⟨fun _ => rfl, fun x zf q => by rw [hS1] at q; cases q⟩
      have hsome : ∃ y, fE_keep (lN (enc r.tail)) o2 = some y := by
        obtain ⟨y, hy, -⟩ := e_keep h.e hs.u k0.n (okw_tl hpt.2.1)
        rw [g0 e1]
        exact ⟨y, hy⟩
      exact hany _ hsome
    · obtain ⟨p, hpp⟩ : ∃ p, plc z.U z.X u.tail = p + 1 := ⟨plc z.U z.X u.tail - 1, by omega⟩
      have hE := putE_leaf h (c := c) (l := hd0 u) (okw_tl hpt.1) hpp (fun q => ⟨tu.1 q, hpt.2.2.2.2⟩) (fun q => by have := tu.2 q; have := hpt.2.2.1; omega)
      have hw1 := put_wf h p1 hE
      have hp2 := frk_ok2 h (p := p + 1) (U := gU z.U p) (X := gX z.X p u.tail) p1 p2 p3 p4 hne
      have hS1 : frkS z c u r = hangS (putC z c o (hd0 u) 2 (p + 1) (gU z.U p) (gX z.X p u.tail)) c o (hd0 r) r.tail := by
        rw [hS, hangS, if_neg e1, hpp, Nat.add_sub_cancel]
      have k1 := Hr_N k0 (g2 p hpp)
      have hs1 := hw1.sml
      refine gd_bind (e_keep hw1.e hs1.u k1.n (okw_tl hpt.2.1)) ?_
      rintro ⟨q1, q2⟩ ⟨g3, -, g4⟩
      dsimp only at g3 g4 ⊢
      have h40' := plc_le (gU z.U p) (gX z.X p u.tail) r.tail
      rw [if_neg (by rw [g1, hpp, eI_s]; exact nI_m1 (by omega))]
      by_cases e2 : plc (gU z.U p) (gX z.X p u.tail) r.tail = 0
      · have hS2 : frkS z c u r = none := by rw [hS1, hangS]; exact if_pos e2
        have g3' : q1 = eI (plc (gU z.U p) (gX z.X p u.tail) r.tail) := g3
        rw [if_pos (by rw [g3', e2, eI_0])]
        exact gd_some ⟨fun _ => rfl, fun x zf q => by rw [hS2] at q; cases q⟩
      · obtain ⟨p', hpp'⟩ : ∃ p', plc (gU z.U p) (gX z.X p u.tail) r.tail = p' + 1 := ⟨plc (gU z.U p) (gX z.X p u.tail) r.tail - 1, by omega⟩
        have g3' : q1 = eI (p' + 1) := by rw [← hpp']; exact g3
        rw [if_neg (by rw [g3', eI_s]; exact nI_m1 (by omega))]
        have k2 := Hr_N k1 (g4 p' hpp')
        refine gd_bind (t_addBelow h k2 (fun x _ => rfl) (c := c) (by omega) (v := 1) (W' := fun a => Wz z D a + if a ∈ chain z D c then 2 else 0) (fun a ha => by rw [if_pos ha, if_pos ha, nI_1]) (fun a ha => by rw [if_neg ha, if_neg ha])) ?_
        intro t2 k3
        obtain ⟨t3, e3, k4⟩ := t_putChild k3 (c := c) (o := o) (l := hd0 u) (k := 2) (e := p + 1) hc (fu_eq _ _ _) p1.2.2.2.2.1 hu9 (msk_lt z c 9) (kk := 2) (ee := o1) rfl (by rw [g1, hpp])
        have hmm : fu (fun x => msk z x 9) c (msk z c 9 ||| 2 ^ hd0 u) c < 512 := by
          rw [fu_eq]; exact or_lt (msk_lt z c 9) hu9
        obtain ⟨t4, e4, k5⟩ := t_putChild k4 (c := c) (o := o) (l := hd0 r) (k := 2) (e := p' + 1) hc (fu_eq _ _ _) p3 hr9 hmm (kk := 2) (ee := q1) rfl g3'
        try simp only [gw_let]
        rw [e3]
        try dsimp only
        rw [e4]
        have hS2 : frkS z c u r = some (o + hd0 r, putC (putC z c o (hd0 u) 2 (p + 1) (gU z.U p) (gX z.X p u.tail)) c o (hd0 r) 2 (p' + 1) (gU (gU z.U p) p') (gX (gX z.X p u.tail) p' r.tail)) := by
          rw [hS1, hangS, put_U, put_X, hpp', if_neg (by omega), Nat.add_sub_cancel]
        refine gd_some ⟨fun q => (by rw [hS2] at q; cases q), fun x zf q => ?_⟩
        rw [hS2] at q
        injection q with q
        injection q with v1 v2
        subst v1 v2
        refine ⟨rfl, fun Df hDf => ?_⟩
        have hcx : c ≠ o + hd0 u := by intro q; have := p1.2.2.2.2.2.1; rw [← q] at this; omega
        have hDc : fu D (o + hd0 u) (D c + 1) c = D c := fu_ne _ _ hcx
        have hE2 : PutE (putC z c o (hd0 u) 2 (p + 1) (gU z.U p) (gX z.X p u.tail)) (fu D (o + hd0 u) (D c + 1)) c (hd0 r) 2 (p' + 1) (gU (gU z.U p) p') (gX (gX z.X p u.tail) p' r.tail) := putE_leaf hw1 (c := c) (l := hd0 r) (p := p') (okw_tl hpt.2.1) hpp' (fun q => ⟨tr.1 q, hpt.2.2.2.2⟩) (fun q => by rw [hDc]; have := tr.2 q; have := hpt.2.2.2.1; omega)
        have hw2 := put_wf hw1 hp2 hE2
        rw [Wz_D hDf hw2]
        have k6 : Hr (putC (putC z c o (hd0 u) 2 (p + 1) (gU z.U p) (gX z.X p u.tail)) c o (hd0 r) 2 (p' + 1) (gU (gU z.U p) p') (gX (gX z.X p u.tail) p' r.tail)) (fu (fu (fun x => msk z x 9) c (msk z c 9 ||| 2 ^ hd0 u)) c (fu (fun x => msk z x 9) c (msk z c 9 ||| 2 ^ hd0 u) c ||| 2 ^ hd0 r)) (fu (fu (fun a => Wz z D a + if a ∈ chain z D c then 2 else 0) (o + hd0 u) 1) (o + hd0 r) 1) t4 := by
          have hOO : fu (fu z.O c o) c o = fu z.O c o := fu_same (fu_eq _ _ _)
          refine ⟨k5.k, k5.p, k5.b, fun x hx => ?_, k5.e, k5.c, k5.w, k5.n, k5.m⟩
          rw [k5.o x hx]
          show nI (fu z.O c o x) = nI (fu (fu z.O c o) c o x)
          rw [hOO]
        have k7 : fu (fu (fun a => Wz z D a + if a ∈ chain z D c then 2 else 0) (o + hd0 u) 1) (o + hd0 r) 1 = Wz (putC (putC z c o (hd0 u) 2 (p + 1) (gU z.U p) (gX z.X p u.tail)) c o (hd0 r) 2 (p' + 1) (gU (gU z.U p) p') (gX (gX z.X p u.tail) p' r.tail)) (fu (fu D (o + hd0 u) (D c + 1)) (o + hd0 r) (fu D (o + hd0 u) (D c + 1) c + 1)) := by
          funext a
          rw [put_W hw1 hp2 hw2 (by omega), put_W h p1 hw1 (by omega), (put_chain h p1 hw1 (by omega)).1 c (by omega)]
          have n1 : o + hd0 u ∉ chain z D c := fun q => (chain_all h c (by omega) _ q).1 p1.2.2.2.2.2.1
          have n2 : o + hd0 r ∉ chain z D c := fun q => (chain_all h c (by omega) _ q).1 p2
          by_cases ea : a = o + hd0 r
          · rw [ea, fu_eq, Wz_free h p2, if_neg (fun q => q.2.elim (fun b => hne (by omega)) n2), if_pos ⟨rfl, Or.inl rfl⟩]
          · rw [fu_ne _ _ ea]
            by_cases eb : a = o + hd0 u
            · rw [eb, fu_eq, Wz_free h p1.2.2.2.2.2.1, if_pos ⟨rfl, Or.inl rfl⟩, if_neg (fun q => q.2.elim (fun b => hne (by omega)) n1)]
            · rw [fu_ne _ _ eb]
              by_cases ec : a ∈ chain z D c
              · rw [if_pos ec, if_pos ⟨rfl, Or.inr ec⟩, if_pos ⟨rfl, Or.inr ec⟩]
              · rw [if_neg ec, if_neg (fun q => q.2.elim eb ec), if_neg (fun q => q.2.elim ea ec)]
        rw [k7] at k6
        refine k6.ht (fun x _ => ?_)
        have m1 : (fun x => msk (putC z c o (hd0 u) 2 (p + 1) (gU z.U p) (gX z.X p u.tail)) x 9) = fu (fun x => msk z x 9) c (msk z c 9 ||| 2 ^ hd0 u) := by
          funext y
          exact (put_msk h p1 (by omega) y).symm
        have m2 := put_msk (e := p' + 1) (U := gU (gU z.U p) p') (X := gX (gX z.X p u.tail) p' r.tail) hw1 hp2 (k := 2) (by omega) x
        rw [m1] at m2
        have m3 : msk (putC z c o (hd0 u) 2 (p + 1) (gU z.U p) (gX z.X p u.tail)) c 9 = fu (fun x => msk z x 9) c (msk z c 9 ||| 2 ^ hd0 u) c := by rw [← m1]
        rw [m3] at m2
        exact m2
