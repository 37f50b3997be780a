/-! what a removal leaves -/
theorem rmF_ok {D : Nat → Nat} : ∀ (f : Nat) (z : Sz) (x : Nat), WF z D → z.K x = 1 → WF (rmF f z x).2 D ∧ Tz (rmF f z x).2 D 0 = Tz z D 0
  | 0, z, x, h, hk => ⟨h, rfl⟩
  | f + 1, z, x, h, hk => by
    rw [rmF]
    by_cases e : x = 0 ∨ msk z x 9 ≠ 0
    · rw [if_pos e]; exact ⟨h, rfl⟩
    · rw [if_neg e]
      have hx0 : x ≠ 0 := fun q => e (Or.inl q)
      have hno := (msk_ch h).mp (Classical.byContradiction (fun q => e (Or.inr q)))
      obtain ⟨p, l, w1, w2, w3, w4, w5, w6, w7, w8⟩ := h.par hx0 (by omega)
      have hpx : p ≠ x := by intro q; rw [q] at w7; omega
      have h' := rm_wf h hx0 (by omega) hno (drop_no h hk)
      have hkp : (rmC z x z.U z.X).K p = 1 := by
        show fu z.K x 0 p = 1
        rw [fu_ne _ _ hpx]; exact w4
      have ih := rmF_ok f (rmC z x z.U z.X) p h' hkp
      rw [w1, Nat.add_sub_cancel]
      refine ⟨ih.1, ih.2.trans ?_⟩
      rw [rm_T h hx0 (by omega) hno (drop_no h hk) 0 (by rw [h.root.1]; omega) (fun q => hx0 q.symm)]
      refine List.filter_eq_self.mpr (fun q hq => ?_)
      have := (T_in h 0 (by rw [h.root.1]; omega) q.1 q.2 hq).1
      exact decide_eq_true (fun q2 => by rw [q2] at this; omega)
theorem rem_ok {z : Sz} {D : Nat → Nat} (h : WF z D) {x : Nat} (hk : z.K x = 2) : WF (remS z x).2 D ∧ Tz (remS z x).2 D 0 = (Tz z D 0).filter (fun p => decide (p.1 ≠ x)) := by
  have hx : z.K x ≠ 0 := by omega
  have hx0 : x ≠ 0 := by intro q; rw [q, h.root.1] at hk; omega
  have hno : ∀ b, ch z x b = 0 := fun b => h.ch0 (by omega)
  obtain ⟨hO, e, he, h40, hu⟩ := h.leaf hk
  obtain ⟨p, l, w1, w2, w3, w4, w5, w6, w7, w8⟩ := h.par hx0 hx
  obtain ⟨d1, d2, d3⟩ := drop_ok h hk he
  have hpx : p ≠ x := by intro q; rw [q] at w4; omega
  have e0 : rmL z x = rmC z x (dU z.U e) (dX z.U z.X e) := by rw [rmL, he, Nat.add_sub_cancel]
  have hwf : WF (rmL z x) D := by
    rw [e0]
    exact rm_wf h hx0 hx hno d3
  have hkp : (rmL z x).K p = 1 := by
    rw [e0]
    show fu z.K x 0 p = 1
    rw [fu_ne _ _ hpx]; exact w4
  have := rmF_ok 13 (rmL z x) p hwf hkp
  rw [remS, w1, Nat.add_sub_cancel]
  refine ⟨this.1, this.2.trans ?_⟩
  rw [e0]
  exact rm_T h hx0 hx hno d3 0 (by rw [h.root.1]; omega) (fun q => hx0 q.symm)
theorem cnt_rm (Q : Nat × List Nat → Bool) {p : Nat × List Nat} : ∀ {L : List (Nat × List Nat)}, L.Pairwise (fun p q => p.1 ≠ q.1) → p ∈ L → (L.filter (fun q => decide (q.1 ≠ p.1))).countP Q + (if Q p = true then 1 else 0) = L.countP Q
  | [], _, hm => by cases hm
  | a :: L, hp, hm => by
    rw [List.pairwise_cons] at hp
    by_cases e : a.1 = p.1
    · have hap : a = p := by
        rcases List.mem_cons.mp hm with q | q
        · exact q.symm
        · exact absurd e (hp.1 p q)
      have hf : (a :: L).filter (fun q => decide (q.1 ≠ p.1)) = L := by
        rw [List.filter_cons, if_neg (by simp [e])]
        refine List.filter_eq_self.mpr (fun q hq => ?_)
        have := hp.1 q hq
        rw [e] at this
        exact decide_eq_true (fun q2 => this q2.symm)
      rw [hf, List.countP_cons, hap]
    · have hpl : p ∈ L := by
        rcases List.mem_cons.mp hm with q | q
        · exact absurd (by rw [q]) e
        · exact q
      have ih := cnt_rm Q hp.2 hpl
      rw [List.filter_cons, if_pos (decide_eq_true e), List.countP_cons, List.countP_cons]
      omega
/-- all words that begin with a text go, one after the other -/
def raF (D : Nat → Nat) (r : List Nat) : Nat → Sz → Sz
  | 0, z => z
  | n + 1, z => match (Tz z D 0)[nA r (Tz z D 0)]? with
    | none => z
    | some p => raF D r n (remS z p.1).2
theorem ra_step {z : Sz} {D : Nat → Nat} (h : WF z D) {r : List Nat} (hr : okw r) (hn : nM r (Tz z D 0) ≠ 0) : ∃ p, (Tz z D 0)[nA r (Tz z D 0)]? = some p ∧ z.K p.1 = 2 ∧ WF (remS z p.1).2 D ∧ nA r (Tz (remS z p.1).2 D 0) = nA r (Tz z D 0) ∧ nM r (Tz (remS z p.1).2 D 0) + 1 = nM r (Tz z D 0) := by
  have h0 : z.K 0 ≠ 0 := by rw [h.root.1]; omega
  have e1 : ∀ L : List (Nat × List Nat), nA r L + nM r L ≤ L.length := by
    intro L
    induction L with
    | nil => exact Nat.le_refl _
    | cons a L ihL =>
      simp only [nA, nM, List.countP_cons, List.length_cons] at ihL ⊢
      cases h1 : ltw a.2 r
      · cases h2 : pfx r a.2 <;> simp <;> omega
      · rw [ltw_pfx h1]; simp; omega
  have hle := e1 (Tz z D 0)
  obtain ⟨p, hp⟩ := T_get (z := z) (D := D) (k := nA r (Tz z D 0)) (by omega)
  have hm : p ∈ Tz z D 0 := List.mem_of_getElem? hp
  have hsp := T_spl h 0 h0 r hr.2 _ p hp
  have hpf : pfx r p.2 = true := hsp.2.mpr ⟨by omega, by omega⟩
  have hlt : ltw p.2 r = false := by
    cases hq : ltw p.2 r
    · rfl
    · have := hsp.1.mp hq; omega
  have hk := (T_in h 0 h0 p.1 p.2 hm).1
  obtain ⟨w1, w2⟩ := rem_ok h hk
  have hnd := T_nodup h 0 h0
  refine ⟨p, hp, hk, w1, ?_, ?_⟩
  · have := cnt_rm (fun p => ltw p.2 r) hnd hm
    rw [nA, w2]
    simp only [hlt] at this
    exact this
  · have := cnt_rm (fun p => pfx r p.2) hnd hm
    rw [nM, w2]
    simp only [hpf, if_true] at this
    exact this
theorem ra_ok {D : Nat → Nat} {r : List Nat} (hr : okw r) : ∀ (n : Nat) (z : Sz), WF z D → WF (raF D r n z) D
  | 0, z, h => h
  | n + 1, z, h => by
    rw [raF]
    cases hq : (Tz z D 0)[nA r (Tz z D 0)]? with
    | none => exact h
    | some p =>
      have h0 : z.K 0 ≠ 0 := by rw [h.root.1]; omega
      have hm : p ∈ Tz z D 0 := List.mem_of_getElem? hq
      have hk := (T_in h 0 h0 p.1 p.2 hm).1
      exact ra_ok hr n _ (rem_ok h hk).1
/-- the class's loop -/
theorem t_removeAll {z : Sz} {D : Nat → Nat} {q : PS} (h : WF z D) (ht : Ht z (Wz z D) (qT q.1)) {r : List Nat} (hr : okw r) (hB : qB q.1 = lN (enc r)) {q1 : PS} (hs : fP_saveState q = some q1) (hT : qT q1.1 = qT q.1) (hB1 : qB q1.1 = qB q.1) :
    Gd (fun o => o.1 = nI (nM r (Tz z D 0)) ∧ ∃ t', o.2 = (sQT q1.1 t', q1.2) ∧ Ht (raF D r (nM r (Tz z D 0)) z) (Wz (raF D r (nM r (Tz z D 0)) z) D) t') (fP_removeAll q) := by
  have hlen := T0_len h
  have hle : nM r (Tz z D 0) ≤ 160 := by
    have : nM r (Tz z D 0) ≤ (Tz z D 0).length := List.countP_le_length
    omega
  have hAle : nA r (Tz z D 0) ≤ 160 := by
    have : nA r (Tz z D 0) ≤ (Tz z D 0).length := List.countP_le_length
    omega
  unfold fP_removeAll
  rw [hs]
  simp only [Option.bind_some]
  rw [hT, hB1, hB, t_wordsWith h ht hr]
  simp only [Option.bind_some]
  rw [t_wordsAhead h ht hr]
  simp only [Option.bind_some]
  refine gd_bind (P := fun o => ∃ t', o = (sQT q1.1 t', q1.2) ∧ Ht (raF D r (nM r (Tz z D 0)) z) (Wz (raF D r (nM r (Tz z D 0)) z) D) t') ?_ (fun a ha => gd_some ⟨rfl, ha⟩)
  refine gd_lp (fun k y => ∃ zk t', y = (nI k, (sQT q1.1 t', q1.2)) ∧ WF zk D ∧ Ht zk (Wz zk D) t' ∧ nA r (Tz zk D 0) = nA r (Tz z D 0) ∧ nM r (Tz zk D 0) + k = nM r (Tz z D 0) ∧ raF D r (nM r (Tz z D 0)) z = raF D r (nM r (Tz zk D 0)) zk) (nM r (Tz z D 0)) ⟨z, qT q.1, ?_, h, ht, rfl, rfl, rfl⟩ ?_ (by omega)
  · rw [← hT]; rfl
  · rintro k y hk ⟨zk, t', rfl, g1, g2, g3, g4, g5⟩
    try dsimp only
    by_cases e : k = nM r (Tz z D 0)
    · rw [if_pos (nI_le (by omega) (by omega))]
      refine gd_inl ⟨t', rfl, ?_⟩
      rw [g5, show nM r (Tz zk D 0) = 0 by omega]
      exact g2
    · rw [if_neg (nI_ge (by omega) (by omega))]
      obtain ⟨p, hp, hpk, w1, w2, w3⟩ := ra_step g1 hr (by omega : nM r (Tz zk D 0) ≠ 0)
      have hpo := T0_ok g1 (y := p.1) (u := p.2) (List.mem_of_getElem? hp)
      have hF := F_T g1 0 (by rw [g1.root.1]; omega) p.1 p.2 (List.mem_of_getElem? hp)
      have hp0 : p.1 ≠ 0 := by intro q; rw [q, g1.root.1] at hpk; omega
      rw [← g3, t_wordAt g1 g2 hp]
      simp only [Option.bind_some]
      rw [t_leafOf g1 g2 hpo.1, hF, nz_1 hp0]
      simp only [Option.bind_some]
      refine gd_bind (t_freeLeaf g1 g2 hpk) ?_
      rintro o ⟨o1, o2⟩
      rw [gw_let, nI_1]
      refine gd_inr (by omega) ⟨(remS zk p.1).2, o.2, rfl, w1, o2, by rw [w2, g3], by omega, ?_⟩
      rw [g5, show nM r (Tz zk D 0) = nM r (Tz (remS zk p.1).2 D 0) + 1 by omega, raF, hp]
/-- the model's loop -/
theorem z_removeAll {z : Sz} {D : Nat → Nat} {m : MS} (h : WF z D) {r : List Nat} (hr : okw r) {m1 : MS} (hs : fM_save (sMT m 0) = some m1) (hz : Mz z (mZ m1)) (hB : Rw (mBu m1) r) (hT : mTy m1 = nI r.length) :
    Gd (fun o => o.1 = nI (nM r (Tz z D 0)) ∧ ∃ f m2, o.2 = m2 ∧ Lz (sMZ m1 f) m2 ∧ Mz (raF D r (nM r (Tz z D 0)) z) f) (fM_removeAll m) := by
  have hle : nM r (Tz z D 0) ≤ 160 := by
    have : nM r (Tz z D 0) ≤ (Tz z D 0).length := List.countP_le_length
    have := T0_len h
    omega
  unfold fM_removeAll
  rw [gw_let, hs]
  simp only [Option.bind_some]
  refine gd_bind (z_leafBeginning h hz hr hB hT) ?_
  rintro ⟨o1, o2⟩ ⟨g1, g2⟩
  refine gd_bind (P := fun o => o.1 = nI (nM r (Tz z D 0)) ∧ ∃ f m2, o.2 = m2 ∧ Lz (sMZ m1 f) m2 ∧ Mz (raF D r (nM r (Tz z D 0)) z) f) ?_ (fun a ha => gd_some ha)
  refine gd_lp (fun k y => ∃ zk f m2 o, y = (nI k, o, m2) ∧ WF zk D ∧ Mz zk f ∧ Lz (sMZ m1 f) m2 ∧ nA r (Tz zk D 0) = nA r (Tz z D 0) ∧ nM r (Tz zk D 0) + k = nM r (Tz z D 0) ∧ raF D r (nM r (Tz z D 0)) z = raF D r (nM r (Tz zk D 0)) zk ∧ ((nM r (Tz zk D 0) = 0 ∧ o = -1) ∨ (nM r (Tz zk D 0) ≠ 0 ∧ ∃ p, (Tz zk D 0)[nA r (Tz zk D 0)]? = some p ∧ o = nI p.1))) (nM r (Tz z D 0)) ⟨z, mZ m1, o2, o1, rfl, h, hz, g1, rfl, rfl, rfl, g2⟩ ?_ (by omega)
  rintro k y hk ⟨zk, f, m2, o, rfl, h1, h2, h3, h4, h5, h6, h7⟩
  try dsimp only
  rcases h7 with ⟨h7, rfl⟩ | ⟨h7, p, hp, rfl⟩
  · rw [if_pos rfl]
    refine gd_inl ⟨by rw [show k = nM r (Tz z D 0) by omega], f, m2, rfl, h3, ?_⟩
    rw [h6, h7]; exact h2
  · obtain ⟨p', hp', hpk, w1, w2, w3⟩ := ra_step h1 hr h7
    have hpp : p' = p := by rw [hp] at hp'; exact (Option.some.inj hp').symm
    subst hpp
    have hpc := h1.lt (c := p'.1) (by omega)
    have hm2 : mZ m2 = f := h3.z
    rw [if_neg (nI_m1 (by omega))]
    refine gd_bind (z_removeLeaf h1 (t := m2) (by rw [hm2]; exact h2) hpk) ?_
    rintro q ⟨q1, f2, q2, q3⟩
    have hL2 : Lz (sMZ m1 f2) q.2 := by
      obtain ⟨a, b, c, d, rfl⟩ := h3
      exact ⟨a, b, c, d, q2⟩
    have hz2 : Mz (remS zk p'.1).2 (mZ q.2) := by rw [hL2.z]; exact q3
    refine gd_bind (z_leafBeginning w1 hz2 hr (by rw [hL2.bu]; exact hB) (by rw [hL2.ty]; exact hT)) ?_
    rintro v ⟨v1, v2⟩
    rw [nI_1]
    refine gd_inr (by omega) ⟨(remS zk p'.1).2, f2, v.2, v.1, rfl, w1, q3, hL2.trans v1, by rw [w2, h4], by omega, ?_, v2⟩
    rw [h6, show nM r (Tz zk D 0) = nM r (Tz (remS zk p'.1).2 D 0) + 1 by omega, raF, hp]
