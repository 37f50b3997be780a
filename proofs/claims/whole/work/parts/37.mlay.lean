/-! what holds of a result -/
def Gd {β : Type} (Q : β → Prop) (x : Option β) : Prop := ∃ b, x = some b ∧ Q b
theorem gd_some {β : Type} {Q : β → Prop} {b : β} (h : Q b) : Gd Q (some b) := ⟨b, rfl, h⟩
theorem gd_bind {α β : Type} {P : α → Prop} {Q : β → Prop} {x : Option α} {f : α → Option β} (h : Gd P x) (hf : ∀ a, P a → Gd Q (f a)) : Gd Q (x.bind f) := by
  obtain ⟨a, rfl, ha⟩ := h
  exact hf a ha
theorem gd_mono {β : Type} {P Q : β → Prop} {x : Option β} (h : Gd P x) (hf : ∀ a, P a → Q a) : Gd Q x := by
  obtain ⟨a, e, ha⟩ := h
  exact ⟨a, e, hf a ha⟩
theorem gd_eq {β : Type} {Q : β → Prop} {x : Option β} {b : β} (h : x = some b) (hq : Q b) : Gd Q x := ⟨b, h, hq⟩
def Sx {σ ω : Type} (I : Nat → σ → Prop) (Q : ω → Prop) (N k : Nat) : ω ⊕ σ → Prop
  | .inl o => Q o
  | .inr y => k < N ∧ I (k + 1) y
theorem gd_lp {σ ω : Type} {step : σ → Option (ω ⊕ σ)} {x : σ} {Q : ω → Prop} (I : Nat → σ → Prop) (N : Nat) (h0 : I 0 x) (hs : ∀ k y, k ≤ N → I k y → Gd (Sx I Q N k) (step y)) (hf : N < 100000) : Gd Q (gw_lp step gw_fl x) := by
  obtain ⟨o', h1, h2⟩ := lp_run (step := step) I Q N x h0 (by
    intro k y hk hy
    obtain ⟨r, h1, h2⟩ := hs k y hk hy
    cases r with
    | inl o => exact Or.inl ⟨o, h1, h2⟩
    | inr y' => exact Or.inr ⟨h2.1, y', h1, h2.2⟩) hf
  exact ⟨o', h1, h2⟩
theorem gd_inl {σ ω : Type} {I : Nat → σ → Prop} {Q : ω → Prop} {N k : Nat} {o : ω} (h : Q o) : Gd (Sx I Q N k) (some (.inl o)) := ⟨_, rfl, h⟩
theorem gd_inr {σ ω : Type} {I : Nat → σ → Prop} {Q : ω → Prop} {N k : Nat} {y : σ} (hk : k < N) (h : I (k + 1) y) : Gd (Sx I Q N k) (some (.inr y)) := ⟨_, rfl, hk, h⟩
theorem upd_eq (f : Nat → Int32) (k : Nat) (x : Int32) : upd f k x k = x := if_pos rfl
theorem upd_ne (f : Nat → Int32) {k j : Nat} (x : Int32) (h : j ≠ k) : upd f k x j = f j := if_neg h
theorem upd_nI (f : Nat → Int32) {k : Nat} (hk : k < 2147483648) (x : Int32) : upd f (nI k).toNatClampNeg x = upd f k x := by rw [nI_clamp' hk]
/-! the words below each cell are laid -/
def Wn (z : Sz) (D : Nat → Nat) (n c : Nat) : Nat := sm (fun y => if z.K y = 2 ∧ c ∈ chain z D y then 1 else 0) n
def Be (z : Sz) (D : Nat → Nat) (t : MS) : Prop := ∀ c, c < 160 → mBe t c = nI (Wz z D c)
theorem z_layBelow {z : Sz} {D : Nat → Nat} {t : MS} (h : WF z D) (hz : Mz z (mZ t)) : Gd (fun t' => ∃ f, t' = sMBe t f ∧ ∀ c, c < 160 → f c = nI (Wz z D c)) (fM_layBelow t) := by
  have hs := h.sml
  unfold fM_layBelow
  refine gd_bind (P := fun t' => ∃ f, t' = sMBe t f ∧ ∀ c, c < 160 → f c = nI 0) ?_ ?_
  · refine gd_lp (fun k y => ∃ f, y = (nI k, sMBe t f) ∧ ∀ c, c < k → f c = nI 0) 160 ⟨mBe t, rfl, fun c hc => absurd hc (by omega)⟩ ?_ (by omega)
    rintro k y hk ⟨f, rfl, h1⟩
    try dsimp only
    by_cases e : k = 160
    · subst e
      rw [if_pos (show (160 : Int32) ≤ nI 160 by decide)]
      exact gd_inl ⟨f, rfl, h1⟩
    · rw [if_neg (show ¬ (160 : Int32) ≤ nI k from nI_ge (b := 160) (by omega) (by omega)), if_pos (inb_nI (by omega) (by omega))]
      simp only [gw_let]
      rw [nI_1]
      refine gd_inr (by omega) ⟨upd f k 0, by rw [upd_nI _ (by omega)], ?_⟩
      intro c hc
      by_cases e2 : c = k
      · subst e2; rw [upd_eq]; rfl
      · rw [upd_ne _ _ e2]; exact h1 c (by omega)
  · rintro t1 ⟨f1, rfl, hf1⟩
    refine gd_bind (P := fun t' => ∃ f, t' = sMBe t f ∧ ∀ c, c < 160 → f c = nI (Wz z D c)) ?_ (fun a ha => gd_some ha)
    refine gd_lp (fun k y => ∃ f, y = (nI k, sMBe t f) ∧ ∀ c, c < 160 → f c = nI (Wn z D k c)) 160 ⟨f1, rfl, hf1⟩ ?_ (by omega)
    rintro k y hk ⟨f, rfl, h1⟩
    try dsimp only
    by_cases e : k = 160
    · subst e
      rw [if_pos (show (160 : Int32) ≤ nI 160 by decide)]
      exact gd_inl ⟨f, rfl, h1⟩
    · rw [if_neg (show ¬ (160 : Int32) ≤ nI k from nI_ge (b := 160) (by omega) (by omega)), z_isLeaf hs (t := sMBe t f) hz (by omega)]
      simp only [Option.bind_some]
      have hW : ∀ c, Wn z D (k + 1) c = Wn z D k c + if z.K k = 2 ∧ c ∈ chain z D k then 1 else 0 := fun c => rfl
      by_cases hl : z.K k = 2
      · rw [if_pos hl, if_neg (by decide)]
        have hk0 : z.K k ≠ 0 := by omega
        refine gd_bind (P := fun t' => ∃ f', t' = sMBe t f' ∧ ∀ c, c < 160 → f' c = nI (Wn z D (k + 1) c)) ?_ ?_
        · refine gd_lp (fun j y => ∃ g, (∃ c, y = (nI c, sMBe t g) ∧ z.K c ≠ 0 ∧ D c + j = D k ∧ (∀ a, a ∈ chain z D c → a ∈ chain z D k) ∧ ∀ a, a < 160 → g a = nI (Wn z D k a + if a ∈ chain z D k ∧ a ∉ chain z D c then 1 else 0)) ∨ (y = (-1, sMBe t g) ∧ ∀ a, a < 160 → g a = nI (Wn z D k a + if a ∈ chain z D k then 1 else 0))) 14 ⟨f, Or.inl ⟨k, rfl, hk0, rfl, fun a ha => ha, ?_⟩⟩ ?_ (by omega)
          · intro a ha
            rw [if_neg (fun b => b.2 b.1), Nat.add_zero]; exact h1 a ha
          · rintro j y hj ⟨g, ⟨c, rfl, g1, g2, g3, g4⟩ | ⟨rfl, g4⟩⟩
            · have hc := h.lt g1
              have hdk := h.dp hk0
              try dsimp only
              rw [if_neg (nI_m1 (by omega)), if_pos (inb_nI hc (by omega)), if_pos (inb_nI hc (by omega))]
              simp only [gw_let]
              rw [show (160 : Int32) = nI 160 by rfl, nI_add, if_pos (inb_nI (by omega) (by omega)), upd_nI _ (by omega), nI_clamp' (by omega), nI_clamp' (by omega)]
              show Gd _ (some (Sum.inr (mZ t (160 + c), sMBe t (upd g c (g c + 1)))))
              rw [hz.p c hc, g4 c hc, nI_1]
              refine gd_inr (by omega) ?_
              by_cases e0 : c = 0
              · subst e0
                rw [h.root.2.1, eI_0]
                refine ⟨_, Or.inr ⟨rfl, ?_⟩⟩
                intro a ha
                rw [chain_0 h] at g4 g3
                have m0 := g3 0 (List.mem_singleton.mpr rfl)
                by_cases e2 : a = 0
                · subst e2
                  rw [upd_eq, chain_0 h, if_neg (fun b => b.2 (List.mem_singleton.mpr rfl)), if_pos m0]
                · rw [upd_ne _ _ e2, g4 a ha]
                  by_cases e3 : a ∈ chain z D k
                  · rw [if_pos ⟨e3, fun b => e2 (List.mem_singleton.mp b)⟩, if_pos e3]
                  · rw [if_neg (fun b => e3 b.1), if_neg e3]
              · obtain ⟨p, l, q1, q2, q3, q4, q5, q6, q7, q8⟩ := h.par e0 g1
                rw [q1, eI_s]
                have hch := chain_s h e0 g1
                rw [q1, Nat.add_sub_cancel] at hch
                refine ⟨_, Or.inl ⟨p, rfl, by omega, by omega, fun a ha => g3 a (by rw [hch]; exact List.mem_cons_of_mem _ ha), ?_⟩⟩
                intro a ha
                by_cases e2 : a = c
                · subst e2
                  have n1 : a ∉ chain z D p := by
                    have := chain_nodup h a g1
                    rw [hch] at this
                    exact (List.nodup_cons.mp this).1
                  rw [upd_eq, if_neg (fun b => b.2 (chain_self a)), if_pos ⟨g3 a (chain_self a), n1⟩]
                · rw [upd_ne _ _ e2, g4 a ha, hch]
                  by_cases e3 : a ∈ chain z D k ∧ a ∉ chain z D p
                  · rw [if_pos e3, if_pos ⟨e3.1, fun b => (List.mem_cons.mp b).elim e2 e3.2⟩]
                  · rw [if_neg e3, if_neg (fun b => e3 ⟨b.1, fun m => b.2 (List.mem_cons_of_mem _ m)⟩)]
            · dsimp only
              rw [if_pos rfl]
              refine gd_inl ⟨g, rfl, ?_⟩
              intro a ha
              rw [g4 a ha, hW]
              by_cases e3 : a ∈ chain z D k
              · rw [if_pos e3, if_pos ⟨hl, e3⟩]
              · rw [if_neg e3, if_neg (fun b => e3 b.2)]
        · rintro t2 ⟨f', rfl, hf'⟩
          rw [nI_1]
          exact gd_inr (by omega) ⟨f', rfl, hf'⟩
      · rw [if_neg hl, if_pos rfl, nI_1]
        refine gd_inr (by omega) ⟨f, rfl, ?_⟩
        intro c hc
        rw [hW, if_neg (fun b => hl b.1), Nat.add_zero]; exact h1 c hc
/-! the word with a rank is laid -/
theorem hd0_app {v u : List Nat} (i : Nat) : hd0 ((v ++ u).drop (v.length + i)) = hd0 (u.drop i) := by
  rw [List.drop_append, List.drop_eq_nil_of_le (by omega), Nat.add_sub_cancel_left]; rfl
def Lz (t t' : MS) : Prop := ∃ f g a b, t' = sMWf (sMWl (sMWd (sMBe t f) g) a) b
theorem Lz.refl (t : MS) : Lz t t := ⟨mBe t, mWd t, mWl t, mWf t, rfl⟩
theorem Lz.z {t t' : MS} (h : Lz t t') : mZ t' = mZ t := by obtain ⟨f, g, a, b, rfl⟩ := h; rfl
theorem Lz.bu {t t' : MS} (h : Lz t t') : mBu t' = mBu t := by obtain ⟨f, g, a, b, rfl⟩ := h; rfl
theorem Lz.ty {t t' : MS} (h : Lz t t') : mTy t' = mTy t := by obtain ⟨f, g, a, b, rfl⟩ := h; rfl
theorem Lz.trans {t t' t'' : MS} (h : Lz t t') (h' : Lz t' t'') : Lz t t'' := by
  obtain ⟨f, g, a, b, rfl⟩ := h
  obtain ⟨f', g', a', b', rfl⟩ := h'
  exact ⟨f', g', a', b', rfl⟩
theorem Lz.wd {t t' : MS} (h : Lz t t') (x : Nat → Int32) : Lz t (sMWd t' x) := by
  obtain ⟨f, g, a, b, rfl⟩ := h
  exact ⟨f, x, a, b, rfl⟩
theorem Lz.wl {t t' : MS} (h : Lz t t') (x : Int32) : Lz t (sMWl t' x) := by
  obtain ⟨f, g, a, b, rfl⟩ := h
  exact ⟨f, g, x, b, rfl⟩
theorem Lz.wf {t t' : MS} (h : Lz t t') (x : Int32) : Lz t (sMWf t' x) := by
  obtain ⟨f, g, a, b, rfl⟩ := h
  exact ⟨f, g, a, x, rfl⟩
/-- a state in which the words below are laid -/
def Ly (z : Sz) (D : Nat → Nat) (t t' : MS) : Prop := Lz t t' ∧ Be z D t'
theorem Ly.wd {z : Sz} {D : Nat → Nat} {t t' : MS} (h : Ly z D t t') (x : Nat → Int32) : Ly z D t (sMWd t' x) := ⟨h.1.wd x, h.2⟩
theorem Ly.wl {z : Sz} {D : Nat → Nat} {t t' : MS} (h : Ly z D t t') (x : Int32) : Ly z D t (sMWl t' x) := ⟨h.1.wl x, h.2⟩
theorem Ly.wf {z : Sz} {D : Nat → Nat} {t t' : MS} (h : Ly z D t t') (x : Int32) : Ly z D t (sMWf t' x) := ⟨h.1.wf x, h.2⟩
/-- a state in which a word is laid -/
def Wy (z : Sz) (D : Nat → Nat) (t : MS) (p : Nat × List Nat) (t' : MS) : Prop := Ly z D t t' ∧ Rw (mWd t') p.2 ∧ mWl t' = nI p.2.length ∧ mWf t' = nI p.1
/-- the letter by which the word with a rank goes on -/
theorem z_pick {z : Sz} {D : Nat → Nat} {t : MS} (h : WF z D) (hz : Mz z (mZ t)) (hb : Be z D t) {c l s : Nat} (e1 : z.K c = 1) (q1 : l < 9) (hq2 : bef z D c l ≤ s) (hq3 : s < bef z D c (l + 1)) : Gd (fun o => o = (nI (s - bef z D c l), nI (ch z c l))) (gw_lp (σ := Int32 × Int32 × Int32) (ω := Int32 × Int32) (fun x5 =>
    if (9 : Int32) ≤ x5.2.2 then
     some (.inl (x5.1, x5.2.1))
    else
     if x5.2.1 = (-1 : Int32) then
      (fM_child (nI c) x5.2.2 t).bind fun q8 =>
      gw_let (α := Unit → Option ((Int32 × Int32) ⊕ Int32 × Int32 × Int32)) (fun v9 =>
       gw_let (α := Int32 → Option ((Int32 × Int32) ⊕ Int32 × Int32 × Int32)) (fun v13 =>
        gw_let (x5.1 - v13) fun v16 =>
        some (.inr (v16, x5.2.1, (x5.2.2 + (1 : Int32))))
       ) fun j13 =>
       if q8 = (-1 : Int32) then
        j13 (0 : Int32)
       else
        if inb q8 160 then
        j13 (mBe t q8.toNatClampNeg)
        else none
      ) fun j9 =>
      if q8 = (-1 : Int32) then
       j9 ()
      else
       if inb q8 160 then
       if (mBe t q8.toNatClampNeg) ≤ x5.1 then
        j9 ()
       else
        some (.inr (x5.1, q8, (x5.2.2 + (1 : Int32))))
       else none
     else
      some (.inl (x5.1, x5.2.1))
   ) gw_fl (nI s, (-1 : Int32), (0 : Int32))) := by
  have hs := h.sml
  have hc := h.lt (c := c) (by omega)
  have hsb := bef_le h e1 (show l + 1 ≤ 9 by omega)
  have hch : ch z c l ≠ 0 := by
    intro a
    have : bef z D c (l + 1) = bef z D c l + (Tc z D c l).length := rfl
    rw [Tc_len h, if_pos a] at this
    omega
  refine gd_lp (fun j w => (j ≤ l ∧ w = (nI (s - bef z D c j), -1, nI j)) ∨ (j = l + 1 ∧ w = (nI (s - bef z D c l), nI (ch z c l), nI j))) 10 (Or.inl ⟨by omega, rfl⟩) ?_ (by omega)
  rintro j w hj (⟨hjl, rfl⟩ | ⟨rfl, rfl⟩)
  · have hbj : bef z D c j ≤ s := Nat.le_trans (sm_mono (fun k => (Tc z D c k).length) hjl) hq2
    have hcj := ch_lt z c j
    have ej : bef z D c (j + 1) = bef z D c j + (Tc z D c j).length := rfl
    rw [Tc_len h] at ej
    try dsimp only
    rw [if_neg (show ¬ (9 : Int32) ≤ nI j from nI_ge (b := 9) (by omega) (by omega)), if_pos rfl, z_child hs hz hc (by omega)]
    simp only [Option.bind_some, gw_let]
    by_cases ec : ch z c j = 0
    · rw [if_pos ec] at ej ⊢
      rw [if_pos rfl, if_pos rfl, Int32.sub_zero, nI_1]
      have hjl2 : j ≠ l := by
        intro a; subst a; exact hch ec
      exact gd_inr (by omega) (Or.inl ⟨by omega, by rw [ej]; rfl⟩)
    · rw [if_neg ec] at ej ⊢
      rw [if_neg (nI_m1 (by omega)), if_pos (inb_nI hcj (by omega))]
      simp only [nI_clamp' (show ch z c j < 2147483648 by omega), hb _ hcj]
      by_cases ejl : j = l
      · subst ejl
        rw [if_neg (nI_ge (by omega) (by omega)), nI_1]
        exact gd_inr (by omega) (Or.inr ⟨rfl, rfl⟩)
      · have hb2 : bef z D c (j + 1) ≤ s := Nat.le_trans (sm_mono (fun k => (Tc z D c k).length) (show j + 1 ≤ l by omega)) hq2
        rw [if_pos (nI_le (by omega) (by omega)), if_neg (nI_m1 (by omega)), if_pos (inb_nI hcj (by omega)), nI_sub (by omega), nI_1]
        refine gd_inr (by omega) (Or.inl ⟨by omega, ?_⟩)
        rw [show s - bef z D c j - Wz z D (ch z c j) = s - bef z D c (j + 1) by omega]
  · try dsimp only
    by_cases e9 : l = 8
    · rw [if_pos (show (9 : Int32) ≤ nI (l + 1) by rw [e9]; decide)]
      exact gd_inl rfl
    · have hc2 := ch_lt z c l
      rw [if_neg (show ¬ (9 : Int32) ≤ nI (l + 1) from nI_ge (b := 9) (by omega) (by omega)), if_neg (nI_m1 (by omega))]
      exact gd_inl rfl
theorem z_layWord {z : Sz} {D : Nat → Nat} {t t1 : MS} (h : WF z D) (hz : Mz z (mZ t)) (hL : Ly z D t t1) {r : Nat} {p : Nat × List Nat} (hp : (Tz z D 0)[r]? = some p) :
    Gd (Wy z D t p) (fM_layWord (nI r) t1) := by
  have hs := h.sml
  have h0 : z.K 0 ≠ 0 := by rw [h.root.1]; omega
  have hpo := T0_ok h (y := p.1) (u := p.2) (List.mem_of_getElem? hp)
  have hl12 := hpo.1.1
  unfold fM_layWord
  refine gd_bind (P := fun o => ∃ v u t2, o = (nI p.1, t2) ∧ Ly z D t t2 ∧ mWl t2 = nI v.length ∧ z.K p.1 = 2 ∧ u = z.X (z.E p.1 - 1) ∧ p.2 = v ++ u ∧ ∀ i, i < v.length → mWd t2 i = nI (hd0 (p.2.drop i))) ?_ ?_
  · refine gd_lp (fun k y => ∃ c s v u t2, z.K c ≠ 0 ∧ D c = k ∧ y = (nI s, nI c, t2) ∧ Ly z D t t2 ∧ mWl t2 = nI v.length ∧ (Tz z D c)[s]? = some (p.1, u) ∧ p.2 = v ++ u ∧ ∀ i, i < v.length → mWd t2 i = nI (hd0 (p.2.drop i))) 13 ⟨0, r, [], p.2, sMWl t1 0, h0, h.root.2.2.2, rfl, hL.wl 0, rfl, hp, rfl, fun i hi => absurd hi (Nat.not_lt_zero i)⟩ ?_ (by omega)
    rintro k y hk ⟨c, s, v, u, t2, g1, g2, rfl, gL, gl, g3, g4, g5⟩
    have hz2 : Mz z (mZ t2) := by rw [gL.1.z]; exact hz
    have hc := h.lt g1
    have hlen : p.2.length = v.length + u.length := by rw [g4, List.length_append]
    try dsimp only
    rw [z_isLeaf hs hz2 hc]
    simp only [Option.bind_some]
    by_cases e : z.K c = 2
    · rw [if_pos e, if_neg (by decide)]
      rw [T_leaf h e] at g3
      have hm : (p.1, u) ∈ [(c, z.X (z.E c - 1))] := List.mem_of_getElem? g3
      rw [List.mem_singleton] at hm
      have m1 : p.1 = c := by injection hm
      have m2 : u = z.X (z.E c - 1) := by injection hm
      rw [← m1] at m2 e ⊢
      exact gd_inl ⟨v, u, t2, rfl, gL, gl, e, m2, g4, g5⟩
    · rw [if_neg e, if_pos rfl]
      have e1 : z.K c = 1 := by have := h.k12 g1; omega
      have hD := (h.inn e1).2.2.1
      rw [T_inner h e1] at g3
      obtain ⟨l, q1, q2, q3, q, q4, q5⟩ := gr_at g3
      have hch : ch z c l ≠ 0 := by
        intro a
        rw [Tc_0 a] at q4; simp at q4
      have e3 := h.chp hch
      have hc2 := ch_lt z c l
      refine gd_bind (z_pick h hz2 gL.2 e1 q1 q2 q3) ?_
      rintro o rfl
      try dsimp only
      rw [show (320 : Int32) = nI 320 by rfl, nI_add, if_pos (inb_nI (by omega) (by omega))]
      simp only [nI_clamp' (show 320 + ch z c l < 2147483648 by omega), hz2.b _ hc2, e3.2.2.1, eI_s]
      rw [Tc_1 hch] at q4
      have m1 : p.1 = q.1 := by injection q5
      have m2 : u = pre l q.2 := by injection q5
      by_cases el : l = 0
      · rw [if_pos (show nI l ≤ 0 by rw [el]; decide)]
        refine gd_inr (by omega) ⟨ch z c l, s - bef z D c l, v, q.2, t2, e3.1, by rw [e3.2.2.2.2.2.2.1, g2], rfl, gL, gl, by rw [m1]; exact q4, ?_, g5⟩
        rw [g4, m2, el]; rfl
      · have hu : u = l :: q.2 := by rw [m2, pre_s (by omega)]
        rw [hu, List.length_cons] at hlen
        rw [if_neg (nI_nle (by omega) (by omega)), if_pos (inb_nI (by omega) (by omega)), gl, if_pos (inb_nI (by omega) (by omega)), upd_nI _ (by omega)]
        simp only [gw_let]
        refine gd_inr (by omega) ⟨ch z c l, s - bef z D c l, v ++ [l], q.2, _, e3.1, by rw [e3.2.2.2.2.2.2.1, g2], rfl, (gL.wd _).wl _, ?_, by rw [m1]; exact q4, ?_, ?_⟩
        · show mWl t2 + 1 = _
          rw [gl, nI_1, List.length_append, List.length_singleton]
        · rw [g4, hu, List.append_assoc]; rfl
        · intro i hi
          rw [List.length_append, List.length_singleton] at hi
          show upd (mWd t2) v.length (nI l) i = _
          by_cases e5 : i = v.length
          · subst e5
            rw [upd_eq, g4, hu]
            have := hd0_app (v := v) (u := l :: q.2) 0
            rw [Nat.add_zero] at this
            rw [this]; rfl
          · rw [upd_ne _ _ e5]; exact g5 i (by omega)
  · rintro o ⟨v, u, t2, rfl, gL, gl, k1, k2, k3, k4⟩
    have hc := h.lt (c := p.1) (by omega)
    obtain ⟨-, e, he, h40, heu⟩ := h.leaf k1
    have hlen : p.2.length = v.length + u.length := by rw [k3, List.length_append]
    rw [he, Nat.add_sub_cancel] at k2
    simp only [gw_let]
    refine gd_bind (P := Wy z D t p) ?_ (fun a ha => gd_some ha)
    refine gd_lp (fun k y => k ≤ u.length ∧ ∃ t3, y = (nI k, t3) ∧ Ly z D t t3 ∧ mWl t3 = nI (v.length + k) ∧ mWf t3 = nI p.1 ∧ ∀ i, i < v.length + k → mWd t3 i = nI (hd0 (p.2.drop i))) u.length ⟨by omega, sMWf t2 (nI p.1), rfl, gL.wf _, gl, rfl, k4⟩ ?_ (by omega)
    rintro k y hk ⟨-, t3, rfl, gL3, gl3, gf3, g1⟩
    have hz3 : Mz z (mZ t3) := by rw [gL3.1.z]; exact hz
    try dsimp only
    rw [show (640 : Int32) = nI 640 by rfl, nI_add, if_pos (inb_nI (by omega) (by omega))]
    simp only [nI_clamp' (show 640 + p.1 < 2147483648 by omega), hz3.e _ hc, he, eI_s]
    rw [z_length hz3 h40]
    simp only [Option.bind_some]
    rw [← k2]
    by_cases ek : k = u.length
    · rw [if_pos (nI_le (by omega) (by omega))]
      refine gd_inl ⟨gL3, fun i hi => g1 i (by omega), ?_, gf3⟩
      rw [gl3, ek, hlen]
    · rw [if_neg (nI_ge (by omega) (by omega)), if_pos (inb_nI (by omega) (by omega)), z_letter hz3 h40 (by omega)]
      simp only [Option.bind_some]
      rw [gl3, if_pos (show inb (nI (v.length + k)) 13 from inb_nI (by omega) (by omega)), nI_1, upd_nI _ (by omega)]
      refine gd_inr (by omega) ⟨by omega, _, rfl, (gL3.wd _).wl _, ?_, gf3, ?_⟩
      · show nI (v.length + k) + 1 = _
        rw [nI_1, Nat.add_assoc]
      · intro i hi
        show upd (mWd t3) (v.length + k) _ i = _
        by_cases e5 : i = v.length + k
        · subst e5
          rw [upd_eq, k3, hd0_app, k2]
        · rw [upd_ne _ _ e5]; exact g1 i (by omega)
