/-! the digest, on both sides -/
def Pr {α β : Type} (C : α → β → Prop) (X : Option α) (Y : Option β) : Prop := ∃ a b, X = some a ∧ Y = some b ∧ C a b
theorem pr_some {α β : Type} {C : α → β → Prop} {a : α} {b : β} (h : C a b) : Pr C (some a) (some b) := ⟨a, b, rfl, rfl, h⟩
theorem pr_bind {α β α' β' : Type} {C : α → β → Prop} {C' : α' → β' → Prop} {X : Option α} {Y : Option β} {f : α → Option α'} {g : β → Option β'} (h : Pr C X Y) (k : ∀ a b, C a b → Pr C' (f a) (g b)) : Pr C' (X.bind f) (Y.bind g) := by
  obtain ⟨a, b, rfl, rfl, hc⟩ := h
  exact k a b hc
theorem pr_left {α α' β' : Type} {P : α → Prop} {C' : α' → β' → Prop} {X : Option α} {Y : Option β'} {f : α → Option α'} (h : Gd P X) (k : ∀ a, P a → Pr C' (f a) Y) : Pr C' (X.bind f) Y := by
  obtain ⟨a, rfl, hc⟩ := h
  exact k a hc
theorem pr_right {β α' β' : Type} {P : β → Prop} {C' : α' → β' → Prop} {X : Option α'} {Y : Option β} {g : β → Option β'} (h : Gd P Y) (k : ∀ a, P a → Pr C' X (g a)) : Pr C' X (Y.bind g) := by
  obtain ⟨a, rfl, hc⟩ := h
  exact k a hc
theorem pr_letL {α α' β' : Type} {C' : α' → β' → Prop} {x : α} {Y : Option β'} {f : α → Option α'} (h : Pr C' (f x) Y) : Pr C' (gw_let x f) Y := h
theorem pr_letR {α α' β' : Type} {C' : α' → β' → Prop} {x : α} {X : Option α'} {f : α → Option β'} (h : Pr C' X (f x)) : Pr C' X (gw_let x f) := h
theorem pr_tail {α β : Type} {C : α → β → Prop} {X : Option α} {Y : Option β} (h : Pr C X Y) : Pr C (X.bind fun v => some v) Y := by
  obtain ⟨a, b, rfl, rfl, hc⟩ := h
  exact ⟨a, b, rfl, rfl, hc⟩
theorem pr_seq {s1 : Int64 × Int32 → Option (Int64 ⊕ Int64 × Int32)} {s2 : Int32 × MS → Option (MS ⊕ Int32 × MS)} {C : Int64 → MS → Prop} {N : Nat} {a : Int64} {m : MS} (h0 : C a m)
    (hs : ∀ k, k < N → ∀ a m, C a m → Pr (fun x y => ∃ a' m', x = .inr (a', nI (k + 1)) ∧ y = .inr (nI (k + 1), m') ∧ C a' m') (s1 (a, nI k)) (s2 (nI k, m))) :
    ∀ j, j ≤ N → ∃ S : Nat → Int64 × MS, S 0 = (a, m) ∧ (∀ k, k ≤ j → C (S k).1 (S k).2) ∧ ∀ k, k < j → s1 ((S k).1, nI k) = some (.inr ((S (k + 1)).1, nI (k + 1))) ∧ s2 (nI k, (S k).2) = some (.inr (nI (k + 1), (S (k + 1)).2)) := by
  intro j
  induction j with
  | zero => exact fun _ => ⟨fun _ => (a, m), rfl, fun k _ => h0, fun k hk => absurd hk (Nat.not_lt_zero k)⟩
  | succ j ih =>
    intro hj
    obtain ⟨S, e0, e1, e2⟩ := ih (by omega)
    obtain ⟨x, y, f1, f2, a', m', g1, g2, g3⟩ := hs j (by omega) _ _ (e1 j (by omega))
    refine ⟨fun k => if k ≤ j then S k else (a', m'), ?_, fun k hk => ?_, fun k hk => ?_⟩
    · show (if 0 ≤ j then S 0 else (a', m')) = _
      rw [if_pos (by omega)]; exact e0
    · show C (if k ≤ j then S k else (a', m')).1 (if k ≤ j then S k else (a', m')).2
      by_cases ek : k ≤ j
      · rw [if_pos ek]; exact e1 k ek
      · rw [if_neg ek]; exact g3
    · show s1 ((if k ≤ j then S k else (a', m')).1, nI k) = some (.inr ((if k + 1 ≤ j then S (k + 1) else (a', m')).1, nI (k + 1))) ∧ s2 (nI k, (if k ≤ j then S k else (a', m')).2) = some (.inr (nI (k + 1), (if k + 1 ≤ j then S (k + 1) else (a', m')).2))
      rw [if_pos (show k ≤ j by omega)]
      by_cases ek : k = j
      · rw [if_neg (show ¬ k + 1 ≤ j by omega), ek, f1, f2, g1, g2]
        exact ⟨rfl, rfl⟩
      · rw [if_pos (show k + 1 ≤ j by omega)]
        exact e2 k (by omega)
theorem pr_lp {s1 : Int64 × Int32 → Option (Int64 ⊕ Int64 × Int32)} {s2 : Int32 × MS → Option (MS ⊕ Int32 × MS)} {C : Int64 → MS → Prop} (N : Nat) {a : Int64} {m : MS} (h0 : C a m)
    (hs : ∀ k, k < N → ∀ a m, C a m → Pr (fun x y => ∃ a' m', x = .inr (a', nI (k + 1)) ∧ y = .inr (nI (k + 1), m') ∧ C a' m') (s1 (a, nI k)) (s2 (nI k, m)))
    (hE : ∀ a m, C a m → s1 (a, nI N) = some (.inl a) ∧ s2 (nI N, m) = some (.inl m)) (hN : N < 100000) : Pr C (gw_lp s1 gw_fl (a, 0)) (gw_lp s2 gw_fl (0, m)) := by
  obtain ⟨S, e0, e1, e2⟩ := pr_seq h0 hs N (Nat.le_refl N)
  have hn := hE _ _ (e1 N (Nat.le_refl N))
  refine ⟨(S N).1, (S N).2, ?_, ?_, e1 N (Nat.le_refl N)⟩
  · exact lp_eq (S := fun k => ((S k).1, nI k)) (N := N) (o := (S N).1) (by rw [e0]; rfl) (fun k hk => (e2 k hk).1) hn.1 hN
  · exact lp_eq (S := fun k => (nI k, (S k).2)) (N := N) (o := (S N).2) (by rw [e0]; rfl) (fun k hk => (e2 k hk).2) hn.2 hN
theorem pr_step {k : Nat} {C : Int64 → MS → Prop} {a : Int64} {m : MS} (h : C a m) : Pr (fun (x : Int64 ⊕ Int64 × Int32) (y : MS ⊕ Int32 × MS) => ∃ a' m', x = .inr (a', nI (k + 1)) ∧ y = .inr (nI (k + 1), m') ∧ C a' m') (some (.inr (a, nI k + 1))) (some (.inr (nI k + 1, m))) := by
  rw [nI_1]
  exact pr_some ⟨a, m, rfl, rfl, h⟩
/-- the digest so far -/
def Cz (m0 : MS) (z : Sz) (h : Int64) (m : MS) : Prop := mH m = h ∧ mT m = mT m0 ∧ mSv m = mSv m0 ∧ mSm m = mSm m0 ∧ mBu m = mBu m0 ∧ mTy m = mTy m0 ∧ Mz z (mZ m)
theorem Cz.bz {m0 m m' : MS} {z : Sz} {h : Int64} (c : Cz m0 z h m) (b : Bz m m') (hz : Mz z (mZ m')) : Cz m0 z h m' :=
  ⟨b.2.2.2.2.2.trans c.1, b.1.trans c.2.1, b.2.1.trans c.2.2.1, b.2.2.1.trans c.2.2.2.1, b.2.2.2.1.trans c.2.2.2.2.1, b.2.2.2.2.1.trans c.2.2.2.2.2.1, hz⟩
theorem Cz.lz {m0 m m' : MS} {z : Sz} {h : Int64} (c : Cz m0 z h m) (b : Lz m m') : Cz m0 z h m' := c.bz b.bz (by rw [b.z]; exact c.2.2.2.2.2.2)
theorem Cz.mix {m0 m : MS} {z : Sz} {h x y : Int64} (c : Cz m0 z h m) (e : y = x) : Cz m0 z (fP_mix h x) (fM_mix y m) := by
  obtain ⟨c1, c2, c3, c4, c5, c6, c7⟩ := c
  refine ⟨?_, c2, c3, c4, c5, c6, c7⟩
  show (31 : Int64) * mH m + y = (31 : Int64) * h + x
  rw [c1, e]
theorem Cz.mz {m0 m : MS} {z : Sz} {h : Int64} (c : Cz m0 z h m) : Mz z (mZ m) := c.2.2.2.2.2.2
theorem Cz.rq {m0 m : MS} {z : Sz} {h : Int64} {D : Nat → Nat} {w : List Nat} {n : Nat} {q : QS} (c : Cz m0 z h m) (r : Rq z D w n q m0) : Rq z D w n q m := by
  obtain ⟨h1, h2, h3, h4, h5, h6, h7, h8, h9, h10, h11⟩ := r
  exact ⟨h1, h2, c.mz, h4, h5, h6, by rw [c.2.2.2.2.1]; exact h7, by rw [c.2.2.2.2.2.1]; exact h8, h9, by rw [c.2.2.2.1]; exact h10, h11⟩
theorem pr_mixCells {z : Sz} {D : Nat → Nat} {w : List Nat} {n : Nat} {q : QS} {m0 : MS} (r : Rq z D w n q m0) {a : Int64} {m : MS} (c : Cz m0 z a m) : ∃ a5 a6 m', fP_mixCells a q = some a5 ∧ fP_mixEnds a5 q = some a6 ∧ fM_mixTable m = some m' ∧ Cz m0 z a6 m' := by
  obtain ⟨h1, h2, _, _, _, _, _, _, _, _, _⟩ := r
  have hsm := h1.sml
  have key : Pr (Cz m0 z) ((fP_mixCells a q).bind fun q5 => fP_mixEnds q5 q) (fM_mixTable m) := by
    unfold fP_mixCells fM_mixTable
    refine pr_bind (C := Cz m0 z) (pr_tail (pr_lp 160 c ?_ ?_ (by omega))) ?_
    · intro k hk a m c
      try dsimp only
      rw [if_neg (show ¬ (160 : Int32) ≤ nI k from nI_ge (b := 160) (by omega) (by omega)), if_neg (show ¬ (160 : Int32) ≤ nI k from nI_ge (b := 160) (by omega) (by omega)), t_property h2 hk, show tell z D k 0 = nI (z.K k) from if_pos rfl]
      rw [z_isUsed hsm c.mz hk]
      simp only [Option.bind_some]
      by_cases e : z.K k = 0
      · rw [if_pos (show nI (z.K k) = 0 by rw [e]; rfl), if_pos (show (if z.K k = 0 then (0 : Int32) else 1) = 0 from if_pos e)]
        exact pr_step c
      · have := hsm.k k
        rw [if_neg (nI_ne0 (by omega) (by omega)), if_neg (show ¬ (if z.K k = 0 then (0 : Int32) else 1) = 0 by rw [if_neg e]; decide)]
        refine pr_letL ?_
        refine pr_letR ?_
        refine pr_bind (C := Cz m0 z) (pr_lp 7 (c.mix rfl) ?_ ?_ (by omega)) (fun a m c => pr_step c)
        · intro i hi a m c
          try dsimp only
          rw [if_neg (show ¬ (6 : Int32) < nI i from fun b => by rw [show (6 : Int32) = nI 6 from rfl, nI_lt_iff (by omega) (by omega)] at b; omega), if_neg (show ¬ (6 : Int32) < nI i from fun b => by rw [show (6 : Int32) = nI 6 from rfl, nI_lt_iff (by omega) (by omega)] at b; omega), t_property h2 hk]
          refine pr_letL ?_
          refine pr_right (z_toldCell h1 c.mz hk (nI i)) ?_
          rintro o ⟨o1, o2⟩
          refine pr_letR ?_
          exact pr_step ((c.lz o2).mix (by rw [o1]))
        · intro a m c
          exact ⟨if_pos (show (6 : Int32) < nI 7 by decide), if_pos (show (6 : Int32) < nI 7 by decide)⟩
    · intro a m c
      exact ⟨if_pos (show (160 : Int32) ≤ nI 160 by decide), if_pos (show (160 : Int32) ≤ nI 160 by decide)⟩
    · intro a m c
      unfold fP_mixEnds
      refine pr_tail ?_
      obtain ⟨a', m', e1, e2, e3⟩ : Pr (Cz m0 z) (gw_lp (σ := Int64 × Int32) (ω := Int64) (fun x1 =>
  if (40 : Int32) ≤ x1.2 then
   some (.inl x1.1)
  else
   gw_let (fE_usesOf x1.2 (tN (qT q))) fun v3 =>
   if v3 ≤ 0 then
    some (.inr (x1.1, (x1.2 + (1 : Int32))))
   else
    (fE_textAt x1.2 (tN (qT q))).bind fun q5 =>
    (fX_lengthOf q5).bind fun q6 =>
    gw_let (fP_mix (fP_mix (fP_mix x1.1 x1.2.toInt64) v3.toInt64) q6.toInt64) fun q7 =>
    (gw_lp (σ := Int64 × Int32) (ω := Int64) (fun x8 =>
     if q6 ≤ x8.2 then
      some (.inl x8.1)
     else
      gw_let (fP_mix x8.1 ((fX_letterAt q5 x8.2).toInt64)) fun v10 =>
      some (.inr (v10, (x8.2 + (1 : Int32))))
    ) gw_fl (q7, (0 : Int32))).bind fun v8 =>
    some (.inr (v8, (x1.2 + (1 : Int32))))
 ) gw_fl (a, (0 : Int32))) (gw_lp (σ := Int32 × MS) (ω := MS) (fun x10 =>
  if (40 : Int32) ≤ x10.1 then
   some (.inl x10.2)
  else
   (fM_usersOf x10.1 x10.2).bind fun q12 =>
   if q12 ≤ 0 then
    some (.inr ((x10.1 + (1 : Int32)), x10.2))
   else
    gw_let (fM_mix x10.1.toInt64 x10.2) fun q14 =>
    (fM_toldEnd x10.1 (0 : Int32) q14).bind fun q15 =>
    gw_let (fM_mix q15.toInt64 q14) fun q16 =>
    (fM_toldEnd x10.1 (1 : Int32) q16).bind fun q17 =>
    gw_let (fM_mix q17.toInt64 q16) fun q18 =>
    (gw_lp (σ := Int32 × MS) (ω := MS) (fun x19 =>
     (fM_lengthOf x10.1 x19.2).bind fun q20 =>
     if q20 ≤ x19.1 then
      some (.inl x19.2)
     else
      (fM_letterOf x10.1 x19.1 x19.2).bind fun q22 =>
      gw_let (fM_mix q22.toInt64 x19.2) fun q23 =>
      some (.inr ((x19.1 + (1 : Int32)), q23))
    ) gw_fl ((0 : Int32), q18)).bind fun v19 =>
    some (.inr ((x10.1 + (1 : Int32)), v19))
 ) gw_fl ((0 : Int32), m)) := by
        refine pr_lp 40 c ?_ ?_ (by omega)
        · intro k hk a m c
          have hsu := hsm.u k
          have hx := hsm.x k
          have hx12 := hx.1
          have hu : fE_usesOf (nI k) (tN (qT q)) = nI (z.U k) := by
            unfold fE_usesOf
            rw [J_at_n _ (by omega) (by omega)]; exact h2.u (by omega)
          have htx : fE_textAt (nI k) (tN (qT q)) = some (lN (enc (z.X k))) := by
            unfold fE_textAt
            rw [gw_let, if_neg (nI_lt0 (by omega)), if_neg (show ¬ (40 : Int32) ≤ nI k from nI_ge (b := 40) (by omega) (by omega)), if_pos (inb_nI (by omega) (by omega)), nI_clamp' (by omega), h2.x (by omega)]
          try dsimp only
          rw [if_neg (show ¬ (40 : Int32) ≤ nI k from nI_ge (b := 40) (by omega) (by omega)), if_neg (show ¬ (40 : Int32) ≤ nI k from nI_ge (b := 40) (by omega) (by omega))]
          refine pr_letL ?_
          rw [hu]
          refine pr_right (P := fun o => o = nI (z.U k)) ⟨_, z_users c.mz hk, rfl⟩ ?_
          rintro o rfl
          by_cases e : z.U k = 0
          · rw [if_pos (show nI (z.U k) ≤ 0 by rw [e]; decide), if_pos (show nI (z.U k) ≤ 0 by rw [e]; decide)]
            exact pr_step c
          · rw [if_neg (show ¬ nI (z.U k) ≤ 0 from nI_nle (by omega) (by omega)), if_neg (show ¬ nI (z.U k) ≤ 0 from nI_nle (by omega) (by omega))]
            refine pr_left (P := fun o => o = lN (enc (z.X k))) ⟨_, htx, rfl⟩ ?_
            rintro o rfl
            refine pr_left (P := fun o => o = nI (z.X k).length) ⟨_, t_lengthOf hx, rfl⟩ ?_
            rintro o rfl
            refine pr_letL ?_
            refine pr_letR ?_
            have c1 : Cz m0 z (fP_mix a (nI k).toInt64) (fM_mix (nI k).toInt64 m) := c.mix rfl
            refine pr_right (P := fun o => o = nI (z.U k)) ⟨_, by rw [z_toldEnd hsm c1.mz hk, if_pos rfl], rfl⟩ ?_
            rintro o rfl
            refine pr_letR ?_
            have c2 := c1.mix (x := (nI (z.U k)).toInt64) rfl
            refine pr_right (P := fun o => o = nI (z.X k).length) ⟨_, by rw [z_toldEnd hsm c2.mz hk, if_neg (show ¬ (1 : Int32) = 0 by decide), if_neg e], rfl⟩ ?_
            rintro o rfl
            refine pr_letR ?_
            have c3 := c2.mix (x := (nI (z.X k).length).toInt64) rfl
            refine pr_bind (C := Cz m0 z) (pr_lp (z.X k).length c3 ?_ ?_ (by omega)) (fun a m c => pr_step c)
            · intro i hi a m c
              try dsimp only
              rw [if_neg (show ¬ nI (z.X k).length ≤ nI i from nI_ge (by omega) (by omega)), letterAt_e hx (by omega)]
              refine pr_letL ?_
              refine pr_right (P := fun o => o = nI (z.X k).length) ⟨_, z_length c.mz hk, rfl⟩ ?_
              rintro o rfl
              rw [if_neg (show ¬ nI (z.X k).length ≤ nI i from nI_ge (by omega) (by omega))]
              refine pr_right (P := fun o => o = nI (hd0 ((z.X k).drop i))) ⟨_, z_letter c.mz hk (by omega), rfl⟩ ?_
              rintro o rfl
              refine pr_letR ?_
              exact pr_step (c.mix rfl)
            · intro a m c
              refine ⟨if_pos (nI_le (by omega) (by omega)), ?_⟩
              rw [z_length c.mz hk]
              simp only [Option.bind_some]
              exact if_pos (nI_le (by omega) (by omega))
        · intro a m c
          exact ⟨if_pos (show (40 : Int32) ≤ nI 40 by decide), if_pos (show (40 : Int32) ≤ nI 40 by decide)⟩
      refine ⟨a', m', e1, ?_, e3⟩
      rw [e2]
      rfl
  obtain ⟨a6, m', e1, e2, e3⟩ := key
  cases e5 : fP_mixCells a q with
  | none => rw [e5] at e1; cases e1
  | some a5 =>
    rw [e5] at e1
    exact ⟨a5, a6, m', rfl, e1, e2, e3⟩
theorem lf_nil {z : Sz} {D : Nat → Nat} (h : WF z D) {w : List Nat} : (if w = [] then (-1 : Int32) else nz (Fz z D 0 w)) = nz (Fz z D 0 w) := by
  by_cases e : w = []
  · subst e
    have : Fz z D 0 [] = 0 := by rw [F_inner h h.root.1, show hd0 [] = 0 from rfl, h.ch00, if_pos rfl]
    rw [if_pos rfl, this]; rfl
  · rw [if_neg e]
theorem pr_digest {z : Sz} {D : Nat → Nat} {w : List Nat} {n : Nat} {q : QS} {m : MS} (hq : Rq z D w n q m) : Pr (fun (o1 : Int64 × QS) (o2 : Int64 × MS) => o1.1 = o2.1 ∧ (∃ r, o1.2 = sQR q r) ∧ Cz (sMT m 0) z o2.1 o2.2) (fP_digest q) (fM_digest m) := by
  have r : Rq z D w n q (sMT m 0) := hq
  generalize hm0 : sMT m 0 = m0 at r
  have hc := hq
  obtain ⟨h1, h2, h3, h4, h5, h6, h7, h8, h9, h10, h11⟩ := hq
  have hsm := h1.sml
  have hw12 := h4.1
  obtain ⟨u1, u2, u3⟩ := usd_1 h1
  have c0 : Cz m0 z 2801 (sMH m0 2801) := ⟨rfl, rfl, rfl, rfl, rfl, rfl, by rw [← hm0]; exact h3⟩
  unfold fP_digest fM_digest
  rw [hm0]
  refine pr_letR ?_
  refine pr_letR ?_
  refine pr_bind (C := Cz m0 z) (pr_lp 10 c0 ?_ ?_ (by omega)) ?_
  · intro k hk a m c
    try dsimp only
    rw [if_neg (show ¬ (9 : Int32) < nI k from fun b => by rw [show (9 : Int32) = nI 9 from rfl, nI_lt_iff (by omega) (by omega)] at b; omega), if_neg (show ¬ (9 : Int32) < nI k from fun b => by rw [show (9 : Int32) = nI 9 from rfl, nI_lt_iff (by omega) (by omega)] at b; omega)]
    obtain ⟨v, v1, v2⟩ := s_count (c.rq r) hk
    refine pr_left (P := fun o => o = v) ⟨v, by rw [v1]; rfl, rfl⟩ ?_
    rintro o rfl
    refine pr_letL ?_
    refine pr_right v2 ?_
    rintro o2 ⟨o3, o4⟩
    refine pr_letR ?_
    exact pr_step ((c.lz o4).mix (by rw [o3]))
  · intro a m c
    exact ⟨if_pos (show (9 : Int32) < nI 10 by decide), if_pos (show (9 : Int32) < nI 10 by decide)⟩
  intro a m c
  obtain ⟨a5, a6, m6, e1, e2, e3, c6⟩ := pr_mixCells r c
  refine pr_left (P := fun o => o = a5) ⟨_, e1, rfl⟩ ?_
  rintro o rfl
  refine pr_left (P := fun o => o = a6) ⟨_, e2, rfl⟩ ?_
  rintro o rfl
  refine pr_right (P := fun o => o = m6) ⟨_, e3, rfl⟩ ?_
  rintro o rfl
  clear e1 e2 e3 c
  have hlf : fP_find q = some (nz (Fz z D 0 w)) := by
    unfold fP_find
    rw [h5, t_leafOf h1 h2 h4]
    rfl
  refine pr_left (P := fun o => o = nz (Fz z D 0 w)) ⟨_, hlf, rfl⟩ ?_
  rintro o rfl
  obtain ⟨_, _, _, _, _, _, g7, g8, _, _, _⟩ := c6.rq r
  refine pr_right (P := fun o => o = nz (Fz z D 0 w)) ⟨_, by rw [g8, z_leafOf h1 c6.mz h4 g7, lf_nil h1], rfl⟩ ?_
  rintro o rfl
  refine pr_letL ?_
  refine pr_letR ?_
  replace c6 := c6.mix (x := (nz (Fz z D 0 w)).toInt64) rfl
  obtain ⟨_, _, _, _, _, _, g7, g8, _, _, _⟩ := c6.rq r
  refine pr_left (P := fun o => o = eI (lgs w (Tz z D 0) 0)) ⟨_, (by unfold fP_longest; rw [h5, t_longest h1 h2 h4]; rfl), rfl⟩ ?_
  rintro o rfl
  refine pr_letL ?_
  refine pr_right (z_longest h1 c6.mz h4 g7 g8) ?_
  rintro ⟨o1, m7⟩ ⟨rfl, o2⟩
  refine pr_letR ?_
  have c7 := (c6.lz o2).mix (x := (eI (lgs w (Tz z D 0) 0)).toInt64) rfl
  clear c6 g7 g8 o2
  obtain ⟨_, _, _, _, _, _, g7, g8, _, _, _⟩ := c7.rq r
  refine pr_left (P := fun o => o = nI (nM w (Tz z D 0))) ⟨_, (by unfold fP_beginning; rw [h5, t_wordsWith h1 h2 h4]; rfl), rfl⟩ ?_
  rintro o rfl
  refine pr_letL ?_
  refine pr_right (z_beginning h1 c7.mz h4 g7 g8) ?_
  rintro ⟨o1, m8⟩ ⟨rfl, o2⟩
  refine pr_letR ?_
  have c8 := (c7.lz o2).mix (x := (nI (nM w (Tz z D 0))).toInt64) rfl
  clear c7 g7 g8 o2
  obtain ⟨_, _, _, _, _, _, g7, g8, _, _, _⟩ := c8.rq r
  refine pr_left (P := fun o => o = nI (nA w (Tz z D 0))) ⟨_, (by unfold fP_ahead; rw [h5, t_wordsAhead h1 h2 h4]; rfl), rfl⟩ ?_
  rintro o rfl
  refine pr_letL ?_
  refine pr_right (z_ahead h1 c8.mz h4 g7 g8) ?_
  rintro ⟨o1, m9⟩ ⟨rfl, o2⟩
  refine pr_letR ?_
  have c9 := (c8.lz o2).mix (x := (nI (nA w (Tz z D 0))).toInt64) rfl
  clear c8 g7 g8 o2
  refine pr_bind (C := Cz m0 z) (pr_lp 3 c9 ?_ ?_ (by omega)) ?_
  · intro k hk a m c
    try dsimp only
    rw [if_neg (show ¬ (2 : Int32) < nI k from fun b => by rw [show (2 : Int32) = nI 2 from rfl, nI_lt_iff (by omega) (by omega)] at b; omega), if_neg (show ¬ (2 : Int32) < nI k from fun b => by rw [show (2 : Int32) = nI 2 from rfl, nI_lt_iff (by omega) (by omega)] at b; omega)]
    refine pr_bind (C := Cz m0 z) (pr_lp 13 c ?_ ?_ (by omega)) (fun a m c => pr_step c)
    · intro i hi a m c
      try dsimp only
      rw [if_neg (show ¬ (12 : Int32) < nI i from fun b => by rw [show (12 : Int32) = nI 12 from rfl, nI_lt_iff (by omega) (by omega)] at b; omega), if_neg (show ¬ (12 : Int32) < nI i from fun b => by rw [show (12 : Int32) = nI 12 from rfl, nI_lt_iff (by omega) (by omega)] at b; omega)]
      obtain ⟨v, v1, v2⟩ := s_word (c.rq r) (r := nI k) (i32_le.mpr (nI_lt0 (by omega))) (a := i) (by omega)
      refine pr_left (P := fun o => o = v) ⟨v, by rw [v1]; rfl, rfl⟩ ?_
      rintro o rfl
      refine pr_letL ?_
      refine pr_right v2 ?_
      rintro o2 ⟨o3, o4⟩
      refine pr_letR ?_
      exact pr_step ((c.lz o4).mix (by rw [o3]))
    · intro a m c
      exact ⟨if_pos (show (12 : Int32) < nI 13 by decide), if_pos (show (12 : Int32) < nI 13 by decide)⟩
  · intro a m c
    exact ⟨if_pos (show (2 : Int32) < nI 3 by decide), if_pos (show (2 : Int32) < nI 3 by decide)⟩
  clear c9
  intro a m c
  refine pr_left (t_how hc) ?_
  rintro ⟨t1, t2⟩ ⟨⟨rr, rfl⟩, t3, t4⟩
  try dsimp only at t3 t4 ⊢
  refine pr_bind (C := Cz m0 z) (pr_lp 4 c ?_ ?_ (by omega)) ?_
  · intro k hk a m c
    try dsimp only
    rw [if_neg (show ¬ (3 : Int32) < nI k from fun b => by rw [show (3 : Int32) = nI 3 from rfl, nI_lt_iff (by omega) (by omega)] at b; omega), if_neg (show ¬ (3 : Int32) < nI k from fun b => by rw [show (3 : Int32) = nI 3 from rfl, nI_lt_iff (by omega) (by omega)] at b; omega)]
    refine pr_left (P := fun o => o = cost z D w k) ⟨_, t4 k hk, rfl⟩ ?_
    rintro o rfl
    refine pr_letL ?_
    refine pr_right (z_wouldAdd (c.rq r) hk) ?_
    rintro o2 ⟨o3, o4, o5⟩
    refine pr_letR ?_
    exact pr_step ((c.bz o4 o5).mix (by rw [o3]))
  · intro a m c
    exact ⟨if_pos (show (3 : Int32) < nI 4 by decide), if_pos (show (3 : Int32) < nI 4 by decide)⟩
  clear c
  intro a m c
  refine pr_left (t_packV h1 h2) ?_
  rintro ⟨p1, p2⟩ p3
  try dsimp only at p3 ⊢
  refine pr_right (z_wouldPack h1 c.mz) ?_
  rintro ⟨o1, m2⟩ ⟨o2, o3, o4⟩
  try dsimp only at o2 o3 o4 ⊢
  refine pr_letL ?_
  refine pr_letL ?_
  refine pr_letR ?_
  have c2 := (c.bz o3 o4).mix (x := p1.toInt64) (y := o1.toInt64) (by rw [o2, p3])
  clear c o3 o4
  generalize fM_mix o1.toInt64 m2 = m3 at *
  obtain ⟨x1, x2⟩ := s_full h1 (m := m3) h2 c2.mz (sQR q p2) rfl
  obtain ⟨b, b1, b2⟩ := fp_bits u3 u1 u2
  refine pr_left (P := fun o => o = fpv (usd z) (gst z 160)) ⟨_, x1, rfl⟩ ?_
  rintro o rfl
  refine pr_left (P := fun o => o = b) ⟨_, b1, rfl⟩ ?_
  rintro o rfl
  refine pr_letL ?_
  refine pr_right (P := fun o => o = fpv (usd z) (gst z 160)) ⟨_, x2, rfl⟩ ?_
  rintro o rfl
  refine pr_right (P := fun o' => o' = o) ⟨_, b2, rfl⟩ ?_
  rintro o' rfl
  refine pr_letR ?_
  refine pr_bind (C := Cz m0 z) (pr_lp w.length (c2.mix rfl) ?_ ?_ (by omega)) ?_
  · intro k hk a m c
    obtain ⟨_, _, _, _, _, _, g7, g8, _, _, _⟩ := c.rq r
    try dsimp only
    have e1 : qL q = nI w.length := h6
    have e2 : qB q = lN (enc w) := h5
    rw [e1, e2, g8, if_neg (show ¬ nI w.length ≤ nI k from nI_ge (by omega) (by omega)), if_neg (show ¬ nI w.length ≤ nI k from nI_ge (by omega) (by omega)), letterAt_e h4 (by omega), if_pos (inb_nI (by omega) (by omega))]
    refine pr_letL ?_
    refine pr_letR ?_
    exact pr_step (c.mix (by rw [rw_at g7 hk (by omega)]))
  · intro a m c
    obtain ⟨_, _, _, _, _, _, g7, g8, _, _, _⟩ := c.rq r
    refine ⟨if_pos ?_, if_pos ?_⟩
    · show qL q ≤ nI w.length
      rw [h6]; exact nI_le (by omega) (by omega)
    · show mTy m ≤ nI w.length
      rw [g8]; exact nI_le (by omega) (by omega)
  intro a m c
  exact pr_some ⟨c.1.symm, ⟨p2, rfl⟩, by rw [c.1]; exact c⟩
theorem s_digest {q : PS} {m : MS} (h : Rl q m) : ∃ b m' t', fM_digest m = some (b, m') ∧ fP_digest q.1 = some (b, t') ∧ mT m' = 0 ∧ Rl (t', q.2) m' := by
  obtain ⟨z, D, w, n, hq, hs⟩ := h
  obtain ⟨o1, o2, e1, e2, e3, ⟨r, e4⟩, c⟩ := pr_digest hq
  refine ⟨o2.1, o2.2, o1.2, e2, by rw [e1, ← e3], c.2.1, ?_⟩
  rw [e4]
  have hr : Rq z D w n q.1 (sMT m 0) := hq
  exact ⟨z, D, w, n, c.rq hr, by rw [c.2.2.1]; exact hs⟩
