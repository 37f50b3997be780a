/-! looks of both sides -/
theorem Rl_of {q : PS} {m m' : MS} (h : Rl q m) (hz : ∀ z, Mz z (mZ m) → Mz z (mZ m')) (h1 : mSv m' = mSv m) (h2 : mSm m' = mSm m) (h3 : mBu m' = mBu m) (h4 : mTy m' = mTy m) : Rl q m' := by
  obtain ⟨z, D, w, n, ⟨a1, a2, a3, a4, a5, a6, a7, a8, a9, a10, a11⟩, hs⟩ := h
  exact ⟨z, D, w, n, ⟨a1, a2, hz z a3, a4, a5, a6, by rw [h3]; exact a7, by rw [h4]; exact a8, a9, by rw [h2]; exact a10, a11⟩, by rw [h1]; exact hs⟩
theorem Rl_bz {q : PS} {m m' : MS} (h : Rl q m) (hz : ∀ z, Mz z (mZ m) → Mz z (mZ m')) (hb : Bz m m') : Rl q m' := Rl_of h hz hb.2.1 hb.2.2.1 hb.2.2.2.1 hb.2.2.2.2.1
theorem Rl_lz {q : PS} {m m' : MS} (h : Rl q m) (hL : Lz m m') : Rl q m' := Rl_bz h (fun z hz => by rw [hL.z]; exact hz) hL.bz
theorem usd_1 {z : Sz} {D : Nat → Nat} (h : WF z D) : 1 ≤ usd z ∧ usd z ≤ gst z 160 + 1 ∧ gst z 160 < 160 := by
  have hg := gst_lt z 159
  have hgl : gst z 160 < 160 := by
    show (if z.K 159 = 0 then gst z 159 else 159) < 160
    split <;> omega
  have h1 : ∀ n, 1 ≤ n → 1 ≤ cnt (fun c => decide (z.K c ≠ 0)) n := by
    intro n
    induction n with
    | zero => intro q; omega
    | succ n ih =>
      intro _
      show 1 ≤ cnt _ n + _
      by_cases e : n = 0
      · subst e
        have : z.K 0 ≠ 0 := by rw [h.root.1]; omega
        rw [if_pos (decide_eq_true this)]; omega
      · have := ih (by omega); omega
  have h2 : ∀ n, cnt (fun c => decide (z.K c ≠ 0)) n ≤ gst z n + 1 := by
    intro n
    induction n with
    | zero => show 0 ≤ _; omega
    | succ n ih =>
      show cnt _ n + _ ≤ (if z.K n = 0 then gst z n else n) + 1
      by_cases e : z.K n = 0
      · rw [if_pos e, if_neg (by simp [e])]; exact ih
      · rw [if_neg e, if_pos (by simp [e])]
        have h3 : ∀ n, cnt (fun c => decide (z.K c ≠ 0)) n ≤ n := by
          intro n
          induction n with
          | zero => exact Nat.le_refl _
          | succ n ih =>
            show cnt _ n + _ ≤ n + 1
            split <;> omega
        have := h3 n
        omega
  exact ⟨h1 160 (by omega), h2 160, hgl⟩
/-- the numbers that count tells -/
theorem s_count {z : Sz} {D : Nat → Nat} {w : List Nat} {n : Nat} {q : QS} {m : MS} (h : Rq z D w n q m) {k : Nat} (hk : k < 10) : ∃ v, fP_count (nI k) q = some (.inr v) ∧ Gd (fun o => o.1 = v ∧ Lz m o.2) (fM_counted (nI k) m) := by
  obtain ⟨h1, h2, h3, h4, h5, h6, h7, h8, h9, h10, h11⟩ := h
  have hs := h1.sml
  have hk' : k = 0 ∨ k = 1 ∨ k = 2 ∨ k = 3 ∨ k = 4 ∨ k = 5 ∨ k = 6 ∨ k = 7 ∨ k = 8 ∨ k = 9 := by omega
  rcases hk' with rfl | rfl | rfl | rfl | rfl | rfl | rfl | rfl | rfl | rfl
  · refine ⟨nI (Tz z D 0).length, ?_, ?_⟩
    · unfold fP_count
      rw [if_pos (show nI 0 = (0 : Int32) from rfl), t_words h1 h2]
    · unfold fM_counted
      rw [if_pos (show nI 0 = (0 : Int32) from rfl), show (2 : Int32) = nI 2 by rfl, z_cellsOf hs h3 (by omega), cnt_leaf h1]
      exact gd_some ⟨rfl, Lz.refl m⟩
  · refine ⟨nI (usd z), ?_, ?_⟩
    · unfold fP_count
      rw [if_neg (by decide), if_pos (show nI 1 = (1 : Int32) from rfl), t_usedCells hs h2]
      rfl
    · unfold fM_counted
      rw [if_neg (by decide), if_pos (show nI 1 = (1 : Int32) from rfl), z_used hs h3]
      exact gd_some ⟨rfl, Lz.refl m⟩
  · refine ⟨nI (cnt (fun c => decide (z.K c = 1)) 160), ?_, ?_⟩
    · unfold fP_count
      rw [if_neg (by decide), if_neg (by decide), if_pos (show nI 2 = (2 : Int32) from rfl), t_innerCells hs h2]
      rfl
    · unfold fM_counted
      rw [if_neg (by decide), if_neg (by decide), if_pos (show nI 2 = (2 : Int32) from rfl), show (1 : Int32) = nI 1 by rfl, z_cellsOf hs h3 (by omega)]
      exact gd_some ⟨rfl, Lz.refl m⟩
  · refine ⟨nI (cnt (fun p => decide (z.U p ≠ 0)) 40), ?_, ?_⟩
    · unfold fP_count
      rw [if_neg (by decide), if_neg (by decide), if_neg (by decide), if_pos (show nI 3 = (3 : Int32) from rfl), t_kept hs h2]
      rfl
    · unfold fM_counted
      rw [if_neg (by decide), if_neg (by decide), if_neg (by decide), if_pos (show nI 3 = (3 : Int32) from rfl), z_ends hs h3]
      exact gd_some ⟨rfl, Lz.refl m⟩
  · refine ⟨nI (sm (fun p => (z.X p).length) 40), ?_, ?_⟩
    · unfold fP_count
      rw [if_neg (by decide), if_neg (by decide), if_neg (by decide), if_neg (by decide), if_pos (show nI 4 = (4 : Int32) from rfl), t_letters hs h2]
      rfl
    · unfold fM_counted
      rw [if_neg (by decide), if_neg (by decide), if_neg (by decide), if_neg (by decide), if_pos (show nI 4 = (4 : Int32) from rfl), z_lettersOfEnds hs h1.e h3]
      exact gd_some ⟨rfl, Lz.refl m⟩
  · refine ⟨nI z.M, ?_, ?_⟩
    · unfold fP_count
      rw [if_neg (by decide), if_neg (by decide), if_neg (by decide), if_neg (by decide), if_neg (by decide), if_pos (show nI 5 = (5 : Int32) from rfl), h2.m]
    · unfold fM_counted
      rw [if_neg (by decide), if_neg (by decide), if_neg (by decide), if_neg (by decide), if_neg (by decide), if_pos (show nI 5 = (5 : Int32) from rfl), if_pos (show inb (1360 : Int32) 1361 from inb_nI (n := 1360) (by omega) (by omega)), show (1360 : Int32).toNatClampNeg = 1360 from nI_clamp' (n := 1360) (by omega), h3.m]
      exact gd_some ⟨rfl, Lz.refl m⟩
  · refine ⟨nI (gst z 160), ?_, ?_⟩
    · unfold fP_count
      rw [if_neg (by decide), if_neg (by decide), if_neg (by decide), if_neg (by decide), if_neg (by decide), if_neg (by decide), if_pos (show nI 6 = (6 : Int32) from rfl), t_greatestUsed hs h2]
      rfl
    · unfold fM_counted
      rw [if_neg (by decide), if_neg (by decide), if_neg (by decide), if_neg (by decide), if_neg (by decide), if_neg (by decide), if_pos (show nI 6 = (6 : Int32) from rfl), z_greatest hs h3]
      exact gd_some ⟨rfl, Lz.refl m⟩
  · refine ⟨nI (lsum (Tz z D 0)), ?_, ?_⟩
    · unfold fP_count
      rw [if_neg (by decide), if_neg (by decide), if_neg (by decide), if_neg (by decide), if_neg (by decide), if_neg (by decide), if_neg (by decide), if_pos (show nI 7 = (7 : Int32) from rfl), t_lettersOfWords h1 h2]
      rfl
    · unfold fM_counted
      rw [if_neg (by decide), if_neg (by decide), if_neg (by decide), if_neg (by decide), if_neg (by decide), if_neg (by decide), if_neg (by decide), if_pos (show nI 7 = (7 : Int32) from rfl)]
      exact gd_bind (z_lettersOfWords h1 h3) (fun o ho => gd_some ho)
  · refine ⟨nI w.length, ?_, ?_⟩
    · unfold fP_count
      rw [if_neg (by decide), if_neg (by decide), if_neg (by decide), if_neg (by decide), if_neg (by decide), if_neg (by decide), if_neg (by decide), if_neg (by decide), if_pos (show nI 8 = (8 : Int32) from rfl), h6]
    · unfold fM_counted
      rw [if_neg (by decide), if_neg (by decide), if_neg (by decide), if_neg (by decide), if_neg (by decide), if_neg (by decide), if_neg (by decide), if_neg (by decide), if_pos (show nI 8 = (8 : Int32) from rfl), h8]
      exact gd_some ⟨rfl, Lz.refl m⟩
  · refine ⟨nI n, ?_, ?_⟩
    · unfold fP_count
      rw [if_neg (by decide), if_neg (by decide), if_neg (by decide), if_neg (by decide), if_neg (by decide), if_neg (by decide), if_neg (by decide), if_neg (by decide), if_neg (by decide), if_pos (show nI 9 = (9 : Int32) from rfl), h9]
    · unfold fM_counted
      rw [if_neg (by decide), if_neg (by decide), if_neg (by decide), if_neg (by decide), if_neg (by decide), if_neg (by decide), if_neg (by decide), if_neg (by decide), if_neg (by decide), h10]
      exact gd_some ⟨rfl, Lz.refl m⟩
theorem s_count_no {q : QS} {i : Int32} (hi : ∀ k, k < 10 → i ≠ nI k) : fP_count i q = some (.inl 1) := by
  unfold fP_count
  rw [if_neg (show ¬ i = (0 : Int32) from hi 0 (by omega)), if_neg (show ¬ i = (1 : Int32) from hi 1 (by omega)), if_neg (show ¬ i = (2 : Int32) from hi 2 (by omega)), if_neg (show ¬ i = (3 : Int32) from hi 3 (by omega)), if_neg (show ¬ i = (4 : Int32) from hi 4 (by omega)), if_neg (show ¬ i = (5 : Int32) from hi 5 (by omega)), if_neg (show ¬ i = (6 : Int32) from hi 6 (by omega)), if_neg (show ¬ i = (7 : Int32) from hi 7 (by omega)), if_neg (show ¬ i = (8 : Int32) from hi 8 (by omega)), if_neg (show ¬ i = (9 : Int32) from hi 9 (by omega))]
/-- a letter of a word -/
theorem s_word {z : Sz} {D : Nat → Nat} {w : List Nat} {n : Nat} {q : QS} {m : MS} (h : Rq z D w n q m) {r : Int32} (hr : 0 ≤ r) {a : Nat} (ha : a ≤ 12) : ∃ v, fP_word r (nI a) q = some (.inr v) ∧ Gd (fun o => o.1 = v ∧ Lz m o.2) (fM_toldWord r (nI a) m) := by
  obtain ⟨h1, h2, h3, h4, h5, h6, h7, h8, h9, h10, h11⟩ := h
  have hlen := T0_len h1
  have hw := z_toldWord h1 h3 hr ha
  by_cases e : r < nI (Tz z D 0).length
  · have hr0 : ¬ r < 0 := by
      rw [Int32.lt_iff_toInt_lt]; rw [Int32.le_iff_toInt_le] at hr; omega
    obtain ⟨k, hk, rfl⟩ := nI_of hr0
    have hk2 : k < (Tz z D 0).length := (nI_lt_iff (by omega) (by omega)).mp e
    obtain ⟨p, hp⟩ := T_get (z := z) (D := D) (k := k) (by omega)
    have hpo := T0_ok h1 (y := p.1) (u := p.2) (List.mem_of_getElem? hp)
    have hp12 := hpo.1.1
    refine ⟨if a ≤ p.2.length then nI (hd0 (p.2.drop a)) else -1, ?_, gd_mono hw ?_⟩
    · unfold fP_word
      rw [if_pos hr, gw_let, if_neg (nI_lt0 (by omega)), if_pos (show nI a ≤ (12 : Int32) from nI_le (b := 12) ha (by omega)), t_wordAt h1 h2 hp]
      simp only [Option.bind_some]
      rw [if_neg (fun b => hpo.2 ((encN_0 hpo.1).mp b)), t_lengthOf hpo.1]
      simp only [Option.bind_some]
      by_cases e2 : a ≤ p.2.length
      · rw [if_pos (nI_le e2 (by omega)), letterAt_e hpo.1 (by omega), if_pos e2]
      · rw [if_neg (nI_ge (by omega) (by omega)), if_neg e2]
    · rintro o ⟨o1, o2 | ⟨k', p', o2, o3, o4⟩⟩
      · exact absurd e o2.1
      · have hk'2 : k' < 2147483648 ∨ 2147483648 ≤ k' := Nat.lt_or_ge _ _
        have hkk : k' = k := by
          obtain ⟨b1, -⟩ := List.getElem?_eq_some_iff.mp o3
          exact (nI_inj (by omega) (by omega) o2).symm
        subst hkk
        rw [hp] at o3
        have := Option.some.inj o3
        subst this
        exact ⟨o4, o1⟩
  · refine ⟨-1, ?_, gd_mono hw ?_⟩
    · unfold fP_word
      rw [if_pos hr, gw_let, if_neg (nI_lt0 (by omega)), if_pos (show nI a ≤ (12 : Int32) from nI_le (b := 12) ha (by omega)), t_wordAt_no h1 h2 e]
      rfl
    · rintro o ⟨o1, o2 | ⟨k', p', o2, o3, o4⟩⟩
      · exact ⟨o2.2, o1⟩
      · obtain ⟨b1, -⟩ := List.getElem?_eq_some_iff.mp o3
        exact absurd (by rw [o2]; exact nI_lt b1 (by omega)) e
/-- what adding would bring -/
def how (z : Sz) (D : Nat → Nat) (w : List Nat) : Nat := if w = [] then 3 else if Fz z D 0 w ≠ 0 then 1 else match insS z w with
  | none => 2
  | some _ => 0
def kpt (z : Sz) : Nat := cnt (fun p => decide (z.U p ≠ 0)) 40
def cost (z : Sz) (D : Nat → Nat) (w : List Nat) (a : Nat) : Int32 := if a = 0 then nI (how z D w) else if how z D w ≠ 0 then -1 else match insS z w with
  | none => -1
  | some (_, zf) => if a = 1 then nI (usd zf) - nI (usd z) else if a = 2 then nI zf.M - nI z.M else nI (kpt zf) - nI (kpt z) + 100
theorem how_0 {z : Sz} {D : Nat → Nat} {w : List Nat} : how z D w = 0 ↔ w ≠ [] ∧ Fz z D 0 w = 0 ∧ ∃ v, insS z w = some v := by
  rw [how]
  by_cases e : w = []
  · rw [if_pos e]; exact ⟨fun q => by omega, fun q => absurd e q.1⟩
  · rw [if_neg e]
    by_cases eF : Fz z D 0 w = 0
    · rw [if_neg (fun q => q eF)]
      cases hS : insS z w with
      | none => exact ⟨fun q => (by cases q), fun q => (by obtain ⟨v, hv⟩ := q.2.2; cases hv)⟩
      | some v => exact ⟨fun _ => ⟨e, eF, v, rfl⟩, fun _ => rfl⟩
    · rw [if_pos eF]; exact ⟨fun q => by omega, fun q => absurd q.2.1 eF⟩
theorem t_how {z : Sz} {D : Nat → Nat} {w : List Nat} {n : Nat} {q : QS} {m : MS} (h : Rq z D w n q m) :
    Gd (fun o => (∃ r, o.2 = sQR q r) ∧ o.1 = nI (how z D w) ∧ ∀ a, a < 4 → fP_costOfTrial o.1 (nI a) o.2 = some (cost z D w a)) (fP_tryToAdd q) := by
  obtain ⟨h1, h2, h3, h4, h5, h6, h7, h8, h9, h10, h11⟩ := h
  refine gd_mono (t_tryToAdd h1 h2 h4 h5 h6) ?_
  rintro o ⟨⟨r, o1⟩, o2, o3, o4⟩
  have hh : o.1 = nI (how z D w) := by
    rw [how]
    by_cases e : w = []
    · rw [if_pos e, o2 e]; rfl
    · rw [if_neg e]
      by_cases eF : Fz z D 0 w = 0
      · rw [if_neg (fun q => q eF)]
        cases hS : insS z w with
        | none => exact (o4 e eF).1 hS
        | some v => exact ((o4 e eF).2 v.1 v.2 hS).1
      · rw [if_pos eF, o3 e eF]; rfl
  have hh4 : how z D w < 4 := by
    rw [how]
    split
    · omega
    · split
      · omega
      · split <;> omega
  refine ⟨⟨r, o1⟩, hh, fun a ha => ?_⟩
  unfold fP_costOfTrial
  rw [hh, cost]
  by_cases e0 : a = 0
  · rw [if_pos (show nI a = 0 by rw [e0]; rfl), if_pos e0]
  · rw [if_neg (nI_ne0 (by omega) (by omega)), if_neg e0]
    by_cases e1 : how z D w = 0
    · obtain ⟨q1, q2, v, q3⟩ := how_0.mp e1
      obtain ⟨x, zf⟩ := v
      obtain ⟨Df, f1, f2, f3⟩ := ins_ok h1 h4 q1 q2 q3
      have hR := ((o4 q1 q2).2 x zf q3).2 Df f1
      have hT : qT o.2 = qT q := by rw [o1]
      rw [if_pos (show nI (how z D w) = 0 by rw [e1]; rfl), if_neg (show ¬ how z D w ≠ 0 from fun b => b e1), q3, hT]
      by_cases a1 : a = 1
      · subst a1
        rw [if_pos (show nI 1 = (1 : Int32) from rfl), t_usedCells f1.sml hR]
        simp only [Option.bind_some]
        rw [t_usedCells h1.sml h2]
        rfl
      · rw [if_neg (show ¬ nI a = (1 : Int32) from fun b => a1 (nI_inj (b := 1) (by omega) (by omega) b))]
        by_cases a2 : a = 2
        · subst a2
          rw [if_pos (show nI 2 = (2 : Int32) from rfl), hR.m, h2.m]
          rfl
        · rw [if_neg (show ¬ nI a = (2 : Int32) from fun b => a2 (nI_inj (b := 2) (by omega) (by omega) b)), t_kept f1.sml hR]
          simp only [Option.bind_some]
          rw [t_kept h1.sml h2]
          show some (nI (kpt zf) - nI (kpt z) + 100) = some (if a = 1 then _ else if a = 2 then _ else _)
          rw [if_neg a1, if_neg a2]
    · rw [if_neg (nI_ne0 (by omega) (by omega)), if_pos e1]
theorem z_wouldAdd {z : Sz} {D : Nat → Nat} {w : List Nat} {n : Nat} {q : QS} {m : MS} (h : Rq z D w n q m) {a : Nat} (ha : a < 4) :
    Gd (fun o => o.1 = cost z D w a ∧ Bz m o.2 ∧ Mz z (mZ o.2)) (fM_wouldAdd (nI a) m) := by
  obtain ⟨h1, h2, h3, h4, h5, h6, h7, h8, h9, h10, h11⟩ := h
  have hs := h1.sml
  unfold fM_wouldAdd
  rw [z_used hs h3]
  simp only [Option.bind_some]
  have h1360 : (1360 : Int32).toNatClampNeg = 1360 := nI_clamp' (n := 1360) (by omega)
  have hM : mZ m (1360 : Int32).toNatClampNeg = nI z.M := by rw [h1360]; exact h3.m
  rw [if_pos (show inb (1360 : Int32) 1361 from inb_nI (n := 1360) (by omega) (by omega)), gw_let, hM, z_ends hs h3]
  simp only [Option.bind_some]
  refine gd_bind (z_addIt h1 h3 h4 h7 h8) ?_
  rintro o ⟨o1, o2, o3, o4, o5⟩
  rw [gw_let]
  try dsimp only
  have hfin : ∀ v6 : Int32, (v6 = if a = 0 then o.1 else -1) → Gd (fun o' => o'.1 = cost z D w a ∧ Bz m o'.2 ∧ Mz z (mZ o'.2)) (if o.1 = 0 then
   gw_let (α := Int32 → Option (Int32 × MS)) (fun v9 =>
    (fM_bringBack o.2).bind fun q16 =>
    some (v9, q16)
   ) fun j9 =>
   if nI a = 0 then
    j9 o.1
   else
    if nI a = (1 : Int32) then
     (fM_used o.2).bind fun q12 =>
     j9 (q12 - nI (usd z))
    else
     if nI a = (2 : Int32) then
      if inb (1360 : Int32) 1361 then
      j9 ((mZ o.2 (1360 : Int32).toNatClampNeg) - nI z.M)
      else none
     else
      (fM_ends o.2).bind fun q15 =>
      j9 ((q15 - nI (kpt z)) + (100 : Int32))
  else
   some (v6, o.2)) := by
    intro v6 hv6
    by_cases e1 : how z D w = 0
    · obtain ⟨q1, q2, v, q3⟩ := how_0.mp e1
      obtain ⟨x, zf⟩ := v
      obtain ⟨Df, f1, f2, f3⟩ := ins_ok h1 h4 q1 q2 q3
      obtain ⟨r1, r2, r3⟩ := (o5 q1 q2).2 x zf q3
      have hback : ∀ v9 : Int32, v9 = cost z D w a → Gd (fun o' => o'.1 = cost z D w a ∧ Bz m o'.2 ∧ Mz z (mZ o'.2)) ((fM_bringBack o.2).bind fun q16 => some (v9, q16)) := by
        intro v9 hv
        refine gd_bind (z_bringBack o.2) ?_
        rintro m3 ⟨f, rfl, hf⟩
        exact gd_some ⟨hv, o1, Mz_congr o2 hf⟩
      rw [if_pos r1, gw_let]
      try dsimp only
      by_cases e0 : a = 0
      · rw [if_pos (show nI a = 0 by rw [e0]; rfl)]
        exact hback _ (by rw [cost, if_pos e0, e1, r1]; rfl)
      · have hc : cost z D w a = if a = 1 then nI (usd zf) - nI (usd z) else if a = 2 then nI zf.M - nI z.M else nI (kpt zf) - nI (kpt z) + 100 := by
          rw [cost, if_neg e0, if_neg (show ¬ how z D w ≠ 0 from fun b => b e1), q3]
        rw [if_neg (nI_ne0 (by omega) (by omega))]
        by_cases a1 : a = 1
        · rw [if_pos (show nI a = (1 : Int32) by rw [a1]; rfl), z_used f1.sml r2]
          simp only [Option.bind_some]
          exact hback _ (by rw [hc, if_pos a1]; rfl)
        · rw [if_neg (show ¬ nI a = (1 : Int32) from fun b => a1 (nI_inj (b := 1) (by omega) (by omega) b))]
          by_cases a2 : a = 2
          · rw [if_pos (show nI a = (2 : Int32) by rw [a2]; rfl), if_pos (show inb (1360 : Int32) 1361 from inb_nI (n := 1360) (by omega) (by omega)), show mZ o.2 (1360 : Int32).toNatClampNeg = nI zf.M by rw [h1360]; exact r2.m]
            exact hback _ (by rw [hc, if_neg a1, if_pos a2])
          · rw [if_neg (show ¬ nI a = (2 : Int32) from fun b => a2 (nI_inj (b := 2) (by omega) (by omega) b)), z_ends f1.sml r2]
            simp only [Option.bind_some]
            exact hback _ (by rw [hc, if_neg a1, if_neg a2]; rfl)
    · have hno : o.1 = nI (how z D w) ∧ Mz z (mZ o.2) := by
        rw [how]
        by_cases e : w = []
        · rw [if_pos e]; exact ⟨(o3 e).1, (o3 e).2⟩
        · rw [if_neg e]
          by_cases eF : Fz z D 0 w = 0
          · rw [if_neg (fun q => q eF)]
            cases hS : insS z w with
            | none => exact (o5 e eF).1 hS
            | some v => exact absurd (how_0.mpr ⟨e, eF, v, hS⟩) e1
          · rw [if_pos eF]; exact o4 e eF
      have hh4 : how z D w < 4 := by
        rw [how]
        split
        · omega
        · split
          · omega
          · split <;> omega
      rw [if_neg (show ¬ o.1 = 0 by rw [hno.1]; exact nI_ne0 (by omega) (by omega))]
      refine gd_some ⟨?_, o1, hno.2⟩
      rw [hv6, cost, hno.1]
      by_cases e0 : a = 0
      · rw [if_pos e0, if_pos e0]
      · rw [if_neg e0, if_neg e0, if_pos e1]
  by_cases e0 : a = 0
  · rw [if_pos (show nI a = 0 by rw [e0]; rfl)]
    exact hfin _ (by rw [if_pos e0])
  · rw [if_neg (nI_ne0 (by omega) (by omega))]
    exact hfin _ (by rw [if_neg e0])
/-- what packing would bring -/
def pkv (z : Sz) (D : Nat → Nat) : Int32 := match pkF (Tz z D 0) (clrS z.M) with
  | none => -1
  | some zf => nI (usd zf)
theorem z_wouldPack {z : Sz} {D : Nat → Nat} {m : MS} (h : WF z D) (hz : Mz z (mZ m)) : Gd (fun o => o.1 = pkv z D ∧ Bz m o.2 ∧ Mz z (mZ o.2)) (fM_wouldPack m) := by
  unfold fM_wouldPack
  refine gd_bind (z_putAside m) ?_
  rintro m1 ⟨f1, rfl, hf1⟩
  have hsp : Mz z f1 := Mz_congr hz hf1
  refine gd_bind (z_packIt h (t := sMSp m f1) hz) ?_
  rintro o ⟨o1, o2, o3⟩
  rw [gw_let]
  try dsimp only
  have hback : ∀ v3 : Int32, v3 = pkv z D → Gd (fun o' => o'.1 = pkv z D ∧ Bz m o'.2 ∧ Mz z (mZ o'.2)) ((fM_bringBack o.2).bind fun q6 => some (v3, q6)) := by
    intro v3 hv
    refine gd_bind (z_bringBack o.2) ?_
    rintro m3 ⟨f, rfl, hf⟩
    refine gd_some ⟨hv, o1.bz, Mz_congr hsp (fun j hj => ?_)⟩
    show f j = f1 j
    rw [hf j hj, o1.2.2.2.1]
  cases hP : pkF (Tz z D 0) (clrS z.M) with
  | none =>
    rw [if_pos (o2 hP)]
    exact hback _ (by rw [pkv, hP])
  | some zf =>
    obtain ⟨r1, r2⟩ := o3 zf hP
    rw [if_neg (show ¬ o.1 = 0 by rw [r1]; decide)]
    have hzf : ∃ Df, WF zf Df := by
      have key : ∀ (L : List (Nat × List Nat)) (k : Nat) (zk : Sz) (Dk : Nat → Nat), WF zk Dk → L = (Tz z D 0).drop k → (∀ y v, Hw zk Dk y v → ∃ j q, j < k ∧ (Tz z D 0)[j]? = some q ∧ v = q.2) → ∀ zf, pkF L zk = some zf → ∃ Df, WF zf Df := by
        intro L
        induction L with
        | nil =>
          intro k zk Dk hk _ _ zf hq
          have := Option.some.inj hq
          subst this
          exact ⟨Dk, hk⟩
        | cons p L ih =>
          intro k zk Dk hk hL hw zf hq
          have hp : (Tz z D 0)[k]? = some p := by
            have : ((Tz z D 0).drop k)[0]? = some p := by rw [← hL]; rfl
            rwa [List.getElem?_drop, Nat.add_zero] at this
          have hpo := T0_ok h (y := p.1) (u := p.2) (List.mem_of_getElem? hp)
          have hno := pk_no h hk hp hw
          rw [pkF] at hq
          cases hS : insS zk p.2 with
          | none => rw [hS] at hq; cases hq
          | some v =>
            obtain ⟨x, z'⟩ := v
            rw [hS] at hq
            obtain ⟨Df, f1, f2, f3⟩ := ins_ok hk hpo.1 hpo.2 hno hS
            refine ih (k + 1) z' Df f1 ?_ ?_ zf hq
            · rw [drop_get hp] at hL
              injection hL
            · intro y v hv
              rcases f3 y v hv with e1 | ⟨y', e1⟩
              · exact ⟨k, p, by omega, hp, e1⟩
              · obtain ⟨j, q', hj, hq', e2⟩ := hw y' v e1
                exact ⟨j, q', by omega, hq', e2⟩
      exact key _ 0 _ _ (clr_wf _) rfl (fun y v hv => (clr_Hw hv).elim) zf hP
    obtain ⟨Df, hwf⟩ := hzf
    rw [z_used hwf.sml r2]
    simp only [Option.bind_some]
    exact hback _ (by rw [pkv, hP]; rfl)
