/-! the model's counts -/
theorem z_used {z : Sz} {t : MS} (hs : Sm z) (h : Mz z (mZ t)) : fM_used t = some (nI (cnt (fun c => decide (z.K c ≠ 0)) 160)) := by
  unfold fM_used
  rw [lp_eq (S := fun k => (nI (cnt (fun c => decide (z.K c ≠ 0)) k), nI k)) (N := 160) (o := nI (cnt (fun c => decide (z.K c ≠ 0)) 160))]
  · rfl
  · rfl
  · intro k hk
    try dsimp only
    rw [if_neg (show ¬ (160 : Int32) ≤ nI k from nI_ge (b := 160) (by omega) (by omega)), z_isUsed hs h hk]
    simp only [Option.bind_some, gw_let, cnt]
    by_cases h0 : z.K k = 0
    · rw [if_pos h0, if_pos rfl, if_neg (by simp [h0]), Int32.add_zero, nI_1]; rfl
    · rw [if_neg h0, if_neg (by decide), if_pos (by simp [h0]), nI_1, nI_1]
  · dsimp only
    rw [if_pos (show (160 : Int32) ≤ nI 160 by decide)]
  · omega
theorem z_cellsOf {z : Sz} {t : MS} (hs : Sm z) (h : Mz z (mZ t)) {q : Nat} (hq : q < 3) : fM_cellsOf (nI q) t = some (nI (cnt (fun c => decide (z.K c = q)) 160)) := by
  unfold fM_cellsOf
  rw [lp_eq (S := fun k => (nI (cnt (fun c => decide (z.K c = q)) k), nI k)) (N := 160) (o := nI (cnt (fun c => decide (z.K c = q)) 160))]
  · rfl
  · rfl
  · intro k hk
    have hb := hs.k k
    try dsimp only
    rw [if_neg (show ¬ (160 : Int32) ≤ nI k from nI_ge (b := 160) (by omega) (by omega)), show (0 : Int32) + nI k = nI k by rw [← nI_0, nI_add, Nat.zero_add], if_pos (inb_nI (by omega) (by omega)), nI_clamp' (by omega), h.k k hk]
    simp only [gw_let, cnt]
    by_cases h0 : z.K k = q
    · rw [if_pos (by rw [h0]), if_pos (by simp [h0]), nI_1, nI_1]
    · rw [if_neg (fun a => h0 (nI_inj (by omega) (by omega) a)), if_neg (by simp [h0]), Int32.add_zero, nI_1]; rfl
  · dsimp only
    rw [if_pos (show (160 : Int32) ≤ nI 160 by decide)]
  · omega
theorem z_ends {z : Sz} {t : MS} (hs : Sm z) (h : Mz z (mZ t)) : fM_ends t = some (nI (cnt (fun p => decide (z.U p ≠ 0)) 40)) := by
  unfold fM_ends
  rw [lp_eq (S := fun k => (nI (cnt (fun p => decide (z.U p ≠ 0)) k), nI k)) (N := 40) (o := nI (cnt (fun p => decide (z.U p ≠ 0)) 40))]
  · rfl
  · rfl
  · intro k hk
    have hb := hs.u k
    try dsimp only
    rw [if_neg (show ¬ (40 : Int32) ≤ nI k from nI_ge (b := 40) (by omega) (by omega)), z_users h hk]
    simp only [Option.bind_some, gw_let, cnt]
    by_cases h0 : z.U k = 0
    · rw [if_pos (by rw [h0]; decide), if_neg (by simp [h0]), Int32.add_zero, nI_1]; rfl
    · rw [if_neg (nI_nle (by omega) (by omega)), if_pos (by simp [h0]), nI_1, nI_1]
  · dsimp only
    rw [if_pos (show (40 : Int32) ≤ nI 40 by decide)]
  · omega
theorem z_lettersOfEnds {z : Sz} {t : MS} (hs : Sm z) (he : WFe z.U z.X) (h : Mz z (mZ t)) : fM_lettersOfEnds t = some (nI (sm (fun p => (z.X p).length) 40)) := by
  unfold fM_lettersOfEnds
  rw [lp_eq (S := fun k => (nI (sm (fun p => (z.X p).length) k), nI k)) (N := 40) (o := nI (sm (fun p => (z.X p).length) 40))]
  · rfl
  · rfl
  · intro k hk
    have hb := hs.u k
    try dsimp only
    rw [if_neg (show ¬ (40 : Int32) ≤ nI k from nI_ge (b := 40) (by omega) (by omega)), z_users h hk]
    simp only [Option.bind_some, gw_let, sm]
    by_cases h0 : z.U k = 0
    · rw [if_pos (by rw [h0]; decide), Int32.add_zero, nI_1, he.2.1 k h0]; rfl
    · rw [if_neg (nI_nle (by omega) (by omega)), z_length h hk]
      simp only [Option.bind_some]
      rw [nI_add, nI_1]
  · dsimp only
    rw [if_pos (show (40 : Int32) ≤ nI 40 by decide)]
  · omega
theorem z_greatest {z : Sz} {t : MS} (hs : Sm z) (h : Mz z (mZ t)) : fM_greatest t = some (nI (gst z 160)) := by
  unfold fM_greatest
  rw [lp_eq (S := fun k => (nI (gst z k), nI k)) (N := 160) (o := nI (gst z 160))]
  · rfl
  · rfl
  · intro k hk
    try dsimp only
    rw [if_neg (show ¬ (160 : Int32) ≤ nI k from nI_ge (b := 160) (by omega) (by omega)), z_isUsed hs h hk]
    simp only [Option.bind_some, gw_let, gst]
    by_cases h0 : z.K k = 0
    · rw [if_pos h0, if_pos rfl, if_pos h0, nI_1]
    · rw [if_neg h0, if_neg (by decide), if_neg h0, nI_1]
  · dsimp only
    rw [if_pos (show (160 : Int32) ≤ nI 160 by decide)]
  · omega
theorem cnt_leaf {z : Sz} {D : Nat → Nat} (h : WF z D) : cnt (fun c => decide (z.K c = 2)) 160 = (Tz z D 0).length := by
  rw [T_len h (by rw [h.root.1]; omega), cnt_sm, Wz]
  refine sm_congr (fun y _ => ?_)
  by_cases e : z.K y = 2
  · rw [if_pos (by simp [e]), if_pos ⟨e, chain_root h y (by omega)⟩]
  · rw [if_neg (by simp [e]), if_neg (fun a => e a.1)]
/-- what a cell tells -/
def tell (z : Sz) (D : Nat → Nat) (c : Nat) (w : Int32) : Int32 :=
  if w = 0 then nI (z.K c) else if w = 1 then eI (z.P c) else if w = 2 then eI (z.B c) else if w = 3 then nI (z.O c) else if w = 4 then eI (z.E c) else if w = 5 then fJ_bitCount (nI (msk z c 9)) else nI (Wz z D c)
theorem t_property {z : Sz} {D : Nat → Nat} {t : TS} (ht : Ht z (Wz z D) t) {c : Nat} (hc : c < 160) (w : Int32) : fT_propertyOf (nI c) w t = tell z D c w := by
  unfold fT_propertyOf tell fT_childrenOf
  rw [t_K ht hc, t_W ht hc, J_at_n _ hc (by omega), J_at_n _ hc (by omega), J_at_n _ hc (by omega), J_at_n _ hc (by omega), J_at_n _ hc (by omega), ht.p hc, ht.b hc, ht.o hc, ht.e hc, ht.c hc]
theorem z_toldCell {z : Sz} {D : Nat → Nat} {t : MS} (h : WF z D) (hz : Mz z (mZ t)) {c : Nat} (hc : c < 160) (w : Int32) : Gd (fun o => o.1 = tell z D c w ∧ Lz t o.2) (fM_toldCell (nI c) w t) := by
  have hs := h.sml
  have hm := msk_lt z c 9
  unfold fM_toldCell tell
  by_cases e0 : w = 0
  · rw [if_pos e0, if_pos e0, show (0 : Int32) + nI c = nI c by rw [← nI_0, nI_add, Nat.zero_add], if_pos (inb_nI (by omega) (by omega)), nI_clamp' (by omega), hz.k c hc]
    exact gd_some ⟨rfl, Lz.refl t⟩
  rw [if_neg e0, if_neg e0]
  by_cases e1 : w = 1
  · rw [if_pos e1, if_pos e1, show (160 : Int32) = nI 160 by rfl, nI_add, if_pos (inb_nI (by omega) (by omega)), nI_clamp' (by omega), hz.p c hc]
    exact gd_some ⟨rfl, Lz.refl t⟩
  rw [if_neg e1, if_neg e1]
  by_cases e2 : w = 2
  · rw [if_pos e2, if_pos e2, show (320 : Int32) = nI 320 by rfl, nI_add, if_pos (inb_nI (by omega) (by omega)), nI_clamp' (by omega), hz.b c hc]
    exact gd_some ⟨rfl, Lz.refl t⟩
  rw [if_neg e2, if_neg e2]
  by_cases e3 : w = 3
  · rw [if_pos e3, if_pos e3, z_offset hz hc]
    exact gd_some ⟨rfl, Lz.refl t⟩
  rw [if_neg e3, if_neg e3]
  by_cases e4 : w = 4
  · rw [if_pos e4, if_pos e4, show (640 : Int32) = nI 640 by rfl, nI_add, if_pos (inb_nI (by omega) (by omega)), nI_clamp' (by omega), hz.e c hc]
    exact gd_some ⟨rfl, Lz.refl t⟩
  rw [if_neg e4, if_neg e4]
  by_cases e5 : w = 5
  · rw [if_pos e5, if_pos e5, z_lettersOf hs hz hc]
    simp only [Option.bind_some]
    rw [bits_e _ hm]
    exact gd_some ⟨rfl, Lz.refl t⟩
  rw [if_neg e5, if_neg e5]
  refine gd_bind (z_lay h hz) (fun t1 hL => ?_)
  rw [if_pos (inb_nI hc (by omega)), nI_clamp' (by omega), hL.2 c hc]
  exact gd_some ⟨rfl, hL.1⟩
theorem z_toldEnd {z : Sz} {t : MS} (hs : Sm z) (hz : Mz z (mZ t)) {p : Nat} (hp : p < 40) (w : Int32) : fM_toldEnd (nI p) w t = some (if w = 0 then nI (z.U p) else if z.U p = 0 then -1 else nI (z.X p).length) := by
  have hu := hs.u p
  unfold fM_toldEnd
  rw [z_users hz hp]
  simp only [Option.bind_some]
  by_cases e : w = 0
  · rw [if_pos e, if_pos e]
  · rw [if_neg e, if_neg e]
    by_cases e1 : z.U p = 0
    · rw [if_pos (by rw [e1]; rfl), if_pos e1]
    · rw [if_neg (nI_ne0 (by omega) (by omega)), if_neg e1, z_length hz hp]; rfl
