/-! doubles from one exponent and one significand -/
theorem fp_dec {e t : Nat} (h1 : 1 ≤ e) (h2 : e < 2047) (ht : t < 4503599627370496) : FP.Core.decode FP.Core.b64 (e * 4503599627370496 + t) = .fin false (4503599627370496 + t) ((e : Int) - 1075) := by
  have hE : FP.Core.fieldE FP.Core.b64 (e * 4503599627370496 + t) = e := by
    show (e * 4503599627370496 + t) / 4503599627370496 % 2048 = e
    omega
  have hT : FP.Core.fieldT FP.Core.b64 (e * 4503599627370496 + t) = t := by
    show (e * 4503599627370496 + t) % 4503599627370496 = t
    omega
  have hS : FP.Core.fieldS FP.Core.b64 (e * 4503599627370496 + t) = false := by
    show ((e * 4503599627370496 + t) / 4503599627370496 / 2048 % 2 == 1) = false
    have : (e * 4503599627370496 + t) / 4503599627370496 / 2048 % 2 = 0 := by omega
    rw [this]; rfl
  unfold FP.Core.decode
  rw [hE, hT, hS, if_neg (show ¬ e = FP.Core.b64.exps - 1 from fun a => by have : e = 2047 := a; omega), if_neg (show ¬ e = 0 by omega)]
  have : FP.Core.b64.qmin + ((e : Int) - 1) = (e : Int) - 1075 := by
    show (-1074 : Int) + ((e : Int) - 1) = _
    omega
  rw [this]
  rfl
theorem fp_enc {c : Nat} {q : Int} (h1 : 4503599627370496 ≤ c) : FP.Core.encode FP.Core.b64 (.fin false c q) = ((q + 1074).toNat + 1) * 4503599627370496 + (c - 4503599627370496) := by
  show (if c < 4503599627370496 then FP.Core.assemble FP.Core.b64 false 0 c else FP.Core.assemble FP.Core.b64 false ((q - (-1074)).toNat + 1) (c - 4503599627370496)) = _
  rw [if_neg (by omega)]
  show (0 * 2048 + ((q - (-1074)).toNat + 1)) * 4503599627370496 + (c - 4503599627370496) = _
  rw [show q - (-1074) = q + 1074 by omega, Nat.zero_mul, Nat.zero_add]
theorem fp_lead {n k : Nat} (h1 : 2 ^ k ≤ n) (h2 : n < 2 ^ (k + 1)) : FP.Core.leading n 1 = (k : Int) := by
  have h0 : 0 < 2 ^ k := Nat.two_pow_pos k
  have hn : n ≠ 0 := by omega
  have hl : n.log2 = k := Nat.le_antisymm (Nat.lt_succ_iff.mp ((Nat.log2_lt hn).mpr h2)) ((Nat.le_log2 hn).mpr h1)
  have h10 : Nat.log2 1 = 0 := by decide +kernel
  unfold FP.Core.leading
  rw [hl, h10]
  have e1 : ((k : Int) - ((0 : Nat) : Int)) = (k : Int) := by omega
  rw [e1]
  have e2 : (k : Int).toNat = k := by omega
  have e3 : (-(k : Int)).toNat = 0 := by omega
  show (if 1 * 2 ^ ((k : Int)).toNat ≤ n * 2 ^ (-(k : Int)).toNat then (k : Int) else (k : Int) - 1) = _
  rw [e2, e3, Nat.one_mul, Nat.pow_zero, Nat.mul_one, if_pos h1]
theorem fp_near1 (n : Nat) : FP.Core.nearest n 1 = n := by
  unfold FP.Core.nearest
  rw [Nat.mod_one, if_pos (by decide), Nat.div_one]
theorem fp_nearm (d : Nat) {m : Nat} (hm : 0 < m) : FP.Core.nearest (d * m) m = d := by
  unfold FP.Core.nearest
  rw [Nat.mul_mod_left, if_pos (by omega), Nat.mul_div_cancel _ hm]
theorem fp_settle {c : Nat} {q : Int} (h2 : c < 9007199254740992) (hq : q ≤ 971) : FP.Core.settle FP.Core.b64 false c q = .fin false c q := by
  show (if c < 9007199254740992 then (if q ≤ 971 then FP.Core.Datum.fin false c q else .inf false) else _) = _
  rw [if_pos h2, if_pos hq]
theorem fp_rrA {d k : Nat} {q : Int} (h1 : 4503599627370496 ≤ d) (h2 : d < 9007199254740992) (hq1 : -1074 ≤ q + k) (hq2 : q + k ≤ 971) : FP.Core.roundRatio FP.Core.b64 false (d * 2 ^ k) 1 q = .fin false d (q + k) := by
  have h0 : 0 < 2 ^ k := Nat.two_pow_pos k
  have a1 : 2 ^ (52 + k) ≤ d * 2 ^ k := by
    rw [Nat.pow_add]; exact Nat.mul_le_mul_right _ h1
  have a2 : d * 2 ^ k < 2 ^ (52 + k + 1) := by
    rw [show 52 + k + 1 = 53 + k by omega, Nat.pow_add]
    exact (Nat.mul_lt_mul_right h0).mpr h2
  have a3 : d * 2 ^ k ≠ 0 := by
    have := Nat.two_pow_pos (52 + k); omega
  unfold FP.Core.roundRatio
  rw [if_neg a3]
  unfold FP.Core.roundAt
  have hQ : FP.Core.quantum FP.Core.b64 (d * 2 ^ k) 1 q = q + k := by
    unfold FP.Core.quantum
    rw [fp_lead a1 a2]
    show max (-1074 : Int) (((52 + k : Nat) : Int) + q - ((53 : Int) - 1)) = _
    omega
  rw [hQ]
  have hN : FP.Core.unitsNum (d * 2 ^ k) q (q + k) = d * 2 ^ k := by
    unfold FP.Core.unitsNum
    rw [show (q - (q + (k : Int))).toNat = 0 by omega, Nat.pow_zero, Nat.mul_one]
  have hD : FP.Core.unitsDen 1 q (q + k) = 2 ^ k := by
    unfold FP.Core.unitsDen
    rw [show (q + (k : Int) - q).toNat = k by omega, Nat.one_mul]
  rw [hN, hD, fp_nearm d h0]
  exact fp_settle h2 hq2
theorem fp_rrB {c k : Nat} {q : Int} (h1 : 2 ^ k ≤ c) (h2 : c < 2 ^ (k + 1)) (hk : k ≤ 52) (hq1 : -1074 ≤ q - ((52 - k : Nat) : Int)) (hq2 : q ≤ 971) : FP.Core.roundRatio FP.Core.b64 false c 1 q = .fin false (c * 2 ^ (52 - k)) (q - ((52 - k : Nat) : Int)) := by
  have h0 : 0 < 2 ^ k := Nat.two_pow_pos k
  have h3 : 0 < 2 ^ (52 - k) := Nat.two_pow_pos _
  unfold FP.Core.roundRatio
  rw [if_neg (by omega)]
  unfold FP.Core.roundAt
  have hQ : FP.Core.quantum FP.Core.b64 c 1 q = q - ((52 - k : Nat) : Int) := by
    unfold FP.Core.quantum
    rw [fp_lead h1 h2]
    show max (-1074 : Int) ((k : Int) + q - ((53 : Int) - 1)) = _
    omega
  rw [hQ]
  have hN : FP.Core.unitsNum c q (q - ((52 - k : Nat) : Int)) = c * 2 ^ (52 - k) := by
    unfold FP.Core.unitsNum
    rw [show (q - (q - ((52 - k : Nat) : Int))).toNat = 52 - k by omega]
  have hD : FP.Core.unitsDen 1 q (q - ((52 - k : Nat) : Int)) = 1 := by
    unfold FP.Core.unitsDen
    rw [show (q - ((52 - k : Nat) : Int) - q).toNat = 0 by omega, Nat.pow_zero]
  rw [hN, hD, fp_near1]
  refine fp_settle ?_ (by omega)
  have : c * 2 ^ (52 - k) < 2 ^ (k + 1) * 2 ^ (52 - k) := (Nat.mul_lt_mul_right h3).mpr h2
  rw [← Nat.pow_add, show k + 1 + (52 - k) = 53 by omega] at this
  exact this
theorem fp_two : ∀ {c k : Nat}, 2 ^ k ≤ c → c < 2 ^ (k + 1) → k ≤ 52 → 4503599627370496 ≤ c * 2 ^ (52 - k) ∧ c * 2 ^ (52 - k) < 9007199254740992 := by
  intro c k h1 h2 hk
  have h3 : 0 < 2 ^ (52 - k) := Nat.two_pow_pos _
  constructor
  · have : 2 ^ k * 2 ^ (52 - k) ≤ c * 2 ^ (52 - k) := Nat.mul_le_mul_right _ h1
    rw [← Nat.pow_add, show k + (52 - k) = 52 by omega] at this
    exact this
  · have : c * 2 ^ (52 - k) < 2 ^ (k + 1) * 2 ^ (52 - k) := (Nat.mul_lt_mul_right h3).mpr h2
    rw [← Nat.pow_add, show k + 1 + (52 - k) = 53 by omega] at this
    exact this
theorem fp_rt {n : Nat} (h : n < 18446744073709551616) : (UInt64.ofNat n).toNat = n := UInt64.toNat_ofNat_of_lt' h
theorem fp_de {c : Nat} {q : Int} (h1 : 4503599627370496 ≤ c) (h2 : c < 9007199254740992) (hq1 : -1074 ≤ q) (hq2 : q ≤ 971) : FP.Core.decode FP.Core.b64 (UInt64.ofNat (FP.Core.encode FP.Core.b64 (.fin false c q))).toNat = .fin false c q := by
  rw [fp_enc h1, fp_rt (by omega), fp_dec (by omega) (by omega) (by omega)]
  have e1 : (((q + 1074).toNat + 1 : Nat) : Int) - 1075 = q := by omega
  rw [e1, show 4503599627370496 + (c - 4503599627370496) = c by omega]
theorem fp_nn0 {n : Nat} (h : n ≤ 9218868437227405312) : nn64 (UInt64.ofNat n) := by
  show UInt64.ofNat n &&& 0x7fffffffffffffff ≤ 0x7ff0000000000000
  rw [UInt64.le_iff_toNat_le, UInt64.toNat_and, fp_rt (by omega)]
  show n &&& 9223372036854775807 ≤ 9218868437227405312
  exact Nat.le_trans Nat.and_le_left h
theorem fp_nn1 {c : Nat} {q : Int} (h1 : 4503599627370496 ≤ c) (h2 : c < 9007199254740992) (hq2 : q ≤ 971) : nn64 (UInt64.ofNat (FP.Core.encode FP.Core.b64 (.fin false c q))) := by
  rw [fp_enc h1]
  exact fp_nn0 (by omega)
/-- twice -/
theorem fp_dbl {e t : Nat} (h1 : 1 ≤ e) (h2 : e < 2046) (ht : t < 4503599627370496) : FP.dmul (UInt64.ofNat (e * 4503599627370496 + t)) (4611686018427387904 : UInt64) = UInt64.ofNat ((e + 1) * 4503599627370496 + t) := by
  show UInt64.ofNat (FP.Core.mul FP.Core.b64 (UInt64.ofNat (e * 4503599627370496 + t)).toNat (1024 * 4503599627370496 + 0)) = _
  rw [fp_rt (by omega)]
  unfold FP.Core.mul
  rw [fp_dec h1 (by omega) ht, fp_dec (by omega) (by omega) (by omega)]
  show UInt64.ofNat (FP.Core.encode FP.Core.b64 (FP.Core.roundRatio FP.Core.b64 false ((4503599627370496 + t) * 2 ^ 52) 1 ((e : Int) - 1075 + (((1024 : Nat) : Int) - 1075)))) = _
  rw [fp_rrA (by omega) (by omega) (by omega) (by omega), fp_enc (by omega)]
  have e1 : ((e : Int) - 1075 + (((1024 : Nat) : Int) - 1075) + ((52 : Nat) : Int) + 1074).toNat + 1 = e + 1 := by omega
  rw [e1, show 4503599627370496 + t - 4503599627370496 = t by omega]
theorem fp_lt {e t e2 : Nat} (h1 : 1 ≤ e) (h2 : e < e2) (h3 : e2 < 2047) (ht : t < 4503599627370496) : FP.dcmp (UInt64.ofNat (e * 4503599627370496 + t)) (UInt64.ofNat (e2 * 4503599627370496 + 0)) = some .lt := by
  show FP.Core.order (FP.Core.decode FP.Core.b64 (UInt64.ofNat (e * 4503599627370496 + t)).toNat) (FP.Core.decode FP.Core.b64 (UInt64.ofNat (e2 * 4503599627370496 + 0)).toNat) = _
  rw [fp_rt (by omega), fp_rt (by omega), fp_dec h1 (by omega) ht, fp_dec (by omega) h3 (by omega)]
  show some (compareOfLessAndEq (((4503599627370496 + t) * 2 ^ ((e : Int) - 1075 - min ((e : Int) - 1075) ((e2 : Int) - 1075)).toNat : Nat) : Int) ((4503599627370496 * 2 ^ ((e2 : Int) - 1075 - min ((e : Int) - 1075) ((e2 : Int) - 1075)).toNat : Nat) : Int)) = _
  have e1 : ((e : Int) - 1075 - min ((e : Int) - 1075) ((e2 : Int) - 1075)).toNat = 0 := by omega
  obtain ⟨k, hk⟩ : ∃ k, e2 = e + k + 1 := ⟨e2 - e - 1, by omega⟩
  have e3 : ((e2 : Int) - 1075 - min ((e : Int) - 1075) ((e2 : Int) - 1075)).toNat = k + 1 := by omega
  rw [e1, e3, Nat.pow_zero, Nat.mul_one, Nat.pow_succ]
  have := Nat.two_pow_pos k
  unfold compareOfLessAndEq
  rw [if_pos (by omega)]
theorem fp_ge {t : Nat} (ht : t < 4503599627370496) : 0 ≤ Op.cmpValue (FP.dcmp (UInt64.ofNat (1023 * 4503599627370496 + t)) (0x3ff0000000000000 : UInt64)) .g := by
  have : FP.dcmp (UInt64.ofNat (1023 * 4503599627370496 + t)) (0x3ff0000000000000 : UInt64) = some (compareOfLessAndEq ((4503599627370496 + t : Nat) : Int) (4503599627370496 : Int)) := by
    show FP.Core.order (FP.Core.decode FP.Core.b64 (UInt64.ofNat (1023 * 4503599627370496 + t)).toNat) (FP.Core.decode FP.Core.b64 (1023 * 4503599627370496 + 0)) = _
    rw [fp_rt (by omega), fp_dec (by omega) (by omega) ht, fp_dec (by omega) (by omega) (by omega)]
    show some (compareOfLessAndEq (((4503599627370496 + t) * 1 : Nat) : Int) _) = _
    rw [Nat.mul_one]
    rfl
  rw [this]
  unfold compareOfLessAndEq
  rw [if_neg (by omega)]
  split <;> decide
theorem fp_gt0 {e t : Nat} (h1 : 1 ≤ e) (h2 : e < 2047) (ht : t < 4503599627370496) : FP.dcmp (UInt64.ofNat (e * 4503599627370496 + t)) (0 : UInt64) = some .gt := by
  have h0 : FP.Core.decode FP.Core.b64 0 = .fin false 0 (-1074) := by decide +kernel
  show FP.Core.order (FP.Core.decode FP.Core.b64 (UInt64.ofNat (e * 4503599627370496 + t)).toNat) (FP.Core.decode FP.Core.b64 0) = _
  rw [fp_rt (by omega), fp_dec h1 h2 ht, h0]
  show some (compareOfLessAndEq (((4503599627370496 + t) * 2 ^ ((e : Int) - 1075 - min ((e : Int) - 1075) (-1074)).toNat : Nat) : Int) ((0 * 2 ^ ((-1074 : Int) - min ((e : Int) - 1075) (-1074)).toNat : Nat) : Int)) = _
  have hp := Nat.two_pow_pos ((e : Int) - 1075 - min ((e : Int) - 1075) (-1074)).toNat
  have hm : 0 < (4503599627370496 + t) * 2 ^ ((e : Int) - 1075 - min ((e : Int) - 1075) (-1074)).toNat := Nat.mul_pos (by omega) hp
  rw [Nat.zero_mul]
  unfold compareOfLessAndEq
  rw [if_neg (by omega), if_neg (by omega)]
/-- the last step of the class: what is left over one, in units -/
theorem fp_endP {t : Nat} (ht : t < 4503599627370496) : nn64 (FP.dsub (UInt64.ofNat (1023 * 4503599627370496 + t)) (0x3ff0000000000000 : UInt64)) ∧ nn64 (FP.dmul (FP.dsub (UInt64.ofNat (1023 * 4503599627370496 + t)) (0x3ff0000000000000 : UInt64)) (4841369599423283200 : UInt64)) ∧ FP.d2l (FP.dmul (FP.dsub (UInt64.ofNat (1023 * 4503599627370496 + t)) (0x3ff0000000000000 : UInt64)) (4841369599423283200 : UInt64)) = Int64.ofInt (t : Int) := by
  by_cases e : t = 0
  · subst e
    decide +kernel
  · have hs : FP.dsub (UInt64.ofNat (1023 * 4503599627370496 + t)) (0x3ff0000000000000 : UInt64) = UInt64.ofNat (FP.Core.encode FP.Core.b64 (FP.Core.roundRatio FP.Core.b64 false t 1 (-52))) := by
      show UInt64.ofNat (FP.Core.sub FP.Core.b64 (UInt64.ofNat (1023 * 4503599627370496 + t)).toNat (1023 * 4503599627370496 + 0)) = _
      rw [fp_rt (by omega)]
      unfold FP.Core.sub
      rw [fp_dec (by omega) (by omega) ht, fp_dec (by omega) (by omega) (by omega)]
      show UInt64.ofNat (FP.Core.encode FP.Core.b64 (FP.Core.round FP.Core.b64 (.fin (FP.Core.sumSign false true ((((4503599627370496 + t) * 1 : Nat) : Int) + -((4503599627370496 : Nat) : Int))) ((((4503599627370496 + t) * 1 : Nat) : Int) + -((4503599627370496 : Nat) : Int)).natAbs (-52)))) = _
      rw [show (((4503599627370496 + t) * 1 : Nat) : Int) + -((4503599627370496 : Nat) : Int) = (t : Int) by omega]
      have hsg : FP.Core.sumSign false true (t : Int) = false := by
        unfold FP.Core.sumSign
        rw [if_neg (by omega)]
        exact decide_eq_false (by omega)
      rw [hsg, Int.natAbs_natCast]
      rfl
    have hk1 : 2 ^ t.log2 ≤ t := (Nat.le_log2 e).mp (Nat.le_refl _)
    have hk2 : t < 2 ^ (t.log2 + 1) := (Nat.log2_lt e).mp (Nat.lt_succ_self _)
    have hk : t.log2 < 52 := (Nat.log2_lt e).mpr ht
    generalize t.log2 = k at hk1 hk2 hk
    obtain ⟨b1, b2⟩ := fp_two hk1 hk2 (by omega)
    have hr := fp_rrB (q := -52) hk1 hk2 (by omega) (by omega) (by omega)
    rw [hr] at hs
    have hm : FP.dmul (FP.dsub (UInt64.ofNat (1023 * 4503599627370496 + t)) (0x3ff0000000000000 : UInt64)) (4841369599423283200 : UInt64) = UInt64.ofNat (FP.Core.encode FP.Core.b64 (.fin false (t * 2 ^ (52 - k)) (-((52 - k : Nat) : Int)))) := by
      rw [hs]
      show UInt64.ofNat (FP.Core.mul FP.Core.b64 (UInt64.ofNat (FP.Core.encode FP.Core.b64 (.fin false (t * 2 ^ (52 - k)) (-52 - ((52 - k : Nat) : Int))))).toNat (1075 * 4503599627370496 + 0)) = _
      unfold FP.Core.mul
      rw [fp_de b1 b2 (by omega) (by omega), fp_dec (by omega) (by omega) (by omega)]
      show UInt64.ofNat (FP.Core.encode FP.Core.b64 (FP.Core.roundRatio FP.Core.b64 false (t * 2 ^ (52 - k) * 2 ^ 52) 1 (-52 - ((52 - k : Nat) : Int) + (((1075 : Nat) : Int) - 1075)))) = _
      rw [fp_rrA b1 b2 (by omega) (by omega)]
      rw [show -52 - ((52 - k : Nat) : Int) + (((1075 : Nat) : Int) - 1075) + ((52 : Nat) : Int) = -((52 - k : Nat) : Int) by omega]
    refine ⟨by rw [hs]; exact fp_nn1 b1 b2 (by omega), by rw [hm]; exact fp_nn1 b1 b2 (by omega), ?_⟩
    rw [hm]
    show FP.Core.toL (FP.Core.decode FP.Core.b64 (UInt64.ofNat (FP.Core.encode FP.Core.b64 (.fin false (t * 2 ^ (52 - k)) (-((52 - k : Nat) : Int))))).toNat) = _
    rw [fp_de b1 b2 (by omega) (by omega)]
    show Int64.ofInt (max (-9223372036854775808) (min 9223372036854775807 ((t * 2 ^ (52 - k) * 2 ^ (-((52 - k : Nat) : Int)).toNat / 2 ^ (- -((52 - k : Nat) : Int)).toNat : Nat) : Int))) = _
    rw [show (-((52 - k : Nat) : Int)).toNat = 0 by omega, show (- -((52 - k : Nat) : Int)).toNat = 52 - k by omega, Nat.pow_zero, Nat.mul_one, Nat.mul_div_cancel _ (Nat.two_pow_pos _)]
    rw [show max (-9223372036854775808) (min 9223372036854775807 (t : Int)) = (t : Int) by omega]
/-- the last step of the model: the whole, in units -/
theorem fp_endM {t : Nat} (ht : t < 4503599627370496) : nn64 (FP.dmul (UInt64.ofNat (1023 * 4503599627370496 + t)) (4841369599423283200 : UInt64)) ∧ FP.d2l (FP.dmul (UInt64.ofNat (1023 * 4503599627370496 + t)) (4841369599423283200 : UInt64)) = Int64.ofInt ((t : Int) + 4503599627370496) := by
  have hm : FP.dmul (UInt64.ofNat (1023 * 4503599627370496 + t)) (4841369599423283200 : UInt64) = UInt64.ofNat (FP.Core.encode FP.Core.b64 (.fin false (4503599627370496 + t) 0)) := by
    show UInt64.ofNat (FP.Core.mul FP.Core.b64 (UInt64.ofNat (1023 * 4503599627370496 + t)).toNat (1075 * 4503599627370496 + 0)) = _
    rw [fp_rt (by omega)]
    unfold FP.Core.mul
    rw [fp_dec (by omega) (by omega) ht, fp_dec (by omega) (by omega) (by omega)]
    show UInt64.ofNat (FP.Core.encode FP.Core.b64 (FP.Core.roundRatio FP.Core.b64 false ((4503599627370496 + t) * 2 ^ 52) 1 (((1023 : Nat) : Int) - 1075 + (((1075 : Nat) : Int) - 1075)))) = _
    rw [fp_rrA (by omega) (by omega) (by omega) (by omega)]
    rfl
  refine ⟨by rw [hm]; exact fp_nn1 (by omega) (by omega) (by omega), ?_⟩
  rw [hm]
  show FP.Core.toL (FP.Core.decode FP.Core.b64 (UInt64.ofNat (FP.Core.encode FP.Core.b64 (.fin false (4503599627370496 + t) 0))).toNat) = _
  rw [fp_de (by omega) (by omega) (by omega) (by omega)]
  show Int64.ofInt (max (-9223372036854775808) (min 9223372036854775807 (((4503599627370496 + t) * 1 / 1 : Nat) : Int))) = _
  rw [Nat.mul_one, Nat.div_one]
  rw [show max (-9223372036854775808) (min 9223372036854775807 ((4503599627370496 + t : Nat) : Int)) = (t : Int) + 4503599627370496 by omega]
def fpd : Nat → Int64
  | 0 => 1023
  | k + 1 => fpd k - 1
theorem fp_loops {X : Nat → UInt64} {V : UInt64} {n : Nat} {a : Int64} (hn : n < 1023) (hX : X n = V)
    (hmul : ∀ k, k < n → FP.dmul (X k) (4611686018427387904 : UInt64) = X (k + 1))
    (hlt : ∀ k, k < n → ¬ 0 ≤ Op.cmpValue (FP.dcmp (X k) (0x3ff0000000000000 : UInt64)) .g)
    (hge : 0 ≤ Op.cmpValue (FP.dcmp V (0x3ff0000000000000 : UInt64)) .g)
    (hnn : ∀ k, k ≤ n → nn64 (X k))
    (p1 : nn64 (FP.dsub V (0x3ff0000000000000 : UInt64)))
    (p2 : nn64 (FP.dmul (FP.dsub V (0x3ff0000000000000 : UInt64)) (4841369599423283200 : UInt64)))
    (p3 : FP.d2l (FP.dmul (FP.dsub V (0x3ff0000000000000 : UInt64)) (4841369599423283200 : UInt64)) = a)
    (m1 : nn64 (FP.dmul V (4841369599423283200 : UInt64)))
    (m2 : FP.d2l (FP.dmul V (4841369599423283200 : UInt64)) = a + 4503599627370496)
    (h0 : FP.dcmp (X 0) (0 : UInt64) = some .gt) (h2 : FP.dcmp (X 0) (4611686018427387904 : UInt64) = some .lt) :
    ∃ b, fP_bitsOf (X 0) = some b ∧ fM_bitsOf (X 0) = some b := by
  refine ⟨fpd n <<< ((52 : Int32).toInt64 &&& 63) + a, ?_, ?_⟩
  · unfold fP_bitsOf
    rw [lp_eq (x := (X 0, (1023 : Int64), (0 : Int32))) (S := fun k => (X k, fpd k, nI k)) (N := n) (o := (V, fpd n)) rfl ?_ ?_ (by omega)]
    · simp only [Option.bind_some]
      rw [if_pos p1, if_pos p2, gw_let, p3]
    · intro k hk
      try dsimp only
      rw [if_neg (show ¬ (1023 : Int32) ≤ nI k from nI_ge (b := 1023) (by omega) (by omega)), if_neg (hlt k hk), hmul k hk, if_pos (hnn (k + 1) (by omega)), gw_let]
      try dsimp only
      rw [gw_let]
      try dsimp only
      rw [nI_1]
      rfl
    · try dsimp only
      rw [hX]
      by_cases e0 : (1023 : Int32) ≤ nI n
      · rw [if_pos e0]
      · rw [if_neg e0, if_pos hge]
  · unfold fM_bitsOf
    rw [h0, if_neg (by decide)]
    rw [lp_eq (S := fun _ => (X 0, (1023 : Int64))) (N := 0) (o := (X 0, (1023 : Int64))) rfl (fun k hk => absurd hk (Nat.not_lt_zero k)) ?_ (by omega)]
    · simp only [Option.bind_some]
      rw [lp_eq (x := (X 0, (1023 : Int64))) (S := fun k => (X k, fpd k)) (N := n) (o := (V, fpd n)) rfl ?_ ?_ (by omega)]
      · simp only [Option.bind_some]
        rw [if_pos m1, m2, ← Int64.add_assoc, Int64.add_sub_cancel]
      · intro k hk
        try dsimp only
        rw [if_neg (hlt k hk), hmul k hk, if_pos (hnn (k + 1) (by omega)), gw_let]
        try dsimp only
        rw [gw_let]
        rfl
      · try dsimp only
        rw [hX, if_pos hge]
    · try dsimp only
      rw [h2, if_pos (by decide)]
theorem fp_ofi (t : Int) : Int64.ofInt (t + 4503599627370496) = Int64.ofInt t + 4503599627370496 := by
  rw [Int64.ofInt_add]
  have : Int64.ofInt 4503599627370496 = (4503599627370496 : Int64) := by decide +kernel
  rw [this]
theorem fp_lt1 {e t : Nat} (h1 : 1 ≤ e) (h2 : e < 1023) (ht : t < 4503599627370496) : FP.dcmp (UInt64.ofNat (e * 4503599627370496 + t)) (0x3ff0000000000000 : UInt64) = some .lt := by
  have h := fp_lt (e2 := 1023) h1 h2 (by omega) ht
  have e1 : UInt64.ofNat (1023 * 4503599627370496 + 0) = (0x3ff0000000000000 : UInt64) := by decide +kernel
  rw [e1] at h
  exact h
theorem fp_lt2 {e t : Nat} (h1 : 1 ≤ e) (h2 : e < 1024) (ht : t < 4503599627370496) : FP.dcmp (UInt64.ofNat (e * 4503599627370496 + t)) (4611686018427387904 : UInt64) = some .lt := by
  have h := fp_lt (e2 := 1024) h1 h2 (by omega) ht
  have e1 : UInt64.ofNat (1024 * 4503599627370496 + 0) = (4611686018427387904 : UInt64) := by decide +kernel
  rw [e1] at h
  exact h
def fpX (e t k : Nat) : UInt64 := UInt64.ofNat ((e + k) * 4503599627370496 + t)
theorem fpX_0 (e t : Nat) : fpX e t 0 = UInt64.ofNat (e * 4503599627370496 + t) := by
  rw [fpX, Nat.add_zero]
/-- both read the same bits -/
theorem fp_both {e t : Nat} (h1 : 1 ≤ e) (h2 : e ≤ 1023) (ht : t < 4503599627370496) : ∃ b, fP_bitsOf (UInt64.ofNat (e * 4503599627370496 + t)) = some b ∧ fM_bitsOf (UInt64.ofNat (e * 4503599627370496 + t)) = some b := by
  obtain ⟨n, hn⟩ : ∃ n, e + n = 1023 := ⟨1023 - e, by omega⟩
  obtain ⟨p1, p2, p3⟩ := fp_endP ht
  obtain ⟨m1, m2⟩ := fp_endM ht
  rw [fp_ofi] at m2
  have key := fp_loops (X := fpX e t) (V := UInt64.ofNat (1023 * 4503599627370496 + t)) (n := n) (by omega) (by rw [fpX, hn])
    (fun k hk => by rw [fpX, fpX]; exact fp_dbl (by omega) (by omega) ht)
    (fun k hk => by rw [fpX, fp_lt1 (by omega) (by omega) ht]; decide) (fp_ge ht)
    (fun k hk => by rw [fpX]; exact fp_nn0 (by omega)) p1 p2 p3 m1 m2
    (by rw [fpX_0]; exact fp_gt0 h1 (by omega) ht) (by rw [fpX_0]; exact fp_lt2 h1 (by omega) ht)
  rw [fpX_0] at key
  exact key
/-- a whole number as a double -/
theorem fp_i2d {u k : Nat} (h1 : 2 ^ k ≤ u) (h2 : u < 2 ^ (k + 1)) (hk : k ≤ 20) : FP.Core.decode FP.Core.b64 (FP.i2d (nI u)).toNat = .fin false (u * 2 ^ (52 - k)) (-((52 - k : Nat) : Int)) := by
  have hu : u < 2147483648 := by
    have : 2 ^ (k + 1) ≤ 2 ^ 21 := Nat.pow_le_pow_right (by omega) (by omega)
    omega
  obtain ⟨b1, b2⟩ := fp_two h1 h2 (by omega)
  have hr := fp_rrB (q := 0) h1 h2 (by omega) (by omega) (by omega)
  have : FP.i2d (nI u) = UInt64.ofNat (FP.Core.encode FP.Core.b64 (.fin false (u * 2 ^ (52 - k)) (-((52 - k : Nat) : Int)))) := by
    show UInt64.ofNat (FP.Core.encode FP.Core.b64 (FP.Core.round FP.Core.b64 (FP.Core.ofInt (nI u).toInt))) = _
    rw [nI_toInt (by omega)]
    have e1 : FP.Core.ofInt (u : Int) = .fin false u 0 := by
      unfold FP.Core.ofInt
      rw [decide_eq_false (show ¬ (u : Int) < 0 by omega), Int.natAbs_natCast]
    rw [e1]
    show UInt64.ofNat (FP.Core.encode FP.Core.b64 (FP.Core.roundRatio FP.Core.b64 false u 1 0)) = _
    rw [hr, show (0 : Int) - ((52 - k : Nat) : Int) = -((52 - k : Nat) : Int) by omega]
  rw [this, fp_de b1 b2 (by omega) (by omega)]
theorem fp_log {c : Nat} (h1 : 4503599627370496 ≤ c) (h2 : c < 9007199254740992) : c.log2 = 52 := by
  have hn : c ≠ 0 := by omega
  exact Nat.le_antisymm (Nat.lt_succ_iff.mp ((Nat.log2_lt hn).mpr h2)) ((Nat.le_log2 hn).mpr h1)
theorem fp_near {n d a b : Nat} (hd : 0 < d) (h1 : a * d ≤ n) (h2 : n < b * d) : a ≤ FP.Core.nearest n d ∧ FP.Core.nearest n d ≤ b := by
  have q1 : a ≤ n / d := (Nat.le_div_iff_mul_le hd).mpr h1
  have q2 : n / d < b := (Nat.div_lt_iff_lt_mul hd).mpr h2
  unfold FP.Core.nearest
  split
  · omega
  · split <;> omega
/-- a settled significand -/
theorem fp_set {m : Nat} {q : Int} (h1 : 4503599627370496 ≤ m) (h2 : m ≤ 9007199254740992) (hq : q ≤ 900) : ∃ c, 4503599627370496 ≤ c ∧ c < 9007199254740992 ∧ ∃ r, FP.Core.settle FP.Core.b64 false m q = .fin false c r ∧ q ≤ r ∧ r ≤ q + 1 ∧ (m < 9007199254740992 → r = q) := by
  by_cases e : m < 9007199254740992
  · exact ⟨m, h1, e, q, fp_settle e (by omega), by omega, by omega, fun _ => rfl⟩
  · refine ⟨4503599627370496, by omega, by omega, q + 1, ?_, by omega, by omega, fun a => absurd a e⟩
    show (if m < 9007199254740992 then _ else (if q + 1 ≤ 971 then FP.Core.Datum.fin false 4503599627370496 (q + 1) else .inf false)) = _
    rw [if_neg e, if_pos (by omega)]
theorem fp_div {c d : Nat} {q : Int} (c1 : 4503599627370496 ≤ c) (c2 : c < 9007199254740992) (d1 : 4503599627370496 ≤ d) (d2 : d < 9007199254740992) (hq1 : -100 ≤ q) (hq2 : q ≤ 0) (hcd : c ≤ d ∨ q < 0) : ∃ m r, 4503599627370496 ≤ m ∧ m < 9007199254740992 ∧ -200 ≤ r ∧ r ≤ -52 ∧ FP.Core.roundRatio FP.Core.b64 false c d q = .fin false m r := by
  have hl : FP.Core.leading c d = if d ≤ c then 0 else -1 := by
    unfold FP.Core.leading
    rw [fp_log c1 c2, fp_log d1 d2]
    show (if d * 1 ≤ c * 1 then (0 : Int) else 0 - 1) = _
    rw [Nat.mul_one, Nat.mul_one]
    rfl
  unfold FP.Core.roundRatio
  rw [if_neg (by omega)]
  unfold FP.Core.roundAt
  by_cases e : d ≤ c
  · rw [if_pos e] at hl
    have hQ : FP.Core.quantum FP.Core.b64 c d q = q - 52 := by
      unfold FP.Core.quantum
      rw [hl]
      show max (-1074 : Int) ((0 : Int) + q - ((53 : Int) - 1)) = _
      omega
    have hN : FP.Core.unitsNum c q (q - 52) = c * 4503599627370496 := by
      unfold FP.Core.unitsNum
      rw [show (q - (q - 52)).toNat = 52 by omega]
    have hD : FP.Core.unitsDen d q (q - 52) = d := by
      unfold FP.Core.unitsDen
      rw [show (q - 52 - q).toNat = 0 by omega, Nat.pow_zero, Nat.mul_one]
    rw [hQ, hN, hD]
    rcases hcd with hcd | hcd
    · have : c = d := by omega
      subst this
      have hn : FP.Core.nearest (c * 4503599627370496) c = 4503599627370496 := by
        rw [Nat.mul_comm]; exact fp_nearm _ (by omega)
      rw [hn, fp_settle (by omega) (by omega)]
      exact ⟨_, _, by omega, by omega, by omega, by omega, rfl⟩
    · have hn := fp_near (n := c * 4503599627370496) (d := d) (a := 4503599627370496) (b := 9007199254740992) (by omega) (by omega) (by omega)
      obtain ⟨m, m1, m2, r, m3, m4, m5, m6⟩ := fp_set (q := q - 52) hn.1 hn.2 (by omega)
      exact ⟨m, r, m1, m2, by omega, by omega, m3⟩
  · rw [if_neg e] at hl
    have hQ : FP.Core.quantum FP.Core.b64 c d q = q - 53 := by
      unfold FP.Core.quantum
      rw [hl]
      show max (-1074 : Int) ((-1 : Int) + q - ((53 : Int) - 1)) = _
      omega
    have hN : FP.Core.unitsNum c q (q - 53) = c * 9007199254740992 := by
      unfold FP.Core.unitsNum
      rw [show (q - (q - 53)).toNat = 53 by omega]
    have hD : FP.Core.unitsDen d q (q - 53) = d := by
      unfold FP.Core.unitsDen
      rw [show (q - 53 - q).toNat = 0 by omega, Nat.pow_zero, Nat.mul_one]
    rw [hQ, hN, hD]
    have hn := fp_near (n := c * 9007199254740992) (d := d) (a := 4503599627370496) (b := 9007199254740992) (by omega) (by omega) (by omega)
    obtain ⟨m, m1, m2, r, m3, m4, m5, m6⟩ := fp_set (q := q - 53) hn.1 hn.2 (by omega)
    exact ⟨m, r, m1, m2, by omega, by omega, m3⟩
/-- the share lies in the doubles from nought to one -/
theorem fp_share {u v : Nat} (h1 : 1 ≤ u) (h2 : u ≤ v) (hv : v < 1048576) : ∃ e t, 1 ≤ e ∧ e ≤ 1023 ∧ t < 4503599627370496 ∧ FP.ddiv (FP.i2d (nI u)) (FP.i2d (nI v)) = UInt64.ofNat (e * 4503599627370496 + t) := by
  have hb : ∀ n : Nat, n ≠ 0 → n < 1048576 → 2 ^ n.log2 ≤ n ∧ n < 2 ^ (n.log2 + 1) ∧ n.log2 ≤ 20 := by
    intro n hn hm
    refine ⟨(Nat.le_log2 hn).mp (Nat.le_refl _), (Nat.log2_lt hn).mp (Nat.lt_succ_self _), ?_⟩
    have : n.log2 < 20 := (Nat.log2_lt hn).mpr hm
    omega
  obtain ⟨u1, u2, u3⟩ := hb u (by omega) (by omega)
  obtain ⟨v1, v2, v3⟩ := hb v (by omega) (by omega)
  generalize u.log2 = k at u1 u2 u3
  generalize v.log2 = l at v1 v2 v3
  obtain ⟨c1, c2⟩ := fp_two u1 u2 (by omega)
  obtain ⟨d1, d2⟩ := fp_two v1 v2 (by omega)
  have hkl : k ≤ l := by
    rcases Nat.lt_or_ge l k with a | a
    · have : 2 ^ (l + 1) ≤ 2 ^ k := Nat.pow_le_pow_right (by omega) a
      omega
    · exact a
  have hcd : u * 2 ^ (52 - k) ≤ v * 2 ^ (52 - l) ∨ -((52 - k : Nat) : Int) - -((52 - l : Nat) : Int) < 0 := by
    by_cases a : k = l
    · exact Or.inl (by rw [a]; exact Nat.mul_le_mul_right _ h2)
    · exact Or.inr (by omega)
  obtain ⟨m, r, m1, m2, r1, r2, hr⟩ := fp_div (q := -((52 - k : Nat) : Int) - -((52 - l : Nat) : Int)) c1 c2 d1 d2 (by omega) (by omega) hcd
  have hd : FP.ddiv (FP.i2d (nI u)) (FP.i2d (nI v)) = UInt64.ofNat (FP.Core.encode FP.Core.b64 (.fin false m r)) := by
    show UInt64.ofNat (FP.Core.encode FP.Core.b64 (FP.Core.quotient FP.Core.b64 (FP.Core.decode FP.Core.b64 (FP.i2d (nI u)).toNat) (FP.Core.decode FP.Core.b64 (FP.i2d (nI v)).toNat))) = _
    rw [fp_i2d u1 u2 u3, fp_i2d v1 v2 v3]
    show UInt64.ofNat (FP.Core.encode FP.Core.b64 (if v * 2 ^ (52 - l) = 0 then _ else FP.Core.roundRatio FP.Core.b64 false (u * 2 ^ (52 - k)) (v * 2 ^ (52 - l)) (-((52 - k : Nat) : Int) - -((52 - l : Nat) : Int)))) = _
    rw [if_neg (by omega), hr]
  rw [fp_enc m1] at hd
  exact ⟨(r + 1074).toNat + 1, m - 4503599627370496, by omega, by omega, by omega, hd⟩
/-- the share of the cells that are used, as bits -/
def fpv (u g : Nat) : UInt64 := FP.ddiv (FP.i2d (nI u)) (FP.i2d (nI (g + 1)))
theorem fp_nn {u g : Nat} (hg : g < 160) (h1 : 1 ≤ u) (h2 : u ≤ g + 1) : nn64 (fpv u g) := by
  obtain ⟨e, t, e1, e2, ht, h⟩ := fp_share h1 h2 (by omega)
  rw [fpv, h]
  exact fp_nn0 (by omega)
theorem fp_bits {u g : Nat} (hg : g < 160) (h1 : 1 ≤ u) (h2 : u ≤ g + 1) : ∃ b, fP_bitsOf (fpv u g) = some b ∧ fM_bitsOf (fpv u g) = some b := by
  obtain ⟨e, t, e1, e2, ht, h⟩ := fp_share h1 h2 (by omega)
  rw [fpv, h]
  exact fp_both e1 e2 ht
