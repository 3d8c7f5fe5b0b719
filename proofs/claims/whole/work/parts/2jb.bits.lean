/-! bits of a set of squares: how many, which -/
theorem bit0 (a s : Nat) : (nI (a / 2 ^ s % 2) = (0 : Int32)) ↔ ¬ a.testBit s = true := by
  rw [bit_dec, i0, nI_eq (by omega) (by decide)]
  omega
theorem bit1 (a s : Nat) : (nI (a / 2 ^ s % 2) = (1 : Int32)) ↔ a.testBit s = true := by
  rw [bit_dec, i1, nI_eq (by omega) (by decide)]

theorem ushA : (((1 : Int32).toUInt32 &&& Int32.toUInt32 31).toBitVec % 32).toNat = 1 := by decide
theorem ushB : (((2 : Int32).toUInt32 &&& Int32.toUInt32 31).toBitVec % 32).toNat = 2 := by decide
theorem ushC : (((4 : Int32).toUInt32 &&& Int32.toUInt32 31).toBitVec % 32).toNat = 4 := by decide
theorem ushD : (((8 : Int32).toUInt32 &&& Int32.toUInt32 31).toBitVec % 32).toNat = 8 := by decide
theorem ushE : (((16 : Int32).toUInt32 &&& Int32.toUInt32 31).toBitVec % 32).toNat = 16 := by decide
theorem c_bc {x : Nat} (hx : x < 65536) (N : Nat) : fJ6_bitCount_0f7a4 N (nI x) = some (nI (pcn x)) := by
  have b1 : bc1 x ≤ x := Nat.sub_le _ _
  have b2 : bc2 (bc1 x) ≤ bc1 x + bc1 x / 2 ^ 2 := Nat.add_le_add Nat.and_le_left Nat.and_le_left
  have b3 : bc3 (bc2 (bc1 x)) ≤ bc2 (bc1 x) + bc2 (bc1 x) / 2 ^ 4 := Nat.and_le_left
  have b4 : bc4 (bc3 (bc2 (bc1 x))) = bc3 (bc2 (bc1 x)) + bc3 (bc2 (bc1 x)) / 2 ^ 8 := rfl
  have e1 : nI x - (((nI x).toUInt32 >>> ((1 : Int32).toUInt32 &&& Int32.toUInt32 31)).toInt32 &&& (1431655765 : Int32)) = nI (bc1 x) := by
    rw [pk_ushrN (by omega) _ 1 ushA, show (1431655765 : Int32) = nI 1431655765 from rfl, and_nI, pk_sub (Nat.le_trans Nat.and_le_left (Nat.div_le_self _ _))]
    rfl
  have e2 : ((nI (bc1 x) &&& (858993459 : Int32)) + (((nI (bc1 x)).toUInt32 >>> ((2 : Int32).toUInt32 &&& Int32.toUInt32 31)).toInt32 &&& (858993459 : Int32))) = nI (bc2 (bc1 x)) := by
    rw [pk_ushrN (by omega) _ 2 ushB, show (858993459 : Int32) = nI 858993459 from rfl, and_nI, and_nI, nI_add]
    rfl
  have e3 : ((nI (bc2 (bc1 x)) + ((nI (bc2 (bc1 x))).toUInt32 >>> ((4 : Int32).toUInt32 &&& Int32.toUInt32 31)).toInt32) &&& (252645135 : Int32)) = nI (bc3 (bc2 (bc1 x))) := by
    rw [pk_ushrN (by omega) _ 4 ushC, show (252645135 : Int32) = nI 252645135 from rfl, nI_add, and_nI]
    rfl
  have e4 : (nI (bc3 (bc2 (bc1 x))) + ((nI (bc3 (bc2 (bc1 x)))).toUInt32 >>> ((8 : Int32).toUInt32 &&& Int32.toUInt32 31)).toInt32) = nI (bc4 (bc3 (bc2 (bc1 x)))) := by
    rw [pk_ushrN (by omega) _ 8 ushD, nI_add]
    rfl
  have e5 : ((nI (bc4 (bc3 (bc2 (bc1 x)))) + ((nI (bc4 (bc3 (bc2 (bc1 x))))).toUInt32 >>> ((16 : Int32).toUInt32 &&& Int32.toUInt32 31)).toInt32) &&& (63 : Int32)) = nI (bc5 (bc4 (bc3 (bc2 (bc1 x))))) := by
    rw [pk_ushrN (by omega) _ 16 ushE, nI_add, show (63 : Int32) = nI 63 from rfl, and_nI]
    rfl
  unfold fJ6_bitCount_0f7a4
  rw [e1, e2, e3, e4, e5]
  rw [bc_ok hx]
/-- what lies below the least bit of a number -/
theorem pred_bit {x s : Nat} (hs : x.testBit s = true) (hl : ∀ b, b < s → x.testBit b = false) (b : Nat) : (x - 1).testBit b = if b < s then true else if b = s then false else x.testBit b := by
  have h1 := (bit_dec x s).mp hs
  have h2 : x % 2 ^ s = 0 := by
    apply Nat.eq_of_testBit_eq
    intro i
    rw [Nat.testBit_mod_two_pow, Nat.zero_testBit]
    by_cases q : i < s
    · rw [hl i q, Bool.and_false]
    · rw [decide_eq_false q, Bool.false_and]
  obtain ⟨y, hy⟩ : ∃ y, x / 2 ^ s = 2 * y + 1 := ⟨x / 2 ^ s / 2, by omega⟩
  have hx : x = 2 ^ s * (2 * y + 1) := by
    have := Nat.div_add_mod x (2 ^ s)
    rw [h2, hy] at this
    omega
  have hp : 0 < 2 ^ s := Nat.two_pow_pos s
  have hx1 : x - 1 = 2 ^ s * (2 * y) + (2 ^ s - 1) := by
    rw [hx, Nat.mul_add, Nat.mul_one]
    omega
  rw [hx1, Nat.testBit_two_pow_mul_add _ (by omega)]
  by_cases q : b < s
  · rw [if_pos q, if_pos q, Nat.testBit_two_pow_sub_one, decide_eq_true q]
  · rw [if_neg q, if_neg q]
    by_cases u : b = s
    · rw [if_pos u, u, Nat.sub_self, Nat.testBit_zero]
      exact decide_eq_false (by omega)
    · rw [if_neg u, hx]
      have e := Nat.testBit_two_pow_mul_add (2 * y + 1) (b := 0) hp b
      rw [Nat.add_zero, if_neg q] at e
      rw [e]
      obtain ⟨d, hd⟩ : ∃ d, b - s = d + 1 := ⟨b - s - 1, by omega⟩
      rw [hd, Nat.testBit_add_one, Nat.testBit_add_one, show 2 * y / 2 = y by omega, show (2 * y + 1) / 2 = y by omega]
theorem least_bit {x : Nat} (hx : x ≠ 0) : ∃ s, x.testBit s = true ∧ ∀ b, b < s → x.testBit b = false := by
  have h1 : ∃ s, x.testBit s = true := by
    rcases Classical.em (∃ s, x.testBit s = true) with q | q
    · exact q
    · exfalso
      apply hx
      apply Nat.eq_of_testBit_eq
      intro i
      rw [Nat.zero_testBit]
      cases e : x.testBit i
      · rfl
      · exact absurd ⟨i, e⟩ q
  obtain ⟨s, hs⟩ := h1
  obtain ⟨k, h2, h3⟩ := pk_least (fun s => x.testBit s = true) ⟨s, hs⟩
  exact ⟨k, h2, fun b hb => by
    cases e : x.testBit b
    · rfl
    · exact absurd e (h3 b hb)⟩
theorem bit_16 {x s : Nat} (hx : x < 2 ^ 16) (hs : x.testBit s = true) : s < 16 := by
  rcases Nat.lt_or_ge s 16 with u | u
  · exact u
  · have h2 : x < 2 ^ s := Nat.lt_of_lt_of_le hx (Nat.pow_le_pow_right (by decide) u)
    rw [Nat.testBit_lt_two_pow h2] at hs
    cases hs
/-- the least bit alone -/
theorem low_neg {x s : Nat} (hx : x < 2 ^ 16) (hs : x.testBit s = true) (hl : ∀ b, b < s → x.testBit b = false) : nI x &&& (-(nI x)) = nI (2 ^ s) := by
  have hs16 := bit_16 hx hs
  have h0 : 0 < x := by
    rcases Nat.eq_zero_or_pos x with q | q
    · rw [q, Nat.zero_testBit] at hs; cases hs
    · exact q
  have en : -(nI x) = nI (2 ^ 32 - x) := by
    have h1 : nI x + nI (2 ^ 32 - x) = 0 := by
      rw [nI_add, show x + (2 ^ 32 - x) = 2 ^ 32 by omega]
      decide
    have h2 : -(nI x) + (nI x + nI (2 ^ 32 - x)) = -(nI x) + 0 := by rw [h1]
    rw [← Int32.add_assoc, Int32.add_left_neg, Int32.zero_add, Int32.add_zero] at h2
    exact h2.symm
  rw [en, and_nI]
  congr 1
  apply Nat.eq_of_testBit_eq
  intro b
  have e2 := Nat.testBit_two_pow_sub_succ (x := x - 1) (n := 32) (by omega) b
  rw [show x - 1 + 1 = x by omega, pred_bit hs hl] at e2
  rw [Nat.testBit_and, e2, Nat.testBit_two_pow]
  by_cases q : b < s
  · rw [hl b q, Bool.false_and]
    exact (decide_eq_false (by omega)).symm
  · rw [if_neg q]
    by_cases u : b = s
    · rw [if_pos u, u, hs, decide_eq_true (show s < 32 by omega), decide_eq_true rfl]
      rfl
    · rw [if_neg u, decide_eq_false (show ¬ s = b from fun r => u r.symm)]
      cases x.testBit b
      · rfl
      · simp
/-- the n-th bit -/
def kthB (x n s : Nat) : Prop := x.testBit s = true ∧ fb_ct (fun i => x.testBit i) s = n
def clrN (x : Nat) : Nat → Nat
  | 0 => x
  | n + 1 => clrN x n &&& (clrN x n - 1)
theorem clrN_bit {x : Nat} : ∀ n b, (clrN x n).testBit b = (x.testBit b && decide (n ≤ fb_ct (fun i => x.testBit i) b))
  | 0, b => by simp [clrN]
  | n + 1, b => by
    have ih := clrN_bit (x := x) n
    show (clrN x n &&& (clrN x n - 1)).testBit b = _
    rw [Nat.testBit_and]
    by_cases h0 : clrN x n = 0
    · have hb := ih b
      rw [h0, Nat.zero_testBit] at hb
      rw [h0, Nat.zero_testBit, Bool.false_and]
      cases q : x.testBit b
      · rfl
      · rw [q, Bool.true_and] at hb
        have := of_decide_eq_false hb.symm
        rw [Bool.true_and]
        exact (decide_eq_false (by omega)).symm
    · obtain ⟨s, hs, hl⟩ := least_bit h0
      have hss := hs
      rw [ih s] at hss
      simp only [Bool.and_eq_true, decide_eq_true_eq] at hss
      have hct : fb_ct (fun i => x.testBit i) s = n := by
        rcases Nat.lt_or_ge n (fb_ct (fun i => x.testBit i) s) with q | q
        · exfalso
          obtain ⟨i, hi, h1, h2⟩ := fb_ct_kth q
          have h3 := hl i hi
          rw [ih i, h2, h1] at h3
          simp at h3
        · omega
      rw [pred_bit hs hl]
      by_cases q : b < s
      · rw [hl b q, Bool.false_and]
        have h3 := hl b q
        rw [ih b] at h3
        cases u : x.testBit b
        · rfl
        · rw [u, Bool.true_and] at h3
          have := of_decide_eq_false h3
          rw [Bool.true_and]
          exact (decide_eq_false (by omega)).symm
      · rw [if_neg q]
        by_cases u : b = s
        · rw [if_pos u, Bool.and_false, u, hct, decide_eq_false (show ¬ n + 1 ≤ n by omega), Bool.and_false]
        · rw [if_neg u, ih b, Bool.and_self]
          have hm := fb_ct_mono (fun i => x.testBit i) (show s + 1 ≤ b by omega)
          rw [fb_ct_succ, hct, if_pos hss.1] at hm
          rw [decide_eq_true (show n ≤ fb_ct (fun i => x.testBit i) b by omega), decide_eq_true hm]
theorem clrN_le (x : Nat) : ∀ n, clrN x n ≤ x
  | 0 => Nat.le_refl x
  | n + 1 => Nat.le_trans Nat.and_le_left (clrN_le x n)
theorem c_clr (y : Nat) : nI y &&& (nI y - 1) = nI (y &&& (y - 1)) := by
  rcases Nat.eq_zero_or_pos y with q | q
  · subst q; decide
  · rw [i1, pk_sub q, and_nI]
theorem bc_low : ∀ s, s < 16 → pcn (2 ^ s - 1) = s := by decide +kernel
theorem c_nth {x n N : Nat} (hx : x < 2 ^ 16) (hn : n < 1000) (hN : 2000 < N) : (∀ s, kthB x n s → fX4_nthSquare N (nI x) (nI n) = some (nI s)) ∧ ((∀ s, ¬ kthB x n s) → fX4_nthSquare N (nI x) (nI n) = some (-1)) := by
  obtain ⟨r, hr, hr2⟩ := lpN (fun ct s i => fX4_nthSquare_L4 N (nI n) ct s i) n (fun i s => s = nI (clrN x i)) (fun s => s = nI (clrN x n)) (by
      intro ct i s hi hI
      left
      refine ⟨nI (clrN x (i + 1)), rfl, ?_⟩
      show fX4_nthSquare_L4 N (nI n) (ct + 1) s (nI i) = fX4_nthSquare_L4 N (nI n) ct (nI (clrN x (i + 1))) (nI (i + 1))
      rw [fX4_nthSquare_L4, if_neg (nI_ge hi (by omega)), hI, c_clr, nI_1]
      rfl) (by
      intro ct s hI
      refine ⟨s, ?_, hI⟩
      show fX4_nthSquare_L4 N (nI n) (ct + 1) s (nI n) = _
      rw [fX4_nthSquare_L4, if_pos (nI_le (Nat.le_refl _) (by omega))]) n 0 N (nI x) (by omega) (by omega) rfl
  have hle := clrN_le x n
  have h31 := p16_31
  have start : fX4_nthSquare N (nI x) (nI n) = (if nI (clrN x n) = 0 then (some (-1 : Int32)) else (Option.bind (fJ6_bitCount_0f7a4 N ((nI (clrN x n) &&& (-(nI (clrN x n)))) - (1 : Int32))) (fun u8 => some u8))) := by
    unfold fX4_nthSquare
    rw [i0, hr, hr2]
    rfl
  rw [start]
  constructor
  · rintro s ⟨h1, h2⟩
    have hsb : (clrN x n).testBit s = true := by rw [clrN_bit, h1, h2]; simp
    have h0 : clrN x n ≠ 0 := fun q => by rw [q, Nat.zero_testBit] at hsb; cases hsb
    have hl : ∀ b, b < s → (clrN x n).testBit b = false := fun b hb => by
      rw [clrN_bit]
      cases q : x.testBit b
      · rfl
      · have hm := fb_ct_mono (fun i => x.testBit i) (show b + 1 ≤ s by omega)
        rw [fb_ct_succ, if_pos q] at hm
        rw [Bool.true_and]
        exact decide_eq_false (by omega)
    have hs16 := bit_16 hx h1
    have h2s : 2 ^ s ≤ 2 ^ 15 := Nat.pow_le_pow_right (by decide) (by omega)
    rw [if_neg (nI_ne0 (by omega) (by omega)), low_neg (by omega) hsb hl, i1, pk_sub Nat.one_le_two_pow, c_bc (by
      have : (2 : Nat) ^ 15 < 65536 := by decide
      omega), bc_low s hs16]
    rfl
  · intro hno
    have h0 : clrN x n = 0 := by
      rcases Classical.em (clrN x n = 0) with q | q
      · exact q
      · exfalso
        obtain ⟨s, hs, hl⟩ := least_bit q
        have hss := hs
        rw [clrN_bit] at hss
        simp only [Bool.and_eq_true, decide_eq_true_eq] at hss
        rcases Nat.lt_or_ge n (fb_ct (fun i => x.testBit i) s) with u | u
        · obtain ⟨i, hi, h1, h2⟩ := fb_ct_kth u
          exact hno i ⟨h1, h2⟩
        · exact hno s ⟨hss.1, by omega⟩
    rw [h0, if_pos (show nI 0 = (0 : Int32) from rfl)]
theorem m_nth {x N : Nat} (hx : x < 2 ^ 16) (hN : 100 < N) {n : Nat} (hn : n < 2 ^ 31) : (∀ s, kthB x n s → fX5_bitOf N (nI x) (nI n) = some (nI s)) ∧ ((∀ s, ¬ kthB x n s) → fX5_bitOf N (nI x) (nI n) = some (-1)) := by
  have h31 := p16_31
  obtain ⟨r, hr, hr2⟩ := lpN (fun ct s i => fX5_bitOf_L4 N (nI x) (nI n) ct s i) 16 (fun i s => fb_ct (fun i => x.testBit i) i ≤ n ∧ s = nI (n - fb_ct (fun i => x.testBit i) i)) (fun v => (∃ s, kthB x n s ∧ v = .inl (nI s)) ∨ ((∀ s, ¬ kthB x n s) ∧ v = .inr ())) (by
      rintro ct i s hi ⟨i1, i2⟩
      have hc := fb_ct_succ (fun i => x.testBit i) i
      have hb : (nI x >>> (nI i &&& 31)) &&& (1 : Int32) = nI (x / 2 ^ i % 2) := bitI (by omega) (by omega)
      by_cases q : x.testBit i = true
      · rw [if_pos q] at hc
        by_cases u : fb_ct (fun i => x.testBit i) i = n
        · right
          refine ⟨.inl (nI i), ?_, Or.inl ⟨i, ⟨q, u⟩, rfl⟩⟩
          show fX5_bitOf_L4 N (nI x) (nI n) (ct + 1) s (nI i) = _
          rw [fX5_bitOf_L4, if_neg (show ¬ (16 : Int32) ≤ nI i from nI_ge hi (by decide)), if_neg (nI_pos hn), hb, if_pos ((bit1 x i).mpr q), i2, if_pos (by rw [u, Nat.sub_self]; rfl)]
        · left
          refine ⟨nI (n - fb_ct (fun i => x.testBit i) (i + 1)), ⟨by omega, rfl⟩, ?_⟩
          show fX5_bitOf_L4 N (nI x) (nI n) (ct + 1) s (nI i) = fX5_bitOf_L4 N (nI x) (nI n) ct _ (nI (i + 1))
          rw [fX5_bitOf_L4, if_neg (show ¬ (16 : Int32) ≤ nI i from nI_ge hi (by decide)), if_neg (nI_pos hn), hb, if_pos ((bit1 x i).mpr q), i2, if_neg (nI_ne0 (by omega) (by omega)), nI_1]
          obtain ⟨d, hd⟩ : ∃ d, n - fb_ct (fun i => x.testBit i) i = d + 1 := ⟨n - fb_ct (fun i => x.testBit i) i - 1, by omega⟩
          rw [hd, pk_m1, show n - fb_ct (fun i => x.testBit i) (i + 1) = d by omega]
      · rw [if_neg q] at hc
        left
        refine ⟨s, ⟨by omega, by rw [hc, Nat.add_zero]; exact i2⟩, ?_⟩
        show fX5_bitOf_L4 N (nI x) (nI n) (ct + 1) s (nI i) = fX5_bitOf_L4 N (nI x) (nI n) ct s (nI (i + 1))
        rw [fX5_bitOf_L4, if_neg (show ¬ (16 : Int32) ≤ nI i from nI_ge hi (by decide)), if_neg (nI_pos hn), hb, if_neg (fun v => q ((bit1 x i).mp v)), nI_1]) (by
      rintro ct s ⟨i1, i2⟩
      refine ⟨.inr (), ?_, Or.inr ⟨fun s ⟨h1, h2⟩ => ?_, rfl⟩⟩
      · show fX5_bitOf_L4 N (nI x) (nI n) (ct + 1) s (nI 16) = _
        rw [fX5_bitOf_L4, if_pos (by decide)]
      · have hs16 := bit_16 hx h1
        have hm := fb_ct_mono (fun i => x.testBit i) (show s + 1 ≤ 16 by omega)
        rw [fb_ct_succ, if_pos h1] at hm
        omega) 16 0 N (nI n) (by omega) (by omega) ⟨Nat.zero_le n, rfl⟩
  have start : fX5_bitOf N (nI x) (nI n) = onS r (fun r15 => some r15) (fun e14 => some (-1 : Int32)) := by
    unfold fX5_bitOf
    rw [i0, hr]
    rfl
  rw [start]
  rcases hr2 with ⟨s, h1, h2⟩ | ⟨h1, h2⟩
  · subst h2
    refine ⟨fun t ht => ?_, fun no => absurd h1 (no s)⟩
    rw [fb_ct_kth_one h1.1 ht.1 (h1.2.trans ht.2.symm)]
    rfl
  · subst h2
    exact ⟨fun t ht => absurd ht (h1 t), fun _ => rfl⟩
theorem m_nthN {x : Nat} {a : Int32} {N : Nat} (hN : 100 < N) (ha : a < 0) : fX5_bitOf N (nI x) a = some (-1) := by
  obtain ⟨M, rfl⟩ : ∃ M, N = M + 1 := ⟨N - 1, by omega⟩
  unfold fX5_bitOf
  rw [fX5_bitOf_L4, if_neg (by decide), if_pos ha]
  rfl
/-- there is an n-th bit just below the count -/
theorem kthB_ex {x n : Nat} (hx : x < 2 ^ 16) : (∃ s, kthB x n s) ↔ n < pcn x := by
  constructor
  · rintro ⟨s, h1, h2⟩
    have hs16 := bit_16 hx h1
    have hm := fb_ct_mono (fun i => x.testBit i) (show s + 1 ≤ 16 by omega)
    rw [fb_ct_succ, if_pos h1] at hm
    unfold pcn
    omega
  · intro q
    obtain ⟨i, hi, h1, h2⟩ := fb_ct_kth q
    exact ⟨i, h1, h2⟩
theorem m_pc {N : Nat} : ∀ (d x acc ct : Nat), x < 2 ^ d → d < 31 → d < ct → fX5_threats_L30 N ct (nI x) (nI acc) = some (nI (acc + fb_ct (fun s => x.testBit s) d))
  | 0, x, acc, 0, _, _, h => absurd h (Nat.not_lt_zero 0)
  | d + 1, x, acc, 0, _, _, h => absurd h (Nat.not_lt_zero _)
  | 0, x, acc, ct + 1, hx, _, _ => by
    have e : x = 0 := by
      rw [Nat.pow_zero] at hx
      omega
    subst e
    rw [fX5_threats_L30, if_pos (show nI 0 = (0 : Int32) from rfl)]
    rfl
  | d + 1, x, acc, ct + 1, hx, hd, hc => by
    have h31 : x < 2 ^ 31 := Nat.lt_of_lt_of_le hx (Nat.pow_le_pow_right (by decide) (by omega))
    have esplit := fb_ct_split (fun s => x.testBit s) 1 d
    have e1 : fb_ct (fun s => x.testBit s) 1 = x % 2 := by
      show 0 + (if x.testBit 0 = true then 1 else 0) = _
      rw [Nat.testBit_zero]
      rcases Nat.mod_two_eq_zero_or_one x with q | q <;> rw [q] <;> rfl
    have e2 : fb_ct (fun k => x.testBit (1 + k)) d = fb_ct (fun s => (x / 2).testBit s) d := fb_ct_cong (fun s _ => by rw [Nat.add_comm 1 s, Nat.testBit_add_one])
    rw [e1, e2, Nat.add_comm 1 d] at esplit
    by_cases h0 : x = 0
    · subst h0
      have z : fb_ct (fun s => (0 : Nat).testBit s) (d + 1) = 0 := fb_ct_zero.mpr (fun k _ => Nat.zero_testBit k)
      rw [fX5_threats_L30, if_pos (show nI 0 = (0 : Int32) from rfl), z]
      rfl
    · have hs : nI x >>> ((1 : Int32) &&& 31) = nI (x / 2) := shrN (a := x) (s := 1) (by decide) h31
      have hm := fa_mask x 1
      rw [Nat.pow_one] at hm
      have hm' : nI x &&& (1 : Int32) = nI (x % 2) := hm
      rw [Nat.pow_succ] at hx
      rw [fX5_threats_L30, if_neg (nI_ne0 (by omega) h31), hs, hm', nI_add, m_pc d (x / 2) (acc + x % 2) ct (by omega) (by omega) (by omega), esplit, Nat.add_assoc]
