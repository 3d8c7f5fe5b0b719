/-! eight positions in a long: the bytes -/
def byt (kf : Nat → Int64) (q : Nat) : Nat := (kf (q / 8)).toBitVec.toNat >>> (8 * (q % 8)) % 256
theorem sh8a : ∀ r, r < 8 → ((nI r <<< ((3 : Int32) &&& 31)).toInt64.toUInt64 &&& Int64.toUInt64 63) = UInt64.ofNat (8 * r) := by decide +kernel
theorem sh8b : ∀ r, r < 8 → (((nI r <<< ((3 : Int32) &&& 31)).toInt64 &&& (63 : Int64)).toBitVec.smod 64).toNat = 8 * r := by decide +kernel
theorem sh8c : ∀ r, r < 8 → (UInt64.ofNat (8 * r)).toNat % 64 = 8 * r := by decide +kernel
theorem byt_get (x : Int64) {r : Nat} (hr : r < 8) : ((x.toUInt64 >>> UInt64.ofNat (8 * r)).toInt64.toInt32 &&& (255 : Int32)) = nI (x.toBitVec.toNat >>> (8 * r) % 256) := by
  have e1 : (x.toUInt64 >>> UInt64.ofNat (8 * r)).toInt64.toInt32.toBitVec.toNat = (x.toUInt64 >>> UInt64.ofNat (8 * r)).toNat % 2 ^ 32 := by
    show ((x.toUInt64 >>> UInt64.ofNat (8 * r)).toBitVec.signExtend 32).toNat = _
    rw [BitVec.signExtend_eq_setWidth_of_le _ (by decide), BitVec.toNat_setWidth]
    rfl
  rw [pk_and _ 8 (by decide), e1, UInt64.toNat_shiftRight, sh8c r hr]
  rw [Nat.mod_mod_of_dvd _ (show 2 ^ 8 ∣ 2 ^ 32 from ⟨2 ^ 24, by decide⟩)]
  rfl
theorem byt_put (x : Int64) {v r : Nat} (hv : v < 256) (hr : r < 8) : (x ||| ((nI v).toInt64 <<< ((nI r <<< ((3 : Int32) &&& 31)).toInt64 &&& (63 : Int64)))).toBitVec.toNat = x.toBitVec.toNat ||| v <<< (8 * r) := by
  have e : (lN v).toBitVec.toNat = v := Nat.mod_eq_of_lt (show v < 2 ^ 64 by omega)
  have hb : v <<< (8 * r) < 2 ^ 64 := by
    rw [Nat.shiftLeft_eq]
    have h1 : 2 ^ (8 * r) ≤ 2 ^ 56 := Nat.pow_le_pow_right (by decide) (by omega)
    have h2 : v * 2 ^ (8 * r) ≤ 255 * 2 ^ 56 := Nat.mul_le_mul (by omega) h1
    have h3 : 255 * 2 ^ 56 < 2 ^ 64 := by decide
    omega
  rw [nI_l (by omega), Int64.toBitVec_or, Int64.toBitVec_shiftLeft, BitVec.toNat_or, BitVec.shiftLeft_eq', sh8b r hr, BitVec.toNat_shiftLeft, e, Nat.mod_eq_of_lt hb]
theorem or_byte_ne {a v r s : Nat} (hv : v < 256) (h : r ≠ s) : (a ||| v <<< (8 * r)) >>> (8 * s) % 256 = a >>> (8 * s) % 256 := by
  apply Nat.eq_of_testBit_eq
  intro b
  have e8 : (256 : Nat) = 2 ^ 8 := by decide
  rw [e8, Nat.testBit_mod_two_pow, Nat.testBit_mod_two_pow, Nat.testBit_shiftRight, Nat.testBit_shiftRight, Nat.testBit_or, Nat.testBit_shiftLeft]
  by_cases hb : b < 8
  · have : (decide (8 * s + b ≥ 8 * r) && v.testBit (8 * s + b - 8 * r)) = false := by
      by_cases q : 8 * s + b ≥ 8 * r
      · have h8 : 2 ^ 8 ≤ 2 ^ (8 * s + b - 8 * r) := Nat.pow_le_pow_right (by decide) (by omega)
        rw [Nat.testBit_lt_two_pow (Nat.lt_of_lt_of_le (by omega) h8), Bool.and_false]
      · rw [decide_eq_false q, Bool.false_and]
    rw [this, Bool.or_false]
  · rw [decide_eq_false hb, Bool.false_and, Bool.false_and]
theorem or_byte_eq {a v r : Nat} (hv : v < 256) (h : a >>> (8 * r) % 256 = 0) : (a ||| v <<< (8 * r)) >>> (8 * r) % 256 = v := by
  have e8 : (256 : Nat) = 2 ^ 8 := by decide
  rw [e8] at h ⊢
  rw [Nat.shiftRight_or_distrib, Nat.or_mod_two_pow, h, Nat.zero_or, Nat.shiftLeft_eq, Nat.shiftRight_eq_div_pow, Nat.mul_div_cancel _ (Nat.two_pow_pos _), Nat.mod_eq_of_lt (by omega)]
/-- a byte written where there was none -/
def putB (kf : Nat → Int64) (q v : Nat) : Nat → Int64 := vp_updL kf (q / 8) (kf (q / 8) ||| ((nI v).toInt64 <<< ((nI (q % 8) <<< ((3 : Int32) &&& 31)).toInt64 &&& (63 : Int64))))
theorem putB_at {kf : Nat → Int64} {q v : Nat} (hv : v < 256) (h : byt kf q = 0) : byt (putB kf q v) q = v := by
  unfold byt at h ⊢
  unfold putB
  rw [pk_uLs, byt_put _ hv (Nat.mod_lt q (by decide))]
  exact or_byte_eq hv h
theorem putB_ne {kf : Nat → Int64} {q v s : Nat} (hv : v < 256) (h : s ≠ q) : byt (putB kf q v) s = byt kf s := by
  unfold byt putB
  by_cases e : s / 8 = q / 8
  · rw [e, pk_uLs, byt_put _ hv (Nat.mod_lt q (by decide))]
    exact or_byte_ne hv (fun u => h (by omega))
  · rw [pk_uLn e]
theorem sh3 {q : Nat} (hq : q < 2 ^ 31) : nI q >>> ((3 : Int32) &&& 31) = nI (q / 8) := shrN (a := q) (s := 3) (by decide) hq
theorem and7 (q : Nat) : nI q &&& (7 : Int32) = nI (q % 8) := fa_mask q 3
theorem c_keptAt {N kl q : Nat} {kf : Nat → Int64} (hq : q < 2 ^ 31) (hk : q / 8 < kl) (hkl : kl < 2 ^ 31) : fX3_keptAt N kl kf (nI q) = some (nI (byt kf q)) := by
  unfold fX3_keptAt
  rw [sh3 hq, if_neg (nI_pos (by omega)), if_pos (show nI (q / 8) < Int32.ofNat kl from nI_lt hk hkl), okb_t (inbN hk hkl), nI_clamp (by omega), and7, sh8a _ (Nat.mod_lt q (by decide)), byt_get _ (Nat.mod_lt q (by decide))]
  rfl
theorem minI {a b : Nat} (ha : a < 2 ^ 31) (hb : b < 2 ^ 31) : (if nI b < nI a then nI b else nI a) = nI (min a b) := by
  by_cases q : b < a
  · rw [if_pos (nI_lt q ha), Nat.min_eq_right (by omega)]
  · rw [if_neg (nI_nlt (by omega) hb), Nat.min_eq_left (by omega)]
/-- one tally raised -/
def incT (tl : Nat → Nat → Int32) (kd n : Nat) (m : Int32) : Nat → Nat → Int32 := upT tl kd (upd (tl kd) n (tl kd n + m))
theorem incT_at (tl : Nat → Nat → Int32) (kd n : Nat) (m : Int32) (a b : Nat) : incT tl kd n m a b = if a = kd ∧ b = n then tl a b + m else tl a b := by
  unfold incT upT
  by_cases e : a = kd
  · subst e
    rw [if_pos rfl]
    by_cases u : b = n
    · subst u
      rw [pk_us, if_pos ⟨rfl, rfl⟩]
    · rw [pk_un u, if_neg (fun q => u q.2)]
  · rw [if_neg e, if_neg (fun q => e q.1)]
def kdv (v : Nat) : Nat := if v = 101 then 3 else if v ≤ 101 then 2 else 4
def tlK (tl : Nat → Nat → Int32) (n v : Nat) (m : Int32) : Nat → Nat → Int32 := if v = 254 then incT (incT tl 0 n m) 1 n m else if v = 255 then incT tl 0 n m else incT (incT tl 0 n m) (kdv v) n m
theorem c_share {N v : Nat} (hv : v < 256) : fX3_shareOf N (nI v) = some (nI (kdv v)) := by
  unfold fX3_shareOf kdv
  by_cases q : v = 101
  · subst q
    rw [if_pos (show nI 101 = (101 : Int32) from rfl), if_pos rfl]
    rfl
  · rw [if_neg (show ¬ nI v = (101 : Int32) from fun u => q ((nI_eq (b := 101) (by omega) (by decide)).mp u)), if_neg q]
    by_cases u : v ≤ 101
    · rw [if_pos (show nI v ≤ (101 : Int32) from nI_le (b := 101) u (by decide)), if_pos u]
      rfl
    · rw [if_neg (show ¬ nI v ≤ (101 : Int32) from nI_ge (a := 101) (by omega) (by omega)), if_neg u]
      rfl
theorem kdv_lt (v : Nat) : kdv v < 5 := by
  unfold kdv
  split
  · decide
  · split <;> decide
theorem c_keep {N kl a b n v : Nat} {kf : Nat → Int64} {tl : Nat → Nat → Int32} (ha : a < 2 ^ 31) (hb : b < 2 ^ 31) (hk : min a b / 8 < kl) (hkl : kl < 2 ^ 31) (hn : n ≤ 16) (hv : v < 256) :
    fX3_keep N tl kl kf (nI a) (nI b) (nI n) (nI v) = some (if byt kf (min a b) = 0 then (tlK tl n v (if a = b then 1 else 2), putB kf (min a b) v) else (tl, kf)) := by
  have hmn : min a b < 2 ^ 31 := Nat.lt_of_le_of_lt (Nat.min_le_left a b) ha
  have hby : byt kf (min a b) < 256 := Nat.mod_lt _ (by decide)
  have hi17 : inb (nI n) 17 = true := inbN (by omega) (by decide)
  have hin : inb (nI (min a b / 8)) kl = true := inbN hk hkl
  have hcl : (nI n).toNatClampNeg = n := nI_clamp (by omega)
  have hcm : (nI (min a b / 8)).toNatClampNeg = min a b / 8 := nI_clamp (by omega)
  have hkd : (nI (kdv v)).toNatClampNeg = kdv v := nI_clamp (by have := kdv_lt v; omega)
  have hkd5 : inb (nI (kdv v)) 5 = true := inbN (kdv_lt v) (by decide)
  have h254 : (nI v = (254 : Int32)) ↔ v = 254 := nI_eq (b := 254) (by omega) (by decide)
  have h255 : (nI v = (255 : Int32)) ↔ v = 255 := nI_eq (b := 255) (by omega) (by decide)
  have h00 : inb (0 : Int32) 5 = true := by decide
  have h11 : inb (1 : Int32) 5 = true := by decide
  unfold fX3_keep
  rw [minI ha hb, sh3 hmn, if_neg (nI_pos (by omega)), if_neg (show ¬ Int32.ofNat kl ≤ nI (min a b / 8) from nI_ge hk hkl), c_keptAt hmn hk hkl]
  simp only [Option.bind_some]
  by_cases hz : byt kf (min a b) = 0
  · rw [if_pos hz, if_pos (show nI (byt kf (min a b)) = 0 by rw [hz]; rfl)]
    simp only [okb_t hin, okb_t h00, okb_t hi17, okb_t h11]
    rw [hcl, hcm, and7]
    unfold tlK putB
    by_cases e : a = b
    · rw [if_pos (show nI a = nI b by rw [e]), if_pos e]
      by_cases q4 : v = 254
      · rw [if_pos (h254.mpr q4), if_pos q4]
        rfl
      · rw [if_neg (fun u => q4 (h254.mp u)), if_neg q4]
        by_cases q5 : v = 255
        · rw [if_pos (h255.mpr q5), if_pos q5]
          rfl
        · rw [if_neg (fun u => q5 (h255.mp u)), if_neg q5, c_share hv]
          simp only [Option.bind_some]
          rw [okb_t hkd5, hkd]
          rfl
    · rw [if_neg (fun u => e ((nI_eq ha hb).mp u)), if_neg e]
      by_cases q4 : v = 254
      · rw [if_pos (h254.mpr q4), if_pos q4]
        rfl
      · rw [if_neg (fun u => q4 (h254.mp u)), if_neg q4]
        by_cases q5 : v = 255
        · rw [if_pos (h255.mpr q5), if_pos q5]
          rfl
        · rw [if_neg (fun u => q5 (h255.mp u)), if_neg q5, c_share hv]
          simp only [Option.bind_some]
          rw [okb_t hkd5, hkd]
          rfl
  · rw [if_neg hz, if_neg (nI_ne0 (by omega) (by omega))]
