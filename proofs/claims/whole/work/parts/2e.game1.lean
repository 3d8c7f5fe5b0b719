/-! the class's game, step by step; tests of numbers on both sides -/
theorem in_eq (N : Nat) (x a b : Int32) : fX5_in N x.toInt64 a.toInt64 b.toInt64 = fX4_isWithin N x a b := by
  unfold fX5_in fX4_isWithin
  have e1 : (lg_cmp x.toInt64 a.toInt64 < 0) ↔ x < a := (lg_cmp_lt _ _).trans (fa_wide_lt x a)
  have e2 : (0 < lg_cmp x.toInt64 b.toInt64) ↔ b < x := (lg_cmp_gt _ _).trans (fa_wide_lt b x)
  by_cases h1 : x < a
  · rw [if_pos (e1.mpr h1), if_pos h1]
  · rw [if_neg (fun q => h1 (e1.mp q)), if_neg h1]
    by_cases h2 : b < x
    · rw [if_pos (e2.mpr h2), if_pos h2]
    · rw [if_neg (fun q => h2 (e2.mp q)), if_neg h2]
theorem l0 : (0 : Int64) = (0 : Int32).toInt64 := rfl
theorem win_t {N i n : Nat} (hi : i < n) (hn : n < 2 ^ 31) : fX4_isWithin N (nI i) 0 (nI n - 1) = some 1 := by
  obtain ⟨m, rfl⟩ : ∃ m, n = m + 1 := ⟨n - 1, by omega⟩
  unfold fX4_isWithin
  rw [nI_pred, if_neg (nI_pos (by omega)), if_neg (nI_nlt (a := m) (by omega) (by omega))]
theorem win_f {N : Nat} {a : Int32} {n : Nat} (hn : n < 2 ^ 31) (h : a < 0 ∨ nI n ≤ a) : fX4_isWithin N a 0 (nI n - 1) = some 0 := by
  unfold fX4_isWithin
  by_cases q : a < 0
  · rw [if_pos q]
  · rw [if_neg q]
    have h1 : nI n ≤ a := by
      rcases h with h | h
      · exact absurd h q
      · exact h
    rw [if_pos]
    rcases Nat.eq_zero_or_pos n with z | z
    · subst z
      rw [show nI 0 - 1 = (-1 : Int32) by decide, fa_lt]
      have h2 := (fa_le _ _).mp h1
      rw [nI_toInt hn] at h2
      rw [show (-1 : Int32).toInt = -1 by decide]
      omega
    · obtain ⟨m, rfl⟩ : ∃ m, n = m + 1 := ⟨n - 1, by omega⟩
      rw [nI_pred]
      exact fa_trans (nI_lt (Nat.lt_succ_self m) hn) h1
theorem wcase (a : Int32) {n : Nat} (hn : n < 2 ^ 31) : (∃ i, i < n ∧ a = nI i) ∨ (a < 0 ∨ nI n ≤ a) := by
  rcases pk_ix a hn with h | h | h
  · exact Or.inr (Or.inl h)
  · exact Or.inr (Or.inr h)
  · exact Or.inl h
theorem winr (N : Nat) (x : Int32) {lo hi : Nat} (hh : hi < 2 ^ 31) (hl : lo < 2 ^ 31) : (∃ i, lo ≤ i ∧ i ≤ hi ∧ x = nI i ∧ fX4_isWithin N x (nI lo) (nI hi) = some 1) ∨ (fX4_isWithin N x (nI lo) (nI hi) = some 0 ∧ ∀ i, lo ≤ i → i ≤ hi → x ≠ nI i) := by
  unfold fX4_isWithin
  by_cases q1 : x < nI lo
  · rw [if_pos q1]
    exact Or.inr ⟨rfl, fun i h1 h2 e => absurd q1 (by rw [e]; exact nI_nlt h1 (by omega))⟩
  · rw [if_neg q1]
    by_cases q2 : nI hi < x
    · rw [if_pos q2]
      exact Or.inr ⟨rfl, fun i h1 h2 e => absurd q2 (by rw [e]; exact nI_nlt h2 hh)⟩
    · rw [if_neg q2]
      left
      have h0 : ¬ x < 0 := fun q => by
        have h1 := (fa_le _ _).mp (fa_of_nlt q1)
        have h2 := (fa_lt _ _).mp q
        rw [nI_toInt hl] at h1
        rw [show (0 : Int32).toInt = 0 by decide] at h2
        omega
      obtain ⟨i, hi2, rfl⟩ := nI_of h0
      refine ⟨i, ?_, ?_, rfl, rfl⟩
      · exact (nI_leI hl hi2).mp (fa_of_nlt q1)
      · exact (nI_leI hi2 hh).mp (fa_of_nlt q2)
theorem hasL_eq (N : Nat) (gr : Int32) (gR : Nat → Int32) (x : Int32) : ∀ ct i, fX1_hasRow_L2 N gr gR x ct i = fX5_has_L2 N gr gR x ct i
  | 0, _ => rfl
  | ct + 1, i => by simp only [fX1_hasRow_L2, fX5_has_L2, hasL_eq N gr gR x ct]
theorem c_has {R : List Nat} {r : Int32} {f : Nat → Int32} (hA : rwA R r f) (hb : ∀ q, q ∈ R → q < 2 ^ 16) {m N : Nat} (hm : m < 2 ^ 31) (hN : 100 < N) : fX1_hasRow N r f (nI m) = some (if hasR R m = true then 1 else 0) := by
  rw [← m_has hA hb hm hN]
  unfold fX1_hasRow fX5_has
  rw [hasL_eq]
theorem c_side {N n : Nat} : fX0_side N (nI n) = some (nI (n % 2)) := by
  unfold fX0_side
  have := fa_mask n 1
  rw [Nat.pow_one] at this
  exact congrArg some this
theorem oth_nat (w : Nat) (p : Pos) : (1 : Int32) - nI (cnt w p % 2) = nI (!(sd w p)).toNat := by
  rw [← sd_nat]
  cases sd w p <;> rfl
theorem msk_at {f : Nat → Int32} {M : Bool → Nat} (h : msk f (M false) (M true)) (b : Bool) : f b.toNat = nI (M b) := by
  cases b
  · exact h.1
  · exact h.2
theorem p16_31 : (2 : Nat) ^ 16 < 2 ^ 31 := by decide
theorem mk_31 {w h k : Nat} (hB : Bd w h k) {p : Pos} (hp : okP w h p) (s : Bool) : mk w p s < 2 ^ 31 := Nat.lt_trans (mk_lt hB hp s) p16_31
theorem c_state {w h k : Nat} (hB : Bd w h k) {R : List Nat} (hR : RF w h R) {gr : Int32} {gR : Nat → Int32} (hA : rwA R gr gR) {p : Pos} (hp : okP w h p) {mm : Nat → Int32} (hm : msk mm (mk w p false) (mk w p true)) {N : Nat} (hN : 100 < N) : fX0_state N (nI (cnt w p)) mm (nI (w * h)) gr gR = some (if wonB w R p = true then 1 else if cnt w p < w * h then 0 else 2) := by
  have hwh := hB.2.2.2.2.1
  have hcl := cnt_le hp
  unfold fX0_state
  rw [c_side]
  simp only [Option.bind_some]
  rw [oth_nat, okb_t (bI _), bIc, msk_at (M := mk w p) hm, c_has hA hR.2.1 (mk_31 hB hp _) hN]
  simp only [Option.bind_some]
  show (if (if hasR R (mk w p (!(sd w p))) = true then (1 : Int32) else 0) = 0 then _ else _) = _
  unfold wonB
  by_cases q : hasR R (mk w p (!(sd w p))) = true
  · rw [if_pos q, if_pos q, if_neg (by decide)]
  · rw [if_neg q, if_neg q, if_pos rfl]
    by_cases u : cnt w p < w * h
    · rw [if_pos (nI_lt u (by omega)), if_pos u]
    · rw [if_neg (nI_nlt (by omega) (by omega)), if_neg u]
theorem c_over1 {w h k : Nat} (hB : Bd w h k) {R : List Nat} (hR : RF w h R) {gr : Int32} {gR : Nat → Int32} (hA : rwA R gr gR) {p : Pos} (hp : okP w h p) {mm : Nat → Int32} (hm : msk mm (mk w p false) (mk w p true)) {N : Nat} (hN : 100 < N) (ho : ovr w h R p) : fX0_isOver N (nI (cnt w p)) mm (nI (w * h)) gr gR = some 1 := by
  unfold fX0_isOver
  rw [c_state hB hR hA hp hm hN]
  simp only [Option.bind_some]
  rcases ho with q | q
  · rw [if_pos q, if_neg (by decide)]
  · by_cases u : wonB w R p = true
    · rw [if_pos u, if_neg (by decide)]
    · rw [if_neg u, if_neg (show ¬ cnt w p < w * h by omega), if_neg (by decide)]
theorem c_over0 {w h k : Nat} (hB : Bd w h k) {R : List Nat} (hR : RF w h R) {gr : Int32} {gR : Nat → Int32} (hA : rwA R gr gR) {p : Pos} (hp : okP w h p) {mm : Nat → Int32} (hm : msk mm (mk w p false) (mk w p true)) {N : Nat} (hN : 100 < N) (ho : ¬ ovr w h R p) : fX0_isOver N (nI (cnt w p)) mm (nI (w * h)) gr gR = some 0 := by
  have hcl := cnt_le hp
  unfold fX0_isOver
  rw [c_state hB hR hA hp hm hN]
  simp only [Option.bind_some]
  rw [if_neg (fun q => ho (Or.inl q)), if_pos (show cnt w p < w * h by
    have : ¬ cnt w p = w * h := fun q => ho (Or.inr q)
    omega), if_pos rfl]
theorem val1_on {w h k : Nat} (hB : Bd w h k) {R : List Nat} {p : Pos} (hp : okP w h p) (ho : ¬ ovr w h R p) : val1 w h R p = iI (wv w h R (w * h - cnt w p) p) ∧ -99 ≤ wv w h R (w * h - cnt w p) p ∧ wv w h R (w * h - cnt w p) p ≤ 99 ∧ cnt w p < w * h := by
  have hcl := cnt_le hp
  have hne : ¬ cnt w p = w * h := fun q => ho (Or.inr q)
  have hb := wv_b (R := R) (w * h - cnt w p) p hp (by omega) (by omega)
  refine ⟨?_, hb.1, hb.2, by omega⟩
  unfold val1
  rw [if_neg (fun q => ho (Or.inl q)), if_neg hne]
theorem val1_n {w h k : Nat} (hB : Bd w h k) {R : List Nat} {p : Pos} (hp : okP w h p) (ho : ¬ ovr w h R p) : ¬ val1 w h R p = 127 ∧ ¬ val1 w h R p = 126 := by
  obtain ⟨e, h1, h2, _⟩ := val1_on hB hp ho
  rw [e]
  exact ⟨fun q => by have := (iI_eq (b := 127) (by omega) (by omega) (by omega) (by omega)).mp q; omega, fun q => by have := (iI_eq (b := 126) (by omega) (by omega) (by omega) (by omega)).mp q; omega⟩
theorem m_over1 {w h k : Nat} (hB : Bd w h k) {R : List Nat} {p : Pos} (hp : okP w h p) {yT : Nat → Int32} (hT : yT (kyM w h p) = val1 w h R p) (N : Nat) (ho : ovr w h R p) : fX5_isOver N (nI (kyM w h p)) yT = some 1 := by
  have hk := ky_31 hB hp
  unfold fX5_isOver
  rw [okb_t (inbN hk (by decide)), okb_t (inbN hk (by decide)), nI_clamp (by omega), hT]
  unfold val1
  by_cases q : wonB w R p = true
  · rw [if_pos q, if_pos rfl]
  · have e : cnt w p = w * h := by
      rcases ho with u | u
      · exact absurd u q
      · exact u
    rw [if_neg q, if_pos e, if_neg (by decide), if_pos rfl]
theorem m_over0 {w h k : Nat} (hB : Bd w h k) {R : List Nat} {p : Pos} (hp : okP w h p) {yT : Nat → Int32} (hT : yT (kyM w h p) = val1 w h R p) (N : Nat) (ho : ¬ ovr w h R p) : fX5_isOver N (nI (kyM w h p)) yT = some 0 := by
  have hk := ky_31 hB hp
  obtain ⟨n1, n2⟩ := val1_n hB hp ho
  unfold fX5_isOver
  rw [okb_t (inbN hk (by decide)), okb_t (inbN hk (by decide)), nI_clamp (by omega), hT, if_neg n1, if_neg n2]
def hgA (p : Pos) (mh : Nat → Int32) : Prop := ∀ x, x < 7 → mh x = nI (p x).length
theorem c_open {w h k : Nat} (hB : Bd w h k) {p : Pos} (hp : okP w h p) {mh : Nat → Int32} (hh : hgA p mh) {x : Nat} (hx : x < w) (N : Nat) : fX0_isOpen N mh (nI w) (nI h) (nI x) = some (if (p x).length < h then 1 else 0) := by
  have hw := hB.2.1
  have hhb := hB.2.2.2.1
  have hl := hp.1 x hx
  unfold fX0_isOpen
  rw [win_t hx (by omega)]
  simp only [Option.bind_some]
  rw [if_neg (by decide), okb_t (inbN (by omega) (by decide)), nI_clamp (by omega), hh x (by omega)]
  by_cases q : (p x).length < h
  · rw [if_pos q, if_neg (nI_ge q (by omega))]
  · rw [if_neg q, if_pos (nI_le (by omega) (by omega))]
theorem c_open0 {w : Nat} (hw : w < 2 ^ 31) {a : Int32} (ha : a < 0 ∨ nI w ≤ a) (mh : Nat → Int32) (gh : Int32) (N : Nat) : fX0_isOpen N mh (nI w) gh a = some 0 := by
  unfold fX0_isOpen
  rw [win_f hw ha]
  rfl
theorem m_free {w h k : Nat} (hB : Bd w h k) {p : Pos} (hp : okP w h p) {x : Nat} (hx : x < w) {N : Nat} (hN : 30 < N) : fX5_isFree N (nI w) (nI h) (nI (kyM w h p)) (nI x) = some (if (p x).length < h then 1 else 0) := by
  have hw := hB.2.1
  have hhb := hB.2.2.2.1
  have hl := hp.1 x hx
  unfold fX5_isFree
  rw [l0, in_eq, win_t hx (by omega)]
  simp only [Option.bind_some]
  rw [if_neg (by decide), m_hgt hB hp hx hN]
  simp only [Option.bind_some]
  by_cases q : (p x).length < h
  · rw [if_pos q, if_neg (nI_ge q (by omega))]
  · rw [if_neg q, if_pos (nI_le (by omega) (by omega))]
theorem m_free0 {w : Nat} (hw : w < 2 ^ 31) {a : Int32} (ha : a < 0 ∨ nI w ≤ a) (xh xn : Int32) (N : Nat) : fX5_isFree N (nI w) xh xn a = some 0 := by
  unfold fX5_isFree
  rw [l0, in_eq, win_f hw ha]
  rfl
/-- a game of the class: n moves c -/
def gmA (w : Nat) (n : Nat) (c : Nat → Nat) (mv : Int32) (mc mm mh : Nat → Int32) : Prop := mv = nI n ∧ (∀ i, i < n → mc i = nI (c i)) ∧ msk mm (mk w (posF w c n) false) (mk w (posF w c n) true) ∧ hgA (posF w c n) mh
def cx (c : Nat → Nat) (n x : Nat) : Nat → Nat := fun i => if i = n then x else c i
theorem cx_lt (c : Nat → Nat) {n x i : Nat} (h : i < n) : cx c n x i = c i := if_neg (by omega)
theorem cx_at (c : Nat → Nat) (n x : Nat) : cx c n x n = x := if_pos rfl
theorem posF_cx (w : Nat) (c : Nat → Nat) (n x : Nat) : posF w (cx c n x) n = posF w c n := posF_cong (fun i hi => cx_lt c hi)
theorem posF_cxs (w : Nat) (c : Nat → Nat) (n x : Nat) : posF w (cx c n x) (n + 1) = nxt w (posF w c n) x := by
  show nxt w (posF w (cx c n x) n) (cx c n x n) = _
  rw [posF_cx, cx_at]
theorem vld_cx {w h : Nat} {R : List Nat} {c : Nat → Nat} {n x : Nat} (hv : vld w h R c n) (ho : ¬ ovr w h R (posF w c n)) (hx : x < w) (hl : (posF w c n x).length < h) : vld w h R (cx c n x) (n + 1) := fun i hi => by
  by_cases e : i = n
  · subst e
    rw [cx_at, posF_cx]
    exact ⟨hx, hl, ho⟩
  · rw [cx_lt c (by omega), posF_cong (d := c) (fun k hk => cx_lt c (by omega))]
    exact hv i (by omega)
theorem vld_le {w h : Nat} {R : List Nat} {c : Nat → Nat} {n m : Nat} (hv : vld w h R c n) (hm : m ≤ n) : vld w h R c m := fun i hi => hv i (by omega)
theorem sq_lt {w h k : Nat} (hB : Bd w h k) {x y : Nat} (hx : x < w) (hy : y < h) : w * y + x < w * h ∧ w * y + x < 16 := by
  have h1 : w * (y + 1) ≤ w * h := Nat.mul_le_mul_left w hy
  have h2 := hB.2.2.2.2.1
  rw [Nat.mul_succ] at h1
  omega
theorem c_sqIn {w h k : Nat} (hB : Bd w h k) {p : Pos} {mh : Nat → Int32} (hh : hgA p mh) {x : Nat} (hx : x < w) (N : Nat) : fX0_squareIn N mh (nI w) (nI x) = some (nI (w * (p x).length + x)) := by
  have hw := hB.2.1
  unfold fX0_squareIn
  rw [okb_t (inbN (by omega) (by decide)), nI_clamp (by omega), hh x (by omega), pk_mul, nI_add]
theorem c_make {w h k : Nat} (hB : Bd w h k) {R : List Nat} {n : Nat} {c : Nat → Nat} (hv : vld w h R c n) {mv : Int32} {mc mm mh : Nat → Int32} (hg : gmA w n c mv mc mm mh) {x : Nat} (hx : x < w) (hl : (posF w c n x).length < h) (N : Nat) :
    ∃ u, fX0_make N mv mc mm mh (nI w) (nI h) (nI x) = some u ∧ u.1 = nI (w * (posF w c n x).length + x) ∧ gmA w (n + 1) (cx c n x) u.2.1 u.2.2.1 u.2.2.2.1 u.2.2.2.2 := by
  obtain ⟨g1, g2, g3, g4⟩ := hg
  obtain ⟨hp, hc⟩ := Cm_ok (posF_Cm hv n (Nat.le_refl n))
  have hsq := sq_lt hB hx hl
  have hw := hB.2.1
  have hwh := hB.2.2.2.2.1
  have hn : n < w * h := by
    rcases Nat.lt_or_ge n (w * h) with q | q
    · exact q
    · exfalso
      have h1 := cnt_le hp
      have h2 := cnt_full hp (by omega) hx
      omega
  have hsd : nI (n % 2) = nI (sd w (posF w c n)).toNat := by rw [sd_nat, hc]
  refine ⟨(nI (w * (posF w c n x).length + x), nI (n + 1), upd mc n (nI x), upd mm (sd w (posF w c n)).toNat (mm (sd w (posF w c n)).toNat ||| nI (2 ^ (w * (posF w c n x).length + x))), upd mh x (nI ((posF w c n x).length + 1))), ?_, rfl, rfl, fun i hi => ?_, ?_, fun z hz => ?_⟩
  · unfold fX0_make
    rw [c_open hB hp g4 hx]
    simp only [Option.bind_some]
    rw [if_pos hl, if_neg (by decide), g1, if_pos (show nI n < (16 : Int32) from nI_lt (b := 16) (by omega) (by decide)), c_sqIn hB g4 hx, c_side]
    simp only [Option.bind_some]
    rw [hsd, okb_t (bI _), okb_t (bI _), okb_t (inbN (by omega) (by decide)), okb_t (inbN (by omega) (by decide)), okb_t (inbN (by omega) (by decide)), bIc, nI_clamp (by omega), nI_clamp (by omega), shl1 (by omega), g4 x (by omega), nI_1, nI_1]
  · show upd mc n (nI x) i = _
    by_cases e : i = n
    · rw [e, pk_us, cx_at]
    · rw [pk_un e, cx_lt c (by omega)]
      exact g2 i (by omega)
  · rw [posF_cxs]
    have e1 := mk_nxt_own (w := w) (posF w c n) hx
    have e2 := mk_nxt_oth (w := w) (posF w c n) hx
    have e3 := msk_at (M := mk w (posF w c n)) g3 (sd w (posF w c n))
    unfold msk
    show upd mm (sd w (posF w c n)).toNat _ 0 = _ ∧ upd mm (sd w (posF w c n)).toNat _ 1 = _
    rw [e3]
    unfold msk at g3
    cases hs : sd w (posF w c n)
    · rw [hs] at e1 e2
      refine ⟨?_, ?_⟩
      · show upd mm 0 _ 0 = _
        rw [pk_us, or_nI, e1]
      · show upd mm 0 _ 1 = _
        rw [pk_un (by decide), g3.2]
        exact congrArg nI e2.symm
    · rw [hs] at e1 e2
      refine ⟨?_, ?_⟩
      · show upd mm 1 _ 0 = _
        rw [pk_un (by decide), g3.1]
        exact congrArg nI e2.symm
      · show upd mm 1 _ 1 = _
        rw [pk_us, or_nI, e1]
  · rw [posF_cxs]
    show upd mh x (nI ((posF w c n x).length + 1)) z = _
    unfold nxt
    by_cases e : z = x
    · rw [e, pk_us, psh_same]
      rfl
    · rw [pk_un e, psh_ne _ _ e]
      exact g4 z hz
theorem c_make0 {w : Nat} (hw : w < 2 ^ 31) {a : Int32} (ha : a < 0 ∨ nI w ≤ a) (mv : Int32) (mc mm mh : Nat → Int32) (gh : Int32) (N : Nat) : fX0_make N mv mc mm mh (nI w) gh a = some (-1, mv, mc, mm, mh) := by
  unfold fX0_make
  rw [c_open0 hw ha]
  rfl
theorem c_make1 {w h k : Nat} (hB : Bd w h k) {p : Pos} (hp : okP w h p) {mh : Nat → Int32} (hh : hgA p mh) {x : Nat} (hx : x < w) (hl : ¬ (p x).length < h) (mv : Int32) (mc mm : Nat → Int32) (N : Nat) : fX0_make N mv mc mm mh (nI w) (nI h) (nI x) = some (-1, mv, mc, mm, mh) := by
  unfold fX0_make
  rw [c_open hB hp hh hx, if_neg hl]
  rfl
/-- a man taken off a mask -/
theorem clr_bit {m s : Nat} (hm : m < 2 ^ 16) (hs : s < 16) (hb : m.testBit s = false) : nI (m ||| 2 ^ s) &&& (nI (2 ^ s) ^^^ (-1 : Int32)) = nI m := by
  have e : (-1 : Int32) = nI (2 ^ 32 - 1) := by decide
  rw [e, fb_xorI, fa_and]
  congr 1
  apply Nat.eq_of_testBit_eq
  intro b
  rw [Nat.testBit_and, Nat.testBit_or, Nat.testBit_xor, Nat.testBit_two_pow, Nat.testBit_two_pow_sub_one]
  by_cases q : s = b
  · subst q
    simp [hb]
    omega
  · cases hmb : m.testBit b
    · simp [q]
    · have : b < 16 := by
        rcases Nat.lt_or_ge b 16 with u | u
        · exact u
        · have h2 : m < 2 ^ b := Nat.lt_of_lt_of_le hm (Nat.pow_le_pow_right (by decide) u)
          rw [Nat.testBit_lt_two_pow h2] at hmb
          cases hmb
      simp [q]
      omega
theorem mk_free {w h k : Nat} (hB : Bd w h k) {p : Pos} {x : Nat} (hx : x < w) (s : Bool) : (mk w p s).testBit (w * (p x).length + x) = false := by
  rw [mk_bit p s _ hx, List.getElem?_eq_none (by simp)]
  rfl
theorem c_unmake {w h k : Nat} (hB : Bd w h k) {R : List Nat} {n : Nat} {c : Nat → Nat} (hv : vld w h R c (n + 1)) {mv : Int32} {mc mm mh : Nat → Int32} (hg : gmA w (n + 1) c mv mc mm mh) (N : Nat) :
    ∃ u, fX0_unmake N mv mc mm mh (nI w) = some u ∧ gmA w n c u.1 mc u.2.1 u.2.2 := by
  obtain ⟨g1, g2, g3, g4⟩ := hg
  have hv' : vld w h R c n := vld_le hv (by omega)
  obtain ⟨hp, hc⟩ := Cm_ok (posF_Cm hv' n (Nat.le_refl n))
  obtain ⟨hx, hl, ho⟩ := hv n (by omega)
  have hsq := sq_lt hB hx hl
  have hw := hB.2.1
  have hwh := hB.2.2.2.2.1
  have hn := n_le16 hB (posF_Cm hv (n + 1) (Nat.le_refl _))
  have hsd : nI (n % 2) = nI (sd w (posF w c n)).toNat := by rw [sd_nat, hc]
  have hlen : mh (c n) = nI ((posF w c n (c n)).length + 1) := by
    rw [g4 (c n) (by omega)]
    show nI (nxt w (posF w c n) (c n) (c n)).length = _
    unfold nxt
    rw [psh_same]
    rfl
  have hpr : mh (c n) - 1 = nI (posF w c n (c n)).length := by rw [hlen, nI_pred]
  have e1 := mk_nxt_own (w := w) (posF w c n) hx
  have e2 := mk_nxt_oth (w := w) (posF w c n) hx
  have e3 : mm (sd w (posF w c n)).toNat = nI (mk w (posF w c n) (sd w (posF w c n)) ||| 2 ^ (w * (posF w c n (c n)).length + c n)) := by
    rw [← e1]
    exact msk_at (M := mk w (posF w c (n + 1))) g3 _
  have hclr := clr_bit (mk_lt hB hp (sd w (posF w c n))) hsq.2 (mk_free hB (p := posF w c n) hx _)
  have hmc : mc n = nI (c n) := g2 n (by omega)
  have hsqv : (nI w * upd mh (c n) (nI (posF w c n (c n)).length) (c n)) + nI (c n) = nI (w * (posF w c n (c n)).length + c n) := by rw [pk_us, pk_mul, nI_add]
  refine ⟨(nI n, upd mm (sd w (posF w c n)).toNat (nI (mk w (posF w c n) (sd w (posF w c n)))), upd mh (c n) (nI (posF w c n (c n)).length)), ?_, rfl, fun i hi => g2 i (by omega), ?_, fun z hz => ?_⟩
  · unfold fX0_unmake
    rw [g1, if_pos (show (1 : Int32) ≤ nI (n + 1) from nI_le (a := 1) (by omega) (by omega)), nI_pred, okb_t (inbN (by omega) (by decide)), nI_clamp (by omega), hmc, okb_t (inbN (by omega) (by decide)), okb_t (inbN (by omega) (by decide)), c_side]
    simp only [Option.bind_some]
    rw [hsd, okb_t (bI _), nI_clamp (by omega), hpr]
    unfold fX0_squareIn
    rw [okb_t (inbN (by omega) (by decide))]
    simp only [Option.bind_some]
    rw [okb_t (bI _), bIc, nI_clamp (by omega), hsqv, shl1 (by omega), e3, hclr]
  · unfold msk
    show upd mm (sd w (posF w c n)).toNat _ 0 = _ ∧ upd mm (sd w (posF w c n)).toNat _ 1 = _
    have e4 := msk_at (M := mk w (posF w c (n + 1))) g3 (!(sd w (posF w c n)))
    have e5 : mk w (posF w c (n + 1)) (!(sd w (posF w c n))) = mk w (posF w c n) (!(sd w (posF w c n))) := e2
    rw [e5] at e4
    cases hs : sd w (posF w c n)
    · rw [hs] at e4
      refine ⟨?_, ?_⟩
      · show upd mm 0 _ 0 = _
        rw [pk_us]
      · show upd mm 0 _ 1 = _
        rw [pk_un (by decide)]
        exact e4
    · rw [hs] at e4
      refine ⟨?_, ?_⟩
      · show upd mm 1 _ 0 = _
        rw [pk_un (by decide)]
        exact e4
      · show upd mm 1 _ 1 = _
        rw [pk_us]
  · show upd mh (c n) (nI (posF w c n (c n)).length) z = _
    by_cases e : z = c n
    · rw [e, pk_us]
    · rw [pk_un e, g4 z hz]
      show nI (nxt w (posF w c n) (c n) z).length = _
      unfold nxt
      rw [psh_ne _ _ e]
theorem c_clear {N : Nat} (hN : 30 < N) (w : Nat) (mc mm mh : Nat → Int32) (c : Nat → Nat) : ∃ u, fX0_clear N mm mh = some u ∧ gmA w 0 c u.1 mc u.2.1 u.2.2 := by
  obtain ⟨a, ha, ha2⟩ := c_fill (N := N) (n := 2) (by decide) (by omega) mm 0
  obtain ⟨b, hb, hb2⟩ := c_fill (N := N) (n := 7) (by decide) (by omega) mh 0
  refine ⟨(0, a, b), ?_, rfl, fun i hi => absurd hi (Nat.not_lt_zero i), ⟨?_, ?_⟩, fun x hx => hb2 x hx⟩
  · unfold fX0_clear
    rw [ha]
    simp only [Option.bind_some]
    rw [hb]
    rfl
  · show a 0 = nI (mk w emp false)
    rw [mk_emp]
    exact ha2 0 (by decide)
  · show a 1 = nI (mk w emp true)
    rw [mk_emp]
    exact ha2 1 (by decide)
