/-! men on squares, rows left, open columns, the first row, threats -/
def manI (a b s : Nat) : Int32 := if a.testBit s = true then 0 else if b.testBit s = true then 1 else -1
theorem c_man {mm : Nat → Int32} {a b : Nat} (hm : msk mm a b) (ha : a < 2 ^ 31) (hb : b < 2 ^ 31) {s : Nat} (hs : s < 32) (N : Nat) : fX0_manOn N mm (nI s) = some (manI a b s) := by
  unfold fX0_manOn manI
  rw [okb_t (by decide), okb_t (by decide), show (0 : Int32).toNatClampNeg = 0 from rfl, show (1 : Int32).toNatClampNeg = 1 from rfl, hm.1, hm.2, bitI ha hs, bitI hb hs]
  by_cases q : a.testBit s = true
  · rw [if_neg (fun u => (bit0 a s).mp u q), if_pos q]
  · rw [if_pos ((bit0 a s).mpr q), if_neg q]
    by_cases u : b.testBit s = true
    · rw [if_neg (fun v => (bit0 b s).mp v u), if_pos u]
    · rw [if_pos ((bit0 b s).mpr u), if_neg u]
theorem m_at {w h k : Nat} (hB : Bd w h k) {p : Pos} (hp : okP w h p) {N : Nat} (hN : 30 < N) (xc : Int32) (yM : Nat → Int32) {s : Nat} (hs : s < w * h) : ∃ c f, fX5_at N (nI w) (nI h) xc (nI (kyM w h p)) yM (nI s) = some (manI (mk w p false) (mk w p true) s, c, f) := by
  obtain ⟨r, e1, e2, e3⟩ := m_dec hB hp hN yM
  have hwh := hB.2.2.2.2.1
  refine ⟨r.1, r.2, ?_⟩
  unfold fX5_at
  rw [pk_mul, l0, in_eq, win_t hs (by omega)]
  simp only [Option.bind_some]
  rw [if_neg (by decide), e1]
  simp only [Option.bind_some]
  rw [okb_t (by decide), okb_t (by decide), show (0 : Int32).toNatClampNeg = 0 from rfl, show (1 : Int32).toNatClampNeg = 1 from rfl, e3.1, e3.2, bitI (mk_31 hB hp _) (by omega), bitI (mk_31 hB hp _) (by omega)]
  unfold manI
  by_cases q : (mk w p false).testBit s = true
  · rw [if_pos ((bit1 _ s).mpr q), if_pos q]
  · rw [if_neg (fun u => q ((bit1 _ s).mp u)), if_neg q]
    by_cases u : (mk w p true).testBit s = true
    · rw [if_pos ((bit1 _ s).mpr u), if_pos u]
    · rw [if_neg (fun v => u ((bit1 _ s).mp v)), if_neg u]
theorem m_at0 {q : Nat} (hq : q < 2 ^ 31) {a : Int32} (ha : a < 0 ∨ nI q ≤ a) {w h : Nat} (e : w * h = q) (xc xn : Int32) (yM : Nat → Int32) (N : Nat) : fX5_at N (nI w) (nI h) xc xn yM a = some (-200, xc, yM) := by
  unfold fX5_at
  rw [pk_mul, l0, in_eq, e, win_f hq ha]
  rfl
/-- rows without a man of a set -/
def rwo (R : List Nat) (m n : Nat) : Nat := fb_ct (fun i => decide (m &&& R.getD i 0 = 0)) n
theorem nI_and0 (a b : Nat) (ha : a < 2 ^ 31) : (nI a &&& nI b = 0) ↔ a &&& b = 0 := by
  rw [and_nI, i0]
  exact nI_eq (Nat.lt_of_le_of_lt Nat.and_le_left ha) (by decide)
theorem rwo_s (R : List Nat) (m n : Nat) : rwo R m (n + 1) = rwo R m n + if m &&& R.getD n 0 = 0 then 1 else 0 := by
  unfold rwo
  rw [fb_ct_succ]
  by_cases q : m &&& R.getD n 0 = 0
  · rw [if_pos q, if_pos (decide_eq_true q)]
  · rw [if_neg q, if_neg (fun u => q (of_decide_eq_true u))]
theorem c_without {R : List Nat} {gr : Int32} {gR : Nat → Int32} (hA : rwA R gr gR) {m N : Nat} (hm : m < 2 ^ 31) (hN : 100 < N) : fX1_rowsWithout N gr gR (nI m) = some (nI (rwo R m R.length)) := by
  obtain ⟨h1, h2, h3⟩ := hA
  obtain ⟨r, e1, e2⟩ := lpN (fun ct s i => fX1_rowsWithout_L4 N gr gR (nI m) ct s i) R.length (fun i s => s = nI (rwo R m i)) (fun s => s = nI (rwo R m R.length)) (by
      intro ct i s hi hI
      left
      refine ⟨nI (rwo R m (i + 1)), rfl, ?_⟩
      show fX1_rowsWithout_L4 N gr gR (nI m) (ct + 1) s (nI i) = fX1_rowsWithout_L4 N gr gR (nI m) ct (nI (rwo R m (i + 1))) (nI (i + 1))
      rw [fX1_rowsWithout_L4, h1, if_neg (nI_ge hi (by omega)), okb_t (inbN (by omega) (by decide)), nI_clamp (by omega), h3 i hi, hI, rwo_s, nI_1, nI_1]
      by_cases q : m &&& R.getD i 0 = 0
      · rw [if_pos ((nI_and0 _ _ hm).mpr q), if_pos q]
      · rw [if_neg (fun u => q ((nI_and0 _ _ hm).mp u)), if_neg q]
        first | done | rfl) (by
      intro ct s hI
      refine ⟨s, ?_, hI⟩
      show fX1_rowsWithout_L4 N gr gR (nI m) (ct + 1) s (nI R.length) = _
      rw [fX1_rowsWithout_L4, h1, if_pos (nI_le (Nat.le_refl _) (by omega))]) R.length 0 N (0 : Int32) (by omega) (by omega) rfl
  unfold fX1_rowsWithout
  show Option.bind (fX1_rowsWithout_L4 N gr gR (nI m) N (0 : Int32) (nI 0)) _ = _
  rw [e1, e2]
  rfl
theorem m_without {R : List Nat} {xr : Int32} {yR : Nat → Int32} (hA : rwA R xr yR) (hb : ∀ q, q ∈ R → q < 2 ^ 16) {yM : Nat → Int32} {a b : Nat} (hM : msk yM a b) {N : Nat} (hN : 100 < N) : fX5_game_L130 N xr yR yM N (nI 0) (nI 0) = some (nI (rwo R a R.length + rwo R b R.length)) := by
  obtain ⟨h1, h2, h3⟩ := hA
  have h31 := p16_31
  have hq : ∀ i, i < R.length → R.getD i 0 < 2 ^ 31 := fun i hi => by
    have := hb _ ((mem_at R _).mpr ⟨i, hi, rfl⟩)
    omega
  obtain ⟨r, e1, e2⟩ := lpN (fun ct s i => fX5_game_L130 N xr yR yM ct s i) R.length (fun i s => s = nI (rwo R a i + rwo R b i)) (fun s => s = nI (rwo R a R.length + rwo R b R.length)) (by
      intro ct i s hi hI
      left
      refine ⟨nI (rwo R a (i + 1) + rwo R b (i + 1)), rfl, ?_⟩
      show fX5_game_L130 N xr yR yM (ct + 1) s (nI i) = fX5_game_L130 N xr yR yM ct (nI (rwo R a (i + 1) + rwo R b (i + 1))) (nI (i + 1))
      have hin : inb (nI i) 64 = true := inbN (by omega) (by decide)
      have d0 : inb (0 : Int32) 2 = true := by decide
      have d1 : inb (1 : Int32) 2 = true := by decide
      have c0 : ∀ x, (nI (R.getD i 0) &&& nI x = 0) ↔ x &&& R.getD i 0 = 0 := fun x => by rw [nI_and0 _ _ (hq i hi), Nat.and_comm]
      have z0 : ∀ x : Nat, nI x + (0 : Int32) = nI x := fun x => by rw [i0, nI_add, Nat.add_zero]
      rw [fX5_game_L130, h1, if_neg (nI_ge hi (by omega))]
      simp only [okb_t hin, okb_t d0, okb_t d1]
      rw [nI_clamp (by omega), h3 i hi, show (0 : Int32).toNatClampNeg = 0 from rfl, show (1 : Int32).toNatClampNeg = 1 from rfl, hM.1, hM.2, hI, rwo_s, rwo_s, nI_1, nI_1, nI_1, z0, z0, z0, nI_1]
      by_cases q : a &&& R.getD i 0 = 0
      · rw [if_pos ((c0 a).mpr q), if_pos q]
        by_cases u : b &&& R.getD i 0 = 0
        · rw [if_pos ((c0 b).mpr u), if_pos u, show rwo R a i + 1 + (rwo R b i + 1) = rwo R a i + rwo R b i + 1 + 1 by omega]
        · rw [if_neg (fun v => u ((c0 b).mp v)), if_neg u, show rwo R a i + 1 + (rwo R b i + 0) = rwo R a i + rwo R b i + 1 by omega]
      · rw [if_neg (fun v => q ((c0 a).mp v)), if_neg q]
        by_cases u : b &&& R.getD i 0 = 0
        · rw [if_pos ((c0 b).mpr u), if_pos u, show rwo R a i + 0 + (rwo R b i + 1) = rwo R a i + rwo R b i + 1 by omega]
        · rw [if_neg (fun v => u ((c0 b).mp v)), if_neg u, show rwo R a i + 0 + (rwo R b i + 0) = rwo R a i + rwo R b i by omega]) (by
      intro ct s hI
      refine ⟨s, ?_, hI⟩
      show fX5_game_L130 N xr yR yM (ct + 1) s (nI R.length) = _
      rw [fX5_game_L130, h1, if_pos (nI_le (Nat.le_refl _) (by omega))]) R.length 0 N (nI 0) (by omega) (by omega) rfl
  rw [e1, e2]
def opn (h : Nat) (p : Pos) (n : Nat) : Nat := fb_ct (fun x => decide ((p x).length < h)) n
theorem opn_s (h : Nat) (p : Pos) (n : Nat) : opn h p (n + 1) = opn h p n + if (p n).length < h then 1 else 0 := by
  unfold opn
  rw [fb_ct_succ]
  by_cases q : (p n).length < h
  · rw [if_pos q, if_pos (decide_eq_true q)]
  · rw [if_neg q, if_neg (fun u => q (of_decide_eq_true u))]
theorem c_opens {w h k : Nat} (hB : Bd w h k) {p : Pos} (hp : okP w h p) {mh : Nat → Int32} (hh : hgA p mh) {N : Nat} (hN : 30 < N) : fX0_openColumns N mh (nI w) (nI h) = some (nI (opn h p w)) := by
  have hw := hB.2.1
  obtain ⟨r, e1, e2⟩ := lpN (fun ct s i => fX0_openColumns_L4 N mh (nI w) (nI h) ct s i) w (fun i s => s = nI (opn h p i)) (fun s => s = nI (opn h p w)) (by
      intro ct x s hx hI
      left
      refine ⟨nI (opn h p (x + 1)), rfl, ?_⟩
      show fX0_openColumns_L4 N mh (nI w) (nI h) (ct + 1) s (nI x) = fX0_openColumns_L4 N mh (nI w) (nI h) ct (nI (opn h p (x + 1))) (nI (x + 1))
      rw [fX0_openColumns_L4, if_neg (nI_ge hx (by omega)), c_open hB hp hh hx]
      simp only [Option.bind_some]
      rw [hI, opn_s, nI_1, nI_1]
      by_cases q : (p x).length < h
      · rw [if_pos q, if_neg (by decide), if_pos q]
      · rw [if_neg q, if_pos rfl, if_neg q]
        first | done | rfl) (by
      intro ct s hI
      refine ⟨s, ?_, hI⟩
      show fX0_openColumns_L4 N mh (nI w) (nI h) (ct + 1) s (nI w) = _
      rw [fX0_openColumns_L4, if_pos (nI_le (Nat.le_refl _) (by omega))]) w 0 N (0 : Int32) (by omega) (by omega) rfl
  unfold fX0_openColumns
  show Option.bind (fX0_openColumns_L4 N mh (nI w) (nI h) N (0 : Int32) (nI 0)) _ = _
  rw [e1, e2]
  rfl
theorem m_opens {w h k : Nat} (hB : Bd w h k) {p : Pos} (hp : okP w h p) {N : Nat} (hN : 30 < N) : fX5_game_L88 N (nI w) (nI h) (nI (kyM w h p)) N (nI 0) (nI 0) = some (nI (opn h p w)) := by
  have hw := hB.2.1
  obtain ⟨r, e1, e2⟩ := lpN (fun ct s i => fX5_game_L88 N (nI w) (nI h) (nI (kyM w h p)) ct s i) w (fun i s => s = nI (opn h p i)) (fun s => s = nI (opn h p w)) (by
      intro ct x s hx hI
      left
      refine ⟨nI (opn h p (x + 1)), rfl, ?_⟩
      show fX5_game_L88 N (nI w) (nI h) (nI (kyM w h p)) (ct + 1) s (nI x) = fX5_game_L88 N (nI w) (nI h) (nI (kyM w h p)) ct (nI (opn h p (x + 1))) (nI (x + 1))
      have z0 : ∀ x : Nat, nI x + (0 : Int32) = nI x := fun x => by rw [i0, nI_add, Nat.add_zero]
      rw [fX5_game_L88, if_neg (nI_ge hx (by omega)), m_free hB hp hx hN]
      simp only [Option.bind_some]
      rw [hI, opn_s, nI_1, nI_1, z0]
      by_cases q : (p x).length < h
      · rw [if_pos q, if_neg (by decide), if_pos q]
      · rw [if_neg q, if_pos rfl, if_neg q]
        first | done | rfl) (by
      intro ct s hI
      refine ⟨s, ?_, hI⟩
      show fX5_game_L88 N (nI w) (nI h) (nI (kyM w h p)) (ct + 1) s (nI w) = _
      rw [fX5_game_L88, if_pos (nI_le (Nat.le_refl _) (by omega))]) w 0 N (nI 0) (by omega) (by omega) rfl
  rw [e1, e2]
/-- which of two rows comes first -/
theorem ahead {a b : Nat} (ha : a < 2 ^ 16) (hb : b < 2 ^ 16) {N : Nat} (hN : 100 < N) : ∃ v : Bool, fX1_comesAhead N (nI a) (nI b) = some (nI v.toNat) ∧ fX5_isAhead N (nI a) (nI b) = some (nI v.toNat) := by
  have hx : a ^^^ b < 2 ^ 16 := Nat.xor_lt_two_pow ha hb
  have h31 := p16_31
  by_cases z : a ^^^ b = 0
  · refine ⟨false, ?_, ?_⟩
    · unfold fX1_comesAhead
      rw [fb_xorI, z, if_pos (by
        rw [and_nI, Nat.and_zero]
        decide)]
      rfl
    · unfold fX5_isAhead
      rw [fb_xorI, z, i0, (m_nth (x := 0) (n := 0) (by decide) hN (by decide)).2 (fun s hs => by
        have := hs.1
        rw [Nat.zero_testBit] at this
        cases this)]
      rfl
  · obtain ⟨s, hs, hl⟩ := least_bit z
    have hs16 := bit_16 hx hs
    have hk : kthB (a ^^^ b) 0 s := ⟨hs, fb_ct_zero.mpr hl⟩
    refine ⟨a.testBit s, ?_, ?_⟩
    · have e : ((nI a &&& nI (a ^^^ b)) &&& (-(nI (a ^^^ b)))) = nI (a &&& 2 ^ s) := by
        rw [Int32.and_assoc, low_neg hx hs hl, and_nI]
      unfold fX1_comesAhead
      rw [fb_xorI, e]
      cases q : a.testBit s
      · rw [if_pos (by rw [(fb_bit_nat a s).mpr q]; rfl)]
        rfl
      · rw [if_neg (fun u => by
          have h1 := (nI_eq (a := a &&& 2 ^ s) (b := 0) (Nat.lt_of_le_of_lt Nat.and_le_left (by omega)) (by decide)).mp u
          have h2 := (fb_bit_nat a s).mp h1
          rw [q] at h2
          cases h2)]
        rfl
    · unfold fX5_isAhead
      rw [fb_xorI, i0, (m_nth (n := 0) hx hN (by decide)).1 s hk]
      simp only [Option.bind_some]
      rw [if_neg (show ¬ nI s < nI 0 from nI_pos (by omega)), bitI (by omega) (by omega)]
      cases q : a.testBit s
      · rw [if_neg (fun u => by have := (bit1 a s).mp u; rw [q] at this; cases this)]
        rfl
      · rw [if_pos ((bit1 a s).mpr q)]
        rfl
theorem won_both {R : List Nat} (hb : ∀ q, q ∈ R → q < 2 ^ 16) {gr xr : Int32} {gR yR : Nat → Int32} (hA : rwA R gr gR) (hA2 : rwA R xr yR) {m N : Nat} (hm : m < 2 ^ 31) (hN : 100 < N) : ∀ d i ct ct' acc, i + d = R.length → d < ct → d < ct' → acc < 2 ^ 16 → ∃ r, r < 2 ^ 16 ∧ fX1_firstRowOf_L4 N gr gR (nI m) ct (nI acc) (nI i) = some (nI r) ∧ fX5_won_L61 N xr yR (nI m) ct' (nI acc) (nI i) = some (nI r) := by
  obtain ⟨h1, h2, h3⟩ := hA
  obtain ⟨g1, g2, g3⟩ := hA2
  have h31 := p16_31
  intro d
  induction d with
  | zero =>
    intro i ct ct' acc hi hc hc' ha
    obtain ⟨c, rfl⟩ : ∃ c, ct = c + 1 := ⟨ct - 1, by omega⟩
    obtain ⟨c', rfl⟩ : ∃ c, ct' = c + 1 := ⟨ct' - 1, by omega⟩
    refine ⟨acc, ha, ?_, ?_⟩
    · rw [fX1_firstRowOf_L4, h1, if_pos (nI_le (by omega) (by omega))]
    · rw [fX5_won_L61, g1, if_pos (nI_le (by omega) (by omega))]
  | succ d ih =>
    intro i ct ct' acc hi hc hc' ha
    obtain ⟨c, rfl⟩ : ∃ c, ct = c + 1 := ⟨ct - 1, by omega⟩
    obtain ⟨c', rfl⟩ : ∃ c, ct' = c + 1 := ⟨ct' - 1, by omega⟩
    have hil : i < R.length := by omega
    have hq : R.getD i 0 < 2 ^ 16 := hb _ ((mem_at R _).mpr ⟨i, hil, rfl⟩)
    have hin : inb (nI i) 64 = true := inbN (by omega) (by decide)
    rw [fX1_firstRowOf_L4, fX5_won_L61, if_neg (show ¬ gr ≤ nI i by rw [h1]; exact nI_ge hil (by omega)), if_neg (show ¬ xr ≤ nI i by rw [g1]; exact nI_ge hil (by omega))]
    simp only [okb_t hin]
    rw [nI_clamp (by omega), h3 i hil, g3 i hil, Int32.and_comm (nI (R.getD i 0)) (nI m), nI_1]
    by_cases q : nI m &&& nI (R.getD i 0) = nI (R.getD i 0)
    · rw [if_pos q, if_pos q]
      by_cases z : nI acc = 0
      · rw [if_pos z, if_pos z]
        exact ih (i + 1) c c' (R.getD i 0) (by omega) (by omega) (by omega) hq
      · rw [if_neg z, if_neg z]
        obtain ⟨v, e1, e2⟩ := ahead hq ha hN
        rw [e1, e2]
        simp only [Option.bind_some]
        cases v
        · rw [if_pos (show nI false.toNat = 0 from rfl), if_pos (show nI false.toNat = 0 from rfl)]
          exact ih (i + 1) c c' acc (by omega) (by omega) (by omega) ha
        · rw [if_neg (show ¬ nI true.toNat = 0 by decide), if_neg (show ¬ nI true.toNat = 0 by decide)]
          exact ih (i + 1) c c' (R.getD i 0) (by omega) (by omega) (by omega) hq
    · rw [if_neg q, if_neg q]
      exact ih (i + 1) c c' acc (by omega) (by omega) (by omega) ha
/-- a square that would win -/
def thrB (R : List Nat) (M : Bool → Nat) (b : Bool) (s : Nat) : Bool := !((M false).testBit s) && !((M true).testBit s) && hasR R (M b ||| 2 ^ s)
def thN (f : Nat → Bool) : Nat → Nat
  | 0 => 0
  | n + 1 => if f n = true then thN f n ||| 2 ^ n else thN f n
theorem thN_bit (f : Nat → Bool) : ∀ n b, (thN f n).testBit b = (decide (b < n) && f b)
  | 0, b => by simp [thN]
  | n + 1, b => by
    have ih := thN_bit f n b
    simp only [thN]
    by_cases e : b = n
    · subst e
      cases q : f b
      · rw [if_neg (by decide), ih, q]; simp
      · rw [if_pos rfl, Nat.testBit_or, Nat.testBit_two_pow_self]; simp
    · have e2 : decide (b < n + 1) = decide (b < n) := by
        by_cases u : b < n
        · rw [decide_eq_true u, decide_eq_true (show b < n + 1 by omega)]
        · rw [decide_eq_false u, decide_eq_false (show ¬ b < n + 1 by omega)]
      rw [e2]
      cases q : f n
      · rw [if_neg (by decide), ih]
      · rw [if_pos rfl, Nat.testBit_or, ih, Nat.testBit_two_pow, decide_eq_false (show ¬ n = b from fun u => e u.symm), Bool.or_false]
theorem thN_lt (f : Nat → Bool) {n : Nat} (hn : n ≤ 16) : thN f n < 2 ^ 16 := by
  apply Nat.lt_pow_two_of_testBit
  intro b hb
  rw [thN_bit, decide_eq_false (by omega), Bool.false_and]
theorem or_16 {m s : Nat} (hm : m < 2 ^ 16) (hs : s < 16) : m ||| 2 ^ s < 2 ^ 16 := Nat.or_lt_two_pow hm (Nat.pow_lt_pow_right (by decide) hs)
theorem c_isThr {R : List Nat} {gr : Int32} {gR : Nat → Int32} (hA : rwA R gr gR) (hb : ∀ q, q ∈ R → q < 2 ^ 16) {mm : Nat → Int32} {M : Bool → Nat} (hm : msk mm (M false) (M true)) (hM : ∀ b, M b < 2 ^ 16) {s : Nat} (hs : s < 16) (b : Bool) {N : Nat} (hN : 100 < N) : fX0_isThreat N mm gr gR (nI b.toNat) (nI s) = some (if thrB R M b s = true then 1 else 0) := by
  have h31 := p16_31
  have m0 := hM false
  have m1 := hM true
  unfold fX0_isThreat
  rw [c_man hm (by omega) (by omega) (by omega)]
  simp only [Option.bind_some]
  unfold thrB manI
  by_cases q : (M false).testBit s = true
  · rw [if_pos q, if_neg (by decide), q]
    rfl
  · rw [if_neg q]
    have q' : (M false).testBit s = false := by cases u : (M false).testBit s; rfl; exact absurd u q
    by_cases v : (M true).testBit s = true
    · rw [if_pos v, if_neg (by decide), q', v]
      rfl
    · have v' : (M true).testBit s = false := by cases u : (M true).testBit s; rfl; exact absurd u v
      have hor := or_16 (hM b) hs
      rw [if_neg v, if_pos rfl, okb_t (bI b), bIc, msk_at hm, shl1 (by omega), or_nI, c_has hA hb (by omega) hN, q', v']
      simp only [Option.bind_some]
      cases hasR R (M b ||| 2 ^ s) <;> rfl
theorem c_thrOf {R : List Nat} {gr : Int32} {gR : Nat → Int32} (hA : rwA R gr gR) (hb : ∀ q, q ∈ R → q < 2 ^ 16) {mm : Nat → Int32} {M : Bool → Nat} (hm : msk mm (M false) (M true)) (hM : ∀ b, M b < 2 ^ 16) {q : Nat} (hq : q ≤ 16) (b : Bool) {N : Nat} (hN : 100 < N) : fX0_threatsOf N mm (nI q) gr gR (nI b.toNat) = some (nI (thN (thrB R M b) q)) := by
  obtain ⟨r, e1, e2⟩ := lpN (fun ct s i => fX0_threatsOf_L4 N mm (nI q) gr gR (nI b.toNat) ct s i) q (fun i s => s = nI (thN (thrB R M b) i)) (fun s => s = nI (thN (thrB R M b) q)) (by
      intro ct i s hi hI
      left
      refine ⟨nI (thN (thrB R M b) (i + 1)), rfl, ?_⟩
      show fX0_threatsOf_L4 N mm (nI q) gr gR (nI b.toNat) (ct + 1) s (nI i) = fX0_threatsOf_L4 N mm (nI q) gr gR (nI b.toNat) ct (nI (thN (thrB R M b) (i + 1))) (nI (i + 1))
      rw [fX0_threatsOf_L4, if_neg (nI_ge hi (by omega)), c_isThr hA hb hm hM (by omega) b hN]
      simp only [Option.bind_some, thN]
      rw [hI, shl1 (by omega), or_nI, nI_1]
      cases thrB R M b i <;> rfl) (by
      intro ct s hI
      refine ⟨s, ?_, hI⟩
      show fX0_threatsOf_L4 N mm (nI q) gr gR (nI b.toNat) (ct + 1) s (nI q) = _
      rw [fX0_threatsOf_L4, if_pos (nI_le (Nat.le_refl _) (by omega))]) q 0 N (0 : Int32) (by omega) (by omega) rfl
  unfold fX0_threatsOf
  show Option.bind (fX0_threatsOf_L4 N mm (nI q) gr gR (nI b.toNat) N (0 : Int32) (nI 0)) _ = _
  rw [e1, e2]
  rfl
theorem m_thrOf {R : List Nat} {xr : Int32} {yR : Nat → Int32} (hA : rwA R xr yR) (hb : ∀ q, q ∈ R → q < 2 ^ 16) {yM : Nat → Int32} {M : Bool → Nat} (hm : msk yM (M false) (M true)) (hM : ∀ b, M b < 2 ^ 16) {w h : Nat} (hq : w * h ≤ 16) (b : Bool) {N : Nat} (hN : 100 < N) : fX5_threatsOf N (nI w) (nI h) xr yR yM (nI b.toNat) = some (nI (thN (thrB R M b) (w * h))) := by
  have h31 := p16_31
  obtain ⟨r, e1, e2⟩ := lpN (fun ct s i => fX5_threatsOf_L4 N (nI w) (nI h) xr yR yM (nI b.toNat) ct s i) (w * h) (fun i s => s = nI (thN (thrB R M b) i)) (fun s => s = nI (thN (thrB R M b) (w * h))) (by
      intro ct i s hi hI
      left
      refine ⟨nI (thN (thrB R M b) (i + 1)), rfl, ?_⟩
      show fX5_threatsOf_L4 N (nI w) (nI h) xr yR yM (nI b.toNat) (ct + 1) s (nI i) = fX5_threatsOf_L4 N (nI w) (nI h) xr yR yM (nI b.toNat) ct (nI (thN (thrB R M b) (i + 1))) (nI (i + 1))
      have d0 : inb (0 : Int32) 2 = true := by decide
      have d1 : inb (1 : Int32) 2 = true := by decide
      have z0 : ∀ x : Nat, nI x ||| (0 : Int32) = nI x := fun x => by rw [i0, or_nI, Nat.or_zero]
      have hor := or_16 (hM b) (show i < 16 by omega)
      rw [fX5_threatsOf_L4, pk_mul, if_neg (nI_ge hi (by omega))]
      simp only [okb_t d0, okb_t d1, okb_t (bI b)]
      rw [show (0 : Int32).toNatClampNeg = 0 from rfl, show (1 : Int32).toNatClampNeg = 1 from rfl, hm.1, hm.2, bIc, msk_at hm, hI, shl1 (by omega), or_nI, or_nI, or_nI, z0, nI_1, if_neg (show ¬ (1 : Int32) = 0 by decide), if_pos trivial, m_has hA hb (by omega) hN]
      simp only [Option.bind_some, thN]
      by_cases q : (M false ||| M true).testBit i = false
      · rw [if_pos ((fa_bit (by omega)).mpr q)]
        rw [Nat.testBit_or, Bool.or_eq_false_iff] at q
        unfold thrB
        rw [q.1, q.2]
        cases hasR R (M b ||| 2 ^ i) <;> rfl
      · rw [if_neg (fun u => q ((fa_bit (by omega)).mp u))]
        have e9 : thrB R M b i = false := by
          unfold thrB
          rw [Nat.testBit_or] at q
          revert q
          cases (M false).testBit i <;> cases (M true).testBit i <;> simp
        rw [e9]
        rfl) (by
      intro ct s hI
      refine ⟨s, ?_, hI⟩
      show fX5_threatsOf_L4 N (nI w) (nI h) xr yR yM (nI b.toNat) (ct + 1) s (nI (w * h)) = _
      rw [fX5_threatsOf_L4, pk_mul, if_pos (nI_le (Nat.le_refl _) (by omega))]) (w * h) 0 N (0 : Int32) (by omega) (by omega) rfl
  unfold fX5_threatsOf
  show Option.bind (fX5_threatsOf_L4 N (nI w) (nI h) xr yR yM (nI b.toNat) N (0 : Int32) (nI 0)) _ = _
  rw [e1, e2]
  rfl
