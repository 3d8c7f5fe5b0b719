/-! waiting, and boards that are their own image -/
def ovB (w h : Nat) (R : List Nat) (p : Pos) : Bool := wonB w R p || decide (cnt w p = w * h)
theorem ovB_t {w h : Nat} {R : List Nat} {p : Pos} : ovB w h R p = true ↔ ovr w h R p := by
  unfold ovB ovr
  rw [Bool.or_eq_true, decide_eq_true_eq]
def srt (w h : Nat) (R : List Nat) (p : Pos) (x : Nat) : Nat :=
  if thrB R (mk w p) (sd w p) (w * (p x).length + x) = true then 0
  else if thrB R (mk w p) (!(sd w p)) (w * (p x).length + x) = true then 1
  else if (p x).length + 1 < h then (if thrB R (mk w p) (!(sd w p)) (w * (p x).length + x + w) = true then 4 else if thrB R (mk w p) (sd w p) (w * (p x).length + x + w) = true then 3 else 2)
  else 2
theorem srt_le (w h : Nat) (R : List Nat) (p : Pos) (x : Nat) : srt w h R p x ≤ 4 := by
  unfold srt
  split
  · omega
  · split
    · omega
    · split
      · split
        · omega
        · split <;> omega
      · omega
theorem abv {w h k : Nat} (hB : Bd w h k) {x y : Nat} (hx : x < w) : (w * y + x + w < w * h ↔ y + 1 < h) := by
  have e : w * (y + 1) = w * y + w := Nat.mul_succ w y
  constructor
  · intro q
    rcases Nat.lt_or_ge (y + 1) h with u | u
    · exact u
    · exfalso
      have := Nat.mul_le_mul_left w u
      omega
  · intro q
    have := (sq_lt hB hx q).1
    omega
theorem c_sort {w h k : Nat} (hB : Bd w h k) {R : List Nat} (hR : RF w h R) {gr : Int32} {gR : Nat → Int32} (hA : rwA R gr gR) {p : Pos} (hp : okP w h p) {mm mh : Nat → Int32} (hm : msk mm (mk w p false) (mk w p true)) (hh : hgA p mh) {x : Nat} (hx : x < w) (hl : (p x).length < h) {N : Nat} (hN : 100 < N) : fX0_waitingSort N (nI (cnt w p)) mm mh (nI w) (nI (w * h)) gr gR (nI x) = some (nI (srt w h R p x)) := by
  have hsq := sq_lt hB hx hl
  have hwh := hB.2.2.2.2.1
  have hM := mk_lt hB hp
  have habv := abv hB (y := (p x).length) hx
  unfold fX0_waitingSort
  rw [c_side, c_sqIn hB hh hx]
  simp only [Option.bind_some]
  rw [oth_nat, ← sd_nat, nI_add, c_isThr hA hR.2.1 (M := mk w p) hm hM hsq.2 _ hN, c_isThr hA hR.2.1 (M := mk w p) hm hM hsq.2 _ hN]
  simp only [Option.bind_some]
  unfold srt
  by_cases a1 : thrB R (mk w p) (sd w p) (w * (p x).length + x) = true
  · rw [if_pos a1, if_pos a1, if_neg (by decide)]
    rfl
  · rw [if_neg a1, if_neg a1, if_pos rfl]
    by_cases a2 : thrB R (mk w p) (!(sd w p)) (w * (p x).length + x) = true
    · rw [if_pos a2, if_pos a2, if_neg (by decide)]
      rfl
    · rw [if_neg a2, if_neg a2, if_pos rfl]
      by_cases a3 : (p x).length + 1 < h
      · have hlt := habv.mpr a3
        rw [if_pos (nI_lt hlt (by omega)), if_pos a3, c_isThr hA hR.2.1 (M := mk w p) hm hM (by omega) _ hN, c_isThr hA hR.2.1 (M := mk w p) hm hM (by omega) _ hN]
        simp only [Option.bind_some]
        by_cases a4 : thrB R (mk w p) (!(sd w p)) (w * (p x).length + x + w) = true
        · rw [if_pos a4, if_pos a4, if_neg (by decide)]
          rfl
        · rw [if_neg a4, if_neg a4, if_pos rfl]
          by_cases a5 : thrB R (mk w p) (sd w p) (w * (p x).length + x + w) = true
          · rw [if_pos a5, if_pos a5, if_neg (by decide)]
            rfl
          · rw [if_neg a5, if_neg a5, if_pos rfl]
            rfl
      · rw [if_neg (nI_nlt (by
          have := fun q => a3 (habv.mp q)
          omega) (by
          have := hB.2.1
          omega)), if_neg a3]
        rfl
theorem thn_at {f : Nat → Bool} {n s : Nat} (hs : s < n) (hn : n ≤ 16) : (nI (thN f n) &&& nI (2 ^ s) = 0) ↔ ¬ f s = true := by
  rw [fa_bit (by omega), thN_bit, decide_eq_true hs, Bool.true_and]
  cases f s <;> simp
theorem m_sort {w h k : Nat} (hB : Bd w h k) {R : List Nat} {p : Pos} (hp : okP w h p) {x : Nat} (hx : x < w) (hl : (p x).length < h) {N : Nat} (hN : 100 < N) : fX5_sortOf N (nI w) (nI h) (nI (kyM w h p)) (nI x) (nI (thN (thrB R (mk w p) (sd w p)) (w * h))) (nI (thN (thrB R (mk w p) (!(sd w p))) (w * h))) = some (nI (srt w h R p x)) := by
  have hsq := sq_lt hB hx hl
  have hwh := hB.2.2.2.2.1
  have hhb := hB.2.2.2.1
  have habv := abv hB (y := (p x).length) hx
  have esq : nI w * nI (p x).length + nI x = nI (w * (p x).length + x) := by rw [pk_mul, nI_add]
  unfold fX5_sortOf
  rw [m_hgt hB hp hx (by omega)]
  simp only [Option.bind_some]
  rw [esq, nI_1, shl1 (by omega)]
  unfold srt
  have t1 := thn_at (f := thrB R (mk w p) (sd w p)) hsq.1 hwh
  have t2 := thn_at (f := thrB R (mk w p) (!(sd w p))) hsq.1 hwh
  by_cases a3 : (p x).length + 1 < h
  · have hlt := habv.mpr a3
    have esq2 : nI w * nI ((p x).length + 1) + nI x = nI (w * (p x).length + x + w) := by
      rw [pk_mul, nI_add, Nat.mul_succ]
      congr 1
      omega
    have t3 := thn_at (f := thrB R (mk w p) (sd w p)) hlt hwh
    have t4 := thn_at (f := thrB R (mk w p) (!(sd w p))) hlt hwh
    have t5 : ((nI (thN (thrB R (mk w p) (sd w p)) (w * h)) ||| nI (thN (thrB R (mk w p) (!(sd w p))) (w * h))) &&& nI (2 ^ (w * (p x).length + x + w)) = 0) ↔ (¬ thrB R (mk w p) (sd w p) (w * (p x).length + x + w) = true ∧ ¬ thrB R (mk w p) (!(sd w p)) (w * (p x).length + x + w) = true) := by
      rw [or_nI, fa_bit (by omega), Nat.testBit_or, Bool.or_eq_false_iff, ← t3, ← t4, fa_bit (by omega), fa_bit (by omega)]
    rw [if_neg (nI_ge a3 (by omega)), esq2, shl1 (by omega), if_pos a3]
    by_cases a1 : thrB R (mk w p) (sd w p) (w * (p x).length + x) = true
    · rw [if_neg (fun u => t1.mp u a1), if_pos a1]
      rfl
    · rw [if_pos (t1.mpr a1), if_neg a1]
      by_cases a2 : thrB R (mk w p) (!(sd w p)) (w * (p x).length + x) = true
      · rw [if_neg (fun u => t2.mp u a2), if_pos a2]
        rfl
      · rw [if_pos (t2.mpr a2), if_neg a2]
        by_cases a4 : thrB R (mk w p) (!(sd w p)) (w * (p x).length + x + w) = true
        · rw [if_neg (fun u => (t5.mp u).2 a4), if_neg (fun u => t4.mp u a4), if_pos a4]
          rfl
        · rw [if_neg a4]
          by_cases a5 : thrB R (mk w p) (sd w p) (w * (p x).length + x + w) = true
          · rw [if_neg (fun u => (t5.mp u).1 a5), if_pos (t4.mpr a4), if_pos a5]
            rfl
          · rw [if_pos (t5.mpr ⟨a5, a4⟩), if_neg a5]
            rfl
  · rw [if_pos (nI_le (by omega) (by omega)), if_neg a3]
    by_cases a1 : thrB R (mk w p) (sd w p) (w * (p x).length + x) = true
    · rw [if_neg (fun u => t1.mp u a1), if_pos a1]
      rfl
    · rw [if_pos (t1.mpr a1), if_neg a1]
      by_cases a2 : thrB R (mk w p) (!(sd w p)) (w * (p x).length + x) = true
      · rw [if_neg (fun u => t2.mp u a2), if_pos a2]
        rfl
      · rw [if_pos (t2.mpr a2), if_neg a2, if_pos (by rw [i0, or_nI, and_nI, Nat.and_zero])]
        rfl
/-- the column that waiting takes -/
def wcF (w h : Nat) (R : List Nat) (p : Pos) : Nat → Option (Nat × Nat)
  | 0 => none
  | z + 1 => if (p z).length < h then (match wcF w h R p z with
      | none => some (z, srt w h R p z)
      | some (c, v) => if srt w h R p z < v then some (z, srt w h R p z) else some (c, v)) else wcF w h R p z
def wcC : Option (Nat × Nat) → Int32
  | none => -1
  | some (c, _) => nI c
def wcV (d : Nat) : Option (Nat × Nat) → Nat
  | none => d
  | some (_, v) => v
theorem wcF_b (w h : Nat) (R : List Nat) (p : Pos) : ∀ z, (∀ c v, wcF w h R p z = some (c, v) → c < z ∧ (p c).length < h ∧ v ≤ 4) ∧ ((∃ x, x < z ∧ (p x).length < h) → ∃ c v, wcF w h R p z = some (c, v))
  | 0 => ⟨fun c v e => (by cases e), fun ⟨x, hx, _⟩ => absurd hx (Nat.not_lt_zero x)⟩
  | z + 1 => by
    obtain ⟨i1, i2⟩ := wcF_b w h R p z
    have hs := srt_le w h R p z
    simp only [wcF]
    by_cases q : (p z).length < h
    · rw [if_pos q]
      cases e : wcF w h R p z with
      | none =>
        refine ⟨fun c v u => ?_, fun _ => ⟨_, _, rfl⟩⟩
        have u' := Option.some.inj u
        obtain ⟨rfl, rfl⟩ := Prod.mk.inj u'
        exact ⟨Nat.lt_succ_self _, q, hs⟩
      | some cv =>
        obtain ⟨c0, v0⟩ := cv
        have h0 := i1 c0 v0 e
        show (∀ c v, (if srt w h R p z < v0 then some (z, srt w h R p z) else some (c0, v0)) = some (c, v) → _) ∧ (_ → ∃ c v, (if srt w h R p z < v0 then some (z, srt w h R p z) else some (c0, v0)) = some (c, v))
        by_cases r : srt w h R p z < v0
        · rw [if_pos r]
          refine ⟨fun c v u => ?_, fun _ => ⟨_, _, rfl⟩⟩
          have u' := Option.some.inj u
          obtain ⟨rfl, rfl⟩ := Prod.mk.inj u'
          exact ⟨Nat.lt_succ_self _, q, hs⟩
        · rw [if_neg r]
          refine ⟨fun c v u => ?_, fun _ => ⟨_, _, rfl⟩⟩
          have u' := Option.some.inj u
          obtain ⟨rfl, rfl⟩ := Prod.mk.inj u'
          exact ⟨by omega, h0.2.1, h0.2.2⟩
    · rw [if_neg q]
      refine ⟨fun c v u => ?_, fun ⟨x, hx, hl⟩ => i2 ⟨x, ?_, hl⟩⟩
      · have := i1 c v u
        exact ⟨by omega, this.2.1, this.2.2⟩
      · rcases Nat.lt_or_ge x z with r | r
        · exact r
        · exfalso
          have : x = z := by omega
          subst this
          exact q hl
theorem wc_step (w h : Nat) (R : List Nat) (p : Pos) (z d : Nat) (hd : 4 < d) (q : (p z).length < h) : wcF w h R p (z + 1) = if wcV d (wcF w h R p z) ≤ srt w h R p z then wcF w h R p z else some (z, srt w h R p z) := by
  have hs := srt_le w h R p z
  simp only [wcF]
  rw [if_pos q]
  cases e : wcF w h R p z with
  | none =>
    rw [if_neg (show ¬ wcV d none ≤ _ by show ¬ d ≤ _; omega)]
  | some cv =>
    obtain ⟨c0, v0⟩ := cv
    show (if srt w h R p z < v0 then some (z, srt w h R p z) else some (c0, v0)) = if v0 ≤ srt w h R p z then some (c0, v0) else some (z, srt w h R p z)
    by_cases r : srt w h R p z < v0
    · rw [if_pos r, if_neg (by omega)]
    · rw [if_neg r, if_pos (by omega)]
theorem wcV_b {w h : Nat} {R : List Nat} {p : Pos} (z : Nat) {d : Nat} (hd : d < 1000) : wcV d (wcF w h R p z) < 1000 := by
  cases e : wcF w h R p z with
  | none => exact hd
  | some cv =>
    obtain ⟨c0, v0⟩ := cv
    have := ((wcF_b w h R p z).1 c0 v0 e).2.2
    show v0 < 1000
    omega
theorem c_wcol {w h k : Nat} (hB : Bd w h k) {R : List Nat} (hR : RF w h R) {gr : Int32} {gR : Nat → Int32} (hA : rwA R gr gR) {p : Pos} (hp : okP w h p) {mm mh : Nat → Int32} (hm : msk mm (mk w p false) (mk w p true)) (hh : hgA p mh) {N : Nat} (hN : 100 < N) : fX0_waitingColumn N (nI (cnt w p)) mm mh (nI w) (nI h) (nI (w * h)) gr gR = some (wcC (wcF w h R p w)) := by
  have hw := hB.2.1
  obtain ⟨r, e1, e2⟩ := lpN (fun ct (s : Int32 × Int32) i => fX0_waitingColumn_L6 N (nI (cnt w p)) mm mh (nI w) (nI h) (nI (w * h)) gr gR ct s.1 s.2 i) w (fun z s => s.1 = wcC (wcF w h R p z) ∧ s.2 = nI (wcV 5 (wcF w h R p z))) (fun r => r = wcC (wcF w h R p w)) (by
      rintro ct z ⟨a, b⟩ hz ⟨j1, j2⟩
      dsimp only at j1 j2
      left
      have hs := srt_le w h R p z
      have hv := wcV_b (w := w) (h := h) (R := R) (p := p) z (d := 5) (by decide)
      refine ⟨(wcC (wcF w h R p (z + 1)), nI (wcV 5 (wcF w h R p (z + 1)))), ⟨rfl, rfl⟩, ?_⟩
      show fX0_waitingColumn_L6 N (nI (cnt w p)) mm mh (nI w) (nI h) (nI (w * h)) gr gR (ct + 1) a b (nI z) = fX0_waitingColumn_L6 N (nI (cnt w p)) mm mh (nI w) (nI h) (nI (w * h)) gr gR ct (wcC (wcF w h R p (z + 1))) (nI (wcV 5 (wcF w h R p (z + 1)))) (nI (z + 1))
      rw [fX0_waitingColumn_L6, if_neg (nI_ge hz (by omega)), c_open hB hp hh hz]
      simp only [Option.bind_some]
      by_cases q : (p z).length < h
      · rw [if_pos q, if_neg (by decide), c_sort hB hR hA hp hm hh hz q hN, wc_step w h R p z 5 (by decide) q]
        simp only [Option.bind_some]
        rw [j1, j2, nI_1]
        by_cases u : wcV 5 (wcF w h R p z) ≤ srt w h R p z
        · rw [if_pos (nI_le u (by omega)), if_pos u]
        · rw [if_neg (nI_ge (by omega) (by omega)), if_neg u]
          rfl
      · rw [if_neg q, if_pos rfl, j1, j2, nI_1]
        simp only [wcF]
        rw [if_neg q]) (by
      rintro ct ⟨a, b⟩ ⟨j1, j2⟩
      refine ⟨a, ?_, j1⟩
      show fX0_waitingColumn_L6 N (nI (cnt w p)) mm mh (nI w) (nI h) (nI (w * h)) gr gR (ct + 1) a b (nI w) = _
      rw [fX0_waitingColumn_L6, if_pos (nI_le (Nat.le_refl _) (by omega))]) w 0 N ((-1 : Int32), (5 : Int32)) (by omega) (by omega) ⟨rfl, rfl⟩
  unfold fX0_waitingColumn
  show Option.bind (fX0_waitingColumn_L6 N (nI (cnt w p)) mm mh (nI w) (nI h) (nI (w * h)) gr gR N (-1 : Int32) (5 : Int32) (nI 0)) _ = _
  rw [e1, e2]
  rfl
theorem m_wcol {w h k : Nat} (hB : Bd w h k) {R : List Nat} {p : Pos} (hp : okP w h p) {N : Nat} (hN : 100 < N) : fX5_waiting_L78 N (nI w) (nI h) (nI (kyM w h p)) (nI (thN (thrB R (mk w p) (sd w p)) (w * h))) (nI (thN (thrB R (mk w p) (!(sd w p))) (w * h))) N (-1 : Int32) (9 : Int32) (nI 0) = some (wcC (wcF w h R p w)) := by
  have hw := hB.2.1
  have hhb := hB.2.2.2.1
  obtain ⟨r, e1, e2⟩ := lpN (fun ct (s : Int32 × Int32) i => fX5_waiting_L78 N (nI w) (nI h) (nI (kyM w h p)) (nI (thN (thrB R (mk w p) (sd w p)) (w * h))) (nI (thN (thrB R (mk w p) (!(sd w p))) (w * h))) ct s.1 s.2 i) w (fun z s => s.1 = wcC (wcF w h R p z) ∧ s.2 = nI (wcV 9 (wcF w h R p z))) (fun r => r = wcC (wcF w h R p w)) (by
      rintro ct z ⟨a, b⟩ hz ⟨j1, j2⟩
      dsimp only at j1 j2
      left
      have hs := srt_le w h R p z
      have hlz := hp.1 z hz
      have hv := wcV_b (w := w) (h := h) (R := R) (p := p) z (d := 9) (by decide)
      refine ⟨(wcC (wcF w h R p (z + 1)), nI (wcV 9 (wcF w h R p (z + 1)))), ⟨rfl, rfl⟩, ?_⟩
      show fX5_waiting_L78 N (nI w) (nI h) (nI (kyM w h p)) (nI (thN (thrB R (mk w p) (sd w p)) (w * h))) (nI (thN (thrB R (mk w p) (!(sd w p))) (w * h))) (ct + 1) a b (nI z) = fX5_waiting_L78 N (nI w) (nI h) (nI (kyM w h p)) (nI (thN (thrB R (mk w p) (sd w p)) (w * h))) (nI (thN (thrB R (mk w p) (!(sd w p))) (w * h))) ct (wcC (wcF w h R p (z + 1))) (nI (wcV 9 (wcF w h R p (z + 1)))) (nI (z + 1))
      rw [fX5_waiting_L78, if_neg (nI_ge hz (by omega)), m_hgt hB hp hz (by omega)]
      simp only [Option.bind_some]
      by_cases q : (p z).length < h
      · rw [if_neg (nI_ge q (by omega)), m_sort hB hp hz q hN, wc_step w h R p z 9 (by decide) q]
        simp only [Option.bind_some]
        rw [j1, j2, nI_1]
        by_cases u : wcV 9 (wcF w h R p z) ≤ srt w h R p z
        · rw [if_pos (nI_le u (by omega)), if_pos u]
        · rw [if_neg (nI_ge (by omega) (by omega)), if_neg u]
          rfl
      · rw [if_pos (nI_le (by omega) (by omega)), j1, j2, nI_1]
        simp only [wcF]
        rw [if_neg q]) (by
      rintro ct ⟨a, b⟩ ⟨j1, j2⟩
      refine ⟨a, ?_, j1⟩
      show fX5_waiting_L78 N (nI w) (nI h) (nI (kyM w h p)) (nI (thN (thrB R (mk w p) (sd w p)) (w * h))) (nI (thN (thrB R (mk w p) (!(sd w p))) (w * h))) (ct + 1) a b (nI w) = _
      rw [fX5_waiting_L78, if_pos (nI_le (Nat.le_refl _) (by omega))]) w 0 N ((-1 : Int32), (9 : Int32)) (by omega) (by omega) ⟨rfl, rfl⟩
  rw [e1, e2]
/-- where a game ends if both wait -/
def wE (w h : Nat) (R : List Nat) : Nat → Pos → Pos
  | 0, p => p
  | m + 1, p => if ovB w h R p = true then p else wE w h R m (nxt w p (wcC (wcF w h R p w)).toNatClampNeg)
theorem wcol_some {w h : Nat} {R : List Nat} {p : Pos} (hp : okP w h p) (hc : cnt w p < w * h) (hw : w < 2 ^ 31) : ∃ c, c < w ∧ (p c).length < h ∧ wcC (wcF w h R p w) = nI c ∧ (wcC (wcF w h R p w)).toNatClampNeg = c := by
  obtain ⟨i1, i2⟩ := wcF_b w h R p w
  obtain ⟨c, v, e⟩ := i2 (cnt_open hp hc)
  have := i1 c v e
  refine ⟨c, this.1, this.2.1, by rw [e]; rfl, ?_⟩
  rw [e]
  exact nI_clamp (by omega)
theorem c_wait {w h k : Nat} (hB : Bd w h k) {R : List Nat} (hR : RF w h R) {gr : Int32} {gR : Nat → Int32} (hA : rwA R gr gR) {N : Nat} (hN : 100 < N) : ∀ (m n : Nat) (c : Nat → Nat) (dv : Int32) (dc dm dh : Nat → Int32) (ct : Nat), n + m = w * h → m < ct → vld w h R c n → gmA w n c dv dc dm dh →
    ∃ st n' c', fX4_waiting_L33 N (nI w) (nI h) (nI (w * h)) gr gR ct dv dc dm dh (nI n) = some st ∧ gmA w n' c' st.1 st.2.1 st.2.2.1 st.2.2.2 ∧ vld w h R c' n' ∧ posF w c' n' = wE w h R m (posF w c n) := by
  intro m
  have hwh := hB.2.2.2.2.1
  induction m with
  | zero =>
    intro n c dv dc dm dh ct hn hct hv hg
    obtain ⟨d, rfl⟩ : ∃ d, ct = d + 1 := ⟨ct - 1, by omega⟩
    refine ⟨(dv, dc, dm, dh), n, c, ?_, hg, hv, rfl⟩
    rw [fX4_waiting_L33, if_pos (nI_le (by omega) (by omega))]
  | succ m ih =>
    intro n c dv dc dm dh ct hn hct hv hg
    obtain ⟨d, rfl⟩ : ∃ d, ct = d + 1 := ⟨ct - 1, by omega⟩
    obtain ⟨hp, hcn⟩ := Cm_ok (posF_Cm hv n (Nat.le_refl n))
    have hg' := hg
    obtain ⟨g1, g2, g3, g4⟩ := hg'
    rw [fX4_waiting_L33, if_neg (nI_ge (by omega) (by omega)), g1]
    by_cases ho : ovr w h R (posF w c n)
    · have e := c_over1 hB hR hA hp g3 hN ho
      rw [hcn] at e
      rw [e]
      simp only [Option.bind_some]
      rw [if_neg (by decide)]
      refine ⟨_, n, c, rfl, ⟨rfl, g2, g3, g4⟩, hv, ?_⟩
      simp only [wE]
      rw [if_pos (ovB_t.mpr ho)]
    · have e := c_over0 hB hR hA hp g3 hN ho
      have e2 := c_wcol hB hR hA hp g3 g4 hN
      rw [hcn] at e e2
      obtain ⟨x, hx, hl, e3, e4⟩ := wcol_some (R := R) hp (by omega) (by have := hB.2.1; omega)
      rw [e]
      simp only [Option.bind_some]
      rw [if_pos trivial, e2, e3]
      simp only [Option.bind_some]
      obtain ⟨u, e5, e6, e7⟩ := c_make hB hv ⟨rfl, g2, g3, g4⟩ hx hl N
      rw [e5]
      simp only [Option.bind_some]
      rw [nI_1]
      obtain ⟨st, n', c', a1, a2, a3, a4⟩ := ih (n + 1) (cx c n x) u.2.1 u.2.2.1 u.2.2.2.1 u.2.2.2.2 d (by omega) (by omega) (vld_cx hv ho hx hl) e7
      refine ⟨st, n', c', a1, a2, a3, ?_⟩
      rw [a4, posF_cxs]
      simp only [wE]
      rw [if_neg (fun q => ho (ovB_t.mp q)), e4]
theorem wE_Cm {w h k : Nat} (hB : Bd w h k) {R : List Nat} : ∀ (m n : Nat) (p : Pos), n + m = w * h → Cm w h R n p → ∃ n', Cm w h R n' (wE w h R m p) ∧ ovr w h R (wE w h R m p)
  | 0, n, p, hn, hc => ⟨n, hc, Or.inr (show cnt w p = w * h by rw [(Cm_ok hc).2]; exact hn)⟩
  | m + 1, n, p, hn, hc => by
    obtain ⟨hp, hcn⟩ := Cm_ok hc
    simp only [wE]
    by_cases ho : ovr w h R p
    · rw [if_pos (ovB_t.mpr ho)]
      exact ⟨n, hc, ho⟩
    · rw [if_neg (fun q => ho (ovB_t.mp q))]
      obtain ⟨x, hx, hl, e3, e4⟩ := wcol_some (R := R) hp (by omega) (by have := hB.2.1; omega)
      rw [e4]
      exact wE_Cm hB m (n + 1) _ (by omega) (Cm_next hc ho hx hl)
theorem m_wait {w h k : Nat} (hB : Bd w h k) {R : List Nat} (hR : RF w h R) {xr : Int32} {yR : Nat → Int32} (hA : rwA R xr yR) {yT : Nat → Int32} (hT : ∀ n p, Cm w h R n p → yT (kyM w h p) = val1 w h R p) {N : Nat} (hN : 100 < N) : ∀ (m n : Nat) (p : Pos) (xc : Int32) (yM : Nat → Int32) (ct : Nat), n + m = w * h → m + 1 < ct → Cm w h R n p →
    ∃ a b, fX5_waiting_L21 N (nI w) (nI h) xr yR yT ct xc yM (nI (kyM w h p)) (nI n) = some (a, b, nI (kyM w h (wE w h R m p)), nI (cnt w (wE w h R m p))) := by
  intro m
  have hwh := hB.2.2.2.2.1
  induction m with
  | zero =>
    intro n p xc yM ct hn hct hc
    obtain ⟨d, rfl⟩ : ∃ d, ct = d + 1 := ⟨ct - 1, by omega⟩
    obtain ⟨hp, hcn⟩ := Cm_ok hc
    have hk := ky_31 hB hp
    have hin : inb (nI (kyM w h p)) 2097152 = true := inbN hk (by decide)
    refine ⟨xc, yM, ?_⟩
    show fX5_waiting_L21 N (nI w) (nI h) xr yR yT (d + 1) xc yM (nI (kyM w h p)) (nI n) = some (xc, yM, nI (kyM w h p), nI (cnt w p))
    rw [fX5_waiting_L21, okb_t hin, nI_clamp (by omega), hT n p hc, hcn]
    unfold val1
    by_cases q : wonB w R p = true
    · rw [if_pos q, if_pos rfl]
    · rw [if_neg q, if_pos (show cnt w p = w * h by omega), if_neg (by decide), okb_t hin, if_pos rfl]
  | succ m ih =>
    intro n p xc yM ct hn hct hc
    obtain ⟨d, rfl⟩ : ∃ d, ct = d + 1 := ⟨ct - 1, by omega⟩
    obtain ⟨hp, hcn⟩ := Cm_ok hc
    have hk := ky_31 hB hp
    have hin : inb (nI (kyM w h p)) 2097152 = true := inbN hk (by decide)
    rw [fX5_waiting_L21, okb_t hin, nI_clamp (by omega), hT n p hc]
    simp only [wE]
    by_cases ho : ovr w h R p
    · refine ⟨xc, yM, ?_⟩
      rw [if_pos (ovB_t.mpr ho), hcn]
      unfold val1
      by_cases q : wonB w R p = true
      · rw [if_pos q, if_pos rfl]
      · have e : cnt w p = w * h := by
          rcases ho with u | u
          · exact absurd u q
          · exact u
        rw [if_neg q, if_pos e, if_neg (by decide), okb_t hin, if_pos rfl]
    · obtain ⟨n1, n2⟩ := val1_n hB hp ho
      obtain ⟨x, hx, hl, e3, e4⟩ := wcol_some (R := R) hp (by omega) (by have := hB.2.1; omega)
      obtain ⟨r, r1, r2, r3⟩ := m_dec hB hp (N := N) (by omega) yM
      have hrem : nI n - nI n / (2 : Int32) * (2 : Int32) = nI (sd w p).toNat := by rw [remI (by omega), sd_nat, hcn]
      have hoth : (1 : Int32) - nI (sd w p).toNat = nI (!(sd w p)).toNat := by cases sd w p <;> rfl
      obtain ⟨a, b, e9⟩ := ih (n + 1) (nxt w p x) r.1 r.2 d (by omega) (by omega) (Cm_next hc ho hx hl)
      refine ⟨a, b, ?_⟩
      rw [if_neg n1, okb_t hin, if_neg n2, r1]
      simp only [Option.bind_some]
      rw [hrem, hoth, m_thrOf hA hR.2.1 (M := mk w p) r3 (mk_lt hB hp) hwh _ hN, m_thrOf hA hR.2.1 (M := mk w p) r3 (mk_lt hB hp) hwh _ hN]
      simp only [Option.bind_some]
      rw [i0, m_wcol hB hp hN, e3]
      simp only [Option.bind_some]
      rw [m_drop hB hp hx hl _ (by omega)]
      simp only [Option.bind_some]
      rw [nI_1, if_neg (fun q => ho (ovB_t.mp q)), nI_clamp (by have := hB.2.1; omega)]
      exact e9
/-- a square and its image -/
def mo : Option Bool → Int32
  | none => -1
  | some false => 0
  | some true => 1
theorem mo_inj {a b : Option Bool} (h : mo a = mo b) : a = b := by
  revert h
  rcases a with _ | a <;> rcases b with _ | b
  · intro; rfl
  · cases b <;> intro h <;> exact absurd h (by decide)
  · cases a <;> intro h <;> exact absurd h (by decide)
  · cases a <;> cases b <;> intro h <;> first | rfl | exact absurd h (by decide)
theorem man_mo {w : Nat} (p : Pos) (y : Nat) {z : Nat} (hz : z < w) : manI (mk w p false) (mk w p true) (w * y + z) = mo ((p z).reverse[y]?) := by
  unfold manI
  rw [mk_bit p false y hz, mk_bit p true y hz]
  cases e : (p z).reverse[y]? with
  | none => rfl
  | some b => cases b <;> rfl
theorem c_even {w h k : Nat} (hB : Bd w h k) {p : Pos} (hp : okP w h p) {cm : Nat → Int32} (hm : msk cm (mk w p false) (mk w p true)) {N : Nat} (hN : 100 < N) : ∃ v : Bool, (v = true ↔ ∀ x, x < w → p x = p (w - 1 - x)) ∧ fX4_even N cm (nI w) (nI (w * h)) = some (nI v.toNat) := by
  have hwh := hB.2.2.2.2.1
  have hw0 : 0 < w := hB.1
  have hw7 := hB.2.1
  have himg : ∀ s, s < w * h → fX1_imageOf N (nI w) (nI s) = some (nI (sgm w s)) := fun s hs => by
    unfold fX1_imageOf
    have hz := Nat.mod_lt s hw0
    have hle := Nat.mod_le s w
    rw [if_pos (show (1 : Int32) ≤ nI w from nI_le (a := 1) hw0 (by omega)), okb_t (by simp [nI_ne0 hw0 (show w < 2 ^ 31 by omega)]), pk_rem (by omega) hw0 (by omega), pk_sub hle, sub1x hz, nI_add]
    rfl
  have hsg : ∀ s, s < w * h → sgm w s < 16 ∧ manI (mk w p false) (mk w p true) s = mo ((p (s % w)).reverse[s / w]?) ∧ manI (mk w p false) (mk w p true) (sgm w s) = mo ((p (w - 1 - s % w)).reverse[s / w]?) := fun s hs => by
    have hz := Nat.mod_lt s hw0
    have e : s = w * (s / w) + s % w := (Nat.div_add_mod s w).symm
    have hy : s / w < h := by
      rcases Nat.lt_or_ge (s / w) h with q | q
      · exact q
      · have := Nat.mul_le_mul_left w q
        omega
    have e2 : sgm w s = w * (s / w) + (w - 1 - s % w) := by
      conv => lhs; rw [e]
      exact sgm_at _ hz
    refine ⟨?_, ?_, ?_⟩
    · rw [e2]
      exact (sq_lt hB (show w - 1 - s % w < w by omega) hy).2
    · conv => lhs; rw [e]
      exact man_mo p _ hz
    · rw [e2]
      exact man_mo p _ (by omega)
  have m0 := mk_31 hB hp false
  have m1 := mk_31 hB hp true
  obtain ⟨r, e1, e2⟩ := lpN (fun ct (_ : Unit) i => fX4_even_L2 N cm (nI w) (nI (w * h)) ct i) (w * h) (fun i _ => ∀ s, s < i → manI (mk w p false) (mk w p true) s = manI (mk w p false) (mk w p true) (sgm w s)) (fun v => (v = .inl 0 ∧ ∃ s, s < w * h ∧ ¬ manI (mk w p false) (mk w p true) s = manI (mk w p false) (mk w p true) (sgm w s)) ∨ (v = .inr () ∧ ∀ s, s < w * h → manI (mk w p false) (mk w p true) s = manI (mk w p false) (mk w p true) (sgm w s))) (by
      intro ct s _ hs hI
      have hstep : fX4_even_L2 N cm (nI w) (nI (w * h)) (ct + 1) (nI s) = if manI (mk w p false) (mk w p true) s = manI (mk w p false) (mk w p true) (sgm w s) then fX4_even_L2 N cm (nI w) (nI (w * h)) ct (nI (s + 1)) else some (.inl (0 : Int32)) := by
        have := (hsg s hs).1
        rw [fX4_even_L2, if_neg (nI_ge hs (by omega)), c_man hm m0 m1 (by omega), himg s hs]
        simp only [Option.bind_some]
        rw [c_man hm m0 m1 (by omega)]
        simp only [Option.bind_some]
        rw [nI_1]
      by_cases q : manI (mk w p false) (mk w p true) s = manI (mk w p false) (mk w p true) (sgm w s)
      · left
        refine ⟨(), fun t ht => ?_, ?_⟩
        · by_cases e : t = s
          · rw [e]; exact q
          · exact hI t (by omega)
        · show fX4_even_L2 N cm (nI w) (nI (w * h)) (ct + 1) (nI s) = _
          rw [hstep, if_pos q]
      · right
        refine ⟨.inl 0, ?_, Or.inl ⟨rfl, s, hs, q⟩⟩
        show fX4_even_L2 N cm (nI w) (nI (w * h)) (ct + 1) (nI s) = _
        rw [hstep, if_neg q]) (by
      intro ct _ hI
      refine ⟨.inr (), ?_, Or.inr ⟨rfl, hI⟩⟩
      show fX4_even_L2 N cm (nI w) (nI (w * h)) (ct + 1) (nI (w * h)) = _
      rw [fX4_even_L2, if_pos (nI_le (Nat.le_refl _) (by omega))]) (w * h) 0 N () (by omega) (by omega) (fun s hs => absurd hs (Nat.not_lt_zero s))
  have hiff : (∀ s, s < w * h → manI (mk w p false) (mk w p true) s = manI (mk w p false) (mk w p true) (sgm w s)) ↔ ∀ x, x < w → p x = p (w - 1 - x) := by
    constructor
    · intro hall x hx
      have hrev : (p x).reverse = (p (w - 1 - x)).reverse := by
        apply List.ext_getElem?
        intro y
        rcases Nat.lt_or_ge y h with q | q
        · have hs := (sq_lt hB hx q).1
          have h1 := hall _ hs
          rw [sgm_at y hx, man_mo p y hx, man_mo p y (show w - 1 - x < w by omega)] at h1
          exact mo_inj h1
        · have a1 := hp.1 x hx
          have a2 := hp.1 (w - 1 - x) (by omega)
          rw [List.getElem?_eq_none (by simp; omega), List.getElem?_eq_none (by simp; omega)]
      have := congrArg List.reverse hrev
      rw [List.reverse_reverse, List.reverse_reverse] at this
      exact this
    · intro hall s hs
      obtain ⟨_, h1, h2⟩ := hsg s hs
      rw [h1, h2, ← hall (s % w) (Nat.mod_lt s hw0)]
  have start : fX4_even N cm (nI w) (nI (w * h)) = onS r (fun r18 => some r18) (fun e17 => some (1 : Int32)) := by
    unfold fX4_even
    rw [i0, e1]
    rfl
  rw [start]
  rcases e2 with ⟨q1, s, q2, q3⟩ | ⟨q1, q2⟩
  · subst q1
    exact ⟨false, ⟨fun u => (by cases u), fun u => absurd (hiff.mpr u s q2) q3⟩, rfl⟩
  · subst q1
    exact ⟨true, ⟨fun _ => hiff.mp q2, fun _ => rfl⟩, rfl⟩
theorem m_even {w h k : Nat} (hB : Bd w h k) {p : Pos} (hp : okP w h p) {N : Nat} (hN : 100 < N) : ∃ v : Bool, (v = true ↔ ∀ x, x < w → p x = p (w - 1 - x)) ∧ fX5_even N (nI w) (nI h) (nI (kyM w h p)) = some (nI v.toNat) := by
  have hw7 := hB.2.1
  have hhb := hB.2.2.2.1
  have hcd : ∀ x, x < w → cod (p x) < 2 ^ 31 := fun x hx => by
    have h1 := cod_lt (hp.1 x hx)
    have h2 : 2 ^ (h + 1) ≤ 2 ^ 7 := Nat.pow_le_pow_right (by decide) (by omega)
    have h3 : (2 : Nat) ^ 7 < 2 ^ 31 := by decide
    omega
  obtain ⟨r, e1, v, e2, e3⟩ := lpN (fun ct s i => fX5_even_L4 N (nI w) (nI h) (nI (kyM w h p)) ct s i) w (fun z s => ∃ v : Bool, s = nI v.toNat ∧ (v = true ↔ ∀ x, x < z → p x = p (w - 1 - x))) (fun s => ∃ v : Bool, s = nI v.toNat ∧ (v = true ↔ ∀ x, x < w → p x = p (w - 1 - x))) (by
      rintro ct z s hz ⟨v, j1, j2⟩
      subst j1
      left
      cases v
      · refine ⟨nI false.toNat, ⟨false, rfl, fun u => (by cases u), fun u => j2.mpr (fun x hx => u x (by omega))⟩, ?_⟩
        show fX5_even_L4 N (nI w) (nI h) (nI (kyM w h p)) (ct + 1) (nI false.toNat) (nI z) = fX5_even_L4 N (nI w) (nI h) (nI (kyM w h p)) ct (nI false.toNat) (nI (z + 1))
        rw [fX5_even_L4, if_neg (nI_ge hz (by omega)), if_pos (show nI false.toNat = 0 from rfl), nI_1]
        rfl
      · have hst : fX5_even_L4 N (nI w) (nI h) (nI (kyM w h p)) (ct + 1) (nI true.toNat) (nI z) = if nI (cod (p z)) = nI (cod (p (w - 1 - z))) then fX5_even_L4 N (nI w) (nI h) (nI (kyM w h p)) ct (1 : Int32) (nI (z + 1)) else fX5_even_L4 N (nI w) (nI h) (nI (kyM w h p)) ct (0 : Int32) (nI (z + 1)) := by
          rw [fX5_even_L4, if_neg (nI_ge hz (by omega)), if_neg (show ¬ nI true.toNat = 0 by decide), m_colP hB hp hz]
          simp only [Option.bind_some]
          rw [sub1x hz, m_colP hB hp (show w - 1 - z < w by omega)]
          simp only [Option.bind_some]
          rw [nI_1]
        by_cases q : p z = p (w - 1 - z)
        · refine ⟨nI true.toNat, ⟨true, rfl, fun _ x hx => ?_, fun _ => rfl⟩, ?_⟩
          · by_cases e : x = z
            · rw [e]; exact q
            · exact j2.mp rfl x (by omega)
          · show fX5_even_L4 N (nI w) (nI h) (nI (kyM w h p)) (ct + 1) (nI true.toNat) (nI z) = _
            rw [hst, if_pos (by rw [← q])]
            rfl
        · refine ⟨nI false.toNat, ⟨false, rfl, fun u => (by cases u), fun u => absurd (u z (by omega)) q⟩, ?_⟩
          show fX5_even_L4 N (nI w) (nI h) (nI (kyM w h p)) (ct + 1) (nI true.toNat) (nI z) = _
          rw [hst, if_neg (fun u => q (cod_inj _ _ ((nI_eq (hcd z hz) (hcd _ (by omega))).mp u)))]
          rfl) (by
      rintro ct s hI
      refine ⟨s, ?_, hI⟩
      show fX5_even_L4 N (nI w) (nI h) (nI (kyM w h p)) (ct + 1) s (nI w) = _
      rw [fX5_even_L4, if_pos (nI_le (Nat.le_refl _) (by omega))]) w 0 N (1 : Int32) (by omega) (by omega) ⟨true, rfl, fun _ x hx => absurd hx (Nat.not_lt_zero x), fun _ => rfl⟩
  refine ⟨v, e3, ?_⟩
  unfold fX5_even
  rw [i0, e1, e2]
  cases v <;> rfl
