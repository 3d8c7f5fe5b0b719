/-! a board told: both sides' rows, the reference's table -/
theorem addR_in {l m : List Nat} {r : Nat} (h : pre (addR l r) m) : r = 0 ∨ r ∈ m := by
  by_cases z : r = 0
  · exact Or.inl z
  · right
    apply pre_mem h
    unfold addR
    by_cases q : r ∈ l
    · rw [if_pos (Or.inr q)]; exact q
    · rw [if_neg (by exact fun o_ => Or.elim o_ (fun u => z u) (fun u => q u))]
      exact List.mem_append_right l (List.mem_singleton.mpr rfl)
theorem addR_lt {l m : List Nat} {r : Nat} (h : pre (addR l r) m) (hm : ∀ q, q ∈ m → q < 2 ^ 16) : r < 2 ^ 16 := by
  rcases addR_in h with q | q
  · rw [q]; decide
  · exact hm r q
theorem rows4 {w h k : Nat} (hb : okB w h k = true) (j : Bool) {x y : Nat} (hx : x < w) (hy : y < h) :
    (fX5_squaresOf 4194304 (nI w) (nI h) (nI k) (jI j) (nI x) (nI y) 1 0 = some (nI (rowS w h k j x y 0)) ∧ fX5_squaresOf 4194304 (nI w) (nI h) (nI k) (jI j) (nI x) (nI y) 0 1 = some (nI (rowS w h k j x y 1)) ∧ fX5_squaresOf 4194304 (nI w) (nI h) (nI k) (jI j) (nI x) (nI y) 1 1 = some (nI (rowS w h k j x y 2)) ∧ fX5_squaresOf 4194304 (nI w) (nI h) (nI k) (jI j) (nI x) (nI y) (-1) 1 = some (nI (rowS w h k j x y 3))) ∧
    (fX1_rowFrom 4194304 (nI w) (nI h) (nI k) (jI j) (nI x) (nI y) 1 0 = some (nI (rowS w h k j x y 0)) ∧ fX1_rowFrom 4194304 (nI w) (nI h) (nI k) (jI j) (nI x) (nI y) 0 1 = some (nI (rowS w h k j x y 1)) ∧ fX1_rowFrom 4194304 (nI w) (nI h) (nI k) (jI j) (nI x) (nI y) 1 1 = some (nI (rowS w h k j x y 2)) ∧ fX1_rowFrom 4194304 (nI w) (nI h) (nI k) (jI j) (nI x) (nI y) (-1) 1 = some (nI (rowS w h k j x y 3))) := by
  have a0 := row_at hb j hx hy (show 0 < 4 by decide)
  have a1 := row_at hb j hx hy (show 1 < 4 by decide)
  have a2 := row_at hb j hx hy (show 2 < 4 by decide)
  have a3 := row_at hb j hx hy (show 3 < 4 by decide)
  rw [show wayI 0 = 1 from rfl, show nI (wayY 0) = 0 from rfl] at a0
  rw [show wayI 1 = 0 from rfl, show nI (wayY 1) = 1 from rfl] at a1
  rw [show wayI 2 = 1 from rfl, show nI (wayY 2) = 1 from rfl] at a2
  rw [show wayI 3 = -1 from rfl, show nI (wayY 3) = 1 from rfl] at a3
  exact ⟨⟨a0.1, a1.1, a2.1, a3.1⟩, ⟨a0.2, a1.2, a2.2, a3.2⟩⟩
theorem m_rowsX {w h k : Nat} (hb : okB w h k = true) (j : Bool) {y : Nat} (hy : y < h) {xr : Int32} {yR : Nat → Int32} (hA : rwA (RY w h k j y) xr yR) : ∃ v, fX5_findRows_L17 4194304 (nI w) (nI h) (nI k) (jI j) (nI y) 4194304 xr yR (nI 0) = some v ∧ rwA (RY w h k j (y + 1)) v.1 v.2 := by
  have hB := Bd_of hb
  have hw := hB.2.1
  have hF := RW_facts hb j
  have hRF := RW_RF hb j
  rw [RY_s]
  refine lpN (fun ct (s : Int32 × (Nat → Int32)) i => fX5_findRows_L17 4194304 (nI w) (nI h) (nI k) (jI j) (nI y) ct s.1 s.2 i) w (fun x s => rwA (RX w h k j y x) s.1 s.2) (fun s => rwA (RX w h k j y w) s.1 s.2) ?_ ?_ w 0 4194304 (xr, yR) (by omega) (by omega) hA
  · rintro ct x ⟨xr, yR⟩ hx hI
    left
    have p4 := RX_all w h k j hy (show x + 1 ≤ w from hx)
    rw [RX_s] at p4
    obtain ⟨q1, q2, q3, q4⟩ := sq_pre w h k j (RX w h k j y x) x y
    have p3 := pre_tr q4 p4
    have p2 := pre_tr q3 p3
    have p1 := pre_tr q2 p2
    have p0 := pre_tr q1 p1
    have mm : ∀ {l : List Nat}, pre l (RW w h k j) → ∀ q, q ∈ l → q < 2 ^ 16 := fun hl q hq => hRF.2.1 q (pre_mem hl hq)
    have ml : ∀ {l : List Nat}, pre l (RW w h k j) → l.length < 64 := fun hl => Nat.lt_of_le_of_lt (pre_len hl) hF.1
    obtain ⟨v1, e1, A1⟩ := m_addRow (N := 4194304) hI (mm p0) (addR_lt p1 hRF.2.1) (ml p1) (by decide)
    obtain ⟨v2, e2, A2⟩ := m_addRow (N := 4194304) A1 (mm p1) (addR_lt p2 hRF.2.1) (ml p2) (by decide)
    obtain ⟨v3, e3, A3⟩ := m_addRow (N := 4194304) A2 (mm p2) (addR_lt p3 hRF.2.1) (ml p3) (by decide)
    obtain ⟨v4, e4, A4⟩ := m_addRow (N := 4194304) A3 (mm p3) (addR_lt p4 hRF.2.1) (ml p4) (by decide)
    obtain ⟨⟨s0, s1, s2, s3⟩, _⟩ := rows4 hb j hx hy
    refine ⟨(v4.1, v4.2), ?_, ?_⟩
    · rw [RX_s]; exact A4
    · show fX5_findRows_L17 4194304 (nI w) (nI h) (nI k) (jI j) (nI y) (ct + 1) xr yR (nI x) = fX5_findRows_L17 4194304 (nI w) (nI h) (nI k) (jI j) (nI y) ct v4.1 v4.2 (nI (x + 1))
      rw [fX5_findRows_L17, if_neg (nI_ge hx (by omega)), s0]
      simp only [Option.bind_some]
      rw [e1]
      simp only [Option.bind_some]
      rw [s1]
      simp only [Option.bind_some]
      rw [e2]
      simp only [Option.bind_some]
      rw [s2]
      simp only [Option.bind_some]
      rw [e3]
      simp only [Option.bind_some]
      rw [s3]
      simp only [Option.bind_some]
      rw [e4]
      simp only [Option.bind_some]
      rw [nI_1]
  · rintro ct ⟨xr, yR⟩ hI
    refine ⟨(xr, yR), ?_, hI⟩
    show fX5_findRows_L17 4194304 (nI w) (nI h) (nI k) (jI j) (nI y) (ct + 1) xr yR (nI w) = _
    rw [fX5_findRows_L17, if_pos (nI_le (Nat.le_refl _) (by omega))]
theorem m_rows {w h k : Nat} (hb : okB w h k = true) (j : Bool) (yR : Nat → Int32) : ∃ v, fX5_findRows 4194304 (nI w) (nI h) (nI k) (jI j) yR = some v ∧ rwA (RW w h k j) v.1 v.2 := by
  have hB := Bd_of hb
  have hh := hB.2.2.2.1
  have key := lpN (fun ct (s : Int32 × (Nat → Int32)) i => fX5_findRows_L7 4194304 (nI w) (nI h) (nI k) (jI j) ct s.1 s.2 i) h (fun y s => rwA (RY w h k j y) s.1 s.2) (fun s => rwA (RW w h k j) s.1 s.2) ?_ ?_ h 0 4194304 ((0 : Int32), yR) (by omega) (by omega) ⟨rfl, by show 0 < 64; decide, fun i hi => absurd hi (Nat.not_lt_zero i)⟩
  · obtain ⟨r, h1, h2⟩ := key
    refine ⟨(r.1, r.2), ?_, h2⟩
    unfold fX5_findRows
    show Option.bind (fX5_findRows_L7 4194304 (nI w) (nI h) (nI k) (jI j) 4194304 (0 : Int32) yR (nI 0)) _ = _
    rw [h1]
    rfl
  · rintro ct y ⟨xr, yR⟩ hy hI
    left
    obtain ⟨v, e, A⟩ := m_rowsX hb j hy hI
    refine ⟨(v.1, v.2), A, ?_⟩
    show fX5_findRows_L7 4194304 (nI w) (nI h) (nI k) (jI j) (ct + 1) xr yR (nI y) = fX5_findRows_L7 4194304 (nI w) (nI h) (nI k) (jI j) ct v.1 v.2 (nI (y + 1))
    rw [fX5_findRows_L7, if_neg (nI_ge hy (by omega)), i0, e]
    simp only [Option.bind_some]
    rw [nI_1]
  · rintro ct ⟨xr, yR⟩ hI
    refine ⟨(xr, yR), ?_, hI⟩
    show fX5_findRows_L7 4194304 (nI w) (nI h) (nI k) (jI j) (ct + 1) xr yR (nI h) = _
    rw [fX5_findRows_L7, if_pos (nI_le (Nat.le_refl _) (by omega))]
theorem c_rowsX {w h k : Nat} (hb : okB w h k = true) (j : Bool) {y : Nat} (hy : y < h) {gr : Int32} {gR gT gC : Nat → Int32} (hA : rwA (RY w h k j y) gr gR) (hT : thA (w * h) (RY w h k j y) gT gC) : ∃ v, fX1_tell_L53 4194304 (nI w) (nI h) (nI k) (nI (w * h)) (jI j) (nI w) (nI y) 4194304 gr gR gT gC (nI 0) = some v ∧ rwA (RY w h k j (y + 1)) v.1 v.2.1 ∧ thA (w * h) (RY w h k j (y + 1)) v.2.2.1 v.2.2.2 := by
  have hB := Bd_of hb
  have hw := hB.2.1
  have hF := RW_facts hb j
  have hRF := RW_RF hb j
  have hwh := hB.2.2.2.2.1
  rw [RY_s]
  refine lpN (fun ct (s : Int32 × (Nat → Int32) × (Nat → Int32) × (Nat → Int32)) i => fX1_tell_L53 4194304 (nI w) (nI h) (nI k) (nI (w * h)) (jI j) (nI w) (nI y) ct s.1 s.2.1 s.2.2.1 s.2.2.2 i) w (fun x s => rwA (RX w h k j y x) s.1 s.2.1 ∧ thA (w * h) (RX w h k j y x) s.2.2.1 s.2.2.2) (fun s => rwA (RX w h k j y w) s.1 s.2.1 ∧ thA (w * h) (RX w h k j y w) s.2.2.1 s.2.2.2) ?_ ?_ w 0 4194304 (gr, gR, gT, gC) (by omega) (by omega) ⟨hA, hT⟩
  · rintro ct x ⟨gr, gR, gT, gC⟩ hx ⟨hI, hJ⟩
    left
    have p4 := RX_all w h k j hy (show x + 1 ≤ w from hx)
    rw [RX_s] at p4
    obtain ⟨q1, q2, q3, q4⟩ := sq_pre w h k j (RX w h k j y x) x y
    have p3 := pre_tr q4 p4
    have p2 := pre_tr q3 p3
    have p1 := pre_tr q2 p2
    have p0 := pre_tr q1 p1
    have mm : ∀ {l : List Nat}, pre l (RW w h k j) → ∀ q, q ∈ l → q < 2 ^ 16 := fun hl q hq => hRF.2.1 q (pre_mem hl hq)
    have ml : ∀ {l : List Nat}, pre l (RW w h k j) → l.length < 64 := fun hl => Nat.lt_of_le_of_lt (pre_len hl) hF.1
    have mf : ∀ {l : List Nat}, pre l (RW w h k j) → ∀ s, s < w * h → (fl l s).length < 16 := fun hl s hs => Nat.lt_of_le_of_lt (pre_fil hl _) (hF.2.2 s hs)
    obtain ⟨v1, e1, A1, B1⟩ := c_addRow (N := 4194304) hwh hI hJ (mm p0) (addR_lt p1 hRF.2.1) (ml p1) (mf p1) (by decide)
    obtain ⟨v2, e2, A2, B2⟩ := c_addRow (N := 4194304) hwh A1 B1 (mm p1) (addR_lt p2 hRF.2.1) (ml p2) (mf p2) (by decide)
    obtain ⟨v3, e3, A3, B3⟩ := c_addRow (N := 4194304) hwh A2 B2 (mm p2) (addR_lt p3 hRF.2.1) (ml p3) (mf p3) (by decide)
    obtain ⟨v4, e4, A4, B4⟩ := c_addRow (N := 4194304) hwh A3 B3 (mm p3) (addR_lt p4 hRF.2.1) (ml p4) (mf p4) (by decide)
    obtain ⟨_, ⟨s0, s1, s2, s3⟩⟩ := rows4 hb j hx hy
    refine ⟨(v4.1, v4.2.1, v4.2.2.1, v4.2.2.2), ?_, ?_⟩
    · rw [RX_s]; exact ⟨A4, B4⟩
    · show fX1_tell_L53 4194304 (nI w) (nI h) (nI k) (nI (w * h)) (jI j) (nI w) (nI y) (ct + 1) gr gR gT gC (nI x) = fX1_tell_L53 4194304 (nI w) (nI h) (nI k) (nI (w * h)) (jI j) (nI w) (nI y) ct v4.1 v4.2.1 v4.2.2.1 v4.2.2.2 (nI (x + 1))
      rw [fX1_tell_L53, if_neg (nI_ge hx (by omega)), s0]
      simp only [Option.bind_some]
      rw [e1]
      simp only [Option.bind_some]
      rw [s1]
      simp only [Option.bind_some]
      rw [e2]
      simp only [Option.bind_some]
      rw [s2]
      simp only [Option.bind_some]
      rw [e3]
      simp only [Option.bind_some]
      rw [s3]
      simp only [Option.bind_some]
      rw [e4]
      simp only [Option.bind_some]
      rw [nI_1]
  · rintro ct ⟨gr, gR, gT, gC⟩ hI
    refine ⟨(gr, gR, gT, gC), ?_, hI⟩
    show fX1_tell_L53 4194304 (nI w) (nI h) (nI k) (nI (w * h)) (jI j) (nI w) (nI y) (ct + 1) gr gR gT gC (nI w) = _
    rw [fX1_tell_L53, if_pos (nI_le (Nat.le_refl _) (by omega))]
theorem c_fill {N n : Nat} (hn : n < 2 ^ 31) (hN : n < N) (f : Nat → Int32) (v : Int32) : ∃ g, fJ7_fill_53178 N n f v = some g ∧ ∀ i, i < n → g i = v := by
  have key := lpN (fun ct s i => fJ7_fill_53178_L5 N n v (nI n) ct s i) n (fun K g => ∀ i, i < K → g i = v) (fun g => ∀ i, i < n → g i = v) ?_ ?_ n 0 N f (by omega) hN (fun i hi => absurd hi (Nat.not_lt_zero i))
  · obtain ⟨r, h1, h2⟩ := key
    refine ⟨r, ?_, h2⟩
    unfold fJ7_fill_53178
    show Option.bind (fJ7_fill_53178_L5 N n v (nI n) N f (nI 0)) _ = _
    rw [h1]
    rfl
  · intro ct K g hK hI
    left
    refine ⟨upd g K v, fun i hi => ?_, ?_⟩
    · by_cases e : i = K
      · rw [e, pk_us]
      · rw [pk_un e]; exact hI i (by omega)
    · show fJ7_fill_53178_L5 N n v (nI n) (ct + 1) g (nI K) = fJ7_fill_53178_L5 N n v (nI n) ct (upd g K v) (nI (K + 1))
      rw [fJ7_fill_53178_L5, if_neg (nI_ge hK hn), okb_t (inbN hK hn), nI_clamp (by omega), nI_1]
  · intro ct g hI
    refine ⟨g, ?_, hI⟩
    show fJ7_fill_53178_L5 N n v (nI n) (ct + 1) g (nI n) = _
    rw [fJ7_fill_53178_L5, if_pos (nI_le (Nat.le_refl _) hn)]
theorem jI_b (j : Bool) : isb (jI j) = true := by cases j <;> decide
/-- the class's grid after a board was told -/
def GRD (w h k : Nat) (j : Bool) (gw gh gk gq gr gj : Int32) (gR gT gC : Nat → Int32) : Prop := gw = nI w ∧ gh = nI h ∧ gk = nI k ∧ gq = nI (w * h) ∧ gj = jI j ∧ rwA (RW w h k j) gr gR ∧ thA (w * h) (RW w h k j) gT gC
theorem c_tell {w h k : Nat} (hb : okB w h k = true) (j : Bool) (gR gT gC : Nat → Int32) : ∃ u, fX1_tell 4194304 gR gT gC (nI w) (nI h) (nI k) (jI j) = some u ∧ GRD w h k j u.1 u.2.1 u.2.2.1 u.2.2.2.1 u.2.2.2.2.1 u.2.2.2.2.2.1 u.2.2.2.2.2.2.1 u.2.2.2.2.2.2.2.1 u.2.2.2.2.2.2.2.2 := by
  have hB := Bd_of hb
  have hh := hB.2.2.2.1
  have hwh := hB.2.2.2.2.1
  obtain ⟨g0, hg, hg0⟩ := c_fill (N := 4194304) (n := 16) (by decide) (by decide) gC 0
  have key := lpN (fun ct (s : Int32 × (Nat → Int32) × (Nat → Int32) × (Nat → Int32)) i => fX1_tell_L44 4194304 (nI w) (nI h) (nI k) (nI (w * h)) (jI j) (nI w) (nI h) ct s.1 s.2.1 s.2.2.1 s.2.2.2 i) h (fun y s => rwA (RY w h k j y) s.1 s.2.1 ∧ thA (w * h) (RY w h k j y) s.2.2.1 s.2.2.2) (fun s => rwA (RW w h k j) s.1 s.2.1 ∧ thA (w * h) (RW w h k j) s.2.2.1 s.2.2.2) ?_ ?_ h 0 4194304 ((0 : Int32), gR, gT, g0) (by omega) (by omega) ⟨⟨rfl, by show 0 < 64; decide, fun i hi => absurd hi (Nat.not_lt_zero i)⟩, fun s hs => ⟨hg0 s (by omega), fun i hi => absurd hi (Nat.not_lt_zero i)⟩⟩
  · obtain ⟨r, h1, h2, h3⟩ := key
    refine ⟨(nI w, nI h, nI k, nI w * nI h, r.1, jI j, r.2.1, r.2.2.1, r.2.2.2), ?_, rfl, rfl, rfl, pk_mul w h, rfl, h2, h3⟩
    unfold fX1_tell
    rw [okb_t (jI_b j), hg]
    simp only [Option.bind_some]
    have h1' : fX1_tell_L44 4194304 (nI w) (nI h) (nI k) (nI (w * h)) (jI j) (nI w) (nI h) 4194304 (nI 0) gR gT g0 (nI 0) = some r := h1
    rw [pk_mul, i0, h1']
    rfl
  · rintro ct y ⟨gr, gR, gT, gC⟩ hy ⟨hI, hJ⟩
    left
    obtain ⟨v, e, A, B⟩ := c_rowsX hb j hy hI hJ
    refine ⟨(v.1, v.2.1, v.2.2.1, v.2.2.2), ⟨A, B⟩, ?_⟩
    show fX1_tell_L44 4194304 (nI w) (nI h) (nI k) (nI (w * h)) (jI j) (nI w) (nI h) (ct + 1) gr gR gT gC (nI y) = fX1_tell_L44 4194304 (nI w) (nI h) (nI k) (nI (w * h)) (jI j) (nI w) (nI h) ct v.1 v.2.1 v.2.2.1 v.2.2.2 (nI (y + 1))
    rw [fX1_tell_L44, if_neg (nI_ge hy (by omega)), i0, e]
    simp only [Option.bind_some]
    rw [nI_1]
  · rintro ct ⟨gr, gR, gT, gC⟩ hI
    refine ⟨(gr, gR, gT, gC), ?_, hI⟩
    show fX1_tell_L44 4194304 (nI w) (nI h) (nI k) (nI (w * h)) (jI j) (nI w) (nI h) (ct + 1) gr gR gT gC (nI h) = _
    rw [fX1_tell_L44, if_pos (nI_le (Nat.le_refl _) (by omega))]
/-- moves from the empty board -/
def posF (w : Nat) (c : Nat → Nat) : Nat → Pos
  | 0 => emp
  | n + 1 => nxt w (posF w c n) (c n)
def vld (w h : Nat) (R : List Nat) (c : Nat → Nat) (n : Nat) : Prop := ∀ i, i < n → c i < w ∧ (posF w c i (c i)).length < h ∧ ¬ ovr w h R (posF w c i)
theorem posF_Cm {w h : Nat} {R : List Nat} {c : Nat → Nat} {n : Nat} (hv : vld w h R c n) : ∀ i, i ≤ n → Cm w h R i (posF w c i)
  | 0, _ => rfl
  | i + 1, hi => by
    obtain ⟨h1, h2, h3⟩ := hv i (by omega)
    exact Cm_next (posF_Cm hv i (by omega)) h3 h1 h2
theorem posF_cong {w : Nat} {c d : Nat → Nat} : ∀ {n : Nat}, (∀ i, i < n → c i = d i) → posF w c n = posF w d n
  | 0, _ => rfl
  | n + 1, h => by
    show nxt w (posF w c n) (c n) = nxt w (posF w d n) (d n)
    rw [posF_cong (fun i hi => h i (by omega)), h n (by omega)]
theorem vld_cong {w h : Nat} {R : List Nat} {c d : Nat → Nat} {n : Nat} (e : ∀ i, i < n → c i = d i) (hv : vld w h R c n) : vld w h R d n := fun i hi => by
  have := hv i hi
  rw [e i hi, posF_cong (fun k hk => e k (by omega))] at this
  exact this
theorem m_place {w h k : Nat} (hB : Bd w h k) {R : List Nat} {c : Nat → Nat} {n : Nat} (hv : vld w h R c n) {yV : Nat → Int32} (hV : ∀ i, i < n → yV i = nI (c i)) {N : Nat} (hN : 30 < N) : fX5_place N (nI w) (nI h) (nI n) yV = some (nI (kyM w h (posF w c n))) := by
  have hn := n_le16 hB (posF_Cm hv n (Nat.le_refl n))
  have key := lpN (fun ct s i => fX5_place_L10 N (nI h) (nI n) yV ct s i) n (fun i s => s = nI (kyM w h (posF w c i))) (fun r => r = nI (kyM w h (posF w c n))) ?_ ?_ n 0 N (nI (kyM w h emp)) (by omega) (by omega) rfl
  · obtain ⟨r, h1, h2⟩ := key
    unfold fX5_place
    rw [m_none hB hN]
    simp only [Option.bind_some]
    rw [i0, h1, h2]
    rfl
  · intro ct i s hi hI
    left
    refine ⟨nI (kyM w h (posF w c (i + 1))), rfl, ?_⟩
    show fX5_place_L10 N (nI h) (nI n) yV (ct + 1) s (nI i) = fX5_place_L10 N (nI h) (nI n) yV ct _ (nI (i + 1))
    obtain ⟨h1, h2, h3⟩ := hv i hi
    obtain ⟨a1, a2⟩ := Cm_ok (posF_Cm hv i (by omega))
    have esd : nI (i % 2) = nI (sd w (posF w c i)).toNat := by rw [sd_nat, a2]
    rw [fX5_place_L10, if_neg (nI_ge hi (by omega)), okb_t (inbN (by omega) (by decide)), nI_clamp (by omega), hV i hi, hI, remI (by omega), esd, m_drop hB a1 h1 h2 _ hN]
    simp only [Option.bind_some]
    rw [nI_1]
    rfl
  · intro ct s hI
    refine ⟨s, ?_, hI⟩
    show fX5_place_L10 N (nI h) (nI n) yV (ct + 1) s (nI n) = _
    rw [fX5_place_L10, if_pos (nI_le (Nat.le_refl _) (by omega))]
/-- the reference's table when it is ready -/
def TBL (w h : Nat) (R : List Nat) (yT yC yW yA yE yU : Nat → Int32) : Prop :=
  (∀ n p, Cm w h R n p → yT (kyM w h p) = val1 w h R p) ∧
  (∀ n, n ≤ 16 → yC n = nI (fb_sm (ind (Pc w h R n)) ((2 ^ (h + 1)) ^ w))) ∧
  (∀ n, n ≤ 16 → yW n = nI (fb_sm (ind (Pw w h R n)) ((2 ^ (h + 1)) ^ w))) ∧
  (∀ n, n ≤ 16 → yA n = nI (fb_sm (ind (Ps w h R (fun v => 0 < v) n)) ((2 ^ (h + 1)) ^ w))) ∧
  (∀ n, n ≤ 16 → yE n = nI (fb_sm (ind (Ps w h R (fun v => v = 0) n)) ((2 ^ (h + 1)) ^ w))) ∧
  (∀ n, n ≤ 16 → yU n = nI (fb_sm (ind (Ps w h R (fun v => v < 0) n)) ((2 ^ (h + 1)) ^ w)))
def REF (w h k : Nat) (j : Bool) (xw xh xk xj xr : Int32) (yR yT yC yW yA yE yU : Nat → Int32) : Prop := xw = nI w ∧ xh = nI h ∧ xk = nI k ∧ xj = jI j ∧ rwA (RW w h k j) xr yR ∧ TBL w h (RW w h k j) yT yC yW yA yE yU
theorem ctD_0 (P : Nat → Prop) (al : Nat) : ctD P al al = 0 := by
  unfold ctD
  rw [Nat.sub_self]
  rfl
theorem m_begin {w h k : Nat} (hb : okB w h k = true) (j : Bool) (xc : Int32) (yR yT yC yW yA yE yU yM yV : Nat → Int32) : ∃ u, fX5_begin 4194304 xc yR yT yC yW yA yE yU yM yV (nI w) (nI h) (nI k) (jI j) = some u ∧ REF w h k j u.1 u.2.1 u.2.2.1 u.2.2.2.1 u.2.2.2.2.1 u.2.2.2.2.2.2.2.2.1 u.2.2.2.2.2.2.2.2.2.1 u.2.2.2.2.2.2.2.2.2.2.1 u.2.2.2.2.2.2.2.2.2.2.2.1 u.2.2.2.2.2.2.2.2.2.2.2.2.1 u.2.2.2.2.2.2.2.2.2.2.2.2.2.1 u.2.2.2.2.2.2.2.2.2.2.2.2.2.2.1 ∧ u.2.2.2.2.2.2.1 = nI 0 ∧ u.2.2.2.2.2.2.2.1 = nI (kyM w h emp) := by
  have hB := Bd_of hb
  obtain ⟨ea, hal⟩ := al_eq hB
  obtain ⟨v, e1, hA⟩ := m_rows hb j yR
  obtain ⟨g, e2, hg, z1, z2, z3⟩ := m_goUp hB (RW_RF hb j) hA (N := 4194304) (by decide) xc yT yC yW yA yE yU yM
  obtain ⟨g1, g2, g3, g4, g5⟩ := hg
  have hgd : GD w h (RW w h k j) ((2 ^ (h + 1)) ^ w) g.2.1 g.2.2.2.2.1 g.2.2.2.2.2.1 g.2.2.2.2.2.2.1 := by
    refine ⟨g1, fun n p hc => ?_, fun n hn => ?_, fun n hn => ?_, fun n hn => ?_⟩
    · have hlt := kyM_lt (Cm_ok hc).1
      rw [if_neg (by omega)]
      exact g2 n p hc hlt
    · rw [ctD_0]; exact z1 n hn
    · rw [ctD_0]; exact z2 n hn
    · rw [ctD_0]; exact z3 n hn
  obtain ⟨d, e3, hd⟩ := m_down hB (N := 4194304) (by decide) hgd
  obtain ⟨d1, d2, d3, d4, d5⟩ := hd
  have e4 : fX5_goDown 4194304 (nI w) (nI h) g.2.1 g.2.2.2.2.1 g.2.2.2.2.2.1 g.2.2.2.2.2.2.1 = some (d.1, d.2.1, d.2.2.1, d.2.2.2) := by
    unfold fX5_goDown
    rw [m_keys hB]
    simp only [Option.bind_some]
    obtain ⟨m, hm⟩ : ∃ m, (2 ^ (h + 1)) ^ w = m + 1 := ⟨(2 ^ (h + 1)) ^ w - 1, by
      have : 0 < (2 ^ (h + 1)) ^ w := Nat.pow_pos (Nat.two_pow_pos _)
      omega⟩
    rw [hm, pk_m1] at e3
    rw [hm, nI_pred, e3]
    rfl
  have e5 := m_place hB (R := RW w h k j) (c := fun _ => 0) (n := 0) (fun i hi => absurd hi (Nat.not_lt_zero i)) (yV := yV) (fun i hi => absurd hi (Nat.not_lt_zero i)) (N := 4194304) (by decide)
  refine ⟨(nI w, nI h, nI k, jI j, v.1, g.1, (0 : Int32), nI (kyM w h emp), v.2, d.1, g.2.2.1, g.2.2.2.1, d.2.1, d.2.2.1, d.2.2.2, g.2.2.2.2.2.2.2), ?_, ⟨rfl, rfl, rfl, rfl, hA, fun n p hc => ?_, g4, g5, fun n hn => ?_, fun n hn => ?_, fun n hn => ?_⟩, rfl, rfl⟩
  · unfold fX5_begin
    rw [okb_t (jI_b j), e1]
    simp only [Option.bind_some]
    rw [e2]
    simp only [Option.bind_some]
    rw [e4]
    simp only [Option.bind_some]
    rw [i0, e5]
    rfl
  · have := d2 n p hc
    rw [if_pos (Nat.zero_le _)] at this
    exact this
  · rw [← ctD_all]; exact d3 n hn
  · rw [← ctD_all]; exact d4 n hn
  · rw [← ctD_all]; exact d5 n hn
