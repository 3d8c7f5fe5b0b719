/-! calls that ask the solver: both sides answer alike -/
theorem azs_le (sp : Int32) : azs sp ≤ az sp * 115441 := by
  by_cases q : sp = 0
  · rw [azs_0 q, az_0 q]; decide
  · rw [azs_1 q, az_1 q]; decide
theorem az_one {sp : Int32} (h : sp = 1) : az sp = 0 := az_1 (by rw [h]; decide)
def ALC (sp sp' : Int32) (P : Nat → Prop) : Prop := ∃ kk, P kk ∧ kk + az sp' ≤ az sp
/-- the rows through a square are few -/
theorem RW_fl {w h k : Nat} (hb : okB w h k = true) (j : Bool) : ∀ s, s < w * h → (fl (RW w h k j) s).length < 16 := (RW_facts hb j).2.2
theorem k_worth {N : Nat} (hN : 300000 < N) {w h k : Nat} {j : Bool} (hb : okB w h k = true) {n : Nat} {c : Nat → Nat} {gr : Int32} {gR gT gC : Nat → Int32} (gA : rwA (RW w h k j) gr gR) (gTh : thA (w * h) (RW w h k j) gT gC) {yT : Nat → Int32} (hT : ∀ n p, Cm w h (RW w h k j) n p → yT (kyM w h p) = val1 w h (RW w h k j) p) {cv : Int32} {cc cm ch : Nat → Int32} {xv xn : Int32} {yV : Nat → Int32} (hM : GI w h k j n c cv cc cm ch xv xn yV) {sp : Int32} {sP : Nat → Int32} {tl : Nat → Nat → Int32} {kl : Nat} {kf : Nat → Int64} (hS : SOL w h (RW w h k j) sp sP tl kl kf) (s1 s2 s3 s4 s5 : Int32) (sC sH : Nat → Int32) :
    ∃ u v, fX4_worth N sp s1 s2 s3 s4 s5 sP sC sH tl kl kf cv cc cm (nI w) (nI h) (nI (w * h)) gr gR gT gC = some u ∧ fX5_worth N xn yT = some v ∧ u.1 = v ∧ ALC sp u.2.1 (fun kk => ∀ (u6 : Int32), fX0_isOver N cv cm (nI (w * h)) gr gR = some u6 → (u6 = 0) → (az sp ≤ kk ∧ azs sp ≤ kk * 115441)) ∧ SOL w h (RW w h k j) u.2.1 u.2.2.2.2.2.2.2.1 u.2.2.2.2.2.2.2.2.2.2.1 u.2.2.2.2.2.2.2.2.2.2.2.1 u.2.2.2.2.2.2.2.2.2.2.2.2 := by
  obtain ⟨hv, hg, m1, m2, m3⟩ := hM
  have hg' := hg
  obtain ⟨q1, q2, q3, q4⟩ := hg'
  have hB := Bd_of hb
  have hRF := RW_RF hb j
  have hc := posF_Cm hv n (Nat.le_refl n)
  obtain ⟨hp, hn⟩ := Cm_ok hc
  have hk := ky_31 hB hp
  unfold fX4_worth fX5_worth
  by_cases ho : ovr w h (RW w h k j) (posF w c n)
  · have e1 := c_over1 hB hRF gA hp q3 (N := N) (by omega) ho
    rw [hn, ← q1] at e1
    rw [e1, m3, m_over1 hB hp (hT n _ hc) N ho]
    refine ⟨_, _, rfl, rfl, rfl, ⟨0, fun u6 e6 z => ?_, by show 0 + az sp ≤ az sp; omega⟩, hS⟩
    have := Option.some.inj e6
    rw [z] at this
    exact absurd this (by decide)
  · have e1 := c_over0 hB hRF gA hp q3 (N := N) (by omega) ho
    rw [hn, ← q1] at e1
    obtain ⟨v, e2, e3⟩ := c_start (sC := sC) (sH := sH) hB (N := N) (by omega) hS hv hg
    obtain ⟨tl', kf', e4, e5, _⟩ := c_worthS (STA_V hB hRF gTh (RW_fl hb j) (N := N) (by omega) e3) e3 hc ho
    obtain ⟨d1, _, _, _⟩ := val1_on hB hp ho
    rw [e1, e2, m3, m_over0 hB hp (hT n _ hc) N ho]
    simp only [Option.bind_some]
    rw [if_pos trivial, if_pos trivial, e4, okb_t (inbN hk (by decide)), nI_clamp (by omega), hT n _ hc, d1, hn]
    refine ⟨_, _, rfl, rfl, rfl, ⟨az sp, fun _ _ _ => ⟨Nat.le_refl _, azs_le sp⟩, ?_⟩, STA_S e5⟩
    show az sp + az v.1 ≤ az sp
    rw [az_one e3.1]
    omega
theorem k_worthOf {N : Nat} (hN : 300000 < N) {w h k : Nat} {j : Bool} (hb : okB w h k = true) {n : Nat} {c : Nat → Nat} {gr : Int32} {gR gT gC : Nat → Int32} (gA : rwA (RW w h k j) gr gR) (gTh : thA (w * h) (RW w h k j) gT gC) {yT : Nat → Int32} (hT : ∀ n p, Cm w h (RW w h k j) n p → yT (kyM w h p) = val1 w h (RW w h k j) p) {cv : Int32} {cc cm ch : Nat → Int32} {xv xn : Int32} {yV : Nat → Int32} (hM : GI w h k j n c cv cc cm ch xv xn yV) {sp : Int32} {sP : Nat → Int32} {tl : Nat → Nat → Int32} {kl : Nat} {kf : Nat → Int64} (hS : SOL w h (RW w h k j) sp sP tl kl kf) (s1 s2 s3 s4 s5 : Int32) (sC sH : Nat → Int32) (a : Int32) :
    ∃ u v, fX4_worthOf N sp s1 s2 s3 s4 s5 sP sC sH tl kl kf cv cc cm ch (nI w) (nI h) (nI (w * h)) gr gR gT gC a = some u ∧ fX5_worthOf N (nI w) (nI h) xv xn yT a = some v ∧ u.1 = v ∧ ALC sp u.2.1 (fun kk => ∀ (u8 : Int32), fX0_isOver N cv cm (nI (w * h)) gr gR = some u8 → (u8 = 0) → ∀ (u10 : Int32), fX0_isOpen N ch (nI w) (nI h) a = some u10 → (¬ (u10 = 0)) → (az sp ≤ kk ∧ azs sp ≤ kk * 115441)) ∧ SOL w h (RW w h k j) u.2.1 u.2.2.2.2.2.2.2.1 u.2.2.2.2.2.2.2.2.2.2.1 u.2.2.2.2.2.2.2.2.2.2.2.1 u.2.2.2.2.2.2.2.2.2.2.2.2 := by
  obtain ⟨hv, hg, m1, m2, m3⟩ := hM
  have hg' := hg
  obtain ⟨q1, q2, q3, q4⟩ := hg'
  have hB := Bd_of hb
  have hRF := RW_RF hb j
  have hc := posF_Cm hv n (Nat.le_refl n)
  obtain ⟨hp, hn⟩ := Cm_ok hc
  have hk := ky_31 hB hp
  have hw := hB.2.1
  have hn16 := n_le16 hB hc
  unfold fX4_worthOf fX5_worthOf
  by_cases ho : ovr w h (RW w h k j) (posF w c n)
  · have e1 := c_over1 hB hRF gA hp q3 (N := N) (by omega) ho
    rw [hn, ← q1] at e1
    rw [e1, m3, m_over1 hB hp (hT n _ hc) N ho]
    refine ⟨_, _, rfl, rfl, rfl, ⟨0, fun u6 e6 z => ?_, by show 0 + az sp ≤ az sp; omega⟩, hS⟩
    have := Option.some.inj e6
    rw [z] at this
    exact absurd this (by decide)
  · have e1 := c_over0 hB hRF gA hp q3 (N := N) (by omega) ho
    rw [hn, ← q1] at e1
    rw [e1, m3, m_over0 hB hp (hT n _ hc) N ho]
    simp only [Option.bind_some]
    rw [if_pos trivial, if_pos trivial]
    have bad : ∀ a : Int32, fX0_isOpen N ch (nI w) (nI h) a = some 0 → fX5_isFree N (nI w) (nI h) (nI (kyM w h (posF w c n))) a = some 0 → ∃ u v, (Option.bind (fX0_isOpen N ch (nI w) (nI h) a) (fun u10 => if u10 = 0 then (some ((-200 : Int32), sp, s1, s2, s3, s4, s5, sP, sC, sH, tl, kl, kf)) else (Option.bind (fX3_start N sp sP sC sH tl kl kf cv cc cm (nI w) (nI h)) (fun u12 => Option.bind (fX3_worthOfMove N u12.2.1 u12.2.2.1 u12.2.2.2.1 u12.2.2.2.2.1 u12.2.2.2.2.2.1 u12.2.2.2.2.2.2.1 u12.2.2.2.2.2.2.2.1 u12.2.2.2.2.2.2.2.2.1 u12.2.2.2.2.2.2.2.2.2.1 u12.2.2.2.2.2.2.2.2.2.2.1 u12.2.2.2.2.2.2.2.2.2.2.2 (nI w) (nI h) (nI (w * h)) gT gC a) (fun u14 => some (u14.1, u12.1, u12.2.1, u12.2.2.1, u12.2.2.2.1, u12.2.2.2.2.1, u12.2.2.2.2.2.1, u12.2.2.2.2.2.2.1, u14.2.1, u14.2.2.1, u14.2.2.2.1, u12.2.2.2.2.2.2.2.2.2.2.1, u14.2.2.2.2)))))) = some u ∧ (Option.bind (fX5_isFree N (nI w) (nI h) (nI (kyM w h (posF w c n))) a) (fun u8 => if u8 = 0 then (some (-200 : Int32)) else (Option.bind (fX5_worthBy N (nI h) yT (nI (kyM w h (posF w c n))) a (xv - xv / (2 : Int32) * (2 : Int32))) (fun u10 => some u10)))) = some v ∧ u.1 = v ∧ ALC sp u.2.1 (fun kk => ∀ (u8 : Int32), some (0 : Int32) = some u8 → (u8 = 0) → ∀ (u10 : Int32), fX0_isOpen N ch (nI w) (nI h) a = some u10 → (¬ (u10 = 0)) → (az sp ≤ kk ∧ azs sp ≤ kk * 115441)) ∧ SOL w h (RW w h k j) u.2.1 u.2.2.2.2.2.2.2.1 u.2.2.2.2.2.2.2.2.2.2.1 u.2.2.2.2.2.2.2.2.2.2.2.1 u.2.2.2.2.2.2.2.2.2.2.2.2 := fun a z1 z2 => by
      rw [z1, z2]
      refine ⟨_, _, rfl, rfl, rfl, ⟨0, fun _ _ _ u10 e6 z => ?_, by show 0 + az sp ≤ az sp; omega⟩, hS⟩
      exact absurd (Option.some.inj e6).symm z
    rcases wcase a (n := w) (by omega) with ⟨x, hx, rfl⟩ | ha
    · by_cases hl : (posF w c n x).length < h
      · obtain ⟨v, e2, e3⟩ := c_start (sC := sC) (sH := sH) hB (N := N) (by omega) hS hv hg
        obtain ⟨tl', kf', e4, e5⟩ := c_worthM (STA_V hB hRF gTh (RW_fl hb j) (N := N) (by omega) e3) e3 hc ho hx hl
        have e6 := m_wby hB hp hx hl (hT (n + 1) _ (Cm_next hc ho hx hl)) (N := N) (by omega)
        rw [hn] at e6
        rw [c_open hB hp q4 hx, m_free hB hp hx (by omega), if_pos hl, m1]
        simp only [Option.bind_some]
        rw [if_neg (by decide), if_neg (by decide), e2, remI (by omega), e6]
        simp only [Option.bind_some]
        rw [e4]
        refine ⟨_, _, rfl, rfl, rfl, ⟨az sp, fun _ _ _ _ _ _ => ⟨Nat.le_refl _, azs_le sp⟩, ?_⟩, STA_S e5⟩
        show az sp + az v.1 ≤ az sp
        rw [az_one e3.1]
        omega
      · exact bad _ (by rw [c_open hB hp q4 hx, if_neg hl]) (by rw [m_free hB hp hx (by omega), if_neg hl])
    · exact bad _ (c_open0 (by omega) ha _ _ N) (m_free0 (by omega) ha _ _ N)
/-- the least column of the greatest worth -/
def bstC (w h : Nat) (R : List Nat) (n : Nat) (p : Pos) (b : Nat) : Prop := b < w ∧ (p b).length < h ∧ mvW w h R (w * h - n - 1) p b = wv w h R (w * h - n) p ∧ ∀ y, y < b → (p y).length < h → mvW w h R (w * h - n - 1) p y < wv w h R (w * h - n) p
theorem c_best {N : Nat} (hN : 300000 < N) {w h k : Nat} {j : Bool} (hb : okB w h k = true) {n : Nat} {c : Nat → Nat} {gT gC : Nat → Int32} (gTh : thA (w * h) (RW w h k j) gT gC) (hv : vld w h (RW w h k j) c n) {cv : Int32} {cc cm ch : Nat → Int32} (hg : gmA w n c cv cc cm ch) (ho : ¬ ovr w h (RW w h k j) (posF w c n)) {sp : Int32} {sP : Nat → Int32} {tl : Nat → Nat → Int32} {kl : Nat} {kf : Nat → Int64} (hS : SOL w h (RW w h k j) sp sP tl kl kf) (sC sH : Nat → Int32) :
    ∃ v b, fX4_bestColumn N sp sP sC sH tl kl kf cv cc cm ch (nI w) (nI h) (nI (w * h)) gT gC = some v ∧ v.1 = nI b ∧ bstC w h (RW w h k j) n (posF w c n) b ∧ v.2.1 = 1 ∧ SOL w h (RW w h k j) v.2.1 v.2.2.2.2.2.2.2.1 v.2.2.2.2.2.2.2.2.2.2.1 v.2.2.2.2.2.2.2.2.2.2.2.1 v.2.2.2.2.2.2.2.2.2.2.2.2 := by
  have hg' := hg
  obtain ⟨q1, q2, q3, q4⟩ := hg'
  have hB := Bd_of hb
  have hRF := RW_RF hb j
  have hc := posF_Cm hv n (Nat.le_refl n)
  obtain ⟨hp, hn⟩ := Cm_ok hc
  have hw := hB.2.1
  have hhb := hB.2.2.2.1
  obtain ⟨_, hv1, hv2, hlt⟩ := val1_on hB hp ho
  rw [hn] at hv1 hv2 hlt
  obtain ⟨u, e2, e3⟩ := c_start (sC := sC) (sH := sH) hB (N := N) (by omega) hS hv hg
  generalize hpp : posF w c n = p at *
  have hbb : ∀ x, x < w → (p x).length < h → -99 ≤ mvW w h (RW w h k j) (w * h - n - 1) p x ∧ mvW w h (RW w h k j) (w * h - n - 1) p x ≤ 99 := fun x hx hl =>
    mvW_b (fun q => wv_b (w * h - n - 1) (nxt w p x) (okP_psh hp hx hl _) (by unfold nxt; rw [cnt_psh p hx]; omega) q)
  have ewv : wv w h (RW w h k j) (w * h - n) p = wvF (mvW w h (RW w h k j) (w * h - n - 1) p) (fun x => decide ((p x).length < h)) w := by
    rw [show w * h - n = (w * h - n - 1) + 1 by omega, wv_succ]
    rfl
  have hwb : ∀ z, z ≤ w → wvF (mvW w h (RW w h k j) (w * h - n - 1) p) (fun x => decide ((p x).length < h)) z = -1000 ∨ (-99 ≤ wvF (mvW w h (RW w h k j) (w * h - n - 1) p) (fun x => decide ((p x).length < h)) z ∧ wvF (mvW w h (RW w h k j) (w * h - n - 1) p) (fun x => decide ((p x).length < h)) z ≤ 99) := fun z hz => by
    rcases wvF_mem (mvW w h (RW w h k j) (w * h - n - 1) p) (fun x => decide ((p x).length < h)) z with e | ⟨y, hy, hoy, e⟩
    · exact Or.inl e
    · have := hbb y (by omega) (of_decide_eq_true hoy)
      right
      omega
  obtain ⟨r, hr, r1, r2, r3, r4⟩ := lpN (fun ct (s : (Nat → Int32) × (Nat → Int32) × (Nat → Nat → Int32) × (Nat → Int64) × Int32 × Int32) i => fX4_bestColumn_L18 N u.2.1 u.2.2.1 u.2.2.2.1 u.2.2.2.2.1 u.2.2.2.2.2.1 u.2.2.2.2.2.2.1 u.2.2.2.2.2.2.2.2.2.2.1 ch (nI w) (nI h) (nI (w * h)) gT gC ct s.1 s.2.1 s.2.2.1 s.2.2.2.1 s.2.2.2.2.1 s.2.2.2.2.2 i) w
    (fun z s => s.1 = u.2.2.2.2.2.2.2.1 ∧ s.2.1 = u.2.2.2.2.2.2.2.2.1 ∧ STA w h (RW w h k j) p n u.1 u.2.1 u.2.2.1 u.2.2.2.1 u.2.2.2.2.1 u.2.2.2.2.2.1 u.2.2.2.2.2.2.1 u.2.2.2.2.2.2.2.1 u.2.2.2.2.2.2.2.2.1 s.2.2.1 u.2.2.2.2.2.2.2.2.2.2.1 s.2.2.2.1 ∧ s.2.2.2.2.2 = iI (mxF (mvW w h (RW w h k j) (w * h - n - 1) p) (fun x => decide ((p x).length < h)) z) ∧ ((wvF (mvW w h (RW w h k j) (w * h - n - 1) p) (fun x => decide ((p x).length < h)) z = -1000 ∧ s.2.2.2.2.1 = -1) ∨ ∃ b, b < z ∧ (p b).length < h ∧ mvW w h (RW w h k j) (w * h - n - 1) p b = wvF (mvW w h (RW w h k j) (w * h - n - 1) p) (fun x => decide ((p x).length < h)) z ∧ (∀ y, y < b → (p y).length < h → mvW w h (RW w h k j) (w * h - n - 1) p y < mvW w h (RW w h k j) (w * h - n - 1) p b) ∧ s.2.2.2.2.1 = nI b))
    (fun s => s.1 = u.2.2.2.2.2.2.2.1 ∧ s.2.1 = u.2.2.2.2.2.2.2.2.1 ∧ STA w h (RW w h k j) p n u.1 u.2.1 u.2.2.1 u.2.2.2.1 u.2.2.2.2.1 u.2.2.2.2.2.1 u.2.2.2.2.2.2.1 u.2.2.2.2.2.2.2.1 u.2.2.2.2.2.2.2.2.1 s.2.2.1 u.2.2.2.2.2.2.2.2.2.2.1 s.2.2.2.1 ∧ ∃ b, bstC w h (RW w h k j) n p b ∧ s.2.2.2.2 = nI b) (by
      rintro ct z ⟨f, g, t, kg, x1, x2⟩ hz ⟨i1, i2, i3, i4, i5⟩
      dsimp only at i1 i2 i3 i4 i5
      subst i1
      subst i2
      left
      have hlz := hp.1 z hz
      rcases Nat.lt_or_ge (p z).length h with hl | hl
      · obtain ⟨tl', kf', e4, e5⟩ := c_worthM (STA_V hB hRF gTh (RW_fl hb j) (N := N) (by omega) i3) i3 hc ho hz hl
        have hm := hbb z hz hl
        have hmx : ∀ a : Int, (a = -1000 ∨ (-99 ≤ a ∧ a ≤ 99)) → -100 ≤ (if a = -1000 then (-100 : Int) else a) ∧ (if a = -1000 then (-100 : Int) else a) ≤ 99 := fun a ha => by
          split <;> omega
        have hb1 := hmx _ (hwb z (by omega))
        have hstep : fX4_bestColumn_L18 N u.2.1 u.2.2.1 u.2.2.2.1 u.2.2.2.2.1 u.2.2.2.2.2.1 u.2.2.2.2.2.2.1 u.2.2.2.2.2.2.2.2.2.2.1 ch (nI w) (nI h) (nI (w * h)) gT gC (ct + 1) u.2.2.2.2.2.2.2.1 u.2.2.2.2.2.2.2.2.1 t kg x1 x2 (nI z) = if iI (mvW w h (RW w h k j) (w * h - n - 1) p z) ≤ x2 then fX4_bestColumn_L18 N u.2.1 u.2.2.1 u.2.2.2.1 u.2.2.2.2.1 u.2.2.2.2.2.1 u.2.2.2.2.2.2.1 u.2.2.2.2.2.2.2.2.2.2.1 ch (nI w) (nI h) (nI (w * h)) gT gC ct u.2.2.2.2.2.2.2.1 u.2.2.2.2.2.2.2.2.1 tl' kf' x1 x2 (nI (z + 1)) else fX4_bestColumn_L18 N u.2.1 u.2.2.1 u.2.2.2.1 u.2.2.2.2.1 u.2.2.2.2.2.1 u.2.2.2.2.2.2.1 u.2.2.2.2.2.2.2.2.2.2.1 ch (nI w) (nI h) (nI (w * h)) gT gC ct u.2.2.2.2.2.2.2.1 u.2.2.2.2.2.2.2.2.1 tl' kf' (nI z) (iI (mvW w h (RW w h k j) (w * h - n - 1) p z)) (nI (z + 1)) := by
          rw [fX4_bestColumn_L18, if_neg (nI_ge hz (by omega)), c_open hB hp q4 hz, if_pos hl]
          simp only [Option.bind_some]
          rw [if_neg (by decide), e4]
          simp only [Option.bind_some]
          rw [nI_1]
        by_cases y : mvW w h (RW w h k j) (w * h - n - 1) p z ≤ mxF (mvW w h (RW w h k j) (w * h - n - 1) p) (fun x => decide ((p x).length < h)) z
        · have r2 : ¬ (decide ((p z).length < h) = true ∧ wvF (mvW w h (RW w h k j) (w * h - n - 1) p) (fun x => decide ((p x).length < h)) z < mvW w h (RW w h k j) (w * h - n - 1) p z) := fun v => by
            unfold mxF at y
            by_cases y2 : wvF (mvW w h (RW w h k j) (w * h - n - 1) p) (fun x => decide ((p x).length < h)) z = -1000
            · rw [if_pos y2] at y; omega
            · rw [if_neg y2] at y; omega
          refine ⟨(u.2.2.2.2.2.2.2.1, u.2.2.2.2.2.2.2.2.1, tl', kf', x1, x2), ⟨rfl, rfl, e5, ?_, ?_⟩, ?_⟩
          · show x2 = _
            rw [i4]
            unfold mxF
            rw [wvF_f r2]
          · rw [wvF_f r2]
            rcases i5 with i5 | ⟨b, a1, a2, a3, a4, a5⟩
            · exact Or.inl i5
            · exact Or.inr ⟨b, by omega, a2, a3, a4, a5⟩
          · show fX4_bestColumn_L18 N u.2.1 u.2.2.1 u.2.2.2.1 u.2.2.2.2.1 u.2.2.2.2.2.1 u.2.2.2.2.2.2.1 u.2.2.2.2.2.2.2.2.2.2.1 ch (nI w) (nI h) (nI (w * h)) gT gC (ct + 1) u.2.2.2.2.2.2.2.1 u.2.2.2.2.2.2.2.2.1 t kg x1 x2 (nI z) = _
            unfold mxF at y i4
            rw [hstep, if_pos (by rw [i4]; exact (iI_le (by omega) (by omega) (by omega) (by omega)).mpr y)]
        · have r2 : decide ((p z).length < h) = true ∧ wvF (mvW w h (RW w h k j) (w * h - n - 1) p) (fun x => decide ((p x).length < h)) z < mvW w h (RW w h k j) (w * h - n - 1) p z := by
            refine ⟨decide_eq_true hl, ?_⟩
            unfold mxF at y
            by_cases y2 : wvF (mvW w h (RW w h k j) (w * h - n - 1) p) (fun x => decide ((p x).length < h)) z = -1000
            · rw [if_pos y2] at y; omega
            · rw [if_neg y2] at y; omega
          refine ⟨(u.2.2.2.2.2.2.2.1, u.2.2.2.2.2.2.2.2.1, tl', kf', nI z, iI (mvW w h (RW w h k j) (w * h - n - 1) p z)), ⟨rfl, rfl, e5, ?_, Or.inr ⟨z, Nat.lt_succ_self z, hl, (wvF_t r2).symm, fun y2 hy2 hl2 => ?_, rfl⟩⟩, ?_⟩
          · show iI (mvW w h (RW w h k j) (w * h - n - 1) p z) = _
            unfold mxF
            rw [wvF_t r2, if_neg (by omega)]
          · have := wvF_ge (mvW w h (RW w h k j) (w * h - n - 1) p) (fun x => decide ((p x).length < h)) z y2 hy2 (decide_eq_true hl2)
            have := r2.2
            omega
          · show fX4_bestColumn_L18 N u.2.1 u.2.2.1 u.2.2.2.1 u.2.2.2.2.1 u.2.2.2.2.2.1 u.2.2.2.2.2.2.1 u.2.2.2.2.2.2.2.2.2.2.1 ch (nI w) (nI h) (nI (w * h)) gT gC (ct + 1) u.2.2.2.2.2.2.2.1 u.2.2.2.2.2.2.2.2.1 t kg x1 x2 (nI z) = _
            unfold mxF at y i4
            rw [hstep, if_neg (by rw [i4]; exact fun v => y ((iI_le (by omega) (by omega) (by omega) (by omega)).mp v))]
      · have r2 : ¬ (decide ((p z).length < h) = true ∧ wvF (mvW w h (RW w h k j) (w * h - n - 1) p) (fun x => decide ((p x).length < h)) z < mvW w h (RW w h k j) (w * h - n - 1) p z) := fun v => by
          have := of_decide_eq_true v.1
          omega
        refine ⟨(u.2.2.2.2.2.2.2.1, u.2.2.2.2.2.2.2.2.1, t, kg, x1, x2), ⟨rfl, rfl, i3, ?_, ?_⟩, ?_⟩
        · show x2 = _
          rw [i4]
          unfold mxF
          rw [wvF_f r2]
        · rw [wvF_f r2]
          rcases i5 with i5 | ⟨b, a1, a2, a3, a4, a5⟩
          · exact Or.inl i5
          · exact Or.inr ⟨b, by omega, a2, a3, a4, a5⟩
        · show fX4_bestColumn_L18 N u.2.1 u.2.2.1 u.2.2.2.1 u.2.2.2.2.1 u.2.2.2.2.2.1 u.2.2.2.2.2.2.1 u.2.2.2.2.2.2.2.2.2.2.1 ch (nI w) (nI h) (nI (w * h)) gT gC (ct + 1) u.2.2.2.2.2.2.2.1 u.2.2.2.2.2.2.2.2.1 t kg x1 x2 (nI z) = _
          rw [fX4_bestColumn_L18, if_neg (nI_ge hz (by omega)), c_open hB hp q4 hz, if_neg (show ¬ (p z).length < h by omega)]
          simp only [Option.bind_some]
          rw [if_pos trivial, nI_1]) (by
      rintro ct ⟨f, g, t, kg, x1, x2⟩ ⟨i1, i2, i3, i4, i5⟩
      refine ⟨(f, g, t, kg, x1), ?_, i1, i2, i3, ?_⟩
      · show fX4_bestColumn_L18 N u.2.1 u.2.2.1 u.2.2.2.1 u.2.2.2.2.1 u.2.2.2.2.2.1 u.2.2.2.2.2.2.1 u.2.2.2.2.2.2.2.2.2.2.1 ch (nI w) (nI h) (nI (w * h)) gT gC (ct + 1) f g t kg x1 x2 (nI w) = _
        rw [fX4_bestColumn_L18, if_pos (nI_le (Nat.le_refl _) (by omega))]
      · rcases i5 with i5 | ⟨b, a1, a2, a3, a4, a5⟩
        · exfalso
          have := i5.1
          omega
        · refine ⟨b, ⟨a1, a2, by rw [a3, ewv], fun y hy hl => ?_⟩, a5⟩
          rw [ewv, ← a3]
          exact a4 y hy hl) w 0 N (u.2.2.2.2.2.2.2.1, u.2.2.2.2.2.2.2.2.1, u.2.2.2.2.2.2.2.2.2.1, u.2.2.2.2.2.2.2.2.2.2.2, (-1 : Int32), (-100 : Int32)) (by omega) (by omega) ⟨rfl, rfl, e3, (by show (-100 : Int32) = iI (-100); decide), Or.inl ⟨rfl, rfl⟩⟩
  obtain ⟨b, b1, b2⟩ := r4
  refine ⟨(r.2.2.2.2, u.1, u.2.1, u.2.2.1, u.2.2.2.1, u.2.2.2.2.1, u.2.2.2.2.2.1, u.2.2.2.2.2.2.1, r.1, r.2.1, r.2.2.1, u.2.2.2.2.2.2.2.2.2.2.1, r.2.2.2.1), b, ?_, b2, b1, e3.1, STA_S r3⟩
  unfold fX4_bestColumn
  rw [e2]
  simp only [Option.bind_some]
  rw [i0, hr]
  rfl
theorem m_best {N : Nat} (hN : 100 < N) {w h k : Nat} (hB : Bd w h k) {R : List Nat} {n : Nat} {p : Pos} (hc : Cm w h R n p) (ho : ¬ ovr w h R p) {yT : Nat → Int32} (hT : ∀ n p, Cm w h R n p → yT (kyM w h p) = val1 w h R p) {b : Nat} (hb : bstC w h R n p b) : fX5_bestMove N (nI w) (nI h) (nI n) (nI (kyM w h p)) yT = some (nI b) := by
  obtain ⟨b1, b2, b3, b4⟩ := hb
  obtain ⟨hp, hn⟩ := Cm_ok hc
  have hk := ky_31 hB hp
  have hw := hB.2.1
  have hn16 := n_le16 hB hc
  obtain ⟨e1, hv1, hv2, hlt⟩ := val1_on hB hp ho
  rw [hn] at e1 hv1 hv2 hlt
  have hrem : nI n - nI n / (2 : Int32) * (2 : Int32) = nI (cnt w p % 2) := by rw [remI (by omega), hn]
  have hin : inb (nI (kyM w h p)) 2097152 = true := inbN hk (by decide)
  have hcl : (nI (kyM w h p)).toNatClampNeg = kyM w h p := nI_clamp (by omega)
  have hstep : ∀ ct x, x < w → (p x).length < h → fX5_bestMove_L2 N (nI w) (nI h) (nI n) (nI (kyM w h p)) yT (ct + 1) (nI x) = if iI (mvW w h R (w * h - n - 1) p x) = iI (wv w h R (w * h - n) p) then some (nI x) else fX5_bestMove_L2 N (nI w) (nI h) (nI n) (nI (kyM w h p)) yT ct (nI (x + 1)) := fun ct x hx hl => by
    have e6 := m_wby hB hp hx hl (hT (n + 1) _ (Cm_next hc ho hx hl)) (N := N) (by omega)
    rw [fX5_bestMove_L2, m_free hB hp hx (by omega), if_pos hl]
    simp only [Option.bind_some]
    rw [if_neg (by decide), hrem, e6]
    simp only [Option.bind_some]
    rw [okb_t hin, hcl, hT n p hc, e1, hn, nI_1]
  obtain ⟨r, e2, e3⟩ := lpN (fun ct (_ : Unit) i => fX5_bestMove_L2 N (nI w) (nI h) (nI n) (nI (kyM w h p)) yT ct i) b (fun _ _ => True) (fun r => r = nI b) (by
      intro ct x _ hx _
      left
      refine ⟨(), trivial, ?_⟩
      show fX5_bestMove_L2 N (nI w) (nI h) (nI n) (nI (kyM w h p)) yT (ct + 1) (nI x) = fX5_bestMove_L2 N (nI w) (nI h) (nI n) (nI (kyM w h p)) yT ct (nI (x + 1))
      by_cases hl : (p x).length < h
      · have h1 := b4 x hx hl
        have hm := mvW_b (w := w) (h := h) (R := R) (n := w * h - n - 1) (p := p) (x := x) (fun q => wv_b (w * h - n - 1) (nxt w p x) (okP_psh hp (by omega) hl _) (by unfold nxt; rw [cnt_psh p (show x < w by omega)]; omega) q)
        rw [hstep ct x (by omega) hl, if_neg (fun u => by
          have := (iI_eq (by omega) (by omega) (by omega) (by omega)).mp u
          omega)]
      · rw [fX5_bestMove_L2, m_free hB hp (by omega) (by omega), if_neg hl]
        simp only [Option.bind_some]
        rw [if_pos trivial, nI_1]) (by
      intro ct _ _
      refine ⟨nI b, ?_, rfl⟩
      show fX5_bestMove_L2 N (nI w) (nI h) (nI n) (nI (kyM w h p)) yT (ct + 1) (nI b) = _
      rw [hstep ct b b1 b2, if_pos (by rw [b3])]) b 0 N () (by omega) (by omega) trivial
  unfold fX5_bestMove
  rw [i0, e2, e3]
  rfl
theorem k_best {N : Nat} (hN : 300000 < N) {w h k : Nat} {j : Bool} (hb : okB w h k = true) {n : Nat} {c : Nat → Nat} {gr : Int32} {gR gT gC : Nat → Int32} (gA : rwA (RW w h k j) gr gR) (gTh : thA (w * h) (RW w h k j) gT gC) {yT : Nat → Int32} (hT : ∀ n p, Cm w h (RW w h k j) n p → yT (kyM w h p) = val1 w h (RW w h k j) p) {cv : Int32} {cc cm ch : Nat → Int32} {xv xn : Int32} {yV : Nat → Int32} (hM : GI w h k j n c cv cc cm ch xv xn yV) {sp : Int32} {sP : Nat → Int32} {tl : Nat → Nat → Int32} {kl : Nat} {kf : Nat → Int64} (hS : SOL w h (RW w h k j) sp sP tl kl kf) (s1 s2 s3 s4 s5 : Int32) (sC sH : Nat → Int32) :
    ∃ u v, fX4_best N sp s1 s2 s3 s4 s5 sP sC sH tl kl kf cv cc cm ch (nI w) (nI h) (nI (w * h)) gr gR gT gC = some u ∧ fX5_best N (nI w) (nI h) xv xn yT = some v ∧ u.1 = v ∧ ALC sp u.2.1 (fun kk => ∀ (u5 : Int32), fX0_isOver N cv cm (nI (w * h)) gr gR = some u5 → (u5 = 0) → (az sp ≤ kk ∧ azs sp ≤ kk * 115441)) ∧ SOL w h (RW w h k j) u.2.1 u.2.2.2.2.2.2.2.1 u.2.2.2.2.2.2.2.2.2.2.1 u.2.2.2.2.2.2.2.2.2.2.2.1 u.2.2.2.2.2.2.2.2.2.2.2.2 := by
  obtain ⟨hv, hg, m1, m2, m3⟩ := hM
  have hg' := hg
  obtain ⟨q1, q2, q3, q4⟩ := hg'
  have hB := Bd_of hb
  have hRF := RW_RF hb j
  have hc := posF_Cm hv n (Nat.le_refl n)
  obtain ⟨hp, hn⟩ := Cm_ok hc
  unfold fX4_best fX5_best
  by_cases ho : ovr w h (RW w h k j) (posF w c n)
  · have e1 := c_over1 hB hRF gA hp q3 (N := N) (by omega) ho
    rw [hn, ← q1] at e1
    rw [e1, m3, m_over1 hB hp (hT n _ hc) N ho]
    refine ⟨_, _, rfl, rfl, rfl, ⟨0, fun u6 e6 z => ?_, by show 0 + az sp ≤ az sp; omega⟩, hS⟩
    have := Option.some.inj e6
    rw [z] at this
    exact absurd this (by decide)
  · have e1 := c_over0 hB hRF gA hp q3 (N := N) (by omega) ho
    rw [hn, ← q1] at e1
    obtain ⟨v, b, e2, e3, e4, e5, e6⟩ := c_best hN hb gTh hv hg ho hS sC sH
    have e7 := m_best (N := N) (by omega) hB hc ho hT e4
    rw [e1, e2, m3, m_over0 hB hp (hT n _ hc) N ho, m1]
    simp only [Option.bind_some]
    rw [if_pos trivial, if_pos trivial, e7]
    refine ⟨_, _, rfl, rfl, e3, ⟨az sp, fun _ _ _ => ⟨Nat.le_refl _, azs_le sp⟩, ?_⟩, e6⟩
    show az sp + az v.2.1 ≤ az sp
    rw [az_one e5]
    omega
