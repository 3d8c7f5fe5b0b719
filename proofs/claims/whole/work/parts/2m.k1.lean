/-! calls on the game: both sides answer alike -/
def GI (w h k : Nat) (j : Bool) (n : Nat) (c : Nat → Nat) (cv : Int32) (cc cm ch : Nat → Int32) (xv xn : Int32) (yV : Nat → Int32) : Prop := vld w h (RW w h k j) c n ∧ gmA w n c cv cc cm ch ∧ xv = nI n ∧ (∀ i, i < n → yV i = nI (c i)) ∧ xn = nI (kyM w h (posF w c n))
theorem k_drop {N : Nat} (hN : 300000 < N) {w h k : Nat} {j : Bool} (hb : okB w h k = true) {n : Nat} {c : Nat → Nat} {gw gh gk gq gr gj : Int32} {gR gT gC : Nat → Int32} (hG : GRD w h k j gw gh gk gq gr gj gR gT gC) {xw xh xk xj xr : Int32} {yR yT yC yW yA yE yU : Nat → Int32} (hR : REF w h k j xw xh xk xj xr yR yT yC yW yA yE yU) {cv : Int32} {cc cm ch : Nat → Int32} {xv xn : Int32} {yV : Nat → Int32} (hM : GI w h k j n c cv cc cm ch xv xn yV) (a : Int32) :
    ∃ u v n' c', fX4_drop N cv cc cm ch gw gh gq gr gR a = some u ∧ fX5_drop N xw xh xv xn yT yV a = some v ∧ u.1 = v.1 ∧ GI w h k j n' c' u.2.1 u.2.2.1 u.2.2.2.1 u.2.2.2.2 v.2.1 v.2.2.1 v.2.2.2 := by
  obtain ⟨g1, g2, g3, g4, g5, gA, gTh⟩ := hG
  obtain ⟨r1, r2, r3, r4, rA, rT⟩ := hR
  have hM' := hM
  obtain ⟨hv, hg, m1, m2, m3⟩ := hM
  have hg' := hg
  obtain ⟨q1, q2, q3, q4⟩ := hg'
  have hB := Bd_of hb
  have hRF := RW_RF hb j
  have hc := posF_Cm hv n (Nat.le_refl n)
  obtain ⟨hp, hn⟩ := Cm_ok hc
  have hw := hB.2.1
  have hn16 := n_le16 hB hc
  have hT := rT.1 n _ hc
  rw [g1, g2, g4, r1, r2]
  rcases wcase a (n := w) (by omega) with ⟨x, hx, rfl⟩ | ha
  · by_cases hl : (posF w c n x).length < h
    · by_cases ho : ovr w h (RW w h k j) (posF w c n)
      · have e1 := c_over1 hB hRF gA hp q3 (N := N) (by omega) ho
        rw [hn] at e1
        refine ⟨(-201, cv, cc, cm, ch), (-201, xv, xn, yV), n, c, ?_, ?_, rfl, hM'⟩
        · unfold fX4_drop
          rw [c_open hB hp q4 hx, if_pos hl]
          simp only [Option.bind_some]
          rw [if_neg (by decide), q1, e1]
          rfl
        · unfold fX5_drop
          rw [m3, m_free hB hp hx (by omega), if_pos hl]
          simp only [Option.bind_some]
          rw [if_neg (by decide), m_over1 hB hp hT N ho]
          rfl
      · have e1 := c_over0 hB hRF gA hp q3 (N := N) (by omega) ho
        rw [hn] at e1
        obtain ⟨u, e2, e3, e4⟩ := c_make hB hv hg hx hl N
        refine ⟨(u.1, u.2.1, u.2.2.1, u.2.2.2.1, u.2.2.2.2), (nI (w * (posF w c n x).length + x), nI (n + 1), nI (kyM w h (nxt w (posF w c n) x)), upd yV n (nI x)), n + 1, cx c n x, ?_, ?_, e3, vld_cx hv ho hx hl, e4, rfl, fun i hi => ?_, by rw [posF_cxs]⟩
        · unfold fX4_drop
          rw [c_open hB hp q4 hx, if_pos hl]
          simp only [Option.bind_some]
          rw [if_neg (by decide), q1, e1]
          simp only [Option.bind_some]
          rw [if_pos trivial, ← q1, e2]
          rfl
        · have hlt : n < 16 := by
            obtain ⟨_, _, _, h9⟩ := val1_on hB hp ho
            have := hB.2.2.2.2.1
            omega
          unfold fX5_drop
          rw [m3, m_free hB hp hx (by omega), if_pos hl]
          simp only [Option.bind_some]
          rw [if_neg (by decide), m_over0 hB hp hT N ho]
          simp only [Option.bind_some]
          rw [if_pos trivial, m_hgt hB hp hx (by omega)]
          simp only [Option.bind_some]
          unfold fX5_go
          have esd : nI (n % 2) = nI (sd w (posF w c n)).toNat := by rw [sd_nat, hn]
          rw [m1, remI (by omega), esd, m_drop hB hp hx hl _ (by omega)]
          simp only [Option.bind_some]
          rw [okb_t (inbN hlt (by decide)), nI_clamp (by omega), pk_mul, nI_add, nI_1]
          rfl
        · show upd yV n (nI x) i = _
          by_cases e : i = n
          · rw [e, pk_us, cx_at]
          · rw [pk_un e, cx_lt c (by omega)]
            exact m2 i (by omega)
    · refine ⟨(-200, cv, cc, cm, ch), (-200, xv, xn, yV), n, c, ?_, ?_, rfl, hM'⟩
      · unfold fX4_drop
        rw [c_open hB hp q4 hx, if_neg hl]
        rfl
      · unfold fX5_drop
        rw [m3, m_free hB hp hx (by omega), if_neg hl]
        rfl
  · refine ⟨(-200, cv, cc, cm, ch), (-200, xv, xn, yV), n, c, ?_, ?_, rfl, hM'⟩
    · unfold fX4_drop
      rw [c_open0 (by omega) ha]
      rfl
    · unfold fX5_drop
      rw [m_free0 (by omega) ha]
      rfl
theorem k_back {N : Nat} (hN : 300000 < N) {w h k : Nat} {j : Bool} (hb : okB w h k = true) {n : Nat} {c : Nat → Nat} {cv : Int32} {cc cm ch : Nat → Int32} {xv xn : Int32} {yV : Nat → Int32} (hM : GI w h k j n c cv cc cm ch xv xn yV) (a : Int32) :
    ∃ u v n', fX4_back N cv cc cm ch (nI w) a = some u ∧ fX5_back N (nI w) (nI h) xv xn yV a = some v ∧ u.1 = v.1 ∧ GI w h k j n' c u.2.1 cc u.2.2.1 u.2.2.2 v.2.1 v.2.2 yV := by
  have hM' := hM
  obtain ⟨hv, hg, m1, m2, m3⟩ := hM
  have hg' := hg
  obtain ⟨q1, q2, q3, q4⟩ := hg'
  have hB := Bd_of hb
  have hn16 := n_le16 hB (posF_Cm hv n (Nat.le_refl n))
  rcases winr N a (lo := 0) (hi := n) (by omega) (by decide) with ⟨i, _, hi, rfl, e1⟩ | ⟨e1, _⟩
  · have hv' : vld w h (RW w h k j) c (n - i) := vld_le hv (by omega)
    obtain ⟨r, hr, hr2⟩ := lpN (fun ct (s : Int32 × (Nat → Int32) × (Nat → Int32)) t => fX4_back_L21 N cc (nI w) (nI i) ct s.1 s.2.1 s.2.2 t) i (fun t s => gmA w (n - t) c s.1 cc s.2.1 s.2.2) (fun s => gmA w (n - i) c s.1 cc s.2.1 s.2.2) (by
        rintro ct t ⟨a, b, d⟩ ht hI
        left
        have hI' : gmA w ((n - (t + 1)) + 1) c a cc b d := by
          rw [show n - (t + 1) + 1 = n - t by omega]
          exact hI
        obtain ⟨u, e2, e3⟩ := c_unmake hB (vld_le hv (show n - (t + 1) + 1 ≤ n by omega)) hI' N
        refine ⟨(u.1, u.2.1, u.2.2), e3, ?_⟩
        show fX4_back_L21 N cc (nI w) (nI i) (ct + 1) a b d (nI t) = fX4_back_L21 N cc (nI w) (nI i) ct u.1 u.2.1 u.2.2 (nI (t + 1))
        rw [fX4_back_L21, if_neg (nI_ge ht (by omega)), e2]
        simp only [Option.bind_some]
        rw [nI_1]) (by
        rintro ct ⟨a, b, d⟩ hI
        refine ⟨(a, b, d), ?_, hI⟩
        show fX4_back_L21 N cc (nI w) (nI i) (ct + 1) a b d (nI i) = _
        rw [fX4_back_L21, if_pos (nI_le (Nat.le_refl _) (by omega))]) i 0 N (cv, cm, ch) (by omega) (by omega) hg
    refine ⟨(r.1, r.1, r.2.1, r.2.2), (nI (n - i), nI (n - i), nI (kyM w h (posF w c (n - i)))), n - i, ?_, ?_, hr2.1, hv', hr2, rfl, fun t ht => m2 t (by omega), rfl⟩
    · unfold fX4_back
      rw [show (0 : Int32) = nI 0 from rfl, q1, e1]
      simp only [Option.bind_some]
      rw [if_neg (by decide), ← q1, hr]
      rfl
    · unfold fX5_back
      rw [l0, in_eq, show (0 : Int32) = nI 0 from rfl, m1, e1]
      simp only [Option.bind_some]
      rw [if_neg (by decide), pk_sub hi, m_place hB hv' (fun t ht => m2 t (by omega)) (by omega)]
      rfl
  · refine ⟨(-200, cv, cm, ch), (-200, xv, xn), n, ?_, ?_, rfl, hM'⟩
    · unfold fX4_back
      rw [show (0 : Int32) = nI 0 from rfl, q1, e1]
      rfl
    · unfold fX5_back
      rw [l0, in_eq, show (0 : Int32) = nI 0 from rfl, m1, e1]
      rfl
theorem k_move {N : Nat} {w h k : Nat} {j : Bool} (hb : okB w h k = true) {n : Nat} {c : Nat → Nat} {cv : Int32} {cc cm ch : Nat → Int32} {xv xn : Int32} {yV : Nat → Int32} (hM : GI w h k j n c cv cc cm ch xv xn yV) (a : Int32) :
    ∃ u, fX4_move N cv cc a = some u ∧ fX5_move N xv yV a = some u := by
  obtain ⟨hv, ⟨q1, q2, q3, q4⟩, m1, m2, m3⟩ := hM
  have hB := Bd_of hb
  have hn16 := n_le16 hB (posF_Cm hv n (Nat.le_refl n))
  unfold fX4_move fX5_move
  rw [l0, in_eq, q1, m1]
  rcases wcase a (n := n) (by omega) with ⟨i, hi, rfl⟩ | ha
  · refine ⟨nI (c i), ?_, ?_⟩
    · rw [win_t hi (by omega)]
      simp only [Option.bind_some]
      rw [if_neg (by decide), okb_t (inbN (by omega) (by decide)), nI_clamp (by omega), q2 i hi]
    · rw [win_t hi (by omega)]
      simp only [Option.bind_some]
      rw [if_neg (by decide), okb_t (inbN (by omega) (by decide)), nI_clamp (by omega), m2 i hi]
  · refine ⟨-200, ?_, ?_⟩
    · rw [win_f (by omega) ha]
      rfl
    · rw [win_f (by omega) ha]
      rfl
theorem k_at {N : Nat} (hN : 300000 < N) {w h k : Nat} {j : Bool} (hb : okB w h k = true) {n : Nat} {c : Nat → Nat} {cv : Int32} {cc cm ch : Nat → Int32} {xv xn : Int32} {yV : Nat → Int32} (hM : GI w h k j n c cv cc cm ch xv xn yV) (xc : Int32) (yM : Nat → Int32) (a : Int32) :
    ∃ u v, fX4_at N cm (nI (w * h)) a = some u ∧ fX5_at N (nI w) (nI h) xc xn yM a = some v ∧ u = v.1 := by
  obtain ⟨hv, ⟨q1, q2, q3, q4⟩, m1, m2, m3⟩ := hM
  have hB := Bd_of hb
  have hc := posF_Cm hv n (Nat.le_refl n)
  obtain ⟨hp, hn⟩ := Cm_ok hc
  have hwh := hB.2.2.2.2.1
  rw [m3]
  rcases wcase a (n := w * h) (by omega) with ⟨s, hs, rfl⟩ | ha
  · obtain ⟨x, f, e1⟩ := m_at hB hp (N := N) (by omega) xc yM hs
    refine ⟨_, _, ?_, e1, rfl⟩
    unfold fX4_at
    rw [win_t hs (by omega)]
    simp only [Option.bind_some]
    rw [if_neg (by decide), c_man q3 (mk_31 hB hp _) (mk_31 hB hp _) (by omega)]
    rfl
  · refine ⟨-200, _, ?_, m_at0 (by omega) ha rfl xc _ yM N, rfl⟩
    unfold fX4_at
    rw [win_f (by omega) ha]
    rfl
/-- the state as the reference's table has it -/
theorem m_st {w h k : Nat} (hB : Bd w h k) {R : List Nat} {p : Pos} (hp : okP w h p) {α : Type} (a b d : α) : (if val1 w h R p = 127 then a else if val1 w h R p = 126 then b else d) = if wonB w R p = true then a else if cnt w p < w * h then d else b := by
  have hcl := cnt_le hp
  by_cases q : wonB w R p = true
  · rw [if_pos q]
    unfold val1
    rw [if_pos q, if_pos rfl]
  · rw [if_neg q]
    by_cases u : cnt w p = w * h
    · unfold val1
      rw [if_neg q, if_pos u, if_neg (by decide), if_pos rfl, if_neg (by omega)]
    · obtain ⟨n1, n2⟩ := val1_n hB hp (R := R) (fun r => by exact Or.elim r (fun r => q r) (fun r => u r))
      rw [if_neg n1, if_neg n2, if_pos (by omega)]
theorem k_game {N : Nat} (hN : 300000 < N) {w h k : Nat} {j : Bool} (hb : okB w h k = true) {n : Nat} {c : Nat → Nat} {gr : Int32} {gR : Nat → Int32} (gA : rwA (RW w h k j) gr gR) {xr : Int32} {yR : Nat → Int32} (rA : rwA (RW w h k j) xr yR) {yT : Nat → Int32} (hT : ∀ n p, Cm w h (RW w h k j) n p → yT (kyM w h p) = val1 w h (RW w h k j) p) {cv : Int32} {cc cm ch : Nat → Int32} {xv xn : Int32} {yV : Nat → Int32} (hM : GI w h k j n c cv cc cm ch xv xn yV) (xc : Int32) (yM : Nat → Int32) (a : Int32) :
    ∃ u v, fX4_game N cv cm ch (nI w) (nI h) (nI (w * h)) gr gR a = some u ∧ fX5_game N (nI w) (nI h) xr xc xv xn yR yT yM a = some v ∧ u = v.1 := by
  obtain ⟨hv, ⟨q1, q2, q3, q4⟩, m1, m2, m3⟩ := hM
  have hB := Bd_of hb
  have hRF := RW_RF hb j
  have hc := posF_Cm hv n (Nat.le_refl n)
  obtain ⟨hp, hn⟩ := Cm_ok hc
  have hn16 := n_le16 hB hc
  have hk := ky_31 hB hp
  have hin : inb (nI (kyM w h (posF w c n))) 2097152 = true := inbN hk (by decide)
  have hcl := cnt_le hp
  unfold fX4_game fX5_game
  rw [q1, m1, m3]
  by_cases a0 : a = (0 : Int32)
  · rw [if_pos a0, if_pos a0, c_side]
    refine ⟨_, _, rfl, rfl, ?_⟩
    show _ = nI n - nI n / (2 : Int32) * (2 : Int32)
    rw [remI (by omega)]
  · rw [if_neg a0, if_neg a0]
    by_cases a1 : a = (1 : Int32)
    · rw [if_pos a1, if_pos a1]
      exact ⟨_, _, rfl, rfl, rfl⟩
    · rw [if_neg a1, if_neg a1]
      by_cases a2 : a = (2 : Int32)
      · have e1 := c_state hB hRF gA hp q3 (N := N) (by omega)
        rw [hn] at e1
        rw [if_pos a2, if_pos a2, e1, okb_t hin, okb_t hin, nI_clamp (by omega), hT n _ hc, m_st hB hp]
        by_cases t1 : wonB w (RW w h k j) (posF w c n) = true
        · rw [if_pos t1, if_pos t1]
          exact ⟨_, _, rfl, rfl, rfl⟩
        · rw [if_neg t1, if_neg t1]
          by_cases t2 : n < w * h
          · rw [if_pos t2, if_pos (by omega)]
            exact ⟨_, _, rfl, rfl, rfl⟩
          · rw [if_neg t2, if_neg (by omega)]
            exact ⟨_, _, rfl, rfl, rfl⟩
      · rw [if_neg a2, if_neg a2]
        by_cases a3 : a = (3 : Int32)
        · rw [if_pos a3, if_pos a3, c_opens hB hp q4 (by omega), i0, m_opens hB hp (by omega)]
          exact ⟨_, _, rfl, rfl, rfl⟩
        · rw [if_neg a3, if_neg a3]
          by_cases a4 : a = (4 : Int32)
          · obtain ⟨r, e1, e2, e3⟩ := m_dec hB hp (N := N) (by omega) yM
            rw [if_pos a4, if_pos a4, okb_t (by decide), show (0 : Int32).toNatClampNeg = 0 from rfl, q3.1, c_without gA (mk_31 hB hp _) (by omega), e1]
            simp only [Option.bind_some]
            rw [okb_t (by decide), show (1 : Int32).toNatClampNeg = 1 from rfl, q3.2, c_without gA (mk_31 hB hp _) (by omega), i0, m_without rA hRF.2.1 e3 (by omega)]
            simp only [Option.bind_some]
            rw [nI_add]
            exact ⟨_, _, rfl, rfl, rfl⟩
          · rw [if_neg a4, if_neg a4]
            exact ⟨_, _, rfl, rfl, rfl⟩
theorem k_won {N : Nat} (hN : 300000 < N) {w h k : Nat} {j : Bool} (hb : okB w h k = true) {n : Nat} {c : Nat → Nat} {gr : Int32} {gR : Nat → Int32} (gA : rwA (RW w h k j) gr gR) {xr : Int32} {yR : Nat → Int32} (rA : rwA (RW w h k j) xr yR) {yT : Nat → Int32} (hT : ∀ n p, Cm w h (RW w h k j) n p → yT (kyM w h p) = val1 w h (RW w h k j) p) {cv : Int32} {cc cm ch : Nat → Int32} {xv xn : Int32} {yV : Nat → Int32} (hM : GI w h k j n c cv cc cm ch xv xn yV) (xc : Int32) (yM : Nat → Int32) (a : Int32) :
    ∃ u v, fX4_won N cv cm (nI k) (nI (w * h)) gr gR a = some u ∧ fX5_won N (nI w) (nI h) (nI k) xr xc xv xn yR yT yM a = some v ∧ u = v.1 := by
  obtain ⟨hv, ⟨q1, q2, q3, q4⟩, m1, m2, m3⟩ := hM
  have hB := Bd_of hb
  have hRF := RW_RF hb j
  have hc := posF_Cm hv n (Nat.le_refl n)
  obtain ⟨hp, hn⟩ := Cm_ok hc
  have hn16 := n_le16 hB hc
  have hk := ky_31 hB hp
  have hin : inb (nI (kyM w h (posF w c n))) 2097152 = true := inbN hk (by decide)
  have e1 := c_state hB hRF gA hp q3 (N := N) (by omega)
  have eo := oth_nat w (posF w c n)
  rw [hn] at e1 eo
  unfold fX4_won fX5_won
  rw [q1, m1, m3, e1, okb_t hin, nI_clamp (by omega), hT n _ hc]
  simp only [Option.bind_some]
  by_cases t1 : wonB w (RW w h k j) (posF w c n) = true
  · have ev : val1 w h (RW w h k j) (posF w c n) = 127 := by unfold val1; rw [if_pos t1]
    have hk4 := hB.2.2.2.2.2.2.2
    rw [if_pos t1, if_pos rfl, if_pos ev, l0, in_eq]
    rcases wcase a (n := k) (by omega) with ⟨i, hi, rfl⟩ | ha
    · obtain ⟨r, r1, r2, r3⟩ := m_dec hB hp (N := N) (by omega) yM
      obtain ⟨f, f1, f2, f3⟩ := won_both hRF.2.1 gA rA (m := mk w (posF w c n) (!(sd w (posF w c n)))) (mk_31 hB hp _) (N := N) (by omega) (RW w h k j).length 0 N N 0 (by omega) (by have := gA.2.1; omega) (by have := gA.2.1; omega) (by decide)
      rw [win_t hi (by omega)]
      simp only [Option.bind_some]
      rw [if_neg (by decide), if_neg (by decide), c_side, r1]
      simp only [Option.bind_some]
      rw [remI (by omega), eo, okb_t (bI _), okb_t (bI _), bIc, msk_at (M := mk w (posF w c n)) q3, msk_at (M := mk w (posF w c n)) r3]
      unfold fX1_firstRowOf
      rw [i0, f2, f3]
      simp only [Option.bind_some]
      obtain ⟨d1, d2⟩ := c_nth f1 (show i < 1000 by omega) (N := N) (by omega)
      obtain ⟨d3, d4⟩ := m_nth f1 (N := N) (by omega) (show i < 2 ^ 31 by omega)
      rcases Classical.em (∃ s, kthB f i s) with ⟨s, hs⟩ | q
      · rw [d1 s hs, d3 s hs]
        exact ⟨nI s, (nI s, r.1, r.2), rfl, rfl, rfl⟩
      · rw [d2 (fun s hs => q ⟨s, hs⟩), d4 (fun s hs => q ⟨s, hs⟩)]
        exact ⟨-1, (-1, r.1, r.2), rfl, rfl, rfl⟩
    · rw [win_f (by omega) ha]
      exact ⟨_, _, rfl, rfl, rfl⟩
  · have ev : ¬ val1 w h (RW w h k j) (posF w c n) = 127 := fun e => by
      unfold val1 at e
      rw [if_neg t1] at e
      by_cases u : cnt w (posF w c n) = w * h
      · rw [if_pos u] at e; exact absurd e (by decide)
      · obtain ⟨e9, h1, h2, _⟩ := val1_on hB hp (R := RW w h k j) (fun r => by exact Or.elim r (fun r => t1 r) (fun r => u r))
        rw [if_neg u] at e
        have := (iI_eq (b := 127) (by omega) (by omega) (by omega) (by omega)).mp e
        omega
    rw [if_neg t1, if_neg ev]
    by_cases t2 : n < w * h
    · rw [if_pos t2, if_neg (by decide)]
      exact ⟨_, _, rfl, rfl, rfl⟩
    · rw [if_neg t2, if_neg (by decide)]
      exact ⟨_, _, rfl, rfl, rfl⟩
theorem k_even {N : Nat} (hN : 300000 < N) {w h k : Nat} {j : Bool} (hb : okB w h k = true) {n : Nat} {c : Nat → Nat} {cv : Int32} {cc cm ch : Nat → Int32} {xv xn : Int32} {yV : Nat → Int32} (hM : GI w h k j n c cv cc cm ch xv xn yV) : ∃ u, fX4_even N cm (nI w) (nI (w * h)) = some u ∧ fX5_even N (nI w) (nI h) xn = some u := by
  obtain ⟨hv, ⟨q1, q2, q3, q4⟩, m1, m2, m3⟩ := hM
  have hB := Bd_of hb
  obtain ⟨hp, hn⟩ := Cm_ok (posF_Cm hv n (Nat.le_refl n))
  obtain ⟨v, v1, v2⟩ := c_even hB hp q3 (N := N) (by omega)
  obtain ⟨z, z1, z2⟩ := m_even hB hp (N := N) (by omega)
  have e : v = z := by
    have := v1.trans z1.symm
    cases v <;> cases z <;> simp_all
  subst e
  rw [m3]
  exact ⟨_, v2, z2⟩
theorem b_case {N : Nat} (a : Int32) : (∃ b : Bool, a = nI b.toNat ∧ fX4_isWithin N a 0 1 = some 1) ∨ fX4_isWithin N a 0 1 = some 0 := by
  rcases winr N a (lo := 0) (hi := 1) (by decide) (by decide) with ⟨i, _, hi, rfl, e1⟩ | ⟨e1, _⟩
  · left
    rcases Nat.lt_or_ge i 1 with q | q
    · exact ⟨false, by rw [show i = 0 by omega]; rfl, e1⟩
    · exact ⟨true, by rw [show i = 1 by omega]; rfl, e1⟩
  · exact Or.inr e1
theorem k_threats {N : Nat} (hN : 300000 < N) {w h k : Nat} {j : Bool} (hb : okB w h k = true) {n : Nat} {c : Nat → Nat} {gr : Int32} {gR : Nat → Int32} (gA : rwA (RW w h k j) gr gR) {xr : Int32} {yR : Nat → Int32} (rA : rwA (RW w h k j) xr yR) {cv : Int32} {cc cm ch : Nat → Int32} {xv xn : Int32} {yV : Nat → Int32} (hM : GI w h k j n c cv cc cm ch xv xn yV) (xc : Int32) (yM : Nat → Int32) (a : Int32) :
    ∃ u v, fX4_threats N cm (nI (w * h)) gr gR a = some u ∧ fX5_threats N (nI w) (nI h) xr xc xn yR yM a = some v ∧ u = v.1 := by
  obtain ⟨hv, ⟨q1, q2, q3, q4⟩, m1, m2, m3⟩ := hM
  have hB := Bd_of hb
  have hRF := RW_RF hb j
  obtain ⟨hp, hn⟩ := Cm_ok (posF_Cm hv n (Nat.le_refl n))
  have hwh := hB.2.2.2.2.1
  unfold fX4_threats fX5_threats
  rw [l0, show (1 : Int64) = (1 : Int32).toInt64 from rfl, in_eq, m3]
  rcases b_case (N := N) a with ⟨b, rfl, e1⟩ | e1
  · obtain ⟨r, r1, r2, r3⟩ := m_dec hB hp (N := N) (by omega) yM
    have hlt := thN_lt (thrB (RW w h k j) (mk w (posF w c n)) b) hwh
    rw [e1]
    simp only [Option.bind_some]
    rw [if_neg (by decide), if_neg (by decide), c_thrOf gA hRF.2.1 (M := mk w (posF w c n)) q3 (mk_lt hB hp) hwh b (by omega), r1]
    simp only [Option.bind_some]
    rw [m_thrOf rA hRF.2.1 (M := mk w (posF w c n)) r3 (mk_lt hB hp) hwh b (by omega), c_bc (by omega)]
    simp only [Option.bind_some]
    rw [i0, m_pc 16 _ 0 N hlt (by decide) (by omega), Nat.zero_add]
    exact ⟨_, _, rfl, rfl, rfl⟩
  · rw [e1]
    exact ⟨_, _, rfl, rfl, rfl⟩
theorem k_threat {N : Nat} (hN : 300000 < N) {w h k : Nat} {j : Bool} (hb : okB w h k = true) {n : Nat} {c : Nat → Nat} {gr : Int32} {gR : Nat → Int32} (gA : rwA (RW w h k j) gr gR) {xr : Int32} {yR : Nat → Int32} (rA : rwA (RW w h k j) xr yR) {cv : Int32} {cc cm ch : Nat → Int32} {xv xn : Int32} {yV : Nat → Int32} (hM : GI w h k j n c cv cc cm ch xv xn yV) (xc : Int32) (yM : Nat → Int32) (a a2 : Int32) :
    ∃ u v, fX4_threat N cm (nI (w * h)) gr gR a a2 = some u ∧ fX5_threat N (nI w) (nI h) xr xc xn yR yM a a2 = some v ∧ u = v.1 := by
  obtain ⟨hv, ⟨q1, q2, q3, q4⟩, m1, m2, m3⟩ := hM
  have hB := Bd_of hb
  have hRF := RW_RF hb j
  obtain ⟨hp, hn⟩ := Cm_ok (posF_Cm hv n (Nat.le_refl n))
  have hwh := hB.2.2.2.2.1
  unfold fX4_threat fX5_threat
  rw [l0, show (1 : Int64) = (1 : Int32).toInt64 from rfl, in_eq, m3]
  rcases b_case (N := N) a with ⟨b, rfl, e1⟩ | e1
  · obtain ⟨r, r1, r2, r3⟩ := m_dec hB hp (N := N) (by omega) yM
    have hlt := thN_lt (thrB (RW w h k j) (mk w (posF w c n)) b) hwh
    rw [e1]
    simp only [Option.bind_some]
    rw [if_neg (by decide), if_neg (by decide), c_thrOf gA hRF.2.1 (M := mk w (posF w c n)) q3 (mk_lt hB hp) hwh b (by omega), r1]
    simp only [Option.bind_some]
    rw [m_thrOf rA hRF.2.1 (M := mk w (posF w c n)) r3 (mk_lt hB hp) hwh b (by omega), c_bc (by omega)]
    simp only [Option.bind_some]
    generalize thN (thrB (RW w h k j) (mk w (posF w c n)) b) (w * h) = T at hlt
    have hpc : pcn T ≤ 16 := fb_ct_le _ 16
    rcases wcase a2 (n := pcn T) (by omega) with ⟨i, hi, rfl⟩ | ha
    · obtain ⟨s, hs⟩ := (kthB_ex hlt).mpr hi
      obtain ⟨d1, d2⟩ := c_nth hlt (show i < 1000 by omega) (N := N) (by omega)
      obtain ⟨d3, d4⟩ := m_nth hlt (N := N) (by omega) (show i < 2 ^ 31 by omega)
      have hs16 := bit_16 hlt hs.1
      rw [win_t hi (by omega), d3 s hs]
      simp only [Option.bind_some]
      rw [if_neg (by decide), d1 s hs, if_neg (fun u => absurd (u ▸ nI_pos (n := s) (by omega)) (by decide))]
      exact ⟨_, _, rfl, rfl, rfl⟩
    · have e2 : fX5_bitOf N (nI T) a2 = some (-1) := by
        by_cases q : a2 < 0
        · exact m_nthN (by omega) q
        · obtain ⟨i, hi, rfl⟩ := nI_of q
          refine (m_nth hlt (N := N) (by omega) hi).2 (fun s hs => ?_)
          have h1 := (kthB_ex hlt).mp ⟨s, hs⟩
          rcases ha with u | u
          · exact q u
          · have := (nI_leI (by omega) hi).mp u
            omega
      rw [win_f (by omega) ha, e2]
      exact ⟨_, _, rfl, rfl, rfl⟩
  · rw [e1]
    exact ⟨_, _, rfl, rfl, rfl⟩
theorem c_follow {w h k : Nat} (hB : Bd w h k) {R : List Nat} {n : Nat} {c : Nat → Nat} (hv : vld w h R c n) {nv : Int32} {nc : Nat → Int32} (h1 : nv = nI n) (h2 : ∀ i, i < n → nc i = nI (c i)) (mc mm mh : Nat → Int32) {N : Nat} (hN : 100 < N) : ∃ u c', fX0_follow N mc mm mh nv nc (nI w) (nI h) = some u ∧ vld w h R c' n ∧ gmA w n c' u.1 u.2.1 u.2.2.1 u.2.2.2 ∧ posF w c' n = posF w c n := by
  have hn16 := n_le16 hB (posF_Cm hv n (Nat.le_refl n))
  obtain ⟨z, e1, e2⟩ := c_clear (N := N) (by omega) w mc mm mh c
  obtain ⟨r, e3, c', e4, e5, e6⟩ := lpN (fun ct (s : Int32 × (Nat → Int32) × (Nat → Int32) × (Nat → Int32)) i => fX0_follow_L6 N (nI n) nc (nI w) (nI h) ct s.1 s.2.1 s.2.2.1 s.2.2.2 i) n (fun i s => ∃ c', vld w h R c' i ∧ gmA w i c' s.1 s.2.1 s.2.2.1 s.2.2.2 ∧ ∀ t, t < i → c' t = c t) (fun s => ∃ c', vld w h R c' n ∧ gmA w n c' s.1 s.2.1 s.2.2.1 s.2.2.2 ∧ ∀ t, t < n → c' t = c t) (by
      rintro ct i ⟨a, b, d, e⟩ hi ⟨c', j1, j2, j3⟩
      left
      obtain ⟨hx, hl, ho⟩ := hv i hi
      have epos : posF w c' i = posF w c i := posF_cong j3
      rw [← epos] at hl ho
      obtain ⟨u, u1, u2, u3⟩ := c_make hB j1 j2 hx hl N
      refine ⟨(u.2.1, u.2.2.1, u.2.2.2.1, u.2.2.2.2), ⟨cx c' i (c i), vld_cx j1 ho hx hl, u3, fun t ht => ?_⟩, ?_⟩
      · by_cases q : t = i
        · rw [q, cx_at]
        · rw [cx_lt c' (by omega)]
          exact j3 t (by omega)
      · show fX0_follow_L6 N (nI n) nc (nI w) (nI h) (ct + 1) a b d e (nI i) = fX0_follow_L6 N (nI n) nc (nI w) (nI h) ct u.2.1 u.2.2.1 u.2.2.2.1 u.2.2.2.2 (nI (i + 1))
        have u1' : fX0_make N a b d e (nI w) (nI h) (nI (c i)) = some u := u1
        rw [fX0_follow_L6, if_neg (nI_ge hi (by omega)), okb_t (inbN (by omega) (by decide)), nI_clamp (by omega), h2 i hi, u1']
        simp only [Option.bind_some]
        rw [nI_1]) (by
      rintro ct ⟨a, b, d, e⟩ hI
      refine ⟨(a, b, d, e), ?_, hI⟩
      show fX0_follow_L6 N (nI n) nc (nI w) (nI h) (ct + 1) a b d e (nI n) = _
      rw [fX0_follow_L6, if_pos (nI_le (Nat.le_refl _) (by omega))]) n 0 N (z.1, mc, z.2.1, z.2.2) (by omega) (by omega) ⟨c, fun i hi => absurd hi (Nat.not_lt_zero i), e2, fun t ht => absurd ht (Nat.not_lt_zero t)⟩
  refine ⟨(r.1, r.2.1, r.2.2.1, r.2.2.2), c', ?_, e4, e5, posF_cong e6⟩
  unfold fX0_follow
  rw [e1, h1]
  simp only [Option.bind_some]
  rw [i0, e3]
  rfl
theorem k_waiting {N : Nat} (hN : 300000 < N) {w h k : Nat} {j : Bool} (hb : okB w h k = true) {n : Nat} {c : Nat → Nat} {gr : Int32} {gR : Nat → Int32} (gA : rwA (RW w h k j) gr gR) {xr : Int32} {yR : Nat → Int32} (rA : rwA (RW w h k j) xr yR) {yT : Nat → Int32} (hT : ∀ n p, Cm w h (RW w h k j) n p → yT (kyM w h p) = val1 w h (RW w h k j) p) {cv : Int32} {cc cm ch : Nat → Int32} {xv xn : Int32} {yV : Nat → Int32} (hM : GI w h k j n c cv cc cm ch xv xn yV) (dv : Int32) (dc dm dh : Nat → Int32) (xc : Int32) (yM : Nat → Int32) :
    ∃ u v, fX4_waiting N cv cc cm dv dc dm dh (nI w) (nI h) (nI (w * h)) gr gR = some u ∧ fX5_waiting N (nI w) (nI h) xr xc xv xn yR yT yM = some v ∧ u.1 = v.1 := by
  obtain ⟨hv, ⟨q1, q2, q3, q4⟩, m1, m2, m3⟩ := hM
  have hB := Bd_of hb
  have hRF := RW_RF hb j
  have hc := posF_Cm hv n (Nat.le_refl n)
  obtain ⟨hp, hn⟩ := Cm_ok hc
  have hwh := hB.2.2.2.2.1
  have hT0 := hT n _ hc
  unfold fX4_waiting fX5_waiting
  rw [q1, m1, m3]
  by_cases ho : ovr w h (RW w h k j) (posF w c n)
  · have e1 := c_over1 hB hRF gA hp q3 (N := N) (by omega) ho
    rw [hn] at e1
    rw [e1, m_over1 hB hp hT0 N ho]
    exact ⟨_, _, rfl, rfl, rfl⟩
  · have e1 := c_over0 hB hRF gA hp q3 (N := N) (by omega) ho
    rw [hn] at e1
    rw [e1, m_over0 hB hp hT0 N ho]
    simp only [Option.bind_some]
    rw [if_pos trivial, if_pos trivial]
    obtain ⟨_, _, _, hlt⟩ := val1_on hB hp ho
    obtain ⟨u, c1, f1, f2, f3, f4⟩ := c_follow hB hv rfl q2 dc dm dh (N := N) (by omega)
    obtain ⟨st, n', c', w1, w2, w3, w4⟩ := c_wait hB hRF gA (N := N) (by omega) (w * h - n) n c1 u.1 u.2.1 u.2.2.1 u.2.2.2 N (by omega) (by omega) f2 f3
    obtain ⟨x1, x2, y1⟩ := m_wait hB hRF rA hT (N := N) (by omega) (w * h - n) n (posF w c n) xc yM N (by omega) (by omega) hc
    rw [f4] at w4
    obtain ⟨n2, z1, z2⟩ := wE_Cm hB (R := RW w h k j) (w * h - n) n (posF w c n) (by omega) hc
    have hcm' := posF_Cm w3 n' (Nat.le_refl n')
    obtain ⟨hp', hn'⟩ := Cm_ok hcm'
    rw [← w4] at z1 z2 y1
    have hk' := ky_31 hB hp'
    obtain ⟨s1, s2, s3, s4⟩ := w2
    have hst := c_state hB hRF gA hp' s3 (N := N) (by omega)
    rw [hn'] at hst
    have hn16 := n_le16 hB hcm'
    rw [f1]
    simp only [Option.bind_some]
    rw [f3.1] at w1
    rw [f3.1, w1, y1]
    simp only [Option.bind_some]
    rw [s1, hst, okb_t (inbN hk' (by decide)), nI_clamp (by omega), hT n' _ hcm', c_side, hn']
    simp only [Option.bind_some]
    rw [remI (by omega)]
    by_cases t1 : wonB w (RW w h k j) (posF w c' n') = true
    · have ev : val1 w h (RW w h k j) (posF w c' n') = 127 := by unfold val1; rw [if_pos t1]
      rw [if_pos t1, if_pos rfl, ev, if_neg (show ¬ (127 : Int32) = 126 by decide)]
      by_cases t2 : nI (n' % 2) = (1 : Int32)
      · rw [if_pos t2, if_pos t2]
        exact ⟨_, _, rfl, rfl, rfl⟩
      · rw [if_neg t2, if_neg t2]
        exact ⟨_, _, rfl, rfl, rfl⟩
    · have t3 : cnt w (posF w c' n') = w * h := by
        rcases z2 with u | u
        · exact absurd u t1
        · exact u
      have ev : val1 w h (RW w h k j) (posF w c' n') = 126 := by unfold val1; rw [if_neg t1, if_pos t3]
      rw [if_neg t1, if_neg (show ¬ n' < w * h by omega), if_neg (by decide), ev, if_pos rfl]
      exact ⟨_, _, rfl, rfl, rfl⟩
theorem k_count {N : Nat} {w h k : Nat} {j : Bool} {gr xr : Int32} (e : gr = xr) (dn : Int32) (a : Int32) : fX4_count N dn (nI w) (nI h) (nI k) (nI (w * h)) gr (jI j) a = fX5_count N (nI w) (nI h) (nI k) (jI j) xr dn a := by
  unfold fX4_count fX5_count
  rw [e, pk_mul]
/-- a sum of answers -/
def dgS (f : Nat → Int32) (acc : Int64) : Nat → Int64
  | 0 => acc
  | n + 1 => (31 : Int64) * dgS f acc n + (f n).toInt64
theorem cnt_tot {N : Nat} (dn gw gh gk gq gr gj a : Int32) : ∃ v, fX4_count N dn gw gh gk gq gr gj a = some v := by
  unfold fX4_count
  repeat' split
  all_goals exact ⟨_, rfl⟩
theorem k_digest {N : Nat} (hN : 300000 < N) {w h k : Nat} {j : Bool} (hb : okB w h k = true) {n : Nat} {c : Nat → Nat} {gr : Int32} {gR : Nat → Int32} (gA : rwA (RW w h k j) gr gR) {xr : Int32} {yR : Nat → Int32} (rA : rwA (RW w h k j) xr yR) {yT : Nat → Int32} (hT : ∀ n p, Cm w h (RW w h k j) n p → yT (kyM w h p) = val1 w h (RW w h k j) p) {cv : Int32} {cc cm ch : Nat → Int32} {xv xn : Int32} {yV : Nat → Int32} (hM : GI w h k j n c cv cc cm ch xv xn yV) (xc : Int32) (yM : Nat → Int32) (dn : Int32) :
    ∃ u v, fX4_digest N dn cv cc cm ch (nI w) (nI h) (nI k) (nI (w * h)) gr (jI j) gR = some u ∧ fX5_digest N (nI w) (nI h) (nI k) (jI j) xr xc xv xn dn yR yT yM yV = some v ∧ u = v.1 := by
  have hM' := hM
  obtain ⟨hv, ⟨q1, q2, q3, q4⟩, m1, m2, m3⟩ := hM
  have hB := Bd_of hb
  have hwh := hB.2.2.2.2.1
  have hn16 := n_le16 hB (posF_Cm hv n (Nat.le_refl n))
  have egr : gr = xr := gA.1.trans rA.1.symm
  have hcnt : ∃ f : Nat → Int32, ∀ i, fX4_count N dn (nI w) (nI h) (nI k) (nI (w * h)) gr (jI j) (nI i) = some (f i) := ⟨fun i => Classical.choose (cnt_tot (N := N) dn (nI w) (nI h) (nI k) (nI (w * h)) gr (jI j) (nI i)), fun i => Classical.choose_spec (cnt_tot (N := N) dn (nI w) (nI h) (nI k) (nI (w * h)) gr (jI j) (nI i))⟩
  obtain ⟨f, hf⟩ := hcnt
  have hgx : ∀ i : Nat, ∃ u, fX4_game N cv cm ch (nI w) (nI h) (nI (w * h)) gr gR (nI i) = some u ∧ ∀ xc yM, ∃ v, fX5_game N (nI w) (nI h) xr xc xv xn yR yT yM (nI i) = some v ∧ v.1 = u := fun i => by
    obtain ⟨u, v, e1, e2, e3⟩ := k_game hN hb gA rA hT hM' xc yM (nI i)
    refine ⟨u, e1, fun xc yM => ?_⟩
    obtain ⟨u', v', d1, d2, d3⟩ := k_game hN hb gA rA hT hM' xc yM (nI i)
    have e : u = u' := Option.some.inj (e1.symm.trans d1)
    exact ⟨v', d2, d3.symm.trans e.symm⟩
  have hgame : ∃ g : Nat → Int32, ∀ i, fX4_game N cv cm ch (nI w) (nI h) (nI (w * h)) gr gR (nI i) = some (g i) ∧ ∀ xc yM, ∃ v, fX5_game N (nI w) (nI h) xr xc xv xn yR yT yM (nI i) = some v ∧ v.1 = g i := ⟨fun i => Classical.choose (hgx i), fun i => Classical.choose_spec (hgx i)⟩
  obtain ⟨g, hg⟩ := hgame
  have hat : ∃ o : Nat → Int32, ∀ i, i < w * h → fX0_manOn N cm (nI i) = some (o i) ∧ ∀ xc yM, ∃ v, fX5_at N (nI w) (nI h) xc xn yM (nI i) = some v ∧ v.1 = o i := by
    obtain ⟨hp, hn⟩ := Cm_ok (posF_Cm hv n (Nat.le_refl n))
    refine ⟨fun i => manI (mk w (posF w c n) false) (mk w (posF w c n) true) i, fun i hi => ⟨c_man q3 (mk_31 hB hp _) (mk_31 hB hp _) (by omega) N, fun xc yM => ?_⟩⟩
    obtain ⟨a, b, e⟩ := m_at hB hp (N := N) (by omega) xc yM hi
    rw [m3]
    exact ⟨_, e, rfl⟩
  obtain ⟨o, ho⟩ := hat
  have A1 : ∀ acc, fX4_digest_L6 N dn (nI w) (nI h) (nI k) (nI (w * h)) gr (jI j) N acc (nI 0) = some (dgS f acc 6) := fun acc => by
    obtain ⟨r, e1, e2⟩ := lpN (fun ct s i => fX4_digest_L6 N dn (nI w) (nI h) (nI k) (nI (w * h)) gr (jI j) ct s i) 6 (fun i s => s = dgS f acc i) (fun s => s = dgS f acc 6) (by
        intro ct i s hi hI
        left
        refine ⟨dgS f acc (i + 1), rfl, ?_⟩
        show fX4_digest_L6 N dn (nI w) (nI h) (nI k) (nI (w * h)) gr (jI j) (ct + 1) s (nI i) = _
        rw [fX4_digest_L6, if_neg (show ¬ (5 : Int32) < nI i from nI_nlt (a := 5) (by omega) (by decide)), hf i, hI]
        simp only [Option.bind_some]
        rw [nI_1]
        rfl) (by
        intro ct s hI
        refine ⟨s, ?_, hI⟩
        show fX4_digest_L6 N dn (nI w) (nI h) (nI k) (nI (w * h)) gr (jI j) (ct + 1) s (nI 6) = _
        rw [fX4_digest_L6, if_pos (by decide)]) 6 0 N acc (by omega) (by omega) rfl
    rw [e1, e2]
  have B1 : ∀ acc, fX5_digest_L6 N (nI w) (nI h) (nI k) (jI j) xr dn N acc (nI 0) = some (dgS f acc 6) := fun acc => by
    obtain ⟨r, e1, e2⟩ := lpN (fun ct s i => fX5_digest_L6 N (nI w) (nI h) (nI k) (jI j) xr dn ct s i) 6 (fun i s => s = dgS f acc i) (fun s => s = dgS f acc 6) (by
        intro ct i s hi hI
        left
        refine ⟨dgS f acc (i + 1), rfl, ?_⟩
        show fX5_digest_L6 N (nI w) (nI h) (nI k) (jI j) xr dn (ct + 1) s (nI i) = _
        rw [fX5_digest_L6, if_neg (show ¬ (6 : Int32) ≤ nI i from nI_ge (b := 6) hi (by decide)), ← k_count egr dn (nI i), hf i, hI]
        simp only [Option.bind_some]
        rw [nI_1]
        rfl) (by
        intro ct s hI
        refine ⟨s, ?_, hI⟩
        show fX5_digest_L6 N (nI w) (nI h) (nI k) (jI j) xr dn (ct + 1) s (nI 6) = _
        rw [fX5_digest_L6, if_pos (by decide)]) 6 0 N acc (by omega) (by omega) rfl
    rw [e1, e2]
  have A2 : ∀ acc, fX4_digest_L32 N cv cm ch (nI w) (nI h) (nI (w * h)) gr gR N acc (nI 0) = some (dgS g acc 5) := fun acc => by
    obtain ⟨r, e1, e2⟩ := lpN (fun ct s i => fX4_digest_L32 N cv cm ch (nI w) (nI h) (nI (w * h)) gr gR ct s i) 5 (fun i s => s = dgS g acc i) (fun s => s = dgS g acc 5) (by
        intro ct i s hi hI
        left
        refine ⟨dgS g acc (i + 1), rfl, ?_⟩
        show fX4_digest_L32 N cv cm ch (nI w) (nI h) (nI (w * h)) gr gR (ct + 1) s (nI i) = _
        rw [fX4_digest_L32, if_neg (show ¬ (4 : Int32) < nI i from nI_nlt (a := 4) (by omega) (by decide)), (hg i).1, hI]
        simp only [Option.bind_some]
        rw [nI_1]
        rfl) (by
        intro ct s hI
        refine ⟨s, ?_, hI⟩
        show fX4_digest_L32 N cv cm ch (nI w) (nI h) (nI (w * h)) gr gR (ct + 1) s (nI 5) = _
        rw [fX4_digest_L32, if_pos (by decide)]) 5 0 N acc (by omega) (by omega) rfl
    rw [e1, e2]
  have B2 : ∀ acc, ∃ x1 x2, fX5_digest_L33 N (nI w) (nI h) xr xv xn yR yT N xc yM acc (nI 0) = some (x1, x2, dgS g acc 5) := fun acc => by
    obtain ⟨r, e1, e2⟩ := lpN (fun ct (s : Int32 × (Nat → Int32) × Int64) i => fX5_digest_L33 N (nI w) (nI h) xr xv xn yR yT ct s.1 s.2.1 s.2.2 i) 5 (fun i s => s.2.2 = dgS g acc i) (fun s => s.2.2 = dgS g acc 5) (by
        rintro ct i ⟨a, b, s⟩ hi hI
        left
        obtain ⟨v, e1, e2⟩ := (hg i).2 a b
        refine ⟨(v.2.1, v.2.2, dgS g acc (i + 1)), rfl, ?_⟩
        show fX5_digest_L33 N (nI w) (nI h) xr xv xn yR yT (ct + 1) a b s (nI i) = _
        have hI' : s = dgS g acc i := hI
        rw [fX5_digest_L33, if_neg (show ¬ (5 : Int32) ≤ nI i from nI_ge (b := 5) hi (by decide)), e1, hI']
        simp only [Option.bind_some]
        rw [nI_1, e2]
        rfl) (by
        rintro ct ⟨a, b, s⟩ hI
        refine ⟨(a, b, s), ?_, hI⟩
        show fX5_digest_L33 N (nI w) (nI h) xr xv xn yR yT (ct + 1) a b s (nI 5) = _
        rw [fX5_digest_L33, if_pos (by decide)]) 5 0 N (xc, yM, acc) (by omega) (by omega) rfl
    refine ⟨r.1, r.2.1, ?_⟩
    rw [e1, ← e2]
  have A3 : ∀ acc, fX4_digest_L58 N cv cc N acc (nI 0) = some (dgS (fun i => nI (c i)) acc n) := fun acc => by
    obtain ⟨r, e1, e2⟩ := lpN (fun ct s i => fX4_digest_L58 N cv cc ct s i) n (fun i s => s = dgS (fun i => nI (c i)) acc i) (fun s => s = dgS (fun i => nI (c i)) acc n) (by
        intro ct i s hi hI
        left
        refine ⟨dgS (fun i => nI (c i)) acc (i + 1), rfl, ?_⟩
        show fX4_digest_L58 N cv cc (ct + 1) s (nI i) = _
        rw [fX4_digest_L58, q1, if_neg (nI_ge hi (by omega)), okb_t (inbN (by omega) (by decide)), nI_clamp (by omega), q2 i hi, hI, nI_1]
        rfl) (by
        intro ct s hI
        refine ⟨s, ?_, hI⟩
        show fX4_digest_L58 N cv cc (ct + 1) s (nI n) = _
        rw [fX4_digest_L58, q1, if_pos (nI_le (Nat.le_refl _) (by omega))]) n 0 N acc (by omega) (by omega) rfl
    rw [e1, e2]
  have B3 : ∀ acc, fX5_digest_L59 N xv yV N acc (nI 0) = some (dgS (fun i => nI (c i)) acc n) := fun acc => by
    obtain ⟨r, e1, e2⟩ := lpN (fun ct s i => fX5_digest_L59 N xv yV ct s i) n (fun i s => s = dgS (fun i => nI (c i)) acc i) (fun s => s = dgS (fun i => nI (c i)) acc n) (by
        intro ct i s hi hI
        left
        refine ⟨dgS (fun i => nI (c i)) acc (i + 1), rfl, ?_⟩
        show fX5_digest_L59 N xv yV (ct + 1) s (nI i) = _
        rw [fX5_digest_L59, m1, if_neg (nI_ge hi (by omega)), okb_t (inbN (by omega) (by decide)), nI_clamp (by omega), m2 i hi, hI, nI_1]
        rfl) (by
        intro ct s hI
        refine ⟨s, ?_, hI⟩
        show fX5_digest_L59 N xv yV (ct + 1) s (nI n) = _
        rw [fX5_digest_L59, m1, if_pos (nI_le (Nat.le_refl _) (by omega))]) n 0 N acc (by omega) (by omega) rfl
    rw [e1, e2]
  have A4 : ∀ acc, fX4_digest_L94 N cm (nI (w * h)) N acc (nI 0) = some (dgS o acc (w * h)) := fun acc => by
    obtain ⟨r, e1, e2⟩ := lpN (fun ct s i => fX4_digest_L94 N cm (nI (w * h)) ct s i) (w * h) (fun i s => s = dgS o acc i) (fun s => s = dgS o acc (w * h)) (by
        intro ct i s hi hI
        left
        refine ⟨dgS o acc (i + 1), rfl, ?_⟩
        show fX4_digest_L94 N cm (nI (w * h)) (ct + 1) s (nI i) = _
        rw [fX4_digest_L94, if_neg (nI_ge hi (by omega)), (ho i hi).1, hI]
        simp only [Option.bind_some]
        rw [nI_1]
        rfl) (by
        intro ct s hI
        refine ⟨s, ?_, hI⟩
        show fX4_digest_L94 N cm (nI (w * h)) (ct + 1) s (nI (w * h)) = _
        rw [fX4_digest_L94, if_pos (nI_le (Nat.le_refl _) (by omega))]) (w * h) 0 N acc (by omega) (by omega) rfl
    rw [e1, e2]
  have B4 : ∀ acc x1 x2, ∃ z1 z2, fX5_digest_L89 N (nI w) (nI h) xn N x1 x2 acc (nI 0) = some (z1, z2, dgS o acc (w * h)) := fun acc x1 x2 => by
    obtain ⟨r, e1, e2⟩ := lpN (fun ct (s : Int32 × (Nat → Int32) × Int64) i => fX5_digest_L89 N (nI w) (nI h) xn ct s.1 s.2.1 s.2.2 i) (w * h) (fun i s => s.2.2 = dgS o acc i) (fun s => s.2.2 = dgS o acc (w * h)) (by
        rintro ct i ⟨a, b, s⟩ hi hI
        left
        obtain ⟨v, e1, e2⟩ := (ho i hi).2 a b
        refine ⟨(v.2.1, v.2.2, dgS o acc (i + 1)), rfl, ?_⟩
        show fX5_digest_L89 N (nI w) (nI h) xn (ct + 1) a b s (nI i) = _
        have hI' : s = dgS o acc i := hI
        rw [fX5_digest_L89, pk_mul, if_neg (nI_ge hi (by omega)), e1, hI']
        simp only [Option.bind_some]
        rw [nI_1, e2]
        rfl) (by
        rintro ct ⟨a, b, s⟩ hI
        refine ⟨(a, b, s), ?_, hI⟩
        show fX5_digest_L89 N (nI w) (nI h) xn (ct + 1) a b s (nI (w * h)) = _
        rw [fX5_digest_L89, pk_mul, if_pos (nI_le (Nat.le_refl _) (by omega))]) (w * h) 0 N (x1, x2, acc) (by omega) (by omega) rfl
    refine ⟨r.1, r.2.1, ?_⟩
    rw [e1, ← e2]
  obtain ⟨x1, x2, hB2⟩ := B2 (dgS f 17 6)
  obtain ⟨z1, z2, hB4⟩ := B4 (dgS (fun i => nI (c i)) (dgS g (dgS f 17 6) 5) n) x1 x2
  refine ⟨dgS o (dgS (fun i => nI (c i)) (dgS g (dgS f 17 6) 5) n) (w * h), (dgS o (dgS (fun i => nI (c i)) (dgS g (dgS f 17 6) 5) n) (w * h), z1, z2), ?_, ?_, rfl⟩
  · unfold fX4_digest
    rw [i0, A1]
    simp only [Option.bind_some]
    rw [A2]
    simp only [Option.bind_some]
    rw [A3]
    simp only [Option.bind_some]
    rw [A4]
    rfl
  · unfold fX5_digest
    rw [i0, B1]
    simp only [Option.bind_some]
    rw [hB2]
    simp only [Option.bind_some]
    rw [B3]
    simp only [Option.bind_some]
    rw [hB4]
    rfl
