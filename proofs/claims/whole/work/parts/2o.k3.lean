/-! as, play, and the counts: both sides answer alike -/
def asN (w h : Nat) (R : List Nat) (n : Nat) (p : Pos) (z : Nat) : Nat := fb_ct (fun x => decide ((p x).length < h) && decide (mvW w h R (w * h - n - 1) p x = wv w h R (w * h - n) p)) z
theorem asN_s (w h : Nat) (R : List Nat) (n : Nat) (p : Pos) (z : Nat) : asN w h R n p (z + 1) = asN w h R n p z + if (p z).length < h ∧ mvW w h R (w * h - n - 1) p z = wv w h R (w * h - n) p then 1 else 0 := by
  unfold asN
  rw [fb_ct_succ]
  by_cases q : (p z).length < h ∧ mvW w h R (w * h - n - 1) p z = wv w h R (w * h - n) p
  · rw [if_pos q, if_pos (by simp [q.1, q.2])]
  · rw [if_neg q, if_neg (fun u => q (by
      simp only [Bool.and_eq_true, decide_eq_true_eq] at u
      exact u))]
theorem k_as {N : Nat} (hN : 300000 < N) {w h k : Nat} {j : Bool} (hb : okB w h k = true) {n : Nat} {c : Nat → Nat} {gr : Int32} {gR gT gC : Nat → Int32} (gA : rwA (RW w h k j) gr gR) (gTh : thA (w * h) (RW w h k j) gT gC) {yT : Nat → Int32} (hT : ∀ n p, Cm w h (RW w h k j) n p → yT (kyM w h p) = val1 w h (RW w h k j) p) {cv : Int32} {cc cm ch : Nat → Int32} {xv xn : Int32} {yV : Nat → Int32} (hM : GI w h k j n c cv cc cm ch xv xn yV) {sp : Int32} {sP : Nat → Int32} {tl : Nat → Nat → Int32} {kl : Nat} {kf : Nat → Int64} (hS : SOL w h (RW w h k j) sp sP tl kl kf) (s1 s2 s3 s4 s5 : Int32) (sC sH : Nat → Int32) :
    ∃ u v, fX4_as N sp s1 s2 s3 s4 s5 sP sC sH tl kl kf cv cc cm ch (nI w) (nI h) (nI (w * h)) gr gR gT gC = some u ∧ fX5_as N (nI w) (nI h) xv xn yT = some v ∧ u.1 = v ∧ ALC sp u.2.1 (fun kk => ∀ (u11 : Int32), fX0_isOver N cv cm (nI (w * h)) gr gR = some u11 → (u11 = 0) → (az sp ≤ kk ∧ azs sp ≤ kk * 115441)) ∧ SOL w h (RW w h k j) u.2.1 u.2.2.2.2.2.2.2.1 u.2.2.2.2.2.2.2.2.2.2.1 u.2.2.2.2.2.2.2.2.2.2.2.1 u.2.2.2.2.2.2.2.2.2.2.2.2 := by
  obtain ⟨hv, hg, m1, m2, m3⟩ := hM
  have hg' := hg
  obtain ⟨q1, q2, q3, q4⟩ := hg'
  have hB := Bd_of hb
  have hRF := RW_RF hb j
  have hc := posF_Cm hv n (Nat.le_refl n)
  obtain ⟨hp, hn⟩ := Cm_ok hc
  have hw := hB.2.1
  have hn16 := n_le16 hB hc
  have hk := ky_31 hB hp
  unfold fX4_as fX5_as
  by_cases ho : ovr w h (RW w h k j) (posF w c n)
  · have e1 := c_over1 hB hRF gA hp q3 (N := N) (by omega) ho
    rw [hn, ← q1] at e1
    rw [e1, m3, m_over1 hB hp (hT n _ hc) N ho]
    refine ⟨_, _, rfl, rfl, rfl, ⟨0, fun u6 e6 z => ?_, by show 0 + az sp ≤ az sp; omega⟩, hS⟩
    have := Option.some.inj e6
    rw [z] at this
    exact absurd this (by decide)
  · have e1 := c_over0 hB hRF gA hp q3 (N := N) (by omega) ho
    rw [hn, ← q1] at e1
    obtain ⟨d1, hv1, hv2, hlt⟩ := val1_on hB hp ho
    rw [hn] at d1 hv1 hv2 hlt
    obtain ⟨u, e2, e3⟩ := c_start (sC := sC) (sH := sH) hB (N := N) (by omega) hS hv hg
    obtain ⟨tl0, kf0, e4, e5, _⟩ := c_worthS (STA_V hB hRF gTh (RW_fl hb j) (N := N) (by omega) e3) e3 hc ho
    have hbb : ∀ x, x < w → (posF w c n x).length < h → -99 ≤ mvW w h (RW w h k j) (w * h - n - 1) (posF w c n) x ∧ mvW w h (RW w h k j) (w * h - n - 1) (posF w c n) x ≤ 99 := fun x hx hl =>
      mvW_b (fun q => wv_b (w * h - n - 1) (nxt w (posF w c n) x) (okP_psh hp hx hl _) (by unfold nxt; rw [cnt_psh (posF w c n) hx]; omega) q)
    obtain ⟨r, hr, r1, r2, r3, r4⟩ := lpN (fun ct (s : (Nat → Int32) × (Nat → Int32) × (Nat → Nat → Int32) × (Nat → Int64) × Int32) i => fX4_as_L37 N u.2.1 u.2.2.1 u.2.2.2.1 u.2.2.2.2.1 u.2.2.2.2.2.1 u.2.2.2.2.2.2.1 u.2.2.2.2.2.2.2.2.2.2.1 ch (nI w) (nI h) (nI (w * h)) gT gC (iI (wv w h (RW w h k j) (w * h - n) (posF w c n))) ct s.1 s.2.1 s.2.2.1 s.2.2.2.1 s.2.2.2.2 i) w
      (fun z s => s.1 = u.2.2.2.2.2.2.2.1 ∧ s.2.1 = u.2.2.2.2.2.2.2.2.1 ∧ STA w h (RW w h k j) (posF w c n) n u.1 u.2.1 u.2.2.1 u.2.2.2.1 u.2.2.2.2.1 u.2.2.2.2.2.1 u.2.2.2.2.2.2.1 u.2.2.2.2.2.2.2.1 u.2.2.2.2.2.2.2.2.1 s.2.2.1 u.2.2.2.2.2.2.2.2.2.2.1 s.2.2.2.1 ∧ s.2.2.2.2 = nI (asN w h (RW w h k j) n (posF w c n) z))
      (fun s => s.1 = u.2.2.2.2.2.2.2.1 ∧ s.2.1 = u.2.2.2.2.2.2.2.2.1 ∧ STA w h (RW w h k j) (posF w c n) n u.1 u.2.1 u.2.2.1 u.2.2.2.1 u.2.2.2.2.1 u.2.2.2.2.2.1 u.2.2.2.2.2.2.1 u.2.2.2.2.2.2.2.1 u.2.2.2.2.2.2.2.2.1 s.2.2.1 u.2.2.2.2.2.2.2.2.2.2.1 s.2.2.2.1 ∧ s.2.2.2.2 = nI (asN w h (RW w h k j) n (posF w c n) w)) (by
        rintro ct z ⟨f, g, t, kg, x2⟩ hz ⟨i1, i2, i3, i4⟩
        dsimp only at i1 i2 i3 i4
        subst i1
        subst i2
        left
        have hlz := hp.1 z hz
        rcases Nat.lt_or_ge (posF w c n z).length h with hl | hl
        · obtain ⟨tl', kf', d4, d5⟩ := c_worthM (STA_V hB hRF gTh (RW_fl hb j) (N := N) (by omega) i3) i3 hc ho hz hl
          have hm := hbb z hz hl
          refine ⟨(u.2.2.2.2.2.2.2.1, u.2.2.2.2.2.2.2.2.1, tl', kf', nI (asN w h (RW w h k j) n (posF w c n) (z + 1))), ⟨rfl, rfl, d5, rfl⟩, ?_⟩
          show fX4_as_L37 N u.2.1 u.2.2.1 u.2.2.2.1 u.2.2.2.2.1 u.2.2.2.2.2.1 u.2.2.2.2.2.2.1 u.2.2.2.2.2.2.2.2.2.2.1 ch (nI w) (nI h) (nI (w * h)) gT gC (iI (wv w h (RW w h k j) (w * h - n) (posF w c n))) (ct + 1) u.2.2.2.2.2.2.2.1 u.2.2.2.2.2.2.2.2.1 t kg x2 (nI z) = fX4_as_L37 N u.2.1 u.2.2.1 u.2.2.2.1 u.2.2.2.2.1 u.2.2.2.2.2.1 u.2.2.2.2.2.2.1 u.2.2.2.2.2.2.2.2.2.2.1 ch (nI w) (nI h) (nI (w * h)) gT gC (iI (wv w h (RW w h k j) (w * h - n) (posF w c n))) ct u.2.2.2.2.2.2.2.1 u.2.2.2.2.2.2.2.2.1 tl' kf' (nI (asN w h (RW w h k j) n (posF w c n) (z + 1))) (nI (z + 1))
          rw [fX4_as_L37, if_neg (nI_ge hz (by omega)), c_open hB hp q4 hz, if_pos hl]
          simp only [Option.bind_some]
          rw [if_neg (by decide), d4]
          simp only [Option.bind_some]
          rw [i4, asN_s, nI_1, nI_1]
          by_cases y : mvW w h (RW w h k j) (w * h - n - 1) (posF w c n) z = wv w h (RW w h k j) (w * h - n) (posF w c n)
          · rw [if_pos (by rw [y]), if_pos ⟨hl, y⟩]
          · rw [if_neg (fun v => y ((iI_eq (by omega) (by omega) (by omega) (by omega)).mp v)), if_neg (fun v => y v.2)]
            first | done | rfl
        · refine ⟨(u.2.2.2.2.2.2.2.1, u.2.2.2.2.2.2.2.2.1, t, kg, nI (asN w h (RW w h k j) n (posF w c n) (z + 1))), ⟨rfl, rfl, i3, rfl⟩, ?_⟩
          show fX4_as_L37 N u.2.1 u.2.2.1 u.2.2.2.1 u.2.2.2.2.1 u.2.2.2.2.2.1 u.2.2.2.2.2.2.1 u.2.2.2.2.2.2.2.2.2.2.1 ch (nI w) (nI h) (nI (w * h)) gT gC (iI (wv w h (RW w h k j) (w * h - n) (posF w c n))) (ct + 1) u.2.2.2.2.2.2.2.1 u.2.2.2.2.2.2.2.2.1 t kg x2 (nI z) = fX4_as_L37 N u.2.1 u.2.2.1 u.2.2.2.1 u.2.2.2.2.1 u.2.2.2.2.2.1 u.2.2.2.2.2.2.1 u.2.2.2.2.2.2.2.2.2.2.1 ch (nI w) (nI h) (nI (w * h)) gT gC (iI (wv w h (RW w h k j) (w * h - n) (posF w c n))) ct u.2.2.2.2.2.2.2.1 u.2.2.2.2.2.2.2.2.1 t kg (nI (asN w h (RW w h k j) n (posF w c n) (z + 1))) (nI (z + 1))
          rw [fX4_as_L37, if_neg (nI_ge hz (by omega)), c_open hB hp q4 hz, if_neg (show ¬ (posF w c n z).length < h by omega)]
          simp only [Option.bind_some]
          rw [if_pos trivial, i4, asN_s, nI_1, if_neg (fun v => by have := v.1; omega)]
          first | done | rfl) (by
        rintro ct ⟨f, g, t, kg, x2⟩ hI
        refine ⟨(f, g, t, kg, x2), ?_, hI⟩
        show fX4_as_L37 N u.2.1 u.2.2.1 u.2.2.2.1 u.2.2.2.2.1 u.2.2.2.2.2.1 u.2.2.2.2.2.2.1 u.2.2.2.2.2.2.2.2.2.2.1 ch (nI w) (nI h) (nI (w * h)) gT gC (iI (wv w h (RW w h k j) (w * h - n) (posF w c n))) (ct + 1) f g t kg x2 (nI w) = _
        rw [fX4_as_L37, if_pos (nI_le (Nat.le_refl _) (by omega))]) w 0 N (u.2.2.2.2.2.2.2.1, u.2.2.2.2.2.2.2.2.1, tl0, kf0, (0 : Int32)) (by omega) (by omega) ⟨rfl, rfl, e5, rfl⟩
    have hrem : nI n - nI n / (2 : Int32) * (2 : Int32) = nI (cnt w (posF w c n) % 2) := by rw [remI (by omega), hn]
    have hin : inb (nI (kyM w h (posF w c n))) 2097152 = true := inbN hk (by decide)
    have hcl : (nI (kyM w h (posF w c n))).toNatClampNeg = kyM w h (posF w c n) := nI_clamp (by omega)
    obtain ⟨x, hx, x1⟩ := lpN (fun ct s i => fX5_as_L15 N (nI w) (nI h) (nI n) (nI (kyM w h (posF w c n))) yT ct s i) w (fun z s => s = nI (asN w h (RW w h k j) n (posF w c n) z)) (fun s => s = nI (asN w h (RW w h k j) n (posF w c n) w)) (by
        intro ct z s hz hI
        left
        refine ⟨nI (asN w h (RW w h k j) n (posF w c n) (z + 1)), rfl, ?_⟩
        show fX5_as_L15 N (nI w) (nI h) (nI n) (nI (kyM w h (posF w c n))) yT (ct + 1) s (nI z) = fX5_as_L15 N (nI w) (nI h) (nI n) (nI (kyM w h (posF w c n))) yT ct (nI (asN w h (RW w h k j) n (posF w c n) (z + 1))) (nI (z + 1))
        have z0 : ∀ x : Nat, nI x + (0 : Int32) = nI x := fun x => by rw [i0, nI_add, Nat.add_zero]
        rw [fX5_as_L15, if_neg (nI_ge hz (by omega)), m_free hB hp hz (by omega)]
        simp only [Option.bind_some]
        by_cases hl : (posF w c n z).length < h
        · have hm := hbb z hz hl
          have e6 := m_wby hB hp hz hl (hT (n + 1) _ (Cm_next hc ho hz hl)) (N := N) (by omega)
          rw [if_pos hl, if_neg (by decide), hrem, e6]
          simp only [Option.bind_some]
          rw [okb_t hin, hcl, hT n _ hc, d1, hI, asN_s, hn, nI_1, nI_1, z0]
          by_cases y : mvW w h (RW w h k j) (w * h - n - 1) (posF w c n) z = wv w h (RW w h k j) (w * h - n) (posF w c n)
          · rw [if_pos (by rw [y]), if_pos ⟨hl, y⟩]
          · rw [if_neg (fun v => y ((iI_eq (by omega) (by omega) (by omega) (by omega)).mp v)), if_neg (fun v => y v.2)]
            first | done | rfl
        · rw [if_neg hl, if_pos rfl, hI, asN_s, nI_1, if_neg (fun v => hl v.1), z0]
          first | done | rfl) (by
        intro ct s hI
        refine ⟨s, ?_, hI⟩
        show fX5_as_L15 N (nI w) (nI h) (nI n) (nI (kyM w h (posF w c n))) yT (ct + 1) s (nI w) = _
        rw [fX5_as_L15, if_pos (nI_le (Nat.le_refl _) (by omega))]) w 0 N (nI 0) (by omega) (by omega) rfl
    have hr' : fX4_as_L37 N u.2.1 u.2.2.1 u.2.2.2.1 u.2.2.2.2.1 u.2.2.2.2.2.1 u.2.2.2.2.2.2.1 u.2.2.2.2.2.2.2.2.2.2.1 ch (nI w) (nI h) (nI (w * h)) gT gC (iI (wv w h (RW w h k j) (w * h - n) (posF w c n))) N u.2.2.2.2.2.2.2.1 u.2.2.2.2.2.2.2.2.1 tl0 kf0 (nI 0) (nI 0) = some r := hr
    rw [e1, e2, m3, m_over0 hB hp (hT n _ hc) N ho, m1]
    simp only [Option.bind_some]
    rw [if_pos trivial, if_pos trivial, e4]
    simp only [Option.bind_some]
    rw [i0, hr', hx, x1]
    refine ⟨_, _, rfl, rfl, r4, ⟨az sp, fun _ _ _ => ⟨Nat.le_refl _, azs_le sp⟩, ?_⟩, STA_S r3⟩
    show az sp + az u.1 ≤ az sp
    rw [az_one e3.1]
    omega
theorem k_playL {N : Nat} (hN : 300000 < N) {w h k : Nat} {j : Bool} (hb : okB w h k = true) {gr : Int32} {gR gT gC : Nat → Int32} (gA : rwA (RW w h k j) gr gR) (gTh : thA (w * h) (RW w h k j) gT gC) {yT : Nat → Int32} (hT : ∀ n p, Cm w h (RW w h k j) n p → yT (kyM w h p) = val1 w h (RW w h k j) p) :
    ∀ (m n : Nat) (c : Nat → Nat) (sp s1 s2 s3 s4 s5 : Int32) (sP sC sH : Nat → Int32) (tl : Nat → Nat → Int32) (kl : Nat) (kf : Nat → Int64) (cv : Int32) (cc cm ch : Nat → Int32) (yV : Nat → Int32) (t ct ct' : Nat), n + m = w * h → m < ct → m + 1 < ct' → vld w h (RW w h k j) c n → gmA w n c cv cc cm ch → (∀ i, i < n → yV i = nI (c i)) → SOL w h (RW w h k j) sp sP tl kl kf →
    ∃ st v n' c', fX4_play_L24 N (nI w) (nI h) (nI (w * h)) gr gR gT gC ct sp s1 s2 s3 s4 s5 sP sC sH tl kl kf cv cc cm ch (nI n) = some st ∧ fX5_play_L13 N (nI w) (nI h) yT ct' (nI n) (nI (kyM w h (posF w c n))) yV (nI t) = some v ∧ n ≤ n' ∧ vld w h (RW w h k j) c' n' ∧ gmA w n' c' st.2.2.2.2.2.2.2.2.2.2.2.2.1 st.2.2.2.2.2.2.2.2.2.2.2.2.2.1 st.2.2.2.2.2.2.2.2.2.2.2.2.2.2.1 st.2.2.2.2.2.2.2.2.2.2.2.2.2.2.2 ∧ v.1 = nI n' ∧ v.2.1 = nI (kyM w h (posF w c' n')) ∧ (∀ i, i < n' → v.2.2.1 i = nI (c' i)) ∧ v.2.2.2 = nI (t + (n' - n)) ∧ SOL w h (RW w h k j) st.1 st.2.2.2.2.2.2.1 st.2.2.2.2.2.2.2.2.2.1 st.2.2.2.2.2.2.2.2.2.2.1 st.2.2.2.2.2.2.2.2.2.2.2.1 ∧ (st.1 = 1 ∨ (st.1 = sp ∧ ovr w h (RW w h k j) (posF w c n))) := by
  have hB := Bd_of hb
  have hRF := RW_RF hb j
  have hwh := hB.2.2.2.2.1
  intro m
  induction m with
  | zero =>
    intro n c sp s1 s2 s3 s4 s5 sP sC sH tl kl kf cv cc cm ch yV t ct ct' hn hct hct' hv hg hV hS
    obtain ⟨d, rfl⟩ : ∃ d, ct = d + 1 := ⟨ct - 1, by omega⟩
    obtain ⟨d', rfl⟩ : ∃ d, ct' = d + 1 := ⟨ct' - 1, by omega⟩
    have hc := posF_Cm hv n (Nat.le_refl n)
    obtain ⟨hp, hcn⟩ := Cm_ok hc
    have ho : ovr w h (RW w h k j) (posF w c n) := Or.inr (by omega)
    refine ⟨(sp, s1, s2, s3, s4, s5, sP, sC, sH, tl, kl, kf, cv, cc, cm, ch), (nI n, nI (kyM w h (posF w c n)), yV, nI t), n, c, ?_, ?_, Nat.le_refl n, hv, hg, rfl, rfl, hV, by rw [Nat.sub_self]; rfl, hS, Or.inr ⟨rfl, ho⟩⟩
    · rw [fX4_play_L24, if_pos (nI_le (by omega) (by omega))]
    · rw [fX5_play_L13, m_over1 hB hp (hT n _ hc) N ho]
      rfl
  | succ m ih =>
    intro n c sp s1 s2 s3 s4 s5 sP sC sH tl kl kf cv cc cm ch yV t ct ct' hn hct hct' hv hg hV hS
    obtain ⟨d, rfl⟩ : ∃ d, ct = d + 1 := ⟨ct - 1, by omega⟩
    obtain ⟨d', rfl⟩ : ∃ d, ct' = d + 1 := ⟨ct' - 1, by omega⟩
    have hc := posF_Cm hv n (Nat.le_refl n)
    obtain ⟨hp, hcn⟩ := Cm_ok hc
    have hg' := hg
    obtain ⟨q1, q2, q3, q4⟩ := hg'
    by_cases ho : ovr w h (RW w h k j) (posF w c n)
    · have e1 := c_over1 hB hRF gA hp q3 (N := N) (by omega) ho
      rw [hcn, ← q1] at e1
      refine ⟨(sp, s1, s2, s3, s4, s5, sP, sC, sH, tl, kl, kf, cv, cc, cm, ch), (nI n, nI (kyM w h (posF w c n)), yV, nI t), n, c, ?_, ?_, Nat.le_refl n, hv, hg, rfl, rfl, hV, by rw [Nat.sub_self]; rfl, hS, Or.inr ⟨rfl, ho⟩⟩
      · rw [fX4_play_L24, if_neg (nI_ge (by omega) (by omega)), e1]
        rfl
      · rw [fX5_play_L13, m_over1 hB hp (hT n _ hc) N ho]
        rfl
    · have e1 := c_over0 hB hRF gA hp q3 (N := N) (by omega) ho
      rw [hcn, ← q1] at e1
      obtain ⟨v, b, e2, e3, e4, e5, e6⟩ := c_best hN hb gTh hv hg ho hS sC sH
      have e7 := m_best (N := N) (by omega) hB hc ho hT e4
      obtain ⟨b1, b2, _, _⟩ := e4
      obtain ⟨u, f1, f2, f3⟩ := c_make hB hv hg b1 b2 N
      have hV' : ∀ i, i < n + 1 → upd yV n (nI b) i = nI (cx c n b i) := fun i hi => by
        by_cases e : i = n
        · rw [e, pk_us, cx_at]
        · rw [pk_un e, cx_lt c (by omega)]
          exact hV i (by omega)
      obtain ⟨st, v2, n', c', g1, g2, g3, g4, g5, g6, g7, g8, g9, g10, g11⟩ := ih (n + 1) (cx c n b) v.2.1 v.2.2.1 v.2.2.2.1 v.2.2.2.2.1 v.2.2.2.2.2.1 v.2.2.2.2.2.2.1 v.2.2.2.2.2.2.2.1 v.2.2.2.2.2.2.2.2.1 v.2.2.2.2.2.2.2.2.2.1 v.2.2.2.2.2.2.2.2.2.2.1 v.2.2.2.2.2.2.2.2.2.2.2.1 v.2.2.2.2.2.2.2.2.2.2.2.2 u.2.1 u.2.2.1 u.2.2.2.1 u.2.2.2.2 (upd yV n (nI b)) (t + 1) d d' (by omega) (by omega) (by omega) (vld_cx hv ho b1 b2) f3 hV' e6
      have esd : nI (n % 2) = nI (sd w (posF w c n)).toNat := by rw [sd_nat, hcn]
      refine ⟨st, v2, n', c', ?_, ?_, by omega, g4, g5, g6, g7, g8, ?_, g10, ?_⟩
      · rw [fX4_play_L24, if_neg (nI_ge (by omega) (by omega)), e1]
        simp only [Option.bind_some]
        rw [if_pos trivial, e2]
        simp only [Option.bind_some]
        rw [okb_t (by rw [e5]; decide), e3, f1]
        simp only [Option.bind_some]
        rw [nI_1]
        exact g1
      · rw [fX5_play_L13, m_over0 hB hp (hT n _ hc) N ho]
        simp only [Option.bind_some]
        rw [if_pos trivial, e7]
        simp only [Option.bind_some]
        unfold fX5_go
        rw [remI (by omega), esd, m_drop hB hp b1 b2 _ (by omega)]
        simp only [Option.bind_some]
        rw [okb_t (inbN (by omega) (by decide)), nI_clamp (by omega), nI_1, nI_1]
        simp only [Option.bind_some]
        rw [posF_cxs] at g2
        exact g2
      · rw [g9]
        congr 1
        omega
      · rcases g11 with q | q
        · exact Or.inl q
        · exact Or.inl (q.1.trans e5)
theorem k_play {N : Nat} (hN : 300000 < N) {w h k : Nat} {j : Bool} (hb : okB w h k = true) {n : Nat} {c : Nat → Nat} {gr : Int32} {gR gT gC : Nat → Int32} (gA : rwA (RW w h k j) gr gR) (gTh : thA (w * h) (RW w h k j) gT gC) {yT : Nat → Int32} (hT : ∀ n p, Cm w h (RW w h k j) n p → yT (kyM w h p) = val1 w h (RW w h k j) p) {cv : Int32} {cc cm ch : Nat → Int32} {xv xn : Int32} {yV : Nat → Int32} (hM : GI w h k j n c cv cc cm ch xv xn yV) {sp : Int32} {sP : Nat → Int32} {tl : Nat → Nat → Int32} {kl : Nat} {kf : Nat → Int64} (hS : SOL w h (RW w h k j) sp sP tl kl kf) (s1 s2 s3 s4 s5 : Int32) (sC sH : Nat → Int32) :
    ∃ u v n' c', fX4_play N sp s1 s2 s3 s4 s5 sP sC sH tl kl kf cv cc cm ch (nI w) (nI h) (nI (w * h)) gr gR gT gC = some u ∧ fX5_play N (nI w) (nI h) xv xn yT yV = some v ∧ u.1 = v.1 ∧ ALC sp u.2.1 (fun kk => ∀ (u9 : Int32), fX0_isOver N cv cm (nI (w * h)) gr gR = some u9 → (u9 = 0) → (az sp ≤ kk ∧ azs sp ≤ kk * 115441)) ∧ SOL w h (RW w h k j) u.2.1 u.2.2.2.2.2.2.2.1 u.2.2.2.2.2.2.2.2.2.2.1 u.2.2.2.2.2.2.2.2.2.2.2.1 u.2.2.2.2.2.2.2.2.2.2.2.2.1 ∧ GI w h k j n' c' u.2.2.2.2.2.2.2.2.2.2.2.2.2.1 u.2.2.2.2.2.2.2.2.2.2.2.2.2.2.1 u.2.2.2.2.2.2.2.2.2.2.2.2.2.2.2.1 u.2.2.2.2.2.2.2.2.2.2.2.2.2.2.2.2 v.2.1 v.2.2.1 v.2.2.2 := by
  have hM' := hM
  obtain ⟨hv, hg, m1, m2, m3⟩ := hM
  have hg' := hg
  obtain ⟨q1, q2, q3, q4⟩ := hg'
  have hB := Bd_of hb
  have hRF := RW_RF hb j
  have hc := posF_Cm hv n (Nat.le_refl n)
  obtain ⟨hp, hn⟩ := Cm_ok hc
  have hwh := hB.2.2.2.2.1
  have hcl := cnt_le hp
  unfold fX4_play fX5_play
  by_cases ho : ovr w h (RW w h k j) (posF w c n)
  · have e1 := c_over1 hB hRF gA hp q3 (N := N) (by omega) ho
    rw [hn, ← q1] at e1
    rw [e1, m3, m_over1 hB hp (hT n _ hc) N ho]
    refine ⟨_, _, n, c, rfl, rfl, rfl, ⟨0, fun u6 e6 z => ?_, by show 0 + az sp ≤ az sp; omega⟩, hS, ?_⟩
    · have := Option.some.inj e6
      rw [z] at this
      exact absurd this (by decide)
    · rw [m3] at hM'
      exact hM'
  · have e1 := c_over0 hB hRF gA hp q3 (N := N) (by omega) ho
    rw [hn, ← q1] at e1
    obtain ⟨st, v, n', c', g1, g2, g3, g4, g5, g6, g7, g8, g9, g10, g11⟩ := k_playL hN hb gA gTh hT (w * h - n) n c sp s1 s2 s3 s4 s5 sP sC sH tl kl kf cv cc cm ch yV 0 N N (by omega) (by omega) (by omega) hv hg m2 hS
    rw [e1, m3, m_over0 hB hp (hT n _ hc) N ho, m1]
    simp only [Option.bind_some]
    rw [if_pos trivial, if_pos trivial, i0, g2]
    rw [q1] at g1 ⊢
    rw [g1]
    refine ⟨_, _, n', c', rfl, rfl, ?_, ⟨az sp, fun _ _ _ => ⟨Nat.le_refl _, azs_le sp⟩, ?_⟩, g10, g4, g5, g6, g8, g7⟩
    · show st.2.2.2.2.2.2.2.2.2.2.2.2.1 - nI n = v.2.2.2
      rw [g5.1, pk_sub g3, g9, Nat.zero_add]
    · show az sp + az st.1 ≤ az sp
      rcases g11 with q | q
      · rw [az_one q]; omega
      · exact absurd q.2 ho
theorem Qk_0 {w h : Nat} {R : List Nat} (n al : Nat) : fb_sm (ind (fun key => ∃ p, Cm w h R n p ∧ kyM w h p = key ∧ Qk w h R 0 p)) al = fb_sm (ind (Pc w h R n)) al := ind_same (fun key => ⟨fun ⟨p, a, b, _⟩ => ⟨p, a, b⟩, fun ⟨p, a, b⟩ => ⟨p, a, b, trivial⟩⟩) al
theorem Qk_1 {w h : Nat} {R : List Nat} (n al : Nat) : fb_sm (ind (fun key => ∃ p, Cm w h R n p ∧ kyM w h p = key ∧ Qk w h R 1 p)) al = fb_sm (ind (Pw w h R n)) al := ind_same (fun key => ⟨fun ⟨p, a, b, d⟩ => ⟨p, a, b, d⟩, fun ⟨p, a, b, d⟩ => ⟨p, a, b, d⟩⟩) al
theorem Qk_2 {w h : Nat} {R : List Nat} (n al : Nat) : fb_sm (ind (fun key => ∃ p, Cm w h R n p ∧ kyM w h p = key ∧ Qk w h R 2 p)) al = fb_sm (ind (Ps w h R (fun v => v < 0) n)) al := ind_same (fun key => ⟨fun ⟨p, a, b, d⟩ => ⟨p, a, b, d.1, by have := d.2; rw [(Cm_ok a).2] at this; exact this⟩, fun ⟨p, a, b, d, e⟩ => ⟨p, a, b, d, by show wv w h R (w * h - cnt w p) p < 0; rw [(Cm_ok a).2]; exact e⟩⟩) al
theorem Qk_3 {w h : Nat} {R : List Nat} (n al : Nat) : fb_sm (ind (fun key => ∃ p, Cm w h R n p ∧ kyM w h p = key ∧ Qk w h R 3 p)) al = fb_sm (ind (Ps w h R (fun v => v = 0) n)) al := ind_same (fun key => ⟨fun ⟨p, a, b, d⟩ => ⟨p, a, b, d.1, by have := d.2; rw [(Cm_ok a).2] at this; exact this⟩, fun ⟨p, a, b, d, e⟩ => ⟨p, a, b, d, by show wv w h R (w * h - cnt w p) p = 0; rw [(Cm_ok a).2]; exact e⟩⟩) al
theorem Qk_4 {w h : Nat} {R : List Nat} (n al : Nat) : fb_sm (ind (fun key => ∃ p, Cm w h R n p ∧ kyM w h p = key ∧ Qk w h R 4 p)) al = fb_sm (ind (Ps w h R (fun v => 0 < v) n)) al := ind_same (fun key => ⟨fun ⟨p, a, b, d⟩ => ⟨p, a, b, d.1, by have := d.2; rw [(Cm_ok a).2] at this; exact this⟩, fun ⟨p, a, b, d, e⟩ => ⟨p, a, b, d, by show 0 < wv w h R (w * h - cnt w p) p; rw [(Cm_ok a).2]; exact e⟩⟩) al
theorem k_positions {N : Nat} (hN : 300000 < N) {w h k : Nat} {j : Bool} (hb : okB w h k = true) {gT gC : Nat → Int32} (gTh : thA (w * h) (RW w h k j) gT gC) {yC : Nat → Int32} (hT : ∀ n, n ≤ 16 → yC n = nI (fb_sm (ind (Pc w h (RW w h k j) n)) ((2 ^ (h + 1)) ^ w))) {sp : Int32} {sP : Nat → Int32} {tl : Nat → Nat → Int32} {kl : Nat} {kf : Nat → Int64} (hS : SOL w h (RW w h k j) sp sP tl kl kf) (s1 s2 s3 s4 s5 : Int32) (sC sH : Nat → Int32) (a : Int32) :
    ∃ u v, fX4_positions N sp s1 s2 s3 s4 s5 sP sC sH tl kl kf (nI w) (nI h) (nI (w * h)) gT gC a = some u ∧ fX5_positions N (nI w) (nI h) yC a = some v ∧ u.1 = v ∧ ALC sp u.2.1 (fun kk => ∀ (u5 : Int32), fX4_isWithin N a (0 : Int32) (nI (w * h)) = some u5 → (¬ (u5 = 0)) → (az sp ≤ kk ∧ azs sp ≤ kk * 115441)) ∧ SOL w h (RW w h k j) u.2.1 u.2.2.2.2.2.2.2.1 u.2.2.2.2.2.2.2.2.2.2.1 u.2.2.2.2.2.2.2.2.2.2.2.1 u.2.2.2.2.2.2.2.2.2.2.2.2 := by
  have hB := Bd_of hb
  have hwh := hB.2.2.2.2.1
  unfold fX4_positions fX5_positions
  rw [l0, in_eq, pk_mul]
  rcases winr N a (lo := 0) (hi := w * h) (by omega) (by decide) with ⟨i, _, hi, rfl, e1⟩ | ⟨e1, _⟩
  · have e1' : fX4_isWithin N (nI i) (0 : Int32) (nI (w * h)) = some 1 := e1
    obtain ⟨v, e2, e3, e4, e5⟩ := c_tally (sC := sC) (sH := sH) hB (RW_RF hb j) gTh (RW_fl hb j) (N := N) (by omega) hS (kd := 0) (n := i) (by decide) (by omega)
    have e2' : fX3_tally N sp sP sC sH tl kl kf (nI w) (nI h) (nI (w * h)) gT gC (0 : Int32) (nI i) = some v := e2
    rw [Qk_0] at e3
    rw [e1']
    simp only [Option.bind_some]
    rw [if_neg (by decide), if_neg (by decide), e2', okb_t (inbN (by omega) (by decide)), nI_clamp (by omega), hT i (by omega)]
    refine ⟨_, _, rfl, rfl, e3, ⟨az sp, fun _ _ _ => ⟨Nat.le_refl _, azs_le sp⟩, ?_⟩, e5⟩
    show az sp + az v.2.1 ≤ az sp
    rw [az_one e4]
    omega
  · have e1' : fX4_isWithin N a (0 : Int32) (nI (w * h)) = some 0 := e1
    rw [e1']
    refine ⟨_, _, rfl, rfl, rfl, ⟨0, fun u6 e6 z => ?_, by show 0 + az sp ≤ az sp; omega⟩, hS⟩
    exact absurd (Option.some.inj e6).symm z
theorem k_wins {N : Nat} (hN : 300000 < N) {w h k : Nat} {j : Bool} (hb : okB w h k = true) {gT gC : Nat → Int32} (gTh : thA (w * h) (RW w h k j) gT gC) {yW : Nat → Int32} (hT : ∀ n, n ≤ 16 → yW n = nI (fb_sm (ind (Pw w h (RW w h k j) n)) ((2 ^ (h + 1)) ^ w))) {sp : Int32} {sP : Nat → Int32} {tl : Nat → Nat → Int32} {kl : Nat} {kf : Nat → Int64} (hS : SOL w h (RW w h k j) sp sP tl kl kf) (s1 s2 s3 s4 s5 : Int32) (sC sH : Nat → Int32) (a : Int32) :
    ∃ u v, fX4_wins N sp s1 s2 s3 s4 s5 sP sC sH tl kl kf (nI w) (nI h) (nI (w * h)) gT gC a = some u ∧ fX5_wins N (nI w) (nI h) yW a = some v ∧ u.1 = v ∧ ALC sp u.2.1 (fun kk => ∀ (u5 : Int32), fX4_isWithin N a (0 : Int32) (nI (w * h)) = some u5 → (¬ (u5 = 0)) → (az sp ≤ kk ∧ azs sp ≤ kk * 115441)) ∧ SOL w h (RW w h k j) u.2.1 u.2.2.2.2.2.2.2.1 u.2.2.2.2.2.2.2.2.2.2.1 u.2.2.2.2.2.2.2.2.2.2.2.1 u.2.2.2.2.2.2.2.2.2.2.2.2 := by
  have hB := Bd_of hb
  have hwh := hB.2.2.2.2.1
  unfold fX4_wins fX5_wins
  rw [l0, in_eq, pk_mul]
  rcases winr N a (lo := 0) (hi := w * h) (by omega) (by decide) with ⟨i, _, hi, rfl, e1⟩ | ⟨e1, _⟩
  · have e1' : fX4_isWithin N (nI i) (0 : Int32) (nI (w * h)) = some 1 := e1
    obtain ⟨v, e2, e3, e4, e5⟩ := c_tally (sC := sC) (sH := sH) hB (RW_RF hb j) gTh (RW_fl hb j) (N := N) (by omega) hS (kd := 1) (n := i) (by decide) (by omega)
    have e2' : fX3_tally N sp sP sC sH tl kl kf (nI w) (nI h) (nI (w * h)) gT gC (1 : Int32) (nI i) = some v := e2
    rw [Qk_1] at e3
    rw [e1']
    simp only [Option.bind_some]
    rw [if_neg (by decide), if_neg (by decide), e2', okb_t (inbN (by omega) (by decide)), nI_clamp (by omega), hT i (by omega)]
    refine ⟨_, _, rfl, rfl, e3, ⟨az sp, fun _ _ _ => ⟨Nat.le_refl _, azs_le sp⟩, ?_⟩, e5⟩
    show az sp + az v.2.1 ≤ az sp
    rw [az_one e4]
    omega
  · have e1' : fX4_isWithin N a (0 : Int32) (nI (w * h)) = some 0 := e1
    rw [e1']
    refine ⟨_, _, rfl, rfl, rfl, ⟨0, fun u6 e6 z => ?_, by show 0 + az sp ≤ az sp; omega⟩, hS⟩
    exact absurd (Option.some.inj e6).symm z
theorem sgn_case (N : Nat) (a : Int32) : ((a = -1 ∨ a = 0 ∨ a = 1) ∧ fX4_isWithin N a (-1) 1 = some 1) ∨ fX4_isWithin N a (-1) 1 = some 0 := by
  unfold fX4_isWithin
  by_cases q1 : a < -1
  · rw [if_pos q1]; exact Or.inr rfl
  · rw [if_neg q1]
    by_cases q2 : 1 < a
    · rw [if_pos q2]; exact Or.inr rfl
    · rw [if_neg q2]
      left
      refine ⟨?_, rfl⟩
      have h1 := (fa_le _ _).mp (fa_of_nlt q1)
      have h2 := (fa_le _ _).mp (fa_of_nlt q2)
      rw [show (-1 : Int32).toInt = -1 by decide] at h1
      rw [show (1 : Int32).toInt = 1 by decide] at h2
      rcases (show a.toInt = -1 ∨ a.toInt = 0 ∨ a.toInt = 1 by omega) with e | e | e
      · exact Or.inl ((fa_eq _ _).mpr (by rw [e]; decide))
      · exact Or.inr (Or.inl ((fa_eq _ _).mpr (by rw [e]; decide)))
      · exact Or.inr (Or.inr ((fa_eq _ _).mpr (by rw [e]; decide)))
theorem k_share {N : Nat} (hN : 300000 < N) {w h k : Nat} {j : Bool} (hb : okB w h k = true) {gT gC : Nat → Int32} (gTh : thA (w * h) (RW w h k j) gT gC) {yT yC yW yA yE yU : Nat → Int32} (hT : TBL w h (RW w h k j) yT yC yW yA yE yU) {sp : Int32} {sP : Nat → Int32} {tl : Nat → Nat → Int32} {kl : Nat} {kf : Nat → Int64} (hS : SOL w h (RW w h k j) sp sP tl kl kf) (s1 s2 s3 s4 s5 : Int32) (sC sH : Nat → Int32) (a b : Int32) :
    ∃ u v, fX4_share N sp s1 s2 s3 s4 s5 sP sC sH tl kl kf (nI w) (nI h) (nI (w * h)) gT gC a b = some u ∧ fX5_share N (nI w) (nI h) yA yE yU a b = some v ∧ u.1 = v ∧ ALC sp u.2.1 (fun kk => ∀ (u7 : Int32), fX4_isWithin N a (0 : Int32) (nI (w * h)) = some u7 → (¬ (u7 = 0)) → ∀ (u9 : Int32), fX4_isWithin N b (-1 : Int32) (1 : Int32) = some u9 → (¬ (u9 = 0)) → (az sp ≤ kk ∧ azs sp ≤ kk * 115441)) ∧ SOL w h (RW w h k j) u.2.1 u.2.2.2.2.2.2.2.1 u.2.2.2.2.2.2.2.2.2.2.1 u.2.2.2.2.2.2.2.2.2.2.2.1 u.2.2.2.2.2.2.2.2.2.2.2.2 := by
  have hB := Bd_of hb
  have hwh := hB.2.2.2.2.1
  unfold fX4_share fX5_share
  rw [l0, in_eq, show (-1 : Int64) = (-1 : Int32).toInt64 by decide, show (1 : Int64) = (1 : Int32).toInt64 by decide, in_eq, pk_mul]
  rcases winr N a (lo := 0) (hi := w * h) (by omega) (by decide) with ⟨i, _, hi, rfl, e1⟩ | ⟨e1, _⟩
  · have e1' : fX4_isWithin N (nI i) (0 : Int32) (nI (w * h)) = some 1 := e1
    rcases sgn_case N b with ⟨hs, e0⟩ | e0
    · have hi17 : inb (nI i) 17 = true := inbN (by omega) (by decide)
      have hci : (nI i).toNatClampNeg = i := nI_clamp (by omega)
      have pick : ∃ (kd : Nat) (y : Nat → Int32), kd < 5 ∧ (3 : Int32) + b = nI kd ∧ (∀ n, n ≤ 16 → y n = nI (fb_sm (ind (fun key => ∃ p, Cm w h (RW w h k j) n p ∧ kyM w h p = key ∧ Qk w h (RW w h k j) kd p)) ((2 ^ (h + 1)) ^ w))) ∧ (if b ≤ 0 then (if b = 0 then (some (yE i)) else (some (yU i))) else (some (yA i))) = some (y i) := by
        rcases hs with q | q | q
        · exact ⟨2, yU, by decide, by rw [q]; decide, fun n hn => by rw [Qk_2]; exact hT.2.2.2.2.2 n hn, by rw [if_pos (by rw [q]; decide), if_neg (by rw [q]; decide)]⟩
        · exact ⟨3, yE, by decide, by rw [q]; decide, fun n hn => by rw [Qk_3]; exact hT.2.2.2.2.1 n hn, by rw [if_pos (by rw [q]; decide), if_pos q]⟩
        · exact ⟨4, yA, by decide, by rw [q]; decide, fun n hn => by rw [Qk_4]; exact hT.2.2.2.1 n hn, by rw [if_neg (by rw [q]; decide)]⟩
      obtain ⟨kd, y, hkd, hk3, hy, hif⟩ := pick
      obtain ⟨v, e2, e3, e4, e5⟩ := c_tally (sC := sC) (sH := sH) hB (RW_RF hb j) gTh (RW_fl hb j) (N := N) (by omega) hS (kd := kd) (n := i) hkd (by omega)
      rw [e1', e0]
      simp only [Option.bind_some, okb_t hi17]
      rw [if_neg (by decide), if_neg (by decide), if_neg (by decide), if_neg (by decide), hk3, e2, hci, hif, hy i (by omega)]
      refine ⟨_, _, rfl, rfl, e3, ⟨az sp, fun _ _ _ _ _ _ => ⟨Nat.le_refl _, azs_le sp⟩, ?_⟩, e5⟩
      show az sp + az v.2.1 ≤ az sp
      rw [az_one e4]
      omega
    · rw [e1', e0]
      simp only [Option.bind_some]
      rw [if_neg (by decide), if_pos trivial, if_neg (by decide)]
      refine ⟨_, _, rfl, rfl, rfl, ⟨0, fun _ _ _ u6 e6 z => ?_, by show 0 + az sp ≤ az sp; omega⟩, hS⟩
      exact absurd (Option.some.inj e6).symm z
  · have e1' : fX4_isWithin N a (0 : Int32) (nI (w * h)) = some 0 := e1
    rw [e1']
    refine ⟨_, _, rfl, rfl, rfl, ⟨0, fun u6 e6 z => ?_, by show 0 + az sp ≤ az sp; omega⟩, hS⟩
    exact absurd (Option.some.inj e6).symm z
