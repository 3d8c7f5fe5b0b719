/-! games taken from sheets and written on them -/
theorem cut_small {N g v : Nat} (hg : g ≤ 2) (hv : v < 128) : fX5_cut N (nI g) (nI v) = some (nI v) := by
  unfold fX5_cut
  have e1 : (nI v).toInt8.toInt32 = nI v := fa_byte_small hv
  have e2 : (nI v).toInt16.toInt32 = nI v := fb_short (by rw [nI_toInt (by omega)]; omega) (by rw [nI_toInt (by omega)]; omega)
  rw [e1, e2]
  rcases (show g = 0 ∨ g = 1 ∨ g = 2 by omega) with e | e | e <;> subst e <;> rfl
theorem c_part0 (N : Nat) {z n : Nat} (hz : z ≤ 20) (hn : n ≤ 16) : fX2_hasPart N (nI z) (0 : Int32) (nI n) = some (if n ≤ z then 1 else 0) := by
  have e := nI_toInt (n := n) (by omega)
  rcases c_part N hz (0 : Int32) (nI n) with ⟨⟨_, _, p⟩, f⟩ | ⟨p, f⟩
  · rw [int0, e] at p
    rw [f, if_pos (by omega)]
  · rw [f, if_neg (fun q => p ⟨by rw [e]; omega, by rw [int0]; omega, by rw [int0, e]; omega⟩)]
theorem k_writeL {N : Nat} {ql qf qz : Nat → Int32} {yF yZ : Nat → Int32} {s : Nat} (hs : s < 4) {n : Nat} (hn : n ≤ 16) {c : Nat → Nat} (hc : ∀ i, i < n → c i < 7) {cc yV : Nat → Int32} (h1 : ∀ i, i < n → cc i = nI (c i)) (h2 : ∀ i, i < n → yV i = nI (c i)) {g : Nat} (hg : g ≤ 2) (hf : qf s = nI g) : ∀ d i ct ct' qi yI, i + d = n → d < ct → d < ct' → SHT ql qf qz qi yF yZ yI → ∃ qi' yI', fX4_write_L54 N qf (nI n) cc (nI s) ct qi (nI i) = some qi' ∧ fX5_write_L47 N (nI n) yV (nI s) ct' yI (nI i) = some yI' ∧ SHT ql qf qz qi' yF yZ yI' := by
  intro d
  induction d with
  | zero =>
    intro i ct ct' qi yI hi hct hct' hQ
    obtain ⟨x, rfl⟩ : ∃ x, ct = x + 1 := ⟨ct - 1, by omega⟩
    obtain ⟨y, rfl⟩ : ∃ x, ct' = x + 1 := ⟨ct' - 1, by omega⟩
    refine ⟨qi, yI, ?_, ?_, hQ⟩
    · rw [fX4_write_L54, if_pos (nI_le (by omega) (by omega))]
    · rw [fX5_write_L47, if_pos (nI_le (by omega) (by omega))]
  | succ d ih =>
    intro i ct ct' qi yI hi hct hct' hQ
    obtain ⟨x, rfl⟩ : ∃ x, ct = x + 1 := ⟨ct - 1, by omega⟩
    obtain ⟨y, rfl⟩ : ∃ x, ct' = x + 1 := ⟨ct' - 1, by omega⟩
    obtain ⟨v, v1, v2⟩ := stor (N := N) hg (qi s) (show i < 20 by omega) (nI (c i))
    have hci := hc i (by omega)
    rw [cut_small hg (by omega)] at v2
    have ev := Option.some.inj v2
    subst ev
    obtain ⟨qi', yI', e1, e2, e3⟩ := ih (i + 1) x y _ _ (by omega) (by omega) (by omega) (SHT_item hQ hs (show i < 20 by omega) (nI (c i)))
    refine ⟨qi', yI', ?_, ?_, e3⟩
    · rw [fX4_write_L54, if_neg (nI_ge (by omega) (by omega)), okb_t (inbN (by omega) (by decide)), cl4 hs, nI_clamp (by omega), hf, h1 i (by omega), v1]
      simp only [Option.bind_some]
      rw [nI_1]
      exact e1
    · rw [fX5_write_L47, if_neg (nI_ge (by omega) (by omega)), okb_t (inbN (by omega) (by decide)), ix20, okb_t (inbN (by omega) (by decide)), nI_clamp (by omega), nI_clamp (by omega), h2 i (by omega), nI_1]
      exact e2
theorem k_write {N : Nat} (hN : 300000 < N) {w h k : Nat} {j : Bool} (hb : okB w h k = true) {n : Nat} {c : Nat → Nat} {cv : Int32} {cc cm ch : Nat → Int32} {xv xn : Int32} {yV : Nat → Int32} (hM : GI w h k j n c cv cc cm ch xv xn yV) {ql qf qz : Nat → Int32} {qi : Nat → Nat → Int32} {yF yZ yI : Nat → Int32} (hQ : SHT ql qf qz qi yF yZ yI) (dn a : Int32) : ∃ u v, fX4_write N dn ql qf qz qi cv cc a = some u ∧ fX5_write N xv dn yV yF yZ yI a = some v ∧ u.1 = v.1 ∧ u.2.1 = v.2.1 ∧ SHT ql qf qz u.2.2 yF yZ v.2.2 := by
  obtain ⟨hv, ⟨q1, q2, q3, q4⟩, m1, m2, m3⟩ := hM
  have hB := Bd_of hb
  have hn16 := n_le16 hB (posF_Cm hv n (Nat.le_refl n))
  have hw := hB.2.1
  unfold fX4_write fX5_write
  rw [q1, m1]
  rcases sh_case N a with ⟨s, hs, rfl, e1, e2⟩ | ⟨e1, e2⟩
  · rw [e1, e2]
    simp only [Option.bind_some, okb_t (in4 hs)]
    rw [if_neg n10, if_neg n10, cl4 hs]
    rcases hQ s hs with ⟨p1, p2⟩ | ⟨z0, fm, sz, a1, a2, a3, a4, a5, a6, a7⟩
    · rw [if_neg p1, if_neg (neg_no p2)]
      exact ⟨_, _, rfl, rfl, rfl, rfl, hQ⟩
    · rw [if_pos z0, a4, if_pos (F_pos a1), a5, a6, c_part0 N a2 hn16]
      simp only [Option.bind_some]
      by_cases hz : n ≤ sz
      · obtain ⟨qi', yI', x1, x2, x3⟩ := k_writeL (N := N) hs hn16 (fun i hi => by have := (hv i hi).1; omega) q2 m2 a1 a3 n 0 N N qi yI (by omega) (by omega) (by omega) hQ
        rw [if_pos hz, if_neg n10, if_pos (nI_le hz (by omega)), i0, x1, x2]
        exact ⟨_, _, rfl, rfl, rfl, rfl, x3⟩
      · rw [if_neg hz, if_pos rfl, if_neg (nI_ge (by omega) (by omega))]
        exact ⟨_, _, rfl, rfl, rfl, rfl, hQ⟩
  · rw [e1, e2]
    exact ⟨_, _, rfl, rfl, rfl, rfl, hQ⟩
theorem k_takeL {N : Nat} (hN : 300000 < N) {w h k : Nat} (hB : Bd w h k) {R : List Nat} (hR : RF w h R) {gr : Int32} {gR : Nat → Int32} (gA : rwA R gr gR) {yT : Nat → Int32} (hT : ∀ n p, Cm w h R n p → yT (kyM w h p) = val1 w h R p) {s : Nat} (hs : s < 4) {n : Nat} (hn : n ≤ 16) {qi : Nat → Nat → Int32} {yI : Nat → Int32} (hit : ∀ i, i < n → qi s i = yI (20 * s + i)) (dn cv : Int32) (cc cm ch : Nat → Int32) (xc xv xn : Int32) (yM yV : Nat → Int32) :
    ∀ (d i : Nat) (c : Nat → Nat) (dv : Int32) (dc dm dh : Nat → Int32) (ct ct' : Nat), i + d = n → d < ct → d < ct' → vld w h R c i → gmA w i c dv dc dm dh → (∀ t, t < i → yI (20 * s + t) = nI (c t)) →
    (∃ r st, fX4_take_L66 N dn qi cv cc cm ch (nI w) (nI h) (nI (w * h)) gr gR (nI n) (nI s) ct dv dc dm dh (nI i) = some (.inl (r, dn, cv, cc, cm, ch, st)) ∧ fX5_take_L62 N (nI w) (nI h) xc xv xn dn yT yM yV yI (nI s) (nI n) ct' (nI (kyM w h (posF w c i))) (nI i) = some (.inl (r, xc, xv, xn, dn, yM, yV))) ∨
    (∃ st c', fX4_take_L66 N dn qi cv cc cm ch (nI w) (nI h) (nI (w * h)) gr gR (nI n) (nI s) ct dv dc dm dh (nI i) = some (.inr st) ∧ fX5_take_L62 N (nI w) (nI h) xc xv xn dn yT yM yV yI (nI s) (nI n) ct' (nI (kyM w h (posF w c i))) (nI i) = some (.inr ()) ∧ vld w h R c' n ∧ gmA w n c' st.1 st.2.1 st.2.2.1 st.2.2.2 ∧ ∀ t, t < n → yI (20 * s + t) = nI (c' t)) := by
  have hw := hB.2.1
  intro d
  induction d with
  | zero =>
    intro i c dv dc dm dh ct ct' hi hct hct' hv hg hI
    obtain ⟨x, rfl⟩ : ∃ x, ct = x + 1 := ⟨ct - 1, by omega⟩
    obtain ⟨y, rfl⟩ : ∃ x, ct' = x + 1 := ⟨ct' - 1, by omega⟩
    have e : i = n := by omega
    subst e
    right
    refine ⟨(dv, dc, dm, dh), c, ?_, ?_, hv, hg, hI⟩
    · rw [fX4_take_L66, if_pos (nI_le (Nat.le_refl _) (by omega))]
    · rw [fX5_take_L62, if_pos (nI_le (Nat.le_refl _) (by omega))]
  | succ d ih =>
    intro i c dv dc dm dh ct ct' hi hct hct' hv hg hI
    obtain ⟨x, rfl⟩ : ∃ x, ct = x + 1 := ⟨ct - 1, by omega⟩
    obtain ⟨y, rfl⟩ : ∃ x, ct' = x + 1 := ⟨ct' - 1, by omega⟩
    have hc := posF_Cm hv i (Nat.le_refl i)
    obtain ⟨hp, hcn⟩ := Cm_ok hc
    have hk := ky_31 hB hp
    have hg' := hg
    obtain ⟨g1, g2, g3, g4⟩ := hg'
    have hin : inb (nI (kyM w h (posF w c i))) 2097152 = true := inbN hk (by decide)
    have h80 : inb (nI (20 * s + i)) 80 = true := inbN (by omega) (by decide)
    have h20 : inb (nI i) 20 = true := inbN (by omega) (by decide)
    have hcl : (nI (20 * s + i)).toNatClampNeg = 20 * s + i := nI_clamp (by omega)
    have hci : (nI i).toNatClampNeg = i := nI_clamp (by omega)
    have hck : (nI (kyM w h (posF w c i))).toNatClampNeg = kyM w h (posF w c i) := nI_clamp (by omega)
    rw [fX4_take_L66, fX5_take_L62, if_neg (nI_ge (show i < n by omega) (by omega)), if_neg (nI_ge (show i < n by omega) (by omega))]
    simp only [ix20, okb_t h80, okb_t h20, okb_t hin, hcl, hci, hck, cl4 hs]
    rw [hT i _ hc, hit i (by omega)]
    by_cases ho : ovr w h R (posF w c i)
    · have e1 := c_over1 hB hR gA hp g3 (N := N) (by omega) ho
      rw [hcn, ← g1] at e1
      left
      refine ⟨(-100 : Int32) - nI i, (dv, dc, dm, dh), ?_, ?_⟩
      · rw [e1]
        rfl
      · unfold val1
        by_cases q : wonB w R (posF w c i) = true
        · rw [if_pos q, if_pos rfl, if_pos trivial]
        · have e : cnt w (posF w c i) = w * h := by
            rcases ho with u | u
            · exact absurd u q
            · exact u
          rw [if_neg q, if_pos e, if_neg (show ¬ (126 : Int32) = 127 by decide), if_pos rfl, if_pos trivial]
    · have e1 := c_over0 hB hR gA hp g3 (N := N) (by omega) ho
      rw [hcn, ← g1] at e1
      obtain ⟨n1, n2⟩ := val1_n hB hp ho
      rw [e1, if_neg n1, if_neg n2]
      simp only [Option.bind_some]
      rw [if_pos trivial, l0, in_eq]
      rcases wcase (yI (20 * s + i)) (n := w) (by omega) with ⟨z, hz, ez⟩ | hz
      · rw [ez, win_t hz (by omega)]
        simp only [Option.bind_some]
        rw [if_neg n10, m_hgt hB hp hz (by omega)]
        simp only [Option.bind_some]
        have hlz := hp.1 z hz
        have hh6 := hB.2.2.2.1
        by_cases hl : (posF w c i z).length < h
        · obtain ⟨u, u1, u2, u3⟩ := c_make hB hv hg hz hl N
          have hsq := sq_lt hB hz hl
          have esd : nI i - nI i / (2 : Int32) * (2 : Int32) = nI (sd w (posF w c i)).toNat := by rw [remI (by omega), sd_nat, hcn]
          rw [u1, if_neg (nI_ge hl (by omega)), esd, m_drop hB hp hz hl _ (by omega)]
          simp only [Option.bind_some]
          rw [u2, if_neg (show ¬ nI (w * (posF w c i z).length + z) = -1 from fun q => by
            have h1 := nI_toInt (n := w * (posF w c i z).length + z) (by omega)
            rw [q] at h1
            rw [show (-1 : Int32).toInt = -1 by decide] at h1
            omega), if_neg (show ¬ (1 : Int32) = 0 by decide), nI_1]
          have hI' : ∀ t, t < i + 1 → yI (20 * s + t) = nI (cx c i z t) := fun t ht => by
            by_cases e : t = i
            · rw [e, cx_at, ez]
            · rw [cx_lt c (by omega)]
              exact hI t (by omega)
          have := ih (i + 1) (cx c i z) u.2.1 u.2.2.1 u.2.2.2.1 u.2.2.2.2 x y (by omega) (by omega) (by omega) (vld_cx hv ho hz hl) u3 hI'
          rw [posF_cxs] at this
          exact this
        · left
          rw [c_make1 hB hp g4 hz hl, if_pos (nI_le (show h ≤ (posF w c i z).length by omega) (by omega))]
          exact ⟨(-100 : Int32) - nI i, (dv, dc, dm, dh), rfl, rfl⟩
      · left
        rw [win_f (by omega) hz, c_make0 (by omega) hz]
        exact ⟨(-100 : Int32) - nI i, (dv, dc, dm, dh), rfl, rfl⟩
theorem k_take {N : Nat} (hN : 300000 < N) {w h k : Nat} {j : Bool} (hb : okB w h k = true) {n : Nat} {c : Nat → Nat} {gr : Int32} {gR : Nat → Int32} (gA : rwA (RW w h k j) gr gR) {yT : Nat → Int32} (hT : ∀ n p, Cm w h (RW w h k j) n p → yT (kyM w h p) = val1 w h (RW w h k j) p) {cv : Int32} {cc cm ch : Nat → Int32} {xv xn : Int32} {yV : Nat → Int32} (hM : GI w h k j n c cv cc cm ch xv xn yV) {ql qf qz : Nat → Int32} {qi : Nat → Nat → Int32} {yF yZ yI : Nat → Int32} (hQ : SHT ql qf qz qi yF yZ yI) (dv : Int32) (dc dm dh : Nat → Int32) (xr xc : Int32) (yR yM : Nat → Int32) (dn a b : Int32) :
    ∃ u v n' c', fX4_take N dn ql qz qi cv cc cm ch dv dc dm dh (nI w) (nI h) (nI (w * h)) gr gR a b = some u ∧ fX5_take N (nI w) (nI h) xr xc xv xn dn yR yT yM yV yF yZ yI a b = some v ∧ u.1 = v.1 ∧ u.2.1 = v.2.2.2.2.1 ∧ GI w h k j n' c' u.2.2.1 u.2.2.2.1 u.2.2.2.2.1 u.2.2.2.2.2.1 v.2.2.1 v.2.2.2.1 v.2.2.2.2.2.2 := by
  have hB := Bd_of hb
  have hRF := RW_RF hb j
  unfold fX4_take fX5_take
  rcases sh_case N a with ⟨s, hs, rfl, e1, e2⟩ | ⟨e1, e2⟩
  · rw [e1, e2]
    simp only [Option.bind_some]
    rw [if_neg n10, if_neg n10, l0, show (16 : Int64) = (16 : Int32).toInt64 by decide, in_eq]
    rcases winr N b (lo := 0) (hi := 16) (by decide) (by decide) with ⟨m, _, hm, rfl, e3⟩ | ⟨e3, _⟩
    · have e3' : fX4_isWithin N (nI m) (0 : Int32) (16 : Int32) = some 1 := e3
      rw [e3']
      simp only [Option.bind_some, okb_t (in4 hs)]
      rw [if_neg n10, if_neg n10, cl4 hs]
      rcases hQ s hs with ⟨p1, p2⟩ | ⟨z0, fm, sz, a1, a2, a3, a4, a5, a6, a7⟩
      · rw [if_neg p1, if_neg (neg_no p2)]
        exact ⟨_, _, n, c, rfl, rfl, rfl, rfl, hM⟩
      · rw [if_pos z0, a4, if_pos (F_pos a1), a5, a6, c_part0 N a2 hm]
        simp only [Option.bind_some]
        by_cases hz : m ≤ sz
        · obtain ⟨z, y1, y2⟩ := c_clear (N := N) (by omega) w dc dm dh (fun _ => 0)
          have key := k_takeL hN hB hRF gA hT hs hm (fun i hi => a7 i (by omega)) dn cv cc cm ch xc xv xn yM yV m 0 (fun _ => 0) z.1 dc z.2.1 z.2.2 N N (by omega) (by omega) (by omega) (fun i hi => absurd hi (Nat.not_lt_zero i)) y2 (fun t ht => absurd ht (Nat.not_lt_zero t))
          rw [if_pos hz, if_neg n10, if_pos (nI_le hz (by omega)), y1, m_none hB (by omega)]
          simp only [Option.bind_some]
          rcases key with ⟨r, st, k1, k2⟩ | ⟨st, c', k1, k2, k3, k4, k5⟩
          · rw [i0, k1]
            have k2' : fX5_take_L62 N (nI w) (nI h) xc xv xn dn yT yM yV yI (nI s) (nI m) N (nI (kyM w h emp)) (nI 0) = some (.inl (r, xc, xv, xn, dn, yM, yV)) := k2
            rw [k2']
            exact ⟨_, _, n, c, rfl, rfl, rfl, rfl, hM⟩
          · have k2' : fX5_take_L62 N (nI w) (nI h) xc xv xn dn yT yM yV yI (nI s) (nI m) N (nI (kyM w h emp)) (nI 0) = some (.inr ()) := k2
            obtain ⟨V, V1, V2⟩ := lpN (fun ct f i => fX5_take_L174 N yI (nI s) (nI m) ct f i) m (fun i f => ∀ t, t < i → f t = nI (c' t)) (fun f => ∀ t, t < m → f t = nI (c' t)) (by
                rintro ct i f hi hI
                left
                refine ⟨upd f i (nI (c' i)), fun t ht => ?_, ?_⟩
                · by_cases e : t = i
                  · rw [e, pk_us]
                  · rw [pk_un e]; exact hI t (by omega)
                · show fX5_take_L174 N yI (nI s) (nI m) (ct + 1) f (nI i) = fX5_take_L174 N yI (nI s) (nI m) ct (upd f i (nI (c' i))) (nI (i + 1))
                  rw [fX5_take_L174, if_neg (nI_ge hi (by omega)), ix20, okb_t (inbN (by omega) (by decide)), okb_t (inbN (by omega) (by decide)), nI_clamp (by omega), nI_clamp (by omega), k5 i hi, nI_1]) (by
                rintro ct f hI
                refine ⟨f, ?_, hI⟩
                show fX5_take_L174 N yI (nI s) (nI m) (ct + 1) f (nI m) = _
                rw [fX5_take_L174, if_pos (nI_le (Nat.le_refl _) (by omega))]) m 0 N yV (by omega) (by omega) (fun t ht => absurd ht (Nat.not_lt_zero t))
            have hcm := posF_Cm k3 m (Nat.le_refl m)
            obtain ⟨hp', hn'⟩ := Cm_ok hcm
            have hk' := ky_31 hB hp'
            have hin' : inb (nI (kyM w h (posF w c' m))) 2097152 = true := inbN hk' (by decide)
            obtain ⟨s1, s2, s3, s4⟩ := k4
            have hst := c_state hB hRF gA hp' s3 (N := N) (by omega)
            rw [hn'] at hst
            have hgm : ∃ x, fX5_game N (nI w) (nI h) xr xc (nI m) (nI (kyM w h (posF w c' m))) yR yT yM (2 : Int32) = some x ∧ x.1 = (if wonB w (RW w h k j) (posF w c' m) = true then (1 : Int32) else if m < w * h then 0 else 2) := by
              unfold fX5_game
              rw [if_neg (by decide), if_neg (by decide), if_pos rfl, okb_t hin', okb_t hin', nI_clamp (by omega), hT m _ hcm, m_st hB hp', hn']
              by_cases t1 : wonB w (RW w h k j) (posF w c' m) = true
              · rw [if_pos t1, if_pos t1]
                exact ⟨_, rfl, rfl⟩
              · rw [if_neg t1, if_neg t1]
                by_cases t2 : m < w * h
                · rw [if_pos t2, if_pos t2]
                  exact ⟨_, rfl, rfl⟩
                · rw [if_neg t2, if_neg t2]
                  exact ⟨_, rfl, rfl⟩
            obtain ⟨x, x1, x2⟩ := hgm
            rw [i0, k1, k2']
            refine ⟨(if wonB w (RW w h k j) (posF w c' m) = true then (1 : Int32) else if m < w * h then 0 else 2, dn, st.1, st.2.1, st.2.2.1, st.2.2.2, cv, cc, cm, ch), (x.1, x.2.1, nI m, nI (kyM w h (posF w c' m)), dn, x.2.2, V), m, c', ?_, ?_, x2.symm, rfl, k3, ⟨s1, s2, s3, s4⟩, rfl, V2, rfl⟩
            · show Option.bind (fX0_state N st.1 st.2.2.1 (nI (w * h)) gr gR) _ = _
              rw [s1, hst]
              rfl
            · show Option.bind (fX5_take_L174 N yI (nI s) (nI m) N yV (nI 0)) _ = _
              rw [V1]
              simp only [Option.bind_some]
              rw [m_place hB k3 V2 (by omega)]
              simp only [Option.bind_some]
              rw [x1]
              rfl
        · rw [if_neg hz, if_pos rfl, if_neg (nI_ge (by omega) (by omega))]
          exact ⟨_, _, n, c, rfl, rfl, rfl, rfl, hM⟩
    · have e3' : fX4_isWithin N b (0 : Int32) (16 : Int32) = some 0 := e3
      rw [e3']
      exact ⟨_, _, n, c, rfl, rfl, rfl, rfl, hM⟩
  · rw [e1, e2]
    exact ⟨_, _, n, c, rfl, rfl, rfl, rfl, hM⟩
