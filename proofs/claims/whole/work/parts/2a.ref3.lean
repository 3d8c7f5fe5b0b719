/-! the reference's table: its start, and the second pass -/
theorem m_none {w h k : Nat} (hB : Bd w h k) {N : Nat} (hN : 30 < N) : fX5_keyOfNone N (nI w) (nI h) = some (nI (kyM w h emp)) := by
  have hw := hB.2.1
  have hh := hB.2.2.2.1
  have key := lpN (fun ct s i => fX5_keyOfNone_L4 N (nI w) (nI h) ct s i) w (fun x s => s = nI (fb_sm (fun i => 1 * (2 ^ (h + 1)) ^ i) x)) (fun r => r = nI (kyM w h emp)) ?_ ?_ w 0 N (0 : Int32) (by omega) (by omega) rfl
  · obtain ⟨r, h1, h2⟩ := key
    unfold fX5_keyOfNone
    show Option.bind (fX5_keyOfNone_L4 N (nI w) (nI h) N 0 (nI 0)) _ = _
    rw [h1, h2]
    rfl
  · intro ct x s hx hI
    left
    refine ⟨nI (fb_sm (fun i => 1 * (2 ^ (h + 1)) ^ i) (x + 1)), rfl, ?_⟩
    show fX5_keyOfNone_L4 N (nI w) (nI h) (ct + 1) s (nI x) = fX5_keyOfNone_L4 N (nI w) (nI h) ct _ (nI (x + 1))
    have hl := xh_lt hB hx
    have hlt := dig_lt (2 ^ (h + 1)) (fun _ => 1) x (fun i _ => by
      have : (2 : Nat) ^ 1 ≤ 2 ^ (h + 1) := Nat.pow_le_pow_right (by decide) (by omega)
      omega)
    rw [← Nat.pow_mul, Nat.mul_comm] at hlt
    have e : nI (fb_sm (fun i => 1 * (2 ^ (h + 1)) ^ i) x) ||| nI (2 ^ (x * (h + 1))) = nI (fb_sm (fun i => 1 * (2 ^ (h + 1)) ^ i) (x + 1)) := by
      have h1 := fa_or_sum 1 hlt
      rw [Nat.mul_one] at h1
      rw [or_nI, Nat.or_comm, ← or_nI, h1, fb_sm_succ, ← Nat.pow_mul, Nat.mul_comm (h + 1), Nat.one_mul, Nat.add_comm]
    rw [fX5_keyOfNone_L4, if_neg (nI_ge hx (by omega)), hI, nI_1, pk_mul, shl1 (by omega), e, nI_1]
  · intro ct s hI
    refine ⟨s, ?_, ?_⟩
    · show fX5_keyOfNone_L4 N (nI w) (nI h) (ct + 1) s (nI w) = _
      rw [fX5_keyOfNone_L4, if_pos (nI_le (Nat.le_refl _) (by omega))]
    · rw [hI]; rfl
theorem m_keys {w h k : Nat} (hB : Bd w h k) (N : Nat) : fX5_keys N (nI w) (nI h) = some (nI ((2 ^ (h + 1)) ^ w)) := by
  unfold fX5_keys
  have := hB.2.2.2.2.2.1
  rw [nI_1, pk_mul, shl1 (by omega), (al_eq hB).1]
theorem m_fill {al N : Nat} (ha : al ≤ 2097152) (hN : al < N) (f0 : Nat → Int32) : ∃ f, fX5_goUp_L7 N (nI al) N f0 (nI 0) = some f ∧ ∀ key, key < al → f key = -128 := by
  refine lpN (fun ct f i => fX5_goUp_L7 N (nI al) ct f i) al (fun K f => ∀ key, key < K → f key = -128) (fun f => ∀ key, key < al → f key = -128) ?_ ?_ al 0 N f0 (by omega) hN (fun key hk => absurd hk (Nat.not_lt_zero key))
  · intro ct K f hK hI
    left
    refine ⟨upd f K (-128), fun key hk => ?_, ?_⟩
    · by_cases e : key = K
      · rw [e, pk_us]
      · rw [pk_un e]; exact hI key (by omega)
    · show fX5_goUp_L7 N (nI al) (ct + 1) f (nI K) = fX5_goUp_L7 N (nI al) ct (upd f K (-128)) (nI (K + 1))
      rw [fX5_goUp_L7, if_neg (nI_ge hK (by omega)), okb_t (inbN (by omega) (by decide)), nI_clamp (by omega), nI_1]
      rfl
  · intro ct f hI
    refine ⟨f, ?_, hI⟩
    show fX5_goUp_L7 N (nI al) (ct + 1) f (nI al) = _
    rw [fX5_goUp_L7, if_pos (nI_le (Nat.le_refl _) (by omega))]
def z17 (f : Nat → Int32) : Prop := ∀ n, n ≤ 16 → f n = nI 0
theorem m_zero {N : Nat} (hN : 20 < N) (a b c d e : Nat → Int32) : ∃ r, fX5_goUp_L38 N N a b c d e (nI 0) = some r ∧ z17 r.1 ∧ z17 r.2.1 ∧ z17 r.2.2.1 ∧ z17 r.2.2.2.1 ∧ z17 r.2.2.2.2 := by
  have up : ∀ (f : Nat → Int32) (i : Nat), (∀ n, n < i → f n = nI 0) → ∀ n, n < i + 1 → upd f i (0 : Int32) n = nI 0 := fun f i h n hn => by
    by_cases q : n = i
    · rw [q, pk_us]; rfl
    · rw [pk_un q]; exact h n (by omega)
  refine lpN (fun ct (s : (Nat → Int32) × (Nat → Int32) × (Nat → Int32) × (Nat → Int32) × (Nat → Int32)) i => fX5_goUp_L38 N ct s.1 s.2.1 s.2.2.1 s.2.2.2.1 s.2.2.2.2 i) 17 (fun i s => (∀ n, n < i → s.1 n = nI 0) ∧ (∀ n, n < i → s.2.1 n = nI 0) ∧ (∀ n, n < i → s.2.2.1 n = nI 0) ∧ (∀ n, n < i → s.2.2.2.1 n = nI 0) ∧ (∀ n, n < i → s.2.2.2.2 n = nI 0)) (fun r => z17 r.1 ∧ z17 r.2.1 ∧ z17 r.2.2.1 ∧ z17 r.2.2.2.1 ∧ z17 r.2.2.2.2) ?_ ?_ 17 0 N (a, b, c, d, e) (by omega) (by omega) ⟨fun n hn => absurd hn (Nat.not_lt_zero n), fun n hn => absurd hn (Nat.not_lt_zero n), fun n hn => absurd hn (Nat.not_lt_zero n), fun n hn => absurd hn (Nat.not_lt_zero n), fun n hn => absurd hn (Nat.not_lt_zero n)⟩
  · rintro ct i ⟨a, b, c, d, e⟩ hi ⟨h1, h2, h3, h4, h5⟩
    left
    refine ⟨(upd a i 0, upd b i 0, upd c i 0, upd d i 0, upd e i 0), ⟨up a i h1, up b i h2, up c i h3, up d i h4, up e i h5⟩, ?_⟩
    show fX5_goUp_L38 N (ct + 1) a b c d e (nI i) = fX5_goUp_L38 N ct (upd a i 0) (upd b i 0) (upd c i 0) (upd d i 0) (upd e i 0) (nI (i + 1))
    have hin : inb (nI i) 17 = true := inbN hi (by decide)
    rw [fX5_goUp_L38, if_neg (show ¬ (17 : Int32) ≤ nI i from nI_ge hi (by decide)), okb_t hin, okb_t hin, okb_t hin, okb_t hin, okb_t hin, nI_clamp (by omega), nI_1]
  · rintro ct ⟨a, b, c, d, e⟩ ⟨h1, h2, h3, h4, h5⟩
    refine ⟨(a, b, c, d, e), ?_, fun n hn => h1 n (by omega), fun n hn => h2 n (by omega), fun n hn => h3 n (by omega), fun n hn => h4 n (by omega), fun n hn => h5 n (by omega)⟩
    show fX5_goUp_L38 N (ct + 1) a b c d e (nI 17) = _
    rw [fX5_goUp_L38, if_pos (by decide)]
theorem m_goUp {w h k : Nat} (hB : Bd w h k) {R : List Nat} (hR : RF w h R) {xr : Int32} {yR : Nat → Int32} (hA : rwA R xr yR) {N : Nat} (hN : 2097152 < N) (xc : Int32) (yT yC yW yA yE yU yM : Nat → Int32) :
    ∃ r, fX5_goUp N (nI w) (nI h) xr xc yR yT yC yW yA yE yU yM = some r ∧ GU w h R ((2 ^ (h + 1)) ^ w) r.2.1 r.2.2.1 r.2.2.2.1 ∧ z17 r.2.2.2.2.1 ∧ z17 r.2.2.2.2.2.1 ∧ z17 r.2.2.2.2.2.2.1 := by
  obtain ⟨ea, hal⟩ := al_eq hB
  obtain ⟨f, hf, hf1⟩ := m_fill (al := (2 ^ (h + 1)) ^ w) hal (N := N) (by omega) yT
  obtain ⟨z, hz, z1, z2, z3, z4, z5⟩ := m_zero (N := N) (by omega) yC yW yA yE yU
  have hk0 := ky_31 hB (okP_emp w h)
  have hg : GU w h R 0 (upd f (kyM w h emp) 0) z.1 z.2.1 := by
    refine ⟨fun key hk hv => ?_, fun n p _ hk => absurd hk (Nat.not_lt_zero _), fun n p hc _ hq => ?_, fun n hn => ?_, fun n hn => ?_⟩
    · by_cases e : key = kyM w h emp
      · exact ⟨0, emp, rfl, e.symm⟩
      · rw [pk_un e] at hv
        exact absurd (hf1 key hk) hv
    · rcases hq with q | ⟨m, q, x, _, _, _, _, _, a6⟩
      · subst q
        rw [show p = emp from hc, pk_us]
      · exact absurd a6 (Nat.not_lt_zero _)
    · rw [z1 n hn]; rfl
    · rw [z2 n hn]; rfl
  obtain ⟨r, hr, hg2⟩ := m_up hB hR hA hN (xc := xc) (yM := yM) hg
  refine ⟨(r.1, r.2.1, r.2.2.1, r.2.2.2.1, z.2.2.1, z.2.2.2.1, z.2.2.2.2, r.2.2.2.2), ?_, hg2, z3, z4, z5⟩
  unfold fX5_goUp
  rw [m_keys hB]
  simp only [Option.bind_some]
  rw [i0, hf]
  simp only [Option.bind_some]
  rw [m_none hB (by omega)]
  simp only [Option.bind_some]
  rw [okb_t (inbN hk0 (by decide)), nI_clamp (by omega), hz]
  simp only [Option.bind_some]
  have e0 : vp_nar .byte (nI 0) = 0 := rfl
  rw [e0, hr]
  rfl
/-- small whole numbers as ints -/
def iI (z : Int) : Int32 := Int32.ofInt z
theorem iI_t {z : Int} (h1 : -2000 ≤ z) (h2 : z ≤ 2000) : (iI z).toInt = z := by
  unfold iI
  rw [Int32.toInt_ofInt]
  exact fb_bmod (by omega) (by omega)
theorem iI_le {a b : Int} (h1 : -2000 ≤ a) (h2 : a ≤ 2000) (h3 : -2000 ≤ b) (h4 : b ≤ 2000) : iI a ≤ iI b ↔ a ≤ b := by
  rw [fa_le, iI_t h1 h2, iI_t h3 h4]
theorem iI_eq {a b : Int} (h1 : -2000 ≤ a) (h2 : a ≤ 2000) (h3 : -2000 ≤ b) (h4 : b ≤ 2000) : iI a = iI b ↔ a = b := by
  rw [fa_eq, iI_t h1 h2, iI_t h3 h4]
theorem iI_sub {a b : Int} (h1 : -1000 ≤ a) (h2 : a ≤ 1000) (h3 : -1000 ≤ b) (h4 : b ≤ 1000) : iI a - iI b = iI (a - b) := by
  rw [fa_eq, fb_subI (by rw [iI_t (by omega) (by omega), iI_t (by omega) (by omega)]; omega) (by rw [iI_t (by omega) (by omega), iI_t (by omega) (by omega)]; omega), iI_t (by omega) (by omega), iI_t (by omega) (by omega), iI_t (by omega) (by omega)]
theorem iI_byte0 : ∀ k : Nat, k < 199 → vp_nar .byte (iI ((k : Int) - 99)).toInt8.toInt32 = iI ((k : Int) - 99) := by decide +kernel
theorem iI_byte {z : Int} (h1 : -99 ≤ z) (h2 : z ≤ 99) : vp_nar .byte (iI z).toInt8.toInt32 = iI z := by
  have := iI_byte0 (z + 99).toNat (by omega)
  rw [show (((z + 99).toNat : Nat) : Int) - 99 = z by omega] at this
  exact this
def val1 (w h : Nat) (R : List Nat) (p : Pos) : Int32 := if wonB w R p = true then 127 else if cnt w p = w * h then 126 else iI (wv w h R (w * h - cnt w p) p)
theorem m_seen {v : Int} (h1 : -99 ≤ v) (h2 : v ≤ 99) : (if iI v ≤ 0 then (if 0 ≤ iI v then some (0 : Int32) else some ((-1 : Int32) - iI v)) else some ((1 : Int32) - iI v)) = some (iI (seen v)) := by
  have e0 : (0 : Int32) = iI 0 := by decide
  have e1 : (1 : Int32) = iI 1 := by decide
  have e2 : (-1 : Int32) = iI (-1) := by decide
  rw [e2, e0, e1]
  unfold seen
  by_cases q : v = 0
  · subst q
    rw [if_pos ((iI_le (by omega) (by omega) (by omega) (by omega)).mpr (Int.le_refl 0)), if_pos ((iI_le (by omega) (by omega) (by omega) (by omega)).mpr (Int.le_refl 0)), if_pos rfl]
  · rw [if_neg q]
    by_cases r : v > 0
    · rw [if_pos r, if_neg (fun u => by have := (iI_le (by omega) (by omega) (by omega) (by omega)).mp u; omega), iI_sub (by omega) (by omega) (by omega) (by omega)]
    · rw [if_neg r, if_pos ((iI_le (by omega) (by omega) (by omega) (by omega)).mpr (by omega)), if_neg (fun u => by have := (iI_le (by omega) (by omega) (by omega) (by omega)).mp u; omega), iI_sub (by omega) (by omega) (by omega) (by omega)]
/-- what a child's entry in the table says -/
def tabOk (w h : Nat) (R : List Nat) (yT : Nat → Int32) (p : Pos) : Prop := yT (kyM w h p) = val1 w h R p
theorem m_wby {w h k : Nat} (hB : Bd w h k) {R : List Nat} {p : Pos} (hp : okP w h p) {x : Nat} (hx : x < w) (hl : (p x).length < h) {yT : Nat → Int32} (hT : tabOk w h R yT (nxt w p x)) {N : Nat} (hN : 30 < N) : fX5_worthBy N (nI h) yT (nI (kyM w h p)) (nI x) (nI (cnt w p % 2)) = some (iI (mvW w h R (w * h - cnt w p - 1) p x)) := by
  have hq := okP_psh hp hx hl (sd w p)
  have hk := ky_31 hB hq
  have hc : cnt w (nxt w p x) = cnt w p + 1 := by unfold nxt; exact cnt_psh p hx _
  have hcl := cnt_le hq
  have hwon := wonB_nxt R p hx
  unfold fX5_worthBy
  rw [← sd_nat, m_drop hB hp hx hl (sd w p) hN]
  simp only [Option.bind_some]
  rw [okb_t (inbN hk (by decide)), nI_clamp (by omega)]
  have hT' : yT (kyM w h (psh p x (sd w p))) = val1 w h R (nxt w p x) := hT
  rw [hT']
  unfold val1 mvW
  rw [hwon]
  by_cases h1 : hasR R (mk w (nxt w p x) (sd w p)) = true
  · rw [if_pos h1, if_pos h1, if_pos rfl]
    rfl
  · rw [if_neg h1, if_neg h1]
    by_cases h2 : cnt w (nxt w p x) = w * h
    · rw [if_pos h2, if_neg (by decide), if_pos rfl, if_pos (by omega)]
      rfl
    · have hb := wv_b (R := R) (w * h - cnt w (nxt w p x)) (nxt w p x) hq (by
        have : cnt w (nxt w p x) ≤ w * h := hcl
        omega) (by
        have : cnt w (nxt w p x) ≤ w * h := hcl
        omega)
      have n1 : ¬ iI (wv w h R (w * h - cnt w (nxt w p x)) (nxt w p x)) = 127 := fun e => by
        have := (iI_eq (b := 127) (by omega) (by omega) (by omega) (by omega)).mp e
        omega
      have n2 : ¬ iI (wv w h R (w * h - cnt w (nxt w p x)) (nxt w p x)) = 126 := fun e => by
        have := (iI_eq (b := 126) (by omega) (by omega) (by omega) (by omega)).mp e
        omega
      rw [if_neg h2, if_neg n1, if_neg n2, m_seen hb.1 hb.2, if_neg (by
        have : cnt w (nxt w p x) ≤ w * h := hcl
        omega), hc, show w * h - cnt w p - 1 = w * h - (cnt w p + 1) by omega]
theorem m_great {w h k : Nat} (hB : Bd w h k) {R : List Nat} {p : Pos} (hp : okP w h p) (hc : cnt w p < w * h) {yT : Nat → Int32} (hT : ∀ x, x < w → (p x).length < h → tabOk w h R yT (nxt w p x)) {N : Nat} (hN : 30 < N) : fX5_greatest N (nI w) (nI h) yT (nI (kyM w h p)) (nI (cnt w p % 2)) = some (iI (wv w h R (w * h - cnt w p) p)) := by
  have hw := hB.2.1
  have hh := hB.2.2.2.1
  obtain ⟨n, hn⟩ : ∃ n, w * h - cnt w p = n + 1 := ⟨w * h - cnt w p - 1, by omega⟩
  have hb : ∀ x, x < w → (p x).length < h → -99 ≤ mvW w h R n p x ∧ mvW w h R n p x ≤ 99 := fun x hx hl =>
    mvW_b (fun q => wv_b n (nxt w p x) (okP_psh hp hx hl _) (by unfold nxt; rw [cnt_psh p hx]; omega) q)
  have hwb : ∀ z, z ≤ w → -1000 ≤ wvF (mvW w h R n p) (fun x => decide ((p x).length < h)) z ∧ wvF (mvW w h R n p) (fun x => decide ((p x).length < h)) z ≤ 99 := fun z hz => by
    refine ⟨wvF_low _ _ z, ?_⟩
    rcases wvF_mem (mvW w h R n p) (fun x => decide ((p x).length < h)) z with e | ⟨y, hy, ho, e⟩
    · omega
    · have := hb y (by omega) (of_decide_eq_true ho)
      omega
  have key := lpN (fun ct s i => fX5_greatest_L7 N (nI w) (nI h) yT (nI (kyM w h p)) (nI (cnt w p % 2)) ct s i) w (fun x s => s = iI (wvF (mvW w h R n p) (fun x => decide ((p x).length < h)) x)) (fun r => r = iI (wv w h R (w * h - cnt w p) p)) ?_ ?_ w 0 N (-1000 : Int32) (by omega) (by omega) (show (-1000 : Int32) = iI (-1000) by decide)
  · obtain ⟨r, h1, h2⟩ := key
    unfold fX5_greatest
    show Option.bind (fX5_greatest_L7 N (nI w) (nI h) yT (nI (kyM w h p)) (nI (cnt w p % 2)) N (-1000 : Int32) (nI 0)) _ = _
    rw [h1, h2]
    rfl
  · intro ct x s hx hI
    left
    refine ⟨iI (wvF (mvW w h R n p) (fun x => decide ((p x).length < h)) (x + 1)), rfl, ?_⟩
    show fX5_greatest_L7 N (nI w) (nI h) yT (nI (kyM w h p)) (nI (cnt w p % 2)) (ct + 1) s (nI x) = fX5_greatest_L7 N (nI w) (nI h) yT (nI (kyM w h p)) (nI (cnt w p % 2)) ct _ (nI (x + 1))
    have hlx := hp.1 x hx
    rw [fX5_greatest_L7, if_neg (nI_ge hx (by omega)), m_hgt hB hp hx hN]
    simp only [Option.bind_some, wvF]
    rcases Nat.lt_or_ge (p x).length h with q | q
    · rw [if_neg (nI_ge q (by omega)), m_wby hB hp hx q (hT x hx q) hN]
      simp only [Option.bind_some]
      have hm := hb x hx q
      have hz := hwb x (by omega)
      rw [hn, Nat.add_sub_cancel, hI]
      by_cases u : mvW w h R n p x ≤ wvF (mvW w h R n p) (fun x => decide ((p x).length < h)) x
      · rw [if_pos ((iI_le (by omega) (by omega) (by omega) (by omega)).mpr u), if_neg (fun r => by omega), nI_1]
      · rw [if_neg (fun r => u ((iI_le (by omega) (by omega) (by omega) (by omega)).mp r)), if_pos ⟨decide_eq_true q, by omega⟩, nI_1]
    · rw [if_pos (nI_le q (by omega)), if_neg (fun r => by have := of_decide_eq_true r.1; omega), hI, nI_1]
  · intro ct s hI
    refine ⟨s, ?_, ?_⟩
    · show fX5_greatest_L7 N (nI w) (nI h) yT (nI (kyM w h p)) (nI (cnt w p % 2)) (ct + 1) s (nI w) = _
      rw [fX5_greatest_L7, if_pos (nI_le (Nat.le_refl _) (by omega))]
    · rw [hI, hn]; rfl
theorem m_cnt {w h k : Nat} (hB : Bd w h k) {p : Pos} (hp : okP w h p) {N : Nat} (hN : 30 < N) : fX5_goDown_L48 N (nI w) (nI h) (nI (kyM w h p)) N (nI 0) (nI 0) = some (nI (cnt w p)) := by
  have hw := hB.2.1
  have hh := hB.2.2.2.1
  have key := lpN (fun ct s i => fX5_goDown_L48 N (nI w) (nI h) (nI (kyM w h p)) ct s i) w (fun x s => s = nI (fb_sm (fun x => (p x).length) x)) (fun r => r = nI (cnt w p)) ?_ ?_ w 0 N (nI 0) (by omega) (by omega) rfl
  · obtain ⟨r, h1, h2⟩ := key
    rw [h1, h2]
  · intro ct x s hx hI
    left
    refine ⟨nI (fb_sm (fun x => (p x).length) (x + 1)), rfl, ?_⟩
    show fX5_goDown_L48 N (nI w) (nI h) (nI (kyM w h p)) (ct + 1) s (nI x) = fX5_goDown_L48 N (nI w) (nI h) (nI (kyM w h p)) ct _ (nI (x + 1))
    rw [fX5_goDown_L48, if_neg (nI_ge hx (by omega)), m_hgt hB hp hx hN]
    simp only [Option.bind_some]
    rw [hI, nI_add, fb_sm_succ, nI_1]
  · intro ct s hI
    refine ⟨s, ?_, hI⟩
    show fX5_goDown_L48 N (nI w) (nI h) (nI (kyM w h p)) (ct + 1) s (nI w) = _
    rw [fX5_goDown_L48, if_pos (nI_le (Nat.le_refl _) (by omega))]
