/-! the solver made ready, started, asked -/
def SOL (w h : Nat) (R : List Nat) (sp : Int32) (sP : Nat → Int32) (tl : Nat → Nat → Int32) (kl : Nat) (kf : Nat → Int64) : Prop := kl ≤ 115441 ∧ (sp = 0 ∨ (sp = 1 ∧ pwA w h sP ∧ ((2 ^ (h + 1) - 1) ^ w + 7) / 8 ≤ kl ∧ SI w h R tl kf))
theorem c_pows {w h k : Nat} (hB : Bd w h k) {N : Nat} (hN : 30 < N) (sP : Nat → Int32) : ∃ v, fX3_prepare_L24 N (nI w) (((2 : Int32) <<< (nI h &&& 31)) - (1 : Int32)) N sP (1 : Int32) (nI 0) = some v ∧ pwA w h v.1 ∧ v.2 = nI ((2 ^ (h + 1) - 1) ^ w) := by
  have hw := hB.2.1
  have hh := hB.2.2.2.1
  have e2 : ((2 : Int32) <<< (nI h &&& 31)) - (1 : Int32) = nI (2 ^ (h + 1) - 1) := by
    have h1 : 2 * 2 ^ h = 2 ^ (h + 1) := by rw [Nat.pow_succ, Nat.mul_comm]
    have h2 : 2 ^ (h + 1) ≤ 2 ^ 7 := Nat.pow_le_pow_right (by decide) (by omega)
    have h3 : (2 : Nat) ^ 7 < 2 ^ 32 := by decide
    rw [i2, shlN (by omega) (by omega), i1, pk_sub (by rw [h1]; exact Nat.one_le_two_pow), h1]
  rw [e2]
  refine lpN (fun ct (s : (Nat → Int32) × Int32) i => fX3_prepare_L24 N (nI w) (nI (2 ^ (h + 1) - 1)) ct s.1 s.2 i) w (fun z s => (∀ x, x < z → s.1 x = nI ((2 ^ (h + 1) - 1) ^ x)) ∧ s.2 = nI ((2 ^ (h + 1) - 1) ^ z)) (fun v => pwA w h v.1 ∧ v.2 = nI ((2 ^ (h + 1) - 1) ^ w)) ?_ ?_ w 0 N (sP, (1 : Int32)) (by omega) (by omega) ⟨fun x hx => absurd hx (Nat.not_lt_zero x), by rw [Nat.pow_zero]; rfl⟩
  · rintro ct z ⟨f, m⟩ hz ⟨i1, i2⟩
    left
    refine ⟨(upd f z m, nI ((2 ^ (h + 1) - 1) ^ (z + 1))), ⟨fun x hx => ?_, rfl⟩, ?_⟩
    · show upd f z m x = _
      by_cases e : x = z
      · rw [e, pk_us]; exact i2
      · rw [pk_un e]; exact i1 x (by omega)
    · show fX3_prepare_L24 N (nI w) (nI (2 ^ (h + 1) - 1)) (ct + 1) f m (nI z) = fX3_prepare_L24 N (nI w) (nI (2 ^ (h + 1) - 1)) ct (upd f z m) (nI ((2 ^ (h + 1) - 1) ^ (z + 1))) (nI (z + 1))
      have i2' : m = nI ((2 ^ (h + 1) - 1) ^ z) := i2
      rw [fX3_prepare_L24, if_neg (nI_ge hz (by omega)), okb_t (inbN (by omega) (by decide)), nI_clamp (by omega), i2', pk_mul, nI_1, ← Nat.pow_succ]
  · rintro ct ⟨f, m⟩ ⟨i1, i2⟩
    refine ⟨(f, m), ?_, i1, i2⟩
    show fX3_prepare_L24 N (nI w) (nI (2 ^ (h + 1) - 1)) (ct + 1) f m (nI w) = _
    rw [fX3_prepare_L24, if_pos (nI_le (Nat.le_refl _) (by omega))]
theorem c_fillL {N n q : Nat} (hn : n < 2 ^ 31) (hq : q ≤ n) (hN : n < N) (f : Nat → Int64) : ∃ g, fJ7_fill_bad5a N n f (0 : Int32) (nI q) (0 : Int64) = some g ∧ ∀ i, i < q → g i = 0 := by
  have key := lpN (fun ct s i => fJ7_fill_bad5a_L10 N n (nI q) (0 : Int64) ct s i) q (fun K g => ∀ i, i < K → g i = 0) (fun g => ∀ i, i < q → g i = 0) ?_ ?_ q 0 N f (by omega) (by omega) (fun i hi => absurd hi (Nat.not_lt_zero i))
  · obtain ⟨r, h1, h2⟩ := key
    refine ⟨r, ?_, h2⟩
    unfold fJ7_fill_bad5a fJ7_rangeCheck_23922
    rw [if_pos (nI_pos' (n := q) (by omega)), if_pos (by decide), if_pos (show nI q ≤ Int32.ofNat n from nI_le hq hn)]
    simp only [Option.bind_some]
    rw [i0, h1]
    rfl
  · intro ct K g hK hI
    left
    refine ⟨vp_updL g K 0, fun i hi => ?_, ?_⟩
    · by_cases e : i = K
      · rw [e, pk_uLs]
      · rw [pk_uLn e]; exact hI i (by omega)
    · show fJ7_fill_bad5a_L10 N n (nI q) (0 : Int64) (ct + 1) g (nI K) = fJ7_fill_bad5a_L10 N n (nI q) (0 : Int64) ct (vp_updL g K 0) (nI (K + 1))
      rw [fJ7_fill_bad5a_L10, if_neg (nI_ge hK (by omega)), okb_t (inbN (by omega) hn), nI_clamp (by omega), nI_1]
  · intro ct g hI
    refine ⟨g, ?_, hI⟩
    show fJ7_fill_bad5a_L10 N n (nI q) (0 : Int64) (ct + 1) g (nI q) = _
    rw [fJ7_fill_bad5a_L10, if_pos (nI_le (Nat.le_refl _) (by omega))]
theorem c_tal0 {N : Nat} (hN : 30 < N) (tl : Nat → Nat → Int32) : ∃ t, fX3_prepare_L91 N N tl (nI 0) = some t ∧ ∀ kd n, kd < 5 → n ≤ 16 → t kd n = 0 := by
  refine lpN (fun ct s i => fX3_prepare_L91 N ct s i) 5 (fun K t => ∀ kd n, kd < K → n ≤ 16 → t kd n = 0) (fun t => ∀ kd n, kd < 5 → n ≤ 16 → t kd n = 0) ?_ ?_ 5 0 N tl (by omega) (by omega) (fun kd n hk => absurd hk (Nat.not_lt_zero kd))
  · intro ct K t hK hI
    left
    obtain ⟨g, hg, hg2⟩ := c_fill (N := N) (n := 17) (by decide) (by omega) (t K) 0
    refine ⟨upT t K g, fun kd n hk hn => ?_, ?_⟩
    · unfold upT
      by_cases e : kd = K
      · rw [if_pos e]; exact hg2 n (by omega)
      · rw [if_neg e]; exact hI kd n (by omega) hn
    · show fX3_prepare_L91 N (ct + 1) t (nI K) = fX3_prepare_L91 N ct (upT t K g) (nI (K + 1))
      rw [fX3_prepare_L91, if_neg (show ¬ (5 : Int32) ≤ nI K from nI_ge hK (by decide)), okb_t (inbN hK (by decide)), nI_clamp (by omega), hg]
      simp only [Option.bind_some]
      rw [nI_1]
  · intro ct t hI
    refine ⟨t, ?_, hI⟩
    show fX3_prepare_L91 N (ct + 1) t (nI 5) = _
    rw [fX3_prepare_L91, if_pos (by decide)]
theorem byt_0 {kf : Nat → Int64} {q : Nat} (h : kf (q / 8) = 0) : byt kf q = 0 := by
  unfold byt
  rw [h]
  show (0 : Nat) >>> (8 * (q % 8)) % 256 = 0
  rw [Nat.zero_shiftRight]
theorem SI_0 {w h k : Nat} (hB : Bd w h k) {R : List Nat} {tl : Nat → Nat → Int32} {kf : Nat → Int64} (ht : ∀ kd n, kd < 5 → n ≤ 16 → tl kd n = 0) (hk : ∀ i, i < ((2 ^ (h + 1) - 1) ^ w + 7) / 8 → kf i = 0) : SI w h R tl kf := by
  have z : ∀ n p, Cm w h R n p → byt kf (plc w h p) = 0 := fun n p hc => byt_0 (hk _ (plc_b hB (Cm_ok hc).1 (Nat.le_refl _)).2.2.1)
  refine ⟨fun n p hc hn => absurd (z n p hc) hn, fun n p hc hn => absurd (z n p hc) hn, fun kd n hk hn => ?_⟩
  rw [ht kd n hk hn]
  have e : fb_sm (ind (Pk w h R kf kd n)) ((2 ^ (h + 1)) ^ w) = fb_sm (fun _ => 0) ((2 ^ (h + 1)) ^ w) := fb_sm_cong (fun key _ => ind_f (fun ⟨p, a, _, b, _⟩ => b (z n p a)))
  rw [e, fb_sm_const, Nat.mul_zero]
  rfl
theorem c_prep {w h k : Nat} (hB : Bd w h k) {R : List Nat} {N : Nat} (hN : 200000 < N) {sp : Int32} {sP : Nat → Int32} {tl : Nat → Nat → Int32} {kl : Nat} {kf : Nat → Int64} (hS : SOL w h R sp sP tl kl kf) :
    ∃ v, fX3_prepare N sp sP tl kl kf (nI w) (nI h) = some v ∧ v.1 = 1 ∧ SOL w h R v.1 v.2.1 v.2.2.1 v.2.2.2.1 v.2.2.2.2 := by
  have hpw := pw_bd hB
  obtain ⟨hkl, hS⟩ := hS
  unfold fX3_prepare
  by_cases q : sp = 0
  · rw [if_pos q]
    obtain ⟨v, e1, e2, e3⟩ := c_pows hB (N := N) (by omega) sP
    obtain ⟨t, e4, e5⟩ := c_tal0 (N := N) (by omega) tl
    rw [i0, e1]
    simp only [Option.bind_some]
    have esz : (v.2 + (7 : Int32)) >>> ((3 : Int32) &&& 31) = nI (((2 ^ (h + 1) - 1) ^ w + 7) / 8) := by
      rw [e3, show (7 : Int32) = nI 7 from rfl, nI_add, sh3 (by omega)]
    rw [esz]
    by_cases u : ((2 ^ (h + 1) - 1) ^ w + 7) / 8 ≤ kl
    · obtain ⟨g, e6, e7⟩ := c_fillL (N := N) (n := kl) (by omega) u (by omega) kf
      rw [if_pos (show nI (((2 ^ (h + 1) - 1) ^ w + 7) / 8) ≤ Int32.ofNat kl from nI_le u (by omega))]
      refine ⟨(1, v.1, t, kl, g), ?_, rfl, hkl, Or.inr ⟨rfl, e2, u, SI_0 hB e5 e7⟩⟩
      rw [show nI 0 = (0 : Int32) from rfl, e6]
      simp only [Option.bind_some]
      rw [i0, e4]
      rfl
    · rw [if_neg (show ¬ nI (((2 ^ (h + 1) - 1) ^ w + 7) / 8) ≤ Int32.ofNat kl from nI_ge (by omega) (by omega)), okb_t (by
        have := nI_pos (n := ((2 ^ (h + 1) - 1) ^ w + 7) / 8) (by omega)
        simp [show ¬ nI (((2 ^ (h + 1) - 1) ^ w + 7) / 8) < nI 0 from this]), nI_clamp (by omega), okb_t (decide_eq_true (by omega)), e4]
      exact ⟨_, rfl, rfl, by show ((2 ^ (h + 1) - 1) ^ w + 7) / 8 ≤ 115441; omega, Or.inr ⟨rfl, e2, Nat.le_refl _, SI_0 hB e5 (fun _ _ => rfl)⟩⟩
  · rw [if_neg q]
    rcases hS with r | r
    · exact absurd r q
    · exact ⟨_, rfl, r.1, hkl, Or.inr r⟩
theorem c_empty {w h k : Nat} (hB : Bd w h k) {R : List Nat} {N : Nat} (hN : 200000 < N) {sp : Int32} {sP sC sH : Nat → Int32} {tl : Nat → Nat → Int32} {kl : Nat} {kf : Nat → Int64} (hS : SOL w h R sp sP tl kl kf) :
    ∃ v, fX3_startEmpty N sp sP sC sH tl kl kf (nI w) (nI h) = some v ∧ v.1 = 1 ∧ v.2.1 = nI 0 ∧ v.2.2.1 = nI 0 ∧ v.2.2.2.1 = nI 0 ∧ v.2.2.2.2.1 = nI 0 ∧ v.2.2.2.2.2.1 = nI 0 ∧ cdA emp v.2.2.2.2.2.2.2.1 ∧ hgA emp v.2.2.2.2.2.2.2.2.1 ∧ SOL w h R v.1 v.2.2.2.2.2.2.1 v.2.2.2.2.2.2.2.2.2.1 v.2.2.2.2.2.2.2.2.2.2.1 v.2.2.2.2.2.2.2.2.2.2.2 := by
  obtain ⟨u, e1, e2, e3⟩ := c_prep hB hN hS
  obtain ⟨a, e4, e5⟩ := c_fill (N := N) (n := 7) (by decide) (by omega) sC 1
  obtain ⟨b, e6, e7⟩ := c_fill (N := N) (n := 7) (by decide) (by omega) sH 0
  refine ⟨(u.1, 0, 0, 0, 0, 0, u.2.1, a, b, u.2.2.1, u.2.2.2.1, u.2.2.2.2), ?_, e2, rfl, rfl, rfl, rfl, rfl, fun x hx => e5 x hx, fun x hx => e7 x hx, e3⟩
  unfold fX3_startEmpty
  rw [e1]
  simp only [Option.bind_some]
  rw [e4]
  simp only [Option.bind_some]
  rw [e6]
  rfl
theorem kyC_emp (w h : Nat) : kyC w h emp = 0 := by
  unfold kyC
  have e : fb_sm (fun x => (rco (emp x) - 1) * (2 ^ (h + 1) - 1) ^ x) w = fb_sm (fun _ => 0) w := fb_sm_cong (fun x _ => by
    show (1 - 1) * _ = 0
    rw [Nat.sub_self, Nat.zero_mul])
  rw [e, fb_sm_const, Nat.mul_zero]
/-- the solver as it stands when a search starts at p -/
def STA (w h : Nat) (R : List Nat) (p : Pos) (n : Nat) (sp s1 s2 s3 s4 s5 : Int32) (sP sC sH : Nat → Int32) (tl : Nat → Nat → Int32) (kl : Nat) (kf : Nat → Int64) : Prop := sp = 1 ∧ s1 = nI (mk w p (sd w p)) ∧ s2 = nI (mk w p (!(sd w p))) ∧ s3 = nI (kyC w h p) ∧ s4 = nI (kyC w h (mir w p)) ∧ s5 = nI n ∧ cdA p sC ∧ hgA p sH ∧ pwA w h sP ∧ kl ≤ 115441 ∧ ((2 ^ (h + 1) - 1) ^ w + 7) / 8 ≤ kl ∧ SI w h R tl kf
theorem SOL_1 {w h : Nat} {R : List Nat} {sp : Int32} {sP : Nat → Int32} {tl : Nat → Nat → Int32} {kl : Nat} {kf : Nat → Int64} (hS : SOL w h R sp sP tl kl kf) (h1 : sp = 1) : kl ≤ 115441 ∧ pwA w h sP ∧ ((2 ^ (h + 1) - 1) ^ w + 7) / 8 ≤ kl ∧ SI w h R tl kf := by
  obtain ⟨a, b⟩ := hS
  rcases b with b | b
  · rw [h1] at b; exact absurd b (by decide)
  · exact ⟨a, b.2.1, b.2.2.1, b.2.2.2⟩
theorem STA_S {w h : Nat} {R : List Nat} {p : Pos} {n : Nat} {sp s1 s2 s3 s4 s5 : Int32} {sP sC sH : Nat → Int32} {tl : Nat → Nat → Int32} {kl : Nat} {kf : Nat → Int64} (hA : STA w h R p n sp s1 s2 s3 s4 s5 sP sC sH tl kl kf) : SOL w h R sp sP tl kl kf := by
  obtain ⟨a1, a2, a3, a4, a5, a6, a7, a8, a9, a10, a11, a12⟩ := hA
  exact ⟨a10, Or.inr ⟨a1, a9, a11, a12⟩⟩
theorem c_start {w h k : Nat} (hB : Bd w h k) {R : List Nat} {N : Nat} (hN : 200000 < N) {sp : Int32} {sP sC sH : Nat → Int32} {tl : Nat → Nat → Int32} {kl : Nat} {kf : Nat → Int64} (hS : SOL w h R sp sP tl kl kf) {n : Nat} {c : Nat → Nat} (hv : vld w h R c n) {mv : Int32} {mc mm mh : Nat → Int32} (hg : gmA w n c mv mc mm mh) :
    ∃ v, fX3_start N sp sP sC sH tl kl kf mv mc mm (nI w) (nI h) = some v ∧ STA w h R (posF w c n) n v.1 v.2.1 v.2.2.1 v.2.2.2.1 v.2.2.2.2.1 v.2.2.2.2.2.1 v.2.2.2.2.2.2.1 v.2.2.2.2.2.2.2.1 v.2.2.2.2.2.2.2.2.1 v.2.2.2.2.2.2.2.2.2.1 v.2.2.2.2.2.2.2.2.2.2.1 v.2.2.2.2.2.2.2.2.2.2.2 := by
  obtain ⟨u, e1, u1, u2, u3, u4, u5, u6, u7, u8, u9⟩ := c_empty (sC := sC) (sH := sH) hB hN hS
  obtain ⟨o1, o2, o3, o4⟩ := SOL_1 u9 u1
  obtain ⟨g1, g2, g3, g4⟩ := hg
  have hcm := posF_Cm hv n (Nat.le_refl n)
  obtain ⟨hp, hn⟩ := Cm_ok hcm
  have hn16 := n_le16 hB hcm
  have hw := hB.2.1
  obtain ⟨r, hr, r1, r2, r3, r4⟩ := lpN (fun ct (s : Int32 × Int32 × (Nat → Int32) × (Nat → Int32)) i => fX3_start_L6 N u.2.2.2.2.2.2.1 (nI n) mc (nI w) ct s.1 s.2.1 s.2.2.1 s.2.2.2 i) n (fun i s => s.1 = nI (kyC w h (posF w c i)) ∧ s.2.1 = nI (kyC w h (mir w (posF w c i))) ∧ cdA (posF w c i) s.2.2.1 ∧ hgA (posF w c i) s.2.2.2) (fun s => s.1 = nI (kyC w h (posF w c n)) ∧ s.2.1 = nI (kyC w h (mir w (posF w c n))) ∧ cdA (posF w c n) s.2.2.1 ∧ hgA (posF w c n) s.2.2.2) (by
      rintro ct i ⟨a, b, f, g⟩ hi ⟨j1, j2, j3, j4⟩
      dsimp only at j1 j2 j3 j4
      subst j1
      subst j2
      left
      obtain ⟨hx, hl, ho⟩ := hv i hi
      obtain ⟨hpi, hni⟩ := Cm_ok (posF_Cm hv i (by omega))
      obtain ⟨k1, k2, k3⟩ := c_step hB o2 j3 hx hni
      have hx7 : inb (nI (c i)) 7 = true := inbN (by omega) (by decide)
      have hm7 : inb (nI (w - 1 - c i)) 7 = true := inbN (by omega) (by decide)
      refine ⟨(nI (kyC w h (posF w c (i + 1))), nI (kyC w h (mir w (posF w c (i + 1)))), upd f (c i) (nI (rco (posF w c (i + 1) (c i)))), upd g (c i) (g (c i) + 1)), ⟨rfl, rfl, fun z hz => ?_, fun z hz => ?_⟩, ?_⟩
      · show upd f (c i) _ z = nI (rco (nxt w (posF w c i) (c i) z))
        by_cases e : z = c i
        · rw [e, pk_us]; rfl
        · rw [pk_un e, j3 z hz]
          unfold nxt
          rw [psh_ne _ _ e]
      · show upd g (c i) _ z = nI (nxt w (posF w c i) (c i) z).length
        by_cases e : z = c i
        · rw [e, pk_us, j4 _ (by omega), nI_1]
          unfold nxt
          rw [psh_same]
          rfl
        · rw [pk_un e, j4 z hz]
          unfold nxt
          rw [psh_ne _ _ e]
      · show fX3_start_L6 N u.2.2.2.2.2.2.1 (nI n) mc (nI w) (ct + 1) (nI (kyC w h (posF w c i))) (nI (kyC w h (mir w (posF w c i)))) f g (nI i) = fX3_start_L6 N u.2.2.2.2.2.2.1 (nI n) mc (nI w) ct (nI (kyC w h (nxt w (posF w c i) (c i)))) (nI (kyC w h (mir w (nxt w (posF w c i) (c i))))) (upd f (c i) (nI (rco (nxt w (posF w c i) (c i) (c i))))) (upd g (c i) (g (c i) + 1)) (nI (i + 1))
        rw [fX3_start_L6, if_neg (nI_ge hi (by omega)), okb_t (inbN (by omega) (by decide)), nI_clamp (by omega), g2 i hi]
        simp only [okb_t hx7]
        rw [sub1x hx, okb_t hm7, nI_clamp (by omega), nI_clamp (by omega), k1, k2, k3, nI_1]) (by
      rintro ct ⟨a, b, f, g⟩ hI
      refine ⟨(a, b, f, g), ?_, hI⟩
      show fX3_start_L6 N u.2.2.2.2.2.2.1 (nI n) mc (nI w) (ct + 1) a b f g (nI n) = _
      rw [fX3_start_L6, if_pos (nI_le (Nat.le_refl _) (by omega))]) n 0 N (u.2.2.2.1, u.2.2.2.2.1, u.2.2.2.2.2.2.2.1, u.2.2.2.2.2.2.2.2.1) (by omega) (by omega) ⟨by
        show u.2.2.2.1 = nI (kyC w h emp)
        rw [kyC_emp]; exact u4, by
        show u.2.2.2.2.1 = nI (kyC w h (mir w emp))
        rw [mir_emp, kyC_emp]; exact u5, u7, u8⟩
  have e0 : mm (nI (n % 2)).toNatClampNeg = nI (mk w (posF w c n) (sd w (posF w c n))) := by
    have := msk_at (M := mk w (posF w c n)) g3 (sd w (posF w c n))
    rw [sd_nat, hn] at this
    rw [nI_clamp (by omega)]
    exact this
  have e9 : mm (nI (!(sd w (posF w c n))).toNat).toNatClampNeg = nI (mk w (posF w c n) (!(sd w (posF w c n)))) := by
    rw [bIc]
    exact msk_at (M := mk w (posF w c n)) g3 _
  have e8 := oth_nat w (posF w c n)
  rw [hn] at e8
  refine ⟨(u.1, nI (mk w (posF w c n) (sd w (posF w c n))), nI (mk w (posF w c n) (!(sd w (posF w c n)))), r.1, r.2.1, nI n, u.2.2.2.2.2.2.1, r.2.2.1, r.2.2.2, u.2.2.2.2.2.2.2.2.2.1, u.2.2.2.2.2.2.2.2.2.2.1, u.2.2.2.2.2.2.2.2.2.2.2), ?_, u1, rfl, rfl, r1, r2, rfl, r3, r4, o2, o1, o3, o4⟩
  unfold fX3_start
  rw [e1, g1]
  simp only [Option.bind_some]
  rw [i0, hr, c_side]
  simp only [Option.bind_some]
  rw [okb_t (inbN (by omega) (by decide)), e8, okb_t (bI _), e0, e9]
theorem STA_V {w h k : Nat} (hB : Bd w h k) {R : List Nat} (hR : RF w h R) {gT gC : Nat → Int32} (hT : thA (w * h) R gT gC) (hf : ∀ s, s < w * h → (fl R s).length < 16) {N : Nat} (hN : 300 < N) {p : Pos} {n : Nat} {sp s1 s2 s3 s4 s5 : Int32} {sP sC sH : Nat → Int32} {tl : Nat → Nat → Int32} {kl : Nat} {kf : Nat → Int64} (hA : STA w h R p n sp s1 s2 s3 s4 s5 sP sC sH tl kl kf) : SV w h k R N kl sP gT gC := by
  obtain ⟨a1, a2, a3, a4, a5, a6, a7, a8, a9, a10, a11, a12⟩ := hA
  exact ⟨hB, hR, hT, hf, a9, a11, by omega, hN⟩
theorem c_worthS {w h k : Nat} {R : List Nat} {N : Nat} {gT gC : Nat → Int32} {p : Pos} {n : Nat} {sp s1 s2 s3 s4 s5 : Int32} {sP sC sH : Nat → Int32} {tl : Nat → Nat → Int32} {kl : Nat} {kf : Nat → Int64} (hV : SV w h k R N kl sP gT gC) (hA : STA w h R p n sp s1 s2 s3 s4 s5 sP sC sH tl kl kf) (hc : Cm w h R n p) (ho : ¬ ovr w h R p) :
    ∃ tl' kf', fX3_worthOfStart N s1 s2 s3 s4 s5 sP sC sH tl kl kf (nI w) (nI h) (nI (w * h)) gT gC = some (iI (wv w h R (w * h - n) p), sC, sH, tl', kf') ∧ STA w h R p n sp s1 s2 s3 s4 s5 sP sC sH tl' kl kf' ∧ ¬ byt kf' (plc w h p) = 0 := by
  obtain ⟨a1, a2, a3, a4, a5, a6, a7, a8, a9, a10, a11, a12⟩ := hA
  have hwh := hV.1.2.2.2.2.1
  obtain ⟨tl', kf', e1, e2, e3, e4⟩ := c_search hV 20 n (by omega) p sC sH tl kf hc ho a7 a8 a12
  refine ⟨tl', kf', ?_, ⟨a1, a2, a3, a4, a5, a6, a7, a8, a9, a10, a11, e2⟩, e4⟩
  unfold fX3_worthOfStart
  rw [a2, a3, a4, a5, a6, e1]
  rfl
theorem c_worthM {w h k : Nat} {R : List Nat} {N : Nat} {gT gC : Nat → Int32} {p : Pos} {n : Nat} {sp s1 s2 s3 s4 s5 : Int32} {sP sC sH : Nat → Int32} {tl : Nat → Nat → Int32} {kl : Nat} {kf : Nat → Int64} (hV : SV w h k R N kl sP gT gC) (hA : STA w h R p n sp s1 s2 s3 s4 s5 sP sC sH tl kl kf) (hc : Cm w h R n p) (ho : ¬ ovr w h R p) {x : Nat} (hx : x < w) (hl : (p x).length < h) :
    ∃ tl' kf', fX3_worthOfMove N s1 s2 s3 s4 s5 sP sC sH tl kl kf (nI w) (nI h) (nI (w * h)) gT gC (nI x) = some (iI (mvW w h R (w * h - n - 1) p x), sC, sH, tl', kf') ∧ STA w h R p n sp s1 s2 s3 s4 s5 sP sC sH tl' kl kf' := by
  obtain ⟨a1, a2, a3, a4, a5, a6, a7, a8, a9, a10, a11, a12⟩ := hA
  have hwh := hV.1.2.2.2.2.1
  obtain ⟨tl', kf', e1, e2, e3, e4⟩ := c_try hV (srch := fX3_search N 20) (fun _ => c_search hV 20 (n + 1) (by omega)) hc ho a7 a8 a12 hx hl
  refine ⟨tl', kf', ?_, ⟨a1, a2, a3, a4, a5, a6, a7, a8, a9, a10, a11, e2⟩⟩
  unfold fX3_worthOfMove
  rw [a2, a3, a4, a5, a6, e1]
  rfl
theorem emp_on {w h k : Nat} (hB : Bd w h k) {R : List Nat} (hR : RF w h R) : ¬ ovr w h R emp := fun q => by
  rcases q with q | q
  · unfold wonB at q
    rw [mk_emp, hasR_0 hR.1] at q
    cases q
  · rw [cnt_emp] at q
    have : 1 ≤ w * h := Nat.mul_pos hB.1 hB.2.2.1
    omega
/-- after a search from the empty board every position that can come is kept -/
theorem all_kept {w h : Nat} {R : List Nat} {tl : Nat → Nat → Int32} {kf : Nat → Int64} (hS : SI w h R tl kf) (h0 : ¬ byt kf (plc w h emp) = 0) : ∀ n p, Cm w h R n p → ¬ byt kf (plc w h p) = 0
  | 0, p, hc => by rw [show p = emp from hc]; exact h0
  | n + 1, p, hc => by
    obtain ⟨q, x, h1, h2, h3, h4, rfl⟩ := hc
    exact hS.2.1 n q h1 (all_kept hS h0 n q h1) h2 x h3 h4
theorem c_tally {w h k : Nat} (hB : Bd w h k) {R : List Nat} (hR : RF w h R) {gT gC : Nat → Int32} (hT : thA (w * h) R gT gC) (hf : ∀ s, s < w * h → (fl R s).length < 16) {N : Nat} (hN : 200000 < N) {sp : Int32} {sP sC sH : Nat → Int32} {tl : Nat → Nat → Int32} {kl : Nat} {kf : Nat → Int64} (hS : SOL w h R sp sP tl kl kf) {kd n : Nat} (hkd : kd < 5) (hn : n ≤ 16) :
    ∃ v, fX3_tally N sp sP sC sH tl kl kf (nI w) (nI h) (nI (w * h)) gT gC (nI kd) (nI n) = some v ∧ v.1 = nI (fb_sm (ind (fun key => ∃ p, Cm w h R n p ∧ kyM w h p = key ∧ Qk w h R kd p)) ((2 ^ (h + 1)) ^ w)) ∧ v.2.1 = 1 ∧ SOL w h R v.2.1 v.2.2.2.2.2.2.2.1 v.2.2.2.2.2.2.2.2.2.2.1 v.2.2.2.2.2.2.2.2.2.2.2.1 v.2.2.2.2.2.2.2.2.2.2.2.2 := by
  obtain ⟨u, e1, u1, u2, u3, u4, u5, u6, u7, u8, u9⟩ := c_empty (sC := sC) (sH := sH) hB hN hS
  obtain ⟨o1, o2, o3, o4⟩ := SOL_1 u9 u1
  have hst : STA w h R emp 0 u.1 u.2.1 u.2.2.1 u.2.2.2.1 u.2.2.2.2.1 u.2.2.2.2.2.1 u.2.2.2.2.2.2.1 u.2.2.2.2.2.2.2.1 u.2.2.2.2.2.2.2.2.1 u.2.2.2.2.2.2.2.2.2.1 u.2.2.2.2.2.2.2.2.2.2.1 u.2.2.2.2.2.2.2.2.2.2.2 := ⟨u1, by rw [mk_emp]; exact u2, by rw [mk_emp]; exact u3, by rw [kyC_emp]; exact u4, by rw [mir_emp, kyC_emp]; exact u5, u6, u7, u8, o2, o1, o3, o4⟩
  obtain ⟨tl', kf', e2, e3, e4⟩ := c_worthS (STA_V hB hR hT hf (N := N) (by omega) hst) hst rfl (emp_on hB hR)
  obtain ⟨a1, a2, a3, a4, a5, a6, a7, a8, a9, a10, a11, a12⟩ := e3
  have eT := a12.2.2 kd n hkd hn
  have eI : fb_sm (ind (Pk w h R kf' kd n)) ((2 ^ (h + 1)) ^ w) = fb_sm (ind (fun key => ∃ p, Cm w h R n p ∧ kyM w h p = key ∧ Qk w h R kd p)) ((2 ^ (h + 1)) ^ w) := ind_same (fun key => ⟨fun ⟨p, b1, b2, b3, b4⟩ => ⟨p, b1, b2, b4⟩, fun ⟨p, b1, b2, b4⟩ => ⟨p, b1, b2, all_kept a12 e4 n p b1, b4⟩⟩) _
  rw [eI] at eT
  have w1 : fX4_isWithin N (nI kd) (0 : Int32) (4 : Int32) = some 1 := by
    unfold fX4_isWithin
    rw [if_neg (nI_pos (by omega)), if_neg (show ¬ (4 : Int32) < nI kd from nI_nlt (a := 4) (by omega) (by decide))]
  have w2 : fX4_isWithin N (nI n) (0 : Int32) (16 : Int32) = some 1 := by
    unfold fX4_isWithin
    rw [if_neg (nI_pos (by omega)), if_neg (show ¬ (16 : Int32) < nI n from nI_nlt (a := 16) (by omega) (by decide))]
  refine ⟨(nI (fb_sm (ind (fun key => ∃ p, Cm w h R n p ∧ kyM w h p = key ∧ Qk w h R kd p)) ((2 ^ (h + 1)) ^ w)), u.1, u.2.1, u.2.2.1, u.2.2.2.1, u.2.2.2.2.1, u.2.2.2.2.2.1, u.2.2.2.2.2.2.1, u.2.2.2.2.2.2.2.1, u.2.2.2.2.2.2.2.2.1, tl', u.2.2.2.2.2.2.2.2.2.2.1, kf'), ?_, rfl, a1, a10, Or.inr ⟨a1, a9, a11, a12⟩⟩
  unfold fX3_tally
  rw [e1]
  simp only [Option.bind_some]
  rw [e2]
  simp only [Option.bind_some]
  rw [w1]
  simp only [Option.bind_some]
  rw [if_neg (by decide), w2]
  simp only [Option.bind_some]
  rw [if_neg (by decide), okb_t (inbN hkd (by decide)), okb_t (inbN (by omega) (by decide)), nI_clamp (by omega), nI_clamp (by omega), eT]
