/-! items of sheets, copies -/
theorem k_get {N : Nat} {ql qf qz : Nat → Int32} {qi : Nat → Nat → Int32} {yF yZ yI : Nat → Int32} (hQ : SHT ql qf qz qi yF yZ yI) (dn a b c : Int32) : ∃ u v, fX4_get N dn ql qf qz qi a b c = some u ∧ fX5_get N dn yF yZ yI a b c = some v ∧ u.1 = v.1 ∧ u.2 = v.2 := by
  unfold fX4_get fX5_get
  rcases sh_case N a with ⟨s, hs, rfl, e1, e2⟩ | ⟨e1, e2⟩
  · rcases fm_case N b with ⟨f, hf, rfl, e3, e4⟩ | ⟨e3, e4⟩
    · rw [e1, e2]
      simp only [Option.bind_some]
      rw [if_neg n10, if_neg n10, e3, e4]
      simp only [Option.bind_some]
      rw [if_neg n10, if_neg n10, okb_t (in4 hs), cl4 hs]
      rcases find_lack (N := N) hs (hQ s hs) dn hf c with ⟨cd, r, n1, n2, hr, h1, h2⟩ | ⟨i, sz, hi, hsz, z1, z2, z3, z4, z5, z6, h1, h2⟩
      · rw [h1, h2]
        simp only [Option.bind_some]
        rw [if_neg n1, if_neg n2, hr]
        exact ⟨(-2147483648, cd), (-2147483648, cd), rfl, rfl, rfl, rfl⟩
      · subst z5
        rw [h1, h2]
        simp only [Option.bind_some]
        rw [if_pos trivial, if_pos trivial, okb_t (in4 hs), okb_t (inbN (by omega) (by decide)), nI_clamp (by omega), ix20, okb_t (inbN (by omega) (by decide)), nI_clamp (by omega)]
        exact ⟨_, _, rfl, rfl, z6 i hi, rfl⟩
    · rw [e1, e2]
      simp only [Option.bind_some]
      rw [if_neg n10, if_neg n10, e3, e4]
      exact ⟨_, _, rfl, rfl, rfl, rfl⟩
  · rw [e1, e2]
    exact ⟨_, _, rfl, rfl, rfl, rfl⟩
def hpP (z : Nat) (i n : Int32) : Prop := 0 ≤ n.toInt ∧ 0 ≤ i.toInt ∧ i.toInt + n.toInt ≤ (z : Int)
theorem int0 : (0 : Int32).toInt = 0 := by decide
theorem c_part (N : Nat) {z : Nat} (hz : z ≤ 20) (i n : Int32) : (hpP z i n ∧ fX2_hasPart N (nI z) i n = some 1) ∨ (¬ hpP z i n ∧ fX2_hasPart N (nI z) i n = some 0) := by
  unfold fX2_hasPart hpP
  have ez := nI_toInt (n := z) (by omega)
  by_cases h1 : n < 0
  · rw [if_pos h1]
    rw [fa_lt, int0] at h1
    exact Or.inr ⟨fun q => by omega, rfl⟩
  · rw [if_neg h1]
    have h1' := (fa_le _ _).mp (fa_of_nlt h1)
    rw [int0] at h1'
    by_cases h2 : nI z < n
    · rw [if_pos h2]
      rw [fa_lt, ez] at h2
      exact Or.inr ⟨fun q => by omega, rfl⟩
    · rw [if_neg h2]
      have h2' := (fa_le _ _).mp (fa_of_nlt h2)
      rw [ez] at h2'
      by_cases h3 : i < 0
      · rw [if_pos h3]
        rw [fa_lt, int0] at h3
        exact Or.inr ⟨fun q => by omega, rfl⟩
      · rw [if_neg h3]
        have h3' := (fa_le _ _).mp (fa_of_nlt h3)
        rw [int0] at h3'
        have es : (nI z - n).toInt = (z : Int) - n.toInt := by
          rw [fb_subI (by rw [ez]; omega) (by rw [ez]; omega), ez]
        by_cases h4 : nI z - n < i
        · rw [if_pos h4]
          rw [fa_lt, es] at h4
          exact Or.inr ⟨fun q => by omega, rfl⟩
        · rw [if_neg h4]
          have h4' := (fa_le _ _).mp (fa_of_nlt h4)
          rw [es] at h4'
          exact Or.inl ⟨⟨h1', h3', by omega⟩, rfl⟩
theorem nat_of {x : Int32} (h : 0 ≤ x.toInt) : ∃ m : Nat, x = nI m ∧ (m : Int) = x.toInt ∧ m < 2 ^ 31 := by
  have h0 : ¬ x < 0 := fun q => by
    rw [fa_lt, int0] at q
    omega
  obtain ⟨m, hm, rfl⟩ := nI_of h0
  exact ⟨m, rfl, (nI_toInt hm).symm, hm⟩
theorem lsum {a b : Int32} {z : Nat} (hz : z ≤ 20) : (0 < lg_cmp (a.toInt64 + b.toInt64) (nI z).toInt64 ↔ (z : Int) < a.toInt + b.toInt) ∧ (lg_cmp (a.toInt64 + b.toInt64) (nI z).toInt64 ≤ 0 ↔ a.toInt + b.toInt ≤ (z : Int)) := by
  rw [lg_cmp_gt, lg_cmp_le, fa_lt64, fa_le64, lg_i2l_add, Int32.toInt_toInt64, nI_toInt (by omega)]
  exact ⟨Iff.rfl, Iff.rfl⟩
theorem k_copy {N : Nat} (hN : 300000 < N) {ql qf qz : Nat → Int32} {qi : Nat → Nat → Int32} {yF yZ yI : Nat → Int32} (hQ : SHT ql qf qz qi yF yZ yI) (yD : Nat → Int32) (dn a b c d e : Int32) : ∃ u v, fX4_copy N dn ql qf qz qi a b c d e = some u ∧ fX5_copy N dn yF yZ yI yD a b c d e = some v ∧ u.1 = v.1 ∧ u.2.1 = v.2.1 ∧ SHT ql qf qz u.2.2 yF yZ v.2.2.1 := by
  unfold fX4_copy fX5_copy
  rcases sh_case N a with ⟨s, hs, rfl, e1, e2⟩ | ⟨e1, e2⟩
  · rcases sh_case N c with ⟨t, ht, rfl, e3, e4⟩ | ⟨e3, e4⟩
    · rw [e1, e2]
      simp only [Option.bind_some]
      rw [if_neg n10, if_neg n10, e3, e4]
      simp only [Option.bind_some, okb_t (in4 hs), okb_t (in4 ht)]
      rw [if_neg n10, if_neg n10, cl4 hs, cl4 ht]
      rcases hQ s hs with ⟨q1, q2⟩ | ⟨z0, fm, sz, a1, a2, a3, a4, a5, a6, a7⟩
      · rw [if_neg q1, if_pos q2]
        exact ⟨_, _, rfl, rfl, rfl, rfl, hQ⟩
      · rw [if_pos z0, a4, if_neg (show ¬ nI fm < 0 from nI_pos (by omega))]
        rcases hQ t ht with ⟨q1, q2⟩ | ⟨y0, gm, tz, b1, b2, b3, b4, b5, b6, b7⟩
        · rw [if_neg q1, if_neg (neg_no q2)]
          exact ⟨_, _, rfl, rfl, rfl, rfl, hQ⟩
        · rw [if_pos y0, b4, if_pos (F_pos b1), a3, b3]
          by_cases ef : nI fm = nI gm
          · rw [if_pos ef, if_pos ef, a5, a6, b5, b6]
            have c1 := c_part N a2 b e
            have c2 := c_part N b2 d e
            have l1 := (lsum (a := b) (b := e) a2).1
            have l2 := (lsum (a := d) (b := e) b2).2
            have bad : ¬ (hpP sz b e ∧ hpP tz d e) → (Option.bind (fX2_hasPart N (nI sz) b e) (fun u29 => if u29 = 0 then (Option.bind (fX4_refuse N (2 : Int32)) (fun u31 => some (u31.1, u31.2, qi))) else (Option.bind (fX2_hasPart N (nI tz) d e) (fun u32 => if u32 = 0 then (Option.bind (fX4_refuse N (2 : Int32)) (fun u34 => some (u34.1, u34.2, qi))) else (okb ((!decide (b < 0)) && (!decide (d < 0)) && (!decide (e < 0)) && decide (b.toNatClampNeg + e.toNatClampNeg ≤ 20) && decide (d.toNatClampNeg + e.toNatClampNeg ≤ 20)) (some ((1 : Int32), dn, (upT qi t (va_cpy (qi s) (qi t) b.toNatClampNeg d.toNatClampNeg e.toNatClampNeg))))))))) = some ((-10 : Int32) - 2, 2, qi) := fun hbad => by
              rcases c1 with ⟨p1, f1⟩ | ⟨p1, f1⟩
              · rcases c2 with ⟨p2, f2⟩ | ⟨p2, f2⟩
                · exact absurd ⟨p1, p2⟩ hbad
                · rw [f1]
                  simp only [Option.bind_some]
                  rw [if_neg n10, f2]
                  rfl
              · rw [f1]
                rfl
            have hb0 : (b < 0) ↔ b.toInt < 0 := by rw [fa_lt, int0]
            have hd0 : (d < 0) ↔ d.toInt < 0 := by rw [fa_lt, int0]
            have he0 : (e < 0) ↔ e.toInt < 0 := by rw [fa_lt, int0]
            by_cases x1 : b < 0
            · rw [if_pos x1, bad (fun q => by have := q.1.2.1; have := hb0.mp x1; omega)]
              exact ⟨_, _, rfl, rfl, rfl, rfl, hQ⟩
            · rw [if_neg x1]
              by_cases x2 : d < 0
              · rw [if_pos x2, bad (fun q => by have := q.2.2.1; have := hd0.mp x2; omega)]
                exact ⟨_, _, rfl, rfl, rfl, rfl, hQ⟩
              · rw [if_neg x2]
                by_cases x3 : e < 0
                · rw [if_pos x3, bad (fun q => by have := q.1.1; have := he0.mp x3; omega)]
                  exact ⟨_, _, rfl, rfl, rfl, rfl, hQ⟩
                · rw [if_neg x3]
                  by_cases x4 : 0 < lg_cmp (b.toInt64 + e.toInt64) (nI sz).toInt64
                  · rw [if_pos x4, bad (fun q => by have := q.1.2.2; have := l1.mp x4; omega)]
                    exact ⟨_, _, rfl, rfl, rfl, rfl, hQ⟩
                  · rw [if_neg x4]
                    by_cases x5 : lg_cmp (d.toInt64 + e.toInt64) (nI tz).toInt64 ≤ 0
                    · have hbi : 0 ≤ b.toInt := Int.not_lt.mp (fun q => x1 (hb0.mpr q))
                      have hdi : 0 ≤ d.toInt := Int.not_lt.mp (fun q => x2 (hd0.mpr q))
                      have hei : 0 ≤ e.toInt := Int.not_lt.mp (fun q => x3 (he0.mpr q))
                      have hs1 : b.toInt + e.toInt ≤ (sz : Int) := Int.not_lt.mp (fun q => x4 (l1.mpr q))
                      have hs2 := l2.mp x5
                      obtain ⟨i, rfl, hi, _⟩ := nat_of hbi
                      obtain ⟨r, rfl, hr, _⟩ := nat_of hdi
                      obtain ⟨m, rfl, hm, _⟩ := nat_of hei
                      have hsz : i + m ≤ sz := by omega
                      have htz : r + m ≤ tz := by omega
                      have f1 : fX2_hasPart N (nI sz) (nI i) (nI m) = some 1 := by
                        rcases c1 with ⟨_, f1⟩ | ⟨p1, _⟩
                        · exact f1
                        · exact absurd ⟨hei, hbi, hs1⟩ p1
                      have f2 : fX2_hasPart N (nI tz) (nI r) (nI m) = some 1 := by
                        rcases c2 with ⟨_, f1⟩ | ⟨p1, _⟩
                        · exact f1
                        · exact absurd ⟨hei, hdi, hs2⟩ p1
                      have ci : (nI i).toNatClampNeg = i := nI_clamp (by omega)
                      have cr : (nI r).toNatClampNeg = r := nI_clamp (by omega)
                      have cm : (nI m).toNatClampNeg = m := nI_clamp (by omega)
                      obtain ⟨D, D1, D2⟩ := lpN (fun ct f x => fX5_copy_L121 N yI (nI s) (nI i) (nI m) ct f x) m (fun x f => ∀ y, y < x → f y = yI (20 * s + i + y)) (fun f => ∀ y, y < m → f y = yI (20 * s + i + y)) (by
                          rintro ct x f hx hI
                          left
                          refine ⟨upd f x (yI (20 * s + i + x)), fun y hy => ?_, ?_⟩
                          · by_cases e : y = x
                            · rw [e, pk_us]
                            · rw [pk_un e]; exact hI y (by omega)
                          · show fX5_copy_L121 N yI (nI s) (nI i) (nI m) (ct + 1) f (nI x) = fX5_copy_L121 N yI (nI s) (nI i) (nI m) ct (upd f x (yI (20 * s + i + x))) (nI (x + 1))
                            rw [fX5_copy_L121, if_neg (nI_ge hx (by omega)), ix20, nI_add, okb_t (inbN (by omega) (by decide)), okb_t (inbN (by omega) (by decide)), nI_clamp (by omega), nI_clamp (by omega), nI_1]) (by
                          rintro ct f hI
                          refine ⟨f, ?_, hI⟩
                          show fX5_copy_L121 N yI (nI s) (nI i) (nI m) (ct + 1) f (nI m) = _
                          rw [fX5_copy_L121, if_pos (nI_le (Nat.le_refl _) (by omega))]) m 0 N yD (by omega) (by omega) (fun y hy => absurd hy (Nat.not_lt_zero y))
                      obtain ⟨E, E1, E2, E3⟩ := lpN (fun ct f x => fX5_copy_L158 N D (nI t) (nI r) (nI m) ct f x) m (fun x f => (∀ y, y < x → f (20 * t + r + y) = D y) ∧ ∀ y, (∀ v, v < x → y ≠ 20 * t + r + v) → f y = yI y) (fun f => (∀ y, y < m → f (20 * t + r + y) = D y) ∧ ∀ y, (∀ v, v < m → y ≠ 20 * t + r + v) → f y = yI y) (by
                          rintro ct x f hx ⟨j1, j2⟩
                          left
                          refine ⟨upd f (20 * t + r + x) (D x), ⟨fun y hy => ?_, fun y hy => ?_⟩, ?_⟩
                          · by_cases e : y = x
                            · rw [e, pk_us]
                            · rw [pk_un (by omega)]; exact j1 y (by omega)
                          · rw [pk_un (hy x (by omega))]
                            exact j2 y (fun v hv => hy v (by omega))
                          · show fX5_copy_L158 N D (nI t) (nI r) (nI m) (ct + 1) f (nI x) = fX5_copy_L158 N D (nI t) (nI r) (nI m) ct (upd f (20 * t + r + x) (D x)) (nI (x + 1))
                            rw [fX5_copy_L158, if_neg (nI_ge hx (by omega)), ix20, nI_add, okb_t (inbN (by omega) (by decide)), okb_t (inbN (by omega) (by decide)), nI_clamp (by omega), nI_clamp (by omega), nI_1]) (by
                          rintro ct f hI
                          refine ⟨f, ?_, hI⟩
                          show fX5_copy_L158 N D (nI t) (nI r) (nI m) (ct + 1) f (nI m) = _
                          rw [fX5_copy_L158, if_pos (nI_le (Nat.le_refl _) (by omega))]) m 0 N yI (by omega) (by omega) ⟨fun y hy => absurd hy (Nat.not_lt_zero y), fun _ _ => rfl⟩
                      rw [if_pos x5, f1]
                      simp only [Option.bind_some]
                      rw [if_neg n10, f2]
                      simp only [Option.bind_some]
                      rw [if_neg n10, ci, cr, cm, okb_t (by
                        simp only [Bool.and_eq_true, Bool.not_eq_true', decide_eq_true_eq, decide_eq_false_iff_not]
                        exact ⟨⟨⟨⟨x1, x2⟩, x3⟩, by omega⟩, by omega⟩), i0, D1]
                      simp only [Option.bind_some]
                      rw [E1]
                      refine ⟨_, _, rfl, rfl, rfl, rfl, fun v hv => ?_⟩
                      show shA (ql v) (qf v) (qz v) (upT qi t (va_cpy (qi s) (qi t) i r m) v) (yF v) (yZ v) (fun x => E (20 * v + x))
                      by_cases ev : v = t
                      · subst ev
                        refine Or.inr ⟨y0, gm, tz, b1, b2, b3, b4, b5, b6, fun x hx => ?_⟩
                        unfold upT
                        rw [if_pos rfl]
                        by_cases ux : r ≤ x ∧ x < r + m
                        · rw [pk_cpy_in ux.1 ux.2]
                          have e9 := E2 (x - r) (by omega)
                          rw [show 20 * v + r + (x - r) = 20 * v + x by omega] at e9
                          have e8 : qi s (i + (x - r)) = yI (20 * s + (i + (x - r))) := a7 _ (by omega)
                          have e7 := D2 (x - r) (by omega)
                          rw [show 20 * s + i + (x - r) = 20 * s + (i + (x - r)) by omega] at e7
                          show qi s (i + (x - r)) = E (20 * v + x)
                          rw [e8, e9, e7]
                        · rw [pk_cpy_out (by omega)]
                          exact (b7 x hx).trans (E3 (20 * v + x) (fun y hy => by omega)).symm
                      · unfold upT
                        rw [if_neg ev]
                        rcases hQ v hv with q | ⟨w0, wm, wz, d1, d2, d3, d4, d5, d6, d7⟩
                        · exact Or.inl q
                        · refine Or.inr ⟨w0, wm, wz, d1, d2, d3, d4, d5, d6, fun x hx => ?_⟩
                          exact (d7 x hx).trans (E3 (20 * v + x) (fun y hy => by omega)).symm
                    · rw [if_neg x5, bad (fun q => x5 (l2.mpr q.2.2.2))]
                      exact ⟨_, _, rfl, rfl, rfl, rfl, hQ⟩
          · rw [if_neg ef, if_neg ef]
            exact ⟨_, _, rfl, rfl, rfl, rfl, hQ⟩
    · rw [e1, e2]
      simp only [Option.bind_some]
      rw [if_neg n10, if_neg n10, e3, e4]
      exact ⟨_, _, rfl, rfl, rfl, rfl, hQ⟩
  · rw [e1, e2]
    exact ⟨_, _, rfl, rfl, rfl, rfl, hQ⟩
