/-! items of sheets -/
theorem k_put {N : Nat} {ql qf qz : Nat → Int32} {qi : Nat → Nat → Int32} {yF yZ yI : Nat → Int32} (hQ : SHT ql qf qz qi yF yZ yI) (dn a b c d : Int32) : ∃ u v, fX4_put N dn ql qf qz qi a b c d = some u ∧ fX5_put N dn yF yZ yI a b c d = some v ∧ u.1 = v.1 ∧ u.2.1 = v.2.1 ∧ SHT ql qf qz u.2.2 yF yZ v.2.2 := by
  unfold fX4_put fX5_put
  rcases sh_case N a with ⟨s, hs, rfl, e1, e2⟩ | ⟨e1, e2⟩
  · rcases fm_case N b with ⟨f, hf, rfl, e3, e4⟩ | ⟨e3, e4⟩
    · rw [e1, e2]
      simp only [Option.bind_some]
      rw [if_neg n10, if_neg n10, e3, e4]
      simp only [Option.bind_some]
      rw [if_neg n10, if_neg n10, okb_t (in4 hs), cl4 hs]
      rcases find_lack (N := N) hs (hQ s hs) dn hf c with ⟨cd, r, n1, n2, hr, h1, h2⟩ | ⟨i, sz, hi, hsz, z1, z2, z3, z4, z5, z6, h1, h2⟩
      · rw [h1, h2]
        simp only [Option.bind_some]
        rw [if_neg n1, if_neg n2, hr]
        exact ⟨(r, cd, qi), (r, cd, yI), rfl, rfl, rfl, rfl, hQ⟩
      · subst z5
        obtain ⟨x, x1, x2⟩ := stor (N := N) hf (qi s) (show i < 20 by omega) d
        rw [h1, h2]
        simp only [Option.bind_some]
        rw [if_pos trivial, if_pos trivial, okb_t (in4 hs), z2, x1, x2]
        simp only [Option.bind_some]
        rw [ix20, okb_t (inbN (by omega) (by decide)), nI_clamp (by omega)]
        exact ⟨(1, dn, upT qi s (upd (qi s) i x)), (1, dn, upd yI (20 * s + i) x), rfl, rfl, rfl, rfl, SHT_item hQ hs (by omega) x⟩
    · rw [e1, e2]
      simp only [Option.bind_some]
      rw [if_neg n10, if_neg n10, e3, e4]
      exact ⟨(-200, dn, qi), (-200, dn, yI), rfl, rfl, rfl, rfl, hQ⟩
  · rw [e1, e2]
    exact ⟨(-200, dn, qi), (-200, dn, yI), rfl, rfl, rfl, rfl, hQ⟩
