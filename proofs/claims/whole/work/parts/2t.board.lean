/-! a board told -/
theorem okB_of {w h k : Nat} (h1 : 1 ≤ w) (h2 : w ≤ 7) (h3 : 1 ≤ h) (h4 : h ≤ 6) (h5 : w * h ≤ 16) (h6 : 2 ≤ k) (h7 : k ≤ 4) : okB w h k = true := by
  unfold okB
  simp only [Bool.and_eq_true, decide_eq_true_eq]
  exact ⟨⟨⟨⟨⟨⟨h1, h2⟩, h3⟩, h4⟩, h5⟩, h6⟩, h7⟩
theorem k_board {bt : Nat} (hbt : bt ≤ 12) (sp cv : Int32) (cc cm ch : Nat → Int32) (gw gh gk gq gr gj : Int32) (gR gT gC : Nat → Int32) (xw xh xk xj xr xc xv xn : Int32) (yR yT yC yW yA yE yU yM yV : Nat → Int32) (a1 a2 a3 a4 : Int32) (h4 : a4 = 0 ∨ a4 = 1) :
    (∃ cd, fX4_board 4194304 (nI bt) sp cv cm ch gw gh gk gq gr gj gR gT gC a1 a2 a3 a4 = some (cd, nI bt, sp, cv, cm, ch, gw, gh, gk, gq, gr, gj, gR, gT, gC) ∧ fX5_board 4194304 xw xh xk xj (nI bt) xr xc xv xn yR yT yC yW yA yE yU yM yV a1 a2 a3 a4 = some (cd, xw, xh, xk, xj, nI bt, xr, xc, xv, xn, yR, yT, yC, yW, yA, yE, yU, yM)) ∨
    (∃ w h k j u v, okB w h k = true ∧ bt < 12 ∧ fX4_board 4194304 (nI bt) sp cv cm ch gw gh gk gq gr gj gR gT gC a1 a2 a3 a4 = some u ∧ fX5_board 4194304 xw xh xk xj (nI bt) xr xc xv xn yR yT yC yW yA yE yU yM yV a1 a2 a3 a4 = some v ∧ u.1 = v.1 ∧ u.2.1 = nI (bt + 1) ∧ u.2.2.1 = 0 ∧ gmA w 0 (fun _ => 0) u.2.2.2.1 cc u.2.2.2.2.1 u.2.2.2.2.2.1 ∧ GRD w h k j u.2.2.2.2.2.2.1 u.2.2.2.2.2.2.2.1 u.2.2.2.2.2.2.2.2.1 u.2.2.2.2.2.2.2.2.2.1 u.2.2.2.2.2.2.2.2.2.2.1 u.2.2.2.2.2.2.2.2.2.2.2.1 u.2.2.2.2.2.2.2.2.2.2.2.2.1 u.2.2.2.2.2.2.2.2.2.2.2.2.2.1 u.2.2.2.2.2.2.2.2.2.2.2.2.2.2 ∧ REF w h k j v.2.1 v.2.2.1 v.2.2.2.1 v.2.2.2.2.1 v.2.2.2.2.2.2.1 v.2.2.2.2.2.2.2.2.2.2.1 v.2.2.2.2.2.2.2.2.2.2.2.1 v.2.2.2.2.2.2.2.2.2.2.2.2.1 v.2.2.2.2.2.2.2.2.2.2.2.2.2.1 v.2.2.2.2.2.2.2.2.2.2.2.2.2.2.1 v.2.2.2.2.2.2.2.2.2.2.2.2.2.2.2.1 v.2.2.2.2.2.2.2.2.2.2.2.2.2.2.2.2.1 ∧ v.2.2.2.2.2.1 = nI (bt + 1) ∧ v.2.2.2.2.2.2.2.2.1 = nI 0 ∧ v.2.2.2.2.2.2.2.2.2.1 = nI (kyM w h emp)) := by
  unfold fX4_board fX5_board
  rw [show (1 : Int64) = (1 : Int32).toInt64 by decide, show (7 : Int64) = (7 : Int32).toInt64 by decide, show (6 : Int64) = (6 : Int32).toInt64 by decide, show (2 : Int64) = (2 : Int32).toInt64 by decide, show (4 : Int64) = (4 : Int32).toInt64 by decide]
  simp only [in_eq]
  rcases winr 4194304 a1 (lo := 1) (hi := 7) (by decide) (by decide) with ⟨w, w1, w2, rfl, e1⟩ | ⟨e1, _⟩
  · have e1' : fX4_isWithin 4194304 (nI w) (1 : Int32) (7 : Int32) = some 1 := e1
    rw [e1']
    simp only [Option.bind_some]
    rw [if_neg n10, if_neg n10]
    rcases winr 4194304 a2 (lo := 1) (hi := 6) (by decide) (by decide) with ⟨h, h1, h2, rfl, e2⟩ | ⟨e2, _⟩
    · have e2' : fX4_isWithin 4194304 (nI h) (1 : Int32) (6 : Int32) = some 1 := e2
      rw [e2']
      simp only [Option.bind_some]
      rw [if_neg n10, if_neg n10]
      by_cases q : (16 : Int32) < nI w * nI h
      · rw [if_pos q, if_pos q]
        exact Or.inl ⟨_, rfl, rfl⟩
      · rw [if_neg q, if_neg q]
        have hwh : w * h ≤ 16 := by
          have hb : w * h ≤ 7 * 6 := Nat.mul_le_mul w2 h2
          rw [pk_mul] at q
          have q' : ¬ nI 16 < nI (w * h) := q
          rw [nI_ltI (by decide) (by omega)] at q'
          omega
        rcases winr 4194304 a3 (lo := 2) (hi := 4) (by decide) (by decide) with ⟨k, k1, k2, rfl, e3⟩ | ⟨e3, _⟩
        · have e3' : fX4_isWithin 4194304 (nI k) (2 : Int32) (4 : Int32) = some 1 := e3
          rw [e3']
          simp only [Option.bind_some]
          rw [if_neg n10, if_neg n10]
          by_cases hd : bt = 12
          · left
            rw [if_neg (show ¬ nI bt < (12 : Int32) by rw [hd]; decide), if_pos (show nI bt = (12 : Int32) by rw [hd]; rfl)]
            exact ⟨_, rfl, rfl⟩
          · right
            have hb := okB_of w1 w2 h1 h2 hwh k1 k2
            obtain ⟨j, rfl⟩ : ∃ j, a4 = jI j := by
              rcases h4 with e | e
              · exact ⟨false, e⟩
              · exact ⟨true, e⟩
            obtain ⟨u, f1, f2⟩ := c_tell hb j gR gT gC
            obtain ⟨v, f3, f4, f5, f6⟩ := m_begin hb j xc yR yT yC yW yA yE yU yM yV
            obtain ⟨z, f7, f8⟩ := c_clear (N := 4194304) (by decide) w cc cm ch (fun _ => 0)
            rw [if_pos (show nI bt < (12 : Int32) from nI_lt (b := 12) (by omega) (by decide)), if_neg (show ¬ nI bt = (12 : Int32) from fun e => hd ((nI_eq (b := 12) (by omega) (by decide)).mp e)), f1, f3]
            simp only [Option.bind_some]
            unfold fX3_forget
            simp only [Option.bind_some]
            rw [f7]
            refine ⟨w, h, k, j, _, _, hb, by omega, rfl, rfl, ?_, ?_, rfl, f8, f2, f4, ?_, f5, f6⟩
            · show u.2.2.2.2.1 = v.2.2.2.2.1
              rw [f2.2.2.2.2.2.1.1, f4.2.2.2.2.1.1]
            · exact nI_1 bt
            · exact nI_1 bt
        · have e3' : fX4_isWithin 4194304 a3 (2 : Int32) (4 : Int32) = some 0 := e3
          rw [e3']
          exact Or.inl ⟨_, rfl, rfl⟩
    · have e2' : fX4_isWithin 4194304 a2 (1 : Int32) (6 : Int32) = some 0 := e2
      rw [e2']
      exact Or.inl ⟨_, rfl, rfl⟩
  · have e1' : fX4_isWithin 4194304 a1 (1 : Int32) (7 : Int32) = some 0 := e1
    rw [e1']
    exact Or.inl ⟨_, rfl, rfl⟩
