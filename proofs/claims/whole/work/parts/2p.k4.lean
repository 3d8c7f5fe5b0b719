/-! sheets: both sides answer alike -/
theorem n10 : ¬ (1 : Int32) = 0 := by decide
def shA (l f z : Int32) (q : Nat → Int32) (F Z : Int32) (it : Nat → Int32) : Prop := (¬ l = 0 ∧ F < 0) ∨ (l = 0 ∧ ∃ fm sz : Nat, fm ≤ 2 ∧ sz ≤ 20 ∧ f = nI fm ∧ F = nI fm ∧ z = nI sz ∧ Z = nI sz ∧ ∀ i, i < sz → q i = it i)
def SHT (ql qf qz : Nat → Int32) (qi : Nat → Nat → Int32) (yF yZ yI : Nat → Int32) : Prop := ∀ s, s < 4 → shA (ql s) (qf s) (qz s) (qi s) (yF s) (yZ s) (fun i => yI (20 * s + i))
theorem sh_case (N : Nat) (a : Int32) : (∃ s, s < 4 ∧ a = nI s ∧ fX4_isSheet N a = some 1 ∧ fX5_isSheet N a = some 1) ∨ (fX4_isSheet N a = some 0 ∧ fX5_isSheet N a = some 0) := by
  unfold fX4_isSheet fX5_isSheet
  rw [l0, show (3 : Int64) = (3 : Int32).toInt64 by decide, in_eq]
  rcases winr N a (lo := 0) (hi := 3) (by decide) (by decide) with ⟨i, _, hi, e, e1⟩ | ⟨e1, _⟩
  · have e1' : fX4_isWithin N a (0 : Int32) (3 : Int32) = some 1 := e1
    rw [e1']
    exact Or.inl ⟨i, by omega, e, rfl, rfl⟩
  · have e1' : fX4_isWithin N a (0 : Int32) (3 : Int32) = some 0 := e1
    rw [e1']
    exact Or.inr ⟨rfl, rfl⟩
theorem fm_case (N : Nat) (a : Int32) : (∃ f, f ≤ 2 ∧ a = nI f ∧ fX4_isForm N a = some 1 ∧ fX5_in N a.toInt64 (0 : Int64) (2 : Int64) = some 1) ∨ (fX4_isForm N a = some 0 ∧ fX5_in N a.toInt64 (0 : Int64) (2 : Int64) = some 0) := by
  unfold fX4_isForm
  rw [l0, show (2 : Int64) = (2 : Int32).toInt64 by decide, in_eq]
  rcases winr N a (lo := 0) (hi := 2) (by decide) (by decide) with ⟨i, _, hi, e, e1⟩ | ⟨e1, _⟩
  · have e1' : fX4_isWithin N a (0 : Int32) (2 : Int32) = some 1 := e1
    rw [e1']
    exact Or.inl ⟨i, by omega, e, rfl, rfl⟩
  · have e1' : fX4_isWithin N a (0 : Int32) (2 : Int32) = some 0 := e1
    rw [e1']
    exact Or.inr ⟨rfl, rfl⟩
theorem in4 {s : Nat} (hs : s < 4) : inb (nI s) 4 = true := inbN hs (by decide)
theorem cl4 {s : Nat} (hs : s < 4) : (nI s).toNatClampNeg = s := nI_clamp (by omega)
theorem ix20 (s i : Nat) : (20 : Int32) * nI s + nI i = nI (20 * s + i) := by
  rw [show (20 : Int32) = nI 20 from rfl, pk_mul, nI_add]
theorem F_pos {fm : Nat} (h : fm ≤ 2) : 0 ≤ nI fm := nI_pos' (by omega)
theorem k_sheet {N : Nat} (hN : 300000 < N) {ql qf qz : Nat → Int32} {qi : Nat → Nat → Int32} {yF yZ yI : Nat → Int32} (hQ : SHT ql qf qz qi yF yZ yI) (dn a b c : Int32) : ∃ u v, fX4_sheet N dn ql qf qz qi a b c = some u ∧ fX5_sheet N dn yF yZ yI a b c = some v ∧ u.1 = v.1 ∧ u.2.1 = v.2.1 ∧ SHT u.2.2.1 u.2.2.2.1 u.2.2.2.2.1 u.2.2.2.2.2 v.2.2.1 v.2.2.2.1 v.2.2.2.2 := by
  unfold fX4_sheet fX5_sheet
  rcases sh_case N a with ⟨s, hs, rfl, e1, e2⟩ | ⟨e1, e2⟩
  · rcases fm_case N b with ⟨f, hf, rfl, e3, e4⟩ | ⟨e3, e4⟩
    · rw [e1, e2]
      simp only [Option.bind_some]
      rw [if_neg n10, if_neg n10, e3, e4]
      simp only [Option.bind_some]
      rw [if_neg n10, if_neg n10]
      by_cases h20 : c ≤ 20
      · rw [if_pos h20, if_pos h20]
        by_cases h0 : 0 ≤ c
        · rw [if_pos h0, if_pos h0, okb_t (in4 hs), okb_t (in4 hs), okb_t (in4 hs), cl4 hs]
          have hc0 : ¬ c < 0 := fun q => by
            have h1 := (fa_le _ _).mp h0
            have h2 := (fa_lt _ _).mp q
            omega
          obtain ⟨m, hm, rfl⟩ := nI_of hc0
          have hm20 : m ≤ 20 := (nI_leI hm (by decide)).mp h20
          obtain ⟨g, g1, g2⟩ := c_fill (N := N) (n := 20) (by decide) (by omega) (qi s) 0
          obtain ⟨r, r1, r2, r3⟩ := lpN (fun ct t i => fX5_sheet_L56 N (nI s) (nI m) ct t i) m (fun i t => (∀ x, x < i → t (20 * s + x) = 0) ∧ ∀ x, (∀ y, y < i → x ≠ 20 * s + y) → t x = yI x) (fun t => (∀ x, x < m → t (20 * s + x) = 0) ∧ ∀ x, (∀ y, y < m → x ≠ 20 * s + y) → t x = yI x) (by
              rintro ct i t hi ⟨j1, j2⟩
              left
              refine ⟨upd t (20 * s + i) 0, ⟨fun x hx => ?_, fun x hx => ?_⟩, ?_⟩
              · by_cases e : x = i
                · rw [e, pk_us]
                · rw [pk_un (by omega)]
                  exact j1 x (by omega)
              · rw [pk_un (hx i (by omega))]
                exact j2 x (fun y hy => hx y (by omega))
              · show fX5_sheet_L56 N (nI s) (nI m) (ct + 1) t (nI i) = fX5_sheet_L56 N (nI s) (nI m) ct (upd t (20 * s + i) 0) (nI (i + 1))
                rw [fX5_sheet_L56, if_neg (nI_ge hi (by omega)), ix20, okb_t (inbN (by omega) (by decide)), nI_clamp (by omega), nI_1]) (by
              rintro ct t hI
              refine ⟨t, ?_, hI⟩
              show fX5_sheet_L56 N (nI s) (nI m) (ct + 1) t (nI m) = _
              rw [fX5_sheet_L56, if_pos (nI_le (Nat.le_refl _) hm)]) m 0 N yI (by omega) (by omega) ⟨fun x hx => absurd hx (Nat.not_lt_zero x), fun _ _ => rfl⟩
          refine ⟨(nI m, dn, upd ql s 0, upd qf s (nI f), upd qz s (nI m), upT qi s g), (nI m, dn, upd yF s (nI f), upd yZ s (nI m), r), ?_, ?_, rfl, rfl, fun t ht => ?_⟩
          · unfold fX2_renew
            rw [g1]
            rfl
          · rw [i0, r1]
            rfl
          · show shA (upd ql s 0 t) (upd qf s (nI f) t) (upd qz s (nI m) t) (upT qi s g t) (upd yF s (nI f) t) (upd yZ s (nI m) t) (fun i => r (20 * t + i))
            by_cases e : t = s
            · subst e
              rw [pk_us, pk_us, pk_us, pk_us, pk_us]
              refine Or.inr ⟨rfl, f, m, hf, hm20, rfl, rfl, rfl, rfl, fun i hi => ?_⟩
              unfold upT
              rw [if_pos rfl, g2 i (by omega)]
              exact (r2 i hi).symm
            · rw [pk_un e, pk_un e, pk_un e, pk_un e, pk_un e]
              unfold upT
              rw [if_neg e]
              rcases hQ t ht with q | ⟨z, fm, sz, a1, a2, a3, a4, a5, a6, a7⟩
              · exact Or.inl q
              · refine Or.inr ⟨z, fm, sz, a1, a2, a3, a4, a5, a6, fun i hi => ?_⟩
                exact (a7 i hi).trans (r3 (20 * t + i) (fun y hy => by omega)).symm
        · rw [if_neg h0, if_neg h0]
          exact ⟨_, _, rfl, rfl, rfl, rfl, hQ⟩
      · rw [if_neg h20, if_neg h20]
        exact ⟨_, _, rfl, rfl, rfl, rfl, hQ⟩
    · rw [e1, e2]
      simp only [Option.bind_some]
      rw [if_neg n10, if_neg n10, e3, e4]
      exact ⟨_, _, rfl, rfl, rfl, rfl, hQ⟩
  · rw [e1, e2]
    exact ⟨_, _, rfl, rfl, rfl, rfl, hQ⟩
theorem neg_no {x : Int32} (h : x < 0) : ¬ 0 ≤ x := fun q => by
  have h1 := (fa_le _ _).mp q
  have h2 := (fa_lt _ _).mp h
  omega
theorem k_lose {N : Nat} {ql qf qz : Nat → Int32} {qi : Nat → Nat → Int32} {yF yZ yI : Nat → Int32} (hQ : SHT ql qf qz qi yF yZ yI) (dn a : Int32) : ∃ u v, fX4_lose N dn ql qz a = some u ∧ fX5_lose N dn yF yZ a = some v ∧ u.1 = v.1 ∧ u.2.1 = v.2.1 ∧ SHT u.2.2 qf qz qi v.2.2 yZ yI := by
  unfold fX4_lose fX5_lose
  rcases sh_case N a with ⟨s, hs, rfl, e1, e2⟩ | ⟨e1, e2⟩
  · rw [e1, e2]
    simp only [Option.bind_some]
    rw [if_neg n10, if_neg n10, okb_t (in4 hs), okb_t (in4 hs), okb_t (in4 hs), okb_t (in4 hs), okb_t (in4 hs), okb_t (in4 hs), cl4 hs]
    rcases hQ s hs with ⟨q1, q2⟩ | ⟨z, fm, sz, a1, a2, a3, a4, a5, a6, a7⟩
    · rw [if_neg q1, if_neg (neg_no q2)]
      exact ⟨_, _, rfl, rfl, rfl, rfl, hQ⟩
    · rw [if_pos z, a4, if_pos (F_pos a1)]
      refine ⟨_, _, rfl, rfl, ?_, rfl, fun t ht => ?_⟩
      · show qz s = yZ s
        rw [a5, a6]
      · show shA (upd ql s 1 t) (qf t) (qz t) (qi t) (upd yF s (-1) t) (yZ t) _
        by_cases e : t = s
        · rw [e, pk_us, pk_us]
          exact Or.inl ⟨by decide, by decide⟩
        · rw [pk_un e, pk_un e]
          exact hQ t ht
  · rw [e1, e2]
    exact ⟨_, _, rfl, rfl, rfl, rfl, hQ⟩
/-- what stands in the way of an item -/
theorem find_lack {N s : Nat} (hs : s < 4) {l f z : Int32} {q : Nat → Int32} {yF yZ : Nat → Int32} {it : Nat → Int32} (hA : shA l f z q (yF s) (yZ s) it) (dn : Int32) {g : Nat} (hg : g ≤ 2) (x : Int32) :
    (∃ cd r : Int32, ¬ cd = 0 ∧ ¬ r = 0 ∧ fX4_refuse N cd = some (r, cd) ∧ fX2_findingAt N l f z (nI g) x = some cd ∧ fX5_lacks N dn yF yZ (nI s) (nI g) x = some (r, cd)) ∨ (∃ i sz, i < sz ∧ sz ≤ 20 ∧ l = 0 ∧ f = nI g ∧ yF s = nI g ∧ z = nI sz ∧ x = nI i ∧ (∀ i, i < sz → q i = it i) ∧ fX2_findingAt N l f z (nI g) x = some 0 ∧ fX5_lacks N dn yF yZ (nI s) (nI g) x = some (0, dn)) := by
  unfold fX2_findingAt fX5_lacks
  rw [okb_t (in4 hs), okb_t (in4 hs), okb_t (in4 hs), cl4 hs]
  rcases hA with ⟨q1, q2⟩ | ⟨z0, fm, sz, a1, a2, a3, a4, a5, a6, a7⟩
  · rw [if_neg q1, if_neg (neg_no q2)]
    exact Or.inl ⟨1, -10 - 1, by decide, by decide, rfl, rfl, rfl⟩
  · rw [if_pos z0, a4, if_pos (F_pos a1), a3]
    by_cases e : nI fm = nI g
    · rw [if_pos e, if_pos e, a5, a6, l0, in_eq]
      rcases wcase x (n := sz) (by omega) with ⟨i, hi, rfl⟩ | hx
      · right
        rw [win_t hi (by omega)]
        exact ⟨i, sz, hi, a2, z0, e, e, rfl, rfl, a7, rfl, rfl⟩
      · left
        rw [win_f (by omega) hx]
        exact ⟨2, -10 - 2, by decide, by decide, rfl, rfl, rfl⟩
    · rw [if_neg e, if_neg e]
      exact Or.inl ⟨3, -10 - 3, by decide, by decide, rfl, rfl, rfl⟩
theorem stor {N : Nat} {g : Nat} (hg : g ≤ 2) (q : Nat → Int32) {i : Nat} (hi : i < 20) (v : Int32) : ∃ c, fX2_store N (nI g) q (nI i) v = some (upd q i c) ∧ fX5_cut N (nI g) v = some c := by
  have hin : inb (nI i) 20 = true := inbN hi (by decide)
  unfold fX2_store fX5_cut
  rw [okb_t hin, okb_t hin, okb_t hin, nI_clamp (by omega)]
  rcases (show g = 0 ∨ g = 1 ∨ g = 2 by omega) with e | e | e
  · subst e
    exact ⟨v.toInt8.toInt32, rfl, rfl⟩
  · subst e
    exact ⟨v.toInt16.toInt32, rfl, rfl⟩
  · subst e
    exact ⟨v, rfl, rfl⟩
theorem SHT_item {ql qf qz : Nat → Int32} {qi : Nat → Nat → Int32} {yF yZ yI : Nat → Int32} (hQ : SHT ql qf qz qi yF yZ yI) {s i : Nat} (hs : s < 4) (hi : i < 20) (c : Int32) : SHT ql qf qz (upT qi s (upd (qi s) i c)) yF yZ (upd yI (20 * s + i) c) := fun t ht => by
  rcases hQ t ht with q | ⟨z, fm, sz, a1, a2, a3, a4, a5, a6, a7⟩
  · exact Or.inl q
  · refine Or.inr ⟨z, fm, sz, a1, a2, a3, a4, a5, a6, fun x hx => ?_⟩
    show upT qi s (upd (qi s) i c) t x = upd yI (20 * s + i) c (20 * t + x)
    unfold upT
    by_cases e : t = s
    · subst e
      rw [if_pos rfl]
      by_cases u : x = i
      · rw [u, pk_us, pk_us]
      · rw [pk_un u, pk_un (by omega)]
        exact a7 x hx
    · rw [if_neg e, pk_un (by omega)]
      exact a7 x hx
