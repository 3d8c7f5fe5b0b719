/-! the reference's second pass, and its whole table -/
theorem lpD {σ τ : Type} (L : Nat → σ → Int32 → Option τ) (n : Nat) (I : Nat → σ → Prop) (Q : τ → Prop)
    (hs : ∀ ct d s, d < n → I (d + 1) s → ∃ s', I d s' ∧ L (ct + 1) s (nI d) = L ct s' (nI d + (-1)))
    (he : ∀ ct s, I 0 s → ∃ r, L (ct + 1) s (-1) = some r ∧ Q r) :
    ∀ d ct s, d ≤ n → d < ct → I d s → ∃ r, L ct s (nI d + (-1)) = some r ∧ Q r := by
  intro d
  induction d with
  | zero =>
    intro ct s _ h2 hI
    obtain ⟨c, rfl⟩ : ∃ c, ct = c + 1 := ⟨ct - 1, by omega⟩
    have e : nI 0 + (-1) = (-1 : Int32) := by decide
    rw [e]
    exact he c s hI
  | succ d ih =>
    intro ct s h1 h2 hI
    obtain ⟨c, rfl⟩ : ∃ c, ct = c + 1 := ⟨ct - 1, by omega⟩
    rw [pk_m1]
    obtain ⟨s', hI', e⟩ := hs c d s (by omega) hI
    rw [e]
    exact ih c s' (by omega) (by omega) hI'
noncomputable def ctD (P : Nat → Prop) (al K : Nat) : Nat := fb_sm (fun i => ind P (al - 1 - i)) (al - K)
theorem ctD_step {P : Nat → Prop} {al K : Nat} (h : K < al) : ctD P al K = ctD P al (K + 1) + ind P K := by
  unfold ctD
  rw [show al - K = (al - (K + 1)) + 1 by omega, fb_sm_succ, show al - 1 - (al - (K + 1)) = K by omega]
theorem ctD_all (P : Nat → Prop) (al : Nat) : ctD P al 0 = fb_sm (ind P) al := by
  unfold ctD
  rw [Nat.sub_zero]
  exact fb_sm_rev (ind P) al
def GD (w h : Nat) (R : List Nat) (K : Nat) (yT yA yE yU : Nat → Int32) : Prop :=
  (∀ key, key < (2 ^ (h + 1)) ^ w → ¬ yT key = -128 → ∃ n, Pc w h R n key) ∧
  (∀ n p, Cm w h R n p → yT (kyM w h p) = if K ≤ kyM w h p then val1 w h R p else val0 w h R p) ∧
  (∀ n, n ≤ 16 → yA n = nI (ctD (Ps w h R (fun v => 0 < v) n) ((2 ^ (h + 1)) ^ w) K)) ∧
  (∀ n, n ≤ 16 → yE n = nI (ctD (Ps w h R (fun v => v = 0) n) ((2 ^ (h + 1)) ^ w) K)) ∧
  (∀ n, n ≤ 16 → yU n = nI (ctD (Ps w h R (fun v => v < 0) n) ((2 ^ (h + 1)) ^ w) K))
theorem dn_no {f : Nat → Int32} {P : Nat → Nat → Prop} {al K : Nat} (hK : K < al) (hf : ∀ m, m ≤ 16 → f m = nI (ctD (P m) al (K + 1))) (hn : ∀ m, ¬ P m K) : ∀ m, m ≤ 16 → f m = nI (ctD (P m) al K) := by
  intro m hm
  have e := ctD_step (P := P m) hK
  rw [ind_f (hn m), Nat.add_zero] at e
  rw [hf m hm, e]
theorem dn_up {f : Nat → Int32} {P : Nat → Nat → Prop} {al K n : Nat} (hK : K < al) (hf : ∀ m, m ≤ 16 → f m = nI (ctD (P m) al (K + 1))) (hn : ∀ m, P m K ↔ m = n) : ∀ m, m ≤ 16 → upd f n (f n + 1) m = nI (ctD (P m) al K) := by
  intro m hm
  have e9 := ctD_step (P := P m) hK
  by_cases e : m = n
  · subst e
    rw [ind_t ((hn m).mpr rfl)] at e9
    rw [pk_us, hf m hm, e9, nI_1]
  · rw [ind_f (fun q => e ((hn m).mp q)), Nat.add_zero] at e9
    rw [pk_un e, hf m hm, e9]
/-- a key without a game that goes on: nothing changes -/
theorem GD_skip {w h : Nat} {R : List Nat} {K : Nat} {yT yA yE yU : Nat → Int32} (hK : K < (2 ^ (h + 1)) ^ w) (hg : GD w h R (K + 1) yT yA yE yU) (hn : ∀ n p, Cm w h R n p → kyM w h p = K → ovr w h R p) : GD w h R K yT yA yE yU := by
  obtain ⟨g1, g2, g3, g4, g5⟩ := hg
  refine ⟨g1, fun n p hc => ?_, dn_no hK g3 (fun m ⟨p, a, b, c, _⟩ => c (hn m p a b)), dn_no hK g4 (fun m ⟨p, a, b, c, _⟩ => c (hn m p a b)), dn_no hK g5 (fun m ⟨p, a, b, c, _⟩ => c (hn m p a b))⟩
  rw [g2 n p hc]
  by_cases e : kyM w h p = K
  · have ho := hn n p hc e
    rw [if_neg (by omega), if_pos (by omega)]
    unfold val0 val1
    rcases ho with q | q
    · rw [if_pos q, if_pos q]
    · by_cases r : wonB w R p = true
      · rw [if_pos r, if_pos r]
      · rw [if_neg r, if_neg r, if_pos q, if_pos q]
  · by_cases q : K + 1 ≤ kyM w h p
    · rw [if_pos q, if_pos (by omega)]
    · rw [if_neg q, if_neg (by omega)]
theorem GD_on {w h : Nat} {R : List Nat} {yT yA yE yU yA' yE' yU' : Nat → Int32} {n : Nat} {p : Pos} (hg : GD w h R (kyM w h p + 1) yT yA yE yU) (hc : Cm w h R n p) (ho : ¬ ovr w h R p)
    (hA : ∀ m, m ≤ 16 → yA' m = nI (ctD (Ps w h R (fun v => 0 < v) m) ((2 ^ (h + 1)) ^ w) (kyM w h p))) (hE : ∀ m, m ≤ 16 → yE' m = nI (ctD (Ps w h R (fun v => v = 0) m) ((2 ^ (h + 1)) ^ w) (kyM w h p))) (hU : ∀ m, m ≤ 16 → yU' m = nI (ctD (Ps w h R (fun v => v < 0) m) ((2 ^ (h + 1)) ^ w) (kyM w h p))) :
    GD w h R (kyM w h p) (upd yT (kyM w h p) (iI (wv w h R (w * h - cnt w p) p))) yA' yE' yU' := by
  obtain ⟨g1, g2, g3, g4, g5⟩ := hg
  refine ⟨fun key hk hv => ?_, fun m q hq => ?_, hA, hE, hU⟩
  · by_cases e : key = kyM w h p
    · exact ⟨n, p, hc, e.symm⟩
    · rw [pk_un e] at hv
      exact g1 key hk hv
  · by_cases e : kyM w h q = kyM w h p
    · have e2 := (Cm_one hq hc e).1
      subst e2
      rw [pk_us, if_pos (Nat.le_refl _)]
      unfold val1
      rw [if_neg (fun r => ho (Or.inl r)), if_neg (fun r => ho (Or.inr r))]
    · rw [pk_un e, g2 m q hq]
      by_cases r : kyM w h p + 1 ≤ kyM w h q
      · rw [if_pos r, if_pos (by omega)]
      · rw [if_neg r, if_neg (by omega)]
theorem m_down {w h k : Nat} (hB : Bd w h k) {R : List Nat} {N : Nat} (hN : 2097152 < N) {yT yA yE yU : Nat → Int32} (hg : GD w h R ((2 ^ (h + 1)) ^ w) yT yA yE yU) :
    ∃ r, fX5_goDown_L7 N (nI w) (nI h) N yT yA yE yU (nI ((2 ^ (h + 1)) ^ w) + (-1)) = some r ∧ GD w h R 0 r.1 r.2.1 r.2.2.1 r.2.2.2 := by
  obtain ⟨ea, hal⟩ := al_eq hB
  have hwh := hB.2.2.2.2.1
  refine lpD (fun ct (s : (Nat → Int32) × (Nat → Int32) × (Nat → Int32) × (Nat → Int32)) i => fX5_goDown_L7 N (nI w) (nI h) ct s.1 s.2.1 s.2.2.1 s.2.2.2 i) ((2 ^ (h + 1)) ^ w) (fun K s => GD w h R K s.1 s.2.1 s.2.2.1 s.2.2.2) (fun r => GD w h R 0 r.1 r.2.1 r.2.2.1 r.2.2.2) ?_ ?_ ((2 ^ (h + 1)) ^ w) N (yT, yA, yE, yU) (Nat.le_refl _) (by omega) hg
  · rintro ct K ⟨yT, yA, yE, yU⟩ hK hg
    have hin : inb (nI K) 2097152 = true := inbN (by omega) (by decide)
    have hcl : (nI K).toNatClampNeg = K := nI_clamp (by omega)
    have hn0 : ¬ nI K < 0 := nI_pos (by omega)
    have v0 : ∀ n p, Cm w h R n p → kyM w h p = K → yT K = val0 w h R p := fun n p hc e => by
      have := hg.2.1 n p hc
      rw [if_neg (by omega), e] at this
      exact this
    by_cases hv : yT K = -128
    · refine ⟨(yT, yA, yE, yU), GD_skip hK hg (fun n p hc e => ?_), ?_⟩
      · exfalso
        have h1 := v0 n p hc e
        rw [hv] at h1
        unfold val0 at h1
        by_cases a : wonB w R p = true
        · rw [if_pos a] at h1; exact absurd h1 (by decide)
        · rw [if_neg a] at h1
          by_cases b : cnt w p = w * h
          · rw [if_pos b] at h1; exact absurd h1 (by decide)
          · rw [if_neg b] at h1; exact absurd h1 (by decide)
      · show fX5_goDown_L7 N (nI w) (nI h) (ct + 1) yT yA yE yU (nI K) = fX5_goDown_L7 N (nI w) (nI h) ct yT yA yE yU (nI K + (-1))
        rw [fX5_goDown_L7, if_neg hn0, okb_t hin, hcl, if_pos hv]
    · obtain ⟨n, p, hc, rfl⟩ := hg.1 K hK hv
      obtain ⟨hp, hn⟩ := Cm_ok hc
      have hn16 := n_le16 hB hc
      have hval := v0 n p hc rfl
      by_cases ho : ovr w h R p
      · refine ⟨(yT, yA, yE, yU), GD_skip hK hg (fun m q hq e => (Cm_one hq hc e).1 ▸ ho), ?_⟩
        show fX5_goDown_L7 N (nI w) (nI h) (ct + 1) yT yA yE yU (nI (kyM w h p)) = fX5_goDown_L7 N (nI w) (nI h) ct yT yA yE yU (nI (kyM w h p) + (-1))
        rw [fX5_goDown_L7, if_neg hn0, okb_t hin, hcl, if_neg hv, okb_t hin]
        unfold val0 at hval
        by_cases a : wonB w R p = true
        · rw [if_pos a] at hval
          rw [if_pos hval]
        · rw [if_neg a] at hval
          have b : cnt w p = w * h := by
            rcases ho with q | q
            · exact absurd q a
            · exact q
          rw [if_pos b] at hval
          rw [if_neg (by rw [hval]; decide), okb_t hin, if_pos hval]
      · have ha : ¬ wonB w R p = true := fun q => ho (Or.inl q)
        have hb : ¬ cnt w p = w * h := fun q => ho (Or.inr q)
        have hval : yT (kyM w h p) = 0 := by
          unfold val0 at hval
          rw [if_neg ha, if_neg hb] at hval
          exact hval
        have hcl2 := cnt_le hp
        have hT : ∀ x, x < w → (p x).length < h → tabOk w h R yT (nxt w p x) := fun x hx hl => by
          have := hg.2.1 (n + 1) (nxt w p x) (Cm_next hc ho hx hl)
          rw [if_pos (by have := kyM_nxt_lt (h := h) p hx; omega)] at this
          exact this
        have hgr := m_great (R := R) hB hp (by omega) hT (N := N) (by omega)
        have hct := m_cnt hB hp (N := N) (by omega)
        have hbd := wv_b (R := R) (w * h - cnt w p) p hp (by omega) (by omega)
        have hcn : (nI n).toNatClampNeg = n := nI_clamp (by omega)
        have hi17 : inb (nI n) 17 = true := inbN (by omega) (by decide)
        have one : ∀ (Q : Int → Prop), Q (wv w h R (w * h - cnt w p) p) → ∀ m, Ps w h R Q m (kyM w h p) ↔ m = n := fun Q hQ m => ⟨fun ⟨q, a, b, _⟩ => (Cm_one a hc b).2, fun e => ⟨p, by rw [e]; exact hc, rfl, ho, by rw [e, ← hn]; exact hQ⟩⟩
        have non : ∀ (Q : Int → Prop), ¬ Q (wv w h R (w * h - cnt w p) p) → ∀ m, ¬ Ps w h R Q m (kyM w h p) := fun Q hQ m ⟨q, a, b, _, d⟩ => hQ (by
          obtain ⟨e1, e2⟩ := Cm_one a hc b
          subst e1
          rw [hn, ← e2]
          exact d)
        have e0 : (0 : Int32) = iI 0 := by decide
        have start : fX5_goDown_L7 N (nI w) (nI h) (ct + 1) yT yA yE yU (nI (kyM w h p)) = (if iI (wv w h R (w * h - cnt w p) p) ≤ 0 then (if iI (wv w h R (w * h - cnt w p) p) = 0 then fX5_goDown_L7 N (nI w) (nI h) ct (upd yT (kyM w h p) (iI (wv w h R (w * h - cnt w p) p))) yA (upd yE n (yE n + 1)) yU (nI (kyM w h p) + (-1)) else fX5_goDown_L7 N (nI w) (nI h) ct (upd yT (kyM w h p) (iI (wv w h R (w * h - cnt w p) p))) yA yE (upd yU n (yU n + 1)) (nI (kyM w h p) + (-1))) else fX5_goDown_L7 N (nI w) (nI h) ct (upd yT (kyM w h p) (iI (wv w h R (w * h - cnt w p) p))) (upd yA n (yA n + 1)) yE yU (nI (kyM w h p) + (-1))) := by
          rw [fX5_goDown_L7, if_neg hn0, okb_t hin, hcl, if_neg hv, okb_t hin, if_neg (by rw [hval]; decide), okb_t hin, if_neg (by rw [hval]; decide)]
          rw [show (0 : Int32) = nI 0 from rfl] at *
          rw [hct]
          simp only [Option.bind_some]
          rw [remI (by omega), hgr]
          simp only [Option.bind_some]
          rw [okb_t hin, hn, hcn, okb_t hi17, okb_t hi17, okb_t hi17, okb_t hi17, okb_t hi17, okb_t hi17, ← hn, iI_byte hbd.1 hbd.2]
        by_cases hp1 : 0 < wv w h R (w * h - cnt w p) p
        · refine ⟨(upd yT (kyM w h p) (iI (wv w h R (w * h - cnt w p) p)), upd yA n (yA n + 1), yE, yU), GD_on hg hc ho (dn_up hK hg.2.2.1 (one _ hp1)) (dn_no hK hg.2.2.2.1 (non _ (by omega))) (dn_no hK hg.2.2.2.2 (non _ (by omega))), ?_⟩
          show fX5_goDown_L7 N (nI w) (nI h) (ct + 1) yT yA yE yU (nI (kyM w h p)) = _
          rw [start, if_neg (by rw [e0]; exact fun q => by have := (iI_le (by omega) (by omega) (by omega) (by omega)).mp q; omega)]
        · by_cases hz : wv w h R (w * h - cnt w p) p = 0
          · refine ⟨(upd yT (kyM w h p) (iI (wv w h R (w * h - cnt w p) p)), yA, upd yE n (yE n + 1), yU), GD_on hg hc ho (dn_no hK hg.2.2.1 (non _ (by omega))) (dn_up hK hg.2.2.2.1 (one _ hz)) (dn_no hK hg.2.2.2.2 (non _ (by omega))), ?_⟩
            show fX5_goDown_L7 N (nI w) (nI h) (ct + 1) yT yA yE yU (nI (kyM w h p)) = _
            rw [start, if_pos (by rw [e0]; exact (iI_le (by omega) (by omega) (by omega) (by omega)).mpr (by omega)), if_pos (by rw [e0, hz])]
          · refine ⟨(upd yT (kyM w h p) (iI (wv w h R (w * h - cnt w p) p)), yA, yE, upd yU n (yU n + 1)), GD_on hg hc ho (dn_no hK hg.2.2.1 (non _ (by omega))) (dn_no hK hg.2.2.2.1 (non _ hz)) (dn_up hK hg.2.2.2.2 (one _ (by omega))), ?_⟩
            show fX5_goDown_L7 N (nI w) (nI h) (ct + 1) yT yA yE yU (nI (kyM w h p)) = _
            rw [start, if_pos (by rw [e0]; exact (iI_le (by omega) (by omega) (by omega) (by omega)).mpr (by omega)), if_neg (by rw [e0]; exact fun q => hz ((iI_eq (by omega) (by omega) (by omega) (by omega)).mp q))]
  · rintro ct ⟨yT, yA, yE, yU⟩ hg
    refine ⟨(yT, yA, yE, yU), ?_, hg⟩
    show fX5_goDown_L7 N (nI w) (nI h) (ct + 1) yT yA yE yU (-1) = _
    rw [fX5_goDown_L7, if_pos (by decide)]
