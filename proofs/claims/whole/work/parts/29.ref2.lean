/-! the reference's table: which positions come, what they are worth, how many -/
def RF (w h : Nat) (R : List Nat) : Prop := (∀ r, r ∈ R → r ≠ 0) ∧ (∀ r, r ∈ R → r < 2 ^ 16) ∧ rwSym w h R
theorem mk_lt {w h k : Nat} (hB : Bd w h k) {p : Pos} (hp : okP w h p) (s : Bool) : mk w p s < 2 ^ 16 := by
  apply Nat.lt_pow_two_of_testBit
  intro b hb
  have hw : 0 < w := hB.1
  have e : b = w * (b / w) + b % w := (Nat.div_add_mod b w).symm
  have hz := Nat.mod_lt b hw
  rw [e, mk_bit p s _ hz]
  have h1 : (p (b % w)).length ≤ b / w := by
    have h2 := hp.1 (b % w) hz
    rcases Nat.lt_or_ge (b / w) h with q | q
    · exfalso
      have h3 : w * (b / w + 1) ≤ w * h := Nat.mul_le_mul_left w q
      have h4 := hB.2.2.2.2.1
      rw [Nat.mul_succ] at h3
      omega
    · omega
  rw [List.getElem?_eq_none (by simpa using h1)]
  rfl
theorem kyM_nxt_lt {w h : Nat} (p : Pos) {x : Nat} (hx : x < w) : kyM w h p < kyM w h (nxt w p x) := by
  unfold nxt
  rw [kyM_psh p hx]
  have : 0 < (1 + (sd w p).toNat) * 2 ^ (x * (h + 1) + (p x).length) := Nat.mul_pos (by omega) (Nat.two_pow_pos _)
  omega
theorem sd_nat (w : Nat) (p : Pos) : (sd w p).toNat = cnt w p % 2 := by
  unfold sd
  rcases Nat.mod_two_eq_zero_or_one (cnt w p) with h | h <;> rw [h] <;> rfl
theorem remI {a : Nat} (ha : a < 2 ^ 31) : nI a - nI a / (2 : Int32) * (2 : Int32) = nI (a % 2) := by
  rw [i2]
  exact pk_rem ha (by decide) (by decide)
theorem m_marks {w h k : Nat} (hB : Bd w h k) {p : Pos} (hp : okP w h p) {N : Nat} (hN : 30 < N) (f0 : Nat → Int32) :
    ∃ f, fX5_goUp_L204 N (nI w) (nI h) (nI (kyM w h p)) (nI (cnt w p % 2)) N f0 (nI 0) = some f ∧ (∀ x, x < w → (p x).length < h → f (kyM w h (nxt w p x)) = 0) ∧ ∀ key, (∀ x, x < w → (p x).length < h → key ≠ kyM w h (nxt w p x)) → f key = f0 key := by
  have hw : w ≤ 7 := hB.2.1
  have hh : h ≤ 6 := hB.2.2.2.1
  refine lpN (fun ct f i => fX5_goUp_L204 N (nI w) (nI h) (nI (kyM w h p)) (nI (cnt w p % 2)) ct f i) w (fun z f => (∀ x, x < z → (p x).length < h → f (kyM w h (nxt w p x)) = 0) ∧ ∀ key, (∀ x, x < z → (p x).length < h → key ≠ kyM w h (nxt w p x)) → f key = f0 key) (fun f => (∀ x, x < w → (p x).length < h → f (kyM w h (nxt w p x)) = 0) ∧ ∀ key, (∀ x, x < w → (p x).length < h → key ≠ kyM w h (nxt w p x)) → f key = f0 key) ?_ ?_ w 0 N f0 (by omega) (by omega) ?_
  · intro ct z f hz hI
    left
    have hl := hp.1 z hz
    rcases Nat.lt_or_ge (p z).length h with q | q
    · have hk := ky_31 hB (okP_psh hp hz q (sd w p))
      refine ⟨upd f (kyM w h (nxt w p z)) 0, ⟨fun x hx ho => ?_, fun key hkey => ?_⟩, ?_⟩
      · by_cases e : kyM w h (nxt w p x) = kyM w h (nxt w p z)
        · rw [e, pk_us]
        · rw [pk_un e]
          exact hI.1 x (by
            rcases Nat.lt_or_ge x z with r | r
            · exact r
            · exact absurd (by rw [show x = z by omega]) e) ho
      · rw [pk_un (hkey z (by omega) q)]
        exact hI.2 key (fun x hx ho => hkey x (by omega) ho)
      · show fX5_goUp_L204 N (nI w) (nI h) (nI (kyM w h p)) (nI (cnt w p % 2)) (ct + 1) f (nI z) = _
        rw [fX5_goUp_L204, if_neg (nI_ge hz (by omega)), m_hgt hB hp hz hN]
        simp only [Option.bind_some]
        rw [if_neg (nI_ge q (by omega)), ← sd_nat, m_drop hB hp hz q (sd w p) hN]
        simp only [Option.bind_some]
        unfold nxt
        rw [okb_t (inbN hk (by decide)), nI_clamp (by omega), nI_1]
        rfl
    · refine ⟨f, ⟨fun x hx ho => hI.1 x (by
        rcases Nat.lt_or_ge x z with r | r
        · exact r
        · exfalso
          have e : x = z := by omega
          subst e
          omega) ho, fun key hkey => hI.2 key (fun x hx ho => hkey x (by omega) ho)⟩, ?_⟩
      show fX5_goUp_L204 N (nI w) (nI h) (nI (kyM w h p)) (nI (cnt w p % 2)) (ct + 1) f (nI z) = _
      rw [fX5_goUp_L204, if_neg (nI_ge hz (by omega)), m_hgt hB hp hz hN]
      simp only [Option.bind_some]
      rw [if_pos (nI_le q (by omega)), nI_1]
  · intro ct f hI
    refine ⟨f, ?_, hI⟩
    show fX5_goUp_L204 N (nI w) (nI h) (nI (kyM w h p)) (nI (cnt w p % 2)) (ct + 1) f (nI w) = _
    rw [fX5_goUp_L204, if_pos (nI_le (Nat.le_refl _) (by omega))]
  · exact ⟨fun x hx => absurd hx (Nat.not_lt_zero x), fun _ _ => rfl⟩
/-- 1 where a thing holds -/
noncomputable def ind (P : Nat → Prop) (key : Nat) : Nat := @ite Nat (P key) (Classical.propDecidable (P key)) 1 0
theorem ind_t {P : Nat → Prop} {key : Nat} (h : P key) : ind P key = 1 := if_pos h
theorem ind_f {P : Nat → Prop} {key : Nat} (h : ¬ P key) : ind P key = 0 := if_neg h
theorem ind_le (P : Nat → Prop) (key : Nat) : ind P key ≤ 1 := by
  rcases Classical.em (P key) with h | h
  · rw [ind_t h]; exact Nat.le_refl 1
  · rw [ind_f h]; exact Nat.zero_le 1
theorem ind_sum (P : Nat → Prop) (n : Nat) : fb_sm (ind P) n ≤ n := by
  have := fb_sm_bound (f := ind P) (c := 1) (n := n) (fun k _ => ind_le P k)
  omega
theorem ind_iff {P Q : Nat → Prop} {key : Nat} (h : P key ↔ Q key) : ind P key = ind Q key := by
  rcases Classical.em (P key) with q | q
  · rw [ind_t q, ind_t (h.mp q)]
  · rw [ind_f q, ind_f (fun r => q (h.mpr r))]
def Pc (w h : Nat) (R : List Nat) (n key : Nat) : Prop := ∃ p, Cm w h R n p ∧ kyM w h p = key
def Pw (w h : Nat) (R : List Nat) (n key : Nat) : Prop := ∃ p, Cm w h R n p ∧ kyM w h p = key ∧ wonB w R p = true
def Ps (w h : Nat) (R : List Nat) (Q : Int → Prop) (n key : Nat) : Prop := ∃ p, Cm w h R n p ∧ kyM w h p = key ∧ ¬ ovr w h R p ∧ Q (wv w h R (w * h - n) p)
theorem Cm_one {w h : Nat} {R : List Nat} {n m : Nat} {p q : Pos} (hp : Cm w h R n p) (hq : Cm w h R m q) (e : kyM w h p = kyM w h q) : p = q ∧ n = m := by
  obtain ⟨a1, a2⟩ := Cm_ok hp
  obtain ⟨b1, b2⟩ := Cm_ok hq
  have := kyM_inj a1 b1 e
  subst this
  exact ⟨rfl, a2.symm.trans b2⟩
/-- a value in the table ahead of the second pass -/
def val0 (w h : Nat) (R : List Nat) (p : Pos) : Int32 := if wonB w R p = true then 127 else if cnt w p = w * h then 126 else 0
def GU (w h : Nat) (R : List Nat) (K : Nat) (yT yC yW : Nat → Int32) : Prop :=
  (∀ key, key < (2 ^ (h + 1)) ^ w → ¬ yT key = -128 → ∃ n, Pc w h R n key) ∧
  (∀ n p, Cm w h R n p → kyM w h p < K → yT (kyM w h p) = val0 w h R p) ∧
  (∀ n p, Cm w h R n p → K ≤ kyM w h p → (n = 0 ∨ ∃ m q x, Cm w h R m q ∧ ¬ ovr w h R q ∧ x < w ∧ (q x).length < h ∧ p = nxt w q x ∧ kyM w h q < K) → yT (kyM w h p) = 0) ∧
  (∀ n, n ≤ 16 → yC n = nI (fb_sm (ind (Pc w h R n)) K)) ∧ (∀ n, n ≤ 16 → yW n = nI (fb_sm (ind (Pw w h R n)) K))
theorem Cm_par {w h : Nat} {R : List Nat} {n : Nat} {p : Pos} (hc : Cm w h R n p) : n = 0 ∨ ∃ m q x, Cm w h R m q ∧ ¬ ovr w h R q ∧ x < w ∧ (q x).length < h ∧ p = nxt w q x ∧ kyM w h q < kyM w h p := by
  match n, hc with
  | 0, _ => exact Or.inl rfl
  | n + 1, hc =>
    obtain ⟨q, x, h1, h2, h3, h4, rfl⟩ := hc
    exact Or.inr ⟨n, q, x, h1, h2, h3, h4, rfl, kyM_nxt_lt q h3⟩
theorem al_eq {w h k : Nat} (hB : Bd w h k) : (2 ^ (h + 1)) ^ w = 2 ^ (w * (h + 1)) ∧ (2 ^ (h + 1)) ^ w ≤ 2097152 := by
  have e : (2 ^ (h + 1)) ^ w = 2 ^ (w * (h + 1)) := by rw [← Nat.pow_mul, Nat.mul_comm]
  have h2 : 2 ^ (w * (h + 1)) ≤ 2 ^ 21 := Nat.pow_le_pow_right (by decide) hB.2.2.2.2.2.1
  have h3 : (2 : Nat) ^ 21 = 2097152 := by decide
  rw [e]
  exact ⟨rfl, by omega⟩
theorem cnt_up {f : Nat → Int32} {P : Nat → Nat → Prop} {K n : Nat} (hf : ∀ m, m ≤ 16 → f m = nI (fb_sm (ind (P m)) K)) (hn : ∀ m, P m K ↔ m = n) : ∀ m, m ≤ 16 → upd f n (f n + 1) m = nI (fb_sm (ind (P m)) (K + 1)) := by
  intro m hm
  rw [fb_sm_succ]
  by_cases e : m = n
  · subst e
    rw [pk_us, hf m hm, ind_t ((hn m).mpr rfl), nI_1]
  · rw [pk_un e, hf m hm, ind_f (fun q => e ((hn m).mp q)), Nat.add_zero]
theorem cnt_no {f : Nat → Int32} {P : Nat → Nat → Prop} {K : Nat} (hf : ∀ m, m ≤ 16 → f m = nI (fb_sm (ind (P m)) K)) (hn : ∀ m, ¬ P m K) : ∀ m, m ≤ 16 → f m = nI (fb_sm (ind (P m)) (K + 1)) := by
  intro m hm
  rw [fb_sm_succ, hf m hm, ind_f (hn m), Nat.add_zero]
/-- no position at this key -/
theorem GU_skip {w h : Nat} {R : List Nat} {K : Nat} {yT yC yW : Nat → Int32} (hg : GU w h R K yT yC yW) (hK : yT K = -128) : GU w h R (K + 1) yT yC yW := by
  obtain ⟨g1, g2, g3, g4, g5⟩ := hg
  have no : ∀ n p, Cm w h R n p → kyM w h p ≠ K := fun n p hc e => by
    have h1 := g3 n p hc (by omega) (by
      rcases Cm_par hc with q | ⟨m, q, x, a1, a2, a3, a4, a5, a6⟩
      · exact Or.inl q
      · exact Or.inr ⟨m, q, x, a1, a2, a3, a4, a5, by omega⟩)
    rw [e, hK] at h1
    exact absurd h1 (by decide)
  refine ⟨g1, fun n p hc hk => g2 n p hc (by have := no n p hc; omega), fun n p hc hk hq => g3 n p hc (by omega) ?_, cnt_no g4 (fun m ⟨p, a, b⟩ => no m p a b), cnt_no g5 (fun m ⟨p, a, b, _⟩ => no m p a b)⟩
  rcases hq with q | ⟨m, q, x, a1, a2, a3, a4, a5, a6⟩
  · exact Or.inl q
  · exact Or.inr ⟨m, q, x, a1, a2, a3, a4, a5, by have := no m q a1; omega⟩
/-- a position whose game is over -/
theorem GU_over {w h : Nat} {R : List Nat} {yT yC yW yW' : Nat → Int32} {n : Nat} {p : Pos} (hg : GU w h R (kyM w h p) yT yC yW) (hc : Cm w h R n p) (ho : ovr w h R p) (hW : ∀ m, m ≤ 16 → yW' m = nI (fb_sm (ind (Pw w h R m)) (kyM w h p + 1))) : GU w h R (kyM w h p + 1) (upd yT (kyM w h p) (val0 w h R p)) (upd yC n (yC n + 1)) yW' := by
  obtain ⟨g1, g2, g3, g4, g5⟩ := hg
  refine ⟨fun key hk hv => ?_, fun m q hq hk => ?_, fun m q hq hk hr => ?_, cnt_up g4 (fun m => ⟨fun ⟨q, a, b⟩ => (Cm_one a hc b).2, fun e => ⟨p, by rw [e]; exact hc, rfl⟩⟩), hW⟩
  · by_cases e : key = kyM w h p
    · exact ⟨n, p, hc, e.symm⟩
    · rw [pk_un e] at hv
      exact g1 key hk hv
  · by_cases e : kyM w h q = kyM w h p
    · rw [e, pk_us, (Cm_one hq hc e).1]
    · rw [pk_un e]
      exact g2 m q hq (by omega)
  · rw [pk_un (by omega)]
    refine g3 m q hq (by omega) ?_
    rcases hr with r | ⟨m', q', x, a1, a2, a3, a4, a5, a6⟩
    · exact Or.inl r
    · refine Or.inr ⟨m', q', x, a1, a2, a3, a4, a5, ?_⟩
      rcases Nat.lt_or_ge (kyM w h q') (kyM w h p) with r | r
      · exact r
      · exact absurd ho ((Cm_one a1 hc (by omega)).1 ▸ a2)
/-- a position where the game goes on -/
theorem GU_on {w h : Nat} {R : List Nat} {yT yC yW f : Nat → Int32} {n : Nat} {p : Pos} (hg : GU w h R (kyM w h p) yT yC yW) (hc : Cm w h R n p) (ho : ¬ ovr w h R p) (hf1 : ∀ x, x < w → (p x).length < h → f (kyM w h (nxt w p x)) = 0) (hf2 : ∀ key, (∀ x, x < w → (p x).length < h → key ≠ kyM w h (nxt w p x)) → f key = yT key) : GU w h R (kyM w h p + 1) f (upd yC n (yC n + 1)) yW := by
  obtain ⟨g1, g2, g3, g4, g5⟩ := hg
  have hnw : ¬ wonB w R p = true := fun q => ho (Or.inl q)
  have hnf : ¬ cnt w p = w * h := fun q => ho (Or.inr q)
  refine ⟨fun key hk hv => ?_, fun m q hq hk => ?_, fun m q hq hk hr => ?_, cnt_up g4 (fun m => ⟨fun ⟨q, a, b⟩ => (Cm_one a hc b).2, fun e => ⟨p, by rw [e]; exact hc, rfl⟩⟩), cnt_no g5 (fun m ⟨q, a, b, c⟩ => hnw ((Cm_one a hc b).1 ▸ c))⟩
  · rcases Classical.em (∃ x, x < w ∧ (p x).length < h ∧ key = kyM w h (nxt w p x)) with ⟨x, hx, hl, e⟩ | q
    · exact ⟨n + 1, nxt w p x, Cm_next hc ho hx hl, e.symm⟩
    · rw [hf2 key (fun x hx hl e => q ⟨x, hx, hl, e⟩)] at hv
      exact g1 key hk hv
  · have hne : ∀ x, x < w → (p x).length < h → kyM w h q ≠ kyM w h (nxt w p x) := fun x hx _ e => by
      have := kyM_nxt_lt (h := h) p hx
      omega
    rw [hf2 _ hne]
    by_cases e : kyM w h q = kyM w h p
    · have e2 := (Cm_one hq hc e).1
      subst e2
      rw [g3 m q hq (Nat.le_refl _) (by
        rcases Cm_par hq with r | ⟨m', q', x, a1, a2, a3, a4, a5, a6⟩
        · exact Or.inl r
        · exact Or.inr ⟨m', q', x, a1, a2, a3, a4, a5, a6⟩)]
      unfold val0
      rw [if_neg hnw, if_neg hnf]
    · exact g2 m q hq (by omega)
  · rcases Classical.em (∃ x, x < w ∧ (p x).length < h ∧ kyM w h q = kyM w h (nxt w p x)) with ⟨x, hx, hl, e⟩ | u
    · rw [e]; exact hf1 x hx hl
    · rw [hf2 _ (fun x hx hl e => u ⟨x, hx, hl, e⟩)]
      refine g3 m q hq (by omega) ?_
      rcases hr with r | ⟨m', q', x, a1, a2, a3, a4, a5, a6⟩
      · exact Or.inl r
      · refine Or.inr ⟨m', q', x, a1, a2, a3, a4, a5, ?_⟩
        rcases Nat.lt_or_ge (kyM w h q') (kyM w h p) with r | r
        · exact r
        · exfalso
          have e := (Cm_one a1 hc (by omega)).1
          subst e
          exact u ⟨x, a3, a4, by rw [a5]⟩
theorem n_le16 {w h k : Nat} (hB : Bd w h k) {R : List Nat} {n : Nat} {p : Pos} (hc : Cm w h R n p) : n ≤ 16 := by
  obtain ⟨a, b⟩ := Cm_ok hc
  have := cnt_le a
  have := hB.2.2.2.2.1
  omega
theorem m_up {w h k : Nat} (hB : Bd w h k) {R : List Nat} (hR : RF w h R) {xr : Int32} {yR : Nat → Int32} (hA : rwA R xr yR) {N : Nat} (hN : 2097152 < N) {xc : Int32} {yT yC yW yM : Nat → Int32} (hg : GU w h R 0 yT yC yW) :
    ∃ r, fX5_goUp_L87 N (nI w) (nI h) xr yR (nI ((2 ^ (h + 1)) ^ w)) N xc yT yC yW yM (nI 0) = some r ∧ GU w h R ((2 ^ (h + 1)) ^ w) r.2.1 r.2.2.1 r.2.2.2.1 := by
  obtain ⟨ea, hal⟩ := al_eq hB
  have hwh := hB.2.2.2.2.1
  have hw := hB.2.1
  have hh := hB.2.2.2.1
  refine lpN (fun ct (s : Int32 × (Nat → Int32) × (Nat → Int32) × (Nat → Int32) × (Nat → Int32)) i => fX5_goUp_L87 N (nI w) (nI h) xr yR (nI ((2 ^ (h + 1)) ^ w)) ct s.1 s.2.1 s.2.2.1 s.2.2.2.1 s.2.2.2.2 i) ((2 ^ (h + 1)) ^ w) (fun K s => GU w h R K s.2.1 s.2.2.1 s.2.2.2.1) (fun r => GU w h R ((2 ^ (h + 1)) ^ w) r.2.1 r.2.2.1 r.2.2.2.1) ?_ ?_ ((2 ^ (h + 1)) ^ w) 0 N (xc, yT, yC, yW, yM) (by omega) (by omega) hg
  · rintro ct K ⟨xc, yT, yC, yW, yM⟩ hK hg
    left
    have hin : inb (nI K) 2097152 = true := inbN (by omega) (by decide)
    have hcl : (nI K).toNatClampNeg = K := nI_clamp (by omega)
    by_cases hv : yT K = -128
    · refine ⟨(xc, yT, yC, yW, yM), GU_skip hg hv, ?_⟩
      show fX5_goUp_L87 N (nI w) (nI h) xr yR (nI ((2 ^ (h + 1)) ^ w)) (ct + 1) xc yT yC yW yM (nI K) = fX5_goUp_L87 N (nI w) (nI h) xr yR (nI ((2 ^ (h + 1)) ^ w)) ct xc yT yC yW yM (nI (K + 1))
      rw [fX5_goUp_L87, if_neg (nI_ge hK (by omega)), okb_t hin, hcl, if_pos hv, nI_1]
    · obtain ⟨n, p, hc, rfl⟩ := hg.1 K hK hv
      obtain ⟨hp, hn⟩ := Cm_ok hc
      obtain ⟨⟨r1, r2⟩, hr, e1, e2⟩ := m_dec hB hp (N := N) (by omega) yM
      simp only at e1 e2
      subst e1
      have hn16 := n_le16 hB hc
      have hi17 : inb (nI n) 17 = true := inbN (by omega) (by decide)
      have hcn : (nI n).toNatClampNeg = n := nI_clamp (by omega)
      have hmul : nI w * nI h = nI (w * h) := pk_mul w h
      have hwon : 0 < n → ∃ b : Bool, b = (!(sd w p)) ∧ (1 : Int32) - (nI n - nI n / (2 : Int32) * (2 : Int32)) = nI b.toNat ∧ fX5_has N xr yR (r2 b.toNat) = some (if wonB w R p = true then 1 else 0) := by
        intro _
        refine ⟨!(sd w p), rfl, ?_, ?_⟩
        · rw [remI (by omega), ← hn, ← sd_nat]
          cases sd w p <;> rfl
        · have hmk : r2 (!(sd w p)).toNat = nI (mk w p (!(sd w p))) := by
            cases sd w p
            · exact e2.2
            · exact e2.1
          rw [hmk, m_has hA hR.2.1 (by
            have := mk_lt hB hp (!(sd w p))
            have : (2 : Nat) ^ 16 < 2 ^ 31 := by decide
            omega) (by omega)]
          rfl
      by_cases hw1 : wonB w R p = true
      · -- won
        have hpos : 0 < n := by
          rcases Nat.eq_zero_or_pos n with q | q
          · exfalso
            subst q
            rw [show p = emp from hc] at hw1
            unfold wonB at hw1
            rw [mk_emp, hasR_0 hR.1] at hw1
            cases hw1
          · exact q
        obtain ⟨b, hb, hb1, hb2⟩ := hwon hpos
        refine ⟨(nI n, upd yT (kyM w h p) 127, upd yC n (yC n + 1), upd yW n (yW n + 1), r2), ?_, ?_⟩
        · have := GU_over (yW' := upd yW n (yW n + 1)) hg hc (Or.inl hw1) (cnt_up hg.2.2.2.2 (fun m => ⟨fun ⟨q, a, b, _⟩ => (Cm_one a hc b).2, fun e => ⟨p, by rw [e]; exact hc, rfl, hw1⟩⟩))
          unfold val0 at this
          rw [if_pos hw1] at this
          exact this
        · show fX5_goUp_L87 N (nI w) (nI h) xr yR (nI ((2 ^ (h + 1)) ^ w)) (ct + 1) xc yT yC yW yM (nI (kyM w h p)) = fX5_goUp_L87 N (nI w) (nI h) xr yR (nI ((2 ^ (h + 1)) ^ w)) ct (nI n) (upd yT (kyM w h p) 127) (upd yC n (yC n + 1)) (upd yW n (yW n + 1)) r2 (nI (kyM w h p + 1))
          rw [fX5_goUp_L87, if_neg (nI_ge hK (by omega)), okb_t hin, hcl, if_neg hv, hr]
          simp only [Option.bind_some, hn]
          rw [okb_t hi17, okb_t hi17, hcn, if_neg (nI_nle hpos (by omega)), hb1, okb_t (bI b), bIc, hb2, if_pos hw1]
          simp only [Option.bind_some]
          rw [if_neg (by decide), okb_t hi17, okb_t hi17, okb_t hin, nI_1]
          rfl
      · by_cases hfu : n = w * h
        · -- full
          have hpos : 0 < n := by
            have : 1 ≤ w * h := Nat.mul_pos hB.1 hB.2.2.1
            omega
          obtain ⟨b, hb, hb1, hb2⟩ := hwon hpos
          refine ⟨(nI n, upd yT (kyM w h p) 126, upd yC n (yC n + 1), yW, r2), ?_, ?_⟩
          · have := GU_over (yW' := yW) hg hc (Or.inr (hn.trans hfu)) (cnt_no hg.2.2.2.2 (fun m ⟨q, a, b, c⟩ => hw1 ((Cm_one a hc b).1 ▸ c)))
            unfold val0 at this
            rw [if_neg hw1, if_pos (hn.trans hfu)] at this
            exact this
          · show fX5_goUp_L87 N (nI w) (nI h) xr yR (nI ((2 ^ (h + 1)) ^ w)) (ct + 1) xc yT yC yW yM (nI (kyM w h p)) = fX5_goUp_L87 N (nI w) (nI h) xr yR (nI ((2 ^ (h + 1)) ^ w)) ct (nI n) (upd yT (kyM w h p) 126) (upd yC n (yC n + 1)) yW r2 (nI (kyM w h p + 1))
            rw [fX5_goUp_L87, if_neg (nI_ge hK (by omega)), okb_t hin, hcl, if_neg hv, hr]
            simp only [Option.bind_some, hn]
            rw [okb_t hi17, okb_t hi17, hcn, if_neg (nI_nle hpos (by omega)), hb1, okb_t (bI b), bIc, hb2, if_neg hw1]
            simp only [Option.bind_some]
            rw [if_pos trivial, hmul, if_pos (by rw [hfu]), okb_t hin, nI_1]
            rfl
        · -- it goes on
          have ho : ¬ ovr w h R p := fun q => by
            rcases q with q | q
            · exact hw1 q
            · exact hfu (hn.symm.trans q)
          obtain ⟨f, hf, hf1, hf2⟩ := m_marks hB hp (N := N) (by omega) yT
          refine ⟨(nI n, f, upd yC n (yC n + 1), yW, r2), GU_on hg hc ho hf1 hf2, ?_⟩
          show fX5_goUp_L87 N (nI w) (nI h) xr yR (nI ((2 ^ (h + 1)) ^ w)) (ct + 1) xc yT yC yW yM (nI (kyM w h p)) = fX5_goUp_L87 N (nI w) (nI h) xr yR (nI ((2 ^ (h + 1)) ^ w)) ct (nI n) f (upd yC n (yC n + 1)) yW r2 (nI (kyM w h p + 1))
          have hne : ¬ nI n = nI (w * h) := fun q => hfu ((nI_eq (by omega) (by omega)).mp q)
          rw [hn] at hf
          rw [fX5_goUp_L87, if_neg (nI_ge hK (by omega)), okb_t hin, hcl, if_neg hv, hr]
          simp only [Option.bind_some, hn]
          rw [okb_t hi17, okb_t hi17, hcn]
          by_cases hz : n = 0
          · rw [if_pos (by rw [hz]; decide), hmul, if_neg hne, remI (by omega), i0, hf]
            simp only [Option.bind_some]
            rw [nI_1]
          · obtain ⟨b, hb, hb1, hb2⟩ := hwon (by omega)
            rw [if_neg (nI_nle (by omega) (by omega)), hb1, okb_t (bI b), bIc, hb2, if_neg hw1]
            simp only [Option.bind_some]
            rw [if_pos trivial, hmul, if_neg hne, remI (by omega), i0, hf]
            simp only [Option.bind_some]
            rw [nI_1]
  · rintro ct ⟨xc, yT, yC, yW, yM⟩ hg
    refine ⟨(xc, yT, yC, yW, yM), ?_, hg⟩
    show fX5_goUp_L87 N (nI w) (nI h) xr yR (nI ((2 ^ (h + 1)) ^ w)) (ct + 1) xc yT yC yW yM (nI ((2 ^ (h + 1)) ^ w)) = _
    rw [fX5_goUp_L87, if_pos (nI_le (Nat.le_refl _) (by omega))]
