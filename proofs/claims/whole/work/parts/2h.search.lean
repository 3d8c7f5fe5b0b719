/-! the class's search -/
theorem c_thrHas {q : Nat} {R : List Nat} {gT gC : Nat → Int32} (hT : thA q R gT gC) (hq : q ≤ 16) (hb : ∀ r, r ∈ R → r < 2 ^ 16) (hf : ∀ s, s < q → (fl R s).length < 16) {s m N : Nat} (hs : s < q) (hm : m < 2 ^ 31) (hN : 300 < N) : fX1_hasRowThrough N gT gC (nI s) (nI m) = some (if hasR (fl R s) m = true then 1 else 0) := by
  obtain ⟨t1, t2⟩ := hT s hs
  have hlen := hf s hs
  have h31 := p16_31
  have hqb : ∀ i, i < (fl R s).length → (fl R s).getD i 0 < 2 ^ 31 := fun i hi => by
    have h1 := (mem_at (fl R s) _).mpr ⟨i, hi, rfl⟩
    have h2 := hb _ (List.mem_filter.mp h1).1
    omega
  have key := lpN (fun ct (_ : Unit) i => fX1_hasRowThrough_L30 N gT (nI m) (nI (s * 16 + (fl R s).length)) ct i) (s * 16 + (fl R s).length) (fun i _ => s * 16 ≤ i ∧ ∀ j, s * 16 + j < i → ¬ m &&& (fl R s).getD j 0 = (fl R s).getD j 0) (fun v => v = if hasR (fl R s) m = true then .inl 1 else .inr ()) ?_ ?_ (fl R s).length (s * 16) N () rfl (by omega) ⟨Nat.le_refl _, fun j hj => absurd hj (by omega)⟩
  · obtain ⟨v, e1, e2⟩ := key
    unfold fX1_hasRowThrough
    rw [if_neg (nI_pos (by omega)), if_pos (show nI s < (16 : Int32) from nI_lt (b := 16) (by omega) (by decide)), okb_t (inbN (by omega) (by decide)), nI_clamp (by omega), t1, show (16 : Int32) = nI 16 from rfl, pk_mul, nI_add, e1, e2]
    cases hasR (fl R s) m <;> rfl
  · rintro ct i _ hi ⟨hI1, hI2⟩
    obtain ⟨j, rfl⟩ : ∃ j, i = s * 16 + j := ⟨i - s * 16, by omega⟩
    have hj : j < (fl R s).length := by omega
    by_cases u : m &&& (fl R s).getD j 0 = (fl R s).getD j 0
    · right
      refine ⟨.inl 1, ?_, by rw [if_pos ((hasR_at _ m).mpr ⟨j, hj, u⟩)]⟩
      show fX1_hasRowThrough_L30 N gT (nI m) (nI (s * 16 + (fl R s).length)) (ct + 1) (nI (s * 16 + j)) = _
      rw [fX1_hasRowThrough_L30, if_neg (nI_ge hi (by omega)), okb_t (inbN (by omega) (by decide)), nI_clamp (by omega), t2 j hj, if_pos ((nI_and_eq hm (hqb j hj)).mpr u)]
    · left
      refine ⟨(), ⟨by omega, fun z hz => ?_⟩, ?_⟩
      · by_cases e : z = j
        · rw [e]; exact u
        · exact hI2 z (by omega)
      · show fX1_hasRowThrough_L30 N gT (nI m) (nI (s * 16 + (fl R s).length)) (ct + 1) (nI (s * 16 + j)) = fX1_hasRowThrough_L30 N gT (nI m) (nI (s * 16 + (fl R s).length)) ct (nI (s * 16 + j + 1))
        rw [fX1_hasRowThrough_L30, if_neg (nI_ge hi (by omega)), okb_t (inbN (by omega) (by decide)), nI_clamp (by omega), t2 j hj, if_neg (fun e => u ((nI_and_eq hm (hqb j hj)).mp e)), nI_1]
  · rintro ct _ ⟨hI1, hI2⟩
    refine ⟨.inr (), ?_, ?_⟩
    · show fX1_hasRowThrough_L30 N gT (nI m) (nI (s * 16 + (fl R s).length)) (ct + 1) (nI (s * 16 + (fl R s).length)) = _
      rw [fX1_hasRowThrough_L30, if_pos (nI_le (Nat.le_refl _) (by omega))]
    · rw [if_neg]
      intro u
      obtain ⟨i, hi, e⟩ := (hasR_at _ m).mp u
      exact hI2 i (by omega) e
abbrev SrT : Type := (Nat → Int32) → (Nat → Int32) → (Nat → Int32) → (Nat → Nat → Int32) → Nat → (Nat → Int64) → Int32 → Int32 → Int32 → (Nat → Int32) → (Nat → Int32) → Int32 → Int32 → Int32 → Int32 → Int32 → Option (Int32 × (Nat → Int32) × (Nat → Int32) × (Nat → Nat → Int32) × (Nat → Int64))
def pwA (w h : Nat) (sP : Nat → Int32) : Prop := ∀ x, x < w → sP x = nI ((2 ^ (h + 1) - 1) ^ x)
def cdA (p : Pos) (sC : Nat → Int32) : Prop := ∀ x, x < 7 → sC x = nI (rco (p x))
def SV (w h k : Nat) (R : List Nat) (N kl : Nat) (sP gT gC : Nat → Int32) : Prop := Bd w h k ∧ RF w h R ∧ thA (w * h) R gT gC ∧ (∀ s, s < w * h → (fl R s).length < 16) ∧ pwA w h sP ∧ ((2 ^ (h + 1) - 1) ^ w + 7) / 8 ≤ kl ∧ kl < 2 ^ 31 ∧ 300 < N
def SS (w h : Nat) (R : List Nat) (kl : Nat) (sP gT gC : Nat → Int32) (srch : SrT) (n : Nat) : Prop := ∀ (p : Pos) (sC sH : Nat → Int32) (tl : Nat → Nat → Int32) (kf : Nat → Int64), Cm w h R n p → ¬ ovr w h R p → cdA p sC → hgA p sH → SI w h R tl kf →
  ∃ tl' kf', srch sP sC sH tl kl kf (nI w) (nI h) (nI (w * h)) gT gC (nI (mk w p (sd w p))) (nI (mk w p (!(sd w p)))) (nI (kyC w h p)) (nI (kyC w h (mir w p))) (nI n) = some (iI (wv w h R (w * h - n) p), sC, sH, tl', kf') ∧ SI w h R tl' kf' ∧ mono kf kf' ∧ ¬ byt kf' (plc w h p) = 0
theorem iI_101a : ∀ k : Nat, k < 199 → iI ((k : Int) - 99) + 101 = nI (k + 2) := by decide +kernel
theorem iI_101 {v : Int} (h1 : -99 ≤ v) (h2 : v ≤ 99) : iI v + 101 = nI (101 + v).toNat := by
  have := iI_101a (v + 99).toNat (by omega)
  rw [show (((v + 99).toNat : Nat) : Int) - 99 = v by omega] at this
  rw [this]
  congr 1
  omega
theorem iI_m101 {v : Int} (h1 : -99 ≤ v) (h2 : v ≤ 99) : nI (101 + v).toNat - 101 = iI v := by
  rw [← iI_101 h1 h2, Int32.add_sub_cancel]
theorem c_seen {v : Int} (h1 : -99 ≤ v) (h2 : v ≤ 99) (N : Nat) : fX3_seenFromAhead N (iI v) = some (iI (seen v)) := by
  unfold fX3_seenFromAhead seen
  have e0 : (0 : Int32) = iI 0 := by decide
  have e1 : (1 : Int32) = iI 1 := by decide
  have e2 : (-1 : Int32) = iI (-1) := by decide
  rw [e2, e0, e1]
  by_cases q : v = 0
  · subst q
    rw [if_pos rfl, if_pos rfl]
  · rw [if_neg (fun u => q ((iI_eq (by omega) (by omega) (by omega) (by omega)).mp u)), if_neg q]
    by_cases r : v > 0
    · rw [if_pos r, if_neg (fun u => by have := (iI_le (by omega) (by omega) (by omega) (by omega)).mp u; omega), iI_sub (by omega) (by omega) (by omega) (by omega)]
    · rw [if_neg r, if_pos ((iI_le (by omega) (by omega) (by omega) (by omega)).mpr (by omega)), iI_sub (by omega) (by omega) (by omega) (by omega)]
theorem sub1x {w x : Nat} (hx : x < w) : (nI w - (1 : Int32)) - nI x = nI (w - 1 - x) := by
  rw [i1, pk_sub (by omega), pk_sub (by omega)]
/-- the two keys and the code after a move -/
theorem c_step {w h k : Nat} (hB : Bd w h k) {p : Pos} {sP sC : Nat → Int32} (hP : pwA w h sP) (hC : cdA p sC) {x : Nat} (hx : x < w) {n : Nat} (hn : cnt w p = n) :
    nI (kyC w h p) + ((sC x + (nI n &&& (1 : Int32))) * sP x) = nI (kyC w h (nxt w p x)) ∧ nI (kyC w h (mir w p)) + ((sC x + (nI n &&& (1 : Int32))) * sP (w - 1 - x)) = nI (kyC w h (mir w (nxt w p x))) ∧ sC x + (sC x + (nI n &&& (1 : Int32))) = nI (rco (nxt w p x x)) := by
  have hw := hB.2.1
  have e1 : nI n &&& (1 : Int32) = nI (sd w p).toNat := by
    have := fa_mask n 1
    rw [Nat.pow_one] at this
    rw [sd_nat, hn]
    exact this
  rw [e1, hC x (by omega), hP x hx, hP (w - 1 - x) (by omega), nI_add, pk_mul, pk_mul, nI_add, nI_add, nI_add]
  refine ⟨?_, ?_, ?_⟩
  · unfold nxt
    rw [kyC_psh p hx]
  · rw [mir_nxt p hx]
    unfold nxt
    rw [kyC_psh (mir w p) (show w - 1 - x < w by omega), mir_at p (show w - 1 - x < w by omega), sd_mir, show w - 1 - (w - 1 - x) = x by omega]
  · unfold nxt
    rw [psh_same]
    simp only [rco]
    congr 1
    omega
theorem c_try {w h k : Nat} {R : List Nat} {N kl : Nat} {sP gT gC : Nat → Int32} (hV : SV w h k R N kl sP gT gC) {srch : SrT} {n : Nat} (hs : n + 1 < w * h → SS w h R kl sP gT gC srch (n + 1)) {p : Pos} {sC sH : Nat → Int32} {tl : Nat → Nat → Int32} {kf : Nat → Int64} (hc : Cm w h R n p) (ho : ¬ ovr w h R p) (hC : cdA p sC) (hH : hgA p sH) (hS : SI w h R tl kf) {x : Nat} (hx : x < w) (hl : (p x).length < h) :
    ∃ tl' kf', fX3_tryColumn N srch sP sC sH tl kl kf (nI w) (nI h) (nI (w * h)) gT gC (nI x) (nI (mk w p (sd w p))) (nI (mk w p (!(sd w p)))) (nI (kyC w h p)) (nI (kyC w h (mir w p))) (nI n) = some (iI (mvW w h R (w * h - n - 1) p x), sC, sH, tl', kf') ∧ SI w h R tl' kf' ∧ mono kf kf' ∧ ¬ byt kf' (plc w h (nxt w p x)) = 0 := by
  obtain ⟨hB, hR, hT, hf, hP, hk, hkl, hN⟩ := hV
  obtain ⟨hp, hn⟩ := Cm_ok hc
  have hw := hB.2.1
  have hwh := hB.2.2.2.2.1
  have hcn := Cm_next hc ho hx hl
  obtain ⟨hpn, hnn⟩ := Cm_ok hcn
  have hcl := cnt_le hpn
  have hsq := sq_lt hB hx hl
  have hx7 : inb (nI x) 7 = true := inbN (by omega) (by decide)
  have hm7 : inb (nI (w - 1 - x)) 7 = true := inbN (by omega) (by decide)
  have hcx : (nI x).toNatClampNeg = x := nI_clamp (by omega)
  have hcm : (nI (w - 1 - x)).toNatClampNeg = w - 1 - x := nI_clamp (by omega)
  obtain ⟨k1, k2, k3⟩ := c_step hB hP hC hx hn
  have esq : nI w * sH x + nI x = nI (w * (p x).length + x) := by rw [hH x (by omega), pk_mul, nI_add]
  have emk : nI (mk w p (sd w p)) ||| nI (2 ^ (w * (p x).length + x)) = nI (mk w (nxt w p x) (sd w p)) := by rw [or_nI, mk_nxt_own p hx]
  have ethr : fX1_hasRowThrough N gT gC (nI (w * (p x).length + x)) (nI (mk w (nxt w p x) (sd w p))) = some (if wonB w R (nxt w p x) = true then 1 else 0) := by
    rw [c_thrHas hT hwh hR.2.1 hf hsq.1 (mk_31 hB hpn _) hN, wonB_nxt R p hx, mk_nxt_own p hx, row_thr (no_row hR.1 hc ho (sd w p))]
    rfl
  have hwon := wonB_nxt R p hx
  unfold fX3_tryColumn
  simp only [okb_t hx7]
  rw [sub1x hx, okb_t hm7]
  simp only [hcx, hcm]
  rw [esq, shl1 (by omega), emk, ethr]
  simp only [Option.bind_some]
  rw [k1, k2, k3, nI_1]
  by_cases q : wonB w R (nxt w p x) = true
  · rw [if_pos q, if_neg (by decide)]
    have ekv : kv w h R (nxt w p x) = 254 := by unfold kv; rw [if_pos q]
    obtain ⟨tl', kf', e1, e2, e3, e4⟩ := c_keepS hB hR hS hk hkl hcn (fun r => absurd (Or.inl q) r) N
    rw [ekv] at e1
    refine ⟨tl', kf', ?_, e2, e3, e4⟩
    rw [show (254 : Int32) = nI 254 from rfl, e1]
    unfold mvW
    rw [if_pos (by rw [← hwon]; exact q)]
    rfl
  · rw [if_neg q, if_pos rfl]
    have hmv : mvW w h R (w * h - n - 1) p x = if w * h - n - 1 = 0 then 0 else seen (wv w h R (w * h - n - 1) (nxt w p x)) := by
      unfold mvW
      rw [if_neg (by rw [← hwon]; exact q)]
    rw [hmv]
    by_cases u : n + 1 < w * h
    · rw [if_pos (nI_lt u (by omega)), if_neg (by omega)]
      have hon : ¬ ovr w h R (nxt w p x) := fun r => by
        rcases r with r | r
        · exact q r
        · omega
      have hC2 : cdA (nxt w p x) (upd sC x (nI (rco (nxt w p x x)))) := fun z hz => by
        by_cases e : z = x
        · rw [e, pk_us]
        · rw [pk_un e, hC z hz]
          unfold nxt
          rw [psh_ne _ _ e]
      have hH2 : hgA (nxt w p x) (upd sH x (sH x + 1)) := fun z hz => by
        by_cases e : z = x
        · rw [e, pk_us, hH x (by omega), nI_1]
          unfold nxt
          rw [psh_same]
          rfl
        · rw [pk_un e, hH z hz]
          unfold nxt
          rw [psh_ne _ _ e]
      obtain ⟨tl', kf', e1, e2, e3, e4⟩ := hs u (nxt w p x) _ _ tl kf hcn hon hC2 hH2 hS
      rw [sd_nxt p hx, Bool.not_not, mk_nxt_oth p hx] at e1
      refine ⟨tl', kf', ?_, e2, e3, e4⟩
      have hb := wv_b (R := R) (w * h - n - 1) (nxt w p x) hpn (by omega) (by omega)
      have eback : sH x + 1 - 1 = sH x := by rw [hH x (by omega), nI_1, nI_pred]
      rw [e1]
      simp only [Option.bind_some]
      rw [show w * h - (n + 1) = w * h - n - 1 by omega, c_seen hb.1 hb.2]
      simp only [Option.bind_some]
      rw [pk_us, eback, fa_upd_twice, fa_upd_twice, fa_upd_same rfl, fa_upd_same rfl]
    · rw [if_neg (nI_nlt (by omega) (by omega)), if_pos (by omega)]
      have ekv : kv w h R (nxt w p x) = 255 := by unfold kv; rw [if_neg q, if_pos (by omega)]
      obtain ⟨tl', kf', e1, e2, e3, e4⟩ := c_keepS hB hR hS hk hkl hcn (fun r => absurd (Or.inr (by omega)) r) N
      rw [ekv] at e1
      refine ⟨tl', kf', ?_, e2, e3, e4⟩
      rw [show (255 : Int32) = nI 255 from rfl, e1]
      rfl
theorem wvF_t {f : Nat → Int} {op : Nat → Bool} {z : Nat} (h : op z = true ∧ wvF f op z < f z) : wvF f op (z + 1) = f z := by
  simp only [wvF]
  rw [if_pos h]
theorem wvF_f {f : Nat → Int} {op : Nat → Bool} {z : Nat} (h : ¬ (op z = true ∧ wvF f op z < f z)) : wvF f op (z + 1) = wvF f op z := by
  simp only [wvF]
  rw [if_neg h]
def mxF (f : Nat → Int) (op : Nat → Bool) (z : Nat) : Int := if wvF f op z = -1000 then -100 else wvF f op z
theorem c_search {w h k : Nat} {R : List Nat} {N kl : Nat} {sP gT gC : Nat → Int32} (hV : SV w h k R N kl sP gT gC) : ∀ D n, w * h ≤ n + D → SS w h R kl sP gT gC (fX3_search N D) n
  | 0, n, hD => fun p sC sH tl kf hc ho _ _ _ => by
    obtain ⟨hp, hn⟩ := Cm_ok hc
    obtain ⟨_, _, _, hlt⟩ := val1_on hV.1 hp ho
    omega
  | D + 1, n, hD => fun p sC sH tl kf hc ho hC hH hS => by
    have hs : n + 1 < w * h → SS w h R kl sP gT gC (fX3_search N D) (n + 1) := fun _ => c_search hV D (n + 1) (by omega)
    have hV' := hV
    obtain ⟨hB, hR, hT, hf, hP, hk, hkl, hN⟩ := hV
    obtain ⟨hp, hn⟩ := Cm_ok hc
    obtain ⟨_, hv1, hv2, hlt⟩ := val1_on hB hp ho
    rw [hn] at hv1 hv2 hlt
    have hw := hB.2.1
    have hhb := hB.2.2.2.1
    obtain ⟨b1, b2, b3, b4⟩ := plc_b hB hp hk
    have ekv := kv_on hB ho
    rw [hn] at ekv
    rw [fX3_search, minI b1 b2]
    show ∃ tl' kf', Option.bind (fX3_keptAt N kl kf (nI (plc w h p))) _ = _ ∧ _
    rw [c_keptAt b4 b3 hkl]
    simp only [Option.bind_some]
    by_cases h0 : byt kf (plc w h p) = 0
    · rw [if_pos (show nI (byt kf (plc w h p)) = 0 by rw [h0]; rfl)]
      have hb : ∀ x, x < w → (p x).length < h → -99 ≤ mvW w h R (w * h - n - 1) p x ∧ mvW w h R (w * h - n - 1) p x ≤ 99 := fun x hx hl =>
        mvW_b (fun q => wv_b (w * h - n - 1) (nxt w p x) (okP_psh hp hx hl _) (by unfold nxt; rw [cnt_psh p hx]; omega) q)
      have hwb : ∀ z, z ≤ w → wvF (mvW w h R (w * h - n - 1) p) (fun x => decide ((p x).length < h)) z = -1000 ∨ (-99 ≤ wvF (mvW w h R (w * h - n - 1) p) (fun x => decide ((p x).length < h)) z ∧ wvF (mvW w h R (w * h - n - 1) p) (fun x => decide ((p x).length < h)) z ≤ 99) := fun z hz => by
        rcases wvF_mem (mvW w h R (w * h - n - 1) p) (fun x => decide ((p x).length < h)) z with e | ⟨y, hy, hoy, e⟩
        · exact Or.inl e
        · have := hb y (by omega) (of_decide_eq_true hoy)
          right
          omega
      have ewv : wv w h R (w * h - n) p = wvF (mvW w h R (w * h - n - 1) p) (fun x => decide ((p x).length < h)) w := by
        rw [show w * h - n = (w * h - n - 1) + 1 by omega, wv_succ]
        rfl
      obtain ⟨r, hr, q1, q2, q3, q4, q5, q6⟩ := lpN (fun ct (s : (Nat → Int32) × (Nat → Int32) × (Nat → Nat → Int32) × (Nat → Int64) × Int32) i => fX3_search_L30 N (fX3_search N D) sP kl (nI w) (nI h) (nI (w * h)) gT gC (nI (mk w p (sd w p))) (nI (mk w p (!(sd w p)))) (nI (kyC w h p)) (nI (kyC w h (mir w p))) (nI n) ct s.1 s.2.1 s.2.2.1 s.2.2.2.1 s.2.2.2.2 i) w (fun z s => s.1 = sC ∧ s.2.1 = sH ∧ SI w h R s.2.2.1 s.2.2.2.1 ∧ mono kf s.2.2.2.1 ∧ s.2.2.2.2 = iI (mxF (mvW w h R (w * h - n - 1) p) (fun x => decide ((p x).length < h)) z) ∧ ∀ x, x < z → (p x).length < h → ¬ byt s.2.2.2.1 (plc w h (nxt w p x)) = 0) (fun s => s.1 = sC ∧ s.2.1 = sH ∧ SI w h R s.2.2.1 s.2.2.2.1 ∧ mono kf s.2.2.2.1 ∧ s.2.2.2.2 = iI (mxF (mvW w h R (w * h - n - 1) p) (fun x => decide ((p x).length < h)) w) ∧ ∀ x, x < w → (p x).length < h → ¬ byt s.2.2.2.1 (plc w h (nxt w p x)) = 0) (by
          rintro ct z ⟨c1, h1, t1, f1, m1⟩ hz ⟨i1, i2, i3, i4, i5, i6⟩
          dsimp only at i1 i2 i3 i4 i5 i6
          subst i1
          subst i2
          left
          have hlz := hp.1 z hz
          have hz7 : inb (nI z) 7 = true := inbN (by omega) (by decide)
          rcases Nat.lt_or_ge (p z).length h with u | u
          · obtain ⟨tl', kf', e1, e2, e3, e4⟩ := c_try hV' hs hc ho hC hH i3 hz u
            have hm := hb z hz u
            refine ⟨(c1, h1, tl', kf', iI (mxF (mvW w h R (w * h - n - 1) p) (fun x => decide ((p x).length < h)) (z + 1))), ⟨rfl, rfl, e2, mono_tr i4 e3, rfl, fun y hy hly => ?_⟩, ?_⟩
            · by_cases e : y = z
              · rw [e]; exact e4
              · exact e3 _ (i6 y (by omega) hly)
            · show fX3_search_L30 N (fX3_search N D) sP kl (nI w) (nI h) (nI (w * h)) gT gC (nI (mk w p (sd w p))) (nI (mk w p (!(sd w p)))) (nI (kyC w h p)) (nI (kyC w h (mir w p))) (nI n) (ct + 1) c1 h1 t1 f1 m1 (nI z) = fX3_search_L30 N (fX3_search N D) sP kl (nI w) (nI h) (nI (w * h)) gT gC (nI (mk w p (sd w p))) (nI (mk w p (!(sd w p)))) (nI (kyC w h p)) (nI (kyC w h (mir w p))) (nI n) ct c1 h1 tl' kf' (iI (mxF (mvW w h R (w * h - n - 1) p) (fun x => decide ((p x).length < h)) (z + 1))) (nI (z + 1))
              rw [fX3_search_L30, if_neg (nI_ge hz (by omega)), okb_t hz7, nI_clamp (by omega), hH z (by omega), if_neg (nI_ge u (by omega)), e1]
              simp only [Option.bind_some]
              rw [i5, nI_1]
              have hmx : ∀ a : Int, (a = -1000 ∨ (-99 ≤ a ∧ a ≤ 99)) → -100 ≤ (if a = -1000 then (-100 : Int) else a) ∧ (if a = -1000 then (-100 : Int) else a) ≤ 99 := fun a ha => by
                split <;> omega
              have hb1 := hmx _ (hwb z (by omega))
              unfold mxF
              by_cases r : mvW w h R (w * h - n - 1) p z ≤ (if wvF (mvW w h R (w * h - n - 1) p) (fun x => decide ((p x).length < h)) z = -1000 then (-100 : Int) else wvF (mvW w h R (w * h - n - 1) p) (fun x => decide ((p x).length < h)) z)
              · rw [if_pos ((iI_le (by omega) (by omega) (by omega) (by omega)).mpr r)]
                have r2 : ¬ (decide ((p z).length < h) = true ∧ wvF (mvW w h R (w * h - n - 1) p) (fun x => decide ((p x).length < h)) z < mvW w h R (w * h - n - 1) p z) := fun v => by
                  by_cases y : wvF (mvW w h R (w * h - n - 1) p) (fun x => decide ((p x).length < h)) z = -1000
                  · rw [if_pos y] at r; omega
                  · rw [if_neg y] at r; omega
                rw [wvF_f r2]
              · rw [if_neg (fun v => r ((iI_le (by omega) (by omega) (by omega) (by omega)).mp v))]
                have r2 : decide ((p z).length < h) = true ∧ wvF (mvW w h R (w * h - n - 1) p) (fun x => decide ((p x).length < h)) z < mvW w h R (w * h - n - 1) p z := by
                  refine ⟨decide_eq_true u, ?_⟩
                  by_cases y : wvF (mvW w h R (w * h - n - 1) p) (fun x => decide ((p x).length < h)) z = -1000
                  · rw [if_pos y] at r; omega
                  · rw [if_neg y] at r; omega
                rw [wvF_t r2, if_neg (show ¬ mvW w h R (w * h - n - 1) p z = -1000 by omega)]
          · refine ⟨(c1, h1, t1, f1, iI (mxF (mvW w h R (w * h - n - 1) p) (fun x => decide ((p x).length < h)) (z + 1))), ⟨rfl, rfl, i3, i4, rfl, fun y hy hly => ?_⟩, ?_⟩
            · exact i6 y (by
                rcases Nat.lt_or_ge y z with v | v
                · exact v
                · exfalso
                  have e : y = z := by omega
                  subst e
                  omega) hly
            · show fX3_search_L30 N (fX3_search N D) sP kl (nI w) (nI h) (nI (w * h)) gT gC (nI (mk w p (sd w p))) (nI (mk w p (!(sd w p)))) (nI (kyC w h p)) (nI (kyC w h (mir w p))) (nI n) (ct + 1) c1 h1 t1 f1 m1 (nI z) = fX3_search_L30 N (fX3_search N D) sP kl (nI w) (nI h) (nI (w * h)) gT gC (nI (mk w p (sd w p))) (nI (mk w p (!(sd w p)))) (nI (kyC w h p)) (nI (kyC w h (mir w p))) (nI n) ct c1 h1 t1 f1 (iI (mxF (mvW w h R (w * h - n - 1) p) (fun x => decide ((p x).length < h)) (z + 1))) (nI (z + 1))
              rw [fX3_search_L30, if_neg (nI_ge hz (by omega)), okb_t hz7, nI_clamp (by omega), hH z (by omega), if_pos (nI_le u (by omega)), i5, nI_1]
              unfold mxF
              rw [wvF_f (show ¬ (decide ((p z).length < h) = true ∧ wvF (mvW w h R (w * h - n - 1) p) (fun x => decide ((p x).length < h)) z < mvW w h R (w * h - n - 1) p z) from fun v => by have := of_decide_eq_true v.1; omega)]) (by
          rintro ct ⟨c1, h1, t1, f1, m1⟩ hI
          refine ⟨(c1, h1, t1, f1, m1), ?_, hI⟩
          show fX3_search_L30 N (fX3_search N D) sP kl (nI w) (nI h) (nI (w * h)) gT gC (nI (mk w p (sd w p))) (nI (mk w p (!(sd w p)))) (nI (kyC w h p)) (nI (kyC w h (mir w p))) (nI n) (ct + 1) c1 h1 t1 f1 m1 (nI w) = _
          rw [fX3_search_L30, if_pos (nI_le (Nat.le_refl _) (by omega))]) w 0 N (sC, sH, tl, kf, (-100 : Int32)) (by omega) (by omega) ⟨rfl, rfl, hS, mono_rf kf, (by show (-100 : Int32) = iI (-100); decide), fun x hx => absurd hx (Nat.not_lt_zero x)⟩
      rw [i0, hr]
      simp only [Option.bind_some]
      have emx : mxF (mvW w h R (w * h - n - 1) p) (fun x => decide ((p x).length < h)) w = wv w h R (w * h - n) p := by
        unfold mxF
        rw [← ewv, if_neg (by omega)]
      rw [emx] at q5
      obtain ⟨tl', kf', e1, e2, e3, e4⟩ := c_keepS hB hR q3 hk hkl hc (fun _ => q6) N
      refine ⟨tl', kf', ?_, e2, mono_tr q4 e3, e4⟩
      rw [ekv] at e1
      rw [q5, iI_101 hv1 hv2, e1, q1, q2]
      rfl
    · rw [if_neg (nI_ne0 (by omega) (by
        have : byt kf (plc w h p) < 256 := Nat.mod_lt _ (by decide)
        omega))]
      refine ⟨tl, kf, ?_, hS, mono_rf kf, h0⟩
      rw [hS.1 n p hc h0, ekv, iI_m101 hv1 hv2]
