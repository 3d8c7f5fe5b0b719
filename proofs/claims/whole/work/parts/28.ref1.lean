/-! the reference's small methods: columns, heights, drops, masks, rows -/
def Bd (w h k : Nat) : Prop := 1 ≤ w ∧ w ≤ 7 ∧ 1 ≤ h ∧ h ≤ 6 ∧ w * h ≤ 16 ∧ w * (h + 1) ≤ 21 ∧ 2 ≤ k ∧ k ≤ 4
theorem Bd_of {w h k : Nat} (hb : okB w h k = true) : Bd w h k := by
  simp only [okB, Bool.and_eq_true, decide_eq_true_eq] at hb
  have h1 : ∀ w, w < 8 → ∀ h, h < 7 → w * h ≤ 16 → w * (h + 1) ≤ 21 := by decide
  exact ⟨by omega, by omega, by omega, by omega, by omega, h1 w (by omega) h (by omega) (by omega), by omega, by omega⟩
theorem s_l32 : ∀ n, n < 32 → ((nI n &&& 31).toBitVec.smod 32).toNat = n := by decide +kernel
theorem shlN {a s : Nat} (hs : s < 32) (h : a * 2 ^ s < 2 ^ 32) : nI a <<< (nI s &&& 31) = nI (a * 2 ^ s) := pk_shlN _ s (s_l32 s hs) h
theorem shrN {a s : Nat} (hs : s < 32) (h : a < 2 ^ 31) : nI a >>> (nI s &&& 31) = nI (a / 2 ^ s) := pk_shrN h _ s (s_l32 s hs)
theorem shl1 {s : Nat} (hs : s < 31) : (1 : Int32) <<< (nI s &&& 31) = nI (2 ^ s) := by
  have h := shlN (a := 1) (s := s) (by omega) (by
    rw [Nat.one_mul]
    exact Nat.pow_lt_pow_right (by decide) (by omega))
  rw [Nat.one_mul] at h
  exact h
theorem i1 : (1 : Int32) = nI 1 := rfl
theorem i0 : (0 : Int32) = nI 0 := rfl
theorem i2 : (2 : Int32) = nI 2 := rfl
theorem xh_lt {w h k x : Nat} (hB : Bd w h k) (hx : x < w) : x * (h + 1) + (h + 1) ≤ 21 := by
  obtain ⟨_, _, _, _, _, h6, _⟩ := hB
  have : (x + 1) * (h + 1) ≤ w * (h + 1) := Nat.mul_le_mul_right _ hx
  rw [Nat.succ_mul] at this
  omega
theorem m_col {N h key x : Nat} (hx : x * (h + 1) < 31) (hh : h + 1 < 31) (hk : key < 2 ^ 31) : fX5_columnOf N (nI h) (nI key) (nI x) = some (nI (key / 2 ^ (x * (h + 1)) % 2 ^ (h + 1))) := by
  unfold fX5_columnOf
  rw [nI_1, pk_mul, shrN (by omega) hk, shl1 hh, i1, pk_sub Nat.one_le_two_pow, fa_mask]
theorem ky_31 {w h k : Nat} (hB : Bd w h k) {p : Pos} (hp : okP w h p) : kyM w h p < 2097152 := by
  have h1 := kyM_lt hp
  rw [← Nat.pow_mul, Nat.mul_comm] at h1
  have h2 : 2 ^ (w * (h + 1)) ≤ 2 ^ 21 := Nat.pow_le_pow_right (by decide) hB.2.2.2.2.2.1
  have h3 : (2 : Nat) ^ 21 = 2097152 := by decide
  omega
theorem m_colP {w h k : Nat} (hB : Bd w h k) {p : Pos} (hp : okP w h p) {x : Nat} (hx : x < w) (N : Nat) : fX5_columnOf N (nI h) (nI (kyM w h p)) (nI x) = some (nI (cod (p x))) := by
  have hl := xh_lt hB hx
  have hk := ky_31 hB hp
  rw [m_col (by omega) (by obtain ⟨_, _, _, h4, _⟩ := hB; omega) (by omega)]
  have e := kyM_col hp hx
  rw [← Nat.pow_mul, Nat.mul_comm (h + 1) x] at e
  rw [e]
theorem m_hL (N : Nat) : ∀ (n c ct m : Nat), 2 ^ n ≤ c → c < 2 ^ (n + 1) → n < ct → c < 2 ^ 31 → fX5_heightOf_L10 N ct (nI c) (nI m) = some (nI (m + n))
  | n, c, 0, m, _, _, h3, _ => absurd h3 (Nat.not_lt_zero n)
  | 0, c, ct + 1, m, h1, h2, _, _ => by
    have e : c = 1 := by
      have h1' : (2 : Nat) ^ 0 = 1 := by decide
      have h2' : (2 : Nat) ^ (0 + 1) = 2 := by decide
      omega
    subst e
    rw [fX5_heightOf_L10, if_pos (by decide)]
    rfl
  | n + 1, c, ct + 1, m, h1, h2, h3, h4 => by
    have e1 : 2 ^ (n + 1) = 2 ^ n * 2 := Nat.pow_succ _ _
    have e2 : 2 ^ (n + 1 + 1) = 2 ^ n * 2 * 2 := by rw [Nat.pow_succ, Nat.pow_succ]
    have e3 := Nat.one_le_two_pow (n := n)
    rw [fX5_heightOf_L10, if_neg (by rw [i1]; exact fun q => by have := (nI_leI h4 (by decide)).mp q; omega)]
    have es : nI c >>> ((1 : Int32) &&& 31) = nI (c / 2) := by
      have := shrN (a := c) (s := 1) (by decide) h4
      rw [Nat.pow_one] at this
      exact this
    rw [es, nI_1, m_hL N n (c / 2) ct (m + 1) (by omega) (by omega) (by omega) (by omega)]
    rw [show m + 1 + n = m + (n + 1) by omega]
theorem m_hgt {w h k : Nat} (hB : Bd w h k) {p : Pos} (hp : okP w h p) {x : Nat} (hx : x < w) {N : Nat} (hN : 30 < N) : fX5_heightOf N (nI h) (nI (kyM w h p)) (nI x) = some (nI (p x).length) := by
  unfold fX5_heightOf
  rw [m_colP hB hp hx]
  have h1 := cod_b (p x)
  have h2 := cod_lt (hp.1 x hx)
  have h3 : h + 1 ≤ 7 := by obtain ⟨_, _, _, h4, _⟩ := hB; omega
  have h4 : 2 ^ (h + 1) ≤ 2 ^ 7 := Nat.pow_le_pow_right (by decide) h3
  have h5 : (2 : Nat) ^ 7 = 128 := by decide
  have h6 := hp.1 x hx
  show Option.bind (fX5_heightOf_L10 N N (nI (cod (p x))) (nI 0)) _ = _
  rw [m_hL N (p x).length (cod (p x)) N 0 h1.1 h1.2 (by omega) (by omega), Nat.zero_add]
  rfl
theorem m_drop {w h k : Nat} (hB : Bd w h k) {p : Pos} (hp : okP w h p) {x : Nat} (hx : x < w) (hl : (p x).length < h) (s : Bool) {N : Nat} (hN : 30 < N) : fX5_dropped N (nI h) (nI (kyM w h p)) (nI x) (nI s.toNat) = some (nI (kyM w h (psh p x s))) := by
  unfold fX5_dropped
  rw [m_hgt hB hp hx hN]
  have h1 := xh_lt hB hx
  have hs := b_le s
  show some (nI (kyM w h p) + (((1 : Int32) + nI s.toNat) <<< (((nI x * (nI h + 1)) + nI (p x).length) &&& 31))) = _
  have hb : (1 + s.toNat) * 2 ^ (x * (h + 1) + (p x).length) < 2 ^ 32 := by
    have a1 : 2 ^ (x * (h + 1) + (p x).length) ≤ 2 ^ 21 := Nat.pow_le_pow_right (by decide) (by omega)
    have a2 : (1 + s.toNat) * 2 ^ (x * (h + 1) + (p x).length) ≤ 2 * 2 ^ 21 := Nat.mul_le_mul (by omega) a1
    have a3 : 2 * 2 ^ 21 < 2 ^ 32 := by decide
    omega
  rw [nI_1, pk_mul, nI_add, i1, nI_add, shlN (by omega) hb, nI_add, kyM_psh p hx s]
/-- bits of a column's code -/
theorem cod_bit : ∀ (t : List Bool) (y : Nat), y < t.length → ∃ a : Bool, t[t.length - 1 - y]? = some a ∧ cod t / 2 ^ y % 2 = a.toNat
  | [], y, hy => absurd hy (Nat.not_lt_zero y)
  | s :: t, y, hy => by
    simp only [List.length_cons] at hy ⊢
    have hp : 0 < 2 ^ y := Nat.two_pow_pos y
    have hs := b_le s
    rcases Nat.lt_or_ge y t.length with q | q
    · obtain ⟨a, h1, h2⟩ := cod_bit t y q
      refine ⟨a, ?_, ?_⟩
      · rw [show t.length + 1 - 1 - y = (t.length - 1 - y) + 1 by omega, List.getElem?_cons_succ]
        exact h1
      · simp only [cod]
        obtain ⟨c, hc⟩ : ∃ c, t.length = y + 1 + c := ⟨t.length - y - 1, by omega⟩
        have e : (1 + s.toNat) * 2 ^ t.length = 2 ^ y * (2 * ((1 + s.toNat) * 2 ^ c)) := by
          rw [hc, Nat.pow_add, Nat.pow_add, Nat.pow_one, Nat.mul_assoc (2 ^ y), Nat.mul_left_comm, Nat.mul_left_comm (1 + s.toNat)]
        rw [e, Nat.add_mul_div_left _ _ hp, Nat.add_mul_mod_self_left]
        exact h2
    · have e : y = t.length := by omega
      subst e
      refine ⟨s, ?_, ?_⟩
      · rw [show t.length + 1 - 1 - t.length = 0 by omega]; rfl
      · simp only [cod]
        have hb := cod_b t
        rw [Nat.add_mul_div_right _ _ hp]
        have e1 : cod t / 2 ^ t.length = 1 := by
          apply Nat.div_eq_of_lt_le
          · omega
          · have : 2 ^ (t.length + 1) = 2 ^ t.length * 2 := Nat.pow_succ _ _
            omega
        rw [e1]
        omega
theorem bI (b : Bool) : inb (nI b.toNat) 2 = true := by cases b <;> decide
theorem bIc (b : Bool) : (nI b.toNat).toNatClampNeg = b.toNat := by cases b <;> decide
theorem or_nI (a b : Nat) : nI a ||| nI b = nI (a ||| b) := fa_or a b
theorem and_nI (a b : Nat) : nI a &&& nI b = nI (a &&& b) := fa_and a b
theorem bitI {c y : Nat} (hc : c < 2 ^ 31) (hy : y < 32) : (nI c >>> (nI y &&& 31)) &&& (1 : Int32) = nI (c / 2 ^ y % 2) := by
  rw [shrN hy hc]
  have := fa_mask (c / 2 ^ y) 1
  rw [Nat.pow_one] at this
  exact this
/-- the masks of a row of two -/
def msk (f : Nat → Int32) (a b : Nat) : Prop := f 0 = nI a ∧ f 1 = nI b
theorem m_decI {w h k : Nat} (hB : Bd w h k) {x : Nat} (hx : x < w) {t : List Bool} (ht : t.length ≤ h) (N : Nat) (M : Bool → Nat) (yM : Nat → Int32) (h0 : msk yM (M false) (M true)) {ct : Nat} (hct : t.length < ct) :
    ∃ r, fX5_decode_L47 N (nI w) (nI x) (nI t.length) (nI (cod t)) ct yM (nI 0) = some r ∧ msk r (M false ||| mcol w x t false) (M true ||| mcol w x t true) := by
  have hh : h ≤ 6 := hB.2.2.2.1
  have hc : cod t < 2 ^ 31 := by
    have h1 := cod_lt ht
    have h2 : 2 ^ (h + 1) ≤ 2 ^ 7 := Nat.pow_le_pow_right (by decide) (by omega)
    have h3 : (2 : Nat) ^ 7 < 2 ^ 31 := by decide
    omega
  refine lpN (fun ct s i => fX5_decode_L47 N (nI w) (nI x) (nI t.length) (nI (cod t)) ct s i) t.length (fun y f => msk f (M false ||| mcol w x (t.drop (t.length - y)) false) (M true ||| mcol w x (t.drop (t.length - y)) true)) _ ?_ ?_ t.length 0 ct yM (by omega) hct ?_
  · intro ct y f hy hI
    left
    obtain ⟨a, ha, hb⟩ := cod_bit t y hy
    have hd : t.drop (t.length - (y + 1)) = a :: t.drop (t.length - y) := by
      have e : t.length - (y + 1) = t.length - 1 - y := by omega
      have hlt : t.length - 1 - y < t.length := by omega
      rw [e, List.drop_eq_getElem_cons hlt, show t.length - 1 - y + 1 = t.length - y by omega]
      rw [List.getElem?_eq_getElem hlt] at ha
      rw [Option.some.inj ha]
    have hdl : (t.drop (t.length - y)).length = y := by rw [List.length_drop]; omega
    have hwy : w * y + x < 16 := by
      have h1 : w * (y + 1) ≤ w * h := Nat.mul_le_mul_left w (by omega)
      have h2 := hB.2.2.2.2.1
      rw [Nat.mul_succ] at h1
      omega
    have hbit : (nI (cod t) >>> (nI y &&& 31)) &&& (1 : Int32) = nI a.toNat := by rw [bitI hc (by omega), hb]
    refine ⟨upd f a.toNat (f a.toNat ||| nI (2 ^ (w * y + x))), ?_, ?_⟩
    · rw [hd]
      simp only [mcol, hdl]
      unfold msk at hI ⊢
      cases a
      · refine ⟨?_, ?_⟩
        · show upd f 0 _ 0 = _
          rw [pk_us, if_pos rfl]
          show f 0 ||| _ = _
          rw [hI.1, or_nI, Nat.or_assoc]
        · show upd f 0 _ 1 = _
          rw [pk_un (by decide), if_neg (by decide), Nat.or_zero, hI.2]
      · refine ⟨?_, ?_⟩
        · show upd f 1 _ 0 = _
          rw [pk_un (by decide), if_neg (by decide), Nat.or_zero, hI.1]
        · show upd f 1 _ 1 = _
          rw [pk_us, if_pos rfl]
          show f 1 ||| _ = _
          rw [hI.2, or_nI, Nat.or_assoc]
    · show fX5_decode_L47 N (nI w) (nI x) (nI t.length) (nI (cod t)) (ct + 1) f (nI y) = _
      rw [fX5_decode_L47, if_neg (nI_ge hy (by omega)), hbit, okb_t (bI a), okb_t (bI a), bIc, pk_mul, nI_add, shl1 (by omega), nI_1]
  · intro ct f hI
    refine ⟨f, ?_, ?_⟩
    · show fX5_decode_L47 N (nI w) (nI x) (nI t.length) (nI (cod t)) (ct + 1) f (nI t.length) = _
      rw [fX5_decode_L47, if_pos (nI_le (Nat.le_refl _) (by omega))]
    · rw [Nat.sub_self, List.drop_zero] at hI
      exact hI
  · rw [Nat.sub_zero, List.drop_length]
    simp only [mcol, Nat.or_zero]
    exact h0
theorem m_dec {w h k : Nat} (hB : Bd w h k) {p : Pos} (hp : okP w h p) {N : Nat} (hN : 30 < N) (yM : Nat → Int32) :
    ∃ r, fX5_decode N (nI w) (nI h) yM (nI (kyM w h p)) = some r ∧ r.1 = nI (cnt w p) ∧ msk r.2 (mk w p false) (mk w p true) := by
  have hw : w ≤ 7 := hB.2.1
  have hh : h ≤ 6 := hB.2.2.2.1
  have key := lpN (fun ct (s : Int32 × (Nat → Int32)) i => fX5_decode_L21 N (nI w) (nI h) (nI (kyM w h p)) ct s.1 s.2 i) w (fun x s => s.1 = nI (fb_sm (fun x => (p x).length) x) ∧ msk s.2 (mkN w p false x) (mkN w p true x)) (fun r => r.1 = nI (cnt w p) ∧ msk r.2 (mk w p false) (mk w p true)) ?_ ?_ w 0 N ((0 : Int32), upd (upd yM (0 : Int32).toNatClampNeg (0 : Int32)) (1 : Int32).toNatClampNeg (0 : Int32)) (by omega) (by omega) ?_
  · obtain ⟨r, h1, h2⟩ := key
    refine ⟨(r.1, r.2), ?_, h2⟩
    unfold fX5_decode
    rw [okb_t (by decide), okb_t (by decide)]
    show Option.bind (fX5_decode_L21 N (nI w) (nI h) (nI (kyM w h p)) N _ _ (nI 0)) _ = _
    rw [h1]
    rfl
  · intro ct x s hx hI
    left
    obtain ⟨hI1, hI2⟩ := hI
    obtain ⟨f, hf, hm⟩ := m_decI hB hx (hp.1 x hx) N (fun s => mkN w p s x) s.2 hI2 (ct := N) (by have := hp.1 x hx; omega)
    refine ⟨(s.1 + nI (p x).length, f), ⟨?_, hm⟩, ?_⟩
    · rw [hI1, nI_add, fb_sm_succ]
    · show fX5_decode_L21 N (nI w) (nI h) (nI (kyM w h p)) (ct + 1) s.1 s.2 (nI x) = _
      rw [fX5_decode_L21, if_neg (nI_ge hx (by omega)), m_hgt hB hp hx hN, m_colP hB hp hx]
      show Option.bind (fX5_decode_L47 N (nI w) (nI x) (nI (p x).length) (nI (cod (p x))) N s.2 (nI 0)) _ = _
      rw [hf]
      show fX5_decode_L21 N (nI w) (nI h) (nI (kyM w h p)) ct (s.1 + nI (p x).length) f (nI x + 1) = _
      rw [nI_1]
  · intro ct s hI
    refine ⟨s, ?_, hI⟩
    show fX5_decode_L21 N (nI w) (nI h) (nI (kyM w h p)) (ct + 1) s.1 s.2 (nI w) = _
    rw [fX5_decode_L21, if_pos (nI_le (Nat.le_refl _) (by omega))]
  · exact ⟨rfl, rfl, rfl⟩
/-- the rows as an array holds them -/
def rwA (R : List Nat) (r : Int32) (f : Nat → Int32) : Prop := r = nI R.length ∧ R.length < 64 ∧ ∀ i, i < R.length → f i = nI (R.getD i 0)
theorem inbN {i n : Nat} (h : i < n) (hn : n < 2 ^ 31) : inb (nI i) n = true := by
  unfold inb
  have h1 := nI_pos (n := i) (by omega)
  have h2 := nI_clamp (n := i) (by omega)
  rw [h2]
  simp [h1]
  omega
theorem nI_and_eq {a r : Nat} (ha : a < 2 ^ 31) (hr : r < 2 ^ 31) : (nI a &&& nI r = nI r) ↔ a &&& r = r := by
  rw [and_nI]
  exact nI_eq (Nat.lt_of_le_of_lt Nat.and_le_left ha) hr
theorem hasR_at (R : List Nat) (m : Nat) : hasR R m = true ↔ ∃ i, i < R.length ∧ m &&& R.getD i 0 = R.getD i 0 := by
  unfold hasR
  rw [List.any_eq_true]
  constructor
  · rintro ⟨r, h1, h2⟩
    obtain ⟨i, hi, rfl⟩ := List.getElem_of_mem h1
    refine ⟨i, hi, ?_⟩
    rw [List.getD_eq_getElem?_getD, List.getElem?_eq_getElem hi]
    exact of_decide_eq_true h2
  · rintro ⟨i, hi, h2⟩
    rw [List.getD_eq_getElem?_getD, List.getElem?_eq_getElem hi] at h2
    exact ⟨R[i], List.getElem_mem hi, decide_eq_true h2⟩
theorem m_has {R : List Nat} {r : Int32} {f : Nat → Int32} (hA : rwA R r f) (hb : ∀ q, q ∈ R → q < 2 ^ 16) {m N : Nat} (hm : m < 2 ^ 31) (hN : 100 < N) : fX5_has N r f (nI m) = some (if hasR R m = true then 1 else 0) := by
  obtain ⟨h1, h2, h3⟩ := hA
  have hq : ∀ i, i < R.length → R.getD i 0 < 2 ^ 31 := fun i hi => by
    have : R.getD i 0 ∈ R := by
      rw [List.getD_eq_getElem?_getD, List.getElem?_eq_getElem hi]
      exact List.getElem_mem hi
    have := hb _ this
    have : (2 : Nat) ^ 16 < 2 ^ 31 := by decide
    omega
  have key := lpN (fun ct (_ : Unit) i => fX5_has_L2 N r f (nI m) ct i) R.length (fun i _ => ∀ j, j < i → ¬ m &&& R.getD j 0 = R.getD j 0) (fun v => v = if hasR R m = true then .inl 1 else .inr ()) ?_ ?_ R.length 0 N () (by omega) (by omega) (fun j hj => absurd hj (Nat.not_lt_zero j))
  · obtain ⟨v, e1, e2⟩ := key
    unfold fX5_has
    show Option.bind (fX5_has_L2 N r f (nI m) N (nI 0)) _ = _
    rw [e1, e2]
    cases hasR R m <;> rfl
  · intro ct i _ hi hI
    by_cases q : m &&& R.getD i 0 = R.getD i 0
    · right
      refine ⟨.inl 1, ?_, by rw [if_pos ((hasR_at R m).mpr ⟨i, hi, q⟩)]⟩
      show fX5_has_L2 N r f (nI m) (ct + 1) (nI i) = _
      rw [fX5_has_L2, h1, if_neg (nI_ge hi (by omega)), okb_t (inbN (by omega) (by decide)), okb_t (inbN (by omega) (by decide)), nI_clamp (by omega), h3 i hi, if_pos ((nI_and_eq hm (hq i hi)).mpr q)]
    · left
      refine ⟨(), fun j hj => ?_, ?_⟩
      · by_cases e : j = i
        · rw [e]; exact q
        · exact hI j (by omega)
      · show fX5_has_L2 N r f (nI m) (ct + 1) (nI i) = fX5_has_L2 N r f (nI m) ct (nI (i + 1))
        rw [fX5_has_L2, h1, if_neg (nI_ge hi (by omega)), okb_t (inbN (by omega) (by decide)), okb_t (inbN (by omega) (by decide)), nI_clamp (by omega), h3 i hi, if_neg (fun e => q ((nI_and_eq hm (hq i hi)).mp e)), nI_1]
  · intro ct _ hI
    refine ⟨.inr (), ?_, ?_⟩
    · show fX5_has_L2 N r f (nI m) (ct + 1) (nI R.length) = _
      rw [fX5_has_L2, h1, if_pos (nI_le (Nat.le_refl _) (by omega))]
    · rw [if_neg]
      intro q
      obtain ⟨i, hi, e⟩ := (hasR_at R m).mp q
      exact hI i hi e
