/-! the rows as both sides find them -/
def pre (l m : List Nat) : Prop := ∃ t, m = l ++ t
theorem pre_rf (l : List Nat) : pre l l := ⟨[], (List.append_nil l).symm⟩
theorem pre_tr {a b c : List Nat} (h1 : pre a b) (h2 : pre b c) : pre a c := by
  obtain ⟨t, rfl⟩ := h1
  obtain ⟨u, rfl⟩ := h2
  exact ⟨t ++ u, List.append_assoc a t u⟩
theorem pre_len {a b : List Nat} (h : pre a b) : a.length ≤ b.length := by
  obtain ⟨t, rfl⟩ := h
  rw [List.length_append]
  omega
theorem pre_fil {a b : List Nat} (h : pre a b) (f : Nat → Bool) : (a.filter f).length ≤ (b.filter f).length := by
  obtain ⟨t, rfl⟩ := h
  rw [List.filter_append, List.length_append]
  omega
theorem pre_mem {a b : List Nat} (h : pre a b) {x : Nat} (hx : x ∈ a) : x ∈ b := by
  obtain ⟨t, rfl⟩ := h
  exact List.mem_append_left t hx
theorem addR_pre (l : List Nat) (r : Nat) : pre l (addR l r) := by
  unfold addR
  split
  · exact pre_rf l
  · exact ⟨[r], rfl⟩
def sq1 (w h k : Nat) (j : Bool) (l : List Nat) (x y : Nat) : List Nat := addR l (rowS w h k j x y 0)
def sq2 (w h k : Nat) (j : Bool) (l : List Nat) (x y : Nat) : List Nat := addR (sq1 w h k j l x y) (rowS w h k j x y 1)
def sq3 (w h k : Nat) (j : Bool) (l : List Nat) (x y : Nat) : List Nat := addR (sq2 w h k j l x y) (rowS w h k j x y 2)
theorem sqR_eq (w h k : Nat) (j : Bool) (l : List Nat) (x y : Nat) : sqR w h k j l x y = addR (sq3 w h k j l x y) (rowS w h k j x y 3) := rfl
def RY (w h k : Nat) (j : Bool) (y : Nat) : List Nat := (List.range y).foldl (fun l y => (List.range w).foldl (fun l x => sqR w h k j l x y) l) []
def RX (w h k : Nat) (j : Bool) (y x : Nat) : List Nat := (List.range x).foldl (fun l x => sqR w h k j l x y) (RY w h k j y)
theorem RX_0 (w h k : Nat) (j : Bool) (y : Nat) : RX w h k j y 0 = RY w h k j y := rfl
theorem RX_s (w h k : Nat) (j : Bool) (y x : Nat) : RX w h k j y (x + 1) = sqR w h k j (RX w h k j y x) x y := by
  unfold RX
  rw [List.range_succ, List.foldl_append]
  rfl
theorem RY_s (w h k : Nat) (j : Bool) (y : Nat) : RY w h k j (y + 1) = RX w h k j y w := by
  unfold RY RX
  rw [List.range_succ, List.foldl_append]
  rfl
theorem RY_h (w h k : Nat) (j : Bool) : RY w h k j h = RW w h k j := rfl
theorem pre_mono {f : Nat → List Nat} (hf : ∀ i, pre (f i) (f (i + 1))) : ∀ d i, pre (f i) (f (i + d))
  | 0, i => pre_rf _
  | d + 1, i => pre_tr (pre_mono hf d i) (hf (i + d))
theorem sq_pre (w h k : Nat) (j : Bool) (l : List Nat) (x y : Nat) : pre l (sq1 w h k j l x y) ∧ pre (sq1 w h k j l x y) (sq2 w h k j l x y) ∧ pre (sq2 w h k j l x y) (sq3 w h k j l x y) ∧ pre (sq3 w h k j l x y) (sqR w h k j l x y) :=
  ⟨addR_pre _ _, addR_pre _ _, addR_pre _ _, addR_pre _ _⟩
theorem sqR_pre (w h k : Nat) (j : Bool) (l : List Nat) (x y : Nat) : pre l (sqR w h k j l x y) := by
  obtain ⟨a, b, c, d⟩ := sq_pre w h k j l x y
  exact pre_tr a (pre_tr b (pre_tr c d))
theorem RX_pre (w h k : Nat) (j : Bool) (y : Nat) {x z : Nat} (hx : x ≤ z) : pre (RX w h k j y x) (RX w h k j y z) := by
  have := pre_mono (f := RX w h k j y) (fun i => by rw [RX_s]; exact sqR_pre w h k j _ i y) (z - x) x
  rw [show x + (z - x) = z by omega] at this
  exact this
theorem RY_pre (w h k : Nat) (j : Bool) {y z : Nat} (hy : y ≤ z) : pre (RY w h k j y) (RY w h k j z) := by
  have := pre_mono (f := RY w h k j) (fun i => by rw [RY_s, ← RX_0]; exact RX_pre w h k j i (Nat.zero_le w)) (z - y) y
  rw [show y + (z - y) = z by omega] at this
  exact this
theorem RX_all (w h k : Nat) (j : Bool) {y x : Nat} (hy : y < h) (hx : x ≤ w) : pre (RX w h k j y x) (RW w h k j) := by
  have h1 := RX_pre w h k j y hx
  rw [← RY_s] at h1
  rw [← RY_h]
  exact pre_tr h1 (RY_pre w h k j hy)
/-- what the kernel found of the rows -/
theorem RW_facts {w h k : Nat} (hb : okB w h k = true) (j : Bool) : (RW w h k j).length < 64 ∧ (∀ r, r ∈ RW w h k j → r < 2 ^ (w * h) ∧ r ≠ 0 ∧ mirM w r ∈ RW w h k j) ∧ ∀ s, s < w * h → ((RW w h k j).filter (fun r => r.testBit s)).length < 16 := by
  have h1 := allB_s rw_facts hb j
  unfold rwFacts at h1
  simp only [Bool.and_eq_true, decide_eq_true_eq] at h1
  refine ⟨h1.1.1, fun r hr => ?_, fun s hs => ?_⟩
  · have h2 := List.all_eq_true.mp h1.1.2 r hr
    simp only [Bool.and_eq_true, decide_eq_true_eq] at h2
    exact ⟨h2.1.1.1, h2.1.1.2, h2.1.2⟩
  · have h2 := List.all_eq_true.mp h1.2 s (List.mem_range.mpr hs)
    exact of_decide_eq_true h2
theorem RW_RF {w h k : Nat} (hb : okB w h k = true) (j : Bool) : RF w h (RW w h k j) := by
  have hB := Bd_of hb
  obtain ⟨_, h2, _⟩ := RW_facts hb j
  have h16 : 2 ^ (w * h) ≤ 2 ^ 16 := Nat.pow_le_pow_right (by decide) hB.2.2.2.2.1
  exact ⟨fun r hr => (h2 r hr).2.1, fun r hr => by have := (h2 r hr).1; omega, fun r hr => ⟨(h2 r hr).2.2, (h2 r hr).1⟩⟩
theorem row_at {w h k : Nat} (hb : okB w h k = true) (j : Bool) {x y d : Nat} (hx : x < w) (hy : y < h) (hd : d < 4) : fX5_squaresOf 4194304 (nI w) (nI h) (nI k) (jI j) (nI x) (nI y) (wayI d) (nI (wayY d)) = some (nI (rowS w h k j x y d)) ∧ fX1_rowFrom 4194304 (nI w) (nI h) (nI k) (jI j) (nI x) (nI y) (wayI d) (nI (wayY d)) = some (nI (rowS w h k j x y d)) := by
  have h1 := allB_s row_ok hb j
  unfold rowOk at h1
  have h2 := List.all_eq_true.mp h1 x (List.mem_range.mpr hx)
  have h3 := List.all_eq_true.mp h2 y (List.mem_range.mpr hy)
  have h4 := List.all_eq_true.mp h3 d (List.mem_range.mpr hd)
  simp only [Bool.and_eq_true, decide_eq_true_eq] at h4
  exact h4
theorem mem_at (l : List Nat) (r : Nat) : r ∈ l ↔ ∃ i, i < l.length ∧ l.getD i 0 = r := by
  constructor
  · intro h
    obtain ⟨i, hi, e⟩ := List.getElem_of_mem h
    refine ⟨i, hi, ?_⟩
    rw [List.getD_eq_getElem?_getD, List.getElem?_eq_getElem hi]
    exact e
  · rintro ⟨i, hi, e⟩
    rw [List.getD_eq_getElem?_getD, List.getElem?_eq_getElem hi] at e
    rw [← e]
    exact List.getElem_mem hi
theorem getD_app (l : List Nat) (r i : Nat) (hi : i < l.length + 1) : (l ++ [r]).getD i 0 = if i = l.length then r else l.getD i 0 := by
  rw [List.getD_eq_getElem?_getD]
  by_cases e : i = l.length
  · rw [if_pos e, List.getElem?_append_right (by omega), e, Nat.sub_self]
    rfl
  · rw [if_neg e, List.getElem?_append_left (by omega), List.getD_eq_getElem?_getD]
theorem rwA_add {l : List Nat} {xr : Int32} {f : Nat → Int32} (hA : rwA l xr f) {r : Nat} (hb : (l ++ [r]).length < 64) : rwA (l ++ [r]) (xr + 1) (upd f xr.toNatClampNeg (nI r)) := by
  obtain ⟨h1, h2, h3⟩ := hA
  rw [h1, nI_clamp (by omega), nI_1]
  refine ⟨by rw [List.length_append]; rfl, hb, fun i hi => ?_⟩
  rw [List.length_append] at hi
  have hi' : i < l.length + 1 := hi
  rw [getD_app l r i hi']
  by_cases e : i = l.length
  · rw [e, pk_us, if_pos rfl]
  · rw [pk_un e, if_neg e, h3 i (by omega)]
theorem m_addRow {l : List Nat} {xr : Int32} {yR : Nat → Int32} (hA : rwA l xr yR) (hl : ∀ q, q ∈ l → q < 2 ^ 16) {r N : Nat} (hr : r < 2 ^ 16) (hb : (addR l r).length < 64) (hN : 100 < N) : ∃ v, fX5_addRow N xr yR (nI r) = some v ∧ rwA (addR l r) v.1 v.2 := by
  have hA' := hA
  obtain ⟨h1, h2, h3⟩ := hA
  have h31 : (2 : Nat) ^ 16 < 2 ^ 31 := by decide
  have hq : ∀ i, i < l.length → l.getD i 0 < 2 ^ 31 := fun i hi => by
    have := hl _ ((mem_at l _).mpr ⟨i, hi, rfl⟩)
    omega
  have key := lpN (fun ct (_ : Unit) i => fX5_addRow_L2 N xr yR (nI r) ct i) l.length (fun i _ => ∀ j, j < i → ¬ l.getD j 0 = r) (fun v => v = if r ∈ l then .inl (xr, yR) else .inr ()) ?_ ?_ l.length 0 N () (by omega) (by omega) (fun j hj => absurd hj (Nat.not_lt_zero j))
  · obtain ⟨v, e1, e2⟩ := key
    unfold fX5_addRow
    rw [i0, e1, e2]
    by_cases q : r ∈ l
    · refine ⟨(xr, yR), ?_, ?_⟩
      · rw [if_pos q]
        rfl
      · unfold addR
        rw [if_pos (Or.inr q)]
        exact hA'
    · rw [if_neg q]
      by_cases z : r = 0
      · refine ⟨(xr, yR), ?_, ?_⟩
        · show (if nI r = nI 0 then some (xr, yR) else _) = _
          rw [if_pos (by rw [z])]
        · unfold addR
          rw [if_pos (Or.inl z)]
          exact hA'
      · have ea : addR l r = l ++ [r] := by unfold addR; rw [if_neg (by exact fun o_ => Or.elim o_ (fun u => z u) (fun u => q u))]
        rw [ea] at hb ⊢
        refine ⟨(xr + 1, upd yR xr.toNatClampNeg (nI r)), ?_, rwA_add hA' hb⟩
        show (if nI r = nI 0 then some (xr, yR) else okb (inb xr 64) (some ((xr + (1 : Int32)), (upd yR xr.toNatClampNeg (nI r))))) = _
        rw [if_neg (fun u => z ((nI_eq (by omega) (by decide)).mp u)), okb_t (by rw [h1]; exact inbN h2 (by decide))]
  · intro ct i _ hi hI
    by_cases q : l.getD i 0 = r
    · right
      refine ⟨.inl (xr, yR), ?_, by rw [if_pos ((mem_at l r).mpr ⟨i, hi, q⟩)]⟩
      show fX5_addRow_L2 N xr yR (nI r) (ct + 1) (nI i) = _
      rw [fX5_addRow_L2, if_neg (by rw [h1]; exact nI_ge hi (by omega)), okb_t (inbN (by omega) (by decide)), nI_clamp (by omega), h3 i hi, if_pos (by rw [q])]
    · left
      refine ⟨(), fun j hj => ?_, ?_⟩
      · by_cases e : j = i
        · rw [e]; exact q
        · exact hI j (by omega)
      · show fX5_addRow_L2 N xr yR (nI r) (ct + 1) (nI i) = fX5_addRow_L2 N xr yR (nI r) ct (nI (i + 1))
        rw [fX5_addRow_L2, if_neg (by rw [h1]; exact nI_ge hi (by omega)), okb_t (inbN (by omega) (by decide)), nI_clamp (by omega), h3 i hi, if_neg (fun e => q ((nI_eq (hq i hi) (by omega)).mp e)), nI_1]
  · intro ct _ hI
    refine ⟨.inr (), ?_, ?_⟩
    · show fX5_addRow_L2 N xr yR (nI r) (ct + 1) (nI l.length) = _
      rw [fX5_addRow_L2, if_pos (by rw [h1]; exact nI_le (Nat.le_refl _) (by omega))]
    · rw [if_neg]
      intro q
      obtain ⟨i, hi, e⟩ := (mem_at l r).mp q
      exact hI i hi e
/-- the rows through each square -/
def fl (l : List Nat) (s : Nat) : List Nat := l.filter (fun r => r.testBit s)
def thS (l : List Nat) (s : Nat) (gT gC : Nat → Int32) : Prop := gC s = nI (fl l s).length ∧ ∀ i, i < (fl l s).length → gT (s * 16 + i) = nI ((fl l s).getD i 0)
def thA (q : Nat) (l : List Nat) (gT gC : Nat → Int32) : Prop := ∀ s, s < q → thS l s gT gC
theorem fl_app (l : List Nat) (r s : Nat) : fl (l ++ [r]) s = if r.testBit s = true then fl l s ++ [r] else fl l s := by
  unfold fl
  rw [List.filter_append]
  by_cases q : r.testBit s = true
  · rw [if_pos q]
    simp [q]
  · rw [if_neg q]
    simp [q]
theorem bit_dec (r s : Nat) : r.testBit s = true ↔ r / 2 ^ s % 2 = 1 := by
  rw [Nat.testBit_eq_decide_div_mod_eq, decide_eq_true_eq]
theorem c_thr {q : Nat} {l : List Nat} {gT gC : Nat → Int32} {r N : Nat} (hq : q ≤ 16) (hr : r < 2 ^ 16) (hA : thA q l gT gC) (hb : ∀ s, s < q → (fl (l ++ [r]) s).length < 16) (hN : 20 < N) : ∃ v, fX1_addRow_L47 N (nI q) (nI r) N gT gC (nI 0) = some v ∧ thA q (l ++ [r]) v.1 v.2 := by
  have h31 : (2 : Nat) ^ 16 < 2 ^ 31 := by decide
  refine lpN (fun ct (s : (Nat → Int32) × (Nat → Int32)) i => fX1_addRow_L47 N (nI q) (nI r) ct s.1 s.2 i) q (fun s v => (∀ t, t < s → thS (l ++ [r]) t v.1 v.2) ∧ ∀ t, s ≤ t → t < q → thS l t v.1 v.2) (fun v => thA q (l ++ [r]) v.1 v.2) ?_ ?_ q 0 N (gT, gC) (by omega) (by omega) ⟨fun t ht => absurd ht (Nat.not_lt_zero t), fun t _ ht => hA t ht⟩
  · rintro ct s ⟨gT, gC⟩ hs ⟨hI1, hI2⟩
    left
    have hbs := hb s hs
    have hbit : (nI r >>> (nI s &&& 31)) &&& (1 : Int32) = nI (r / 2 ^ s % 2) := bitI (by omega) (by omega)
    by_cases qb : r.testBit s = true
    · have e1 := (bit_dec r s).mp qb
      obtain ⟨c1, c2⟩ := hI2 s (Nat.le_refl s) hs
      have ef : fl (l ++ [r]) s = fl l s ++ [r] := by rw [fl_app, if_pos qb]
      have hlen : (fl l s).length + 1 < 16 := by
        rw [ef, List.length_append] at hbs
        exact hbs
      have c1' : gC s = nI (fl l s).length := c1
      have hidx : nI s * (16 : Int32) + gC s = nI (s * 16 + (fl l s).length) := by
        rw [c1', show (16 : Int32) = nI 16 from rfl, pk_mul, nI_add]
      refine ⟨(upd gT (s * 16 + (fl l s).length) (nI r), upd gC s (gC s + 1)), ⟨fun t ht => ?_, fun t ht1 ht2 => ?_⟩, ?_⟩
      · by_cases e : t = s
        · subst e
          refine ⟨?_, fun i hi => ?_⟩
          · show upd gC t (gC t + 1) t = _
            rw [pk_us, c1', nI_1, ef, List.length_append]
            rfl
          · rw [ef, List.length_append] at hi
            have hi' : i < (fl l t).length + 1 := hi
            rw [ef, getD_app _ _ _ hi']
            show upd gT (t * 16 + (fl l t).length) (nI r) (t * 16 + i) = _
            by_cases u : i = (fl l t).length
            · rw [if_pos u, u, pk_us]
            · rw [if_neg u, pk_un (by omega)]
              exact c2 i (by omega)
        · obtain ⟨d1, d2⟩ := hI1 t (by omega)
          have hbt := hb t (by omega)
          refine ⟨?_, fun i hi => ?_⟩
          · show upd gC s (gC s + 1) t = _
            rw [pk_un e]
            exact d1
          · show upd gT (s * 16 + (fl l s).length) (nI r) (t * 16 + i) = _
            rw [pk_un (by omega)]
            exact d2 i hi
      · obtain ⟨d1, d2⟩ := hI2 t (by omega) ht2
        have hbt := hb t ht2
        have hlt : (fl l t).length ≤ (fl (l ++ [r]) t).length := pre_fil ⟨[r], rfl⟩ _
        refine ⟨?_, fun i hi => ?_⟩
        · show upd gC s (gC s + 1) t = _
          rw [pk_un (by omega)]
          exact d1
        · show upd gT (s * 16 + (fl l s).length) (nI r) (t * 16 + i) = _
          rw [pk_un (by omega)]
          exact d2 i hi
      · show fX1_addRow_L47 N (nI q) (nI r) (ct + 1) gT gC (nI s) = fX1_addRow_L47 N (nI q) (nI r) ct (upd gT (s * 16 + (fl l s).length) (nI r)) (upd gC s (gC s + 1)) (nI (s + 1))
        have hin : inb (nI s) 16 = true := inbN (by omega) (by decide)
        rw [fX1_addRow_L47, if_neg (nI_ge hs (by omega)), hbit, e1, if_neg (by decide), okb_t hin, nI_clamp (by omega), if_neg (by rw [c1']; exact nI_ge (b := 16) (by omega) (by decide)), okb_t hin, hidx, okb_t (inbN (by omega) (by decide)), okb_t hin, okb_t hin, nI_clamp (by omega), nI_1]
    · have e1 : r / 2 ^ s % 2 = 0 := by
        rcases Nat.mod_two_eq_zero_or_one (r / 2 ^ s) with u | u
        · exact u
        · exact absurd ((bit_dec r s).mpr u) qb
      refine ⟨(gT, gC), ⟨fun t ht => ?_, fun t ht1 ht2 => hI2 t (by omega) ht2⟩, ?_⟩
      · by_cases e : t = s
        · subst e
          have := hI2 t (Nat.le_refl t) hs
          unfold thS at this ⊢
          rw [fl_app, if_neg qb]
          exact this
        · exact hI1 t (by omega)
      · show fX1_addRow_L47 N (nI q) (nI r) (ct + 1) gT gC (nI s) = fX1_addRow_L47 N (nI q) (nI r) ct gT gC (nI (s + 1))
        rw [fX1_addRow_L47, if_neg (nI_ge hs (by omega)), hbit, e1, if_pos (show nI 0 = 0 from rfl), nI_1]
  · rintro ct ⟨gT, gC⟩ ⟨hI1, _⟩
    refine ⟨(gT, gC), ?_, fun s hs => hI1 s hs⟩
    show fX1_addRow_L47 N (nI q) (nI r) (ct + 1) gT gC (nI q) = _
    rw [fX1_addRow_L47, if_pos (nI_le (Nat.le_refl _) (by omega))]
theorem c_isRow {l : List Nat} {gr : Int32} {gR : Nat → Int32} (hA : rwA l gr gR) (hl : ∀ q, q ∈ l → q < 2 ^ 16) {r N : Nat} (hr : r < 2 ^ 16) (hN : 100 < N) : fX1_isRow N gr gR (nI r) = some (if r ∈ l then 1 else 0) := by
  obtain ⟨h1, h2, h3⟩ := hA
  have h31 : (2 : Nat) ^ 16 < 2 ^ 31 := by decide
  have hq : ∀ i, i < l.length → l.getD i 0 < 2 ^ 31 := fun i hi => by
    have := hl _ ((mem_at l _).mpr ⟨i, hi, rfl⟩)
    omega
  have key := lpN (fun ct (_ : Unit) i => fX1_isRow_L2 N gr gR (nI r) ct i) l.length (fun i _ => ∀ j, j < i → ¬ l.getD j 0 = r) (fun v => v = if r ∈ l then .inl 1 else .inr ()) ?_ ?_ l.length 0 N () (by omega) (by omega) (fun j hj => absurd hj (Nat.not_lt_zero j))
  · obtain ⟨v, e1, e2⟩ := key
    unfold fX1_isRow
    rw [i0, e1, e2]
    by_cases q : r ∈ l
    · rw [if_pos q, if_pos q]; rfl
    · rw [if_neg q, if_neg q]; rfl
  · intro ct i _ hi hI
    by_cases q : l.getD i 0 = r
    · right
      refine ⟨.inl 1, ?_, by rw [if_pos ((mem_at l r).mpr ⟨i, hi, q⟩)]⟩
      show fX1_isRow_L2 N gr gR (nI r) (ct + 1) (nI i) = _
      rw [fX1_isRow_L2, if_neg (by rw [h1]; exact nI_ge hi (by omega)), okb_t (inbN (by omega) (by decide)), nI_clamp (by omega), h3 i hi, if_pos (by rw [q])]
    · left
      refine ⟨(), fun j hj => ?_, ?_⟩
      · by_cases e : j = i
        · rw [e]; exact q
        · exact hI j (by omega)
      · show fX1_isRow_L2 N gr gR (nI r) (ct + 1) (nI i) = fX1_isRow_L2 N gr gR (nI r) ct (nI (i + 1))
        rw [fX1_isRow_L2, if_neg (by rw [h1]; exact nI_ge hi (by omega)), okb_t (inbN (by omega) (by decide)), nI_clamp (by omega), h3 i hi, if_neg (fun e => q ((nI_eq (hq i hi) (by omega)).mp e)), nI_1]
  · intro ct _ hI
    refine ⟨.inr (), ?_, ?_⟩
    · show fX1_isRow_L2 N gr gR (nI r) (ct + 1) (nI l.length) = _
      rw [fX1_isRow_L2, if_pos (by rw [h1]; exact nI_le (Nat.le_refl _) (by omega))]
    · rw [if_neg]
      intro q
      obtain ⟨i, hi, e⟩ := (mem_at l r).mp q
      exact hI i hi e
theorem c_addRow {q : Nat} {l : List Nat} {gr : Int32} {gR gT gC : Nat → Int32} (hq : q ≤ 16) (hA : rwA l gr gR) (hT : thA q l gT gC) (hl : ∀ a, a ∈ l → a < 2 ^ 16) {r N : Nat} (hr : r < 2 ^ 16) (hb : (addR l r).length < 64) (hb2 : ∀ s, s < q → (fl (addR l r) s).length < 16) (hN : 100 < N) :
    ∃ v, fX1_addRow N (nI q) gr gR gT gC (nI r) = some v ∧ rwA (addR l r) v.1 v.2.1 ∧ thA q (addR l r) v.2.2.1 v.2.2.2 := by
  have h31 : (2 : Nat) ^ 16 < 2 ^ 31 := by decide
  unfold fX1_addRow
  by_cases z : r = 0
  · refine ⟨(gr, gR, gT, gC), by rw [if_pos (by rw [z]; rfl)], ?_⟩
    unfold addR
    rw [if_pos (Or.inl z)]
    exact ⟨hA, hT⟩
  · rw [if_neg (nI_ne0 (by omega) (by omega)), c_isRow hA hl hr hN]
    simp only [Option.bind_some]
    by_cases m : r ∈ l
    · refine ⟨(gr, gR, gT, gC), by rw [if_pos m, if_neg (by decide)], ?_⟩
      unfold addR
      rw [if_pos (Or.inr m)]
      exact ⟨hA, hT⟩
    · have ea : addR l r = l ++ [r] := by unfold addR; rw [if_neg (by exact fun o_ => Or.elim o_ (fun u => z u) (fun u => m u))]
      rw [ea] at hb hb2 ⊢
      obtain ⟨v, hv, hv2⟩ := c_thr hq hr hT hb2 (N := N) (by omega)
      refine ⟨(gr + 1, upd gR gr.toNatClampNeg (nI r), v.1, v.2), ?_, rwA_add hA hb, hv2⟩
      have hl64 : l.length < 64 := hA.2.1
      rw [if_neg m, if_pos rfl, if_pos (by rw [hA.1]; exact nI_lt hl64 (by decide)), okb_t (by rw [hA.1]; exact inbN hl64 (by decide)), i0, hv]
      rfl
