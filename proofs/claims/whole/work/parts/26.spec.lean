/-! positions: for each column its men, the topmost first; the two codes of a column; keys; masks; mirror -/
abbrev Pos : Type := Nat → List Bool
def emp : Pos := fun _ => []
def psh (p : Pos) (x : Nat) (s : Bool) : Pos := fun i => if i = x then s :: p i else p i
theorem psh_same (p : Pos) (x : Nat) (s : Bool) : psh p x s x = s :: p x := if_pos rfl
theorem psh_ne (p : Pos) {x i : Nat} (s : Bool) (h : i ≠ x) : psh p x s i = p i := if_neg h
def cod : List Bool → Nat
  | [] => 1
  | s :: t => cod t + (1 + s.toNat) * 2 ^ t.length
def rco : List Bool → Nat
  | [] => 1
  | s :: t => 2 * rco t + s.toNat
theorem b_le (s : Bool) : s.toNat ≤ 1 := by cases s <;> decide
theorem cod_b : ∀ t : List Bool, 2 ^ t.length ≤ cod t ∧ cod t < 2 ^ (t.length + 1)
  | [] => ⟨Nat.le_refl _, by decide⟩
  | s :: t => by
    obtain ⟨h1, h2⟩ := cod_b t
    have hs := b_le s
    simp only [cod, List.length_cons]
    have e1 : 2 ^ (t.length + 1) = 2 ^ t.length * 2 := Nat.pow_succ _ _
    have e2 : 2 ^ (t.length + 1 + 1) = 2 ^ t.length * 2 * 2 := by rw [Nat.pow_succ, Nat.pow_succ]
    have h3 : (1 + s.toNat) * 2 ^ t.length = 2 ^ t.length + s.toNat * 2 ^ t.length := by rw [Nat.add_mul, Nat.one_mul]
    have h4 : s.toNat * 2 ^ t.length ≤ 1 * 2 ^ t.length := Nat.mul_le_mul_right _ hs
    omega
theorem rco_b : ∀ t : List Bool, 2 ^ t.length ≤ rco t ∧ rco t < 2 ^ (t.length + 1)
  | [] => ⟨Nat.le_refl _, by decide⟩
  | s :: t => by
    obtain ⟨h1, h2⟩ := rco_b t
    have hs := b_le s
    simp only [rco, List.length_cons]
    have e1 : 2 ^ (t.length + 1) = 2 ^ t.length * 2 := Nat.pow_succ _ _
    have e2 : 2 ^ (t.length + 1 + 1) = 2 ^ t.length * 2 * 2 := by rw [Nat.pow_succ, Nat.pow_succ]
    omega
theorem rco_inj : ∀ t u : List Bool, rco t = rco u → t = u
  | [], [], _ => rfl
  | [], s :: u, h => by
    have := (rco_b u).1
    have h2 := Nat.one_le_two_pow (n := u.length)
    simp only [rco] at h
    omega
  | s :: t, [], h => by
    have := (rco_b t).1
    have h2 := Nat.one_le_two_pow (n := t.length)
    simp only [rco] at h
    omega
  | s :: t, a :: u, h => by
    simp only [rco] at h
    have hs := b_le s
    have ha := b_le a
    have e1 : s.toNat = a.toNat := by omega
    have e2 : rco t = rco u := by omega
    rw [rco_inj t u e2]
    cases s <;> cases a <;> simp_all
theorem cod_len {t u : List Bool} (h : cod t = cod u) : t.length = u.length := by
  obtain ⟨a1, a2⟩ := cod_b t
  obtain ⟨b1, b2⟩ := cod_b u
  rcases Nat.lt_trichotomy t.length u.length with q | q | q
  · have : 2 ^ (t.length + 1) ≤ 2 ^ u.length := Nat.pow_le_pow_right (by decide) q
    omega
  · exact q
  · have : 2 ^ (u.length + 1) ≤ 2 ^ t.length := Nat.pow_le_pow_right (by decide) q
    omega
theorem cod_inj : ∀ t u : List Bool, cod t = cod u → t = u
  | [], [], _ => rfl
  | [], s :: u, h => by have := cod_len h; simp at this
  | s :: t, [], h => by have := cod_len h; simp at this
  | s :: t, a :: u, h => by
    have hl := cod_len h
    simp only [List.length_cons, Nat.add_right_cancel_iff] at hl
    simp only [cod] at h
    rw [hl] at h
    obtain ⟨a1, a2⟩ := cod_b t
    obtain ⟨b1, b2⟩ := cod_b u
    rw [hl] at a1 a2
    have e1 : 2 ^ (u.length + 1) = 2 ^ u.length * 2 := Nat.pow_succ _ _
    have e : s = a := by
      cases s <;> cases a <;> simp at h ⊢ <;> omega
    subst e
    have e2 : cod t = cod u := by omega
    rw [cod_inj t u e2]
/-- digits -/
theorem dig_lt (B : Nat) (d : Nat → Nat) : ∀ n, (∀ i, i < n → d i < B) → fb_sm (fun i => d i * B ^ i) n < B ^ n
  | 0, _ => by simp [fb_sm]
  | n + 1, h => by
    have ih := dig_lt B d n (fun i hi => h i (by omega))
    rw [fb_sm_succ, Nat.pow_succ]
    have h1 : d n + 1 ≤ B := h n (by omega)
    have h2 : (d n + 1) * B ^ n ≤ B * B ^ n := Nat.mul_le_mul_right _ h1
    rw [Nat.add_mul, Nat.one_mul] at h2
    rw [Nat.mul_comm B] at h2
    omega
theorem dig_get (B : Nat) (d : Nat → Nat) : ∀ n x, (∀ i, i < n → d i < B) → x < n → fb_sm (fun i => d i * B ^ i) n / B ^ x % B = d x
  | 0, x, _, hx => absurd hx (Nat.not_lt_zero x)
  | n + 1, x, h, hx => by
    have hB : 0 < B := Nat.lt_of_le_of_lt (Nat.zero_le _) (h n (by omega))
    have hp : 0 < B ^ x := Nat.pow_pos hB
    rw [fb_sm_succ]
    rcases Nat.lt_or_ge x n with q | q
    · have ih := dig_get B d n x (fun i hi => h i (by omega)) q
      obtain ⟨c, hc⟩ : ∃ c, n = x + 1 + c := ⟨n - x - 1, by omega⟩
      have e : d n * B ^ n = B ^ x * (B * (d n * B ^ c)) := by
        rw [hc, Nat.pow_add, Nat.pow_add, Nat.pow_one]
        rw [Nat.mul_assoc (B ^ x), Nat.mul_left_comm, Nat.mul_left_comm (d (x + 1 + c))]
      rw [e, Nat.add_mul_div_left _ _ hp, Nat.add_mul_mod_self_left]
      exact ih
    · have e : x = n := by omega
      subst e
      have hl := dig_lt B d x (fun i hi => h i (by omega))
      rw [Nat.add_mul_div_right _ _ hp, Nat.div_eq_of_lt hl, Nat.zero_add, Nat.mod_eq_of_lt (h x (by omega))]
theorem dig_inj {B : Nat} {d e : Nat → Nat} {n : Nat} (hd : ∀ i, i < n → d i < B) (he : ∀ i, i < n → e i < B) (h : fb_sm (fun i => d i * B ^ i) n = fb_sm (fun i => e i * B ^ i) n) : ∀ x, x < n → d x = e x := fun x hx => by
  rw [← dig_get B d n x hd hx, ← dig_get B e n x he hx, h]
theorem fb_sm_at (f g : Nat → Nat) {n i : Nat} (hi : i < n) (hg : ∀ k, k ≠ i → g k = f k) : fb_sm g n + f i = fb_sm f n + g i := by
  have e : g = fun k => if k = i then g i else f k := by
    funext k
    by_cases q : k = i
    · rw [if_pos q, q]
    · rw [if_neg q, hg k q]
  have h := fb_sm_upd f (g i) hi
  rw [← e] at h
  exact h
def kyM (w h : Nat) (p : Pos) : Nat := fb_sm (fun x => cod (p x) * (2 ^ (h + 1)) ^ x) w
def kyC (w h : Nat) (p : Pos) : Nat := fb_sm (fun x => (rco (p x) - 1) * (2 ^ (h + 1) - 1) ^ x) w
def cnt (w : Nat) (p : Pos) : Nat := fb_sm (fun x => (p x).length) w
/-- no column too high, none beyond the board -/
def okP (w h : Nat) (p : Pos) : Prop := (∀ x, x < w → (p x).length ≤ h) ∧ ∀ x, w ≤ x → p x = []
theorem cod_lt {h : Nat} {t : List Bool} (ht : t.length ≤ h) : cod t < 2 ^ (h + 1) := Nat.lt_of_lt_of_le (cod_b t).2 (Nat.pow_le_pow_right (by decide) (by omega))
theorem rco_lt {h : Nat} {t : List Bool} (ht : t.length ≤ h) : rco t - 1 < 2 ^ (h + 1) - 1 := by
  have h1 : rco t < 2 ^ (h + 1) := Nat.lt_of_lt_of_le (rco_b t).2 (Nat.pow_le_pow_right (by decide) (by omega))
  have h2 := (rco_b t).1
  have h3 := Nat.one_le_two_pow (n := t.length)
  omega
theorem kyM_lt {w h : Nat} {p : Pos} (hp : okP w h p) : kyM w h p < (2 ^ (h + 1)) ^ w := dig_lt _ _ w (fun i hi => cod_lt (hp.1 i hi))
theorem kyC_lt {w h : Nat} {p : Pos} (hp : okP w h p) : kyC w h p < (2 ^ (h + 1) - 1) ^ w := dig_lt _ _ w (fun i hi => rco_lt (hp.1 i hi))
theorem kyM_col {w h : Nat} {p : Pos} (hp : okP w h p) {x : Nat} (hx : x < w) : kyM w h p / (2 ^ (h + 1)) ^ x % 2 ^ (h + 1) = cod (p x) := dig_get _ _ w x (fun i hi => cod_lt (hp.1 i hi)) hx
theorem okP_ext {w h : Nat} {p q : Pos} (hp : okP w h p) (hq : okP w h q) (e : ∀ x, x < w → p x = q x) : p = q := by
  funext x
  rcases Nat.lt_or_ge x w with r | r
  · exact e x r
  · rw [hp.2 x r, hq.2 x r]
theorem kyM_inj {w h : Nat} {p q : Pos} (hp : okP w h p) (hq : okP w h q) (e : kyM w h p = kyM w h q) : p = q :=
  okP_ext hp hq (fun x hx => cod_inj _ _ (dig_inj (fun i hi => cod_lt (hp.1 i hi)) (fun i hi => cod_lt (hq.1 i hi)) e x hx))
theorem kyC_inj {w h : Nat} {p q : Pos} (hp : okP w h p) (hq : okP w h q) (e : kyC w h p = kyC w h q) : p = q :=
  okP_ext hp hq (fun x hx => rco_inj _ _ (by
    have h1 := dig_inj (fun i hi => rco_lt (hp.1 i hi)) (fun i hi => rco_lt (hq.1 i hi)) e x hx
    have a := (rco_b (p x)).1
    have b := (rco_b (q x)).1
    have a2 := Nat.one_le_two_pow (n := (p x).length)
    have b2 := Nat.one_le_two_pow (n := (q x).length)
    omega))
theorem okP_psh {w h : Nat} {p : Pos} (hp : okP w h p) {x : Nat} (hx : x < w) (hl : (p x).length < h) (s : Bool) : okP w h (psh p x s) := by
  refine ⟨fun i hi => ?_, fun i hi => ?_⟩
  · by_cases e : i = x
    · subst e; rw [psh_same, List.length_cons]; omega
    · rw [psh_ne p s e]; exact hp.1 i hi
  · rw [psh_ne p s (by omega)]; exact hp.2 i hi
theorem okP_emp (w h : Nat) : okP w h emp := ⟨fun _ _ => Nat.zero_le _, fun _ _ => rfl⟩
theorem kyM_psh {w h : Nat} (p : Pos) {x : Nat} (hx : x < w) (s : Bool) : kyM w h (psh p x s) = kyM w h p + (1 + s.toNat) * 2 ^ (x * (h + 1) + (p x).length) := by
  have e := fb_sm_at (fun i => cod (p i) * (2 ^ (h + 1)) ^ i) (fun i => cod (psh p x s i) * (2 ^ (h + 1)) ^ i) hx (fun k hk => by rw [psh_ne p s hk])
  have e1 : cod (psh p x s x) * (2 ^ (h + 1)) ^ x = cod (p x) * (2 ^ (h + 1)) ^ x + (1 + s.toNat) * 2 ^ (x * (h + 1) + (p x).length) := by
    rw [psh_same]
    simp only [cod]
    have e9 : (2 ^ (h + 1)) ^ x = 2 ^ (x * (h + 1)) := by rw [← Nat.pow_mul, Nat.mul_comm]
    rw [Nat.add_mul, e9, Nat.pow_add 2 (x * (h + 1)), Nat.mul_assoc, Nat.mul_comm (2 ^ (p x).length)]
  rw [e1] at e
  unfold kyM
  omega
theorem kyC_psh {w h : Nat} (p : Pos) {x : Nat} (hx : x < w) (s : Bool) : kyC w h (psh p x s) = kyC w h p + (rco (p x) + s.toNat) * (2 ^ (h + 1) - 1) ^ x := by
  have e := fb_sm_at (fun i => (rco (p i) - 1) * (2 ^ (h + 1) - 1) ^ i) (fun i => (rco (psh p x s i) - 1) * (2 ^ (h + 1) - 1) ^ i) hx (fun k hk => by rw [psh_ne p s hk])
  have e1 : (rco (psh p x s x) - 1) * (2 ^ (h + 1) - 1) ^ x = (rco (p x) - 1) * (2 ^ (h + 1) - 1) ^ x + (rco (p x) + s.toNat) * (2 ^ (h + 1) - 1) ^ x := by
    rw [psh_same, ← Nat.add_mul]
    congr 1
    simp only [rco]
    have a := (rco_b (p x)).1
    have a2 := Nat.one_le_two_pow (n := (p x).length)
    omega
  rw [e1] at e
  unfold kyC
  omega
theorem cnt_psh {w : Nat} (p : Pos) {x : Nat} (hx : x < w) (s : Bool) : cnt w (psh p x s) = cnt w p + 1 := by
  have e := fb_sm_at (fun i => (p i).length) (fun i => (psh p x s i).length) hx (fun k hk => by rw [psh_ne p s hk])
  have e1 : (psh p x s x).length = (p x).length + 1 := by rw [psh_same, List.length_cons]
  rw [e1] at e
  unfold cnt
  omega
theorem cnt_emp (w : Nat) : cnt w emp = 0 := by
  unfold cnt
  have e : fb_sm (fun x => (emp x).length) w = fb_sm (fun _ => 0) w := fb_sm_cong (fun k _ => rfl)
  rw [e, fb_sm_const, Nat.mul_zero]
theorem cnt_le {w h : Nat} {p : Pos} (hp : okP w h p) : cnt w p ≤ w * h := fb_sm_bound (fun k hk => hp.1 k hk)
/-- a game that isn't full has an open column -/
theorem cnt_open {w h : Nat} {p : Pos} (hp : okP w h p) (hc : cnt w p < w * h) : ∃ x, x < w ∧ (p x).length < h := by
  rcases Classical.em (∃ x, x < w ∧ (p x).length < h) with q | q
  · exact q
  · have e : cnt w p = w * h := by
      unfold cnt
      rw [fb_sm_cong (g := fun _ => h) (fun k hk => ?_), fb_sm_const]
      have h1 := hp.1 k hk
      have h2 : ¬ (p k).length < h := fun r => q ⟨k, hk, r⟩
      omega
    omega
theorem cnt_full {w h : Nat} {p : Pos} (hp : okP w h p) (hc : cnt w p = w * h) {x : Nat} (hx : x < w) : (p x).length = h := by
  rcases Nat.lt_or_ge (p x).length h with q | q
  · have e := fb_sm_at (fun i => (p i).length) (fun i => if i = x then h else (p i).length) hx (fun k hk => if_neg hk)
    rw [if_pos rfl] at e
    have h2 : fb_sm (fun i => if i = x then h else (p i).length) w ≤ w * h := fb_sm_bound (fun k hk => by
      by_cases r : k = x
      · rw [if_pos r]; exact Nat.le_refl h
      · rw [if_neg r]; exact hp.1 k hk)
    unfold cnt at hc
    omega
  · have := hp.1 x hx
    omega
/-- the men of a side in a column, on the board -/
def mcol (w x : Nat) : List Bool → Bool → Nat
  | [], _ => 0
  | a :: t, s => mcol w x t s ||| (if a = s then 2 ^ (w * t.length + x) else 0)
def mkN (w : Nat) (p : Pos) (s : Bool) : Nat → Nat
  | 0 => 0
  | n + 1 => mkN w p s n ||| mcol w n (p n) s
def mk (w : Nat) (p : Pos) (s : Bool) : Nat := mkN w p s w
theorem mkN_psh (w : Nat) (p : Pos) (x : Nat) (a s : Bool) : ∀ n, mkN w (psh p x a) s n = mkN w p s n ||| (if x < n ∧ a = s then 2 ^ (w * (p x).length + x) else 0)
  | 0 => by simp [mkN]
  | n + 1 => by
    simp only [mkN]
    rw [mkN_psh w p x a s n]
    by_cases e : n = x
    · subst e
      rw [psh_same]
      simp only [mcol]
      rw [if_neg (show ¬ (n < n ∧ a = s) by omega), Nat.or_zero, Nat.or_assoc]
      by_cases q : a = s
      · rw [if_pos q, if_pos ⟨Nat.lt_succ_self n, q⟩]
      · rw [if_neg q, if_neg (fun r => q r.2)]
    · rw [psh_ne p a e]
      have e2 : (x < n + 1 ∧ a = s) ↔ (x < n ∧ a = s) := ⟨fun r => ⟨by omega, r.2⟩, fun r => ⟨by omega, r.2⟩⟩
      by_cases q : x < n ∧ a = s
      · rw [if_pos q, if_pos (e2.mpr q), Nat.or_assoc, Nat.or_comm (2 ^ _), ← Nat.or_assoc]
      · rw [if_neg q, if_neg (fun r => q (e2.mp r)), Nat.or_zero, Nat.or_zero]
theorem mk_psh {w : Nat} (p : Pos) {x : Nat} (hx : x < w) (a s : Bool) : mk w (psh p x a) s = mk w p s ||| (if a = s then 2 ^ (w * (p x).length + x) else 0) := by
  unfold mk
  rw [mkN_psh]
  by_cases q : a = s
  · rw [if_pos ⟨hx, q⟩, if_pos q]
  · rw [if_neg (fun r => q r.2), if_neg q]
theorem mk_emp (w : Nat) (s : Bool) : mk w emp s = 0 := by
  have h : ∀ n, mkN w emp s n = 0 := fun n => by
    induction n with
    | zero => rfl
    | succ n ih => simp [mkN, ih, emp, mcol]
  exact h w
/-- who stands on a square -/
theorem mcol_bit (w x : Nat) (s : Bool) (hx : x < w) : ∀ (t : List Bool) (y z : Nat), z < w → (mcol w x t s).testBit (w * y + z) = (decide (z = x) && decide (t.reverse[y]? = some s))
  | [], y, z, _ => by simp [mcol]
  | a :: t, y, z, hz => by
    have ih := mcol_bit w x s hx t y z hz
    simp only [mcol]
    rw [Nat.testBit_or, ih, List.reverse_cons]
    by_cases ez : z = x
    · subst ez
      by_cases ey : y = t.length
      · subst ey
        have e1 : (t.reverse ++ [a])[t.length]? = some a := by
          rw [List.getElem?_append_right (by simp)]
          simp
        have e0 : t.reverse[t.length]? = none := List.getElem?_eq_none (by simp)
        rw [e1, e0]
        by_cases q : a = s
        · subst q; simp [Nat.testBit_two_pow_self]
        · rw [if_neg q]; simp [q]
      · have e1 : (t.reverse ++ [a])[y]? = t.reverse[y]? := by
          rcases Nat.lt_or_ge y t.length with r | r
          · rw [List.getElem?_append_left (by simpa using r)]
          · rw [List.getElem?_eq_none (by simp; omega), List.getElem?_eq_none (by simp; omega)]
        rw [e1]
        have e2 : (if a = s then 2 ^ (w * t.length + z) else 0).testBit (w * y + z) = false := by
          by_cases q : a = s
          · rw [if_pos q, Nat.testBit_two_pow]
            have : w * t.length + z ≠ w * y + z := fun r => ey (by
              have := Nat.eq_of_mul_eq_mul_left (show 0 < w by omega) (show w * y = w * t.length by omega)
              exact this)
            exact decide_eq_false this
          · rw [if_neg q]; simp
        rw [e2, Bool.or_false]
    · have e2 : (if a = s then 2 ^ (w * t.length + x) else 0).testBit (w * y + z) = false := by
        by_cases q : a = s
        · rw [if_pos q, Nat.testBit_two_pow]
          have : w * t.length + x ≠ w * y + z := fun r => ez (by
            have h1 : (w * t.length + x) % w = (w * y + z) % w := by rw [r]
            rw [Nat.mul_add_mod, Nat.mul_add_mod, Nat.mod_eq_of_lt hx, Nat.mod_eq_of_lt hz] at h1
            exact h1.symm)
          exact decide_eq_false this
        · rw [if_neg q]; simp
      rw [e2]
      simp [ez]
theorem mkN_bit (w : Nat) (p : Pos) (s : Bool) (y z : Nat) (hz : z < w) : ∀ n, n ≤ w → (mkN w p s n).testBit (w * y + z) = (decide (z < n) && decide ((p z).reverse[y]? = some s))
  | 0, _ => by simp [mkN]
  | n + 1, hn => by
    simp only [mkN]
    rw [Nat.testBit_or, mkN_bit w p s y z hz n (by omega), mcol_bit w n s (by omega) (p n) y z hz]
    by_cases e : z = n
    · subst e
      simp
    · by_cases q : z < n
      · simp [q, e, Nat.lt_succ_of_lt q]
      · simp [q, e, show ¬ z < n + 1 by omega]
theorem mk_bit {w : Nat} (p : Pos) (s : Bool) (y : Nat) {z : Nat} (hz : z < w) : (mk w p s).testBit (w * y + z) = decide ((p z).reverse[y]? = some s) := by
  unfold mk
  rw [mkN_bit w p s y z hz w (Nat.le_refl w)]
  simp [hz]
