/-! rows on masks; the board turned; games and what they are worth -/
def hasR (R : List Nat) (m : Nat) : Bool := R.any (fun r => decide (m &&& r = r))
theorem sub_iff (m r : Nat) : m &&& r = r ↔ ∀ b, r.testBit b = true → m.testBit b = true := by
  constructor
  · intro h b hb
    rw [← h, Nat.testBit_and] at hb
    simp only [Bool.and_eq_true] at hb
    exact hb.1
  · intro h
    apply Nat.eq_of_testBit_eq
    intro b
    rw [Nat.testBit_and]
    cases hb : r.testBit b
    · simp
    · simp [h b hb]
theorem hasR_iff (R : List Nat) (m : Nat) : hasR R m = true ↔ ∃ r, r ∈ R ∧ ∀ b, r.testBit b = true → m.testBit b = true := by
  unfold hasR
  rw [List.any_eq_true]
  constructor
  · rintro ⟨r, h1, h2⟩
    exact ⟨r, h1, (sub_iff m r).mp (of_decide_eq_true h2)⟩
  · rintro ⟨r, h1, h2⟩
    exact ⟨r, h1, decide_eq_true ((sub_iff m r).mpr h2)⟩
/-- a square turned from left to right -/
def sgm (w b : Nat) : Nat := b - b % w + (w - 1 - b % w)
theorem sgm_at {w : Nat} (y : Nat) {z : Nat} (hz : z < w) : sgm w (w * y + z) = w * y + (w - 1 - z) := by
  unfold sgm
  rw [Nat.mul_add_mod, Nat.mod_eq_of_lt hz]
  omega
theorem sgm_sgm {w : Nat} (hw : 0 < w) (b : Nat) : sgm w (sgm w b) = b := by
  have hz := Nat.mod_lt b hw
  have e : b = w * (b / w) + b % w := (Nat.div_add_mod b w).symm
  rw [e, sgm_at _ hz, sgm_at _ (by omega)]
  omega
theorem mirM_bit {w : Nat} (hw : 0 < w) (r b : Nat) : (mirM w r).testBit b = (decide (sgm w b < 16) && r.testBit (sgm w b)) := by
  have h : ∀ n, ((List.range n).foldl (fun a s => if r.testBit s then a ||| 2 ^ (s - s % w + (w - 1 - s % w)) else a) 0).testBit b = (decide (sgm w b < n) && r.testBit (sgm w b)) := by
    intro n
    induction n with
    | zero => simp
    | succ n ih =>
      rw [List.range_succ, List.foldl_append, List.foldl_cons, List.foldl_nil]
      have e : n - n % w + (w - 1 - n % w) = sgm w n := rfl
      by_cases q : sgm w b = n
      · have q2 : sgm w n = b := by rw [← q, sgm_sgm hw]
        cases hr : r.testBit n
        · simp [ih, q, hr]
        · rw [if_pos rfl, Nat.testBit_or, e, q2]
          simp [Nat.testBit_two_pow_self, q, hr]
      · have q2 : sgm w n ≠ b := fun h => q (by rw [← h, sgm_sgm hw])
        have e3 : decide (sgm w b < n + 1) = decide (sgm w b < n) := by
          by_cases u : sgm w b < n
          · simp [u, Nat.lt_succ_of_lt u]
          · simp [u, show ¬ sgm w b < n + 1 by omega]
        rw [e3]
        cases hr : r.testBit n
        · simp [ih]
        · rw [if_pos rfl, Nat.testBit_or, ih, e, Nat.testBit_two_pow]
          simp [q2]
  exact h 16
def mir (w : Nat) (p : Pos) : Pos := fun x => if x < w then p (w - 1 - x) else p x
theorem mir_at {w : Nat} (p : Pos) {x : Nat} (hx : x < w) : mir w p x = p (w - 1 - x) := if_pos hx
theorem mir_mir (w : Nat) (p : Pos) : mir w (mir w p) = p := by
  funext x
  unfold mir
  by_cases h : x < w
  · rw [if_pos h, if_pos (by omega), show w - 1 - (w - 1 - x) = x by omega]
  · rw [if_neg h, if_neg h]
theorem okP_mir {w h : Nat} {p : Pos} (hp : okP w h p) : okP w h (mir w p) := by
  refine ⟨fun x hx => ?_, fun x hx => ?_⟩
  · rw [mir_at p hx]; exact hp.1 _ (by omega)
  · unfold mir; rw [if_neg (by omega)]; exact hp.2 x hx
theorem mir_psh {w : Nat} (p : Pos) {x : Nat} (hx : x < w) (s : Bool) : mir w (psh p x s) = psh (mir w p) (w - 1 - x) s := by
  funext i
  unfold mir psh
  by_cases h : i < w
  · simp only [if_pos h]
    by_cases e : i = w - 1 - x
    · rw [if_pos (by omega), if_pos e]
    · rw [if_neg (by omega), if_neg e]
  · simp only [if_neg h]
    rw [if_neg (by omega), if_neg (by omega)]
theorem fb_sm_rev (f : Nat → Nat) (n : Nat) : fb_sm (fun x => f (n - 1 - x)) n = fb_sm f n := by
  have h : ∀ m, m ≤ n → fb_sm (fun x => f (n - 1 - x)) m + fb_sm f (n - m) = fb_sm f n := by
    intro m
    induction m with
    | zero => intro _; simp [fb_sm]
    | succ m ih =>
      intro hm
      have e := ih (by omega)
      rw [show n - m = (n - (m + 1)) + 1 by omega, fb_sm_succ] at e
      rw [fb_sm_succ]
      rw [show n - 1 - m = n - (m + 1) by omega]
      omega
  have := h n (Nat.le_refl n)
  rw [Nat.sub_self] at this
  simpa [fb_sm] using this
theorem cnt_mir (w : Nat) (p : Pos) : cnt w (mir w p) = cnt w p := by
  unfold cnt
  rw [fb_sm_cong (g := fun x => (p (w - 1 - x)).length) (fun k hk => by rw [mir_at p hk])]
  exact fb_sm_rev (fun x => (p x).length) w
theorem mk_mir_bit {w : Nat} (p : Pos) (s : Bool) (y : Nat) {z : Nat} (hz : z < w) : (mk w (mir w p) s).testBit (w * y + z) = (mk w p s).testBit (w * y + (w - 1 - z)) := by
  rw [mk_bit _ _ _ hz, mk_bit _ _ _ (show w - 1 - z < w by omega), mir_at p hz]
/-- the rows as a set are turned to themselves -/
def rwSym (w h : Nat) (R : List Nat) : Prop := ∀ r, r ∈ R → mirM w r ∈ R ∧ r < 2 ^ (w * h)
theorem hasR_mir1 {w h : Nat} (hw : 0 < w) (h16 : w * h ≤ 16) {R : List Nat} (hR : rwSym w h R) (p : Pos) (s : Bool) (hh : hasR R (mk w p s) = true) : hasR R (mk w (mir w p) s) = true := by
  rw [hasR_iff] at hh ⊢
  obtain ⟨r, hr, hb⟩ := hh
  refine ⟨mirM w r, (hR r hr).1, fun b q => ?_⟩
  rw [mirM_bit hw] at q
  simp only [Bool.and_eq_true, decide_eq_true_eq] at q
  have h1 := hb _ q.2
  have hz := Nat.mod_lt b hw
  have e : b = w * (b / w) + b % w := (Nat.div_add_mod b w).symm
  rw [e, mk_mir_bit p s _ hz]
  rw [e, sgm_at _ hz] at h1
  exact h1
theorem hasR_mir {w h : Nat} (hw : 0 < w) (h16 : w * h ≤ 16) {R : List Nat} (hR : rwSym w h R) (p : Pos) (s : Bool) : hasR R (mk w (mir w p) s) = hasR R (mk w p s) := by
  cases h1 : hasR R (mk w p s)
  · cases h2 : hasR R (mk w (mir w p) s)
    · rfl
    · have := hasR_mir1 hw h16 hR (mir w p) s h2
      rw [mir_mir, h1] at this
      cases this
  · exact hasR_mir1 hw h16 hR p s h1
def sd (w : Nat) (p : Pos) : Bool := decide (cnt w p % 2 = 1)
def nxt (w : Nat) (p : Pos) (x : Nat) : Pos := psh p x (sd w p)
def wonB (w : Nat) (R : List Nat) (p : Pos) : Bool := hasR R (mk w p (!(sd w p)))
def ovr (w h : Nat) (R : List Nat) (p : Pos) : Prop := wonB w R p = true ∨ cnt w p = w * h
/-- a position that can come, with n men -/
def Cm (w h : Nat) (R : List Nat) : Nat → Pos → Prop
  | 0, p => p = emp
  | n + 1, p => ∃ q x, Cm w h R n q ∧ ¬ ovr w h R q ∧ x < w ∧ (q x).length < h ∧ p = nxt w q x
theorem sd_nxt {w : Nat} (p : Pos) {x : Nat} (hx : x < w) : sd w (nxt w p x) = !(sd w p) := by
  unfold sd nxt
  rw [cnt_psh p hx]
  rcases Nat.mod_two_eq_zero_or_one (cnt w p) with h | h
  · rw [h, show (cnt w p + 1) % 2 = 1 by omega]; rfl
  · rw [h, show (cnt w p + 1) % 2 = 0 by omega]; rfl
theorem Cm_ok {w h : Nat} {R : List Nat} : ∀ {n : Nat} {p : Pos}, Cm w h R n p → okP w h p ∧ cnt w p = n
  | 0, p, hc => by
    rw [show p = emp from hc]
    exact ⟨okP_emp w h, cnt_emp w⟩
  | n + 1, p, hc => by
    obtain ⟨q, x, h1, h2, h3, h4, rfl⟩ := hc
    obtain ⟨a, b⟩ := Cm_ok h1
    exact ⟨okP_psh a h3 h4 _, by unfold nxt; rw [cnt_psh q h3, b]⟩
theorem Cm_next {w h : Nat} {R : List Nat} {n : Nat} {p : Pos} (hc : Cm w h R n p) (ho : ¬ ovr w h R p) {x : Nat} (hx : x < w) (hl : (p x).length < h) : Cm w h R (n + 1) (nxt w p x) := ⟨p, x, hc, ho, hx, hl, rfl⟩
theorem mk_nxt_own {w : Nat} (p : Pos) {x : Nat} (hx : x < w) : mk w (nxt w p x) (sd w p) = mk w p (sd w p) ||| 2 ^ (w * (p x).length + x) := by
  unfold nxt
  rw [mk_psh p hx, if_pos rfl]
theorem mk_nxt_oth {w : Nat} (p : Pos) {x : Nat} (hx : x < w) : mk w (nxt w p x) (!(sd w p)) = mk w p (!(sd w p)) := by
  unfold nxt
  rw [mk_psh p hx, if_neg (by cases sd w p <;> decide), Nat.or_zero]
theorem wonB_nxt {w : Nat} (R : List Nat) (p : Pos) {x : Nat} (hx : x < w) : wonB w R (nxt w p x) = hasR R (mk w (nxt w p x) (sd w p)) := by
  unfold wonB
  rw [sd_nxt p hx, Bool.not_not]
theorem hasR_0 {R : List Nat} (hR : ∀ r, r ∈ R → r ≠ 0) : hasR R 0 = false := by
  cases h : hasR R 0
  · rfl
  · rw [hasR_iff] at h
    obtain ⟨r, h1, h2⟩ := h
    exfalso
    apply hR r h1
    apply Nat.eq_of_testBit_eq
    intro b
    cases q : r.testBit b
    · simp
    · have := h2 b q
      simp at this
/-- where the game goes on, neither side has a row -/
theorem no_row {w h : Nat} {R : List Nat} (hR : ∀ r, r ∈ R → r ≠ 0) {n : Nat} {p : Pos} (hc : Cm w h R n p) (ho : ¬ ovr w h R p) (s : Bool) : hasR R (mk w p s) = false := by
  by_cases e : s = !(sd w p)
  · subst e
    cases q : hasR R (mk w p (!(sd w p)))
    · rfl
    · exact absurd (Or.inl q) ho
  · have e2 : s = sd w p := by revert e; cases s <;> cases sd w p <;> simp
    subst e2
    match n, hc with
    | 0, hc =>
      rw [show p = emp from hc, mk_emp]
      exact hasR_0 hR
    | n + 1, hc =>
      obtain ⟨q, x, h1, h2, h3, h4, rfl⟩ := hc
      rw [sd_nxt q h3, mk_nxt_oth q h3]
      cases r : hasR R (mk w q (!(sd w q)))
      · rfl
      · exact absurd (Or.inl r) h2
/-- a move makes a row only through its own square -/
theorem row_thr {R : List Nat} {m sq : Nat} (h : hasR R m = false) : hasR R (m ||| 2 ^ sq) = hasR (R.filter (fun r => r.testBit sq)) (m ||| 2 ^ sq) := by
  cases q : hasR R (m ||| 2 ^ sq)
  · symm
    cases q2 : hasR (R.filter (fun r => r.testBit sq)) (m ||| 2 ^ sq)
    · rfl
    · rw [hasR_iff] at q2
      obtain ⟨r, h1, h2⟩ := q2
      have : hasR R (m ||| 2 ^ sq) = true := (hasR_iff _ _).mpr ⟨r, (List.mem_filter.mp h1).1, h2⟩
      rw [q] at this
      cases this
  · symm
    rw [hasR_iff] at q ⊢
    obtain ⟨r, h1, h2⟩ := q
    refine ⟨r, List.mem_filter.mpr ⟨h1, ?_⟩, h2⟩
    cases q3 : r.testBit sq
    · exfalso
      have : hasR R m = true := (hasR_iff _ _).mpr ⟨r, h1, fun b hb => by
        have h3 := h2 b hb
        rw [Nat.testBit_or, Nat.testBit_two_pow] at h3
        by_cases e : sq = b
        · subst e; rw [q3] at hb; cases hb
        · simpa [e] using h3⟩
      rw [h] at this
      cases this
    · rfl
/-- the greatest over the open columns -/
def wvF (f : Nat → Int) (op : Nat → Bool) : Nat → Int
  | 0 => -1000
  | n + 1 => if op n = true ∧ wvF f op n < f n then f n else wvF f op n
theorem wvF_ge (f : Nat → Int) (op : Nat → Bool) : ∀ n x, x < n → op x = true → f x ≤ wvF f op n
  | 0, x, hx, _ => absurd hx (Nat.not_lt_zero x)
  | n + 1, x, hx, ho => by
    simp only [wvF]
    by_cases e : x = n
    · subst e
      by_cases q : op x = true ∧ wvF f op x < f x
      · rw [if_pos q]; exact Int.le_refl _
      · rw [if_neg q]
        have : ¬ wvF f op x < f x := fun r => q ⟨ho, r⟩
        omega
    · have ih := wvF_ge f op n x (by omega) ho
      by_cases q : op n = true ∧ wvF f op n < f n
      · rw [if_pos q]; omega
      · rw [if_neg q]; exact ih
theorem wvF_mem (f : Nat → Int) (op : Nat → Bool) : ∀ n, wvF f op n = -1000 ∨ ∃ x, x < n ∧ op x = true ∧ f x = wvF f op n
  | 0 => Or.inl rfl
  | n + 1 => by
    simp only [wvF]
    by_cases q : op n = true ∧ wvF f op n < f n
    · rw [if_pos q]; exact Or.inr ⟨n, Nat.lt_succ_self n, q.1, rfl⟩
    · rw [if_neg q]
      rcases wvF_mem f op n with h | ⟨x, h1, h2, h3⟩
      · exact Or.inl h
      · exact Or.inr ⟨x, by omega, h2, h3⟩
theorem wvF_low (f : Nat → Int) (op : Nat → Bool) : ∀ n, -1000 ≤ wvF f op n
  | 0 => Int.le_refl _
  | n + 1 => by
    have ih := wvF_low f op n
    simp only [wvF]
    by_cases q : op n = true ∧ wvF f op n < f n
    · rw [if_pos q]; omega
    · rw [if_neg q]; exact ih
theorem wvF_cong {f g : Nat → Int} {op oq : Nat → Bool} : ∀ {n}, (∀ x, x < n → op x = oq x ∧ (op x = true → f x = g x)) → wvF f op n = wvF g oq n
  | 0, _ => rfl
  | n + 1, h => by
    simp only [wvF]
    rw [wvF_cong (fun x hx => h x (by omega))]
    obtain ⟨h1, h2⟩ := h n (by omega)
    cases e : op n
    · rw [← h1, e]; simp
    · rw [← h1, e, h2 e]
def seen (v : Int) : Int := if v = 0 then 0 else if v > 0 then 1 - v else -1 - v
/-- what a game is worth to the side to move, n squares left -/
def wv (w h : Nat) (R : List Nat) : Nat → Pos → Int
  | 0, _ => 0
  | n + 1, p => wvF (fun x => if hasR R (mk w (nxt w p x) (sd w p)) = true then 99 else if n = 0 then 0 else seen (wv w h R n (nxt w p x))) (fun x => decide ((p x).length < h)) w
/-- a move's worth: n squares are left behind it -/
def mvW (w h : Nat) (R : List Nat) (n : Nat) (p : Pos) (x : Nat) : Int := if hasR R (mk w (nxt w p x) (sd w p)) = true then 99 else if n = 0 then 0 else seen (wv w h R n (nxt w p x))
theorem wv_succ (w h : Nat) (R : List Nat) (n : Nat) (p : Pos) : wv w h R (n + 1) p = wvF (mvW w h R n p) (fun x => decide ((p x).length < h)) w := rfl
theorem seen_b {v : Int} (h1 : -99 ≤ v) (h2 : v ≤ 99) : -99 ≤ seen v ∧ seen v ≤ 99 := by
  unfold seen
  split
  · omega
  · split <;> omega
theorem mvW_b {w h : Nat} {R : List Nat} {n : Nat} {p : Pos} {x : Nat} (ih : n ≠ 0 → -99 ≤ wv w h R n (nxt w p x) ∧ wv w h R n (nxt w p x) ≤ 99) : -99 ≤ mvW w h R n p x ∧ mvW w h R n p x ≤ 99 := by
  unfold mvW
  split
  · omega
  · split
    · omega
    · rename_i q
      exact seen_b (ih q).1 (ih q).2
theorem wv_b {w h : Nat} {R : List Nat} : ∀ (n : Nat) (p : Pos), okP w h p → cnt w p + n = w * h → n ≠ 0 → -99 ≤ wv w h R n p ∧ wv w h R n p ≤ 99
  | 0, _, _, _, h0 => absurd rfl h0
  | n + 1, p, hp, hc, _ => by
    have hm : ∀ x, x < w → (p x).length < h → -99 ≤ mvW w h R n p x ∧ mvW w h R n p x ≤ 99 := fun x hx hl =>
      mvW_b (fun q => wv_b n (nxt w p x) (okP_psh hp hx hl _) (by unfold nxt; rw [cnt_psh p hx]; omega) q)
    rw [wv_succ]
    obtain ⟨x, hx, hl⟩ := cnt_open hp (by omega)
    have hg := wvF_ge (mvW w h R n p) (fun x => decide ((p x).length < h)) w x hx (decide_eq_true hl)
    have h1 := hm x hx hl
    rcases wvF_mem (mvW w h R n p) (fun x => decide ((p x).length < h)) w with e | ⟨z, hz, ho, e⟩
    · omega
    · have h2 := hm z hz (of_decide_eq_true ho)
      omega
theorem mir_nxt {w : Nat} (p : Pos) {x : Nat} (hx : x < w) : mir w (nxt w p x) = nxt w (mir w p) (w - 1 - x) := by
  unfold nxt
  rw [mir_psh p hx]
  unfold sd
  rw [cnt_mir]
theorem sd_mir (w : Nat) (p : Pos) : sd w (mir w p) = sd w p := by unfold sd; rw [cnt_mir]
theorem wv_mir {w h : Nat} (hw : 0 < w) (h16 : w * h ≤ 16) {R : List Nat} (hR : rwSym w h R) : ∀ (n : Nat) (p : Pos), wv w h R n (mir w p) = wv w h R n p
  | 0, _ => rfl
  | n + 1, p => by
    have e : ∀ x, x < w → mvW w h R n (mir w p) x = mvW w h R n p (w - 1 - x) := fun x hx => by
      have e1 : nxt w (mir w p) x = mir w (nxt w p (w - 1 - x)) := by
        rw [mir_nxt p (by omega), show w - 1 - (w - 1 - x) = x by omega]
      unfold mvW
      rw [sd_mir, e1, hasR_mir hw h16 hR, wv_mir hw h16 hR n]
    rw [wv_succ, wv_succ]
    have key : ∀ (a b : Pos), (∀ x, x < w → mvW w h R n a x = mvW w h R n b (w - 1 - x) ∧ (a x).length = (b (w - 1 - x)).length) → wvF (mvW w h R n a) (fun x => decide ((a x).length < h)) w ≤ wvF (mvW w h R n b) (fun x => decide ((b x).length < h)) w := by
      intro a b hab
      rcases wvF_mem (mvW w h R n a) (fun x => decide ((a x).length < h)) w with q | ⟨z, hz, ho, q⟩
      · rw [q]; exact wvF_low _ _ w
      · rw [← q, (hab z hz).1]
        exact wvF_ge _ _ w _ (by omega) (by
          have := (hab z hz).2
          simp only [← this]
          exact ho)
    apply Int.le_antisymm
    · exact key (mir w p) p (fun x hx => ⟨e x hx, by rw [mir_at p hx]⟩)
    · exact key p (mir w p) (fun x hx => ⟨by rw [e _ (by omega), show w - 1 - (w - 1 - x) = x by omega], by rw [mir_at p (by omega), show w - 1 - (w - 1 - x) = x by omega]⟩)
theorem wonB_mir {w h : Nat} (hw : 0 < w) (h16 : w * h ≤ 16) {R : List Nat} (hR : rwSym w h R) (p : Pos) : wonB w R (mir w p) = wonB w R p := by
  unfold wonB
  rw [sd_mir, hasR_mir hw h16 hR]
theorem ovr_mir {w h : Nat} (hw : 0 < w) (h16 : w * h ≤ 16) {R : List Nat} (hR : rwSym w h R) (p : Pos) : ovr w h R (mir w p) ↔ ovr w h R p := by
  unfold ovr
  rw [wonB_mir hw h16 hR, cnt_mir]
theorem mir_emp (w : Nat) : mir w emp = emp := by funext x; unfold mir emp; split <;> rfl
theorem Cm_mir {w h : Nat} (hw : 0 < w) (h16 : w * h ≤ 16) {R : List Nat} (hR : rwSym w h R) : ∀ (n : Nat) (p : Pos), Cm w h R n p → Cm w h R n (mir w p)
  | 0, p, hc => by rw [show p = emp from hc, mir_emp]; rfl
  | n + 1, p, hc => by
    obtain ⟨q, x, h1, h2, h3, h4, rfl⟩ := hc
    refine ⟨mir w q, w - 1 - x, Cm_mir hw h16 hR n q h1, fun r => h2 ((ovr_mir hw h16 hR q).mp r), by omega, ?_, mir_nxt q h3⟩
    rw [mir_at q (by omega), show w - 1 - (w - 1 - x) = x by omega]
    exact h4
