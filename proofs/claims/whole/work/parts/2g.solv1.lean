/-! what the class's solver keeps, and how its tallies go -/
def plc (w h : Nat) (p : Pos) : Nat := min (kyC w h p) (kyC w h (mir w p))
theorem plc_mir (w h : Nat) (p : Pos) : plc w h (mir w p) = plc w h p := by
  unfold plc
  rw [mir_mir, Nat.min_comm]
theorem plc_inj {w h : Nat} {p q : Pos} (hp : okP w h p) (hq : okP w h q) (e : plc w h p = plc w h q) : p = q ∨ p = mir w q := by
  have hp2 := okP_mir hp
  have hq2 := okP_mir hq
  unfold plc at e
  rcases Nat.le_total (kyC w h p) (kyC w h (mir w p)) with u | u
  · rw [Nat.min_eq_left u] at e
    rcases Nat.le_total (kyC w h q) (kyC w h (mir w q)) with v | v
    · rw [Nat.min_eq_left v] at e
      exact Or.inl (kyC_inj hp hq e)
    · rw [Nat.min_eq_right v] at e
      exact Or.inr (kyC_inj hp hq2 e)
  · rw [Nat.min_eq_right u] at e
    rcases Nat.le_total (kyC w h q) (kyC w h (mir w q)) with v | v
    · rw [Nat.min_eq_left v] at e
      have := kyC_inj hp2 hq e
      exact Or.inr (by rw [← this, mir_mir])
    · rw [Nat.min_eq_right v] at e
      have := kyC_inj hp2 hq2 e
      exact Or.inl (by rw [← mir_mir w p, this, mir_mir])
def kv (w h : Nat) (R : List Nat) (p : Pos) : Nat := if wonB w R p = true then 254 else if cnt w p = w * h then 255 else (101 + wv w h R (w * h - cnt w p) p).toNat
theorem kv_b {w h k : Nat} (hB : Bd w h k) {R : List Nat} {p : Pos} (hp : okP w h p) : 0 < kv w h R p ∧ kv w h R p < 256 := by
  unfold kv
  by_cases q : wonB w R p = true
  · rw [if_pos q]; decide
  · rw [if_neg q]
    by_cases u : cnt w p = w * h
    · rw [if_pos u]; decide
    · rw [if_neg u]
      obtain ⟨_, h1, h2, _⟩ := val1_on hB hp (R := R) (fun r => by exact Or.elim r (fun r => q r) (fun r => u r))
      omega
theorem kv_on {w h k : Nat} (hB : Bd w h k) {R : List Nat} {p : Pos} (ho : ¬ ovr w h R p) : kv w h R p = (101 + wv w h R (w * h - cnt w p) p).toNat := by
  unfold kv
  rw [if_neg (fun q => ho (Or.inl q)), if_neg (fun q => ho (Or.inr q))]
def Qk (w h : Nat) (R : List Nat) (kd : Nat) (p : Pos) : Prop := match kd with
  | 0 => True
  | 1 => wonB w R p = true
  | 2 => ¬ ovr w h R p ∧ wv w h R (w * h - cnt w p) p < 0
  | 3 => ¬ ovr w h R p ∧ wv w h R (w * h - cnt w p) p = 0
  | _ => ¬ ovr w h R p ∧ 0 < wv w h R (w * h - cnt w p) p
theorem Qk_mir {w h : Nat} (hw : 0 < w) (h16 : w * h ≤ 16) {R : List Nat} (hR : rwSym w h R) (kd : Nat) (p : Pos) : Qk w h R kd (mir w p) ↔ Qk w h R kd p := by
  unfold Qk
  split
  · exact Iff.rfl
  · rw [wonB_mir hw h16 hR]
  · rw [ovr_mir hw h16 hR, cnt_mir, wv_mir hw h16 hR]
  · rw [ovr_mir hw h16 hR, cnt_mir, wv_mir hw h16 hR]
  · rw [ovr_mir hw h16 hR, cnt_mir, wv_mir hw h16 hR]
theorem kv_mir {w h : Nat} (hw : 0 < w) (h16 : w * h ≤ 16) {R : List Nat} (hR : rwSym w h R) (p : Pos) : kv w h R (mir w p) = kv w h R p := by
  unfold kv
  rw [wonB_mir hw h16 hR, cnt_mir, wv_mir hw h16 hR]
theorem incT2 (tl : Nat → Nat → Int32) (n : Nat) (m : Int32) {e : Nat} (he : e ≠ 0) (a b : Nat) : incT (incT tl 0 n m) e n m a b = if b = n ∧ (a = 0 ∨ a = e) then tl a b + m else tl a b := by
  rw [incT_at, incT_at]
  by_cases hb : b = n
  · by_cases h0 : a = 0
    · rw [if_neg (fun q => he (by omega)), if_pos ⟨h0, hb⟩, if_pos ⟨hb, Or.inl h0⟩]
    · by_cases h1 : a = e
      · rw [if_pos ⟨h1, hb⟩, if_neg (fun q => h0 q.1), if_pos ⟨hb, Or.inr h1⟩]
      · rw [if_neg (fun q => h1 q.1), if_neg (fun q => h0 q.1), if_neg (fun q => by exact Or.elim q.2 (fun r => h0 r) (fun r => h1 r))]
  · rw [if_neg (fun q => hb q.2), if_neg (fun q => hb q.2), if_neg (fun q => hb q.1)]
theorem five {kd : Nat} (h : kd < 5) : kd = 0 ∨ kd = 1 ∨ kd = 2 ∨ kd = 3 ∨ kd = 4 := by omega
theorem tlK_e {w h k : Nat} (hB : Bd w h k) {R : List Nat} {p : Pos} (hp : okP w h p) (tl : Nat → Nat → Int32) (n : Nat) (m : Int32) : ∃ e, (∀ kd, kd < 5 → (Qk w h R kd p ↔ kd = 0 ∨ kd = e)) ∧ ∀ a b, tlK tl n (kv w h R p) m a b = if b = n ∧ (a = 0 ∨ a = e) then tl a b + m else tl a b := by
  by_cases q : wonB w R p = true
  · have ho : ovr w h R p := Or.inl q
    refine ⟨1, fun kd hk => ?_, fun a b => ?_⟩
    · rcases five hk with e | e | e | e | e <;> subst e <;> unfold Qk <;> simp [q, ho]
    · unfold tlK kv
      rw [if_pos q, if_pos rfl]
      exact incT2 tl n m (by decide) a b
  · by_cases u : cnt w p = w * h
    · have ho : ovr w h R p := Or.inr u
      refine ⟨0, fun kd hk => ?_, fun a b => ?_⟩
      · rcases five hk with e | e | e | e | e <;> subst e <;> unfold Qk <;> simp [q, ho]
      · unfold tlK kv
        rw [if_neg q, if_pos u, if_neg (by decide), if_pos rfl, incT_at]
        by_cases hb : b = n
        · by_cases h0 : a = 0
          · rw [if_pos ⟨h0, hb⟩, if_pos ⟨hb, Or.inl h0⟩]
          · rw [if_neg (fun r => h0 r.1), if_neg (fun r => by exact Or.elim r.2 (fun s => h0 s) (fun s => h0 s))]
        · rw [if_neg (fun r => hb r.2), if_neg (fun r => hb r.1)]
    · have ho : ¬ ovr w h R p := fun r => by exact Or.elim r (fun r => q r) (fun r => u r)
      obtain ⟨_, h1, h2, _⟩ := val1_on hB hp ho
      have ek := kv_on hB ho
      have n4 : ¬ kv w h R p = 254 := by omega
      have n5 : ¬ kv w h R p = 255 := by omega
      refine ⟨kdv (kv w h R p), fun kd hk => ?_, fun a b => ?_⟩
      · have e3 : kv w h R p = 101 ↔ wv w h R (w * h - cnt w p) p = 0 := by omega
        have e2 : kv w h R p ≤ 101 ↔ wv w h R (w * h - cnt w p) p ≤ 0 := by omega
        unfold kdv
        rcases Int.lt_trichotomy (wv w h R (w * h - cnt w p) p) 0 with s | s | s
        · rw [if_neg (fun u => by have := e3.mp u; omega), if_pos (e2.mpr (by omega))]
          rcases five hk with e | e | e | e | e <;> subst e <;> unfold Qk <;> simp [q, ho] <;> omega
        · rw [if_pos (e3.mpr s)]
          rcases five hk with e | e | e | e | e <;> subst e <;> unfold Qk <;> simp [q, ho] <;> omega
        · rw [if_neg (fun u => by have := e3.mp u; omega), if_neg (fun u => by have := e2.mp u; omega)]
          rcases five hk with e | e | e | e | e <;> subst e <;> unfold Qk <;> simp [q, ho] <;> omega
      · unfold tlK
        rw [if_neg n4, if_neg n5]
        refine incT2 tl n m ?_ a b
        unfold kdv
        split
        · decide
        · split <;> decide
theorem ind_add {P : Nat → Prop} {K al : Nat} (hK : K < al) (hn : ¬ P K) : fb_sm (ind (fun k => P k ∨ k = K)) al = fb_sm (ind P) al + 1 := by
  have e := fb_sm_at (ind P) (ind (fun k => P k ∨ k = K)) hK (fun k hk => ind_iff (P := fun k => P k ∨ k = K) (Q := P) (key := k) ⟨fun q => by exact Or.elim q (fun q => q) (fun q => absurd q hk), Or.inl⟩)
  rw [ind_f hn, ind_t (P := fun k => P k ∨ k = K) (key := K) (Or.inr rfl)] at e
  omega
theorem ind_same {P Q : Nat → Prop} (h : ∀ k, P k ↔ Q k) (al : Nat) : fb_sm (ind P) al = fb_sm (ind Q) al := fb_sm_cong (fun k _ => ind_iff (h k))
def Pk (w h : Nat) (R : List Nat) (kf : Nat → Int64) (kd n key : Nat) : Prop := ∃ p, Cm w h R n p ∧ kyM w h p = key ∧ ¬ byt kf (plc w h p) = 0 ∧ Qk w h R kd p
def SI (w h : Nat) (R : List Nat) (tl : Nat → Nat → Int32) (kf : Nat → Int64) : Prop :=
  (∀ n p, Cm w h R n p → ¬ byt kf (plc w h p) = 0 → byt kf (plc w h p) = kv w h R p) ∧
  (∀ n p, Cm w h R n p → ¬ byt kf (plc w h p) = 0 → ¬ ovr w h R p → ∀ x, x < w → (p x).length < h → ¬ byt kf (plc w h (nxt w p x)) = 0) ∧
  ∀ kd n, kd < 5 → n ≤ 16 → tl kd n = nI (fb_sm (ind (Pk w h R kf kd n)) ((2 ^ (h + 1)) ^ w))
def mono (kf kg : Nat → Int64) : Prop := ∀ q, ¬ byt kf q = 0 → ¬ byt kg q = 0
theorem mono_rf (kf : Nat → Int64) : mono kf kf := fun _ h => h
theorem mono_tr {a b c : Nat → Int64} (h1 : mono a b) (h2 : mono b c) : mono a c := fun q h => h2 q (h1 q h)
theorem SI_keep {w h k : Nat} (hB : Bd w h k) {R : List Nat} (hR : RF w h R) {tl : Nat → Nat → Int32} {kf : Nat → Int64} (hS : SI w h R tl kf) {n : Nat} {p : Pos} (hc : Cm w h R n p) (h0 : byt kf (plc w h p) = 0) (hch : ¬ ovr w h R p → ∀ x, x < w → (p x).length < h → ¬ byt kf (plc w h (nxt w p x)) = 0) :
    SI w h R (tlK tl n (kv w h R p) (if kyC w h p = kyC w h (mir w p) then 1 else 2)) (putB kf (plc w h p) (kv w h R p)) ∧ mono kf (putB kf (plc w h p) (kv w h R p)) ∧ ¬ byt (putB kf (plc w h p) (kv w h R p)) (plc w h p) = 0 := by
  obtain ⟨hp, hn⟩ := Cm_ok hc
  obtain ⟨v0, v1⟩ := kv_b hB hp (R := R)
  have hw : 0 < w := hB.1
  have h16 := hB.2.2.2.2.1
  have hsym := hR.2.2
  obtain ⟨s1, s2, s3⟩ := hS
  have hat := putB_at v1 h0
  have hmo : mono kf (putB kf (plc w h p) (kv w h R p)) := fun q hq => by
    by_cases e : q = plc w h p
    · rw [e, hat]; omega
    · rw [putB_ne v1 e]; exact hq
  have hcm := Cm_mir hw h16 hsym n p hc
  have hpm := okP_mir hp
  refine ⟨⟨fun m q hq hk => ?_, fun m q hq hk ho x hx hl => ?_, fun kd b hkd hb => ?_⟩, hmo, by rw [hat]; omega⟩
  · by_cases e : plc w h q = plc w h p
    · rw [e, hat]
      rcases plc_inj (Cm_ok hq).1 hp e with u | u
      · rw [u]
      · rw [u, kv_mir hw h16 hsym]
    · rw [putB_ne v1 e] at hk ⊢
      exact s1 m q hq hk
  · by_cases e : plc w h q = plc w h p
    · rcases plc_inj (Cm_ok hq).1 hp e with u | u
      · subst u
        exact hmo _ (hch ho x hx hl)
      · subst u
        have ho' : ¬ ovr w h R p := fun r => ho ((ovr_mir hw h16 hsym p).mpr r)
        have e2 : nxt w (mir w p) x = mir w (nxt w p (w - 1 - x)) := by rw [mir_nxt p (by omega), show w - 1 - (w - 1 - x) = x by omega]
        rw [e2, plc_mir]
        rw [mir_at p hx] at hl
        exact hmo _ (hch ho' (w - 1 - x) (by omega) hl)
    · rw [putB_ne v1 e] at hk
      exact hmo _ (s2 m q hq hk ho x hx hl)
  · have hiff : ∀ key, Pk w h R (putB kf (plc w h p) (kv w h R p)) kd b key ↔ (Pk w h R kf kd b key ∨ (b = n ∧ Qk w h R kd p ∧ (key = kyM w h p ∨ key = kyM w h (mir w p)))) := fun key => by
      constructor
      · rintro ⟨q, a1, a2, a3, a4⟩
        by_cases e : plc w h q = plc w h p
        · right
          rcases plc_inj (Cm_ok a1).1 hp e with u | u
          · subst u
            exact ⟨(Cm_ok a1).2.symm.trans hn, a4, Or.inl a2.symm⟩
          · subst u
            refine ⟨?_, (Qk_mir hw h16 hsym kd p).mp a4, Or.inr a2.symm⟩
            have := (Cm_ok a1).2
            rw [cnt_mir] at this
            omega
        · left
          rw [putB_ne v1 e] at a3
          exact ⟨q, a1, a2, a3, a4⟩
      · rintro (⟨q, a1, a2, a3, a4⟩ | ⟨e, a4, a5 | a5⟩)
        · exact ⟨q, a1, a2, hmo _ a3, a4⟩
        · exact ⟨p, by rw [e]; exact hc, a5.symm, by rw [hat]; omega, a4⟩
        · exact ⟨mir w p, by rw [e]; exact hcm, a5.symm, by rw [plc_mir, hat]; omega, (Qk_mir hw h16 hsym kd p).mpr a4⟩
    obtain ⟨e, he1, he2⟩ := tlK_e hB hp (R := R) tl n (if kyC w h p = kyC w h (mir w p) then 1 else 2)
    rw [he2, ind_same hiff]
    by_cases hq : b = n ∧ Qk w h R kd p
    · obtain ⟨hb2, hq2⟩ := hq
      subst hb2
      rw [if_pos ⟨rfl, (he1 kd hkd).mp hq2⟩, s3 kd b hkd hb]
      have no : ∀ q, Cm w h R b q → plc w h q = plc w h p → ¬ Pk w h R kf kd b (kyM w h q) := fun q hq e ⟨r, a1, a2, a3, _⟩ => by
        rw [(Cm_one a1 hq a2).1, e, h0] at a3
        exact a3 rfl
      have n1 := no p hc rfl
      have n2 := no (mir w p) hcm (plc_mir w h p)
      by_cases em : kyC w h p = kyC w h (mir w p)
      · have epm : p = mir w p := kyC_inj hp hpm em
        rw [if_pos em, nI_1]
        congr 1
        have e9 : fb_sm (ind (fun k => Pk w h R kf kd b k ∨ k = kyM w h p)) ((2 ^ (h + 1)) ^ w) = fb_sm (ind (Pk w h R kf kd b)) ((2 ^ (h + 1)) ^ w) + 1 := ind_add (kyM_lt hp) n1
        rw [← e9]
        refine ind_same (fun key => ?_) _
        rw [← epm]
        constructor
        · rintro (r | r)
          · exact Or.inl r
          · exact Or.inr ⟨rfl, hq2, Or.inl r⟩
        · rintro (r | ⟨_, _, r | r⟩)
          · exact Or.inl r
          · exact Or.inr r
          · exact Or.inr r
      · rw [if_neg em, show (2 : Int32) = nI 2 from rfl, nI_add]
        congr 1
        have hne : kyM w h (mir w p) ≠ kyM w h p := fun r => em (by rw [kyM_inj hpm hp r])
        have e9 : fb_sm (ind (fun k => Pk w h R kf kd b k ∨ k = kyM w h p)) ((2 ^ (h + 1)) ^ w) = fb_sm (ind (Pk w h R kf kd b)) ((2 ^ (h + 1)) ^ w) + 1 := ind_add (kyM_lt hp) n1
        have e8 : fb_sm (ind (fun k => (Pk w h R kf kd b k ∨ k = kyM w h p) ∨ k = kyM w h (mir w p))) ((2 ^ (h + 1)) ^ w) = fb_sm (ind (fun k => Pk w h R kf kd b k ∨ k = kyM w h p)) ((2 ^ (h + 1)) ^ w) + 1 := ind_add (P := fun k => Pk w h R kf kd b k ∨ k = kyM w h p) (kyM_lt hpm) (fun r => by exact Or.elim r (fun r => n2 r) (fun r => hne r))
        rw [e9] at e8
        rw [show fb_sm (ind (Pk w h R kf kd b)) ((2 ^ (h + 1)) ^ w) + 2 = fb_sm (ind (Pk w h R kf kd b)) ((2 ^ (h + 1)) ^ w) + 1 + 1 from rfl, ← e8]
        refine ind_same (fun key => ?_) _
        constructor
        · rintro ((r | r) | r)
          · exact Or.inl r
          · exact Or.inr ⟨rfl, hq2, Or.inl r⟩
          · exact Or.inr ⟨rfl, hq2, Or.inr r⟩
        · rintro (r | ⟨_, _, r | r⟩)
          · exact Or.inl (Or.inl r)
          · exact Or.inl (Or.inr r)
          · exact Or.inr r
    · rw [if_neg (fun r => hq ⟨r.1, (he1 kd hkd).mpr r.2⟩), s3 kd b hkd hb]
      congr 1
      refine ind_same (fun key => ?_) _
      constructor
      · exact Or.inl
      · rintro (r | ⟨r1, r2, _⟩)
        · exact r
        · exact absurd ⟨r1, r2⟩ hq
theorem pw_bd0 : ∀ w, w < 8 → ∀ h, h < 7 → w * h ≤ 16 → (2 ^ (h + 1) - 1) ^ w ≤ 923521 := by decide +kernel
theorem pw_bd {w h k : Nat} (hB : Bd w h k) : (2 ^ (h + 1) - 1) ^ w ≤ 923521 := by
  obtain ⟨_, h2, _, h4, h5, _⟩ := hB
  exact pw_bd0 w (by omega) h (by omega) h5
theorem plc_b {w h k : Nat} (hB : Bd w h k) {p : Pos} (hp : okP w h p) {kl : Nat} (hk : ((2 ^ (h + 1) - 1) ^ w + 7) / 8 ≤ kl) : kyC w h p < 2 ^ 31 ∧ kyC w h (mir w p) < 2 ^ 31 ∧ plc w h p / 8 < kl ∧ plc w h p < 2 ^ 31 := by
  have h1 := kyC_lt hp
  have h2 := kyC_lt (okP_mir hp)
  have h3 := pw_bd hB
  have h4 : plc w h p ≤ kyC w h p := Nat.min_le_left _ _
  omega
theorem c_keepS {w h k : Nat} (hB : Bd w h k) {R : List Nat} (hR : RF w h R) {tl : Nat → Nat → Int32} {kf : Nat → Int64} (hS : SI w h R tl kf) {kl : Nat} (hk : ((2 ^ (h + 1) - 1) ^ w + 7) / 8 ≤ kl) (hkl : kl < 2 ^ 31) {n : Nat} {p : Pos} (hc : Cm w h R n p) (hch : ¬ ovr w h R p → ∀ x, x < w → (p x).length < h → ¬ byt kf (plc w h (nxt w p x)) = 0) (N : Nat) :
    ∃ tl' kf', fX3_keep N tl kl kf (nI (kyC w h p)) (nI (kyC w h (mir w p))) (nI n) (nI (kv w h R p)) = some (tl', kf') ∧ SI w h R tl' kf' ∧ mono kf kf' ∧ ¬ byt kf' (plc w h p) = 0 := by
  obtain ⟨hp, hn⟩ := Cm_ok hc
  obtain ⟨b1, b2, b3, b4⟩ := plc_b hB hp hk
  rw [c_keep b1 b2 b3 hkl (n_le16 hB hc) (kv_b hB hp).2]
  show ∃ tl' kf', some (if byt kf (plc w h p) = 0 then (tlK tl n (kv w h R p) (if kyC w h p = kyC w h (mir w p) then 1 else 2), putB kf (plc w h p) (kv w h R p)) else (tl, kf)) = some (tl', kf') ∧ _
  by_cases h0 : byt kf (plc w h p) = 0
  · rw [if_pos h0]
    obtain ⟨a1, a2, a3⟩ := SI_keep hB hR hS hc h0 hch
    exact ⟨_, _, rfl, a1, a2, a3⟩
  · rw [if_neg h0]
    exact ⟨_, _, rfl, hS, mono_rf kf, h0⟩
