/-! ===== L3: send, front: PLACES ===== -/
def z_cn (a : Nat → Nat) (c n : Nat) : Nat := z_c (fun p => decide (a p = c)) n
def z_Pn (a q : Nat → Nat) (n : Nat) : Prop := (∀ p, p < n → q p < z_cn a (a p) n) ∧ (∀ c, c < 2 → ∀ j, j < z_cn a c n → ∃ p, p < n ∧ a p = c ∧ q p = j) ∧ (∀ p r, p < n → r < n → a p = a r → q p = q r → p = r)
theorem z_onc {s : Nat → Int32} {a : Nat → Nat} {n c : Nat} (ha : ∀ p, p < n → a p ≤ 1 ∧ s (12 + 5 * p) = nI (a p)) (hc : c < 2) : z_c (z_on s (nI c)) n = z_cn a c n := z_c_ext (fun p hp => by
  unfold z_on
  rw [(ha p hp).2]
  have := (ha p hp).1
  by_cases e : a p = c
  · rw [decide_eq_true e, decide_eq_true (by rw [e])]
  · rw [decide_eq_false e, decide_eq_false (fun x => e ((nI_eq (by omega) (by omega)).mp x))])
theorem z_Pnat {s : Nat → Int32} {n : Nat} (hn : n ≤ 8) (hV : z_V s n) : ∃ a q : Nat → Nat, (∀ p, p < n → a p ≤ 1 ∧ q p < 8 ∧ s (12 + 5 * p) = nI (a p) ∧ s (13 + 5 * p) = nI (q p)) ∧ z_Pn a q n := by
  obtain ⟨-, h2, p1, p2, p3⟩ := hV
  have A : ∀ p, p < n → (s (12 + 5 * p)).toNatClampNeg ≤ 1 ∧ s (12 + 5 * p) = nI (s (12 + 5 * p)).toNatClampNeg := fun p hp => by
    obtain ⟨j, hj, e⟩ := (h2 p hp).1
    rw [e, nI_clamp (by omega)]
    exact ⟨hj, rfl⟩
  have B : ∀ p, p < n → (s (13 + 5 * p)).toNatClampNeg < z_c (z_on s (s (12 + 5 * p))) n ∧ s (13 + 5 * p) = nI (s (13 + 5 * p)).toNatClampNeg := fun p hp => by
    obtain ⟨j, hj, e⟩ := p1 p hp _ (Nat.lt_succ_of_le (A p hp).1) (A p hp).2
    have hle := z_c_le (z_on s (nI (s (12 + 5 * p)).toNatClampNeg)) n
    rw [e, nI_clamp (by omega)]
    refine ⟨?_, rfl⟩
    rw [(A p hp).2]
    exact hj
  have O : ∀ c, c < 2 → z_c (z_on s (nI c)) n = z_cn (fun p => (s (12 + 5 * p)).toNatClampNeg) c n := fun c hc => z_onc A hc
  refine ⟨fun p => (s (12 + 5 * p)).toNatClampNeg, fun p => (s (13 + 5 * p)).toNatClampNeg, fun p hp => ⟨(A p hp).1, ?_, (A p hp).2, (B p hp).2⟩, fun p hp => ?_, fun c hc j hj => ?_, fun p r hp hr e1 e2 => ?_⟩
  · show (s (13 + 5 * p)).toNatClampNeg < 8
    have := (B p hp).1
    have := z_c_le (z_on s (s (12 + 5 * p))) n
    omega
  · have q1 := (B p hp).1
    rw [(A p hp).2, O _ (Nat.lt_succ_of_le (A p hp).1)] at q1
    exact q1
  · rw [← O c hc] at hj
    obtain ⟨p, hp, e1, e2⟩ := p2 c hc j hj
    have hle := z_c_le (z_on s (nI c)) n
    refine ⟨p, hp, ?_, ?_⟩
    · show (s (12 + 5 * p)).toNatClampNeg = c
      rw [e1, nI_clamp (by omega)]
    · show (s (13 + 5 * p)).toNatClampNeg = j
      rw [e2, nI_clamp (by omega)]
  · exact p3 p r hp hr (by rw [(A p hp).2, (A r hr).2]; exact congrArg nI e1) (by rw [(B p hp).2, (B r hr).2]; exact congrArg nI e2)
theorem z_Pof {s : Nat → Int32} {a q : Nat → Nat} {n : Nat} (hn : n ≤ 8) (ha : ∀ p, p < n → a p ≤ 1 ∧ s (12 + 5 * p) = nI (a p) ∧ s (13 + 5 * p) = nI (q p)) (H : z_Pn a q n) : z_P s n := by
  have O : ∀ c, c < 2 → z_c (z_on s (nI c)) n = z_cn a c n := fun c hc => z_onc (fun p hp => ⟨(ha p hp).1, (ha p hp).2.1⟩) hc
  have L : ∀ c, z_cn a c n ≤ n := fun c => z_c_le _ n
  obtain ⟨h1, h2, h3⟩ := H
  refine ⟨fun p hp c hc e => ?_, fun c hc j hj => ?_, fun p r hp hr e1 e2 => ?_⟩
  · rw [O c hc]
    refine ⟨q p, ?_, (ha p hp).2.2⟩
    have := (ha p hp).1
    have e' : a p = c := (nI_eq (by omega) (by omega)).mp ((ha p hp).2.1.symm.trans e)
    rw [← e']
    exact h1 p hp
  · rw [O c hc] at hj
    obtain ⟨p, hp, e1, e2⟩ := h2 c hc j hj
    exact ⟨p, hp, by rw [(ha p hp).2.1, e1], by rw [(ha p hp).2.2, e2]⟩
  · have q1 := h1 p hp
    have q2 := h1 r hr
    have l1 := L (a p)
    have l2 := L (a r)
    have := (ha p hp).1
    have := (ha r hr).1
    exact h3 p r hp hr ((nI_eq (by omega) (by omega)).mp ((ha p hp).2.1.symm.trans (e1.trans (ha r hr).2.1))) ((nI_eq (by omega) (by omega)).mp ((ha p hp).2.2.symm.trans (e2.trans (ha r hr).2.2)))
theorem z_cn_put {a : Nat → Nat} {n p v c : Nat} (hp : p < n) : z_cn (fun i => if i = p then v else a i) c n + (if a p = c then 1 else 0) = z_cn a c n + (if v = c then 1 else 0) := by
  unfold z_cn
  rw [z_c_rem (fun i => decide (a i = c)) hp, z_c_rem (fun i => decide ((if i = p then v else a i) = c)) hp]
  have e : z_c (fun q => decide ((if q = p then v else a q) = c) && (q != p)) n = z_c (fun q => decide (a q = c) && (q != p)) n := z_c_ext (fun q _ => by
    by_cases e : q = p
    · simp [e]
    · rw [if_neg e])
  rw [e, if_pos rfl]
  simp only [decide_eq_true_eq]
  omega
/-- PLACES behind a PULLER who was sent -/
def z_qs (a q : Nat → Nat) (p i : Nat) : Nat := if a i = a p ∧ q p < q i then q i - 1 else q i
theorem z_Ps {a q : Nat → Nat} {n p : Nat} (ha : ∀ i, i < n → a i ≤ 1) (hp : p < n) (H : z_Pn a q n) : z_Pn (fun i => if i = p then 1 - a p else a i) (fun i => if i = p then z_cn a (1 - a p) n else z_qs a q p i) n := by
  obtain ⟨h1, h2, h3⟩ := H
  have hap := ha p hp
  have C : ∀ c, z_cn (fun i => if i = p then 1 - a p else a i) c n + (if a p = c then 1 else 0) = z_cn a c n + (if 1 - a p = c then 1 else 0) := fun c => z_cn_put hp
  have Cs := C (a p)
  rw [if_pos rfl, if_neg (by omega)] at Cs
  have Co := C (1 - a p)
  rw [if_neg (by omega), if_pos rfl] at Co
  have hq := h1 p hp
  refine ⟨fun i hi => ?_, fun c hc j hj => ?_, fun i r hi hr e1 e2 => ?_⟩
  · show (if i = p then z_cn a (1 - a p) n else z_qs a q p i) < z_cn (fun i => if i = p then 1 - a p else a i) (if i = p then 1 - a p else a i) n
    by_cases e : i = p
    · rw [if_pos e, if_pos e]
      omega
    · rw [if_neg e, if_neg e]
      have hi1 := h1 i hi
      have hai := ha i hi
      unfold z_qs
      by_cases c : a i = a p
      · rw [c] at hi1
        rw [c]
        have hne : q i ≠ q p := fun x => e (h3 i p hi hp c x)
        by_cases g : q p < q i
        · rw [if_pos ⟨rfl, g⟩]; omega
        · rw [if_neg (fun x => g x.2)]; omega
      · rw [if_neg (fun x => c x.1)]
        have : a i = 1 - a p := by omega
        rw [this] at hi1 ⊢
        omega
  · by_cases cc : c = a p
    · subst cc
      by_cases g : j < q p
      · obtain ⟨i, hi, e1, e2⟩ := h2 (a p) hc j (by omega)
        have hne : i ≠ p := fun x => by rw [x] at e2; omega
        refine ⟨i, hi, ?_, ?_⟩
        · show (if i = p then _ else a i) = _
          rw [if_neg hne]; exact e1
        · show (if i = p then _ else z_qs a q p i) = _
          rw [if_neg hne]
          unfold z_qs
          rw [if_neg (by omega)]; exact e2
      · obtain ⟨i, hi, e1, e2⟩ := h2 (a p) hc (j + 1) (by omega)
        have hne : i ≠ p := fun x => by rw [x] at e2; omega
        refine ⟨i, hi, ?_, ?_⟩
        · show (if i = p then _ else a i) = _
          rw [if_neg hne]; exact e1
        · show (if i = p then _ else z_qs a q p i) = _
          rw [if_neg hne]
          unfold z_qs
          rw [if_pos ⟨e1, by omega⟩]; omega
    · have : c = 1 - a p := by omega
      subst this
      by_cases g : j = z_cn a (1 - a p) n
      · refine ⟨p, hp, ?_, ?_⟩
        · show (if p = p then _ else a p) = _
          rw [if_pos rfl]
        · show (if p = p then _ else z_qs a q p p) = _
          rw [if_pos rfl, g]
      · obtain ⟨i, hi, e1, e2⟩ := h2 (1 - a p) hc j (by omega)
        have hne : i ≠ p := fun x => by rw [x] at e1; omega
        refine ⟨i, hi, ?_, ?_⟩
        · show (if i = p then _ else a i) = _
          rw [if_neg hne]; exact e1
        · show (if i = p then _ else z_qs a q p i) = _
          rw [if_neg hne]
          unfold z_qs
          rw [if_neg (by omega)]; exact e2
  · replace e1 : (if i = p then 1 - a p else a i) = (if r = p then 1 - a p else a r) := e1
    replace e2 : (if i = p then z_cn a (1 - a p) n else z_qs a q p i) = (if r = p then z_cn a (1 - a p) n else z_qs a q p r) := e2
    have key : ∀ i, i < n → i ≠ p → a i = 1 - a p → z_qs a q p i < z_cn a (1 - a p) n := fun i hi _ e => by
      have := h1 i hi
      rw [e] at this
      unfold z_qs
      rw [if_neg (by omega)]
      exact this
    by_cases c1 : i = p
    · by_cases c2 : r = p
      · rw [c1, c2]
      · rw [if_pos c1, if_neg c2] at e1 e2
        have := key r hr c2 e1.symm
        omega
    · by_cases c2 : r = p
      · rw [if_neg c1, if_pos c2] at e1 e2
        have := key i hi c1 e1
        omega
      · rw [if_neg c1, if_neg c2] at e1 e2
        have n1 : a i = a p → q i ≠ q p := fun x y => c1 (h3 i p hi hp x y)
        have n2 : a r = a p → q r ≠ q p := fun x y => c2 (h3 r p hr hp x y)
        refine h3 i r hi hr e1 ?_
        unfold z_qs at e2
        by_cases g : a i = a p
        · have g2 : a r = a p := e1 ▸ g
          have m1 := n1 g
          have m2 := n2 g2
          by_cases k1 : q p < q i
          · rw [if_pos ⟨g, k1⟩] at e2
            by_cases k2 : q p < q r
            · rw [if_pos ⟨g2, k2⟩] at e2; omega
            · rw [if_neg (fun x => k2 x.2)] at e2; omega
          · rw [if_neg (fun x => k1 x.2)] at e2
            by_cases k2 : q p < q r
            · rw [if_pos ⟨g2, k2⟩] at e2; omega
            · rw [if_neg (fun x => k2 x.2)] at e2; omega
        · have g2 : ¬ a r = a p := e1 ▸ g
          rw [if_neg (fun x => g x.1), if_neg (fun x => g2 x.1)] at e2
          exact e2
/-- PLACES behind a PULLER who came to the front -/
def z_qf (a q : Nat → Nat) (p i : Nat) : Nat := if a i = a p ∧ q i < q p then q i + 1 else q i
theorem z_Pf {a q : Nat → Nat} {n p : Nat} (hp : p < n) (h0 : q p ≠ 0) (H : z_Pn a q n) : z_Pn a (fun i => if i = p then 0 else z_qf a q p i) n := by
  obtain ⟨h1, h2, h3⟩ := H
  have hq := h1 p hp
  refine ⟨fun i hi => ?_, fun c hc j hj => ?_, fun i r hi hr e1 e2 => ?_⟩
  · show (if i = p then 0 else z_qf a q p i) < _
    by_cases e : i = p
    · rw [if_pos e, e]; omega
    · rw [if_neg e]
      have := h1 i hi
      unfold z_qf
      by_cases g : a i = a p ∧ q i < q p
      · rw [if_pos g, g.1]; omega
      · rw [if_neg g]; exact this
  · by_cases cc : c = a p
    · subst cc
      by_cases g0 : j = 0
      · refine ⟨p, hp, rfl, ?_⟩
        show (if p = p then 0 else _) = _
        rw [if_pos rfl, g0]
      · by_cases g : j ≤ q p
        · obtain ⟨i, hi, e1, e2⟩ := h2 (a p) hc (j - 1) (by omega)
          have hne : i ≠ p := fun x => by rw [x] at e2; omega
          refine ⟨i, hi, e1, ?_⟩
          show (if i = p then 0 else z_qf a q p i) = _
          rw [if_neg hne]
          unfold z_qf
          rw [if_pos ⟨e1, by omega⟩]; omega
        · obtain ⟨i, hi, e1, e2⟩ := h2 (a p) hc j hj
          have hne : i ≠ p := fun x => by rw [x] at e2; omega
          refine ⟨i, hi, e1, ?_⟩
          show (if i = p then 0 else z_qf a q p i) = _
          rw [if_neg hne]
          unfold z_qf
          rw [if_neg (by omega)]; exact e2
    · obtain ⟨i, hi, e1, e2⟩ := h2 c hc j hj
      have hne : i ≠ p := fun x => by rw [x] at e1; omega
      refine ⟨i, hi, e1, ?_⟩
      show (if i = p then 0 else z_qf a q p i) = _
      rw [if_neg hne]
      unfold z_qf
      rw [if_neg (by omega)]; exact e2
  · replace e2 : (if i = p then 0 else z_qf a q p i) = (if r = p then 0 else z_qf a q p r) := e2
    have key : ∀ i, i < n → i ≠ p → a i = a p → z_qf a q p i ≠ 0 := fun i hi hne e => by
      have : q i ≠ q p := fun x => hne (h3 i p hi hp e x)
      unfold z_qf
      by_cases g : q i < q p
      · rw [if_pos ⟨e, g⟩]; omega
      · rw [if_neg (fun x => g x.2)]; omega
    by_cases c1 : i = p
    · by_cases c2 : r = p
      · rw [c1, c2]
      · rw [if_pos c1, if_neg c2] at e2
        exact absurd e2.symm (key r hr c2 (by rw [← e1, c1]))
    · by_cases c2 : r = p
      · rw [if_neg c1, if_pos c2] at e2
        exact absurd e2 (key i hi c1 (by rw [e1, c2]))
      · rw [if_neg c1, if_neg c2] at e2
        have n1 : a i = a p → q i ≠ q p := fun x y => c1 (h3 i p hi hp x y)
        have n2 : a r = a p → q r ≠ q p := fun x y => c2 (h3 r p hr hp x y)
        refine h3 i r hi hr e1 ?_
        unfold z_qf at e2
        by_cases g : a i = a p
        · have g2 : a r = a p := e1 ▸ g
          have m1 := n1 g
          have m2 := n2 g2
          by_cases k1 : q i < q p
          · rw [if_pos ⟨g, k1⟩] at e2
            by_cases k2 : q r < q p
            · rw [if_pos ⟨g2, k2⟩] at e2; omega
            · rw [if_neg (fun x => k2 x.2)] at e2; omega
          · rw [if_neg (fun x => k1 x.2)] at e2
            by_cases k2 : q r < q p
            · rw [if_pos ⟨g2, k2⟩] at e2; omega
            · rw [if_neg (fun x => k2 x.2)] at e2; omega
        · have g2 : ¬ a r = a p := e1 ▸ g
          rw [if_neg (fun x => g x.1), if_neg (fun x => g2 x.1)] at e2
          exact e2
