/-! ===== L3: ALIKE ===== -/
theorem z_lsh {a k : Nat} {y : Int64} (hy : y.toBitVec.smod 64 = BitVec.ofNat 64 k) (hk : k < 64) : lN a <<< y = lN (a * 2 ^ k) := by
  apply Int64.toBitVec.inj
  rw [Int64.toBitVec_shiftLeft, hy]
  show BitVec.ofNat 64 a <<< BitVec.ofNat 64 k = BitVec.ofNat 64 (a * 2 ^ k)
  apply BitVec.eq_of_toNat_eq
  rw [BitVec.shiftLeft_eq', BitVec.toNat_shiftLeft, BitVec.toNat_ofNat, BitVec.toNat_ofNat, BitVec.toNat_ofNat, Nat.mod_eq_of_lt (show k < 2 ^ 64 by omega), Nat.shiftLeft_eq, Nat.mul_mod, Nat.mod_mod, ← Nat.mul_mod]
theorem z_lor {a k w : Nat} (hw : w < 2 ^ k) : lN (a * 2 ^ k) ||| lN w = lN (a * 2 ^ k + w) := by
  have h1 : a * 2 ^ k ||| w = a * 2 ^ k + w := by rw [← Nat.shiftLeft_eq, Nat.shiftLeft_add_eq_or_of_lt hw]
  rw [← h1]
  apply Int64.toBitVec.inj
  rw [Int64.toBitVec_or]
  exact BitVec.ofNat_or.symm
theorem z_linj {a b : Nat} (ha : a < 2 ^ 64) (hb : b < 2 ^ 64) (h : lN a = lN b) : a = b := by
  have h1 : (BitVec.ofNat 64 a).toNat = (BitVec.ofNat 64 b).toNat := congrArg (fun x : Int64 => x.toBitVec.toNat) h
  rw [BitVec.toNat_ofNat, BitVec.toNat_ofNat, Nat.mod_eq_of_lt ha, Nat.mod_eq_of_lt hb] at h1
  exact h1
def z_lk (r st : Nat) (w : Nat → Nat) : Nat → Nat
  | 0 => r * 2 ^ 8 + st
  | k + 1 => z_lk r st w k * 2 ^ 6 + w k
theorem z_lk_lt {r st : Nat} {w : Nat → Nat} (hr : r < 256) (hst : st < 256) (hw : ∀ p, w p < 64) : ∀ k, z_lk r st w k < 2 ^ (16 + 6 * k)
  | 0 => by
    rw [z_lk]
    omega
  | k + 1 => by
    have h := z_lk_lt hr hst hw k
    have h2 := hw k
    rw [z_lk, show 16 + 6 * (k + 1) = (16 + 6 * k) + 6 by omega, Nat.pow_add]
    omega
theorem z_lk_eq {r st r' st' : Nat} {w w' : Nat → Nat} (hst : st < 256) (hst' : st' < 256) (hw : ∀ p, w p < 64) (hw' : ∀ p, w' p < 64) : ∀ k, z_lk r st w k = z_lk r' st' w' k → r = r' ∧ st = st' ∧ ∀ p, p < k → w p = w' p
  | 0, h => by
    rw [z_lk, z_lk] at h
    exact ⟨by omega, by omega, fun p hp => absurd hp (Nat.not_lt_zero _)⟩
  | k + 1, h => by
    rw [z_lk, z_lk] at h
    have h1 := hw k
    have h2 := hw' k
    obtain ⟨a, b, c⟩ := z_lk_eq (r := r) (r' := r') hst hst' hw hw' k (by omega)
    refine ⟨a, b, fun p hp => ?_⟩
    by_cases e : p = k
    · rw [e]; omega
    · exact c p (by omega)
theorem z_lk_ext {r st : Nat} {w w' : Nat → Nat} : ∀ {k : Nat}, (∀ p, p < k → w p = w' p) → z_lk r st w k = z_lk r st w' k
  | 0, _ => rfl
  | k + 1, h => by rw [z_lk, z_lk, z_lk_ext (fun p hp => h p (by omega)), h k (by omega)]
theorem z_rib {v : Int32} (h1 : -99 ≤ v.toInt) (h2 : v.toInt ≤ 99) : ∃ r, r < 256 ∧ v + 100 = nI r := by
  have h100 : (100 : Int32).toInt = 100 := by decide
  refine ⟨(v.toInt + 100).toNat, by omega, ?_⟩
  apply Int32.toInt_inj.mp
  rw [Int32.toInt_add, h100, Int.bmod_eq_of_le (by omega) (by omega), nI_toInt (by omega)]
  omega
theorem z_likL {t : g_S} {n r st : Nat} {w : Nat → Nat} (hn : n ≤ 8) (hw : ∀ p, p < n → w p < 64 ∧ g_A t 5 p = nI (w p)) : ∀ (m k fu : Nat), k + m = n → m < fu → t_X10_likeness_21 fu t (nI n) (lN (z_lk r st w k)) (nI k) = some (lN (z_lk r st w n)) := by
  intro m
  induction m with
  | zero =>
    intro k fu hk hf
    obtain ⟨fu, rfl⟩ := Nat.exists_eq_succ_of_ne_zero (show fu ≠ 0 by omega)
    obtain rfl : k = n := hk
    rw [t_X10_likeness_21, if_pos (nI_le (Nat.le_refl _) (by omega))]
  | succ m ih =>
    intro k fu hk hf
    obtain ⟨fu, rfl⟩ := Nat.exists_eq_succ_of_ne_zero (show fu ≠ 0 by omega)
    obtain ⟨w1, w2⟩ := hw k (by omega)
    rw [t_X10_likeness_21, if_neg (nI_ge (show k < n by omega) (by omega)), t_ai_in (by omega) (by decide), Option.bind_some, w2, nI_l (by omega), z_lsh (k := 6) (by decide) (by decide), z_lor w1, nI_1]
    exact ih (k + 1) fu (by omega) (by omega)
theorem z_lik {t : g_S} {n r st : Nat} {w : Nat → Nat} (hn : n ≤ 8) (hw : ∀ p, p < n → w p < 64 ∧ g_A t 5 p = nI (w p)) (hr : r < 256) (hst : st < 256) (h0 : g_I t 0 + 100 = nI r) (h2 : g_I t 2 = nI st) : t_X10_likeness t (nI n) = some (lN (z_lk r st w n)) := by
  unfold t_X10_likeness
  try dsimp only
  rw [h0, h2, nI_l (by omega), nI_l (by omega), z_lsh (k := 8) (by decide) (by decide), z_lor (k := 8) hst]
  exact z_likL hn hw n 0 q_fu (by omega) (by show n < 5000; omega)
/-- a HEAVE's begin as the class has it, and as the reference has it -/
def z_al (n : Nat) (s0 : Nat → Int32) (L : Int64) (f : Nat → Int32) : Prop := ∃ r st w, r < 256 ∧ st < 256 ∧ (∀ p, w p < 64) ∧ L = lN (z_lk r st w n) ∧ f 8 + 100 = nI r ∧ f 9 = nI st ∧ (∀ p, p < n → f p = nI (w p)) ∧ (∀ p, n ≤ p → p < 8 → f p = s0 (14 + 5 * p))
theorem z_al_iff {n : Nat} {s0 : Nat → Int32} {L L' : Int64} {f f' : Nat → Int32} (hn : n ≤ 8) (h : z_al n s0 L f) (h' : z_al n s0 L' f') : L = L' ↔ ∀ q, q < 10 → f q = f' q := by
  obtain ⟨r, st, w, a1, a2, a3, a4, a5, a6, a7, a8⟩ := h
  obtain ⟨r', st', w', b1, b2, b3, b4, b5, b6, b7, b8⟩ := h'
  have p64 : 2 ^ (16 + 6 * n) ≤ 2 ^ 64 := Nat.pow_le_pow_right (by decide) (by omega)
  constructor
  · intro e
    rw [a4, b4] at e
    obtain ⟨e1, e2, e3⟩ := z_lk_eq a2 b2 a3 b3 n (z_linj (Nat.lt_of_lt_of_le (z_lk_lt a1 a2 a3 n) p64) (Nat.lt_of_lt_of_le (z_lk_lt b1 b2 b3 n) p64) e)
    intro q hq
    by_cases c1 : q < n
    · rw [a7 q c1, b7 q c1, e3 q c1]
    · by_cases c2 : q < 8
      · rw [a8 q (by omega) c2, b8 q (by omega) c2]
      · by_cases c3 : q = 8
        · rw [c3, ← Int32.add_sub_cancel (f 8) 100, ← Int32.add_sub_cancel (f' 8) 100, a5, b5, e1]
        · rw [show q = 9 by omega, a6, b6, e2]
  · intro e
    have er : r = r' := (nI_eq (by omega) (by omega)).mp (by rw [← a5, ← b5, e 8 (by omega)])
    have es : st = st' := (nI_eq (by omega) (by omega)).mp (by rw [← a6, ← b6, e 9 (by omega)])
    rw [a4, b4, er, es, z_lk_ext (fun p hp => ?_)]
    have h1 := a3 p
    have h2 := b3 p
    exact (nI_eq (by omega) (by omega)).mp (by rw [← a7 p hp, ← b7 p hp, e p (by omega)])
theorem z_ix1010 (k p : Nat) : (10 : Int32) * nI k + nI p = nI (10 * k + p) := by
  rw [show (10 : Int32) = nI 10 from rfl, pk_mul, nI_add]
theorem z_alW {k25 : r_S → Int32 → Int32 → Option (Int32 × r_S)} {a1 : Int32} {k : Nat} (hk : k < 61) : ∀ (m p fu : Nat) (σ : r_S), p + m = 8 → m < fu → ∃ f, t_X12_alike_33 k25 fu σ a1 (nI k) (nI p) = t_X12_alike_33 k25 1 (r_sa σ 29 f) a1 (nI k) (nI 8) ∧ (∀ q, p ≤ q → q < 8 → f (10 * k + q) = r_A σ 20 (14 + 5 * q)) ∧ (∀ j, (j < 10 * k + p ∨ 10 * k + 8 ≤ j) → f j = r_A σ 29 j) := by
  intro m
  induction m with
  | zero =>
    intro p fu σ hp hf
    obtain ⟨fu, rfl⟩ := Nat.exists_eq_succ_of_ne_zero (show fu ≠ 0 by omega)
    obtain rfl : p = 8 := hp
    refine ⟨r_A σ 29, ?_, fun q h1 h2 => by omega, fun j _ => rfl⟩
    rw [z_ra_eta, t_X12_alike_33, t_X12_alike_33, if_pos (by decide), if_pos (by decide)]
  | succ m ih =>
    intro p fu σ hp hf
    obtain ⟨fu, rfl⟩ := Nat.exists_eq_succ_of_ne_zero (show fu ≠ 0 by omega)
    obtain ⟨f, e1, e2, e3⟩ := ih (p + 1) fu (r_sa σ 29 (upd (r_A σ 29) (10 * k + p) (r_A σ 20 (14 + 5 * p)))) (by omega) (by omega)
    rw [z_raa] at e1
    rw [z_rAn (show 20 ≠ 29 by decide)] at e2
    rw [z_rA] at e3
    refine ⟨f, ?_, fun q h1 h2 => ?_, fun j hj => ?_⟩
    · rw [t_X12_alike_33, if_neg (show ¬ (8 : Int32) ≤ nI p from nI_ge (b := 8) (by omega) (by decide)), z_windOf (by omega), Option.bind_some, z_ix1010, t_si_in (by omega) (by decide), Option.bind_some, nI_1]
      exact e1
    · by_cases c : q = p
      · rw [c, e3 _ (by omega), pk_us]
      · exact e2 q (by omega) h2
    · rw [e3 j (by omega), pk_un (by omega)]
theorem z_alL {b n po c : Nat} {o : g_S} {κ0 : Nat → g_S} {σ0 : r_S} {h0 : q_H} (X : z_X b n po c o κ0 σ0 h0) (a1 : Int32) : ∀ (m k fu fu' : Nat) (κ : Nat → g_S) (σ : r_S) (h : q_H), k + m = 61 → m < fu → m < fu' → z_run b n po κ0 κ σ0 σ h0 h → r_A σ 23 = r_A σ0 23 → r_I σ 21 = r_I σ0 21 → (∀ j, 12 + 5 * n ≤ j → r_A σ 20 j = r_A σ0 20 j) → (∀ j, j < k → z_al n (r_A σ0 20) (g_L (κ 13) 0 j) (fun q => r_A σ 29 (10 * j + q))) →
    ∃ h' κ' σ', m_X8_findAlike_6 fu h (b + 130) a1 (nI k) = m_X8_findAlike_55 q_fu h' (b + 130) a1 0 ∧ z_q b κ0 κ' h0 h' ∧ t_X12_alike_25 fu' σ a1 (nI k) = t_X12_alike_112 q_fu σ' a1 0 ∧ z_k σ0 σ' ∧ r_A σ' 20 = r_A σ0 20 ∧ r_A σ' 23 = r_A σ0 23 ∧ r_I σ' 21 = r_I σ0 21 ∧ (∀ j, j < 61 → z_al n (r_A σ0 20) (g_L (κ' 13) 0 j) (fun q => r_A σ' 29 (10 * j + q))) := by
  have hn : n ≤ 8 := X.2.2.2.2.2.1.1
  intro m
  induction m with
  | zero =>
    intro k fu fu' κ σ h hk hf hf' R h23 h21 hfar hrel
    obtain ⟨fu, rfl⟩ := Nat.exists_eq_succ_of_ne_zero (show fu ≠ 0 by omega)
    obtain ⟨fu', rfl⟩ := Nat.exists_eq_succ_of_ne_zero (show fu' ≠ 0 by omega)
    obtain ⟨l1, l2⟩ := z_lays R.2.1
    refine ⟨h, κ, _, ?_, R.1, ?_, l2, z_rA _ _ _, by rw [z_rAn (by decide)]; exact h23, h21, fun j hj => by rw [z_rAn (by decide)]; exact hrel j (by omega)⟩
    · rw [m_X8_findAlike_6, if_pos (show (60 : Int32) < nI k from nI_lt (a := 60) (by omega) (by omega))]
    · rw [t_X12_alike_25, if_pos (show (60 : Int32) < nI k from nI_lt (a := 60) (by omega) (by omega)), l1]
      rfl
  | succ m ih =>
    intro k fu fu' κ σ h hk hf hf' R h23 h21 hfar hrel
    obtain ⟨fu, rfl⟩ := Nat.exists_eq_succ_of_ne_zero (show fu ≠ 0 by omega)
    obtain ⟨fu', rfl⟩ := Nat.exists_eq_succ_of_ne_zero (show fu' ≠ 0 by omega)
    have W := R.1.1
    obtain ⟨hR, -⟩ := z_XR X R.2.1
    obtain ⟨r, hr, er⟩ := z_rib R.2.2.2.1.1.1 R.2.2.2.1.1.2
    have hVp := R.2.2.2.1.2.1
    have hw : ∀ p, ∃ w, w < 64 ∧ (p < n → r_A σ 20 (14 + 5 * p) = nI w) := fun p => by
      by_cases hp : p < n
      · obtain ⟨w, hw1, hw2⟩ := (hVp p hp).2.1
        exact ⟨w, by omega, fun _ => hw2⟩
      · exact ⟨0, by decide, fun e => absurd e hp⟩
    obtain ⟨w, hw⟩ := Classical.axiomOfChoice hw
    have hst := z_m_256 (z_up (r_A σ 20)) hn
    have eL := z_lik (t := κ 11) (r := r) (st := z_m (z_up (r_A σ 20)) n) (w := w) hn (fun p hp => ⟨(hw p).1, by rw [(R.2.2.1.2.2.2 p hp).2.2.1]; exact (hw p).2 hp⟩) hr hst (by rw [R.2.2.1.1]; exact er) R.2.2.1.2.2.1
    have eL2 := l_X10_likeness _ _ _ _ eL (Ww11 W)
    -- the class writes it down
    have c13 := Ww13 W
    have sl : q_sl h (b + 141) (nI k) (lN (z_lk r (z_m (z_up (r_A σ 20)) n) w n)) = some (va_up h (b + 141) (.inl (2, 61, .inr (.inl (vp_updL (g_L (κ 13) 0) k (lN (z_lk r (z_m (z_up (r_A σ 20)) n) w n))))))) := by
      unfold q_sl
      rw [c13, show vp_updL (g_L (κ 13) 0) k (lN (z_lk r (z_m (z_up (r_A σ 20)) n) w n)) = vp_updL (g_L (κ 13) 0) (nI k).toNatClampNeg (lN (z_lk r (z_m (z_up (r_A σ 20)) n) w n)) by rw [nI_clamp (by omega)]]
      exact if_pos ⟨rfl, (show q_in (nI k) 61 from vp_in_nI (by omega) (by decide))⟩
    have W1 : z_W b (va_up κ 13 (g_sl (κ 13) 0 (vp_updL (g_L (κ 13) 0) k (lN (z_lk r (z_m (z_up (r_A σ 20)) n) w n))))) (va_up h (b + 141) (.inl (2, 61, .inr (.inl (vp_updL (g_L (κ 13) 0) k (lN (z_lk r (z_m (z_up (r_A σ 20)) n) w n))))))) := W_13 W (by rw [va_up_at, z_kL]) (fun a ha => va_up_of ha)
    -- the reference does
    obtain ⟨f, f1, f2, f3⟩ := z_alW (k25 := t_X12_alike_25 fu') (a1 := a1) (show k < 61 by omega) 8 0 q_fu σ (by omega) (by show 8 < 5000; omega)
    have e33 : t_X12_alike_25 (fu' + 1) σ a1 (nI k) = (t_X12_passes (r_sa σ 29 (upd (upd f (10 * k + 8) (r_A σ 20 11)) (10 * k + 9) (nI (z_m (z_up (r_A σ 20)) n))))).bind fun σ18 => t_X12_alike_25 fu' σ18 a1 (nI (k + 1)) := by
      rw [t_X12_alike_25, if_neg (show ¬ (60 : Int32) < nI k from nI_nlt (b := k) (a := 60) (by omega) (by decide) |> fun h => h)]
      refine f1.trans ?_
      rw [t_X12_alike_33, if_pos (by decide), z_a11, Option.bind_some, show (8 : Int32) = nI 8 from rfl, z_ix1010, t_si_in (by omega) (by decide), Option.bind_some, z_upOnes hn (by rw [z_rAn (by decide), z_rAn (by decide)]; exact hR.2.2.1), Option.bind_some, show (9 : Int32) = nI 9 from rfl, z_ix1010, t_si_in (by omega) (by decide), Option.bind_some, nI_1]
      simp only [z_rA, z_raa, z_rAn (show 20 ≠ 29 by decide)]
    -- both go on
    have R1 : z_run b n po κ0 (va_up κ 13 (g_sl (κ 13) 0 (vp_updL (g_L (κ 13) 0) k (lN (z_lk r (z_m (z_up (r_A σ 20)) n) w n))))) σ0 (r_sa σ 29 (upd (upd f (10 * k + 8) (r_A σ 20 11)) (10 * k + 9) (nI (z_m (z_up (r_A σ 20)) n)))) h0 (va_up h (b + 141) (.inl (2, 61, .inr (.inl (vp_updL (g_L (κ 13) 0) k (lN (z_lk r (z_m (z_up (r_A σ 20)) n) w n))))))) := by
      obtain ⟨Q, K, ht, hV, hY0, hru, hpl⟩ := R
      refine ⟨⟨W1, fun q hq => (va_up_of (by omega)).trans (Q.2.1 q hq), fun a ha => (va_up_of (by omega)).trans (Q.2.2 a ha)⟩, ⟨K.1, fun q x1 x2 x3 => (z_rAn (by omega)).trans (K.2.1 q x1 x2 x3), fun j hj => by rw [z_rAn (by decide)]; exact K.2.2.1 j hj, fun j hj => by rw [z_rAn (by decide)]; exact K.2.2.2 j hj⟩, ?_, ?_, ?_, ?_, ?_⟩
      · rw [va_up_of (by decide), z_rAn (by decide)]; exact ht
      · rw [z_rAn (by decide)]; exact hV
      · rw [va_up_of (by decide)]; exact hY0
      · rw [va_up_of (by decide)]
        exact z_ru_fr hru (fun a ha => va_up_of (by omega)) (z_rAn (by decide)) (z_rAn (by decide)) (z_rAn (by decide))
      · intro q hq
        rw [va_up_of (by decide), z_rAn (by decide)]
        exact hpl q hq
    obtain ⟨h2, κ2, σ2, g1, R2, g3, g4, g5, g6, g7, g8, g9⟩ := z_run_go (m := 1) X R1 (by decide)
    have e13 : κ2 13 = g_sl (κ 13) 0 (vp_updL (g_L (κ 13) 0) k (lN (z_lk r (z_m (z_up (r_A σ 20)) n) w n))) := (g6 13 (by decide) (by decide)).trans (va_up_at _ _ _)
    have e29 : r_A σ2 29 = upd (upd f (10 * k + 8) (r_A σ 20 11)) (10 * k + 9) (nI (z_m (z_up (r_A σ 20)) n)) := (g7.2.1 29 (by decide) (by decide)).trans (z_rA _ _ _)
    obtain ⟨h', κ', σ', q1, q2, q3, q4⟩ := ih (k + 1) fu fu' κ2 σ2 h2 (by omega) (by omega) (by omega) R2 ((g7.2.1 23 (by decide) (by decide)).trans ((z_rAn (by decide)).trans h23)) ((g7.1 21 (by decide)).trans h21) (fun j hj => by rw [g9 j hj, z_rAn (by decide)]; exact hfar j hj) (fun j hj => by
      rw [e13, z_kL, e29]
      by_cases cj : j = k
      · subst cj
        refine ⟨r, z_m (z_up (r_A σ 20)) n, w, hr, hst, fun p => (hw p).1, pk_uLs, ?_, ?_, fun p hp => ?_, fun p h1 h2 => ?_⟩
        · dsimp only
          rw [pk_un (by omega), pk_us]; exact er
        · dsimp only
          rw [pk_us]
        · dsimp only
          rw [pk_un (by omega), pk_un (by omega), f2 p (by omega) (by omega)]
          exact (hw p).2 hp
        · dsimp only
          rw [pk_un (by omega), pk_un (by omega), f2 p (by omega) h2]
          exact hfar _ (by omega)
      · rw [pk_uLn cj]
        have hz := hrel j (by omega)
        obtain ⟨r', st', w', b1, b2, b3, b4, b5, b6, b7, b8⟩ := hz
        have rd : ∀ q, q < 10 → upd (upd f (10 * k + 8) (r_A σ 20 11)) (10 * k + 9) (nI (z_m (z_up (r_A σ 20)) n)) (10 * j + q) = r_A σ 29 (10 * j + q) := fun q hq => by
          rw [pk_un (by omega), pk_un (by omega), f3 _ (by omega)]
        exact ⟨r', st', w', b1, b2, b3, b4, by dsimp only; rw [rd 8 (by omega)]; exact b5, by dsimp only; rw [rd 9 (by omega)]; exact b6, fun p hp => by dsimp only; rw [rd p (by omega)]; exact b7 p hp, fun p h1 h2 => by dsimp only; rw [rd p (by omega)]; exact b8 p h1 h2⟩)
    obtain ⟨p1, p2⟩ := z_pull X R.1
    refine ⟨h', κ', σ', ?_, q2, ?_, q4⟩
    · rw [m_X8_findAlike_6, if_neg (show ¬ (60 : Int32) < nI k from nI_nlt (b := k) (a := 60) (by omega) (by decide) |> fun h => h), We5 W, Option.bind_some, We3 W, Option.bind_some, We0 W, Option.bind_some, p1, Option.bind_some, p2, Option.bind_some, ca10 (Ww11 W), eL2, Option.bind_some, sl, Option.bind_some, We2 W1, Option.bind_some, We3 W1, Option.bind_some, ca1 (Ww10 W1), show (1 : Int32) = nI 1 from rfl, g1, Option.bind_some, nI_add]
      exact q1
    · rw [e33, g4 rfl, Option.bind_some]
      exact q3
