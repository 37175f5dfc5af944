/-! ===== L3: a RULE reckoned out on both sides ===== -/
def z_cv (k : Nat) : Nat := if k = 15 then 0 else if k = 16 then 1 else if k = 9 then 14 else if k = 4 then 11 else if k = 3 then 12 else if k = 2 then 13 else if k ≤ 8 then k - 3 else k - 4
def z_ok (k v : Nat) : Prop := k ≤ 16 ∧ v ≤ 99999 ∧ (k = 16 → v ≤ 10)
/-- what a sign does to the kinds (false: a number, true: a truth) of what lies on the stack -/
def z_t1 (k : Nat) (S : List Bool) : Option (List Bool) :=
  if k = 15 ∨ k = 16 then (if S.length < 60 then some (false :: S) else none)
  else if k = 4 then (match S with | true :: S => some (true :: S) | _ => none)
  else if k = 2 ∨ k = 3 then (match S with | true :: true :: S => some (true :: S) | _ => none)
  else if 5 ≤ k ∧ k ≤ 9 then (match S with | false :: false :: S => some (false :: S) | _ => none)
  else if 10 ≤ k ∧ k ≤ 14 then (match S with | false :: false :: S => some (true :: S) | _ => none)
  else none
def z_ty (K : Nat → Nat) : Nat → Nat → List Bool → Option (List Bool)
  | 0, _, S => some S
  | m + 1, i, S => (z_t1 (K i) S).bind (z_ty K m (i + 1))
/-- what lies there by its kinds: a truth is 0 or 1 -/
def z_sv (f : Nat → Int64) : List Bool → Prop
  | [] => True
  | b :: S => (b = true → f S.length = 0 ∨ f S.length = 1) ∧ z_sv f S
theorem z_sv_ext {f g : Nat → Int64} : ∀ {S : List Bool}, (∀ j, j < S.length → f j = g j) → z_sv f S → z_sv g S
  | [], _, _ => trivial
  | b :: S, h, ⟨h1, h2⟩ => ⟨fun e => by rw [← h S.length (by simp)]; exact h1 e, z_sv_ext (fun j hj => h j (by rw [List.length_cons]; omega)) h2⟩
theorem z_sv_upd {f : Nat → Int64} {S : List Bool} {n : Nat} {x : Int64} (hn : S.length ≤ n) (h : z_sv f S) : z_sv (vp_updL f n x) S :=
  z_sv_ext (fun j hj => (pk_uLn (by omega)).symm) h
/-- the six ways a step can go -/
theorem z_t1_cases {k : Nat} {S S1 : List Bool} (h : z_t1 k S = some S1) : ((k = 15 ∨ k = 16) ∧ S.length < 60 ∧ S1 = false :: S) ∨ (k = 4 ∧ ∃ T, S = true :: T ∧ S1 = true :: T) ∨ ((k = 2 ∨ k = 3 ∨ (5 ≤ k ∧ k ≤ 14)) ∧ ∃ a b c T, S = a :: b :: T ∧ S1 = c :: T ∧ (k < 5 → a = true ∧ b = true) ∧ (c = true → k < 5 ∨ 10 ≤ k)) := by
  unfold z_t1 at h
  split at h
  · next hk =>
    split at h
    · next hl => exact Or.inl ⟨hk, hl, (Option.some.inj h).symm⟩
    · cases h
  · split at h
    · next hk =>
      split at h
      · next T => exact Or.inr (Or.inl ⟨hk, T, rfl, (Option.some.inj h).symm⟩)
      · cases h
    · split at h
      · next hk =>
        split at h
        · next T => exact Or.inr (Or.inr ⟨by omega, true, true, true, T, rfl, (Option.some.inj h).symm, fun _ => ⟨rfl, rfl⟩, fun _ => by omega⟩)
        · cases h
      · split at h
        · next hk =>
          split at h
          · next T => exact Or.inr (Or.inr ⟨by omega, false, false, false, T, rfl, (Option.some.inj h).symm, fun _ => by omega, fun e => by cases e⟩)
          · cases h
        · split at h
          · next hk =>
            split at h
            · next T => exact Or.inr (Or.inr ⟨by omega, false, false, true, T, rfl, (Option.some.inj h).symm, fun _ => by omega, fun _ => by omega⟩)
            · cases h
          · cases h
theorem z_bit01 {x y : Int64} (hx : x = 0 ∨ x = 1) (hy : y = 0 ∨ y = 1) : ((x ||| y) = 0 ∨ (x ||| y) = 1) ∧ ((x &&& y) = 0 ∨ (x &&& y) = 1) := by
  rcases hx with rfl | rfl <;> rcases hy with rfl | rfl <;> decide
theorem z_if01 {c : Prop} {i : Decidable c} {a b : Int64} (ha : a = 0 ∨ a = 1) (hb : b = 0 ∨ b = 1) : ∃ r : Int64, (@ite _ c i (some a) (some b)) = some r ∧ (r = 0 ∨ r = 1) := by
  by_cases h : c
  · exact ⟨a, if_pos h, ha⟩
  · exact ⟨b, if_neg h, hb⟩
theorem z_div {y : Int64} {q : Int64} : ∃ r : Int64, (if (lg_cmp y 0) = 0 then some 0 else if y = 0 then none else some q) = some r := by
  by_cases h : lg_cmp y 0 = 0
  · exact ⟨0, if_pos h⟩
  · by_cases h2 : y = 0
    · exact absurd (by rw [h2]; decide) h
    · exact ⟨q, by rw [if_neg h, if_neg h2]⟩
theorem z_op {k : Nat} (hk : k = 2 ∨ k = 3 ∨ (5 ≤ k ∧ k ≤ 14)) (x y : Int64) : ∃ r, m_X6_joined (nI k) x y = some r ∧ m_X12_one (nI (z_cv k)) x y = some r ∧ (10 ≤ k → r = 0 ∨ r = 1) ∧ (k < 5 → (x = 0 ∨ x = 1) → (y = 0 ∨ y = 1) → r = 0 ∨ r = 1) := by
  have hk2 : k = 2 ∨ k = 3 ∨ k = 5 ∨ k = 6 ∨ k = 7 ∨ k = 8 ∨ k = 9 ∨ k = 10 ∨ k = 11 ∨ k = 12 ∨ k = 13 ∨ k = 14 := by omega
  have c01 : ((0 : Int64) = 0 ∨ (0 : Int64) = 1) ∧ ((1 : Int64) = 0 ∨ (1 : Int64) = 1) := by decide
  rcases hk2 with rfl | rfl | rfl | rfl | rfl | rfl | rfl | rfl | rfl | rfl | rfl | rfl
  · exact ⟨x ||| y, rfl, rfl, by omega, fun _ hx hy => (z_bit01 hx hy).1⟩
  · exact ⟨x &&& y, rfl, rfl, by omega, fun _ hx hy => (z_bit01 hx hy).2⟩
  · exact ⟨x + y, rfl, rfl, by omega, by omega⟩
  · exact ⟨x - y, rfl, rfl, by omega, by omega⟩
  · exact ⟨x * y, rfl, rfl, by omega, by omega⟩
  · obtain ⟨r, hr⟩ := z_div (y := y) (q := x / y)
    exact ⟨r, hr, hr, by omega, by omega⟩
  · obtain ⟨r, hr⟩ := z_div (y := y) (q := q_rml x y)
    exact ⟨r, hr, hr, by omega, by omega⟩
  · obtain ⟨r, hr, hv⟩ := z_if01 (c := 0 ≤ lg_cmp x y) (i := inferInstance) c01.1 c01.2
    exact ⟨r, hr, hr, fun _ => hv, by omega⟩
  · obtain ⟨r, hr, hv⟩ := z_if01 (c := 0 < lg_cmp x y) (i := inferInstance) c01.1 c01.2
    exact ⟨r, hr, hr, fun _ => hv, by omega⟩
  · obtain ⟨r, hr, hv⟩ := z_if01 (c := lg_cmp x y = 0) (i := inferInstance) c01.2 c01.1
    exact ⟨r, hr, hr, fun _ => hv, by omega⟩
  · obtain ⟨r, hr, hv⟩ := z_if01 (c := lg_cmp x y < 0) (i := inferInstance) c01.1 c01.2
    exact ⟨r, hr, hr, fun _ => hv, by omega⟩
  · obtain ⟨r, hr, hv⟩ := z_if01 (c := lg_cmp x y ≤ 0) (i := inferInstance) c01.1 c01.2
    exact ⟨r, hr, hr, fun _ => hv, by omega⟩
/-! the reference's stack -/
def z_sc (σ : r_S) (g : Nat → Int64) (v : Int32) : r_S := r_si (r_sl σ 17 g) 18 v
theorem va_up_eta {α : Type} (f : Nat → α) (k : Nat) : va_up f k (f k) = f := by
  funext j
  by_cases h : j = k
  · rw [h, va_up_at]
  · rw [va_up_of h]
theorem z_sc_eta (σ : r_S) : z_sc σ (r_L σ 17) (r_I σ 18) = σ := by
  unfold z_sc r_si r_sl r_L r_I
  simp only [va_up_eta]
theorem z_sc_sc (σ : r_S) (g g' : Nat → Int64) (v v' : Int32) : z_sc (z_sc σ g v) g' v' = z_sc σ g' v' := by
  unfold z_sc r_si r_sl
  simp only [bx_uu]
theorem z_sc_A (σ : r_S) (g : Nat → Int64) (v : Int32) (k : Nat) : r_A (z_sc σ g v) k = r_A σ k := rfl
theorem z_sc_I {σ : r_S} {g : Nat → Int64} {v : Int32} {k : Nat} (h : k ≠ 18) : r_I (z_sc σ g v) k = r_I σ k := va_up_of h
theorem z_sc_18 (σ : r_S) (g : Nat → Int64) (v : Int32) : r_I (z_sc σ g v) 18 = v := by
  show va_up (r_sl σ 17 g).1 18 v 18 = v
  exact va_up_at _ _ _
theorem z_sc_17 (σ : r_S) (g : Nat → Int64) (v : Int32) : r_L (z_sc σ g v) 17 = g := by
  show va_up σ.2.2.1 17 g 17 = g
  exact va_up_at _ _ _
theorem z_sc_19 (σ : r_S) (g : Nat → Int64) (v : Int32) : r_L (z_sc σ g v) 19 = r_L σ 19 := by
  show va_up σ.2.2.1 17 g 19 = σ.2.2.1 19
  exact va_up_of (by decide)
theorem z_sc_0 (σ : r_S) (g : Nat → Int64) (v w : Int32) : r_si (z_sc σ g v) 18 w = z_sc σ g w := by
  unfold z_sc r_si
  simp only [bx_uu]
theorem z_push {σ : r_S} {g : Nat → Int64} {l : Nat} {x : Int64} (hl : l < 64) : t_X12_push (z_sc σ g (nI l)) x = some (z_sc σ (vp_updL g l x) (nI (l + 1))) := by
  unfold t_X12_push
  dsimp only
  rw [z_sc_18]
  unfold t_sl
  rw [if_pos (show q_in (nI l) 64 from vp_in_nI hl (by decide)), nI_clamp (by omega), Option.bind_some, z_sc_17]
  show some (r_si (r_sl (z_sc σ g (nI l)) 17 (vp_updL g l x)) 18 (r_I (z_sc σ g (nI l)) 18 + 1)) = _
  rw [z_sc_18, nI_1]
  exact congrArg some (z_sc_sc σ g _ (nI l) _)
theorem z_pop {σ : r_S} {g : Nat → Int64} {l : Nat} (hl : l < 64) : t_X12_pop (z_sc σ g (nI (l + 1))) = some (g l, z_sc σ g (nI l)) := by
  unfold t_X12_pop
  dsimp only
  rw [z_sc_18, nI_pred, z_sc_0, z_sc_18, z_sc_17]
  unfold t_al
  rw [if_pos (show q_in (nI l) 64 from vp_in_nI hl (by decide)), nI_clamp (by omega)]
  rfl
/-! the class's stack -/
theorem z_kL (k : g_S) (f : Nat → Int64) : g_L (g_sl k 0 f) 0 = f := by
  show va_up k.2.2.1 0 f 0 = f
  exact va_up_at _ _ _
theorem z_kk (k : g_S) (f g : Nat → Int64) : g_sl (g_sl k 0 f) 0 g = g_sl k 0 g := by
  unfold g_sl
  simp only [bx_uu]
theorem z_kset {k : g_S} {f : Nat → Int64} {l : Nat} {x : Int64} (hk : g_N k 0 = 64) (hl : l < 64) : u_sl (g_N (g_sl k 0 f) 0) (g_sl k 0 f) 0 (nI l) x = some (g_sl k 0 (vp_updL f l x)) := by
  rw [show g_N (g_sl k 0 f) 0 = 64 from hk]
  unfold u_sl
  rw [if_pos (show q_in (nI l) 64 from vp_in_nI hl (by decide)), nI_clamp (by omega), z_kL, z_kk]
theorem z_kget {k : g_S} {f : Nat → Int64} {l : Nat} (hk : g_N k 0 = 64) (hl : l < 64) : t_al (g_N (g_sl k 0 f) 0) (g_L (g_sl k 0 f) 0) (nI l) = some (f l) := by
  rw [show g_N (g_sl k 0 f) 0 = 64 from hk, z_kL]
  unfold t_al
  rw [if_pos (show q_in (nI l) 64 from vp_in_nI hl (by decide)), nI_clamp (by omega)]
theorem z_rm {k v : Nat} (h : z_ok k v) : q_rmi (nI (k + 32 * v)) 32 = nI k := by
  obtain ⟨h1, h2, -⟩ := h
  have e : q_rmi (nI (k + 32 * v)) (nI 32) = nI ((k + 32 * v) % 32) := pk_rem (by omega) (by decide) (by decide)
  rw [show (k + 32 * v) % 32 = k by omega] at e
  exact e
theorem z_dv {k v : Nat} (h : z_ok k v) : nI (k + 32 * v) / 32 = nI v := by
  obtain ⟨h1, h2, -⟩ := h
  have e : nI (k + 32 * v) / nI 32 = nI ((k + 32 * v) / 32) := pk_div (by omega) (by decide) (by decide)
  rw [show (k + 32 * v) / 32 = v by omega] at e
  exact e
theorem z_cv_lt {k : Nat} (h : k ≤ 16) : z_cv k < 16 := by
  unfold z_cv
  repeat' split
  all_goals omega
theorem z_lo {k v : Nat} (h : z_ok k v) : nI (z_cv k + 16 * v) &&& 15 = nI (z_cv k) := by
  obtain ⟨h1, h2, -⟩ := h
  have hc := z_cv_lt h1
  rw [pk_andN (by omega) 4 (by decide), show (z_cv k + 16 * v) % 2 ^ 4 = z_cv k by omega]
theorem z_hi {k v : Nat} (h : z_ok k v) : nI (z_cv k + 16 * v) >>> ((4 : Int32) &&& 31) = nI v := by
  obtain ⟨h1, h2, -⟩ := h
  have hc := z_cv_lt h1
  rw [pk_shrN (by omega) _ 4 (by decide), show (z_cv k + 16 * v) / 2 ^ 4 = v by omega]
theorem z_ix400 (r i : Nat) : (400 : Int32) * nI r + nI i = nI (400 * r + i) := by
  rw [show (400 : Int32) = nI 400 from rfl, pk_mul, nI_add]
/-- the code from i on, to its end: both stacks go alike -/
theorem z_eval {K V : Nat → Nat} {u w k : g_S} {σ : r_S} {r N to : Nat} (hu : g_N u 0 = N) (hN : N ≤ 400) (hto : to ≤ N) (hk0 : g_N k 0 = 64) (hw : g_N w 0 = 11) (hr : r < 6) (hc : ∀ i, i < N → g_A u 0 i = nI (K i + 32 * V i) ∧ z_ok (K i) (V i) ∧ r_A σ 3 (400 * r + i) = nI (z_cv (K i) + 16 * V i)) (hwd : ∀ j, j < 11 → g_L w 0 j = r_L σ 19 j) :
    ∀ (m i : Nat) (S S' : List Bool) (f g : Nat → Int64) (fu fu' : Nat), i + m = to → m < fu → m < fu' → z_ty K m i S = some S' → S.length ≤ 60 → (∀ j, j < S.length → f j = g j) → z_sv g S →
      ∃ f' g', t_X6_evaluate_6 fu u w (g_sl k 0 f) (nI to) (nI S.length) (nI i) = t_X6_evaluate_180 u w (g_sl k 0 f') ∧ t_X12_reckons_8 fu' (z_sc σ g (nI S.length)) (nI r) (nI to) (nI i) = t_X12_pop (z_sc σ g' (nI S'.length)) ∧ (∀ j, j < S'.length → f' j = g' j) ∧ z_sv g' S' ∧ S'.length ≤ 60 := by
  intro m
  induction m with
  | zero =>
    intro i S S' f g fu fu' hi hf hf' hty hS hfg hsv
    obtain ⟨fu, rfl⟩ := Nat.exists_eq_succ_of_ne_zero (show fu ≠ 0 by omega)
    obtain ⟨fu', rfl⟩ := Nat.exists_eq_succ_of_ne_zero (show fu' ≠ 0 by omega)
    cases hty
    refine ⟨f, g, ?_, ?_, hfg, hsv, hS⟩
    · rw [t_X6_evaluate_6, if_pos (nI_le (by omega) (by omega))]
    · rw [t_X12_reckons_8, if_pos (nI_le (by omega) (by omega))]
      cases t_X12_pop (z_sc σ g (nI S.length)) <;> rfl
  | succ m ih =>
    intro i S S' f g fu fu' hi hf hf' hty hS hfg hsv
    obtain ⟨fu, rfl⟩ := Nat.exists_eq_succ_of_ne_zero (show fu ≠ 0 by omega)
    obtain ⟨fu', rfl⟩ := Nat.exists_eq_succ_of_ne_zero (show fu' ≠ 0 by omega)
    obtain ⟨hc1, hok, hc2⟩ := hc i (by omega)
    have hK16 := hok.1
    have eC : t_ai (g_N u 0) (g_A u 0) (nI i) = some (nI (K i + 32 * V i)) := by rw [hu, t_ai_in (by omega) (by omega), hc1]
    have eR : t_ai 2400 (r_A (z_sc σ g (nI S.length)) 3) (400 * nI r + nI i) = some (nI (z_cv (K i) + 16 * V i)) := by
      rw [z_ix400, z_sc_A, t_ai_in (by omega) (by decide), hc2]
    obtain ⟨S1, h1, h2⟩ := Option.bind_eq_some_iff.mp hty
    obtain ⟨XeA, heA⟩ : ∃ X, t_X6_evaluate_6 (fu + 1) u w (g_sl k 0 f) (nI to) (nI S.length) (nI i) = X := ⟨_, rfl⟩
    have eA := heA
    rw [t_X6_evaluate_6, if_neg (nI_ge (show i < to by omega) (by omega))] at eA
    dsimp only at eA
    rw [show Int32.ofNat (g_N u 0) = nI N by rw [hu]; rfl, if_neg (nI_ge (show i < N by omega) (by omega)), show Int32.ofNat (g_N (g_sl k 0 f) 0) = nI 64 by rw [show g_N (g_sl k 0 f) 0 = 64 from hk0]; rfl, if_neg (nI_ge (show S.length < 64 by omega) (by decide)), eC, Option.bind_some, Option.bind_some, z_rm hok, z_dv hok] at eA
    replace eA := heA.trans eA.symm
    obtain ⟨XeB, heB⟩ : ∃ X, t_X12_reckons_8 (fu' + 1) (z_sc σ g (nI S.length)) (nI r) (nI to) (nI i) = X := ⟨_, rfl⟩
    have eB := heB
    rw [t_X12_reckons_8, if_neg (nI_ge (show i < to by omega) (by omega)), eR, Option.bind_some, Option.bind_some, z_lo hok, z_hi hok] at eB
    replace eB := heB.trans eB.symm
    rcases z_t1_cases h1 with ⟨hk, hl, rfl⟩ | ⟨hk, T, rfl, rfl⟩ | ⟨hk, a, b, c, T, rfl, rfl, hab, hcc⟩
    · -- a value is laid on
      rcases hk with hk | hk
      · have hx : (nI (V i)).toInt64 = (nI (V i)).toInt64 := rfl
        obtain ⟨f', g', e1, e2, e3, e4, e5⟩ := ih (i + 1) (false :: S) S' (vp_updL f S.length (nI (V i)).toInt64) (vp_updL g S.length (nI (V i)).toInt64) fu fu' (by omega) (by omega) (by omega) h2 (by rw [List.length_cons]; omega)
          (fun j hj => by
            rw [List.length_cons] at hj
            by_cases e : j = S.length
            · rw [e, pk_uLs, pk_uLs]
            · rw [pk_uLn e, pk_uLn e]; exact hfg j (by omega)) ⟨fun e => (by cases e), z_sv_upd (Nat.le_refl _) hsv⟩
        refine ⟨f', g', ?_, ?_, e3, e4, e5⟩
        · rw [eA, hk, if_pos (by decide), z_kset hk0 (by omega), Option.bind_some, t_X6_evaluate_174, nI_1, nI_1]
          exact e1
        · rw [eB, hk, if_pos (by decide), z_push (by omega), Option.bind_some, t_X12_reckons_129, nI_1]
          exact e2
      · have hv := hok.2.2 hk
        obtain ⟨f', g', e1, e2, e3, e4, e5⟩ := ih (i + 1) (false :: S) S' (vp_updL f S.length (r_L σ 19 (V i))) (vp_updL g S.length (r_L σ 19 (V i))) fu fu' (by omega) (by omega) (by omega) h2 (by rw [List.length_cons]; omega)
          (fun j hj => by
            rw [List.length_cons] at hj
            by_cases e : j = S.length
            · rw [e, pk_uLs, pk_uLs]
            · rw [pk_uLn e, pk_uLn e]; exact hfg j (by omega)) ⟨fun e => (by cases e), z_sv_upd (Nat.le_refl _) hsv⟩
        refine ⟨f', g', ?_, ?_, e3, e4, e5⟩
        · rw [eA, hk, if_neg (by decide), if_pos (by decide), show Int32.ofNat (g_N w 0) = nI 11 by rw [hw]; rfl, if_neg (nI_ge (show V i < 11 by omega) (by decide)), hw, show t_al 11 (g_L w 0) (nI (V i)) = some (r_L σ 19 (V i)) by
            unfold t_al
            rw [if_pos (show q_in (nI (V i)) 11 from vp_in_nI (by omega) (by decide)), nI_clamp (by omega), hwd _ (by omega)], Option.bind_some, t_X6_evaluate_101, z_kset hk0 (by omega), Option.bind_some, t_X6_evaluate_174, nI_1, nI_1]
          exact e1
        · rw [eB, hk, if_neg (by decide), if_pos (by decide), z_sc_19, show t_al 11 (r_L σ 19) (nI (V i)) = some (r_L σ 19 (V i)) by
            unfold t_al
            rw [if_pos (show q_in (nI (V i)) 11 from vp_in_nI (by omega) (by decide)), nI_clamp (by omega)], Option.bind_some, z_push (by omega), Option.bind_some, t_X12_reckons_129, nI_1]
          exact e2
    · -- not
      rw [List.length_cons] at hS hfg
      obtain ⟨f', g', e1, e2, e3, e4, e5⟩ := ih (i + 1) (true :: T) S' (vp_updL f T.length (1 - g T.length)) (vp_updL g T.length (1 - g T.length)) fu fu' (by omega) (by omega) (by omega) h2 (by rw [List.length_cons]; omega)
        (fun j hj => by
          rw [List.length_cons] at hj
          by_cases e : j = T.length
          · rw [e, pk_uLs, pk_uLs]
          · rw [pk_uLn e, pk_uLn e]; exact hfg j (by omega)) ⟨fun _ => by rw [pk_uLs]; rcases hsv.1 rfl with e | e <;> rw [e] <;> decide, z_sv_upd (Nat.le_refl _) hsv.2⟩
      refine ⟨f', g', ?_, ?_, e3, e4, e5⟩
      · rw [eA, hk, if_neg (by decide), if_neg (by decide), if_pos (by decide), List.length_cons, if_neg (show ¬ nI (T.length + 1) < 1 from nI_nlt (b := 1) (by omega) (by omega)), nI_pred, z_kget hk0 (by omega), Option.bind_some, z_kset hk0 (by omega), Option.bind_some, t_X6_evaluate_174, nI_1, hfg _ (by omega)]
        rw [List.length_cons] at e1
        exact e1
      · rw [eB, hk, show z_cv 4 = 11 from rfl, if_neg (by decide), if_neg (by decide), if_pos (by decide), List.length_cons, z_pop (by omega), Option.bind_some]
        dsimp only
        rw [z_push (by omega), Option.bind_some, t_X12_reckons_129, nI_1]
        rw [List.length_cons] at e2
        exact e2
    · -- two are joined
      rw [List.length_cons, List.length_cons] at hS hfg
      obtain ⟨x, hx1, hx2, hx3, hx4⟩ := z_op hk (g T.length) (g (T.length + 1))
      have hn15 : ¬ nI (K i) = (15 : Int32) := fun e => by have := (nI_eq (a := K i) (b := 15) (by omega) (by decide)).mp e; omega
      have hn16 : ¬ nI (K i) = (16 : Int32) := fun e => by have := (nI_eq (a := K i) (b := 16) (by omega) (by decide)).mp e; omega
      have hn4 : ¬ nI (K i) = (4 : Int32) := fun e => by have := (nI_eq (a := K i) (b := 4) (by omega) (by decide)).mp e; omega
      have hc0 : z_cv (K i) ≠ 0 ∧ z_cv (K i) ≠ 1 ∧ z_cv (K i) ≠ 11 := by
        unfold z_cv
        refine ⟨?_, ?_, ?_⟩ <;> (repeat' split) <;> omega
      have hcl := z_cv_lt hK16
      obtain ⟨f', g', e1, e2, e3, e4, e5⟩ := ih (i + 1) (c :: T) S' (vp_updL f T.length x) (vp_updL g T.length x) fu fu' (by omega) (by omega) (by omega) h2 (by rw [List.length_cons]; omega)
        (fun j hj => by
          rw [List.length_cons] at hj
          by_cases e : j = T.length
          · rw [e, pk_uLs, pk_uLs]
          · rw [pk_uLn e, pk_uLn e]; exact hfg j (by omega)) ⟨fun hct => by
            rw [pk_uLs]
            rcases hcc hct with h | h
            · obtain ⟨rfl, rfl⟩ := hab h
              exact hx4 h (hsv.2.1 rfl) (hsv.1 rfl)
            · exact hx3 h, z_sv_upd (Nat.le_refl _) hsv.2.2⟩
      rw [List.length_cons] at e1 e2
      refine ⟨f', g', ?_, ?_, e3, e4, e5⟩
      · rw [eA, if_neg hn15, if_neg hn16, if_neg hn4, t_X6_evaluate_139, List.length_cons, List.length_cons, if_neg (show ¬ nI (T.length + 1 + 1) < 2 from nI_nlt (b := 2) (by omega) (by omega)), show nI (T.length + 1 + 1) - 2 = nI T.length from pk_sub (a := T.length + 2) (b := 2) (by omega), nI_pred, z_kget hk0 (by omega), Option.bind_some, z_kget hk0 (by omega), Option.bind_some, hfg _ (by omega), hfg _ (by omega), hx1, Option.bind_some, z_kset hk0 (by omega), Option.bind_some, t_X6_evaluate_174, nI_1, pk_m1]
        exact e1
      · rw [eB, if_neg (show ¬ nI (z_cv (K i)) = (0 : Int32) from fun e => hc0.1 ((nI_eq (b := 0) (by omega) (by decide)).mp e)), if_neg (show ¬ nI (z_cv (K i)) = (1 : Int32) from fun e => hc0.2.1 ((nI_eq (b := 1) (by omega) (by decide)).mp e)), if_neg (show ¬ nI (z_cv (K i)) = (11 : Int32) from fun e => hc0.2.2 ((nI_eq (b := 11) (by omega) (by decide)).mp e)), List.length_cons, List.length_cons, z_pop (by omega), Option.bind_some]
        dsimp only
        rw [z_pop (by omega), Option.bind_some]
        dsimp only
        rw [hx2, Option.bind_some, z_push (by omega), Option.bind_some, t_X12_reckons_129, nI_1]
        exact e2
