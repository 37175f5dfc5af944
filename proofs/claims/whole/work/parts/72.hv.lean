/-! ===== L3: HEAVES in the class's cells ===== -/
/-- the RULE that the Heaver holds is the one that the reference has in force -/
def z_ru (b : Nat) (ro : Option Nat) (f : Int32) (σ : r_S) (h : q_H) (po : Nat) : Prop := (ro = none ∧ f = -1) ∨ ∃ r pr B, r < 6 ∧ ro = some pr ∧ f = nI r ∧ b + 175 ≤ pr ∧ g6 pr B h ∧ z_rl B σ r ∧ (po + 5 ≤ pr ∨ pr + 3 ≤ po)
theorem z_ru_fr {b : Nat} {ro : Option Nat} {f : Int32} {σ σ' : r_S} {h h' : q_H} {po : Nat} (H : z_ru b ro f σ h po) (hh : ∀ a, b + 175 ≤ a → h' a = h a) (h3 : r_A σ' 3 = r_A σ 3) (h5 : r_A σ' 5 = r_A σ 5) (h6 : r_A σ' 6 = r_A σ 6) : z_ru b ro f σ' h' po := by
  rcases H with H | ⟨r, pr, B, a1, a2, a3, a4, a5, a6, a7⟩
  · exact Or.inl H
  · exact Or.inr ⟨r, pr, B, a1, a2, a3, a4, fr6 a5 (fun a ha => hh a (by unfold f6 at ha; omega)), z_rl_ext a6 (fun i _ => by rw [h3]) (fun i _ => by rw [h5]) (by rw [h6]), a7⟩
theorem z_HVt {b n po m : Nat} {κ : Nat → g_S} {σ : r_S} {h : q_H} {o : g_S} (W : z_W b κ h) (Go : g4 po o h) (hpo : b + 175 ≤ po ∨ po = b + 136) (hY0 : g_P (κ 10) 0 = some po) (hru : z_ru b (g_P (κ 10) 1) (r_I σ 21) σ h po) (hR : z_R (r_A σ 20) n) (hV : z_V (r_A σ 20) n) (ho : z_o o (r_A σ 20) n) (ht : z_t (κ 11) (r_A σ 20) n) (hpl : z_pl (κ 10) σ) (hm : m ≤ 200) :
    ∃ h' y' t' σ', m_X1_heaveOn h (b + 124) (b + 131) (nI m) = some h' ∧ z_W b (va_up (va_up κ 10 y') 11 t') h' ∧ (∀ a, ¬ (f1 (b + 124) a ∨ f10 (b + 131) a) → h' a = h a) ∧ t_X12_passesAll σ (nI m) = some σ' ∧ (m = 1 → t_X12_passes σ = some σ') ∧ z_t t' (r_A σ' 20) n ∧ z_V (r_A σ' 20) n ∧ (∀ j, j < 10 ∨ 12 + 5 * n ≤ j → r_A σ' 20 j = r_A σ 20 j) ∧ r_A σ' 20 10 = r_A σ 20 10 + nI m ∧ z_eqv σ σ' ∧ g_A y' 2 = g_A (κ 10) 2 ∧ g_P y' = g_P (κ 10) := by
  have hY0' : ¬ g_P (κ 10) 0 = none := by rw [hY0]; exact fun e => by cases e
  have D1 : ∀ a, f1 (b + 124) a → f4 po a → False := fun a h1 h2 => by unfold f1 at h1; unfold f4 at h2; omega
  have D2 : ∀ a, f1 (b + 124) a → f10 (b + 131) a → False := fun a h1 h2 => by unfold f1 at h1; unfold f10 at h2; omega
  have D3 : ∀ a, f4 po a → f10 (b + 131) a → False := fun a h1 h2 => by unfold f4 at h1; unfold f10 at h2; omega
  rcases hru with ⟨e1, e2⟩ | ⟨r, pr, B, a1, a2, a3, a4, a5, a6, a7⟩
  · obtain ⟨y', t', σ', c1, c2, c3, c4, c5, c6, c7, c8, c9, c10⟩ := z_hvmN (o := o) m 0 q_fu q_fu (κ 10) (κ 11) σ (by omega) (by show m < 5000; omega) (by show m < 5000; omega) hR hV ho ht hpl hY0' e2 e1
    rw [Nat.zero_add] at c1 c2
    obtain ⟨h', d1, d2, d3, d4, d5⟩ := l_X1N_heaveOn h (b + 124) po (b + 131) (κ 10) o (κ 11) (nI m) c1 (Ww10 W) Go (Ww11 W) hY0 D1 D2 D3
    exact ⟨h', y', t', σ', d1, W_10_11 W d2 d3 d5, d5, c2, c3, c4, c5, c6, c7, c8, c9, c10⟩
  · obtain ⟨y', t', σ', c1, c2, c3, c4, c5, c6, c7, c8, c9, c10⟩ := z_hvm (o := o) (b := B) a1 m 0 q_fu q_fu (κ 10) (κ 11) σ (by omega) (by show m < 5000; omega) (by show m < 5000; omega) hR hV ho ht hpl hY0' a3 (by rw [a2]; exact fun e => by cases e) a6
    rw [Nat.zero_add] at c1 c2
    obtain ⟨h', d1, d2, d3, d4, d5⟩ := l_X1_heaveOn h (b + 124) po pr (b + 131) (κ 10) o B (κ 11) (nI m) c1 (Ww10 W) Go a5 (Ww11 W) hY0 a2 D1 (fun a h1 h2 => by unfold f1 at h1; unfold f6 at h2; omega) D2 (fun a h1 h2 => by unfold f4 at h1; unfold f6 at h2; omega) D3 (fun a h1 h2 => by unfold f6 at h1; unfold f10 at h2; omega)
    exact ⟨h', y', t', σ', d1, W_10_11 W d2 d3 d5, d5, c2, c3, c4, c5, c6, c7, c8, c9, c10⟩
theorem z_HVn {b n po m : Nat} {κ : Nat → g_S} {σ : r_S} {h : q_H} {o : g_S} (W : z_W b κ h) (Go : g4 po o h) (hpo : b + 175 ≤ po ∨ po = b + 136) (hY0 : g_P (κ 10) 0 = some po) (hru : z_ru b (g_P (κ 10) 1) (r_I σ 21) σ h po) (hR : z_R (r_A σ 20) n) (hV : z_V (r_A σ 20) n) (ho : z_o o (r_A σ 20) n) (ht : z_t (κ 7) (r_A σ 20) n) (hpl : z_pl (κ 10) σ) (hm : m ≤ 200) :
    ∃ h' y' t' σ', m_X1_heaveOn h (b + 124) (b + 14) (nI m) = some h' ∧ z_W b (va_up (va_up κ 10 y') 7 t') h' ∧ (∀ a, ¬ (f1 (b + 124) a ∨ f10 (b + 14) a) → h' a = h a) ∧ t_X12_passesAll σ (nI m) = some σ' ∧ (m = 1 → t_X12_passes σ = some σ') ∧ z_t t' (r_A σ' 20) n ∧ z_V (r_A σ' 20) n ∧ (∀ j, j < 10 ∨ 12 + 5 * n ≤ j → r_A σ' 20 j = r_A σ 20 j) ∧ r_A σ' 20 10 = r_A σ 20 10 + nI m ∧ z_eqv σ σ' ∧ g_A y' 2 = g_A (κ 10) 2 ∧ g_P y' = g_P (κ 10) := by
  have hY0' : ¬ g_P (κ 10) 0 = none := by rw [hY0]; exact fun e => by cases e
  have D1 : ∀ a, f1 (b + 124) a → f4 po a → False := fun a h1 h2 => by unfold f1 at h1; unfold f4 at h2; omega
  have D2 : ∀ a, f1 (b + 124) a → f10 (b + 14) a → False := fun a h1 h2 => by unfold f1 at h1; unfold f10 at h2; omega
  have D3 : ∀ a, f4 po a → f10 (b + 14) a → False := fun a h1 h2 => by unfold f4 at h1; unfold f10 at h2; omega
  rcases hru with ⟨e1, e2⟩ | ⟨r, pr, B, a1, a2, a3, a4, a5, a6, a7⟩
  · obtain ⟨y', t', σ', c1, c2, c3, c4, c5, c6, c7, c8, c9, c10⟩ := z_hvmN (o := o) m 0 q_fu q_fu (κ 10) (κ 7) σ (by omega) (by show m < 5000; omega) (by show m < 5000; omega) hR hV ho ht hpl hY0' e2 e1
    rw [Nat.zero_add] at c1 c2
    obtain ⟨h', d1, d2, d3, d4, d5⟩ := l_X1N_heaveOn h (b + 124) po (b + 14) (κ 10) o (κ 7) (nI m) c1 (Ww10 W) Go (Ww7 W) hY0 D1 D2 D3
    exact ⟨h', y', t', σ', d1, W_10_7 W d2 d3 d5, d5, c2, c3, c4, c5, c6, c7, c8, c9, c10⟩
  · obtain ⟨y', t', σ', c1, c2, c3, c4, c5, c6, c7, c8, c9, c10⟩ := z_hvm (o := o) (b := B) a1 m 0 q_fu q_fu (κ 10) (κ 7) σ (by omega) (by show m < 5000; omega) (by show m < 5000; omega) hR hV ho ht hpl hY0' a3 (by rw [a2]; exact fun e => by cases e) a6
    rw [Nat.zero_add] at c1 c2
    obtain ⟨h', d1, d2, d3, d4, d5⟩ := l_X1_heaveOn h (b + 124) po pr (b + 14) (κ 10) o B (κ 7) (nI m) c1 (Ww10 W) Go a5 (Ww7 W) hY0 a2 D1 (fun a h1 h2 => by unfold f1 at h1; unfold f6 at h2; omega) D2 (fun a h1 h2 => by unfold f4 at h1; unfold f6 at h2; omega) D3 (fun a h1 h2 => by unfold f6 at h1; unfold f10 at h2; omega)
    exact ⟨h', y', t', σ', d1, W_10_7 W d2 d3 d5, d5, c2, c3, c4, c5, c6, c7, c8, c9, c10⟩
theorem z_fillL {a : Nat} {v : Int32} : ∀ (m k fu : Nat) (h : q_H) (f : Nat → Int32), k + m = 8 → m < fu → h a = .inl (1, 8, .inl f) → ∃ f', m_J7_fill_53178_5 fu h a v (nI k) (nI 8) = some (va_up h a (.inl (1, 8, .inl f'))) ∧ (∀ q, q < k → f' q = f q) ∧ (∀ q, k ≤ q → q < 8 → f' q = v) := by
  intro m
  induction m with
  | zero =>
    intro k fu h f hk hf ha
    obtain ⟨fu, rfl⟩ := Nat.exists_eq_succ_of_ne_zero (show fu ≠ 0 by omega)
    refine ⟨f, ?_, fun _ _ => rfl, fun q h1 h2 => by omega⟩
    rw [m_J7_fill_53178_5, if_pos (nI_le (by omega) (by omega)), ← ha, va_up_eta]
  | succ m ih =>
    intro k fu h f hk hf ha
    obtain ⟨fu, rfl⟩ := Nat.exists_eq_succ_of_ne_zero (show fu ≠ 0 by omega)
    have es : q_si h a 1 (nI k) v = some (va_up h a (.inl (1, 8, .inl (upd f k v)))) := by
      unfold q_si
      rw [ha]
      rw [show upd f k v = upd f (nI k).toNatClampNeg v by rw [nI_clamp (by omega)]]
      exact if_pos ⟨rfl, (show q_in (nI k) 8 from vp_in_nI (by omega) (by decide))⟩
    obtain ⟨f', e1, e2, e3⟩ := ih (k + 1) fu (va_up h a (.inl (1, 8, .inl (upd f k v)))) (upd f k v) (by omega) (by omega) (va_up_at _ _ _)
    refine ⟨f', ?_, fun q hq => ?_, fun q h1 h2 => ?_⟩
    · rw [m_J7_fill_53178_5, if_neg (nI_ge (show k < 8 by omega) (by decide)), es, Option.bind_some, nI_1, e1, bx_uu]
    · rw [e2 q (by omega), pk_un (by omega)]
    · by_cases e : q = k
      · rw [e, e2 k (by omega), pk_us]
      · exact e3 q (by omega) h2
theorem z_take {p po : Nat} {ro : Option Nat} {y : g_S} {h : q_H} (G : g1 p y h) : ∃ h' y', m_X1_takeUp h p po ro = some h' ∧ g1 p y' h' ∧ (∀ a, ¬ f1 p a → h' a = h a) ∧ g_P y' 0 = some po ∧ g_P y' 1 = ro ∧ ∀ q, q < 8 → g_A y' 2 q = -1 := by
  obtain ⟨G0, G1, G2, G3, G4, G5⟩ := G
  obtain ⟨f', e1, -, e3⟩ := z_fillL (a := p + 1) (v := -1) 8 0 q_fu (va_up h p (.inr (1, [.ref po, va_rf ro, .ref (p + 1), .ref (p + 2), .ref (p + 3), .ref (p + 4), .ref (p + 5)]))) (g_A y 2) (by omega) (by show 8 < 5000; omega) ((va_up_of (by omega)).trans G1)
  refine ⟨va_up (va_up h p (.inr (1, [.ref po, va_rf ro, .ref (p + 1), .ref (p + 2), .ref (p + 3), .ref (p + 4), .ref (p + 5)]))) (p + 1) (.inl (1, 8, .inl f')), g_sa (g_sp (g_sp y 0 (some po)) 1 ro) 2 f', ?_, ?_, ?_, ?_, ?_, ?_⟩
  · unfold m_X1_takeUp
    have s1 : q_pf h p 1 0 (.ref po) = some (va_up h p (.inr (1, [.ref po, va_rf (g_P y 1), .ref (p + 1), .ref (p + 2), .ref (p + 3), .ref (p + 4), .ref (p + 5)]))) := by
      unfold q_pf
      rw [G0]
      rfl
    rw [s1, Option.bind_some]
    have s2 : q_pf (va_up h p (.inr (1, [.ref po, va_rf (g_P y 1), .ref (p + 1), .ref (p + 2), .ref (p + 3), .ref (p + 4), .ref (p + 5)]))) p 1 1 (va_rf ro) = some (va_up h p (.inr (1, [.ref po, va_rf ro, .ref (p + 1), .ref (p + 2), .ref (p + 3), .ref (p + 4), .ref (p + 5)]))) := by
      unfold q_pf
      rw [va_up_at]
      show some (va_up (va_up h p _) p _) = _
      rw [bx_uu]
      rfl
    rw [s2, Option.bind_some]
    have s3 : q_gn (va_up h p (.inr (1, [.ref po, va_rf ro, .ref (p + 1), .ref (p + 2), .ref (p + 3), .ref (p + 4), .ref (p + 5)]))) p 1 2 = some (p + 1) := by
      unfold q_gn q_fd
      rw [va_up_at]
      rfl
    rw [s3, Option.bind_some]
    have s4 : m_J7_fill_53178 (va_up h p (.inr (1, [.ref po, va_rf ro, .ref (p + 1), .ref (p + 2), .ref (p + 3), .ref (p + 4), .ref (p + 5)]))) (p + 1) (-1) = m_J7_fill_53178_5 q_fu (va_up h p (.inr (1, [.ref po, va_rf ro, .ref (p + 1), .ref (p + 2), .ref (p + 3), .ref (p + 4), .ref (p + 5)]))) (p + 1) (-1) (nI 0) (nI 8) := by
      have s5 : q_ln (va_up h p (.inr (1, [.ref po, va_rf ro, .ref (p + 1), .ref (p + 2), .ref (p + 3), .ref (p + 4), .ref (p + 5)]))) (p + 1) = some (nI 8) := by
        unfold q_ln
        rw [va_up_of (by omega), G1]
        rfl
      unfold m_J7_fill_53178
      rw [s5, Option.bind_some, show (0 : Int32) = nI 0 from rfl]
    rw [s4, e1, Option.bind_some]
  · have hP0 : g_P (g_sa (g_sp (g_sp y 0 (some po)) 1 ro) 2 f') 0 = some po := by
      show va_up (va_up y.2.2.2.1 0 (some po)) 1 ro 0 = some po
      rw [va_up_of (by decide), va_up_at]
    have hP1 : g_P (g_sa (g_sp (g_sp y 0 (some po)) 1 ro) 2 f') 1 = ro := by
      show va_up (va_up y.2.2.2.1 0 (some po)) 1 ro 1 = ro
      rw [va_up_at]
    refine ⟨?_, ?_, ?_, ?_, ?_, ?_⟩
    · rw [va_up_of (by omega), va_up_at, hP0, hP1]
      rfl
    · rw [va_up_at, z_sa_at]
    · rw [va_up_of (by omega), va_up_of (by omega), G2, z_sa_of (by decide)]
      rfl
    · rw [va_up_of (by omega), va_up_of (by omega), G3, z_sa_of (by decide)]
      rfl
    · rw [va_up_of (by omega), va_up_of (by omega), G4]
      rfl
    · rw [va_up_of (by omega), va_up_of (by omega), G5]
      rfl
  · intro a ha
    unfold f1 at ha
    rw [va_up_of (by omega), va_up_of (by omega)]
  · show va_up (va_up y.2.2.2.1 0 (some po)) 1 ro 0 = some po
    rw [va_up_of (by decide), va_up_at]
  · show va_up (va_up y.2.2.2.1 0 (some po)) 1 ro 1 = ro
    rw [va_up_at]
  · intro q hq
    rw [z_sa_at]
    exact e3 q (by omega) hq
/-- a tug is copied -/
def z_teq (t q : g_S) : Prop := g_I t 0 = g_I q 0 ∧ g_I t 1 = g_I q 1 ∧ g_I t 2 = g_I q 2 ∧ ∀ p, p < 8 → g_A t 3 p = g_A q 3 p ∧ g_A t 4 p = g_A q 4 p ∧ g_A t 5 p = g_A q 5 p ∧ g_A t 6 p = g_A q 6 p
theorem z_teq_t {t q : g_S} {s : Nat → Int32} {n : Nat} (hn : n ≤ 8) (e : z_teq t q) (h : z_t q s n) : z_t t s n := by
  obtain ⟨a, b, c, d⟩ := e
  obtain ⟨a', b', c', d'⟩ := h
  refine ⟨a.trans a', b.trans b', c.trans c', fun p hp => ?_⟩
  obtain ⟨w, x, y, z⟩ := d p (by omega)
  rw [w, x, y, z]
  exact d' p hp
theorem z_cp_in {f : Nat → Int32} {t : g_S} {k : Nat} : u_cp 8 f 0 8 t k 0 8 = some (g_sa t k (va_cpy f (g_A t k) 0 0 8)) := by
  unfold u_cp
  rw [if_pos (by decide)]
  rfl
theorem z_tcopy (t q : g_S) : ∃ t', t_X10_copyFrom t q = some t' ∧ z_teq t' q := by
  unfold t_X10_copyFrom
  dsimp only
  rw [z_cp_in, Option.bind_some, z_cp_in, Option.bind_some, z_cp_in, Option.bind_some, z_cp_in, Option.bind_some]
  refine ⟨_, rfl, ?_, ?_, ?_, fun p hp => ⟨?_, ?_, ?_, ?_⟩⟩
  · show va_up (va_up (va_up t.1 0 (g_I q 0)) 1 (g_I q 1)) 2 (g_I q 2) 0 = g_I q 0
    rw [va_up_of (by decide), va_up_of (by decide), va_up_at]
  · show va_up (va_up (va_up t.1 0 (g_I q 0)) 1 (g_I q 1)) 2 (g_I q 2) 1 = g_I q 1
    rw [va_up_of (by decide), va_up_at]
  · show va_up (va_up (va_up t.1 0 (g_I q 0)) 1 (g_I q 1)) 2 (g_I q 2) 2 = g_I q 2
    rw [va_up_at]
  · rw [z_sa_of (by decide), z_sa_of (by decide), z_sa_of (by decide), z_sa_at, pk_cpy_in (by omega) (by omega)]
    congr 1
    omega
  · rw [z_sa_of (by decide), z_sa_of (by decide), z_sa_at, pk_cpy_in (by omega) (by omega)]
    congr 1
    omega
  · rw [z_sa_of (by decide), z_sa_at, pk_cpy_in (by omega) (by omega)]
    congr 1
    omega
  · rw [z_sa_at, pk_cpy_in (by omega) (by omega)]
    congr 1
    omega
theorem z_copy {h : q_H} {pt pq : Nat} {t q : g_S} (Gt : g10 pt t h) (Gq : g10 pq q h) (D : pt + 5 ≤ pq ∨ pq + 5 ≤ pt) : ∃ h' t', m_X10_copyFrom h pt pq = some h' ∧ g10 pt t' h' ∧ (∀ a, ¬ f10 pt a → h' a = h a) ∧ z_teq t' q := by
  obtain ⟨t', e1, e2⟩ := z_tcopy t q
  obtain ⟨h', d1, d2, d3⟩ := l_X10_copyFrom h pt pq t q e1 Gt Gq (fun a h1 h2 => by unfold f10 at h1 h2; omega)
  exact ⟨h', t', d1, d2, d3, e2⟩
