/-! ===== L3: what holds between two calls ===== -/
theorem z_Vx {s s' : Nat → Int32} {n : Nat} (hn : n ≤ 8) (h : ∀ j, 11 ≤ j → j < 52 → s' j = s j) (H : z_V s n) : z_V s' n := by
  obtain ⟨h1, h2, h3⟩ := H
  refine ⟨by rw [h 11 (by omega) (by omega)]; exact h1, fun p hp => ?_, z_P_ext (fun p hp => ⟨h _ (by omega) (by omega), h _ (by omega) (by omega)⟩) h3⟩
  rw [h (12 + 5 * p) (by omega) (by omega), h (14 + 5 * p) (by omega) (by omega), h (16 + 5 * p) (by omega) (by omega)]
  exact h2 p hp
theorem z_tx {t : g_S} {s s' : Nat → Int32} {n : Nat} (hn : n ≤ 8) (h : ∀ j, 10 ≤ j → j < 52 → s' j = s j) (H : z_t t s n) : z_t t s' n := by
  obtain ⟨h1, h2, h3, h4⟩ := H
  refine ⟨by rw [h 11 (by omega) (by omega)]; exact h1, by rw [h 10 (by omega) (by omega)]; exact h2, ?_, fun p hp => ?_⟩
  · rw [h3, show z_m (z_up s) n = z_m (z_up s') n from z_m_ext (fun p hp => by unfold z_up; rw [h (15 + 5 * p) (by omega) (by omega)])]
  · rw [h (12 + 5 * p) (by omega) (by omega), h (13 + 5 * p) (by omega) (by omega), h (14 + 5 * p) (by omega) (by omega), h (16 + 5 * p) (by omega) (by omega)]
    exact h4 p hp
theorem z_ntx {l : g_S} {s s' : Nat → Int32} {c : Nat} (H : z_nt l s c) (h : ∀ j, 85 ≤ j → j < 106 → s' j = s j) : z_nt l s' c := by
  obtain ⟨h1, h2, h3, h4⟩ := H
  refine ⟨h1, h2, by rw [h 105 (by omega) (by omega)]; exact h3, fun i hi => ?_⟩
  rw [h (85 + 2 * i) (by omega) (by omega), h (86 + 2 * i) (by omega) (by omega)]
  exact h4 i hi
/-- bytes that were fed -/
def z_JT (t : g_S) (f : Nat → Int32) (v : Int32) : Prop := ∃ n, n ≤ 400 ∧ g_I t 1 = nI n ∧ v = nI n ∧ g_A t 0 = f ∧ ∀ i, -128 ≤ (f i).toInt ∧ (f i).toInt ≤ 127
/-- RULES that are told -/
def z_JR (b z c : Nat) (k0 k5 : g_S) (σ : r_S) (h : q_H) : Prop := c ≤ 6 ∧ g_I k0 4 = nI c ∧ r_I σ 2 = nI c ∧ (∀ i, i < c → ∃ pr B, g_P k5 i = some pr ∧ b + 175 ≤ pr ∧ pr + 3 ≤ z ∧ g6 pr B h ∧ z_rl B σ i) ∧ (∀ i, c ≤ i → i < 6 → g_P k5 i = none)
/-- a GAME: now, or an IMAGE -/
def z_Gm (b z c : Nat) (g t : g_S) (s : Nat → Int32) (f x : Int32) (h : q_H) : Prop := g_I g 2 = f ∧ g_I g 3 = x ∧ ¬ x < 0 ∧ (f = -1 ∨ ∃ i, i < c ∧ f = nI i) ∧ (∃ k, z_nt g s k) ∧ ((g_P g 0 = none ∧ (∀ j, j < 106 → s j = 0) ∧ z_t t s 0) ∨ ∃ po o n, g_P g 0 = some po ∧ b + 175 ≤ po ∧ po + 5 ≤ z ∧ g4 po o h ∧ z_o o s n ∧ z_R s n ∧ z_V s n ∧ z_t t s n ∧ nb (s 10) 999)
/-- IMAGES -/
def z_JI (b z c : Nat) (k9 : g_S) (σ : r_S) (h : q_H) : Prop := (∀ k, k < 4 → (g_P k9 k = none ∧ r_A σ 36 k = 0) ∨ ∃ pg g t, g_P k9 k = some pg ∧ r_A σ 36 k = 1 ∧ b + 175 ≤ pg ∧ pg + 8 ≤ z ∧ g0 pg g h ∧ g10 (pg + 1) t h ∧ g_P g 1 = some (pg + 1) ∧ z_Gm b z c g t (fun i => r_A σ 33 (106 * k + i)) (r_A σ 34 k) (r_A σ 35 k) h) ∧ (∀ k q pg, k < 4 → q < 4 → k ≠ q → g_P k9 k = some pg → g_P k9 q ≠ some pg)
/-- what stood ahead of the i-th ACT that can be undone -/
def z_ws (s w : Nat → Int32) (i j : Nat) : Int32 := if 10 ≤ j ∧ j < 52 then w (42 * i + (j - 10)) else s j
def z_JP (k8 : g_S) (kr : Nat → g_S) (s w : Nat → Int32) (v : Int32) : Prop := ∃ u x, u ≤ 20 ∧ x < 20 ∧ g_I k8 1 = nI x ∧ g_I k8 2 = nI u ∧ v = nI u ∧ (u ≠ 0 → ∃ n, z_R s n ∧ ∀ i, i < u → z_t (kr ((x + 20 - u + i) % 20)) (z_ws s w i) n ∧ z_V (z_ws s w i) n ∧ nb (z_ws s w i 10) 999)
def z_J (b z c : Nat) (κ : Nat → g_S) (σ : r_S) (h : q_H) : Prop := b + 175 ≤ z ∧ z_JT (κ 1) (r_A σ 0) (r_I σ 1) ∧ z_JR b z c (κ 0) (κ 5) σ h ∧ z_Gm b z c (κ 6) (κ 7) (r_A σ 20) (r_I σ 21) (r_I σ 22) h ∧ z_JI b z c (κ 9) σ h ∧ z_JP (κ 8) (fun i => κ (20 + i)) (r_A σ 20) (r_A σ 25) (r_I σ 26) ∧ ∀ p, p < 8 → r_A σ 23 p = -1
def z_ref (b : Nat) (σ : r_S) (h : q_H) : Prop := ∀ i, i < 23 → h (b + 152 + i) = r_c (b + 152) σ i
def z_I (b z : Nat) (h : q_H) : Prop := ∃ c κ σ, z_W b κ h ∧ z_ref b σ h ∧ z_J b z c κ σ h
theorem z_rH {m : Nat} {σ : r_S} {h : q_H} (H : ∀ i, i < 23 → h (m + i) = r_c m σ i) : r_H m σ h = h := by
  funext a
  unfold r_H
  by_cases c : m ≤ a ∧ a < m + 23
  · rw [if_pos c, ← H (a - m) (by omega)]
    congr 1
    omega
  · rw [if_neg c]
theorem z_ref_H (b : Nat) (σ : r_S) (h : q_H) : z_ref b σ (r_H (b + 152) σ h) := fun i hi => r_at i hi
theorem z_I_top {b z : Nat} {h : q_H} (I : z_I b z h) : (∃ fs, h b = .inr (11, fs)) ∧ ∃ fs, h (b + 152) = .inr (12, fs) := by
  obtain ⟨c, κ, σ, W, R, -⟩ := I
  exact ⟨⟨_, Ww0 W⟩, ⟨_, R 0 (by decide)⟩⟩
theorem z_H_o {m : Nat} {σ : r_S} {h : q_H} {a : Nat} (ha : a < m ∨ m + 23 ≤ a) : r_H m σ h a = h a := by
  unfold r_H
  rw [if_neg (by omega)]
theorem z_W_H {b : Nat} {κ : Nat → g_S} {h : q_H} (W : z_W b κ h) (σ : r_S) : z_W b κ (r_H (b + 152) σ h) := W_n W (fun a ha => z_H_o (by omega))
/-! frames -/
section FR
variable {b z z' c c' : Nat} {h h' : q_H}
theorem z_JR_fr {k0 k5 : g_S} {σ σ' : r_S} (H : z_JR b z c k0 k5 σ h) (hz : z ≤ z') (F : ∀ a, b + 175 ≤ a → a < z → h' a = h a) (h2 : r_I σ' 2 = r_I σ 2) (h3 : r_A σ' 3 = r_A σ 3) (h5 : r_A σ' 5 = r_A σ 5) (h6 : r_A σ' 6 = r_A σ 6) : z_JR b z' c k0 k5 σ' h' := by
  obtain ⟨a1, a2, a3, a4, a5⟩ := H
  refine ⟨a1, a2, h2.trans a3, fun i hi => ?_, a5⟩
  obtain ⟨pr, B, x1, x2, x3, x4, x5⟩ := a4 i hi
  exact ⟨pr, B, x1, x2, by omega, fr6 x4 (fun a ha => F a (by unfold f6 at ha; omega) (by unfold f6 at ha; omega)), z_rl_ext x5 (fun i _ => by rw [h3]) (fun i _ => by rw [h5]) (by rw [h6])⟩
theorem z_Gm_fr {g t : g_S} {s : Nat → Int32} {f x : Int32} (H : z_Gm b z c g t s f x h) (hz : z ≤ z') (hc : c ≤ c') (F : ∀ a, b + 175 ≤ a → a < z → h' a = h a) : z_Gm b z' c' g t s f x h' := by
  obtain ⟨a1, a2, a3, a4, a5, a6⟩ := H
  refine ⟨a1, a2, a3, ?_, a5, ?_⟩
  · rcases a4 with h | ⟨i, hi, h⟩
    · exact Or.inl h
    · exact Or.inr ⟨i, by omega, h⟩
  · rcases a6 with h | ⟨po, o, n, x1, x2, x3, x4, x5⟩
    · exact Or.inl h
    · exact Or.inr ⟨po, o, n, x1, x2, by omega, fr4 x4 (fun a ha => F a (by unfold f4 at ha; omega) (by unfold f4 at ha; omega)), x5⟩
theorem z_Gx {g t : g_S} {s s' : Nat → Int32} {f x : Int32} (H : z_Gm b z c g t s f x h) (e : ∀ j, j < 106 → s' j = s j) : z_Gm b z c g t s' f x h := by
  obtain ⟨a1, a2, a3, a4, ⟨k, a5⟩, a6⟩ := H
  refine ⟨a1, a2, a3, a4, ⟨k, z_ntx a5 (fun j _ hj => e j hj)⟩, ?_⟩
  rcases a6 with ⟨y1, y2, y3⟩ | ⟨po, o, n, x1, x2, x3, x4, x5, x6, x7, x8, x9⟩
  · exact Or.inl ⟨y1, fun j hj => (e j hj).trans (y2 j hj), z_tx (by decide) (fun j _ hj => e j (by omega)) y3⟩
  · have hn := x6.1
    exact Or.inr ⟨po, o, n, x1, x2, x3, x4, z_ox hn (fun j hj => e j (by omega)) x5, z_Rx (fun j hj => e j (by omega)) x6, z_Vx hn (fun j _ hj => e j (by omega)) x7, z_tx hn (fun j _ hj => e j (by omega)) x8, by rw [e 10 (by omega)]; exact x9⟩
theorem z_JI_fr {k9 : g_S} {σ σ' : r_S} (H : z_JI b z c k9 σ h) (hz : z ≤ z') (hc : c ≤ c') (F : ∀ a, b + 175 ≤ a → a < z → h' a = h a) (h33 : r_A σ' 33 = r_A σ 33) (h34 : r_A σ' 34 = r_A σ 34) (h35 : r_A σ' 35 = r_A σ 35) (h36 : r_A σ' 36 = r_A σ 36) : z_JI b z' c' k9 σ' h' := by
  obtain ⟨a1, a2⟩ := H
  refine ⟨fun k hk => ?_, a2⟩
  rw [h33, h34, h35, h36]
  rcases a1 k hk with x | ⟨pg, g, t, x1, x2, x3, x4, x5, x6, x7, x8⟩
  · exact Or.inl x
  · exact Or.inr ⟨pg, g, t, x1, x2, x3, by omega, fr0 x5 (fun a ha => F a (by unfold f0 at ha; omega) (by unfold f0 at ha; omega)), fr10 x6 (fun a ha => F a (by unfold f10 at ha; omega) (by unfold f10 at ha; omega)), x7, z_Gm_fr x8 hz hc F⟩
theorem z_JP_fr {k8 : g_S} {kr kr' : Nat → g_S} {s s' w w' : Nat → Int32} {v v' : Int32} (H : z_JP k8 kr s w v) (hk : ∀ i, i < 20 → kr' i = kr i) (hs : ∀ j, j < 10 ∨ (52 ≤ j ∧ j < 106) → s' j = s j) (hw : ∀ j, j < 840 → w' j = w j) (hv : v' = v) : z_JP k8 kr' s' w' v' := by
  obtain ⟨u, x, u1, u2, u3, u4, u5, u6⟩ := H
  refine ⟨u, x, u1, u2, u3, u4, hv.trans u5, fun h0 => ?_⟩
  obtain ⟨n, y1, y2⟩ := u6 h0
  have hn := y1.1
  refine ⟨n, z_Rx (fun j hj => hs j (by omega)) y1, fun i hi => ?_⟩
  have e : ∀ j, 10 ≤ j → j < 52 → z_ws s' w' i j = z_ws s w i j := fun j h1 h2 => by
    unfold z_ws
    rw [if_pos ⟨h1, h2⟩, if_pos ⟨h1, h2⟩, hw _ (by omega)]
  obtain ⟨z1, z2, z3⟩ := y2 i hi
  refine ⟨?_, z_Vx hn (fun j h1 h2 => e j (by omega) h2) z2, by rw [e 10 (by omega) (by omega)]; exact z3⟩
  rw [hk _ (Nat.mod_lt _ (by decide))]
  exact z_tx hn e z1
end FR
/-- a ROPE and a RULE lie apart -/
theorem z_dis46 {po pr : Nat} {o B : g_S} {h : q_H} (G : g4 po o h) (H : g6 pr B h) : po + 5 ≤ pr ∨ pr + 3 ≤ po := by
  obtain ⟨g1, g2, g3, g4', g5⟩ := G
  obtain ⟨h1, h2, h3⟩ := H
  have n : ∀ {a q : Nat} {x : Nat × List Value} {y : Nat × Nat × _}, h a = .inr x → h q = .inl y → a ≠ q := fun e1 e2 e => by
    rw [e, e2] at e1
    cases e1
  have c0 : pr ≠ po := fun e => by
    rw [e, g1] at h1
    cases h1
  have c1 := n h1 g2
  have c2 := n h1 g3
  have c3 := n h1 g4'
  have c4 := n h1 g5
  have c5 := n g1 h2
  have c6 := n g1 h3
  omega
/-- what is asked begins here -/
theorem z_X_of {b z c po n : Nat} {o : g_S} {κ : Nat → g_S} {σ : r_S} {h : q_H} (W : z_W b κ h) (J : z_J b z c κ σ h) (h0 : g_P (κ 6) 0 = some po) (hpo : b + 175 ≤ po) (G : g4 po o h) (ho : z_o o (r_A σ 20) n) (hR : z_R (r_A σ 20) n) (hV : z_V (r_A σ 20) n) (ht : z_t (κ 7) (r_A σ 20) n) (hb : nb (r_A σ 20 10) 999) : z_X b n po c o κ σ h := by
  obtain ⟨j1, j2, ⟨r1, r2, r3, r4, r5⟩, j4, j5, j6, j7⟩ := J
  refine ⟨W, h0, hpo, G, ho, hR, hV, ht, hb, ⟨r1, r2, r3, fun i hi => ?_, r5, j4.2.2.2.1, j4.1⟩, fun i pr hi hp => ?_, j7⟩
  · obtain ⟨pr, B, x1, x2, x3, x4, x5⟩ := r4 i hi
    exact ⟨pr, B, x1, x2, x4, x5⟩
  · by_cases e : i < c
    · obtain ⟨pr', B, x1, x2, x3, x4, x5⟩ := r4 i e
      rw [x1] at hp
      cases hp
      exact z_dis46 G x4
    · rw [r5 i (by omega) hi] at hp
      cases hp
/-- behind what was asked -/
theorem z_J_q {b z c : Nat} {κ κ' : Nat → g_S} {σ σ' : r_S} {h h' : q_H} (J : z_J b z c κ σ h) (Q : z_q b κ κ' h h') (K : z_k σ σ') (h20 : r_A σ' 20 = r_A σ 20) (h23 : r_A σ' 23 = r_A σ 23) (h21 : r_I σ' 21 = r_I σ 21) : z_W b κ' (r_H (b + 152) σ' h') ∧ z_ref b σ' (r_H (b + 152) σ' h') ∧ z_J b z c κ' σ' (r_H (b + 152) σ' h') := by
  obtain ⟨j1, j2, j3, j4, j5, j6, j7⟩ := J
  obtain ⟨W, hk, hh⟩ := Q
  have F : ∀ a, b + 175 ≤ a → a < z → r_H (b + 152) σ' h' a = h a := fun a h1 _ => (z_H_o (by omega)).trans (hh a (by omega))
  have kA : ∀ k, k ≠ 20 → k ≠ 23 → (k < 24 ∨ k = 25 ∨ 31 < k) → r_A σ' k = r_A σ k := K.2.1
  have kI : ∀ k, k ≠ 18 → r_I σ' k = r_I σ k := fun k h1 => by
    by_cases e : k = 21
    · rw [e]; exact h21
    · exact K.1 k h1 e
  refine ⟨z_W_H W σ', z_ref_H _ _ _, j1, ?_, ?_, ?_, ?_, ?_, ?_⟩
  · rw [hk 1 (by omega), kA 0 (by decide) (by decide) (by omega), kI 1 (by decide)]; exact j2
  · rw [hk 0 (by omega), hk 5 (by omega)]
    exact z_JR_fr j3 (Nat.le_refl _) F (kI 2 (by decide)) (kA 3 (by decide) (by decide) (by omega)) (kA 5 (by decide) (by decide) (by omega)) (kA 6 (by decide) (by decide) (by omega))
  · rw [hk 6 (by omega), hk 7 (by omega), h20, h21, kI 22 (by decide)]
    exact z_Gm_fr j4 (Nat.le_refl _) (Nat.le_refl _) F
  · rw [hk 9 (by omega)]
    exact z_JI_fr j5 (Nat.le_refl _) (Nat.le_refl _) F (kA 33 (by decide) (by decide) (by omega)) (kA 34 (by decide) (by decide) (by omega)) (kA 35 (by decide) (by decide) (by omega)) (kA 36 (by decide) (by decide) (by omega))
  · rw [hk 8 (by omega), h20, kA 25 (by decide) (by decide) (by omega), kI 26 (by decide)]
    exact z_JP_fr j6 (fun i hi => hk (20 + i) (by omega)) (fun _ _ => rfl) (fun _ _ => rfl) rfl
  · rw [h23]; exact j7
