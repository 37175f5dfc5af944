/-! ===== groups: an object of the class with its rows, as a typed state ===== -/
abbrev g_S : Type := (Nat → Int32) × (Nat → Nat → Int32) × (Nat → Nat → Int64) × (Nat → Option Nat) × (Nat → Nat)
def g_I (s : g_S) (k : Nat) : Int32 := s.1 k
def g_A (s : g_S) (k : Nat) : Nat → Int32 := s.2.1 k
def g_L (s : g_S) (k : Nat) : Nat → Int64 := s.2.2.1 k
def g_P (s : g_S) (k : Nat) : Option Nat := s.2.2.2.1 k
def g_N (s : g_S) (k : Nat) : Nat := s.2.2.2.2 k
def g_si (s : g_S) (k : Nat) (v : Int32) : g_S := (va_up s.1 k v, s.2)
def g_sa (s : g_S) (k : Nat) (f : Nat → Int32) : g_S := (s.1, va_up s.2.1 k f, s.2.2)
def g_sl (s : g_S) (k : Nat) (f : Nat → Int64) : g_S := (s.1, s.2.1, va_up s.2.2.1 k f, s.2.2.2)
def g_sp (s : g_S) (k : Nat) (v : Option Nat) : g_S := (s.1, s.2.1, s.2.2.1, va_up s.2.2.2.1 k v, s.2.2.2.2)
def u_si (n : Nat) (s : g_S) (k : Nat) (i x : Int32) : Option g_S := if q_in i n then some (g_sa s k (upd (g_A s k) i.toNatClampNeg x)) else none
def u_sl (n : Nat) (s : g_S) (k : Nat) (i : Int32) (x : Int64) : Option g_S := if q_in i n then some (g_sl s k (vp_updL (g_L s k) i.toNatClampNeg x)) else none
/-- a copy of ints from one row into another -/
def u_cp (n0 : Nat) (f : Nat → Int32) (sp : Int32) (n1 : Nat) (s : g_S) (k : Nat) (dp n : Int32) : Option g_S := if ¬ sp < 0 ∧ ¬ dp < 0 ∧ ¬ n < 0 ∧ sp.toNatClampNeg + n.toNatClampNeg ≤ n0 ∧ dp.toNatClampNeg + n.toNatClampNeg ≤ n1 then some (g_sa s k (va_cpy f (g_A s k) sp.toNatClampNeg dp.toNatClampNeg n.toNatClampNeg)) else none
/-- a model comes to an answer, of which Q holds -/
def q_E {α : Type} (o : Option α) (Q : α → Prop) : Prop := ∃ x, o = some x ∧ Q x
section GE
variable {α β γ : Type} {Q : α → Prop} {τ : β}
theorem e_bd {o : Option γ} {v : γ} {f : γ → Option α} (e : o = some v) (k : q_E (f v) Q) : q_E (o.bind f) Q := by rw [e]; exact k
theorem e_if {c : Prop} {A B : Option α} {A' B' : Option β} {i1 i2 : Decidable c} (hm : (@ite _ c i2 A' B') = some τ) (k1 : c → A' = some τ → q_E A Q) (k2 : ¬ c → B' = some τ → q_E B Q) : q_E (@ite _ c i1 A B) Q := by
  by_cases h : c
  · rw [if_pos h] at hm
    rw [if_pos h]
    exact k1 h hm
  · rw [if_neg h] at hm
    rw [if_neg h]
    exact k2 h hm
theorem e_oo {o : Option γ} {f : γ → Option α} {g : γ → Option β} (hm : o.bind g = some τ) (k : ∀ w, g w = some τ → q_E (f w) Q) : q_E (o.bind f) Q := by
  obtain ⟨w, e, hm⟩ := q_b hm
  exact e_bd e (k w hm)
theorem e_eq {o o' : Option γ} {f : γ → Option α} {g : γ → Option β} (e : o = o') (hm : o'.bind g = some τ) (k : ∀ w, g w = some τ → q_E (f w) Q) : q_E (o.bind f) Q := by
  rw [e]
  exact e_oo hm k
end GE
theorem va_up_at {α : Type} (f : Nat → α) (a : Nat) (v : α) : va_up f a v a = v := by simp [va_up]
theorem va_up_of {α : Type} {f : Nat → α} {a b : Nat} {v : α} (h : b ≠ a) : va_up f a v b = f b := by simp [va_up, h]
theorem va_rf_o (o : Option Nat) : q_vo (va_rf o) = some o := by cases o <;> rfl
theorem va_rf_n {o : Option Nat} {a : Nat} (h : o = some a) : q_vn (va_rf o) = some a := by rw [h]; rfl
/-- a Tape at p -/
def g9 (p : Nat) (s : g_S) (h : q_H) : Prop := h p = .inr (9, [.ref (p + 1), .int (g_I s 1)]) ∧ h (p + 1) = .inl (0, 400, .inl (g_A s 0))
def f9 (p a : Nat) : Prop := a = p ∨ a = p + 1
theorem fr9 {p : Nat} {s : g_S} {h h' : q_H} (G : g9 p s h) (F : ∀ a, f9 p a → h' a = h a) : g9 p s h' := ⟨(F _ (by unfold f9; omega)).trans G.1, (F _ (by unfold f9; omega)).trans G.2⟩
theorem ca9 {p : Nat} {s : g_S} {h : q_H} (G : g9 p s h) {α : Type} {o : Option α} : q_ca 9 h p o = o := by
  unfold q_ca
  rw [G.1]
  rfl
theorem gn9_0 {p : Nat} {s : g_S} {h : q_H} (G : g9 p s h) : q_gn h p 9 0 = some (p + 1) := by
  unfold q_gn q_fd
  rw [G.1]
  rfl
theorem ai9_0 {p : Nat} {s : g_S} {h : q_H} (G : g9 p s h) (i : Int32) : q_ai h (p + 1) 0 i = t_ai 400 (g_A s 0) i := by
  unfold q_ai t_ai
  rw [G.2]
  simp only [true_and]
theorem ln9_0 {p : Nat} {s : g_S} {h : q_H} (G : g9 p s h) : q_ln h (p + 1) = some (Int32.ofNat 400) := by
  unfold q_ln
  rw [G.2]
  rfl
theorem as9_0 {p : Nat} {s s' : g_S} {h : q_H} {i : Int32} {x : Int32} (G : g9 p s h) (e : u_si 400 s 0 i x = some s') : ∃ h', q_si h (p + 1) 0 i x = some h' ∧ g9 p s' h' ∧ ∀ a, ¬ f9 p a → h' a = h a := by
  unfold u_si at e
  split at e
  · next hin =>
    cases e
    unfold q_si
    rw [G.2]
    exact ⟨_, if_pos ⟨rfl, hin⟩, ⟨(va_up_of (by omega)).trans G.1, va_up_at _ _ _⟩, fun a ha => va_up_of (fun e => ha (by unfold f9; omega))⟩
  · cases e
theorem gi9_1 {p : Nat} {s : g_S} {h : q_H} (G : g9 p s h) : q_gi h p 9 1 = some (g_I s 1) := by
  unfold q_gi q_fd
  rw [G.1]
  rfl
theorem pi9_1 {p : Nat} {s : g_S} {h : q_H} (v : Int32) (G : g9 p s h) : ∃ h', q_pf h p 9 1 (.int v) = some h' ∧ g9 p (g_si s 1 v) h' ∧ ∀ a, ¬ f9 p a → h' a = h a := by
  unfold q_pf
  rw [G.1]
  exact ⟨_, if_pos ⟨rfl, Nat.le_of_ble_eq_true rfl⟩, ⟨va_up_at _ _ _, (va_up_of (by omega)).trans G.2⟩, fun a ha => va_up_of (fun e => ha (by unfold f9; omega))⟩
/-- a Tug at p -/
def g10 (p : Nat) (s : g_S) (h : q_H) : Prop := h p = .inr (10, [.int (g_I s 0), .int (g_I s 1), .int (g_I s 2), .ref (p + 1), .ref (p + 2), .ref (p + 3), .ref (p + 4)]) ∧ h (p + 1) = .inl (1, 8, .inl (g_A s 3)) ∧ h (p + 2) = .inl (1, 8, .inl (g_A s 4)) ∧ h (p + 3) = .inl (1, 8, .inl (g_A s 5)) ∧ h (p + 4) = .inl (1, 8, .inl (g_A s 6))
def f10 (p a : Nat) : Prop := a = p ∨ a = p + 1 ∨ a = p + 2 ∨ a = p + 3 ∨ a = p + 4
theorem fr10 {p : Nat} {s : g_S} {h h' : q_H} (G : g10 p s h) (F : ∀ a, f10 p a → h' a = h a) : g10 p s h' := ⟨(F _ (by unfold f10; omega)).trans G.1, (F _ (by unfold f10; omega)).trans G.2.1, (F _ (by unfold f10; omega)).trans G.2.2.1, (F _ (by unfold f10; omega)).trans G.2.2.2.1, (F _ (by unfold f10; omega)).trans G.2.2.2.2⟩
theorem ca10 {p : Nat} {s : g_S} {h : q_H} (G : g10 p s h) {α : Type} {o : Option α} : q_ca 10 h p o = o := by
  unfold q_ca
  rw [G.1]
  rfl
theorem gi10_0 {p : Nat} {s : g_S} {h : q_H} (G : g10 p s h) : q_gi h p 10 0 = some (g_I s 0) := by
  unfold q_gi q_fd
  rw [G.1]
  rfl
theorem pi10_0 {p : Nat} {s : g_S} {h : q_H} (v : Int32) (G : g10 p s h) : ∃ h', q_pf h p 10 0 (.int v) = some h' ∧ g10 p (g_si s 0 v) h' ∧ ∀ a, ¬ f10 p a → h' a = h a := by
  unfold q_pf
  rw [G.1]
  exact ⟨_, if_pos ⟨rfl, Nat.le_of_ble_eq_true rfl⟩, ⟨va_up_at _ _ _, (va_up_of (by omega)).trans G.2.1, (va_up_of (by omega)).trans G.2.2.1, (va_up_of (by omega)).trans G.2.2.2.1, (va_up_of (by omega)).trans G.2.2.2.2⟩, fun a ha => va_up_of (fun e => ha (by unfold f10; omega))⟩
theorem gi10_1 {p : Nat} {s : g_S} {h : q_H} (G : g10 p s h) : q_gi h p 10 1 = some (g_I s 1) := by
  unfold q_gi q_fd
  rw [G.1]
  rfl
theorem pi10_1 {p : Nat} {s : g_S} {h : q_H} (v : Int32) (G : g10 p s h) : ∃ h', q_pf h p 10 1 (.int v) = some h' ∧ g10 p (g_si s 1 v) h' ∧ ∀ a, ¬ f10 p a → h' a = h a := by
  unfold q_pf
  rw [G.1]
  exact ⟨_, if_pos ⟨rfl, Nat.le_of_ble_eq_true rfl⟩, ⟨va_up_at _ _ _, (va_up_of (by omega)).trans G.2.1, (va_up_of (by omega)).trans G.2.2.1, (va_up_of (by omega)).trans G.2.2.2.1, (va_up_of (by omega)).trans G.2.2.2.2⟩, fun a ha => va_up_of (fun e => ha (by unfold f10; omega))⟩
theorem gi10_2 {p : Nat} {s : g_S} {h : q_H} (G : g10 p s h) : q_gi h p 10 2 = some (g_I s 2) := by
  unfold q_gi q_fd
  rw [G.1]
  rfl
theorem pi10_2 {p : Nat} {s : g_S} {h : q_H} (v : Int32) (G : g10 p s h) : ∃ h', q_pf h p 10 2 (.int v) = some h' ∧ g10 p (g_si s 2 v) h' ∧ ∀ a, ¬ f10 p a → h' a = h a := by
  unfold q_pf
  rw [G.1]
  exact ⟨_, if_pos ⟨rfl, Nat.le_of_ble_eq_true rfl⟩, ⟨va_up_at _ _ _, (va_up_of (by omega)).trans G.2.1, (va_up_of (by omega)).trans G.2.2.1, (va_up_of (by omega)).trans G.2.2.2.1, (va_up_of (by omega)).trans G.2.2.2.2⟩, fun a ha => va_up_of (fun e => ha (by unfold f10; omega))⟩
theorem gn10_3 {p : Nat} {s : g_S} {h : q_H} (G : g10 p s h) : q_gn h p 10 3 = some (p + 1) := by
  unfold q_gn q_fd
  rw [G.1]
  rfl
theorem ai10_3 {p : Nat} {s : g_S} {h : q_H} (G : g10 p s h) (i : Int32) : q_ai h (p + 1) 1 i = t_ai 8 (g_A s 3) i := by
  unfold q_ai t_ai
  rw [G.2.1]
  simp only [true_and]
theorem ln10_3 {p : Nat} {s : g_S} {h : q_H} (G : g10 p s h) : q_ln h (p + 1) = some (Int32.ofNat 8) := by
  unfold q_ln
  rw [G.2.1]
  rfl
theorem as10_3 {p : Nat} {s s' : g_S} {h : q_H} {i : Int32} {x : Int32} (G : g10 p s h) (e : u_si 8 s 3 i x = some s') : ∃ h', q_si h (p + 1) 1 i x = some h' ∧ g10 p s' h' ∧ ∀ a, ¬ f10 p a → h' a = h a := by
  unfold u_si at e
  split at e
  · next hin =>
    cases e
    unfold q_si
    rw [G.2.1]
    exact ⟨_, if_pos ⟨rfl, hin⟩, ⟨(va_up_of (by omega)).trans G.1, va_up_at _ _ _, (va_up_of (by omega)).trans G.2.2.1, (va_up_of (by omega)).trans G.2.2.2.1, (va_up_of (by omega)).trans G.2.2.2.2⟩, fun a ha => va_up_of (fun e => ha (by unfold f10; omega))⟩
  · cases e
theorem cp10_3 {p : Nat} {s s' : g_S} {h : q_H} {a0 n0 : Nat} {f : Nat → Int32} {sp dp n : Int32} (G : g10 p s h) (E : h a0 = .inl (1, n0, .inl f)) (e : u_cp n0 f sp 8 s 3 dp n = some s') : ∃ h', q_cp h a0 sp (p + 1) dp n = some h' ∧ g10 p s' h' ∧ ∀ a, ¬ f10 p a → h' a = h a := by
  unfold u_cp at e
  split at e
  · next hin =>
    cases e
    unfold q_cp
    rw [E, G.2.1]
    exact ⟨_, if_pos ⟨rfl, rfl, hin⟩, ⟨(va_up_of (by omega)).trans G.1, va_up_at _ _ _, (va_up_of (by omega)).trans G.2.2.1, (va_up_of (by omega)).trans G.2.2.2.1, (va_up_of (by omega)).trans G.2.2.2.2⟩, fun a ha => va_up_of (fun e => ha (by unfold f10; omega))⟩
  · cases e
theorem cl10_3 {p : Nat} {s : g_S} {h : q_H} (G : g10 p s h) : h (p + 1) = .inl (1, 8, .inl (g_A s 3)) := G.2.1
theorem gn10_4 {p : Nat} {s : g_S} {h : q_H} (G : g10 p s h) : q_gn h p 10 4 = some (p + 2) := by
  unfold q_gn q_fd
  rw [G.1]
  rfl
theorem ai10_4 {p : Nat} {s : g_S} {h : q_H} (G : g10 p s h) (i : Int32) : q_ai h (p + 2) 1 i = t_ai 8 (g_A s 4) i := by
  unfold q_ai t_ai
  rw [G.2.2.1]
  simp only [true_and]
theorem ln10_4 {p : Nat} {s : g_S} {h : q_H} (G : g10 p s h) : q_ln h (p + 2) = some (Int32.ofNat 8) := by
  unfold q_ln
  rw [G.2.2.1]
  rfl
theorem as10_4 {p : Nat} {s s' : g_S} {h : q_H} {i : Int32} {x : Int32} (G : g10 p s h) (e : u_si 8 s 4 i x = some s') : ∃ h', q_si h (p + 2) 1 i x = some h' ∧ g10 p s' h' ∧ ∀ a, ¬ f10 p a → h' a = h a := by
  unfold u_si at e
  split at e
  · next hin =>
    cases e
    unfold q_si
    rw [G.2.2.1]
    exact ⟨_, if_pos ⟨rfl, hin⟩, ⟨(va_up_of (by omega)).trans G.1, (va_up_of (by omega)).trans G.2.1, va_up_at _ _ _, (va_up_of (by omega)).trans G.2.2.2.1, (va_up_of (by omega)).trans G.2.2.2.2⟩, fun a ha => va_up_of (fun e => ha (by unfold f10; omega))⟩
  · cases e
theorem cp10_4 {p : Nat} {s s' : g_S} {h : q_H} {a0 n0 : Nat} {f : Nat → Int32} {sp dp n : Int32} (G : g10 p s h) (E : h a0 = .inl (1, n0, .inl f)) (e : u_cp n0 f sp 8 s 4 dp n = some s') : ∃ h', q_cp h a0 sp (p + 2) dp n = some h' ∧ g10 p s' h' ∧ ∀ a, ¬ f10 p a → h' a = h a := by
  unfold u_cp at e
  split at e
  · next hin =>
    cases e
    unfold q_cp
    rw [E, G.2.2.1]
    exact ⟨_, if_pos ⟨rfl, rfl, hin⟩, ⟨(va_up_of (by omega)).trans G.1, (va_up_of (by omega)).trans G.2.1, va_up_at _ _ _, (va_up_of (by omega)).trans G.2.2.2.1, (va_up_of (by omega)).trans G.2.2.2.2⟩, fun a ha => va_up_of (fun e => ha (by unfold f10; omega))⟩
  · cases e
theorem cl10_4 {p : Nat} {s : g_S} {h : q_H} (G : g10 p s h) : h (p + 2) = .inl (1, 8, .inl (g_A s 4)) := G.2.2.1
theorem gn10_5 {p : Nat} {s : g_S} {h : q_H} (G : g10 p s h) : q_gn h p 10 5 = some (p + 3) := by
  unfold q_gn q_fd
  rw [G.1]
  rfl
theorem ai10_5 {p : Nat} {s : g_S} {h : q_H} (G : g10 p s h) (i : Int32) : q_ai h (p + 3) 1 i = t_ai 8 (g_A s 5) i := by
  unfold q_ai t_ai
  rw [G.2.2.2.1]
  simp only [true_and]
theorem ln10_5 {p : Nat} {s : g_S} {h : q_H} (G : g10 p s h) : q_ln h (p + 3) = some (Int32.ofNat 8) := by
  unfold q_ln
  rw [G.2.2.2.1]
  rfl
theorem as10_5 {p : Nat} {s s' : g_S} {h : q_H} {i : Int32} {x : Int32} (G : g10 p s h) (e : u_si 8 s 5 i x = some s') : ∃ h', q_si h (p + 3) 1 i x = some h' ∧ g10 p s' h' ∧ ∀ a, ¬ f10 p a → h' a = h a := by
  unfold u_si at e
  split at e
  · next hin =>
    cases e
    unfold q_si
    rw [G.2.2.2.1]
    exact ⟨_, if_pos ⟨rfl, hin⟩, ⟨(va_up_of (by omega)).trans G.1, (va_up_of (by omega)).trans G.2.1, (va_up_of (by omega)).trans G.2.2.1, va_up_at _ _ _, (va_up_of (by omega)).trans G.2.2.2.2⟩, fun a ha => va_up_of (fun e => ha (by unfold f10; omega))⟩
  · cases e
theorem cp10_5 {p : Nat} {s s' : g_S} {h : q_H} {a0 n0 : Nat} {f : Nat → Int32} {sp dp n : Int32} (G : g10 p s h) (E : h a0 = .inl (1, n0, .inl f)) (e : u_cp n0 f sp 8 s 5 dp n = some s') : ∃ h', q_cp h a0 sp (p + 3) dp n = some h' ∧ g10 p s' h' ∧ ∀ a, ¬ f10 p a → h' a = h a := by
  unfold u_cp at e
  split at e
  · next hin =>
    cases e
    unfold q_cp
    rw [E, G.2.2.2.1]
    exact ⟨_, if_pos ⟨rfl, rfl, hin⟩, ⟨(va_up_of (by omega)).trans G.1, (va_up_of (by omega)).trans G.2.1, (va_up_of (by omega)).trans G.2.2.1, va_up_at _ _ _, (va_up_of (by omega)).trans G.2.2.2.2⟩, fun a ha => va_up_of (fun e => ha (by unfold f10; omega))⟩
  · cases e
theorem cl10_5 {p : Nat} {s : g_S} {h : q_H} (G : g10 p s h) : h (p + 3) = .inl (1, 8, .inl (g_A s 5)) := G.2.2.2.1
theorem gn10_6 {p : Nat} {s : g_S} {h : q_H} (G : g10 p s h) : q_gn h p 10 6 = some (p + 4) := by
  unfold q_gn q_fd
  rw [G.1]
  rfl
theorem ai10_6 {p : Nat} {s : g_S} {h : q_H} (G : g10 p s h) (i : Int32) : q_ai h (p + 4) 1 i = t_ai 8 (g_A s 6) i := by
  unfold q_ai t_ai
  rw [G.2.2.2.2]
  simp only [true_and]
theorem ln10_6 {p : Nat} {s : g_S} {h : q_H} (G : g10 p s h) : q_ln h (p + 4) = some (Int32.ofNat 8) := by
  unfold q_ln
  rw [G.2.2.2.2]
  rfl
theorem as10_6 {p : Nat} {s s' : g_S} {h : q_H} {i : Int32} {x : Int32} (G : g10 p s h) (e : u_si 8 s 6 i x = some s') : ∃ h', q_si h (p + 4) 1 i x = some h' ∧ g10 p s' h' ∧ ∀ a, ¬ f10 p a → h' a = h a := by
  unfold u_si at e
  split at e
  · next hin =>
    cases e
    unfold q_si
    rw [G.2.2.2.2]
    exact ⟨_, if_pos ⟨rfl, hin⟩, ⟨(va_up_of (by omega)).trans G.1, (va_up_of (by omega)).trans G.2.1, (va_up_of (by omega)).trans G.2.2.1, (va_up_of (by omega)).trans G.2.2.2.1, va_up_at _ _ _⟩, fun a ha => va_up_of (fun e => ha (by unfold f10; omega))⟩
  · cases e
theorem cp10_6 {p : Nat} {s s' : g_S} {h : q_H} {a0 n0 : Nat} {f : Nat → Int32} {sp dp n : Int32} (G : g10 p s h) (E : h a0 = .inl (1, n0, .inl f)) (e : u_cp n0 f sp 8 s 6 dp n = some s') : ∃ h', q_cp h a0 sp (p + 4) dp n = some h' ∧ g10 p s' h' ∧ ∀ a, ¬ f10 p a → h' a = h a := by
  unfold u_cp at e
  split at e
  · next hin =>
    cases e
    unfold q_cp
    rw [E, G.2.2.2.2]
    exact ⟨_, if_pos ⟨rfl, rfl, hin⟩, ⟨(va_up_of (by omega)).trans G.1, (va_up_of (by omega)).trans G.2.1, (va_up_of (by omega)).trans G.2.2.1, (va_up_of (by omega)).trans G.2.2.2.1, va_up_at _ _ _⟩, fun a ha => va_up_of (fun e => ha (by unfold f10; omega))⟩
  · cases e
theorem cl10_6 {p : Nat} {s : g_S} {h : q_H} (G : g10 p s h) : h (p + 4) = .inl (1, 8, .inl (g_A s 6)) := G.2.2.2.2
/-- a Rope at p -/
def g4 (p : Nat) (s : g_S) (h : q_H) : Prop := h p = .inr (4, [.int (g_I s 0), .int (g_I s 1), .int (g_I s 2), .int (g_I s 3), .ref (p + 1), .ref (p + 2), .ref (p + 3), .ref (p + 4)]) ∧ h (p + 1) = .inl (1, 8, .inl (g_A s 4)) ∧ h (p + 2) = .inl (1, 8, .inl (g_A s 5)) ∧ h (p + 3) = .inl (1, 8, .inl (g_A s 6)) ∧ h (p + 4) = .inl (1, 8, .inl (g_A s 7))
def f4 (p a : Nat) : Prop := a = p ∨ a = p + 1 ∨ a = p + 2 ∨ a = p + 3 ∨ a = p + 4
theorem fr4 {p : Nat} {s : g_S} {h h' : q_H} (G : g4 p s h) (F : ∀ a, f4 p a → h' a = h a) : g4 p s h' := ⟨(F _ (by unfold f4; omega)).trans G.1, (F _ (by unfold f4; omega)).trans G.2.1, (F _ (by unfold f4; omega)).trans G.2.2.1, (F _ (by unfold f4; omega)).trans G.2.2.2.1, (F _ (by unfold f4; omega)).trans G.2.2.2.2⟩
theorem ca4 {p : Nat} {s : g_S} {h : q_H} (G : g4 p s h) {α : Type} {o : Option α} : q_ca 4 h p o = o := by
  unfold q_ca
  rw [G.1]
  rfl
theorem gi4_0 {p : Nat} {s : g_S} {h : q_H} (G : g4 p s h) : q_gi h p 4 0 = some (g_I s 0) := by
  unfold q_gi q_fd
  rw [G.1]
  rfl
theorem pi4_0 {p : Nat} {s : g_S} {h : q_H} (v : Int32) (G : g4 p s h) : ∃ h', q_pf h p 4 0 (.int v) = some h' ∧ g4 p (g_si s 0 v) h' ∧ ∀ a, ¬ f4 p a → h' a = h a := by
  unfold q_pf
  rw [G.1]
  exact ⟨_, if_pos ⟨rfl, Nat.le_of_ble_eq_true rfl⟩, ⟨va_up_at _ _ _, (va_up_of (by omega)).trans G.2.1, (va_up_of (by omega)).trans G.2.2.1, (va_up_of (by omega)).trans G.2.2.2.1, (va_up_of (by omega)).trans G.2.2.2.2⟩, fun a ha => va_up_of (fun e => ha (by unfold f4; omega))⟩
theorem gi4_1 {p : Nat} {s : g_S} {h : q_H} (G : g4 p s h) : q_gi h p 4 1 = some (g_I s 1) := by
  unfold q_gi q_fd
  rw [G.1]
  rfl
theorem pi4_1 {p : Nat} {s : g_S} {h : q_H} (v : Int32) (G : g4 p s h) : ∃ h', q_pf h p 4 1 (.int v) = some h' ∧ g4 p (g_si s 1 v) h' ∧ ∀ a, ¬ f4 p a → h' a = h a := by
  unfold q_pf
  rw [G.1]
  exact ⟨_, if_pos ⟨rfl, Nat.le_of_ble_eq_true rfl⟩, ⟨va_up_at _ _ _, (va_up_of (by omega)).trans G.2.1, (va_up_of (by omega)).trans G.2.2.1, (va_up_of (by omega)).trans G.2.2.2.1, (va_up_of (by omega)).trans G.2.2.2.2⟩, fun a ha => va_up_of (fun e => ha (by unfold f4; omega))⟩
theorem gi4_2 {p : Nat} {s : g_S} {h : q_H} (G : g4 p s h) : q_gi h p 4 2 = some (g_I s 2) := by
  unfold q_gi q_fd
  rw [G.1]
  rfl
theorem pi4_2 {p : Nat} {s : g_S} {h : q_H} (v : Int32) (G : g4 p s h) : ∃ h', q_pf h p 4 2 (.int v) = some h' ∧ g4 p (g_si s 2 v) h' ∧ ∀ a, ¬ f4 p a → h' a = h a := by
  unfold q_pf
  rw [G.1]
  exact ⟨_, if_pos ⟨rfl, Nat.le_of_ble_eq_true rfl⟩, ⟨va_up_at _ _ _, (va_up_of (by omega)).trans G.2.1, (va_up_of (by omega)).trans G.2.2.1, (va_up_of (by omega)).trans G.2.2.2.1, (va_up_of (by omega)).trans G.2.2.2.2⟩, fun a ha => va_up_of (fun e => ha (by unfold f4; omega))⟩
theorem gi4_3 {p : Nat} {s : g_S} {h : q_H} (G : g4 p s h) : q_gi h p 4 3 = some (g_I s 3) := by
  unfold q_gi q_fd
  rw [G.1]
  rfl
theorem pi4_3 {p : Nat} {s : g_S} {h : q_H} (v : Int32) (G : g4 p s h) : ∃ h', q_pf h p 4 3 (.int v) = some h' ∧ g4 p (g_si s 3 v) h' ∧ ∀ a, ¬ f4 p a → h' a = h a := by
  unfold q_pf
  rw [G.1]
  exact ⟨_, if_pos ⟨rfl, Nat.le_of_ble_eq_true rfl⟩, ⟨va_up_at _ _ _, (va_up_of (by omega)).trans G.2.1, (va_up_of (by omega)).trans G.2.2.1, (va_up_of (by omega)).trans G.2.2.2.1, (va_up_of (by omega)).trans G.2.2.2.2⟩, fun a ha => va_up_of (fun e => ha (by unfold f4; omega))⟩
theorem gn4_4 {p : Nat} {s : g_S} {h : q_H} (G : g4 p s h) : q_gn h p 4 4 = some (p + 1) := by
  unfold q_gn q_fd
  rw [G.1]
  rfl
theorem ai4_4 {p : Nat} {s : g_S} {h : q_H} (G : g4 p s h) (i : Int32) : q_ai h (p + 1) 1 i = t_ai 8 (g_A s 4) i := by
  unfold q_ai t_ai
  rw [G.2.1]
  simp only [true_and]
theorem ln4_4 {p : Nat} {s : g_S} {h : q_H} (G : g4 p s h) : q_ln h (p + 1) = some (Int32.ofNat 8) := by
  unfold q_ln
  rw [G.2.1]
  rfl
theorem as4_4 {p : Nat} {s s' : g_S} {h : q_H} {i : Int32} {x : Int32} (G : g4 p s h) (e : u_si 8 s 4 i x = some s') : ∃ h', q_si h (p + 1) 1 i x = some h' ∧ g4 p s' h' ∧ ∀ a, ¬ f4 p a → h' a = h a := by
  unfold u_si at e
  split at e
  · next hin =>
    cases e
    unfold q_si
    rw [G.2.1]
    exact ⟨_, if_pos ⟨rfl, hin⟩, ⟨(va_up_of (by omega)).trans G.1, va_up_at _ _ _, (va_up_of (by omega)).trans G.2.2.1, (va_up_of (by omega)).trans G.2.2.2.1, (va_up_of (by omega)).trans G.2.2.2.2⟩, fun a ha => va_up_of (fun e => ha (by unfold f4; omega))⟩
  · cases e
theorem cp4_4 {p : Nat} {s s' : g_S} {h : q_H} {a0 n0 : Nat} {f : Nat → Int32} {sp dp n : Int32} (G : g4 p s h) (E : h a0 = .inl (1, n0, .inl f)) (e : u_cp n0 f sp 8 s 4 dp n = some s') : ∃ h', q_cp h a0 sp (p + 1) dp n = some h' ∧ g4 p s' h' ∧ ∀ a, ¬ f4 p a → h' a = h a := by
  unfold u_cp at e
  split at e
  · next hin =>
    cases e
    unfold q_cp
    rw [E, G.2.1]
    exact ⟨_, if_pos ⟨rfl, rfl, hin⟩, ⟨(va_up_of (by omega)).trans G.1, va_up_at _ _ _, (va_up_of (by omega)).trans G.2.2.1, (va_up_of (by omega)).trans G.2.2.2.1, (va_up_of (by omega)).trans G.2.2.2.2⟩, fun a ha => va_up_of (fun e => ha (by unfold f4; omega))⟩
  · cases e
theorem cl4_4 {p : Nat} {s : g_S} {h : q_H} (G : g4 p s h) : h (p + 1) = .inl (1, 8, .inl (g_A s 4)) := G.2.1
theorem gn4_5 {p : Nat} {s : g_S} {h : q_H} (G : g4 p s h) : q_gn h p 4 5 = some (p + 2) := by
  unfold q_gn q_fd
  rw [G.1]
  rfl
theorem ai4_5 {p : Nat} {s : g_S} {h : q_H} (G : g4 p s h) (i : Int32) : q_ai h (p + 2) 1 i = t_ai 8 (g_A s 5) i := by
  unfold q_ai t_ai
  rw [G.2.2.1]
  simp only [true_and]
theorem ln4_5 {p : Nat} {s : g_S} {h : q_H} (G : g4 p s h) : q_ln h (p + 2) = some (Int32.ofNat 8) := by
  unfold q_ln
  rw [G.2.2.1]
  rfl
theorem as4_5 {p : Nat} {s s' : g_S} {h : q_H} {i : Int32} {x : Int32} (G : g4 p s h) (e : u_si 8 s 5 i x = some s') : ∃ h', q_si h (p + 2) 1 i x = some h' ∧ g4 p s' h' ∧ ∀ a, ¬ f4 p a → h' a = h a := by
  unfold u_si at e
  split at e
  · next hin =>
    cases e
    unfold q_si
    rw [G.2.2.1]
    exact ⟨_, if_pos ⟨rfl, hin⟩, ⟨(va_up_of (by omega)).trans G.1, (va_up_of (by omega)).trans G.2.1, va_up_at _ _ _, (va_up_of (by omega)).trans G.2.2.2.1, (va_up_of (by omega)).trans G.2.2.2.2⟩, fun a ha => va_up_of (fun e => ha (by unfold f4; omega))⟩
  · cases e
theorem cp4_5 {p : Nat} {s s' : g_S} {h : q_H} {a0 n0 : Nat} {f : Nat → Int32} {sp dp n : Int32} (G : g4 p s h) (E : h a0 = .inl (1, n0, .inl f)) (e : u_cp n0 f sp 8 s 5 dp n = some s') : ∃ h', q_cp h a0 sp (p + 2) dp n = some h' ∧ g4 p s' h' ∧ ∀ a, ¬ f4 p a → h' a = h a := by
  unfold u_cp at e
  split at e
  · next hin =>
    cases e
    unfold q_cp
    rw [E, G.2.2.1]
    exact ⟨_, if_pos ⟨rfl, rfl, hin⟩, ⟨(va_up_of (by omega)).trans G.1, (va_up_of (by omega)).trans G.2.1, va_up_at _ _ _, (va_up_of (by omega)).trans G.2.2.2.1, (va_up_of (by omega)).trans G.2.2.2.2⟩, fun a ha => va_up_of (fun e => ha (by unfold f4; omega))⟩
  · cases e
theorem cl4_5 {p : Nat} {s : g_S} {h : q_H} (G : g4 p s h) : h (p + 2) = .inl (1, 8, .inl (g_A s 5)) := G.2.2.1
theorem gn4_6 {p : Nat} {s : g_S} {h : q_H} (G : g4 p s h) : q_gn h p 4 6 = some (p + 3) := by
  unfold q_gn q_fd
  rw [G.1]
  rfl
theorem ai4_6 {p : Nat} {s : g_S} {h : q_H} (G : g4 p s h) (i : Int32) : q_ai h (p + 3) 1 i = t_ai 8 (g_A s 6) i := by
  unfold q_ai t_ai
  rw [G.2.2.2.1]
  simp only [true_and]
theorem ln4_6 {p : Nat} {s : g_S} {h : q_H} (G : g4 p s h) : q_ln h (p + 3) = some (Int32.ofNat 8) := by
  unfold q_ln
  rw [G.2.2.2.1]
  rfl
theorem as4_6 {p : Nat} {s s' : g_S} {h : q_H} {i : Int32} {x : Int32} (G : g4 p s h) (e : u_si 8 s 6 i x = some s') : ∃ h', q_si h (p + 3) 1 i x = some h' ∧ g4 p s' h' ∧ ∀ a, ¬ f4 p a → h' a = h a := by
  unfold u_si at e
  split at e
  · next hin =>
    cases e
    unfold q_si
    rw [G.2.2.2.1]
    exact ⟨_, if_pos ⟨rfl, hin⟩, ⟨(va_up_of (by omega)).trans G.1, (va_up_of (by omega)).trans G.2.1, (va_up_of (by omega)).trans G.2.2.1, va_up_at _ _ _, (va_up_of (by omega)).trans G.2.2.2.2⟩, fun a ha => va_up_of (fun e => ha (by unfold f4; omega))⟩
  · cases e
theorem cp4_6 {p : Nat} {s s' : g_S} {h : q_H} {a0 n0 : Nat} {f : Nat → Int32} {sp dp n : Int32} (G : g4 p s h) (E : h a0 = .inl (1, n0, .inl f)) (e : u_cp n0 f sp 8 s 6 dp n = some s') : ∃ h', q_cp h a0 sp (p + 3) dp n = some h' ∧ g4 p s' h' ∧ ∀ a, ¬ f4 p a → h' a = h a := by
  unfold u_cp at e
  split at e
  · next hin =>
    cases e
    unfold q_cp
    rw [E, G.2.2.2.1]
    exact ⟨_, if_pos ⟨rfl, rfl, hin⟩, ⟨(va_up_of (by omega)).trans G.1, (va_up_of (by omega)).trans G.2.1, (va_up_of (by omega)).trans G.2.2.1, va_up_at _ _ _, (va_up_of (by omega)).trans G.2.2.2.2⟩, fun a ha => va_up_of (fun e => ha (by unfold f4; omega))⟩
  · cases e
theorem cl4_6 {p : Nat} {s : g_S} {h : q_H} (G : g4 p s h) : h (p + 3) = .inl (1, 8, .inl (g_A s 6)) := G.2.2.2.1
theorem gn4_7 {p : Nat} {s : g_S} {h : q_H} (G : g4 p s h) : q_gn h p 4 7 = some (p + 4) := by
  unfold q_gn q_fd
  rw [G.1]
  rfl
theorem ai4_7 {p : Nat} {s : g_S} {h : q_H} (G : g4 p s h) (i : Int32) : q_ai h (p + 4) 1 i = t_ai 8 (g_A s 7) i := by
  unfold q_ai t_ai
  rw [G.2.2.2.2]
  simp only [true_and]
theorem ln4_7 {p : Nat} {s : g_S} {h : q_H} (G : g4 p s h) : q_ln h (p + 4) = some (Int32.ofNat 8) := by
  unfold q_ln
  rw [G.2.2.2.2]
  rfl
theorem as4_7 {p : Nat} {s s' : g_S} {h : q_H} {i : Int32} {x : Int32} (G : g4 p s h) (e : u_si 8 s 7 i x = some s') : ∃ h', q_si h (p + 4) 1 i x = some h' ∧ g4 p s' h' ∧ ∀ a, ¬ f4 p a → h' a = h a := by
  unfold u_si at e
  split at e
  · next hin =>
    cases e
    unfold q_si
    rw [G.2.2.2.2]
    exact ⟨_, if_pos ⟨rfl, hin⟩, ⟨(va_up_of (by omega)).trans G.1, (va_up_of (by omega)).trans G.2.1, (va_up_of (by omega)).trans G.2.2.1, (va_up_of (by omega)).trans G.2.2.2.1, va_up_at _ _ _⟩, fun a ha => va_up_of (fun e => ha (by unfold f4; omega))⟩
  · cases e
theorem cp4_7 {p : Nat} {s s' : g_S} {h : q_H} {a0 n0 : Nat} {f : Nat → Int32} {sp dp n : Int32} (G : g4 p s h) (E : h a0 = .inl (1, n0, .inl f)) (e : u_cp n0 f sp 8 s 7 dp n = some s') : ∃ h', q_cp h a0 sp (p + 4) dp n = some h' ∧ g4 p s' h' ∧ ∀ a, ¬ f4 p a → h' a = h a := by
  unfold u_cp at e
  split at e
  · next hin =>
    cases e
    unfold q_cp
    rw [E, G.2.2.2.2]
    exact ⟨_, if_pos ⟨rfl, rfl, hin⟩, ⟨(va_up_of (by omega)).trans G.1, (va_up_of (by omega)).trans G.2.1, (va_up_of (by omega)).trans G.2.2.1, (va_up_of (by omega)).trans G.2.2.2.1, va_up_at _ _ _⟩, fun a ha => va_up_of (fun e => ha (by unfold f4; omega))⟩
  · cases e
theorem cl4_7 {p : Nat} {s : g_S} {h : q_H} (G : g4 p s h) : h (p + 4) = .inl (1, 8, .inl (g_A s 7)) := G.2.2.2.2
/-- a Reader at p -/
def g3 (p : Nat) (s : g_S) (h : q_H) : Prop := h p = .inr (3, [va_rf (g_P s 0), .ref (p + 1), .ref (p + 2), .ref (p + 3), .int (g_I s 4), .int (g_I s 5), .int (g_I s 6), .int (g_I s 7), .int (g_I s 8)]) ∧ h (p + 1) = .inl (1, 401, .inl (g_A s 1)) ∧ h (p + 2) = .inl (1, 401, .inl (g_A s 2)) ∧ h (p + 3) = .inl (1, 401, .inl (g_A s 3))
def f3 (p a : Nat) : Prop := a = p ∨ a = p + 1 ∨ a = p + 2 ∨ a = p + 3
theorem fr3 {p : Nat} {s : g_S} {h h' : q_H} (G : g3 p s h) (F : ∀ a, f3 p a → h' a = h a) : g3 p s h' := ⟨(F _ (by unfold f3; omega)).trans G.1, (F _ (by unfold f3; omega)).trans G.2.1, (F _ (by unfold f3; omega)).trans G.2.2.1, (F _ (by unfold f3; omega)).trans G.2.2.2⟩
theorem ca3 {p : Nat} {s : g_S} {h : q_H} (G : g3 p s h) {α : Type} {o : Option α} : q_ca 3 h p o = o := by
  unfold q_ca
  rw [G.1]
  rfl
theorem go3_0 {p : Nat} {s : g_S} {h : q_H} (G : g3 p s h) : q_go h p 3 0 = some (g_P s 0) := by
  unfold q_go q_fd
  rw [G.1]
  exact va_rf_o _
theorem gp3_0 {p q : Nat} {s : g_S} {h : q_H} (G : g3 p s h) (e : g_P s 0 = some q) : q_gn h p 3 0 = some q := by
  unfold q_gn q_fd
  rw [G.1]
  exact va_rf_n e
theorem pp3_0 {p : Nat} {s : g_S} {h : q_H} (v : Option Nat) (G : g3 p s h) : ∃ h', q_pf h p 3 0 (va_rf v) = some h' ∧ g3 p (g_sp s 0 v) h' ∧ ∀ a, ¬ f3 p a → h' a = h a := by
  unfold q_pf
  rw [G.1]
  exact ⟨_, if_pos ⟨rfl, Nat.le_of_ble_eq_true rfl⟩, ⟨va_up_at _ _ _, (va_up_of (by omega)).trans G.2.1, (va_up_of (by omega)).trans G.2.2.1, (va_up_of (by omega)).trans G.2.2.2⟩, fun a ha => va_up_of (fun e => ha (by unfold f3; omega))⟩
theorem gn3_1 {p : Nat} {s : g_S} {h : q_H} (G : g3 p s h) : q_gn h p 3 1 = some (p + 1) := by
  unfold q_gn q_fd
  rw [G.1]
  rfl
theorem ai3_1 {p : Nat} {s : g_S} {h : q_H} (G : g3 p s h) (i : Int32) : q_ai h (p + 1) 1 i = t_ai 401 (g_A s 1) i := by
  unfold q_ai t_ai
  rw [G.2.1]
  simp only [true_and]
theorem ln3_1 {p : Nat} {s : g_S} {h : q_H} (G : g3 p s h) : q_ln h (p + 1) = some (Int32.ofNat 401) := by
  unfold q_ln
  rw [G.2.1]
  rfl
theorem as3_1 {p : Nat} {s s' : g_S} {h : q_H} {i : Int32} {x : Int32} (G : g3 p s h) (e : u_si 401 s 1 i x = some s') : ∃ h', q_si h (p + 1) 1 i x = some h' ∧ g3 p s' h' ∧ ∀ a, ¬ f3 p a → h' a = h a := by
  unfold u_si at e
  split at e
  · next hin =>
    cases e
    unfold q_si
    rw [G.2.1]
    exact ⟨_, if_pos ⟨rfl, hin⟩, ⟨(va_up_of (by omega)).trans G.1, va_up_at _ _ _, (va_up_of (by omega)).trans G.2.2.1, (va_up_of (by omega)).trans G.2.2.2⟩, fun a ha => va_up_of (fun e => ha (by unfold f3; omega))⟩
  · cases e
theorem cp3_1 {p : Nat} {s s' : g_S} {h : q_H} {a0 n0 : Nat} {f : Nat → Int32} {sp dp n : Int32} (G : g3 p s h) (E : h a0 = .inl (1, n0, .inl f)) (e : u_cp n0 f sp 401 s 1 dp n = some s') : ∃ h', q_cp h a0 sp (p + 1) dp n = some h' ∧ g3 p s' h' ∧ ∀ a, ¬ f3 p a → h' a = h a := by
  unfold u_cp at e
  split at e
  · next hin =>
    cases e
    unfold q_cp
    rw [E, G.2.1]
    exact ⟨_, if_pos ⟨rfl, rfl, hin⟩, ⟨(va_up_of (by omega)).trans G.1, va_up_at _ _ _, (va_up_of (by omega)).trans G.2.2.1, (va_up_of (by omega)).trans G.2.2.2⟩, fun a ha => va_up_of (fun e => ha (by unfold f3; omega))⟩
  · cases e
theorem cl3_1 {p : Nat} {s : g_S} {h : q_H} (G : g3 p s h) : h (p + 1) = .inl (1, 401, .inl (g_A s 1)) := G.2.1
theorem gn3_2 {p : Nat} {s : g_S} {h : q_H} (G : g3 p s h) : q_gn h p 3 2 = some (p + 2) := by
  unfold q_gn q_fd
  rw [G.1]
  rfl
theorem ai3_2 {p : Nat} {s : g_S} {h : q_H} (G : g3 p s h) (i : Int32) : q_ai h (p + 2) 1 i = t_ai 401 (g_A s 2) i := by
  unfold q_ai t_ai
  rw [G.2.2.1]
  simp only [true_and]
theorem ln3_2 {p : Nat} {s : g_S} {h : q_H} (G : g3 p s h) : q_ln h (p + 2) = some (Int32.ofNat 401) := by
  unfold q_ln
  rw [G.2.2.1]
  rfl
theorem as3_2 {p : Nat} {s s' : g_S} {h : q_H} {i : Int32} {x : Int32} (G : g3 p s h) (e : u_si 401 s 2 i x = some s') : ∃ h', q_si h (p + 2) 1 i x = some h' ∧ g3 p s' h' ∧ ∀ a, ¬ f3 p a → h' a = h a := by
  unfold u_si at e
  split at e
  · next hin =>
    cases e
    unfold q_si
    rw [G.2.2.1]
    exact ⟨_, if_pos ⟨rfl, hin⟩, ⟨(va_up_of (by omega)).trans G.1, (va_up_of (by omega)).trans G.2.1, va_up_at _ _ _, (va_up_of (by omega)).trans G.2.2.2⟩, fun a ha => va_up_of (fun e => ha (by unfold f3; omega))⟩
  · cases e
theorem cp3_2 {p : Nat} {s s' : g_S} {h : q_H} {a0 n0 : Nat} {f : Nat → Int32} {sp dp n : Int32} (G : g3 p s h) (E : h a0 = .inl (1, n0, .inl f)) (e : u_cp n0 f sp 401 s 2 dp n = some s') : ∃ h', q_cp h a0 sp (p + 2) dp n = some h' ∧ g3 p s' h' ∧ ∀ a, ¬ f3 p a → h' a = h a := by
  unfold u_cp at e
  split at e
  · next hin =>
    cases e
    unfold q_cp
    rw [E, G.2.2.1]
    exact ⟨_, if_pos ⟨rfl, rfl, hin⟩, ⟨(va_up_of (by omega)).trans G.1, (va_up_of (by omega)).trans G.2.1, va_up_at _ _ _, (va_up_of (by omega)).trans G.2.2.2⟩, fun a ha => va_up_of (fun e => ha (by unfold f3; omega))⟩
  · cases e
theorem cl3_2 {p : Nat} {s : g_S} {h : q_H} (G : g3 p s h) : h (p + 2) = .inl (1, 401, .inl (g_A s 2)) := G.2.2.1
theorem gn3_3 {p : Nat} {s : g_S} {h : q_H} (G : g3 p s h) : q_gn h p 3 3 = some (p + 3) := by
  unfold q_gn q_fd
  rw [G.1]
  rfl
theorem ai3_3 {p : Nat} {s : g_S} {h : q_H} (G : g3 p s h) (i : Int32) : q_ai h (p + 3) 1 i = t_ai 401 (g_A s 3) i := by
  unfold q_ai t_ai
  rw [G.2.2.2]
  simp only [true_and]
theorem ln3_3 {p : Nat} {s : g_S} {h : q_H} (G : g3 p s h) : q_ln h (p + 3) = some (Int32.ofNat 401) := by
  unfold q_ln
  rw [G.2.2.2]
  rfl
theorem as3_3 {p : Nat} {s s' : g_S} {h : q_H} {i : Int32} {x : Int32} (G : g3 p s h) (e : u_si 401 s 3 i x = some s') : ∃ h', q_si h (p + 3) 1 i x = some h' ∧ g3 p s' h' ∧ ∀ a, ¬ f3 p a → h' a = h a := by
  unfold u_si at e
  split at e
  · next hin =>
    cases e
    unfold q_si
    rw [G.2.2.2]
    exact ⟨_, if_pos ⟨rfl, hin⟩, ⟨(va_up_of (by omega)).trans G.1, (va_up_of (by omega)).trans G.2.1, (va_up_of (by omega)).trans G.2.2.1, va_up_at _ _ _⟩, fun a ha => va_up_of (fun e => ha (by unfold f3; omega))⟩
  · cases e
theorem cp3_3 {p : Nat} {s s' : g_S} {h : q_H} {a0 n0 : Nat} {f : Nat → Int32} {sp dp n : Int32} (G : g3 p s h) (E : h a0 = .inl (1, n0, .inl f)) (e : u_cp n0 f sp 401 s 3 dp n = some s') : ∃ h', q_cp h a0 sp (p + 3) dp n = some h' ∧ g3 p s' h' ∧ ∀ a, ¬ f3 p a → h' a = h a := by
  unfold u_cp at e
  split at e
  · next hin =>
    cases e
    unfold q_cp
    rw [E, G.2.2.2]
    exact ⟨_, if_pos ⟨rfl, rfl, hin⟩, ⟨(va_up_of (by omega)).trans G.1, (va_up_of (by omega)).trans G.2.1, (va_up_of (by omega)).trans G.2.2.1, va_up_at _ _ _⟩, fun a ha => va_up_of (fun e => ha (by unfold f3; omega))⟩
  · cases e
theorem cl3_3 {p : Nat} {s : g_S} {h : q_H} (G : g3 p s h) : h (p + 3) = .inl (1, 401, .inl (g_A s 3)) := G.2.2.2
theorem gi3_4 {p : Nat} {s : g_S} {h : q_H} (G : g3 p s h) : q_gi h p 3 4 = some (g_I s 4) := by
  unfold q_gi q_fd
  rw [G.1]
  rfl
theorem pi3_4 {p : Nat} {s : g_S} {h : q_H} (v : Int32) (G : g3 p s h) : ∃ h', q_pf h p 3 4 (.int v) = some h' ∧ g3 p (g_si s 4 v) h' ∧ ∀ a, ¬ f3 p a → h' a = h a := by
  unfold q_pf
  rw [G.1]
  exact ⟨_, if_pos ⟨rfl, Nat.le_of_ble_eq_true rfl⟩, ⟨va_up_at _ _ _, (va_up_of (by omega)).trans G.2.1, (va_up_of (by omega)).trans G.2.2.1, (va_up_of (by omega)).trans G.2.2.2⟩, fun a ha => va_up_of (fun e => ha (by unfold f3; omega))⟩
theorem gi3_5 {p : Nat} {s : g_S} {h : q_H} (G : g3 p s h) : q_gi h p 3 5 = some (g_I s 5) := by
  unfold q_gi q_fd
  rw [G.1]
  rfl
theorem pi3_5 {p : Nat} {s : g_S} {h : q_H} (v : Int32) (G : g3 p s h) : ∃ h', q_pf h p 3 5 (.int v) = some h' ∧ g3 p (g_si s 5 v) h' ∧ ∀ a, ¬ f3 p a → h' a = h a := by
  unfold q_pf
  rw [G.1]
  exact ⟨_, if_pos ⟨rfl, Nat.le_of_ble_eq_true rfl⟩, ⟨va_up_at _ _ _, (va_up_of (by omega)).trans G.2.1, (va_up_of (by omega)).trans G.2.2.1, (va_up_of (by omega)).trans G.2.2.2⟩, fun a ha => va_up_of (fun e => ha (by unfold f3; omega))⟩
theorem gi3_6 {p : Nat} {s : g_S} {h : q_H} (G : g3 p s h) : q_gi h p 3 6 = some (g_I s 6) := by
  unfold q_gi q_fd
  rw [G.1]
  rfl
theorem pi3_6 {p : Nat} {s : g_S} {h : q_H} (v : Int32) (G : g3 p s h) : ∃ h', q_pf h p 3 6 (.int v) = some h' ∧ g3 p (g_si s 6 v) h' ∧ ∀ a, ¬ f3 p a → h' a = h a := by
  unfold q_pf
  rw [G.1]
  exact ⟨_, if_pos ⟨rfl, Nat.le_of_ble_eq_true rfl⟩, ⟨va_up_at _ _ _, (va_up_of (by omega)).trans G.2.1, (va_up_of (by omega)).trans G.2.2.1, (va_up_of (by omega)).trans G.2.2.2⟩, fun a ha => va_up_of (fun e => ha (by unfold f3; omega))⟩
theorem gi3_7 {p : Nat} {s : g_S} {h : q_H} (G : g3 p s h) : q_gi h p 3 7 = some (g_I s 7) := by
  unfold q_gi q_fd
  rw [G.1]
  rfl
theorem pi3_7 {p : Nat} {s : g_S} {h : q_H} (v : Int32) (G : g3 p s h) : ∃ h', q_pf h p 3 7 (.int v) = some h' ∧ g3 p (g_si s 7 v) h' ∧ ∀ a, ¬ f3 p a → h' a = h a := by
  unfold q_pf
  rw [G.1]
  exact ⟨_, if_pos ⟨rfl, Nat.le_of_ble_eq_true rfl⟩, ⟨va_up_at _ _ _, (va_up_of (by omega)).trans G.2.1, (va_up_of (by omega)).trans G.2.2.1, (va_up_of (by omega)).trans G.2.2.2⟩, fun a ha => va_up_of (fun e => ha (by unfold f3; omega))⟩
theorem gi3_8 {p : Nat} {s : g_S} {h : q_H} (G : g3 p s h) : q_gi h p 3 8 = some (g_I s 8) := by
  unfold q_gi q_fd
  rw [G.1]
  rfl
theorem pi3_8 {p : Nat} {s : g_S} {h : q_H} (v : Int32) (G : g3 p s h) : ∃ h', q_pf h p 3 8 (.int v) = some h' ∧ g3 p (g_si s 8 v) h' ∧ ∀ a, ¬ f3 p a → h' a = h a := by
  unfold q_pf
  rw [G.1]
  exact ⟨_, if_pos ⟨rfl, Nat.le_of_ble_eq_true rfl⟩, ⟨va_up_at _ _ _, (va_up_of (by omega)).trans G.2.1, (va_up_of (by omega)).trans G.2.2.1, (va_up_of (by omega)).trans G.2.2.2⟩, fun a ha => va_up_of (fun e => ha (by unfold f3; omega))⟩
/-- a RopeReader at p -/
def g5 (p : Nat) (s : g_S) (h : q_H) : Prop := h p = .inr (5, [va_rf (g_P s 0), .int (g_I s 1)])
def f5 (p a : Nat) : Prop := a = p
theorem fr5 {p : Nat} {s : g_S} {h h' : q_H} (G : g5 p s h) (F : ∀ a, f5 p a → h' a = h a) : g5 p s h' := (F _ (by unfold f5; omega)).trans G
theorem ca5 {p : Nat} {s : g_S} {h : q_H} (G : g5 p s h) {α : Type} {o : Option α} : q_ca 5 h p o = o := by
  unfold q_ca
  rw [G]
  rfl
theorem go5_0 {p : Nat} {s : g_S} {h : q_H} (G : g5 p s h) : q_go h p 5 0 = some (g_P s 0) := by
  unfold q_go q_fd
  rw [G]
  exact va_rf_o _
theorem gp5_0 {p q : Nat} {s : g_S} {h : q_H} (G : g5 p s h) (e : g_P s 0 = some q) : q_gn h p 5 0 = some q := by
  unfold q_gn q_fd
  rw [G]
  exact va_rf_n e
theorem pp5_0 {p : Nat} {s : g_S} {h : q_H} (v : Option Nat) (G : g5 p s h) : ∃ h', q_pf h p 5 0 (va_rf v) = some h' ∧ g5 p (g_sp s 0 v) h' ∧ ∀ a, ¬ f5 p a → h' a = h a := by
  unfold q_pf
  rw [G]
  exact ⟨_, if_pos ⟨rfl, Nat.le_of_ble_eq_true rfl⟩, va_up_at _ _ _, fun a ha => va_up_of (fun e => ha (by unfold f5; omega))⟩
theorem gi5_1 {p : Nat} {s : g_S} {h : q_H} (G : g5 p s h) : q_gi h p 5 1 = some (g_I s 1) := by
  unfold q_gi q_fd
  rw [G]
  rfl
theorem pi5_1 {p : Nat} {s : g_S} {h : q_H} (v : Int32) (G : g5 p s h) : ∃ h', q_pf h p 5 1 (.int v) = some h' ∧ g5 p (g_si s 1 v) h' ∧ ∀ a, ¬ f5 p a → h' a = h a := by
  unfold q_pf
  rw [G]
  exact ⟨_, if_pos ⟨rfl, Nat.le_of_ble_eq_true rfl⟩, va_up_at _ _ _, fun a ha => va_up_of (fun e => ha (by unfold f5; omega))⟩
/-- a RuleReader at p -/
def g7 (p : Nat) (s : g_S) (h : q_H) : Prop := h p = .inr (7, [va_rf (g_P s 0), .ref (p + 1), .int (g_I s 2), .ref (p + 2), .int (g_I s 4), .ref (p + 3), .int (g_I s 6), .int (g_I s 7), .int (g_I s 8)]) ∧ h (p + 1) = .inl (1, 400, .inl (g_A s 1)) ∧ h (p + 2) = .inl (1, 25, .inl (g_A s 3)) ∧ h (p + 3) = .inl (1, 40, .inl (g_A s 5))
def f7 (p a : Nat) : Prop := a = p ∨ a = p + 1 ∨ a = p + 2 ∨ a = p + 3
theorem fr7 {p : Nat} {s : g_S} {h h' : q_H} (G : g7 p s h) (F : ∀ a, f7 p a → h' a = h a) : g7 p s h' := ⟨(F _ (by unfold f7; omega)).trans G.1, (F _ (by unfold f7; omega)).trans G.2.1, (F _ (by unfold f7; omega)).trans G.2.2.1, (F _ (by unfold f7; omega)).trans G.2.2.2⟩
theorem ca7 {p : Nat} {s : g_S} {h : q_H} (G : g7 p s h) {α : Type} {o : Option α} : q_ca 7 h p o = o := by
  unfold q_ca
  rw [G.1]
  rfl
theorem go7_0 {p : Nat} {s : g_S} {h : q_H} (G : g7 p s h) : q_go h p 7 0 = some (g_P s 0) := by
  unfold q_go q_fd
  rw [G.1]
  exact va_rf_o _
theorem gp7_0 {p q : Nat} {s : g_S} {h : q_H} (G : g7 p s h) (e : g_P s 0 = some q) : q_gn h p 7 0 = some q := by
  unfold q_gn q_fd
  rw [G.1]
  exact va_rf_n e
theorem pp7_0 {p : Nat} {s : g_S} {h : q_H} (v : Option Nat) (G : g7 p s h) : ∃ h', q_pf h p 7 0 (va_rf v) = some h' ∧ g7 p (g_sp s 0 v) h' ∧ ∀ a, ¬ f7 p a → h' a = h a := by
  unfold q_pf
  rw [G.1]
  exact ⟨_, if_pos ⟨rfl, Nat.le_of_ble_eq_true rfl⟩, ⟨va_up_at _ _ _, (va_up_of (by omega)).trans G.2.1, (va_up_of (by omega)).trans G.2.2.1, (va_up_of (by omega)).trans G.2.2.2⟩, fun a ha => va_up_of (fun e => ha (by unfold f7; omega))⟩
theorem gn7_1 {p : Nat} {s : g_S} {h : q_H} (G : g7 p s h) : q_gn h p 7 1 = some (p + 1) := by
  unfold q_gn q_fd
  rw [G.1]
  rfl
theorem ai7_1 {p : Nat} {s : g_S} {h : q_H} (G : g7 p s h) (i : Int32) : q_ai h (p + 1) 1 i = t_ai 400 (g_A s 1) i := by
  unfold q_ai t_ai
  rw [G.2.1]
  simp only [true_and]
theorem ln7_1 {p : Nat} {s : g_S} {h : q_H} (G : g7 p s h) : q_ln h (p + 1) = some (Int32.ofNat 400) := by
  unfold q_ln
  rw [G.2.1]
  rfl
theorem as7_1 {p : Nat} {s s' : g_S} {h : q_H} {i : Int32} {x : Int32} (G : g7 p s h) (e : u_si 400 s 1 i x = some s') : ∃ h', q_si h (p + 1) 1 i x = some h' ∧ g7 p s' h' ∧ ∀ a, ¬ f7 p a → h' a = h a := by
  unfold u_si at e
  split at e
  · next hin =>
    cases e
    unfold q_si
    rw [G.2.1]
    exact ⟨_, if_pos ⟨rfl, hin⟩, ⟨(va_up_of (by omega)).trans G.1, va_up_at _ _ _, (va_up_of (by omega)).trans G.2.2.1, (va_up_of (by omega)).trans G.2.2.2⟩, fun a ha => va_up_of (fun e => ha (by unfold f7; omega))⟩
  · cases e
theorem cp7_1 {p : Nat} {s s' : g_S} {h : q_H} {a0 n0 : Nat} {f : Nat → Int32} {sp dp n : Int32} (G : g7 p s h) (E : h a0 = .inl (1, n0, .inl f)) (e : u_cp n0 f sp 400 s 1 dp n = some s') : ∃ h', q_cp h a0 sp (p + 1) dp n = some h' ∧ g7 p s' h' ∧ ∀ a, ¬ f7 p a → h' a = h a := by
  unfold u_cp at e
  split at e
  · next hin =>
    cases e
    unfold q_cp
    rw [E, G.2.1]
    exact ⟨_, if_pos ⟨rfl, rfl, hin⟩, ⟨(va_up_of (by omega)).trans G.1, va_up_at _ _ _, (va_up_of (by omega)).trans G.2.2.1, (va_up_of (by omega)).trans G.2.2.2⟩, fun a ha => va_up_of (fun e => ha (by unfold f7; omega))⟩
  · cases e
theorem cl7_1 {p : Nat} {s : g_S} {h : q_H} (G : g7 p s h) : h (p + 1) = .inl (1, 400, .inl (g_A s 1)) := G.2.1
theorem gi7_2 {p : Nat} {s : g_S} {h : q_H} (G : g7 p s h) : q_gi h p 7 2 = some (g_I s 2) := by
  unfold q_gi q_fd
  rw [G.1]
  rfl
theorem pi7_2 {p : Nat} {s : g_S} {h : q_H} (v : Int32) (G : g7 p s h) : ∃ h', q_pf h p 7 2 (.int v) = some h' ∧ g7 p (g_si s 2 v) h' ∧ ∀ a, ¬ f7 p a → h' a = h a := by
  unfold q_pf
  rw [G.1]
  exact ⟨_, if_pos ⟨rfl, Nat.le_of_ble_eq_true rfl⟩, ⟨va_up_at _ _ _, (va_up_of (by omega)).trans G.2.1, (va_up_of (by omega)).trans G.2.2.1, (va_up_of (by omega)).trans G.2.2.2⟩, fun a ha => va_up_of (fun e => ha (by unfold f7; omega))⟩
theorem gn7_3 {p : Nat} {s : g_S} {h : q_H} (G : g7 p s h) : q_gn h p 7 3 = some (p + 2) := by
  unfold q_gn q_fd
  rw [G.1]
  rfl
theorem ai7_3 {p : Nat} {s : g_S} {h : q_H} (G : g7 p s h) (i : Int32) : q_ai h (p + 2) 1 i = t_ai 25 (g_A s 3) i := by
  unfold q_ai t_ai
  rw [G.2.2.1]
  simp only [true_and]
theorem ln7_3 {p : Nat} {s : g_S} {h : q_H} (G : g7 p s h) : q_ln h (p + 2) = some (Int32.ofNat 25) := by
  unfold q_ln
  rw [G.2.2.1]
  rfl
theorem as7_3 {p : Nat} {s s' : g_S} {h : q_H} {i : Int32} {x : Int32} (G : g7 p s h) (e : u_si 25 s 3 i x = some s') : ∃ h', q_si h (p + 2) 1 i x = some h' ∧ g7 p s' h' ∧ ∀ a, ¬ f7 p a → h' a = h a := by
  unfold u_si at e
  split at e
  · next hin =>
    cases e
    unfold q_si
    rw [G.2.2.1]
    exact ⟨_, if_pos ⟨rfl, hin⟩, ⟨(va_up_of (by omega)).trans G.1, (va_up_of (by omega)).trans G.2.1, va_up_at _ _ _, (va_up_of (by omega)).trans G.2.2.2⟩, fun a ha => va_up_of (fun e => ha (by unfold f7; omega))⟩
  · cases e
theorem cp7_3 {p : Nat} {s s' : g_S} {h : q_H} {a0 n0 : Nat} {f : Nat → Int32} {sp dp n : Int32} (G : g7 p s h) (E : h a0 = .inl (1, n0, .inl f)) (e : u_cp n0 f sp 25 s 3 dp n = some s') : ∃ h', q_cp h a0 sp (p + 2) dp n = some h' ∧ g7 p s' h' ∧ ∀ a, ¬ f7 p a → h' a = h a := by
  unfold u_cp at e
  split at e
  · next hin =>
    cases e
    unfold q_cp
    rw [E, G.2.2.1]
    exact ⟨_, if_pos ⟨rfl, rfl, hin⟩, ⟨(va_up_of (by omega)).trans G.1, (va_up_of (by omega)).trans G.2.1, va_up_at _ _ _, (va_up_of (by omega)).trans G.2.2.2⟩, fun a ha => va_up_of (fun e => ha (by unfold f7; omega))⟩
  · cases e
theorem cl7_3 {p : Nat} {s : g_S} {h : q_H} (G : g7 p s h) : h (p + 2) = .inl (1, 25, .inl (g_A s 3)) := G.2.2.1
theorem gi7_4 {p : Nat} {s : g_S} {h : q_H} (G : g7 p s h) : q_gi h p 7 4 = some (g_I s 4) := by
  unfold q_gi q_fd
  rw [G.1]
  rfl
theorem pi7_4 {p : Nat} {s : g_S} {h : q_H} (v : Int32) (G : g7 p s h) : ∃ h', q_pf h p 7 4 (.int v) = some h' ∧ g7 p (g_si s 4 v) h' ∧ ∀ a, ¬ f7 p a → h' a = h a := by
  unfold q_pf
  rw [G.1]
  exact ⟨_, if_pos ⟨rfl, Nat.le_of_ble_eq_true rfl⟩, ⟨va_up_at _ _ _, (va_up_of (by omega)).trans G.2.1, (va_up_of (by omega)).trans G.2.2.1, (va_up_of (by omega)).trans G.2.2.2⟩, fun a ha => va_up_of (fun e => ha (by unfold f7; omega))⟩
theorem gn7_5 {p : Nat} {s : g_S} {h : q_H} (G : g7 p s h) : q_gn h p 7 5 = some (p + 3) := by
  unfold q_gn q_fd
  rw [G.1]
  rfl
theorem ai7_5 {p : Nat} {s : g_S} {h : q_H} (G : g7 p s h) (i : Int32) : q_ai h (p + 3) 1 i = t_ai 40 (g_A s 5) i := by
  unfold q_ai t_ai
  rw [G.2.2.2]
  simp only [true_and]
theorem ln7_5 {p : Nat} {s : g_S} {h : q_H} (G : g7 p s h) : q_ln h (p + 3) = some (Int32.ofNat 40) := by
  unfold q_ln
  rw [G.2.2.2]
  rfl
theorem as7_5 {p : Nat} {s s' : g_S} {h : q_H} {i : Int32} {x : Int32} (G : g7 p s h) (e : u_si 40 s 5 i x = some s') : ∃ h', q_si h (p + 3) 1 i x = some h' ∧ g7 p s' h' ∧ ∀ a, ¬ f7 p a → h' a = h a := by
  unfold u_si at e
  split at e
  · next hin =>
    cases e
    unfold q_si
    rw [G.2.2.2]
    exact ⟨_, if_pos ⟨rfl, hin⟩, ⟨(va_up_of (by omega)).trans G.1, (va_up_of (by omega)).trans G.2.1, (va_up_of (by omega)).trans G.2.2.1, va_up_at _ _ _⟩, fun a ha => va_up_of (fun e => ha (by unfold f7; omega))⟩
  · cases e
theorem cp7_5 {p : Nat} {s s' : g_S} {h : q_H} {a0 n0 : Nat} {f : Nat → Int32} {sp dp n : Int32} (G : g7 p s h) (E : h a0 = .inl (1, n0, .inl f)) (e : u_cp n0 f sp 40 s 5 dp n = some s') : ∃ h', q_cp h a0 sp (p + 3) dp n = some h' ∧ g7 p s' h' ∧ ∀ a, ¬ f7 p a → h' a = h a := by
  unfold u_cp at e
  split at e
  · next hin =>
    cases e
    unfold q_cp
    rw [E, G.2.2.2]
    exact ⟨_, if_pos ⟨rfl, rfl, hin⟩, ⟨(va_up_of (by omega)).trans G.1, (va_up_of (by omega)).trans G.2.1, (va_up_of (by omega)).trans G.2.2.1, va_up_at _ _ _⟩, fun a ha => va_up_of (fun e => ha (by unfold f7; omega))⟩
  · cases e
theorem cl7_5 {p : Nat} {s : g_S} {h : q_H} (G : g7 p s h) : h (p + 3) = .inl (1, 40, .inl (g_A s 5)) := G.2.2.2
theorem gi7_6 {p : Nat} {s : g_S} {h : q_H} (G : g7 p s h) : q_gi h p 7 6 = some (g_I s 6) := by
  unfold q_gi q_fd
  rw [G.1]
  rfl
theorem pi7_6 {p : Nat} {s : g_S} {h : q_H} (v : Int32) (G : g7 p s h) : ∃ h', q_pf h p 7 6 (.int v) = some h' ∧ g7 p (g_si s 6 v) h' ∧ ∀ a, ¬ f7 p a → h' a = h a := by
  unfold q_pf
  rw [G.1]
  exact ⟨_, if_pos ⟨rfl, Nat.le_of_ble_eq_true rfl⟩, ⟨va_up_at _ _ _, (va_up_of (by omega)).trans G.2.1, (va_up_of (by omega)).trans G.2.2.1, (va_up_of (by omega)).trans G.2.2.2⟩, fun a ha => va_up_of (fun e => ha (by unfold f7; omega))⟩
theorem gi7_7 {p : Nat} {s : g_S} {h : q_H} (G : g7 p s h) : q_gi h p 7 7 = some (g_I s 7) := by
  unfold q_gi q_fd
  rw [G.1]
  rfl
theorem pi7_7 {p : Nat} {s : g_S} {h : q_H} (v : Int32) (G : g7 p s h) : ∃ h', q_pf h p 7 7 (.int v) = some h' ∧ g7 p (g_si s 7 v) h' ∧ ∀ a, ¬ f7 p a → h' a = h a := by
  unfold q_pf
  rw [G.1]
  exact ⟨_, if_pos ⟨rfl, Nat.le_of_ble_eq_true rfl⟩, ⟨va_up_at _ _ _, (va_up_of (by omega)).trans G.2.1, (va_up_of (by omega)).trans G.2.2.1, (va_up_of (by omega)).trans G.2.2.2⟩, fun a ha => va_up_of (fun e => ha (by unfold f7; omega))⟩
theorem gi7_8 {p : Nat} {s : g_S} {h : q_H} (G : g7 p s h) : q_gi h p 7 8 = some (g_I s 8) := by
  unfold q_gi q_fd
  rw [G.1]
  rfl
theorem pi7_8 {p : Nat} {s : g_S} {h : q_H} (v : Int32) (G : g7 p s h) : ∃ h', q_pf h p 7 8 (.int v) = some h' ∧ g7 p (g_si s 8 v) h' ∧ ∀ a, ¬ f7 p a → h' a = h a := by
  unfold q_pf
  rw [G.1]
  exact ⟨_, if_pos ⟨rfl, Nat.le_of_ble_eq_true rfl⟩, ⟨va_up_at _ _ _, (va_up_of (by omega)).trans G.2.1, (va_up_of (by omega)).trans G.2.2.1, (va_up_of (by omega)).trans G.2.2.2⟩, fun a ha => va_up_of (fun e => ha (by unfold f7; omega))⟩
/-- a Rule at p -/
def g6 (p : Nat) (s : g_S) (h : q_H) : Prop := h p = .inr (6, [.ref (p + 1), .ref (p + 2)]) ∧ h (p + 1) = .inl (1, (g_N s 0), .inl (g_A s 0)) ∧ h (p + 2) = .inl (1, (g_N s 1), .inl (g_A s 1))
def f6 (p a : Nat) : Prop := a = p ∨ a = p + 1 ∨ a = p + 2
theorem fr6 {p : Nat} {s : g_S} {h h' : q_H} (G : g6 p s h) (F : ∀ a, f6 p a → h' a = h a) : g6 p s h' := ⟨(F _ (by unfold f6; omega)).trans G.1, (F _ (by unfold f6; omega)).trans G.2.1, (F _ (by unfold f6; omega)).trans G.2.2⟩
theorem ca6 {p : Nat} {s : g_S} {h : q_H} (G : g6 p s h) {α : Type} {o : Option α} : q_ca 6 h p o = o := by
  unfold q_ca
  rw [G.1]
  rfl
theorem gn6_0 {p : Nat} {s : g_S} {h : q_H} (G : g6 p s h) : q_gn h p 6 0 = some (p + 1) := by
  unfold q_gn q_fd
  rw [G.1]
  rfl
theorem ai6_0 {p : Nat} {s : g_S} {h : q_H} (G : g6 p s h) (i : Int32) : q_ai h (p + 1) 1 i = t_ai (g_N s 0) (g_A s 0) i := by
  unfold q_ai t_ai
  rw [G.2.1]
  simp only [true_and]
theorem ln6_0 {p : Nat} {s : g_S} {h : q_H} (G : g6 p s h) : q_ln h (p + 1) = some (Int32.ofNat (g_N s 0)) := by
  unfold q_ln
  rw [G.2.1]
  rfl
theorem as6_0 {p : Nat} {s s' : g_S} {h : q_H} {i : Int32} {x : Int32} (G : g6 p s h) (e : u_si (g_N s 0) s 0 i x = some s') : ∃ h', q_si h (p + 1) 1 i x = some h' ∧ g6 p s' h' ∧ ∀ a, ¬ f6 p a → h' a = h a := by
  unfold u_si at e
  split at e
  · next hin =>
    cases e
    unfold q_si
    rw [G.2.1]
    exact ⟨_, if_pos ⟨rfl, hin⟩, ⟨(va_up_of (by omega)).trans G.1, va_up_at _ _ _, (va_up_of (by omega)).trans G.2.2⟩, fun a ha => va_up_of (fun e => ha (by unfold f6; omega))⟩
  · cases e
theorem cp6_0 {p : Nat} {s s' : g_S} {h : q_H} {a0 n0 : Nat} {f : Nat → Int32} {sp dp n : Int32} (G : g6 p s h) (E : h a0 = .inl (1, n0, .inl f)) (e : u_cp n0 f sp (g_N s 0) s 0 dp n = some s') : ∃ h', q_cp h a0 sp (p + 1) dp n = some h' ∧ g6 p s' h' ∧ ∀ a, ¬ f6 p a → h' a = h a := by
  unfold u_cp at e
  split at e
  · next hin =>
    cases e
    unfold q_cp
    rw [E, G.2.1]
    exact ⟨_, if_pos ⟨rfl, rfl, hin⟩, ⟨(va_up_of (by omega)).trans G.1, va_up_at _ _ _, (va_up_of (by omega)).trans G.2.2⟩, fun a ha => va_up_of (fun e => ha (by unfold f6; omega))⟩
  · cases e
theorem cl6_0 {p : Nat} {s : g_S} {h : q_H} (G : g6 p s h) : h (p + 1) = .inl (1, (g_N s 0), .inl (g_A s 0)) := G.2.1
theorem gn6_1 {p : Nat} {s : g_S} {h : q_H} (G : g6 p s h) : q_gn h p 6 1 = some (p + 2) := by
  unfold q_gn q_fd
  rw [G.1]
  rfl
theorem ai6_1 {p : Nat} {s : g_S} {h : q_H} (G : g6 p s h) (i : Int32) : q_ai h (p + 2) 1 i = t_ai (g_N s 1) (g_A s 1) i := by
  unfold q_ai t_ai
  rw [G.2.2]
  simp only [true_and]
theorem ln6_1 {p : Nat} {s : g_S} {h : q_H} (G : g6 p s h) : q_ln h (p + 2) = some (Int32.ofNat (g_N s 1)) := by
  unfold q_ln
  rw [G.2.2]
  rfl
theorem as6_1 {p : Nat} {s s' : g_S} {h : q_H} {i : Int32} {x : Int32} (G : g6 p s h) (e : u_si (g_N s 1) s 1 i x = some s') : ∃ h', q_si h (p + 2) 1 i x = some h' ∧ g6 p s' h' ∧ ∀ a, ¬ f6 p a → h' a = h a := by
  unfold u_si at e
  split at e
  · next hin =>
    cases e
    unfold q_si
    rw [G.2.2]
    exact ⟨_, if_pos ⟨rfl, hin⟩, ⟨(va_up_of (by omega)).trans G.1, (va_up_of (by omega)).trans G.2.1, va_up_at _ _ _⟩, fun a ha => va_up_of (fun e => ha (by unfold f6; omega))⟩
  · cases e
theorem cp6_1 {p : Nat} {s s' : g_S} {h : q_H} {a0 n0 : Nat} {f : Nat → Int32} {sp dp n : Int32} (G : g6 p s h) (E : h a0 = .inl (1, n0, .inl f)) (e : u_cp n0 f sp (g_N s 1) s 1 dp n = some s') : ∃ h', q_cp h a0 sp (p + 2) dp n = some h' ∧ g6 p s' h' ∧ ∀ a, ¬ f6 p a → h' a = h a := by
  unfold u_cp at e
  split at e
  · next hin =>
    cases e
    unfold q_cp
    rw [E, G.2.2]
    exact ⟨_, if_pos ⟨rfl, rfl, hin⟩, ⟨(va_up_of (by omega)).trans G.1, (va_up_of (by omega)).trans G.2.1, va_up_at _ _ _⟩, fun a ha => va_up_of (fun e => ha (by unfold f6; omega))⟩
  · cases e
theorem cl6_1 {p : Nat} {s : g_S} {h : q_H} (G : g6 p s h) : h (p + 2) = .inl (1, (g_N s 1), .inl (g_A s 1)) := G.2.2
/-- a Heaver at p -/
def g1 (p : Nat) (s : g_S) (h : q_H) : Prop := h p = .inr (1, [va_rf (g_P s 0), va_rf (g_P s 1), .ref (p + 1), .ref (p + 2), .ref (p + 3), .ref (p + 4), .ref (p + 5)]) ∧ h (p + 1) = .inl (1, 8, .inl (g_A s 2)) ∧ h (p + 2) = .inl (1, 8, .inl (g_A s 3)) ∧ h (p + 3) = .inl (1, 2, .inl (g_A s 4)) ∧ h (p + 4) = .inl (2, 11, .inr (.inl (g_L s 5))) ∧ h (p + 5) = .inl (2, 64, .inr (.inl (g_L s 6)))
def f1 (p a : Nat) : Prop := a = p ∨ a = p + 1 ∨ a = p + 2 ∨ a = p + 3 ∨ a = p + 4 ∨ a = p + 5
theorem fr1 {p : Nat} {s : g_S} {h h' : q_H} (G : g1 p s h) (F : ∀ a, f1 p a → h' a = h a) : g1 p s h' := ⟨(F _ (by unfold f1; omega)).trans G.1, (F _ (by unfold f1; omega)).trans G.2.1, (F _ (by unfold f1; omega)).trans G.2.2.1, (F _ (by unfold f1; omega)).trans G.2.2.2.1, (F _ (by unfold f1; omega)).trans G.2.2.2.2.1, (F _ (by unfold f1; omega)).trans G.2.2.2.2.2⟩
theorem ca1 {p : Nat} {s : g_S} {h : q_H} (G : g1 p s h) {α : Type} {o : Option α} : q_ca 1 h p o = o := by
  unfold q_ca
  rw [G.1]
  rfl
theorem go1_0 {p : Nat} {s : g_S} {h : q_H} (G : g1 p s h) : q_go h p 1 0 = some (g_P s 0) := by
  unfold q_go q_fd
  rw [G.1]
  exact va_rf_o _
theorem gp1_0 {p q : Nat} {s : g_S} {h : q_H} (G : g1 p s h) (e : g_P s 0 = some q) : q_gn h p 1 0 = some q := by
  unfold q_gn q_fd
  rw [G.1]
  exact va_rf_n e
theorem pp1_0 {p : Nat} {s : g_S} {h : q_H} (v : Option Nat) (G : g1 p s h) : ∃ h', q_pf h p 1 0 (va_rf v) = some h' ∧ g1 p (g_sp s 0 v) h' ∧ ∀ a, ¬ f1 p a → h' a = h a := by
  unfold q_pf
  rw [G.1]
  exact ⟨_, if_pos ⟨rfl, Nat.le_of_ble_eq_true rfl⟩, ⟨va_up_at _ _ _, (va_up_of (by omega)).trans G.2.1, (va_up_of (by omega)).trans G.2.2.1, (va_up_of (by omega)).trans G.2.2.2.1, (va_up_of (by omega)).trans G.2.2.2.2.1, (va_up_of (by omega)).trans G.2.2.2.2.2⟩, fun a ha => va_up_of (fun e => ha (by unfold f1; omega))⟩
theorem go1_1 {p : Nat} {s : g_S} {h : q_H} (G : g1 p s h) : q_go h p 1 1 = some (g_P s 1) := by
  unfold q_go q_fd
  rw [G.1]
  exact va_rf_o _
theorem gp1_1 {p q : Nat} {s : g_S} {h : q_H} (G : g1 p s h) (e : g_P s 1 = some q) : q_gn h p 1 1 = some q := by
  unfold q_gn q_fd
  rw [G.1]
  exact va_rf_n e
theorem pp1_1 {p : Nat} {s : g_S} {h : q_H} (v : Option Nat) (G : g1 p s h) : ∃ h', q_pf h p 1 1 (va_rf v) = some h' ∧ g1 p (g_sp s 1 v) h' ∧ ∀ a, ¬ f1 p a → h' a = h a := by
  unfold q_pf
  rw [G.1]
  exact ⟨_, if_pos ⟨rfl, Nat.le_of_ble_eq_true rfl⟩, ⟨va_up_at _ _ _, (va_up_of (by omega)).trans G.2.1, (va_up_of (by omega)).trans G.2.2.1, (va_up_of (by omega)).trans G.2.2.2.1, (va_up_of (by omega)).trans G.2.2.2.2.1, (va_up_of (by omega)).trans G.2.2.2.2.2⟩, fun a ha => va_up_of (fun e => ha (by unfold f1; omega))⟩
theorem gn1_2 {p : Nat} {s : g_S} {h : q_H} (G : g1 p s h) : q_gn h p 1 2 = some (p + 1) := by
  unfold q_gn q_fd
  rw [G.1]
  rfl
theorem ai1_2 {p : Nat} {s : g_S} {h : q_H} (G : g1 p s h) (i : Int32) : q_ai h (p + 1) 1 i = t_ai 8 (g_A s 2) i := by
  unfold q_ai t_ai
  rw [G.2.1]
  simp only [true_and]
theorem ln1_2 {p : Nat} {s : g_S} {h : q_H} (G : g1 p s h) : q_ln h (p + 1) = some (Int32.ofNat 8) := by
  unfold q_ln
  rw [G.2.1]
  rfl
theorem as1_2 {p : Nat} {s s' : g_S} {h : q_H} {i : Int32} {x : Int32} (G : g1 p s h) (e : u_si 8 s 2 i x = some s') : ∃ h', q_si h (p + 1) 1 i x = some h' ∧ g1 p s' h' ∧ ∀ a, ¬ f1 p a → h' a = h a := by
  unfold u_si at e
  split at e
  · next hin =>
    cases e
    unfold q_si
    rw [G.2.1]
    exact ⟨_, if_pos ⟨rfl, hin⟩, ⟨(va_up_of (by omega)).trans G.1, va_up_at _ _ _, (va_up_of (by omega)).trans G.2.2.1, (va_up_of (by omega)).trans G.2.2.2.1, (va_up_of (by omega)).trans G.2.2.2.2.1, (va_up_of (by omega)).trans G.2.2.2.2.2⟩, fun a ha => va_up_of (fun e => ha (by unfold f1; omega))⟩
  · cases e
theorem cp1_2 {p : Nat} {s s' : g_S} {h : q_H} {a0 n0 : Nat} {f : Nat → Int32} {sp dp n : Int32} (G : g1 p s h) (E : h a0 = .inl (1, n0, .inl f)) (e : u_cp n0 f sp 8 s 2 dp n = some s') : ∃ h', q_cp h a0 sp (p + 1) dp n = some h' ∧ g1 p s' h' ∧ ∀ a, ¬ f1 p a → h' a = h a := by
  unfold u_cp at e
  split at e
  · next hin =>
    cases e
    unfold q_cp
    rw [E, G.2.1]
    exact ⟨_, if_pos ⟨rfl, rfl, hin⟩, ⟨(va_up_of (by omega)).trans G.1, va_up_at _ _ _, (va_up_of (by omega)).trans G.2.2.1, (va_up_of (by omega)).trans G.2.2.2.1, (va_up_of (by omega)).trans G.2.2.2.2.1, (va_up_of (by omega)).trans G.2.2.2.2.2⟩, fun a ha => va_up_of (fun e => ha (by unfold f1; omega))⟩
  · cases e
theorem cl1_2 {p : Nat} {s : g_S} {h : q_H} (G : g1 p s h) : h (p + 1) = .inl (1, 8, .inl (g_A s 2)) := G.2.1
theorem gn1_3 {p : Nat} {s : g_S} {h : q_H} (G : g1 p s h) : q_gn h p 1 3 = some (p + 2) := by
  unfold q_gn q_fd
  rw [G.1]
  rfl
theorem ai1_3 {p : Nat} {s : g_S} {h : q_H} (G : g1 p s h) (i : Int32) : q_ai h (p + 2) 1 i = t_ai 8 (g_A s 3) i := by
  unfold q_ai t_ai
  rw [G.2.2.1]
  simp only [true_and]
theorem ln1_3 {p : Nat} {s : g_S} {h : q_H} (G : g1 p s h) : q_ln h (p + 2) = some (Int32.ofNat 8) := by
  unfold q_ln
  rw [G.2.2.1]
  rfl
theorem as1_3 {p : Nat} {s s' : g_S} {h : q_H} {i : Int32} {x : Int32} (G : g1 p s h) (e : u_si 8 s 3 i x = some s') : ∃ h', q_si h (p + 2) 1 i x = some h' ∧ g1 p s' h' ∧ ∀ a, ¬ f1 p a → h' a = h a := by
  unfold u_si at e
  split at e
  · next hin =>
    cases e
    unfold q_si
    rw [G.2.2.1]
    exact ⟨_, if_pos ⟨rfl, hin⟩, ⟨(va_up_of (by omega)).trans G.1, (va_up_of (by omega)).trans G.2.1, va_up_at _ _ _, (va_up_of (by omega)).trans G.2.2.2.1, (va_up_of (by omega)).trans G.2.2.2.2.1, (va_up_of (by omega)).trans G.2.2.2.2.2⟩, fun a ha => va_up_of (fun e => ha (by unfold f1; omega))⟩
  · cases e
theorem cp1_3 {p : Nat} {s s' : g_S} {h : q_H} {a0 n0 : Nat} {f : Nat → Int32} {sp dp n : Int32} (G : g1 p s h) (E : h a0 = .inl (1, n0, .inl f)) (e : u_cp n0 f sp 8 s 3 dp n = some s') : ∃ h', q_cp h a0 sp (p + 2) dp n = some h' ∧ g1 p s' h' ∧ ∀ a, ¬ f1 p a → h' a = h a := by
  unfold u_cp at e
  split at e
  · next hin =>
    cases e
    unfold q_cp
    rw [E, G.2.2.1]
    exact ⟨_, if_pos ⟨rfl, rfl, hin⟩, ⟨(va_up_of (by omega)).trans G.1, (va_up_of (by omega)).trans G.2.1, va_up_at _ _ _, (va_up_of (by omega)).trans G.2.2.2.1, (va_up_of (by omega)).trans G.2.2.2.2.1, (va_up_of (by omega)).trans G.2.2.2.2.2⟩, fun a ha => va_up_of (fun e => ha (by unfold f1; omega))⟩
  · cases e
theorem cl1_3 {p : Nat} {s : g_S} {h : q_H} (G : g1 p s h) : h (p + 2) = .inl (1, 8, .inl (g_A s 3)) := G.2.2.1
theorem gn1_4 {p : Nat} {s : g_S} {h : q_H} (G : g1 p s h) : q_gn h p 1 4 = some (p + 3) := by
  unfold q_gn q_fd
  rw [G.1]
  rfl
theorem ai1_4 {p : Nat} {s : g_S} {h : q_H} (G : g1 p s h) (i : Int32) : q_ai h (p + 3) 1 i = t_ai 2 (g_A s 4) i := by
  unfold q_ai t_ai
  rw [G.2.2.2.1]
  simp only [true_and]
theorem ln1_4 {p : Nat} {s : g_S} {h : q_H} (G : g1 p s h) : q_ln h (p + 3) = some (Int32.ofNat 2) := by
  unfold q_ln
  rw [G.2.2.2.1]
  rfl
theorem as1_4 {p : Nat} {s s' : g_S} {h : q_H} {i : Int32} {x : Int32} (G : g1 p s h) (e : u_si 2 s 4 i x = some s') : ∃ h', q_si h (p + 3) 1 i x = some h' ∧ g1 p s' h' ∧ ∀ a, ¬ f1 p a → h' a = h a := by
  unfold u_si at e
  split at e
  · next hin =>
    cases e
    unfold q_si
    rw [G.2.2.2.1]
    exact ⟨_, if_pos ⟨rfl, hin⟩, ⟨(va_up_of (by omega)).trans G.1, (va_up_of (by omega)).trans G.2.1, (va_up_of (by omega)).trans G.2.2.1, va_up_at _ _ _, (va_up_of (by omega)).trans G.2.2.2.2.1, (va_up_of (by omega)).trans G.2.2.2.2.2⟩, fun a ha => va_up_of (fun e => ha (by unfold f1; omega))⟩
  · cases e
theorem cp1_4 {p : Nat} {s s' : g_S} {h : q_H} {a0 n0 : Nat} {f : Nat → Int32} {sp dp n : Int32} (G : g1 p s h) (E : h a0 = .inl (1, n0, .inl f)) (e : u_cp n0 f sp 2 s 4 dp n = some s') : ∃ h', q_cp h a0 sp (p + 3) dp n = some h' ∧ g1 p s' h' ∧ ∀ a, ¬ f1 p a → h' a = h a := by
  unfold u_cp at e
  split at e
  · next hin =>
    cases e
    unfold q_cp
    rw [E, G.2.2.2.1]
    exact ⟨_, if_pos ⟨rfl, rfl, hin⟩, ⟨(va_up_of (by omega)).trans G.1, (va_up_of (by omega)).trans G.2.1, (va_up_of (by omega)).trans G.2.2.1, va_up_at _ _ _, (va_up_of (by omega)).trans G.2.2.2.2.1, (va_up_of (by omega)).trans G.2.2.2.2.2⟩, fun a ha => va_up_of (fun e => ha (by unfold f1; omega))⟩
  · cases e
theorem cl1_4 {p : Nat} {s : g_S} {h : q_H} (G : g1 p s h) : h (p + 3) = .inl (1, 2, .inl (g_A s 4)) := G.2.2.2.1
theorem gn1_5 {p : Nat} {s : g_S} {h : q_H} (G : g1 p s h) : q_gn h p 1 5 = some (p + 4) := by
  unfold q_gn q_fd
  rw [G.1]
  rfl
theorem ai1_5 {p : Nat} {s : g_S} {h : q_H} (G : g1 p s h) (i : Int32) : q_al h (p + 4) i = t_al 11 (g_L s 5) i := by
  unfold q_al t_al
  rw [G.2.2.2.2.1]
  simp only [true_and]
theorem ln1_5 {p : Nat} {s : g_S} {h : q_H} (G : g1 p s h) : q_ln h (p + 4) = some (Int32.ofNat 11) := by
  unfold q_ln
  rw [G.2.2.2.2.1]
  rfl
theorem as1_5 {p : Nat} {s s' : g_S} {h : q_H} {i : Int32} {x : Int64} (G : g1 p s h) (e : u_sl 11 s 5 i x = some s') : ∃ h', q_sl h (p + 4) i x = some h' ∧ g1 p s' h' ∧ ∀ a, ¬ f1 p a → h' a = h a := by
  unfold u_sl at e
  split at e
  · next hin =>
    cases e
    unfold q_sl
    rw [G.2.2.2.2.1]
    exact ⟨_, if_pos ⟨rfl, hin⟩, ⟨(va_up_of (by omega)).trans G.1, (va_up_of (by omega)).trans G.2.1, (va_up_of (by omega)).trans G.2.2.1, (va_up_of (by omega)).trans G.2.2.2.1, va_up_at _ _ _, (va_up_of (by omega)).trans G.2.2.2.2.2⟩, fun a ha => va_up_of (fun e => ha (by unfold f1; omega))⟩
  · cases e
theorem gn1_6 {p : Nat} {s : g_S} {h : q_H} (G : g1 p s h) : q_gn h p 1 6 = some (p + 5) := by
  unfold q_gn q_fd
  rw [G.1]
  rfl
theorem ai1_6 {p : Nat} {s : g_S} {h : q_H} (G : g1 p s h) (i : Int32) : q_al h (p + 5) i = t_al 64 (g_L s 6) i := by
  unfold q_al t_al
  rw [G.2.2.2.2.2]
  simp only [true_and]
theorem ln1_6 {p : Nat} {s : g_S} {h : q_H} (G : g1 p s h) : q_ln h (p + 5) = some (Int32.ofNat 64) := by
  unfold q_ln
  rw [G.2.2.2.2.2]
  rfl
theorem as1_6 {p : Nat} {s s' : g_S} {h : q_H} {i : Int32} {x : Int64} (G : g1 p s h) (e : u_sl 64 s 6 i x = some s') : ∃ h', q_sl h (p + 5) i x = some h' ∧ g1 p s' h' ∧ ∀ a, ¬ f1 p a → h' a = h a := by
  unfold u_sl at e
  split at e
  · next hin =>
    cases e
    unfold q_sl
    rw [G.2.2.2.2.2]
    exact ⟨_, if_pos ⟨rfl, hin⟩, ⟨(va_up_of (by omega)).trans G.1, (va_up_of (by omega)).trans G.2.1, (va_up_of (by omega)).trans G.2.2.1, (va_up_of (by omega)).trans G.2.2.2.1, (va_up_of (by omega)).trans G.2.2.2.2.1, va_up_at _ _ _⟩, fun a ha => va_up_of (fun e => ha (by unfold f1; omega))⟩
  · cases e
/-- a Game at p -/
def g0 (p : Nat) (s : g_S) (h : q_H) : Prop := h p = .inr (0, [va_rf (g_P s 0), va_rf (g_P s 1), .int (g_I s 2), .int (g_I s 3), .int (g_I s 4), .ref (p + 6), .ref (p + 7)]) ∧ h (p + 6) = .inl (1, 10, .inl (g_A s 5)) ∧ h (p + 7) = .inl (1, 10, .inl (g_A s 6))
def f0 (p a : Nat) : Prop := a = p ∨ a = p + 6 ∨ a = p + 7
theorem fr0 {p : Nat} {s : g_S} {h h' : q_H} (G : g0 p s h) (F : ∀ a, f0 p a → h' a = h a) : g0 p s h' := ⟨(F _ (by unfold f0; omega)).trans G.1, (F _ (by unfold f0; omega)).trans G.2.1, (F _ (by unfold f0; omega)).trans G.2.2⟩
theorem ca0 {p : Nat} {s : g_S} {h : q_H} (G : g0 p s h) {α : Type} {o : Option α} : q_ca 0 h p o = o := by
  unfold q_ca
  rw [G.1]
  rfl
theorem go0_0 {p : Nat} {s : g_S} {h : q_H} (G : g0 p s h) : q_go h p 0 0 = some (g_P s 0) := by
  unfold q_go q_fd
  rw [G.1]
  exact va_rf_o _
theorem gp0_0 {p q : Nat} {s : g_S} {h : q_H} (G : g0 p s h) (e : g_P s 0 = some q) : q_gn h p 0 0 = some q := by
  unfold q_gn q_fd
  rw [G.1]
  exact va_rf_n e
theorem pp0_0 {p : Nat} {s : g_S} {h : q_H} (v : Option Nat) (G : g0 p s h) : ∃ h', q_pf h p 0 0 (va_rf v) = some h' ∧ g0 p (g_sp s 0 v) h' ∧ ∀ a, ¬ f0 p a → h' a = h a := by
  unfold q_pf
  rw [G.1]
  exact ⟨_, if_pos ⟨rfl, Nat.le_of_ble_eq_true rfl⟩, ⟨va_up_at _ _ _, (va_up_of (by omega)).trans G.2.1, (va_up_of (by omega)).trans G.2.2⟩, fun a ha => va_up_of (fun e => ha (by unfold f0; omega))⟩
theorem go0_1 {p : Nat} {s : g_S} {h : q_H} (G : g0 p s h) : q_go h p 0 1 = some (g_P s 1) := by
  unfold q_go q_fd
  rw [G.1]
  exact va_rf_o _
theorem gp0_1 {p q : Nat} {s : g_S} {h : q_H} (G : g0 p s h) (e : g_P s 1 = some q) : q_gn h p 0 1 = some q := by
  unfold q_gn q_fd
  rw [G.1]
  exact va_rf_n e
theorem pp0_1 {p : Nat} {s : g_S} {h : q_H} (v : Option Nat) (G : g0 p s h) : ∃ h', q_pf h p 0 1 (va_rf v) = some h' ∧ g0 p (g_sp s 1 v) h' ∧ ∀ a, ¬ f0 p a → h' a = h a := by
  unfold q_pf
  rw [G.1]
  exact ⟨_, if_pos ⟨rfl, Nat.le_of_ble_eq_true rfl⟩, ⟨va_up_at _ _ _, (va_up_of (by omega)).trans G.2.1, (va_up_of (by omega)).trans G.2.2⟩, fun a ha => va_up_of (fun e => ha (by unfold f0; omega))⟩
theorem gi0_2 {p : Nat} {s : g_S} {h : q_H} (G : g0 p s h) : q_gi h p 0 2 = some (g_I s 2) := by
  unfold q_gi q_fd
  rw [G.1]
  rfl
theorem pi0_2 {p : Nat} {s : g_S} {h : q_H} (v : Int32) (G : g0 p s h) : ∃ h', q_pf h p 0 2 (.int v) = some h' ∧ g0 p (g_si s 2 v) h' ∧ ∀ a, ¬ f0 p a → h' a = h a := by
  unfold q_pf
  rw [G.1]
  exact ⟨_, if_pos ⟨rfl, Nat.le_of_ble_eq_true rfl⟩, ⟨va_up_at _ _ _, (va_up_of (by omega)).trans G.2.1, (va_up_of (by omega)).trans G.2.2⟩, fun a ha => va_up_of (fun e => ha (by unfold f0; omega))⟩
theorem gi0_3 {p : Nat} {s : g_S} {h : q_H} (G : g0 p s h) : q_gi h p 0 3 = some (g_I s 3) := by
  unfold q_gi q_fd
  rw [G.1]
  rfl
theorem pi0_3 {p : Nat} {s : g_S} {h : q_H} (v : Int32) (G : g0 p s h) : ∃ h', q_pf h p 0 3 (.int v) = some h' ∧ g0 p (g_si s 3 v) h' ∧ ∀ a, ¬ f0 p a → h' a = h a := by
  unfold q_pf
  rw [G.1]
  exact ⟨_, if_pos ⟨rfl, Nat.le_of_ble_eq_true rfl⟩, ⟨va_up_at _ _ _, (va_up_of (by omega)).trans G.2.1, (va_up_of (by omega)).trans G.2.2⟩, fun a ha => va_up_of (fun e => ha (by unfold f0; omega))⟩
theorem gi0_4 {p : Nat} {s : g_S} {h : q_H} (G : g0 p s h) : q_gi h p 0 4 = some (g_I s 4) := by
  unfold q_gi q_fd
  rw [G.1]
  rfl
theorem pi0_4 {p : Nat} {s : g_S} {h : q_H} (v : Int32) (G : g0 p s h) : ∃ h', q_pf h p 0 4 (.int v) = some h' ∧ g0 p (g_si s 4 v) h' ∧ ∀ a, ¬ f0 p a → h' a = h a := by
  unfold q_pf
  rw [G.1]
  exact ⟨_, if_pos ⟨rfl, Nat.le_of_ble_eq_true rfl⟩, ⟨va_up_at _ _ _, (va_up_of (by omega)).trans G.2.1, (va_up_of (by omega)).trans G.2.2⟩, fun a ha => va_up_of (fun e => ha (by unfold f0; omega))⟩
theorem gn0_5 {p : Nat} {s : g_S} {h : q_H} (G : g0 p s h) : q_gn h p 0 5 = some (p + 6) := by
  unfold q_gn q_fd
  rw [G.1]
  rfl
theorem ai0_5 {p : Nat} {s : g_S} {h : q_H} (G : g0 p s h) (i : Int32) : q_ai h (p + 6) 1 i = t_ai 10 (g_A s 5) i := by
  unfold q_ai t_ai
  rw [G.2.1]
  simp only [true_and]
theorem ln0_5 {p : Nat} {s : g_S} {h : q_H} (G : g0 p s h) : q_ln h (p + 6) = some (Int32.ofNat 10) := by
  unfold q_ln
  rw [G.2.1]
  rfl
theorem as0_5 {p : Nat} {s s' : g_S} {h : q_H} {i : Int32} {x : Int32} (G : g0 p s h) (e : u_si 10 s 5 i x = some s') : ∃ h', q_si h (p + 6) 1 i x = some h' ∧ g0 p s' h' ∧ ∀ a, ¬ f0 p a → h' a = h a := by
  unfold u_si at e
  split at e
  · next hin =>
    cases e
    unfold q_si
    rw [G.2.1]
    exact ⟨_, if_pos ⟨rfl, hin⟩, ⟨(va_up_of (by omega)).trans G.1, va_up_at _ _ _, (va_up_of (by omega)).trans G.2.2⟩, fun a ha => va_up_of (fun e => ha (by unfold f0; omega))⟩
  · cases e
theorem cp0_5 {p : Nat} {s s' : g_S} {h : q_H} {a0 n0 : Nat} {f : Nat → Int32} {sp dp n : Int32} (G : g0 p s h) (E : h a0 = .inl (1, n0, .inl f)) (e : u_cp n0 f sp 10 s 5 dp n = some s') : ∃ h', q_cp h a0 sp (p + 6) dp n = some h' ∧ g0 p s' h' ∧ ∀ a, ¬ f0 p a → h' a = h a := by
  unfold u_cp at e
  split at e
  · next hin =>
    cases e
    unfold q_cp
    rw [E, G.2.1]
    exact ⟨_, if_pos ⟨rfl, rfl, hin⟩, ⟨(va_up_of (by omega)).trans G.1, va_up_at _ _ _, (va_up_of (by omega)).trans G.2.2⟩, fun a ha => va_up_of (fun e => ha (by unfold f0; omega))⟩
  · cases e
theorem cl0_5 {p : Nat} {s : g_S} {h : q_H} (G : g0 p s h) : h (p + 6) = .inl (1, 10, .inl (g_A s 5)) := G.2.1
theorem gn0_6 {p : Nat} {s : g_S} {h : q_H} (G : g0 p s h) : q_gn h p 0 6 = some (p + 7) := by
  unfold q_gn q_fd
  rw [G.1]
  rfl
theorem ai0_6 {p : Nat} {s : g_S} {h : q_H} (G : g0 p s h) (i : Int32) : q_ai h (p + 7) 1 i = t_ai 10 (g_A s 6) i := by
  unfold q_ai t_ai
  rw [G.2.2]
  simp only [true_and]
theorem ln0_6 {p : Nat} {s : g_S} {h : q_H} (G : g0 p s h) : q_ln h (p + 7) = some (Int32.ofNat 10) := by
  unfold q_ln
  rw [G.2.2]
  rfl
theorem as0_6 {p : Nat} {s s' : g_S} {h : q_H} {i : Int32} {x : Int32} (G : g0 p s h) (e : u_si 10 s 6 i x = some s') : ∃ h', q_si h (p + 7) 1 i x = some h' ∧ g0 p s' h' ∧ ∀ a, ¬ f0 p a → h' a = h a := by
  unfold u_si at e
  split at e
  · next hin =>
    cases e
    unfold q_si
    rw [G.2.2]
    exact ⟨_, if_pos ⟨rfl, hin⟩, ⟨(va_up_of (by omega)).trans G.1, (va_up_of (by omega)).trans G.2.1, va_up_at _ _ _⟩, fun a ha => va_up_of (fun e => ha (by unfold f0; omega))⟩
  · cases e
theorem cp0_6 {p : Nat} {s s' : g_S} {h : q_H} {a0 n0 : Nat} {f : Nat → Int32} {sp dp n : Int32} (G : g0 p s h) (E : h a0 = .inl (1, n0, .inl f)) (e : u_cp n0 f sp 10 s 6 dp n = some s') : ∃ h', q_cp h a0 sp (p + 7) dp n = some h' ∧ g0 p s' h' ∧ ∀ a, ¬ f0 p a → h' a = h a := by
  unfold u_cp at e
  split at e
  · next hin =>
    cases e
    unfold q_cp
    rw [E, G.2.2]
    exact ⟨_, if_pos ⟨rfl, rfl, hin⟩, ⟨(va_up_of (by omega)).trans G.1, (va_up_of (by omega)).trans G.2.1, va_up_at _ _ _⟩, fun a ha => va_up_of (fun e => ha (by unfold f0; omega))⟩
  · cases e
theorem cl0_6 {p : Nat} {s : g_S} {h : q_H} (G : g0 p s h) : h (p + 7) = .inl (1, 10, .inl (g_A s 6)) := G.2.2
/-- a TugRope at p -/
def g11 (p : Nat) (s : g_S) (h : q_H) : Prop := h p = .inr (11, [va_rf (g_P s 0), va_rf (g_P s 1), va_rf (g_P s 2), va_rf (g_P s 3), .int (g_I s 4), va_rf (g_P s 5), va_rf (g_P s 6), va_rf (g_P s 7), va_rf (g_P s 8), va_rf (g_P s 9)])
def f11 (p a : Nat) : Prop := a = p
theorem fr11 {p : Nat} {s : g_S} {h h' : q_H} (G : g11 p s h) (F : ∀ a, f11 p a → h' a = h a) : g11 p s h' := (F _ (by unfold f11; omega)).trans G
theorem ca11 {p : Nat} {s : g_S} {h : q_H} (G : g11 p s h) {α : Type} {o : Option α} : q_ca 11 h p o = o := by
  unfold q_ca
  rw [G]
  rfl
theorem go11_0 {p : Nat} {s : g_S} {h : q_H} (G : g11 p s h) : q_go h p 11 0 = some (g_P s 0) := by
  unfold q_go q_fd
  rw [G]
  exact va_rf_o _
theorem gp11_0 {p q : Nat} {s : g_S} {h : q_H} (G : g11 p s h) (e : g_P s 0 = some q) : q_gn h p 11 0 = some q := by
  unfold q_gn q_fd
  rw [G]
  exact va_rf_n e
theorem pp11_0 {p : Nat} {s : g_S} {h : q_H} (v : Option Nat) (G : g11 p s h) : ∃ h', q_pf h p 11 0 (va_rf v) = some h' ∧ g11 p (g_sp s 0 v) h' ∧ ∀ a, ¬ f11 p a → h' a = h a := by
  unfold q_pf
  rw [G]
  exact ⟨_, if_pos ⟨rfl, Nat.le_of_ble_eq_true rfl⟩, va_up_at _ _ _, fun a ha => va_up_of (fun e => ha (by unfold f11; omega))⟩
theorem go11_1 {p : Nat} {s : g_S} {h : q_H} (G : g11 p s h) : q_go h p 11 1 = some (g_P s 1) := by
  unfold q_go q_fd
  rw [G]
  exact va_rf_o _
theorem gp11_1 {p q : Nat} {s : g_S} {h : q_H} (G : g11 p s h) (e : g_P s 1 = some q) : q_gn h p 11 1 = some q := by
  unfold q_gn q_fd
  rw [G]
  exact va_rf_n e
theorem pp11_1 {p : Nat} {s : g_S} {h : q_H} (v : Option Nat) (G : g11 p s h) : ∃ h', q_pf h p 11 1 (va_rf v) = some h' ∧ g11 p (g_sp s 1 v) h' ∧ ∀ a, ¬ f11 p a → h' a = h a := by
  unfold q_pf
  rw [G]
  exact ⟨_, if_pos ⟨rfl, Nat.le_of_ble_eq_true rfl⟩, va_up_at _ _ _, fun a ha => va_up_of (fun e => ha (by unfold f11; omega))⟩
theorem go11_2 {p : Nat} {s : g_S} {h : q_H} (G : g11 p s h) : q_go h p 11 2 = some (g_P s 2) := by
  unfold q_go q_fd
  rw [G]
  exact va_rf_o _
theorem gp11_2 {p q : Nat} {s : g_S} {h : q_H} (G : g11 p s h) (e : g_P s 2 = some q) : q_gn h p 11 2 = some q := by
  unfold q_gn q_fd
  rw [G]
  exact va_rf_n e
theorem pp11_2 {p : Nat} {s : g_S} {h : q_H} (v : Option Nat) (G : g11 p s h) : ∃ h', q_pf h p 11 2 (va_rf v) = some h' ∧ g11 p (g_sp s 2 v) h' ∧ ∀ a, ¬ f11 p a → h' a = h a := by
  unfold q_pf
  rw [G]
  exact ⟨_, if_pos ⟨rfl, Nat.le_of_ble_eq_true rfl⟩, va_up_at _ _ _, fun a ha => va_up_of (fun e => ha (by unfold f11; omega))⟩
theorem go11_3 {p : Nat} {s : g_S} {h : q_H} (G : g11 p s h) : q_go h p 11 3 = some (g_P s 3) := by
  unfold q_go q_fd
  rw [G]
  exact va_rf_o _
theorem gp11_3 {p q : Nat} {s : g_S} {h : q_H} (G : g11 p s h) (e : g_P s 3 = some q) : q_gn h p 11 3 = some q := by
  unfold q_gn q_fd
  rw [G]
  exact va_rf_n e
theorem pp11_3 {p : Nat} {s : g_S} {h : q_H} (v : Option Nat) (G : g11 p s h) : ∃ h', q_pf h p 11 3 (va_rf v) = some h' ∧ g11 p (g_sp s 3 v) h' ∧ ∀ a, ¬ f11 p a → h' a = h a := by
  unfold q_pf
  rw [G]
  exact ⟨_, if_pos ⟨rfl, Nat.le_of_ble_eq_true rfl⟩, va_up_at _ _ _, fun a ha => va_up_of (fun e => ha (by unfold f11; omega))⟩
theorem gi11_4 {p : Nat} {s : g_S} {h : q_H} (G : g11 p s h) : q_gi h p 11 4 = some (g_I s 4) := by
  unfold q_gi q_fd
  rw [G]
  rfl
theorem pi11_4 {p : Nat} {s : g_S} {h : q_H} (v : Int32) (G : g11 p s h) : ∃ h', q_pf h p 11 4 (.int v) = some h' ∧ g11 p (g_si s 4 v) h' ∧ ∀ a, ¬ f11 p a → h' a = h a := by
  unfold q_pf
  rw [G]
  exact ⟨_, if_pos ⟨rfl, Nat.le_of_ble_eq_true rfl⟩, va_up_at _ _ _, fun a ha => va_up_of (fun e => ha (by unfold f11; omega))⟩
theorem go11_5 {p : Nat} {s : g_S} {h : q_H} (G : g11 p s h) : q_go h p 11 5 = some (g_P s 5) := by
  unfold q_go q_fd
  rw [G]
  exact va_rf_o _
theorem gp11_5 {p q : Nat} {s : g_S} {h : q_H} (G : g11 p s h) (e : g_P s 5 = some q) : q_gn h p 11 5 = some q := by
  unfold q_gn q_fd
  rw [G]
  exact va_rf_n e
theorem pp11_5 {p : Nat} {s : g_S} {h : q_H} (v : Option Nat) (G : g11 p s h) : ∃ h', q_pf h p 11 5 (va_rf v) = some h' ∧ g11 p (g_sp s 5 v) h' ∧ ∀ a, ¬ f11 p a → h' a = h a := by
  unfold q_pf
  rw [G]
  exact ⟨_, if_pos ⟨rfl, Nat.le_of_ble_eq_true rfl⟩, va_up_at _ _ _, fun a ha => va_up_of (fun e => ha (by unfold f11; omega))⟩
theorem go11_6 {p : Nat} {s : g_S} {h : q_H} (G : g11 p s h) : q_go h p 11 6 = some (g_P s 6) := by
  unfold q_go q_fd
  rw [G]
  exact va_rf_o _
theorem gp11_6 {p q : Nat} {s : g_S} {h : q_H} (G : g11 p s h) (e : g_P s 6 = some q) : q_gn h p 11 6 = some q := by
  unfold q_gn q_fd
  rw [G]
  exact va_rf_n e
theorem pp11_6 {p : Nat} {s : g_S} {h : q_H} (v : Option Nat) (G : g11 p s h) : ∃ h', q_pf h p 11 6 (va_rf v) = some h' ∧ g11 p (g_sp s 6 v) h' ∧ ∀ a, ¬ f11 p a → h' a = h a := by
  unfold q_pf
  rw [G]
  exact ⟨_, if_pos ⟨rfl, Nat.le_of_ble_eq_true rfl⟩, va_up_at _ _ _, fun a ha => va_up_of (fun e => ha (by unfold f11; omega))⟩
theorem go11_7 {p : Nat} {s : g_S} {h : q_H} (G : g11 p s h) : q_go h p 11 7 = some (g_P s 7) := by
  unfold q_go q_fd
  rw [G]
  exact va_rf_o _
theorem gp11_7 {p q : Nat} {s : g_S} {h : q_H} (G : g11 p s h) (e : g_P s 7 = some q) : q_gn h p 11 7 = some q := by
  unfold q_gn q_fd
  rw [G]
  exact va_rf_n e
theorem pp11_7 {p : Nat} {s : g_S} {h : q_H} (v : Option Nat) (G : g11 p s h) : ∃ h', q_pf h p 11 7 (va_rf v) = some h' ∧ g11 p (g_sp s 7 v) h' ∧ ∀ a, ¬ f11 p a → h' a = h a := by
  unfold q_pf
  rw [G]
  exact ⟨_, if_pos ⟨rfl, Nat.le_of_ble_eq_true rfl⟩, va_up_at _ _ _, fun a ha => va_up_of (fun e => ha (by unfold f11; omega))⟩
theorem go11_8 {p : Nat} {s : g_S} {h : q_H} (G : g11 p s h) : q_go h p 11 8 = some (g_P s 8) := by
  unfold q_go q_fd
  rw [G]
  exact va_rf_o _
theorem gp11_8 {p q : Nat} {s : g_S} {h : q_H} (G : g11 p s h) (e : g_P s 8 = some q) : q_gn h p 11 8 = some q := by
  unfold q_gn q_fd
  rw [G]
  exact va_rf_n e
theorem pp11_8 {p : Nat} {s : g_S} {h : q_H} (v : Option Nat) (G : g11 p s h) : ∃ h', q_pf h p 11 8 (va_rf v) = some h' ∧ g11 p (g_sp s 8 v) h' ∧ ∀ a, ¬ f11 p a → h' a = h a := by
  unfold q_pf
  rw [G]
  exact ⟨_, if_pos ⟨rfl, Nat.le_of_ble_eq_true rfl⟩, va_up_at _ _ _, fun a ha => va_up_of (fun e => ha (by unfold f11; omega))⟩
theorem go11_9 {p : Nat} {s : g_S} {h : q_H} (G : g11 p s h) : q_go h p 11 9 = some (g_P s 9) := by
  unfold q_go q_fd
  rw [G]
  exact va_rf_o _
theorem gp11_9 {p q : Nat} {s : g_S} {h : q_H} (G : g11 p s h) (e : g_P s 9 = some q) : q_gn h p 11 9 = some q := by
  unfold q_gn q_fd
  rw [G]
  exact va_rf_n e
theorem pp11_9 {p : Nat} {s : g_S} {h : q_H} (v : Option Nat) (G : g11 p s h) : ∃ h', q_pf h p 11 9 (va_rf v) = some h' ∧ g11 p (g_sp s 9 v) h' ∧ ∀ a, ¬ f11 p a → h' a = h a := by
  unfold q_pf
  rw [G]
  exact ⟨_, if_pos ⟨rfl, Nat.le_of_ble_eq_true rfl⟩, va_up_at _ _ _, fun a ha => va_up_of (fun e => ha (by unfold f11; omega))⟩
/-- a Past at p -/
def g2 (p : Nat) (s : g_S) (h : q_H) : Prop := h p = .inr (2, [va_rf (g_P s 0), .int (g_I s 1), .int (g_I s 2)])
def f2 (p a : Nat) : Prop := a = p
theorem fr2 {p : Nat} {s : g_S} {h h' : q_H} (G : g2 p s h) (F : ∀ a, f2 p a → h' a = h a) : g2 p s h' := (F _ (by unfold f2; omega)).trans G
theorem ca2 {p : Nat} {s : g_S} {h : q_H} (G : g2 p s h) {α : Type} {o : Option α} : q_ca 2 h p o = o := by
  unfold q_ca
  rw [G]
  rfl
theorem go2_0 {p : Nat} {s : g_S} {h : q_H} (G : g2 p s h) : q_go h p 2 0 = some (g_P s 0) := by
  unfold q_go q_fd
  rw [G]
  exact va_rf_o _
theorem gp2_0 {p q : Nat} {s : g_S} {h : q_H} (G : g2 p s h) (e : g_P s 0 = some q) : q_gn h p 2 0 = some q := by
  unfold q_gn q_fd
  rw [G]
  exact va_rf_n e
theorem pp2_0 {p : Nat} {s : g_S} {h : q_H} (v : Option Nat) (G : g2 p s h) : ∃ h', q_pf h p 2 0 (va_rf v) = some h' ∧ g2 p (g_sp s 0 v) h' ∧ ∀ a, ¬ f2 p a → h' a = h a := by
  unfold q_pf
  rw [G]
  exact ⟨_, if_pos ⟨rfl, Nat.le_of_ble_eq_true rfl⟩, va_up_at _ _ _, fun a ha => va_up_of (fun e => ha (by unfold f2; omega))⟩
theorem gi2_1 {p : Nat} {s : g_S} {h : q_H} (G : g2 p s h) : q_gi h p 2 1 = some (g_I s 1) := by
  unfold q_gi q_fd
  rw [G]
  rfl
theorem pi2_1 {p : Nat} {s : g_S} {h : q_H} (v : Int32) (G : g2 p s h) : ∃ h', q_pf h p 2 1 (.int v) = some h' ∧ g2 p (g_si s 1 v) h' ∧ ∀ a, ¬ f2 p a → h' a = h a := by
  unfold q_pf
  rw [G]
  exact ⟨_, if_pos ⟨rfl, Nat.le_of_ble_eq_true rfl⟩, va_up_at _ _ _, fun a ha => va_up_of (fun e => ha (by unfold f2; omega))⟩
theorem gi2_2 {p : Nat} {s : g_S} {h : q_H} (G : g2 p s h) : q_gi h p 2 2 = some (g_I s 2) := by
  unfold q_gi q_fd
  rw [G]
  rfl
theorem pi2_2 {p : Nat} {s : g_S} {h : q_H} (v : Int32) (G : g2 p s h) : ∃ h', q_pf h p 2 2 (.int v) = some h' ∧ g2 p (g_si s 2 v) h' ∧ ∀ a, ¬ f2 p a → h' a = h a := by
  unfold q_pf
  rw [G]
  exact ⟨_, if_pos ⟨rfl, Nat.le_of_ble_eq_true rfl⟩, va_up_at _ _ _, fun a ha => va_up_of (fun e => ha (by unfold f2; omega))⟩
/-- a row of longs at p -/
def g20 (p : Nat) (s : g_S) (h : q_H) : Prop := h p = .inl (2, g_N s 0, .inr (.inl (g_L s 0)))
def f20 (p a : Nat) : Prop := a = p
theorem fr20 {p : Nat} {s : g_S} {h h' : q_H} (G : g20 p s h) (F : ∀ a, f20 p a → h' a = h a) : g20 p s h' := (F _ rfl).trans G
theorem ai20_0 {p : Nat} {s : g_S} {h : q_H} (G : g20 p s h) (i : Int32) : q_al h p i = t_al (g_N s 0) (g_L s 0) i := by
  unfold q_al t_al
  rw [G]
  simp only [true_and]
theorem ln20_0 {p : Nat} {s : g_S} {h : q_H} (G : g20 p s h) : q_ln h p = some (Int32.ofNat (g_N s 0)) := by
  unfold q_ln
  rw [G]
  rfl
theorem as20_0 {p : Nat} {s s' : g_S} {h : q_H} {i : Int32} {x : Int64} (G : g20 p s h) (e : u_sl (g_N s 0) s 0 i x = some s') : ∃ h', q_sl h p i x = some h' ∧ g20 p s' h' ∧ ∀ a, ¬ f20 p a → h' a = h a := by
  unfold u_sl at e
  split at e
  · next hin =>
    cases e
    unfold q_sl
    rw [G]
    exact ⟨_, if_pos ⟨rfl, hin⟩, va_up_at _ _ _, fun a ha => va_up_of ha⟩
  · cases e
theorem u_sl_N {n k : Nat} {s s' : g_S} {i : Int32} {x : Int64} (e : u_sl n s k i x = some s') : g_N s' = g_N s := by
  unfold u_sl at e
  split at e
  · cases e; rfl
  · cases e
/-- a Heaver's row of longs, by itself -/
def g_row (s : g_S) (k n : Nat) : g_S := (fun _ => 0, fun _ _ => 0, fun _ => g_L s k, fun _ => none, fun _ => n)
theorem hv_5 {p : Nat} {s : g_S} {h : q_H} (G : g1 p s h) : g20 (p + 4) (g_row s 5 11) h := G.2.2.2.2.1
theorem hv_6 {p : Nat} {s : g_S} {h : q_H} (G : g1 p s h) : g20 (p + 5) (g_row s 6 64) h := G.2.2.2.2.2
theorem hv_back {p : Nat} {s k' : g_S} {h h' : q_H} (G : g1 p s h) (K : g20 (p + 5) k' h') (N : g_N k' = g_N (g_row s 6 64)) (F : ∀ a, ¬ f20 (p + 5) a → h' a = h a) : g1 p (g_sl s 6 (g_L k' 0)) h' ∧ ∀ a, ¬ f1 p a → h' a = h a := by
  have e : ∀ a, a ≠ p + 5 → h' a = h a := F
  refine ⟨⟨(e _ (by omega)).trans G.1, (e _ (by omega)).trans G.2.1, (e _ (by omega)).trans G.2.2.1, (e _ (by omega)).trans G.2.2.2.1, (e _ (by omega)).trans G.2.2.2.2.1, ?_⟩, fun a ha => e a (fun q => ha (by unfold f1; omega))⟩
  have k : h' (p + 5) = .inl (2, g_N k' 0, .inr (.inl (g_L k' 0))) := K
  rw [k, N]
  rfl
