/-! ===== the reference as a typed state: scalars, rows of ints (bytes, truth values), rows of longs, the draw; by the number of the field ===== -/
abbrev r_S : Type := (Nat → Int32) × (Nat → Nat → Int32) × (Nat → Nat → Int64) × Int64
def r_I (s : r_S) (k : Nat) : Int32 := s.1 k
def r_A (s : r_S) (k : Nat) : Nat → Int32 := s.2.1 k
def r_L (s : r_S) (k : Nat) : Nat → Int64 := s.2.2.1 k
def r_D (s : r_S) : Int64 := s.2.2.2
def r_si (s : r_S) (k : Nat) (v : Int32) : r_S := (va_up s.1 k v, s.2)
def r_sa (s : r_S) (k : Nat) (f : Nat → Int32) : r_S := (s.1, va_up s.2.1 k f, s.2.2)
def r_sl (s : r_S) (k : Nat) (f : Nat → Int64) : r_S := (s.1, s.2.1, va_up s.2.2.1 k f, s.2.2.2)
def r_sd (s : r_S) (v : Int64) : r_S := (s.1, s.2.1, s.2.2.1, v)
def r_fs (b : Nat) (s : r_S) : List Value := [.ref (b + 1), .int (r_I s 1), .int (r_I s 2), .ref (b + 2), .ref (b + 3), .ref (b + 4), .ref (b + 5), .ref (b + 6), .int (r_I s 8), .int (r_I s 9), .int (r_I s 10), .int (r_I s 11), .int (r_I s 12), .int (r_I s 13), .int (r_I s 14), .ref (b + 7), .int (r_I s 16), .ref (b + 8), .int (r_I s 18), .ref (b + 9), .ref (b + 10), .int (r_I s 21), .int (r_I s 22), .ref (b + 11), .ref (b + 12), .ref (b + 13), .int (r_I s 26), .ref (b + 14), .ref (b + 15), .ref (b + 16), .ref (b + 17), .ref (b + 18), .long (r_D s), .ref (b + 19), .ref (b + 20), .ref (b + 21), .ref (b + 22)]
def r_c (b : Nat) (s : r_S) (i : Nat) : va_E := match i with
  | 0 => .inr (12, r_fs b s)
  | 1 => .inl (0, 400, .inl (r_A s 0))
  | 2 => .inl (1, 2400, .inl (r_A s 3))
  | 3 => .inl (1, 7, .inl (r_A s 4))
  | 4 => .inl (1, 288, .inl (r_A s 5))
  | 5 => .inl (1, 6, .inl (r_A s 6))
  | 6 => .inl (1, 85, .inl (r_A s 7))
  | 7 => .inl (1, 400, .inl (r_A s 15))
  | 8 => .inl (2, 64, .inr (.inl (r_L s 17)))
  | 9 => .inl (2, 11, .inr (.inl (r_L s 19)))
  | 10 => .inl (1, 106, .inl (r_A s 20))
  | 11 => .inl (1, 8, .inl (r_A s 23))
  | 12 => .inl (1, 8, .inl (r_A s 24))
  | 13 => .inl (1, 840, .inl (r_A s 25))
  | 14 => .inl (1, 42, .inl (r_A s 27))
  | 15 => .inl (1, 32, .inl (r_A s 28))
  | 16 => .inl (1, 610, .inl (r_A s 29))
  | 17 => .inl (3, 7, .inl (r_A s 30))
  | 18 => .inl (1, 427, .inl (r_A s 31))
  | 19 => .inl (1, 424, .inl (r_A s 33))
  | 20 => .inl (1, 4, .inl (r_A s 34))
  | 21 => .inl (1, 4, .inl (r_A s 35))
  | 22 => .inl (3, 4, .inl (r_A s 36))
  | _ => q_no
def r_H (b : Nat) (s : r_S) (h0 : q_H) : q_H := fun a => if b ≤ a ∧ a < b + 23 then r_c b s (a - b) else h0 a
theorem r_at {b : Nat} {s : r_S} {h0 : q_H} (j : Nat) (hj : j < 23) : r_H b s h0 (b + j) = r_c b s j := by
  unfold r_H
  rw [if_pos ⟨by omega, by omega⟩, Nat.add_sub_cancel_left]
theorem r_up {b : Nat} {s s' : r_S} {h0 : q_H} {c : va_E} (j : Nat) (hj : j < 23) (h1 : r_c b s' j = c) (h2 : ∀ i, i ≠ j → r_c b s' i = r_c b s i) : va_up (r_H b s h0) (b + j) c = r_H b s' h0 := by
  funext a
  unfold va_up r_H
  by_cases e : a = b + j
  · subst e
    rw [if_pos rfl, if_pos ⟨by omega, by omega⟩, Nat.add_sub_cancel_left, h1]
  · rw [if_neg e]
    by_cases e2 : b ≤ a ∧ a < b + 23
    · rw [if_pos e2, if_pos e2, h2 _ (by omega)]
    · rw [if_neg e2, if_neg e2]
def t_ai (n : Nat) (f : Nat → Int32) (i : Int32) : Option Int32 := if q_in i n then some (f i.toNatClampNeg) else none
def t_al (n : Nat) (f : Nat → Int64) (i : Int32) : Option Int64 := if q_in i n then some (f i.toNatClampNeg) else none
def t_si (n : Nat) (s : r_S) (k : Nat) (i x : Int32) : Option r_S := if q_in i n then some (r_sa s k (upd (r_A s k) i.toNatClampNeg x)) else none
def t_sl (n : Nat) (s : r_S) (k : Nat) (i : Int32) (x : Int64) : Option r_S := if q_in i n then some (r_sl s k (vp_updL (r_L s k) i.toNatClampNeg x)) else none
section RT
variable {b : Nat} {s : r_S} {h0 : q_H} {α β : Type} {ρ : α} {τ : β}
theorem r_if {c : Prop} {A B : Option α} {A' B' : Option β} (i1 : Decidable c) (i2 : Decidable c) (hm : (@ite _ c i2 A' B') = some τ) (k1 : c → A' = some τ → A = some ρ) (k2 : ¬ c → B' = some τ → B = some ρ) : (@ite _ c i1 A B) = some ρ := by
  by_cases h : c
  · rw [if_pos h] at hm
    rw [if_pos h]
    exact k1 h hm
  · rw [if_neg h] at hm
    rw [if_neg h]
    exact k2 h hm
theorem r_bd {γ : Type} {o : Option γ} {f : γ → Option α} {g : γ → Option β} (hm : o.bind g = some τ) (kk : ∀ w, g w = some τ → f w = some ρ) : o.bind f = some ρ := by
  obtain ⟨w, e, hm⟩ := q_b hm
  rw [e]
  exact kk w hm
theorem r_ok {b : Nat} {s : r_S} {h0 : q_H} : ∃ fs, r_H b s h0 b = .inr (12, fs) := ⟨r_fs b s, r_at 0 (by omega)⟩
theorem r_ca {o : Option α} : q_ca 12 (r_H b s h0) b o = o := by
  unfold q_ca
  rw [show r_H b s h0 b = .inr (12, r_fs b s) from r_at 0 (by omega)]
  rfl
theorem r_cS {o : Option (α × q_H)} {o' : Option (α × r_S)} {γ δ : Type} {ρ : γ} {τ : δ} {f : α × q_H → Option γ} {g : α × r_S → Option δ} (hl : ∀ r s', o' = some (r, s') → o = some (r, r_H b s' h0)) (hm : o'.bind g = some τ) (kk : ∀ r s', g (r, s') = some τ → f (r, r_H b s' h0) = some ρ) : (q_ca 12 (r_H b s h0) b o).bind f = some ρ := by
  rw [r_ca]
  obtain ⟨⟨r, s'⟩, e, hm⟩ := q_b hm
  rw [hl r s' e]
  exact kk r s' hm
theorem r_cV {o : Option q_H} {o' : Option r_S} {γ δ : Type} {ρ : γ} {τ : δ} {f : q_H → Option γ} {g : r_S → Option δ} (hl : ∀ s', o' = some s' → o = some (r_H b s' h0)) (hm : o'.bind g = some τ) (kk : ∀ s', g s' = some τ → f (r_H b s' h0) = some ρ) : (q_ca 12 (r_H b s h0) b o).bind f = some ρ := by
  rw [r_ca]
  obtain ⟨s', e, hm⟩ := q_b hm
  rw [hl s' e]
  exact kk s' hm
theorem r_cP {o o' : Option α} {γ δ : Type} {ρ : γ} {τ : δ} {f : α → Option γ} {g : α → Option δ} (hl : ∀ r, o' = some r → o = some r) (hm : o'.bind g = some τ) (kk : ∀ r, g r = some τ → f r = some ρ) : (q_ca 12 (r_H b s h0) b o).bind f = some ρ := by
  rw [r_ca]
  obtain ⟨r, e, hm⟩ := q_b hm
  rw [hl r e]
  exact kk r hm
theorem r_retS {x r : α} {s' : r_S} (hm : some (x, s) = some (r, s')) : some (x, r_H b s h0) = some (r, r_H b s' h0) := by
  cases hm
  rfl
theorem r_retV {s' : r_S} (hm : some s = some s') : some (r_H b s h0) = some (r_H b s' h0) := by
  cases hm
  rfl

theorem r_gi_1 {f : Int32 → Option α} (kk : f (r_I s 1) = some ρ) : (q_gi (r_H b s h0) b 12 1).bind f = some ρ := by
  have e : q_gi (r_H b s h0) b 12 1 = some (r_I s 1) := by
    unfold q_gi q_fd
    rw [show r_H b s h0 b = .inr (12, r_fs b s) from r_at 0 (by omega)]
    rfl
  rw [e]
  exact kk
theorem r_pi_1 {v : Int32} {f : q_H → Option α} (kk : f (r_H b (r_si s 1 v) h0) = some ρ) : (q_pf (r_H b s h0) b 12 1 (.int v)).bind f = some ρ := by
  have e : q_pf (r_H b s h0) b 12 1 (.int v) = some (r_H b (r_si s 1 v) h0) := by
    unfold q_pf
    rw [show r_H b s h0 b = .inr (12, r_fs b s) from r_at 0 (by omega)]
    show (if _ then _ else _) = _
    rw [if_pos ⟨rfl, Nat.le_of_ble_eq_true rfl⟩]
    exact congrArg some (r_up 0 (by omega) rfl (fun i hi => match i, hi with | 0, h => absurd rfl h | 1, _ => rfl | 2, _ => rfl | 3, _ => rfl | 4, _ => rfl | 5, _ => rfl | 6, _ => rfl | 7, _ => rfl | 8, _ => rfl | 9, _ => rfl | 10, _ => rfl | 11, _ => rfl | 12, _ => rfl | 13, _ => rfl | 14, _ => rfl | 15, _ => rfl | 16, _ => rfl | 17, _ => rfl | 18, _ => rfl | 19, _ => rfl | 20, _ => rfl | 21, _ => rfl | 22, _ => rfl | _ + 23, _ => rfl))
  rw [e]
  exact kk
theorem r_gi_2 {f : Int32 → Option α} (kk : f (r_I s 2) = some ρ) : (q_gi (r_H b s h0) b 12 2).bind f = some ρ := by
  have e : q_gi (r_H b s h0) b 12 2 = some (r_I s 2) := by
    unfold q_gi q_fd
    rw [show r_H b s h0 b = .inr (12, r_fs b s) from r_at 0 (by omega)]
    rfl
  rw [e]
  exact kk
theorem r_pi_2 {v : Int32} {f : q_H → Option α} (kk : f (r_H b (r_si s 2 v) h0) = some ρ) : (q_pf (r_H b s h0) b 12 2 (.int v)).bind f = some ρ := by
  have e : q_pf (r_H b s h0) b 12 2 (.int v) = some (r_H b (r_si s 2 v) h0) := by
    unfold q_pf
    rw [show r_H b s h0 b = .inr (12, r_fs b s) from r_at 0 (by omega)]
    show (if _ then _ else _) = _
    rw [if_pos ⟨rfl, Nat.le_of_ble_eq_true rfl⟩]
    exact congrArg some (r_up 0 (by omega) rfl (fun i hi => match i, hi with | 0, h => absurd rfl h | 1, _ => rfl | 2, _ => rfl | 3, _ => rfl | 4, _ => rfl | 5, _ => rfl | 6, _ => rfl | 7, _ => rfl | 8, _ => rfl | 9, _ => rfl | 10, _ => rfl | 11, _ => rfl | 12, _ => rfl | 13, _ => rfl | 14, _ => rfl | 15, _ => rfl | 16, _ => rfl | 17, _ => rfl | 18, _ => rfl | 19, _ => rfl | 20, _ => rfl | 21, _ => rfl | 22, _ => rfl | _ + 23, _ => rfl))
  rw [e]
  exact kk
theorem r_gi_8 {f : Int32 → Option α} (kk : f (r_I s 8) = some ρ) : (q_gi (r_H b s h0) b 12 8).bind f = some ρ := by
  have e : q_gi (r_H b s h0) b 12 8 = some (r_I s 8) := by
    unfold q_gi q_fd
    rw [show r_H b s h0 b = .inr (12, r_fs b s) from r_at 0 (by omega)]
    rfl
  rw [e]
  exact kk
theorem r_pi_8 {v : Int32} {f : q_H → Option α} (kk : f (r_H b (r_si s 8 v) h0) = some ρ) : (q_pf (r_H b s h0) b 12 8 (.int v)).bind f = some ρ := by
  have e : q_pf (r_H b s h0) b 12 8 (.int v) = some (r_H b (r_si s 8 v) h0) := by
    unfold q_pf
    rw [show r_H b s h0 b = .inr (12, r_fs b s) from r_at 0 (by omega)]
    show (if _ then _ else _) = _
    rw [if_pos ⟨rfl, Nat.le_of_ble_eq_true rfl⟩]
    exact congrArg some (r_up 0 (by omega) rfl (fun i hi => match i, hi with | 0, h => absurd rfl h | 1, _ => rfl | 2, _ => rfl | 3, _ => rfl | 4, _ => rfl | 5, _ => rfl | 6, _ => rfl | 7, _ => rfl | 8, _ => rfl | 9, _ => rfl | 10, _ => rfl | 11, _ => rfl | 12, _ => rfl | 13, _ => rfl | 14, _ => rfl | 15, _ => rfl | 16, _ => rfl | 17, _ => rfl | 18, _ => rfl | 19, _ => rfl | 20, _ => rfl | 21, _ => rfl | 22, _ => rfl | _ + 23, _ => rfl))
  rw [e]
  exact kk
theorem r_gi_9 {f : Int32 → Option α} (kk : f (r_I s 9) = some ρ) : (q_gi (r_H b s h0) b 12 9).bind f = some ρ := by
  have e : q_gi (r_H b s h0) b 12 9 = some (r_I s 9) := by
    unfold q_gi q_fd
    rw [show r_H b s h0 b = .inr (12, r_fs b s) from r_at 0 (by omega)]
    rfl
  rw [e]
  exact kk
theorem r_pi_9 {v : Int32} {f : q_H → Option α} (kk : f (r_H b (r_si s 9 v) h0) = some ρ) : (q_pf (r_H b s h0) b 12 9 (.int v)).bind f = some ρ := by
  have e : q_pf (r_H b s h0) b 12 9 (.int v) = some (r_H b (r_si s 9 v) h0) := by
    unfold q_pf
    rw [show r_H b s h0 b = .inr (12, r_fs b s) from r_at 0 (by omega)]
    show (if _ then _ else _) = _
    rw [if_pos ⟨rfl, Nat.le_of_ble_eq_true rfl⟩]
    exact congrArg some (r_up 0 (by omega) rfl (fun i hi => match i, hi with | 0, h => absurd rfl h | 1, _ => rfl | 2, _ => rfl | 3, _ => rfl | 4, _ => rfl | 5, _ => rfl | 6, _ => rfl | 7, _ => rfl | 8, _ => rfl | 9, _ => rfl | 10, _ => rfl | 11, _ => rfl | 12, _ => rfl | 13, _ => rfl | 14, _ => rfl | 15, _ => rfl | 16, _ => rfl | 17, _ => rfl | 18, _ => rfl | 19, _ => rfl | 20, _ => rfl | 21, _ => rfl | 22, _ => rfl | _ + 23, _ => rfl))
  rw [e]
  exact kk
theorem r_gi_10 {f : Int32 → Option α} (kk : f (r_I s 10) = some ρ) : (q_gi (r_H b s h0) b 12 10).bind f = some ρ := by
  have e : q_gi (r_H b s h0) b 12 10 = some (r_I s 10) := by
    unfold q_gi q_fd
    rw [show r_H b s h0 b = .inr (12, r_fs b s) from r_at 0 (by omega)]
    rfl
  rw [e]
  exact kk
theorem r_pi_10 {v : Int32} {f : q_H → Option α} (kk : f (r_H b (r_si s 10 v) h0) = some ρ) : (q_pf (r_H b s h0) b 12 10 (.int v)).bind f = some ρ := by
  have e : q_pf (r_H b s h0) b 12 10 (.int v) = some (r_H b (r_si s 10 v) h0) := by
    unfold q_pf
    rw [show r_H b s h0 b = .inr (12, r_fs b s) from r_at 0 (by omega)]
    show (if _ then _ else _) = _
    rw [if_pos ⟨rfl, Nat.le_of_ble_eq_true rfl⟩]
    exact congrArg some (r_up 0 (by omega) rfl (fun i hi => match i, hi with | 0, h => absurd rfl h | 1, _ => rfl | 2, _ => rfl | 3, _ => rfl | 4, _ => rfl | 5, _ => rfl | 6, _ => rfl | 7, _ => rfl | 8, _ => rfl | 9, _ => rfl | 10, _ => rfl | 11, _ => rfl | 12, _ => rfl | 13, _ => rfl | 14, _ => rfl | 15, _ => rfl | 16, _ => rfl | 17, _ => rfl | 18, _ => rfl | 19, _ => rfl | 20, _ => rfl | 21, _ => rfl | 22, _ => rfl | _ + 23, _ => rfl))
  rw [e]
  exact kk
theorem r_gi_11 {f : Int32 → Option α} (kk : f (r_I s 11) = some ρ) : (q_gi (r_H b s h0) b 12 11).bind f = some ρ := by
  have e : q_gi (r_H b s h0) b 12 11 = some (r_I s 11) := by
    unfold q_gi q_fd
    rw [show r_H b s h0 b = .inr (12, r_fs b s) from r_at 0 (by omega)]
    rfl
  rw [e]
  exact kk
theorem r_pi_11 {v : Int32} {f : q_H → Option α} (kk : f (r_H b (r_si s 11 v) h0) = some ρ) : (q_pf (r_H b s h0) b 12 11 (.int v)).bind f = some ρ := by
  have e : q_pf (r_H b s h0) b 12 11 (.int v) = some (r_H b (r_si s 11 v) h0) := by
    unfold q_pf
    rw [show r_H b s h0 b = .inr (12, r_fs b s) from r_at 0 (by omega)]
    show (if _ then _ else _) = _
    rw [if_pos ⟨rfl, Nat.le_of_ble_eq_true rfl⟩]
    exact congrArg some (r_up 0 (by omega) rfl (fun i hi => match i, hi with | 0, h => absurd rfl h | 1, _ => rfl | 2, _ => rfl | 3, _ => rfl | 4, _ => rfl | 5, _ => rfl | 6, _ => rfl | 7, _ => rfl | 8, _ => rfl | 9, _ => rfl | 10, _ => rfl | 11, _ => rfl | 12, _ => rfl | 13, _ => rfl | 14, _ => rfl | 15, _ => rfl | 16, _ => rfl | 17, _ => rfl | 18, _ => rfl | 19, _ => rfl | 20, _ => rfl | 21, _ => rfl | 22, _ => rfl | _ + 23, _ => rfl))
  rw [e]
  exact kk
theorem r_gi_12 {f : Int32 → Option α} (kk : f (r_I s 12) = some ρ) : (q_gi (r_H b s h0) b 12 12).bind f = some ρ := by
  have e : q_gi (r_H b s h0) b 12 12 = some (r_I s 12) := by
    unfold q_gi q_fd
    rw [show r_H b s h0 b = .inr (12, r_fs b s) from r_at 0 (by omega)]
    rfl
  rw [e]
  exact kk
theorem r_pi_12 {v : Int32} {f : q_H → Option α} (kk : f (r_H b (r_si s 12 v) h0) = some ρ) : (q_pf (r_H b s h0) b 12 12 (.int v)).bind f = some ρ := by
  have e : q_pf (r_H b s h0) b 12 12 (.int v) = some (r_H b (r_si s 12 v) h0) := by
    unfold q_pf
    rw [show r_H b s h0 b = .inr (12, r_fs b s) from r_at 0 (by omega)]
    show (if _ then _ else _) = _
    rw [if_pos ⟨rfl, Nat.le_of_ble_eq_true rfl⟩]
    exact congrArg some (r_up 0 (by omega) rfl (fun i hi => match i, hi with | 0, h => absurd rfl h | 1, _ => rfl | 2, _ => rfl | 3, _ => rfl | 4, _ => rfl | 5, _ => rfl | 6, _ => rfl | 7, _ => rfl | 8, _ => rfl | 9, _ => rfl | 10, _ => rfl | 11, _ => rfl | 12, _ => rfl | 13, _ => rfl | 14, _ => rfl | 15, _ => rfl | 16, _ => rfl | 17, _ => rfl | 18, _ => rfl | 19, _ => rfl | 20, _ => rfl | 21, _ => rfl | 22, _ => rfl | _ + 23, _ => rfl))
  rw [e]
  exact kk
theorem r_gi_13 {f : Int32 → Option α} (kk : f (r_I s 13) = some ρ) : (q_gi (r_H b s h0) b 12 13).bind f = some ρ := by
  have e : q_gi (r_H b s h0) b 12 13 = some (r_I s 13) := by
    unfold q_gi q_fd
    rw [show r_H b s h0 b = .inr (12, r_fs b s) from r_at 0 (by omega)]
    rfl
  rw [e]
  exact kk
theorem r_pi_13 {v : Int32} {f : q_H → Option α} (kk : f (r_H b (r_si s 13 v) h0) = some ρ) : (q_pf (r_H b s h0) b 12 13 (.int v)).bind f = some ρ := by
  have e : q_pf (r_H b s h0) b 12 13 (.int v) = some (r_H b (r_si s 13 v) h0) := by
    unfold q_pf
    rw [show r_H b s h0 b = .inr (12, r_fs b s) from r_at 0 (by omega)]
    show (if _ then _ else _) = _
    rw [if_pos ⟨rfl, Nat.le_of_ble_eq_true rfl⟩]
    exact congrArg some (r_up 0 (by omega) rfl (fun i hi => match i, hi with | 0, h => absurd rfl h | 1, _ => rfl | 2, _ => rfl | 3, _ => rfl | 4, _ => rfl | 5, _ => rfl | 6, _ => rfl | 7, _ => rfl | 8, _ => rfl | 9, _ => rfl | 10, _ => rfl | 11, _ => rfl | 12, _ => rfl | 13, _ => rfl | 14, _ => rfl | 15, _ => rfl | 16, _ => rfl | 17, _ => rfl | 18, _ => rfl | 19, _ => rfl | 20, _ => rfl | 21, _ => rfl | 22, _ => rfl | _ + 23, _ => rfl))
  rw [e]
  exact kk
theorem r_gi_14 {f : Int32 → Option α} (kk : f (r_I s 14) = some ρ) : (q_gi (r_H b s h0) b 12 14).bind f = some ρ := by
  have e : q_gi (r_H b s h0) b 12 14 = some (r_I s 14) := by
    unfold q_gi q_fd
    rw [show r_H b s h0 b = .inr (12, r_fs b s) from r_at 0 (by omega)]
    rfl
  rw [e]
  exact kk
theorem r_pi_14 {v : Int32} {f : q_H → Option α} (kk : f (r_H b (r_si s 14 v) h0) = some ρ) : (q_pf (r_H b s h0) b 12 14 (.int v)).bind f = some ρ := by
  have e : q_pf (r_H b s h0) b 12 14 (.int v) = some (r_H b (r_si s 14 v) h0) := by
    unfold q_pf
    rw [show r_H b s h0 b = .inr (12, r_fs b s) from r_at 0 (by omega)]
    show (if _ then _ else _) = _
    rw [if_pos ⟨rfl, Nat.le_of_ble_eq_true rfl⟩]
    exact congrArg some (r_up 0 (by omega) rfl (fun i hi => match i, hi with | 0, h => absurd rfl h | 1, _ => rfl | 2, _ => rfl | 3, _ => rfl | 4, _ => rfl | 5, _ => rfl | 6, _ => rfl | 7, _ => rfl | 8, _ => rfl | 9, _ => rfl | 10, _ => rfl | 11, _ => rfl | 12, _ => rfl | 13, _ => rfl | 14, _ => rfl | 15, _ => rfl | 16, _ => rfl | 17, _ => rfl | 18, _ => rfl | 19, _ => rfl | 20, _ => rfl | 21, _ => rfl | 22, _ => rfl | _ + 23, _ => rfl))
  rw [e]
  exact kk
theorem r_gi_16 {f : Int32 → Option α} (kk : f (r_I s 16) = some ρ) : (q_gi (r_H b s h0) b 12 16).bind f = some ρ := by
  have e : q_gi (r_H b s h0) b 12 16 = some (r_I s 16) := by
    unfold q_gi q_fd
    rw [show r_H b s h0 b = .inr (12, r_fs b s) from r_at 0 (by omega)]
    rfl
  rw [e]
  exact kk
theorem r_pi_16 {v : Int32} {f : q_H → Option α} (kk : f (r_H b (r_si s 16 v) h0) = some ρ) : (q_pf (r_H b s h0) b 12 16 (.int v)).bind f = some ρ := by
  have e : q_pf (r_H b s h0) b 12 16 (.int v) = some (r_H b (r_si s 16 v) h0) := by
    unfold q_pf
    rw [show r_H b s h0 b = .inr (12, r_fs b s) from r_at 0 (by omega)]
    show (if _ then _ else _) = _
    rw [if_pos ⟨rfl, Nat.le_of_ble_eq_true rfl⟩]
    exact congrArg some (r_up 0 (by omega) rfl (fun i hi => match i, hi with | 0, h => absurd rfl h | 1, _ => rfl | 2, _ => rfl | 3, _ => rfl | 4, _ => rfl | 5, _ => rfl | 6, _ => rfl | 7, _ => rfl | 8, _ => rfl | 9, _ => rfl | 10, _ => rfl | 11, _ => rfl | 12, _ => rfl | 13, _ => rfl | 14, _ => rfl | 15, _ => rfl | 16, _ => rfl | 17, _ => rfl | 18, _ => rfl | 19, _ => rfl | 20, _ => rfl | 21, _ => rfl | 22, _ => rfl | _ + 23, _ => rfl))
  rw [e]
  exact kk
theorem r_gi_18 {f : Int32 → Option α} (kk : f (r_I s 18) = some ρ) : (q_gi (r_H b s h0) b 12 18).bind f = some ρ := by
  have e : q_gi (r_H b s h0) b 12 18 = some (r_I s 18) := by
    unfold q_gi q_fd
    rw [show r_H b s h0 b = .inr (12, r_fs b s) from r_at 0 (by omega)]
    rfl
  rw [e]
  exact kk
theorem r_pi_18 {v : Int32} {f : q_H → Option α} (kk : f (r_H b (r_si s 18 v) h0) = some ρ) : (q_pf (r_H b s h0) b 12 18 (.int v)).bind f = some ρ := by
  have e : q_pf (r_H b s h0) b 12 18 (.int v) = some (r_H b (r_si s 18 v) h0) := by
    unfold q_pf
    rw [show r_H b s h0 b = .inr (12, r_fs b s) from r_at 0 (by omega)]
    show (if _ then _ else _) = _
    rw [if_pos ⟨rfl, Nat.le_of_ble_eq_true rfl⟩]
    exact congrArg some (r_up 0 (by omega) rfl (fun i hi => match i, hi with | 0, h => absurd rfl h | 1, _ => rfl | 2, _ => rfl | 3, _ => rfl | 4, _ => rfl | 5, _ => rfl | 6, _ => rfl | 7, _ => rfl | 8, _ => rfl | 9, _ => rfl | 10, _ => rfl | 11, _ => rfl | 12, _ => rfl | 13, _ => rfl | 14, _ => rfl | 15, _ => rfl | 16, _ => rfl | 17, _ => rfl | 18, _ => rfl | 19, _ => rfl | 20, _ => rfl | 21, _ => rfl | 22, _ => rfl | _ + 23, _ => rfl))
  rw [e]
  exact kk
theorem r_gi_21 {f : Int32 → Option α} (kk : f (r_I s 21) = some ρ) : (q_gi (r_H b s h0) b 12 21).bind f = some ρ := by
  have e : q_gi (r_H b s h0) b 12 21 = some (r_I s 21) := by
    unfold q_gi q_fd
    rw [show r_H b s h0 b = .inr (12, r_fs b s) from r_at 0 (by omega)]
    rfl
  rw [e]
  exact kk
theorem r_pi_21 {v : Int32} {f : q_H → Option α} (kk : f (r_H b (r_si s 21 v) h0) = some ρ) : (q_pf (r_H b s h0) b 12 21 (.int v)).bind f = some ρ := by
  have e : q_pf (r_H b s h0) b 12 21 (.int v) = some (r_H b (r_si s 21 v) h0) := by
    unfold q_pf
    rw [show r_H b s h0 b = .inr (12, r_fs b s) from r_at 0 (by omega)]
    show (if _ then _ else _) = _
    rw [if_pos ⟨rfl, Nat.le_of_ble_eq_true rfl⟩]
    exact congrArg some (r_up 0 (by omega) rfl (fun i hi => match i, hi with | 0, h => absurd rfl h | 1, _ => rfl | 2, _ => rfl | 3, _ => rfl | 4, _ => rfl | 5, _ => rfl | 6, _ => rfl | 7, _ => rfl | 8, _ => rfl | 9, _ => rfl | 10, _ => rfl | 11, _ => rfl | 12, _ => rfl | 13, _ => rfl | 14, _ => rfl | 15, _ => rfl | 16, _ => rfl | 17, _ => rfl | 18, _ => rfl | 19, _ => rfl | 20, _ => rfl | 21, _ => rfl | 22, _ => rfl | _ + 23, _ => rfl))
  rw [e]
  exact kk
theorem r_gi_22 {f : Int32 → Option α} (kk : f (r_I s 22) = some ρ) : (q_gi (r_H b s h0) b 12 22).bind f = some ρ := by
  have e : q_gi (r_H b s h0) b 12 22 = some (r_I s 22) := by
    unfold q_gi q_fd
    rw [show r_H b s h0 b = .inr (12, r_fs b s) from r_at 0 (by omega)]
    rfl
  rw [e]
  exact kk
theorem r_pi_22 {v : Int32} {f : q_H → Option α} (kk : f (r_H b (r_si s 22 v) h0) = some ρ) : (q_pf (r_H b s h0) b 12 22 (.int v)).bind f = some ρ := by
  have e : q_pf (r_H b s h0) b 12 22 (.int v) = some (r_H b (r_si s 22 v) h0) := by
    unfold q_pf
    rw [show r_H b s h0 b = .inr (12, r_fs b s) from r_at 0 (by omega)]
    show (if _ then _ else _) = _
    rw [if_pos ⟨rfl, Nat.le_of_ble_eq_true rfl⟩]
    exact congrArg some (r_up 0 (by omega) rfl (fun i hi => match i, hi with | 0, h => absurd rfl h | 1, _ => rfl | 2, _ => rfl | 3, _ => rfl | 4, _ => rfl | 5, _ => rfl | 6, _ => rfl | 7, _ => rfl | 8, _ => rfl | 9, _ => rfl | 10, _ => rfl | 11, _ => rfl | 12, _ => rfl | 13, _ => rfl | 14, _ => rfl | 15, _ => rfl | 16, _ => rfl | 17, _ => rfl | 18, _ => rfl | 19, _ => rfl | 20, _ => rfl | 21, _ => rfl | 22, _ => rfl | _ + 23, _ => rfl))
  rw [e]
  exact kk
theorem r_gi_26 {f : Int32 → Option α} (kk : f (r_I s 26) = some ρ) : (q_gi (r_H b s h0) b 12 26).bind f = some ρ := by
  have e : q_gi (r_H b s h0) b 12 26 = some (r_I s 26) := by
    unfold q_gi q_fd
    rw [show r_H b s h0 b = .inr (12, r_fs b s) from r_at 0 (by omega)]
    rfl
  rw [e]
  exact kk
theorem r_pi_26 {v : Int32} {f : q_H → Option α} (kk : f (r_H b (r_si s 26 v) h0) = some ρ) : (q_pf (r_H b s h0) b 12 26 (.int v)).bind f = some ρ := by
  have e : q_pf (r_H b s h0) b 12 26 (.int v) = some (r_H b (r_si s 26 v) h0) := by
    unfold q_pf
    rw [show r_H b s h0 b = .inr (12, r_fs b s) from r_at 0 (by omega)]
    show (if _ then _ else _) = _
    rw [if_pos ⟨rfl, Nat.le_of_ble_eq_true rfl⟩]
    exact congrArg some (r_up 0 (by omega) rfl (fun i hi => match i, hi with | 0, h => absurd rfl h | 1, _ => rfl | 2, _ => rfl | 3, _ => rfl | 4, _ => rfl | 5, _ => rfl | 6, _ => rfl | 7, _ => rfl | 8, _ => rfl | 9, _ => rfl | 10, _ => rfl | 11, _ => rfl | 12, _ => rfl | 13, _ => rfl | 14, _ => rfl | 15, _ => rfl | 16, _ => rfl | 17, _ => rfl | 18, _ => rfl | 19, _ => rfl | 20, _ => rfl | 21, _ => rfl | 22, _ => rfl | _ + 23, _ => rfl))
  rw [e]
  exact kk
theorem r_gl_32 {f : Int64 → Option α} (kk : f (r_D s) = some ρ) : (q_gl (r_H b s h0) b 12 32).bind f = some ρ := by
  have e : q_gl (r_H b s h0) b 12 32 = some (r_D s) := by
    unfold q_gl q_fd
    rw [show r_H b s h0 b = .inr (12, r_fs b s) from r_at 0 (by omega)]
    rfl
  rw [e]
  exact kk
theorem r_pl_32 {v : Int64} {f : q_H → Option α} (kk : f (r_H b (r_sd s v) h0) = some ρ) : (q_pf (r_H b s h0) b 12 32 (.long v)).bind f = some ρ := by
  have e : q_pf (r_H b s h0) b 12 32 (.long v) = some (r_H b (r_sd s v) h0) := by
    unfold q_pf
    rw [show r_H b s h0 b = .inr (12, r_fs b s) from r_at 0 (by omega)]
    show (if _ then _ else _) = _
    rw [if_pos ⟨rfl, Nat.le_of_ble_eq_true rfl⟩]
    exact congrArg some (r_up 0 (by omega) rfl (fun i hi => match i, hi with | 0, h => absurd rfl h | 1, _ => rfl | 2, _ => rfl | 3, _ => rfl | 4, _ => rfl | 5, _ => rfl | 6, _ => rfl | 7, _ => rfl | 8, _ => rfl | 9, _ => rfl | 10, _ => rfl | 11, _ => rfl | 12, _ => rfl | 13, _ => rfl | 14, _ => rfl | 15, _ => rfl | 16, _ => rfl | 17, _ => rfl | 18, _ => rfl | 19, _ => rfl | 20, _ => rfl | 21, _ => rfl | 22, _ => rfl | _ + 23, _ => rfl))
  rw [e]
  exact kk
theorem r_gn_0 {f : Nat → Option α} (kk : f (b + 1) = some ρ) : (q_gn (r_H b s h0) b 12 0).bind f = some ρ := by
  have e : q_gn (r_H b s h0) b 12 0 = some (b + 1) := by
    unfold q_gn q_fd
    rw [show r_H b s h0 b = .inr (12, r_fs b s) from r_at 0 (by omega)]
    rfl
  rw [e]
  exact kk
theorem r_ai_0 {i : Int32} {f : Int32 → Option α} {g : Int32 → Option β} (hm : (t_ai 400 (r_A s 0) i).bind g = some τ) (kk : ∀ w, g w = some τ → f w = some ρ) : (q_ai (r_H b s h0) (b + 1) 0 i).bind f = some ρ := by
  have e : q_ai (r_H b s h0) (b + 1) 0 i = t_ai 400 (r_A s 0) i := by
    unfold q_ai t_ai
    rw [show r_H b s h0 (b + 1) = .inl (0, 400, .inl (r_A s 0)) from r_at 1 (by omega)]
    simp only [true_and]
  rw [e]
  exact r_bd hm kk
theorem r_as_0 {i : Int32} {x : Int32} {f : q_H → Option α} {g : r_S → Option β} (hm : (t_si 400 s 0 i x).bind g = some τ) (kk : ∀ s', g s' = some τ → f (r_H b s' h0) = some ρ) : (q_si (r_H b s h0) (b + 1) 0 i x).bind f = some ρ := by
  have e : q_si (r_H b s h0) (b + 1) 0 i x = (t_si 400 s 0 i x).map (fun s' => r_H b s' h0) := by
    unfold q_si t_si
    rw [show r_H b s h0 (b + 1) = .inl (0, 400, .inl (r_A s 0)) from r_at 1 (by omega)]
    simp only [true_and]
    split
    · exact congrArg some (r_up 1 (by omega) rfl (fun i hi => match i, hi with | 0, _ => rfl | 1, h => absurd rfl h | 2, _ => rfl | 3, _ => rfl | 4, _ => rfl | 5, _ => rfl | 6, _ => rfl | 7, _ => rfl | 8, _ => rfl | 9, _ => rfl | 10, _ => rfl | 11, _ => rfl | 12, _ => rfl | 13, _ => rfl | 14, _ => rfl | 15, _ => rfl | 16, _ => rfl | 17, _ => rfl | 18, _ => rfl | 19, _ => rfl | 20, _ => rfl | 21, _ => rfl | 22, _ => rfl | _ + 23, _ => rfl))
    · rfl
  rw [e]
  obtain ⟨w, ew, hm⟩ := q_b hm
  rw [ew]
  exact kk w hm
theorem r_gn_3 {f : Nat → Option α} (kk : f (b + 2) = some ρ) : (q_gn (r_H b s h0) b 12 3).bind f = some ρ := by
  have e : q_gn (r_H b s h0) b 12 3 = some (b + 2) := by
    unfold q_gn q_fd
    rw [show r_H b s h0 b = .inr (12, r_fs b s) from r_at 0 (by omega)]
    rfl
  rw [e]
  exact kk
theorem r_ai_3 {i : Int32} {f : Int32 → Option α} {g : Int32 → Option β} (hm : (t_ai 2400 (r_A s 3) i).bind g = some τ) (kk : ∀ w, g w = some τ → f w = some ρ) : (q_ai (r_H b s h0) (b + 2) 1 i).bind f = some ρ := by
  have e : q_ai (r_H b s h0) (b + 2) 1 i = t_ai 2400 (r_A s 3) i := by
    unfold q_ai t_ai
    rw [show r_H b s h0 (b + 2) = .inl (1, 2400, .inl (r_A s 3)) from r_at 2 (by omega)]
    simp only [true_and]
  rw [e]
  exact r_bd hm kk
theorem r_as_3 {i : Int32} {x : Int32} {f : q_H → Option α} {g : r_S → Option β} (hm : (t_si 2400 s 3 i x).bind g = some τ) (kk : ∀ s', g s' = some τ → f (r_H b s' h0) = some ρ) : (q_si (r_H b s h0) (b + 2) 1 i x).bind f = some ρ := by
  have e : q_si (r_H b s h0) (b + 2) 1 i x = (t_si 2400 s 3 i x).map (fun s' => r_H b s' h0) := by
    unfold q_si t_si
    rw [show r_H b s h0 (b + 2) = .inl (1, 2400, .inl (r_A s 3)) from r_at 2 (by omega)]
    simp only [true_and]
    split
    · exact congrArg some (r_up 2 (by omega) rfl (fun i hi => match i, hi with | 0, _ => rfl | 1, _ => rfl | 2, h => absurd rfl h | 3, _ => rfl | 4, _ => rfl | 5, _ => rfl | 6, _ => rfl | 7, _ => rfl | 8, _ => rfl | 9, _ => rfl | 10, _ => rfl | 11, _ => rfl | 12, _ => rfl | 13, _ => rfl | 14, _ => rfl | 15, _ => rfl | 16, _ => rfl | 17, _ => rfl | 18, _ => rfl | 19, _ => rfl | 20, _ => rfl | 21, _ => rfl | 22, _ => rfl | _ + 23, _ => rfl))
    · rfl
  rw [e]
  obtain ⟨w, ew, hm⟩ := q_b hm
  rw [ew]
  exact kk w hm
theorem r_gn_4 {f : Nat → Option α} (kk : f (b + 3) = some ρ) : (q_gn (r_H b s h0) b 12 4).bind f = some ρ := by
  have e : q_gn (r_H b s h0) b 12 4 = some (b + 3) := by
    unfold q_gn q_fd
    rw [show r_H b s h0 b = .inr (12, r_fs b s) from r_at 0 (by omega)]
    rfl
  rw [e]
  exact kk
theorem r_ai_4 {i : Int32} {f : Int32 → Option α} {g : Int32 → Option β} (hm : (t_ai 7 (r_A s 4) i).bind g = some τ) (kk : ∀ w, g w = some τ → f w = some ρ) : (q_ai (r_H b s h0) (b + 3) 1 i).bind f = some ρ := by
  have e : q_ai (r_H b s h0) (b + 3) 1 i = t_ai 7 (r_A s 4) i := by
    unfold q_ai t_ai
    rw [show r_H b s h0 (b + 3) = .inl (1, 7, .inl (r_A s 4)) from r_at 3 (by omega)]
    simp only [true_and]
  rw [e]
  exact r_bd hm kk
theorem r_as_4 {i : Int32} {x : Int32} {f : q_H → Option α} {g : r_S → Option β} (hm : (t_si 7 s 4 i x).bind g = some τ) (kk : ∀ s', g s' = some τ → f (r_H b s' h0) = some ρ) : (q_si (r_H b s h0) (b + 3) 1 i x).bind f = some ρ := by
  have e : q_si (r_H b s h0) (b + 3) 1 i x = (t_si 7 s 4 i x).map (fun s' => r_H b s' h0) := by
    unfold q_si t_si
    rw [show r_H b s h0 (b + 3) = .inl (1, 7, .inl (r_A s 4)) from r_at 3 (by omega)]
    simp only [true_and]
    split
    · exact congrArg some (r_up 3 (by omega) rfl (fun i hi => match i, hi with | 0, _ => rfl | 1, _ => rfl | 2, _ => rfl | 3, h => absurd rfl h | 4, _ => rfl | 5, _ => rfl | 6, _ => rfl | 7, _ => rfl | 8, _ => rfl | 9, _ => rfl | 10, _ => rfl | 11, _ => rfl | 12, _ => rfl | 13, _ => rfl | 14, _ => rfl | 15, _ => rfl | 16, _ => rfl | 17, _ => rfl | 18, _ => rfl | 19, _ => rfl | 20, _ => rfl | 21, _ => rfl | 22, _ => rfl | _ + 23, _ => rfl))
    · rfl
  rw [e]
  obtain ⟨w, ew, hm⟩ := q_b hm
  rw [ew]
  exact kk w hm
theorem r_gn_5 {f : Nat → Option α} (kk : f (b + 4) = some ρ) : (q_gn (r_H b s h0) b 12 5).bind f = some ρ := by
  have e : q_gn (r_H b s h0) b 12 5 = some (b + 4) := by
    unfold q_gn q_fd
    rw [show r_H b s h0 b = .inr (12, r_fs b s) from r_at 0 (by omega)]
    rfl
  rw [e]
  exact kk
theorem r_ai_5 {i : Int32} {f : Int32 → Option α} {g : Int32 → Option β} (hm : (t_ai 288 (r_A s 5) i).bind g = some τ) (kk : ∀ w, g w = some τ → f w = some ρ) : (q_ai (r_H b s h0) (b + 4) 1 i).bind f = some ρ := by
  have e : q_ai (r_H b s h0) (b + 4) 1 i = t_ai 288 (r_A s 5) i := by
    unfold q_ai t_ai
    rw [show r_H b s h0 (b + 4) = .inl (1, 288, .inl (r_A s 5)) from r_at 4 (by omega)]
    simp only [true_and]
  rw [e]
  exact r_bd hm kk
theorem r_as_5 {i : Int32} {x : Int32} {f : q_H → Option α} {g : r_S → Option β} (hm : (t_si 288 s 5 i x).bind g = some τ) (kk : ∀ s', g s' = some τ → f (r_H b s' h0) = some ρ) : (q_si (r_H b s h0) (b + 4) 1 i x).bind f = some ρ := by
  have e : q_si (r_H b s h0) (b + 4) 1 i x = (t_si 288 s 5 i x).map (fun s' => r_H b s' h0) := by
    unfold q_si t_si
    rw [show r_H b s h0 (b + 4) = .inl (1, 288, .inl (r_A s 5)) from r_at 4 (by omega)]
    simp only [true_and]
    split
    · exact congrArg some (r_up 4 (by omega) rfl (fun i hi => match i, hi with | 0, _ => rfl | 1, _ => rfl | 2, _ => rfl | 3, _ => rfl | 4, h => absurd rfl h | 5, _ => rfl | 6, _ => rfl | 7, _ => rfl | 8, _ => rfl | 9, _ => rfl | 10, _ => rfl | 11, _ => rfl | 12, _ => rfl | 13, _ => rfl | 14, _ => rfl | 15, _ => rfl | 16, _ => rfl | 17, _ => rfl | 18, _ => rfl | 19, _ => rfl | 20, _ => rfl | 21, _ => rfl | 22, _ => rfl | _ + 23, _ => rfl))
    · rfl
  rw [e]
  obtain ⟨w, ew, hm⟩ := q_b hm
  rw [ew]
  exact kk w hm
theorem r_gn_6 {f : Nat → Option α} (kk : f (b + 5) = some ρ) : (q_gn (r_H b s h0) b 12 6).bind f = some ρ := by
  have e : q_gn (r_H b s h0) b 12 6 = some (b + 5) := by
    unfold q_gn q_fd
    rw [show r_H b s h0 b = .inr (12, r_fs b s) from r_at 0 (by omega)]
    rfl
  rw [e]
  exact kk
theorem r_ai_6 {i : Int32} {f : Int32 → Option α} {g : Int32 → Option β} (hm : (t_ai 6 (r_A s 6) i).bind g = some τ) (kk : ∀ w, g w = some τ → f w = some ρ) : (q_ai (r_H b s h0) (b + 5) 1 i).bind f = some ρ := by
  have e : q_ai (r_H b s h0) (b + 5) 1 i = t_ai 6 (r_A s 6) i := by
    unfold q_ai t_ai
    rw [show r_H b s h0 (b + 5) = .inl (1, 6, .inl (r_A s 6)) from r_at 5 (by omega)]
    simp only [true_and]
  rw [e]
  exact r_bd hm kk
theorem r_as_6 {i : Int32} {x : Int32} {f : q_H → Option α} {g : r_S → Option β} (hm : (t_si 6 s 6 i x).bind g = some τ) (kk : ∀ s', g s' = some τ → f (r_H b s' h0) = some ρ) : (q_si (r_H b s h0) (b + 5) 1 i x).bind f = some ρ := by
  have e : q_si (r_H b s h0) (b + 5) 1 i x = (t_si 6 s 6 i x).map (fun s' => r_H b s' h0) := by
    unfold q_si t_si
    rw [show r_H b s h0 (b + 5) = .inl (1, 6, .inl (r_A s 6)) from r_at 5 (by omega)]
    simp only [true_and]
    split
    · exact congrArg some (r_up 5 (by omega) rfl (fun i hi => match i, hi with | 0, _ => rfl | 1, _ => rfl | 2, _ => rfl | 3, _ => rfl | 4, _ => rfl | 5, h => absurd rfl h | 6, _ => rfl | 7, _ => rfl | 8, _ => rfl | 9, _ => rfl | 10, _ => rfl | 11, _ => rfl | 12, _ => rfl | 13, _ => rfl | 14, _ => rfl | 15, _ => rfl | 16, _ => rfl | 17, _ => rfl | 18, _ => rfl | 19, _ => rfl | 20, _ => rfl | 21, _ => rfl | 22, _ => rfl | _ + 23, _ => rfl))
    · rfl
  rw [e]
  obtain ⟨w, ew, hm⟩ := q_b hm
  rw [ew]
  exact kk w hm
theorem r_gn_7 {f : Nat → Option α} (kk : f (b + 6) = some ρ) : (q_gn (r_H b s h0) b 12 7).bind f = some ρ := by
  have e : q_gn (r_H b s h0) b 12 7 = some (b + 6) := by
    unfold q_gn q_fd
    rw [show r_H b s h0 b = .inr (12, r_fs b s) from r_at 0 (by omega)]
    rfl
  rw [e]
  exact kk
theorem r_ai_7 {i : Int32} {f : Int32 → Option α} {g : Int32 → Option β} (hm : (t_ai 85 (r_A s 7) i).bind g = some τ) (kk : ∀ w, g w = some τ → f w = some ρ) : (q_ai (r_H b s h0) (b + 6) 1 i).bind f = some ρ := by
  have e : q_ai (r_H b s h0) (b + 6) 1 i = t_ai 85 (r_A s 7) i := by
    unfold q_ai t_ai
    rw [show r_H b s h0 (b + 6) = .inl (1, 85, .inl (r_A s 7)) from r_at 6 (by omega)]
    simp only [true_and]
  rw [e]
  exact r_bd hm kk
theorem r_as_7 {i : Int32} {x : Int32} {f : q_H → Option α} {g : r_S → Option β} (hm : (t_si 85 s 7 i x).bind g = some τ) (kk : ∀ s', g s' = some τ → f (r_H b s' h0) = some ρ) : (q_si (r_H b s h0) (b + 6) 1 i x).bind f = some ρ := by
  have e : q_si (r_H b s h0) (b + 6) 1 i x = (t_si 85 s 7 i x).map (fun s' => r_H b s' h0) := by
    unfold q_si t_si
    rw [show r_H b s h0 (b + 6) = .inl (1, 85, .inl (r_A s 7)) from r_at 6 (by omega)]
    simp only [true_and]
    split
    · exact congrArg some (r_up 6 (by omega) rfl (fun i hi => match i, hi with | 0, _ => rfl | 1, _ => rfl | 2, _ => rfl | 3, _ => rfl | 4, _ => rfl | 5, _ => rfl | 6, h => absurd rfl h | 7, _ => rfl | 8, _ => rfl | 9, _ => rfl | 10, _ => rfl | 11, _ => rfl | 12, _ => rfl | 13, _ => rfl | 14, _ => rfl | 15, _ => rfl | 16, _ => rfl | 17, _ => rfl | 18, _ => rfl | 19, _ => rfl | 20, _ => rfl | 21, _ => rfl | 22, _ => rfl | _ + 23, _ => rfl))
    · rfl
  rw [e]
  obtain ⟨w, ew, hm⟩ := q_b hm
  rw [ew]
  exact kk w hm
theorem r_gn_15 {f : Nat → Option α} (kk : f (b + 7) = some ρ) : (q_gn (r_H b s h0) b 12 15).bind f = some ρ := by
  have e : q_gn (r_H b s h0) b 12 15 = some (b + 7) := by
    unfold q_gn q_fd
    rw [show r_H b s h0 b = .inr (12, r_fs b s) from r_at 0 (by omega)]
    rfl
  rw [e]
  exact kk
theorem r_ai_15 {i : Int32} {f : Int32 → Option α} {g : Int32 → Option β} (hm : (t_ai 400 (r_A s 15) i).bind g = some τ) (kk : ∀ w, g w = some τ → f w = some ρ) : (q_ai (r_H b s h0) (b + 7) 1 i).bind f = some ρ := by
  have e : q_ai (r_H b s h0) (b + 7) 1 i = t_ai 400 (r_A s 15) i := by
    unfold q_ai t_ai
    rw [show r_H b s h0 (b + 7) = .inl (1, 400, .inl (r_A s 15)) from r_at 7 (by omega)]
    simp only [true_and]
  rw [e]
  exact r_bd hm kk
theorem r_as_15 {i : Int32} {x : Int32} {f : q_H → Option α} {g : r_S → Option β} (hm : (t_si 400 s 15 i x).bind g = some τ) (kk : ∀ s', g s' = some τ → f (r_H b s' h0) = some ρ) : (q_si (r_H b s h0) (b + 7) 1 i x).bind f = some ρ := by
  have e : q_si (r_H b s h0) (b + 7) 1 i x = (t_si 400 s 15 i x).map (fun s' => r_H b s' h0) := by
    unfold q_si t_si
    rw [show r_H b s h0 (b + 7) = .inl (1, 400, .inl (r_A s 15)) from r_at 7 (by omega)]
    simp only [true_and]
    split
    · exact congrArg some (r_up 7 (by omega) rfl (fun i hi => match i, hi with | 0, _ => rfl | 1, _ => rfl | 2, _ => rfl | 3, _ => rfl | 4, _ => rfl | 5, _ => rfl | 6, _ => rfl | 7, h => absurd rfl h | 8, _ => rfl | 9, _ => rfl | 10, _ => rfl | 11, _ => rfl | 12, _ => rfl | 13, _ => rfl | 14, _ => rfl | 15, _ => rfl | 16, _ => rfl | 17, _ => rfl | 18, _ => rfl | 19, _ => rfl | 20, _ => rfl | 21, _ => rfl | 22, _ => rfl | _ + 23, _ => rfl))
    · rfl
  rw [e]
  obtain ⟨w, ew, hm⟩ := q_b hm
  rw [ew]
  exact kk w hm
theorem r_gn_17 {f : Nat → Option α} (kk : f (b + 8) = some ρ) : (q_gn (r_H b s h0) b 12 17).bind f = some ρ := by
  have e : q_gn (r_H b s h0) b 12 17 = some (b + 8) := by
    unfold q_gn q_fd
    rw [show r_H b s h0 b = .inr (12, r_fs b s) from r_at 0 (by omega)]
    rfl
  rw [e]
  exact kk
theorem r_ai_17 {i : Int32} {f : Int64 → Option α} {g : Int64 → Option β} (hm : (t_al 64 (r_L s 17) i).bind g = some τ) (kk : ∀ w, g w = some τ → f w = some ρ) : (q_al (r_H b s h0) (b + 8) i).bind f = some ρ := by
  have e : q_al (r_H b s h0) (b + 8) i = t_al 64 (r_L s 17) i := by
    unfold q_al t_al
    rw [show r_H b s h0 (b + 8) = .inl (2, 64, .inr (.inl (r_L s 17))) from r_at 8 (by omega)]
    simp only [true_and]
  rw [e]
  exact r_bd hm kk
theorem r_as_17 {i : Int32} {x : Int64} {f : q_H → Option α} {g : r_S → Option β} (hm : (t_sl 64 s 17 i x).bind g = some τ) (kk : ∀ s', g s' = some τ → f (r_H b s' h0) = some ρ) : (q_sl (r_H b s h0) (b + 8) i x).bind f = some ρ := by
  have e : q_sl (r_H b s h0) (b + 8) i x = (t_sl 64 s 17 i x).map (fun s' => r_H b s' h0) := by
    unfold q_sl t_sl
    rw [show r_H b s h0 (b + 8) = .inl (2, 64, .inr (.inl (r_L s 17))) from r_at 8 (by omega)]
    simp only [true_and]
    split
    · exact congrArg some (r_up 8 (by omega) rfl (fun i hi => match i, hi with | 0, _ => rfl | 1, _ => rfl | 2, _ => rfl | 3, _ => rfl | 4, _ => rfl | 5, _ => rfl | 6, _ => rfl | 7, _ => rfl | 8, h => absurd rfl h | 9, _ => rfl | 10, _ => rfl | 11, _ => rfl | 12, _ => rfl | 13, _ => rfl | 14, _ => rfl | 15, _ => rfl | 16, _ => rfl | 17, _ => rfl | 18, _ => rfl | 19, _ => rfl | 20, _ => rfl | 21, _ => rfl | 22, _ => rfl | _ + 23, _ => rfl))
    · rfl
  rw [e]
  obtain ⟨w, ew, hm⟩ := q_b hm
  rw [ew]
  exact kk w hm
theorem r_gn_19 {f : Nat → Option α} (kk : f (b + 9) = some ρ) : (q_gn (r_H b s h0) b 12 19).bind f = some ρ := by
  have e : q_gn (r_H b s h0) b 12 19 = some (b + 9) := by
    unfold q_gn q_fd
    rw [show r_H b s h0 b = .inr (12, r_fs b s) from r_at 0 (by omega)]
    rfl
  rw [e]
  exact kk
theorem r_ai_19 {i : Int32} {f : Int64 → Option α} {g : Int64 → Option β} (hm : (t_al 11 (r_L s 19) i).bind g = some τ) (kk : ∀ w, g w = some τ → f w = some ρ) : (q_al (r_H b s h0) (b + 9) i).bind f = some ρ := by
  have e : q_al (r_H b s h0) (b + 9) i = t_al 11 (r_L s 19) i := by
    unfold q_al t_al
    rw [show r_H b s h0 (b + 9) = .inl (2, 11, .inr (.inl (r_L s 19))) from r_at 9 (by omega)]
    simp only [true_and]
  rw [e]
  exact r_bd hm kk
theorem r_as_19 {i : Int32} {x : Int64} {f : q_H → Option α} {g : r_S → Option β} (hm : (t_sl 11 s 19 i x).bind g = some τ) (kk : ∀ s', g s' = some τ → f (r_H b s' h0) = some ρ) : (q_sl (r_H b s h0) (b + 9) i x).bind f = some ρ := by
  have e : q_sl (r_H b s h0) (b + 9) i x = (t_sl 11 s 19 i x).map (fun s' => r_H b s' h0) := by
    unfold q_sl t_sl
    rw [show r_H b s h0 (b + 9) = .inl (2, 11, .inr (.inl (r_L s 19))) from r_at 9 (by omega)]
    simp only [true_and]
    split
    · exact congrArg some (r_up 9 (by omega) rfl (fun i hi => match i, hi with | 0, _ => rfl | 1, _ => rfl | 2, _ => rfl | 3, _ => rfl | 4, _ => rfl | 5, _ => rfl | 6, _ => rfl | 7, _ => rfl | 8, _ => rfl | 9, h => absurd rfl h | 10, _ => rfl | 11, _ => rfl | 12, _ => rfl | 13, _ => rfl | 14, _ => rfl | 15, _ => rfl | 16, _ => rfl | 17, _ => rfl | 18, _ => rfl | 19, _ => rfl | 20, _ => rfl | 21, _ => rfl | 22, _ => rfl | _ + 23, _ => rfl))
    · rfl
  rw [e]
  obtain ⟨w, ew, hm⟩ := q_b hm
  rw [ew]
  exact kk w hm
theorem r_gn_20 {f : Nat → Option α} (kk : f (b + 10) = some ρ) : (q_gn (r_H b s h0) b 12 20).bind f = some ρ := by
  have e : q_gn (r_H b s h0) b 12 20 = some (b + 10) := by
    unfold q_gn q_fd
    rw [show r_H b s h0 b = .inr (12, r_fs b s) from r_at 0 (by omega)]
    rfl
  rw [e]
  exact kk
theorem r_ai_20 {i : Int32} {f : Int32 → Option α} {g : Int32 → Option β} (hm : (t_ai 106 (r_A s 20) i).bind g = some τ) (kk : ∀ w, g w = some τ → f w = some ρ) : (q_ai (r_H b s h0) (b + 10) 1 i).bind f = some ρ := by
  have e : q_ai (r_H b s h0) (b + 10) 1 i = t_ai 106 (r_A s 20) i := by
    unfold q_ai t_ai
    rw [show r_H b s h0 (b + 10) = .inl (1, 106, .inl (r_A s 20)) from r_at 10 (by omega)]
    simp only [true_and]
  rw [e]
  exact r_bd hm kk
theorem r_as_20 {i : Int32} {x : Int32} {f : q_H → Option α} {g : r_S → Option β} (hm : (t_si 106 s 20 i x).bind g = some τ) (kk : ∀ s', g s' = some τ → f (r_H b s' h0) = some ρ) : (q_si (r_H b s h0) (b + 10) 1 i x).bind f = some ρ := by
  have e : q_si (r_H b s h0) (b + 10) 1 i x = (t_si 106 s 20 i x).map (fun s' => r_H b s' h0) := by
    unfold q_si t_si
    rw [show r_H b s h0 (b + 10) = .inl (1, 106, .inl (r_A s 20)) from r_at 10 (by omega)]
    simp only [true_and]
    split
    · exact congrArg some (r_up 10 (by omega) rfl (fun i hi => match i, hi with | 0, _ => rfl | 1, _ => rfl | 2, _ => rfl | 3, _ => rfl | 4, _ => rfl | 5, _ => rfl | 6, _ => rfl | 7, _ => rfl | 8, _ => rfl | 9, _ => rfl | 10, h => absurd rfl h | 11, _ => rfl | 12, _ => rfl | 13, _ => rfl | 14, _ => rfl | 15, _ => rfl | 16, _ => rfl | 17, _ => rfl | 18, _ => rfl | 19, _ => rfl | 20, _ => rfl | 21, _ => rfl | 22, _ => rfl | _ + 23, _ => rfl))
    · rfl
  rw [e]
  obtain ⟨w, ew, hm⟩ := q_b hm
  rw [ew]
  exact kk w hm
theorem r_gn_23 {f : Nat → Option α} (kk : f (b + 11) = some ρ) : (q_gn (r_H b s h0) b 12 23).bind f = some ρ := by
  have e : q_gn (r_H b s h0) b 12 23 = some (b + 11) := by
    unfold q_gn q_fd
    rw [show r_H b s h0 b = .inr (12, r_fs b s) from r_at 0 (by omega)]
    rfl
  rw [e]
  exact kk
theorem r_ai_23 {i : Int32} {f : Int32 → Option α} {g : Int32 → Option β} (hm : (t_ai 8 (r_A s 23) i).bind g = some τ) (kk : ∀ w, g w = some τ → f w = some ρ) : (q_ai (r_H b s h0) (b + 11) 1 i).bind f = some ρ := by
  have e : q_ai (r_H b s h0) (b + 11) 1 i = t_ai 8 (r_A s 23) i := by
    unfold q_ai t_ai
    rw [show r_H b s h0 (b + 11) = .inl (1, 8, .inl (r_A s 23)) from r_at 11 (by omega)]
    simp only [true_and]
  rw [e]
  exact r_bd hm kk
theorem r_as_23 {i : Int32} {x : Int32} {f : q_H → Option α} {g : r_S → Option β} (hm : (t_si 8 s 23 i x).bind g = some τ) (kk : ∀ s', g s' = some τ → f (r_H b s' h0) = some ρ) : (q_si (r_H b s h0) (b + 11) 1 i x).bind f = some ρ := by
  have e : q_si (r_H b s h0) (b + 11) 1 i x = (t_si 8 s 23 i x).map (fun s' => r_H b s' h0) := by
    unfold q_si t_si
    rw [show r_H b s h0 (b + 11) = .inl (1, 8, .inl (r_A s 23)) from r_at 11 (by omega)]
    simp only [true_and]
    split
    · exact congrArg some (r_up 11 (by omega) rfl (fun i hi => match i, hi with | 0, _ => rfl | 1, _ => rfl | 2, _ => rfl | 3, _ => rfl | 4, _ => rfl | 5, _ => rfl | 6, _ => rfl | 7, _ => rfl | 8, _ => rfl | 9, _ => rfl | 10, _ => rfl | 11, h => absurd rfl h | 12, _ => rfl | 13, _ => rfl | 14, _ => rfl | 15, _ => rfl | 16, _ => rfl | 17, _ => rfl | 18, _ => rfl | 19, _ => rfl | 20, _ => rfl | 21, _ => rfl | 22, _ => rfl | _ + 23, _ => rfl))
    · rfl
  rw [e]
  obtain ⟨w, ew, hm⟩ := q_b hm
  rw [ew]
  exact kk w hm
theorem r_gn_24 {f : Nat → Option α} (kk : f (b + 12) = some ρ) : (q_gn (r_H b s h0) b 12 24).bind f = some ρ := by
  have e : q_gn (r_H b s h0) b 12 24 = some (b + 12) := by
    unfold q_gn q_fd
    rw [show r_H b s h0 b = .inr (12, r_fs b s) from r_at 0 (by omega)]
    rfl
  rw [e]
  exact kk
theorem r_ai_24 {i : Int32} {f : Int32 → Option α} {g : Int32 → Option β} (hm : (t_ai 8 (r_A s 24) i).bind g = some τ) (kk : ∀ w, g w = some τ → f w = some ρ) : (q_ai (r_H b s h0) (b + 12) 1 i).bind f = some ρ := by
  have e : q_ai (r_H b s h0) (b + 12) 1 i = t_ai 8 (r_A s 24) i := by
    unfold q_ai t_ai
    rw [show r_H b s h0 (b + 12) = .inl (1, 8, .inl (r_A s 24)) from r_at 12 (by omega)]
    simp only [true_and]
  rw [e]
  exact r_bd hm kk
theorem r_as_24 {i : Int32} {x : Int32} {f : q_H → Option α} {g : r_S → Option β} (hm : (t_si 8 s 24 i x).bind g = some τ) (kk : ∀ s', g s' = some τ → f (r_H b s' h0) = some ρ) : (q_si (r_H b s h0) (b + 12) 1 i x).bind f = some ρ := by
  have e : q_si (r_H b s h0) (b + 12) 1 i x = (t_si 8 s 24 i x).map (fun s' => r_H b s' h0) := by
    unfold q_si t_si
    rw [show r_H b s h0 (b + 12) = .inl (1, 8, .inl (r_A s 24)) from r_at 12 (by omega)]
    simp only [true_and]
    split
    · exact congrArg some (r_up 12 (by omega) rfl (fun i hi => match i, hi with | 0, _ => rfl | 1, _ => rfl | 2, _ => rfl | 3, _ => rfl | 4, _ => rfl | 5, _ => rfl | 6, _ => rfl | 7, _ => rfl | 8, _ => rfl | 9, _ => rfl | 10, _ => rfl | 11, _ => rfl | 12, h => absurd rfl h | 13, _ => rfl | 14, _ => rfl | 15, _ => rfl | 16, _ => rfl | 17, _ => rfl | 18, _ => rfl | 19, _ => rfl | 20, _ => rfl | 21, _ => rfl | 22, _ => rfl | _ + 23, _ => rfl))
    · rfl
  rw [e]
  obtain ⟨w, ew, hm⟩ := q_b hm
  rw [ew]
  exact kk w hm
theorem r_gn_25 {f : Nat → Option α} (kk : f (b + 13) = some ρ) : (q_gn (r_H b s h0) b 12 25).bind f = some ρ := by
  have e : q_gn (r_H b s h0) b 12 25 = some (b + 13) := by
    unfold q_gn q_fd
    rw [show r_H b s h0 b = .inr (12, r_fs b s) from r_at 0 (by omega)]
    rfl
  rw [e]
  exact kk
theorem r_ai_25 {i : Int32} {f : Int32 → Option α} {g : Int32 → Option β} (hm : (t_ai 840 (r_A s 25) i).bind g = some τ) (kk : ∀ w, g w = some τ → f w = some ρ) : (q_ai (r_H b s h0) (b + 13) 1 i).bind f = some ρ := by
  have e : q_ai (r_H b s h0) (b + 13) 1 i = t_ai 840 (r_A s 25) i := by
    unfold q_ai t_ai
    rw [show r_H b s h0 (b + 13) = .inl (1, 840, .inl (r_A s 25)) from r_at 13 (by omega)]
    simp only [true_and]
  rw [e]
  exact r_bd hm kk
theorem r_as_25 {i : Int32} {x : Int32} {f : q_H → Option α} {g : r_S → Option β} (hm : (t_si 840 s 25 i x).bind g = some τ) (kk : ∀ s', g s' = some τ → f (r_H b s' h0) = some ρ) : (q_si (r_H b s h0) (b + 13) 1 i x).bind f = some ρ := by
  have e : q_si (r_H b s h0) (b + 13) 1 i x = (t_si 840 s 25 i x).map (fun s' => r_H b s' h0) := by
    unfold q_si t_si
    rw [show r_H b s h0 (b + 13) = .inl (1, 840, .inl (r_A s 25)) from r_at 13 (by omega)]
    simp only [true_and]
    split
    · exact congrArg some (r_up 13 (by omega) rfl (fun i hi => match i, hi with | 0, _ => rfl | 1, _ => rfl | 2, _ => rfl | 3, _ => rfl | 4, _ => rfl | 5, _ => rfl | 6, _ => rfl | 7, _ => rfl | 8, _ => rfl | 9, _ => rfl | 10, _ => rfl | 11, _ => rfl | 12, _ => rfl | 13, h => absurd rfl h | 14, _ => rfl | 15, _ => rfl | 16, _ => rfl | 17, _ => rfl | 18, _ => rfl | 19, _ => rfl | 20, _ => rfl | 21, _ => rfl | 22, _ => rfl | _ + 23, _ => rfl))
    · rfl
  rw [e]
  obtain ⟨w, ew, hm⟩ := q_b hm
  rw [ew]
  exact kk w hm
theorem r_gn_27 {f : Nat → Option α} (kk : f (b + 14) = some ρ) : (q_gn (r_H b s h0) b 12 27).bind f = some ρ := by
  have e : q_gn (r_H b s h0) b 12 27 = some (b + 14) := by
    unfold q_gn q_fd
    rw [show r_H b s h0 b = .inr (12, r_fs b s) from r_at 0 (by omega)]
    rfl
  rw [e]
  exact kk
theorem r_ai_27 {i : Int32} {f : Int32 → Option α} {g : Int32 → Option β} (hm : (t_ai 42 (r_A s 27) i).bind g = some τ) (kk : ∀ w, g w = some τ → f w = some ρ) : (q_ai (r_H b s h0) (b + 14) 1 i).bind f = some ρ := by
  have e : q_ai (r_H b s h0) (b + 14) 1 i = t_ai 42 (r_A s 27) i := by
    unfold q_ai t_ai
    rw [show r_H b s h0 (b + 14) = .inl (1, 42, .inl (r_A s 27)) from r_at 14 (by omega)]
    simp only [true_and]
  rw [e]
  exact r_bd hm kk
theorem r_as_27 {i : Int32} {x : Int32} {f : q_H → Option α} {g : r_S → Option β} (hm : (t_si 42 s 27 i x).bind g = some τ) (kk : ∀ s', g s' = some τ → f (r_H b s' h0) = some ρ) : (q_si (r_H b s h0) (b + 14) 1 i x).bind f = some ρ := by
  have e : q_si (r_H b s h0) (b + 14) 1 i x = (t_si 42 s 27 i x).map (fun s' => r_H b s' h0) := by
    unfold q_si t_si
    rw [show r_H b s h0 (b + 14) = .inl (1, 42, .inl (r_A s 27)) from r_at 14 (by omega)]
    simp only [true_and]
    split
    · exact congrArg some (r_up 14 (by omega) rfl (fun i hi => match i, hi with | 0, _ => rfl | 1, _ => rfl | 2, _ => rfl | 3, _ => rfl | 4, _ => rfl | 5, _ => rfl | 6, _ => rfl | 7, _ => rfl | 8, _ => rfl | 9, _ => rfl | 10, _ => rfl | 11, _ => rfl | 12, _ => rfl | 13, _ => rfl | 14, h => absurd rfl h | 15, _ => rfl | 16, _ => rfl | 17, _ => rfl | 18, _ => rfl | 19, _ => rfl | 20, _ => rfl | 21, _ => rfl | 22, _ => rfl | _ + 23, _ => rfl))
    · rfl
  rw [e]
  obtain ⟨w, ew, hm⟩ := q_b hm
  rw [ew]
  exact kk w hm
theorem r_gn_28 {f : Nat → Option α} (kk : f (b + 15) = some ρ) : (q_gn (r_H b s h0) b 12 28).bind f = some ρ := by
  have e : q_gn (r_H b s h0) b 12 28 = some (b + 15) := by
    unfold q_gn q_fd
    rw [show r_H b s h0 b = .inr (12, r_fs b s) from r_at 0 (by omega)]
    rfl
  rw [e]
  exact kk
theorem r_ai_28 {i : Int32} {f : Int32 → Option α} {g : Int32 → Option β} (hm : (t_ai 32 (r_A s 28) i).bind g = some τ) (kk : ∀ w, g w = some τ → f w = some ρ) : (q_ai (r_H b s h0) (b + 15) 1 i).bind f = some ρ := by
  have e : q_ai (r_H b s h0) (b + 15) 1 i = t_ai 32 (r_A s 28) i := by
    unfold q_ai t_ai
    rw [show r_H b s h0 (b + 15) = .inl (1, 32, .inl (r_A s 28)) from r_at 15 (by omega)]
    simp only [true_and]
  rw [e]
  exact r_bd hm kk
theorem r_as_28 {i : Int32} {x : Int32} {f : q_H → Option α} {g : r_S → Option β} (hm : (t_si 32 s 28 i x).bind g = some τ) (kk : ∀ s', g s' = some τ → f (r_H b s' h0) = some ρ) : (q_si (r_H b s h0) (b + 15) 1 i x).bind f = some ρ := by
  have e : q_si (r_H b s h0) (b + 15) 1 i x = (t_si 32 s 28 i x).map (fun s' => r_H b s' h0) := by
    unfold q_si t_si
    rw [show r_H b s h0 (b + 15) = .inl (1, 32, .inl (r_A s 28)) from r_at 15 (by omega)]
    simp only [true_and]
    split
    · exact congrArg some (r_up 15 (by omega) rfl (fun i hi => match i, hi with | 0, _ => rfl | 1, _ => rfl | 2, _ => rfl | 3, _ => rfl | 4, _ => rfl | 5, _ => rfl | 6, _ => rfl | 7, _ => rfl | 8, _ => rfl | 9, _ => rfl | 10, _ => rfl | 11, _ => rfl | 12, _ => rfl | 13, _ => rfl | 14, _ => rfl | 15, h => absurd rfl h | 16, _ => rfl | 17, _ => rfl | 18, _ => rfl | 19, _ => rfl | 20, _ => rfl | 21, _ => rfl | 22, _ => rfl | _ + 23, _ => rfl))
    · rfl
  rw [e]
  obtain ⟨w, ew, hm⟩ := q_b hm
  rw [ew]
  exact kk w hm
theorem r_gn_29 {f : Nat → Option α} (kk : f (b + 16) = some ρ) : (q_gn (r_H b s h0) b 12 29).bind f = some ρ := by
  have e : q_gn (r_H b s h0) b 12 29 = some (b + 16) := by
    unfold q_gn q_fd
    rw [show r_H b s h0 b = .inr (12, r_fs b s) from r_at 0 (by omega)]
    rfl
  rw [e]
  exact kk
theorem r_ai_29 {i : Int32} {f : Int32 → Option α} {g : Int32 → Option β} (hm : (t_ai 610 (r_A s 29) i).bind g = some τ) (kk : ∀ w, g w = some τ → f w = some ρ) : (q_ai (r_H b s h0) (b + 16) 1 i).bind f = some ρ := by
  have e : q_ai (r_H b s h0) (b + 16) 1 i = t_ai 610 (r_A s 29) i := by
    unfold q_ai t_ai
    rw [show r_H b s h0 (b + 16) = .inl (1, 610, .inl (r_A s 29)) from r_at 16 (by omega)]
    simp only [true_and]
  rw [e]
  exact r_bd hm kk
theorem r_as_29 {i : Int32} {x : Int32} {f : q_H → Option α} {g : r_S → Option β} (hm : (t_si 610 s 29 i x).bind g = some τ) (kk : ∀ s', g s' = some τ → f (r_H b s' h0) = some ρ) : (q_si (r_H b s h0) (b + 16) 1 i x).bind f = some ρ := by
  have e : q_si (r_H b s h0) (b + 16) 1 i x = (t_si 610 s 29 i x).map (fun s' => r_H b s' h0) := by
    unfold q_si t_si
    rw [show r_H b s h0 (b + 16) = .inl (1, 610, .inl (r_A s 29)) from r_at 16 (by omega)]
    simp only [true_and]
    split
    · exact congrArg some (r_up 16 (by omega) rfl (fun i hi => match i, hi with | 0, _ => rfl | 1, _ => rfl | 2, _ => rfl | 3, _ => rfl | 4, _ => rfl | 5, _ => rfl | 6, _ => rfl | 7, _ => rfl | 8, _ => rfl | 9, _ => rfl | 10, _ => rfl | 11, _ => rfl | 12, _ => rfl | 13, _ => rfl | 14, _ => rfl | 15, _ => rfl | 16, h => absurd rfl h | 17, _ => rfl | 18, _ => rfl | 19, _ => rfl | 20, _ => rfl | 21, _ => rfl | 22, _ => rfl | _ + 23, _ => rfl))
    · rfl
  rw [e]
  obtain ⟨w, ew, hm⟩ := q_b hm
  rw [ew]
  exact kk w hm
theorem r_gn_30 {f : Nat → Option α} (kk : f (b + 17) = some ρ) : (q_gn (r_H b s h0) b 12 30).bind f = some ρ := by
  have e : q_gn (r_H b s h0) b 12 30 = some (b + 17) := by
    unfold q_gn q_fd
    rw [show r_H b s h0 b = .inr (12, r_fs b s) from r_at 0 (by omega)]
    rfl
  rw [e]
  exact kk
theorem r_ai_30 {i : Int32} {f : Int32 → Option α} {g : Int32 → Option β} (hm : (t_ai 7 (r_A s 30) i).bind g = some τ) (kk : ∀ w, g w = some τ → f w = some ρ) : (q_ai (r_H b s h0) (b + 17) 3 i).bind f = some ρ := by
  have e : q_ai (r_H b s h0) (b + 17) 3 i = t_ai 7 (r_A s 30) i := by
    unfold q_ai t_ai
    rw [show r_H b s h0 (b + 17) = .inl (3, 7, .inl (r_A s 30)) from r_at 17 (by omega)]
    simp only [true_and]
  rw [e]
  exact r_bd hm kk
theorem r_as_30 {i : Int32} {x : Int32} {f : q_H → Option α} {g : r_S → Option β} (hm : (t_si 7 s 30 i x).bind g = some τ) (kk : ∀ s', g s' = some τ → f (r_H b s' h0) = some ρ) : (q_si (r_H b s h0) (b + 17) 3 i x).bind f = some ρ := by
  have e : q_si (r_H b s h0) (b + 17) 3 i x = (t_si 7 s 30 i x).map (fun s' => r_H b s' h0) := by
    unfold q_si t_si
    rw [show r_H b s h0 (b + 17) = .inl (3, 7, .inl (r_A s 30)) from r_at 17 (by omega)]
    simp only [true_and]
    split
    · exact congrArg some (r_up 17 (by omega) rfl (fun i hi => match i, hi with | 0, _ => rfl | 1, _ => rfl | 2, _ => rfl | 3, _ => rfl | 4, _ => rfl | 5, _ => rfl | 6, _ => rfl | 7, _ => rfl | 8, _ => rfl | 9, _ => rfl | 10, _ => rfl | 11, _ => rfl | 12, _ => rfl | 13, _ => rfl | 14, _ => rfl | 15, _ => rfl | 16, _ => rfl | 17, h => absurd rfl h | 18, _ => rfl | 19, _ => rfl | 20, _ => rfl | 21, _ => rfl | 22, _ => rfl | _ + 23, _ => rfl))
    · rfl
  rw [e]
  obtain ⟨w, ew, hm⟩ := q_b hm
  rw [ew]
  exact kk w hm
theorem r_gn_31 {f : Nat → Option α} (kk : f (b + 18) = some ρ) : (q_gn (r_H b s h0) b 12 31).bind f = some ρ := by
  have e : q_gn (r_H b s h0) b 12 31 = some (b + 18) := by
    unfold q_gn q_fd
    rw [show r_H b s h0 b = .inr (12, r_fs b s) from r_at 0 (by omega)]
    rfl
  rw [e]
  exact kk
theorem r_ai_31 {i : Int32} {f : Int32 → Option α} {g : Int32 → Option β} (hm : (t_ai 427 (r_A s 31) i).bind g = some τ) (kk : ∀ w, g w = some τ → f w = some ρ) : (q_ai (r_H b s h0) (b + 18) 1 i).bind f = some ρ := by
  have e : q_ai (r_H b s h0) (b + 18) 1 i = t_ai 427 (r_A s 31) i := by
    unfold q_ai t_ai
    rw [show r_H b s h0 (b + 18) = .inl (1, 427, .inl (r_A s 31)) from r_at 18 (by omega)]
    simp only [true_and]
  rw [e]
  exact r_bd hm kk
theorem r_as_31 {i : Int32} {x : Int32} {f : q_H → Option α} {g : r_S → Option β} (hm : (t_si 427 s 31 i x).bind g = some τ) (kk : ∀ s', g s' = some τ → f (r_H b s' h0) = some ρ) : (q_si (r_H b s h0) (b + 18) 1 i x).bind f = some ρ := by
  have e : q_si (r_H b s h0) (b + 18) 1 i x = (t_si 427 s 31 i x).map (fun s' => r_H b s' h0) := by
    unfold q_si t_si
    rw [show r_H b s h0 (b + 18) = .inl (1, 427, .inl (r_A s 31)) from r_at 18 (by omega)]
    simp only [true_and]
    split
    · exact congrArg some (r_up 18 (by omega) rfl (fun i hi => match i, hi with | 0, _ => rfl | 1, _ => rfl | 2, _ => rfl | 3, _ => rfl | 4, _ => rfl | 5, _ => rfl | 6, _ => rfl | 7, _ => rfl | 8, _ => rfl | 9, _ => rfl | 10, _ => rfl | 11, _ => rfl | 12, _ => rfl | 13, _ => rfl | 14, _ => rfl | 15, _ => rfl | 16, _ => rfl | 17, _ => rfl | 18, h => absurd rfl h | 19, _ => rfl | 20, _ => rfl | 21, _ => rfl | 22, _ => rfl | _ + 23, _ => rfl))
    · rfl
  rw [e]
  obtain ⟨w, ew, hm⟩ := q_b hm
  rw [ew]
  exact kk w hm
theorem r_gn_33 {f : Nat → Option α} (kk : f (b + 19) = some ρ) : (q_gn (r_H b s h0) b 12 33).bind f = some ρ := by
  have e : q_gn (r_H b s h0) b 12 33 = some (b + 19) := by
    unfold q_gn q_fd
    rw [show r_H b s h0 b = .inr (12, r_fs b s) from r_at 0 (by omega)]
    rfl
  rw [e]
  exact kk
theorem r_ai_33 {i : Int32} {f : Int32 → Option α} {g : Int32 → Option β} (hm : (t_ai 424 (r_A s 33) i).bind g = some τ) (kk : ∀ w, g w = some τ → f w = some ρ) : (q_ai (r_H b s h0) (b + 19) 1 i).bind f = some ρ := by
  have e : q_ai (r_H b s h0) (b + 19) 1 i = t_ai 424 (r_A s 33) i := by
    unfold q_ai t_ai
    rw [show r_H b s h0 (b + 19) = .inl (1, 424, .inl (r_A s 33)) from r_at 19 (by omega)]
    simp only [true_and]
  rw [e]
  exact r_bd hm kk
theorem r_as_33 {i : Int32} {x : Int32} {f : q_H → Option α} {g : r_S → Option β} (hm : (t_si 424 s 33 i x).bind g = some τ) (kk : ∀ s', g s' = some τ → f (r_H b s' h0) = some ρ) : (q_si (r_H b s h0) (b + 19) 1 i x).bind f = some ρ := by
  have e : q_si (r_H b s h0) (b + 19) 1 i x = (t_si 424 s 33 i x).map (fun s' => r_H b s' h0) := by
    unfold q_si t_si
    rw [show r_H b s h0 (b + 19) = .inl (1, 424, .inl (r_A s 33)) from r_at 19 (by omega)]
    simp only [true_and]
    split
    · exact congrArg some (r_up 19 (by omega) rfl (fun i hi => match i, hi with | 0, _ => rfl | 1, _ => rfl | 2, _ => rfl | 3, _ => rfl | 4, _ => rfl | 5, _ => rfl | 6, _ => rfl | 7, _ => rfl | 8, _ => rfl | 9, _ => rfl | 10, _ => rfl | 11, _ => rfl | 12, _ => rfl | 13, _ => rfl | 14, _ => rfl | 15, _ => rfl | 16, _ => rfl | 17, _ => rfl | 18, _ => rfl | 19, h => absurd rfl h | 20, _ => rfl | 21, _ => rfl | 22, _ => rfl | _ + 23, _ => rfl))
    · rfl
  rw [e]
  obtain ⟨w, ew, hm⟩ := q_b hm
  rw [ew]
  exact kk w hm
theorem r_gn_34 {f : Nat → Option α} (kk : f (b + 20) = some ρ) : (q_gn (r_H b s h0) b 12 34).bind f = some ρ := by
  have e : q_gn (r_H b s h0) b 12 34 = some (b + 20) := by
    unfold q_gn q_fd
    rw [show r_H b s h0 b = .inr (12, r_fs b s) from r_at 0 (by omega)]
    rfl
  rw [e]
  exact kk
theorem r_ai_34 {i : Int32} {f : Int32 → Option α} {g : Int32 → Option β} (hm : (t_ai 4 (r_A s 34) i).bind g = some τ) (kk : ∀ w, g w = some τ → f w = some ρ) : (q_ai (r_H b s h0) (b + 20) 1 i).bind f = some ρ := by
  have e : q_ai (r_H b s h0) (b + 20) 1 i = t_ai 4 (r_A s 34) i := by
    unfold q_ai t_ai
    rw [show r_H b s h0 (b + 20) = .inl (1, 4, .inl (r_A s 34)) from r_at 20 (by omega)]
    simp only [true_and]
  rw [e]
  exact r_bd hm kk
theorem r_as_34 {i : Int32} {x : Int32} {f : q_H → Option α} {g : r_S → Option β} (hm : (t_si 4 s 34 i x).bind g = some τ) (kk : ∀ s', g s' = some τ → f (r_H b s' h0) = some ρ) : (q_si (r_H b s h0) (b + 20) 1 i x).bind f = some ρ := by
  have e : q_si (r_H b s h0) (b + 20) 1 i x = (t_si 4 s 34 i x).map (fun s' => r_H b s' h0) := by
    unfold q_si t_si
    rw [show r_H b s h0 (b + 20) = .inl (1, 4, .inl (r_A s 34)) from r_at 20 (by omega)]
    simp only [true_and]
    split
    · exact congrArg some (r_up 20 (by omega) rfl (fun i hi => match i, hi with | 0, _ => rfl | 1, _ => rfl | 2, _ => rfl | 3, _ => rfl | 4, _ => rfl | 5, _ => rfl | 6, _ => rfl | 7, _ => rfl | 8, _ => rfl | 9, _ => rfl | 10, _ => rfl | 11, _ => rfl | 12, _ => rfl | 13, _ => rfl | 14, _ => rfl | 15, _ => rfl | 16, _ => rfl | 17, _ => rfl | 18, _ => rfl | 19, _ => rfl | 20, h => absurd rfl h | 21, _ => rfl | 22, _ => rfl | _ + 23, _ => rfl))
    · rfl
  rw [e]
  obtain ⟨w, ew, hm⟩ := q_b hm
  rw [ew]
  exact kk w hm
theorem r_gn_35 {f : Nat → Option α} (kk : f (b + 21) = some ρ) : (q_gn (r_H b s h0) b 12 35).bind f = some ρ := by
  have e : q_gn (r_H b s h0) b 12 35 = some (b + 21) := by
    unfold q_gn q_fd
    rw [show r_H b s h0 b = .inr (12, r_fs b s) from r_at 0 (by omega)]
    rfl
  rw [e]
  exact kk
theorem r_ai_35 {i : Int32} {f : Int32 → Option α} {g : Int32 → Option β} (hm : (t_ai 4 (r_A s 35) i).bind g = some τ) (kk : ∀ w, g w = some τ → f w = some ρ) : (q_ai (r_H b s h0) (b + 21) 1 i).bind f = some ρ := by
  have e : q_ai (r_H b s h0) (b + 21) 1 i = t_ai 4 (r_A s 35) i := by
    unfold q_ai t_ai
    rw [show r_H b s h0 (b + 21) = .inl (1, 4, .inl (r_A s 35)) from r_at 21 (by omega)]
    simp only [true_and]
  rw [e]
  exact r_bd hm kk
theorem r_as_35 {i : Int32} {x : Int32} {f : q_H → Option α} {g : r_S → Option β} (hm : (t_si 4 s 35 i x).bind g = some τ) (kk : ∀ s', g s' = some τ → f (r_H b s' h0) = some ρ) : (q_si (r_H b s h0) (b + 21) 1 i x).bind f = some ρ := by
  have e : q_si (r_H b s h0) (b + 21) 1 i x = (t_si 4 s 35 i x).map (fun s' => r_H b s' h0) := by
    unfold q_si t_si
    rw [show r_H b s h0 (b + 21) = .inl (1, 4, .inl (r_A s 35)) from r_at 21 (by omega)]
    simp only [true_and]
    split
    · exact congrArg some (r_up 21 (by omega) rfl (fun i hi => match i, hi with | 0, _ => rfl | 1, _ => rfl | 2, _ => rfl | 3, _ => rfl | 4, _ => rfl | 5, _ => rfl | 6, _ => rfl | 7, _ => rfl | 8, _ => rfl | 9, _ => rfl | 10, _ => rfl | 11, _ => rfl | 12, _ => rfl | 13, _ => rfl | 14, _ => rfl | 15, _ => rfl | 16, _ => rfl | 17, _ => rfl | 18, _ => rfl | 19, _ => rfl | 20, _ => rfl | 21, h => absurd rfl h | 22, _ => rfl | _ + 23, _ => rfl))
    · rfl
  rw [e]
  obtain ⟨w, ew, hm⟩ := q_b hm
  rw [ew]
  exact kk w hm
theorem r_gn_36 {f : Nat → Option α} (kk : f (b + 22) = some ρ) : (q_gn (r_H b s h0) b 12 36).bind f = some ρ := by
  have e : q_gn (r_H b s h0) b 12 36 = some (b + 22) := by
    unfold q_gn q_fd
    rw [show r_H b s h0 b = .inr (12, r_fs b s) from r_at 0 (by omega)]
    rfl
  rw [e]
  exact kk
theorem r_ai_36 {i : Int32} {f : Int32 → Option α} {g : Int32 → Option β} (hm : (t_ai 4 (r_A s 36) i).bind g = some τ) (kk : ∀ w, g w = some τ → f w = some ρ) : (q_ai (r_H b s h0) (b + 22) 3 i).bind f = some ρ := by
  have e : q_ai (r_H b s h0) (b + 22) 3 i = t_ai 4 (r_A s 36) i := by
    unfold q_ai t_ai
    rw [show r_H b s h0 (b + 22) = .inl (3, 4, .inl (r_A s 36)) from r_at 22 (by omega)]
    simp only [true_and]
  rw [e]
  exact r_bd hm kk
theorem r_as_36 {i : Int32} {x : Int32} {f : q_H → Option α} {g : r_S → Option β} (hm : (t_si 4 s 36 i x).bind g = some τ) (kk : ∀ s', g s' = some τ → f (r_H b s' h0) = some ρ) : (q_si (r_H b s h0) (b + 22) 3 i x).bind f = some ρ := by
  have e : q_si (r_H b s h0) (b + 22) 3 i x = (t_si 4 s 36 i x).map (fun s' => r_H b s' h0) := by
    unfold q_si t_si
    rw [show r_H b s h0 (b + 22) = .inl (3, 4, .inl (r_A s 36)) from r_at 22 (by omega)]
    simp only [true_and]
    split
    · exact congrArg some (r_up 22 (by omega) rfl (fun i hi => match i, hi with | 0, _ => rfl | 1, _ => rfl | 2, _ => rfl | 3, _ => rfl | 4, _ => rfl | 5, _ => rfl | 6, _ => rfl | 7, _ => rfl | 8, _ => rfl | 9, _ => rfl | 10, _ => rfl | 11, _ => rfl | 12, _ => rfl | 13, _ => rfl | 14, _ => rfl | 15, _ => rfl | 16, _ => rfl | 17, _ => rfl | 18, _ => rfl | 19, _ => rfl | 20, _ => rfl | 21, _ => rfl | 22, h => absurd rfl h | _ + 23, _ => rfl))
    · rfl
  rw [e]
  obtain ⟨w, ew, hm⟩ := q_b hm
  rw [ew]
  exact kk w hm
end RT
