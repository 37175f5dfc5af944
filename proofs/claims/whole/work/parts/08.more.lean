theorem q_inc {n : Int} {k : Int32} (x : Int32) (h : Int32.ofInt n = k) : x + Int32.ofInt n = x + k := by rw [h]
def q_rmi (x y : Int32) : Int32 := x - x / y * y
def q_rml (x y : Int64) : Int64 := x - x / y * y
section QG
variable {Γ : q_G} {cc : ByteArray} {own : String} {sz cells slots : Nat} {h : q_H} {lv lv' : List (Nat × Value)} {st : List Value} {pc : Nat} {α : Type} {ρ : α} {A : Option α}
theorem q_idivc (C : q_C Γ cc own) {x y : Int32} (hm : (if y = 0 then none else A) = some ρ) (hd : decode cc pc = .ok (.idiv, 1)) (k : A = some ρ → q_V Γ sz cells slots h lv (.int (x / y) :: st) (pc + 1)) : q_V Γ sz cells slots h lv (.int y :: .int x :: st) pc := by
  split at hm
  · cases hm
  · next hc => exact q_idiv C hc hd (k hm)
theorem q_iremc (C : q_C Γ cc own) {x y : Int32} (hm : (if y = 0 then none else A) = some ρ) (hd : decode cc pc = .ok (.irem, 1)) (k : A = some ρ → q_V Γ sz cells slots h lv (.int (q_rmi x y) :: st) (pc + 1)) : q_V Γ sz cells slots h lv (.int y :: .int x :: st) pc := by
  split at hm
  · cases hm
  · next hc => exact q_irem C hc hd (k hm)
theorem q_ldivc (C : q_C Γ cc own) {x y : Int64} (hm : (if y = 0 then none else A) = some ρ) (hd : decode cc pc = .ok (.ldiv, 1)) (k : A = some ρ → q_V Γ sz cells slots h lv (.long (x / y) :: st) (pc + 1)) : q_V Γ sz cells slots h lv (.long y :: .long x :: st) pc := by
  split at hm
  · cases hm
  · next hc => exact q_ldiv C hc hd (k hm)
theorem q_lremc (C : q_C Γ cc own) {x y : Int64} (hm : (if y = 0 then none else A) = some ρ) (hd : decode cc pc = .ok (.lrem, 1)) (k : A = some ρ → q_V Γ sz cells slots h lv (.long (q_rml x y) :: st) (pc + 1)) : q_V Γ sz cells slots h lv (.long y :: .long x :: st) pc := by
  split at hm
  · cases hm
  · next hc => exact q_lrem C hc hd (k hm)
end QG
section QI
variable {Γ : q_G} {cc : ByteArray} {sz cells slots : Nat} {h h1 h' : q_H} {lv : List (Nat × Value)} {pc : Nat}
theorem q_riS {rt : FieldType} {x r : Int32} (hm : some (x, h1) = some (r, h')) (K : narrow rt (.int r) = .int r → q_K Γ cc .ireturn sz h' cells slots [.int r]) (hz : narrow rt (.int x) = .int x) (hd : decode cc pc = .ok (.ireturn, 1)) : q_V Γ sz cells slots h1 lv [.int x] pc := by
  cases hm
  exact q_ret (K hz) hd
theorem q_riP {rt : FieldType} {x r : Int32} (hm : some x = some r) (K : narrow rt (.int r) = .int r → q_K Γ cc .ireturn sz h cells slots [.int r]) (hz : narrow rt (.int x) = .int x) (hd : decode cc pc = .ok (.ireturn, 1)) : q_V Γ sz cells slots h lv [.int x] pc := by
  cases hm
  exact q_ret (K hz) hd
theorem q_rlS {x r : Int64} (hm : some (x, h1) = some (r, h')) (K : q_K Γ cc .lreturn sz h' cells slots [.long r]) (hd : decode cc pc = .ok (.lreturn, 1)) : q_V Γ sz cells slots h1 lv [.long x] pc := by
  cases hm
  exact q_ret K hd
theorem q_rlP {x r : Int64} (hm : some x = some r) (K : q_K Γ cc .lreturn sz h cells slots [.long r]) (hd : decode cc pc = .ok (.lreturn, 1)) : q_V Γ sz cells slots h lv [.long x] pc := by
  cases hm
  exact q_ret K hd
theorem q_roS {x r : Option Nat} (hm : some (x, h1) = some (r, h')) (K : q_K Γ cc .areturn sz h' cells slots [va_rf r]) (hd : decode cc pc = .ok (.areturn, 1)) : q_V Γ sz cells slots h1 lv [va_rf x] pc := by
  cases hm
  exact q_ret K hd
theorem q_roP {x r : Option Nat} (hm : some x = some r) (K : q_K Γ cc .areturn sz h cells slots [va_rf r]) (hd : decode cc pc = .ok (.areturn, 1)) : q_V Γ sz cells slots h lv [va_rf x] pc := by
  cases hm
  exact q_ret K hd
theorem q_rvS (hm : some h1 = some h') (K : q_K Γ cc .return_ sz h' cells slots []) (hd : decode cc pc = .ok (.return_, 1)) : q_V Γ sz cells slots h1 lv [] pc := by
  cases hm
  exact q_ret K hd
end QI
