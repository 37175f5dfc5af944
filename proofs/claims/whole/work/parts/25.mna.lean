/-! ===== new int[n][k] (the row vr_outer is the printed names' own) ===== -/
theorem vr_outer (c : ClassId) (N h0 : Nat) : ∀ i : Nat, Jvm.Free.Multi.outerC c N h0 i = arrV c N (fun j => va_rf (if j < i then some (h0 + 1 + j) else none))
  | 0 => by
    show ({ cls := c, slots := Array.replicate N .null, vm := .none } : Cell) = _
    rw [arrV_new]
    refine congrArg (arrV c N) (funext fun j => ?_)
    simp [va_rf]
  | i + 1 => by
    show (Jvm.Free.Multi.outerC c N h0 i).setSlot i (.ref (h0 + 1 + i)) = _
    rw [vr_outer c N h0 i, arrV_store]
    refine congrArg (arrV c N) (funext fun j => ?_)
    by_cases e : j = i
    · subst e
      simp [updV, va_rf]
    · by_cases h : j < i
      · simp [updV, e, h, Nat.lt_succ_of_lt h]
      · simp [updV, e, h, show ¬ j < i + 1 by omega]
def q_mh (h : q_H) (sz N K : Nat) : q_H := fun a => if a = sz then .inl (7, N, .inr (.inr (.inr (.inr (fun i => if i < N then some (sz + 1 + i) else none))))) else if sz < a ∧ a ≤ sz + N then .inl (1, K, .inl (fun _ => 0)) else h a
theorem q_mna {Γ : q_G} {cc : ByteArray} {own : String} {sz cells slots : Nat} {h : q_H} {lv : List (Nat × Value)} {st : List Value} {pc idx nl fr lo mc ms : Nat} (C : q_C Γ cc own) (Rm : q_Rm Γ nl fr lo mc ms) (hcl : Cond.classLink own idx "[[I" ∈ q_T) (haw : Cond.arrayClass .int ∈ q_T) {n k : Int32} (N K : Nat) (hn : ¬ n < 0) (hk : ¬ k < 0) (hN : n.toNatClampNeg = N) (hM : k.toNatClampNeg = K) (hb1 : N * 4 ≤ 536870912) (hb2 : K * 4 ≤ 536870912) (hc : cells + (1 + N) ≤ mc ∧ slots + (N + N * K) ≤ ms) (hd : decode cc pc = .ok (.multianewarray idx 2, 4))
    (kk : q_V Γ (sz + 1 + N) (cells + 1 + N) (slots + N + N * K) (q_mh h sz N K) lv (.ref sz :: st) (pc + 4)) : q_V Γ sz cells slots h lv (.int k :: .int n :: st) pc := by
  obtain ⟨⟨p, l, ev, R, s, m, args, below, meth, c⟩, Q, base, nL, D, tc⟩ := Γ
  obtain ⟨hx, hb, hml, hown, hts, hK, hbs, hS0⟩ := C
  obtain ⟨-, hRm⟩ := Rm
  dsimp only at hRm
  subst hN
  subst hM
  intro H locs ls hR hS hl
  intro T hT X
  have hao : (Cond.arrayOver (.array .int)).before args s = true := hS0.2.2.2.2.2.2.2.2.1
  obtain ⟨vm₁, cA, comp, -, fA, fC, hO, -, X', step⟩ := X.multianewarray2F hx hown (ty := .int) (hts _ hcl) hao (hts _ haw) (g := F0 m pc ls (.int k :: .int n :: st)) rfl (by rw [hb]; exact hd) rfl hn hk hb1 hb2 (by omega) rfl rfl (by rw [hRm]; exact hc.1) (by rw [hRm]; exact hc.2)
  have hcA : cA = tc 7 := Option.some.inj (fA.symm.trans (hK.2 7 _ rfl).2)
  have hcm : comp = tc 1 := Option.some.inj (fC.symm.trans (hK.2 1 _ rfl).2)
  subst hcA
  subst hcm
  generalize hF : Jvm.Free.Multi.fill (T.setVm vm₁) (tc 7) (tc 1) n.toNatClampNeg k.toNatClampNeg (defaultValue .int) n.toNatClampNeg = F at X' step
  have hTh : (T.setVm vm₁).heap = H := hT
  have hsz : H.size = sz := hR.1
  obtain ⟨f1, f2, -, -⟩ := Jvm.Free.Multi.fill_facts (T.setVm vm₁) (tc 7) (tc 1) n.toNatClampNeg k.toNatClampNeg (defaultValue .int) n.toNatClampNeg
  rw [hF, hTh, hsz] at f1 f2
  have hold : ∀ x : Nat, x < sz → F.heap[x]? = H[x]? := fun x hx' => by
    have := Jvm.Free.Multi.fill_old (T.setVm vm₁) (tc 7) (tc 1) n.toNatClampNeg k.toNatClampNeg (defaultValue .int) (a := x) (by rw [hTh, hsz]; exact hx') n.toNatClampNeg
    rw [hF, hTh] at this
    exact this
  have hrow : ∀ j : Nat, j < n.toNatClampNeg → F.heap[sz + 1 + j]? = some (vp_cell (tc 1) (k.toNatClampNeg, .inl (fun _ => 0))) := fun j hj => by
    have := Jvm.Free.Multi.fill_inner (T.setVm vm₁) (tc 7) (tc 1) n.toNatClampNeg k.toNatClampNeg (defaultValue .int) n.toNatClampNeg j hj
    rw [hF, hTh, hsz] at this
    rw [this, vp_cell_i, ← arrV_new]
    rfl
  rw [vr_outer] at f2
  have hR1 : q_R base (sz + 1 + n.toNatClampNeg) D tc (q_mh h sz n.toNatClampNeg k.toNatClampNeg) F.heap := by
    obtain ⟨r1, r2, r3, r4⟩ := hR
    refine ⟨f1, by omega, fun i q hi => ?_, fun b hb => ?_⟩
    · obtain ⟨rfl, hlt⟩ := q_W_get hi
      by_cases e1 : base + i = sz
      · simp only [q_mh, if_pos e1]
        show F.heap[base + i]? = some (vp_cell _ _)
        rw [e1, f2, vp_cell_q]
      · by_cases e2 : sz < base + i ∧ base + i ≤ sz + n.toNatClampNeg
        · simp only [q_mh, if_neg e1, if_pos e2]
          have := hrow (base + i - sz - 1) (by omega)
          rw [show sz + 1 + (base + i - sz - 1) = base + i by omega] at this
          exact this
        · simp only [q_mh, if_neg e1, if_neg e2]
          exact (r3 i _ (q_W_ix (by omega))).kept (hold _ (by show base + i < sz; omega))
    · by_cases e1 : b = sz
      · omega
      · by_cases e2 : sz < b ∧ b ≤ sz + n.toNatClampNeg
        · omega
        · simp only [q_mh, if_neg e1, if_neg e2] at hb
          have := r4 b hb
          omega
  obtain ⟨t, a1, b1⟩ := kk F.heap locs ls hR1 ⟨by rw [f1]; have := hS.1; omega, fun x h1 h2 => (hold x (by have := hS.1; omega)).trans (hS.2.1 x h1 h2), hS.2.2⟩ hl F rfl X'
  refine ⟨t, step t ?_, b1⟩
  have e : T.heap.size = sz := by rw [hT]; exact hsz
  rw [e]
  exact a1
