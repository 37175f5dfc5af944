/-! THE CLAIM OUT OF ONE WALK OF THE LAW'S BODY. Your part is whole_start (and what it stands on); all else here is the same for every law, but numbers. -/
def R_law : String := "TugRopeLaw"
def lw_P (b : Addr) (xs : List Int32) (args : Array Value) (s : State) : Prop := args = #[.ref b] ∧ s.IntsAt b xs ∧ xs.length ≤ 3072 ∧ (Jvm.Cond.and given_1 narrow_1).before args s = true
def lw_Q (_ : Array Value) (s : State) (o : Outcome) (t : State) : Prop := o = .returned (some (.int 1)) ∧ Framed s o t [] 600000 7302250
def lw_Z (below : List Frame) (a : Array Value) (s : State) : State → Prop := fun t => ∃ o, t.status = .running ∧ Ended t below o ∧ lw_Q a s o t
/-- the law's own end, with 1 on the stack, nothing written that was there before, its room as the claim has it -/
theorem lw_ret {p : Program} {l : Launch} {e : Env} {s : State} {m : MethodId} {below : List Frame} {meth : Method} {c : Code} {b : Nat} (hx : p.tables.exec = Jvm.exec) (hb : c.code = code) (hr : meth.sig.returnType = ret) (hlocks : meth.locks = false) {pc : Nat} {H : Heap} {ls : Array Slot} (hdg : decode code pc = .ok (.ireturn, 1)) : W p l e room_1 s m #[Value.ref b] below meth c H [] 600000 7302250 (lw_Z below #[Value.ref b] s) (F0 m pc ls [.int 1]) := by
  intro T hT X
  obtain ⟨fs, hret, hrun, hended, hW, hframe⟩ := X.leave (v := some (.int 1)) (hlocks := hlocks) (fun h => by rw [hr] at h; cases h)
  have hmeth' : T.vm.method? m = some meth := X.method'
  refine ⟨T.setFrames fs, ?_, .returned (some (.int 1)), hrun, hended, rfl, ⟨_, rfl⟩, hW, hframe⟩
  jvm_step X.here [X.here.top, hx, hb, hdg, hmeth', hr, ret, narrow_b1]
  (try refine ⟨rfl, ?_⟩); (try refine ⟨rfl, ?_⟩)
  first | (intro acts; rw [hret _ acts rfl rfl rfl]) | rw [hret _ _ rfl rfl rfl]
  exact Steps.refl _
/-- what holds at the law's entry: the machine, the code, the tables' words (any of lw_tbl by 'hts w (by decide +kernel)'), the script of L ints xs at the cell b, what the Statement gives of the start (any of its parts by flat_of_before) -/
def lw_At (p : Program) (s : State) (m : MethodId) (meth : Method) (c : Code) (b L : Nat) (xs : Nat → Int32) : Prop :=
  p.tables.exec = Jvm.exec ∧ c.code = code ∧ meth.sig.returnType = ret ∧ c.maxLocals = 4 ∧ s.vm.findClass R_law = some m.cls ∧ (∀ w ∈ lw_tbl, w.before #[Value.ref b] s = true) ∧ va_X b L xs s s.heap ∧ b < s.heap.size ∧ meth.locks = false ∧ (Jvm.Cond.and given_1 narrow_1).before #[Value.ref b] s = true
theorem q_arrP {s : State} {args : Array Value} {ty : FieldType} (h : (Cond.arrayClass ty).before args s = true) : ∃ c, s.vm.findClass ("[" ++ ty.toString) = some c ∧ ArrOfT s c ty := by
  obtain ⟨c, k, comp, h1, h2, h3⟩ := Cond.arrayClass_spec h
  exact ⟨c, h1, fun n z => ⟨fun k h => (by cases h), k, h2, comp, h3⟩⟩
theorem q_arrO {s : State} {C : String} (h : va_AO C s) : ∃ c, ArrOfT s c (.object C) ∧ va_RA s c (.object C) := by
  obtain ⟨comp, c, k, h1, h2, h3, h4, h5⟩ := Cond.arrayOver_spec h
  exact ⟨c, fun n z => ⟨fun k h => (by cases h), k, h3, comp, h4⟩, k, comp, h3, h4, h1, h5⟩
theorem q_arrA {s : State} (h : q_AOA s) : ∃ c, ArrOfT s c (.array .int) ∧ va_RA s c (.array .int) := by
  obtain ⟨comp, c, k, h1, h3, h4, h5⟩ := Cond.arrayOver_specA h
  exact ⟨c, fun n z => ⟨fun k h => (by cases h), k, h3, comp, h4⟩, h5⟩
theorem q_pick {Pk : Nat → ClassId → (Nat → Nat) → Prop} {N : Nat} (h : ∀ k, k < N → ∃ c i, Pk k c i) : ∃ (dC : Nat → ClassId) (dI : Nat → Nat → Nat), ∀ k, k < N → Pk k (dC k) (dI k) := by
  refine ⟨fun k => if hk : k < N then Classical.choose (h k hk) else 0, fun k => if hk : k < N then Classical.choose (Classical.choose_spec (h k hk)) else fun _ => 0, fun k hk => ?_⟩
  simp only [dif_pos hk]
  exact Classical.choose_spec (Classical.choose_spec (h k hk))
set_option maxRecDepth 100000 in
set_option maxHeartbeats 4000000 in
theorem q_entry {p : Program} {s : State} {m : MethodId} {meth : Method} {c : Code} {b L : Nat} {xs : Nat → Int32} (C0 : lw_At p s m meth c b L xs) : ∃ (D : va_G) (tc : Nat → ClassId), va_K D vwCl (q_tys tc) s ∧ q_S s.heap.size tc s := by
  obtain ⟨hx, hb, hr, hml, hown, hts, hX, hbl, hlocks, hgv⟩ := C0
  have hs := flat_of_before _ hgv
  have hA : ∀ a : Nat, a < s.heap.size → ¬ q_A s.heap.size a := fun a h1 h2 => Nat.not_le.mpr h1 h2
  have htq : ∀ w ∈ q_T, w.before #[Value.ref b] s = true := fun w hw => hts w (q_T_in w hw)
  have ev : ∀ {t u : Term} {v : Value}, (Cond.eq t u).before #[Value.ref b] s = true → u.eval #[Value.ref b] s none [] s = some v → t.eval #[Value.ref b] s none [] s = some v := by
    intro t u v h1 h2
    obtain ⟨y, e1, e2⟩ := Cond.eq_one h1
    cases e2.symm.trans h2
    exact e1
  obtain ⟨dC, dI, hKc⟩ := q_pick (N := 13) (Pk := fun k c i => ∀ q : vw_C, vwCl[k]? = some q → u_Kn s q.1 q.2.1 q.2.2 c i) (fun k hk => by
    match k, hk with
    | 0, _ => obtain ⟨c0, i0, hk0⟩ := u_known (C := RX0) (T := TX0) (N := 7) (n := 7) htq q_FX0.2.1 (htq _ in_0); exact ⟨c0, i0, fun q hq => by cases hq; exact hk0⟩
    | 1, _ => obtain ⟨c0, i0, hk0⟩ := u_known (C := RX1) (T := TX1) (N := 7) (n := 7) htq q_FX1.2.1 (htq _ in_1); exact ⟨c0, i0, fun q hq => by cases hq; exact hk0⟩
    | 2, _ => obtain ⟨c0, i0, hk0⟩ := u_known (C := RX2) (T := TX2) (N := 3) (n := 3) htq q_FX2.2.1 (htq _ in_2); exact ⟨c0, i0, fun q hq => by cases hq; exact hk0⟩
    | 3, _ => obtain ⟨c0, i0, hk0⟩ := u_known (C := RX3) (T := TX3) (N := 9) (n := 9) htq q_FX3.2.1 (htq _ in_3); exact ⟨c0, i0, fun q hq => by cases hq; exact hk0⟩
    | 4, _ => obtain ⟨c0, i0, hk0⟩ := u_known (C := RX4) (T := TX4) (N := 8) (n := 8) htq q_FX4.2.1 (htq _ in_4); exact ⟨c0, i0, fun q hq => by cases hq; exact hk0⟩
    | 5, _ => obtain ⟨c0, i0, hk0⟩ := u_known (C := RX5) (T := TX5) (N := 2) (n := 2) htq q_FX5.2.1 (htq _ in_5); exact ⟨c0, i0, fun q hq => by cases hq; exact hk0⟩
    | 6, _ => obtain ⟨c0, i0, hk0⟩ := u_known (C := RX6) (T := TX6) (N := 2) (n := 2) htq q_FX6.2.1 (htq _ in_6); exact ⟨c0, i0, fun q hq => by cases hq; exact hk0⟩
    | 7, _ => obtain ⟨c0, i0, hk0⟩ := u_known (C := RX7) (T := TX7) (N := 9) (n := 9) htq q_FX7.2.1 (htq _ in_7); exact ⟨c0, i0, fun q hq => by cases hq; exact hk0⟩
    | 8, _ => obtain ⟨c0, i0, hk0⟩ := u_known (C := RX8) (T := TX8) (N := 9) (n := 9) htq q_FX8.2.1 (htq _ in_8); exact ⟨c0, i0, fun q hq => by cases hq; exact hk0⟩
    | 9, _ => obtain ⟨c0, i0, hk0⟩ := u_known (C := RX9) (T := TX9) (N := 2) (n := 2) htq q_FX9.2.1 (htq _ in_9); exact ⟨c0, i0, fun q hq => by cases hq; exact hk0⟩
    | 10, _ => obtain ⟨c0, i0, hk0⟩ := u_known (C := RX10) (T := TX10) (N := 7) (n := 7) htq q_FX10.2.1 (htq _ in_10); exact ⟨c0, i0, fun q hq => by cases hq; exact hk0⟩
    | 11, _ => obtain ⟨c0, i0, hk0⟩ := u_known (C := RX11) (T := TX11) (N := 10) (n := 10) htq q_FX11.2.1 (htq _ in_11); exact ⟨c0, i0, fun q hq => by cases hq; exact hk0⟩
    | 12, _ => obtain ⟨c0, i0, hk0⟩ := u_known (C := RX12) (T := TX12) (N := 37) (n := 37) htq q_FX12.2.1 (htq _ in_12); exact ⟨c0, i0, fun q hq => by cases hq; exact hk0⟩
    | k + 13, h => exact absurd h (by omega))
  obtain ⟨cB, b1, b2⟩ := q_arrP (htq _ aw_byte)
  obtain ⟨cI, i1, i2⟩ := q_arrP (htq _ aw_int)
  obtain ⟨cJ, j1, j2⟩ := q_arrP (htq _ aw_long)
  obtain ⟨cZ, z1, z2⟩ := q_arrP (htq _ aw_boolean)
  have aG : va_AO "TugRope$Game" s := va_AO.of (hts _ (List.mem_append_right _ (List.mem_append_right _ (List.mem_append_left _ (List.mem_of_getElem? (i := 0) rfl)))))
  have aR : va_AO "TugRope$Rule" s := va_AO.of (hts _ (List.mem_append_right _ (List.mem_append_left _ (List.mem_of_getElem? (i := 135) rfl))))
  have aT : va_AO "TugRope$Tug" s := va_AO.of (hts _ (List.mem_append_right _ (List.mem_append_left _ (List.mem_of_getElem? (i := 227) rfl))))
  have aA : q_AOA s := (hts _ (List.mem_append_right _ (List.mem_append_right _ (List.mem_append_left _ (List.mem_of_getElem? (i := 98) rfl)))))
  obtain ⟨cG, g1, g2⟩ := q_arrO aG
  obtain ⟨cR, r1, r2⟩ := q_arrO aR
  obtain ⟨cT, t1, t2⟩ := q_arrO aT
  obtain ⟨cA, a1, a2⟩ := q_arrA aA
  obtain ⟨t, et, hT⟩ := va_Tof (args := #[Value.ref b]) (s := s) (tm := (Term.static "TugRope$Rope" "ROWS_OF" "[I")) (ty := .int) (N := 8) (f := fun j => .int (q_rows j)) (A := q_A s.heap.size) (by decide) (hs _ (by decide +kernel)) (ev (u := .int 8) (hs _ (by decide +kernel)) rfl) (fun j hj => ev (u := .int (q_rows j)) (hs _ (of_decide_eq_true (List.all_eq_true.mp (show (List.range 8).all (fun j => decide (Cond.eq (.elem (Term.static "TugRope$Rope" "ROWS_OF" "[I") (.int (Int32.ofNat j))) (.int (q_rows j)) ∈ flatC (Jvm.Cond.and given_1 narrow_1))) = true from by decide +kernel) j (List.mem_range.mpr hj)))) rfl) hA
  obtain ⟨adK, adV, hV, hE⟩ := vk_Sof (args := #[Value.ref b]) (s := s) (N := 1) (tm := fun _ => (Term.string "TugRope$Reader" 71)) (len := [91]) (byt := [q_txt]) (A := q_A s.heap.size) (fun i hi => by rw [show i = 0 by omega]; decide) (fun i hi => hs _ (by decide +kernel)) (fun i hi => hs _ (by decide +kernel)) (fun i hi => hs _ (by decide +kernel)) (fun i hi => by rw [show i = 0 by omega]; exact hs _ (by decide +kernel)) (fun i hi => by
    rw [show i = 0 by omega]
    exact fun j hj => hs _ (of_decide_eq_true (List.all_eq_true.mp (show (List.range 91).all (fun j => decide (Cond.eq (.elem (.field (Term.string "TugRope$Reader" 71) "java/lang/String" "value" "[B") (.int (Int32.ofNat j))) (.int (q_txt.getD j 0)) ∈ flatC (Jvm.Cond.and given_1 narrow_1))) = true from by decide +kernel) j (List.mem_range.mpr hj)))) (fun i j hi hj hne => absurd (show i = j by omega) hne) hA
  have hV1 : vk_S 1 [91] [q_txt] (fun _ => adK 0) (fun _ => adV 0) (q_A s.heap.size) s s.heap := by
    refine ⟨fun i hi => ?_, fun i j hi hj _ => by omega⟩
    have := hV.1 0 (by decide)
    rw [show i = 0 by omega]
    exact this
  refine ⟨(dC, dI), fun k => if k = 0 then cB else if k = 1 then cI else if k = 2 then cJ else if k = 3 then cZ else if k = 4 then cG else if k = 5 then cR else if k = 6 then cT else if k = 7 then cA else if k = 100 then t else if k = 101 then adK 0 else adV 0, ⟨fun k q hq => hKc k (by
      have := (List.getElem?_eq_some_iff.mp hq).1
      exact this) q hq, fun k q hq => ?_⟩, ?_⟩
  · match k, hq with
    | 0, hq => cases hq; exact ⟨b2, b1⟩
    | 1, hq => cases hq; exact ⟨i2, i1⟩
    | 2, hq => cases hq; exact ⟨j2, j1⟩
    | 3, hq => cases hq; exact ⟨z2, z1⟩
    | 4, hq => cases hq; exact ⟨g1, g2⟩
    | 5, hq => cases hq; exact ⟨r1, r2⟩
    | 6, hq => cases hq; exact ⟨t1, t2⟩
    | 7, hq => cases hq; exact ⟨a1, a2⟩
    | k + 8, hq => cases hq
  · exact ⟨va_Zref (hts _ (List.mem_append_right _ (List.mem_append_right _ (List.mem_append_right _ (List.mem_append_right _ (List.mem_append_left _ (List.mem_of_getElem? (i := 125) rfl))))))) (hts _ (List.mem_append_right _ (List.mem_append_left _ (List.mem_of_getElem? (i := 11) rfl)))) et hA, hT, aG, aR, aT, vk_R.of (hts _ (List.mem_append_right _ (List.mem_append_right _ (List.mem_append_left _ (List.mem_of_getElem? (i := 212) rfl))))) (hE 0 (by decide)), hV1, va_Zof (hts _ (List.mem_append_right _ (List.mem_append_right _ (List.mem_append_left _ (List.mem_of_getElem? (i := 222) rfl))))) (hts _ (List.mem_append_right _ (List.mem_append_left _ (List.mem_of_getElem? (i := 13) rfl)))) (ev (u := .int 1) (hs _ (by decide +kernel)) rfl) hA, aA, va_Nw.of rfl (hts _ (List.mem_append_right _ (List.mem_append_right _ (List.mem_append_right _ (List.mem_append_left _ (List.mem_of_getElem? (i := 153) rfl)))))), va_Zqof (hts _ (List.mem_append_right _ (List.mem_append_right _ (List.mem_append_left _ (List.mem_of_getElem? (i := 238) rfl))))) (hts _ (List.mem_append_right _ (List.mem_append_left _ (List.mem_of_getElem? (i := 15) rfl)))) (hs _ (by decide +kernel)) hA⟩
/-- what is left when the machine is done with: the models' own claim -/
def q_math : Prop := ∀ base : Nat, ∃ (Inv : Nat → q_H → Prop) (z1 : Nat) (h1 : q_H) (z2 : Nat) (h2 : q_H), m_X11_init (base + 1) (va_up (fun _ => q_no) base (.inr (11, [.null, .null, .null, .null, .int 0, .null, .null, .null, .null, .null]))) base = some (z1, h1) ∧ m_X12_init (z1 + 1) (va_up h1 z1 (.inr (12, [.null, .int 0, .int 0, .null, .null, .null, .null, .null, .int 0, .int 0, .int 0, .int 0, .int 0, .int 0, .int 0, .null, .int 0, .null, .int 0, .null, .null, .int 0, .int 0, .null, .null, .null, .int 0, .null, .null, .null, .null, .null, .long 0, .null, .null, .null, .null]))) z1 = some (z2, h2) ∧ Inv z2 h2 ∧ q_steps base z1 Inv
set_option maxRecDepth 100000 in
set_option maxHeartbeats 4000000 in
theorem whole_start_open (hmath : q_math) {p : Program} {e : Env} {s : State} {m : MethodId} {below : List Frame} {meth : Method} {c : Code} (l : Launch) {b L : Nat} {xs : Nat → Int32} (hL : L ≤ 3072) (C0 : lw_At p s m meth c b L xs) : W p l e room_1 s m #[Value.ref b] below meth c s.heap [] 0 0 (lw_Z below #[Value.ref b] s) (entryFrame m ([Value.ref b] : List Value).toArray 4) := by
  obtain ⟨D, tc, hK, hS0⟩ := q_entry C0
  obtain ⟨hx, hb, hr, hml, hown, hts, hX, hbl, hlocks, hgv⟩ := C0
  obtain ⟨Inv, z1, h1, z2, h2, e1, e2, hI, St⟩ := hmath s.heap.size
  have hl := lv_entry ([.ref b]) (n := 4) (Nat.le_of_ble_eq_true rfl)
  rw [lg_entry_eq]
  generalize (lg_sl ([.ref b]) ++ List.replicate (4 - (lg_sl ([.ref b])).length) Slot.unset).toArray = ls at hl ⊢
  have hl : lv_has ls 4 [(0, .ref b)] := hl
  have C : q_C ((p, l, e, room_1, s, m, #[Value.ref b], below, meth, c), lw_Z below #[Value.ref b] s, s.heap.size, 4, D, tc) cL_law RL := ⟨hx, hb, hml, hown, fun w hw => hts w (q_T_in w hw), hK, Nat.le_refl _, hS0⟩
  have Rm : q_Rm ((p, l, e, room_1, s, m, #[Value.ref b], below, meth, c), lw_Z below #[Value.ref b] s, s.heap.size, 4, D, tc) 4 15 568 600000 7302250 := ⟨rfl, rfl⟩
  have X : q_X ((p, l, e, room_1, s, m, #[Value.ref b], below, meth, c), lw_Z below #[Value.ref b] s, s.heap.size, 4, D, tc) b L xs := ⟨hX, hbl, Nat.le_refl _⟩
  have hR0 : q_R s.heap.size s.heap.size D tc (fun _ => q_no) s.heap := ⟨rfl, Nat.le_refl _, fun k q hk => absurd (q_W_at hk).2 (by omega), fun a h => absurd rfl h⟩
  have hW : ∀ Γ : q_G, Γ = ((p, l, e, room_1, s, m, #[Value.ref b], below, meth, c), lw_Z below #[Value.ref b] s, s.heap.size, 4, D, tc) → q_V Γ s.heap.size 0 0 (fun _ => q_no) [(0, .ref b)] [] 0 := by
    intro Γ hΓ
    have K : ∀ z h cells slots, cells ≤ 600000 → slots ≤ 7302250 → q_V Γ z cells slots h [(0, .ref b), (1, .ref s.heap.size), (2, .ref z1), (3, .int (nI 0))] [.int 1] 1187 := by
      intro z h cells slots hc hs
      rw [hΓ]
      intro H locs ls hR hS hl
      refine va_forget (fun q hq => hS.2.2 q hq) ?_
      exact W.widen hc hs (lw_ret hx hb hr hlocks (by decide +kernel))
    have K2 : ∀ (j : Nat) z h cells slots, cells ≤ 600000 → slots ≤ 7302250 → q_V Γ z cells slots h [(0, .ref b), (1, .ref s.heap.size), (2, .ref z1), (3, .int (nI j))] [.int 1] 1187 := by
      intro j z h cells slots hc hs
      rw [hΓ]
      intro H locs ls hR hS hl
      refine va_forget (fun q hq => hS.2.2 q hq) ?_
      exact W.widen hc hs (lw_ret hx hb hr hlocks (by decide +kernel))
    rw [← hΓ] at C Rm X
    refine q_new C Rm q_FX11 [.null, .null, .null, .null, .int 0, .null, .null, .null, .null, .null] df_11 cL_7 in_11 ni_11 (by decide) (by decide +kernel) ?_
    refine q_dup C rfl (by decide +kernel) ?_
    refine q_inA C Rm (fr' := 5) (lo' := 123) (mc' := 151) (ms' := 3684) (As := []) (rest := [.ref s.heap.size]) (α := Nat × q_H) (f := some) (ρ := (z1, h1)) Y_X11_init Yi_X11_init mL_9 (by decide) ⟨Nat.le_of_ble_eq_true rfl, Nat.le_of_ble_eq_true rfl⟩ (by rw [e1]; rfl) (fun z9 h9 e9 => c_X11_init _ _ _ _ _ _ _ e9) rfl rfl (Nat.le_of_ble_eq_true rfl) (by decide +kernel) (fun z9 h9 hm => ?_)
    cases hm
    refine q_astore_n C Rm.1 (k4 := 1) (i := 1) rfl (lv' := [(1, .ref s.heap.size), (0, .ref b)]) rfl (by decide) (by decide +kernel) ?_
    refine q_new C Rm q_FX12 [.null, .int 0, .int 0, .null, .null, .null, .null, .null, .int 0, .int 0, .int 0, .int 0, .int 0, .int 0, .int 0, .null, .int 0, .null, .int 0, .null, .null, .int 0, .int 0, .null, .null, .null, .int 0, .null, .null, .null, .null, .null, .long 0, .null, .null, .null, .null] df_12 cL_10 in_12 ni_12 ⟨Nat.le_of_ble_eq_true rfl, Nat.le_of_ble_eq_true rfl⟩ (by decide +kernel) ?_
    refine q_dup C rfl (by decide +kernel) ?_
    refine q_inA C Rm (fr' := 3) (lo' := 80) (mc' := 22) (ms' := 6177) (As := []) (rest := [.ref z1]) (α := Nat × q_H) (f := some) (ρ := (z2, h2)) Y_X12_init Yi_X12_init mL_12 (by decide) ⟨Nat.le_of_ble_eq_true rfl, Nat.le_of_ble_eq_true rfl⟩ (by rw [e2]; rfl) (fun z9 h9 e9 => c_X12_init _ _ _ _ _ _ _ e9) rfl rfl (Nat.le_of_ble_eq_true rfl) (by decide +kernel) (fun z9 h9 hm => ?_)
    cases hm
    refine q_astore_n C Rm.1 (k4 := 2) (i := 2) rfl (lv' := [(2, .ref z1), (1, .ref s.heap.size), (0, .ref b)]) rfl (by decide) (by decide +kernel) ?_
    refine q_iconst C (n := 0) (v := 0) (by decide) (by decide +kernel) ?_
    refine q_istore_n C Rm.1 (k4 := 3) (i := 3) rfl (lv' := [(3, .int 0), (2, .ref z1), (1, .ref s.heap.size), (0, .ref b)]) rfl (by decide) (by decide +kernel) ?_
    refine q_loc [3, 2, 1, 0] rfl ?_
    refine q_widen (k := 1000) (n := 20000) (Nat.le_of_ble_eq_true rfl) (Nat.le_of_ble_eq_true rfl) ?_
    exact law_loop C Rm X hL St K2 512 0 z2 1000 20000 h2 (by omega) (by omega) (by omega) (by omega) (by omega) hI
  exact hW _ rfl s.heap [] ls hR0 va_S.rf hl
