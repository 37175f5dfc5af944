/-! ===== L3: a VALUE, both sides ===== -/
section VA
variable {d j : g_S} {σ : r_S} {f : Nat → Int32} {N k p i r c m : Nat} {K V : Nat → Nat}
theorem z_yb_f1 {σ' : r_S} (Y : z_yb d σ f N k p) (F : z_f1 r σ σ') (h8 : r_I σ' 8 = r_I σ 8) (h9 : r_I σ' 9 = r_I σ 9) : z_yb d σ' f N k p := by
  obtain ⟨y1, y2, y3, y4, y5, y6⟩ := Y
  exact ⟨⟨(F.1 0 (by decide) (by decide)).trans y1.1, (F.2.2.2.1 1 (by decide) (by decide) (by decide) (by decide)).trans y1.2.1, y1.2.2⟩, h8.trans y2, y3, y4, y5, h9.trans y6⟩
theorem z_f1_12 (σ : r_S) (v : Int32) : z_f1 r σ (r_si σ 12 v) := ⟨fun _ _ _ => rfl, fun _ _ => rfl, fun _ _ => rfl, fun k _ _ _ h => z_rsiIn h, rfl, rfl⟩
theorem z_cj_made (C : z_cj j σ r c m K V) (hm : m < 60) : z_cj (g_si j 8 (nI (m + 1))) (r_si σ 12 (nI (m + 1))) r c (m + 1) K V := by
  obtain ⟨c1, c2, c3, c4, c5, c6, c7, c8, c9⟩ := C
  exact ⟨c1, (z_rsiIn (by decide)).trans c2, c3, (z_si_In (by decide)).trans c4, c5, by omega, z_si_I _ _ _, z_rsiI _ _ _, c9⟩
theorem z_makes (C : z_cj j σ r c m K V) (a : Int32) : t_X12_makes σ a = if m = 60 then (t_X12_fails σ 3 a).bind (fun x => some (x.1, x.2)) else some (1, r_si σ 12 (nI (m + 1))) := by
  obtain ⟨c1, c2, c3, c4, c5, c6, c7, c8, c9⟩ := C
  unfold t_X12_makes
  try dsimp only
  rw [c8]
  by_cases e : m = 60
  · rw [if_pos e, if_pos (show nI m = (60 : Int32) by rw [e]; rfl)]
  · rw [if_neg e, if_neg (show ¬ nI m = (60 : Int32) from fun x => e ((nI_eq (b := 60) (by omega) (by decide)).mp x)), nI_1]
/-- the end of a VALUE that is good -/
theorem z_vtail (Y : z_yb d σ f N k p) (C : z_cj j σ r c m K V) (hc : c < 400) (hm : m < 60) {kk v : Nat} (hk : z_ok kk v) :
    ∃ j' d' σ' p' i', t_X7_readValue_126 (g_si j 8 (nI (m + 1))) d (nI v) (nI kk) = some (1, j', d') ∧ t_X12_puts (r_si σ 12 (nI (m + 1))) (nI (z_cv kk)) (nI v) = some σ' ∧ z_y d' σ' f N (k + 1) p' i' ∧ z_cj j' σ' r (c + 1) (m + 1) (z_un K c kk) (z_un V c v) ∧ z_f1 r σ σ' ∧ z_f2 j j' ∧ g_P d' = g_P d := by
  obtain ⟨j', σ', a1, a2, a3, a4, a5, a6, a7⟩ := z_put (z_cj_made C hm) hc hk
  have F := z_f1_trans (z_f1_12 (r := r) σ (nI (m + 1))) a4
  have Y' := z_yb_f1 Y F ((a6 8).trans (z_rsiIn (by decide))) ((a6 9).trans (z_rsiIn (by decide)))
  obtain ⟨d', n1, n2, n3⟩ := z_yb_next Y'
  refine ⟨j', d', σ', _, _, ?_, a2, n2, a3, F, z_f2_trans ⟨fun k _ h => z_si_In h, fun _ _ => rfl, rfl⟩ a5, n3⟩
  unfold t_X7_readValue_126
  rw [a1, Option.bind_some, n1, Option.bind_some]
theorem z_valS (Y : z_y d σ f N k p i) (C : z_cj j σ r c m K V) (hck : c ≤ k) :
    (∃ j' d' σ' p' i' kk v, t_X7_readValue j d = some (1, j', d') ∧ t_X12_value σ = some (1, σ') ∧ z_y d' σ' f N (k + 1) p' i' ∧ z_cj j' σ' r (c + 1) (m + 1) (z_un K c kk) (z_un V c v) ∧ (kk = 15 ∨ kk = 16) ∧ m < 60 ∧ z_f1 r σ σ' ∧ z_f2 j j' ∧ g_P d' = g_P d) ∨
    (∃ d' σ' e, t_X7_readValue j d = some (0, j, d') ∧ t_X12_value σ = some (0, σ') ∧ z_dd d' e ∧ r_I σ' 9 = e ∧ z_f1 r σ σ' ∧ g_P d' = g_P d) := by
  have es := z_y_see Y
  have Y0 := z_y_nx Y
  have C0 := z_cj_so C (z_so_nx σ p)
  have y1 := Y.1
  have y5 := Y.2.2.2.2.1
  have y6 := Y.2.2.2.2.2.1
  have hN := y1.2.2.1
  obtain ⟨k6, k3, hp⟩ := z_rr_k y5
  have kl := z_k1_lt f N p
  have j8 : g_I j 8 = nI m := C.2.2.2.2.2.2.1
  have hm60 : m ≤ 60 := C.2.2.2.2.2.1
  have e61 : ∀ x, t_X7_readValue_61 j d x = if m < 60 then (if x = 0 then t_X7_readValue_101 (g_si j 8 (nI (m + 1))) d x 15 else t_X7_readValue_101 (g_si j 8 (nI (m + 1))) d x 16) else (t_X3_refuse d 3).bind (fun y => some (y.1, j, y.2)) := fun x => by
    unfold t_X7_readValue_61
    try dsimp only
    rw [j8]
    by_cases hm : m < 60
    · rw [if_pos (show nI m < (60 : Int32) from nI_lt (b := 60) hm (by decide)), if_pos hm, nI_1]
    · rw [if_neg (show ¬ nI m < (60 : Int32) from nI_nlt (b := 60) (by omega) (by omega)), if_neg hm]
  have eV : t_X12_value σ = if p < N ∧ z_dg (z_u f) p = true then (t_X12_numberHere (z_nx σ p) 0 99999).bind (fun x => if x.1 = 0 then some (0, x.2) else (t_X12_makes x.2 (nI p)).bind fun y => if y.1 = 0 then some (0, y.2) else (t_X12_puts y.2 0 (r_I y.2 10)).bind fun s => some (1, s)) else (t_X12_wordHere (z_nx σ p)).bind (fun x => if 0 ≤ x.1 then (t_X12_makes x.2 (nI p)).bind fun y => if y.1 = 0 then some (0, y.2) else (t_X12_passWord y.2).bind fun s => (t_X12_puts s 1 x.1).bind fun s => some (1, s) else (t_X12_fails x.2 0 (nI p)).bind fun y => some (y.1, y.2)) := by
    unfold t_X12_value
    rw [es, Option.bind_some]
    try dsimp only
    rw [z_nx8, z_isDigit y1 hp, Option.bind_some]
    by_cases c : p < N ∧ z_dg (z_u f) p = true
    · rw [if_pos c, if_pos c, if_neg (by decide)]
    · rw [if_neg c, if_neg c, if_pos rfl]
  have three : ∀ {σ1 : r_S}, r_I σ1 9 = 0 → z_so σ σ1 → z_cj j σ1 r c m K V → m = 60 → ∃ d' σ' e, t_X3_refuse d 3 = some (0, d') ∧ t_X12_makes σ1 (nI p) = some (0, σ') ∧ z_dd d' e ∧ r_I σ' 9 = e ∧ z_so σ σ' ∧ g_P d' = g_P d := fun {σ1} h9 S C1 hm => by
    obtain ⟨d', σ', e, b1, b2, b3, b4, b5, b6⟩ := z_y_bad Y h9 S (a := 3) (by decide)
    refine ⟨d', σ', e, b1, ?_, b3, b4, b5, b6⟩
    rw [z_makes C1, if_pos hm, show t_X12_fails σ1 3 (nI p) = some (0, σ') from b2]
    rfl
  by_cases cd : p < N ∧ z_dg (z_u f) p = true
  · rw [if_pos cd] at eV
    have hc : c < 400 := by have := z_rr_lt y5 cd.1; omega
    have hK : z_k1 f N p = 601 := by
      unfold z_k1 z_kd
      rw [if_pos cd.1, if_pos cd.2]
    have eC : t_X7_readValue j d = t_X7_readValue_37 j d 0 := by
      unfold t_X7_readValue
      try dsimp only
      rw [k6, hK, show m_X7_isValueWord (nI 601) = some 0 from by decide, Option.bind_some, if_pos rfl, if_pos (show nI 601 = (601 : Int32) from rfl)]
    rcases z_y_num Y0 (a := 0) (b := 99999) (by decide) (by decide) with ⟨v, σ1, a1, a2, a3, a4, a5, a6, a7, a8, a9⟩ | ⟨d', σ1, e, a1, a2, a3, a4, a5, a6⟩
    · have S1 := z_so_trans (z_so_nx σ p) a9
      have C1 := z_cj_so C S1
      have e37 : t_X7_readValue_37 j d 0 = t_X7_readValue_61 j d 0 := by
        unfold t_X7_readValue_37
        try dsimp only
        rw [if_pos rfl, a5, if_neg (fun e => by
          have e1 := congrArg Int32.toInt e
          rw [show (-1 : Int32).toInt = -1 by decide, nI_toInt (by omega)] at e1
          omega)]
      rw [show t_X12_numberHere (z_nx σ p) 0 99999 = some (1, σ1) from a6, Option.bind_some, if_neg (show ¬ ((1 : Int32), σ1).1 = 0 from (by decide : ¬ (1 : Int32) = 0))] at eV
      by_cases hm : m < 60
      · obtain ⟨j', d', σ', p', i', t1, t2, t3, t4, t5, t6, t7⟩ := z_vtail a7 C1 hc hm (kk := 15) (v := v) ⟨by decide, a2, fun h => absurd h (by decide)⟩
        refine Or.inl ⟨j', d', σ', p', i', 15, v, ?_, ?_, t3, t4, Or.inl rfl, hm, z_f1_trans (z_f1_so r S1) t5, t6, t7⟩
        · rw [eC, e37, e61, if_pos hm, if_pos rfl]
          unfold t_X7_readValue_101
          rw [if_pos rfl, a5]
          exact t1
        · rw [eV]
          try dsimp only
          rw [z_makes C1, if_neg (by omega), Option.bind_some]
          try dsimp only
          rw [if_neg (by decide), z_rsiIn (by decide), a8, show t_X12_puts (r_si σ1 12 (nI (m + 1))) 0 (nI v) = some σ' from t2]
          rfl
      · obtain ⟨d', σ', e, b1, b2, b3, b4, b5, b6⟩ := three a7.2.2.2.2.2 S1 C1 (by omega)
        refine Or.inr ⟨d', σ', e, ?_, ?_, b3, b4, z_f1_so r b5, b6⟩
        · rw [eC, e37, e61, if_neg hm, b1]
          rfl
        · rw [eV]
          try dsimp only
          rw [b2, Option.bind_some]
          exact if_pos rfl
    · have h7 : g_I d 7 = z_nm f N p := (z_rr_at y5 cd.1).2.1
      unfold z_nm at h7
      rw [if_pos cd.2] at h7
      have hge := z_E_ge (z_dg (z_u f)) N p
      by_cases g5 : z_E (z_dg (z_u f)) N p - p ≤ 5
      · rw [if_pos g5] at h7
        have hv := z_val5 (u := z_u f) (a := p) (m := z_E (z_dg (z_u f)) N p - p) g5 (fun q hq => (of_decide_eq_true (z_E_in (N := N) (P := z_dg (z_u f)) (i := p) (j := p + q) (by omega) (by omega))).2)
        unfold t_X3_isNumber at a1
        try dsimp only at a1
        rw [k6, hK, if_pos (show nI 601 = (601 : Int32) from rfl), h7, if_neg (nI_nlt (by omega) (by omega)), if_pos (nI_le (by omega) (by decide))] at a1
        injection a1 with a1
        have := congrArg Prod.fst a1
        exact absurd (show (1 : Int32) = 0 from this) (by decide)
      · rw [if_neg g5] at h7
        have er : t_X3_refuse d 1 = some (0, d') := by
          unfold t_X3_isNumber at a1
          try dsimp only at a1
          rw [k6, hK, if_pos (show nI 601 = (601 : Int32) from rfl), h7, if_pos (show (-1 : Int32) < nI 0 by decide)] at a1
          unfold t_X3_isNumber_32 at a1
          have hr := z_refuse y5 y6 1
          rw [show t_X3_refuse d 1 = _ from hr, Option.bind_some] at a1
          rw [show t_X3_refuse d 1 = _ from hr]
          exact a1
        refine Or.inr ⟨d', σ1, e, ?_, ?_, a3, a4, z_f1_so r (z_so_trans (z_so_nx σ p) a5), a6⟩
        · rw [eC]
          unfold t_X7_readValue_37
          try dsimp only
          rw [if_pos rfl, h7, if_pos rfl, er]
          rfl
        · rw [eV, show t_X12_numberHere (z_nx σ p) 0 99999 = some (0, σ1) from a2, Option.bind_some]
          exact if_pos rfl
  · rw [if_neg cd, z_wordH Y0, Option.bind_some, z_nxx] at eV
    by_cases cw : 700 ≤ z_k1 f N p ∧ z_k1 f N p < 711
    · have hpN : p < N := by
        by_cases c : p < N
        · exact c
        · have := (z_k1_end f N p).mpr c
          omega
      have hc : c < 400 := by have := z_rr_lt y5 hpN; omega
      obtain ⟨q1, q2⟩ := z_y_pass Y0 (j := z_k1 f N p - 700) (by omega)
      rw [if_pos cw] at eV
      rw [if_pos (show (0 : Int32) ≤ (nI (z_k1 f N p - 700), z_nx σ p).1 from nI_le (a := 0) (by omega) (by omega))] at eV
      have eC : t_X7_readValue j d = t_X7_readValue_61 j d 1 := by
        unfold t_X7_readValue
        try dsimp only
        rw [k6, show m_X7_isValueWord (nI (z_k1 f N p)) = some 1 from by
          unfold m_X7_isValueWord
          rw [if_neg (show ¬ nI (z_k1 f N p) < (700 : Int32) from nI_nlt (b := 700) (by omega) (by omega)), if_neg (show ¬ (711 : Int32) ≤ nI (z_k1 f N p) from nI_ge (b := 711) (by omega) (by decide))], Option.bind_some, if_neg (by decide)]
        unfold t_X7_readValue_37
        rw [if_neg (by decide)]
      by_cases hm : m < 60
      · have Yb : z_yb d (z_nx σ (z_nd f N p)) f N k p := by rw [z_nxx] at q2; exact q2
        obtain ⟨j', d', σ', p', i', t1, t2, t3, t4, t5, t6, t7⟩ := z_vtail Yb (z_cj_so C (z_so_nx σ _)) hc hm (kk := 16) (v := z_k1 f N p - 700) ⟨by decide, by omega, fun _ => by omega⟩
        refine Or.inl ⟨j', d', σ', p', i', 16, z_k1 f N p - 700, ?_, ?_, t3, t4, Or.inr rfl, hm, z_f1_trans (z_f1_so r (z_so_nx σ _)) t5, t6, t7⟩
        · rw [eC, e61, if_pos hm, if_neg (by decide)]
          unfold t_X7_readValue_101
          try dsimp only
          rw [if_neg (by decide), k6, show (700 : Int32) = nI 700 from rfl, pk_sub cw.1]
          exact t1
        · have Y12 : z_y d (r_si (z_nx σ p) 12 (nI (m + 1))) f N k p p := by
            obtain ⟨x1, x2, x3, x4, x5, x6, x7⟩ := Y0
            exact ⟨⟨x1.1, (z_rsiIn (by decide)).trans x1.2.1, x1.2.2⟩, (z_rsiIn (by decide)).trans x2, x3, x4, x5, x6, (z_rsiIn (by decide)).trans x7⟩
          have ps := (z_y_pass Y12 (j := z_k1 f N p - 700) (by omega)).1
          have ec : z_nx (r_si (z_nx σ p) 12 (nI (m + 1))) (z_nd f N p) = r_si (z_nx σ (z_nd f N p)) 12 (nI (m + 1)) := by
            unfold z_nx r_si
            show (va_up (va_up (va_up σ.1 8 (nI p)) 12 (nI (m + 1))) 8 (nI (z_nd f N p)), σ.2) = (va_up (va_up σ.1 8 (nI (z_nd f N p))) 12 (nI (m + 1)), σ.2)
            congr 1
            funext x
            unfold va_up
            by_cases e8 : x = 8
            · simp [e8]
            · by_cases e12 : x = 12
              · simp [e12]
              · simp [e8, e12]
          rw [eV]
          try dsimp only
          rw [z_makes C0, if_neg (by omega), Option.bind_some]
          try dsimp only
          rw [if_neg (by decide), ps, Option.bind_some, ec, show t_X12_puts (r_si (z_nx σ (z_nd f N p)) 12 (nI (m + 1))) 1 (nI (z_k1 f N p - 700)) = some σ' from t2]
          rfl
      · obtain ⟨d', σ', e, b1, b2, b3, b4, b5, b6⟩ := three Y0.2.2.2.2.2.2 (z_so_nx σ p) C0 (by omega)
        refine Or.inr ⟨d', σ', e, ?_, ?_, b3, b4, z_f1_so r b5, b6⟩
        · rw [eC, e61, if_neg hm, b1]
          rfl
        · rw [eV]
          try dsimp only
          rw [b2, Option.bind_some]
          exact if_pos rfl
    · rw [if_neg cw, if_neg (show ¬ (0 : Int32) ≤ ((-1 : Int32), z_nx σ p).1 from (by decide : ¬ (0 : Int32) ≤ -1))] at eV
      obtain ⟨d', σ', e, b1, b2, b3, b4, b5, b6⟩ := z_y_bad Y Y0.2.2.2.2.2.2 (z_so_nx σ p) (a := 0) (by decide)
      refine Or.inr ⟨d', σ', e, ?_, ?_, b3, b4, z_f1_so r b5, b6⟩
      · have h601 : z_k1 f N p ≠ 601 := by
          unfold z_k1
          by_cases cp : p < N
          · rw [if_pos cp]
            have hu := z_u_lt f p
            rcases z_kd_cases f N p with ⟨x, h⟩ | ⟨-, -, h⟩ | ⟨-, -, ⟨h0, -, -, h⟩ | ⟨-, h⟩⟩
            · exact absurd ⟨cp, x⟩ cd
            · have := z_wi_lt (z_lw f N p)
              omega
            · omega
            · omega
          · rw [if_neg cp]
            decide
        unfold t_X7_readValue
        try dsimp only
        rw [k6, show m_X7_isValueWord (nI (z_k1 f N p)) = some 0 from by
          unfold m_X7_isValueWord
          by_cases c1 : z_k1 f N p < 700
          · rw [if_pos (show nI (z_k1 f N p) < (700 : Int32) from nI_lt (b := 700) c1 (by decide))]
          · rw [if_neg (show ¬ nI (z_k1 f N p) < (700 : Int32) from nI_nlt (b := 700) (by omega) (by omega)), if_pos (show (711 : Int32) ≤ nI (z_k1 f N p) from nI_le (a := 711) (by omega) (by omega))], Option.bind_some, if_pos rfl, if_neg (show ¬ nI (z_k1 f N p) = (601 : Int32) from fun e => h601 ((nI_eq (b := 601) (by omega) (by decide)).mp e)), show t_X3_refuse d 0 = some (0, d') from b1]
        rfl
      · rw [eV]
        try dsimp only
        rw [show t_X12_fails (z_nx σ p) 0 (nI p) = some (0, σ') from b2]
        rfl
end VA
