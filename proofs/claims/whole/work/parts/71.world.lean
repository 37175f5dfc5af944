/-! ===== the class's own cells, all of them ===== -/
def z_Q (b : Nat) (κ : Nat → g_S) : Prop := g_P (κ 0) 0 = some (b + 1) ∧ g_P (κ 0) 1 = some (b + 7) ∧ g_P (κ 0) 2 = some (b + 8) ∧ g_P (κ 0) 3 = some (b + 12) ∧ g_P (κ 0) 5 = some (b + 13) ∧ g_P (κ 0) 6 = some (b + 21) ∧ g_P (κ 0) 7 = some (b + 123) ∧ g_P (κ 0) 8 = some (b + 124) ∧ g_P (κ 0) 9 = some (b + 130) ∧ g_P (κ 2) 0 = some (b + 1) ∧ g_P (κ 3) 0 = some (b + 3) ∧ g_P (κ 4) 0 = some (b + 3) ∧ g_P (κ 6) 1 = some (b + 14) ∧ g_P (κ 8) 0 = some (b + 22)
def z_W (b : Nat) (κ : Nat → g_S) (h : q_H) : Prop := z_Q b κ ∧ g11 b (κ 0) h ∧ g9 (b + 1) (κ 1) h ∧ g3 (b + 3) (κ 2) h ∧ g5 (b + 7) (κ 3) h ∧ g7 (b + 8) (κ 4) h ∧ h (b + 12) = .inl (5, 6, .inr (.inr (.inr (.inr (g_P (κ 5)))))) ∧ g0 (b + 13) (κ 6) h ∧ g10 (b + 14) (κ 7) h ∧ g2 (b + 21) (κ 8) h ∧ h (b + 22) = .inl (6, 20, .inr (.inr (.inr (.inr (fun i => if i < 20 then some (b + 23 + 5 * i) else none))))) ∧ (∀ i, i < 20 → g10 (b + 23 + 5 * i) (κ (20 + i)) h) ∧ h (b + 123) = .inl (4, 4, .inr (.inr (.inr (.inr (g_P (κ 9)))))) ∧ g1 (b + 124) (κ 10) h ∧ h (b + 130) = .inr (8, [.ref (b + 13), .ref (b + 12), .ref (b + 124), .ref (b + 131), .ref (b + 136), .ref (b + 141), .ref (b + 142), .ref (b + 150), .ref (b + 151)]) ∧ g10 (b + 131) (κ 11) h ∧ g4 (b + 136) (κ 12) h ∧ h (b + 141) = .inl (2, 61, .inr (.inl (g_L (κ 13) 0))) ∧ h (b + 142) = .inl (7, 7, .inr (.inr (.inr (.inr (fun i => if i < 7 then some (b + 143 + i) else none))))) ∧ (∀ i, i < 7 → h (b + 143 + i) = .inl (1, 61, .inl (g_A (κ 14) i))) ∧ h (b + 150) = .inl (1, 16, .inl (g_A (κ 15) 0)) ∧ h (b + 151) = .inl (1, 16, .inl (g_A (κ 15) 1))
theorem Ww0 {b : Nat} {κ : Nat → g_S} {h : q_H} (W : z_W b κ h) : g11 b (κ 0) h := W.2.1
theorem Ww1 {b : Nat} {κ : Nat → g_S} {h : q_H} (W : z_W b κ h) : g9 (b + 1) (κ 1) h := W.2.2.1
theorem Ww2 {b : Nat} {κ : Nat → g_S} {h : q_H} (W : z_W b κ h) : g3 (b + 3) (κ 2) h := W.2.2.2.1
theorem Ww3 {b : Nat} {κ : Nat → g_S} {h : q_H} (W : z_W b κ h) : g5 (b + 7) (κ 3) h := W.2.2.2.2.1
theorem Ww4 {b : Nat} {κ : Nat → g_S} {h : q_H} (W : z_W b κ h) : g7 (b + 8) (κ 4) h := W.2.2.2.2.2.1
theorem Ww5 {b : Nat} {κ : Nat → g_S} {h : q_H} (W : z_W b κ h) : h (b + 12) = .inl (5, 6, .inr (.inr (.inr (.inr (g_P (κ 5)))))) := W.2.2.2.2.2.2.1
theorem Ww6 {b : Nat} {κ : Nat → g_S} {h : q_H} (W : z_W b κ h) : g0 (b + 13) (κ 6) h := W.2.2.2.2.2.2.2.1
theorem Ww7 {b : Nat} {κ : Nat → g_S} {h : q_H} (W : z_W b κ h) : g10 (b + 14) (κ 7) h := W.2.2.2.2.2.2.2.2.1
theorem Ww8 {b : Nat} {κ : Nat → g_S} {h : q_H} (W : z_W b κ h) : g2 (b + 21) (κ 8) h := W.2.2.2.2.2.2.2.2.2.1
theorem Wwr {b : Nat} {κ : Nat → g_S} {h : q_H} (W : z_W b κ h) : h (b + 22) = .inl (6, 20, .inr (.inr (.inr (.inr (fun i => if i < 20 then some (b + 23 + 5 * i) else none))))) := W.2.2.2.2.2.2.2.2.2.2.1
theorem Wwt {b : Nat} {κ : Nat → g_S} {h : q_H} (W : z_W b κ h) : (∀ i, i < 20 → g10 (b + 23 + 5 * i) (κ (20 + i)) h) := W.2.2.2.2.2.2.2.2.2.2.2.1
theorem Ww9 {b : Nat} {κ : Nat → g_S} {h : q_H} (W : z_W b κ h) : h (b + 123) = .inl (4, 4, .inr (.inr (.inr (.inr (g_P (κ 9)))))) := W.2.2.2.2.2.2.2.2.2.2.2.2.1
theorem Ww10 {b : Nat} {κ : Nat → g_S} {h : q_H} (W : z_W b κ h) : g1 (b + 124) (κ 10) h := W.2.2.2.2.2.2.2.2.2.2.2.2.2.1
theorem Wws {b : Nat} {κ : Nat → g_S} {h : q_H} (W : z_W b κ h) : h (b + 130) = .inr (8, [.ref (b + 13), .ref (b + 12), .ref (b + 124), .ref (b + 131), .ref (b + 136), .ref (b + 141), .ref (b + 142), .ref (b + 150), .ref (b + 151)]) := W.2.2.2.2.2.2.2.2.2.2.2.2.2.2.1
theorem Ww11 {b : Nat} {κ : Nat → g_S} {h : q_H} (W : z_W b κ h) : g10 (b + 131) (κ 11) h := W.2.2.2.2.2.2.2.2.2.2.2.2.2.2.2.1
theorem Ww12 {b : Nat} {κ : Nat → g_S} {h : q_H} (W : z_W b κ h) : g4 (b + 136) (κ 12) h := W.2.2.2.2.2.2.2.2.2.2.2.2.2.2.2.2.1
theorem Ww13 {b : Nat} {κ : Nat → g_S} {h : q_H} (W : z_W b κ h) : h (b + 141) = .inl (2, 61, .inr (.inl (g_L (κ 13) 0))) := W.2.2.2.2.2.2.2.2.2.2.2.2.2.2.2.2.2.1
theorem Wwk {b : Nat} {κ : Nat → g_S} {h : q_H} (W : z_W b κ h) : h (b + 142) = .inl (7, 7, .inr (.inr (.inr (.inr (fun i => if i < 7 then some (b + 143 + i) else none))))) := W.2.2.2.2.2.2.2.2.2.2.2.2.2.2.2.2.2.2.1
theorem Ww14 {b : Nat} {κ : Nat → g_S} {h : q_H} (W : z_W b κ h) : (∀ i, i < 7 → h (b + 143 + i) = .inl (1, 61, .inl (g_A (κ 14) i))) := W.2.2.2.2.2.2.2.2.2.2.2.2.2.2.2.2.2.2.2.1
theorem Ww15 {b : Nat} {κ : Nat → g_S} {h : q_H} (W : z_W b κ h) : h (b + 150) = .inl (1, 16, .inl (g_A (κ 15) 0)) := W.2.2.2.2.2.2.2.2.2.2.2.2.2.2.2.2.2.2.2.2.1
theorem Ww16 {b : Nat} {κ : Nat → g_S} {h : q_H} (W : z_W b κ h) : h (b + 151) = .inl (1, 16, .inl (g_A (κ 15) 1)) := W.2.2.2.2.2.2.2.2.2.2.2.2.2.2.2.2.2.2.2.2.2
theorem Wp0_0 {b : Nat} {κ : Nat → g_S} {h : q_H} (W : z_W b κ h) : g_P (κ 0) 0 = some (b + 1) := W.1.1
theorem Wp0_1 {b : Nat} {κ : Nat → g_S} {h : q_H} (W : z_W b κ h) : g_P (κ 0) 1 = some (b + 7) := W.1.2.1
theorem Wp0_2 {b : Nat} {κ : Nat → g_S} {h : q_H} (W : z_W b κ h) : g_P (κ 0) 2 = some (b + 8) := W.1.2.2.1
theorem Wp0_3 {b : Nat} {κ : Nat → g_S} {h : q_H} (W : z_W b κ h) : g_P (κ 0) 3 = some (b + 12) := W.1.2.2.2.1
theorem Wp0_5 {b : Nat} {κ : Nat → g_S} {h : q_H} (W : z_W b κ h) : g_P (κ 0) 5 = some (b + 13) := W.1.2.2.2.2.1
theorem Wp0_6 {b : Nat} {κ : Nat → g_S} {h : q_H} (W : z_W b κ h) : g_P (κ 0) 6 = some (b + 21) := W.1.2.2.2.2.2.1
theorem Wp0_7 {b : Nat} {κ : Nat → g_S} {h : q_H} (W : z_W b κ h) : g_P (κ 0) 7 = some (b + 123) := W.1.2.2.2.2.2.2.1
theorem Wp0_8 {b : Nat} {κ : Nat → g_S} {h : q_H} (W : z_W b κ h) : g_P (κ 0) 8 = some (b + 124) := W.1.2.2.2.2.2.2.2.1
theorem Wp0_9 {b : Nat} {κ : Nat → g_S} {h : q_H} (W : z_W b κ h) : g_P (κ 0) 9 = some (b + 130) := W.1.2.2.2.2.2.2.2.2.1
theorem Wp2_0 {b : Nat} {κ : Nat → g_S} {h : q_H} (W : z_W b κ h) : g_P (κ 2) 0 = some (b + 1) := W.1.2.2.2.2.2.2.2.2.2.1
theorem Wp3_0 {b : Nat} {κ : Nat → g_S} {h : q_H} (W : z_W b κ h) : g_P (κ 3) 0 = some (b + 3) := W.1.2.2.2.2.2.2.2.2.2.2.1
theorem Wp4_0 {b : Nat} {κ : Nat → g_S} {h : q_H} (W : z_W b κ h) : g_P (κ 4) 0 = some (b + 3) := W.1.2.2.2.2.2.2.2.2.2.2.2.1
theorem Wp6_1 {b : Nat} {κ : Nat → g_S} {h : q_H} (W : z_W b κ h) : g_P (κ 6) 1 = some (b + 14) := W.1.2.2.2.2.2.2.2.2.2.2.2.2.1
theorem Wp8_0 {b : Nat} {κ : Nat → g_S} {h : q_H} (W : z_W b κ h) : g_P (κ 8) 0 = some (b + 22) := W.1.2.2.2.2.2.2.2.2.2.2.2.2.2
theorem Wm0 {b : Nat} {κ : Nat → g_S} {h : q_H} (W : z_W b κ h) : q_gn h b 11 0 = some (b + 1) := by
  unfold q_gn q_fd
  rw [Ww0 W]
  exact va_rf_n (Wp0_0 W)
theorem Wm1 {b : Nat} {κ : Nat → g_S} {h : q_H} (W : z_W b κ h) : q_gn h b 11 1 = some (b + 7) := by
  unfold q_gn q_fd
  rw [Ww0 W]
  exact va_rf_n (Wp0_1 W)
theorem Wm2 {b : Nat} {κ : Nat → g_S} {h : q_H} (W : z_W b κ h) : q_gn h b 11 2 = some (b + 8) := by
  unfold q_gn q_fd
  rw [Ww0 W]
  exact va_rf_n (Wp0_2 W)
theorem Wm3 {b : Nat} {κ : Nat → g_S} {h : q_H} (W : z_W b κ h) : q_gn h b 11 3 = some (b + 12) := by
  unfold q_gn q_fd
  rw [Ww0 W]
  exact va_rf_n (Wp0_3 W)
theorem Wm5 {b : Nat} {κ : Nat → g_S} {h : q_H} (W : z_W b κ h) : q_gn h b 11 5 = some (b + 13) := by
  unfold q_gn q_fd
  rw [Ww0 W]
  exact va_rf_n (Wp0_5 W)
theorem Wm6 {b : Nat} {κ : Nat → g_S} {h : q_H} (W : z_W b κ h) : q_gn h b 11 6 = some (b + 21) := by
  unfold q_gn q_fd
  rw [Ww0 W]
  exact va_rf_n (Wp0_6 W)
theorem Wm7 {b : Nat} {κ : Nat → g_S} {h : q_H} (W : z_W b κ h) : q_gn h b 11 7 = some (b + 123) := by
  unfold q_gn q_fd
  rw [Ww0 W]
  exact va_rf_n (Wp0_7 W)
theorem Wm8 {b : Nat} {κ : Nat → g_S} {h : q_H} (W : z_W b κ h) : q_gn h b 11 8 = some (b + 124) := by
  unfold q_gn q_fd
  rw [Ww0 W]
  exact va_rf_n (Wp0_8 W)
theorem Wm9 {b : Nat} {κ : Nat → g_S} {h : q_H} (W : z_W b κ h) : q_gn h b 11 9 = some (b + 130) := by
  unfold q_gn q_fd
  rw [Ww0 W]
  exact va_rf_n (Wp0_9 W)
theorem We0 {b : Nat} {κ : Nat → g_S} {h : q_H} (W : z_W b κ h) : q_gn h (b + 130) 8 0 = some (b + 13) := by
  unfold q_gn q_fd
  rw [Wws W]
  rfl
theorem We1 {b : Nat} {κ : Nat → g_S} {h : q_H} (W : z_W b κ h) : q_gn h (b + 130) 8 1 = some (b + 12) := by
  unfold q_gn q_fd
  rw [Wws W]
  rfl
theorem We2 {b : Nat} {κ : Nat → g_S} {h : q_H} (W : z_W b κ h) : q_gn h (b + 130) 8 2 = some (b + 124) := by
  unfold q_gn q_fd
  rw [Wws W]
  rfl
theorem We3 {b : Nat} {κ : Nat → g_S} {h : q_H} (W : z_W b κ h) : q_gn h (b + 130) 8 3 = some (b + 131) := by
  unfold q_gn q_fd
  rw [Wws W]
  rfl
theorem We4 {b : Nat} {κ : Nat → g_S} {h : q_H} (W : z_W b κ h) : q_gn h (b + 130) 8 4 = some (b + 136) := by
  unfold q_gn q_fd
  rw [Wws W]
  rfl
theorem We5 {b : Nat} {κ : Nat → g_S} {h : q_H} (W : z_W b κ h) : q_gn h (b + 130) 8 5 = some (b + 141) := by
  unfold q_gn q_fd
  rw [Wws W]
  rfl
theorem We6 {b : Nat} {κ : Nat → g_S} {h : q_H} (W : z_W b κ h) : q_gn h (b + 130) 8 6 = some (b + 142) := by
  unfold q_gn q_fd
  rw [Wws W]
  rfl
theorem We7 {b : Nat} {κ : Nat → g_S} {h : q_H} (W : z_W b κ h) : q_gn h (b + 130) 8 7 = some (b + 150) := by
  unfold q_gn q_fd
  rw [Wws W]
  rfl
theorem We8 {b : Nat} {κ : Nat → g_S} {h : q_H} (W : z_W b κ h) : q_gn h (b + 130) 8 8 = some (b + 151) := by
  unfold q_gn q_fd
  rw [Wws W]
  rfl
theorem Wca8 {b : Nat} {κ : Nat → g_S} {h : q_H} (W : z_W b κ h) {α : Type} {x : Option α} : q_ca 8 h (b + 130) x = x := by
  unfold q_ca
  rw [Wws W]
  rfl
theorem Wca11 {b : Nat} {κ : Nat → g_S} {h : q_H} (W : z_W b κ h) {α : Type} {x : Option α} : q_ca 11 h b x = x := ca11 (Ww0 W)
theorem Wgt {b : Nat} {κ : Nat → g_S} {h : q_H} (W : z_W b κ h) : q_gn h (b + 13) 0 1 = some (b + 14) := by
  unfold q_gn q_fd
  rw [(Ww6 W).1]
  exact va_rf_n (Wp6_1 W)
theorem Wgo {b : Nat} {κ : Nat → g_S} {h : q_H} (W : z_W b κ h) : q_go h (b + 13) 0 0 = some (g_P (κ 6) 0) := by
  unfold q_go q_fd
  rw [(Ww6 W).1]
  exact va_rf_o _
theorem Wgr {b po : Nat} {κ : Nat → g_S} {h : q_H} (W : z_W b κ h) (e : g_P (κ 6) 0 = some po) : q_gn h (b + 13) 0 0 = some po := by
  unfold q_gn q_fd
  rw [(Ww6 W).1]
  exact va_rf_n e
theorem W_7 {b : Nat} {κ : Nat → g_S} {h h' : q_H} (W : z_W b κ h) {x : g_S} (G : g10 (b + 14) x h') (F : ∀ a, ¬ (f10 (b + 14) a) → h' a = h a) : z_W b (va_up κ 7 x) h' := by
  have K : ∀ k, k ≠ 7 → (va_up κ 7 x) k = κ k := fun k h7 => (va_up_of h7)
  have KR : ∀ i, (va_up κ 7 x) (20 + i) = κ (20 + i) := fun i => K (20 + i) (by omega)
  have E7 : (va_up κ 7 x) 7 = x := va_up_at _ _ _
  unfold z_W z_Q
  simp only [KR, E7, K 0 (by decide), K 1 (by decide), K 2 (by decide), K 3 (by decide), K 4 (by decide), K 5 (by decide), K 6 (by decide), K 8 (by decide), K 9 (by decide), K 10 (by decide), K 11 (by decide), K 12 (by decide), K 13 (by decide), K 14 (by decide), K 15 (by decide)]
  refine ⟨⟨Wp0_0 W, Wp0_1 W, Wp0_2 W, Wp0_3 W, Wp0_5 W, Wp0_6 W, Wp0_7 W, Wp0_8 W, Wp0_9 W, Wp2_0 W, Wp3_0 W, Wp4_0 W, Wp6_1 W, Wp8_0 W⟩, fr11 (Ww0 W) (fun a ha => F a (by unfold f11 at ha; unfold f10; omega)), fr9 (Ww1 W) (fun a ha => F a (by unfold f9 at ha; unfold f10; omega)), fr3 (Ww2 W) (fun a ha => F a (by unfold f3 at ha; unfold f10; omega)), fr5 (Ww3 W) (fun a ha => F a (by unfold f5 at ha; unfold f10; omega)), fr7 (Ww4 W) (fun a ha => F a (by unfold f7 at ha; unfold f10; omega)), (F _ (by unfold f10; omega)).trans (Ww5 W), fr0 (Ww6 W) (fun a ha => F a (by unfold f0 at ha; unfold f10; omega)), G, fr2 (Ww8 W) (fun a ha => F a (by unfold f2 at ha; unfold f10; omega)), (F _ (by unfold f10; omega)).trans (Wwr W), fun i hi => fr10 (Wwt W i hi) (fun a ha => F a (by unfold f10 at ha; unfold f10; omega)), (F _ (by unfold f10; omega)).trans (Ww9 W), fr1 (Ww10 W) (fun a ha => F a (by unfold f1 at ha; unfold f10; omega)), (F _ (by unfold f10; omega)).trans (Wws W), fr10 (Ww11 W) (fun a ha => F a (by unfold f10 at ha; unfold f10; omega)), fr4 (Ww12 W) (fun a ha => F a (by unfold f4 at ha; unfold f10; omega)), (F _ (by unfold f10; omega)).trans (Ww13 W), (F _ (by unfold f10; omega)).trans (Wwk W), fun i hi => (F _ (by unfold f10; omega)).trans (Ww14 W i hi), (F _ (by unfold f10; omega)).trans (Ww15 W), (F _ (by unfold f10; omega)).trans (Ww16 W)⟩
theorem W_10 {b : Nat} {κ : Nat → g_S} {h h' : q_H} (W : z_W b κ h) {x : g_S} (G : g1 (b + 124) x h') (F : ∀ a, ¬ (f1 (b + 124) a) → h' a = h a) : z_W b (va_up κ 10 x) h' := by
  have K : ∀ k, k ≠ 10 → (va_up κ 10 x) k = κ k := fun k h10 => (va_up_of h10)
  have KR : ∀ i, (va_up κ 10 x) (20 + i) = κ (20 + i) := fun i => K (20 + i) (by omega)
  have E10 : (va_up κ 10 x) 10 = x := va_up_at _ _ _
  unfold z_W z_Q
  simp only [KR, E10, K 0 (by decide), K 1 (by decide), K 2 (by decide), K 3 (by decide), K 4 (by decide), K 5 (by decide), K 6 (by decide), K 7 (by decide), K 8 (by decide), K 9 (by decide), K 11 (by decide), K 12 (by decide), K 13 (by decide), K 14 (by decide), K 15 (by decide)]
  refine ⟨⟨Wp0_0 W, Wp0_1 W, Wp0_2 W, Wp0_3 W, Wp0_5 W, Wp0_6 W, Wp0_7 W, Wp0_8 W, Wp0_9 W, Wp2_0 W, Wp3_0 W, Wp4_0 W, Wp6_1 W, Wp8_0 W⟩, fr11 (Ww0 W) (fun a ha => F a (by unfold f11 at ha; unfold f1; omega)), fr9 (Ww1 W) (fun a ha => F a (by unfold f9 at ha; unfold f1; omega)), fr3 (Ww2 W) (fun a ha => F a (by unfold f3 at ha; unfold f1; omega)), fr5 (Ww3 W) (fun a ha => F a (by unfold f5 at ha; unfold f1; omega)), fr7 (Ww4 W) (fun a ha => F a (by unfold f7 at ha; unfold f1; omega)), (F _ (by unfold f1; omega)).trans (Ww5 W), fr0 (Ww6 W) (fun a ha => F a (by unfold f0 at ha; unfold f1; omega)), fr10 (Ww7 W) (fun a ha => F a (by unfold f10 at ha; unfold f1; omega)), fr2 (Ww8 W) (fun a ha => F a (by unfold f2 at ha; unfold f1; omega)), (F _ (by unfold f1; omega)).trans (Wwr W), fun i hi => fr10 (Wwt W i hi) (fun a ha => F a (by unfold f10 at ha; unfold f1; omega)), (F _ (by unfold f1; omega)).trans (Ww9 W), G, (F _ (by unfold f1; omega)).trans (Wws W), fr10 (Ww11 W) (fun a ha => F a (by unfold f10 at ha; unfold f1; omega)), fr4 (Ww12 W) (fun a ha => F a (by unfold f4 at ha; unfold f1; omega)), (F _ (by unfold f1; omega)).trans (Ww13 W), (F _ (by unfold f1; omega)).trans (Wwk W), fun i hi => (F _ (by unfold f1; omega)).trans (Ww14 W i hi), (F _ (by unfold f1; omega)).trans (Ww15 W), (F _ (by unfold f1; omega)).trans (Ww16 W)⟩
theorem W_11 {b : Nat} {κ : Nat → g_S} {h h' : q_H} (W : z_W b κ h) {x : g_S} (G : g10 (b + 131) x h') (F : ∀ a, ¬ (f10 (b + 131) a) → h' a = h a) : z_W b (va_up κ 11 x) h' := by
  have K : ∀ k, k ≠ 11 → (va_up κ 11 x) k = κ k := fun k h11 => (va_up_of h11)
  have KR : ∀ i, (va_up κ 11 x) (20 + i) = κ (20 + i) := fun i => K (20 + i) (by omega)
  have E11 : (va_up κ 11 x) 11 = x := va_up_at _ _ _
  unfold z_W z_Q
  simp only [KR, E11, K 0 (by decide), K 1 (by decide), K 2 (by decide), K 3 (by decide), K 4 (by decide), K 5 (by decide), K 6 (by decide), K 7 (by decide), K 8 (by decide), K 9 (by decide), K 10 (by decide), K 12 (by decide), K 13 (by decide), K 14 (by decide), K 15 (by decide)]
  refine ⟨⟨Wp0_0 W, Wp0_1 W, Wp0_2 W, Wp0_3 W, Wp0_5 W, Wp0_6 W, Wp0_7 W, Wp0_8 W, Wp0_9 W, Wp2_0 W, Wp3_0 W, Wp4_0 W, Wp6_1 W, Wp8_0 W⟩, fr11 (Ww0 W) (fun a ha => F a (by unfold f11 at ha; unfold f10; omega)), fr9 (Ww1 W) (fun a ha => F a (by unfold f9 at ha; unfold f10; omega)), fr3 (Ww2 W) (fun a ha => F a (by unfold f3 at ha; unfold f10; omega)), fr5 (Ww3 W) (fun a ha => F a (by unfold f5 at ha; unfold f10; omega)), fr7 (Ww4 W) (fun a ha => F a (by unfold f7 at ha; unfold f10; omega)), (F _ (by unfold f10; omega)).trans (Ww5 W), fr0 (Ww6 W) (fun a ha => F a (by unfold f0 at ha; unfold f10; omega)), fr10 (Ww7 W) (fun a ha => F a (by unfold f10 at ha; unfold f10; omega)), fr2 (Ww8 W) (fun a ha => F a (by unfold f2 at ha; unfold f10; omega)), (F _ (by unfold f10; omega)).trans (Wwr W), fun i hi => fr10 (Wwt W i hi) (fun a ha => F a (by unfold f10 at ha; unfold f10; omega)), (F _ (by unfold f10; omega)).trans (Ww9 W), fr1 (Ww10 W) (fun a ha => F a (by unfold f1 at ha; unfold f10; omega)), (F _ (by unfold f10; omega)).trans (Wws W), G, fr4 (Ww12 W) (fun a ha => F a (by unfold f4 at ha; unfold f10; omega)), (F _ (by unfold f10; omega)).trans (Ww13 W), (F _ (by unfold f10; omega)).trans (Wwk W), fun i hi => (F _ (by unfold f10; omega)).trans (Ww14 W i hi), (F _ (by unfold f10; omega)).trans (Ww15 W), (F _ (by unfold f10; omega)).trans (Ww16 W)⟩
theorem W_12 {b : Nat} {κ : Nat → g_S} {h h' : q_H} (W : z_W b κ h) {x : g_S} (G : g4 (b + 136) x h') (F : ∀ a, ¬ (f4 (b + 136) a) → h' a = h a) : z_W b (va_up κ 12 x) h' := by
  have K : ∀ k, k ≠ 12 → (va_up κ 12 x) k = κ k := fun k h12 => (va_up_of h12)
  have KR : ∀ i, (va_up κ 12 x) (20 + i) = κ (20 + i) := fun i => K (20 + i) (by omega)
  have E12 : (va_up κ 12 x) 12 = x := va_up_at _ _ _
  unfold z_W z_Q
  simp only [KR, E12, K 0 (by decide), K 1 (by decide), K 2 (by decide), K 3 (by decide), K 4 (by decide), K 5 (by decide), K 6 (by decide), K 7 (by decide), K 8 (by decide), K 9 (by decide), K 10 (by decide), K 11 (by decide), K 13 (by decide), K 14 (by decide), K 15 (by decide)]
  refine ⟨⟨Wp0_0 W, Wp0_1 W, Wp0_2 W, Wp0_3 W, Wp0_5 W, Wp0_6 W, Wp0_7 W, Wp0_8 W, Wp0_9 W, Wp2_0 W, Wp3_0 W, Wp4_0 W, Wp6_1 W, Wp8_0 W⟩, fr11 (Ww0 W) (fun a ha => F a (by unfold f11 at ha; unfold f4; omega)), fr9 (Ww1 W) (fun a ha => F a (by unfold f9 at ha; unfold f4; omega)), fr3 (Ww2 W) (fun a ha => F a (by unfold f3 at ha; unfold f4; omega)), fr5 (Ww3 W) (fun a ha => F a (by unfold f5 at ha; unfold f4; omega)), fr7 (Ww4 W) (fun a ha => F a (by unfold f7 at ha; unfold f4; omega)), (F _ (by unfold f4; omega)).trans (Ww5 W), fr0 (Ww6 W) (fun a ha => F a (by unfold f0 at ha; unfold f4; omega)), fr10 (Ww7 W) (fun a ha => F a (by unfold f10 at ha; unfold f4; omega)), fr2 (Ww8 W) (fun a ha => F a (by unfold f2 at ha; unfold f4; omega)), (F _ (by unfold f4; omega)).trans (Wwr W), fun i hi => fr10 (Wwt W i hi) (fun a ha => F a (by unfold f10 at ha; unfold f4; omega)), (F _ (by unfold f4; omega)).trans (Ww9 W), fr1 (Ww10 W) (fun a ha => F a (by unfold f1 at ha; unfold f4; omega)), (F _ (by unfold f4; omega)).trans (Wws W), fr10 (Ww11 W) (fun a ha => F a (by unfold f10 at ha; unfold f4; omega)), G, (F _ (by unfold f4; omega)).trans (Ww13 W), (F _ (by unfold f4; omega)).trans (Wwk W), fun i hi => (F _ (by unfold f4; omega)).trans (Ww14 W i hi), (F _ (by unfold f4; omega)).trans (Ww15 W), (F _ (by unfold f4; omega)).trans (Ww16 W)⟩
theorem W_1 {b : Nat} {κ : Nat → g_S} {h h' : q_H} (W : z_W b κ h) {x : g_S} (G : g9 (b + 1) x h') (F : ∀ a, ¬ (f9 (b + 1) a) → h' a = h a) : z_W b (va_up κ 1 x) h' := by
  have K : ∀ k, k ≠ 1 → (va_up κ 1 x) k = κ k := fun k h1 => (va_up_of h1)
  have KR : ∀ i, (va_up κ 1 x) (20 + i) = κ (20 + i) := fun i => K (20 + i) (by omega)
  have E1 : (va_up κ 1 x) 1 = x := va_up_at _ _ _
  unfold z_W z_Q
  simp only [KR, E1, K 0 (by decide), K 2 (by decide), K 3 (by decide), K 4 (by decide), K 5 (by decide), K 6 (by decide), K 7 (by decide), K 8 (by decide), K 9 (by decide), K 10 (by decide), K 11 (by decide), K 12 (by decide), K 13 (by decide), K 14 (by decide), K 15 (by decide)]
  refine ⟨⟨Wp0_0 W, Wp0_1 W, Wp0_2 W, Wp0_3 W, Wp0_5 W, Wp0_6 W, Wp0_7 W, Wp0_8 W, Wp0_9 W, Wp2_0 W, Wp3_0 W, Wp4_0 W, Wp6_1 W, Wp8_0 W⟩, fr11 (Ww0 W) (fun a ha => F a (by unfold f11 at ha; unfold f9; omega)), G, fr3 (Ww2 W) (fun a ha => F a (by unfold f3 at ha; unfold f9; omega)), fr5 (Ww3 W) (fun a ha => F a (by unfold f5 at ha; unfold f9; omega)), fr7 (Ww4 W) (fun a ha => F a (by unfold f7 at ha; unfold f9; omega)), (F _ (by unfold f9; omega)).trans (Ww5 W), fr0 (Ww6 W) (fun a ha => F a (by unfold f0 at ha; unfold f9; omega)), fr10 (Ww7 W) (fun a ha => F a (by unfold f10 at ha; unfold f9; omega)), fr2 (Ww8 W) (fun a ha => F a (by unfold f2 at ha; unfold f9; omega)), (F _ (by unfold f9; omega)).trans (Wwr W), fun i hi => fr10 (Wwt W i hi) (fun a ha => F a (by unfold f10 at ha; unfold f9; omega)), (F _ (by unfold f9; omega)).trans (Ww9 W), fr1 (Ww10 W) (fun a ha => F a (by unfold f1 at ha; unfold f9; omega)), (F _ (by unfold f9; omega)).trans (Wws W), fr10 (Ww11 W) (fun a ha => F a (by unfold f10 at ha; unfold f9; omega)), fr4 (Ww12 W) (fun a ha => F a (by unfold f4 at ha; unfold f9; omega)), (F _ (by unfold f9; omega)).trans (Ww13 W), (F _ (by unfold f9; omega)).trans (Wwk W), fun i hi => (F _ (by unfold f9; omega)).trans (Ww14 W i hi), (F _ (by unfold f9; omega)).trans (Ww15 W), (F _ (by unfold f9; omega)).trans (Ww16 W)⟩
theorem W_6 {b : Nat} {κ : Nat → g_S} {h h' : q_H} (W : z_W b κ h) {x : g_S} (G : g0 (b + 13) x h') (e1 : g_P x 1 = g_P (κ 6) 1) (F : ∀ a, ¬ (f0 (b + 13) a) → h' a = h a) : z_W b (va_up κ 6 x) h' := by
  have K : ∀ k, k ≠ 6 → (va_up κ 6 x) k = κ k := fun k h6 => (va_up_of h6)
  have KR : ∀ i, (va_up κ 6 x) (20 + i) = κ (20 + i) := fun i => K (20 + i) (by omega)
  have E6 : (va_up κ 6 x) 6 = x := va_up_at _ _ _
  unfold z_W z_Q
  simp only [KR, E6, K 0 (by decide), K 1 (by decide), K 2 (by decide), K 3 (by decide), K 4 (by decide), K 5 (by decide), K 7 (by decide), K 8 (by decide), K 9 (by decide), K 10 (by decide), K 11 (by decide), K 12 (by decide), K 13 (by decide), K 14 (by decide), K 15 (by decide)]
  refine ⟨⟨Wp0_0 W, Wp0_1 W, Wp0_2 W, Wp0_3 W, Wp0_5 W, Wp0_6 W, Wp0_7 W, Wp0_8 W, Wp0_9 W, Wp2_0 W, Wp3_0 W, Wp4_0 W, e1.trans (Wp6_1 W), Wp8_0 W⟩, fr11 (Ww0 W) (fun a ha => F a (by unfold f11 at ha; unfold f0; omega)), fr9 (Ww1 W) (fun a ha => F a (by unfold f9 at ha; unfold f0; omega)), fr3 (Ww2 W) (fun a ha => F a (by unfold f3 at ha; unfold f0; omega)), fr5 (Ww3 W) (fun a ha => F a (by unfold f5 at ha; unfold f0; omega)), fr7 (Ww4 W) (fun a ha => F a (by unfold f7 at ha; unfold f0; omega)), (F _ (by unfold f0; omega)).trans (Ww5 W), G, fr10 (Ww7 W) (fun a ha => F a (by unfold f10 at ha; unfold f0; omega)), fr2 (Ww8 W) (fun a ha => F a (by unfold f2 at ha; unfold f0; omega)), (F _ (by unfold f0; omega)).trans (Wwr W), fun i hi => fr10 (Wwt W i hi) (fun a ha => F a (by unfold f10 at ha; unfold f0; omega)), (F _ (by unfold f0; omega)).trans (Ww9 W), fr1 (Ww10 W) (fun a ha => F a (by unfold f1 at ha; unfold f0; omega)), (F _ (by unfold f0; omega)).trans (Wws W), fr10 (Ww11 W) (fun a ha => F a (by unfold f10 at ha; unfold f0; omega)), fr4 (Ww12 W) (fun a ha => F a (by unfold f4 at ha; unfold f0; omega)), (F _ (by unfold f0; omega)).trans (Ww13 W), (F _ (by unfold f0; omega)).trans (Wwk W), fun i hi => (F _ (by unfold f0; omega)).trans (Ww14 W i hi), (F _ (by unfold f0; omega)).trans (Ww15 W), (F _ (by unfold f0; omega)).trans (Ww16 W)⟩
theorem W_8 {b : Nat} {κ : Nat → g_S} {h h' : q_H} (W : z_W b κ h) {x : g_S} (G : g2 (b + 21) x h') (e0 : g_P x 0 = g_P (κ 8) 0) (F : ∀ a, ¬ (f2 (b + 21) a) → h' a = h a) : z_W b (va_up κ 8 x) h' := by
  have K : ∀ k, k ≠ 8 → (va_up κ 8 x) k = κ k := fun k h8 => (va_up_of h8)
  have KR : ∀ i, (va_up κ 8 x) (20 + i) = κ (20 + i) := fun i => K (20 + i) (by omega)
  have E8 : (va_up κ 8 x) 8 = x := va_up_at _ _ _
  unfold z_W z_Q
  simp only [KR, E8, K 0 (by decide), K 1 (by decide), K 2 (by decide), K 3 (by decide), K 4 (by decide), K 5 (by decide), K 6 (by decide), K 7 (by decide), K 9 (by decide), K 10 (by decide), K 11 (by decide), K 12 (by decide), K 13 (by decide), K 14 (by decide), K 15 (by decide)]
  refine ⟨⟨Wp0_0 W, Wp0_1 W, Wp0_2 W, Wp0_3 W, Wp0_5 W, Wp0_6 W, Wp0_7 W, Wp0_8 W, Wp0_9 W, Wp2_0 W, Wp3_0 W, Wp4_0 W, Wp6_1 W, e0.trans (Wp8_0 W)⟩, fr11 (Ww0 W) (fun a ha => F a (by unfold f11 at ha; unfold f2; omega)), fr9 (Ww1 W) (fun a ha => F a (by unfold f9 at ha; unfold f2; omega)), fr3 (Ww2 W) (fun a ha => F a (by unfold f3 at ha; unfold f2; omega)), fr5 (Ww3 W) (fun a ha => F a (by unfold f5 at ha; unfold f2; omega)), fr7 (Ww4 W) (fun a ha => F a (by unfold f7 at ha; unfold f2; omega)), (F _ (by unfold f2; omega)).trans (Ww5 W), fr0 (Ww6 W) (fun a ha => F a (by unfold f0 at ha; unfold f2; omega)), fr10 (Ww7 W) (fun a ha => F a (by unfold f10 at ha; unfold f2; omega)), G, (F _ (by unfold f2; omega)).trans (Wwr W), fun i hi => fr10 (Wwt W i hi) (fun a ha => F a (by unfold f10 at ha; unfold f2; omega)), (F _ (by unfold f2; omega)).trans (Ww9 W), fr1 (Ww10 W) (fun a ha => F a (by unfold f1 at ha; unfold f2; omega)), (F _ (by unfold f2; omega)).trans (Wws W), fr10 (Ww11 W) (fun a ha => F a (by unfold f10 at ha; unfold f2; omega)), fr4 (Ww12 W) (fun a ha => F a (by unfold f4 at ha; unfold f2; omega)), (F _ (by unfold f2; omega)).trans (Ww13 W), (F _ (by unfold f2; omega)).trans (Wwk W), fun i hi => (F _ (by unfold f2; omega)).trans (Ww14 W i hi), (F _ (by unfold f2; omega)).trans (Ww15 W), (F _ (by unfold f2; omega)).trans (Ww16 W)⟩
theorem W_5 {b : Nat} {κ : Nat → g_S} {h h' : q_H} (W : z_W b κ h) {x : g_S} (C : h' (b + 12) = .inl (5, 6, .inr (.inr (.inr (.inr (g_P x)))))) (F : ∀ a, ¬ (a = b + 12) → h' a = h a) : z_W b (va_up κ 5 x) h' := by
  have K : ∀ k, k ≠ 5 → (va_up κ 5 x) k = κ k := fun k h5 => (va_up_of h5)
  have KR : ∀ i, (va_up κ 5 x) (20 + i) = κ (20 + i) := fun i => K (20 + i) (by omega)
  have E5 : (va_up κ 5 x) 5 = x := va_up_at _ _ _
  unfold z_W z_Q
  simp only [KR, E5, K 0 (by decide), K 1 (by decide), K 2 (by decide), K 3 (by decide), K 4 (by decide), K 6 (by decide), K 7 (by decide), K 8 (by decide), K 9 (by decide), K 10 (by decide), K 11 (by decide), K 12 (by decide), K 13 (by decide), K 14 (by decide), K 15 (by decide)]
  refine ⟨⟨Wp0_0 W, Wp0_1 W, Wp0_2 W, Wp0_3 W, Wp0_5 W, Wp0_6 W, Wp0_7 W, Wp0_8 W, Wp0_9 W, Wp2_0 W, Wp3_0 W, Wp4_0 W, Wp6_1 W, Wp8_0 W⟩, fr11 (Ww0 W) (fun a ha => F a (by unfold f11 at ha; omega)), fr9 (Ww1 W) (fun a ha => F a (by unfold f9 at ha; omega)), fr3 (Ww2 W) (fun a ha => F a (by unfold f3 at ha; omega)), fr5 (Ww3 W) (fun a ha => F a (by unfold f5 at ha; omega)), fr7 (Ww4 W) (fun a ha => F a (by unfold f7 at ha; omega)), C, fr0 (Ww6 W) (fun a ha => F a (by unfold f0 at ha; omega)), fr10 (Ww7 W) (fun a ha => F a (by unfold f10 at ha; omega)), fr2 (Ww8 W) (fun a ha => F a (by unfold f2 at ha; omega)), (F _ (by omega)).trans (Wwr W), fun i hi => fr10 (Wwt W i hi) (fun a ha => F a (by unfold f10 at ha; omega)), (F _ (by omega)).trans (Ww9 W), fr1 (Ww10 W) (fun a ha => F a (by unfold f1 at ha; omega)), (F _ (by omega)).trans (Wws W), fr10 (Ww11 W) (fun a ha => F a (by unfold f10 at ha; omega)), fr4 (Ww12 W) (fun a ha => F a (by unfold f4 at ha; omega)), (F _ (by omega)).trans (Ww13 W), (F _ (by omega)).trans (Wwk W), fun i hi => (F _ (by omega)).trans (Ww14 W i hi), (F _ (by omega)).trans (Ww15 W), (F _ (by omega)).trans (Ww16 W)⟩
theorem W_9 {b : Nat} {κ : Nat → g_S} {h h' : q_H} (W : z_W b κ h) {x : g_S} (C : h' (b + 123) = .inl (4, 4, .inr (.inr (.inr (.inr (g_P x)))))) (F : ∀ a, ¬ (a = b + 123) → h' a = h a) : z_W b (va_up κ 9 x) h' := by
  have K : ∀ k, k ≠ 9 → (va_up κ 9 x) k = κ k := fun k h9 => (va_up_of h9)
  have KR : ∀ i, (va_up κ 9 x) (20 + i) = κ (20 + i) := fun i => K (20 + i) (by omega)
  have E9 : (va_up κ 9 x) 9 = x := va_up_at _ _ _
  unfold z_W z_Q
  simp only [KR, E9, K 0 (by decide), K 1 (by decide), K 2 (by decide), K 3 (by decide), K 4 (by decide), K 5 (by decide), K 6 (by decide), K 7 (by decide), K 8 (by decide), K 10 (by decide), K 11 (by decide), K 12 (by decide), K 13 (by decide), K 14 (by decide), K 15 (by decide)]
  refine ⟨⟨Wp0_0 W, Wp0_1 W, Wp0_2 W, Wp0_3 W, Wp0_5 W, Wp0_6 W, Wp0_7 W, Wp0_8 W, Wp0_9 W, Wp2_0 W, Wp3_0 W, Wp4_0 W, Wp6_1 W, Wp8_0 W⟩, fr11 (Ww0 W) (fun a ha => F a (by unfold f11 at ha; omega)), fr9 (Ww1 W) (fun a ha => F a (by unfold f9 at ha; omega)), fr3 (Ww2 W) (fun a ha => F a (by unfold f3 at ha; omega)), fr5 (Ww3 W) (fun a ha => F a (by unfold f5 at ha; omega)), fr7 (Ww4 W) (fun a ha => F a (by unfold f7 at ha; omega)), (F _ (by omega)).trans (Ww5 W), fr0 (Ww6 W) (fun a ha => F a (by unfold f0 at ha; omega)), fr10 (Ww7 W) (fun a ha => F a (by unfold f10 at ha; omega)), fr2 (Ww8 W) (fun a ha => F a (by unfold f2 at ha; omega)), (F _ (by omega)).trans (Wwr W), fun i hi => fr10 (Wwt W i hi) (fun a ha => F a (by unfold f10 at ha; omega)), C, fr1 (Ww10 W) (fun a ha => F a (by unfold f1 at ha; omega)), (F _ (by omega)).trans (Wws W), fr10 (Ww11 W) (fun a ha => F a (by unfold f10 at ha; omega)), fr4 (Ww12 W) (fun a ha => F a (by unfold f4 at ha; omega)), (F _ (by omega)).trans (Ww13 W), (F _ (by omega)).trans (Wwk W), fun i hi => (F _ (by omega)).trans (Ww14 W i hi), (F _ (by omega)).trans (Ww15 W), (F _ (by omega)).trans (Ww16 W)⟩
theorem W_13 {b : Nat} {κ : Nat → g_S} {h h' : q_H} (W : z_W b κ h) {x : g_S} (C : h' (b + 141) = .inl (2, 61, .inr (.inl (g_L x 0)))) (F : ∀ a, ¬ (a = b + 141) → h' a = h a) : z_W b (va_up κ 13 x) h' := by
  have K : ∀ k, k ≠ 13 → (va_up κ 13 x) k = κ k := fun k h13 => (va_up_of h13)
  have KR : ∀ i, (va_up κ 13 x) (20 + i) = κ (20 + i) := fun i => K (20 + i) (by omega)
  have E13 : (va_up κ 13 x) 13 = x := va_up_at _ _ _
  unfold z_W z_Q
  simp only [KR, E13, K 0 (by decide), K 1 (by decide), K 2 (by decide), K 3 (by decide), K 4 (by decide), K 5 (by decide), K 6 (by decide), K 7 (by decide), K 8 (by decide), K 9 (by decide), K 10 (by decide), K 11 (by decide), K 12 (by decide), K 14 (by decide), K 15 (by decide)]
  refine ⟨⟨Wp0_0 W, Wp0_1 W, Wp0_2 W, Wp0_3 W, Wp0_5 W, Wp0_6 W, Wp0_7 W, Wp0_8 W, Wp0_9 W, Wp2_0 W, Wp3_0 W, Wp4_0 W, Wp6_1 W, Wp8_0 W⟩, fr11 (Ww0 W) (fun a ha => F a (by unfold f11 at ha; omega)), fr9 (Ww1 W) (fun a ha => F a (by unfold f9 at ha; omega)), fr3 (Ww2 W) (fun a ha => F a (by unfold f3 at ha; omega)), fr5 (Ww3 W) (fun a ha => F a (by unfold f5 at ha; omega)), fr7 (Ww4 W) (fun a ha => F a (by unfold f7 at ha; omega)), (F _ (by omega)).trans (Ww5 W), fr0 (Ww6 W) (fun a ha => F a (by unfold f0 at ha; omega)), fr10 (Ww7 W) (fun a ha => F a (by unfold f10 at ha; omega)), fr2 (Ww8 W) (fun a ha => F a (by unfold f2 at ha; omega)), (F _ (by omega)).trans (Wwr W), fun i hi => fr10 (Wwt W i hi) (fun a ha => F a (by unfold f10 at ha; omega)), (F _ (by omega)).trans (Ww9 W), fr1 (Ww10 W) (fun a ha => F a (by unfold f1 at ha; omega)), (F _ (by omega)).trans (Wws W), fr10 (Ww11 W) (fun a ha => F a (by unfold f10 at ha; omega)), fr4 (Ww12 W) (fun a ha => F a (by unfold f4 at ha; omega)), C, (F _ (by omega)).trans (Wwk W), fun i hi => (F _ (by omega)).trans (Ww14 W i hi), (F _ (by omega)).trans (Ww15 W), (F _ (by omega)).trans (Ww16 W)⟩
theorem W_0 {b : Nat} {κ : Nat → g_S} {h h' : q_H} (W : z_W b κ h) {x : g_S} (G : g11 b x h') (e : g_P x = g_P (κ 0)) (F : ∀ a, ¬ (a = b) → h' a = h a) : z_W b (va_up κ 0 x) h' := by
  have K : ∀ k, k ≠ 0 → (va_up κ 0 x) k = κ k := fun k h0 => (va_up_of h0)
  have KR : ∀ i, (va_up κ 0 x) (20 + i) = κ (20 + i) := fun i => K (20 + i) (by omega)
  have E0 : (va_up κ 0 x) 0 = x := va_up_at _ _ _
  unfold z_W z_Q
  simp only [KR, E0, K 1 (by decide), K 2 (by decide), K 3 (by decide), K 4 (by decide), K 5 (by decide), K 6 (by decide), K 7 (by decide), K 8 (by decide), K 9 (by decide), K 10 (by decide), K 11 (by decide), K 12 (by decide), K 13 (by decide), K 14 (by decide), K 15 (by decide)]
  refine ⟨⟨(congrFun e 0).trans (Wp0_0 W), (congrFun e 1).trans (Wp0_1 W), (congrFun e 2).trans (Wp0_2 W), (congrFun e 3).trans (Wp0_3 W), (congrFun e 5).trans (Wp0_5 W), (congrFun e 6).trans (Wp0_6 W), (congrFun e 7).trans (Wp0_7 W), (congrFun e 8).trans (Wp0_8 W), (congrFun e 9).trans (Wp0_9 W), Wp2_0 W, Wp3_0 W, Wp4_0 W, Wp6_1 W, Wp8_0 W⟩, G, fr9 (Ww1 W) (fun a ha => F a (by unfold f9 at ha; omega)), fr3 (Ww2 W) (fun a ha => F a (by unfold f3 at ha; omega)), fr5 (Ww3 W) (fun a ha => F a (by unfold f5 at ha; omega)), fr7 (Ww4 W) (fun a ha => F a (by unfold f7 at ha; omega)), (F _ (by omega)).trans (Ww5 W), fr0 (Ww6 W) (fun a ha => F a (by unfold f0 at ha; omega)), fr10 (Ww7 W) (fun a ha => F a (by unfold f10 at ha; omega)), fr2 (Ww8 W) (fun a ha => F a (by unfold f2 at ha; omega)), (F _ (by omega)).trans (Wwr W), fun i hi => fr10 (Wwt W i hi) (fun a ha => F a (by unfold f10 at ha; omega)), (F _ (by omega)).trans (Ww9 W), fr1 (Ww10 W) (fun a ha => F a (by unfold f1 at ha; omega)), (F _ (by omega)).trans (Wws W), fr10 (Ww11 W) (fun a ha => F a (by unfold f10 at ha; omega)), fr4 (Ww12 W) (fun a ha => F a (by unfold f4 at ha; omega)), (F _ (by omega)).trans (Ww13 W), (F _ (by omega)).trans (Wwk W), fun i hi => (F _ (by omega)).trans (Ww14 W i hi), (F _ (by omega)).trans (Ww15 W), (F _ (by omega)).trans (Ww16 W)⟩
theorem W_15 {b : Nat} {κ : Nat → g_S} {h h' : q_H} (W : z_W b κ h) {x : g_S} (C0 : h' (b + 150) = .inl (1, 16, .inl (g_A x 0))) (C1 : h' (b + 151) = .inl (1, 16, .inl (g_A x 1))) (F : ∀ a, ¬ (a = b + 150 ∨ a = b + 151) → h' a = h a) : z_W b (va_up κ 15 x) h' := by
  have K : ∀ k, k ≠ 15 → (va_up κ 15 x) k = κ k := fun k h15 => (va_up_of h15)
  have KR : ∀ i, (va_up κ 15 x) (20 + i) = κ (20 + i) := fun i => K (20 + i) (by omega)
  have E15 : (va_up κ 15 x) 15 = x := va_up_at _ _ _
  unfold z_W z_Q
  simp only [KR, E15, K 0 (by decide), K 1 (by decide), K 2 (by decide), K 3 (by decide), K 4 (by decide), K 5 (by decide), K 6 (by decide), K 7 (by decide), K 8 (by decide), K 9 (by decide), K 10 (by decide), K 11 (by decide), K 12 (by decide), K 13 (by decide), K 14 (by decide)]
  refine ⟨⟨Wp0_0 W, Wp0_1 W, Wp0_2 W, Wp0_3 W, Wp0_5 W, Wp0_6 W, Wp0_7 W, Wp0_8 W, Wp0_9 W, Wp2_0 W, Wp3_0 W, Wp4_0 W, Wp6_1 W, Wp8_0 W⟩, fr11 (Ww0 W) (fun a ha => F a (by unfold f11 at ha; omega)), fr9 (Ww1 W) (fun a ha => F a (by unfold f9 at ha; omega)), fr3 (Ww2 W) (fun a ha => F a (by unfold f3 at ha; omega)), fr5 (Ww3 W) (fun a ha => F a (by unfold f5 at ha; omega)), fr7 (Ww4 W) (fun a ha => F a (by unfold f7 at ha; omega)), (F _ (by omega)).trans (Ww5 W), fr0 (Ww6 W) (fun a ha => F a (by unfold f0 at ha; omega)), fr10 (Ww7 W) (fun a ha => F a (by unfold f10 at ha; omega)), fr2 (Ww8 W) (fun a ha => F a (by unfold f2 at ha; omega)), (F _ (by omega)).trans (Wwr W), fun i hi => fr10 (Wwt W i hi) (fun a ha => F a (by unfold f10 at ha; omega)), (F _ (by omega)).trans (Ww9 W), fr1 (Ww10 W) (fun a ha => F a (by unfold f1 at ha; omega)), (F _ (by omega)).trans (Wws W), fr10 (Ww11 W) (fun a ha => F a (by unfold f10 at ha; omega)), fr4 (Ww12 W) (fun a ha => F a (by unfold f4 at ha; omega)), (F _ (by omega)).trans (Ww13 W), (F _ (by omega)).trans (Wwk W), fun i hi => (F _ (by omega)).trans (Ww14 W i hi), C0, C1⟩
theorem W_14 {b : Nat} {κ : Nat → g_S} {h h' : q_H} (W : z_W b κ h) {x : g_S} (C : ∀ i, i < 7 → h' (b + 143 + i) = .inl (1, 61, .inl (g_A x i))) (F : ∀ a, ¬ (∃ i, i < 7 ∧ a = b + 143 + i) → h' a = h a) : z_W b (va_up κ 14 x) h' := by
  have K : ∀ k, k ≠ 14 → (va_up κ 14 x) k = κ k := fun k h14 => (va_up_of h14)
  have KR : ∀ i, (va_up κ 14 x) (20 + i) = κ (20 + i) := fun i => K (20 + i) (by omega)
  have E14 : (va_up κ 14 x) 14 = x := va_up_at _ _ _
  unfold z_W z_Q
  simp only [KR, E14, K 0 (by decide), K 1 (by decide), K 2 (by decide), K 3 (by decide), K 4 (by decide), K 5 (by decide), K 6 (by decide), K 7 (by decide), K 8 (by decide), K 9 (by decide), K 10 (by decide), K 11 (by decide), K 12 (by decide), K 13 (by decide), K 15 (by decide)]
  refine ⟨⟨Wp0_0 W, Wp0_1 W, Wp0_2 W, Wp0_3 W, Wp0_5 W, Wp0_6 W, Wp0_7 W, Wp0_8 W, Wp0_9 W, Wp2_0 W, Wp3_0 W, Wp4_0 W, Wp6_1 W, Wp8_0 W⟩, fr11 (Ww0 W) (fun a ha => F a (by unfold f11 at ha; omega)), fr9 (Ww1 W) (fun a ha => F a (by unfold f9 at ha; omega)), fr3 (Ww2 W) (fun a ha => F a (by unfold f3 at ha; omega)), fr5 (Ww3 W) (fun a ha => F a (by unfold f5 at ha; omega)), fr7 (Ww4 W) (fun a ha => F a (by unfold f7 at ha; omega)), (F _ (by omega)).trans (Ww5 W), fr0 (Ww6 W) (fun a ha => F a (by unfold f0 at ha; omega)), fr10 (Ww7 W) (fun a ha => F a (by unfold f10 at ha; omega)), fr2 (Ww8 W) (fun a ha => F a (by unfold f2 at ha; omega)), (F _ (by omega)).trans (Wwr W), fun i hi => fr10 (Wwt W i hi) (fun a ha => F a (by unfold f10 at ha; omega)), (F _ (by omega)).trans (Ww9 W), fr1 (Ww10 W) (fun a ha => F a (by unfold f1 at ha; omega)), (F _ (by omega)).trans (Wws W), fr10 (Ww11 W) (fun a ha => F a (by unfold f10 at ha; omega)), fr4 (Ww12 W) (fun a ha => F a (by unfold f4 at ha; omega)), (F _ (by omega)).trans (Ww13 W), (F _ (by omega)).trans (Wwk W), C, (F _ (by omega)).trans (Ww15 W), (F _ (by omega)).trans (Ww16 W)⟩
theorem W_10_11 {b : Nat} {κ : Nat → g_S} {h h' : q_H} (W : z_W b κ h) {x y : g_S} (G1 : g1 (b + 124) x h') (G2 : g10 (b + 131) y h') (F : ∀ a, ¬ (f1 (b + 124) a ∨ f10 (b + 131) a) → h' a = h a) : z_W b (va_up (va_up κ 10 x) 11 y) h' := by
  have K : ∀ k, k ≠ 10 → k ≠ 11 → (va_up (va_up κ 10 x) 11 y) k = κ k := fun k h10 h11 => ((va_up_of h11).trans (va_up_of h10))
  have KR : ∀ i, (va_up (va_up κ 10 x) 11 y) (20 + i) = κ (20 + i) := fun i => K (20 + i) (by omega) (by omega)
  have E10 : (va_up (va_up κ 10 x) 11 y) 10 = x := (va_up_of (by decide)).trans (va_up_at _ _ _)
  have E11 : (va_up (va_up κ 10 x) 11 y) 11 = y := va_up_at _ _ _
  unfold z_W z_Q
  simp only [KR, E10, E11, K 0 (by decide) (by decide), K 1 (by decide) (by decide), K 2 (by decide) (by decide), K 3 (by decide) (by decide), K 4 (by decide) (by decide), K 5 (by decide) (by decide), K 6 (by decide) (by decide), K 7 (by decide) (by decide), K 8 (by decide) (by decide), K 9 (by decide) (by decide), K 12 (by decide) (by decide), K 13 (by decide) (by decide), K 14 (by decide) (by decide), K 15 (by decide) (by decide)]
  refine ⟨⟨Wp0_0 W, Wp0_1 W, Wp0_2 W, Wp0_3 W, Wp0_5 W, Wp0_6 W, Wp0_7 W, Wp0_8 W, Wp0_9 W, Wp2_0 W, Wp3_0 W, Wp4_0 W, Wp6_1 W, Wp8_0 W⟩, fr11 (Ww0 W) (fun a ha => F a (by unfold f11 at ha; unfold f1 f10; omega)), fr9 (Ww1 W) (fun a ha => F a (by unfold f9 at ha; unfold f1 f10; omega)), fr3 (Ww2 W) (fun a ha => F a (by unfold f3 at ha; unfold f1 f10; omega)), fr5 (Ww3 W) (fun a ha => F a (by unfold f5 at ha; unfold f1 f10; omega)), fr7 (Ww4 W) (fun a ha => F a (by unfold f7 at ha; unfold f1 f10; omega)), (F _ (by unfold f1 f10; omega)).trans (Ww5 W), fr0 (Ww6 W) (fun a ha => F a (by unfold f0 at ha; unfold f1 f10; omega)), fr10 (Ww7 W) (fun a ha => F a (by unfold f10 at ha; unfold f1 f10; omega)), fr2 (Ww8 W) (fun a ha => F a (by unfold f2 at ha; unfold f1 f10; omega)), (F _ (by unfold f1 f10; omega)).trans (Wwr W), fun i hi => fr10 (Wwt W i hi) (fun a ha => F a (by unfold f10 at ha; unfold f1 f10; omega)), (F _ (by unfold f1 f10; omega)).trans (Ww9 W), G1, (F _ (by unfold f1 f10; omega)).trans (Wws W), G2, fr4 (Ww12 W) (fun a ha => F a (by unfold f4 at ha; unfold f1 f10; omega)), (F _ (by unfold f1 f10; omega)).trans (Ww13 W), (F _ (by unfold f1 f10; omega)).trans (Wwk W), fun i hi => (F _ (by unfold f1 f10; omega)).trans (Ww14 W i hi), (F _ (by unfold f1 f10; omega)).trans (Ww15 W), (F _ (by unfold f1 f10; omega)).trans (Ww16 W)⟩
theorem W_10_7 {b : Nat} {κ : Nat → g_S} {h h' : q_H} (W : z_W b κ h) {x y : g_S} (G1 : g1 (b + 124) x h') (G2 : g10 (b + 14) y h') (F : ∀ a, ¬ (f1 (b + 124) a ∨ f10 (b + 14) a) → h' a = h a) : z_W b (va_up (va_up κ 10 x) 7 y) h' := by
  have K : ∀ k, k ≠ 10 → k ≠ 7 → (va_up (va_up κ 10 x) 7 y) k = κ k := fun k h10 h7 => ((va_up_of h7).trans (va_up_of h10))
  have KR : ∀ i, (va_up (va_up κ 10 x) 7 y) (20 + i) = κ (20 + i) := fun i => K (20 + i) (by omega) (by omega)
  have E10 : (va_up (va_up κ 10 x) 7 y) 10 = x := (va_up_of (by decide)).trans (va_up_at _ _ _)
  have E7 : (va_up (va_up κ 10 x) 7 y) 7 = y := va_up_at _ _ _
  unfold z_W z_Q
  simp only [KR, E10, E7, K 0 (by decide) (by decide), K 1 (by decide) (by decide), K 2 (by decide) (by decide), K 3 (by decide) (by decide), K 4 (by decide) (by decide), K 5 (by decide) (by decide), K 6 (by decide) (by decide), K 8 (by decide) (by decide), K 9 (by decide) (by decide), K 11 (by decide) (by decide), K 12 (by decide) (by decide), K 13 (by decide) (by decide), K 14 (by decide) (by decide), K 15 (by decide) (by decide)]
  refine ⟨⟨Wp0_0 W, Wp0_1 W, Wp0_2 W, Wp0_3 W, Wp0_5 W, Wp0_6 W, Wp0_7 W, Wp0_8 W, Wp0_9 W, Wp2_0 W, Wp3_0 W, Wp4_0 W, Wp6_1 W, Wp8_0 W⟩, fr11 (Ww0 W) (fun a ha => F a (by unfold f11 at ha; unfold f1 f10; omega)), fr9 (Ww1 W) (fun a ha => F a (by unfold f9 at ha; unfold f1 f10; omega)), fr3 (Ww2 W) (fun a ha => F a (by unfold f3 at ha; unfold f1 f10; omega)), fr5 (Ww3 W) (fun a ha => F a (by unfold f5 at ha; unfold f1 f10; omega)), fr7 (Ww4 W) (fun a ha => F a (by unfold f7 at ha; unfold f1 f10; omega)), (F _ (by unfold f1 f10; omega)).trans (Ww5 W), fr0 (Ww6 W) (fun a ha => F a (by unfold f0 at ha; unfold f1 f10; omega)), G2, fr2 (Ww8 W) (fun a ha => F a (by unfold f2 at ha; unfold f1 f10; omega)), (F _ (by unfold f1 f10; omega)).trans (Wwr W), fun i hi => fr10 (Wwt W i hi) (fun a ha => F a (by unfold f10 at ha; unfold f1 f10; omega)), (F _ (by unfold f1 f10; omega)).trans (Ww9 W), G1, (F _ (by unfold f1 f10; omega)).trans (Wws W), fr10 (Ww11 W) (fun a ha => F a (by unfold f10 at ha; unfold f1 f10; omega)), fr4 (Ww12 W) (fun a ha => F a (by unfold f4 at ha; unfold f1 f10; omega)), (F _ (by unfold f1 f10; omega)).trans (Ww13 W), (F _ (by unfold f1 f10; omega)).trans (Wwk W), fun i hi => (F _ (by unfold f1 f10; omega)).trans (Ww14 W i hi), (F _ (by unfold f1 f10; omega)).trans (Ww15 W), (F _ (by unfold f1 f10; omega)).trans (Ww16 W)⟩
theorem W_2_3 {b : Nat} {κ : Nat → g_S} {h h' : q_H} (W : z_W b κ h) {x y : g_S} (G1 : g3 (b + 3) x h') (G2 : g5 (b + 7) y h') (e1 : g_P x 0 = g_P (κ 2) 0) (e2 : g_P y 0 = g_P (κ 3) 0) (F : ∀ a, ¬ (f3 (b + 3) a ∨ f5 (b + 7) a ∨ b + 152 ≤ a) → h' a = h a) : z_W b (va_up (va_up κ 2 x) 3 y) h' := by
  have K : ∀ k, k ≠ 2 → k ≠ 3 → (va_up (va_up κ 2 x) 3 y) k = κ k := fun k h2 h3 => ((va_up_of h3).trans (va_up_of h2))
  have KR : ∀ i, (va_up (va_up κ 2 x) 3 y) (20 + i) = κ (20 + i) := fun i => K (20 + i) (by omega) (by omega)
  have E2 : (va_up (va_up κ 2 x) 3 y) 2 = x := (va_up_of (by decide)).trans (va_up_at _ _ _)
  have E3 : (va_up (va_up κ 2 x) 3 y) 3 = y := va_up_at _ _ _
  unfold z_W z_Q
  simp only [KR, E2, E3, K 0 (by decide) (by decide), K 1 (by decide) (by decide), K 4 (by decide) (by decide), K 5 (by decide) (by decide), K 6 (by decide) (by decide), K 7 (by decide) (by decide), K 8 (by decide) (by decide), K 9 (by decide) (by decide), K 10 (by decide) (by decide), K 11 (by decide) (by decide), K 12 (by decide) (by decide), K 13 (by decide) (by decide), K 14 (by decide) (by decide), K 15 (by decide) (by decide)]
  refine ⟨⟨Wp0_0 W, Wp0_1 W, Wp0_2 W, Wp0_3 W, Wp0_5 W, Wp0_6 W, Wp0_7 W, Wp0_8 W, Wp0_9 W, e1.trans (Wp2_0 W), e2.trans (Wp3_0 W), Wp4_0 W, Wp6_1 W, Wp8_0 W⟩, fr11 (Ww0 W) (fun a ha => F a (by unfold f11 at ha; unfold f3 f5; omega)), fr9 (Ww1 W) (fun a ha => F a (by unfold f9 at ha; unfold f3 f5; omega)), G1, G2, fr7 (Ww4 W) (fun a ha => F a (by unfold f7 at ha; unfold f3 f5; omega)), (F _ (by unfold f3 f5; omega)).trans (Ww5 W), fr0 (Ww6 W) (fun a ha => F a (by unfold f0 at ha; unfold f3 f5; omega)), fr10 (Ww7 W) (fun a ha => F a (by unfold f10 at ha; unfold f3 f5; omega)), fr2 (Ww8 W) (fun a ha => F a (by unfold f2 at ha; unfold f3 f5; omega)), (F _ (by unfold f3 f5; omega)).trans (Wwr W), fun i hi => fr10 (Wwt W i hi) (fun a ha => F a (by unfold f10 at ha; unfold f3 f5; omega)), (F _ (by unfold f3 f5; omega)).trans (Ww9 W), fr1 (Ww10 W) (fun a ha => F a (by unfold f1 at ha; unfold f3 f5; omega)), (F _ (by unfold f3 f5; omega)).trans (Wws W), fr10 (Ww11 W) (fun a ha => F a (by unfold f10 at ha; unfold f3 f5; omega)), fr4 (Ww12 W) (fun a ha => F a (by unfold f4 at ha; unfold f3 f5; omega)), (F _ (by unfold f3 f5; omega)).trans (Ww13 W), (F _ (by unfold f3 f5; omega)).trans (Wwk W), fun i hi => (F _ (by unfold f3 f5; omega)).trans (Ww14 W i hi), (F _ (by unfold f3 f5; omega)).trans (Ww15 W), (F _ (by unfold f3 f5; omega)).trans (Ww16 W)⟩
theorem W_2_4 {b : Nat} {κ : Nat → g_S} {h h' : q_H} (W : z_W b κ h) {x y : g_S} (G1 : g3 (b + 3) x h') (G2 : g7 (b + 8) y h') (e1 : g_P x 0 = g_P (κ 2) 0) (e2 : g_P y 0 = g_P (κ 4) 0) (F : ∀ a, ¬ (f3 (b + 3) a ∨ f7 (b + 8) a ∨ b + 152 ≤ a) → h' a = h a) : z_W b (va_up (va_up κ 2 x) 4 y) h' := by
  have K : ∀ k, k ≠ 2 → k ≠ 4 → (va_up (va_up κ 2 x) 4 y) k = κ k := fun k h2 h4 => ((va_up_of h4).trans (va_up_of h2))
  have KR : ∀ i, (va_up (va_up κ 2 x) 4 y) (20 + i) = κ (20 + i) := fun i => K (20 + i) (by omega) (by omega)
  have E2 : (va_up (va_up κ 2 x) 4 y) 2 = x := (va_up_of (by decide)).trans (va_up_at _ _ _)
  have E4 : (va_up (va_up κ 2 x) 4 y) 4 = y := va_up_at _ _ _
  unfold z_W z_Q
  simp only [KR, E2, E4, K 0 (by decide) (by decide), K 1 (by decide) (by decide), K 3 (by decide) (by decide), K 5 (by decide) (by decide), K 6 (by decide) (by decide), K 7 (by decide) (by decide), K 8 (by decide) (by decide), K 9 (by decide) (by decide), K 10 (by decide) (by decide), K 11 (by decide) (by decide), K 12 (by decide) (by decide), K 13 (by decide) (by decide), K 14 (by decide) (by decide), K 15 (by decide) (by decide)]
  refine ⟨⟨Wp0_0 W, Wp0_1 W, Wp0_2 W, Wp0_3 W, Wp0_5 W, Wp0_6 W, Wp0_7 W, Wp0_8 W, Wp0_9 W, e1.trans (Wp2_0 W), Wp3_0 W, e2.trans (Wp4_0 W), Wp6_1 W, Wp8_0 W⟩, fr11 (Ww0 W) (fun a ha => F a (by unfold f11 at ha; unfold f3 f7; omega)), fr9 (Ww1 W) (fun a ha => F a (by unfold f9 at ha; unfold f3 f7; omega)), G1, fr5 (Ww3 W) (fun a ha => F a (by unfold f5 at ha; unfold f3 f7; omega)), G2, (F _ (by unfold f3 f7; omega)).trans (Ww5 W), fr0 (Ww6 W) (fun a ha => F a (by unfold f0 at ha; unfold f3 f7; omega)), fr10 (Ww7 W) (fun a ha => F a (by unfold f10 at ha; unfold f3 f7; omega)), fr2 (Ww8 W) (fun a ha => F a (by unfold f2 at ha; unfold f3 f7; omega)), (F _ (by unfold f3 f7; omega)).trans (Wwr W), fun i hi => fr10 (Wwt W i hi) (fun a ha => F a (by unfold f10 at ha; unfold f3 f7; omega)), (F _ (by unfold f3 f7; omega)).trans (Ww9 W), fr1 (Ww10 W) (fun a ha => F a (by unfold f1 at ha; unfold f3 f7; omega)), (F _ (by unfold f3 f7; omega)).trans (Wws W), fr10 (Ww11 W) (fun a ha => F a (by unfold f10 at ha; unfold f3 f7; omega)), fr4 (Ww12 W) (fun a ha => F a (by unfold f4 at ha; unfold f3 f7; omega)), (F _ (by unfold f3 f7; omega)).trans (Ww13 W), (F _ (by unfold f3 f7; omega)).trans (Wwk W), fun i hi => (F _ (by unfold f3 f7; omega)).trans (Ww14 W i hi), (F _ (by unfold f3 f7; omega)).trans (Ww15 W), (F _ (by unfold f3 f7; omega)).trans (Ww16 W)⟩
theorem W_n {b : Nat} {κ : Nat → g_S} {h h' : q_H} (W : z_W b κ h)  (F : ∀ a, ¬ (b + 152 ≤ a) → h' a = h a) : z_W b (κ) h' := by
  refine ⟨⟨Wp0_0 W, Wp0_1 W, Wp0_2 W, Wp0_3 W, Wp0_5 W, Wp0_6 W, Wp0_7 W, Wp0_8 W, Wp0_9 W, Wp2_0 W, Wp3_0 W, Wp4_0 W, Wp6_1 W, Wp8_0 W⟩, fr11 (Ww0 W) (fun a ha => F a (by unfold f11 at ha; omega)), fr9 (Ww1 W) (fun a ha => F a (by unfold f9 at ha; omega)), fr3 (Ww2 W) (fun a ha => F a (by unfold f3 at ha; omega)), fr5 (Ww3 W) (fun a ha => F a (by unfold f5 at ha; omega)), fr7 (Ww4 W) (fun a ha => F a (by unfold f7 at ha; omega)), (F _ (by omega)).trans (Ww5 W), fr0 (Ww6 W) (fun a ha => F a (by unfold f0 at ha; omega)), fr10 (Ww7 W) (fun a ha => F a (by unfold f10 at ha; omega)), fr2 (Ww8 W) (fun a ha => F a (by unfold f2 at ha; omega)), (F _ (by omega)).trans (Wwr W), fun i hi => fr10 (Wwt W i hi) (fun a ha => F a (by unfold f10 at ha; omega)), (F _ (by omega)).trans (Ww9 W), fr1 (Ww10 W) (fun a ha => F a (by unfold f1 at ha; omega)), (F _ (by omega)).trans (Wws W), fr10 (Ww11 W) (fun a ha => F a (by unfold f10 at ha; omega)), fr4 (Ww12 W) (fun a ha => F a (by unfold f4 at ha; omega)), (F _ (by omega)).trans (Ww13 W), (F _ (by omega)).trans (Wwk W), fun i hi => (F _ (by omega)).trans (Ww14 W i hi), (F _ (by omega)).trans (Ww15 W), (F _ (by omega)).trans (Ww16 W)⟩
theorem W_r {b : Nat} {κ : Nat → g_S} {h h' : q_H} (W : z_W b κ h) {x : g_S} {i : Nat} (hi : i < 20) (G : g10 (b + 23 + 5 * i) x h') (F : ∀ a, ¬ (f10 (b + 23 + 5 * i) a) → h' a = h a) : z_W b (va_up κ (20 + i) x) h' := by
  have K : ∀ k, k < 20 → va_up κ (20 + i) x k = κ k := fun k hk => va_up_of (by omega)
  have W2 : z_W b (va_up κ (20 + i) x) h' := by
    unfold z_W z_Q
    simp only [K 0 (by decide), K 1 (by decide), K 2 (by decide), K 3 (by decide), K 4 (by decide), K 5 (by decide), K 6 (by decide), K 7 (by decide), K 8 (by decide), K 9 (by decide), K 10 (by decide), K 11 (by decide), K 12 (by decide), K 13 (by decide), K 14 (by decide), K 15 (by decide)]
    refine ⟨⟨Wp0_0 W, Wp0_1 W, Wp0_2 W, Wp0_3 W, Wp0_5 W, Wp0_6 W, Wp0_7 W, Wp0_8 W, Wp0_9 W, Wp2_0 W, Wp3_0 W, Wp4_0 W, Wp6_1 W, Wp8_0 W⟩, fr11 (Ww0 W) (fun a ha => F a (by unfold f11 at ha; unfold f10; omega)), fr9 (Ww1 W) (fun a ha => F a (by unfold f9 at ha; unfold f10; omega)), fr3 (Ww2 W) (fun a ha => F a (by unfold f3 at ha; unfold f10; omega)), fr5 (Ww3 W) (fun a ha => F a (by unfold f5 at ha; unfold f10; omega)), fr7 (Ww4 W) (fun a ha => F a (by unfold f7 at ha; unfold f10; omega)), (F _ (by unfold f10; omega)).trans (Ww5 W), fr0 (Ww6 W) (fun a ha => F a (by unfold f0 at ha; unfold f10; omega)), fr10 (Ww7 W) (fun a ha => F a (by unfold f10 at ha; unfold f10; omega)), fr2 (Ww8 W) (fun a ha => F a (by unfold f2 at ha; unfold f10; omega)), (F _ (by unfold f10; omega)).trans (Wwr W), fun j hj => ?_, (F _ (by unfold f10; omega)).trans (Ww9 W), fr1 (Ww10 W) (fun a ha => F a (by unfold f1 at ha; unfold f10; omega)), (F _ (by unfold f10; omega)).trans (Wws W), fr10 (Ww11 W) (fun a ha => F a (by unfold f10 at ha; unfold f10; omega)), fr4 (Ww12 W) (fun a ha => F a (by unfold f4 at ha; unfold f10; omega)), (F _ (by unfold f10; omega)).trans (Ww13 W), (F _ (by unfold f10; omega)).trans (Wwk W), fun i hi => (F _ (by unfold f10; omega)).trans (Ww14 W i hi), (F _ (by unfold f10; omega)).trans (Ww15 W), (F _ (by unfold f10; omega)).trans (Ww16 W)⟩
    by_cases e : j = i
    · rw [e, va_up_at]
      exact G
    · rw [va_up_of (by omega)]
      exact fr10 (Wwt W j hj) (fun a ha => F a (by unfold f10 at ha ⊢; omega))
  exact W2
