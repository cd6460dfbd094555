/-! ===== the memory is changed at one place ===== -/
theorem T_kept {w : Wd} {ty : FieldType} {t N : Nat} {f : Nat → Value} {U : State} {H H1 : Heap} {a : Nat} (h : va_T ty t N f (fA w) U H) (ha : fA w a) (oq : ∀ q, q ≠ a → H1[q]? = H[q]?) : va_T ty t N f (fA w) U H1 := by
  obtain ⟨cell, h1, h2, h3, h4, h5, h6, h7⟩ := h
  exact ⟨cell, by rw [oq t (fun e => h7 (e ▸ ha))]; exact h1, h2, h3, h4, h5, h6, h7⟩
theorem Z_kept {w : Wd} {C n d : String} {v : Value} {U : State} {H H1 : Heap} {a : Nat} (h : va_Z C n d v (fA w) U H) (ha : fA w a) (oq : ∀ q, q ≠ a → H1[q]? = H[q]?) : va_Z C n d v (fA w) U H1 := by
  obtain ⟨cf, kf, fi, f, b, cell, h1, h2, h3, h4, h5, h6, h7, h8⟩ := h
  exact ⟨cf, kf, fi, f, b, cell, h1, h2, h3, h4, by rw [oq b (fun e => h8 (e ▸ ha))]; exact h5, h6, h7, h8⟩
theorem cellAt.same {w : Wd} {U : State} {h h' : Hp} {id : Nat} {H H1 : Heap} (c : cellAt w U h id H) (e : H1[ad w id]? = H[ad w id]?) (es : hs h' id = hs h id) (eI : ∀ j, hI h' id j = hI h id j) (eL : ∀ j, hL h' id j = hL h id j) (eR : ∀ j, hR h' id j = hR h id j) : cellAt w U h' id H1 := by
  obtain ⟨c1, c2, c3, c4⟩ := c
  unfold cellAt
  rw [es, show (fun j => Value.int (hI h' id j)) = (fun j => Value.int (hI h id j)) from funext fun j => by rw [eI], show (fun j => Value.long (hL h' id j)) = (fun j => Value.long (hL h id j)) from funext fun j => by rw [eL], show (fun j => rv w (hR h' id j)) = (fun j => rv w (hR h id j)) from funext fun j => by rw [eR], e]
  refine ⟨c1, c2, c3, fun ci hc => ?_⟩
  obtain ⟨r, hr, o⟩ := c4 ci hc
  refine ⟨r, hr, (o.kept e).to (fun k _ => ?_)⟩
  unfold fval
  rw [eI, eL, eR]
/-- one cell changed, its shape not -/
theorem Rp.put {w : Wd} {U : State} {h h' : Hp} {H H1 : Heap} {a : Nat} (r : Rp w U h H) (h5 : 5 ≤ a) (z : H1.size = H.size) (oq : ∀ q, q ≠ ad w a → H1[q]? = H[q]?) (e1 : h'.1 = h.1) (es : hs h' = hs h) (eI : ∀ b j, b ≠ a → hI h' b j = hI h b j) (eL : ∀ b j, b ≠ a → hL h' b j = hL h b j) (eR : ∀ b j, b ≠ a → hR h' b j = hR h b j) (c : cellAt w U h' a H1) : Rp w U h' H1 := by
  obtain ⟨r1, r2, r3, r4, r5⟩ := r
  have hA : fA w (ad w a) := by rw [ad_new h5]; exact Nat.le_add_right _ _
  refine ⟨by rw [e1, z]; exact r1, by rw [es, e1]; exact r2, fun id i5 il => ?_, fun id il ik => ?_, fun k k1 k2 => Z_kept (r5 k k1 k2) hA oq⟩
  · by_cases e : id = a
    · subst e; exact c
    · exact (r3 id i5 (by rw [← e1]; exact il)).same (oq _ (fun q => e (ad_inj i5 h5 q))) (by rw [es]) (fun j => eI id j e) (fun j => eL id j e) (fun j => eR id j e)
  · have e : id ≠ a := by omega
    have := T_kept (r4 id il (by rw [← es]; exact ik)) hA oq
    rw [es, show (fun j => Value.int (hI h' id j)) = (fun j => Value.int (hI h id j)) from funext fun j => by rw [eI id j e]]
    exact this
/-- a field's link: own class, index in its pool, class and place of the field -/
def FL (own : String) (idx ci kf : Nat) : Prop := ∃ (C : String) (T : u_T) (N : Nat), vwCl[ci]? = some (C, T, N) ∧ kf < N ∧ Cond.fieldLink own idx (T kf).1 (T kf).2.1 (T kf).2.2.1 ∈ gd
def Fok (ci : Nat) : Prop := ∀ (C : String) (T : u_T) (N : Nat), vwCl[ci]? = some (C, T, N) → (∀ w ∈ u_ws C T N, w ∈ gd) ∧ (∀ k, k < N → parseFieldDescriptor (T k).2.2.1 = some (ftys ci k)) ∧ (∀ a, a < N → ∀ b, b < N → a ≠ b → (T a).2.1 ≠ (T b).2.1)
theorem fok_of {ci : Nat} {C : String} {T : u_T} {N : Nat} (h : vwCl[ci]? = some (C, T, N)) (h1 : ∀ w ∈ u_ws C T N, w ∈ lw_tbl) (h2 : (u_ws C T N).all goodWord = true) (h3 : ∀ k, k < N → parseFieldDescriptor (T k).2.2.1 = some (ftys ci k)) (h4 : ∀ a, a < N → ∀ b, b < N → a ≠ b → (T a).2.1 ≠ (T b).2.1) : Fok ci := by
  intro C' T' N' h'
  cases h.symm.trans h'
  exact ⟨fun w hw => gd_in (h1 w hw) (List.all_eq_true.mp h2 w hw), h3, h4⟩
theorem in_X0 : ∀ w ∈ u_ws RX0 TX0 8, w ∈ lw_tbl := by decide +kernel
theorem fok_0 : Fok 0 := fok_of (C := RX0) (T := TX0) (N := 8) rfl in_X0 (by decide +kernel) tyX0_ok nmX0
theorem in_X1 : ∀ w ∈ u_ws RX1 TX1 4, w ∈ lw_tbl := by decide +kernel
theorem fok_1 : Fok 1 := fok_of (C := RX1) (T := TX1) (N := 4) rfl in_X1 (by decide +kernel) tyX1_ok nmX1
theorem in_X2 : ∀ w ∈ u_ws RX2 TX2 11, w ∈ lw_tbl := by decide +kernel
theorem fok_2 : Fok 2 := fok_of (C := RX2) (T := TX2) (N := 11) rfl in_X2 (by decide +kernel) tyX2_ok nmX2
theorem in_X3 : ∀ w ∈ u_ws RX3 TX3 3, w ∈ lw_tbl := by decide +kernel
theorem fok_3 : Fok 3 := fok_of (C := RX3) (T := TX3) (N := 3) rfl in_X3 (by decide +kernel) tyX3_ok nmX3
theorem in_X4 : ∀ w ∈ u_ws RX4 TX4 5, w ∈ lw_tbl := by decide +kernel
theorem fok_4 : Fok 4 := fok_of (C := RX4) (T := TX4) (N := 5) rfl in_X4 (by decide +kernel) tyX4_ok nmX4
theorem in_X5 : ∀ w ∈ u_ws RX5 TX5 5, w ∈ lw_tbl := by decide +kernel
theorem fok_5 : Fok 5 := fok_of (C := RX5) (T := TX5) (N := 5) rfl in_X5 (by decide +kernel) tyX5_ok nmX5
theorem in_X6 : ∀ w ∈ u_ws RX6 TX6 2, w ∈ lw_tbl := by decide +kernel
theorem fok_6 : Fok 6 := fok_of (C := RX6) (T := TX6) (N := 2) rfl in_X6 (by decide +kernel) tyX6_ok nmX6
theorem in_X7 : ∀ w ∈ u_ws RX7 TX7 17, w ∈ lw_tbl := by decide +kernel
theorem fok_7 : Fok 7 := fok_of (C := RX7) (T := TX7) (N := 17) rfl in_X7 (by decide +kernel) tyX7_ok nmX7
theorem in_X8 : ∀ w ∈ u_ws RX8 TX8 4, w ∈ lw_tbl := by decide +kernel
theorem fok_8 : Fok 8 := fok_of (C := RX8) (T := TX8) (N := 4) rfl in_X8 (by decide +kernel) tyX8_ok nmX8
theorem in_X9 : ∀ w ∈ u_ws RX9 TX9 12, w ∈ lw_tbl := by decide +kernel
theorem fok_9 : Fok 9 := fok_of (C := RX9) (T := TX9) (N := 12) rfl in_X9 (by decide +kernel) tyX9_ok nmX9
theorem in_X10 : ∀ w ∈ u_ws RX10 TX10 57, w ∈ lw_tbl := by decide +kernel
theorem fok_10 : Fok 10 := fok_of (C := RX10) (T := TX10) (N := 57) rfl in_X10 (by decide +kernel) tyX10_ok nmX10
theorem fok_all {ci : Nat} {r : vw_C} (h : vwCl[ci]? = some r) : Fok ci := by
  have hl : ci < 11 := (List.getElem?_eq_some_iff.mp h).1
  rcases (show ci = 0 ∨ ci = 1 ∨ ci = 2 ∨ ci = 3 ∨ ci = 4 ∨ ci = 5 ∨ ci = 6 ∨ ci = 7 ∨ ci = 8 ∨ ci = 9 ∨ ci = 10 by omega) with rfl | rfl | rfl | rfl | rfl | rfl | rfl | rfl | rfl | rfl | rfl
  · exact fok_0
  · exact fok_1
  · exact fok_2
  · exact fok_3
  · exact fok_4
  · exact fok_5
  · exact fok_6
  · exact fok_7
  · exact fok_8
  · exact fok_9
  · exact fok_10
