/-! work -/
def tW (T : Tw) (V : Nat → Int) : Tw := fun a b => if a = 0 ∧ b = 2 then T 0 2 + 1 else if a = 10 + (T 0 2).toNat then V b else T a b
def sW (T S : Tw) : Tw := fun a b => if (a = 2 ∨ a = 3) ∧ b = (T 0 2).toNat then 0 else S a b
theorem tW_0 (T : Tw) (V : Nat → Int) : tW T V 0 2 = T 0 2 + 1 := by unfold tW; rw [if_pos ⟨rfl, rfl⟩]
theorem tW_o {T : Tw} {V : Nat → Int} {a b : Nat} (h1 : a ≠ 0 ∨ b ≠ 2) (h2 : a ≠ 10 + (T 0 2).toNat) : tW T V a b = T a b := by unfold tW; rw [if_neg (by omega), if_neg h2]
theorem tW_w (T : Tw) (V : Nat → Int) (b : Nat) : tW T V (10 + (T 0 2).toNat) b = V b := by unfold tW; rw [if_neg (by omega), if_pos rfl]
theorem sW_o {T S : Tw} {a b : Nat} (h : (a ≠ 2 ∧ a ≠ 3) ∨ b ≠ (T 0 2).toNat) : sW T S a b = S a b := by unfold sW; rw [if_neg (by omega)]
theorem sW_w {T S : Tw} {a : Nat} (h : a = 2 ∨ a = 3) : sW T S a (T 0 2).toNat = 0 := by unfold sW; rw [if_pos ⟨h, rfl⟩]
def VW (T : Tw) (V : Nat → Int) : Prop := (0 ≤ V 0 ∧ V 0 ≤ 5) ∧ (0 ≤ V 1 ∧ V 1 < T 0 0) ∧ (0 ≤ V 2 ∧ V 2 < T 0 1) ∧ (0 ≤ V 3 ∧ V 3 ≤ 9) ∧ (0 ≤ V 4 ∧ V 4 ≤ 999) ∧ (0 ≤ V 5 ∧ V 5 ≤ 99) ∧ (-1 ≤ V 6 ∧ V 6 < T 0 2) ∧ (0 ≤ V 7 ∧ V 7 ≤ 99)
section P48
variable {A A' B B' : Mm} {T S : Tw} {b s : Nat} {V : Nat → Int} {mb : Int}
theorem InvT.addW (hI : InvT T) (hm : T 0 2 < 6) (hV : VW T V) : InvT (tW T V) := by
  obtain ⟨⟨h1, h2, h3⟩, h4, h5, h6, h7⟩ := hI
  have z : ∀ k, k ≠ 2 → tW T V 0 k = T 0 k := fun k hk => tW_o (Or.inr hk) (by omega)
  have e : ∀ i k, 1 ≤ i → i < 10 → tW T V i k = T i k := fun i k a b => tW_o (Or.inl (by omega)) (by omega)
  refine ⟨⟨by rw [z 0 (by omega)]; exact h1, by rw [z 1 (by omega)]; exact h2, by rw [tW_0]; omega⟩, fun x h0 hx => ?_, fun x h0 hx => ?_, by simp only [e 3 _ (by omega) (by omega)]; exact h6, fun w hw => ?_⟩
  · rw [z 0 (by omega)] at hx
    rw [e _ _ (by omega) (by omega)]; exact h4 x h0 hx
  · rw [z 1 (by omega)] at hx
    rw [e _ _ (by omega) (by omega)]; exact h5 x h0 hx
  · rw [tW_0] at hw
    unfold WkI
    rw [z 0 (by omega), z 1 (by omega)]
    by_cases q : w = (T 0 2).toNat
    · rw [q]
      simp only [tW_w]
      obtain ⟨v0, v1, v2, v3, v4, v5, v6, v7⟩ := hV
      exact ⟨v0, v1, v2, v3, v4, v5, ⟨v6.1, by omega⟩, v7⟩
    · simp only [show ∀ f, tW T V (10 + w) f = T (10 + w) f from fun f => tW_o (Or.inl (by omega)) (by omega)]
      exact h7 w (by omega)
theorem InvS.addW (hI : InvT T) (hJ : InvS T S mb) : InvS (tW T V) (sW T S) mb := by
  obtain ⟨j1, j2, j3, j4, j5, j6⟩ := hJ
  have hc := hI.1
  have z : ∀ k, k ≠ 2 → tW T V 0 k = T 0 k := fun k hk => tW_o (Or.inr hk) (by omega)
  refine ⟨fun y h0 h1 => ?_, fun y h0 h1 => ?_, fun y h0 h1 => ?_, fun y h0 h1 => ?_, ?_, j6⟩
  · rw [z 0 (by omega)] at h1
    rw [sW_o (by omega)]; exact j1 y h0 h1
  · rw [z 1 (by omega)] at h1
    rw [sW_o (by omega)]; exact j2 y h0 h1
  · rw [tW_0] at h1
    by_cases q : y.toNat = (T 0 2).toNat
    · rw [q, sW_w (by omega)]; omega
    · rw [sW_o (by omega)]; exact j3 y h0 (by omega)
  · rw [tW_0] at h1
    by_cases q : y.toNat = (T 0 2).toNat
    · rw [q, sW_w (by omega)]; omega
    · rw [sW_o (by omega)]; exact j4 y h0 (by omega)
  · rw [sW_o (by omega)]; exact j5
theorem c_addW (hT : CT A b T) (hS : CSt A s T S) (hI : InvT T) (hm : T 0 2 < 6) (hbs : b + 20 ≤ s) (h1 : ∀ f, f < 8 → A'.1 (b + 10 + (T 0 2).toNat) f = iI (V f)) (h2 : A'.1 (s + 3) (T 0 2).toNat = iI 0) (h3 : A'.1 (s + 4) (T 0 2).toNat = iI 0) (h4 : A'.1 b 2 = iI (T 0 2 + 1)) (F : ∀ a k, (b ≤ a ∧ a ≤ b + 15) ∨ (s ≤ a ∧ a ≤ s + 4) → ¬ (a = b + 10 + (T 0 2).toNat ∨ (a = s + 3 ∧ k = (T 0 2).toNat) ∨ (a = s + 4 ∧ k = (T 0 2).toNat) ∨ (a = b ∧ k = 2)) → A'.1 a k = A.1 a k) : CT A' b (tW T V) ∧ CSt A' s (tW T V) (sW T S) := by
  have hc := hI.1
  have z : ∀ k, k ≠ 2 → tW T V 0 k = T 0 k := fun k hk => tW_o (Or.inr hk) (by omega)
  have e : ∀ i k, 1 ≤ i → i < 10 → tW T V i k = T i k := fun i k a b => tW_o (Or.inl (by omega)) (by omega)
  refine ⟨⟨⟨?_, ?_, ?_⟩, fun x h0 hx => ?_, fun x h0 hx => ?_, fun k hk => ?_, fun w f hw hf => ?_⟩, ⟨fun x h0 hx => ?_, fun x h0 hx => ?_, fun x h0 hx => ?_, fun x h0 hx => ?_, ?_⟩⟩
  · rw [z 0 (by omega), F _ _ (by omega) (by omega)]; exact hT.1.1
  · rw [z 1 (by omega), F _ _ (by omega) (by omega)]; exact hT.1.2.1
  · rw [tW_0]; exact h4
  · rw [z 0 (by omega)] at hx
    rw [e _ _ (by omega) (by omega), F _ _ (by omega) (by omega)]; exact hT.2.1 x h0 hx
  · rw [z 1 (by omega)] at hx
    rw [e _ _ (by omega) (by omega), F _ _ (by omega) (by omega)]; exact hT.2.2.1 x h0 hx
  · rw [e _ _ (by omega) (by omega), F _ _ (by omega) (by omega)]; exact hT.2.2.2.1 k hk
  · rw [tW_0] at hw
    by_cases q : w = (T 0 2).toNat
    · rw [q, tW_w]; exact h1 f hf
    · rw [tW_o (Or.inl (by omega)) (by omega), F _ _ (by omega) (by omega)]; exact hT.2.2.2.2 w f (by omega) hf
  · rw [z 0 (by omega)] at hx
    rw [sW_o (by omega), F _ _ (by omega) (by omega)]; exact hS.1 x h0 hx
  · rw [z 1 (by omega)] at hx
    rw [sW_o (by omega), F _ _ (by omega) (by omega)]; exact hS.2.1 x h0 hx
  · rw [tW_0] at hx
    by_cases q : x.toNat = (T 0 2).toNat
    · rw [q, sW_w (by omega)]; exact h2
    · rw [sW_o (by omega), F _ _ (by omega) (by omega)]; exact hS.2.2.1 x h0 (by omega)
  · rw [tW_0] at hx
    by_cases q : x.toNat = (T 0 2).toNat
    · rw [q, sW_w (by omega)]; exact h3
    · rw [sW_o (by omega), F _ _ (by omega) (by omega)]; exact hS.2.2.2.1 x h0 (by omega)
  · rw [sW_o (by omega), F _ _ (by omega) (by omega)]; exact hS.2.2.2.2
theorem r_addW (hT : RT B T) (hS : RS B 0 T S) (hI : InvT T) (hm : T 0 2 < 6) (h1 : ∀ f, f < 8 → B'.1 603 (8 * (T 0 2).toNat + f) = iI (V f)) (h2 : B'.1 607 (9 + (T 0 2).toNat) = iI 0) (h3 : B'.1 607 (15 + (T 0 2).toNat) = iI 0) (h4 : B'.1 600 2 = iI (T 0 2 + 1)) (F : ∀ a k, 600 ≤ a ∧ a < 700 → ¬ ((a = 603 ∧ 8 * (T 0 2).toNat ≤ k ∧ k < 8 * (T 0 2).toNat + 8) ∨ (a = 607 ∧ k = 9 + (T 0 2).toNat) ∨ (a = 607 ∧ k = 15 + (T 0 2).toNat) ∨ (a = 600 ∧ k = 2)) → B'.1 a k = B.1 a k) : RT B' (tW T V) ∧ RS B' 0 (tW T V) (sW T S) := by
  have hc := hI.1
  have z : ∀ k, k ≠ 2 → tW T V 0 k = T 0 k := fun k hk => tW_o (Or.inr hk) (by omega)
  have e : ∀ i k, 1 ≤ i → i < 10 → tW T V i k = T i k := fun i k a b => tW_o (Or.inl (by omega)) (by omega)
  refine ⟨⟨⟨?_, ?_, ?_⟩, fun x h0 hx => ?_, fun x h0 hx => ?_, fun k hk => ?_, fun w f hw hf => ?_⟩, ⟨fun x h0 hx => ?_, fun x h0 hx => ?_, fun x h0 hx => ?_, fun x h0 hx => ?_, ?_⟩⟩
  · rw [z 0 (by omega), F _ _ (by omega) (by omega)]; exact hT.1.1
  · rw [z 1 (by omega), F _ _ (by omega) (by omega)]; exact hT.1.2.1
  · rw [tW_0]; exact h4
  · rw [z 0 (by omega)] at hx
    rw [e _ _ (by omega) (by omega), F _ _ (by omega) (by omega)]; exact hT.2.1 x h0 hx
  · rw [z 1 (by omega)] at hx
    rw [e _ _ (by omega) (by omega), F _ _ (by omega) (by omega)]; exact hT.2.2.1 x h0 hx
  · rw [e _ _ (by omega) (by omega), F _ _ (by omega) (by omega)]; exact hT.2.2.2.1 k hk
  · rw [tW_0] at hw
    by_cases q : w = (T 0 2).toNat
    · rw [q, tW_w]; exact h1 f hf
    · rw [tW_o (Or.inl (by omega)) (by omega), F _ _ (by omega) (by omega)]; exact hT.2.2.2.2 w f (by omega) hf
  · rw [z 0 (by omega)] at hx
    rw [sW_o (by omega), F _ _ (by omega) (by omega)]; exact hS.1 x h0 hx
  · rw [z 1 (by omega)] at hx
    rw [sW_o (by omega), F _ _ (by omega) (by omega)]; exact hS.2.1 x h0 hx
  · rw [tW_0] at hx
    by_cases q : x.toNat = (T 0 2).toNat
    · rw [q, sW_w (by omega), show 0 + 9 + (T 0 2).toNat = 9 + (T 0 2).toNat by omega]; exact h2
    · rw [sW_o (by omega), F _ _ (by omega) (by omega)]; exact hS.2.2.1 x h0 (by omega)
  · rw [tW_0] at hx
    by_cases q : x.toNat = (T 0 2).toNat
    · rw [q, sW_w (by omega), show 0 + 15 + (T 0 2).toNat = 15 + (T 0 2).toNat by omega]; exact h3
    · rw [sW_o (by omega), F _ _ (by omega) (by omega)]; exact hS.2.2.2.1 x h0 (by omega)
  · rw [sW_o (by omega), F _ _ (by omega) (by omega)]; exact hS.2.2.2.2
end P48
def wV (v0 v1 v2 v3 v4 v5 : Int) : Nat → Int := fun f => if f = 7 then 0 else if f = 6 then -1 else if f = 5 then v5 else if f = 4 then v4 else if f = 3 then v3 else if f = 2 then v2 else if f = 1 then v1 else v0
theorem wr8c (M : Mm) (a : Nat) (v0 v1 v2 v3 v4 v5 : Int) : ∀ f, f < 8 → (wi (wi (wi (wi (wi (wi (wi (wi M a 0 (iI v0)) a 1 (iI v1)) a 2 (iI v2)) a 3 (iI v3)) a 4 (iI v4)) a 5 (iI v5)) a 6 (-1)) a 7 0).1 a f = iI (wV v0 v1 v2 v3 v4 v5 f) := by
  intro f hf
  have hk : f = 0 ∨ f = 1 ∨ f = 2 ∨ f = 3 ∨ f = 4 ∨ f = 5 ∨ f = 6 ∨ f = 7 := by omega
  rcases hk with rfl | rfl | rfl | rfl | rfl | rfl | rfl | rfl
  · rw [rd_ne (Or.inr (by omega)), rd_ne (Or.inr (by omega)), rd_ne (Or.inr (by omega)), rd_ne (Or.inr (by omega)), rd_ne (Or.inr (by omega)), rd_ne (Or.inr (by omega)), rd_ne (Or.inr (by omega)), rd_same]; rfl
  · rw [rd_ne (Or.inr (by omega)), rd_ne (Or.inr (by omega)), rd_ne (Or.inr (by omega)), rd_ne (Or.inr (by omega)), rd_ne (Or.inr (by omega)), rd_ne (Or.inr (by omega)), rd_same]; rfl
  · rw [rd_ne (Or.inr (by omega)), rd_ne (Or.inr (by omega)), rd_ne (Or.inr (by omega)), rd_ne (Or.inr (by omega)), rd_ne (Or.inr (by omega)), rd_same]; rfl
  · rw [rd_ne (Or.inr (by omega)), rd_ne (Or.inr (by omega)), rd_ne (Or.inr (by omega)), rd_ne (Or.inr (by omega)), rd_same]; rfl
  · rw [rd_ne (Or.inr (by omega)), rd_ne (Or.inr (by omega)), rd_ne (Or.inr (by omega)), rd_same]; rfl
  · rw [rd_ne (Or.inr (by omega)), rd_ne (Or.inr (by omega)), rd_same]; rfl
  · rw [rd_ne (Or.inr (by omega)), rd_same]; rfl
  · rw [rd_same]; rfl
theorem wr8r (M : Mm) (a p : Nat) (v0 v1 v2 v3 v4 v5 : Int) : ∀ f, f < 8 → (wi (wi (wi (wi (wi (wi (wi (wi M a (p + 0) (iI v0)) a (p + 1) (iI v1)) a (p + 2) (iI v2)) a (p + 3) (iI v3)) a (p + 4) (iI v4)) a (p + 5) (iI v5)) a (p + 6) (-1)) a (p + 7) 0).1 a (p + f) = iI (wV v0 v1 v2 v3 v4 v5 f) := by
  intro f hf
  have hk : f = 0 ∨ f = 1 ∨ f = 2 ∨ f = 3 ∨ f = 4 ∨ f = 5 ∨ f = 6 ∨ f = 7 := by omega
  rcases hk with rfl | rfl | rfl | rfl | rfl | rfl | rfl | rfl
  · rw [rd_ne (Or.inr (by omega)), rd_ne (Or.inr (by omega)), rd_ne (Or.inr (by omega)), rd_ne (Or.inr (by omega)), rd_ne (Or.inr (by omega)), rd_ne (Or.inr (by omega)), rd_ne (Or.inr (by omega)), rd_same]; rfl
  · rw [rd_ne (Or.inr (by omega)), rd_ne (Or.inr (by omega)), rd_ne (Or.inr (by omega)), rd_ne (Or.inr (by omega)), rd_ne (Or.inr (by omega)), rd_ne (Or.inr (by omega)), rd_same]; rfl
  · rw [rd_ne (Or.inr (by omega)), rd_ne (Or.inr (by omega)), rd_ne (Or.inr (by omega)), rd_ne (Or.inr (by omega)), rd_ne (Or.inr (by omega)), rd_same]; rfl
  · rw [rd_ne (Or.inr (by omega)), rd_ne (Or.inr (by omega)), rd_ne (Or.inr (by omega)), rd_ne (Or.inr (by omega)), rd_same]; rfl
  · rw [rd_ne (Or.inr (by omega)), rd_ne (Or.inr (by omega)), rd_ne (Or.inr (by omega)), rd_same]; rfl
  · rw [rd_ne (Or.inr (by omega)), rd_ne (Or.inr (by omega)), rd_same]; rfl
  · rw [rd_ne (Or.inr (by omega)), rd_same]; rfl
  · rw [rd_same]; rfl
section P48a
variable {M : Mm} {w : Nat} {v0 v1 v2 v3 v4 v5 : Int}
theorem c_addWk (hw : w < 6) (h2 : M.1 100 2 = iI (w : Int)) : p_X5_addWork M (iI v0) (iI v1) (iI v2) (iI v3) (iI v4) (iI v5) ∧ r_X5_addWork M (iI v0) (iI v1) (iI v2) (iI v3) (iI v4) (iI v5) = iI (w : Int) + 1 - 1 ∧
    (∀ f, f < 8 → (w_X5_addWork M (iI v0) (iI v1) (iI v2) (iI v3) (iI v4) (iI v5)).1 (110 + w) f = iI (wV v0 v1 v2 v3 v4 v5 f)) ∧ (w_X5_addWork M (iI v0) (iI v1) (iI v2) (iI v3) (iI v4) (iI v5)).1 1003 w = iI 0 ∧ (w_X5_addWork M (iI v0) (iI v1) (iI v2) (iI v3) (iI v4) (iI v5)).1 1004 w = iI 0 ∧ (w_X5_addWork M (iI v0) (iI v1) (iI v2) (iI v3) (iI v4) (iI v5)).1 100 2 = iI (w : Int) + 1 ∧
    Fp (fun a k => a = 110 + w ∨ (a = 1003 ∧ k = w) ∨ (a = 1004 ∧ k = w) ∨ (a = 100 ∧ k = 2)) M (w_X5_addWork M (iI v0) (iI v1) (iI v2) (iI v3) (iI v4) (iI v5)) := by
  have nw : Int32.toNatClampNeg (iI (w : Int)) = w := natk rfl (by omega)
  unfold p_X5_addWork r_X5_addWork w_X5_addWork
  rw [h2, nw]
  obtain ⟨M8, hM8⟩ : ∃ M8, M8 = wi (wi (wi (wi (wi (wi (wi (wi M (110 + w) 0 (iI v0)) (110 + w) 1 (iI v1)) (110 + w) 2 (iI v2)) (110 + w) 3 (iI v3)) (110 + w) 4 (iI v4)) (110 + w) 5 (iI v5)) (110 + w) 6 (-1)) (110 + w) 7 0 := ⟨_, rfl⟩
  rw [← hM8]
  have F8 : Fp (fun a k => a = 110 + w) M M8 := by
    rw [hM8]
    exact Fp.wi (Fp.wi (Fp.wi (Fp.wi (Fp.wi (Fp.wi (Fp.wi (Fp.wi Fp.rf rfl) rfl) rfl) rfl) rfl) rfl) rfl) rfl
  have e2 : M8.1 100 2 = iI (w : Int) := by rw [(F8 _ _ (by omega)).1]; exact h2
  have fV : ∀ f, f < 8 → M8.1 (110 + w) f = iI (wV v0 v1 v2 v3 v4 v5 f) := by rw [hM8]; exact wr8c M (110 + w) v0 v1 v2 v3 v4 v5
  clear hM8
  rw [e2, nw]
  have w6 : vp_in (iI (w : Int)) 6 := vin_iI (by omega) (by omega) (by omega)
  refine ⟨⟨w6, w6, w6, trivial⟩, rfl, fun f hf => ?_, ?_, ?_, ?_, ?_⟩
  · rw [rd_ne (Or.inl (by omega)), rd_ne (Or.inl (by omega)), rd_ne (Or.inl (by omega))]; exact fV f hf
  · rw [rd_ne (Or.inl (by omega)), rd_ne (Or.inl (by omega)), rd_same]; rfl
  · rw [rd_ne (Or.inl (by omega)), rd_same]; rfl
  · rw [rd_same]
  · exact Fp.wi (Fp.wi (Fp.wi (F8.mono (fun a k h => Or.inl h)) (by omega)) (by omega)) (by omega)
theorem r_addWk (hw : w < 6) (h2 : M.1 600 2 = iI (w : Int)) (q0 : ¬ b2i (0 ≤ iI v0 ∧ iI v0 ≤ 5) = 0) (q1 : ¬ b2i (0 ≤ iI v1 ∧ iI v1 ≤ M.1 600 0 - 1) = 0) (q2 : ¬ b2i (0 ≤ iI v2 ∧ iI v2 ≤ M.1 600 1 - 1) = 0) (q3 : ¬ b2i (0 ≤ iI v3 ∧ iI v3 ≤ 9) = 0) (q4 : ¬ b2i (0 ≤ iI v4 ∧ iI v4 ≤ 999) = 0) (q5 : ¬ b2i (0 ≤ iI v5 ∧ iI v5 ≤ 99) = 0) : p_X8_work M (iI v0) (iI v1) (iI v2) (iI v3) (iI v4) (iI v5) ∧ r_X8_work M (iI v0) (iI v1) (iI v2) (iI v3) (iI v4) (iI v5) = iI (w : Int) + 1 - 1 ∧
    (∀ f, f < 8 → (w_X8_work M (iI v0) (iI v1) (iI v2) (iI v3) (iI v4) (iI v5)).1 603 (8 * w + f) = iI (wV v0 v1 v2 v3 v4 v5 f)) ∧ (w_X8_work M (iI v0) (iI v1) (iI v2) (iI v3) (iI v4) (iI v5)).1 607 (9 + w) = iI 0 ∧ (w_X8_work M (iI v0) (iI v1) (iI v2) (iI v3) (iI v4) (iI v5)).1 607 (15 + w) = iI 0 ∧ (w_X8_work M (iI v0) (iI v1) (iI v2) (iI v3) (iI v4) (iI v5)).1 600 2 = iI (w : Int) + 1 ∧
    Fp (fun a k => (a = 603 ∧ 8 * w ≤ k ∧ k < 8 * w + 8) ∨ (a = 607 ∧ k = 9 + w) ∨ (a = 607 ∧ k = 15 + w) ∨ (a = 600 ∧ k = 2)) M (w_X8_work M (iI v0) (iI v1) (iI v2) (iI v3) (iI v4) (iI v5)) := by
  have p7 : ¬ iI (w : Int) = 6 := by rw [cl6, iI_eq (by omega) (by omega) (by omega) (by omega)]; omega
  have n8 : ∀ f : Nat, f < 8 → Int32.toNatClampNeg (8 * iI (w : Int) + iI (f : Int)) = 8 * w + f := fun f hf => by rw [cl8, iI_mul, iI_add]; exact natk (by omega) (by omega)
  have w8 : ∀ f : Int, 0 ≤ f → f < 8 → vp_in (8 * iI (w : Int) + iI f) 48 := fun f h0 hf => by rw [cl8, iI_mul, iI_add]; exact vin_iI (by omega) (by omega) (by omega)
  have n80 : Int32.toNatClampNeg (8 * iI (w : Int)) = 8 * w + 0 := by rw [cl8, iI_mul]; exact natk (by omega) (by omega)
  have w80 : vp_in (8 * iI (w : Int)) 48 := by rw [cl8, iI_mul]; exact vin_iI (by omega) (by omega) (by omega)
  have n81 : Int32.toNatClampNeg (8 * iI (w : Int) + 1) = 8 * w + 1 := n8 1 (by omega)
  have n82 : Int32.toNatClampNeg (8 * iI (w : Int) + 2) = 8 * w + 2 := n8 2 (by omega)
  have n83 : Int32.toNatClampNeg (8 * iI (w : Int) + 3) = 8 * w + 3 := n8 3 (by omega)
  have n84 : Int32.toNatClampNeg (8 * iI (w : Int) + 4) = 8 * w + 4 := n8 4 (by omega)
  have n85 : Int32.toNatClampNeg (8 * iI (w : Int) + 5) = 8 * w + 5 := n8 5 (by omega)
  have n86 : Int32.toNatClampNeg (8 * iI (w : Int) + 6) = 8 * w + 6 := n8 6 (by omega)
  have n87 : Int32.toNatClampNeg (8 * iI (w : Int) + 7) = 8 * w + 7 := n8 7 (by omega)
  have n9 : Int32.toNatClampNeg (9 + iI (w : Int)) = 9 + w := by rw [cl9, iI_add]; exact natk (by omega) (by omega)
  have n15 : Int32.toNatClampNeg (15 + iI (w : Int)) = 15 + w := by rw [cl15, iI_add]; exact natk (by omega) (by omega)
  have w9 : vp_in (9 + iI (w : Int)) 44 := by rw [cl9, iI_add]; exact vin_iI (by omega) (by omega) (by omega)
  have w15 : vp_in (15 + iI (w : Int)) 44 := by rw [cl15, iI_add]; exact vin_iI (by omega) (by omega) (by omega)
  have hp : p_X8_work M (iI v0) (iI v1) (iI v2) (iI v3) (iI v4) (iI v5) := by
    unfold p_X8_work
    rw [if_neg q0, if_neg q1, if_neg q2, if_neg q3, if_neg q4, if_pos q5, h2, if_pos p7]
    exact ⟨w80, w8 1 (by omega) (by omega), w8 2 (by omega) (by omega), w8 3 (by omega) (by omega), w8 4 (by omega) (by omega), w8 5 (by omega) (by omega), w8 6 (by omega) (by omega), w8 7 (by omega) (by omega), w9, w15, trivial⟩
  have hr : r_X8_work M (iI v0) (iI v1) (iI v2) (iI v3) (iI v4) (iI v5) = iI (w : Int) + 1 - 1 := by
    unfold r_X8_work
    rw [if_neg q0, if_neg q1, if_neg q2, if_neg q3, if_neg q4, if_pos q5, h2, if_pos p7]
  have hwv : w_X8_work M (iI v0) (iI v1) (iI v2) (iI v3) (iI v4) (iI v5) = wi (wi (wi (wi (wi (wi (wi (wi (wi (wi (wi M 603 (8 * w + 0) (iI v0)) 603 (8 * w + 1) (iI v1)) 603 (8 * w + 2) (iI v2)) 603 (8 * w + 3) (iI v3)) 603 (8 * w + 4) (iI v4)) 603 (8 * w + 5) (iI v5)) 603 (8 * w + 6) (-1)) 603 (8 * w + 7) 0) 607 (9 + w) 0) 607 (15 + w) 0) 600 2 (iI (w : Int) + 1) := by
    unfold w_X8_work
    rw [if_neg q0, if_neg q1, if_neg q2, if_neg q3, if_neg q4, if_pos q5, h2, if_pos p7, n80, n81, n82, n83, n84, n85, n86, n87, n9, n15]
  clear q0 q1 q2 q3 q4 q5 n80 n81 n82 n83 n84 n85 n86 n87 n9 n15 w9 w15 w80 n8 w8 p7
  rw [hwv]
  refine ⟨hp, hr, fun f hf => ?_, ?_, ?_, ?_, ?_⟩
  · rw [rd_ne (Or.inl (by omega)), rd_ne (Or.inl (by omega)), rd_ne (Or.inl (by omega))]
    exact wr8r M 603 (8 * w) v0 v1 v2 v3 v4 v5 f hf
  · rw [rd_ne (Or.inl (by omega)), rd_ne (Or.inr (by omega)), rd_same]; rfl
  · rw [rd_ne (Or.inl (by omega)), rd_same]; rfl
  · rw [rd_same]
  · exact Fp.wi (Fp.wi (Fp.wi (Fp.wi (Fp.wi (Fp.wi (Fp.wi (Fp.wi (Fp.wi (Fp.wi (Fp.wi Fp.rf (by omega)) (by omega)) (by omega)) (by omega)) (by omega)) (by omega)) (by omega)) (by omega)) (by omega)) (by omega)) (by omega)
end P48a
