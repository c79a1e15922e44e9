/-! the relation between the class's cells and the reference's -/
def Fp (Q : Nat → Nat → Prop) (M M' : Mm) : Prop := ∀ a k, ¬ Q a k → M'.1 a k = M.1 a k ∧ M'.2 a k = M.2 a k
theorem Fp.rf {Q : Nat → Nat → Prop} {M : Mm} : Fp Q M M := fun _ _ _ => ⟨rfl, rfl⟩
theorem Fp.tr {Q : Nat → Nat → Prop} {M M' M'' : Mm} (h1 : Fp Q M M') (h2 : Fp Q M' M'') : Fp Q M M'' := fun a k h => ⟨(h2 a k h).1.trans (h1 a k h).1, (h2 a k h).2.trans (h1 a k h).2⟩
theorem Fp.mono {Q R : Nat → Nat → Prop} {M M' : Mm} (h : Fp Q M M') (hq : ∀ a k, Q a k → R a k) : Fp R M M' := fun a k hk => h a k (fun q => hk (hq a k q))
theorem Fp.wi {Q : Nat → Nat → Prop} {M M' : Mm} {a k : Nat} {v : Int32} (h : Fp Q M M') (hq : Q a k) : Fp Q M (wi M' a k v) := fun b j hb => by
  have hne : ¬ (b = a ∧ j = k) := fun e => hb (e.1 ▸ e.2 ▸ hq)
  refine ⟨?_, (h b j hb).2⟩
  show (if b = a ∧ j = k then v else M'.1 b j) = M.1 b j
  rw [if_neg hne]
  exact (h b j hb).1
theorem Fp.wl {Q : Nat → Nat → Prop} {M M' : Mm} {a k : Nat} {v : Int64} (h : Fp Q M M') (hq : Q a k) : Fp Q M (wl M' a k v) := fun b j hb => by
  have hne : ¬ (b = a ∧ j = k) := fun e => hb (e.1 ▸ e.2 ▸ hq)
  refine ⟨(h b j hb).1, ?_⟩
  show (if b = a ∧ j = k then v else M'.2 b j) = M.2 b j
  rw [if_neg hne]
  exact (h b j hb).2
theorem Fp.ite {Q : Nat → Nat → Prop} {M A B : Mm} {c : Prop} [Decidable c] (h1 : Fp Q M A) (h2 : Fp Q M B) : Fp Q M (if c then A else B) := by split <;> assumption
theorem Fr.p {P : Nat → Prop} {Q : Nat → Nat → Prop} {M M' : Mm} (h : Fr P M M') (hq : ∀ a k, P a → Q a k) : Fp Q M M' := fun a k hk => ⟨h.at (fun q => hk (hq a k q)) k, h.at2 (fun q => hk (hq a k q)) k⟩
/-- rules -/
def CRu (M : Mm) (b : Nat) (T : Tw) : Prop := M.1 b 3 = iI (T 0 3) ∧ ∀ x : Int, 0 ≤ x → x < T 0 3 → M.1 (b + 5) x.toNat = iI (T 4 x.toNat) ∧ M.1 (b + 6) x.toNat = iI (T 5 x.toNat)
def RRu (M : Mm) (T : Tw) : Prop := M.1 600 12 = iI (T 0 3) ∧ ∀ x : Int, 0 ≤ x → x < T 0 3 → M.1 608 (2 * x.toNat) = iI (T 4 x.toNat) ∧ M.1 608 (2 * x.toNat + 1) = iI (T 5 x.toNat)
def InvR (T : Tw) : Prop := (0 ≤ T 0 3 ∧ T 0 3 ≤ 4) ∧ ∀ x : Int, 0 ≤ x → x < T 0 3 → (1 ≤ T 4 x.toNat ∧ T 4 x.toNat ≤ 5) ∧ (0 ≤ T 5 x.toNat ∧ T 5 x.toNat ≤ 9)
def RelTo (M : Mm) (n : Nat) (T S : Tw) (g : Int) : Prop :=
  (CT M 100 T ∧ CSt M 1000 T S ∧ M.1 1000 5 = iI g ∧ CRu M 100 T) ∧ (RT M T ∧ RS M 0 T S ∧ RA M 0 ∧ M.1 600 11 = iI g ∧ RRu M T) ∧ (InvT T ∧ InvR T ∧ InvS T S (4000 * n) ∧ 0 ≤ g ∧ g ≤ 99 * n)
def RelT (M : Mm) (n : Nat) : Prop := ∃ T S g, RelTo M n T S g
def RelW (M : Mm) : Prop := ∃ rc : Nat, rc ≤ 6 ∧ M.1 1 8 = iI (rc : Int) ∧ M.1 600 42 = iI (rc : Int) ∧ ∀ j, j < 3 * rc → M.1 550 j = M.1 619 j
def RelP (M : Mm) : Prop := ∃ tl : Nat, tl ≤ 240 ∧ M.1 500 1 = iI (tl : Int) ∧ M.1 600 15 = iI (tl : Int) ∧ ∀ j, j < tl → ∃ b : Int, (0 ≤ b ∧ b < 256) ∧ M.1 609 j = iI b ∧ M.1 501 j = iI (if b < 128 then b else b - 256)
def RelA (M : Mm) : Prop := ∃ k : Nat, k ≤ 30 ∧ M.1 520 1 = iI (k : Int) ∧ M.1 600 53 = iI (k : Int) ∧ ∀ j, j < k → M.1 521 j = M.1 626 j
def RelH (M : Mm) : Prop := ∀ k, k < 4 → (∃ so sz : Int, (-1 ≤ so ∧ so ≤ 3) ∧ (0 ≤ sz ∧ sz ≤ 40) ∧ M.1 531 k = iI so ∧ M.1 620 k = iI so ∧ M.1 532 k = iI sz ∧ M.1 621 k = iI sz) ∧ (∀ i, i < 40 → M.2 (534 + k) i = M.2 622 (40 * k + i) ∧ ∃ x : Int32, M.2 (534 + k) i = x.toInt64) ∧
  (∃ ho nu : Int, (0 ≤ ho ∧ ho ≤ 2) ∧ M.1 538 k = iI ho ∧ M.1 623 k = iI (if ho = 2 then -1 else ho) ∧ M.1 539 k = M.1 624 k ∧ M.1 540 k = M.1 625 k ∧ (ho < 2 → M.1 539 k = iI nu ∧ 0 ≤ nu ∧ nu ≤ 3))
/-- the reference's kept row holds T, S, g -/
def KRo (M : Mm) (T S : Tw) (g : Int) : Prop :=
  (M.1 627 0 = iI (T 0 0) ∧ M.1 627 1 = iI (T 0 1) ∧ M.1 627 2 = iI (T 0 2) ∧ M.1 627 3 = iI g ∧ M.1 627 4 = iI (T 0 3)) ∧
  (∀ x : Int, 0 ≤ x → x < T 0 0 → M.1 627 (5 + x.toNat) = iI (T 1 x.toNat)) ∧ (∀ x : Int, 0 ≤ x → x < T 0 1 → M.1 627 (8 + x.toNat) = iI (T 2 x.toNat)) ∧
  (∀ (w f : Nat), (w : Int) < T 0 2 → f < 8 → M.1 627 (14 + (8 * w + f)) = iI (T (10 + w) f)) ∧ (∀ k, k < 4 → M.1 627 (62 + k) = iI (T 3 k)) ∧
  ((∀ x : Int, 0 ≤ x → x < T 0 0 → M.1 627 (66 + x.toNat) = iI (S 0 x.toNat)) ∧ (∀ x : Int, 0 ≤ x → x < T 0 1 → M.1 627 (66 + 3 + x.toNat) = iI (S 1 x.toNat)) ∧ (∀ x : Int, 0 ≤ x → x < T 0 2 → M.1 627 (66 + 9 + x.toNat) = iI (S 2 x.toNat)) ∧ (∀ x : Int, 0 ≤ x → x < T 0 2 → M.1 627 (66 + 15 + x.toNat) = iI (S 3 x.toNat)) ∧ M.1 627 (66 + 21) = iI (S 4 0)) ∧
  (∀ x : Int, 0 ≤ x → x < T 0 3 → M.1 627 (88 + 2 * x.toNat) = iI (T 4 x.toNat) ∧ M.1 627 (88 + (2 * x.toNat + 1)) = iI (T 5 x.toNat))
def RelK (M : Mm) (n : Nat) : Prop := (M.1 1 9 = 0 ∧ M.1 600 55 = 0) ∨ ((M.1 1 9 = 1 ∧ M.1 600 55 = 1) ∧ ∃ T S g, (CT M 200 T ∧ CSt M 1010 T S ∧ M.1 1010 5 = iI g ∧ CRu M 200 T) ∧ KRo M T S g ∧ (InvT T ∧ InvR T ∧ InvS T S (4000 * n) ∧ 0 ≤ g ∧ g ≤ 99 * n))
def RelD (M : Mm) : Prop := M.1 1020 5 = iI 0
def RelC (M : Mm) : Prop := ∀ k, k < 4 → M.1 605 k = om_least k ∧ M.1 606 k = om_most k
def Rel (M : Mm) (n : Nat) : Prop := RelT M n ∧ RelW M ∧ RelP M ∧ RelA M ∧ RelH M ∧ RelK M n ∧ RelD M ∧ RelC M
abbrev adT (a k : Nat) : Prop := (100 ≤ a ∧ a ≤ 115) ∨ (1000 ≤ a ∧ a ≤ 1004) ∨ (a = 600 ∧ (k ≤ 2 ∨ (10 ≤ k ∧ k ≤ 12))) ∨ (601 ≤ a ∧ a ≤ 604) ∨ (a = 607 ∧ k < 22) ∨ a = 608
abbrev adW (a k : Nat) : Prop := (a = 1 ∧ k = 8) ∨ (a = 600 ∧ k = 42) ∨ a = 550 ∨ a = 619
abbrev adP (a k : Nat) : Prop := (a = 500 ∧ k = 1) ∨ (a = 600 ∧ k = 15) ∨ a = 501 ∨ a = 609
abbrev adA (a k : Nat) : Prop := (a = 520 ∧ k = 1) ∨ (a = 600 ∧ k = 53) ∨ a = 521 ∨ a = 626
abbrev adH (a : Nat) : Prop := (531 ≤ a ∧ a ≤ 540) ∨ (620 ≤ a ∧ a ≤ 625)
abbrev adK (a k : Nat) : Prop := (a = 1 ∧ k = 9) ∨ (a = 600 ∧ k = 55) ∨ (200 ≤ a ∧ a ≤ 215) ∨ (1010 ≤ a ∧ a ≤ 1014) ∨ a = 627
abbrev adD (a k : Nat) : Prop := (a = 1020 ∧ k = 5)
abbrev adC (a : Nat) : Prop := a = 605 ∨ a = 606
section RL
variable {M M' : Mm} {n : Nat} {Q : Nat → Nat → Prop} {T S : Tw} {g : Int}
theorem CT.fp {b : Nat} (h : CT M b T) (hI : InvT T) (F : ∀ a k, b ≤ a → a ≤ b + 15 → M'.1 a k = M.1 a k) : CT M' b T := by
  have hc := hI.1
  refine ⟨⟨?_, ?_, ?_⟩, fun x h0 h1 => ?_, fun x h0 h1 => ?_, fun k hk => ?_, fun w f hw hf => ?_⟩
  · rw [F _ _ (by omega) (by omega)]; exact h.1.1
  · rw [F _ _ (by omega) (by omega)]; exact h.1.2.1
  · rw [F _ _ (by omega) (by omega)]; exact h.1.2.2
  · rw [F _ _ (by omega) (by omega)]; exact h.2.1 x h0 h1
  · rw [F _ _ (by omega) (by omega)]; exact h.2.2.1 x h0 h1
  · rw [F _ _ (by omega) (by omega)]; exact h.2.2.2.1 k hk
  · rw [F _ _ (by omega) (by omega)]; exact h.2.2.2.2 w f hw hf
theorem CSt.fp {s : Nat} (h : CSt M s T S) (F : ∀ a k, s ≤ a → a ≤ s + 4 → M'.1 a k = M.1 a k) : CSt M' s T S := by
  refine ⟨fun x h0 h1 => ?_, fun x h0 h1 => ?_, fun x h0 h1 => ?_, fun x h0 h1 => ?_, ?_⟩
  · rw [F _ _ (by omega) (by omega)]; exact h.1 x h0 h1
  · rw [F _ _ (by omega) (by omega)]; exact h.2.1 x h0 h1
  · rw [F _ _ (by omega) (by omega)]; exact h.2.2.1 x h0 h1
  · rw [F _ _ (by omega) (by omega)]; exact h.2.2.2.1 x h0 h1
  · rw [F _ _ (by omega) (by omega)]; exact h.2.2.2.2
theorem CRu.fp {b : Nat} (h : CRu M b T) (F : ∀ a k, b ≤ a → a ≤ b + 15 → M'.1 a k = M.1 a k) : CRu M' b T := by
  refine ⟨?_, fun x h0 h1 => ⟨?_, ?_⟩⟩
  · rw [F _ _ (by omega) (by omega)]; exact h.1
  · rw [F _ _ (by omega) (by omega)]; exact (h.2 x h0 h1).1
  · rw [F _ _ (by omega) (by omega)]; exact (h.2 x h0 h1).2
theorem RT.fp (h : RT M T) (F : ∀ a k, ((a = 600 ∧ k ≤ 2) ∨ (601 ≤ a ∧ a ≤ 604)) → M'.1 a k = M.1 a k) : RT M' T := by
  refine ⟨⟨?_, ?_, ?_⟩, fun x h0 h1 => ?_, fun x h0 h1 => ?_, fun k hk => ?_, fun w f hw hf => ?_⟩
  · rw [F _ _ (by omega)]; exact h.1.1
  · rw [F _ _ (by omega)]; exact h.1.2.1
  · rw [F _ _ (by omega)]; exact h.1.2.2
  · rw [F _ _ (by omega)]; exact h.2.1 x h0 h1
  · rw [F _ _ (by omega)]; exact h.2.2.1 x h0 h1
  · rw [F _ _ (by omega)]; exact h.2.2.2.1 k hk
  · rw [F _ _ (by omega)]; exact h.2.2.2.2 w f hw hf
theorem RS.fp {o : Nat} (h : RS M o T S) (hI : InvT T) (F : ∀ k, o ≤ k → k < o + 22 → M'.1 607 k = M.1 607 k) : RS M' o T S := by
  have hc := hI.1
  refine ⟨fun x h0 h1 => ?_, fun x h0 h1 => ?_, fun x h0 h1 => ?_, fun x h0 h1 => ?_, ?_⟩
  · rw [F _ (by omega) (by omega)]; exact h.1 x h0 h1
  · rw [F _ (by omega) (by omega)]; exact h.2.1 x h0 h1
  · rw [F _ (by omega) (by omega)]; exact h.2.2.1 x h0 h1
  · rw [F _ (by omega) (by omega)]; exact h.2.2.2.1 x h0 h1
  · rw [F _ (by omega) (by omega)]; exact h.2.2.2.2
theorem RRu.fp (h : RRu M T) (F : ∀ a k, ((a = 600 ∧ k = 12) ∨ a = 608) → M'.1 a k = M.1 a k) : RRu M' T := by
  refine ⟨?_, fun x h0 h1 => ⟨?_, ?_⟩⟩
  · rw [F _ _ (by omega)]; exact h.1
  · rw [F _ _ (by omega)]; exact (h.2 x h0 h1).1
  · rw [F _ _ (by omega)]; exact (h.2 x h0 h1).2
theorem InvS.up {m : Nat} (h : InvS T S (4000 * (n : Int))) (hn : n ≤ m) (hm : m ≤ 240) : InvS T S (4000 * (m : Int)) := h.mono (by omega) (by omega)
theorem RelTo.fr (h : RelTo M n T S g) (F : ∀ a k, adT a k → M'.1 a k = M.1 a k) {m : Nat} (hn : n ≤ m) (hm : m ≤ 240) : RelTo M' m T S g := by
  obtain ⟨⟨a1, a2, a3, a4⟩, ⟨b1, b2, b3, b4, b5⟩, c1, c2, c3, c4, c5⟩ := h
  refine ⟨⟨a1.fp c1 (fun a k h1 h2 => F a k (by omega)), a2.fp (fun a k h1 h2 => F a k (by omega)), ?_, a4.fp (fun a k h1 h2 => F a k (by omega))⟩, ⟨b1.fp (fun a k h1 => F a k (by omega)), b2.fp c1 (fun k h1 h2 => F 607 k (by omega)), ⟨?_, b3.2⟩, ?_, b5.fp (fun a k h1 => F a k (by omega))⟩, c1, c2, c3.up hn hm, c4, by omega⟩
  · rw [F _ _ (by omega)]; exact a3
  · rw [F _ _ (by omega)]; exact b3.1
  · rw [F _ _ (by omega)]; exact b4
theorem RelT.fr (h : RelT M n) (F : ∀ a k, adT a k → M'.1 a k = M.1 a k) {m : Nat} (hn : n ≤ m) (hm : m ≤ 240) : RelT M' m := by
  obtain ⟨T, S, g, h⟩ := h
  exact ⟨T, S, g, h.fr F hn hm⟩
theorem RelW.fr (h : RelW M) (F : ∀ a k, adW a k → M'.1 a k = M.1 a k) : RelW M' := by
  obtain ⟨rc, h1, h2, h3, h4⟩ := h
  refine ⟨rc, h1, ?_, ?_, fun j hj => ?_⟩
  · rw [F _ _ (by omega)]; exact h2
  · rw [F _ _ (by omega)]; exact h3
  · rw [F _ _ (by omega), F _ _ (by omega)]; exact h4 j hj
theorem RelP.fr (h : RelP M) (F : ∀ a k, adP a k → M'.1 a k = M.1 a k) : RelP M' := by
  obtain ⟨tl, h1, h2, h3, h4⟩ := h
  refine ⟨tl, h1, ?_, ?_, fun j hj => ?_⟩
  · rw [F _ _ (by omega)]; exact h2
  · rw [F _ _ (by omega)]; exact h3
  · rw [F 609 _ (by omega), F 501 _ (by omega)]; exact h4 j hj
theorem RelA.fr (h : RelA M) (F : ∀ a k, adA a k → M'.1 a k = M.1 a k) : RelA M' := by
  obtain ⟨tl, h1, h2, h3, h4⟩ := h
  refine ⟨tl, h1, ?_, ?_, fun j hj => ?_⟩
  · rw [F _ _ (by omega)]; exact h2
  · rw [F _ _ (by omega)]; exact h3
  · rw [F 521 _ (by omega), F 626 _ (by omega)]; exact h4 j hj
theorem RelH.fr (h : RelH M) (F : ∀ a k, adH a → M'.1 a k = M.1 a k) (F2 : ∀ a k, adH a → M'.2 a k = M.2 a k) : RelH M' := by
  intro k hk
  obtain ⟨⟨so, sz, h1, h2, h3, h4, h5, h6⟩, h7, ⟨ho, nu, i1, i2, i3, i4, i5, i6⟩⟩ := h k hk
  refine ⟨⟨so, sz, h1, h2, ?_, ?_, ?_, ?_⟩, fun i hi => ?_, ⟨ho, nu, i1, ?_, ?_, ?_, ?_, ?_⟩⟩
  · rw [F _ _ (by omega)]; exact h3
  · rw [F _ _ (by omega)]; exact h4
  · rw [F _ _ (by omega)]; exact h5
  · rw [F _ _ (by omega)]; exact h6
  · rw [F2 (534 + k) _ (by omega), F2 622 _ (by omega)]; exact h7 i hi
  · rw [F _ _ (by omega)]; exact i2
  · rw [F _ _ (by omega)]; exact i3
  · rw [F 539 _ (by omega), F 624 _ (by omega)]; exact i4
  · rw [F 540 _ (by omega), F 625 _ (by omega)]; exact i5
  · rw [F 539 _ (by omega)]; exact i6
theorem KRo.fr (h : KRo M T S g) (F : ∀ k, M'.1 627 k = M.1 627 k) : KRo M' T S g := by
  unfold KRo at h ⊢
  simp only [F]
  exact h
theorem RelK.fr (h : RelK M n) (F : ∀ a k, adK a k → M'.1 a k = M.1 a k) {m : Nat} (hn : n ≤ m) (hm : m ≤ 240) : RelK M' m := by
  rcases h with ⟨h1, h2⟩ | ⟨⟨h1, h2⟩, T, S, g, ⟨a1, a2, a3, a4⟩, kr, c1, c2, c3, c4, c5⟩
  · exact Or.inl ⟨by rw [F _ _ (by omega)]; exact h1, by rw [F _ _ (by omega)]; exact h2⟩
  · refine Or.inr ⟨⟨by rw [F _ _ (by omega)]; exact h1, by rw [F _ _ (by omega)]; exact h2⟩, T, S, g, ⟨a1.fp c1 (fun a k h1 h2 => F a k (by omega)), a2.fp (fun a k h1 h2 => F a k (by omega)), by rw [F _ _ (by omega)]; exact a3, a4.fp (fun a k h1 h2 => F a k (by omega))⟩, kr.fr (fun k => F 627 k (by omega)), c1, c2, c3.up hn hm, c4, by omega⟩
theorem RelC.fr (h : RelC M) (F : ∀ a k, adC a → M'.1 a k = M.1 a k) : RelC M' := fun k hk => ⟨by rw [F 605 k (by omega)]; exact (h k hk).1, by rw [F 606 k (by omega)]; exact (h k hk).2⟩
/-- a call: what it leaves alone goes on as it was -/
theorem Rel.of (h : Rel M n) (hn : n < 200) (F : Fp Q M M') (hT : (∀ a k, adT a k → ¬ Q a k) ∨ RelT M' (n + 1)) (hW : (∀ a k, adW a k → ¬ Q a k) ∨ RelW M') (hP : (∀ a k, adP a k → ¬ Q a k) ∨ RelP M') (hA : (∀ a k, adA a k → ¬ Q a k) ∨ RelA M') (hH : (∀ a k, adH a → ¬ Q a k) ∨ RelH M') (hK : (∀ a k, adK a k → ¬ Q a k) ∨ RelK M' (n + 1)) (hD : (∀ a k, adD a k → ¬ Q a k) ∨ RelD M') (hC : ∀ a k, adC a → ¬ Q a k) : Rel M' (n + 1) := by
  obtain ⟨t, w, p, a, hh, k, d, c⟩ := h
  refine ⟨?_, ?_, ?_, ?_, ?_, ?_, ?_, c.fr (fun a k h => (F a k (hC a k h)).1)⟩
  · rcases hT with q | q
    · exact t.fr (fun a k h => (F a k (q a k h)).1) (by omega) (by omega)
    · exact q
  · rcases hW with q | q
    · exact w.fr (fun a k h => (F a k (q a k h)).1)
    · exact q
  · rcases hP with q | q
    · exact p.fr (fun a k h => (F a k (q a k h)).1)
    · exact q
  · rcases hA with q | q
    · exact a.fr (fun a k h => (F a k (q a k h)).1)
    · exact q
  · rcases hH with q | q
    · exact hh.fr (fun a k h => (F a k (q a k h)).1) (fun a k h => (F a k (q a k h)).2)
    · exact q
  · rcases hK with q | q
    · exact k.fr (fun a k h => (F a k (q a k h)).1) (by omega) (by omega)
    · exact q
  · rcases hD with q | q
    · unfold RelD
      rw [(F _ _ (q 1020 5 ⟨rfl, rfl⟩)).1]
      exact d
    · exact q
theorem Rel.up (h : Rel M n) (hn : n < 200) : Rel M (n + 1) := h.of hn (Q := fun _ _ => False) Fp.rf (Or.inl fun _ _ _ h => h) (Or.inl fun _ _ _ h => h) (Or.inl fun _ _ _ h => h) (Or.inl fun _ _ _ h => h) (Or.inl fun _ _ _ h => h) (Or.inl fun _ _ _ h => h) (Or.inl fun _ _ _ h => h) (fun _ _ _ h => h)
end RL
