/-! frames of the ints alone (longs: the host's) -/
def Fq (Q : Nat → Nat → Prop) (M M' : Mm) : Prop := (∀ a k, ¬ Q a k → M'.1 a k = M.1 a k) ∧ ∀ a k, adH a → M'.2 a k = M.2 a k
theorem Fq.rf {Q : Nat → Nat → Prop} {M : Mm} : Fq Q M M := ⟨fun _ _ _ => rfl, fun _ _ _ => rfl⟩
theorem Fq.tr {Q : Nat → Nat → Prop} {M M' M'' : Mm} (h1 : Fq Q M M') (h2 : Fq Q M' M'') : Fq Q M M'' := ⟨fun a k h => (h2.1 a k h).trans (h1.1 a k h), fun a k h => (h2.2 a k h).trans (h1.2 a k h)⟩
theorem Fq.mono {Q R : Nat → Nat → Prop} {M M' : Mm} (h : Fq Q M M') (hq : ∀ a k, Q a k → R a k) : Fq R M M' := ⟨fun a k hk => h.1 a k (fun q => hk (hq a k q)), h.2⟩
theorem Fq.wi {Q : Nat → Nat → Prop} {M M' : Mm} {a k : Nat} {v : Int32} (h : Fq Q M M') (hq : Q a k) : Fq Q M (wi M' a k v) := ⟨fun b j hb => by
  have hne : ¬ (b = a ∧ j = k) := fun e => hb (e.1 ▸ e.2 ▸ hq)
  rw [wi_1, if_neg hne]
  exact h.1 b j hb, fun b j hb => h.2 b j hb⟩
theorem Fq.wl {Q : Nat → Nat → Prop} {M M' : Mm} {a k : Nat} {v : Int64} (h : Fq Q M M') (ha : ¬ adH a) : Fq Q M (wl M' a k v) := ⟨fun b j hb => h.1 b j hb, fun b j hb => by
  have hne : ¬ (b = a ∧ j = k) := fun e => ha (e.1 ▸ hb)
  rw [wl_2, if_neg hne]
  exact h.2 b j hb⟩
theorem Fr.q {P : Nat → Prop} {Q : Nat → Nat → Prop} {M M' : Mm} (h : Fr P M M') (hq : ∀ a k, P a → Q a k) (hp : ∀ a, P a → ¬ adH a) : Fq Q M M' := ⟨fun a k hk => h.at (fun q => hk (hq a k q)) k, fun a k hk => h.at2 (fun q => hp a q hk) k⟩
theorem FrR.q {Q : Nat → Nat → Prop} {o : Nat} {M M' : Mm} (h : FrR o M M') (hq : ∀ k, o ≤ k → k < o + 22 → Q 607 k) : Fq Q M M' := ⟨fun a k hk => by
  by_cases q : a = 607
  · rw [q] at hk ⊢
    by_cases q2 : o ≤ k ∧ k < o + 22
    · exact absurd (hq k q2.1 q2.2) hk
    · exact h.2 k (by omega)
  · exact h.1.at q k, fun a k hk => h.1.at2 (by omega) k⟩
theorem Fp.q {Q : Nat → Nat → Prop} {M M' : Mm} (h : Fp Q M M') (hq : ∀ a k, adH a → ¬ Q a k) : Fq Q M M' := ⟨fun a k hk => (h a k hk).1, fun a k hk => (h a k (hq a k hk)).2⟩
theorem lends_q {B : Mm} {T S : Tw} (hT : RT B T) (hS : RS B 0 T S) (hI : InvT T) : Fq (fun a k => (a = 600 ∧ k = 10) ∨ (a = 607 ∧ 22 ≤ k)) B (w_X8_lends B) := by
  obtain ⟨-, -, -, -, -, l1, l2, l3, l4⟩ := r_lends hT hS hI
  refine ⟨fun a k hq => ?_, fun a k _ => by rw [l4]⟩
  by_cases q : a = 600
  · rw [q]; exact l2 k (by omega)
  · by_cases q2 : a = 607
    · rw [q2]; exact l1 k (by omega)
    · rw [l3 a q q2]
theorem Rel.ofq {M M' : Mm} {n : Nat} {Q : Nat → Nat → Prop} (h : Rel M n) (hn : n < 200) (F : Fq Q M M') (hT : (∀ a k, adT a k → ¬ Q a k) ∨ RelT M' (n + 1)) (hW : (∀ a k, adW a k → ¬ Q a k) ∨ RelW M') (hP : (∀ a k, adP a k → ¬ Q a k) ∨ RelP M') (hA : ∀ a k, adA a k → ¬ Q a k) (hH : ∀ a k, adH a → ¬ Q a k) (hK : ∀ a k, adK a k → ¬ Q a k) (hD : (∀ a k, adD a k → ¬ Q a k) ∨ RelD M') (hC : ∀ a k, adC a → ¬ Q a k) : Rel M' (n + 1) := by
  obtain ⟨t, w, p, a, hh, k, d, c⟩ := h
  refine ⟨?_, ?_, ?_, a.fr (fun x j h => F.1 x j (hA x j h)), hh.fr (fun x j h => F.1 x j (hH x j h)) (fun x j h => F.2 x j h), k.fr (fun x j h => F.1 x j (hK x j h)) (by omega) (by omega), ?_, c.fr (fun x j h => F.1 x j (hC x j h))⟩
  · rcases hT with q | q
    · exact t.fr (fun a k h => F.1 a k (q a k h)) (by omega) (by omega)
    · exact q
  · rcases hW with q | q
    · exact w.fr (fun a k h => F.1 a k (q a k h))
    · exact q
  · rcases hP with q | q
    · exact p.fr (fun a k h => F.1 a k (q a k h))
    · exact q
  · rcases hD with q | q
    · unfold RelD
      rw [F.1 _ _ (q 1020 5 ⟨rfl, rfl⟩)]
      exact d
    · exact q
theorem CT.fq {M M' : Mm} {Q : Nat → Nat → Prop} {b : Nat} {T : Tw} (h : CT M b T) (hI : InvT T) (F : Fq Q M M') (hq : ∀ a k, b ≤ a → a ≤ b + 15 → ¬ Q a k) : CT M' b T := h.fp hI (fun a k h1 h2 => F.1 a k (hq a k h1 h2))
theorem CSt.fq {M M' : Mm} {Q : Nat → Nat → Prop} {s : Nat} {T S : Tw} (h : CSt M s T S) (F : Fq Q M M') (hq : ∀ a k, s ≤ a → a ≤ s + 4 → ¬ Q a k) : CSt M' s T S := h.fp (fun a k h1 h2 => F.1 a k (hq a k h1 h2))
theorem RT.fq {M M' : Mm} {Q : Nat → Nat → Prop} {T : Tw} (h : RT M T) (F : Fq Q M M') (hq : ∀ a k, ((a = 600 ∧ k ≤ 2) ∨ (601 ≤ a ∧ a ≤ 604)) → ¬ Q a k) : RT M' T := h.fp (fun a k h1 => F.1 a k (hq a k h1))
theorem RS.fq {M M' : Mm} {Q : Nat → Nat → Prop} {o : Nat} {T S : Tw} (h : RS M o T S) (hI : InvT T) (F : Fq Q M M') (hq : ∀ k, o ≤ k → k < o + 22 → ¬ Q 607 k) : RS M' o T S := h.fp hI (fun k h1 h2 => F.1 607 k (hq k h1 h2))
theorem RA.fq {M M' : Mm} {Q : Nat → Nat → Prop} {o : Nat} (h : RA M o) (F : Fq Q M M') (hq : ¬ Q 600 10) : RA M' o := ⟨by rw [F.1 _ _ hq]; exact h.1, h.2⟩
