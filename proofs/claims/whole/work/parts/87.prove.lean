/-! prove -/
theorem best_fold {T S : Tw} {len m : Nat} (hm : ∀ w, m.testBit w = true → S 2 w = 0) : ∀ (L : List (List Nat)) (b : Bt), (∀ l, l ∈ L → gd1 m len l = true) → (0 ≤ b.1 → gd1 m len b.2.1 = true ∧ ∀ i, i < len → okA T S (toF b.2.1) i) → 0 ≤ (L.foldl (fun b l => vis T b l (S, 0, 0) []) b).1 → gd1 m len (L.foldl (fun b l => vis T b l (S, 0, 0) []) b).2.1 = true ∧ ∀ i, i < len → okA T S (toF (L.foldl (fun b l => vis T b l (S, 0, 0) []) b).2.1) i
  | [], _, _, hb => hb
  | l :: L, b, h, hb => best_fold hm L (vis T b l (S, 0, 0) []) (fun x hx => h x (List.mem_cons_of_mem _ hx)) (by
      have hl := h l (List.mem_cons_self ..)
      obtain ⟨g1, g2, g3⟩ := gd1_u hl
      obtain ⟨w1, w2⟩ := vis_r (T := T) (S := S) (b := b) (l := l) (fun i hi => hm _ (g2 i (by omega)).2) (fun i j h1 h2 => g3 i j h1 (by omega)) len 0 (by omega)
      rw [List.drop_zero, List.take_zero, g1] at w1 w2
      by_cases c : ∀ i, 0 ≤ i → i < len → okA T S (toF l) i
      · have e : vis T b l (S, 0, 0) [] = bUp b (xR T S (toF l) len) l := w1 c
        rw [e]
        by_cases d : (xR T S (toF l) len).2.1 ≤ b.1
        · have e1 : (bUp b (xR T S (toF l) len) l).1 = b.1 := if_pos d
          have e2 : (bUp b (xR T S (toF l) len) l).2.1 = b.2.1 := if_pos d
          rw [e1, e2]
          exact hb
        · have e2 : (bUp b (xR T S (toF l) len) l).2.1 = l := if_neg d
          rw [e2]
          exact fun _ => ⟨hl, fun i hi => c i (by omega) hi⟩
      · have e : vis T b l (S, 0, 0) [] = b := w2 c
        rw [e]
        exact hb)
theorem best_ok {T S : Tw} {len : Nat} (hI : InvT T) (hlen : len = aOpn S (T 0 2).toNat) (h : 0 ≤ (dfs T (T 0 2).toNat len b00 (S, 0, 0) []).1) : gd1 (oMask S (T 0 2).toNat) len (dfs T (T 0 2).toNat len b00 (S, 0, 0) []).2.1 = true ∧ ∀ i, i < len → okA T S (toF (dfs T (T 0 2).toNat len b00 (S, 0, 0) []).2.1) i := by
  have hc := hI.1
  have ec : aCnt (oMask S (T 0 2).toNat) 6 = len := by rw [oMask_cnt S _ (by omega)]; exact hlen.symm
  have k4 := lx_gd _ (oMask_lt S (T 0 2).toNat (by omega))
  rw [ec, List.all_eq_true] at k4
  rw [dfs_lx (by omega)] at h ⊢
  exact best_fold (fun w hw => ((oMask_bit S (T 0 2).toNat w).mp hw).2) _ b00 k4 (fun u => absurd u (by decide)) h
def rw3 (T S : Tw) (ord : Nat → Nat) (j : Nat) : Int32 := if j % 3 = 0 then iI ((ord (j / 3) : Nat) : Int) else if j % 3 = 1 then iI (aRun T S ord 0 (j / 3 + 1) 4 0) else iI (aWorth T (aRun T S ord 0 (j / 3)) (ord (j / 3)))
theorem rw3_e (T S : Tw) (ord : Nat → Nat) (k : Nat) : rw3 T S ord (3 * k) = iI ((ord k : Nat) : Int) ∧ rw3 T S ord (3 * k + 1) = iI (aRun T S ord 0 (k + 1) 4 0) ∧ rw3 T S ord (3 * k + 2) = iI (aWorth T (aRun T S ord 0 k) (ord k)) := by
  unfold rw3
  rw [show 3 * k % 3 = 0 by omega, show (3 * k + 1) % 3 = 1 by omega, show (3 * k + 2) % 3 = 2 by omega, show 3 * k / 3 = k by omega, show (3 * k + 1) / 3 = k by omega, show (3 * k + 2) / 3 = k by omega]
  exact ⟨if_pos rfl, by rw [if_neg (by decide), if_pos rfl], by rw [if_neg (by decide), if_neg (by decide)]⟩
section P87
variable {M : Mm} {T S : Tw} {mb : Int} {len n : Nat} {ord : Nat → Nat}
theorem row_w {A : Nat} {D : Mm} {k : Nat} (h : ∀ j, j < 3 * k → D.1 A j = rw3 T S ord j) : ∀ j, j < 3 * (k + 1) → (wi (wi (wi D A (3 * k) (iI ((ord k : Nat) : Int))) A (3 * k + 1) (iI (aRun T S ord 0 (k + 1) 4 0))) A (3 * k + 2) (iI (aWorth T (aRun T S ord 0 k) (ord k)))).1 A j = rw3 T S ord j := fun j hj => by
  obtain ⟨r0, r1, r2⟩ := rw3_e T S ord k
  by_cases q2 : j = 3 * k + 2
  · rw [q2, rd_same, r2]
  · rw [rd_ne (Or.inr q2)]
    by_cases q1 : j = 3 * k + 1
    · rw [q1, rd_same, r1]
    · rw [rd_ne (Or.inr q1)]
      by_cases q0 : j = 3 * k
      · rw [q0, rd_same, r0]
      · rw [rd_ne (Or.inr q0)]
        exact h j (by omega)
theorem c_rows (hT : CT M 100 T) (hS : CSt M 1000 T S) (hI : InvT T) (hJ : InvS T S mb) (hm : mb ≤ 700000) (hlen : len = aOpn S (T 0 2).toNat) (ho : ∀ i, i < len → ((ord i : Nat) : Int) < T 0 2) (hok : ∀ i, i < len → okA T S ord i) (h7 : M.1 510 7 = dOf (fun i => iI ((ord i : Nat) : Int)) len) :
    p_X2_writeBestRows M ∧ r_X2_writeBestRows M = iI (len : Int) ∧ (∀ j, j < 3 * len → (w_X2_writeBestRows M).1 550 j = rw3 T S ord j) ∧ Fq (fun a k => (1030 ≤ a ∧ a ≤ 1034) ∨ a = 550) M (w_X2_writeBestRows M) := by
  have hc := hI.1
  have l6 : len ≤ 6 := by have := aOpn_le S (T 0 2).toNat; omega
  obtain ⟨o1, o2⟩ := c_opn hT hS hI hJ
  rw [← hlen] at o2
  have nl : Int32.toNatClampNeg (iI (len : Int)) = len := natk rfl (by omega)
  obtain ⟨b1, -, -, b4⟩ := c_begin (A := M) (s := 1030) (s1 := 1000) (Or.inr (by omega)) hI hS
  have F0 : Fq (fun a k => (1030 ≤ a ∧ a ≤ 1034) ∨ a = 550) M (w_X3_beginFrom M 1030 1000) := b4.q (fun a k h => by omega) (fun a h => by omega)
  unfold p_X2_writeBestRows r_X2_writeBestRows w_X2_writeBestRows
  rw [o2, nl]
  generalize w_X3_beginFrom M 1030 1000 = M0 at b1 F0 ⊢
  have step : ∀ (k : Nat) (D : Mm), k < len → CSt D 1030 T (aRun T S ord 0 k) → (∀ j, j < 3 * k → D.1 550 j = rw3 T S ord j) → Fq (fun a k => (1030 ≤ a ∧ a ≤ 1034) ∨ a = 550) M D →
      c_X2_writeBestRows_36 (iI (len : Int)) (D, iI (k : Int)) ∧ q_X2_writeBestRows_36 (iI (len : Int)) (D, iI (k : Int)) ∧ ∃ D', s_X2_writeBestRows_36 (iI (len : Int)) (D, iI (k : Int)) = (D', iI ((k + 1 : Nat) : Int)) ∧ CSt D' 1030 T (aRun T S ord 0 (k + 1)) ∧ (∀ j, j < 3 * (k + 1) → D'.1 550 j = rw3 T S ord j) ∧ Fq (fun a k => (1030 ≤ a ∧ a ≤ 1034) ∨ a = 550) M D' := by
    intro k D hk k1 k2 k3
    have kT : CT D 100 T := hT.fq hI k3 (fun a k h1 h2 => by omega)
    have iv := InvS.run hI hJ (by omega) (ord := ord) 0 k (by omega) (fun i hi => ho i (by omega))
    have e7 : D.1 510 7 = dOf (fun i => iI ((ord i : Nat) : Int)) len := by rw [k3.1 _ _ (by omega)]; exact h7
    have ed := dOf_d (f := ord) (n := len) (k := k) l6 hk (fun i hi => by have := ho i hi; omega)
    obtain ⟨n0, n1, n2, v0, v1, v2⟩ := jn3 (j := k) (by omega)
    have g : ¬ iI (len : Int) ≤ iI (k : Int) := by rw [iI_le (by omega) (by omega) (by omega) (by omega)]; omega
    obtain ⟨g5, hg5, -, -⟩ := ex_iI (D.1 1030 5)
    obtain ⟨g6, hg6, -, -⟩ := ex_iI (D.1 1030 6)
    obtain ⟨y1, y2, y3, -, -, y6⟩ := c_carry (s := 1030) (by omega) kT k1 hg5 hg6 hI iv (by omega) (ho k hk) (okA_no (hok k hk))
    unfold c_X2_writeBestRows_36 q_X2_writeBestRows_36 s_X2_writeBestRows_36
    dsimp only
    rw [if_neg g, if_neg g, if_neg g, e7, ed, n0, n1, n2, y2, k1_iI]
    have e4 : (wi (w_X5_carryOut D 1030 (iI ((ord k : Nat) : Int))) 550 (3 * k) (iI ((ord k : Nat) : Int))).1 1030 4 = iI (aRun T S ord 0 (k + 1) 4 0) := by
      rw [rd_ne (Or.inl (by omega))]
      have := y3.2.2.2.2
      show _ = iI (aTurn T (aPre T (aRun T S ord 0 k) 0 k) (ord k) 4 0)
      rw [aPre_z]
      exact this
    rw [e4]
    refine ⟨trivial, ⟨y1, v0, v1, v2, trivial⟩, _, rfl, ?_, row_w (fun j hj => by rw [y6.at (by omega)]; exact k2 j hj), Fq.wi (Fq.wi (Fq.wi (k3.tr (y6.q (fun a k h => by omega) (fun a h => by omega))) (by omega)) (by omega)) (by omega)⟩
    show CSt _ 1030 T (aTurn T (aPre T (aRun T S ord 0 k) 0 k) (ord k))
    rw [aPre_z]
    exact y3.fp (fun a j h1 h2 => by rw [rd_ne (Or.inl (by omega)), rd_ne (Or.inl (by omega)), rd_ne (Or.inl (by omega))])
  have key : ∀ k, k ≤ len → ∃ D, l_X2_writeBestRows_36 (iI (len : Int)) (M0, 0) k = (D, iI (k : Int)) ∧ CSt D 1030 T (aRun T S ord 0 k) ∧ (∀ j, j < 3 * k → D.1 550 j = rw3 T S ord j) ∧ Fq (fun a k => (1030 ≤ a ∧ a ≤ 1034) ∨ a = 550) M D := by
    intro k
    induction k with
    | zero => intro _; exact ⟨M0, rfl, b1, fun j hj => absurd hj (Nat.not_lt_zero j), F0⟩
    | succ k ih =>
      intro hk
      obtain ⟨D, d1, d2, d3, d4⟩ := ih (by omega)
      obtain ⟨-, -, D', g1, g2⟩ := step k D (by omega) d2 d3 d4
      refine ⟨D', ?_, g2⟩
      show s_X2_writeBestRows_36 (iI (len : Int)) (l_X2_writeBestRows_36 (iI (len : Int)) (M0, 0) k) = _
      rw [d1]; exact g1
  obtain ⟨D, d1, d2, d3, d4⟩ := key len (Nat.le_refl _)
  rw [d1]
  dsimp only
  have gE : iI (len : Int) ≤ iI (len : Int) := Int32.le_refl _
  rw [if_pos gE, if_pos gE, if_pos gE]
  refine ⟨⟨o1, fun k hk => ?_, fun k hk => ?_, ?_, trivial⟩, rfl, d3, d4⟩
  · obtain ⟨E, g1, g2, g3, g4⟩ := key k (by omega)
    rw [g1]
    exact (step k E hk g2 g3 g4).1
  · obtain ⟨E, g1, g2, g3, g4⟩ := key k (by omega)
    rw [g1]
    exact (step k E hk g2 g3 g4).2.1
  · unfold c_X2_writeBestRows_36
    dsimp only
    rw [if_pos gE]
    exact fun h => h
end P87
