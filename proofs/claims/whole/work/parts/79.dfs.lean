/-! the search: all orders, by depth -/
abbrev Xs : Type := Tw × Int × Int
abbrev Bt : Type := Int × List Nat × Int × Int
def xT (T : Tw) (x : Xs) (w : Nat) : Xs := (aTurn T x.1 w, x.2.1 + aWorth T x.1 w, x.2.2 + aLate T x.1 w)
def bUp (b : Bt) (x : Xs) (o : List Nat) : Bt := (if x.2.1 ≤ b.1 then b.1 else x.2.1, if x.2.1 ≤ b.1 then b.2.1 else o, if b.2.2.1 ≤ x.2.2 then b.2.2.1 else x.2.2, if b.2.2.2 < 0 then x.1 4 0 else if b.2.2.2 ≤ x.1 4 0 then b.2.2.2 else x.1 4 0)
def vis (T : Tw) (b : Bt) : List Nat → Xs → List Nat → Bt
  | [], x, pre => bUp b x pre
  | w :: r, x, pre => if aFree T x.1 w then vis T b r (xT T x w) (pre ++ [w]) else b
def lpN (f : Nat → Bt → Bt) : Nat → Bt → Bt
  | 0, b => b
  | k + 1, b => f k (lpN f k b)
def dfs (T : Tw) (n : Nat) : Nat → Bt → Xs → List Nat → Bt
  | 0, b, x, pre => bUp b x pre
  | k + 1, b, x, pre => lpN (fun w b => if aFree T x.1 w then dfs T n k b (xT T x w) (pre ++ [w]) else b) n b
theorem lpN_e {f g : Nat → Bt → Bt} : ∀ k b, (∀ w, w < k → ∀ b, f w b = g w b) → lpN f k b = lpN g k b
  | 0, _, _ => rfl
  | k + 1, b, h => by
    show f k (lpN f k b) = g k (lpN g k b)
    rw [lpN_e k b (fun w hw => h w (by omega)), h k (by omega)]
theorem lpN_t {f : Nat → Bt → Bt} {n : Nat} : ∀ j b, n ≤ j → (∀ w, n ≤ w → w < j → ∀ b, f w b = b) → lpN f j b = lpN f n b
  | 0, b, h, _ => by rw [show n = 0 by omega]
  | j + 1, b, h, hf => by
    by_cases q : n = j + 1
    · rw [q]
    · show f j (lpN f j b) = _
      rw [hf j (by omega) (by omega)]
      exact lpN_t j b (by omega) (fun w h1 h2 => hf w h1 (by omega))
theorem cat_f (f : Nat → List (List Nat)) (F : Bt → List Nat → Bt) : ∀ k b, (cat f k).foldl F b = lpN (fun w b => (f w).foldl F b) k b
  | 0, _ => rfl
  | k + 1, b => by
    show (cat f k ++ f k).foldl F b = (f k).foldl F (lpN (fun w b => (f w).foldl F b) k b)
    rw [List.foldl_append, cat_f f F k b]
theorem fold_id {α : Type} (b : Bt) : ∀ l : List α, l.foldl (fun b _ => b) b = b
  | [] => rfl
  | _ :: l => fold_id b l
theorem sub_bit : ∀ m, m < 64 → ∀ w, w < 6 → m.testBit w = true → ∀ i, i < 6 → (m - 2 ^ w).testBit i = (m.testBit i && ! decide (i = w)) := by decide +kernel
theorem oMask_turn {T S : Tw} {w n : Nat} (hn : n ≤ 6) (hw : w < n) (h0 : S 2 w = 0) : oMask (aTurn T S w) n = oMask S n - 2 ^ w := by
  have m6 := oMask_lt S n hn
  have t6 := oMask_lt (aTurn T S w) n hn
  have bw := (oMask_bit S n w).mpr ⟨hw, h0⟩
  refine Nat.eq_of_testBit_eq (fun i => ?_)
  by_cases c : i < 6
  · rw [sub_bit _ m6 w (by omega) bw i c]
    obtain ⟨t1, t2⟩ := aTurn_2w T S w i
    have b1 := oMask_bit (aTurn T S w) n i
    have b2 := oMask_bit S n i
    by_cases q : i = w
    · have e1 : (oMask (aTurn T S w) n).testBit i = false := by
        cases hb : (oMask (aTurn T S w) n).testBit i with
        | false => rfl
        | true => exact absurd (b1.mp hb).2 (t1 q)
      rw [e1, decide_eq_true q]
      cases (oMask S n).testBit i <;> rfl
    · rw [t2 q] at b1
      rw [decide_eq_false q]
      cases h1 : (oMask (aTurn T S w) n).testBit i with
      | true => rw [b2.mpr (b1.mp h1)]; rfl
      | false =>
        cases h2 : (oMask S n).testBit i with
        | false => rfl
        | true => rw [b1.mpr (b2.mp h2)] at h1; exact absurd h1 (by decide)
  · have p6 : 64 ≤ 2 ^ i := Nat.le_trans (show 64 ≤ 2 ^ 6 by decide) (Nat.pow_le_pow_right (by decide) (by omega))
    have s6 : oMask S n - 2 ^ w ≤ oMask S n := Nat.sub_le _ _
    rw [Nat.testBit_lt_two_pow (show oMask (aTurn T S w) n < 2 ^ i from Nat.lt_of_lt_of_le t6 p6), Nat.testBit_lt_two_pow (show oMask S n - 2 ^ w < 2 ^ i from Nat.lt_of_le_of_lt s6 (Nat.lt_of_lt_of_le m6 p6))]
theorem dfs_lx {T : Tw} {n : Nat} (hn : n ≤ 6) : ∀ k b x pre, dfs T n k b x pre = (lx k (oMask x.1 n)).foldl (fun b l => vis T b l x pre) b
  | 0, b, x, pre => rfl
  | k + 1, b, x, pre => by
    show lpN (fun w b => if aFree T x.1 w then dfs T n k b (xT T x w) (pre ++ [w]) else b) n b = (cat (fun w => if (oMask x.1 n).testBit w then (lx k (oMask x.1 n - 2 ^ w)).map (List.cons w) else []) 6).foldl (fun b l => vis T b l x pre) b
    rw [cat_f, lpN_t (n := n) 6 b hn ?_]
    · refine lpN_e n b (fun w hw b => ?_)
      show (if aFree T x.1 w then dfs T n k b (xT T x w) (pre ++ [w]) else b) = (if (oMask x.1 n).testBit w then (lx k (oMask x.1 n - 2 ^ w)).map (List.cons w) else []).foldl (fun b l => vis T b l x pre) b
      by_cases c : x.1 2 w = 0
      · rw [if_pos ((oMask_bit x.1 n w).mpr ⟨hw, c⟩), List.foldl_map]
        by_cases d : aFree T x.1 w
        · rw [if_pos d, dfs_lx hn k b (xT T x w) (pre ++ [w])]
          show (lx k (oMask (aTurn T x.1 w) n)).foldl _ b = _
          rw [oMask_turn hn hw c]
          congr 1
          funext b l
          show _ = (if aFree T x.1 w then vis T b l (xT T x w) (pre ++ [w]) else b)
          rw [if_pos d]
        · rw [if_neg d]
          have e : (fun (b : Bt) (l : List Nat) => vis T b (w :: l) x pre) = fun b _ => b := by
            funext b l
            show (if aFree T x.1 w then vis T b l (xT T x w) (pre ++ [w]) else b) = b
            rw [if_neg d]
          rw [e, fold_id]
      · have nb : ¬ (oMask x.1 n).testBit w = true := fun u => c ((oMask_bit x.1 n w).mp u).2
        rw [if_neg nb, if_neg (fun u => c u.1)]
        rfl
    · intro w h1 h2 b
      have nb : ¬ (oMask x.1 n).testBit w = true := fun u => absurd ((oMask_bit x.1 n w).mp u).1 (by omega)
      show (if (oMask x.1 n).testBit w then _ else []).foldl _ b = b
      rw [if_neg nb]
      rfl
/-! one order, as the reference goes through it -/
def xR (T S : Tw) (ord : Nat → Nat) (k : Nat) : Xs := (aRun T S ord 0 k, aSum T S ord 0 k, aBad T S ord 0 k)
theorem aPre_z (T S : Tw) (k : Nat) : aPre T S 0 k = S := by unfold aPre; rw [Nat.zero_testBit, if_neg (by decide)]
theorem xR_s (T S : Tw) (ord : Nat → Nat) (k : Nat) : xR T S ord (k + 1) = xT T (xR T S ord k) (ord k) := by
  show (aTurn T (aPre T (aRun T S ord 0 k) 0 k) (ord k), aSum T S ord 0 k + aWorth T (aPre T (aRun T S ord 0 k) 0 k) (ord k), aBad T S ord 0 k + aLate T (aPre T (aRun T S ord 0 k) 0 k) (ord k)) = _
  rw [aPre_z]
  rfl
theorem okA_fr {T S : Tw} {ord : Nat → Nat} {k : Nat} (h0 : S 2 (ord k) = 0) (hd : ∀ i, i < k → ord i ≠ ord k) : aFree T (aRun T S ord 0 k) (ord k) ↔ okA T S ord k := by
  constructor
  · rintro ⟨-, f2⟩ ⟨u1, u2, u3⟩
    refine f2 ⟨u1, ?_⟩
    rw [(aRun_2 T S ord 0 k _).2 (fun e => ?_)]
    · exact u2
    · rw [(aTold_bit k _).mpr e] at u3
      exact absurd u3 (by decide)
  · intro h
    refine ⟨?_, okA_no h⟩
    rw [(aRun_2 T S ord 0 k _).2 (fun ⟨i, h1, h2⟩ => hd i h1 h2)]
    exact h0
theorem vis_r {T S : Tw} {b : Bt} {l : List Nat} (h0 : ∀ i, i < l.length → S 2 (toF l i) = 0) (hd : ∀ i j, i < j → j < l.length → toF l i ≠ toF l j) : ∀ d k, k + d = l.length →
    ((∀ i, k ≤ i → i < l.length → okA T S (toF l) i) → vis T b (l.drop k) (xR T S (toF l) k) (l.take k) = bUp b (xR T S (toF l) l.length) l) ∧ ((¬ ∀ i, k ≤ i → i < l.length → okA T S (toF l) i) → vis T b (l.drop k) (xR T S (toF l) k) (l.take k) = b)
  | 0, k, hk => by
    have e : k = l.length := by omega
    rw [e, List.drop_length, List.take_length]
    exact ⟨fun _ => rfl, fun h => absurd (fun i h1 h2 => absurd h2 (by omega)) h⟩
  | d + 1, k, hk => by
    have kl : k < l.length := by omega
    obtain ⟨i1, i2⟩ := vis_r (T := T) (b := b) h0 hd d (k + 1) (by omega)
    have ek : l[k] = toF l k := by unfold toF; rw [List.getD_eq_getElem?_getD, List.getElem?_eq_getElem kl]; rfl
    have ed : l.drop k = toF l k :: l.drop (k + 1) := by rw [List.drop_eq_getElem_cons kl, ek]
    have et : l.take (k + 1) = l.take k ++ [toF l k] := by rw [List.take_succ_eq_append_getElem kl, ek]
    rw [ed]
    show ((∀ i, k ≤ i → i < l.length → okA T S (toF l) i) → (if aFree T (aRun T S (toF l) 0 k) (toF l k) then vis T b (l.drop (k + 1)) (xT T (xR T S (toF l) k) (toF l k)) (l.take k ++ [toF l k]) else b) = _) ∧ ((¬ ∀ i, k ≤ i → i < l.length → okA T S (toF l) i) → (if aFree T (aRun T S (toF l) 0 k) (toF l k) then vis T b (l.drop (k + 1)) (xT T (xR T S (toF l) k) (toF l k)) (l.take k ++ [toF l k]) else b) = b)
    rw [← xR_s, ← et]
    have fr := okA_fr (T := T) (S := S) (ord := toF l) (k := k) (h0 k kl) (fun i hi => hd i k hi kl)
    refine ⟨fun h => ?_, fun h => ?_⟩
    · rw [if_pos (fr.mpr (h k (Nat.le_refl _) kl))]
      exact i1 (fun i h1 h2 => h i (by omega) h2)
    · by_cases c : aFree T (aRun T S (toF l) 0 k) (toF l k)
      · rw [if_pos c]
        refine i2 (fun u => h (fun i h1 h2 => ?_))
        by_cases q : i = k
        · rw [q]; exact fr.mp c
        · exact u i (by omega) h2
      · rw [if_neg c]
