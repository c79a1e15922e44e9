def c_X8_isAllowed_4 (M : Mm) (a1 : Int32) (σ : Int32 × Int32) : Prop := if a1 ≤ σ.2 then False else if (M.1 603 (Int32.toNatClampNeg (8 * (M.1 614 (Int32.toNatClampNeg σ.2)) + (6 : Int32)))) < 0 then True else if (b2i (M.1 607 (Int32.toNatClampNeg (M.1 600 10 + 9 + (M.1 603 (Int32.toNatClampNeg (8 * (M.1 614 (Int32.toNatClampNeg σ.2)) + (6 : Int32)))))) = 0)) = 0 then True else if ¬ ((σ.1 >>> ((M.1 603 (Int32.toNatClampNeg (8 * (M.1 614 (Int32.toNatClampNeg σ.2)) + (6 : Int32)))) &&& 31)) &&& 1) = 0 then True else False
theorem ci_X8_isAllowed_4 {M : Mm} {a1 : Int32}  {σ : Int32 × Int32} : c_X8_isAllowed_4 M a1 σ ↔ (if a1 ≤ σ.2 then False else if (M.1 603 (Int32.toNatClampNeg (8 * (M.1 614 (Int32.toNatClampNeg σ.2)) + (6 : Int32)))) < 0 then True else if (b2i (M.1 607 (Int32.toNatClampNeg (M.1 600 10 + 9 + (M.1 603 (Int32.toNatClampNeg (8 * (M.1 614 (Int32.toNatClampNeg σ.2)) + (6 : Int32)))))) = 0)) = 0 then True else if ¬ ((σ.1 >>> ((M.1 603 (Int32.toNatClampNeg (8 * (M.1 614 (Int32.toNatClampNeg σ.2)) + (6 : Int32)))) &&& 31)) &&& 1) = 0 then True else False) := Iff.rfl
noncomputable def s_X8_isAllowed_4 (M : Mm) (a1 : Int32) (σ : Int32 × Int32) : Int32 × Int32 := if a1 ≤ σ.2 then σ else if (M.1 603 (Int32.toNatClampNeg (8 * (M.1 614 (Int32.toNatClampNeg σ.2)) + (6 : Int32)))) < 0 then (σ.1 ||| ((1 : Int32) <<< ((M.1 614 (Int32.toNatClampNeg σ.2)) &&& 31)), σ.2 + 1) else if (b2i (M.1 607 (Int32.toNatClampNeg (M.1 600 10 + 9 + (M.1 603 (Int32.toNatClampNeg (8 * (M.1 614 (Int32.toNatClampNeg σ.2)) + (6 : Int32)))))) = 0)) = 0 then (σ.1 ||| ((1 : Int32) <<< ((M.1 614 (Int32.toNatClampNeg σ.2)) &&& 31)), σ.2 + 1) else if ¬ ((σ.1 >>> ((M.1 603 (Int32.toNatClampNeg (8 * (M.1 614 (Int32.toNatClampNeg σ.2)) + (6 : Int32)))) &&& 31)) &&& 1) = 0 then (σ.1 ||| ((1 : Int32) <<< ((M.1 614 (Int32.toNatClampNeg σ.2)) &&& 31)), σ.2 + 1) else σ
def q_X8_isAllowed_4 (M : Mm) (a1 : Int32) (σ : Int32 × Int32) : Prop := (if a1 ≤ σ.2 then True else (vp_in σ.2 6) ∧ (vp_in (8 * (M.1 614 (Int32.toNatClampNeg σ.2)) + (6 : Int32)) 48) ∧ (if (M.1 603 (Int32.toNatClampNeg (8 * (M.1 614 (Int32.toNatClampNeg σ.2)) + (6 : Int32)))) < 0 then (vp_in σ.2 6) ∧ True else (vp_in (M.1 600 10 + 9 + (M.1 603 (Int32.toNatClampNeg (8 * (M.1 614 (Int32.toNatClampNeg σ.2)) + (6 : Int32))))) 44) ∧ (if (b2i (M.1 607 (Int32.toNatClampNeg (M.1 600 10 + 9 + (M.1 603 (Int32.toNatClampNeg (8 * (M.1 614 (Int32.toNatClampNeg σ.2)) + (6 : Int32)))))) = 0)) = 0 then (vp_in σ.2 6) ∧ True else (if ¬ ((σ.1 >>> ((M.1 603 (Int32.toNatClampNeg (8 * (M.1 614 (Int32.toNatClampNeg σ.2)) + (6 : Int32)))) &&& 31)) &&& 1) = 0 then (vp_in σ.2 6) ∧ True else True))))
noncomputable def l_X8_isAllowed_4 (M : Mm) (a1 : Int32) (σ0 : Int32 × Int32) : Nat → Int32 × Int32 := itN (fun _ σ => s_X8_isAllowed_4 M a1 σ) σ0
theorem ps_X8_isAllowed_4 {d : Nat} {J : Nat → Lc → List Value → Mm → Prop} {M : Mm} {a1 : Int32}  {σ : Int32 × Int32}  (g : Good mX8_isAllowed.1 mX8_isAllowed.2.2.1 mX8_isAllowed.2.2.2.1 (d + 1) J) (hc : c_X8_isAllowed_4 M a1 σ) (hp : q_X8_isAllowed_4 M a1 σ) (k : ∀ (j4 : Option Value), J 4 [some (.ref 600), some (.int a1), some (.int ((s_X8_isAllowed_4 M a1 σ).1)), some (.int ((s_X8_isAllowed_4 M a1 σ).2)), j4] [] M) : ∀ (j4 : Option Value), J 4 [some (.ref 600), some (.int a1), some (.int σ.1), some (.int σ.2), j4] [] M := by
  intro j4
  unfold c_X8_isAllowed_4 at hc
  unfold q_X8_isAllowed_4 at hp
  unfold s_X8_isAllowed_4 at k
  refine j_iload_n g (i := 3) (by decide +kernel) rfl ?_
  refine j_iload_n g (i := 1) (by decide +kernel) rfl ?_
  refine j_icmp_ge g (off := 59) (tgt := 65) (by decide +kernel) (by decide) (fun c6 => ?_) (fun c6 => ?_)
  · (try rw [if_pos (show a1 ≤ σ.2 from c6)] at hc); (rw [if_pos (show a1 ≤ σ.2 from c6)] at hp); (try simp only [if_pos (show a1 ≤ σ.2 from c6)] at k)
    exact hc.elim
  · (try rw [if_neg (show ¬ (a1 ≤ σ.2) from c6)] at hc); (rw [if_neg (show ¬ (a1 ≤ σ.2) from c6)] at hp); (try simp only [if_neg (show ¬ (a1 ≤ σ.2) from c6)] at k)
    refine j_aload_n g (i := 0) (by decide +kernel) rfl ?_
    refine j_aload_n g (i := 0) (by decide +kernel) rfl ?_
    refine j_gA g (b := 614) f8_49 (by decide +kernel) (by decide +kernel) (by decide +kernel) (by decide +kernel) ?_
    refine j_iload_n g (i := 3) (by decide +kernel) rfl ?_
    obtain ⟨h0, hp⟩ := hp
    refine j_ia g 6 (by decide +kernel) (by decide +kernel) (by decide +kernel) h0 ?_
    refine j_bipush g (n := 6) (6) (by decide +kernel) (by decide +kernel) ?_
    obtain ⟨h0, hp⟩ := hp
    refine j_cV2r g v8_249 ⟨rfl, by decide⟩ (by decide +kernel) (by decide +kernel) (Nat.le_of_ble_eq_true rfl) (rnX8_its h0) ?_
    refine j_istore g (i := 4) (by decide +kernel) (by decide) ?_
    dsimp only [stL, clL, hdL]
    refine j_iload g (i := 4) (by decide +kernel) rfl ?_
    refine j_if_lt g (off := 23) (tgt := 48) (by decide +kernel) (by decide) (fun c25 => ?_) (fun c25 => ?_)
    · (try rw [if_pos (show (M.1 603 (Int32.toNatClampNeg (8 * (M.1 614 (Int32.toNatClampNeg σ.2)) + (6 : Int32)))) < 0 from c25)] at hc); (rw [if_pos (show (M.1 603 (Int32.toNatClampNeg (8 * (M.1 614 (Int32.toNatClampNeg σ.2)) + (6 : Int32)))) < 0 from c25)] at hp); (try simp only [if_pos (show (M.1 603 (Int32.toNatClampNeg (8 * (M.1 614 (Int32.toNatClampNeg σ.2)) + (6 : Int32)))) < 0 from c25)] at k)
      refine j_iload_n g (i := 2) (by decide +kernel) rfl ?_
      refine j_iconst g (n := 1) (1) (by decide +kernel) rfl ?_
      refine j_aload_n g (i := 0) (by decide +kernel) rfl ?_
      refine j_gA g (b := 614) f8_49 (by decide +kernel) (by decide +kernel) (by decide +kernel) (by decide +kernel) ?_
      refine j_iload_n g (i := 3) (by decide +kernel) rfl ?_
      obtain ⟨h0, hp⟩ := hp
      refine j_ia g 6 (by decide +kernel) (by decide +kernel) (by decide +kernel) h0 ?_
      refine j_ishl g (by decide +kernel) ?_
      refine j_ior g (by decide +kernel) ?_
      refine j_istore_n g (i := 2) (by decide +kernel) (by decide) ?_
      dsimp only [stL, clL, hdL]
      refine j_iinc g (i := 3) (n := 1) (1) (by decide +kernel) rfl (by decide) rfl ?_
      dsimp only [stL, clL, hdL]
      refine j_goto g (off := -58) (tgt := 4) (by decide +kernel) (by decide) ?_
      exact k _
    · (try rw [if_neg (show ¬ ((M.1 603 (Int32.toNatClampNeg (8 * (M.1 614 (Int32.toNatClampNeg σ.2)) + (6 : Int32)))) < 0) from c25)] at hc); (rw [if_neg (show ¬ ((M.1 603 (Int32.toNatClampNeg (8 * (M.1 614 (Int32.toNatClampNeg σ.2)) + (6 : Int32)))) < 0) from c25)] at hp); (try simp only [if_neg (show ¬ ((M.1 603 (Int32.toNatClampNeg (8 * (M.1 614 (Int32.toNatClampNeg σ.2)) + (6 : Int32)))) < 0) from c25)] at k)
      refine j_aload_n g (i := 0) (by decide +kernel) rfl ?_
      refine j_iload g (i := 4) (by decide +kernel) rfl ?_
      obtain ⟨h0, hp⟩ := hp
      refine j_cV1r g v8_246 ⟨rfl, by decide⟩ (by decide +kernel) (by decide +kernel) (Nat.le_of_ble_eq_true rfl) (rnX8_isOpen h0) ?_
      refine j_if_eq g (off := 14) (tgt := 48) (by decide +kernel) (by decide) (fun c34 => ?_) (fun c34 => ?_)
      · (try rw [if_pos (show (b2i (M.1 607 (Int32.toNatClampNeg (M.1 600 10 + 9 + (M.1 603 (Int32.toNatClampNeg (8 * (M.1 614 (Int32.toNatClampNeg σ.2)) + (6 : Int32)))))) = 0)) = 0 from c34)] at hc); (rw [if_pos (show (b2i (M.1 607 (Int32.toNatClampNeg (M.1 600 10 + 9 + (M.1 603 (Int32.toNatClampNeg (8 * (M.1 614 (Int32.toNatClampNeg σ.2)) + (6 : Int32)))))) = 0)) = 0 from c34)] at hp); (try simp only [if_pos (show (b2i (M.1 607 (Int32.toNatClampNeg (M.1 600 10 + 9 + (M.1 603 (Int32.toNatClampNeg (8 * (M.1 614 (Int32.toNatClampNeg σ.2)) + (6 : Int32)))))) = 0)) = 0 from c34)] at k)
        refine j_iload_n g (i := 2) (by decide +kernel) rfl ?_
        refine j_iconst g (n := 1) (1) (by decide +kernel) rfl ?_
        refine j_aload_n g (i := 0) (by decide +kernel) rfl ?_
        refine j_gA g (b := 614) f8_49 (by decide +kernel) (by decide +kernel) (by decide +kernel) (by decide +kernel) ?_
        refine j_iload_n g (i := 3) (by decide +kernel) rfl ?_
        obtain ⟨h0, hp⟩ := hp
        refine j_ia g 6 (by decide +kernel) (by decide +kernel) (by decide +kernel) h0 ?_
        refine j_ishl g (by decide +kernel) ?_
        refine j_ior g (by decide +kernel) ?_
        refine j_istore_n g (i := 2) (by decide +kernel) (by decide) ?_
        dsimp only [stL, clL, hdL]
        refine j_iinc g (i := 3) (n := 1) (1) (by decide +kernel) rfl (by decide) rfl ?_
        dsimp only [stL, clL, hdL]
        refine j_goto g (off := -58) (tgt := 4) (by decide +kernel) (by decide) ?_
        exact k _
      · (try rw [if_neg (show ¬ ((b2i (M.1 607 (Int32.toNatClampNeg (M.1 600 10 + 9 + (M.1 603 (Int32.toNatClampNeg (8 * (M.1 614 (Int32.toNatClampNeg σ.2)) + (6 : Int32)))))) = 0)) = 0) from c34)] at hc); (rw [if_neg (show ¬ ((b2i (M.1 607 (Int32.toNatClampNeg (M.1 600 10 + 9 + (M.1 603 (Int32.toNatClampNeg (8 * (M.1 614 (Int32.toNatClampNeg σ.2)) + (6 : Int32)))))) = 0)) = 0) from c34)] at hp); (try simp only [if_neg (show ¬ ((b2i (M.1 607 (Int32.toNatClampNeg (M.1 600 10 + 9 + (M.1 603 (Int32.toNatClampNeg (8 * (M.1 614 (Int32.toNatClampNeg σ.2)) + (6 : Int32)))))) = 0)) = 0) from c34)] at k)
        refine j_iload_n g (i := 2) (by decide +kernel) rfl ?_
        refine j_iload g (i := 4) (by decide +kernel) rfl ?_
        refine j_ishr g (by decide +kernel) ?_
        refine j_iconst g (n := 1) (1) (by decide +kernel) rfl ?_
        refine j_iand g (by decide +kernel) ?_
        refine j_if_ne g (off := 5) (tgt := 48) (by decide +kernel) (by decide) (fun c43 => ?_) (fun c43 => ?_)
        · (try rw [if_pos (show ¬ ((σ.1 >>> ((M.1 603 (Int32.toNatClampNeg (8 * (M.1 614 (Int32.toNatClampNeg σ.2)) + (6 : Int32)))) &&& 31)) &&& 1) = 0 from c43)] at hc); (rw [if_pos (show ¬ ((σ.1 >>> ((M.1 603 (Int32.toNatClampNeg (8 * (M.1 614 (Int32.toNatClampNeg σ.2)) + (6 : Int32)))) &&& 31)) &&& 1) = 0 from c43)] at hp); (try simp only [if_pos (show ¬ ((σ.1 >>> ((M.1 603 (Int32.toNatClampNeg (8 * (M.1 614 (Int32.toNatClampNeg σ.2)) + (6 : Int32)))) &&& 31)) &&& 1) = 0 from c43)] at k)
          refine j_iload_n g (i := 2) (by decide +kernel) rfl ?_
          refine j_iconst g (n := 1) (1) (by decide +kernel) rfl ?_
          refine j_aload_n g (i := 0) (by decide +kernel) rfl ?_
          refine j_gA g (b := 614) f8_49 (by decide +kernel) (by decide +kernel) (by decide +kernel) (by decide +kernel) ?_
          refine j_iload_n g (i := 3) (by decide +kernel) rfl ?_
          obtain ⟨h0, hp⟩ := hp
          refine j_ia g 6 (by decide +kernel) (by decide +kernel) (by decide +kernel) h0 ?_
          refine j_ishl g (by decide +kernel) ?_
          refine j_ior g (by decide +kernel) ?_
          refine j_istore_n g (i := 2) (by decide +kernel) (by decide) ?_
          dsimp only [stL, clL, hdL]
          refine j_iinc g (i := 3) (n := 1) (1) (by decide +kernel) rfl (by decide) rfl ?_
          dsimp only [stL, clL, hdL]
          refine j_goto g (off := -58) (tgt := 4) (by decide +kernel) (by decide) ?_
          exact k _
        · (try rw [if_neg (show ¬ (¬ ((σ.1 >>> ((M.1 603 (Int32.toNatClampNeg (8 * (M.1 614 (Int32.toNatClampNeg σ.2)) + (6 : Int32)))) &&& 31)) &&& 1) = 0) from c43)] at hc); (rw [if_neg (show ¬ (¬ ((σ.1 >>> ((M.1 603 (Int32.toNatClampNeg (8 * (M.1 614 (Int32.toNatClampNeg σ.2)) + (6 : Int32)))) &&& 31)) &&& 1) = 0) from c43)] at hp); (try simp only [if_neg (show ¬ (¬ ((σ.1 >>> ((M.1 603 (Int32.toNatClampNeg (8 * (M.1 614 (Int32.toNatClampNeg σ.2)) + (6 : Int32)))) &&& 31)) &&& 1) = 0) from c43)] at k)
          exact hc.elim
theorem sh_X8_isAllowed_4 {d : Nat} {J : Nat → Lc → List Value → Mm → Prop} {M : Mm} {a1 : Int32}  {σ0 : Int32 × Int32}  (g : Good mX8_isAllowed.1 mX8_isAllowed.2.2.1 mX8_isAllowed.2.2.2.1 (d + 1) J) : ∀ (N : Nat), (∀ k, k < N → c_X8_isAllowed_4 M a1 (l_X8_isAllowed_4 M a1 σ0 k)) → (∀ k, k < N → q_X8_isAllowed_4 M a1 (l_X8_isAllowed_4 M a1 σ0 k)) → (∀ (j4 : Option Value), J 4 [some (.ref 600), some (.int a1), some (.int ((l_X8_isAllowed_4 M a1 σ0 N).1)), some (.int ((l_X8_isAllowed_4 M a1 σ0 N).2)), j4] [] M) → ∀ (j4 : Option Value), J 4 [some (.ref 600), some (.int a1), some (.int σ0.1), some (.int σ0.2), j4] [] M
  | 0, _, _, k => k
  | N + 1, hc, hp, k => sh_X8_isAllowed_4  g N (fun i hi => hc i (Nat.lt_succ_of_lt hi)) (fun i hi => hp i (Nat.lt_succ_of_lt hi)) (ps_X8_isAllowed_4  g (hc N (Nat.lt_succ_self N)) (hp N (Nat.lt_succ_self N)) k)
noncomputable def r_X8_isAllowed (M : Mm) (a1 : Int32) : Int32 := if a1 ≤ ((l_X8_isAllowed_4 M a1 (0, 0) (cntN (fun k => c_X8_isAllowed_4 M a1 (l_X8_isAllowed_4 M a1 (0, 0) k)) 7)).2) then 1 else 0
def p_X8_isAllowed (M : Mm) (a1 : Int32) : Prop := (∀ k, k < (cntN (fun k => c_X8_isAllowed_4 M a1 (l_X8_isAllowed_4 M a1 (0, 0) k)) 7) → c_X8_isAllowed_4 M a1 (l_X8_isAllowed_4 M a1 (0, 0) k)) ∧ (∀ k, k < (cntN (fun k => c_X8_isAllowed_4 M a1 (l_X8_isAllowed_4 M a1 (0, 0) k)) 7) → q_X8_isAllowed_4 M a1 (l_X8_isAllowed_4 M a1 (0, 0) k)) ∧ (¬ c_X8_isAllowed_4 M a1 (l_X8_isAllowed_4 M a1 (0, 0) (cntN (fun k => c_X8_isAllowed_4 M a1 (l_X8_isAllowed_4 M a1 (0, 0) k)) 7))) ∧ (if a1 ≤ ((l_X8_isAllowed_4 M a1 (0, 0) (cntN (fun k => c_X8_isAllowed_4 M a1 (l_X8_isAllowed_4 M a1 (0, 0) k)) 7)).2) then True else (vp_in ((l_X8_isAllowed_4 M a1 (0, 0) (cntN (fun k => c_X8_isAllowed_4 M a1 (l_X8_isAllowed_4 M a1 (0, 0) k)) 7)).2) 6) ∧ (vp_in (8 * (M.1 614 (Int32.toNatClampNeg ((l_X8_isAllowed_4 M a1 (0, 0) (cntN (fun k => c_X8_isAllowed_4 M a1 (l_X8_isAllowed_4 M a1 (0, 0) k)) 7)).2))) + (6 : Int32)) 48) ∧ (if (M.1 603 (Int32.toNatClampNeg (8 * (M.1 614 (Int32.toNatClampNeg ((l_X8_isAllowed_4 M a1 (0, 0) (cntN (fun k => c_X8_isAllowed_4 M a1 (l_X8_isAllowed_4 M a1 (0, 0) k)) 7)).2))) + (6 : Int32)))) < 0 then (vp_in ((l_X8_isAllowed_4 M a1 (0, 0) (cntN (fun k => c_X8_isAllowed_4 M a1 (l_X8_isAllowed_4 M a1 (0, 0) k)) 7)).2) 6) ∧ True else (vp_in (M.1 600 10 + 9 + (M.1 603 (Int32.toNatClampNeg (8 * (M.1 614 (Int32.toNatClampNeg ((l_X8_isAllowed_4 M a1 (0, 0) (cntN (fun k => c_X8_isAllowed_4 M a1 (l_X8_isAllowed_4 M a1 (0, 0) k)) 7)).2))) + (6 : Int32))))) 44) ∧ (if (b2i (M.1 607 (Int32.toNatClampNeg (M.1 600 10 + 9 + (M.1 603 (Int32.toNatClampNeg (8 * (M.1 614 (Int32.toNatClampNeg ((l_X8_isAllowed_4 M a1 (0, 0) (cntN (fun k => c_X8_isAllowed_4 M a1 (l_X8_isAllowed_4 M a1 (0, 0) k)) 7)).2))) + (6 : Int32)))))) = 0)) = 0 then (vp_in ((l_X8_isAllowed_4 M a1 (0, 0) (cntN (fun k => c_X8_isAllowed_4 M a1 (l_X8_isAllowed_4 M a1 (0, 0) k)) 7)).2) 6) ∧ True else (if ¬ ((((l_X8_isAllowed_4 M a1 (0, 0) (cntN (fun k => c_X8_isAllowed_4 M a1 (l_X8_isAllowed_4 M a1 (0, 0) k)) 7)).1) >>> ((M.1 603 (Int32.toNatClampNeg (8 * (M.1 614 (Int32.toNatClampNeg ((l_X8_isAllowed_4 M a1 (0, 0) (cntN (fun k => c_X8_isAllowed_4 M a1 (l_X8_isAllowed_4 M a1 (0, 0) k)) 7)).2))) + (6 : Int32)))) &&& 31)) &&& 1) = 0 then (vp_in ((l_X8_isAllowed_4 M a1 (0, 0) (cntN (fun k => c_X8_isAllowed_4 M a1 (l_X8_isAllowed_4 M a1 (0, 0) k)) 7)).2) 6) ∧ True else True))))
theorem rnX8_isAllowed {d : Nat} {M : Mm} {a1 : Int32}  (hp : p_X8_isAllowed M a1) : Rn (d + 1) mX8_isAllowed [.ref 600, .int a1] M (some (.int (r_X8_isAllowed M a1))) M := by
  refine Rn.of [some (.ref 600), some (.int a1), none, none, none] (by decide +kernel) rfl (Nat.le_of_ble_eq_true rfl) rfl (fun J g hr => ?_)
  unfold p_X8_isAllowed at hp
  refine j_iconst g (n := 0) (0) (by decide +kernel) rfl ?_
  refine j_istore_n g (i := 2) (by decide +kernel) (by decide) ?_
  dsimp only [stL, clL, hdL]
  refine j_iconst g (n := 0) (0) (by decide +kernel) rfl ?_
  refine j_istore_n g (i := 3) (by decide +kernel) (by decide) ?_
  dsimp only [stL, clL, hdL]
  obtain ⟨h0, hp⟩ := hp
  have hc_4_1 := h0
  obtain ⟨h0, hp⟩ := hp
  have hq_4_1 := h0
  obtain ⟨h0, hp⟩ := hp
  have hx_4_1 := h0
  refine sh_X8_isAllowed_4   g (σ0 := (0, 0)) (cntN (fun k => c_X8_isAllowed_4 M a1 (l_X8_isAllowed_4 M a1 (0, 0) k)) 7) hc_4_1 hq_4_1 ?_ _
  intro j4_1
  refine j_iload_n g (i := 3) (by decide +kernel) rfl ?_
  refine j_iload_n g (i := 1) (by decide +kernel) rfl ?_
  refine j_icmp_ge g (off := 59) (tgt := 65) (by decide +kernel) (by decide) (fun c6 => ?_) (fun c6 => ?_)
  · rw [if_pos (show a1 ≤ ((l_X8_isAllowed_4 M a1 (0, 0) (cntN (fun k => c_X8_isAllowed_4 M a1 (l_X8_isAllowed_4 M a1 (0, 0) k)) 7)).2) from c6)] at hp
    refine j_iconst g (n := 1) (1) (by decide +kernel) rfl ?_
    refine hr.1 _ _ _ _ (by decide +kernel) ⟨_, rfl, by first | rfl | exact b2i_nar | decide +kernel⟩ ?_ ?_
    · unfold r_X8_isAllowed; first | (simp only [if_pos (show a1 ≤ ((l_X8_isAllowed_4 M a1 (0, 0) (cntN (fun k => c_X8_isAllowed_4 M a1 (l_X8_isAllowed_4 M a1 (0, 0) k)) 7)).2) from c6)]; done) | (simp only [if_pos (show a1 ≤ ((l_X8_isAllowed_4 M a1 (0, 0) (cntN (fun k => c_X8_isAllowed_4 M a1 (l_X8_isAllowed_4 M a1 (0, 0) k)) 7)).2) from c6)]; rfl) | rfl
    · rfl
  · rw [if_neg (show ¬ (a1 ≤ ((l_X8_isAllowed_4 M a1 (0, 0) (cntN (fun k => c_X8_isAllowed_4 M a1 (l_X8_isAllowed_4 M a1 (0, 0) k)) 7)).2)) from c6)] at hp
    refine j_aload_n g (i := 0) (by decide +kernel) rfl ?_
    refine j_aload_n g (i := 0) (by decide +kernel) rfl ?_
    refine j_gA g (b := 614) f8_49 (by decide +kernel) (by decide +kernel) (by decide +kernel) (by decide +kernel) ?_
    refine j_iload_n g (i := 3) (by decide +kernel) rfl ?_
    obtain ⟨h0, hp⟩ := hp
    refine j_ia g 6 (by decide +kernel) (by decide +kernel) (by decide +kernel) h0 ?_
    refine j_bipush g (n := 6) (6) (by decide +kernel) (by decide +kernel) ?_
    obtain ⟨h0, hp⟩ := hp
    refine j_cV2r g v8_249 ⟨rfl, by decide⟩ (by decide +kernel) (by decide +kernel) (Nat.le_of_ble_eq_true rfl) (rnX8_its h0) ?_
    refine j_istore g (i := 4) (by decide +kernel) (by decide) ?_
    dsimp only [stL, clL, hdL]
    refine j_iload g (i := 4) (by decide +kernel) rfl ?_
    refine j_if_lt g (off := 23) (tgt := 48) (by decide +kernel) (by decide) (fun c25 => ?_) (fun c25 => ?_)
    · rw [if_pos (show (M.1 603 (Int32.toNatClampNeg (8 * (M.1 614 (Int32.toNatClampNeg ((l_X8_isAllowed_4 M a1 (0, 0) (cntN (fun k => c_X8_isAllowed_4 M a1 (l_X8_isAllowed_4 M a1 (0, 0) k)) 7)).2))) + (6 : Int32)))) < 0 from c25)] at hp
      refine j_iload_n g (i := 2) (by decide +kernel) rfl ?_
      refine j_iconst g (n := 1) (1) (by decide +kernel) rfl ?_
      refine j_aload_n g (i := 0) (by decide +kernel) rfl ?_
      refine j_gA g (b := 614) f8_49 (by decide +kernel) (by decide +kernel) (by decide +kernel) (by decide +kernel) ?_
      refine j_iload_n g (i := 3) (by decide +kernel) rfl ?_
      obtain ⟨h0, hp⟩ := hp
      refine j_ia g 6 (by decide +kernel) (by decide +kernel) (by decide +kernel) h0 ?_
      refine j_ishl g (by decide +kernel) ?_
      refine j_ior g (by decide +kernel) ?_
      refine j_istore_n g (i := 2) (by decide +kernel) (by decide) ?_
      dsimp only [stL, clL, hdL]
      refine j_iinc g (i := 3) (n := 1) (1) (by decide +kernel) rfl (by decide) rfl ?_
      dsimp only [stL, clL, hdL]
      refine j_goto g (off := -58) (tgt := 4) (by decide +kernel) (by decide) ?_
      refine absurd (ci_X8_isAllowed_4.mpr ?_) hx_4_1
      simp only [if_neg (show ¬ (a1 ≤ ((l_X8_isAllowed_4 M a1 (0, 0) (cntN (fun k => c_X8_isAllowed_4 M a1 (l_X8_isAllowed_4 M a1 (0, 0) k)) 7)).2)) from c6), if_pos (show (M.1 603 (Int32.toNatClampNeg (8 * (M.1 614 (Int32.toNatClampNeg ((l_X8_isAllowed_4 M a1 (0, 0) (cntN (fun k => c_X8_isAllowed_4 M a1 (l_X8_isAllowed_4 M a1 (0, 0) k)) 7)).2))) + (6 : Int32)))) < 0 from c25)]
    · rw [if_neg (show ¬ ((M.1 603 (Int32.toNatClampNeg (8 * (M.1 614 (Int32.toNatClampNeg ((l_X8_isAllowed_4 M a1 (0, 0) (cntN (fun k => c_X8_isAllowed_4 M a1 (l_X8_isAllowed_4 M a1 (0, 0) k)) 7)).2))) + (6 : Int32)))) < 0) from c25)] at hp
      refine j_aload_n g (i := 0) (by decide +kernel) rfl ?_
      refine j_iload g (i := 4) (by decide +kernel) rfl ?_
      obtain ⟨h0, hp⟩ := hp
      refine j_cV1r g v8_246 ⟨rfl, by decide⟩ (by decide +kernel) (by decide +kernel) (Nat.le_of_ble_eq_true rfl) (rnX8_isOpen h0) ?_
      refine j_if_eq g (off := 14) (tgt := 48) (by decide +kernel) (by decide) (fun c34 => ?_) (fun c34 => ?_)
      · rw [if_pos (show (b2i (M.1 607 (Int32.toNatClampNeg (M.1 600 10 + 9 + (M.1 603 (Int32.toNatClampNeg (8 * (M.1 614 (Int32.toNatClampNeg ((l_X8_isAllowed_4 M a1 (0, 0) (cntN (fun k => c_X8_isAllowed_4 M a1 (l_X8_isAllowed_4 M a1 (0, 0) k)) 7)).2))) + (6 : Int32)))))) = 0)) = 0 from c34)] at hp
        refine j_iload_n g (i := 2) (by decide +kernel) rfl ?_
        refine j_iconst g (n := 1) (1) (by decide +kernel) rfl ?_
        refine j_aload_n g (i := 0) (by decide +kernel) rfl ?_
        refine j_gA g (b := 614) f8_49 (by decide +kernel) (by decide +kernel) (by decide +kernel) (by decide +kernel) ?_
        refine j_iload_n g (i := 3) (by decide +kernel) rfl ?_
        obtain ⟨h0, hp⟩ := hp
        refine j_ia g 6 (by decide +kernel) (by decide +kernel) (by decide +kernel) h0 ?_
        refine j_ishl g (by decide +kernel) ?_
        refine j_ior g (by decide +kernel) ?_
        refine j_istore_n g (i := 2) (by decide +kernel) (by decide) ?_
        dsimp only [stL, clL, hdL]
        refine j_iinc g (i := 3) (n := 1) (1) (by decide +kernel) rfl (by decide) rfl ?_
        dsimp only [stL, clL, hdL]
        refine j_goto g (off := -58) (tgt := 4) (by decide +kernel) (by decide) ?_
        refine absurd (ci_X8_isAllowed_4.mpr ?_) hx_4_1
        simp only [if_neg (show ¬ (a1 ≤ ((l_X8_isAllowed_4 M a1 (0, 0) (cntN (fun k => c_X8_isAllowed_4 M a1 (l_X8_isAllowed_4 M a1 (0, 0) k)) 7)).2)) from c6), if_neg (show ¬ ((M.1 603 (Int32.toNatClampNeg (8 * (M.1 614 (Int32.toNatClampNeg ((l_X8_isAllowed_4 M a1 (0, 0) (cntN (fun k => c_X8_isAllowed_4 M a1 (l_X8_isAllowed_4 M a1 (0, 0) k)) 7)).2))) + (6 : Int32)))) < 0) from c25), if_pos (show (b2i (M.1 607 (Int32.toNatClampNeg (M.1 600 10 + 9 + (M.1 603 (Int32.toNatClampNeg (8 * (M.1 614 (Int32.toNatClampNeg ((l_X8_isAllowed_4 M a1 (0, 0) (cntN (fun k => c_X8_isAllowed_4 M a1 (l_X8_isAllowed_4 M a1 (0, 0) k)) 7)).2))) + (6 : Int32)))))) = 0)) = 0 from c34)]
      · rw [if_neg (show ¬ ((b2i (M.1 607 (Int32.toNatClampNeg (M.1 600 10 + 9 + (M.1 603 (Int32.toNatClampNeg (8 * (M.1 614 (Int32.toNatClampNeg ((l_X8_isAllowed_4 M a1 (0, 0) (cntN (fun k => c_X8_isAllowed_4 M a1 (l_X8_isAllowed_4 M a1 (0, 0) k)) 7)).2))) + (6 : Int32)))))) = 0)) = 0) from c34)] at hp
        refine j_iload_n g (i := 2) (by decide +kernel) rfl ?_
        refine j_iload g (i := 4) (by decide +kernel) rfl ?_
        refine j_ishr g (by decide +kernel) ?_
        refine j_iconst g (n := 1) (1) (by decide +kernel) rfl ?_
        refine j_iand g (by decide +kernel) ?_
        refine j_if_ne g (off := 5) (tgt := 48) (by decide +kernel) (by decide) (fun c43 => ?_) (fun c43 => ?_)
        · rw [if_pos (show ¬ ((((l_X8_isAllowed_4 M a1 (0, 0) (cntN (fun k => c_X8_isAllowed_4 M a1 (l_X8_isAllowed_4 M a1 (0, 0) k)) 7)).1) >>> ((M.1 603 (Int32.toNatClampNeg (8 * (M.1 614 (Int32.toNatClampNeg ((l_X8_isAllowed_4 M a1 (0, 0) (cntN (fun k => c_X8_isAllowed_4 M a1 (l_X8_isAllowed_4 M a1 (0, 0) k)) 7)).2))) + (6 : Int32)))) &&& 31)) &&& 1) = 0 from c43)] at hp
          refine j_iload_n g (i := 2) (by decide +kernel) rfl ?_
          refine j_iconst g (n := 1) (1) (by decide +kernel) rfl ?_
          refine j_aload_n g (i := 0) (by decide +kernel) rfl ?_
          refine j_gA g (b := 614) f8_49 (by decide +kernel) (by decide +kernel) (by decide +kernel) (by decide +kernel) ?_
          refine j_iload_n g (i := 3) (by decide +kernel) rfl ?_
          obtain ⟨h0, hp⟩ := hp
          refine j_ia g 6 (by decide +kernel) (by decide +kernel) (by decide +kernel) h0 ?_
          refine j_ishl g (by decide +kernel) ?_
          refine j_ior g (by decide +kernel) ?_
          refine j_istore_n g (i := 2) (by decide +kernel) (by decide) ?_
          dsimp only [stL, clL, hdL]
          refine j_iinc g (i := 3) (n := 1) (1) (by decide +kernel) rfl (by decide) rfl ?_
          dsimp only [stL, clL, hdL]
          refine j_goto g (off := -58) (tgt := 4) (by decide +kernel) (by decide) ?_
          refine absurd (ci_X8_isAllowed_4.mpr ?_) hx_4_1
          simp only [if_neg (show ¬ (a1 ≤ ((l_X8_isAllowed_4 M a1 (0, 0) (cntN (fun k => c_X8_isAllowed_4 M a1 (l_X8_isAllowed_4 M a1 (0, 0) k)) 7)).2)) from c6), if_neg (show ¬ ((M.1 603 (Int32.toNatClampNeg (8 * (M.1 614 (Int32.toNatClampNeg ((l_X8_isAllowed_4 M a1 (0, 0) (cntN (fun k => c_X8_isAllowed_4 M a1 (l_X8_isAllowed_4 M a1 (0, 0) k)) 7)).2))) + (6 : Int32)))) < 0) from c25), if_neg (show ¬ ((b2i (M.1 607 (Int32.toNatClampNeg (M.1 600 10 + 9 + (M.1 603 (Int32.toNatClampNeg (8 * (M.1 614 (Int32.toNatClampNeg ((l_X8_isAllowed_4 M a1 (0, 0) (cntN (fun k => c_X8_isAllowed_4 M a1 (l_X8_isAllowed_4 M a1 (0, 0) k)) 7)).2))) + (6 : Int32)))))) = 0)) = 0) from c34), if_pos (show ¬ ((((l_X8_isAllowed_4 M a1 (0, 0) (cntN (fun k => c_X8_isAllowed_4 M a1 (l_X8_isAllowed_4 M a1 (0, 0) k)) 7)).1) >>> ((M.1 603 (Int32.toNatClampNeg (8 * (M.1 614 (Int32.toNatClampNeg ((l_X8_isAllowed_4 M a1 (0, 0) (cntN (fun k => c_X8_isAllowed_4 M a1 (l_X8_isAllowed_4 M a1 (0, 0) k)) 7)).2))) + (6 : Int32)))) &&& 31)) &&& 1) = 0 from c43)]
        · rw [if_neg (show ¬ (¬ ((((l_X8_isAllowed_4 M a1 (0, 0) (cntN (fun k => c_X8_isAllowed_4 M a1 (l_X8_isAllowed_4 M a1 (0, 0) k)) 7)).1) >>> ((M.1 603 (Int32.toNatClampNeg (8 * (M.1 614 (Int32.toNatClampNeg ((l_X8_isAllowed_4 M a1 (0, 0) (cntN (fun k => c_X8_isAllowed_4 M a1 (l_X8_isAllowed_4 M a1 (0, 0) k)) 7)).2))) + (6 : Int32)))) &&& 31)) &&& 1) = 0) from c43)] at hp
          refine j_iconst g (n := 0) (0) (by decide +kernel) rfl ?_
          refine hr.1 _ _ _ _ (by decide +kernel) ⟨_, rfl, by first | rfl | exact b2i_nar | decide +kernel⟩ ?_ ?_
          · unfold r_X8_isAllowed; first | (simp only [if_neg (show ¬ (a1 ≤ ((l_X8_isAllowed_4 M a1 (0, 0) (cntN (fun k => c_X8_isAllowed_4 M a1 (l_X8_isAllowed_4 M a1 (0, 0) k)) 7)).2)) from c6), if_neg (show ¬ ((M.1 603 (Int32.toNatClampNeg (8 * (M.1 614 (Int32.toNatClampNeg ((l_X8_isAllowed_4 M a1 (0, 0) (cntN (fun k => c_X8_isAllowed_4 M a1 (l_X8_isAllowed_4 M a1 (0, 0) k)) 7)).2))) + (6 : Int32)))) < 0) from c25), if_neg (show ¬ ((b2i (M.1 607 (Int32.toNatClampNeg (M.1 600 10 + 9 + (M.1 603 (Int32.toNatClampNeg (8 * (M.1 614 (Int32.toNatClampNeg ((l_X8_isAllowed_4 M a1 (0, 0) (cntN (fun k => c_X8_isAllowed_4 M a1 (l_X8_isAllowed_4 M a1 (0, 0) k)) 7)).2))) + (6 : Int32)))))) = 0)) = 0) from c34), if_neg (show ¬ (¬ ((((l_X8_isAllowed_4 M a1 (0, 0) (cntN (fun k => c_X8_isAllowed_4 M a1 (l_X8_isAllowed_4 M a1 (0, 0) k)) 7)).1) >>> ((M.1 603 (Int32.toNatClampNeg (8 * (M.1 614 (Int32.toNatClampNeg ((l_X8_isAllowed_4 M a1 (0, 0) (cntN (fun k => c_X8_isAllowed_4 M a1 (l_X8_isAllowed_4 M a1 (0, 0) k)) 7)).2))) + (6 : Int32)))) &&& 31)) &&& 1) = 0) from c43)]; done) | (simp only [if_neg (show ¬ (a1 ≤ ((l_X8_isAllowed_4 M a1 (0, 0) (cntN (fun k => c_X8_isAllowed_4 M a1 (l_X8_isAllowed_4 M a1 (0, 0) k)) 7)).2)) from c6), if_neg (show ¬ ((M.1 603 (Int32.toNatClampNeg (8 * (M.1 614 (Int32.toNatClampNeg ((l_X8_isAllowed_4 M a1 (0, 0) (cntN (fun k => c_X8_isAllowed_4 M a1 (l_X8_isAllowed_4 M a1 (0, 0) k)) 7)).2))) + (6 : Int32)))) < 0) from c25), if_neg (show ¬ ((b2i (M.1 607 (Int32.toNatClampNeg (M.1 600 10 + 9 + (M.1 603 (Int32.toNatClampNeg (8 * (M.1 614 (Int32.toNatClampNeg ((l_X8_isAllowed_4 M a1 (0, 0) (cntN (fun k => c_X8_isAllowed_4 M a1 (l_X8_isAllowed_4 M a1 (0, 0) k)) 7)).2))) + (6 : Int32)))))) = 0)) = 0) from c34), if_neg (show ¬ (¬ ((((l_X8_isAllowed_4 M a1 (0, 0) (cntN (fun k => c_X8_isAllowed_4 M a1 (l_X8_isAllowed_4 M a1 (0, 0) k)) 7)).1) >>> ((M.1 603 (Int32.toNatClampNeg (8 * (M.1 614 (Int32.toNatClampNeg ((l_X8_isAllowed_4 M a1 (0, 0) (cntN (fun k => c_X8_isAllowed_4 M a1 (l_X8_isAllowed_4 M a1 (0, 0) k)) 7)).2))) + (6 : Int32)))) &&& 31)) &&& 1) = 0) from c43)]; rfl) | rfl
          · rfl
def c_X8_passes_2 (a1 : Int32) (σ : Mm × Int32) : Prop := if σ.2 ≤ 0 then False else True
theorem ci_X8_passes_2 {a1 : Int32}  {σ : Mm × Int32} : c_X8_passes_2 a1 σ ↔ (if σ.2 ≤ 0 then False else True) := Iff.rfl
noncomputable def s_X8_passes_2 (a1 : Int32) (σ : Mm × Int32) : Mm × Int32 := if σ.2 ≤ 0 then σ else if (σ.1.1 604 0) ≤ ((σ.1.1 607 (Int32.toNatClampNeg ((σ.1.1 600 10) + 21))) - (σ.1.1 607 (Int32.toNatClampNeg ((σ.1.1 600 10) + 21))) / 10 * 10) then ((wi σ.1 607 (Int32.toNatClampNeg ((σ.1.1 600 10) + 21)) ((σ.1.1 607 (Int32.toNatClampNeg ((σ.1.1 600 10) + 21))) + 1)), σ.2 - 1) else ((wi σ.1 607 (Int32.toNatClampNeg ((σ.1.1 600 10) + 21)) ((σ.1.1 607 (Int32.toNatClampNeg ((σ.1.1 600 10) + 21))) + 1)), σ.2 - 0)
def q_X8_passes_2 (a1 : Int32) (σ : Mm × Int32) : Prop := (if σ.2 ≤ 0 then True else (vp_in ((σ.1.1 600 10) + 21) 44) ∧ (if (σ.1.1 604 0) ≤ ((σ.1.1 607 (Int32.toNatClampNeg ((σ.1.1 600 10) + 21))) - (σ.1.1 607 (Int32.toNatClampNeg ((σ.1.1 600 10) + 21))) / 10 * 10) then (vp_in ((σ.1.1 600 10) + 21) 44) ∧ (vp_in ((σ.1.1 600 10) + 21) 44) ∧ True else (vp_in ((σ.1.1 600 10) + 21) 44) ∧ (vp_in ((σ.1.1 600 10) + 21) 44) ∧ True))
noncomputable def l_X8_passes_2 (a1 : Int32) (σ0 : Mm × Int32) : Nat → Mm × Int32 := itN (fun _ σ => s_X8_passes_2 a1 σ) σ0
theorem ps_X8_passes_2 {d : Nat} {J : Nat → Lc → List Value → Mm → Prop} {a1 : Int32}  {σ : Mm × Int32}  (g : Good mX8_passes.1 mX8_passes.2.2.1 mX8_passes.2.2.2.1 (d + 0) J) (hc : c_X8_passes_2 a1 σ) (hp : q_X8_passes_2 a1 σ) (k : J 2 [some (.ref 600), some (.int a1), some (.int ((s_X8_passes_2 a1 σ).2))] [] ((s_X8_passes_2 a1 σ).1)) : J 2 [some (.ref 600), some (.int a1), some (.int σ.2)] [] σ.1 := by
  unfold c_X8_passes_2 at hc
  unfold q_X8_passes_2 at hp
  unfold s_X8_passes_2 at k
  refine j_iload_n g (i := 2) (by decide +kernel) rfl ?_
  refine j_if_le g (off := 54) (tgt := 57) (by decide +kernel) (by decide) (fun c3 => ?_) (fun c3 => ?_)
  · (try rw [if_pos (show σ.2 ≤ 0 from c3)] at hc); (rw [if_pos (show σ.2 ≤ 0 from c3)] at hp); (try simp only [if_pos (show σ.2 ≤ 0 from c3)] at k)
    exact hc.elim
  · (try rw [if_neg (show ¬ (σ.2 ≤ 0) from c3)] at hc); (rw [if_neg (show ¬ (σ.2 ≤ 0) from c3)] at hp); (try simp only [if_neg (show ¬ (σ.2 ≤ 0) from c3)] at k)
    refine j_iload_n g (i := 2) (by decide +kernel) rfl ?_
    refine j_aload_n g (i := 0) (by decide +kernel) rfl ?_
    refine j_gA g (b := 607) f8_28 (by decide +kernel) (by decide +kernel) (by decide +kernel) (by decide +kernel) ?_
    refine j_aload_n g (i := 0) (by decide +kernel) rfl ?_
    refine j_gI g f8_240 (by decide +kernel) (by decide +kernel) (by decide +kernel) ?_
    refine j_bipush g (n := 21) (21) (by decide +kernel) (by decide +kernel) ?_
    refine j_iadd g (by decide +kernel) ?_
    obtain ⟨h0, hp⟩ := hp
    refine j_ia g 44 (by decide +kernel) (by decide +kernel) (by decide +kernel) h0 ?_
    refine j_bipush g (n := 10) (10) (by decide +kernel) (by decide +kernel) ?_
    refine j_irem g (by decide +kernel) (by decide) ?_
    refine j_aload_n g (i := 0) (by decide +kernel) rfl ?_
    refine j_gA g (b := 604) f8_19 (by decide +kernel) (by decide +kernel) (by decide +kernel) (by decide +kernel) ?_
    refine j_iconst g (n := 0) (0) (by decide +kernel) rfl ?_
    refine j_ia g 4 (by decide +kernel) (by decide +kernel) (by decide +kernel) (vin_b (by decide +kernel)) ?_
    refine j_icmp_ge g (off := 7) (tgt := 35) (by decide +kernel) (by decide) (fun c28 => ?_) (fun c28 => ?_)
    · (try rw [if_pos (show (σ.1.1 604 0) ≤ ((σ.1.1 607 (Int32.toNatClampNeg ((σ.1.1 600 10) + 21))) - (σ.1.1 607 (Int32.toNatClampNeg ((σ.1.1 600 10) + 21))) / 10 * 10) from c28)] at hc); (rw [if_pos (show (σ.1.1 604 0) ≤ ((σ.1.1 607 (Int32.toNatClampNeg ((σ.1.1 600 10) + 21))) - (σ.1.1 607 (Int32.toNatClampNeg ((σ.1.1 600 10) + 21))) / 10 * 10) from c28)] at hp); (try simp only [if_pos (show (σ.1.1 604 0) ≤ ((σ.1.1 607 (Int32.toNatClampNeg ((σ.1.1 600 10) + 21))) - (σ.1.1 607 (Int32.toNatClampNeg ((σ.1.1 600 10) + 21))) / 10 * 10) from c28)] at k)
      refine j_iconst g (n := 1) (1) (by decide +kernel) rfl ?_
      refine j_isub g (by decide +kernel) ?_
      refine j_istore_n g (i := 2) (by decide +kernel) (by decide) ?_
      dsimp only [stL, clL, hdL]
      refine j_aload_n g (i := 0) (by decide +kernel) rfl ?_
      refine j_gA g (b := 607) f8_28 (by decide +kernel) (by decide +kernel) (by decide +kernel) (by decide +kernel) ?_
      refine j_aload_n g (i := 0) (by decide +kernel) rfl ?_
      refine j_gI g f8_240 (by decide +kernel) (by decide +kernel) (by decide +kernel) ?_
      refine j_bipush g (n := 21) (21) (by decide +kernel) (by decide +kernel) ?_
      refine j_iadd g (by decide +kernel) ?_
      refine j_dup2 g (by decide +kernel) rfl rfl ?_
      obtain ⟨h0, hp⟩ := hp
      refine j_ia g 44 (by decide +kernel) (by decide +kernel) (by decide +kernel) h0 ?_
      refine j_iconst g (n := 1) (1) (by decide +kernel) rfl ?_
      refine j_iadd g (by decide +kernel) ?_
      obtain ⟨h0, hp⟩ := hp
      refine j_is g 44 (by decide +kernel) (by decide +kernel) (by decide +kernel) h0 ?_
      refine j_goto g (off := -52) (tgt := 2) (by decide +kernel) (by decide) ?_
      exact k 
    · (try rw [if_neg (show ¬ ((σ.1.1 604 0) ≤ ((σ.1.1 607 (Int32.toNatClampNeg ((σ.1.1 600 10) + 21))) - (σ.1.1 607 (Int32.toNatClampNeg ((σ.1.1 600 10) + 21))) / 10 * 10)) from c28)] at hc); (rw [if_neg (show ¬ ((σ.1.1 604 0) ≤ ((σ.1.1 607 (Int32.toNatClampNeg ((σ.1.1 600 10) + 21))) - (σ.1.1 607 (Int32.toNatClampNeg ((σ.1.1 600 10) + 21))) / 10 * 10)) from c28)] at hp); (try simp only [if_neg (show ¬ ((σ.1.1 604 0) ≤ ((σ.1.1 607 (Int32.toNatClampNeg ((σ.1.1 600 10) + 21))) - (σ.1.1 607 (Int32.toNatClampNeg ((σ.1.1 600 10) + 21))) / 10 * 10)) from c28)] at k)
      refine j_iconst g (n := 0) (0) (by decide +kernel) rfl ?_
      refine j_goto g (off := 4) (tgt := 36) (by decide +kernel) (by decide) ?_
      refine j_isub g (by decide +kernel) ?_
      refine j_istore_n g (i := 2) (by decide +kernel) (by decide) ?_
      dsimp only [stL, clL, hdL]
      refine j_aload_n g (i := 0) (by decide +kernel) rfl ?_
      refine j_gA g (b := 607) f8_28 (by decide +kernel) (by decide +kernel) (by decide +kernel) (by decide +kernel) ?_
      refine j_aload_n g (i := 0) (by decide +kernel) rfl ?_
      refine j_gI g f8_240 (by decide +kernel) (by decide +kernel) (by decide +kernel) ?_
      refine j_bipush g (n := 21) (21) (by decide +kernel) (by decide +kernel) ?_
      refine j_iadd g (by decide +kernel) ?_
      refine j_dup2 g (by decide +kernel) rfl rfl ?_
      obtain ⟨h0, hp⟩ := hp
      refine j_ia g 44 (by decide +kernel) (by decide +kernel) (by decide +kernel) h0 ?_
      refine j_iconst g (n := 1) (1) (by decide +kernel) rfl ?_
      refine j_iadd g (by decide +kernel) ?_
      obtain ⟨h0, hp⟩ := hp
      refine j_is g 44 (by decide +kernel) (by decide +kernel) (by decide +kernel) h0 ?_
      refine j_goto g (off := -52) (tgt := 2) (by decide +kernel) (by decide) ?_
      exact k 
theorem sh_X8_passes_2 {d : Nat} {J : Nat → Lc → List Value → Mm → Prop} {a1 : Int32}  {σ0 : Mm × Int32}  (g : Good mX8_passes.1 mX8_passes.2.2.1 mX8_passes.2.2.2.1 (d + 0) J) : ∀ (N : Nat), (∀ k, k < N → c_X8_passes_2 a1 (l_X8_passes_2 a1 σ0 k)) → (∀ k, k < N → q_X8_passes_2 a1 (l_X8_passes_2 a1 σ0 k)) → (J 2 [some (.ref 600), some (.int a1), some (.int ((l_X8_passes_2 a1 σ0 N).2))] [] ((l_X8_passes_2 a1 σ0 N).1)) → J 2 [some (.ref 600), some (.int a1), some (.int σ0.2)] [] σ0.1
  | 0, _, _, k => k
  | N + 1, hc, hp, k => sh_X8_passes_2  g N (fun i hi => hc i (Nat.lt_succ_of_lt hi)) (fun i hi => hp i (Nat.lt_succ_of_lt hi)) (ps_X8_passes_2  g (hc N (Nat.lt_succ_self N)) (hp N (Nat.lt_succ_self N)) k)
noncomputable def w_X8_passes (M : Mm) (a1 : Int32) : Mm := if ((l_X8_passes_2 a1 (M, a1) (cntN (fun k => c_X8_passes_2 a1 (l_X8_passes_2 a1 (M, a1) k)) (10 * Int32.toNatClampNeg a1 + 20))).2) ≤ 0 then (l_X8_passes_2 a1 (M, a1) (cntN (fun k => c_X8_passes_2 a1 (l_X8_passes_2 a1 (M, a1) k)) (10 * Int32.toNatClampNeg a1 + 20))).1 else M
def p_X8_passes (M : Mm) (a1 : Int32) : Prop := (∀ k, k < (cntN (fun k => c_X8_passes_2 a1 (l_X8_passes_2 a1 (M, a1) k)) (10 * Int32.toNatClampNeg a1 + 20)) → c_X8_passes_2 a1 (l_X8_passes_2 a1 (M, a1) k)) ∧ (∀ k, k < (cntN (fun k => c_X8_passes_2 a1 (l_X8_passes_2 a1 (M, a1) k)) (10 * Int32.toNatClampNeg a1 + 20)) → q_X8_passes_2 a1 (l_X8_passes_2 a1 (M, a1) k)) ∧ (¬ c_X8_passes_2 a1 (l_X8_passes_2 a1 (M, a1) (cntN (fun k => c_X8_passes_2 a1 (l_X8_passes_2 a1 (M, a1) k)) (10 * Int32.toNatClampNeg a1 + 20)))) ∧ (if ((l_X8_passes_2 a1 (M, a1) (cntN (fun k => c_X8_passes_2 a1 (l_X8_passes_2 a1 (M, a1) k)) (10 * Int32.toNatClampNeg a1 + 20))).2) ≤ 0 then True else (vp_in (((l_X8_passes_2 a1 (M, a1) (cntN (fun k => c_X8_passes_2 a1 (l_X8_passes_2 a1 (M, a1) k)) (10 * Int32.toNatClampNeg a1 + 20))).1.1 600 10) + 21) 44) ∧ (if ((l_X8_passes_2 a1 (M, a1) (cntN (fun k => c_X8_passes_2 a1 (l_X8_passes_2 a1 (M, a1) k)) (10 * Int32.toNatClampNeg a1 + 20))).1.1 604 0) ≤ (((l_X8_passes_2 a1 (M, a1) (cntN (fun k => c_X8_passes_2 a1 (l_X8_passes_2 a1 (M, a1) k)) (10 * Int32.toNatClampNeg a1 + 20))).1.1 607 (Int32.toNatClampNeg (((l_X8_passes_2 a1 (M, a1) (cntN (fun k => c_X8_passes_2 a1 (l_X8_passes_2 a1 (M, a1) k)) (10 * Int32.toNatClampNeg a1 + 20))).1.1 600 10) + 21))) - ((l_X8_passes_2 a1 (M, a1) (cntN (fun k => c_X8_passes_2 a1 (l_X8_passes_2 a1 (M, a1) k)) (10 * Int32.toNatClampNeg a1 + 20))).1.1 607 (Int32.toNatClampNeg (((l_X8_passes_2 a1 (M, a1) (cntN (fun k => c_X8_passes_2 a1 (l_X8_passes_2 a1 (M, a1) k)) (10 * Int32.toNatClampNeg a1 + 20))).1.1 600 10) + 21))) / 10 * 10) then (vp_in (((l_X8_passes_2 a1 (M, a1) (cntN (fun k => c_X8_passes_2 a1 (l_X8_passes_2 a1 (M, a1) k)) (10 * Int32.toNatClampNeg a1 + 20))).1.1 600 10) + 21) 44) ∧ (vp_in (((l_X8_passes_2 a1 (M, a1) (cntN (fun k => c_X8_passes_2 a1 (l_X8_passes_2 a1 (M, a1) k)) (10 * Int32.toNatClampNeg a1 + 20))).1.1 600 10) + 21) 44) ∧ True else (vp_in (((l_X8_passes_2 a1 (M, a1) (cntN (fun k => c_X8_passes_2 a1 (l_X8_passes_2 a1 (M, a1) k)) (10 * Int32.toNatClampNeg a1 + 20))).1.1 600 10) + 21) 44) ∧ (vp_in (((l_X8_passes_2 a1 (M, a1) (cntN (fun k => c_X8_passes_2 a1 (l_X8_passes_2 a1 (M, a1) k)) (10 * Int32.toNatClampNeg a1 + 20))).1.1 600 10) + 21) 44) ∧ True))
theorem rnX8_passes {d : Nat} {M : Mm} {a1 : Int32}  (hp : p_X8_passes M a1) : Rn (d + 0) mX8_passes [.ref 600, .int a1] M none (w_X8_passes M a1) := by
  refine Rn.of [some (.ref 600), some (.int a1), none] (by decide +kernel) rfl (Nat.le_of_ble_eq_true rfl) rfl (fun J g hr => ?_)
  unfold p_X8_passes at hp
  refine j_iload_n g (i := 1) (by decide +kernel) rfl ?_
  refine j_istore_n g (i := 2) (by decide +kernel) (by decide) ?_
  dsimp only [stL, clL, hdL]
  obtain ⟨h0, hp⟩ := hp
  have hc_2_1 := h0
  obtain ⟨h0, hp⟩ := hp
  have hq_2_1 := h0
  obtain ⟨h0, hp⟩ := hp
  have hx_2_1 := h0
  refine sh_X8_passes_2   g (σ0 := (M, a1)) (cntN (fun k => c_X8_passes_2 a1 (l_X8_passes_2 a1 (M, a1) k)) (10 * Int32.toNatClampNeg a1 + 20)) hc_2_1 hq_2_1 ?_ 
  refine j_iload_n g (i := 2) (by decide +kernel) rfl ?_
  refine j_if_le g (off := 54) (tgt := 57) (by decide +kernel) (by decide) (fun c3 => ?_) (fun c3 => ?_)
  · rw [if_pos (show ((l_X8_passes_2 a1 (M, a1) (cntN (fun k => c_X8_passes_2 a1 (l_X8_passes_2 a1 (M, a1) k)) (10 * Int32.toNatClampNeg a1 + 20))).2) ≤ 0 from c3)] at hp
    refine hr.2.2.2 _ _ _ (by decide +kernel) rfl rfl ?_
    · unfold w_X8_passes; first | (simp only [if_pos (show ((l_X8_passes_2 a1 (M, a1) (cntN (fun k => c_X8_passes_2 a1 (l_X8_passes_2 a1 (M, a1) k)) (10 * Int32.toNatClampNeg a1 + 20))).2) ≤ 0 from c3)]; done) | (simp only [if_pos (show ((l_X8_passes_2 a1 (M, a1) (cntN (fun k => c_X8_passes_2 a1 (l_X8_passes_2 a1 (M, a1) k)) (10 * Int32.toNatClampNeg a1 + 20))).2) ≤ 0 from c3)]; rfl) | rfl
  · rw [if_neg (show ¬ (((l_X8_passes_2 a1 (M, a1) (cntN (fun k => c_X8_passes_2 a1 (l_X8_passes_2 a1 (M, a1) k)) (10 * Int32.toNatClampNeg a1 + 20))).2) ≤ 0) from c3)] at hp
    refine j_iload_n g (i := 2) (by decide +kernel) rfl ?_
    refine j_aload_n g (i := 0) (by decide +kernel) rfl ?_
    refine j_gA g (b := 607) f8_28 (by decide +kernel) (by decide +kernel) (by decide +kernel) (by decide +kernel) ?_
    refine j_aload_n g (i := 0) (by decide +kernel) rfl ?_
    refine j_gI g f8_240 (by decide +kernel) (by decide +kernel) (by decide +kernel) ?_
    refine j_bipush g (n := 21) (21) (by decide +kernel) (by decide +kernel) ?_
    refine j_iadd g (by decide +kernel) ?_
    obtain ⟨h0, hp⟩ := hp
    refine j_ia g 44 (by decide +kernel) (by decide +kernel) (by decide +kernel) h0 ?_
    refine j_bipush g (n := 10) (10) (by decide +kernel) (by decide +kernel) ?_
    refine j_irem g (by decide +kernel) (by decide) ?_
    refine j_aload_n g (i := 0) (by decide +kernel) rfl ?_
    refine j_gA g (b := 604) f8_19 (by decide +kernel) (by decide +kernel) (by decide +kernel) (by decide +kernel) ?_
    refine j_iconst g (n := 0) (0) (by decide +kernel) rfl ?_
    refine j_ia g 4 (by decide +kernel) (by decide +kernel) (by decide +kernel) (vin_b (by decide +kernel)) ?_
    refine j_icmp_ge g (off := 7) (tgt := 35) (by decide +kernel) (by decide) (fun c28 => ?_) (fun c28 => ?_)
    · rw [if_pos (show ((l_X8_passes_2 a1 (M, a1) (cntN (fun k => c_X8_passes_2 a1 (l_X8_passes_2 a1 (M, a1) k)) (10 * Int32.toNatClampNeg a1 + 20))).1.1 604 0) ≤ (((l_X8_passes_2 a1 (M, a1) (cntN (fun k => c_X8_passes_2 a1 (l_X8_passes_2 a1 (M, a1) k)) (10 * Int32.toNatClampNeg a1 + 20))).1.1 607 (Int32.toNatClampNeg (((l_X8_passes_2 a1 (M, a1) (cntN (fun k => c_X8_passes_2 a1 (l_X8_passes_2 a1 (M, a1) k)) (10 * Int32.toNatClampNeg a1 + 20))).1.1 600 10) + 21))) - ((l_X8_passes_2 a1 (M, a1) (cntN (fun k => c_X8_passes_2 a1 (l_X8_passes_2 a1 (M, a1) k)) (10 * Int32.toNatClampNeg a1 + 20))).1.1 607 (Int32.toNatClampNeg (((l_X8_passes_2 a1 (M, a1) (cntN (fun k => c_X8_passes_2 a1 (l_X8_passes_2 a1 (M, a1) k)) (10 * Int32.toNatClampNeg a1 + 20))).1.1 600 10) + 21))) / 10 * 10) from c28)] at hp
      refine j_iconst g (n := 1) (1) (by decide +kernel) rfl ?_
      refine j_isub g (by decide +kernel) ?_
      refine j_istore_n g (i := 2) (by decide +kernel) (by decide) ?_
      dsimp only [stL, clL, hdL]
      refine j_aload_n g (i := 0) (by decide +kernel) rfl ?_
      refine j_gA g (b := 607) f8_28 (by decide +kernel) (by decide +kernel) (by decide +kernel) (by decide +kernel) ?_
      refine j_aload_n g (i := 0) (by decide +kernel) rfl ?_
      refine j_gI g f8_240 (by decide +kernel) (by decide +kernel) (by decide +kernel) ?_
      refine j_bipush g (n := 21) (21) (by decide +kernel) (by decide +kernel) ?_
      refine j_iadd g (by decide +kernel) ?_
      refine j_dup2 g (by decide +kernel) rfl rfl ?_
      obtain ⟨h0, hp⟩ := hp
      refine j_ia g 44 (by decide +kernel) (by decide +kernel) (by decide +kernel) h0 ?_
      refine j_iconst g (n := 1) (1) (by decide +kernel) rfl ?_
      refine j_iadd g (by decide +kernel) ?_
      obtain ⟨h0, hp⟩ := hp
      refine j_is g 44 (by decide +kernel) (by decide +kernel) (by decide +kernel) h0 ?_
      refine j_goto g (off := -52) (tgt := 2) (by decide +kernel) (by decide) ?_
      refine absurd (ci_X8_passes_2.mpr ?_) hx_2_1
      simp only [if_neg (show ¬ (((l_X8_passes_2 a1 (M, a1) (cntN (fun k => c_X8_passes_2 a1 (l_X8_passes_2 a1 (M, a1) k)) (10 * Int32.toNatClampNeg a1 + 20))).2) ≤ 0) from c3), if_pos (show ((l_X8_passes_2 a1 (M, a1) (cntN (fun k => c_X8_passes_2 a1 (l_X8_passes_2 a1 (M, a1) k)) (10 * Int32.toNatClampNeg a1 + 20))).1.1 604 0) ≤ (((l_X8_passes_2 a1 (M, a1) (cntN (fun k => c_X8_passes_2 a1 (l_X8_passes_2 a1 (M, a1) k)) (10 * Int32.toNatClampNeg a1 + 20))).1.1 607 (Int32.toNatClampNeg (((l_X8_passes_2 a1 (M, a1) (cntN (fun k => c_X8_passes_2 a1 (l_X8_passes_2 a1 (M, a1) k)) (10 * Int32.toNatClampNeg a1 + 20))).1.1 600 10) + 21))) - ((l_X8_passes_2 a1 (M, a1) (cntN (fun k => c_X8_passes_2 a1 (l_X8_passes_2 a1 (M, a1) k)) (10 * Int32.toNatClampNeg a1 + 20))).1.1 607 (Int32.toNatClampNeg (((l_X8_passes_2 a1 (M, a1) (cntN (fun k => c_X8_passes_2 a1 (l_X8_passes_2 a1 (M, a1) k)) (10 * Int32.toNatClampNeg a1 + 20))).1.1 600 10) + 21))) / 10 * 10) from c28)]
    · rw [if_neg (show ¬ (((l_X8_passes_2 a1 (M, a1) (cntN (fun k => c_X8_passes_2 a1 (l_X8_passes_2 a1 (M, a1) k)) (10 * Int32.toNatClampNeg a1 + 20))).1.1 604 0) ≤ (((l_X8_passes_2 a1 (M, a1) (cntN (fun k => c_X8_passes_2 a1 (l_X8_passes_2 a1 (M, a1) k)) (10 * Int32.toNatClampNeg a1 + 20))).1.1 607 (Int32.toNatClampNeg (((l_X8_passes_2 a1 (M, a1) (cntN (fun k => c_X8_passes_2 a1 (l_X8_passes_2 a1 (M, a1) k)) (10 * Int32.toNatClampNeg a1 + 20))).1.1 600 10) + 21))) - ((l_X8_passes_2 a1 (M, a1) (cntN (fun k => c_X8_passes_2 a1 (l_X8_passes_2 a1 (M, a1) k)) (10 * Int32.toNatClampNeg a1 + 20))).1.1 607 (Int32.toNatClampNeg (((l_X8_passes_2 a1 (M, a1) (cntN (fun k => c_X8_passes_2 a1 (l_X8_passes_2 a1 (M, a1) k)) (10 * Int32.toNatClampNeg a1 + 20))).1.1 600 10) + 21))) / 10 * 10)) from c28)] at hp
      refine j_iconst g (n := 0) (0) (by decide +kernel) rfl ?_
      refine j_goto g (off := 4) (tgt := 36) (by decide +kernel) (by decide) ?_
      refine j_isub g (by decide +kernel) ?_
      refine j_istore_n g (i := 2) (by decide +kernel) (by decide) ?_
      dsimp only [stL, clL, hdL]
      refine j_aload_n g (i := 0) (by decide +kernel) rfl ?_
      refine j_gA g (b := 607) f8_28 (by decide +kernel) (by decide +kernel) (by decide +kernel) (by decide +kernel) ?_
      refine j_aload_n g (i := 0) (by decide +kernel) rfl ?_
      refine j_gI g f8_240 (by decide +kernel) (by decide +kernel) (by decide +kernel) ?_
      refine j_bipush g (n := 21) (21) (by decide +kernel) (by decide +kernel) ?_
      refine j_iadd g (by decide +kernel) ?_
      refine j_dup2 g (by decide +kernel) rfl rfl ?_
      obtain ⟨h0, hp⟩ := hp
      refine j_ia g 44 (by decide +kernel) (by decide +kernel) (by decide +kernel) h0 ?_
      refine j_iconst g (n := 1) (1) (by decide +kernel) rfl ?_
      refine j_iadd g (by decide +kernel) ?_
      obtain ⟨h0, hp⟩ := hp
      refine j_is g 44 (by decide +kernel) (by decide +kernel) (by decide +kernel) h0 ?_
      refine j_goto g (off := -52) (tgt := 2) (by decide +kernel) (by decide) ?_
      refine absurd (ci_X8_passes_2.mpr ?_) hx_2_1
      simp only [if_neg (show ¬ (((l_X8_passes_2 a1 (M, a1) (cntN (fun k => c_X8_passes_2 a1 (l_X8_passes_2 a1 (M, a1) k)) (10 * Int32.toNatClampNeg a1 + 20))).2) ≤ 0) from c3), if_neg (show ¬ (((l_X8_passes_2 a1 (M, a1) (cntN (fun k => c_X8_passes_2 a1 (l_X8_passes_2 a1 (M, a1) k)) (10 * Int32.toNatClampNeg a1 + 20))).1.1 604 0) ≤ (((l_X8_passes_2 a1 (M, a1) (cntN (fun k => c_X8_passes_2 a1 (l_X8_passes_2 a1 (M, a1) k)) (10 * Int32.toNatClampNeg a1 + 20))).1.1 607 (Int32.toNatClampNeg (((l_X8_passes_2 a1 (M, a1) (cntN (fun k => c_X8_passes_2 a1 (l_X8_passes_2 a1 (M, a1) k)) (10 * Int32.toNatClampNeg a1 + 20))).1.1 600 10) + 21))) - ((l_X8_passes_2 a1 (M, a1) (cntN (fun k => c_X8_passes_2 a1 (l_X8_passes_2 a1 (M, a1) k)) (10 * Int32.toNatClampNeg a1 + 20))).1.1 607 (Int32.toNatClampNeg (((l_X8_passes_2 a1 (M, a1) (cntN (fun k => c_X8_passes_2 a1 (l_X8_passes_2 a1 (M, a1) k)) (10 * Int32.toNatClampNeg a1 + 20))).1.1 600 10) + 21))) / 10 * 10)) from c28)]
def c_X8_moves_89 (a1 : Int32) (x2 : Int32) (x3 : Int32) (x4 : Int32) (σ : Mm × Int32) : Prop := if (σ.1.1 600 1) ≤ σ.2 then False else True
theorem ci_X8_moves_89 {a1 : Int32} {x2 : Int32} {x3 : Int32} {x4 : Int32} {σ : Mm × Int32} : c_X8_moves_89 a1 x2 x3 x4 σ ↔ (if (σ.1.1 600 1) ≤ σ.2 then False else True) := Iff.rfl
noncomputable def s_X8_moves_89 (a1 : Int32) (x2 : Int32) (x3 : Int32) (x4 : Int32) (σ : Mm × Int32) : Mm × Int32 := if (σ.1.1 600 1) ≤ σ.2 then σ else if x2 = 2 then (if ¬ (σ.1.1 607 (Int32.toNatClampNeg (((σ.1.1 600 10) + 3) + σ.2))) = x4 then (if ¬ σ.2 = (σ.1.1 603 (Int32.toNatClampNeg (8 * a1 + (2 : Int32)))) then (σ.1, σ.2 + 1) else ((wi σ.1 607 (Int32.toNatClampNeg (((σ.1.1 600 10) + 3) + σ.2)) x3), σ.2 + 1)) else ((wi σ.1 607 (Int32.toNatClampNeg (((σ.1.1 600 10) + 3) + σ.2)) x3), σ.2 + 1)) else if ¬ x2 = 4 then (if ¬ σ.2 = (σ.1.1 603 (Int32.toNatClampNeg (8 * a1 + (2 : Int32)))) then (σ.1, σ.2 + 1) else ((wi σ.1 607 (Int32.toNatClampNeg (((σ.1.1 600 10) + 3) + σ.2)) x3), σ.2 + 1)) else if ¬ (σ.1.1 607 (Int32.toNatClampNeg (((σ.1.1 600 10) + 3) + σ.2))) = x4 then (if ¬ σ.2 = (σ.1.1 603 (Int32.toNatClampNeg (8 * a1 + (2 : Int32)))) then (σ.1, σ.2 + 1) else ((wi σ.1 607 (Int32.toNatClampNeg (((σ.1.1 600 10) + 3) + σ.2)) x3), σ.2 + 1)) else ((wi σ.1 607 (Int32.toNatClampNeg (((σ.1.1 600 10) + 3) + σ.2)) x3), σ.2 + 1)
def q_X8_moves_89 (a1 : Int32) (x2 : Int32) (x3 : Int32) (x4 : Int32) (σ : Mm × Int32) : Prop := (if (σ.1.1 600 1) ≤ σ.2 then True else (if x2 = 2 then (vp_in (((σ.1.1 600 10) + 3) + σ.2) 44) ∧ (if ¬ (σ.1.1 607 (Int32.toNatClampNeg (((σ.1.1 600 10) + 3) + σ.2))) = x4 then (vp_in (8 * a1 + (2 : Int32)) 48) ∧ (if ¬ σ.2 = (σ.1.1 603 (Int32.toNatClampNeg (8 * a1 + (2 : Int32)))) then True else (vp_in (((σ.1.1 600 10) + 3) + σ.2) 44) ∧ True) else (vp_in (((σ.1.1 600 10) + 3) + σ.2) 44) ∧ True) else (if ¬ x2 = 4 then (vp_in (8 * a1 + (2 : Int32)) 48) ∧ (if ¬ σ.2 = (σ.1.1 603 (Int32.toNatClampNeg (8 * a1 + (2 : Int32)))) then True else (vp_in (((σ.1.1 600 10) + 3) + σ.2) 44) ∧ True) else (vp_in (((σ.1.1 600 10) + 3) + σ.2) 44) ∧ (if ¬ (σ.1.1 607 (Int32.toNatClampNeg (((σ.1.1 600 10) + 3) + σ.2))) = x4 then (vp_in (8 * a1 + (2 : Int32)) 48) ∧ (if ¬ σ.2 = (σ.1.1 603 (Int32.toNatClampNeg (8 * a1 + (2 : Int32)))) then True else (vp_in (((σ.1.1 600 10) + 3) + σ.2) 44) ∧ True) else (vp_in (((σ.1.1 600 10) + 3) + σ.2) 44) ∧ True))))
noncomputable def l_X8_moves_89 (a1 : Int32) (x2 : Int32) (x3 : Int32) (x4 : Int32) (σ0 : Mm × Int32) : Nat → Mm × Int32 := itN (fun _ σ => s_X8_moves_89 a1 x2 x3 x4 σ) σ0
theorem ps_X8_moves_89 {d : Nat} {J : Nat → Lc → List Value → Mm → Prop} {a1 : Int32} {x2 : Int32} {x3 : Int32} {x4 : Int32} {σ : Mm × Int32}  (g : Good mX8_moves.1 mX8_moves.2.2.1 mX8_moves.2.2.2.1 (d + 2) J) (hc : c_X8_moves_89 a1 x2 x3 x4 σ) (hp : q_X8_moves_89 a1 x2 x3 x4 σ) (k : ∀ (j6 : Option Value), J 89 [some (.ref 600), some (.int a1), some (.int x2), some (.int x3), some (.int x4), some (.int ((s_X8_moves_89 a1 x2 x3 x4 σ).2)), j6] [] ((s_X8_moves_89 a1 x2 x3 x4 σ).1)) : ∀ (j6 : Option Value), J 89 [some (.ref 600), some (.int a1), some (.int x2), some (.int x3), some (.int x4), some (.int σ.2), j6] [] σ.1 := by
  intro j6
  unfold c_X8_moves_89 at hc
  unfold q_X8_moves_89 at hp
  unfold s_X8_moves_89 at k
  refine j_iload g (i := 5) (by decide +kernel) rfl ?_
  refine j_aload_n g (i := 0) (by decide +kernel) rfl ?_
  refine j_gI g f8_228 (by decide +kernel) (by decide +kernel) (by decide +kernel) ?_
  refine j_icmp_ge g (off := 76) (tgt := 171) (by decide +kernel) (by decide) (fun c95 => ?_) (fun c95 => ?_)
  · (try rw [if_pos (show (σ.1.1 600 1) ≤ σ.2 from c95)] at hc); (rw [if_pos (show (σ.1.1 600 1) ≤ σ.2 from c95)] at hp); (try simp only [if_pos (show (σ.1.1 600 1) ≤ σ.2 from c95)] at k)
    exact hc.elim
  · (try rw [if_neg (show ¬ ((σ.1.1 600 1) ≤ σ.2) from c95)] at hc); (rw [if_neg (show ¬ ((σ.1.1 600 1) ≤ σ.2) from c95)] at hp); (try simp only [if_neg (show ¬ ((σ.1.1 600 1) ≤ σ.2) from c95)] at k)
    refine j_iload_n g (i := 2) (by decide +kernel) rfl ?_
    refine j_iconst g (n := 2) (2) (by decide +kernel) rfl ?_
    refine j_icmp_eq g (off := 8) (tgt := 108) (by decide +kernel) (by decide) (fun c100 => ?_) (fun c100 => ?_)
    · (try rw [if_pos (show x2 = 2 from c100)] at hc); (rw [if_pos (show x2 = 2 from c100)] at hp); (try simp only [if_pos (show x2 = 2 from c100)] at k)
      refine j_aload_n g (i := 0) (by decide +kernel) rfl ?_
      refine j_gA g (b := 607) f8_28 (by decide +kernel) (by decide +kernel) (by decide +kernel) (by decide +kernel) ?_
      refine j_aload_n g (i := 0) (by decide +kernel) rfl ?_
      refine j_gI g f8_240 (by decide +kernel) (by decide +kernel) (by decide +kernel) ?_
      refine j_iconst g (n := 3) (3) (by decide +kernel) rfl ?_
      refine j_iadd g (by decide +kernel) ?_
      refine j_iload g (i := 5) (by decide +kernel) rfl ?_
      refine j_iadd g (by decide +kernel) ?_
      obtain ⟨h0, hp⟩ := hp
      refine j_ia g 44 (by decide +kernel) (by decide +kernel) (by decide +kernel) h0 ?_
      refine j_iload g (i := 4) (by decide +kernel) rfl ?_
      refine j_icmp_ne g (off := 7) (tgt := 131) (by decide +kernel) (by decide) (fun c124 => ?_) (fun c124 => ?_)
      · (try rw [if_pos (show ¬ (σ.1.1 607 (Int32.toNatClampNeg (((σ.1.1 600 10) + 3) + σ.2))) = x4 from c124)] at hc); (rw [if_pos (show ¬ (σ.1.1 607 (Int32.toNatClampNeg (((σ.1.1 600 10) + 3) + σ.2))) = x4 from c124)] at hp); (try simp only [if_pos (show ¬ (σ.1.1 607 (Int32.toNatClampNeg (((σ.1.1 600 10) + 3) + σ.2))) = x4 from c124)] at k)
        refine j_iconst g (n := 0) (0) (by decide +kernel) rfl ?_
        refine j_istore g (i := 6) (by decide +kernel) (by decide) ?_
        dsimp only [stL, clL, hdL]
        refine j_iload g (i := 6) (by decide +kernel) rfl ?_
        refine j_if_ne g (off := 14) (tgt := 150) (by decide +kernel) (by decide) (fun c => absurd c (by first | decide | (intro h; exact h rfl))) (fun _ => ?_)
        refine j_iload g (i := 5) (by decide +kernel) rfl ?_
        refine j_aload_n g (i := 0) (by decide +kernel) rfl ?_
        refine j_iload_n g (i := 1) (by decide +kernel) rfl ?_
        refine j_iconst g (n := 2) (2) (by decide +kernel) rfl ?_
        obtain ⟨h0, hp⟩ := hp
        refine j_cV2r g v8_249 ⟨rfl, by decide⟩ (by decide +kernel) (by decide +kernel) (Nat.le_of_ble_eq_true rfl) (rnX8_its h0) ?_
        refine j_icmp_ne g (off := 18) (tgt := 165) (by decide +kernel) (by decide) (fun c147 => ?_) (fun c147 => ?_)
        · (try rw [if_pos (show ¬ σ.2 = (σ.1.1 603 (Int32.toNatClampNeg (8 * a1 + (2 : Int32)))) from c147)] at hc); (rw [if_pos (show ¬ σ.2 = (σ.1.1 603 (Int32.toNatClampNeg (8 * a1 + (2 : Int32)))) from c147)] at hp); (try simp only [if_pos (show ¬ σ.2 = (σ.1.1 603 (Int32.toNatClampNeg (8 * a1 + (2 : Int32)))) from c147)] at k)
          refine j_iinc g (i := 5) (n := 1) (1) (by decide +kernel) rfl (by decide) rfl ?_
          dsimp only [stL, clL, hdL]
          refine j_goto g (off := -79) (tgt := 89) (by decide +kernel) (by decide) ?_
          exact k _
        · (try rw [if_neg (show ¬ (¬ σ.2 = (σ.1.1 603 (Int32.toNatClampNeg (8 * a1 + (2 : Int32))))) from c147)] at hc); (rw [if_neg (show ¬ (¬ σ.2 = (σ.1.1 603 (Int32.toNatClampNeg (8 * a1 + (2 : Int32))))) from c147)] at hp); (try simp only [if_neg (show ¬ (¬ σ.2 = (σ.1.1 603 (Int32.toNatClampNeg (8 * a1 + (2 : Int32))))) from c147)] at k)
          refine j_aload_n g (i := 0) (by decide +kernel) rfl ?_
          refine j_gA g (b := 607) f8_28 (by decide +kernel) (by decide +kernel) (by decide +kernel) (by decide +kernel) ?_
          refine j_aload_n g (i := 0) (by decide +kernel) rfl ?_
          refine j_gI g f8_240 (by decide +kernel) (by decide +kernel) (by decide +kernel) ?_
          refine j_iconst g (n := 3) (3) (by decide +kernel) rfl ?_
          refine j_iadd g (by decide +kernel) ?_
          refine j_iload g (i := 5) (by decide +kernel) rfl ?_
          refine j_iadd g (by decide +kernel) ?_
          refine j_iload_n g (i := 3) (by decide +kernel) rfl ?_
          obtain ⟨h0, hp⟩ := hp
          refine j_is g 44 (by decide +kernel) (by decide +kernel) (by decide +kernel) h0 ?_
          refine j_iinc g (i := 5) (n := 1) (1) (by decide +kernel) rfl (by decide) rfl ?_
          dsimp only [stL, clL, hdL]
          refine j_goto g (off := -79) (tgt := 89) (by decide +kernel) (by decide) ?_
          exact k _
      · (try rw [if_neg (show ¬ (¬ (σ.1.1 607 (Int32.toNatClampNeg (((σ.1.1 600 10) + 3) + σ.2))) = x4) from c124)] at hc); (rw [if_neg (show ¬ (¬ (σ.1.1 607 (Int32.toNatClampNeg (((σ.1.1 600 10) + 3) + σ.2))) = x4) from c124)] at hp); (try simp only [if_neg (show ¬ (¬ (σ.1.1 607 (Int32.toNatClampNeg (((σ.1.1 600 10) + 3) + σ.2))) = x4) from c124)] at k)
        refine j_iconst g (n := 1) (1) (by decide +kernel) rfl ?_
        refine j_goto g (off := 4) (tgt := 132) (by decide +kernel) (by decide) ?_
        refine j_istore g (i := 6) (by decide +kernel) (by decide) ?_
        dsimp only [stL, clL, hdL]
        refine j_iload g (i := 6) (by decide +kernel) rfl ?_
        refine j_if_ne g (off := 14) (tgt := 150) (by decide +kernel) (by decide) (fun _ => ?_) (fun c => absurd (by first | decide | rfl | exact Int32.le_refl _) c)
        refine j_aload_n g (i := 0) (by decide +kernel) rfl ?_
        refine j_gA g (b := 607) f8_28 (by decide +kernel) (by decide +kernel) (by decide +kernel) (by decide +kernel) ?_
        refine j_aload_n g (i := 0) (by decide +kernel) rfl ?_
        refine j_gI g f8_240 (by decide +kernel) (by decide +kernel) (by decide +kernel) ?_
        refine j_iconst g (n := 3) (3) (by decide +kernel) rfl ?_
        refine j_iadd g (by decide +kernel) ?_
        refine j_iload g (i := 5) (by decide +kernel) rfl ?_
        refine j_iadd g (by decide +kernel) ?_
        refine j_iload_n g (i := 3) (by decide +kernel) rfl ?_
        obtain ⟨h0, hp⟩ := hp
        refine j_is g 44 (by decide +kernel) (by decide +kernel) (by decide +kernel) h0 ?_
        refine j_iinc g (i := 5) (n := 1) (1) (by decide +kernel) rfl (by decide) rfl ?_
        dsimp only [stL, clL, hdL]
        refine j_goto g (off := -79) (tgt := 89) (by decide +kernel) (by decide) ?_
        exact k _
    · (try rw [if_neg (show ¬ (x2 = 2) from c100)] at hc); (rw [if_neg (show ¬ (x2 = 2) from c100)] at hp); (try simp only [if_neg (show ¬ (x2 = 2) from c100)] at k)
      refine j_iload_n g (i := 2) (by decide +kernel) rfl ?_
      refine j_iconst g (n := 4) (4) (by decide +kernel) rfl ?_
      refine j_icmp_ne g (off := 26) (tgt := 131) (by decide +kernel) (by decide) (fun c105 => ?_) (fun c105 => ?_)
      · (try rw [if_pos (show ¬ x2 = 4 from c105)] at hc); (rw [if_pos (show ¬ x2 = 4 from c105)] at hp); (try simp only [if_pos (show ¬ x2 = 4 from c105)] at k)
        refine j_iconst g (n := 0) (0) (by decide +kernel) rfl ?_
        refine j_istore g (i := 6) (by decide +kernel) (by decide) ?_
        dsimp only [stL, clL, hdL]
        refine j_iload g (i := 6) (by decide +kernel) rfl ?_
        refine j_if_ne g (off := 14) (tgt := 150) (by decide +kernel) (by decide) (fun c => absurd c (by first | decide | (intro h; exact h rfl))) (fun _ => ?_)
        refine j_iload g (i := 5) (by decide +kernel) rfl ?_
        refine j_aload_n g (i := 0) (by decide +kernel) rfl ?_
        refine j_iload_n g (i := 1) (by decide +kernel) rfl ?_
        refine j_iconst g (n := 2) (2) (by decide +kernel) rfl ?_
        obtain ⟨h0, hp⟩ := hp
        refine j_cV2r g v8_249 ⟨rfl, by decide⟩ (by decide +kernel) (by decide +kernel) (Nat.le_of_ble_eq_true rfl) (rnX8_its h0) ?_
        refine j_icmp_ne g (off := 18) (tgt := 165) (by decide +kernel) (by decide) (fun c147 => ?_) (fun c147 => ?_)
        · (try rw [if_pos (show ¬ σ.2 = (σ.1.1 603 (Int32.toNatClampNeg (8 * a1 + (2 : Int32)))) from c147)] at hc); (rw [if_pos (show ¬ σ.2 = (σ.1.1 603 (Int32.toNatClampNeg (8 * a1 + (2 : Int32)))) from c147)] at hp); (try simp only [if_pos (show ¬ σ.2 = (σ.1.1 603 (Int32.toNatClampNeg (8 * a1 + (2 : Int32)))) from c147)] at k)
          refine j_iinc g (i := 5) (n := 1) (1) (by decide +kernel) rfl (by decide) rfl ?_
          dsimp only [stL, clL, hdL]
          refine j_goto g (off := -79) (tgt := 89) (by decide +kernel) (by decide) ?_
          exact k _
        · (try rw [if_neg (show ¬ (¬ σ.2 = (σ.1.1 603 (Int32.toNatClampNeg (8 * a1 + (2 : Int32))))) from c147)] at hc); (rw [if_neg (show ¬ (¬ σ.2 = (σ.1.1 603 (Int32.toNatClampNeg (8 * a1 + (2 : Int32))))) from c147)] at hp); (try simp only [if_neg (show ¬ (¬ σ.2 = (σ.1.1 603 (Int32.toNatClampNeg (8 * a1 + (2 : Int32))))) from c147)] at k)
          refine j_aload_n g (i := 0) (by decide +kernel) rfl ?_
          refine j_gA g (b := 607) f8_28 (by decide +kernel) (by decide +kernel) (by decide +kernel) (by decide +kernel) ?_
          refine j_aload_n g (i := 0) (by decide +kernel) rfl ?_
          refine j_gI g f8_240 (by decide +kernel) (by decide +kernel) (by decide +kernel) ?_
          refine j_iconst g (n := 3) (3) (by decide +kernel) rfl ?_
          refine j_iadd g (by decide +kernel) ?_
          refine j_iload g (i := 5) (by decide +kernel) rfl ?_
          refine j_iadd g (by decide +kernel) ?_
          refine j_iload_n g (i := 3) (by decide +kernel) rfl ?_
          obtain ⟨h0, hp⟩ := hp
          refine j_is g 44 (by decide +kernel) (by decide +kernel) (by decide +kernel) h0 ?_
          refine j_iinc g (i := 5) (n := 1) (1) (by decide +kernel) rfl (by decide) rfl ?_
          dsimp only [stL, clL, hdL]
          refine j_goto g (off := -79) (tgt := 89) (by decide +kernel) (by decide) ?_
          exact k _
      · (try rw [if_neg (show ¬ (¬ x2 = 4) from c105)] at hc); (rw [if_neg (show ¬ (¬ x2 = 4) from c105)] at hp); (try simp only [if_neg (show ¬ (¬ x2 = 4) from c105)] at k)
        refine j_aload_n g (i := 0) (by decide +kernel) rfl ?_
        refine j_gA g (b := 607) f8_28 (by decide +kernel) (by decide +kernel) (by decide +kernel) (by decide +kernel) ?_
        refine j_aload_n g (i := 0) (by decide +kernel) rfl ?_
        refine j_gI g f8_240 (by decide +kernel) (by decide +kernel) (by decide +kernel) ?_
        refine j_iconst g (n := 3) (3) (by decide +kernel) rfl ?_
        refine j_iadd g (by decide +kernel) ?_
        refine j_iload g (i := 5) (by decide +kernel) rfl ?_
        refine j_iadd g (by decide +kernel) ?_
        obtain ⟨h0, hp⟩ := hp
        refine j_ia g 44 (by decide +kernel) (by decide +kernel) (by decide +kernel) h0 ?_
        refine j_iload g (i := 4) (by decide +kernel) rfl ?_
        refine j_icmp_ne g (off := 7) (tgt := 131) (by decide +kernel) (by decide) (fun c124 => ?_) (fun c124 => ?_)
        · (try rw [if_pos (show ¬ (σ.1.1 607 (Int32.toNatClampNeg (((σ.1.1 600 10) + 3) + σ.2))) = x4 from c124)] at hc); (rw [if_pos (show ¬ (σ.1.1 607 (Int32.toNatClampNeg (((σ.1.1 600 10) + 3) + σ.2))) = x4 from c124)] at hp); (try simp only [if_pos (show ¬ (σ.1.1 607 (Int32.toNatClampNeg (((σ.1.1 600 10) + 3) + σ.2))) = x4 from c124)] at k)
          refine j_iconst g (n := 0) (0) (by decide +kernel) rfl ?_
          refine j_istore g (i := 6) (by decide +kernel) (by decide) ?_
          dsimp only [stL, clL, hdL]
          refine j_iload g (i := 6) (by decide +kernel) rfl ?_
          refine j_if_ne g (off := 14) (tgt := 150) (by decide +kernel) (by decide) (fun c => absurd c (by first | decide | (intro h; exact h rfl))) (fun _ => ?_)
          refine j_iload g (i := 5) (by decide +kernel) rfl ?_
          refine j_aload_n g (i := 0) (by decide +kernel) rfl ?_
          refine j_iload_n g (i := 1) (by decide +kernel) rfl ?_
          refine j_iconst g (n := 2) (2) (by decide +kernel) rfl ?_
          obtain ⟨h0, hp⟩ := hp
          refine j_cV2r g v8_249 ⟨rfl, by decide⟩ (by decide +kernel) (by decide +kernel) (Nat.le_of_ble_eq_true rfl) (rnX8_its h0) ?_
          refine j_icmp_ne g (off := 18) (tgt := 165) (by decide +kernel) (by decide) (fun c147 => ?_) (fun c147 => ?_)
          · (try rw [if_pos (show ¬ σ.2 = (σ.1.1 603 (Int32.toNatClampNeg (8 * a1 + (2 : Int32)))) from c147)] at hc); (rw [if_pos (show ¬ σ.2 = (σ.1.1 603 (Int32.toNatClampNeg (8 * a1 + (2 : Int32)))) from c147)] at hp); (try simp only [if_pos (show ¬ σ.2 = (σ.1.1 603 (Int32.toNatClampNeg (8 * a1 + (2 : Int32)))) from c147)] at k)
            refine j_iinc g (i := 5) (n := 1) (1) (by decide +kernel) rfl (by decide) rfl ?_
            dsimp only [stL, clL, hdL]
            refine j_goto g (off := -79) (tgt := 89) (by decide +kernel) (by decide) ?_
            exact k _
          · (try rw [if_neg (show ¬ (¬ σ.2 = (σ.1.1 603 (Int32.toNatClampNeg (8 * a1 + (2 : Int32))))) from c147)] at hc); (rw [if_neg (show ¬ (¬ σ.2 = (σ.1.1 603 (Int32.toNatClampNeg (8 * a1 + (2 : Int32))))) from c147)] at hp); (try simp only [if_neg (show ¬ (¬ σ.2 = (σ.1.1 603 (Int32.toNatClampNeg (8 * a1 + (2 : Int32))))) from c147)] at k)
            refine j_aload_n g (i := 0) (by decide +kernel) rfl ?_
            refine j_gA g (b := 607) f8_28 (by decide +kernel) (by decide +kernel) (by decide +kernel) (by decide +kernel) ?_
            refine j_aload_n g (i := 0) (by decide +kernel) rfl ?_
            refine j_gI g f8_240 (by decide +kernel) (by decide +kernel) (by decide +kernel) ?_
            refine j_iconst g (n := 3) (3) (by decide +kernel) rfl ?_
            refine j_iadd g (by decide +kernel) ?_
            refine j_iload g (i := 5) (by decide +kernel) rfl ?_
            refine j_iadd g (by decide +kernel) ?_
            refine j_iload_n g (i := 3) (by decide +kernel) rfl ?_
            obtain ⟨h0, hp⟩ := hp
            refine j_is g 44 (by decide +kernel) (by decide +kernel) (by decide +kernel) h0 ?_
            refine j_iinc g (i := 5) (n := 1) (1) (by decide +kernel) rfl (by decide) rfl ?_
            dsimp only [stL, clL, hdL]
            refine j_goto g (off := -79) (tgt := 89) (by decide +kernel) (by decide) ?_
            exact k _
        · (try rw [if_neg (show ¬ (¬ (σ.1.1 607 (Int32.toNatClampNeg (((σ.1.1 600 10) + 3) + σ.2))) = x4) from c124)] at hc); (rw [if_neg (show ¬ (¬ (σ.1.1 607 (Int32.toNatClampNeg (((σ.1.1 600 10) + 3) + σ.2))) = x4) from c124)] at hp); (try simp only [if_neg (show ¬ (¬ (σ.1.1 607 (Int32.toNatClampNeg (((σ.1.1 600 10) + 3) + σ.2))) = x4) from c124)] at k)
          refine j_iconst g (n := 1) (1) (by decide +kernel) rfl ?_
          refine j_goto g (off := 4) (tgt := 132) (by decide +kernel) (by decide) ?_
          refine j_istore g (i := 6) (by decide +kernel) (by decide) ?_
          dsimp only [stL, clL, hdL]
          refine j_iload g (i := 6) (by decide +kernel) rfl ?_
          refine j_if_ne g (off := 14) (tgt := 150) (by decide +kernel) (by decide) (fun _ => ?_) (fun c => absurd (by first | decide | rfl | exact Int32.le_refl _) c)
          refine j_aload_n g (i := 0) (by decide +kernel) rfl ?_
          refine j_gA g (b := 607) f8_28 (by decide +kernel) (by decide +kernel) (by decide +kernel) (by decide +kernel) ?_
          refine j_aload_n g (i := 0) (by decide +kernel) rfl ?_
          refine j_gI g f8_240 (by decide +kernel) (by decide +kernel) (by decide +kernel) ?_
          refine j_iconst g (n := 3) (3) (by decide +kernel) rfl ?_
          refine j_iadd g (by decide +kernel) ?_
          refine j_iload g (i := 5) (by decide +kernel) rfl ?_
          refine j_iadd g (by decide +kernel) ?_
          refine j_iload_n g (i := 3) (by decide +kernel) rfl ?_
          obtain ⟨h0, hp⟩ := hp
          refine j_is g 44 (by decide +kernel) (by decide +kernel) (by decide +kernel) h0 ?_
          refine j_iinc g (i := 5) (n := 1) (1) (by decide +kernel) rfl (by decide) rfl ?_
          dsimp only [stL, clL, hdL]
          refine j_goto g (off := -79) (tgt := 89) (by decide +kernel) (by decide) ?_
          exact k _
theorem sh_X8_moves_89 {d : Nat} {J : Nat → Lc → List Value → Mm → Prop} {a1 : Int32} {x2 : Int32} {x3 : Int32} {x4 : Int32} {σ0 : Mm × Int32}  (g : Good mX8_moves.1 mX8_moves.2.2.1 mX8_moves.2.2.2.1 (d + 2) J) : ∀ (N : Nat), (∀ k, k < N → c_X8_moves_89 a1 x2 x3 x4 (l_X8_moves_89 a1 x2 x3 x4 σ0 k)) → (∀ k, k < N → q_X8_moves_89 a1 x2 x3 x4 (l_X8_moves_89 a1 x2 x3 x4 σ0 k)) → (∀ (j6 : Option Value), J 89 [some (.ref 600), some (.int a1), some (.int x2), some (.int x3), some (.int x4), some (.int ((l_X8_moves_89 a1 x2 x3 x4 σ0 N).2)), j6] [] ((l_X8_moves_89 a1 x2 x3 x4 σ0 N).1)) → ∀ (j6 : Option Value), J 89 [some (.ref 600), some (.int a1), some (.int x2), some (.int x3), some (.int x4), some (.int σ0.2), j6] [] σ0.1
  | 0, _, _, k => k
  | N + 1, hc, hp, k => sh_X8_moves_89  g N (fun i hi => hc i (Nat.lt_succ_of_lt hi)) (fun i hi => hp i (Nat.lt_succ_of_lt hi)) (ps_X8_moves_89  g (hc N (Nat.lt_succ_self N)) (hp N (Nat.lt_succ_self N)) k)
noncomputable def w_X8_moves_86 (M : Mm) (a1 : Int32) (x2 : Int32) (x3 : Int32) (x4 : Int32) : Mm := if ((l_X8_moves_89 a1 x2 x3 x4 (M, 0) (Int32.toNatClampNeg (M.1 600 1))).1.1 600 1) ≤ ((l_X8_moves_89 a1 x2 x3 x4 (M, 0) (Int32.toNatClampNeg (M.1 600 1))).2) then (l_X8_moves_89 a1 x2 x3 x4 (M, 0) (Int32.toNatClampNeg (M.1 600 1))).1 else M
def p_X8_moves_86 (M : Mm) (a1 : Int32) (x2 : Int32) (x3 : Int32) (x4 : Int32) : Prop := (∀ k, k < (Int32.toNatClampNeg (M.1 600 1)) → c_X8_moves_89 a1 x2 x3 x4 (l_X8_moves_89 a1 x2 x3 x4 (M, 0) k)) ∧ (∀ k, k < (Int32.toNatClampNeg (M.1 600 1)) → q_X8_moves_89 a1 x2 x3 x4 (l_X8_moves_89 a1 x2 x3 x4 (M, 0) k)) ∧ (¬ c_X8_moves_89 a1 x2 x3 x4 (l_X8_moves_89 a1 x2 x3 x4 (M, 0) (Int32.toNatClampNeg (M.1 600 1)))) ∧ (if ((l_X8_moves_89 a1 x2 x3 x4 (M, 0) (Int32.toNatClampNeg (M.1 600 1))).1.1 600 1) ≤ ((l_X8_moves_89 a1 x2 x3 x4 (M, 0) (Int32.toNatClampNeg (M.1 600 1))).2) then True else (if x2 = 2 then (vp_in ((((l_X8_moves_89 a1 x2 x3 x4 (M, 0) (Int32.toNatClampNeg (M.1 600 1))).1.1 600 10) + 3) + ((l_X8_moves_89 a1 x2 x3 x4 (M, 0) (Int32.toNatClampNeg (M.1 600 1))).2)) 44) ∧ (if ¬ ((l_X8_moves_89 a1 x2 x3 x4 (M, 0) (Int32.toNatClampNeg (M.1 600 1))).1.1 607 (Int32.toNatClampNeg ((((l_X8_moves_89 a1 x2 x3 x4 (M, 0) (Int32.toNatClampNeg (M.1 600 1))).1.1 600 10) + 3) + ((l_X8_moves_89 a1 x2 x3 x4 (M, 0) (Int32.toNatClampNeg (M.1 600 1))).2)))) = x4 then (vp_in (8 * a1 + (2 : Int32)) 48) ∧ (if ¬ ((l_X8_moves_89 a1 x2 x3 x4 (M, 0) (Int32.toNatClampNeg (M.1 600 1))).2) = ((l_X8_moves_89 a1 x2 x3 x4 (M, 0) (Int32.toNatClampNeg (M.1 600 1))).1.1 603 (Int32.toNatClampNeg (8 * a1 + (2 : Int32)))) then True else (vp_in ((((l_X8_moves_89 a1 x2 x3 x4 (M, 0) (Int32.toNatClampNeg (M.1 600 1))).1.1 600 10) + 3) + ((l_X8_moves_89 a1 x2 x3 x4 (M, 0) (Int32.toNatClampNeg (M.1 600 1))).2)) 44) ∧ True) else (vp_in ((((l_X8_moves_89 a1 x2 x3 x4 (M, 0) (Int32.toNatClampNeg (M.1 600 1))).1.1 600 10) + 3) + ((l_X8_moves_89 a1 x2 x3 x4 (M, 0) (Int32.toNatClampNeg (M.1 600 1))).2)) 44) ∧ True) else (if ¬ x2 = 4 then (vp_in (8 * a1 + (2 : Int32)) 48) ∧ (if ¬ ((l_X8_moves_89 a1 x2 x3 x4 (M, 0) (Int32.toNatClampNeg (M.1 600 1))).2) = ((l_X8_moves_89 a1 x2 x3 x4 (M, 0) (Int32.toNatClampNeg (M.1 600 1))).1.1 603 (Int32.toNatClampNeg (8 * a1 + (2 : Int32)))) then True else (vp_in ((((l_X8_moves_89 a1 x2 x3 x4 (M, 0) (Int32.toNatClampNeg (M.1 600 1))).1.1 600 10) + 3) + ((l_X8_moves_89 a1 x2 x3 x4 (M, 0) (Int32.toNatClampNeg (M.1 600 1))).2)) 44) ∧ True) else (vp_in ((((l_X8_moves_89 a1 x2 x3 x4 (M, 0) (Int32.toNatClampNeg (M.1 600 1))).1.1 600 10) + 3) + ((l_X8_moves_89 a1 x2 x3 x4 (M, 0) (Int32.toNatClampNeg (M.1 600 1))).2)) 44) ∧ (if ¬ ((l_X8_moves_89 a1 x2 x3 x4 (M, 0) (Int32.toNatClampNeg (M.1 600 1))).1.1 607 (Int32.toNatClampNeg ((((l_X8_moves_89 a1 x2 x3 x4 (M, 0) (Int32.toNatClampNeg (M.1 600 1))).1.1 600 10) + 3) + ((l_X8_moves_89 a1 x2 x3 x4 (M, 0) (Int32.toNatClampNeg (M.1 600 1))).2)))) = x4 then (vp_in (8 * a1 + (2 : Int32)) 48) ∧ (if ¬ ((l_X8_moves_89 a1 x2 x3 x4 (M, 0) (Int32.toNatClampNeg (M.1 600 1))).2) = ((l_X8_moves_89 a1 x2 x3 x4 (M, 0) (Int32.toNatClampNeg (M.1 600 1))).1.1 603 (Int32.toNatClampNeg (8 * a1 + (2 : Int32)))) then True else (vp_in ((((l_X8_moves_89 a1 x2 x3 x4 (M, 0) (Int32.toNatClampNeg (M.1 600 1))).1.1 600 10) + 3) + ((l_X8_moves_89 a1 x2 x3 x4 (M, 0) (Int32.toNatClampNeg (M.1 600 1))).2)) 44) ∧ True) else (vp_in ((((l_X8_moves_89 a1 x2 x3 x4 (M, 0) (Int32.toNatClampNeg (M.1 600 1))).1.1 600 10) + 3) + ((l_X8_moves_89 a1 x2 x3 x4 (M, 0) (Int32.toNatClampNeg (M.1 600 1))).2)) 44) ∧ True))))
theorem jn_X8_moves_86 {d : Nat} {J : Nat → Lc → List Value → Mm → Prop} {M : Mm} {a1 : Int32} {x2 : Int32} {x3 : Int32} {x4 : Int32}  (g : Good mX8_moves.1 mX8_moves.2.2.1 mX8_moves.2.2.2.1 (d + 2) J) {rv : Option Value} {M1 : Mm} (hr : Ret mX8_moves.2.2.1 mX8_moves.2.2.2.2 rv M1 J) (hp : p_X8_moves_86 M a1 x2 x3 x4) (hrv : rv = none) (hmm : M1 = w_X8_moves_86 M a1 x2 x3 x4) : J 86 [some (.ref 600), some (.int a1), some (.int x2), some (.int x3), some (.int x4), none, none] [] M := by
  unfold p_X8_moves_86 at hp
  refine j_iconst g (n := 0) (0) (by decide +kernel) rfl ?_
  refine j_istore g (i := 5) (by decide +kernel) (by decide) ?_
  dsimp only [stL, clL, hdL]
  obtain ⟨h0, hp⟩ := hp
  have hc_89_1 := h0
  obtain ⟨h0, hp⟩ := hp
  have hq_89_1 := h0
  obtain ⟨h0, hp⟩ := hp
  have hx_89_1 := h0
  refine sh_X8_moves_89 (x2 := x2) (x3 := x3) (x4 := x4)  g (σ0 := (M, 0)) (Int32.toNatClampNeg (M.1 600 1)) hc_89_1 hq_89_1 ?_ _
  intro j6_1
  refine j_iload g (i := 5) (by decide +kernel) rfl ?_
  refine j_aload_n g (i := 0) (by decide +kernel) rfl ?_
  refine j_gI g f8_228 (by decide +kernel) (by decide +kernel) (by decide +kernel) ?_
  refine j_icmp_ge g (off := 76) (tgt := 171) (by decide +kernel) (by decide) (fun c95 => ?_) (fun c95 => ?_)
  · rw [if_pos (show ((l_X8_moves_89 a1 x2 x3 x4 (M, 0) (Int32.toNatClampNeg (M.1 600 1))).1.1 600 1) ≤ ((l_X8_moves_89 a1 x2 x3 x4 (M, 0) (Int32.toNatClampNeg (M.1 600 1))).2) from c95)] at hp
    refine hr.2.2.2 _ _ _ (by decide +kernel) rfl hrv ?_
    · rw [hmm]; unfold w_X8_moves_86; first | (simp only [if_pos (show ((l_X8_moves_89 a1 x2 x3 x4 (M, 0) (Int32.toNatClampNeg (M.1 600 1))).1.1 600 1) ≤ ((l_X8_moves_89 a1 x2 x3 x4 (M, 0) (Int32.toNatClampNeg (M.1 600 1))).2) from c95)]; done) | (simp only [if_pos (show ((l_X8_moves_89 a1 x2 x3 x4 (M, 0) (Int32.toNatClampNeg (M.1 600 1))).1.1 600 1) ≤ ((l_X8_moves_89 a1 x2 x3 x4 (M, 0) (Int32.toNatClampNeg (M.1 600 1))).2) from c95)]; rfl) | rfl
  · rw [if_neg (show ¬ (((l_X8_moves_89 a1 x2 x3 x4 (M, 0) (Int32.toNatClampNeg (M.1 600 1))).1.1 600 1) ≤ ((l_X8_moves_89 a1 x2 x3 x4 (M, 0) (Int32.toNatClampNeg (M.1 600 1))).2)) from c95)] at hp
    refine j_iload_n g (i := 2) (by decide +kernel) rfl ?_
    refine j_iconst g (n := 2) (2) (by decide +kernel) rfl ?_
    refine j_icmp_eq g (off := 8) (tgt := 108) (by decide +kernel) (by decide) (fun c100 => ?_) (fun c100 => ?_)
    · rw [if_pos (show x2 = 2 from c100)] at hp
      refine j_aload_n g (i := 0) (by decide +kernel) rfl ?_
      refine j_gA g (b := 607) f8_28 (by decide +kernel) (by decide +kernel) (by decide +kernel) (by decide +kernel) ?_
      refine j_aload_n g (i := 0) (by decide +kernel) rfl ?_
      refine j_gI g f8_240 (by decide +kernel) (by decide +kernel) (by decide +kernel) ?_
      refine j_iconst g (n := 3) (3) (by decide +kernel) rfl ?_
      refine j_iadd g (by decide +kernel) ?_
      refine j_iload g (i := 5) (by decide +kernel) rfl ?_
      refine j_iadd g (by decide +kernel) ?_
      obtain ⟨h0, hp⟩ := hp
      refine j_ia g 44 (by decide +kernel) (by decide +kernel) (by decide +kernel) h0 ?_
      refine j_iload g (i := 4) (by decide +kernel) rfl ?_
      refine j_icmp_ne g (off := 7) (tgt := 131) (by decide +kernel) (by decide) (fun c124 => ?_) (fun c124 => ?_)
      · rw [if_pos (show ¬ ((l_X8_moves_89 a1 x2 x3 x4 (M, 0) (Int32.toNatClampNeg (M.1 600 1))).1.1 607 (Int32.toNatClampNeg ((((l_X8_moves_89 a1 x2 x3 x4 (M, 0) (Int32.toNatClampNeg (M.1 600 1))).1.1 600 10) + 3) + ((l_X8_moves_89 a1 x2 x3 x4 (M, 0) (Int32.toNatClampNeg (M.1 600 1))).2)))) = x4 from c124)] at hp
        refine j_iconst g (n := 0) (0) (by decide +kernel) rfl ?_
        refine j_istore g (i := 6) (by decide +kernel) (by decide) ?_
        dsimp only [stL, clL, hdL]
        refine j_iload g (i := 6) (by decide +kernel) rfl ?_
        refine j_if_ne g (off := 14) (tgt := 150) (by decide +kernel) (by decide) (fun c => absurd c (by first | decide | (intro h; exact h rfl))) (fun _ => ?_)
        refine j_iload g (i := 5) (by decide +kernel) rfl ?_
        refine j_aload_n g (i := 0) (by decide +kernel) rfl ?_
        refine j_iload_n g (i := 1) (by decide +kernel) rfl ?_
        refine j_iconst g (n := 2) (2) (by decide +kernel) rfl ?_
        obtain ⟨h0, hp⟩ := hp
        refine j_cV2r g v8_249 ⟨rfl, by decide⟩ (by decide +kernel) (by decide +kernel) (Nat.le_of_ble_eq_true rfl) (rnX8_its h0) ?_
        refine j_icmp_ne g (off := 18) (tgt := 165) (by decide +kernel) (by decide) (fun c147 => ?_) (fun c147 => ?_)
        · rw [if_pos (show ¬ ((l_X8_moves_89 a1 x2 x3 x4 (M, 0) (Int32.toNatClampNeg (M.1 600 1))).2) = ((l_X8_moves_89 a1 x2 x3 x4 (M, 0) (Int32.toNatClampNeg (M.1 600 1))).1.1 603 (Int32.toNatClampNeg (8 * a1 + (2 : Int32)))) from c147)] at hp
          refine j_iinc g (i := 5) (n := 1) (1) (by decide +kernel) rfl (by decide) rfl ?_
          dsimp only [stL, clL, hdL]
          refine j_goto g (off := -79) (tgt := 89) (by decide +kernel) (by decide) ?_
          refine absurd (ci_X8_moves_89.mpr ?_) hx_89_1
          simp only [if_neg (show ¬ (((l_X8_moves_89 a1 x2 x3 x4 (M, 0) (Int32.toNatClampNeg (M.1 600 1))).1.1 600 1) ≤ ((l_X8_moves_89 a1 x2 x3 x4 (M, 0) (Int32.toNatClampNeg (M.1 600 1))).2)) from c95), if_pos (show x2 = 2 from c100), if_pos (show ¬ ((l_X8_moves_89 a1 x2 x3 x4 (M, 0) (Int32.toNatClampNeg (M.1 600 1))).1.1 607 (Int32.toNatClampNeg ((((l_X8_moves_89 a1 x2 x3 x4 (M, 0) (Int32.toNatClampNeg (M.1 600 1))).1.1 600 10) + 3) + ((l_X8_moves_89 a1 x2 x3 x4 (M, 0) (Int32.toNatClampNeg (M.1 600 1))).2)))) = x4 from c124), if_pos (show ¬ ((l_X8_moves_89 a1 x2 x3 x4 (M, 0) (Int32.toNatClampNeg (M.1 600 1))).2) = ((l_X8_moves_89 a1 x2 x3 x4 (M, 0) (Int32.toNatClampNeg (M.1 600 1))).1.1 603 (Int32.toNatClampNeg (8 * a1 + (2 : Int32)))) from c147)]
        · rw [if_neg (show ¬ (¬ ((l_X8_moves_89 a1 x2 x3 x4 (M, 0) (Int32.toNatClampNeg (M.1 600 1))).2) = ((l_X8_moves_89 a1 x2 x3 x4 (M, 0) (Int32.toNatClampNeg (M.1 600 1))).1.1 603 (Int32.toNatClampNeg (8 * a1 + (2 : Int32))))) from c147)] at hp
          refine j_aload_n g (i := 0) (by decide +kernel) rfl ?_
          refine j_gA g (b := 607) f8_28 (by decide +kernel) (by decide +kernel) (by decide +kernel) (by decide +kernel) ?_
          refine j_aload_n g (i := 0) (by decide +kernel) rfl ?_
          refine j_gI g f8_240 (by decide +kernel) (by decide +kernel) (by decide +kernel) ?_
          refine j_iconst g (n := 3) (3) (by decide +kernel) rfl ?_
          refine j_iadd g (by decide +kernel) ?_
          refine j_iload g (i := 5) (by decide +kernel) rfl ?_
          refine j_iadd g (by decide +kernel) ?_
          refine j_iload_n g (i := 3) (by decide +kernel) rfl ?_
          obtain ⟨h0, hp⟩ := hp
          refine j_is g 44 (by decide +kernel) (by decide +kernel) (by decide +kernel) h0 ?_
          refine j_iinc g (i := 5) (n := 1) (1) (by decide +kernel) rfl (by decide) rfl ?_
          dsimp only [stL, clL, hdL]
          refine j_goto g (off := -79) (tgt := 89) (by decide +kernel) (by decide) ?_
          refine absurd (ci_X8_moves_89.mpr ?_) hx_89_1
          simp only [if_neg (show ¬ (((l_X8_moves_89 a1 x2 x3 x4 (M, 0) (Int32.toNatClampNeg (M.1 600 1))).1.1 600 1) ≤ ((l_X8_moves_89 a1 x2 x3 x4 (M, 0) (Int32.toNatClampNeg (M.1 600 1))).2)) from c95), if_pos (show x2 = 2 from c100), if_pos (show ¬ ((l_X8_moves_89 a1 x2 x3 x4 (M, 0) (Int32.toNatClampNeg (M.1 600 1))).1.1 607 (Int32.toNatClampNeg ((((l_X8_moves_89 a1 x2 x3 x4 (M, 0) (Int32.toNatClampNeg (M.1 600 1))).1.1 600 10) + 3) + ((l_X8_moves_89 a1 x2 x3 x4 (M, 0) (Int32.toNatClampNeg (M.1 600 1))).2)))) = x4 from c124), if_neg (show ¬ (¬ ((l_X8_moves_89 a1 x2 x3 x4 (M, 0) (Int32.toNatClampNeg (M.1 600 1))).2) = ((l_X8_moves_89 a1 x2 x3 x4 (M, 0) (Int32.toNatClampNeg (M.1 600 1))).1.1 603 (Int32.toNatClampNeg (8 * a1 + (2 : Int32))))) from c147)]
      · rw [if_neg (show ¬ (¬ ((l_X8_moves_89 a1 x2 x3 x4 (M, 0) (Int32.toNatClampNeg (M.1 600 1))).1.1 607 (Int32.toNatClampNeg ((((l_X8_moves_89 a1 x2 x3 x4 (M, 0) (Int32.toNatClampNeg (M.1 600 1))).1.1 600 10) + 3) + ((l_X8_moves_89 a1 x2 x3 x4 (M, 0) (Int32.toNatClampNeg (M.1 600 1))).2)))) = x4) from c124)] at hp
        refine j_iconst g (n := 1) (1) (by decide +kernel) rfl ?_
        refine j_goto g (off := 4) (tgt := 132) (by decide +kernel) (by decide) ?_
        refine j_istore g (i := 6) (by decide +kernel) (by decide) ?_
        dsimp only [stL, clL, hdL]
        refine j_iload g (i := 6) (by decide +kernel) rfl ?_
        refine j_if_ne g (off := 14) (tgt := 150) (by decide +kernel) (by decide) (fun _ => ?_) (fun c => absurd (by first | decide | rfl | exact Int32.le_refl _) c)
        refine j_aload_n g (i := 0) (by decide +kernel) rfl ?_
        refine j_gA g (b := 607) f8_28 (by decide +kernel) (by decide +kernel) (by decide +kernel) (by decide +kernel) ?_
        refine j_aload_n g (i := 0) (by decide +kernel) rfl ?_
        refine j_gI g f8_240 (by decide +kernel) (by decide +kernel) (by decide +kernel) ?_
        refine j_iconst g (n := 3) (3) (by decide +kernel) rfl ?_
        refine j_iadd g (by decide +kernel) ?_
        refine j_iload g (i := 5) (by decide +kernel) rfl ?_
        refine j_iadd g (by decide +kernel) ?_
        refine j_iload_n g (i := 3) (by decide +kernel) rfl ?_
        obtain ⟨h0, hp⟩ := hp
        refine j_is g 44 (by decide +kernel) (by decide +kernel) (by decide +kernel) h0 ?_
        refine j_iinc g (i := 5) (n := 1) (1) (by decide +kernel) rfl (by decide) rfl ?_
        dsimp only [stL, clL, hdL]
        refine j_goto g (off := -79) (tgt := 89) (by decide +kernel) (by decide) ?_
        refine absurd (ci_X8_moves_89.mpr ?_) hx_89_1
        simp only [if_neg (show ¬ (((l_X8_moves_89 a1 x2 x3 x4 (M, 0) (Int32.toNatClampNeg (M.1 600 1))).1.1 600 1) ≤ ((l_X8_moves_89 a1 x2 x3 x4 (M, 0) (Int32.toNatClampNeg (M.1 600 1))).2)) from c95), if_pos (show x2 = 2 from c100), if_neg (show ¬ (¬ ((l_X8_moves_89 a1 x2 x3 x4 (M, 0) (Int32.toNatClampNeg (M.1 600 1))).1.1 607 (Int32.toNatClampNeg ((((l_X8_moves_89 a1 x2 x3 x4 (M, 0) (Int32.toNatClampNeg (M.1 600 1))).1.1 600 10) + 3) + ((l_X8_moves_89 a1 x2 x3 x4 (M, 0) (Int32.toNatClampNeg (M.1 600 1))).2)))) = x4) from c124)]
    · rw [if_neg (show ¬ (x2 = 2) from c100)] at hp
      refine j_iload_n g (i := 2) (by decide +kernel) rfl ?_
      refine j_iconst g (n := 4) (4) (by decide +kernel) rfl ?_
      refine j_icmp_ne g (off := 26) (tgt := 131) (by decide +kernel) (by decide) (fun c105 => ?_) (fun c105 => ?_)
      · rw [if_pos (show ¬ x2 = 4 from c105)] at hp
        refine j_iconst g (n := 0) (0) (by decide +kernel) rfl ?_
        refine j_istore g (i := 6) (by decide +kernel) (by decide) ?_
        dsimp only [stL, clL, hdL]
        refine j_iload g (i := 6) (by decide +kernel) rfl ?_
        refine j_if_ne g (off := 14) (tgt := 150) (by decide +kernel) (by decide) (fun c => absurd c (by first | decide | (intro h; exact h rfl))) (fun _ => ?_)
        refine j_iload g (i := 5) (by decide +kernel) rfl ?_
        refine j_aload_n g (i := 0) (by decide +kernel) rfl ?_
        refine j_iload_n g (i := 1) (by decide +kernel) rfl ?_
        refine j_iconst g (n := 2) (2) (by decide +kernel) rfl ?_
        obtain ⟨h0, hp⟩ := hp
        refine j_cV2r g v8_249 ⟨rfl, by decide⟩ (by decide +kernel) (by decide +kernel) (Nat.le_of_ble_eq_true rfl) (rnX8_its h0) ?_
        refine j_icmp_ne g (off := 18) (tgt := 165) (by decide +kernel) (by decide) (fun c147 => ?_) (fun c147 => ?_)
        · rw [if_pos (show ¬ ((l_X8_moves_89 a1 x2 x3 x4 (M, 0) (Int32.toNatClampNeg (M.1 600 1))).2) = ((l_X8_moves_89 a1 x2 x3 x4 (M, 0) (Int32.toNatClampNeg (M.1 600 1))).1.1 603 (Int32.toNatClampNeg (8 * a1 + (2 : Int32)))) from c147)] at hp
          refine j_iinc g (i := 5) (n := 1) (1) (by decide +kernel) rfl (by decide) rfl ?_
          dsimp only [stL, clL, hdL]
          refine j_goto g (off := -79) (tgt := 89) (by decide +kernel) (by decide) ?_
          refine absurd (ci_X8_moves_89.mpr ?_) hx_89_1
          simp only [if_neg (show ¬ (((l_X8_moves_89 a1 x2 x3 x4 (M, 0) (Int32.toNatClampNeg (M.1 600 1))).1.1 600 1) ≤ ((l_X8_moves_89 a1 x2 x3 x4 (M, 0) (Int32.toNatClampNeg (M.1 600 1))).2)) from c95), if_neg (show ¬ (x2 = 2) from c100), if_pos (show ¬ x2 = 4 from c105), if_pos (show ¬ ((l_X8_moves_89 a1 x2 x3 x4 (M, 0) (Int32.toNatClampNeg (M.1 600 1))).2) = ((l_X8_moves_89 a1 x2 x3 x4 (M, 0) (Int32.toNatClampNeg (M.1 600 1))).1.1 603 (Int32.toNatClampNeg (8 * a1 + (2 : Int32)))) from c147)]
        · rw [if_neg (show ¬ (¬ ((l_X8_moves_89 a1 x2 x3 x4 (M, 0) (Int32.toNatClampNeg (M.1 600 1))).2) = ((l_X8_moves_89 a1 x2 x3 x4 (M, 0) (Int32.toNatClampNeg (M.1 600 1))).1.1 603 (Int32.toNatClampNeg (8 * a1 + (2 : Int32))))) from c147)] at hp
          refine j_aload_n g (i := 0) (by decide +kernel) rfl ?_
          refine j_gA g (b := 607) f8_28 (by decide +kernel) (by decide +kernel) (by decide +kernel) (by decide +kernel) ?_
          refine j_aload_n g (i := 0) (by decide +kernel) rfl ?_
          refine j_gI g f8_240 (by decide +kernel) (by decide +kernel) (by decide +kernel) ?_
          refine j_iconst g (n := 3) (3) (by decide +kernel) rfl ?_
          refine j_iadd g (by decide +kernel) ?_
          refine j_iload g (i := 5) (by decide +kernel) rfl ?_
          refine j_iadd g (by decide +kernel) ?_
          refine j_iload_n g (i := 3) (by decide +kernel) rfl ?_
          obtain ⟨h0, hp⟩ := hp
          refine j_is g 44 (by decide +kernel) (by decide +kernel) (by decide +kernel) h0 ?_
          refine j_iinc g (i := 5) (n := 1) (1) (by decide +kernel) rfl (by decide) rfl ?_
          dsimp only [stL, clL, hdL]
          refine j_goto g (off := -79) (tgt := 89) (by decide +kernel) (by decide) ?_
          refine absurd (ci_X8_moves_89.mpr ?_) hx_89_1
          simp only [if_neg (show ¬ (((l_X8_moves_89 a1 x2 x3 x4 (M, 0) (Int32.toNatClampNeg (M.1 600 1))).1.1 600 1) ≤ ((l_X8_moves_89 a1 x2 x3 x4 (M, 0) (Int32.toNatClampNeg (M.1 600 1))).2)) from c95), if_neg (show ¬ (x2 = 2) from c100), if_pos (show ¬ x2 = 4 from c105), if_neg (show ¬ (¬ ((l_X8_moves_89 a1 x2 x3 x4 (M, 0) (Int32.toNatClampNeg (M.1 600 1))).2) = ((l_X8_moves_89 a1 x2 x3 x4 (M, 0) (Int32.toNatClampNeg (M.1 600 1))).1.1 603 (Int32.toNatClampNeg (8 * a1 + (2 : Int32))))) from c147)]
      · rw [if_neg (show ¬ (¬ x2 = 4) from c105)] at hp
        refine j_aload_n g (i := 0) (by decide +kernel) rfl ?_
        refine j_gA g (b := 607) f8_28 (by decide +kernel) (by decide +kernel) (by decide +kernel) (by decide +kernel) ?_
        refine j_aload_n g (i := 0) (by decide +kernel) rfl ?_
        refine j_gI g f8_240 (by decide +kernel) (by decide +kernel) (by decide +kernel) ?_
        refine j_iconst g (n := 3) (3) (by decide +kernel) rfl ?_
        refine j_iadd g (by decide +kernel) ?_
        refine j_iload g (i := 5) (by decide +kernel) rfl ?_
        refine j_iadd g (by decide +kernel) ?_
        obtain ⟨h0, hp⟩ := hp
        refine j_ia g 44 (by decide +kernel) (by decide +kernel) (by decide +kernel) h0 ?_
        refine j_iload g (i := 4) (by decide +kernel) rfl ?_
        refine j_icmp_ne g (off := 7) (tgt := 131) (by decide +kernel) (by decide) (fun c124 => ?_) (fun c124 => ?_)
        · rw [if_pos (show ¬ ((l_X8_moves_89 a1 x2 x3 x4 (M, 0) (Int32.toNatClampNeg (M.1 600 1))).1.1 607 (Int32.toNatClampNeg ((((l_X8_moves_89 a1 x2 x3 x4 (M, 0) (Int32.toNatClampNeg (M.1 600 1))).1.1 600 10) + 3) + ((l_X8_moves_89 a1 x2 x3 x4 (M, 0) (Int32.toNatClampNeg (M.1 600 1))).2)))) = x4 from c124)] at hp
          refine j_iconst g (n := 0) (0) (by decide +kernel) rfl ?_
          refine j_istore g (i := 6) (by decide +kernel) (by decide) ?_
          dsimp only [stL, clL, hdL]
          refine j_iload g (i := 6) (by decide +kernel) rfl ?_
          refine j_if_ne g (off := 14) (tgt := 150) (by decide +kernel) (by decide) (fun c => absurd c (by first | decide | (intro h; exact h rfl))) (fun _ => ?_)
          refine j_iload g (i := 5) (by decide +kernel) rfl ?_
          refine j_aload_n g (i := 0) (by decide +kernel) rfl ?_
          refine j_iload_n g (i := 1) (by decide +kernel) rfl ?_
          refine j_iconst g (n := 2) (2) (by decide +kernel) rfl ?_
          obtain ⟨h0, hp⟩ := hp
          refine j_cV2r g v8_249 ⟨rfl, by decide⟩ (by decide +kernel) (by decide +kernel) (Nat.le_of_ble_eq_true rfl) (rnX8_its h0) ?_
          refine j_icmp_ne g (off := 18) (tgt := 165) (by decide +kernel) (by decide) (fun c147 => ?_) (fun c147 => ?_)
          · rw [if_pos (show ¬ ((l_X8_moves_89 a1 x2 x3 x4 (M, 0) (Int32.toNatClampNeg (M.1 600 1))).2) = ((l_X8_moves_89 a1 x2 x3 x4 (M, 0) (Int32.toNatClampNeg (M.1 600 1))).1.1 603 (Int32.toNatClampNeg (8 * a1 + (2 : Int32)))) from c147)] at hp
            refine j_iinc g (i := 5) (n := 1) (1) (by decide +kernel) rfl (by decide) rfl ?_
            dsimp only [stL, clL, hdL]
            refine j_goto g (off := -79) (tgt := 89) (by decide +kernel) (by decide) ?_
            refine absurd (ci_X8_moves_89.mpr ?_) hx_89_1
            simp only [if_neg (show ¬ (((l_X8_moves_89 a1 x2 x3 x4 (M, 0) (Int32.toNatClampNeg (M.1 600 1))).1.1 600 1) ≤ ((l_X8_moves_89 a1 x2 x3 x4 (M, 0) (Int32.toNatClampNeg (M.1 600 1))).2)) from c95), if_neg (show ¬ (x2 = 2) from c100), if_neg (show ¬ (¬ x2 = 4) from c105), if_pos (show ¬ ((l_X8_moves_89 a1 x2 x3 x4 (M, 0) (Int32.toNatClampNeg (M.1 600 1))).1.1 607 (Int32.toNatClampNeg ((((l_X8_moves_89 a1 x2 x3 x4 (M, 0) (Int32.toNatClampNeg (M.1 600 1))).1.1 600 10) + 3) + ((l_X8_moves_89 a1 x2 x3 x4 (M, 0) (Int32.toNatClampNeg (M.1 600 1))).2)))) = x4 from c124), if_pos (show ¬ ((l_X8_moves_89 a1 x2 x3 x4 (M, 0) (Int32.toNatClampNeg (M.1 600 1))).2) = ((l_X8_moves_89 a1 x2 x3 x4 (M, 0) (Int32.toNatClampNeg (M.1 600 1))).1.1 603 (Int32.toNatClampNeg (8 * a1 + (2 : Int32)))) from c147)]
          · rw [if_neg (show ¬ (¬ ((l_X8_moves_89 a1 x2 x3 x4 (M, 0) (Int32.toNatClampNeg (M.1 600 1))).2) = ((l_X8_moves_89 a1 x2 x3 x4 (M, 0) (Int32.toNatClampNeg (M.1 600 1))).1.1 603 (Int32.toNatClampNeg (8 * a1 + (2 : Int32))))) from c147)] at hp
            refine j_aload_n g (i := 0) (by decide +kernel) rfl ?_
            refine j_gA g (b := 607) f8_28 (by decide +kernel) (by decide +kernel) (by decide +kernel) (by decide +kernel) ?_
            refine j_aload_n g (i := 0) (by decide +kernel) rfl ?_
            refine j_gI g f8_240 (by decide +kernel) (by decide +kernel) (by decide +kernel) ?_
            refine j_iconst g (n := 3) (3) (by decide +kernel) rfl ?_
            refine j_iadd g (by decide +kernel) ?_
            refine j_iload g (i := 5) (by decide +kernel) rfl ?_
            refine j_iadd g (by decide +kernel) ?_
            refine j_iload_n g (i := 3) (by decide +kernel) rfl ?_
            obtain ⟨h0, hp⟩ := hp
            refine j_is g 44 (by decide +kernel) (by decide +kernel) (by decide +kernel) h0 ?_
            refine j_iinc g (i := 5) (n := 1) (1) (by decide +kernel) rfl (by decide) rfl ?_
            dsimp only [stL, clL, hdL]
            refine j_goto g (off := -79) (tgt := 89) (by decide +kernel) (by decide) ?_
            refine absurd (ci_X8_moves_89.mpr ?_) hx_89_1
            simp only [if_neg (show ¬ (((l_X8_moves_89 a1 x2 x3 x4 (M, 0) (Int32.toNatClampNeg (M.1 600 1))).1.1 600 1) ≤ ((l_X8_moves_89 a1 x2 x3 x4 (M, 0) (Int32.toNatClampNeg (M.1 600 1))).2)) from c95), if_neg (show ¬ (x2 = 2) from c100), if_neg (show ¬ (¬ x2 = 4) from c105), if_pos (show ¬ ((l_X8_moves_89 a1 x2 x3 x4 (M, 0) (Int32.toNatClampNeg (M.1 600 1))).1.1 607 (Int32.toNatClampNeg ((((l_X8_moves_89 a1 x2 x3 x4 (M, 0) (Int32.toNatClampNeg (M.1 600 1))).1.1 600 10) + 3) + ((l_X8_moves_89 a1 x2 x3 x4 (M, 0) (Int32.toNatClampNeg (M.1 600 1))).2)))) = x4 from c124), if_neg (show ¬ (¬ ((l_X8_moves_89 a1 x2 x3 x4 (M, 0) (Int32.toNatClampNeg (M.1 600 1))).2) = ((l_X8_moves_89 a1 x2 x3 x4 (M, 0) (Int32.toNatClampNeg (M.1 600 1))).1.1 603 (Int32.toNatClampNeg (8 * a1 + (2 : Int32))))) from c147)]
        · rw [if_neg (show ¬ (¬ ((l_X8_moves_89 a1 x2 x3 x4 (M, 0) (Int32.toNatClampNeg (M.1 600 1))).1.1 607 (Int32.toNatClampNeg ((((l_X8_moves_89 a1 x2 x3 x4 (M, 0) (Int32.toNatClampNeg (M.1 600 1))).1.1 600 10) + 3) + ((l_X8_moves_89 a1 x2 x3 x4 (M, 0) (Int32.toNatClampNeg (M.1 600 1))).2)))) = x4) from c124)] at hp
          refine j_iconst g (n := 1) (1) (by decide +kernel) rfl ?_
          refine j_goto g (off := 4) (tgt := 132) (by decide +kernel) (by decide) ?_
          refine j_istore g (i := 6) (by decide +kernel) (by decide) ?_
          dsimp only [stL, clL, hdL]
          refine j_iload g (i := 6) (by decide +kernel) rfl ?_
          refine j_if_ne g (off := 14) (tgt := 150) (by decide +kernel) (by decide) (fun _ => ?_) (fun c => absurd (by first | decide | rfl | exact Int32.le_refl _) c)
          refine j_aload_n g (i := 0) (by decide +kernel) rfl ?_
          refine j_gA g (b := 607) f8_28 (by decide +kernel) (by decide +kernel) (by decide +kernel) (by decide +kernel) ?_
          refine j_aload_n g (i := 0) (by decide +kernel) rfl ?_
          refine j_gI g f8_240 (by decide +kernel) (by decide +kernel) (by decide +kernel) ?_
          refine j_iconst g (n := 3) (3) (by decide +kernel) rfl ?_
          refine j_iadd g (by decide +kernel) ?_
          refine j_iload g (i := 5) (by decide +kernel) rfl ?_
          refine j_iadd g (by decide +kernel) ?_
          refine j_iload_n g (i := 3) (by decide +kernel) rfl ?_
          obtain ⟨h0, hp⟩ := hp
          refine j_is g 44 (by decide +kernel) (by decide +kernel) (by decide +kernel) h0 ?_
          refine j_iinc g (i := 5) (n := 1) (1) (by decide +kernel) rfl (by decide) rfl ?_
          dsimp only [stL, clL, hdL]
          refine j_goto g (off := -79) (tgt := 89) (by decide +kernel) (by decide) ?_
          refine absurd (ci_X8_moves_89.mpr ?_) hx_89_1
          simp only [if_neg (show ¬ (((l_X8_moves_89 a1 x2 x3 x4 (M, 0) (Int32.toNatClampNeg (M.1 600 1))).1.1 600 1) ≤ ((l_X8_moves_89 a1 x2 x3 x4 (M, 0) (Int32.toNatClampNeg (M.1 600 1))).2)) from c95), if_neg (show ¬ (x2 = 2) from c100), if_neg (show ¬ (¬ x2 = 4) from c105), if_neg (show ¬ (¬ ((l_X8_moves_89 a1 x2 x3 x4 (M, 0) (Int32.toNatClampNeg (M.1 600 1))).1.1 607 (Int32.toNatClampNeg ((((l_X8_moves_89 a1 x2 x3 x4 (M, 0) (Int32.toNatClampNeg (M.1 600 1))).1.1 600 10) + 3) + ((l_X8_moves_89 a1 x2 x3 x4 (M, 0) (Int32.toNatClampNeg (M.1 600 1))).2)))) = x4) from c124)]
noncomputable def w_X8_moves_58 (M : Mm) (a1 : Int32) (x2 : Int32) (x3 : Int32) (x4 : Int32) : Mm := if x2 = 1 then w_X8_moves_86 (wi M 607 (Int32.toNatClampNeg (((M.1 600 10) + 0) + (r_X8_nextMover M a1))) x3) a1 x2 x3 x4 else if ¬ x2 = 3 then w_X8_moves_86 M a1 x2 x3 x4 else w_X8_moves_86 (wi M 607 (Int32.toNatClampNeg (((M.1 600 10) + 0) + (r_X8_nextMover M a1))) x3) a1 x2 x3 x4
def p_X8_moves_58 (M : Mm) (a1 : Int32) (x2 : Int32) (x3 : Int32) (x4 : Int32) : Prop := (if x2 = 1 then (p_X8_nextMover M a1) ∧ (vp_in (((M.1 600 10) + 0) + (r_X8_nextMover M a1)) 44) ∧ p_X8_moves_86 (wi M 607 (Int32.toNatClampNeg (((M.1 600 10) + 0) + (r_X8_nextMover M a1))) x3) a1 x2 x3 x4 else (if ¬ x2 = 3 then p_X8_moves_86 M a1 x2 x3 x4 else (p_X8_nextMover M a1) ∧ (vp_in (((M.1 600 10) + 0) + (r_X8_nextMover M a1)) 44) ∧ p_X8_moves_86 (wi M 607 (Int32.toNatClampNeg (((M.1 600 10) + 0) + (r_X8_nextMover M a1))) x3) a1 x2 x3 x4))
theorem jn_X8_moves_58 {d : Nat} {J : Nat → Lc → List Value → Mm → Prop} {M : Mm} {a1 : Int32} {x2 : Int32} {x3 : Int32} {x4 : Int32}  (g : Good mX8_moves.1 mX8_moves.2.2.1 mX8_moves.2.2.2.1 (d + 2) J) {rv : Option Value} {M1 : Mm} (hr : Ret mX8_moves.2.2.1 mX8_moves.2.2.2.2 rv M1 J) (hp : p_X8_moves_58 M a1 x2 x3 x4) (hrv : rv = none) (hmm : M1 = w_X8_moves_58 M a1 x2 x3 x4) : J 58 [some (.ref 600), some (.int a1), some (.int x2), some (.int x3), some (.int x4), none, none] [] M := by
  unfold p_X8_moves_58 at hp
  refine j_iload_n g (i := 2) (by decide +kernel) rfl ?_
  refine j_iconst g (n := 1) (1) (by decide +kernel) rfl ?_
  refine j_icmp_eq g (off := 8) (tgt := 68) (by decide +kernel) (by decide) (fun c60 => ?_) (fun c60 => ?_)
  · rw [if_pos (show x2 = 1 from c60)] at hp
    refine j_aload_n g (i := 0) (by decide +kernel) rfl ?_
    refine j_gA g (b := 607) f8_28 (by decide +kernel) (by decide +kernel) (by decide +kernel) (by decide +kernel) ?_
    refine j_aload_n g (i := 0) (by decide +kernel) rfl ?_
    refine j_gI g f8_240 (by decide +kernel) (by decide +kernel) (by decide +kernel) ?_
    refine j_iconst g (n := 0) (0) (by decide +kernel) rfl ?_
    refine j_iadd g (by decide +kernel) ?_
    refine j_aload_n g (i := 0) (by decide +kernel) rfl ?_
    refine j_iload_n g (i := 1) (by decide +kernel) rfl ?_
    obtain ⟨h0, hp⟩ := hp
    refine j_cV1r g v8_271 ⟨rfl, by decide⟩ (by decide +kernel) (by decide +kernel) (Nat.le_of_ble_eq_true rfl) (rnX8_nextMover h0) ?_
    refine j_iadd g (by decide +kernel) ?_
    refine j_iload_n g (i := 3) (by decide +kernel) rfl ?_
    obtain ⟨h0, hp⟩ := hp
    refine j_is g 44 (by decide +kernel) (by decide +kernel) (by decide +kernel) h0 ?_
    refine jn_X8_moves_86  g hr hp ?_ ?_ 
    · exact hrv
    · rw [hmm]; unfold w_X8_moves_58; first | (simp only [if_pos (show x2 = 1 from c60)]; done) | (simp only [if_pos (show x2 = 1 from c60)]; rfl) | rfl
  · rw [if_neg (show ¬ (x2 = 1) from c60)] at hp
    refine j_iload_n g (i := 2) (by decide +kernel) rfl ?_
    refine j_iconst g (n := 3) (3) (by decide +kernel) rfl ?_
    refine j_icmp_ne g (off := 21) (tgt := 86) (by decide +kernel) (by decide) (fun c65 => ?_) (fun c65 => ?_)
    · rw [if_pos (show ¬ x2 = 3 from c65)] at hp
      refine jn_X8_moves_86  g hr hp ?_ ?_ 
      · exact hrv
      · rw [hmm]; unfold w_X8_moves_58; first | (simp only [if_neg (show ¬ (x2 = 1) from c60), if_pos (show ¬ x2 = 3 from c65)]; done) | (simp only [if_neg (show ¬ (x2 = 1) from c60), if_pos (show ¬ x2 = 3 from c65)]; rfl) | rfl
    · rw [if_neg (show ¬ (¬ x2 = 3) from c65)] at hp
      refine j_aload_n g (i := 0) (by decide +kernel) rfl ?_
      refine j_gA g (b := 607) f8_28 (by decide +kernel) (by decide +kernel) (by decide +kernel) (by decide +kernel) ?_
      refine j_aload_n g (i := 0) (by decide +kernel) rfl ?_
      refine j_gI g f8_240 (by decide +kernel) (by decide +kernel) (by decide +kernel) ?_
      refine j_iconst g (n := 0) (0) (by decide +kernel) rfl ?_
      refine j_iadd g (by decide +kernel) ?_
      refine j_aload_n g (i := 0) (by decide +kernel) rfl ?_
      refine j_iload_n g (i := 1) (by decide +kernel) rfl ?_
      obtain ⟨h0, hp⟩ := hp
      refine j_cV1r g v8_271 ⟨rfl, by decide⟩ (by decide +kernel) (by decide +kernel) (Nat.le_of_ble_eq_true rfl) (rnX8_nextMover h0) ?_
      refine j_iadd g (by decide +kernel) ?_
      refine j_iload_n g (i := 3) (by decide +kernel) rfl ?_
      obtain ⟨h0, hp⟩ := hp
      refine j_is g 44 (by decide +kernel) (by decide +kernel) (by decide +kernel) h0 ?_
      refine jn_X8_moves_86  g hr hp ?_ ?_ 
      · exact hrv
      · rw [hmm]; unfold w_X8_moves_58; first | (simp only [if_neg (show ¬ (x2 = 1) from c60), if_neg (show ¬ (¬ x2 = 3) from c65)]; done) | (simp only [if_neg (show ¬ (x2 = 1) from c60), if_neg (show ¬ (¬ x2 = 3) from c65)]; rfl) | rfl
noncomputable def w_X8_moves (M : Mm) (a1 : Int32) : Mm := if (M.1 603 (Int32.toNatClampNeg (8 * a1 + (0 : Int32)))) = 5 then w_X8_moves_58 M a1 (M.1 603 (Int32.toNatClampNeg (8 * a1 + (0 : Int32)))) (M.1 603 (Int32.toNatClampNeg (8 * a1 + (3 : Int32)))) (M.1 607 (Int32.toNatClampNeg (((M.1 600 10) + 3) + (M.1 603 (Int32.toNatClampNeg (8 * a1 + (2 : Int32))))))) else w_X8_moves_58 (wi M 607 (Int32.toNatClampNeg (((M.1 600 10) + 0) + (M.1 603 (Int32.toNatClampNeg (8 * a1 + (1 : Int32)))))) (M.1 603 (Int32.toNatClampNeg (8 * a1 + (3 : Int32))))) a1 (M.1 603 (Int32.toNatClampNeg (8 * a1 + (0 : Int32)))) (M.1 603 (Int32.toNatClampNeg (8 * a1 + (3 : Int32)))) (M.1 607 (Int32.toNatClampNeg (((M.1 600 10) + 3) + (M.1 603 (Int32.toNatClampNeg (8 * a1 + (2 : Int32)))))))
def p_X8_moves (M : Mm) (a1 : Int32) : Prop := (vp_in (8 * a1 + (0 : Int32)) 48) ∧ (vp_in (8 * a1 + (3 : Int32)) 48) ∧ (vp_in (8 * a1 + (2 : Int32)) 48) ∧ (vp_in (((M.1 600 10) + 3) + (M.1 603 (Int32.toNatClampNeg (8 * a1 + (2 : Int32))))) 44) ∧ (if (M.1 603 (Int32.toNatClampNeg (8 * a1 + (0 : Int32)))) = 5 then p_X8_moves_58 M a1 (M.1 603 (Int32.toNatClampNeg (8 * a1 + (0 : Int32)))) (M.1 603 (Int32.toNatClampNeg (8 * a1 + (3 : Int32)))) (M.1 607 (Int32.toNatClampNeg (((M.1 600 10) + 3) + (M.1 603 (Int32.toNatClampNeg (8 * a1 + (2 : Int32))))))) else (vp_in (8 * a1 + (1 : Int32)) 48) ∧ (vp_in (((M.1 600 10) + 0) + (M.1 603 (Int32.toNatClampNeg (8 * a1 + (1 : Int32))))) 44) ∧ p_X8_moves_58 (wi M 607 (Int32.toNatClampNeg (((M.1 600 10) + 0) + (M.1 603 (Int32.toNatClampNeg (8 * a1 + (1 : Int32)))))) (M.1 603 (Int32.toNatClampNeg (8 * a1 + (3 : Int32))))) a1 (M.1 603 (Int32.toNatClampNeg (8 * a1 + (0 : Int32)))) (M.1 603 (Int32.toNatClampNeg (8 * a1 + (3 : Int32)))) (M.1 607 (Int32.toNatClampNeg (((M.1 600 10) + 3) + (M.1 603 (Int32.toNatClampNeg (8 * a1 + (2 : Int32))))))))
theorem rnX8_moves {d : Nat} {M : Mm} {a1 : Int32}  (hp : p_X8_moves M a1) : Rn (d + 2) mX8_moves [.ref 600, .int a1] M none (w_X8_moves M a1) := by
  refine Rn.of [some (.ref 600), some (.int a1), none, none, none, none, none] (by decide +kernel) rfl (Nat.le_of_ble_eq_true rfl) rfl (fun J g hr => ?_)
  unfold p_X8_moves at hp
  refine j_aload_n g (i := 0) (by decide +kernel) rfl ?_
  refine j_iload_n g (i := 1) (by decide +kernel) rfl ?_
  refine j_iconst g (n := 0) (0) (by decide +kernel) rfl ?_
  obtain ⟨h0, hp⟩ := hp
  refine j_cV2r g v8_249 ⟨rfl, by decide⟩ (by decide +kernel) (by decide +kernel) (Nat.le_of_ble_eq_true rfl) (rnX8_its h0) ?_
  refine j_istore_n g (i := 2) (by decide +kernel) (by decide) ?_
  dsimp only [stL, clL, hdL]
  refine j_aload_n g (i := 0) (by decide +kernel) rfl ?_
  refine j_iload_n g (i := 1) (by decide +kernel) rfl ?_
  refine j_iconst g (n := 3) (3) (by decide +kernel) rfl ?_
  obtain ⟨h0, hp⟩ := hp
  refine j_cV2r g v8_249 ⟨rfl, by decide⟩ (by decide +kernel) (by decide +kernel) (Nat.le_of_ble_eq_true rfl) (rnX8_its h0) ?_
  refine j_istore_n g (i := 3) (by decide +kernel) (by decide) ?_
  dsimp only [stL, clL, hdL]
  refine j_aload_n g (i := 0) (by decide +kernel) rfl ?_
  refine j_gA g (b := 607) f8_28 (by decide +kernel) (by decide +kernel) (by decide +kernel) (by decide +kernel) ?_
  refine j_aload_n g (i := 0) (by decide +kernel) rfl ?_
  refine j_gI g f8_240 (by decide +kernel) (by decide +kernel) (by decide +kernel) ?_
  refine j_iconst g (n := 3) (3) (by decide +kernel) rfl ?_
  refine j_iadd g (by decide +kernel) ?_
  refine j_aload_n g (i := 0) (by decide +kernel) rfl ?_
  refine j_iload_n g (i := 1) (by decide +kernel) rfl ?_
  refine j_iconst g (n := 2) (2) (by decide +kernel) rfl ?_
  obtain ⟨h0, hp⟩ := hp
  refine j_cV2r g v8_249 ⟨rfl, by decide⟩ (by decide +kernel) (by decide +kernel) (Nat.le_of_ble_eq_true rfl) (rnX8_its h0) ?_
  refine j_iadd g (by decide +kernel) ?_
  obtain ⟨h0, hp⟩ := hp
  refine j_ia g 44 (by decide +kernel) (by decide +kernel) (by decide +kernel) h0 ?_
  refine j_istore g (i := 4) (by decide +kernel) (by decide) ?_
  dsimp only [stL, clL, hdL]
  refine j_iload_n g (i := 2) (by decide +kernel) rfl ?_
  refine j_iconst g (n := 5) (5) (by decide +kernel) rfl ?_
  refine j_icmp_eq g (off := 22) (tgt := 58) (by decide +kernel) (by decide) (fun c36 => ?_) (fun c36 => ?_)
  · rw [if_pos (show (M.1 603 (Int32.toNatClampNeg (8 * a1 + (0 : Int32)))) = 5 from c36)] at hp
    refine jn_X8_moves_58  g hr hp ?_ ?_ 
    · rfl
    · unfold w_X8_moves; first | (simp only [if_pos (show (M.1 603 (Int32.toNatClampNeg (8 * a1 + (0 : Int32)))) = 5 from c36)]; done) | (simp only [if_pos (show (M.1 603 (Int32.toNatClampNeg (8 * a1 + (0 : Int32)))) = 5 from c36)]; rfl) | rfl
  · rw [if_neg (show ¬ ((M.1 603 (Int32.toNatClampNeg (8 * a1 + (0 : Int32)))) = 5) from c36)] at hp
    refine j_aload_n g (i := 0) (by decide +kernel) rfl ?_
    refine j_gA g (b := 607) f8_28 (by decide +kernel) (by decide +kernel) (by decide +kernel) (by decide +kernel) ?_
    refine j_aload_n g (i := 0) (by decide +kernel) rfl ?_
    refine j_gI g f8_240 (by decide +kernel) (by decide +kernel) (by decide +kernel) ?_
    refine j_iconst g (n := 0) (0) (by decide +kernel) rfl ?_
    refine j_iadd g (by decide +kernel) ?_
    refine j_aload_n g (i := 0) (by decide +kernel) rfl ?_
    refine j_iload_n g (i := 1) (by decide +kernel) rfl ?_
    refine j_iconst g (n := 1) (1) (by decide +kernel) rfl ?_
    obtain ⟨h0, hp⟩ := hp
    refine j_cV2r g v8_249 ⟨rfl, by decide⟩ (by decide +kernel) (by decide +kernel) (Nat.le_of_ble_eq_true rfl) (rnX8_its h0) ?_
    refine j_iadd g (by decide +kernel) ?_
    refine j_iload_n g (i := 3) (by decide +kernel) rfl ?_
    obtain ⟨h0, hp⟩ := hp
    refine j_is g 44 (by decide +kernel) (by decide +kernel) (by decide +kernel) h0 ?_
    refine jn_X8_moves_58  g hr hp ?_ ?_ 
    · rfl
    · unfold w_X8_moves; first | (simp only [if_neg (show ¬ ((M.1 603 (Int32.toNatClampNeg (8 * a1 + (0 : Int32)))) = 5) from c36)]; done) | (simp only [if_neg (show ¬ ((M.1 603 (Int32.toNatClampNeg (8 * a1 + (0 : Int32)))) = 5) from c36)]; rfl) | rfl
noncomputable def r_X8_minutesOf (M : Mm) (a1 : Int32) : Int32 := if (M.1 603 (Int32.toNatClampNeg (8 * a1 + (0 : Int32)))) = 1 then r_X8_heavyMinutes M a1 else if (M.1 603 (Int32.toNatClampNeg (8 * a1 + (0 : Int32)))) = 2 then (r_X8_plainMinutes M a1) + (r_X8_othersThere M a1) else if (M.1 603 (Int32.toNatClampNeg (8 * a1 + (0 : Int32)))) = 3 then (2 : Int32) * (r_X8_heavyMinutes M a1) else if (M.1 603 (Int32.toNatClampNeg (8 * a1 + (0 : Int32)))) = 4 then ((((r_X8_plainMinutes M a1) + (r_X8_othersThere M a1)) + (2 : Int32) - 1) / (2 : Int32)) else if (M.1 603 (Int32.toNatClampNeg (8 * a1 + (0 : Int32)))) = 5 then r_X8_carry M a1 (1 : Int32) else r_X8_plainMinutes M a1
noncomputable def w_X8_minutesOf (M : Mm) (a1 : Int32) : Mm := if (M.1 603 (Int32.toNatClampNeg (8 * a1 + (0 : Int32)))) = 1 then M else if (M.1 603 (Int32.toNatClampNeg (8 * a1 + (0 : Int32)))) = 2 then M else if (M.1 603 (Int32.toNatClampNeg (8 * a1 + (0 : Int32)))) = 3 then M else if (M.1 603 (Int32.toNatClampNeg (8 * a1 + (0 : Int32)))) = 4 then M else if (M.1 603 (Int32.toNatClampNeg (8 * a1 + (0 : Int32)))) = 5 then M else M
def p_X8_minutesOf (M : Mm) (a1 : Int32) : Prop := (vp_in (8 * a1 + (0 : Int32)) 48) ∧ (if (M.1 603 (Int32.toNatClampNeg (8 * a1 + (0 : Int32)))) = 1 then (p_X8_heavyMinutes M a1) ∧ True else if (M.1 603 (Int32.toNatClampNeg (8 * a1 + (0 : Int32)))) = 2 then (p_X8_plainMinutes M a1) ∧ (p_X8_othersThere M a1) ∧ True else if (M.1 603 (Int32.toNatClampNeg (8 * a1 + (0 : Int32)))) = 3 then (p_X8_heavyMinutes M a1) ∧ True else if (M.1 603 (Int32.toNatClampNeg (8 * a1 + (0 : Int32)))) = 4 then (p_X8_plainMinutes M a1) ∧ (p_X8_othersThere M a1) ∧ (¬ (2 : Int32) = 0) ∧ True else if (M.1 603 (Int32.toNatClampNeg (8 * a1 + (0 : Int32)))) = 5 then (p_X8_carry M a1 (1 : Int32)) ∧ True else (p_X8_plainMinutes M a1) ∧ True)
theorem rnX8_minutesOf {d : Nat} {M : Mm} {a1 : Int32}  (hp : p_X8_minutesOf M a1) : Rn (d + 4) mX8_minutesOf [.ref 600, .int a1] M (some (.int (r_X8_minutesOf M a1))) (w_X8_minutesOf M a1) := by
  refine Rn.of [some (.ref 600), some (.int a1)] (by decide +kernel) rfl (Nat.le_of_ble_eq_true rfl) rfl (fun J g hr => ?_)
  unfold p_X8_minutesOf at hp
  refine j_aload_n g (i := 0) (by decide +kernel) rfl ?_
  refine j_iload_n g (i := 1) (by decide +kernel) rfl ?_
  refine j_iconst g (n := 0) (0) (by decide +kernel) rfl ?_
  obtain ⟨h0, hp⟩ := hp
  refine j_cV2r g v8_249 ⟨rfl, by decide⟩ (by decide +kernel) (by decide +kernel) (Nat.le_of_ble_eq_true rfl) (rnX8_its h0) ?_
  have dsw6 : decode cX8_minutesOf 6 = .ok (.tableswitch 83 1 5 #[34, 48, 40, 60, 76], 34) := by decide +kernel
  by_cases e6_0 : (M.1 603 (Int32.toNatClampNeg (8 * a1 + (0 : Int32)))) = 1
  · refine j_tableIn g (off := 34) (tgt := 40) dsw6 (by rw [e6_0]; decide) (by rw [e6_0]; decide) (by rw [e6_0]; decide) (by decide) ?_
    rw [if_pos e6_0] at hp
    refine j_aload_n g (i := 0) (by decide +kernel) rfl ?_
    refine j_iload_n g (i := 1) (by decide +kernel) rfl ?_
    obtain ⟨h0, hp⟩ := hp
    refine j_cV1r g v8_274 ⟨rfl, by decide⟩ (by decide +kernel) (by decide +kernel) (Nat.le_of_ble_eq_true rfl) (rnX8_heavyMinutes h0) ?_
    refine hr.1 _ _ _ _ (by decide +kernel) ⟨_, rfl, by first | rfl | exact b2i_nar | rfl⟩ ?_ ?_
    · unfold r_X8_minutesOf; first | (simp only [if_pos e6_0]; done) | (simp only [if_pos e6_0]; rfl) | rfl
    · unfold w_X8_minutesOf; first | (simp only [if_pos e6_0]; done) | (simp only [if_pos e6_0]; rfl) | rfl
  by_cases e6_1 : (M.1 603 (Int32.toNatClampNeg (8 * a1 + (0 : Int32)))) = 2
  · refine j_tableIn g (off := 48) (tgt := 54) dsw6 (by rw [e6_1]; decide) (by rw [e6_1]; decide) (by rw [e6_1]; decide) (by decide) ?_
    rw [if_neg e6_0, if_pos e6_1] at hp
    refine j_aload_n g (i := 0) (by decide +kernel) rfl ?_
    refine j_iload_n g (i := 1) (by decide +kernel) rfl ?_
    obtain ⟨h0, hp⟩ := hp
    refine j_cV1r g v8_268 ⟨rfl, by decide⟩ (by decide +kernel) (by decide +kernel) (Nat.le_of_ble_eq_true rfl) (rnX8_plainMinutes h0) ?_
    refine j_aload_n g (i := 0) (by decide +kernel) rfl ?_
    refine j_iload_n g (i := 1) (by decide +kernel) rfl ?_
    obtain ⟨h0, hp⟩ := hp
    refine j_cV1r g v8_277 ⟨rfl, by decide⟩ (by decide +kernel) (by decide +kernel) (Nat.le_of_ble_eq_true rfl) (rnX8_othersThere h0) ?_
    refine j_iadd g (by decide +kernel) ?_
    refine hr.1 _ _ _ _ (by decide +kernel) ⟨_, rfl, by first | rfl | exact b2i_nar | rfl⟩ ?_ ?_
    · unfold r_X8_minutesOf; first | (simp only [if_neg e6_0, if_pos e6_1]; done) | (simp only [if_neg e6_0, if_pos e6_1]; rfl) | rfl
    · unfold w_X8_minutesOf; first | (simp only [if_neg e6_0, if_pos e6_1]; done) | (simp only [if_neg e6_0, if_pos e6_1]; rfl) | rfl
  by_cases e6_2 : (M.1 603 (Int32.toNatClampNeg (8 * a1 + (0 : Int32)))) = 3
  · refine j_tableIn g (off := 40) (tgt := 46) dsw6 (by rw [e6_2]; decide) (by rw [e6_2]; decide) (by rw [e6_2]; decide) (by decide) ?_
    rw [if_neg e6_0, if_neg e6_1, if_pos e6_2] at hp
    refine j_iconst g (n := 2) (2) (by decide +kernel) rfl ?_
    refine j_aload_n g (i := 0) (by decide +kernel) rfl ?_
    refine j_iload_n g (i := 1) (by decide +kernel) rfl ?_
    obtain ⟨h0, hp⟩ := hp
    refine j_cV1r g v8_274 ⟨rfl, by decide⟩ (by decide +kernel) (by decide +kernel) (Nat.le_of_ble_eq_true rfl) (rnX8_heavyMinutes h0) ?_
    refine j_imul g (by decide +kernel) ?_
    refine hr.1 _ _ _ _ (by decide +kernel) ⟨_, rfl, by first | rfl | exact b2i_nar | rfl⟩ ?_ ?_
    · unfold r_X8_minutesOf; first | (simp only [if_neg e6_0, if_neg e6_1, if_pos e6_2]; done) | (simp only [if_neg e6_0, if_neg e6_1, if_pos e6_2]; rfl) | rfl
    · unfold w_X8_minutesOf; first | (simp only [if_neg e6_0, if_neg e6_1, if_pos e6_2]; done) | (simp only [if_neg e6_0, if_neg e6_1, if_pos e6_2]; rfl) | rfl
  by_cases e6_3 : (M.1 603 (Int32.toNatClampNeg (8 * a1 + (0 : Int32)))) = 4
  · refine j_tableIn g (off := 60) (tgt := 66) dsw6 (by rw [e6_3]; decide) (by rw [e6_3]; decide) (by rw [e6_3]; decide) (by decide) ?_
    rw [if_neg e6_0, if_neg e6_1, if_neg e6_2, if_pos e6_3] at hp
    refine j_aload_n g (i := 0) (by decide +kernel) rfl ?_
    refine j_iload_n g (i := 1) (by decide +kernel) rfl ?_
    obtain ⟨h0, hp⟩ := hp
    refine j_cV1r g v8_268 ⟨rfl, by decide⟩ (by decide +kernel) (by decide +kernel) (Nat.le_of_ble_eq_true rfl) (rnX8_plainMinutes h0) ?_
    refine j_aload_n g (i := 0) (by decide +kernel) rfl ?_
    refine j_iload_n g (i := 1) (by decide +kernel) rfl ?_
    obtain ⟨h0, hp⟩ := hp
    refine j_cV1r g v8_277 ⟨rfl, by decide⟩ (by decide +kernel) (by decide +kernel) (Nat.le_of_ble_eq_true rfl) (rnX8_othersThere h0) ?_
    refine j_iadd g (by decide +kernel) ?_
    refine j_iconst g (n := 2) (2) (by decide +kernel) rfl ?_
    obtain ⟨h0, hp⟩ := hp
    refine j_cS2r g s8_259 (by decide +kernel) (Nat.le_of_ble_eq_true rfl) (rnX8_up h0) ?_
    refine hr.1 _ _ _ _ (by decide +kernel) ⟨_, rfl, by first | rfl | exact b2i_nar | rfl⟩ ?_ ?_
    · unfold r_X8_minutesOf; first | (simp only [if_neg e6_0, if_neg e6_1, if_neg e6_2, if_pos e6_3]; done) | (simp only [if_neg e6_0, if_neg e6_1, if_neg e6_2, if_pos e6_3]; rfl) | rfl
    · unfold w_X8_minutesOf; first | (simp only [if_neg e6_0, if_neg e6_1, if_neg e6_2, if_pos e6_3]; done) | (simp only [if_neg e6_0, if_neg e6_1, if_neg e6_2, if_pos e6_3]; rfl) | rfl
  by_cases e6_4 : (M.1 603 (Int32.toNatClampNeg (8 * a1 + (0 : Int32)))) = 5
  · refine j_tableIn g (off := 76) (tgt := 82) dsw6 (by rw [e6_4]; decide) (by rw [e6_4]; decide) (by rw [e6_4]; decide) (by decide) ?_
    rw [if_neg e6_0, if_neg e6_1, if_neg e6_2, if_neg e6_3, if_pos e6_4] at hp
    refine j_aload_n g (i := 0) (by decide +kernel) rfl ?_
    refine j_iload_n g (i := 1) (by decide +kernel) rfl ?_
    refine j_iconst g (n := 1) (1) (by decide +kernel) rfl ?_
    obtain ⟨h0, hp⟩ := hp
    refine j_cV2r g v8_265 ⟨rfl, by decide⟩ (by decide +kernel) (by decide +kernel) (Nat.le_of_ble_eq_true rfl) (rnX8_carry h0) ?_
    refine hr.1 _ _ _ _ (by decide +kernel) ⟨_, rfl, by first | rfl | exact b2i_nar | rfl⟩ ?_ ?_
    · unfold r_X8_minutesOf; first | (simp only [if_neg e6_0, if_neg e6_1, if_neg e6_2, if_neg e6_3, if_pos e6_4]; done) | (simp only [if_neg e6_0, if_neg e6_1, if_neg e6_2, if_neg e6_3, if_pos e6_4]; rfl) | rfl
    · unfold w_X8_minutesOf; first | (simp only [if_neg e6_0, if_neg e6_1, if_neg e6_2, if_neg e6_3, if_pos e6_4]; done) | (simp only [if_neg e6_0, if_neg e6_1, if_neg e6_2, if_neg e6_3, if_pos e6_4]; rfl) | rfl
  rw [if_neg e6_0, if_neg e6_1, if_neg e6_2, if_neg e6_3, if_neg e6_4] at hp
  refine j_tableOut g (tgt := 89) dsw6 (by simp only [← Int32.toInt_inj, Int32.reduceToInt, im1, im2, im3] at e6_0 e6_1 e6_2 e6_3 e6_4; omega) (by decide) ?_
  refine j_aload_n g (i := 0) (by decide +kernel) rfl ?_
  refine j_iload_n g (i := 1) (by decide +kernel) rfl ?_
  obtain ⟨h0, hp⟩ := hp
  refine j_cV1r g v8_268 ⟨rfl, by decide⟩ (by decide +kernel) (by decide +kernel) (Nat.le_of_ble_eq_true rfl) (rnX8_plainMinutes h0) ?_
  refine hr.1 _ _ _ _ (by decide +kernel) ⟨_, rfl, by first | rfl | exact b2i_nar | rfl⟩ ?_ ?_
  · unfold r_X8_minutesOf; first | (simp only [if_neg e6_0, if_neg e6_1, if_neg e6_2, if_neg e6_3, if_neg e6_4]; done) | (simp only [if_neg e6_0, if_neg e6_1, if_neg e6_2, if_neg e6_3, if_neg e6_4]; rfl) | rfl
  · unfold w_X8_minutesOf; first | (simp only [if_neg e6_0, if_neg e6_1, if_neg e6_2, if_neg e6_3, if_neg e6_4]; done) | (simp only [if_neg e6_0, if_neg e6_1, if_neg e6_2, if_neg e6_3, if_neg e6_4]; rfl) | rfl
noncomputable def r_X8_turns (M : Mm) (a1 : Int32) : Int32 := if (r_X8_isSpoilt M a1) = 0 then r_X8_worthBy (wi (wi (w_X8_moves (w_X8_passes (w_X8_minutesOf M a1) (r_X8_minutesOf M a1)) a1) 607 (Int32.toNatClampNeg ((((w_X8_moves (w_X8_passes (w_X8_minutesOf M a1) (r_X8_minutesOf M a1)) a1).1 600 10) + 9) + a1)) 1) 607 (Int32.toNatClampNeg ((((w_X8_moves (w_X8_passes (w_X8_minutesOf M a1) (r_X8_minutesOf M a1)) a1).1 600 10) + 15) + a1)) ((wi (w_X8_moves (w_X8_passes (w_X8_minutesOf M a1) (r_X8_minutesOf M a1)) a1) 607 (Int32.toNatClampNeg ((((w_X8_moves (w_X8_passes (w_X8_minutesOf M a1) (r_X8_minutesOf M a1)) a1).1 600 10) + 9) + a1)) 1).1 607 (Int32.toNatClampNeg (((w_X8_moves (w_X8_passes (w_X8_minutesOf M a1) (r_X8_minutesOf M a1)) a1).1 600 10) + 21)))) a1 ((wi (wi (w_X8_moves (w_X8_passes (w_X8_minutesOf M a1) (r_X8_minutesOf M a1)) a1) 607 (Int32.toNatClampNeg ((((w_X8_moves (w_X8_passes (w_X8_minutesOf M a1) (r_X8_minutesOf M a1)) a1).1 600 10) + 9) + a1)) 1) 607 (Int32.toNatClampNeg ((((w_X8_moves (w_X8_passes (w_X8_minutesOf M a1) (r_X8_minutesOf M a1)) a1).1 600 10) + 15) + a1)) ((wi (w_X8_moves (w_X8_passes (w_X8_minutesOf M a1) (r_X8_minutesOf M a1)) a1) 607 (Int32.toNatClampNeg ((((w_X8_moves (w_X8_passes (w_X8_minutesOf M a1) (r_X8_minutesOf M a1)) a1).1 600 10) + 9) + a1)) 1).1 607 (Int32.toNatClampNeg (((w_X8_moves (w_X8_passes (w_X8_minutesOf M a1) (r_X8_minutesOf M a1)) a1).1 600 10) + 21)))).1 607 (Int32.toNatClampNeg (((w_X8_moves (w_X8_passes (w_X8_minutesOf M a1) (r_X8_minutesOf M a1)) a1).1 600 10) + 21))) else 0
noncomputable def w_X8_turns (M : Mm) (a1 : Int32) : Mm := if (r_X8_isSpoilt M a1) = 0 then (wi (wi (w_X8_moves (w_X8_passes (w_X8_minutesOf M a1) (r_X8_minutesOf M a1)) a1) 607 (Int32.toNatClampNeg ((((w_X8_moves (w_X8_passes (w_X8_minutesOf M a1) (r_X8_minutesOf M a1)) a1).1 600 10) + 9) + a1)) 1) 607 (Int32.toNatClampNeg ((((w_X8_moves (w_X8_passes (w_X8_minutesOf M a1) (r_X8_minutesOf M a1)) a1).1 600 10) + 15) + a1)) ((wi (w_X8_moves (w_X8_passes (w_X8_minutesOf M a1) (r_X8_minutesOf M a1)) a1) 607 (Int32.toNatClampNeg ((((w_X8_moves (w_X8_passes (w_X8_minutesOf M a1) (r_X8_minutesOf M a1)) a1).1 600 10) + 9) + a1)) 1).1 607 (Int32.toNatClampNeg (((w_X8_moves (w_X8_passes (w_X8_minutesOf M a1) (r_X8_minutesOf M a1)) a1).1 600 10) + 21)))) else (wi M 607 (Int32.toNatClampNeg (((M.1 600 10) + 9) + a1)) 2)
def p_X8_turns (M : Mm) (a1 : Int32) : Prop := (p_X8_isSpoilt M a1) ∧ (if (r_X8_isSpoilt M a1) = 0 then (p_X8_minutesOf M a1) ∧ (p_X8_passes (w_X8_minutesOf M a1) (r_X8_minutesOf M a1)) ∧ (p_X8_moves (w_X8_passes (w_X8_minutesOf M a1) (r_X8_minutesOf M a1)) a1) ∧ (vp_in ((((w_X8_moves (w_X8_passes (w_X8_minutesOf M a1) (r_X8_minutesOf M a1)) a1).1 600 10) + 9) + a1) 44) ∧ (vp_in (((w_X8_moves (w_X8_passes (w_X8_minutesOf M a1) (r_X8_minutesOf M a1)) a1).1 600 10) + 21) 44) ∧ (vp_in ((((w_X8_moves (w_X8_passes (w_X8_minutesOf M a1) (r_X8_minutesOf M a1)) a1).1 600 10) + 15) + a1) 44) ∧ (vp_in (((w_X8_moves (w_X8_passes (w_X8_minutesOf M a1) (r_X8_minutesOf M a1)) a1).1 600 10) + 21) 44) ∧ (p_X8_worthBy (wi (wi (w_X8_moves (w_X8_passes (w_X8_minutesOf M a1) (r_X8_minutesOf M a1)) a1) 607 (Int32.toNatClampNeg ((((w_X8_moves (w_X8_passes (w_X8_minutesOf M a1) (r_X8_minutesOf M a1)) a1).1 600 10) + 9) + a1)) 1) 607 (Int32.toNatClampNeg ((((w_X8_moves (w_X8_passes (w_X8_minutesOf M a1) (r_X8_minutesOf M a1)) a1).1 600 10) + 15) + a1)) ((wi (w_X8_moves (w_X8_passes (w_X8_minutesOf M a1) (r_X8_minutesOf M a1)) a1) 607 (Int32.toNatClampNeg ((((w_X8_moves (w_X8_passes (w_X8_minutesOf M a1) (r_X8_minutesOf M a1)) a1).1 600 10) + 9) + a1)) 1).1 607 (Int32.toNatClampNeg (((w_X8_moves (w_X8_passes (w_X8_minutesOf M a1) (r_X8_minutesOf M a1)) a1).1 600 10) + 21)))) a1 ((wi (wi (w_X8_moves (w_X8_passes (w_X8_minutesOf M a1) (r_X8_minutesOf M a1)) a1) 607 (Int32.toNatClampNeg ((((w_X8_moves (w_X8_passes (w_X8_minutesOf M a1) (r_X8_minutesOf M a1)) a1).1 600 10) + 9) + a1)) 1) 607 (Int32.toNatClampNeg ((((w_X8_moves (w_X8_passes (w_X8_minutesOf M a1) (r_X8_minutesOf M a1)) a1).1 600 10) + 15) + a1)) ((wi (w_X8_moves (w_X8_passes (w_X8_minutesOf M a1) (r_X8_minutesOf M a1)) a1) 607 (Int32.toNatClampNeg ((((w_X8_moves (w_X8_passes (w_X8_minutesOf M a1) (r_X8_minutesOf M a1)) a1).1 600 10) + 9) + a1)) 1).1 607 (Int32.toNatClampNeg (((w_X8_moves (w_X8_passes (w_X8_minutesOf M a1) (r_X8_minutesOf M a1)) a1).1 600 10) + 21)))).1 607 (Int32.toNatClampNeg (((w_X8_moves (w_X8_passes (w_X8_minutesOf M a1) (r_X8_minutesOf M a1)) a1).1 600 10) + 21)))) ∧ True else (vp_in (((M.1 600 10) + 9) + a1) 44) ∧ True)
theorem rnX8_turns {d : Nat} {M : Mm} {a1 : Int32}  (hp : p_X8_turns M a1) : Rn (d + 5) mX8_turns [.ref 600, .int a1] M (some (.int (r_X8_turns M a1))) (w_X8_turns M a1) := by
  refine Rn.of [some (.ref 600), some (.int a1)] (by decide +kernel) rfl (Nat.le_of_ble_eq_true rfl) rfl (fun J g hr => ?_)
  unfold p_X8_turns at hp
  refine j_aload_n g (i := 0) (by decide +kernel) rfl ?_
  refine j_iload_n g (i := 1) (by decide +kernel) rfl ?_
  obtain ⟨h0, hp⟩ := hp
  refine j_cV1r g v8_280 ⟨rfl, by decide⟩ (by decide +kernel) (by decide +kernel) (Nat.le_of_ble_eq_true rfl) (rnX8_isSpoilt h0) ?_
  refine j_if_eq g (off := 20) (tgt := 25) (by decide +kernel) (by decide) (fun c5 => ?_) (fun c5 => ?_)
  · rw [if_pos (show (r_X8_isSpoilt M a1) = 0 from c5)] at hp
    refine j_aload_n g (i := 0) (by decide +kernel) rfl ?_
    refine j_aload_n g (i := 0) (by decide +kernel) rfl ?_
    refine j_iload_n g (i := 1) (by decide +kernel) rfl ?_
    obtain ⟨h0, hp⟩ := hp
    refine j_cV1r g v8_283 ⟨rfl, by decide⟩ (by decide +kernel) (by decide +kernel) (Nat.le_of_ble_eq_true rfl) (rnX8_minutesOf h0) ?_
    obtain ⟨h0, hp⟩ := hp
    refine j_cV1v g v8_286 ⟨rfl, by decide⟩ (by decide +kernel) (by decide +kernel) (Nat.le_of_ble_eq_true rfl) (rnX8_passes h0) ?_
    refine j_aload_n g (i := 0) (by decide +kernel) rfl ?_
    refine j_iload_n g (i := 1) (by decide +kernel) rfl ?_
    obtain ⟨h0, hp⟩ := hp
    refine j_cV1v g v8_289 ⟨rfl, by decide⟩ (by decide +kernel) (by decide +kernel) (Nat.le_of_ble_eq_true rfl) (rnX8_moves h0) ?_
    refine j_aload_n g (i := 0) (by decide +kernel) rfl ?_
    refine j_gA g (b := 607) f8_28 (by decide +kernel) (by decide +kernel) (by decide +kernel) (by decide +kernel) ?_
    refine j_aload_n g (i := 0) (by decide +kernel) rfl ?_
    refine j_gI g f8_240 (by decide +kernel) (by decide +kernel) (by decide +kernel) ?_
    refine j_bipush g (n := 9) (9) (by decide +kernel) (by decide +kernel) ?_
    refine j_iadd g (by decide +kernel) ?_
    refine j_iload_n g (i := 1) (by decide +kernel) rfl ?_
    refine j_iadd g (by decide +kernel) ?_
    refine j_iconst g (n := 1) (1) (by decide +kernel) rfl ?_
    obtain ⟨h0, hp⟩ := hp
    refine j_is g 44 (by decide +kernel) (by decide +kernel) (by decide +kernel) h0 ?_
    refine j_aload_n g (i := 0) (by decide +kernel) rfl ?_
    refine j_gA g (b := 607) f8_28 (by decide +kernel) (by decide +kernel) (by decide +kernel) (by decide +kernel) ?_
    refine j_aload_n g (i := 0) (by decide +kernel) rfl ?_
    refine j_gI g f8_240 (by decide +kernel) (by decide +kernel) (by decide +kernel) ?_
    refine j_bipush g (n := 15) (15) (by decide +kernel) (by decide +kernel) ?_
    refine j_iadd g (by decide +kernel) ?_
    refine j_iload_n g (i := 1) (by decide +kernel) rfl ?_
    refine j_iadd g (by decide +kernel) ?_
    refine j_aload_n g (i := 0) (by decide +kernel) rfl ?_
    refine j_gA g (b := 607) f8_28 (by decide +kernel) (by decide +kernel) (by decide +kernel) (by decide +kernel) ?_
    refine j_aload_n g (i := 0) (by decide +kernel) rfl ?_
    refine j_gI g f8_240 (by decide +kernel) (by decide +kernel) (by decide +kernel) ?_
    refine j_bipush g (n := 21) (21) (by decide +kernel) (by decide +kernel) ?_
    refine j_iadd g (by decide +kernel) ?_
    obtain ⟨h0, hp⟩ := hp
    refine j_ia g 44 (by decide +kernel) (by decide +kernel) (by decide +kernel) h0 ?_
    obtain ⟨h0, hp⟩ := hp
    refine j_is g 44 (by decide +kernel) (by decide +kernel) (by decide +kernel) h0 ?_
    refine j_aload_n g (i := 0) (by decide +kernel) rfl ?_
    refine j_iload_n g (i := 1) (by decide +kernel) rfl ?_
    refine j_aload_n g (i := 0) (by decide +kernel) rfl ?_
    refine j_gA g (b := 607) f8_28 (by decide +kernel) (by decide +kernel) (by decide +kernel) (by decide +kernel) ?_
    refine j_aload_n g (i := 0) (by decide +kernel) rfl ?_
    refine j_gI g f8_240 (by decide +kernel) (by decide +kernel) (by decide +kernel) ?_
    refine j_bipush g (n := 21) (21) (by decide +kernel) (by decide +kernel) ?_
    refine j_iadd g (by decide +kernel) ?_
    obtain ⟨h0, hp⟩ := hp
    refine j_ia g 44 (by decide +kernel) (by decide +kernel) (by decide +kernel) h0 ?_
    obtain ⟨h0, hp⟩ := hp
    refine j_cV2r g v8_292 ⟨rfl, by decide⟩ (by decide +kernel) (by decide +kernel) (Nat.le_of_ble_eq_true rfl) (rnX8_worthBy h0) ?_
    refine hr.1 _ _ _ _ (by decide +kernel) ⟨_, rfl, by first | rfl | exact b2i_nar | decide +kernel⟩ ?_ ?_
    · unfold r_X8_turns; first | (simp only [if_pos (show (r_X8_isSpoilt M a1) = 0 from c5)]; done) | (simp only [if_pos (show (r_X8_isSpoilt M a1) = 0 from c5)]; rfl) | rfl
    · unfold w_X8_turns; first | (simp only [if_pos (show (r_X8_isSpoilt M a1) = 0 from c5)]; done) | (simp only [if_pos (show (r_X8_isSpoilt M a1) = 0 from c5)]; rfl) | rfl
  · rw [if_neg (show ¬ ((r_X8_isSpoilt M a1) = 0) from c5)] at hp
    refine j_aload_n g (i := 0) (by decide +kernel) rfl ?_
    refine j_gA g (b := 607) f8_28 (by decide +kernel) (by decide +kernel) (by decide +kernel) (by decide +kernel) ?_
    refine j_aload_n g (i := 0) (by decide +kernel) rfl ?_
    refine j_gI g f8_240 (by decide +kernel) (by decide +kernel) (by decide +kernel) ?_
    refine j_bipush g (n := 9) (9) (by decide +kernel) (by decide +kernel) ?_
    refine j_iadd g (by decide +kernel) ?_
    refine j_iload_n g (i := 1) (by decide +kernel) rfl ?_
    refine j_iadd g (by decide +kernel) ?_
    refine j_iconst g (n := 2) (2) (by decide +kernel) rfl ?_
    obtain ⟨h0, hp⟩ := hp
    refine j_is g 44 (by decide +kernel) (by decide +kernel) (by decide +kernel) h0 ?_
    refine j_iconst g (n := 0) (0) (by decide +kernel) rfl ?_
    refine hr.1 _ _ _ _ (by decide +kernel) ⟨_, rfl, by first | rfl | exact b2i_nar | decide +kernel⟩ ?_ ?_
    · unfold r_X8_turns; first | (simp only [if_neg (show ¬ ((r_X8_isSpoilt M a1) = 0) from c5)]; done) | (simp only [if_neg (show ¬ ((r_X8_isSpoilt M a1) = 0) from c5)]; rfl) | rfl
    · unfold w_X8_turns; first | (simp only [if_neg (show ¬ ((r_X8_isSpoilt M a1) = 0) from c5)]; done) | (simp only [if_neg (show ¬ ((r_X8_isSpoilt M a1) = 0) from c5)]; rfl) | rfl
noncomputable def r_X8_does (M : Mm) (a1 : Int32) : Int32 := if ¬ (b2i (0 ≤ a1 ∧ a1 ≤ M.1 600 2 - 1)) = 0 then (if ¬ (r_X8_isFree M a1) = 0 then r_X8_turns M a1 else (-4)) else (-1)
noncomputable def w_X8_does (M : Mm) (a1 : Int32) : Mm := if ¬ (b2i (0 ≤ a1 ∧ a1 ≤ M.1 600 2 - 1)) = 0 then (if ¬ (r_X8_isFree M a1) = 0 then (wi (w_X8_turns M a1) 600 11 (((w_X8_turns M a1).1 600 11) + (r_X8_turns M a1))) else M) else M
def p_X8_does (M : Mm) (a1 : Int32) : Prop := (if ¬ (b2i (0 ≤ a1 ∧ a1 ≤ M.1 600 2 - 1)) = 0 then (p_X8_isFree M a1) ∧ (if ¬ (r_X8_isFree M a1) = 0 then (p_X8_turns M a1) ∧ True else True) else True)
theorem rnX8_does {d : Nat} {M : Mm} {a1 : Int32}  (hp : p_X8_does M a1) : Rn (d + 6) mX8_does [.ref 600, .int a1] M (some (.int (r_X8_does M a1))) (w_X8_does M a1) := by
  refine Rn.of [some (.ref 600), some (.int a1), none] (by decide +kernel) rfl (Nat.le_of_ble_eq_true rfl) rfl (fun J g hr => ?_)
  unfold p_X8_does at hp
  refine j_aload_n g (i := 0) (by decide +kernel) rfl ?_
  refine j_iload_n g (i := 1) (by decide +kernel) rfl ?_
  refine j_cV1r g v8_243 ⟨rfl, by decide⟩ (by decide +kernel) (by decide +kernel) (Nat.le_of_ble_eq_true rfl) (rnX8_isWork) ?_
  refine j_if_ne g (off := 5) (tgt := 10) (by decide +kernel) (by decide) (fun c5 => ?_) (fun c5 => ?_)
  · rw [if_pos (show ¬ (b2i (0 ≤ a1 ∧ a1 ≤ M.1 600 2 - 1)) = 0 from c5)] at hp
    refine j_aload_n g (i := 0) (by decide +kernel) rfl ?_
    refine j_iload_n g (i := 1) (by decide +kernel) rfl ?_
    obtain ⟨h0, hp⟩ := hp
    refine j_cV1r g v8_295 ⟨rfl, by decide⟩ (by decide +kernel) (by decide +kernel) (Nat.le_of_ble_eq_true rfl) (rnX8_isFree h0) ?_
    refine j_if_ne g (off := 6) (tgt := 21) (by decide +kernel) (by decide) (fun c15 => ?_) (fun c15 => ?_)
    · rw [if_pos (show ¬ (r_X8_isFree M a1) = 0 from c15)] at hp
      refine j_aload_n g (i := 0) (by decide +kernel) rfl ?_
      refine j_iload_n g (i := 1) (by decide +kernel) rfl ?_
      obtain ⟨h0, hp⟩ := hp
      refine j_cV1r g v8_301 ⟨rfl, by decide⟩ (by decide +kernel) (by decide +kernel) (Nat.le_of_ble_eq_true rfl) (rnX8_turns h0) ?_
      refine j_istore_n g (i := 2) (by decide +kernel) (by decide) ?_
      dsimp only [stL, clL, hdL]
      refine j_aload_n g (i := 0) (by decide +kernel) rfl ?_
      refine j_dup g (by decide +kernel) rfl ?_
      refine j_gI g f8_231 (by decide +kernel) (by decide +kernel) (by decide +kernel) ?_
      refine j_iload_n g (i := 2) (by decide +kernel) rfl ?_
      refine j_iadd g (by decide +kernel) ?_
      refine j_pI g f8_231 (fun q h => by cases h; rfl) (by decide +kernel) (by decide +kernel) (by decide +kernel) ?_
      refine j_iload_n g (i := 2) (by decide +kernel) rfl ?_
      refine hr.1 _ _ _ _ (by decide +kernel) ⟨_, rfl, by first | rfl | exact b2i_nar | decide +kernel⟩ ?_ ?_
      · unfold r_X8_does; first | (simp only [if_pos (show ¬ (b2i (0 ≤ a1 ∧ a1 ≤ M.1 600 2 - 1)) = 0 from c5), if_pos (show ¬ (r_X8_isFree M a1) = 0 from c15)]; done) | (simp only [if_pos (show ¬ (b2i (0 ≤ a1 ∧ a1 ≤ M.1 600 2 - 1)) = 0 from c5), if_pos (show ¬ (r_X8_isFree M a1) = 0 from c15)]; rfl) | rfl
      · unfold w_X8_does; first | (simp only [if_pos (show ¬ (b2i (0 ≤ a1 ∧ a1 ≤ M.1 600 2 - 1)) = 0 from c5), if_pos (show ¬ (r_X8_isFree M a1) = 0 from c15)]; done) | (simp only [if_pos (show ¬ (b2i (0 ≤ a1 ∧ a1 ≤ M.1 600 2 - 1)) = 0 from c5), if_pos (show ¬ (r_X8_isFree M a1) = 0 from c15)]; rfl) | rfl
    · rw [if_neg (show ¬ (¬ (r_X8_isFree M a1) = 0) from c15)] at hp
      refine j_bipush g (n := -4) (-4) (by decide +kernel) (by decide +kernel) ?_
      refine hr.1 _ _ _ _ (by decide +kernel) ⟨_, rfl, by first | rfl | exact b2i_nar | decide +kernel⟩ ?_ ?_
      · unfold r_X8_does; first | (simp only [if_pos (show ¬ (b2i (0 ≤ a1 ∧ a1 ≤ M.1 600 2 - 1)) = 0 from c5), if_neg (show ¬ (¬ (r_X8_isFree M a1) = 0) from c15)]; done) | (simp only [if_pos (show ¬ (b2i (0 ≤ a1 ∧ a1 ≤ M.1 600 2 - 1)) = 0 from c5), if_neg (show ¬ (¬ (r_X8_isFree M a1) = 0) from c15)]; rfl) | rfl
      · unfold w_X8_does; first | (simp only [if_pos (show ¬ (b2i (0 ≤ a1 ∧ a1 ≤ M.1 600 2 - 1)) = 0 from c5), if_neg (show ¬ (¬ (r_X8_isFree M a1) = 0) from c15)]; done) | (simp only [if_pos (show ¬ (b2i (0 ≤ a1 ∧ a1 ≤ M.1 600 2 - 1)) = 0 from c5), if_neg (show ¬ (¬ (r_X8_isFree M a1) = 0) from c15)]; rfl) | rfl
  · rw [if_neg (show ¬ (¬ (b2i (0 ≤ a1 ∧ a1 ≤ M.1 600 2 - 1)) = 0) from c5)] at hp
    refine j_iconst g (n := -1) (-1) (by decide +kernel) rfl ?_
    refine hr.1 _ _ _ _ (by decide +kernel) ⟨_, rfl, by first | rfl | exact b2i_nar | decide +kernel⟩ ?_ ?_
    · unfold r_X8_does; first | (simp only [if_neg (show ¬ (¬ (b2i (0 ≤ a1 ∧ a1 ≤ M.1 600 2 - 1)) = 0) from c5)]; done) | (simp only [if_neg (show ¬ (¬ (b2i (0 ≤ a1 ∧ a1 ≤ M.1 600 2 - 1)) = 0) from c5)]; rfl) | rfl
    · unfold w_X8_does; first | (simp only [if_neg (show ¬ (¬ (b2i (0 ≤ a1 ∧ a1 ≤ M.1 600 2 - 1)) = 0) from c5)]; done) | (simp only [if_neg (show ¬ (¬ (b2i (0 ≤ a1 ∧ a1 ≤ M.1 600 2 - 1)) = 0) from c5)]; rfl) | rfl
noncomputable def r_X8_minutes (M : Mm) (a1 : Int32) : Int32 := if (b2i (0 ≤ a1 ∧ a1 ≤ M.1 600 2 - 1)) = 0 then (-1) else r_X8_minutesOf M a1
noncomputable def w_X8_minutes (M : Mm) (a1 : Int32) : Mm := if (b2i (0 ≤ a1 ∧ a1 ≤ M.1 600 2 - 1)) = 0 then M else (w_X8_minutesOf M a1)
def p_X8_minutes (M : Mm) (a1 : Int32) : Prop := (if (b2i (0 ≤ a1 ∧ a1 ≤ M.1 600 2 - 1)) = 0 then True else (p_X8_minutesOf M a1) ∧ True)
theorem rnX8_minutes {d : Nat} {M : Mm} {a1 : Int32}  (hp : p_X8_minutes M a1) : Rn (d + 5) mX8_minutes [.ref 600, .int a1] M (some (.int (r_X8_minutes M a1))) (w_X8_minutes M a1) := by
  refine Rn.of [some (.ref 600), some (.int a1)] (by decide +kernel) rfl (Nat.le_of_ble_eq_true rfl) rfl (fun J g hr => ?_)
  unfold p_X8_minutes at hp
  refine j_aload_n g (i := 0) (by decide +kernel) rfl ?_
  refine j_iload_n g (i := 1) (by decide +kernel) rfl ?_
  refine j_cV1r g v8_243 ⟨rfl, by decide⟩ (by decide +kernel) (by decide +kernel) (Nat.le_of_ble_eq_true rfl) (rnX8_isWork) ?_
  refine j_if_eq g (off := 11) (tgt := 16) (by decide +kernel) (by decide) (fun c5 => ?_) (fun c5 => ?_)
  · rw [if_pos (show (b2i (0 ≤ a1 ∧ a1 ≤ M.1 600 2 - 1)) = 0 from c5)] at hp
    refine j_iconst g (n := -1) (-1) (by decide +kernel) rfl ?_
    refine hr.1 _ _ _ _ (by decide +kernel) ⟨_, rfl, by first | rfl | exact b2i_nar | decide +kernel⟩ ?_ ?_
    · unfold r_X8_minutes; first | (simp only [if_pos (show (b2i (0 ≤ a1 ∧ a1 ≤ M.1 600 2 - 1)) = 0 from c5)]; done) | (simp only [if_pos (show (b2i (0 ≤ a1 ∧ a1 ≤ M.1 600 2 - 1)) = 0 from c5)]; rfl) | rfl
    · unfold w_X8_minutes; first | (simp only [if_pos (show (b2i (0 ≤ a1 ∧ a1 ≤ M.1 600 2 - 1)) = 0 from c5)]; done) | (simp only [if_pos (show (b2i (0 ≤ a1 ∧ a1 ≤ M.1 600 2 - 1)) = 0 from c5)]; rfl) | rfl
  · rw [if_neg (show ¬ ((b2i (0 ≤ a1 ∧ a1 ≤ M.1 600 2 - 1)) = 0) from c5)] at hp
    refine j_aload_n g (i := 0) (by decide +kernel) rfl ?_
    refine j_iload_n g (i := 1) (by decide +kernel) rfl ?_
    obtain ⟨h0, hp⟩ := hp
    refine j_cV1r g v8_283 ⟨rfl, by decide⟩ (by decide +kernel) (by decide +kernel) (Nat.le_of_ble_eq_true rfl) (rnX8_minutesOf h0) ?_
    refine j_goto g (off := 4) (tgt := 17) (by decide +kernel) (by decide) ?_
    refine hr.1 _ _ _ _ (by decide +kernel) ⟨_, rfl, by first | rfl | exact b2i_nar | decide +kernel⟩ ?_ ?_
    · unfold r_X8_minutes; first | (simp only [if_neg (show ¬ ((b2i (0 ≤ a1 ∧ a1 ≤ M.1 600 2 - 1)) = 0) from c5)]; done) | (simp only [if_neg (show ¬ ((b2i (0 ≤ a1 ∧ a1 ≤ M.1 600 2 - 1)) = 0) from c5)]; rfl) | rfl
    · unfold w_X8_minutes; first | (simp only [if_neg (show ¬ ((b2i (0 ≤ a1 ∧ a1 ≤ M.1 600 2 - 1)) = 0) from c5)]; done) | (simp only [if_neg (show ¬ ((b2i (0 ≤ a1 ∧ a1 ≤ M.1 600 2 - 1)) = 0) from c5)]; rfl) | rfl
noncomputable def r_X8_may (M : Mm)  : Int32 := r_X8_maySet M 
def p_X8_may (M : Mm)  : Prop := (p_X8_maySet M ) ∧ True
theorem rnX8_may {d : Nat} {M : Mm}   (hp : p_X8_may M ) : Rn (d + 3) mX8_may [.ref 600] M (some (.int (r_X8_may M ))) M := by
  refine Rn.of [some (.ref 600)] (by decide +kernel) rfl (Nat.le_of_ble_eq_true rfl) rfl (fun J g hr => ?_)
  unfold p_X8_may at hp
  refine j_aload_n g (i := 0) (by decide +kernel) rfl ?_
  obtain ⟨h0, hp⟩ := hp
  refine j_cV0r g v8_298 ⟨rfl, by decide⟩ (by decide +kernel) (by decide +kernel) (Nat.le_of_ble_eq_true rfl) (rnX8_maySet h0) ?_
  refine hr.1 _ _ _ _ (by decide +kernel) ⟨_, rfl, by first | rfl | exact b2i_nar | decide +kernel⟩ ?_ ?_
  · unfold r_X8_may; rfl
  · rfl
def c_X8_firstOrder_4  (σ : Mm × Int32 × Int32) : Prop := if (σ.1.1 600 2) ≤ σ.2.2 then False else True
theorem ci_X8_firstOrder_4   {σ : Mm × Int32 × Int32} : c_X8_firstOrder_4  σ ↔ (if (σ.1.1 600 2) ≤ σ.2.2 then False else True) := Iff.rfl
noncomputable def s_X8_firstOrder_4  (σ : Mm × Int32 × Int32) : Mm × Int32 × Int32 := if (σ.1.1 600 2) ≤ σ.2.2 then σ else if (b2i (σ.1.1 607 (Int32.toNatClampNeg (σ.1.1 600 10 + 9 + σ.2.2)) = 0)) = 0 then (σ.1, σ.2.1, σ.2.2 + 1) else ((wi σ.1 614 (Int32.toNatClampNeg σ.2.1) σ.2.2), σ.2.1 + 1, σ.2.2 + 1)
def q_X8_firstOrder_4  (σ : Mm × Int32 × Int32) : Prop := (if (σ.1.1 600 2) ≤ σ.2.2 then True else (vp_in (σ.1.1 600 10 + 9 + σ.2.2) 44) ∧ (if (b2i (σ.1.1 607 (Int32.toNatClampNeg (σ.1.1 600 10 + 9 + σ.2.2)) = 0)) = 0 then True else (vp_in σ.2.1 6) ∧ True))
noncomputable def l_X8_firstOrder_4  (σ0 : Mm × Int32 × Int32) : Nat → Mm × Int32 × Int32 := itN (fun _ σ => s_X8_firstOrder_4  σ) σ0
theorem ps_X8_firstOrder_4 {d : Nat} {J : Nat → Lc → List Value → Mm → Prop}   {σ : Mm × Int32 × Int32}  (g : Good mX8_firstOrder.1 mX8_firstOrder.2.2.1 mX8_firstOrder.2.2.2.1 (d + 1) J) (hc : c_X8_firstOrder_4  σ) (hp : q_X8_firstOrder_4  σ) (k : J 4 [some (.ref 600), some (.int ((s_X8_firstOrder_4  σ).2.1)), some (.int ((s_X8_firstOrder_4  σ).2.2))] [] ((s_X8_firstOrder_4  σ).1)) : J 4 [some (.ref 600), some (.int σ.2.1), some (.int σ.2.2)] [] σ.1 := by
  unfold c_X8_firstOrder_4 at hc
  unfold q_X8_firstOrder_4 at hp
  unfold s_X8_firstOrder_4 at k
  refine j_iload_n g (i := 2) (by decide +kernel) rfl ?_
  refine j_aload_n g (i := 0) (by decide +kernel) rfl ?_
  refine j_gI g f8_99 (by decide +kernel) (by decide +kernel) (by decide +kernel) ?_
  refine j_icmp_ge g (off := 27) (tgt := 36) (by decide +kernel) (by decide) (fun c9 => ?_) (fun c9 => ?_)
  · (try rw [if_pos (show (σ.1.1 600 2) ≤ σ.2.2 from c9)] at hc); (rw [if_pos (show (σ.1.1 600 2) ≤ σ.2.2 from c9)] at hp); (try simp only [if_pos (show (σ.1.1 600 2) ≤ σ.2.2 from c9)] at k)
    exact hc.elim
  · (try rw [if_neg (show ¬ ((σ.1.1 600 2) ≤ σ.2.2) from c9)] at hc); (rw [if_neg (show ¬ ((σ.1.1 600 2) ≤ σ.2.2) from c9)] at hp); (try simp only [if_neg (show ¬ ((σ.1.1 600 2) ≤ σ.2.2) from c9)] at k)
    refine j_aload_n g (i := 0) (by decide +kernel) rfl ?_
    refine j_iload_n g (i := 2) (by decide +kernel) rfl ?_
    obtain ⟨h0, hp⟩ := hp
    refine j_cV1r g v8_246 ⟨rfl, by decide⟩ (by decide +kernel) (by decide +kernel) (Nat.le_of_ble_eq_true rfl) (rnX8_isOpen h0) ?_
    refine j_if_eq g (off := 13) (tgt := 30) (by decide +kernel) (by decide) (fun c17 => ?_) (fun c17 => ?_)
    · (try rw [if_pos (show (b2i (σ.1.1 607 (Int32.toNatClampNeg (σ.1.1 600 10 + 9 + σ.2.2)) = 0)) = 0 from c17)] at hc); (rw [if_pos (show (b2i (σ.1.1 607 (Int32.toNatClampNeg (σ.1.1 600 10 + 9 + σ.2.2)) = 0)) = 0 from c17)] at hp); (try simp only [if_pos (show (b2i (σ.1.1 607 (Int32.toNatClampNeg (σ.1.1 600 10 + 9 + σ.2.2)) = 0)) = 0 from c17)] at k)
      refine j_iinc g (i := 2) (n := 1) (1) (by decide +kernel) rfl (by decide) rfl ?_
      dsimp only [stL, clL, hdL]
      refine j_goto g (off := -29) (tgt := 4) (by decide +kernel) (by decide) ?_
      exact k 
    · (try rw [if_neg (show ¬ ((b2i (σ.1.1 607 (Int32.toNatClampNeg (σ.1.1 600 10 + 9 + σ.2.2)) = 0)) = 0) from c17)] at hc); (rw [if_neg (show ¬ ((b2i (σ.1.1 607 (Int32.toNatClampNeg (σ.1.1 600 10 + 9 + σ.2.2)) = 0)) = 0) from c17)] at hp); (try simp only [if_neg (show ¬ ((b2i (σ.1.1 607 (Int32.toNatClampNeg (σ.1.1 600 10 + 9 + σ.2.2)) = 0)) = 0) from c17)] at k)
      refine j_aload_n g (i := 0) (by decide +kernel) rfl ?_
      refine j_gA g (b := 614) f8_49 (by decide +kernel) (by decide +kernel) (by decide +kernel) (by decide +kernel) ?_
      refine j_iload_n g (i := 1) (by decide +kernel) rfl ?_
      refine j_iload_n g (i := 2) (by decide +kernel) rfl ?_
      obtain ⟨h0, hp⟩ := hp
      refine j_is g 6 (by decide +kernel) (by decide +kernel) (by decide +kernel) h0 ?_
      refine j_iinc g (i := 1) (n := 1) (1) (by decide +kernel) rfl (by decide) rfl ?_
      dsimp only [stL, clL, hdL]
      refine j_iinc g (i := 2) (n := 1) (1) (by decide +kernel) rfl (by decide) rfl ?_
      dsimp only [stL, clL, hdL]
      refine j_goto g (off := -29) (tgt := 4) (by decide +kernel) (by decide) ?_
      exact k 
theorem sh_X8_firstOrder_4 {d : Nat} {J : Nat → Lc → List Value → Mm → Prop}   {σ0 : Mm × Int32 × Int32}  (g : Good mX8_firstOrder.1 mX8_firstOrder.2.2.1 mX8_firstOrder.2.2.2.1 (d + 1) J) : ∀ (N : Nat), (∀ k, k < N → c_X8_firstOrder_4  (l_X8_firstOrder_4  σ0 k)) → (∀ k, k < N → q_X8_firstOrder_4  (l_X8_firstOrder_4  σ0 k)) → (J 4 [some (.ref 600), some (.int ((l_X8_firstOrder_4  σ0 N).2.1)), some (.int ((l_X8_firstOrder_4  σ0 N).2.2))] [] ((l_X8_firstOrder_4  σ0 N).1)) → J 4 [some (.ref 600), some (.int σ0.2.1), some (.int σ0.2.2)] [] σ0.1
  | 0, _, _, k => k
  | N + 1, hc, hp, k => sh_X8_firstOrder_4  g N (fun i hi => hc i (Nat.lt_succ_of_lt hi)) (fun i hi => hp i (Nat.lt_succ_of_lt hi)) (ps_X8_firstOrder_4  g (hc N (Nat.lt_succ_self N)) (hp N (Nat.lt_succ_self N)) k)
noncomputable def r_X8_firstOrder (M : Mm)  : Int32 := if ((l_X8_firstOrder_4  (M, 0, 0) (Int32.toNatClampNeg (M.1 600 2))).1.1 600 2) ≤ ((l_X8_firstOrder_4  (M, 0, 0) (Int32.toNatClampNeg (M.1 600 2))).2.2) then (l_X8_firstOrder_4  (M, 0, 0) (Int32.toNatClampNeg (M.1 600 2))).2.1 else 0
noncomputable def w_X8_firstOrder (M : Mm)  : Mm := if ((l_X8_firstOrder_4  (M, 0, 0) (Int32.toNatClampNeg (M.1 600 2))).1.1 600 2) ≤ ((l_X8_firstOrder_4  (M, 0, 0) (Int32.toNatClampNeg (M.1 600 2))).2.2) then (l_X8_firstOrder_4  (M, 0, 0) (Int32.toNatClampNeg (M.1 600 2))).1 else M
def p_X8_firstOrder (M : Mm)  : Prop := (∀ k, k < (Int32.toNatClampNeg (M.1 600 2)) → c_X8_firstOrder_4  (l_X8_firstOrder_4  (M, 0, 0) k)) ∧ (∀ k, k < (Int32.toNatClampNeg (M.1 600 2)) → q_X8_firstOrder_4  (l_X8_firstOrder_4  (M, 0, 0) k)) ∧ (¬ c_X8_firstOrder_4  (l_X8_firstOrder_4  (M, 0, 0) (Int32.toNatClampNeg (M.1 600 2)))) ∧ (if ((l_X8_firstOrder_4  (M, 0, 0) (Int32.toNatClampNeg (M.1 600 2))).1.1 600 2) ≤ ((l_X8_firstOrder_4  (M, 0, 0) (Int32.toNatClampNeg (M.1 600 2))).2.2) then True else (vp_in ((l_X8_firstOrder_4  (M, 0, 0) (Int32.toNatClampNeg (M.1 600 2))).1.1 600 10 + 9 + ((l_X8_firstOrder_4  (M, 0, 0) (Int32.toNatClampNeg (M.1 600 2))).2.2)) 44) ∧ (if (b2i ((l_X8_firstOrder_4  (M, 0, 0) (Int32.toNatClampNeg (M.1 600 2))).1.1 607 (Int32.toNatClampNeg ((l_X8_firstOrder_4  (M, 0, 0) (Int32.toNatClampNeg (M.1 600 2))).1.1 600 10 + 9 + ((l_X8_firstOrder_4  (M, 0, 0) (Int32.toNatClampNeg (M.1 600 2))).2.2))) = 0)) = 0 then True else (vp_in ((l_X8_firstOrder_4  (M, 0, 0) (Int32.toNatClampNeg (M.1 600 2))).2.1) 6) ∧ True))
theorem rnX8_firstOrder {d : Nat} {M : Mm}   (hp : p_X8_firstOrder M ) : Rn (d + 1) mX8_firstOrder [.ref 600] M (some (.int (r_X8_firstOrder M ))) (w_X8_firstOrder M ) := by
  refine Rn.of [some (.ref 600), none, none] (by decide +kernel) rfl (Nat.le_of_ble_eq_true rfl) rfl (fun J g hr => ?_)
  unfold p_X8_firstOrder at hp
  refine j_iconst g (n := 0) (0) (by decide +kernel) rfl ?_
  refine j_istore_n g (i := 1) (by decide +kernel) (by decide) ?_
  dsimp only [stL, clL, hdL]
  refine j_iconst g (n := 0) (0) (by decide +kernel) rfl ?_
  refine j_istore_n g (i := 2) (by decide +kernel) (by decide) ?_
  dsimp only [stL, clL, hdL]
  obtain ⟨h0, hp⟩ := hp
  have hc_4_1 := h0
  obtain ⟨h0, hp⟩ := hp
  have hq_4_1 := h0
  obtain ⟨h0, hp⟩ := hp
  have hx_4_1 := h0
  refine sh_X8_firstOrder_4   g (σ0 := (M, 0, 0)) (Int32.toNatClampNeg (M.1 600 2)) hc_4_1 hq_4_1 ?_ 
  refine j_iload_n g (i := 2) (by decide +kernel) rfl ?_
  refine j_aload_n g (i := 0) (by decide +kernel) rfl ?_
  refine j_gI g f8_99 (by decide +kernel) (by decide +kernel) (by decide +kernel) ?_
  refine j_icmp_ge g (off := 27) (tgt := 36) (by decide +kernel) (by decide) (fun c9 => ?_) (fun c9 => ?_)
  · rw [if_pos (show ((l_X8_firstOrder_4  (M, 0, 0) (Int32.toNatClampNeg (M.1 600 2))).1.1 600 2) ≤ ((l_X8_firstOrder_4  (M, 0, 0) (Int32.toNatClampNeg (M.1 600 2))).2.2) from c9)] at hp
    refine j_iload_n g (i := 1) (by decide +kernel) rfl ?_
    refine hr.1 _ _ _ _ (by decide +kernel) ⟨_, rfl, by first | rfl | exact b2i_nar | decide +kernel⟩ ?_ ?_
    · unfold r_X8_firstOrder; first | (simp only [if_pos (show ((l_X8_firstOrder_4  (M, 0, 0) (Int32.toNatClampNeg (M.1 600 2))).1.1 600 2) ≤ ((l_X8_firstOrder_4  (M, 0, 0) (Int32.toNatClampNeg (M.1 600 2))).2.2) from c9)]; done) | (simp only [if_pos (show ((l_X8_firstOrder_4  (M, 0, 0) (Int32.toNatClampNeg (M.1 600 2))).1.1 600 2) ≤ ((l_X8_firstOrder_4  (M, 0, 0) (Int32.toNatClampNeg (M.1 600 2))).2.2) from c9)]; rfl) | rfl
    · unfold w_X8_firstOrder; first | (simp only [if_pos (show ((l_X8_firstOrder_4  (M, 0, 0) (Int32.toNatClampNeg (M.1 600 2))).1.1 600 2) ≤ ((l_X8_firstOrder_4  (M, 0, 0) (Int32.toNatClampNeg (M.1 600 2))).2.2) from c9)]; done) | (simp only [if_pos (show ((l_X8_firstOrder_4  (M, 0, 0) (Int32.toNatClampNeg (M.1 600 2))).1.1 600 2) ≤ ((l_X8_firstOrder_4  (M, 0, 0) (Int32.toNatClampNeg (M.1 600 2))).2.2) from c9)]; rfl) | rfl
  · rw [if_neg (show ¬ (((l_X8_firstOrder_4  (M, 0, 0) (Int32.toNatClampNeg (M.1 600 2))).1.1 600 2) ≤ ((l_X8_firstOrder_4  (M, 0, 0) (Int32.toNatClampNeg (M.1 600 2))).2.2)) from c9)] at hp
    refine j_aload_n g (i := 0) (by decide +kernel) rfl ?_
    refine j_iload_n g (i := 2) (by decide +kernel) rfl ?_
    obtain ⟨h0, hp⟩ := hp
    refine j_cV1r g v8_246 ⟨rfl, by decide⟩ (by decide +kernel) (by decide +kernel) (Nat.le_of_ble_eq_true rfl) (rnX8_isOpen h0) ?_
    refine j_if_eq g (off := 13) (tgt := 30) (by decide +kernel) (by decide) (fun c17 => ?_) (fun c17 => ?_)
    · rw [if_pos (show (b2i ((l_X8_firstOrder_4  (M, 0, 0) (Int32.toNatClampNeg (M.1 600 2))).1.1 607 (Int32.toNatClampNeg ((l_X8_firstOrder_4  (M, 0, 0) (Int32.toNatClampNeg (M.1 600 2))).1.1 600 10 + 9 + ((l_X8_firstOrder_4  (M, 0, 0) (Int32.toNatClampNeg (M.1 600 2))).2.2))) = 0)) = 0 from c17)] at hp
      refine j_iinc g (i := 2) (n := 1) (1) (by decide +kernel) rfl (by decide) rfl ?_
      dsimp only [stL, clL, hdL]
      refine j_goto g (off := -29) (tgt := 4) (by decide +kernel) (by decide) ?_
      refine absurd (ci_X8_firstOrder_4.mpr ?_) hx_4_1
      simp only [if_neg (show ¬ (((l_X8_firstOrder_4  (M, 0, 0) (Int32.toNatClampNeg (M.1 600 2))).1.1 600 2) ≤ ((l_X8_firstOrder_4  (M, 0, 0) (Int32.toNatClampNeg (M.1 600 2))).2.2)) from c9), if_pos (show (b2i ((l_X8_firstOrder_4  (M, 0, 0) (Int32.toNatClampNeg (M.1 600 2))).1.1 607 (Int32.toNatClampNeg ((l_X8_firstOrder_4  (M, 0, 0) (Int32.toNatClampNeg (M.1 600 2))).1.1 600 10 + 9 + ((l_X8_firstOrder_4  (M, 0, 0) (Int32.toNatClampNeg (M.1 600 2))).2.2))) = 0)) = 0 from c17)]
    · rw [if_neg (show ¬ ((b2i ((l_X8_firstOrder_4  (M, 0, 0) (Int32.toNatClampNeg (M.1 600 2))).1.1 607 (Int32.toNatClampNeg ((l_X8_firstOrder_4  (M, 0, 0) (Int32.toNatClampNeg (M.1 600 2))).1.1 600 10 + 9 + ((l_X8_firstOrder_4  (M, 0, 0) (Int32.toNatClampNeg (M.1 600 2))).2.2))) = 0)) = 0) from c17)] at hp
      refine j_aload_n g (i := 0) (by decide +kernel) rfl ?_
      refine j_gA g (b := 614) f8_49 (by decide +kernel) (by decide +kernel) (by decide +kernel) (by decide +kernel) ?_
      refine j_iload_n g (i := 1) (by decide +kernel) rfl ?_
      refine j_iload_n g (i := 2) (by decide +kernel) rfl ?_
      obtain ⟨h0, hp⟩ := hp
      refine j_is g 6 (by decide +kernel) (by decide +kernel) (by decide +kernel) h0 ?_
      refine j_iinc g (i := 1) (n := 1) (1) (by decide +kernel) rfl (by decide) rfl ?_
      dsimp only [stL, clL, hdL]
      refine j_iinc g (i := 2) (n := 1) (1) (by decide +kernel) rfl (by decide) rfl ?_
      dsimp only [stL, clL, hdL]
      refine j_goto g (off := -29) (tgt := 4) (by decide +kernel) (by decide) ?_
      refine absurd (ci_X8_firstOrder_4.mpr ?_) hx_4_1
      simp only [if_neg (show ¬ (((l_X8_firstOrder_4  (M, 0, 0) (Int32.toNatClampNeg (M.1 600 2))).1.1 600 2) ≤ ((l_X8_firstOrder_4  (M, 0, 0) (Int32.toNatClampNeg (M.1 600 2))).2.2)) from c9), if_neg (show ¬ ((b2i ((l_X8_firstOrder_4  (M, 0, 0) (Int32.toNatClampNeg (M.1 600 2))).1.1 607 (Int32.toNatClampNeg ((l_X8_firstOrder_4  (M, 0, 0) (Int32.toNatClampNeg (M.1 600 2))).1.1 600 10 + 9 + ((l_X8_firstOrder_4  (M, 0, 0) (Int32.toNatClampNeg (M.1 600 2))).2.2))) = 0)) = 0) from c17)]
def c_X8_takesOrder_24 (a1 : Int32) (x2 : Int32) (σ : Mm × Int32 × Int32) : Prop := if x2 ≤ σ.2.2 then False else if (b2i (0 ≤ ((wi σ.1 614 (Int32.toNatClampNeg σ.2.2) ((a1 >>> (((3 : Int32) * σ.2.2) &&& 31)) &&& 7)).1 614 (Int32.toNatClampNeg σ.2.2)) ∧ ((wi σ.1 614 (Int32.toNatClampNeg σ.2.2) ((a1 >>> (((3 : Int32) * σ.2.2) &&& 31)) &&& 7)).1 614 (Int32.toNatClampNeg σ.2.2)) ≤ (wi σ.1 614 (Int32.toNatClampNeg σ.2.2) ((a1 >>> (((3 : Int32) * σ.2.2) &&& 31)) &&& 7)).1 600 2 - 1)) = 0 then False else if (b2i ((wi σ.1 614 (Int32.toNatClampNeg σ.2.2) ((a1 >>> (((3 : Int32) * σ.2.2) &&& 31)) &&& 7)).1 607 (Int32.toNatClampNeg ((wi σ.1 614 (Int32.toNatClampNeg σ.2.2) ((a1 >>> (((3 : Int32) * σ.2.2) &&& 31)) &&& 7)).1 600 10 + 9 + ((wi σ.1 614 (Int32.toNatClampNeg σ.2.2) ((a1 >>> (((3 : Int32) * σ.2.2) &&& 31)) &&& 7)).1 614 (Int32.toNatClampNeg σ.2.2)))) = 0)) = 0 then False else if ¬ ((σ.2.1 >>> (((wi σ.1 614 (Int32.toNatClampNeg σ.2.2) ((a1 >>> (((3 : Int32) * σ.2.2) &&& 31)) &&& 7)).1 614 (Int32.toNatClampNeg σ.2.2)) &&& 31)) &&& 1) = 1 then True else False
theorem ci_X8_takesOrder_24 {a1 : Int32} {x2 : Int32} {σ : Mm × Int32 × Int32} : c_X8_takesOrder_24 a1 x2 σ ↔ (if x2 ≤ σ.2.2 then False else if (b2i (0 ≤ ((wi σ.1 614 (Int32.toNatClampNeg σ.2.2) ((a1 >>> (((3 : Int32) * σ.2.2) &&& 31)) &&& 7)).1 614 (Int32.toNatClampNeg σ.2.2)) ∧ ((wi σ.1 614 (Int32.toNatClampNeg σ.2.2) ((a1 >>> (((3 : Int32) * σ.2.2) &&& 31)) &&& 7)).1 614 (Int32.toNatClampNeg σ.2.2)) ≤ (wi σ.1 614 (Int32.toNatClampNeg σ.2.2) ((a1 >>> (((3 : Int32) * σ.2.2) &&& 31)) &&& 7)).1 600 2 - 1)) = 0 then False else if (b2i ((wi σ.1 614 (Int32.toNatClampNeg σ.2.2) ((a1 >>> (((3 : Int32) * σ.2.2) &&& 31)) &&& 7)).1 607 (Int32.toNatClampNeg ((wi σ.1 614 (Int32.toNatClampNeg σ.2.2) ((a1 >>> (((3 : Int32) * σ.2.2) &&& 31)) &&& 7)).1 600 10 + 9 + ((wi σ.1 614 (Int32.toNatClampNeg σ.2.2) ((a1 >>> (((3 : Int32) * σ.2.2) &&& 31)) &&& 7)).1 614 (Int32.toNatClampNeg σ.2.2)))) = 0)) = 0 then False else if ¬ ((σ.2.1 >>> (((wi σ.1 614 (Int32.toNatClampNeg σ.2.2) ((a1 >>> (((3 : Int32) * σ.2.2) &&& 31)) &&& 7)).1 614 (Int32.toNatClampNeg σ.2.2)) &&& 31)) &&& 1) = 1 then True else False) := Iff.rfl
noncomputable def s_X8_takesOrder_24 (a1 : Int32) (x2 : Int32) (σ : Mm × Int32 × Int32) : Mm × Int32 × Int32 := if x2 ≤ σ.2.2 then σ else if (b2i (0 ≤ ((wi σ.1 614 (Int32.toNatClampNeg σ.2.2) ((a1 >>> (((3 : Int32) * σ.2.2) &&& 31)) &&& 7)).1 614 (Int32.toNatClampNeg σ.2.2)) ∧ ((wi σ.1 614 (Int32.toNatClampNeg σ.2.2) ((a1 >>> (((3 : Int32) * σ.2.2) &&& 31)) &&& 7)).1 614 (Int32.toNatClampNeg σ.2.2)) ≤ (wi σ.1 614 (Int32.toNatClampNeg σ.2.2) ((a1 >>> (((3 : Int32) * σ.2.2) &&& 31)) &&& 7)).1 600 2 - 1)) = 0 then σ else if (b2i ((wi σ.1 614 (Int32.toNatClampNeg σ.2.2) ((a1 >>> (((3 : Int32) * σ.2.2) &&& 31)) &&& 7)).1 607 (Int32.toNatClampNeg ((wi σ.1 614 (Int32.toNatClampNeg σ.2.2) ((a1 >>> (((3 : Int32) * σ.2.2) &&& 31)) &&& 7)).1 600 10 + 9 + ((wi σ.1 614 (Int32.toNatClampNeg σ.2.2) ((a1 >>> (((3 : Int32) * σ.2.2) &&& 31)) &&& 7)).1 614 (Int32.toNatClampNeg σ.2.2)))) = 0)) = 0 then σ else if ¬ ((σ.2.1 >>> (((wi σ.1 614 (Int32.toNatClampNeg σ.2.2) ((a1 >>> (((3 : Int32) * σ.2.2) &&& 31)) &&& 7)).1 614 (Int32.toNatClampNeg σ.2.2)) &&& 31)) &&& 1) = 1 then ((wi σ.1 614 (Int32.toNatClampNeg σ.2.2) ((a1 >>> (((3 : Int32) * σ.2.2) &&& 31)) &&& 7)), σ.2.1 ||| ((1 : Int32) <<< (((wi σ.1 614 (Int32.toNatClampNeg σ.2.2) ((a1 >>> (((3 : Int32) * σ.2.2) &&& 31)) &&& 7)).1 614 (Int32.toNatClampNeg σ.2.2)) &&& 31)), σ.2.2 + 1) else σ
def q_X8_takesOrder_24 (a1 : Int32) (x2 : Int32) (σ : Mm × Int32 × Int32) : Prop := (if x2 ≤ σ.2.2 then True else (vp_in σ.2.2 6) ∧ (vp_in σ.2.2 6) ∧ (if (b2i (0 ≤ ((wi σ.1 614 (Int32.toNatClampNeg σ.2.2) ((a1 >>> (((3 : Int32) * σ.2.2) &&& 31)) &&& 7)).1 614 (Int32.toNatClampNeg σ.2.2)) ∧ ((wi σ.1 614 (Int32.toNatClampNeg σ.2.2) ((a1 >>> (((3 : Int32) * σ.2.2) &&& 31)) &&& 7)).1 614 (Int32.toNatClampNeg σ.2.2)) ≤ (wi σ.1 614 (Int32.toNatClampNeg σ.2.2) ((a1 >>> (((3 : Int32) * σ.2.2) &&& 31)) &&& 7)).1 600 2 - 1)) = 0 then True else (vp_in σ.2.2 6) ∧ (vp_in ((wi σ.1 614 (Int32.toNatClampNeg σ.2.2) ((a1 >>> (((3 : Int32) * σ.2.2) &&& 31)) &&& 7)).1 600 10 + 9 + ((wi σ.1 614 (Int32.toNatClampNeg σ.2.2) ((a1 >>> (((3 : Int32) * σ.2.2) &&& 31)) &&& 7)).1 614 (Int32.toNatClampNeg σ.2.2))) 44) ∧ (if (b2i ((wi σ.1 614 (Int32.toNatClampNeg σ.2.2) ((a1 >>> (((3 : Int32) * σ.2.2) &&& 31)) &&& 7)).1 607 (Int32.toNatClampNeg ((wi σ.1 614 (Int32.toNatClampNeg σ.2.2) ((a1 >>> (((3 : Int32) * σ.2.2) &&& 31)) &&& 7)).1 600 10 + 9 + ((wi σ.1 614 (Int32.toNatClampNeg σ.2.2) ((a1 >>> (((3 : Int32) * σ.2.2) &&& 31)) &&& 7)).1 614 (Int32.toNatClampNeg σ.2.2)))) = 0)) = 0 then True else (vp_in σ.2.2 6) ∧ (if ¬ ((σ.2.1 >>> (((wi σ.1 614 (Int32.toNatClampNeg σ.2.2) ((a1 >>> (((3 : Int32) * σ.2.2) &&& 31)) &&& 7)).1 614 (Int32.toNatClampNeg σ.2.2)) &&& 31)) &&& 1) = 1 then (vp_in σ.2.2 6) ∧ True else True))))
noncomputable def l_X8_takesOrder_24 (a1 : Int32) (x2 : Int32) (σ0 : Mm × Int32 × Int32) : Nat → Mm × Int32 × Int32 := itN (fun _ σ => s_X8_takesOrder_24 a1 x2 σ) σ0
theorem ps_X8_takesOrder_24 {d : Nat} {J : Nat → Lc → List Value → Mm → Prop} {a1 : Int32} {x2 : Int32} {σ : Mm × Int32 × Int32}  (g : Good mX8_takesOrder.1 mX8_takesOrder.2.2.1 mX8_takesOrder.2.2.2.1 (d + 2) J) (hc : c_X8_takesOrder_24 a1 x2 σ) (hp : q_X8_takesOrder_24 a1 x2 σ) (k : J 24 [some (.ref 600), some (.int a1), some (.int x2), some (.int ((s_X8_takesOrder_24 a1 x2 σ).2.1)), some (.int ((s_X8_takesOrder_24 a1 x2 σ).2.2))] [] ((s_X8_takesOrder_24 a1 x2 σ).1)) : J 24 [some (.ref 600), some (.int a1), some (.int x2), some (.int σ.2.1), some (.int σ.2.2)] [] σ.1 := by
  unfold c_X8_takesOrder_24 at hc
  unfold q_X8_takesOrder_24 at hp
  unfold s_X8_takesOrder_24 at k
  refine j_iload g (i := 4) (by decide +kernel) rfl ?_
  refine j_iload_n g (i := 2) (by decide +kernel) rfl ?_
  refine j_icmp_ge g (off := 82) (tgt := 109) (by decide +kernel) (by decide) (fun c27 => ?_) (fun c27 => ?_)
  · (try rw [if_pos (show x2 ≤ σ.2.2 from c27)] at hc); (rw [if_pos (show x2 ≤ σ.2.2 from c27)] at hp); (try simp only [if_pos (show x2 ≤ σ.2.2 from c27)] at k)
    exact hc.elim
  · (try rw [if_neg (show ¬ (x2 ≤ σ.2.2) from c27)] at hc); (rw [if_neg (show ¬ (x2 ≤ σ.2.2) from c27)] at hp); (try simp only [if_neg (show ¬ (x2 ≤ σ.2.2) from c27)] at k)
    refine j_aload_n g (i := 0) (by decide +kernel) rfl ?_
    refine j_gA g (b := 614) f8_49 (by decide +kernel) (by decide +kernel) (by decide +kernel) (by decide +kernel) ?_
    refine j_iload g (i := 4) (by decide +kernel) rfl ?_
    refine j_iload_n g (i := 1) (by decide +kernel) rfl ?_
    refine j_iconst g (n := 3) (3) (by decide +kernel) rfl ?_
    refine j_iload g (i := 4) (by decide +kernel) rfl ?_
    refine j_imul g (by decide +kernel) ?_
    refine j_ishr g (by decide +kernel) ?_
    refine j_bipush g (n := 7) (7) (by decide +kernel) (by decide +kernel) ?_
    refine j_iand g (by decide +kernel) ?_
    obtain ⟨h0, hp⟩ := hp
    refine j_is g 6 (by decide +kernel) (by decide +kernel) (by decide +kernel) h0 ?_
    refine j_aload_n g (i := 0) (by decide +kernel) rfl ?_
    refine j_aload_n g (i := 0) (by decide +kernel) rfl ?_
    refine j_gA g (b := 614) f8_49 (by decide +kernel) (by decide +kernel) (by decide +kernel) (by decide +kernel) ?_
    refine j_iload g (i := 4) (by decide +kernel) rfl ?_
    obtain ⟨h0, hp⟩ := hp
    refine j_ia g 6 (by decide +kernel) (by decide +kernel) (by decide +kernel) h0 ?_
    refine j_cV1r g v8_243 ⟨rfl, by decide⟩ (by decide +kernel) (by decide +kernel) (Nat.le_of_ble_eq_true rfl) (rnX8_isWork) ?_
    refine j_if_eq g (off := 32) (tgt := 89) (by decide +kernel) (by decide) (fun c57 => ?_) (fun c57 => ?_)
    · (try rw [if_pos (show (b2i (0 ≤ ((wi σ.1 614 (Int32.toNatClampNeg σ.2.2) ((a1 >>> (((3 : Int32) * σ.2.2) &&& 31)) &&& 7)).1 614 (Int32.toNatClampNeg σ.2.2)) ∧ ((wi σ.1 614 (Int32.toNatClampNeg σ.2.2) ((a1 >>> (((3 : Int32) * σ.2.2) &&& 31)) &&& 7)).1 614 (Int32.toNatClampNeg σ.2.2)) ≤ (wi σ.1 614 (Int32.toNatClampNeg σ.2.2) ((a1 >>> (((3 : Int32) * σ.2.2) &&& 31)) &&& 7)).1 600 2 - 1)) = 0 from c57)] at hc); (rw [if_pos (show (b2i (0 ≤ ((wi σ.1 614 (Int32.toNatClampNeg σ.2.2) ((a1 >>> (((3 : Int32) * σ.2.2) &&& 31)) &&& 7)).1 614 (Int32.toNatClampNeg σ.2.2)) ∧ ((wi σ.1 614 (Int32.toNatClampNeg σ.2.2) ((a1 >>> (((3 : Int32) * σ.2.2) &&& 31)) &&& 7)).1 614 (Int32.toNatClampNeg σ.2.2)) ≤ (wi σ.1 614 (Int32.toNatClampNeg σ.2.2) ((a1 >>> (((3 : Int32) * σ.2.2) &&& 31)) &&& 7)).1 600 2 - 1)) = 0 from c57)] at hp); (try simp only [if_pos (show (b2i (0 ≤ ((wi σ.1 614 (Int32.toNatClampNeg σ.2.2) ((a1 >>> (((3 : Int32) * σ.2.2) &&& 31)) &&& 7)).1 614 (Int32.toNatClampNeg σ.2.2)) ∧ ((wi σ.1 614 (Int32.toNatClampNeg σ.2.2) ((a1 >>> (((3 : Int32) * σ.2.2) &&& 31)) &&& 7)).1 614 (Int32.toNatClampNeg σ.2.2)) ≤ (wi σ.1 614 (Int32.toNatClampNeg σ.2.2) ((a1 >>> (((3 : Int32) * σ.2.2) &&& 31)) &&& 7)).1 600 2 - 1)) = 0 from c57)] at k)
      exact hc.elim
    · (try rw [if_neg (show ¬ ((b2i (0 ≤ ((wi σ.1 614 (Int32.toNatClampNeg σ.2.2) ((a1 >>> (((3 : Int32) * σ.2.2) &&& 31)) &&& 7)).1 614 (Int32.toNatClampNeg σ.2.2)) ∧ ((wi σ.1 614 (Int32.toNatClampNeg σ.2.2) ((a1 >>> (((3 : Int32) * σ.2.2) &&& 31)) &&& 7)).1 614 (Int32.toNatClampNeg σ.2.2)) ≤ (wi σ.1 614 (Int32.toNatClampNeg σ.2.2) ((a1 >>> (((3 : Int32) * σ.2.2) &&& 31)) &&& 7)).1 600 2 - 1)) = 0) from c57)] at hc); (rw [if_neg (show ¬ ((b2i (0 ≤ ((wi σ.1 614 (Int32.toNatClampNeg σ.2.2) ((a1 >>> (((3 : Int32) * σ.2.2) &&& 31)) &&& 7)).1 614 (Int32.toNatClampNeg σ.2.2)) ∧ ((wi σ.1 614 (Int32.toNatClampNeg σ.2.2) ((a1 >>> (((3 : Int32) * σ.2.2) &&& 31)) &&& 7)).1 614 (Int32.toNatClampNeg σ.2.2)) ≤ (wi σ.1 614 (Int32.toNatClampNeg σ.2.2) ((a1 >>> (((3 : Int32) * σ.2.2) &&& 31)) &&& 7)).1 600 2 - 1)) = 0) from c57)] at hp); (try simp only [if_neg (show ¬ ((b2i (0 ≤ ((wi σ.1 614 (Int32.toNatClampNeg σ.2.2) ((a1 >>> (((3 : Int32) * σ.2.2) &&& 31)) &&& 7)).1 614 (Int32.toNatClampNeg σ.2.2)) ∧ ((wi σ.1 614 (Int32.toNatClampNeg σ.2.2) ((a1 >>> (((3 : Int32) * σ.2.2) &&& 31)) &&& 7)).1 614 (Int32.toNatClampNeg σ.2.2)) ≤ (wi σ.1 614 (Int32.toNatClampNeg σ.2.2) ((a1 >>> (((3 : Int32) * σ.2.2) &&& 31)) &&& 7)).1 600 2 - 1)) = 0) from c57)] at k)
      refine j_aload_n g (i := 0) (by decide +kernel) rfl ?_
      refine j_aload_n g (i := 0) (by decide +kernel) rfl ?_
      refine j_gA g (b := 614) f8_49 (by decide +kernel) (by decide +kernel) (by decide +kernel) (by decide +kernel) ?_
      refine j_iload g (i := 4) (by decide +kernel) rfl ?_
      obtain ⟨h0, hp⟩ := hp
      refine j_ia g 6 (by decide +kernel) (by decide +kernel) (by decide +kernel) h0 ?_
      obtain ⟨h0, hp⟩ := hp
      refine j_cV1r g v8_246 ⟨rfl, by decide⟩ (by decide +kernel) (by decide +kernel) (Nat.le_of_ble_eq_true rfl) (rnX8_isOpen h0) ?_
      refine j_if_eq g (off := 18) (tgt := 89) (by decide +kernel) (by decide) (fun c71 => ?_) (fun c71 => ?_)
      · (try rw [if_pos (show (b2i ((wi σ.1 614 (Int32.toNatClampNeg σ.2.2) ((a1 >>> (((3 : Int32) * σ.2.2) &&& 31)) &&& 7)).1 607 (Int32.toNatClampNeg ((wi σ.1 614 (Int32.toNatClampNeg σ.2.2) ((a1 >>> (((3 : Int32) * σ.2.2) &&& 31)) &&& 7)).1 600 10 + 9 + ((wi σ.1 614 (Int32.toNatClampNeg σ.2.2) ((a1 >>> (((3 : Int32) * σ.2.2) &&& 31)) &&& 7)).1 614 (Int32.toNatClampNeg σ.2.2)))) = 0)) = 0 from c71)] at hc); (rw [if_pos (show (b2i ((wi σ.1 614 (Int32.toNatClampNeg σ.2.2) ((a1 >>> (((3 : Int32) * σ.2.2) &&& 31)) &&& 7)).1 607 (Int32.toNatClampNeg ((wi σ.1 614 (Int32.toNatClampNeg σ.2.2) ((a1 >>> (((3 : Int32) * σ.2.2) &&& 31)) &&& 7)).1 600 10 + 9 + ((wi σ.1 614 (Int32.toNatClampNeg σ.2.2) ((a1 >>> (((3 : Int32) * σ.2.2) &&& 31)) &&& 7)).1 614 (Int32.toNatClampNeg σ.2.2)))) = 0)) = 0 from c71)] at hp); (try simp only [if_pos (show (b2i ((wi σ.1 614 (Int32.toNatClampNeg σ.2.2) ((a1 >>> (((3 : Int32) * σ.2.2) &&& 31)) &&& 7)).1 607 (Int32.toNatClampNeg ((wi σ.1 614 (Int32.toNatClampNeg σ.2.2) ((a1 >>> (((3 : Int32) * σ.2.2) &&& 31)) &&& 7)).1 600 10 + 9 + ((wi σ.1 614 (Int32.toNatClampNeg σ.2.2) ((a1 >>> (((3 : Int32) * σ.2.2) &&& 31)) &&& 7)).1 614 (Int32.toNatClampNeg σ.2.2)))) = 0)) = 0 from c71)] at k)
        exact hc.elim
      · (try rw [if_neg (show ¬ ((b2i ((wi σ.1 614 (Int32.toNatClampNeg σ.2.2) ((a1 >>> (((3 : Int32) * σ.2.2) &&& 31)) &&& 7)).1 607 (Int32.toNatClampNeg ((wi σ.1 614 (Int32.toNatClampNeg σ.2.2) ((a1 >>> (((3 : Int32) * σ.2.2) &&& 31)) &&& 7)).1 600 10 + 9 + ((wi σ.1 614 (Int32.toNatClampNeg σ.2.2) ((a1 >>> (((3 : Int32) * σ.2.2) &&& 31)) &&& 7)).1 614 (Int32.toNatClampNeg σ.2.2)))) = 0)) = 0) from c71)] at hc); (rw [if_neg (show ¬ ((b2i ((wi σ.1 614 (Int32.toNatClampNeg σ.2.2) ((a1 >>> (((3 : Int32) * σ.2.2) &&& 31)) &&& 7)).1 607 (Int32.toNatClampNeg ((wi σ.1 614 (Int32.toNatClampNeg σ.2.2) ((a1 >>> (((3 : Int32) * σ.2.2) &&& 31)) &&& 7)).1 600 10 + 9 + ((wi σ.1 614 (Int32.toNatClampNeg σ.2.2) ((a1 >>> (((3 : Int32) * σ.2.2) &&& 31)) &&& 7)).1 614 (Int32.toNatClampNeg σ.2.2)))) = 0)) = 0) from c71)] at hp); (try simp only [if_neg (show ¬ ((b2i ((wi σ.1 614 (Int32.toNatClampNeg σ.2.2) ((a1 >>> (((3 : Int32) * σ.2.2) &&& 31)) &&& 7)).1 607 (Int32.toNatClampNeg ((wi σ.1 614 (Int32.toNatClampNeg σ.2.2) ((a1 >>> (((3 : Int32) * σ.2.2) &&& 31)) &&& 7)).1 600 10 + 9 + ((wi σ.1 614 (Int32.toNatClampNeg σ.2.2) ((a1 >>> (((3 : Int32) * σ.2.2) &&& 31)) &&& 7)).1 614 (Int32.toNatClampNeg σ.2.2)))) = 0)) = 0) from c71)] at k)
        refine j_iload_n g (i := 3) (by decide +kernel) rfl ?_
        refine j_aload_n g (i := 0) (by decide +kernel) rfl ?_
        refine j_gA g (b := 614) f8_49 (by decide +kernel) (by decide +kernel) (by decide +kernel) (by decide +kernel) ?_
        refine j_iload g (i := 4) (by decide +kernel) rfl ?_
        obtain ⟨h0, hp⟩ := hp
        refine j_ia g 6 (by decide +kernel) (by decide +kernel) (by decide +kernel) h0 ?_
        refine j_ishr g (by decide +kernel) ?_
        refine j_iconst g (n := 1) (1) (by decide +kernel) rfl ?_
        refine j_iand g (by decide +kernel) ?_
        refine j_iconst g (n := 1) (1) (by decide +kernel) rfl ?_
        refine j_icmp_ne g (off := 5) (tgt := 91) (by decide +kernel) (by decide) (fun c86 => ?_) (fun c86 => ?_)
        · (try rw [if_pos (show ¬ ((σ.2.1 >>> (((wi σ.1 614 (Int32.toNatClampNeg σ.2.2) ((a1 >>> (((3 : Int32) * σ.2.2) &&& 31)) &&& 7)).1 614 (Int32.toNatClampNeg σ.2.2)) &&& 31)) &&& 1) = 1 from c86)] at hc); (rw [if_pos (show ¬ ((σ.2.1 >>> (((wi σ.1 614 (Int32.toNatClampNeg σ.2.2) ((a1 >>> (((3 : Int32) * σ.2.2) &&& 31)) &&& 7)).1 614 (Int32.toNatClampNeg σ.2.2)) &&& 31)) &&& 1) = 1 from c86)] at hp); (try simp only [if_pos (show ¬ ((σ.2.1 >>> (((wi σ.1 614 (Int32.toNatClampNeg σ.2.2) ((a1 >>> (((3 : Int32) * σ.2.2) &&& 31)) &&& 7)).1 614 (Int32.toNatClampNeg σ.2.2)) &&& 31)) &&& 1) = 1 from c86)] at k)
          refine j_iload_n g (i := 3) (by decide +kernel) rfl ?_
          refine j_iconst g (n := 1) (1) (by decide +kernel) rfl ?_
          refine j_aload_n g (i := 0) (by decide +kernel) rfl ?_
          refine j_gA g (b := 614) f8_49 (by decide +kernel) (by decide +kernel) (by decide +kernel) (by decide +kernel) ?_
          refine j_iload g (i := 4) (by decide +kernel) rfl ?_
          obtain ⟨h0, hp⟩ := hp
          refine j_ia g 6 (by decide +kernel) (by decide +kernel) (by decide +kernel) h0 ?_
          refine j_ishl g (by decide +kernel) ?_
          refine j_ior g (by decide +kernel) ?_
          refine j_istore_n g (i := 3) (by decide +kernel) (by decide) ?_
          dsimp only [stL, clL, hdL]
          refine j_iinc g (i := 4) (n := 1) (1) (by decide +kernel) rfl (by decide) rfl ?_
          dsimp only [stL, clL, hdL]
          refine j_goto g (off := -82) (tgt := 24) (by decide +kernel) (by decide) ?_
          exact k 
        · (try rw [if_neg (show ¬ (¬ ((σ.2.1 >>> (((wi σ.1 614 (Int32.toNatClampNeg σ.2.2) ((a1 >>> (((3 : Int32) * σ.2.2) &&& 31)) &&& 7)).1 614 (Int32.toNatClampNeg σ.2.2)) &&& 31)) &&& 1) = 1) from c86)] at hc); (rw [if_neg (show ¬ (¬ ((σ.2.1 >>> (((wi σ.1 614 (Int32.toNatClampNeg σ.2.2) ((a1 >>> (((3 : Int32) * σ.2.2) &&& 31)) &&& 7)).1 614 (Int32.toNatClampNeg σ.2.2)) &&& 31)) &&& 1) = 1) from c86)] at hp); (try simp only [if_neg (show ¬ (¬ ((σ.2.1 >>> (((wi σ.1 614 (Int32.toNatClampNeg σ.2.2) ((a1 >>> (((3 : Int32) * σ.2.2) &&& 31)) &&& 7)).1 614 (Int32.toNatClampNeg σ.2.2)) &&& 31)) &&& 1) = 1) from c86)] at k)
          exact hc.elim
theorem sh_X8_takesOrder_24 {d : Nat} {J : Nat → Lc → List Value → Mm → Prop} {a1 : Int32} {x2 : Int32} {σ0 : Mm × Int32 × Int32}  (g : Good mX8_takesOrder.1 mX8_takesOrder.2.2.1 mX8_takesOrder.2.2.2.1 (d + 2) J) : ∀ (N : Nat), (∀ k, k < N → c_X8_takesOrder_24 a1 x2 (l_X8_takesOrder_24 a1 x2 σ0 k)) → (∀ k, k < N → q_X8_takesOrder_24 a1 x2 (l_X8_takesOrder_24 a1 x2 σ0 k)) → (J 24 [some (.ref 600), some (.int a1), some (.int x2), some (.int ((l_X8_takesOrder_24 a1 x2 σ0 N).2.1)), some (.int ((l_X8_takesOrder_24 a1 x2 σ0 N).2.2))] [] ((l_X8_takesOrder_24 a1 x2 σ0 N).1)) → J 24 [some (.ref 600), some (.int a1), some (.int x2), some (.int σ0.2.1), some (.int σ0.2.2)] [] σ0.1
  | 0, _, _, k => k
  | N + 1, hc, hp, k => sh_X8_takesOrder_24  g N (fun i hi => hc i (Nat.lt_succ_of_lt hi)) (fun i hi => hp i (Nat.lt_succ_of_lt hi)) (ps_X8_takesOrder_24  g (hc N (Nat.lt_succ_self N)) (hp N (Nat.lt_succ_self N)) k)
noncomputable def r_X8_takesOrder (M : Mm) (a1 : Int32) : Int32 := if a1 < 0 then (-1) else if (a1 >>> (((3 : Int32) * (r_X8_openMany M)) &&& 31)) = 0 then (if (r_X8_openMany M) ≤ ((l_X8_takesOrder_24 a1 (r_X8_openMany M) (M, 0, 0) (cntN (fun k => c_X8_takesOrder_24 a1 (r_X8_openMany M) (l_X8_takesOrder_24 a1 (r_X8_openMany M) (M, 0, 0) k)) 7)).2.2) then (if (r_X8_isAllowed (l_X8_takesOrder_24 a1 (r_X8_openMany M) (M, 0, 0) (cntN (fun k => c_X8_takesOrder_24 a1 (r_X8_openMany M) (l_X8_takesOrder_24 a1 (r_X8_openMany M) (M, 0, 0) k)) 7)).1 (r_X8_openMany M)) = 0 then (-4) else 0) else if (b2i (0 ≤ ((wi (l_X8_takesOrder_24 a1 (r_X8_openMany M) (M, 0, 0) (cntN (fun k => c_X8_takesOrder_24 a1 (r_X8_openMany M) (l_X8_takesOrder_24 a1 (r_X8_openMany M) (M, 0, 0) k)) 7)).1 614 (Int32.toNatClampNeg ((l_X8_takesOrder_24 a1 (r_X8_openMany M) (M, 0, 0) (cntN (fun k => c_X8_takesOrder_24 a1 (r_X8_openMany M) (l_X8_takesOrder_24 a1 (r_X8_openMany M) (M, 0, 0) k)) 7)).2.2)) ((a1 >>> (((3 : Int32) * ((l_X8_takesOrder_24 a1 (r_X8_openMany M) (M, 0, 0) (cntN (fun k => c_X8_takesOrder_24 a1 (r_X8_openMany M) (l_X8_takesOrder_24 a1 (r_X8_openMany M) (M, 0, 0) k)) 7)).2.2)) &&& 31)) &&& 7)).1 614 (Int32.toNatClampNeg ((l_X8_takesOrder_24 a1 (r_X8_openMany M) (M, 0, 0) (cntN (fun k => c_X8_takesOrder_24 a1 (r_X8_openMany M) (l_X8_takesOrder_24 a1 (r_X8_openMany M) (M, 0, 0) k)) 7)).2.2))) ∧ ((wi (l_X8_takesOrder_24 a1 (r_X8_openMany M) (M, 0, 0) (cntN (fun k => c_X8_takesOrder_24 a1 (r_X8_openMany M) (l_X8_takesOrder_24 a1 (r_X8_openMany M) (M, 0, 0) k)) 7)).1 614 (Int32.toNatClampNeg ((l_X8_takesOrder_24 a1 (r_X8_openMany M) (M, 0, 0) (cntN (fun k => c_X8_takesOrder_24 a1 (r_X8_openMany M) (l_X8_takesOrder_24 a1 (r_X8_openMany M) (M, 0, 0) k)) 7)).2.2)) ((a1 >>> (((3 : Int32) * ((l_X8_takesOrder_24 a1 (r_X8_openMany M) (M, 0, 0) (cntN (fun k => c_X8_takesOrder_24 a1 (r_X8_openMany M) (l_X8_takesOrder_24 a1 (r_X8_openMany M) (M, 0, 0) k)) 7)).2.2)) &&& 31)) &&& 7)).1 614 (Int32.toNatClampNeg ((l_X8_takesOrder_24 a1 (r_X8_openMany M) (M, 0, 0) (cntN (fun k => c_X8_takesOrder_24 a1 (r_X8_openMany M) (l_X8_takesOrder_24 a1 (r_X8_openMany M) (M, 0, 0) k)) 7)).2.2))) ≤ (wi (l_X8_takesOrder_24 a1 (r_X8_openMany M) (M, 0, 0) (cntN (fun k => c_X8_takesOrder_24 a1 (r_X8_openMany M) (l_X8_takesOrder_24 a1 (r_X8_openMany M) (M, 0, 0) k)) 7)).1 614 (Int32.toNatClampNeg ((l_X8_takesOrder_24 a1 (r_X8_openMany M) (M, 0, 0) (cntN (fun k => c_X8_takesOrder_24 a1 (r_X8_openMany M) (l_X8_takesOrder_24 a1 (r_X8_openMany M) (M, 0, 0) k)) 7)).2.2)) ((a1 >>> (((3 : Int32) * ((l_X8_takesOrder_24 a1 (r_X8_openMany M) (M, 0, 0) (cntN (fun k => c_X8_takesOrder_24 a1 (r_X8_openMany M) (l_X8_takesOrder_24 a1 (r_X8_openMany M) (M, 0, 0) k)) 7)).2.2)) &&& 31)) &&& 7)).1 600 2 - 1)) = 0 then (-1) else if (b2i ((wi (l_X8_takesOrder_24 a1 (r_X8_openMany M) (M, 0, 0) (cntN (fun k => c_X8_takesOrder_24 a1 (r_X8_openMany M) (l_X8_takesOrder_24 a1 (r_X8_openMany M) (M, 0, 0) k)) 7)).1 614 (Int32.toNatClampNeg ((l_X8_takesOrder_24 a1 (r_X8_openMany M) (M, 0, 0) (cntN (fun k => c_X8_takesOrder_24 a1 (r_X8_openMany M) (l_X8_takesOrder_24 a1 (r_X8_openMany M) (M, 0, 0) k)) 7)).2.2)) ((a1 >>> (((3 : Int32) * ((l_X8_takesOrder_24 a1 (r_X8_openMany M) (M, 0, 0) (cntN (fun k => c_X8_takesOrder_24 a1 (r_X8_openMany M) (l_X8_takesOrder_24 a1 (r_X8_openMany M) (M, 0, 0) k)) 7)).2.2)) &&& 31)) &&& 7)).1 607 (Int32.toNatClampNeg ((wi (l_X8_takesOrder_24 a1 (r_X8_openMany M) (M, 0, 0) (cntN (fun k => c_X8_takesOrder_24 a1 (r_X8_openMany M) (l_X8_takesOrder_24 a1 (r_X8_openMany M) (M, 0, 0) k)) 7)).1 614 (Int32.toNatClampNeg ((l_X8_takesOrder_24 a1 (r_X8_openMany M) (M, 0, 0) (cntN (fun k => c_X8_takesOrder_24 a1 (r_X8_openMany M) (l_X8_takesOrder_24 a1 (r_X8_openMany M) (M, 0, 0) k)) 7)).2.2)) ((a1 >>> (((3 : Int32) * ((l_X8_takesOrder_24 a1 (r_X8_openMany M) (M, 0, 0) (cntN (fun k => c_X8_takesOrder_24 a1 (r_X8_openMany M) (l_X8_takesOrder_24 a1 (r_X8_openMany M) (M, 0, 0) k)) 7)).2.2)) &&& 31)) &&& 7)).1 600 10 + 9 + ((wi (l_X8_takesOrder_24 a1 (r_X8_openMany M) (M, 0, 0) (cntN (fun k => c_X8_takesOrder_24 a1 (r_X8_openMany M) (l_X8_takesOrder_24 a1 (r_X8_openMany M) (M, 0, 0) k)) 7)).1 614 (Int32.toNatClampNeg ((l_X8_takesOrder_24 a1 (r_X8_openMany M) (M, 0, 0) (cntN (fun k => c_X8_takesOrder_24 a1 (r_X8_openMany M) (l_X8_takesOrder_24 a1 (r_X8_openMany M) (M, 0, 0) k)) 7)).2.2)) ((a1 >>> (((3 : Int32) * ((l_X8_takesOrder_24 a1 (r_X8_openMany M) (M, 0, 0) (cntN (fun k => c_X8_takesOrder_24 a1 (r_X8_openMany M) (l_X8_takesOrder_24 a1 (r_X8_openMany M) (M, 0, 0) k)) 7)).2.2)) &&& 31)) &&& 7)).1 614 (Int32.toNatClampNeg ((l_X8_takesOrder_24 a1 (r_X8_openMany M) (M, 0, 0) (cntN (fun k => c_X8_takesOrder_24 a1 (r_X8_openMany M) (l_X8_takesOrder_24 a1 (r_X8_openMany M) (M, 0, 0) k)) 7)).2.2))))) = 0)) = 0 then (-1) else if ¬ ((((l_X8_takesOrder_24 a1 (r_X8_openMany M) (M, 0, 0) (cntN (fun k => c_X8_takesOrder_24 a1 (r_X8_openMany M) (l_X8_takesOrder_24 a1 (r_X8_openMany M) (M, 0, 0) k)) 7)).2.1) >>> (((wi (l_X8_takesOrder_24 a1 (r_X8_openMany M) (M, 0, 0) (cntN (fun k => c_X8_takesOrder_24 a1 (r_X8_openMany M) (l_X8_takesOrder_24 a1 (r_X8_openMany M) (M, 0, 0) k)) 7)).1 614 (Int32.toNatClampNeg ((l_X8_takesOrder_24 a1 (r_X8_openMany M) (M, 0, 0) (cntN (fun k => c_X8_takesOrder_24 a1 (r_X8_openMany M) (l_X8_takesOrder_24 a1 (r_X8_openMany M) (M, 0, 0) k)) 7)).2.2)) ((a1 >>> (((3 : Int32) * ((l_X8_takesOrder_24 a1 (r_X8_openMany M) (M, 0, 0) (cntN (fun k => c_X8_takesOrder_24 a1 (r_X8_openMany M) (l_X8_takesOrder_24 a1 (r_X8_openMany M) (M, 0, 0) k)) 7)).2.2)) &&& 31)) &&& 7)).1 614 (Int32.toNatClampNeg ((l_X8_takesOrder_24 a1 (r_X8_openMany M) (M, 0, 0) (cntN (fun k => c_X8_takesOrder_24 a1 (r_X8_openMany M) (l_X8_takesOrder_24 a1 (r_X8_openMany M) (M, 0, 0) k)) 7)).2.2))) &&& 31)) &&& 1) = 1 then 0 else (-1)) else (-1)
noncomputable def w_X8_takesOrder (M : Mm) (a1 : Int32) : Mm := if a1 < 0 then M else if (a1 >>> (((3 : Int32) * (r_X8_openMany M)) &&& 31)) = 0 then (if (r_X8_openMany M) ≤ ((l_X8_takesOrder_24 a1 (r_X8_openMany M) (M, 0, 0) (cntN (fun k => c_X8_takesOrder_24 a1 (r_X8_openMany M) (l_X8_takesOrder_24 a1 (r_X8_openMany M) (M, 0, 0) k)) 7)).2.2) then (l_X8_takesOrder_24 a1 (r_X8_openMany M) (M, 0, 0) (cntN (fun k => c_X8_takesOrder_24 a1 (r_X8_openMany M) (l_X8_takesOrder_24 a1 (r_X8_openMany M) (M, 0, 0) k)) 7)).1 else if (b2i (0 ≤ ((wi (l_X8_takesOrder_24 a1 (r_X8_openMany M) (M, 0, 0) (cntN (fun k => c_X8_takesOrder_24 a1 (r_X8_openMany M) (l_X8_takesOrder_24 a1 (r_X8_openMany M) (M, 0, 0) k)) 7)).1 614 (Int32.toNatClampNeg ((l_X8_takesOrder_24 a1 (r_X8_openMany M) (M, 0, 0) (cntN (fun k => c_X8_takesOrder_24 a1 (r_X8_openMany M) (l_X8_takesOrder_24 a1 (r_X8_openMany M) (M, 0, 0) k)) 7)).2.2)) ((a1 >>> (((3 : Int32) * ((l_X8_takesOrder_24 a1 (r_X8_openMany M) (M, 0, 0) (cntN (fun k => c_X8_takesOrder_24 a1 (r_X8_openMany M) (l_X8_takesOrder_24 a1 (r_X8_openMany M) (M, 0, 0) k)) 7)).2.2)) &&& 31)) &&& 7)).1 614 (Int32.toNatClampNeg ((l_X8_takesOrder_24 a1 (r_X8_openMany M) (M, 0, 0) (cntN (fun k => c_X8_takesOrder_24 a1 (r_X8_openMany M) (l_X8_takesOrder_24 a1 (r_X8_openMany M) (M, 0, 0) k)) 7)).2.2))) ∧ ((wi (l_X8_takesOrder_24 a1 (r_X8_openMany M) (M, 0, 0) (cntN (fun k => c_X8_takesOrder_24 a1 (r_X8_openMany M) (l_X8_takesOrder_24 a1 (r_X8_openMany M) (M, 0, 0) k)) 7)).1 614 (Int32.toNatClampNeg ((l_X8_takesOrder_24 a1 (r_X8_openMany M) (M, 0, 0) (cntN (fun k => c_X8_takesOrder_24 a1 (r_X8_openMany M) (l_X8_takesOrder_24 a1 (r_X8_openMany M) (M, 0, 0) k)) 7)).2.2)) ((a1 >>> (((3 : Int32) * ((l_X8_takesOrder_24 a1 (r_X8_openMany M) (M, 0, 0) (cntN (fun k => c_X8_takesOrder_24 a1 (r_X8_openMany M) (l_X8_takesOrder_24 a1 (r_X8_openMany M) (M, 0, 0) k)) 7)).2.2)) &&& 31)) &&& 7)).1 614 (Int32.toNatClampNeg ((l_X8_takesOrder_24 a1 (r_X8_openMany M) (M, 0, 0) (cntN (fun k => c_X8_takesOrder_24 a1 (r_X8_openMany M) (l_X8_takesOrder_24 a1 (r_X8_openMany M) (M, 0, 0) k)) 7)).2.2))) ≤ (wi (l_X8_takesOrder_24 a1 (r_X8_openMany M) (M, 0, 0) (cntN (fun k => c_X8_takesOrder_24 a1 (r_X8_openMany M) (l_X8_takesOrder_24 a1 (r_X8_openMany M) (M, 0, 0) k)) 7)).1 614 (Int32.toNatClampNeg ((l_X8_takesOrder_24 a1 (r_X8_openMany M) (M, 0, 0) (cntN (fun k => c_X8_takesOrder_24 a1 (r_X8_openMany M) (l_X8_takesOrder_24 a1 (r_X8_openMany M) (M, 0, 0) k)) 7)).2.2)) ((a1 >>> (((3 : Int32) * ((l_X8_takesOrder_24 a1 (r_X8_openMany M) (M, 0, 0) (cntN (fun k => c_X8_takesOrder_24 a1 (r_X8_openMany M) (l_X8_takesOrder_24 a1 (r_X8_openMany M) (M, 0, 0) k)) 7)).2.2)) &&& 31)) &&& 7)).1 600 2 - 1)) = 0 then (wi (l_X8_takesOrder_24 a1 (r_X8_openMany M) (M, 0, 0) (cntN (fun k => c_X8_takesOrder_24 a1 (r_X8_openMany M) (l_X8_takesOrder_24 a1 (r_X8_openMany M) (M, 0, 0) k)) 7)).1 614 (Int32.toNatClampNeg ((l_X8_takesOrder_24 a1 (r_X8_openMany M) (M, 0, 0) (cntN (fun k => c_X8_takesOrder_24 a1 (r_X8_openMany M) (l_X8_takesOrder_24 a1 (r_X8_openMany M) (M, 0, 0) k)) 7)).2.2)) ((a1 >>> (((3 : Int32) * ((l_X8_takesOrder_24 a1 (r_X8_openMany M) (M, 0, 0) (cntN (fun k => c_X8_takesOrder_24 a1 (r_X8_openMany M) (l_X8_takesOrder_24 a1 (r_X8_openMany M) (M, 0, 0) k)) 7)).2.2)) &&& 31)) &&& 7)) else if (b2i ((wi (l_X8_takesOrder_24 a1 (r_X8_openMany M) (M, 0, 0) (cntN (fun k => c_X8_takesOrder_24 a1 (r_X8_openMany M) (l_X8_takesOrder_24 a1 (r_X8_openMany M) (M, 0, 0) k)) 7)).1 614 (Int32.toNatClampNeg ((l_X8_takesOrder_24 a1 (r_X8_openMany M) (M, 0, 0) (cntN (fun k => c_X8_takesOrder_24 a1 (r_X8_openMany M) (l_X8_takesOrder_24 a1 (r_X8_openMany M) (M, 0, 0) k)) 7)).2.2)) ((a1 >>> (((3 : Int32) * ((l_X8_takesOrder_24 a1 (r_X8_openMany M) (M, 0, 0) (cntN (fun k => c_X8_takesOrder_24 a1 (r_X8_openMany M) (l_X8_takesOrder_24 a1 (r_X8_openMany M) (M, 0, 0) k)) 7)).2.2)) &&& 31)) &&& 7)).1 607 (Int32.toNatClampNeg ((wi (l_X8_takesOrder_24 a1 (r_X8_openMany M) (M, 0, 0) (cntN (fun k => c_X8_takesOrder_24 a1 (r_X8_openMany M) (l_X8_takesOrder_24 a1 (r_X8_openMany M) (M, 0, 0) k)) 7)).1 614 (Int32.toNatClampNeg ((l_X8_takesOrder_24 a1 (r_X8_openMany M) (M, 0, 0) (cntN (fun k => c_X8_takesOrder_24 a1 (r_X8_openMany M) (l_X8_takesOrder_24 a1 (r_X8_openMany M) (M, 0, 0) k)) 7)).2.2)) ((a1 >>> (((3 : Int32) * ((l_X8_takesOrder_24 a1 (r_X8_openMany M) (M, 0, 0) (cntN (fun k => c_X8_takesOrder_24 a1 (r_X8_openMany M) (l_X8_takesOrder_24 a1 (r_X8_openMany M) (M, 0, 0) k)) 7)).2.2)) &&& 31)) &&& 7)).1 600 10 + 9 + ((wi (l_X8_takesOrder_24 a1 (r_X8_openMany M) (M, 0, 0) (cntN (fun k => c_X8_takesOrder_24 a1 (r_X8_openMany M) (l_X8_takesOrder_24 a1 (r_X8_openMany M) (M, 0, 0) k)) 7)).1 614 (Int32.toNatClampNeg ((l_X8_takesOrder_24 a1 (r_X8_openMany M) (M, 0, 0) (cntN (fun k => c_X8_takesOrder_24 a1 (r_X8_openMany M) (l_X8_takesOrder_24 a1 (r_X8_openMany M) (M, 0, 0) k)) 7)).2.2)) ((a1 >>> (((3 : Int32) * ((l_X8_takesOrder_24 a1 (r_X8_openMany M) (M, 0, 0) (cntN (fun k => c_X8_takesOrder_24 a1 (r_X8_openMany M) (l_X8_takesOrder_24 a1 (r_X8_openMany M) (M, 0, 0) k)) 7)).2.2)) &&& 31)) &&& 7)).1 614 (Int32.toNatClampNeg ((l_X8_takesOrder_24 a1 (r_X8_openMany M) (M, 0, 0) (cntN (fun k => c_X8_takesOrder_24 a1 (r_X8_openMany M) (l_X8_takesOrder_24 a1 (r_X8_openMany M) (M, 0, 0) k)) 7)).2.2))))) = 0)) = 0 then (wi (l_X8_takesOrder_24 a1 (r_X8_openMany M) (M, 0, 0) (cntN (fun k => c_X8_takesOrder_24 a1 (r_X8_openMany M) (l_X8_takesOrder_24 a1 (r_X8_openMany M) (M, 0, 0) k)) 7)).1 614 (Int32.toNatClampNeg ((l_X8_takesOrder_24 a1 (r_X8_openMany M) (M, 0, 0) (cntN (fun k => c_X8_takesOrder_24 a1 (r_X8_openMany M) (l_X8_takesOrder_24 a1 (r_X8_openMany M) (M, 0, 0) k)) 7)).2.2)) ((a1 >>> (((3 : Int32) * ((l_X8_takesOrder_24 a1 (r_X8_openMany M) (M, 0, 0) (cntN (fun k => c_X8_takesOrder_24 a1 (r_X8_openMany M) (l_X8_takesOrder_24 a1 (r_X8_openMany M) (M, 0, 0) k)) 7)).2.2)) &&& 31)) &&& 7)) else if ¬ ((((l_X8_takesOrder_24 a1 (r_X8_openMany M) (M, 0, 0) (cntN (fun k => c_X8_takesOrder_24 a1 (r_X8_openMany M) (l_X8_takesOrder_24 a1 (r_X8_openMany M) (M, 0, 0) k)) 7)).2.1) >>> (((wi (l_X8_takesOrder_24 a1 (r_X8_openMany M) (M, 0, 0) (cntN (fun k => c_X8_takesOrder_24 a1 (r_X8_openMany M) (l_X8_takesOrder_24 a1 (r_X8_openMany M) (M, 0, 0) k)) 7)).1 614 (Int32.toNatClampNeg ((l_X8_takesOrder_24 a1 (r_X8_openMany M) (M, 0, 0) (cntN (fun k => c_X8_takesOrder_24 a1 (r_X8_openMany M) (l_X8_takesOrder_24 a1 (r_X8_openMany M) (M, 0, 0) k)) 7)).2.2)) ((a1 >>> (((3 : Int32) * ((l_X8_takesOrder_24 a1 (r_X8_openMany M) (M, 0, 0) (cntN (fun k => c_X8_takesOrder_24 a1 (r_X8_openMany M) (l_X8_takesOrder_24 a1 (r_X8_openMany M) (M, 0, 0) k)) 7)).2.2)) &&& 31)) &&& 7)).1 614 (Int32.toNatClampNeg ((l_X8_takesOrder_24 a1 (r_X8_openMany M) (M, 0, 0) (cntN (fun k => c_X8_takesOrder_24 a1 (r_X8_openMany M) (l_X8_takesOrder_24 a1 (r_X8_openMany M) (M, 0, 0) k)) 7)).2.2))) &&& 31)) &&& 1) = 1 then M else (wi (l_X8_takesOrder_24 a1 (r_X8_openMany M) (M, 0, 0) (cntN (fun k => c_X8_takesOrder_24 a1 (r_X8_openMany M) (l_X8_takesOrder_24 a1 (r_X8_openMany M) (M, 0, 0) k)) 7)).1 614 (Int32.toNatClampNeg ((l_X8_takesOrder_24 a1 (r_X8_openMany M) (M, 0, 0) (cntN (fun k => c_X8_takesOrder_24 a1 (r_X8_openMany M) (l_X8_takesOrder_24 a1 (r_X8_openMany M) (M, 0, 0) k)) 7)).2.2)) ((a1 >>> (((3 : Int32) * ((l_X8_takesOrder_24 a1 (r_X8_openMany M) (M, 0, 0) (cntN (fun k => c_X8_takesOrder_24 a1 (r_X8_openMany M) (l_X8_takesOrder_24 a1 (r_X8_openMany M) (M, 0, 0) k)) 7)).2.2)) &&& 31)) &&& 7))) else M
def p_X8_takesOrder (M : Mm) (a1 : Int32) : Prop := (p_X8_openMany M ) ∧ (if a1 < 0 then True else (if (a1 >>> (((3 : Int32) * (r_X8_openMany M)) &&& 31)) = 0 then (∀ k, k < (cntN (fun k => c_X8_takesOrder_24 a1 (r_X8_openMany M) (l_X8_takesOrder_24 a1 (r_X8_openMany M) (M, 0, 0) k)) 7) → c_X8_takesOrder_24 a1 (r_X8_openMany M) (l_X8_takesOrder_24 a1 (r_X8_openMany M) (M, 0, 0) k)) ∧ (∀ k, k < (cntN (fun k => c_X8_takesOrder_24 a1 (r_X8_openMany M) (l_X8_takesOrder_24 a1 (r_X8_openMany M) (M, 0, 0) k)) 7) → q_X8_takesOrder_24 a1 (r_X8_openMany M) (l_X8_takesOrder_24 a1 (r_X8_openMany M) (M, 0, 0) k)) ∧ (¬ c_X8_takesOrder_24 a1 (r_X8_openMany M) (l_X8_takesOrder_24 a1 (r_X8_openMany M) (M, 0, 0) (cntN (fun k => c_X8_takesOrder_24 a1 (r_X8_openMany M) (l_X8_takesOrder_24 a1 (r_X8_openMany M) (M, 0, 0) k)) 7))) ∧ (if (r_X8_openMany M) ≤ ((l_X8_takesOrder_24 a1 (r_X8_openMany M) (M, 0, 0) (cntN (fun k => c_X8_takesOrder_24 a1 (r_X8_openMany M) (l_X8_takesOrder_24 a1 (r_X8_openMany M) (M, 0, 0) k)) 7)).2.2) then (p_X8_isAllowed (l_X8_takesOrder_24 a1 (r_X8_openMany M) (M, 0, 0) (cntN (fun k => c_X8_takesOrder_24 a1 (r_X8_openMany M) (l_X8_takesOrder_24 a1 (r_X8_openMany M) (M, 0, 0) k)) 7)).1 (r_X8_openMany M)) ∧ (if (r_X8_isAllowed (l_X8_takesOrder_24 a1 (r_X8_openMany M) (M, 0, 0) (cntN (fun k => c_X8_takesOrder_24 a1 (r_X8_openMany M) (l_X8_takesOrder_24 a1 (r_X8_openMany M) (M, 0, 0) k)) 7)).1 (r_X8_openMany M)) = 0 then True else True) else (vp_in ((l_X8_takesOrder_24 a1 (r_X8_openMany M) (M, 0, 0) (cntN (fun k => c_X8_takesOrder_24 a1 (r_X8_openMany M) (l_X8_takesOrder_24 a1 (r_X8_openMany M) (M, 0, 0) k)) 7)).2.2) 6) ∧ (vp_in ((l_X8_takesOrder_24 a1 (r_X8_openMany M) (M, 0, 0) (cntN (fun k => c_X8_takesOrder_24 a1 (r_X8_openMany M) (l_X8_takesOrder_24 a1 (r_X8_openMany M) (M, 0, 0) k)) 7)).2.2) 6) ∧ (if (b2i (0 ≤ ((wi (l_X8_takesOrder_24 a1 (r_X8_openMany M) (M, 0, 0) (cntN (fun k => c_X8_takesOrder_24 a1 (r_X8_openMany M) (l_X8_takesOrder_24 a1 (r_X8_openMany M) (M, 0, 0) k)) 7)).1 614 (Int32.toNatClampNeg ((l_X8_takesOrder_24 a1 (r_X8_openMany M) (M, 0, 0) (cntN (fun k => c_X8_takesOrder_24 a1 (r_X8_openMany M) (l_X8_takesOrder_24 a1 (r_X8_openMany M) (M, 0, 0) k)) 7)).2.2)) ((a1 >>> (((3 : Int32) * ((l_X8_takesOrder_24 a1 (r_X8_openMany M) (M, 0, 0) (cntN (fun k => c_X8_takesOrder_24 a1 (r_X8_openMany M) (l_X8_takesOrder_24 a1 (r_X8_openMany M) (M, 0, 0) k)) 7)).2.2)) &&& 31)) &&& 7)).1 614 (Int32.toNatClampNeg ((l_X8_takesOrder_24 a1 (r_X8_openMany M) (M, 0, 0) (cntN (fun k => c_X8_takesOrder_24 a1 (r_X8_openMany M) (l_X8_takesOrder_24 a1 (r_X8_openMany M) (M, 0, 0) k)) 7)).2.2))) ∧ ((wi (l_X8_takesOrder_24 a1 (r_X8_openMany M) (M, 0, 0) (cntN (fun k => c_X8_takesOrder_24 a1 (r_X8_openMany M) (l_X8_takesOrder_24 a1 (r_X8_openMany M) (M, 0, 0) k)) 7)).1 614 (Int32.toNatClampNeg ((l_X8_takesOrder_24 a1 (r_X8_openMany M) (M, 0, 0) (cntN (fun k => c_X8_takesOrder_24 a1 (r_X8_openMany M) (l_X8_takesOrder_24 a1 (r_X8_openMany M) (M, 0, 0) k)) 7)).2.2)) ((a1 >>> (((3 : Int32) * ((l_X8_takesOrder_24 a1 (r_X8_openMany M) (M, 0, 0) (cntN (fun k => c_X8_takesOrder_24 a1 (r_X8_openMany M) (l_X8_takesOrder_24 a1 (r_X8_openMany M) (M, 0, 0) k)) 7)).2.2)) &&& 31)) &&& 7)).1 614 (Int32.toNatClampNeg ((l_X8_takesOrder_24 a1 (r_X8_openMany M) (M, 0, 0) (cntN (fun k => c_X8_takesOrder_24 a1 (r_X8_openMany M) (l_X8_takesOrder_24 a1 (r_X8_openMany M) (M, 0, 0) k)) 7)).2.2))) ≤ (wi (l_X8_takesOrder_24 a1 (r_X8_openMany M) (M, 0, 0) (cntN (fun k => c_X8_takesOrder_24 a1 (r_X8_openMany M) (l_X8_takesOrder_24 a1 (r_X8_openMany M) (M, 0, 0) k)) 7)).1 614 (Int32.toNatClampNeg ((l_X8_takesOrder_24 a1 (r_X8_openMany M) (M, 0, 0) (cntN (fun k => c_X8_takesOrder_24 a1 (r_X8_openMany M) (l_X8_takesOrder_24 a1 (r_X8_openMany M) (M, 0, 0) k)) 7)).2.2)) ((a1 >>> (((3 : Int32) * ((l_X8_takesOrder_24 a1 (r_X8_openMany M) (M, 0, 0) (cntN (fun k => c_X8_takesOrder_24 a1 (r_X8_openMany M) (l_X8_takesOrder_24 a1 (r_X8_openMany M) (M, 0, 0) k)) 7)).2.2)) &&& 31)) &&& 7)).1 600 2 - 1)) = 0 then True else (vp_in ((l_X8_takesOrder_24 a1 (r_X8_openMany M) (M, 0, 0) (cntN (fun k => c_X8_takesOrder_24 a1 (r_X8_openMany M) (l_X8_takesOrder_24 a1 (r_X8_openMany M) (M, 0, 0) k)) 7)).2.2) 6) ∧ (vp_in ((wi (l_X8_takesOrder_24 a1 (r_X8_openMany M) (M, 0, 0) (cntN (fun k => c_X8_takesOrder_24 a1 (r_X8_openMany M) (l_X8_takesOrder_24 a1 (r_X8_openMany M) (M, 0, 0) k)) 7)).1 614 (Int32.toNatClampNeg ((l_X8_takesOrder_24 a1 (r_X8_openMany M) (M, 0, 0) (cntN (fun k => c_X8_takesOrder_24 a1 (r_X8_openMany M) (l_X8_takesOrder_24 a1 (r_X8_openMany M) (M, 0, 0) k)) 7)).2.2)) ((a1 >>> (((3 : Int32) * ((l_X8_takesOrder_24 a1 (r_X8_openMany M) (M, 0, 0) (cntN (fun k => c_X8_takesOrder_24 a1 (r_X8_openMany M) (l_X8_takesOrder_24 a1 (r_X8_openMany M) (M, 0, 0) k)) 7)).2.2)) &&& 31)) &&& 7)).1 600 10 + 9 + ((wi (l_X8_takesOrder_24 a1 (r_X8_openMany M) (M, 0, 0) (cntN (fun k => c_X8_takesOrder_24 a1 (r_X8_openMany M) (l_X8_takesOrder_24 a1 (r_X8_openMany M) (M, 0, 0) k)) 7)).1 614 (Int32.toNatClampNeg ((l_X8_takesOrder_24 a1 (r_X8_openMany M) (M, 0, 0) (cntN (fun k => c_X8_takesOrder_24 a1 (r_X8_openMany M) (l_X8_takesOrder_24 a1 (r_X8_openMany M) (M, 0, 0) k)) 7)).2.2)) ((a1 >>> (((3 : Int32) * ((l_X8_takesOrder_24 a1 (r_X8_openMany M) (M, 0, 0) (cntN (fun k => c_X8_takesOrder_24 a1 (r_X8_openMany M) (l_X8_takesOrder_24 a1 (r_X8_openMany M) (M, 0, 0) k)) 7)).2.2)) &&& 31)) &&& 7)).1 614 (Int32.toNatClampNeg ((l_X8_takesOrder_24 a1 (r_X8_openMany M) (M, 0, 0) (cntN (fun k => c_X8_takesOrder_24 a1 (r_X8_openMany M) (l_X8_takesOrder_24 a1 (r_X8_openMany M) (M, 0, 0) k)) 7)).2.2)))) 44) ∧ (if (b2i ((wi (l_X8_takesOrder_24 a1 (r_X8_openMany M) (M, 0, 0) (cntN (fun k => c_X8_takesOrder_24 a1 (r_X8_openMany M) (l_X8_takesOrder_24 a1 (r_X8_openMany M) (M, 0, 0) k)) 7)).1 614 (Int32.toNatClampNeg ((l_X8_takesOrder_24 a1 (r_X8_openMany M) (M, 0, 0) (cntN (fun k => c_X8_takesOrder_24 a1 (r_X8_openMany M) (l_X8_takesOrder_24 a1 (r_X8_openMany M) (M, 0, 0) k)) 7)).2.2)) ((a1 >>> (((3 : Int32) * ((l_X8_takesOrder_24 a1 (r_X8_openMany M) (M, 0, 0) (cntN (fun k => c_X8_takesOrder_24 a1 (r_X8_openMany M) (l_X8_takesOrder_24 a1 (r_X8_openMany M) (M, 0, 0) k)) 7)).2.2)) &&& 31)) &&& 7)).1 607 (Int32.toNatClampNeg ((wi (l_X8_takesOrder_24 a1 (r_X8_openMany M) (M, 0, 0) (cntN (fun k => c_X8_takesOrder_24 a1 (r_X8_openMany M) (l_X8_takesOrder_24 a1 (r_X8_openMany M) (M, 0, 0) k)) 7)).1 614 (Int32.toNatClampNeg ((l_X8_takesOrder_24 a1 (r_X8_openMany M) (M, 0, 0) (cntN (fun k => c_X8_takesOrder_24 a1 (r_X8_openMany M) (l_X8_takesOrder_24 a1 (r_X8_openMany M) (M, 0, 0) k)) 7)).2.2)) ((a1 >>> (((3 : Int32) * ((l_X8_takesOrder_24 a1 (r_X8_openMany M) (M, 0, 0) (cntN (fun k => c_X8_takesOrder_24 a1 (r_X8_openMany M) (l_X8_takesOrder_24 a1 (r_X8_openMany M) (M, 0, 0) k)) 7)).2.2)) &&& 31)) &&& 7)).1 600 10 + 9 + ((wi (l_X8_takesOrder_24 a1 (r_X8_openMany M) (M, 0, 0) (cntN (fun k => c_X8_takesOrder_24 a1 (r_X8_openMany M) (l_X8_takesOrder_24 a1 (r_X8_openMany M) (M, 0, 0) k)) 7)).1 614 (Int32.toNatClampNeg ((l_X8_takesOrder_24 a1 (r_X8_openMany M) (M, 0, 0) (cntN (fun k => c_X8_takesOrder_24 a1 (r_X8_openMany M) (l_X8_takesOrder_24 a1 (r_X8_openMany M) (M, 0, 0) k)) 7)).2.2)) ((a1 >>> (((3 : Int32) * ((l_X8_takesOrder_24 a1 (r_X8_openMany M) (M, 0, 0) (cntN (fun k => c_X8_takesOrder_24 a1 (r_X8_openMany M) (l_X8_takesOrder_24 a1 (r_X8_openMany M) (M, 0, 0) k)) 7)).2.2)) &&& 31)) &&& 7)).1 614 (Int32.toNatClampNeg ((l_X8_takesOrder_24 a1 (r_X8_openMany M) (M, 0, 0) (cntN (fun k => c_X8_takesOrder_24 a1 (r_X8_openMany M) (l_X8_takesOrder_24 a1 (r_X8_openMany M) (M, 0, 0) k)) 7)).2.2))))) = 0)) = 0 then True else (vp_in ((l_X8_takesOrder_24 a1 (r_X8_openMany M) (M, 0, 0) (cntN (fun k => c_X8_takesOrder_24 a1 (r_X8_openMany M) (l_X8_takesOrder_24 a1 (r_X8_openMany M) (M, 0, 0) k)) 7)).2.2) 6) ∧ (if ¬ ((((l_X8_takesOrder_24 a1 (r_X8_openMany M) (M, 0, 0) (cntN (fun k => c_X8_takesOrder_24 a1 (r_X8_openMany M) (l_X8_takesOrder_24 a1 (r_X8_openMany M) (M, 0, 0) k)) 7)).2.1) >>> (((wi (l_X8_takesOrder_24 a1 (r_X8_openMany M) (M, 0, 0) (cntN (fun k => c_X8_takesOrder_24 a1 (r_X8_openMany M) (l_X8_takesOrder_24 a1 (r_X8_openMany M) (M, 0, 0) k)) 7)).1 614 (Int32.toNatClampNeg ((l_X8_takesOrder_24 a1 (r_X8_openMany M) (M, 0, 0) (cntN (fun k => c_X8_takesOrder_24 a1 (r_X8_openMany M) (l_X8_takesOrder_24 a1 (r_X8_openMany M) (M, 0, 0) k)) 7)).2.2)) ((a1 >>> (((3 : Int32) * ((l_X8_takesOrder_24 a1 (r_X8_openMany M) (M, 0, 0) (cntN (fun k => c_X8_takesOrder_24 a1 (r_X8_openMany M) (l_X8_takesOrder_24 a1 (r_X8_openMany M) (M, 0, 0) k)) 7)).2.2)) &&& 31)) &&& 7)).1 614 (Int32.toNatClampNeg ((l_X8_takesOrder_24 a1 (r_X8_openMany M) (M, 0, 0) (cntN (fun k => c_X8_takesOrder_24 a1 (r_X8_openMany M) (l_X8_takesOrder_24 a1 (r_X8_openMany M) (M, 0, 0) k)) 7)).2.2))) &&& 31)) &&& 1) = 1 then (vp_in ((l_X8_takesOrder_24 a1 (r_X8_openMany M) (M, 0, 0) (cntN (fun k => c_X8_takesOrder_24 a1 (r_X8_openMany M) (l_X8_takesOrder_24 a1 (r_X8_openMany M) (M, 0, 0) k)) 7)).2.2) 6) ∧ True else True)))) else True))
theorem rnX8_takesOrder {d : Nat} {M : Mm} {a1 : Int32}  (hp : p_X8_takesOrder M a1) : Rn (d + 2) mX8_takesOrder [.ref 600, .int a1] M (some (.int (r_X8_takesOrder M a1))) (w_X8_takesOrder M a1) := by
  refine Rn.of [some (.ref 600), some (.int a1), none, none, none] (by decide +kernel) rfl (Nat.le_of_ble_eq_true rfl) rfl (fun J g hr => ?_)
  unfold p_X8_takesOrder at hp
  refine j_aload_n g (i := 0) (by decide +kernel) rfl ?_
  obtain ⟨h0, hp⟩ := hp
  refine j_cV0r g v8_304 ⟨rfl, by decide⟩ (by decide +kernel) (by decide +kernel) (Nat.le_of_ble_eq_true rfl) (rnX8_openMany h0) ?_
  refine j_istore_n g (i := 2) (by decide +kernel) (by decide) ?_
  dsimp only [stL, clL, hdL]
  refine j_iload_n g (i := 1) (by decide +kernel) rfl ?_
  refine j_if_lt g (off := 11) (tgt := 17) (by decide +kernel) (by decide) (fun c6 => ?_) (fun c6 => ?_)
  · rw [if_pos (show a1 < 0 from c6)] at hp
    refine j_iconst g (n := -1) (-1) (by decide +kernel) rfl ?_
    refine hr.1 _ _ _ _ (by decide +kernel) ⟨_, rfl, by first | rfl | exact b2i_nar | decide +kernel⟩ ?_ ?_
    · unfold r_X8_takesOrder; first | (simp only [if_pos (show a1 < 0 from c6)]; done) | (simp only [if_pos (show a1 < 0 from c6)]; rfl) | rfl
    · unfold w_X8_takesOrder; first | (simp only [if_pos (show a1 < 0 from c6)]; done) | (simp only [if_pos (show a1 < 0 from c6)]; rfl) | rfl
  · rw [if_neg (show ¬ (a1 < 0) from c6)] at hp
    refine j_iload_n g (i := 1) (by decide +kernel) rfl ?_
    refine j_iconst g (n := 3) (3) (by decide +kernel) rfl ?_
    refine j_iload_n g (i := 2) (by decide +kernel) rfl ?_
    refine j_imul g (by decide +kernel) ?_
    refine j_ishr g (by decide +kernel) ?_
    refine j_if_eq g (off := 5) (tgt := 19) (by decide +kernel) (by decide) (fun c14 => ?_) (fun c14 => ?_)
    · rw [if_pos (show (a1 >>> (((3 : Int32) * (r_X8_openMany M)) &&& 31)) = 0 from c14)] at hp
      refine j_iconst g (n := 0) (0) (by decide +kernel) rfl ?_
      refine j_istore_n g (i := 3) (by decide +kernel) (by decide) ?_
      dsimp only [stL, clL, hdL]
      refine j_iconst g (n := 0) (0) (by decide +kernel) rfl ?_
      refine j_istore g (i := 4) (by decide +kernel) (by decide) ?_
      dsimp only [stL, clL, hdL]
      obtain ⟨h0, hp⟩ := hp
      have hc_24_1 := h0
      obtain ⟨h0, hp⟩ := hp
      have hq_24_1 := h0
      obtain ⟨h0, hp⟩ := hp
      have hx_24_1 := h0
      refine sh_X8_takesOrder_24 (x2 := (r_X8_openMany M))  g (σ0 := (M, 0, 0)) (cntN (fun k => c_X8_takesOrder_24 a1 (r_X8_openMany M) (l_X8_takesOrder_24 a1 (r_X8_openMany M) (M, 0, 0) k)) 7) hc_24_1 hq_24_1 ?_ 
      refine j_iload g (i := 4) (by decide +kernel) rfl ?_
      refine j_iload_n g (i := 2) (by decide +kernel) rfl ?_
      refine j_icmp_ge g (off := 82) (tgt := 109) (by decide +kernel) (by decide) (fun c27 => ?_) (fun c27 => ?_)
      · rw [if_pos (show (r_X8_openMany M) ≤ ((l_X8_takesOrder_24 a1 (r_X8_openMany M) (M, 0, 0) (cntN (fun k => c_X8_takesOrder_24 a1 (r_X8_openMany M) (l_X8_takesOrder_24 a1 (r_X8_openMany M) (M, 0, 0) k)) 7)).2.2) from c27)] at hp
        refine j_aload_n g (i := 0) (by decide +kernel) rfl ?_
        refine j_iload_n g (i := 2) (by decide +kernel) rfl ?_
        obtain ⟨h0, hp⟩ := hp
        refine j_cV1r g v8_307 ⟨rfl, by decide⟩ (by decide +kernel) (by decide +kernel) (Nat.le_of_ble_eq_true rfl) (rnX8_isAllowed h0) ?_
        refine j_if_eq g (off := 7) (tgt := 121) (by decide +kernel) (by decide) (fun c114 => ?_) (fun c114 => ?_)
        · rw [if_pos (show (r_X8_isAllowed (l_X8_takesOrder_24 a1 (r_X8_openMany M) (M, 0, 0) (cntN (fun k => c_X8_takesOrder_24 a1 (r_X8_openMany M) (l_X8_takesOrder_24 a1 (r_X8_openMany M) (M, 0, 0) k)) 7)).1 (r_X8_openMany M)) = 0 from c114)] at hp
          refine j_bipush g (n := -4) (-4) (by decide +kernel) (by decide +kernel) ?_
          refine hr.1 _ _ _ _ (by decide +kernel) ⟨_, rfl, by first | rfl | exact b2i_nar | decide +kernel⟩ ?_ ?_
          · unfold r_X8_takesOrder; first | (simp only [if_neg (show ¬ (a1 < 0) from c6), if_pos (show (a1 >>> (((3 : Int32) * (r_X8_openMany M)) &&& 31)) = 0 from c14), if_pos (show (r_X8_openMany M) ≤ ((l_X8_takesOrder_24 a1 (r_X8_openMany M) (M, 0, 0) (cntN (fun k => c_X8_takesOrder_24 a1 (r_X8_openMany M) (l_X8_takesOrder_24 a1 (r_X8_openMany M) (M, 0, 0) k)) 7)).2.2) from c27), if_pos (show (r_X8_isAllowed (l_X8_takesOrder_24 a1 (r_X8_openMany M) (M, 0, 0) (cntN (fun k => c_X8_takesOrder_24 a1 (r_X8_openMany M) (l_X8_takesOrder_24 a1 (r_X8_openMany M) (M, 0, 0) k)) 7)).1 (r_X8_openMany M)) = 0 from c114)]; done) | (simp only [if_neg (show ¬ (a1 < 0) from c6), if_pos (show (a1 >>> (((3 : Int32) * (r_X8_openMany M)) &&& 31)) = 0 from c14), if_pos (show (r_X8_openMany M) ≤ ((l_X8_takesOrder_24 a1 (r_X8_openMany M) (M, 0, 0) (cntN (fun k => c_X8_takesOrder_24 a1 (r_X8_openMany M) (l_X8_takesOrder_24 a1 (r_X8_openMany M) (M, 0, 0) k)) 7)).2.2) from c27), if_pos (show (r_X8_isAllowed (l_X8_takesOrder_24 a1 (r_X8_openMany M) (M, 0, 0) (cntN (fun k => c_X8_takesOrder_24 a1 (r_X8_openMany M) (l_X8_takesOrder_24 a1 (r_X8_openMany M) (M, 0, 0) k)) 7)).1 (r_X8_openMany M)) = 0 from c114)]; rfl) | rfl
          · unfold w_X8_takesOrder; first | (simp only [if_neg (show ¬ (a1 < 0) from c6), if_pos (show (a1 >>> (((3 : Int32) * (r_X8_openMany M)) &&& 31)) = 0 from c14), if_pos (show (r_X8_openMany M) ≤ ((l_X8_takesOrder_24 a1 (r_X8_openMany M) (M, 0, 0) (cntN (fun k => c_X8_takesOrder_24 a1 (r_X8_openMany M) (l_X8_takesOrder_24 a1 (r_X8_openMany M) (M, 0, 0) k)) 7)).2.2) from c27), if_pos (show (r_X8_isAllowed (l_X8_takesOrder_24 a1 (r_X8_openMany M) (M, 0, 0) (cntN (fun k => c_X8_takesOrder_24 a1 (r_X8_openMany M) (l_X8_takesOrder_24 a1 (r_X8_openMany M) (M, 0, 0) k)) 7)).1 (r_X8_openMany M)) = 0 from c114)]; done) | (simp only [if_neg (show ¬ (a1 < 0) from c6), if_pos (show (a1 >>> (((3 : Int32) * (r_X8_openMany M)) &&& 31)) = 0 from c14), if_pos (show (r_X8_openMany M) ≤ ((l_X8_takesOrder_24 a1 (r_X8_openMany M) (M, 0, 0) (cntN (fun k => c_X8_takesOrder_24 a1 (r_X8_openMany M) (l_X8_takesOrder_24 a1 (r_X8_openMany M) (M, 0, 0) k)) 7)).2.2) from c27), if_pos (show (r_X8_isAllowed (l_X8_takesOrder_24 a1 (r_X8_openMany M) (M, 0, 0) (cntN (fun k => c_X8_takesOrder_24 a1 (r_X8_openMany M) (l_X8_takesOrder_24 a1 (r_X8_openMany M) (M, 0, 0) k)) 7)).1 (r_X8_openMany M)) = 0 from c114)]; rfl) | rfl
        · rw [if_neg (show ¬ ((r_X8_isAllowed (l_X8_takesOrder_24 a1 (r_X8_openMany M) (M, 0, 0) (cntN (fun k => c_X8_takesOrder_24 a1 (r_X8_openMany M) (l_X8_takesOrder_24 a1 (r_X8_openMany M) (M, 0, 0) k)) 7)).1 (r_X8_openMany M)) = 0) from c114)] at hp
          refine j_iconst g (n := 0) (0) (by decide +kernel) rfl ?_
          refine j_goto g (off := 5) (tgt := 123) (by decide +kernel) (by decide) ?_
          refine hr.1 _ _ _ _ (by decide +kernel) ⟨_, rfl, by first | rfl | exact b2i_nar | decide +kernel⟩ ?_ ?_
          · unfold r_X8_takesOrder; first | (simp only [if_neg (show ¬ (a1 < 0) from c6), if_pos (show (a1 >>> (((3 : Int32) * (r_X8_openMany M)) &&& 31)) = 0 from c14), if_pos (show (r_X8_openMany M) ≤ ((l_X8_takesOrder_24 a1 (r_X8_openMany M) (M, 0, 0) (cntN (fun k => c_X8_takesOrder_24 a1 (r_X8_openMany M) (l_X8_takesOrder_24 a1 (r_X8_openMany M) (M, 0, 0) k)) 7)).2.2) from c27), if_neg (show ¬ ((r_X8_isAllowed (l_X8_takesOrder_24 a1 (r_X8_openMany M) (M, 0, 0) (cntN (fun k => c_X8_takesOrder_24 a1 (r_X8_openMany M) (l_X8_takesOrder_24 a1 (r_X8_openMany M) (M, 0, 0) k)) 7)).1 (r_X8_openMany M)) = 0) from c114)]; done) | (simp only [if_neg (show ¬ (a1 < 0) from c6), if_pos (show (a1 >>> (((3 : Int32) * (r_X8_openMany M)) &&& 31)) = 0 from c14), if_pos (show (r_X8_openMany M) ≤ ((l_X8_takesOrder_24 a1 (r_X8_openMany M) (M, 0, 0) (cntN (fun k => c_X8_takesOrder_24 a1 (r_X8_openMany M) (l_X8_takesOrder_24 a1 (r_X8_openMany M) (M, 0, 0) k)) 7)).2.2) from c27), if_neg (show ¬ ((r_X8_isAllowed (l_X8_takesOrder_24 a1 (r_X8_openMany M) (M, 0, 0) (cntN (fun k => c_X8_takesOrder_24 a1 (r_X8_openMany M) (l_X8_takesOrder_24 a1 (r_X8_openMany M) (M, 0, 0) k)) 7)).1 (r_X8_openMany M)) = 0) from c114)]; rfl) | rfl
          · unfold w_X8_takesOrder; first | (simp only [if_neg (show ¬ (a1 < 0) from c6), if_pos (show (a1 >>> (((3 : Int32) * (r_X8_openMany M)) &&& 31)) = 0 from c14), if_pos (show (r_X8_openMany M) ≤ ((l_X8_takesOrder_24 a1 (r_X8_openMany M) (M, 0, 0) (cntN (fun k => c_X8_takesOrder_24 a1 (r_X8_openMany M) (l_X8_takesOrder_24 a1 (r_X8_openMany M) (M, 0, 0) k)) 7)).2.2) from c27), if_neg (show ¬ ((r_X8_isAllowed (l_X8_takesOrder_24 a1 (r_X8_openMany M) (M, 0, 0) (cntN (fun k => c_X8_takesOrder_24 a1 (r_X8_openMany M) (l_X8_takesOrder_24 a1 (r_X8_openMany M) (M, 0, 0) k)) 7)).1 (r_X8_openMany M)) = 0) from c114)]; done) | (simp only [if_neg (show ¬ (a1 < 0) from c6), if_pos (show (a1 >>> (((3 : Int32) * (r_X8_openMany M)) &&& 31)) = 0 from c14), if_pos (show (r_X8_openMany M) ≤ ((l_X8_takesOrder_24 a1 (r_X8_openMany M) (M, 0, 0) (cntN (fun k => c_X8_takesOrder_24 a1 (r_X8_openMany M) (l_X8_takesOrder_24 a1 (r_X8_openMany M) (M, 0, 0) k)) 7)).2.2) from c27), if_neg (show ¬ ((r_X8_isAllowed (l_X8_takesOrder_24 a1 (r_X8_openMany M) (M, 0, 0) (cntN (fun k => c_X8_takesOrder_24 a1 (r_X8_openMany M) (l_X8_takesOrder_24 a1 (r_X8_openMany M) (M, 0, 0) k)) 7)).1 (r_X8_openMany M)) = 0) from c114)]; rfl) | rfl
      · rw [if_neg (show ¬ ((r_X8_openMany M) ≤ ((l_X8_takesOrder_24 a1 (r_X8_openMany M) (M, 0, 0) (cntN (fun k => c_X8_takesOrder_24 a1 (r_X8_openMany M) (l_X8_takesOrder_24 a1 (r_X8_openMany M) (M, 0, 0) k)) 7)).2.2)) from c27)] at hp
        refine j_aload_n g (i := 0) (by decide +kernel) rfl ?_
        refine j_gA g (b := 614) f8_49 (by decide +kernel) (by decide +kernel) (by decide +kernel) (by decide +kernel) ?_
        refine j_iload g (i := 4) (by decide +kernel) rfl ?_
        refine j_iload_n g (i := 1) (by decide +kernel) rfl ?_
        refine j_iconst g (n := 3) (3) (by decide +kernel) rfl ?_
        refine j_iload g (i := 4) (by decide +kernel) rfl ?_
        refine j_imul g (by decide +kernel) ?_
        refine j_ishr g (by decide +kernel) ?_
        refine j_bipush g (n := 7) (7) (by decide +kernel) (by decide +kernel) ?_
        refine j_iand g (by decide +kernel) ?_
        obtain ⟨h0, hp⟩ := hp
        refine j_is g 6 (by decide +kernel) (by decide +kernel) (by decide +kernel) h0 ?_
        refine j_aload_n g (i := 0) (by decide +kernel) rfl ?_
        refine j_aload_n g (i := 0) (by decide +kernel) rfl ?_
        refine j_gA g (b := 614) f8_49 (by decide +kernel) (by decide +kernel) (by decide +kernel) (by decide +kernel) ?_
        refine j_iload g (i := 4) (by decide +kernel) rfl ?_
        obtain ⟨h0, hp⟩ := hp
        refine j_ia g 6 (by decide +kernel) (by decide +kernel) (by decide +kernel) h0 ?_
        refine j_cV1r g v8_243 ⟨rfl, by decide⟩ (by decide +kernel) (by decide +kernel) (Nat.le_of_ble_eq_true rfl) (rnX8_isWork) ?_
        refine j_if_eq g (off := 32) (tgt := 89) (by decide +kernel) (by decide) (fun c57 => ?_) (fun c57 => ?_)
        · rw [if_pos (show (b2i (0 ≤ ((wi (l_X8_takesOrder_24 a1 (r_X8_openMany M) (M, 0, 0) (cntN (fun k => c_X8_takesOrder_24 a1 (r_X8_openMany M) (l_X8_takesOrder_24 a1 (r_X8_openMany M) (M, 0, 0) k)) 7)).1 614 (Int32.toNatClampNeg ((l_X8_takesOrder_24 a1 (r_X8_openMany M) (M, 0, 0) (cntN (fun k => c_X8_takesOrder_24 a1 (r_X8_openMany M) (l_X8_takesOrder_24 a1 (r_X8_openMany M) (M, 0, 0) k)) 7)).2.2)) ((a1 >>> (((3 : Int32) * ((l_X8_takesOrder_24 a1 (r_X8_openMany M) (M, 0, 0) (cntN (fun k => c_X8_takesOrder_24 a1 (r_X8_openMany M) (l_X8_takesOrder_24 a1 (r_X8_openMany M) (M, 0, 0) k)) 7)).2.2)) &&& 31)) &&& 7)).1 614 (Int32.toNatClampNeg ((l_X8_takesOrder_24 a1 (r_X8_openMany M) (M, 0, 0) (cntN (fun k => c_X8_takesOrder_24 a1 (r_X8_openMany M) (l_X8_takesOrder_24 a1 (r_X8_openMany M) (M, 0, 0) k)) 7)).2.2))) ∧ ((wi (l_X8_takesOrder_24 a1 (r_X8_openMany M) (M, 0, 0) (cntN (fun k => c_X8_takesOrder_24 a1 (r_X8_openMany M) (l_X8_takesOrder_24 a1 (r_X8_openMany M) (M, 0, 0) k)) 7)).1 614 (Int32.toNatClampNeg ((l_X8_takesOrder_24 a1 (r_X8_openMany M) (M, 0, 0) (cntN (fun k => c_X8_takesOrder_24 a1 (r_X8_openMany M) (l_X8_takesOrder_24 a1 (r_X8_openMany M) (M, 0, 0) k)) 7)).2.2)) ((a1 >>> (((3 : Int32) * ((l_X8_takesOrder_24 a1 (r_X8_openMany M) (M, 0, 0) (cntN (fun k => c_X8_takesOrder_24 a1 (r_X8_openMany M) (l_X8_takesOrder_24 a1 (r_X8_openMany M) (M, 0, 0) k)) 7)).2.2)) &&& 31)) &&& 7)).1 614 (Int32.toNatClampNeg ((l_X8_takesOrder_24 a1 (r_X8_openMany M) (M, 0, 0) (cntN (fun k => c_X8_takesOrder_24 a1 (r_X8_openMany M) (l_X8_takesOrder_24 a1 (r_X8_openMany M) (M, 0, 0) k)) 7)).2.2))) ≤ (wi (l_X8_takesOrder_24 a1 (r_X8_openMany M) (M, 0, 0) (cntN (fun k => c_X8_takesOrder_24 a1 (r_X8_openMany M) (l_X8_takesOrder_24 a1 (r_X8_openMany M) (M, 0, 0) k)) 7)).1 614 (Int32.toNatClampNeg ((l_X8_takesOrder_24 a1 (r_X8_openMany M) (M, 0, 0) (cntN (fun k => c_X8_takesOrder_24 a1 (r_X8_openMany M) (l_X8_takesOrder_24 a1 (r_X8_openMany M) (M, 0, 0) k)) 7)).2.2)) ((a1 >>> (((3 : Int32) * ((l_X8_takesOrder_24 a1 (r_X8_openMany M) (M, 0, 0) (cntN (fun k => c_X8_takesOrder_24 a1 (r_X8_openMany M) (l_X8_takesOrder_24 a1 (r_X8_openMany M) (M, 0, 0) k)) 7)).2.2)) &&& 31)) &&& 7)).1 600 2 - 1)) = 0 from c57)] at hp
          refine j_iconst g (n := -1) (-1) (by decide +kernel) rfl ?_
          refine hr.1 _ _ _ _ (by decide +kernel) ⟨_, rfl, by first | rfl | exact b2i_nar | decide +kernel⟩ ?_ ?_
          · unfold r_X8_takesOrder; first | (simp only [if_neg (show ¬ (a1 < 0) from c6), if_pos (show (a1 >>> (((3 : Int32) * (r_X8_openMany M)) &&& 31)) = 0 from c14), if_neg (show ¬ ((r_X8_openMany M) ≤ ((l_X8_takesOrder_24 a1 (r_X8_openMany M) (M, 0, 0) (cntN (fun k => c_X8_takesOrder_24 a1 (r_X8_openMany M) (l_X8_takesOrder_24 a1 (r_X8_openMany M) (M, 0, 0) k)) 7)).2.2)) from c27), if_pos (show (b2i (0 ≤ ((wi (l_X8_takesOrder_24 a1 (r_X8_openMany M) (M, 0, 0) (cntN (fun k => c_X8_takesOrder_24 a1 (r_X8_openMany M) (l_X8_takesOrder_24 a1 (r_X8_openMany M) (M, 0, 0) k)) 7)).1 614 (Int32.toNatClampNeg ((l_X8_takesOrder_24 a1 (r_X8_openMany M) (M, 0, 0) (cntN (fun k => c_X8_takesOrder_24 a1 (r_X8_openMany M) (l_X8_takesOrder_24 a1 (r_X8_openMany M) (M, 0, 0) k)) 7)).2.2)) ((a1 >>> (((3 : Int32) * ((l_X8_takesOrder_24 a1 (r_X8_openMany M) (M, 0, 0) (cntN (fun k => c_X8_takesOrder_24 a1 (r_X8_openMany M) (l_X8_takesOrder_24 a1 (r_X8_openMany M) (M, 0, 0) k)) 7)).2.2)) &&& 31)) &&& 7)).1 614 (Int32.toNatClampNeg ((l_X8_takesOrder_24 a1 (r_X8_openMany M) (M, 0, 0) (cntN (fun k => c_X8_takesOrder_24 a1 (r_X8_openMany M) (l_X8_takesOrder_24 a1 (r_X8_openMany M) (M, 0, 0) k)) 7)).2.2))) ∧ ((wi (l_X8_takesOrder_24 a1 (r_X8_openMany M) (M, 0, 0) (cntN (fun k => c_X8_takesOrder_24 a1 (r_X8_openMany M) (l_X8_takesOrder_24 a1 (r_X8_openMany M) (M, 0, 0) k)) 7)).1 614 (Int32.toNatClampNeg ((l_X8_takesOrder_24 a1 (r_X8_openMany M) (M, 0, 0) (cntN (fun k => c_X8_takesOrder_24 a1 (r_X8_openMany M) (l_X8_takesOrder_24 a1 (r_X8_openMany M) (M, 0, 0) k)) 7)).2.2)) ((a1 >>> (((3 : Int32) * ((l_X8_takesOrder_24 a1 (r_X8_openMany M) (M, 0, 0) (cntN (fun k => c_X8_takesOrder_24 a1 (r_X8_openMany M) (l_X8_takesOrder_24 a1 (r_X8_openMany M) (M, 0, 0) k)) 7)).2.2)) &&& 31)) &&& 7)).1 614 (Int32.toNatClampNeg ((l_X8_takesOrder_24 a1 (r_X8_openMany M) (M, 0, 0) (cntN (fun k => c_X8_takesOrder_24 a1 (r_X8_openMany M) (l_X8_takesOrder_24 a1 (r_X8_openMany M) (M, 0, 0) k)) 7)).2.2))) ≤ (wi (l_X8_takesOrder_24 a1 (r_X8_openMany M) (M, 0, 0) (cntN (fun k => c_X8_takesOrder_24 a1 (r_X8_openMany M) (l_X8_takesOrder_24 a1 (r_X8_openMany M) (M, 0, 0) k)) 7)).1 614 (Int32.toNatClampNeg ((l_X8_takesOrder_24 a1 (r_X8_openMany M) (M, 0, 0) (cntN (fun k => c_X8_takesOrder_24 a1 (r_X8_openMany M) (l_X8_takesOrder_24 a1 (r_X8_openMany M) (M, 0, 0) k)) 7)).2.2)) ((a1 >>> (((3 : Int32) * ((l_X8_takesOrder_24 a1 (r_X8_openMany M) (M, 0, 0) (cntN (fun k => c_X8_takesOrder_24 a1 (r_X8_openMany M) (l_X8_takesOrder_24 a1 (r_X8_openMany M) (M, 0, 0) k)) 7)).2.2)) &&& 31)) &&& 7)).1 600 2 - 1)) = 0 from c57)]; done) | (simp only [if_neg (show ¬ (a1 < 0) from c6), if_pos (show (a1 >>> (((3 : Int32) * (r_X8_openMany M)) &&& 31)) = 0 from c14), if_neg (show ¬ ((r_X8_openMany M) ≤ ((l_X8_takesOrder_24 a1 (r_X8_openMany M) (M, 0, 0) (cntN (fun k => c_X8_takesOrder_24 a1 (r_X8_openMany M) (l_X8_takesOrder_24 a1 (r_X8_openMany M) (M, 0, 0) k)) 7)).2.2)) from c27), if_pos (show (b2i (0 ≤ ((wi (l_X8_takesOrder_24 a1 (r_X8_openMany M) (M, 0, 0) (cntN (fun k => c_X8_takesOrder_24 a1 (r_X8_openMany M) (l_X8_takesOrder_24 a1 (r_X8_openMany M) (M, 0, 0) k)) 7)).1 614 (Int32.toNatClampNeg ((l_X8_takesOrder_24 a1 (r_X8_openMany M) (M, 0, 0) (cntN (fun k => c_X8_takesOrder_24 a1 (r_X8_openMany M) (l_X8_takesOrder_24 a1 (r_X8_openMany M) (M, 0, 0) k)) 7)).2.2)) ((a1 >>> (((3 : Int32) * ((l_X8_takesOrder_24 a1 (r_X8_openMany M) (M, 0, 0) (cntN (fun k => c_X8_takesOrder_24 a1 (r_X8_openMany M) (l_X8_takesOrder_24 a1 (r_X8_openMany M) (M, 0, 0) k)) 7)).2.2)) &&& 31)) &&& 7)).1 614 (Int32.toNatClampNeg ((l_X8_takesOrder_24 a1 (r_X8_openMany M) (M, 0, 0) (cntN (fun k => c_X8_takesOrder_24 a1 (r_X8_openMany M) (l_X8_takesOrder_24 a1 (r_X8_openMany M) (M, 0, 0) k)) 7)).2.2))) ∧ ((wi (l_X8_takesOrder_24 a1 (r_X8_openMany M) (M, 0, 0) (cntN (fun k => c_X8_takesOrder_24 a1 (r_X8_openMany M) (l_X8_takesOrder_24 a1 (r_X8_openMany M) (M, 0, 0) k)) 7)).1 614 (Int32.toNatClampNeg ((l_X8_takesOrder_24 a1 (r_X8_openMany M) (M, 0, 0) (cntN (fun k => c_X8_takesOrder_24 a1 (r_X8_openMany M) (l_X8_takesOrder_24 a1 (r_X8_openMany M) (M, 0, 0) k)) 7)).2.2)) ((a1 >>> (((3 : Int32) * ((l_X8_takesOrder_24 a1 (r_X8_openMany M) (M, 0, 0) (cntN (fun k => c_X8_takesOrder_24 a1 (r_X8_openMany M) (l_X8_takesOrder_24 a1 (r_X8_openMany M) (M, 0, 0) k)) 7)).2.2)) &&& 31)) &&& 7)).1 614 (Int32.toNatClampNeg ((l_X8_takesOrder_24 a1 (r_X8_openMany M) (M, 0, 0) (cntN (fun k => c_X8_takesOrder_24 a1 (r_X8_openMany M) (l_X8_takesOrder_24 a1 (r_X8_openMany M) (M, 0, 0) k)) 7)).2.2))) ≤ (wi (l_X8_takesOrder_24 a1 (r_X8_openMany M) (M, 0, 0) (cntN (fun k => c_X8_takesOrder_24 a1 (r_X8_openMany M) (l_X8_takesOrder_24 a1 (r_X8_openMany M) (M, 0, 0) k)) 7)).1 614 (Int32.toNatClampNeg ((l_X8_takesOrder_24 a1 (r_X8_openMany M) (M, 0, 0) (cntN (fun k => c_X8_takesOrder_24 a1 (r_X8_openMany M) (l_X8_takesOrder_24 a1 (r_X8_openMany M) (M, 0, 0) k)) 7)).2.2)) ((a1 >>> (((3 : Int32) * ((l_X8_takesOrder_24 a1 (r_X8_openMany M) (M, 0, 0) (cntN (fun k => c_X8_takesOrder_24 a1 (r_X8_openMany M) (l_X8_takesOrder_24 a1 (r_X8_openMany M) (M, 0, 0) k)) 7)).2.2)) &&& 31)) &&& 7)).1 600 2 - 1)) = 0 from c57)]; rfl) | rfl
          · unfold w_X8_takesOrder; first | (simp only [if_neg (show ¬ (a1 < 0) from c6), if_pos (show (a1 >>> (((3 : Int32) * (r_X8_openMany M)) &&& 31)) = 0 from c14), if_neg (show ¬ ((r_X8_openMany M) ≤ ((l_X8_takesOrder_24 a1 (r_X8_openMany M) (M, 0, 0) (cntN (fun k => c_X8_takesOrder_24 a1 (r_X8_openMany M) (l_X8_takesOrder_24 a1 (r_X8_openMany M) (M, 0, 0) k)) 7)).2.2)) from c27), if_pos (show (b2i (0 ≤ ((wi (l_X8_takesOrder_24 a1 (r_X8_openMany M) (M, 0, 0) (cntN (fun k => c_X8_takesOrder_24 a1 (r_X8_openMany M) (l_X8_takesOrder_24 a1 (r_X8_openMany M) (M, 0, 0) k)) 7)).1 614 (Int32.toNatClampNeg ((l_X8_takesOrder_24 a1 (r_X8_openMany M) (M, 0, 0) (cntN (fun k => c_X8_takesOrder_24 a1 (r_X8_openMany M) (l_X8_takesOrder_24 a1 (r_X8_openMany M) (M, 0, 0) k)) 7)).2.2)) ((a1 >>> (((3 : Int32) * ((l_X8_takesOrder_24 a1 (r_X8_openMany M) (M, 0, 0) (cntN (fun k => c_X8_takesOrder_24 a1 (r_X8_openMany M) (l_X8_takesOrder_24 a1 (r_X8_openMany M) (M, 0, 0) k)) 7)).2.2)) &&& 31)) &&& 7)).1 614 (Int32.toNatClampNeg ((l_X8_takesOrder_24 a1 (r_X8_openMany M) (M, 0, 0) (cntN (fun k => c_X8_takesOrder_24 a1 (r_X8_openMany M) (l_X8_takesOrder_24 a1 (r_X8_openMany M) (M, 0, 0) k)) 7)).2.2))) ∧ ((wi (l_X8_takesOrder_24 a1 (r_X8_openMany M) (M, 0, 0) (cntN (fun k => c_X8_takesOrder_24 a1 (r_X8_openMany M) (l_X8_takesOrder_24 a1 (r_X8_openMany M) (M, 0, 0) k)) 7)).1 614 (Int32.toNatClampNeg ((l_X8_takesOrder_24 a1 (r_X8_openMany M) (M, 0, 0) (cntN (fun k => c_X8_takesOrder_24 a1 (r_X8_openMany M) (l_X8_takesOrder_24 a1 (r_X8_openMany M) (M, 0, 0) k)) 7)).2.2)) ((a1 >>> (((3 : Int32) * ((l_X8_takesOrder_24 a1 (r_X8_openMany M) (M, 0, 0) (cntN (fun k => c_X8_takesOrder_24 a1 (r_X8_openMany M) (l_X8_takesOrder_24 a1 (r_X8_openMany M) (M, 0, 0) k)) 7)).2.2)) &&& 31)) &&& 7)).1 614 (Int32.toNatClampNeg ((l_X8_takesOrder_24 a1 (r_X8_openMany M) (M, 0, 0) (cntN (fun k => c_X8_takesOrder_24 a1 (r_X8_openMany M) (l_X8_takesOrder_24 a1 (r_X8_openMany M) (M, 0, 0) k)) 7)).2.2))) ≤ (wi (l_X8_takesOrder_24 a1 (r_X8_openMany M) (M, 0, 0) (cntN (fun k => c_X8_takesOrder_24 a1 (r_X8_openMany M) (l_X8_takesOrder_24 a1 (r_X8_openMany M) (M, 0, 0) k)) 7)).1 614 (Int32.toNatClampNeg ((l_X8_takesOrder_24 a1 (r_X8_openMany M) (M, 0, 0) (cntN (fun k => c_X8_takesOrder_24 a1 (r_X8_openMany M) (l_X8_takesOrder_24 a1 (r_X8_openMany M) (M, 0, 0) k)) 7)).2.2)) ((a1 >>> (((3 : Int32) * ((l_X8_takesOrder_24 a1 (r_X8_openMany M) (M, 0, 0) (cntN (fun k => c_X8_takesOrder_24 a1 (r_X8_openMany M) (l_X8_takesOrder_24 a1 (r_X8_openMany M) (M, 0, 0) k)) 7)).2.2)) &&& 31)) &&& 7)).1 600 2 - 1)) = 0 from c57)]; done) | (simp only [if_neg (show ¬ (a1 < 0) from c6), if_pos (show (a1 >>> (((3 : Int32) * (r_X8_openMany M)) &&& 31)) = 0 from c14), if_neg (show ¬ ((r_X8_openMany M) ≤ ((l_X8_takesOrder_24 a1 (r_X8_openMany M) (M, 0, 0) (cntN (fun k => c_X8_takesOrder_24 a1 (r_X8_openMany M) (l_X8_takesOrder_24 a1 (r_X8_openMany M) (M, 0, 0) k)) 7)).2.2)) from c27), if_pos (show (b2i (0 ≤ ((wi (l_X8_takesOrder_24 a1 (r_X8_openMany M) (M, 0, 0) (cntN (fun k => c_X8_takesOrder_24 a1 (r_X8_openMany M) (l_X8_takesOrder_24 a1 (r_X8_openMany M) (M, 0, 0) k)) 7)).1 614 (Int32.toNatClampNeg ((l_X8_takesOrder_24 a1 (r_X8_openMany M) (M, 0, 0) (cntN (fun k => c_X8_takesOrder_24 a1 (r_X8_openMany M) (l_X8_takesOrder_24 a1 (r_X8_openMany M) (M, 0, 0) k)) 7)).2.2)) ((a1 >>> (((3 : Int32) * ((l_X8_takesOrder_24 a1 (r_X8_openMany M) (M, 0, 0) (cntN (fun k => c_X8_takesOrder_24 a1 (r_X8_openMany M) (l_X8_takesOrder_24 a1 (r_X8_openMany M) (M, 0, 0) k)) 7)).2.2)) &&& 31)) &&& 7)).1 614 (Int32.toNatClampNeg ((l_X8_takesOrder_24 a1 (r_X8_openMany M) (M, 0, 0) (cntN (fun k => c_X8_takesOrder_24 a1 (r_X8_openMany M) (l_X8_takesOrder_24 a1 (r_X8_openMany M) (M, 0, 0) k)) 7)).2.2))) ∧ ((wi (l_X8_takesOrder_24 a1 (r_X8_openMany M) (M, 0, 0) (cntN (fun k => c_X8_takesOrder_24 a1 (r_X8_openMany M) (l_X8_takesOrder_24 a1 (r_X8_openMany M) (M, 0, 0) k)) 7)).1 614 (Int32.toNatClampNeg ((l_X8_takesOrder_24 a1 (r_X8_openMany M) (M, 0, 0) (cntN (fun k => c_X8_takesOrder_24 a1 (r_X8_openMany M) (l_X8_takesOrder_24 a1 (r_X8_openMany M) (M, 0, 0) k)) 7)).2.2)) ((a1 >>> (((3 : Int32) * ((l_X8_takesOrder_24 a1 (r_X8_openMany M) (M, 0, 0) (cntN (fun k => c_X8_takesOrder_24 a1 (r_X8_openMany M) (l_X8_takesOrder_24 a1 (r_X8_openMany M) (M, 0, 0) k)) 7)).2.2)) &&& 31)) &&& 7)).1 614 (Int32.toNatClampNeg ((l_X8_takesOrder_24 a1 (r_X8_openMany M) (M, 0, 0) (cntN (fun k => c_X8_takesOrder_24 a1 (r_X8_openMany M) (l_X8_takesOrder_24 a1 (r_X8_openMany M) (M, 0, 0) k)) 7)).2.2))) ≤ (wi (l_X8_takesOrder_24 a1 (r_X8_openMany M) (M, 0, 0) (cntN (fun k => c_X8_takesOrder_24 a1 (r_X8_openMany M) (l_X8_takesOrder_24 a1 (r_X8_openMany M) (M, 0, 0) k)) 7)).1 614 (Int32.toNatClampNeg ((l_X8_takesOrder_24 a1 (r_X8_openMany M) (M, 0, 0) (cntN (fun k => c_X8_takesOrder_24 a1 (r_X8_openMany M) (l_X8_takesOrder_24 a1 (r_X8_openMany M) (M, 0, 0) k)) 7)).2.2)) ((a1 >>> (((3 : Int32) * ((l_X8_takesOrder_24 a1 (r_X8_openMany M) (M, 0, 0) (cntN (fun k => c_X8_takesOrder_24 a1 (r_X8_openMany M) (l_X8_takesOrder_24 a1 (r_X8_openMany M) (M, 0, 0) k)) 7)).2.2)) &&& 31)) &&& 7)).1 600 2 - 1)) = 0 from c57)]; rfl) | rfl
        · rw [if_neg (show ¬ ((b2i (0 ≤ ((wi (l_X8_takesOrder_24 a1 (r_X8_openMany M) (M, 0, 0) (cntN (fun k => c_X8_takesOrder_24 a1 (r_X8_openMany M) (l_X8_takesOrder_24 a1 (r_X8_openMany M) (M, 0, 0) k)) 7)).1 614 (Int32.toNatClampNeg ((l_X8_takesOrder_24 a1 (r_X8_openMany M) (M, 0, 0) (cntN (fun k => c_X8_takesOrder_24 a1 (r_X8_openMany M) (l_X8_takesOrder_24 a1 (r_X8_openMany M) (M, 0, 0) k)) 7)).2.2)) ((a1 >>> (((3 : Int32) * ((l_X8_takesOrder_24 a1 (r_X8_openMany M) (M, 0, 0) (cntN (fun k => c_X8_takesOrder_24 a1 (r_X8_openMany M) (l_X8_takesOrder_24 a1 (r_X8_openMany M) (M, 0, 0) k)) 7)).2.2)) &&& 31)) &&& 7)).1 614 (Int32.toNatClampNeg ((l_X8_takesOrder_24 a1 (r_X8_openMany M) (M, 0, 0) (cntN (fun k => c_X8_takesOrder_24 a1 (r_X8_openMany M) (l_X8_takesOrder_24 a1 (r_X8_openMany M) (M, 0, 0) k)) 7)).2.2))) ∧ ((wi (l_X8_takesOrder_24 a1 (r_X8_openMany M) (M, 0, 0) (cntN (fun k => c_X8_takesOrder_24 a1 (r_X8_openMany M) (l_X8_takesOrder_24 a1 (r_X8_openMany M) (M, 0, 0) k)) 7)).1 614 (Int32.toNatClampNeg ((l_X8_takesOrder_24 a1 (r_X8_openMany M) (M, 0, 0) (cntN (fun k => c_X8_takesOrder_24 a1 (r_X8_openMany M) (l_X8_takesOrder_24 a1 (r_X8_openMany M) (M, 0, 0) k)) 7)).2.2)) ((a1 >>> (((3 : Int32) * ((l_X8_takesOrder_24 a1 (r_X8_openMany M) (M, 0, 0) (cntN (fun k => c_X8_takesOrder_24 a1 (r_X8_openMany M) (l_X8_takesOrder_24 a1 (r_X8_openMany M) (M, 0, 0) k)) 7)).2.2)) &&& 31)) &&& 7)).1 614 (Int32.toNatClampNeg ((l_X8_takesOrder_24 a1 (r_X8_openMany M) (M, 0, 0) (cntN (fun k => c_X8_takesOrder_24 a1 (r_X8_openMany M) (l_X8_takesOrder_24 a1 (r_X8_openMany M) (M, 0, 0) k)) 7)).2.2))) ≤ (wi (l_X8_takesOrder_24 a1 (r_X8_openMany M) (M, 0, 0) (cntN (fun k => c_X8_takesOrder_24 a1 (r_X8_openMany M) (l_X8_takesOrder_24 a1 (r_X8_openMany M) (M, 0, 0) k)) 7)).1 614 (Int32.toNatClampNeg ((l_X8_takesOrder_24 a1 (r_X8_openMany M) (M, 0, 0) (cntN (fun k => c_X8_takesOrder_24 a1 (r_X8_openMany M) (l_X8_takesOrder_24 a1 (r_X8_openMany M) (M, 0, 0) k)) 7)).2.2)) ((a1 >>> (((3 : Int32) * ((l_X8_takesOrder_24 a1 (r_X8_openMany M) (M, 0, 0) (cntN (fun k => c_X8_takesOrder_24 a1 (r_X8_openMany M) (l_X8_takesOrder_24 a1 (r_X8_openMany M) (M, 0, 0) k)) 7)).2.2)) &&& 31)) &&& 7)).1 600 2 - 1)) = 0) from c57)] at hp
          refine j_aload_n g (i := 0) (by decide +kernel) rfl ?_
          refine j_aload_n g (i := 0) (by decide +kernel) rfl ?_
          refine j_gA g (b := 614) f8_49 (by decide +kernel) (by decide +kernel) (by decide +kernel) (by decide +kernel) ?_
          refine j_iload g (i := 4) (by decide +kernel) rfl ?_
          obtain ⟨h0, hp⟩ := hp
          refine j_ia g 6 (by decide +kernel) (by decide +kernel) (by decide +kernel) h0 ?_
          obtain ⟨h0, hp⟩ := hp
          refine j_cV1r g v8_246 ⟨rfl, by decide⟩ (by decide +kernel) (by decide +kernel) (Nat.le_of_ble_eq_true rfl) (rnX8_isOpen h0) ?_
          refine j_if_eq g (off := 18) (tgt := 89) (by decide +kernel) (by decide) (fun c71 => ?_) (fun c71 => ?_)
          · rw [if_pos (show (b2i ((wi (l_X8_takesOrder_24 a1 (r_X8_openMany M) (M, 0, 0) (cntN (fun k => c_X8_takesOrder_24 a1 (r_X8_openMany M) (l_X8_takesOrder_24 a1 (r_X8_openMany M) (M, 0, 0) k)) 7)).1 614 (Int32.toNatClampNeg ((l_X8_takesOrder_24 a1 (r_X8_openMany M) (M, 0, 0) (cntN (fun k => c_X8_takesOrder_24 a1 (r_X8_openMany M) (l_X8_takesOrder_24 a1 (r_X8_openMany M) (M, 0, 0) k)) 7)).2.2)) ((a1 >>> (((3 : Int32) * ((l_X8_takesOrder_24 a1 (r_X8_openMany M) (M, 0, 0) (cntN (fun k => c_X8_takesOrder_24 a1 (r_X8_openMany M) (l_X8_takesOrder_24 a1 (r_X8_openMany M) (M, 0, 0) k)) 7)).2.2)) &&& 31)) &&& 7)).1 607 (Int32.toNatClampNeg ((wi (l_X8_takesOrder_24 a1 (r_X8_openMany M) (M, 0, 0) (cntN (fun k => c_X8_takesOrder_24 a1 (r_X8_openMany M) (l_X8_takesOrder_24 a1 (r_X8_openMany M) (M, 0, 0) k)) 7)).1 614 (Int32.toNatClampNeg ((l_X8_takesOrder_24 a1 (r_X8_openMany M) (M, 0, 0) (cntN (fun k => c_X8_takesOrder_24 a1 (r_X8_openMany M) (l_X8_takesOrder_24 a1 (r_X8_openMany M) (M, 0, 0) k)) 7)).2.2)) ((a1 >>> (((3 : Int32) * ((l_X8_takesOrder_24 a1 (r_X8_openMany M) (M, 0, 0) (cntN (fun k => c_X8_takesOrder_24 a1 (r_X8_openMany M) (l_X8_takesOrder_24 a1 (r_X8_openMany M) (M, 0, 0) k)) 7)).2.2)) &&& 31)) &&& 7)).1 600 10 + 9 + ((wi (l_X8_takesOrder_24 a1 (r_X8_openMany M) (M, 0, 0) (cntN (fun k => c_X8_takesOrder_24 a1 (r_X8_openMany M) (l_X8_takesOrder_24 a1 (r_X8_openMany M) (M, 0, 0) k)) 7)).1 614 (Int32.toNatClampNeg ((l_X8_takesOrder_24 a1 (r_X8_openMany M) (M, 0, 0) (cntN (fun k => c_X8_takesOrder_24 a1 (r_X8_openMany M) (l_X8_takesOrder_24 a1 (r_X8_openMany M) (M, 0, 0) k)) 7)).2.2)) ((a1 >>> (((3 : Int32) * ((l_X8_takesOrder_24 a1 (r_X8_openMany M) (M, 0, 0) (cntN (fun k => c_X8_takesOrder_24 a1 (r_X8_openMany M) (l_X8_takesOrder_24 a1 (r_X8_openMany M) (M, 0, 0) k)) 7)).2.2)) &&& 31)) &&& 7)).1 614 (Int32.toNatClampNeg ((l_X8_takesOrder_24 a1 (r_X8_openMany M) (M, 0, 0) (cntN (fun k => c_X8_takesOrder_24 a1 (r_X8_openMany M) (l_X8_takesOrder_24 a1 (r_X8_openMany M) (M, 0, 0) k)) 7)).2.2))))) = 0)) = 0 from c71)] at hp
            refine j_iconst g (n := -1) (-1) (by decide +kernel) rfl ?_
            refine hr.1 _ _ _ _ (by decide +kernel) ⟨_, rfl, by first | rfl | exact b2i_nar | decide +kernel⟩ ?_ ?_
            · unfold r_X8_takesOrder; first | (simp only [if_neg (show ¬ (a1 < 0) from c6), if_pos (show (a1 >>> (((3 : Int32) * (r_X8_openMany M)) &&& 31)) = 0 from c14), if_neg (show ¬ ((r_X8_openMany M) ≤ ((l_X8_takesOrder_24 a1 (r_X8_openMany M) (M, 0, 0) (cntN (fun k => c_X8_takesOrder_24 a1 (r_X8_openMany M) (l_X8_takesOrder_24 a1 (r_X8_openMany M) (M, 0, 0) k)) 7)).2.2)) from c27), if_neg (show ¬ ((b2i (0 ≤ ((wi (l_X8_takesOrder_24 a1 (r_X8_openMany M) (M, 0, 0) (cntN (fun k => c_X8_takesOrder_24 a1 (r_X8_openMany M) (l_X8_takesOrder_24 a1 (r_X8_openMany M) (M, 0, 0) k)) 7)).1 614 (Int32.toNatClampNeg ((l_X8_takesOrder_24 a1 (r_X8_openMany M) (M, 0, 0) (cntN (fun k => c_X8_takesOrder_24 a1 (r_X8_openMany M) (l_X8_takesOrder_24 a1 (r_X8_openMany M) (M, 0, 0) k)) 7)).2.2)) ((a1 >>> (((3 : Int32) * ((l_X8_takesOrder_24 a1 (r_X8_openMany M) (M, 0, 0) (cntN (fun k => c_X8_takesOrder_24 a1 (r_X8_openMany M) (l_X8_takesOrder_24 a1 (r_X8_openMany M) (M, 0, 0) k)) 7)).2.2)) &&& 31)) &&& 7)).1 614 (Int32.toNatClampNeg ((l_X8_takesOrder_24 a1 (r_X8_openMany M) (M, 0, 0) (cntN (fun k => c_X8_takesOrder_24 a1 (r_X8_openMany M) (l_X8_takesOrder_24 a1 (r_X8_openMany M) (M, 0, 0) k)) 7)).2.2))) ∧ ((wi (l_X8_takesOrder_24 a1 (r_X8_openMany M) (M, 0, 0) (cntN (fun k => c_X8_takesOrder_24 a1 (r_X8_openMany M) (l_X8_takesOrder_24 a1 (r_X8_openMany M) (M, 0, 0) k)) 7)).1 614 (Int32.toNatClampNeg ((l_X8_takesOrder_24 a1 (r_X8_openMany M) (M, 0, 0) (cntN (fun k => c_X8_takesOrder_24 a1 (r_X8_openMany M) (l_X8_takesOrder_24 a1 (r_X8_openMany M) (M, 0, 0) k)) 7)).2.2)) ((a1 >>> (((3 : Int32) * ((l_X8_takesOrder_24 a1 (r_X8_openMany M) (M, 0, 0) (cntN (fun k => c_X8_takesOrder_24 a1 (r_X8_openMany M) (l_X8_takesOrder_24 a1 (r_X8_openMany M) (M, 0, 0) k)) 7)).2.2)) &&& 31)) &&& 7)).1 614 (Int32.toNatClampNeg ((l_X8_takesOrder_24 a1 (r_X8_openMany M) (M, 0, 0) (cntN (fun k => c_X8_takesOrder_24 a1 (r_X8_openMany M) (l_X8_takesOrder_24 a1 (r_X8_openMany M) (M, 0, 0) k)) 7)).2.2))) ≤ (wi (l_X8_takesOrder_24 a1 (r_X8_openMany M) (M, 0, 0) (cntN (fun k => c_X8_takesOrder_24 a1 (r_X8_openMany M) (l_X8_takesOrder_24 a1 (r_X8_openMany M) (M, 0, 0) k)) 7)).1 614 (Int32.toNatClampNeg ((l_X8_takesOrder_24 a1 (r_X8_openMany M) (M, 0, 0) (cntN (fun k => c_X8_takesOrder_24 a1 (r_X8_openMany M) (l_X8_takesOrder_24 a1 (r_X8_openMany M) (M, 0, 0) k)) 7)).2.2)) ((a1 >>> (((3 : Int32) * ((l_X8_takesOrder_24 a1 (r_X8_openMany M) (M, 0, 0) (cntN (fun k => c_X8_takesOrder_24 a1 (r_X8_openMany M) (l_X8_takesOrder_24 a1 (r_X8_openMany M) (M, 0, 0) k)) 7)).2.2)) &&& 31)) &&& 7)).1 600 2 - 1)) = 0) from c57), if_pos (show (b2i ((wi (l_X8_takesOrder_24 a1 (r_X8_openMany M) (M, 0, 0) (cntN (fun k => c_X8_takesOrder_24 a1 (r_X8_openMany M) (l_X8_takesOrder_24 a1 (r_X8_openMany M) (M, 0, 0) k)) 7)).1 614 (Int32.toNatClampNeg ((l_X8_takesOrder_24 a1 (r_X8_openMany M) (M, 0, 0) (cntN (fun k => c_X8_takesOrder_24 a1 (r_X8_openMany M) (l_X8_takesOrder_24 a1 (r_X8_openMany M) (M, 0, 0) k)) 7)).2.2)) ((a1 >>> (((3 : Int32) * ((l_X8_takesOrder_24 a1 (r_X8_openMany M) (M, 0, 0) (cntN (fun k => c_X8_takesOrder_24 a1 (r_X8_openMany M) (l_X8_takesOrder_24 a1 (r_X8_openMany M) (M, 0, 0) k)) 7)).2.2)) &&& 31)) &&& 7)).1 607 (Int32.toNatClampNeg ((wi (l_X8_takesOrder_24 a1 (r_X8_openMany M) (M, 0, 0) (cntN (fun k => c_X8_takesOrder_24 a1 (r_X8_openMany M) (l_X8_takesOrder_24 a1 (r_X8_openMany M) (M, 0, 0) k)) 7)).1 614 (Int32.toNatClampNeg ((l_X8_takesOrder_24 a1 (r_X8_openMany M) (M, 0, 0) (cntN (fun k => c_X8_takesOrder_24 a1 (r_X8_openMany M) (l_X8_takesOrder_24 a1 (r_X8_openMany M) (M, 0, 0) k)) 7)).2.2)) ((a1 >>> (((3 : Int32) * ((l_X8_takesOrder_24 a1 (r_X8_openMany M) (M, 0, 0) (cntN (fun k => c_X8_takesOrder_24 a1 (r_X8_openMany M) (l_X8_takesOrder_24 a1 (r_X8_openMany M) (M, 0, 0) k)) 7)).2.2)) &&& 31)) &&& 7)).1 600 10 + 9 + ((wi (l_X8_takesOrder_24 a1 (r_X8_openMany M) (M, 0, 0) (cntN (fun k => c_X8_takesOrder_24 a1 (r_X8_openMany M) (l_X8_takesOrder_24 a1 (r_X8_openMany M) (M, 0, 0) k)) 7)).1 614 (Int32.toNatClampNeg ((l_X8_takesOrder_24 a1 (r_X8_openMany M) (M, 0, 0) (cntN (fun k => c_X8_takesOrder_24 a1 (r_X8_openMany M) (l_X8_takesOrder_24 a1 (r_X8_openMany M) (M, 0, 0) k)) 7)).2.2)) ((a1 >>> (((3 : Int32) * ((l_X8_takesOrder_24 a1 (r_X8_openMany M) (M, 0, 0) (cntN (fun k => c_X8_takesOrder_24 a1 (r_X8_openMany M) (l_X8_takesOrder_24 a1 (r_X8_openMany M) (M, 0, 0) k)) 7)).2.2)) &&& 31)) &&& 7)).1 614 (Int32.toNatClampNeg ((l_X8_takesOrder_24 a1 (r_X8_openMany M) (M, 0, 0) (cntN (fun k => c_X8_takesOrder_24 a1 (r_X8_openMany M) (l_X8_takesOrder_24 a1 (r_X8_openMany M) (M, 0, 0) k)) 7)).2.2))))) = 0)) = 0 from c71)]; done) | (simp only [if_neg (show ¬ (a1 < 0) from c6), if_pos (show (a1 >>> (((3 : Int32) * (r_X8_openMany M)) &&& 31)) = 0 from c14), if_neg (show ¬ ((r_X8_openMany M) ≤ ((l_X8_takesOrder_24 a1 (r_X8_openMany M) (M, 0, 0) (cntN (fun k => c_X8_takesOrder_24 a1 (r_X8_openMany M) (l_X8_takesOrder_24 a1 (r_X8_openMany M) (M, 0, 0) k)) 7)).2.2)) from c27), if_neg (show ¬ ((b2i (0 ≤ ((wi (l_X8_takesOrder_24 a1 (r_X8_openMany M) (M, 0, 0) (cntN (fun k => c_X8_takesOrder_24 a1 (r_X8_openMany M) (l_X8_takesOrder_24 a1 (r_X8_openMany M) (M, 0, 0) k)) 7)).1 614 (Int32.toNatClampNeg ((l_X8_takesOrder_24 a1 (r_X8_openMany M) (M, 0, 0) (cntN (fun k => c_X8_takesOrder_24 a1 (r_X8_openMany M) (l_X8_takesOrder_24 a1 (r_X8_openMany M) (M, 0, 0) k)) 7)).2.2)) ((a1 >>> (((3 : Int32) * ((l_X8_takesOrder_24 a1 (r_X8_openMany M) (M, 0, 0) (cntN (fun k => c_X8_takesOrder_24 a1 (r_X8_openMany M) (l_X8_takesOrder_24 a1 (r_X8_openMany M) (M, 0, 0) k)) 7)).2.2)) &&& 31)) &&& 7)).1 614 (Int32.toNatClampNeg ((l_X8_takesOrder_24 a1 (r_X8_openMany M) (M, 0, 0) (cntN (fun k => c_X8_takesOrder_24 a1 (r_X8_openMany M) (l_X8_takesOrder_24 a1 (r_X8_openMany M) (M, 0, 0) k)) 7)).2.2))) ∧ ((wi (l_X8_takesOrder_24 a1 (r_X8_openMany M) (M, 0, 0) (cntN (fun k => c_X8_takesOrder_24 a1 (r_X8_openMany M) (l_X8_takesOrder_24 a1 (r_X8_openMany M) (M, 0, 0) k)) 7)).1 614 (Int32.toNatClampNeg ((l_X8_takesOrder_24 a1 (r_X8_openMany M) (M, 0, 0) (cntN (fun k => c_X8_takesOrder_24 a1 (r_X8_openMany M) (l_X8_takesOrder_24 a1 (r_X8_openMany M) (M, 0, 0) k)) 7)).2.2)) ((a1 >>> (((3 : Int32) * ((l_X8_takesOrder_24 a1 (r_X8_openMany M) (M, 0, 0) (cntN (fun k => c_X8_takesOrder_24 a1 (r_X8_openMany M) (l_X8_takesOrder_24 a1 (r_X8_openMany M) (M, 0, 0) k)) 7)).2.2)) &&& 31)) &&& 7)).1 614 (Int32.toNatClampNeg ((l_X8_takesOrder_24 a1 (r_X8_openMany M) (M, 0, 0) (cntN (fun k => c_X8_takesOrder_24 a1 (r_X8_openMany M) (l_X8_takesOrder_24 a1 (r_X8_openMany M) (M, 0, 0) k)) 7)).2.2))) ≤ (wi (l_X8_takesOrder_24 a1 (r_X8_openMany M) (M, 0, 0) (cntN (fun k => c_X8_takesOrder_24 a1 (r_X8_openMany M) (l_X8_takesOrder_24 a1 (r_X8_openMany M) (M, 0, 0) k)) 7)).1 614 (Int32.toNatClampNeg ((l_X8_takesOrder_24 a1 (r_X8_openMany M) (M, 0, 0) (cntN (fun k => c_X8_takesOrder_24 a1 (r_X8_openMany M) (l_X8_takesOrder_24 a1 (r_X8_openMany M) (M, 0, 0) k)) 7)).2.2)) ((a1 >>> (((3 : Int32) * ((l_X8_takesOrder_24 a1 (r_X8_openMany M) (M, 0, 0) (cntN (fun k => c_X8_takesOrder_24 a1 (r_X8_openMany M) (l_X8_takesOrder_24 a1 (r_X8_openMany M) (M, 0, 0) k)) 7)).2.2)) &&& 31)) &&& 7)).1 600 2 - 1)) = 0) from c57), if_pos (show (b2i ((wi (l_X8_takesOrder_24 a1 (r_X8_openMany M) (M, 0, 0) (cntN (fun k => c_X8_takesOrder_24 a1 (r_X8_openMany M) (l_X8_takesOrder_24 a1 (r_X8_openMany M) (M, 0, 0) k)) 7)).1 614 (Int32.toNatClampNeg ((l_X8_takesOrder_24 a1 (r_X8_openMany M) (M, 0, 0) (cntN (fun k => c_X8_takesOrder_24 a1 (r_X8_openMany M) (l_X8_takesOrder_24 a1 (r_X8_openMany M) (M, 0, 0) k)) 7)).2.2)) ((a1 >>> (((3 : Int32) * ((l_X8_takesOrder_24 a1 (r_X8_openMany M) (M, 0, 0) (cntN (fun k => c_X8_takesOrder_24 a1 (r_X8_openMany M) (l_X8_takesOrder_24 a1 (r_X8_openMany M) (M, 0, 0) k)) 7)).2.2)) &&& 31)) &&& 7)).1 607 (Int32.toNatClampNeg ((wi (l_X8_takesOrder_24 a1 (r_X8_openMany M) (M, 0, 0) (cntN (fun k => c_X8_takesOrder_24 a1 (r_X8_openMany M) (l_X8_takesOrder_24 a1 (r_X8_openMany M) (M, 0, 0) k)) 7)).1 614 (Int32.toNatClampNeg ((l_X8_takesOrder_24 a1 (r_X8_openMany M) (M, 0, 0) (cntN (fun k => c_X8_takesOrder_24 a1 (r_X8_openMany M) (l_X8_takesOrder_24 a1 (r_X8_openMany M) (M, 0, 0) k)) 7)).2.2)) ((a1 >>> (((3 : Int32) * ((l_X8_takesOrder_24 a1 (r_X8_openMany M) (M, 0, 0) (cntN (fun k => c_X8_takesOrder_24 a1 (r_X8_openMany M) (l_X8_takesOrder_24 a1 (r_X8_openMany M) (M, 0, 0) k)) 7)).2.2)) &&& 31)) &&& 7)).1 600 10 + 9 + ((wi (l_X8_takesOrder_24 a1 (r_X8_openMany M) (M, 0, 0) (cntN (fun k => c_X8_takesOrder_24 a1 (r_X8_openMany M) (l_X8_takesOrder_24 a1 (r_X8_openMany M) (M, 0, 0) k)) 7)).1 614 (Int32.toNatClampNeg ((l_X8_takesOrder_24 a1 (r_X8_openMany M) (M, 0, 0) (cntN (fun k => c_X8_takesOrder_24 a1 (r_X8_openMany M) (l_X8_takesOrder_24 a1 (r_X8_openMany M) (M, 0, 0) k)) 7)).2.2)) ((a1 >>> (((3 : Int32) * ((l_X8_takesOrder_24 a1 (r_X8_openMany M) (M, 0, 0) (cntN (fun k => c_X8_takesOrder_24 a1 (r_X8_openMany M) (l_X8_takesOrder_24 a1 (r_X8_openMany M) (M, 0, 0) k)) 7)).2.2)) &&& 31)) &&& 7)).1 614 (Int32.toNatClampNeg ((l_X8_takesOrder_24 a1 (r_X8_openMany M) (M, 0, 0) (cntN (fun k => c_X8_takesOrder_24 a1 (r_X8_openMany M) (l_X8_takesOrder_24 a1 (r_X8_openMany M) (M, 0, 0) k)) 7)).2.2))))) = 0)) = 0 from c71)]; rfl) | rfl
            · unfold w_X8_takesOrder; first | (simp only [if_neg (show ¬ (a1 < 0) from c6), if_pos (show (a1 >>> (((3 : Int32) * (r_X8_openMany M)) &&& 31)) = 0 from c14), if_neg (show ¬ ((r_X8_openMany M) ≤ ((l_X8_takesOrder_24 a1 (r_X8_openMany M) (M, 0, 0) (cntN (fun k => c_X8_takesOrder_24 a1 (r_X8_openMany M) (l_X8_takesOrder_24 a1 (r_X8_openMany M) (M, 0, 0) k)) 7)).2.2)) from c27), if_neg (show ¬ ((b2i (0 ≤ ((wi (l_X8_takesOrder_24 a1 (r_X8_openMany M) (M, 0, 0) (cntN (fun k => c_X8_takesOrder_24 a1 (r_X8_openMany M) (l_X8_takesOrder_24 a1 (r_X8_openMany M) (M, 0, 0) k)) 7)).1 614 (Int32.toNatClampNeg ((l_X8_takesOrder_24 a1 (r_X8_openMany M) (M, 0, 0) (cntN (fun k => c_X8_takesOrder_24 a1 (r_X8_openMany M) (l_X8_takesOrder_24 a1 (r_X8_openMany M) (M, 0, 0) k)) 7)).2.2)) ((a1 >>> (((3 : Int32) * ((l_X8_takesOrder_24 a1 (r_X8_openMany M) (M, 0, 0) (cntN (fun k => c_X8_takesOrder_24 a1 (r_X8_openMany M) (l_X8_takesOrder_24 a1 (r_X8_openMany M) (M, 0, 0) k)) 7)).2.2)) &&& 31)) &&& 7)).1 614 (Int32.toNatClampNeg ((l_X8_takesOrder_24 a1 (r_X8_openMany M) (M, 0, 0) (cntN (fun k => c_X8_takesOrder_24 a1 (r_X8_openMany M) (l_X8_takesOrder_24 a1 (r_X8_openMany M) (M, 0, 0) k)) 7)).2.2))) ∧ ((wi (l_X8_takesOrder_24 a1 (r_X8_openMany M) (M, 0, 0) (cntN (fun k => c_X8_takesOrder_24 a1 (r_X8_openMany M) (l_X8_takesOrder_24 a1 (r_X8_openMany M) (M, 0, 0) k)) 7)).1 614 (Int32.toNatClampNeg ((l_X8_takesOrder_24 a1 (r_X8_openMany M) (M, 0, 0) (cntN (fun k => c_X8_takesOrder_24 a1 (r_X8_openMany M) (l_X8_takesOrder_24 a1 (r_X8_openMany M) (M, 0, 0) k)) 7)).2.2)) ((a1 >>> (((3 : Int32) * ((l_X8_takesOrder_24 a1 (r_X8_openMany M) (M, 0, 0) (cntN (fun k => c_X8_takesOrder_24 a1 (r_X8_openMany M) (l_X8_takesOrder_24 a1 (r_X8_openMany M) (M, 0, 0) k)) 7)).2.2)) &&& 31)) &&& 7)).1 614 (Int32.toNatClampNeg ((l_X8_takesOrder_24 a1 (r_X8_openMany M) (M, 0, 0) (cntN (fun k => c_X8_takesOrder_24 a1 (r_X8_openMany M) (l_X8_takesOrder_24 a1 (r_X8_openMany M) (M, 0, 0) k)) 7)).2.2))) ≤ (wi (l_X8_takesOrder_24 a1 (r_X8_openMany M) (M, 0, 0) (cntN (fun k => c_X8_takesOrder_24 a1 (r_X8_openMany M) (l_X8_takesOrder_24 a1 (r_X8_openMany M) (M, 0, 0) k)) 7)).1 614 (Int32.toNatClampNeg ((l_X8_takesOrder_24 a1 (r_X8_openMany M) (M, 0, 0) (cntN (fun k => c_X8_takesOrder_24 a1 (r_X8_openMany M) (l_X8_takesOrder_24 a1 (r_X8_openMany M) (M, 0, 0) k)) 7)).2.2)) ((a1 >>> (((3 : Int32) * ((l_X8_takesOrder_24 a1 (r_X8_openMany M) (M, 0, 0) (cntN (fun k => c_X8_takesOrder_24 a1 (r_X8_openMany M) (l_X8_takesOrder_24 a1 (r_X8_openMany M) (M, 0, 0) k)) 7)).2.2)) &&& 31)) &&& 7)).1 600 2 - 1)) = 0) from c57), if_pos (show (b2i ((wi (l_X8_takesOrder_24 a1 (r_X8_openMany M) (M, 0, 0) (cntN (fun k => c_X8_takesOrder_24 a1 (r_X8_openMany M) (l_X8_takesOrder_24 a1 (r_X8_openMany M) (M, 0, 0) k)) 7)).1 614 (Int32.toNatClampNeg ((l_X8_takesOrder_24 a1 (r_X8_openMany M) (M, 0, 0) (cntN (fun k => c_X8_takesOrder_24 a1 (r_X8_openMany M) (l_X8_takesOrder_24 a1 (r_X8_openMany M) (M, 0, 0) k)) 7)).2.2)) ((a1 >>> (((3 : Int32) * ((l_X8_takesOrder_24 a1 (r_X8_openMany M) (M, 0, 0) (cntN (fun k => c_X8_takesOrder_24 a1 (r_X8_openMany M) (l_X8_takesOrder_24 a1 (r_X8_openMany M) (M, 0, 0) k)) 7)).2.2)) &&& 31)) &&& 7)).1 607 (Int32.toNatClampNeg ((wi (l_X8_takesOrder_24 a1 (r_X8_openMany M) (M, 0, 0) (cntN (fun k => c_X8_takesOrder_24 a1 (r_X8_openMany M) (l_X8_takesOrder_24 a1 (r_X8_openMany M) (M, 0, 0) k)) 7)).1 614 (Int32.toNatClampNeg ((l_X8_takesOrder_24 a1 (r_X8_openMany M) (M, 0, 0) (cntN (fun k => c_X8_takesOrder_24 a1 (r_X8_openMany M) (l_X8_takesOrder_24 a1 (r_X8_openMany M) (M, 0, 0) k)) 7)).2.2)) ((a1 >>> (((3 : Int32) * ((l_X8_takesOrder_24 a1 (r_X8_openMany M) (M, 0, 0) (cntN (fun k => c_X8_takesOrder_24 a1 (r_X8_openMany M) (l_X8_takesOrder_24 a1 (r_X8_openMany M) (M, 0, 0) k)) 7)).2.2)) &&& 31)) &&& 7)).1 600 10 + 9 + ((wi (l_X8_takesOrder_24 a1 (r_X8_openMany M) (M, 0, 0) (cntN (fun k => c_X8_takesOrder_24 a1 (r_X8_openMany M) (l_X8_takesOrder_24 a1 (r_X8_openMany M) (M, 0, 0) k)) 7)).1 614 (Int32.toNatClampNeg ((l_X8_takesOrder_24 a1 (r_X8_openMany M) (M, 0, 0) (cntN (fun k => c_X8_takesOrder_24 a1 (r_X8_openMany M) (l_X8_takesOrder_24 a1 (r_X8_openMany M) (M, 0, 0) k)) 7)).2.2)) ((a1 >>> (((3 : Int32) * ((l_X8_takesOrder_24 a1 (r_X8_openMany M) (M, 0, 0) (cntN (fun k => c_X8_takesOrder_24 a1 (r_X8_openMany M) (l_X8_takesOrder_24 a1 (r_X8_openMany M) (M, 0, 0) k)) 7)).2.2)) &&& 31)) &&& 7)).1 614 (Int32.toNatClampNeg ((l_X8_takesOrder_24 a1 (r_X8_openMany M) (M, 0, 0) (cntN (fun k => c_X8_takesOrder_24 a1 (r_X8_openMany M) (l_X8_takesOrder_24 a1 (r_X8_openMany M) (M, 0, 0) k)) 7)).2.2))))) = 0)) = 0 from c71)]; done) | (simp only [if_neg (show ¬ (a1 < 0) from c6), if_pos (show (a1 >>> (((3 : Int32) * (r_X8_openMany M)) &&& 31)) = 0 from c14), if_neg (show ¬ ((r_X8_openMany M) ≤ ((l_X8_takesOrder_24 a1 (r_X8_openMany M) (M, 0, 0) (cntN (fun k => c_X8_takesOrder_24 a1 (r_X8_openMany M) (l_X8_takesOrder_24 a1 (r_X8_openMany M) (M, 0, 0) k)) 7)).2.2)) from c27), if_neg (show ¬ ((b2i (0 ≤ ((wi (l_X8_takesOrder_24 a1 (r_X8_openMany M) (M, 0, 0) (cntN (fun k => c_X8_takesOrder_24 a1 (r_X8_openMany M) (l_X8_takesOrder_24 a1 (r_X8_openMany M) (M, 0, 0) k)) 7)).1 614 (Int32.toNatClampNeg ((l_X8_takesOrder_24 a1 (r_X8_openMany M) (M, 0, 0) (cntN (fun k => c_X8_takesOrder_24 a1 (r_X8_openMany M) (l_X8_takesOrder_24 a1 (r_X8_openMany M) (M, 0, 0) k)) 7)).2.2)) ((a1 >>> (((3 : Int32) * ((l_X8_takesOrder_24 a1 (r_X8_openMany M) (M, 0, 0) (cntN (fun k => c_X8_takesOrder_24 a1 (r_X8_openMany M) (l_X8_takesOrder_24 a1 (r_X8_openMany M) (M, 0, 0) k)) 7)).2.2)) &&& 31)) &&& 7)).1 614 (Int32.toNatClampNeg ((l_X8_takesOrder_24 a1 (r_X8_openMany M) (M, 0, 0) (cntN (fun k => c_X8_takesOrder_24 a1 (r_X8_openMany M) (l_X8_takesOrder_24 a1 (r_X8_openMany M) (M, 0, 0) k)) 7)).2.2))) ∧ ((wi (l_X8_takesOrder_24 a1 (r_X8_openMany M) (M, 0, 0) (cntN (fun k => c_X8_takesOrder_24 a1 (r_X8_openMany M) (l_X8_takesOrder_24 a1 (r_X8_openMany M) (M, 0, 0) k)) 7)).1 614 (Int32.toNatClampNeg ((l_X8_takesOrder_24 a1 (r_X8_openMany M) (M, 0, 0) (cntN (fun k => c_X8_takesOrder_24 a1 (r_X8_openMany M) (l_X8_takesOrder_24 a1 (r_X8_openMany M) (M, 0, 0) k)) 7)).2.2)) ((a1 >>> (((3 : Int32) * ((l_X8_takesOrder_24 a1 (r_X8_openMany M) (M, 0, 0) (cntN (fun k => c_X8_takesOrder_24 a1 (r_X8_openMany M) (l_X8_takesOrder_24 a1 (r_X8_openMany M) (M, 0, 0) k)) 7)).2.2)) &&& 31)) &&& 7)).1 614 (Int32.toNatClampNeg ((l_X8_takesOrder_24 a1 (r_X8_openMany M) (M, 0, 0) (cntN (fun k => c_X8_takesOrder_24 a1 (r_X8_openMany M) (l_X8_takesOrder_24 a1 (r_X8_openMany M) (M, 0, 0) k)) 7)).2.2))) ≤ (wi (l_X8_takesOrder_24 a1 (r_X8_openMany M) (M, 0, 0) (cntN (fun k => c_X8_takesOrder_24 a1 (r_X8_openMany M) (l_X8_takesOrder_24 a1 (r_X8_openMany M) (M, 0, 0) k)) 7)).1 614 (Int32.toNatClampNeg ((l_X8_takesOrder_24 a1 (r_X8_openMany M) (M, 0, 0) (cntN (fun k => c_X8_takesOrder_24 a1 (r_X8_openMany M) (l_X8_takesOrder_24 a1 (r_X8_openMany M) (M, 0, 0) k)) 7)).2.2)) ((a1 >>> (((3 : Int32) * ((l_X8_takesOrder_24 a1 (r_X8_openMany M) (M, 0, 0) (cntN (fun k => c_X8_takesOrder_24 a1 (r_X8_openMany M) (l_X8_takesOrder_24 a1 (r_X8_openMany M) (M, 0, 0) k)) 7)).2.2)) &&& 31)) &&& 7)).1 600 2 - 1)) = 0) from c57), if_pos (show (b2i ((wi (l_X8_takesOrder_24 a1 (r_X8_openMany M) (M, 0, 0) (cntN (fun k => c_X8_takesOrder_24 a1 (r_X8_openMany M) (l_X8_takesOrder_24 a1 (r_X8_openMany M) (M, 0, 0) k)) 7)).1 614 (Int32.toNatClampNeg ((l_X8_takesOrder_24 a1 (r_X8_openMany M) (M, 0, 0) (cntN (fun k => c_X8_takesOrder_24 a1 (r_X8_openMany M) (l_X8_takesOrder_24 a1 (r_X8_openMany M) (M, 0, 0) k)) 7)).2.2)) ((a1 >>> (((3 : Int32) * ((l_X8_takesOrder_24 a1 (r_X8_openMany M) (M, 0, 0) (cntN (fun k => c_X8_takesOrder_24 a1 (r_X8_openMany M) (l_X8_takesOrder_24 a1 (r_X8_openMany M) (M, 0, 0) k)) 7)).2.2)) &&& 31)) &&& 7)).1 607 (Int32.toNatClampNeg ((wi (l_X8_takesOrder_24 a1 (r_X8_openMany M) (M, 0, 0) (cntN (fun k => c_X8_takesOrder_24 a1 (r_X8_openMany M) (l_X8_takesOrder_24 a1 (r_X8_openMany M) (M, 0, 0) k)) 7)).1 614 (Int32.toNatClampNeg ((l_X8_takesOrder_24 a1 (r_X8_openMany M) (M, 0, 0) (cntN (fun k => c_X8_takesOrder_24 a1 (r_X8_openMany M) (l_X8_takesOrder_24 a1 (r_X8_openMany M) (M, 0, 0) k)) 7)).2.2)) ((a1 >>> (((3 : Int32) * ((l_X8_takesOrder_24 a1 (r_X8_openMany M) (M, 0, 0) (cntN (fun k => c_X8_takesOrder_24 a1 (r_X8_openMany M) (l_X8_takesOrder_24 a1 (r_X8_openMany M) (M, 0, 0) k)) 7)).2.2)) &&& 31)) &&& 7)).1 600 10 + 9 + ((wi (l_X8_takesOrder_24 a1 (r_X8_openMany M) (M, 0, 0) (cntN (fun k => c_X8_takesOrder_24 a1 (r_X8_openMany M) (l_X8_takesOrder_24 a1 (r_X8_openMany M) (M, 0, 0) k)) 7)).1 614 (Int32.toNatClampNeg ((l_X8_takesOrder_24 a1 (r_X8_openMany M) (M, 0, 0) (cntN (fun k => c_X8_takesOrder_24 a1 (r_X8_openMany M) (l_X8_takesOrder_24 a1 (r_X8_openMany M) (M, 0, 0) k)) 7)).2.2)) ((a1 >>> (((3 : Int32) * ((l_X8_takesOrder_24 a1 (r_X8_openMany M) (M, 0, 0) (cntN (fun k => c_X8_takesOrder_24 a1 (r_X8_openMany M) (l_X8_takesOrder_24 a1 (r_X8_openMany M) (M, 0, 0) k)) 7)).2.2)) &&& 31)) &&& 7)).1 614 (Int32.toNatClampNeg ((l_X8_takesOrder_24 a1 (r_X8_openMany M) (M, 0, 0) (cntN (fun k => c_X8_takesOrder_24 a1 (r_X8_openMany M) (l_X8_takesOrder_24 a1 (r_X8_openMany M) (M, 0, 0) k)) 7)).2.2))))) = 0)) = 0 from c71)]; rfl) | rfl
          · rw [if_neg (show ¬ ((b2i ((wi (l_X8_takesOrder_24 a1 (r_X8_openMany M) (M, 0, 0) (cntN (fun k => c_X8_takesOrder_24 a1 (r_X8_openMany M) (l_X8_takesOrder_24 a1 (r_X8_openMany M) (M, 0, 0) k)) 7)).1 614 (Int32.toNatClampNeg ((l_X8_takesOrder_24 a1 (r_X8_openMany M) (M, 0, 0) (cntN (fun k => c_X8_takesOrder_24 a1 (r_X8_openMany M) (l_X8_takesOrder_24 a1 (r_X8_openMany M) (M, 0, 0) k)) 7)).2.2)) ((a1 >>> (((3 : Int32) * ((l_X8_takesOrder_24 a1 (r_X8_openMany M) (M, 0, 0) (cntN (fun k => c_X8_takesOrder_24 a1 (r_X8_openMany M) (l_X8_takesOrder_24 a1 (r_X8_openMany M) (M, 0, 0) k)) 7)).2.2)) &&& 31)) &&& 7)).1 607 (Int32.toNatClampNeg ((wi (l_X8_takesOrder_24 a1 (r_X8_openMany M) (M, 0, 0) (cntN (fun k => c_X8_takesOrder_24 a1 (r_X8_openMany M) (l_X8_takesOrder_24 a1 (r_X8_openMany M) (M, 0, 0) k)) 7)).1 614 (Int32.toNatClampNeg ((l_X8_takesOrder_24 a1 (r_X8_openMany M) (M, 0, 0) (cntN (fun k => c_X8_takesOrder_24 a1 (r_X8_openMany M) (l_X8_takesOrder_24 a1 (r_X8_openMany M) (M, 0, 0) k)) 7)).2.2)) ((a1 >>> (((3 : Int32) * ((l_X8_takesOrder_24 a1 (r_X8_openMany M) (M, 0, 0) (cntN (fun k => c_X8_takesOrder_24 a1 (r_X8_openMany M) (l_X8_takesOrder_24 a1 (r_X8_openMany M) (M, 0, 0) k)) 7)).2.2)) &&& 31)) &&& 7)).1 600 10 + 9 + ((wi (l_X8_takesOrder_24 a1 (r_X8_openMany M) (M, 0, 0) (cntN (fun k => c_X8_takesOrder_24 a1 (r_X8_openMany M) (l_X8_takesOrder_24 a1 (r_X8_openMany M) (M, 0, 0) k)) 7)).1 614 (Int32.toNatClampNeg ((l_X8_takesOrder_24 a1 (r_X8_openMany M) (M, 0, 0) (cntN (fun k => c_X8_takesOrder_24 a1 (r_X8_openMany M) (l_X8_takesOrder_24 a1 (r_X8_openMany M) (M, 0, 0) k)) 7)).2.2)) ((a1 >>> (((3 : Int32) * ((l_X8_takesOrder_24 a1 (r_X8_openMany M) (M, 0, 0) (cntN (fun k => c_X8_takesOrder_24 a1 (r_X8_openMany M) (l_X8_takesOrder_24 a1 (r_X8_openMany M) (M, 0, 0) k)) 7)).2.2)) &&& 31)) &&& 7)).1 614 (Int32.toNatClampNeg ((l_X8_takesOrder_24 a1 (r_X8_openMany M) (M, 0, 0) (cntN (fun k => c_X8_takesOrder_24 a1 (r_X8_openMany M) (l_X8_takesOrder_24 a1 (r_X8_openMany M) (M, 0, 0) k)) 7)).2.2))))) = 0)) = 0) from c71)] at hp
            refine j_iload_n g (i := 3) (by decide +kernel) rfl ?_
            refine j_aload_n g (i := 0) (by decide +kernel) rfl ?_
            refine j_gA g (b := 614) f8_49 (by decide +kernel) (by decide +kernel) (by decide +kernel) (by decide +kernel) ?_
            refine j_iload g (i := 4) (by decide +kernel) rfl ?_
            obtain ⟨h0, hp⟩ := hp
            refine j_ia g 6 (by decide +kernel) (by decide +kernel) (by decide +kernel) h0 ?_
            refine j_ishr g (by decide +kernel) ?_
            refine j_iconst g (n := 1) (1) (by decide +kernel) rfl ?_
            refine j_iand g (by decide +kernel) ?_
            refine j_iconst g (n := 1) (1) (by decide +kernel) rfl ?_
            refine j_icmp_ne g (off := 5) (tgt := 91) (by decide +kernel) (by decide) (fun c86 => ?_) (fun c86 => ?_)
            · rw [if_pos (show ¬ ((((l_X8_takesOrder_24 a1 (r_X8_openMany M) (M, 0, 0) (cntN (fun k => c_X8_takesOrder_24 a1 (r_X8_openMany M) (l_X8_takesOrder_24 a1 (r_X8_openMany M) (M, 0, 0) k)) 7)).2.1) >>> (((wi (l_X8_takesOrder_24 a1 (r_X8_openMany M) (M, 0, 0) (cntN (fun k => c_X8_takesOrder_24 a1 (r_X8_openMany M) (l_X8_takesOrder_24 a1 (r_X8_openMany M) (M, 0, 0) k)) 7)).1 614 (Int32.toNatClampNeg ((l_X8_takesOrder_24 a1 (r_X8_openMany M) (M, 0, 0) (cntN (fun k => c_X8_takesOrder_24 a1 (r_X8_openMany M) (l_X8_takesOrder_24 a1 (r_X8_openMany M) (M, 0, 0) k)) 7)).2.2)) ((a1 >>> (((3 : Int32) * ((l_X8_takesOrder_24 a1 (r_X8_openMany M) (M, 0, 0) (cntN (fun k => c_X8_takesOrder_24 a1 (r_X8_openMany M) (l_X8_takesOrder_24 a1 (r_X8_openMany M) (M, 0, 0) k)) 7)).2.2)) &&& 31)) &&& 7)).1 614 (Int32.toNatClampNeg ((l_X8_takesOrder_24 a1 (r_X8_openMany M) (M, 0, 0) (cntN (fun k => c_X8_takesOrder_24 a1 (r_X8_openMany M) (l_X8_takesOrder_24 a1 (r_X8_openMany M) (M, 0, 0) k)) 7)).2.2))) &&& 31)) &&& 1) = 1 from c86)] at hp
              refine j_iload_n g (i := 3) (by decide +kernel) rfl ?_
              refine j_iconst g (n := 1) (1) (by decide +kernel) rfl ?_
              refine j_aload_n g (i := 0) (by decide +kernel) rfl ?_
              refine j_gA g (b := 614) f8_49 (by decide +kernel) (by decide +kernel) (by decide +kernel) (by decide +kernel) ?_
              refine j_iload g (i := 4) (by decide +kernel) rfl ?_
              obtain ⟨h0, hp⟩ := hp
              refine j_ia g 6 (by decide +kernel) (by decide +kernel) (by decide +kernel) h0 ?_
              refine j_ishl g (by decide +kernel) ?_
              refine j_ior g (by decide +kernel) ?_
              refine j_istore_n g (i := 3) (by decide +kernel) (by decide) ?_
              dsimp only [stL, clL, hdL]
              refine j_iinc g (i := 4) (n := 1) (1) (by decide +kernel) rfl (by decide) rfl ?_
              dsimp only [stL, clL, hdL]
              refine j_goto g (off := -82) (tgt := 24) (by decide +kernel) (by decide) ?_
              refine absurd (ci_X8_takesOrder_24.mpr ?_) hx_24_1
              simp only [if_neg (show ¬ (a1 < 0) from c6), if_pos (show (a1 >>> (((3 : Int32) * (r_X8_openMany M)) &&& 31)) = 0 from c14), if_neg (show ¬ ((r_X8_openMany M) ≤ ((l_X8_takesOrder_24 a1 (r_X8_openMany M) (M, 0, 0) (cntN (fun k => c_X8_takesOrder_24 a1 (r_X8_openMany M) (l_X8_takesOrder_24 a1 (r_X8_openMany M) (M, 0, 0) k)) 7)).2.2)) from c27), if_neg (show ¬ ((b2i (0 ≤ ((wi (l_X8_takesOrder_24 a1 (r_X8_openMany M) (M, 0, 0) (cntN (fun k => c_X8_takesOrder_24 a1 (r_X8_openMany M) (l_X8_takesOrder_24 a1 (r_X8_openMany M) (M, 0, 0) k)) 7)).1 614 (Int32.toNatClampNeg ((l_X8_takesOrder_24 a1 (r_X8_openMany M) (M, 0, 0) (cntN (fun k => c_X8_takesOrder_24 a1 (r_X8_openMany M) (l_X8_takesOrder_24 a1 (r_X8_openMany M) (M, 0, 0) k)) 7)).2.2)) ((a1 >>> (((3 : Int32) * ((l_X8_takesOrder_24 a1 (r_X8_openMany M) (M, 0, 0) (cntN (fun k => c_X8_takesOrder_24 a1 (r_X8_openMany M) (l_X8_takesOrder_24 a1 (r_X8_openMany M) (M, 0, 0) k)) 7)).2.2)) &&& 31)) &&& 7)).1 614 (Int32.toNatClampNeg ((l_X8_takesOrder_24 a1 (r_X8_openMany M) (M, 0, 0) (cntN (fun k => c_X8_takesOrder_24 a1 (r_X8_openMany M) (l_X8_takesOrder_24 a1 (r_X8_openMany M) (M, 0, 0) k)) 7)).2.2))) ∧ ((wi (l_X8_takesOrder_24 a1 (r_X8_openMany M) (M, 0, 0) (cntN (fun k => c_X8_takesOrder_24 a1 (r_X8_openMany M) (l_X8_takesOrder_24 a1 (r_X8_openMany M) (M, 0, 0) k)) 7)).1 614 (Int32.toNatClampNeg ((l_X8_takesOrder_24 a1 (r_X8_openMany M) (M, 0, 0) (cntN (fun k => c_X8_takesOrder_24 a1 (r_X8_openMany M) (l_X8_takesOrder_24 a1 (r_X8_openMany M) (M, 0, 0) k)) 7)).2.2)) ((a1 >>> (((3 : Int32) * ((l_X8_takesOrder_24 a1 (r_X8_openMany M) (M, 0, 0) (cntN (fun k => c_X8_takesOrder_24 a1 (r_X8_openMany M) (l_X8_takesOrder_24 a1 (r_X8_openMany M) (M, 0, 0) k)) 7)).2.2)) &&& 31)) &&& 7)).1 614 (Int32.toNatClampNeg ((l_X8_takesOrder_24 a1 (r_X8_openMany M) (M, 0, 0) (cntN (fun k => c_X8_takesOrder_24 a1 (r_X8_openMany M) (l_X8_takesOrder_24 a1 (r_X8_openMany M) (M, 0, 0) k)) 7)).2.2))) ≤ (wi (l_X8_takesOrder_24 a1 (r_X8_openMany M) (M, 0, 0) (cntN (fun k => c_X8_takesOrder_24 a1 (r_X8_openMany M) (l_X8_takesOrder_24 a1 (r_X8_openMany M) (M, 0, 0) k)) 7)).1 614 (Int32.toNatClampNeg ((l_X8_takesOrder_24 a1 (r_X8_openMany M) (M, 0, 0) (cntN (fun k => c_X8_takesOrder_24 a1 (r_X8_openMany M) (l_X8_takesOrder_24 a1 (r_X8_openMany M) (M, 0, 0) k)) 7)).2.2)) ((a1 >>> (((3 : Int32) * ((l_X8_takesOrder_24 a1 (r_X8_openMany M) (M, 0, 0) (cntN (fun k => c_X8_takesOrder_24 a1 (r_X8_openMany M) (l_X8_takesOrder_24 a1 (r_X8_openMany M) (M, 0, 0) k)) 7)).2.2)) &&& 31)) &&& 7)).1 600 2 - 1)) = 0) from c57), if_neg (show ¬ ((b2i ((wi (l_X8_takesOrder_24 a1 (r_X8_openMany M) (M, 0, 0) (cntN (fun k => c_X8_takesOrder_24 a1 (r_X8_openMany M) (l_X8_takesOrder_24 a1 (r_X8_openMany M) (M, 0, 0) k)) 7)).1 614 (Int32.toNatClampNeg ((l_X8_takesOrder_24 a1 (r_X8_openMany M) (M, 0, 0) (cntN (fun k => c_X8_takesOrder_24 a1 (r_X8_openMany M) (l_X8_takesOrder_24 a1 (r_X8_openMany M) (M, 0, 0) k)) 7)).2.2)) ((a1 >>> (((3 : Int32) * ((l_X8_takesOrder_24 a1 (r_X8_openMany M) (M, 0, 0) (cntN (fun k => c_X8_takesOrder_24 a1 (r_X8_openMany M) (l_X8_takesOrder_24 a1 (r_X8_openMany M) (M, 0, 0) k)) 7)).2.2)) &&& 31)) &&& 7)).1 607 (Int32.toNatClampNeg ((wi (l_X8_takesOrder_24 a1 (r_X8_openMany M) (M, 0, 0) (cntN (fun k => c_X8_takesOrder_24 a1 (r_X8_openMany M) (l_X8_takesOrder_24 a1 (r_X8_openMany M) (M, 0, 0) k)) 7)).1 614 (Int32.toNatClampNeg ((l_X8_takesOrder_24 a1 (r_X8_openMany M) (M, 0, 0) (cntN (fun k => c_X8_takesOrder_24 a1 (r_X8_openMany M) (l_X8_takesOrder_24 a1 (r_X8_openMany M) (M, 0, 0) k)) 7)).2.2)) ((a1 >>> (((3 : Int32) * ((l_X8_takesOrder_24 a1 (r_X8_openMany M) (M, 0, 0) (cntN (fun k => c_X8_takesOrder_24 a1 (r_X8_openMany M) (l_X8_takesOrder_24 a1 (r_X8_openMany M) (M, 0, 0) k)) 7)).2.2)) &&& 31)) &&& 7)).1 600 10 + 9 + ((wi (l_X8_takesOrder_24 a1 (r_X8_openMany M) (M, 0, 0) (cntN (fun k => c_X8_takesOrder_24 a1 (r_X8_openMany M) (l_X8_takesOrder_24 a1 (r_X8_openMany M) (M, 0, 0) k)) 7)).1 614 (Int32.toNatClampNeg ((l_X8_takesOrder_24 a1 (r_X8_openMany M) (M, 0, 0) (cntN (fun k => c_X8_takesOrder_24 a1 (r_X8_openMany M) (l_X8_takesOrder_24 a1 (r_X8_openMany M) (M, 0, 0) k)) 7)).2.2)) ((a1 >>> (((3 : Int32) * ((l_X8_takesOrder_24 a1 (r_X8_openMany M) (M, 0, 0) (cntN (fun k => c_X8_takesOrder_24 a1 (r_X8_openMany M) (l_X8_takesOrder_24 a1 (r_X8_openMany M) (M, 0, 0) k)) 7)).2.2)) &&& 31)) &&& 7)).1 614 (Int32.toNatClampNeg ((l_X8_takesOrder_24 a1 (r_X8_openMany M) (M, 0, 0) (cntN (fun k => c_X8_takesOrder_24 a1 (r_X8_openMany M) (l_X8_takesOrder_24 a1 (r_X8_openMany M) (M, 0, 0) k)) 7)).2.2))))) = 0)) = 0) from c71), if_pos (show ¬ ((((l_X8_takesOrder_24 a1 (r_X8_openMany M) (M, 0, 0) (cntN (fun k => c_X8_takesOrder_24 a1 (r_X8_openMany M) (l_X8_takesOrder_24 a1 (r_X8_openMany M) (M, 0, 0) k)) 7)).2.1) >>> (((wi (l_X8_takesOrder_24 a1 (r_X8_openMany M) (M, 0, 0) (cntN (fun k => c_X8_takesOrder_24 a1 (r_X8_openMany M) (l_X8_takesOrder_24 a1 (r_X8_openMany M) (M, 0, 0) k)) 7)).1 614 (Int32.toNatClampNeg ((l_X8_takesOrder_24 a1 (r_X8_openMany M) (M, 0, 0) (cntN (fun k => c_X8_takesOrder_24 a1 (r_X8_openMany M) (l_X8_takesOrder_24 a1 (r_X8_openMany M) (M, 0, 0) k)) 7)).2.2)) ((a1 >>> (((3 : Int32) * ((l_X8_takesOrder_24 a1 (r_X8_openMany M) (M, 0, 0) (cntN (fun k => c_X8_takesOrder_24 a1 (r_X8_openMany M) (l_X8_takesOrder_24 a1 (r_X8_openMany M) (M, 0, 0) k)) 7)).2.2)) &&& 31)) &&& 7)).1 614 (Int32.toNatClampNeg ((l_X8_takesOrder_24 a1 (r_X8_openMany M) (M, 0, 0) (cntN (fun k => c_X8_takesOrder_24 a1 (r_X8_openMany M) (l_X8_takesOrder_24 a1 (r_X8_openMany M) (M, 0, 0) k)) 7)).2.2))) &&& 31)) &&& 1) = 1 from c86)]
            · rw [if_neg (show ¬ (¬ ((((l_X8_takesOrder_24 a1 (r_X8_openMany M) (M, 0, 0) (cntN (fun k => c_X8_takesOrder_24 a1 (r_X8_openMany M) (l_X8_takesOrder_24 a1 (r_X8_openMany M) (M, 0, 0) k)) 7)).2.1) >>> (((wi (l_X8_takesOrder_24 a1 (r_X8_openMany M) (M, 0, 0) (cntN (fun k => c_X8_takesOrder_24 a1 (r_X8_openMany M) (l_X8_takesOrder_24 a1 (r_X8_openMany M) (M, 0, 0) k)) 7)).1 614 (Int32.toNatClampNeg ((l_X8_takesOrder_24 a1 (r_X8_openMany M) (M, 0, 0) (cntN (fun k => c_X8_takesOrder_24 a1 (r_X8_openMany M) (l_X8_takesOrder_24 a1 (r_X8_openMany M) (M, 0, 0) k)) 7)).2.2)) ((a1 >>> (((3 : Int32) * ((l_X8_takesOrder_24 a1 (r_X8_openMany M) (M, 0, 0) (cntN (fun k => c_X8_takesOrder_24 a1 (r_X8_openMany M) (l_X8_takesOrder_24 a1 (r_X8_openMany M) (M, 0, 0) k)) 7)).2.2)) &&& 31)) &&& 7)).1 614 (Int32.toNatClampNeg ((l_X8_takesOrder_24 a1 (r_X8_openMany M) (M, 0, 0) (cntN (fun k => c_X8_takesOrder_24 a1 (r_X8_openMany M) (l_X8_takesOrder_24 a1 (r_X8_openMany M) (M, 0, 0) k)) 7)).2.2))) &&& 31)) &&& 1) = 1) from c86)] at hp
              refine j_iconst g (n := -1) (-1) (by decide +kernel) rfl ?_
              refine hr.1 _ _ _ _ (by decide +kernel) ⟨_, rfl, by first | rfl | exact b2i_nar | decide +kernel⟩ ?_ ?_
              · unfold r_X8_takesOrder; first | (simp only [if_neg (show ¬ (a1 < 0) from c6), if_pos (show (a1 >>> (((3 : Int32) * (r_X8_openMany M)) &&& 31)) = 0 from c14), if_neg (show ¬ ((r_X8_openMany M) ≤ ((l_X8_takesOrder_24 a1 (r_X8_openMany M) (M, 0, 0) (cntN (fun k => c_X8_takesOrder_24 a1 (r_X8_openMany M) (l_X8_takesOrder_24 a1 (r_X8_openMany M) (M, 0, 0) k)) 7)).2.2)) from c27), if_neg (show ¬ ((b2i (0 ≤ ((wi (l_X8_takesOrder_24 a1 (r_X8_openMany M) (M, 0, 0) (cntN (fun k => c_X8_takesOrder_24 a1 (r_X8_openMany M) (l_X8_takesOrder_24 a1 (r_X8_openMany M) (M, 0, 0) k)) 7)).1 614 (Int32.toNatClampNeg ((l_X8_takesOrder_24 a1 (r_X8_openMany M) (M, 0, 0) (cntN (fun k => c_X8_takesOrder_24 a1 (r_X8_openMany M) (l_X8_takesOrder_24 a1 (r_X8_openMany M) (M, 0, 0) k)) 7)).2.2)) ((a1 >>> (((3 : Int32) * ((l_X8_takesOrder_24 a1 (r_X8_openMany M) (M, 0, 0) (cntN (fun k => c_X8_takesOrder_24 a1 (r_X8_openMany M) (l_X8_takesOrder_24 a1 (r_X8_openMany M) (M, 0, 0) k)) 7)).2.2)) &&& 31)) &&& 7)).1 614 (Int32.toNatClampNeg ((l_X8_takesOrder_24 a1 (r_X8_openMany M) (M, 0, 0) (cntN (fun k => c_X8_takesOrder_24 a1 (r_X8_openMany M) (l_X8_takesOrder_24 a1 (r_X8_openMany M) (M, 0, 0) k)) 7)).2.2))) ∧ ((wi (l_X8_takesOrder_24 a1 (r_X8_openMany M) (M, 0, 0) (cntN (fun k => c_X8_takesOrder_24 a1 (r_X8_openMany M) (l_X8_takesOrder_24 a1 (r_X8_openMany M) (M, 0, 0) k)) 7)).1 614 (Int32.toNatClampNeg ((l_X8_takesOrder_24 a1 (r_X8_openMany M) (M, 0, 0) (cntN (fun k => c_X8_takesOrder_24 a1 (r_X8_openMany M) (l_X8_takesOrder_24 a1 (r_X8_openMany M) (M, 0, 0) k)) 7)).2.2)) ((a1 >>> (((3 : Int32) * ((l_X8_takesOrder_24 a1 (r_X8_openMany M) (M, 0, 0) (cntN (fun k => c_X8_takesOrder_24 a1 (r_X8_openMany M) (l_X8_takesOrder_24 a1 (r_X8_openMany M) (M, 0, 0) k)) 7)).2.2)) &&& 31)) &&& 7)).1 614 (Int32.toNatClampNeg ((l_X8_takesOrder_24 a1 (r_X8_openMany M) (M, 0, 0) (cntN (fun k => c_X8_takesOrder_24 a1 (r_X8_openMany M) (l_X8_takesOrder_24 a1 (r_X8_openMany M) (M, 0, 0) k)) 7)).2.2))) ≤ (wi (l_X8_takesOrder_24 a1 (r_X8_openMany M) (M, 0, 0) (cntN (fun k => c_X8_takesOrder_24 a1 (r_X8_openMany M) (l_X8_takesOrder_24 a1 (r_X8_openMany M) (M, 0, 0) k)) 7)).1 614 (Int32.toNatClampNeg ((l_X8_takesOrder_24 a1 (r_X8_openMany M) (M, 0, 0) (cntN (fun k => c_X8_takesOrder_24 a1 (r_X8_openMany M) (l_X8_takesOrder_24 a1 (r_X8_openMany M) (M, 0, 0) k)) 7)).2.2)) ((a1 >>> (((3 : Int32) * ((l_X8_takesOrder_24 a1 (r_X8_openMany M) (M, 0, 0) (cntN (fun k => c_X8_takesOrder_24 a1 (r_X8_openMany M) (l_X8_takesOrder_24 a1 (r_X8_openMany M) (M, 0, 0) k)) 7)).2.2)) &&& 31)) &&& 7)).1 600 2 - 1)) = 0) from c57), if_neg (show ¬ ((b2i ((wi (l_X8_takesOrder_24 a1 (r_X8_openMany M) (M, 0, 0) (cntN (fun k => c_X8_takesOrder_24 a1 (r_X8_openMany M) (l_X8_takesOrder_24 a1 (r_X8_openMany M) (M, 0, 0) k)) 7)).1 614 (Int32.toNatClampNeg ((l_X8_takesOrder_24 a1 (r_X8_openMany M) (M, 0, 0) (cntN (fun k => c_X8_takesOrder_24 a1 (r_X8_openMany M) (l_X8_takesOrder_24 a1 (r_X8_openMany M) (M, 0, 0) k)) 7)).2.2)) ((a1 >>> (((3 : Int32) * ((l_X8_takesOrder_24 a1 (r_X8_openMany M) (M, 0, 0) (cntN (fun k => c_X8_takesOrder_24 a1 (r_X8_openMany M) (l_X8_takesOrder_24 a1 (r_X8_openMany M) (M, 0, 0) k)) 7)).2.2)) &&& 31)) &&& 7)).1 607 (Int32.toNatClampNeg ((wi (l_X8_takesOrder_24 a1 (r_X8_openMany M) (M, 0, 0) (cntN (fun k => c_X8_takesOrder_24 a1 (r_X8_openMany M) (l_X8_takesOrder_24 a1 (r_X8_openMany M) (M, 0, 0) k)) 7)).1 614 (Int32.toNatClampNeg ((l_X8_takesOrder_24 a1 (r_X8_openMany M) (M, 0, 0) (cntN (fun k => c_X8_takesOrder_24 a1 (r_X8_openMany M) (l_X8_takesOrder_24 a1 (r_X8_openMany M) (M, 0, 0) k)) 7)).2.2)) ((a1 >>> (((3 : Int32) * ((l_X8_takesOrder_24 a1 (r_X8_openMany M) (M, 0, 0) (cntN (fun k => c_X8_takesOrder_24 a1 (r_X8_openMany M) (l_X8_takesOrder_24 a1 (r_X8_openMany M) (M, 0, 0) k)) 7)).2.2)) &&& 31)) &&& 7)).1 600 10 + 9 + ((wi (l_X8_takesOrder_24 a1 (r_X8_openMany M) (M, 0, 0) (cntN (fun k => c_X8_takesOrder_24 a1 (r_X8_openMany M) (l_X8_takesOrder_24 a1 (r_X8_openMany M) (M, 0, 0) k)) 7)).1 614 (Int32.toNatClampNeg ((l_X8_takesOrder_24 a1 (r_X8_openMany M) (M, 0, 0) (cntN (fun k => c_X8_takesOrder_24 a1 (r_X8_openMany M) (l_X8_takesOrder_24 a1 (r_X8_openMany M) (M, 0, 0) k)) 7)).2.2)) ((a1 >>> (((3 : Int32) * ((l_X8_takesOrder_24 a1 (r_X8_openMany M) (M, 0, 0) (cntN (fun k => c_X8_takesOrder_24 a1 (r_X8_openMany M) (l_X8_takesOrder_24 a1 (r_X8_openMany M) (M, 0, 0) k)) 7)).2.2)) &&& 31)) &&& 7)).1 614 (Int32.toNatClampNeg ((l_X8_takesOrder_24 a1 (r_X8_openMany M) (M, 0, 0) (cntN (fun k => c_X8_takesOrder_24 a1 (r_X8_openMany M) (l_X8_takesOrder_24 a1 (r_X8_openMany M) (M, 0, 0) k)) 7)).2.2))))) = 0)) = 0) from c71), if_neg (show ¬ (¬ ((((l_X8_takesOrder_24 a1 (r_X8_openMany M) (M, 0, 0) (cntN (fun k => c_X8_takesOrder_24 a1 (r_X8_openMany M) (l_X8_takesOrder_24 a1 (r_X8_openMany M) (M, 0, 0) k)) 7)).2.1) >>> (((wi (l_X8_takesOrder_24 a1 (r_X8_openMany M) (M, 0, 0) (cntN (fun k => c_X8_takesOrder_24 a1 (r_X8_openMany M) (l_X8_takesOrder_24 a1 (r_X8_openMany M) (M, 0, 0) k)) 7)).1 614 (Int32.toNatClampNeg ((l_X8_takesOrder_24 a1 (r_X8_openMany M) (M, 0, 0) (cntN (fun k => c_X8_takesOrder_24 a1 (r_X8_openMany M) (l_X8_takesOrder_24 a1 (r_X8_openMany M) (M, 0, 0) k)) 7)).2.2)) ((a1 >>> (((3 : Int32) * ((l_X8_takesOrder_24 a1 (r_X8_openMany M) (M, 0, 0) (cntN (fun k => c_X8_takesOrder_24 a1 (r_X8_openMany M) (l_X8_takesOrder_24 a1 (r_X8_openMany M) (M, 0, 0) k)) 7)).2.2)) &&& 31)) &&& 7)).1 614 (Int32.toNatClampNeg ((l_X8_takesOrder_24 a1 (r_X8_openMany M) (M, 0, 0) (cntN (fun k => c_X8_takesOrder_24 a1 (r_X8_openMany M) (l_X8_takesOrder_24 a1 (r_X8_openMany M) (M, 0, 0) k)) 7)).2.2))) &&& 31)) &&& 1) = 1) from c86)]; done) | (simp only [if_neg (show ¬ (a1 < 0) from c6), if_pos (show (a1 >>> (((3 : Int32) * (r_X8_openMany M)) &&& 31)) = 0 from c14), if_neg (show ¬ ((r_X8_openMany M) ≤ ((l_X8_takesOrder_24 a1 (r_X8_openMany M) (M, 0, 0) (cntN (fun k => c_X8_takesOrder_24 a1 (r_X8_openMany M) (l_X8_takesOrder_24 a1 (r_X8_openMany M) (M, 0, 0) k)) 7)).2.2)) from c27), if_neg (show ¬ ((b2i (0 ≤ ((wi (l_X8_takesOrder_24 a1 (r_X8_openMany M) (M, 0, 0) (cntN (fun k => c_X8_takesOrder_24 a1 (r_X8_openMany M) (l_X8_takesOrder_24 a1 (r_X8_openMany M) (M, 0, 0) k)) 7)).1 614 (Int32.toNatClampNeg ((l_X8_takesOrder_24 a1 (r_X8_openMany M) (M, 0, 0) (cntN (fun k => c_X8_takesOrder_24 a1 (r_X8_openMany M) (l_X8_takesOrder_24 a1 (r_X8_openMany M) (M, 0, 0) k)) 7)).2.2)) ((a1 >>> (((3 : Int32) * ((l_X8_takesOrder_24 a1 (r_X8_openMany M) (M, 0, 0) (cntN (fun k => c_X8_takesOrder_24 a1 (r_X8_openMany M) (l_X8_takesOrder_24 a1 (r_X8_openMany M) (M, 0, 0) k)) 7)).2.2)) &&& 31)) &&& 7)).1 614 (Int32.toNatClampNeg ((l_X8_takesOrder_24 a1 (r_X8_openMany M) (M, 0, 0) (cntN (fun k => c_X8_takesOrder_24 a1 (r_X8_openMany M) (l_X8_takesOrder_24 a1 (r_X8_openMany M) (M, 0, 0) k)) 7)).2.2))) ∧ ((wi (l_X8_takesOrder_24 a1 (r_X8_openMany M) (M, 0, 0) (cntN (fun k => c_X8_takesOrder_24 a1 (r_X8_openMany M) (l_X8_takesOrder_24 a1 (r_X8_openMany M) (M, 0, 0) k)) 7)).1 614 (Int32.toNatClampNeg ((l_X8_takesOrder_24 a1 (r_X8_openMany M) (M, 0, 0) (cntN (fun k => c_X8_takesOrder_24 a1 (r_X8_openMany M) (l_X8_takesOrder_24 a1 (r_X8_openMany M) (M, 0, 0) k)) 7)).2.2)) ((a1 >>> (((3 : Int32) * ((l_X8_takesOrder_24 a1 (r_X8_openMany M) (M, 0, 0) (cntN (fun k => c_X8_takesOrder_24 a1 (r_X8_openMany M) (l_X8_takesOrder_24 a1 (r_X8_openMany M) (M, 0, 0) k)) 7)).2.2)) &&& 31)) &&& 7)).1 614 (Int32.toNatClampNeg ((l_X8_takesOrder_24 a1 (r_X8_openMany M) (M, 0, 0) (cntN (fun k => c_X8_takesOrder_24 a1 (r_X8_openMany M) (l_X8_takesOrder_24 a1 (r_X8_openMany M) (M, 0, 0) k)) 7)).2.2))) ≤ (wi (l_X8_takesOrder_24 a1 (r_X8_openMany M) (M, 0, 0) (cntN (fun k => c_X8_takesOrder_24 a1 (r_X8_openMany M) (l_X8_takesOrder_24 a1 (r_X8_openMany M) (M, 0, 0) k)) 7)).1 614 (Int32.toNatClampNeg ((l_X8_takesOrder_24 a1 (r_X8_openMany M) (M, 0, 0) (cntN (fun k => c_X8_takesOrder_24 a1 (r_X8_openMany M) (l_X8_takesOrder_24 a1 (r_X8_openMany M) (M, 0, 0) k)) 7)).2.2)) ((a1 >>> (((3 : Int32) * ((l_X8_takesOrder_24 a1 (r_X8_openMany M) (M, 0, 0) (cntN (fun k => c_X8_takesOrder_24 a1 (r_X8_openMany M) (l_X8_takesOrder_24 a1 (r_X8_openMany M) (M, 0, 0) k)) 7)).2.2)) &&& 31)) &&& 7)).1 600 2 - 1)) = 0) from c57), if_neg (show ¬ ((b2i ((wi (l_X8_takesOrder_24 a1 (r_X8_openMany M) (M, 0, 0) (cntN (fun k => c_X8_takesOrder_24 a1 (r_X8_openMany M) (l_X8_takesOrder_24 a1 (r_X8_openMany M) (M, 0, 0) k)) 7)).1 614 (Int32.toNatClampNeg ((l_X8_takesOrder_24 a1 (r_X8_openMany M) (M, 0, 0) (cntN (fun k => c_X8_takesOrder_24 a1 (r_X8_openMany M) (l_X8_takesOrder_24 a1 (r_X8_openMany M) (M, 0, 0) k)) 7)).2.2)) ((a1 >>> (((3 : Int32) * ((l_X8_takesOrder_24 a1 (r_X8_openMany M) (M, 0, 0) (cntN (fun k => c_X8_takesOrder_24 a1 (r_X8_openMany M) (l_X8_takesOrder_24 a1 (r_X8_openMany M) (M, 0, 0) k)) 7)).2.2)) &&& 31)) &&& 7)).1 607 (Int32.toNatClampNeg ((wi (l_X8_takesOrder_24 a1 (r_X8_openMany M) (M, 0, 0) (cntN (fun k => c_X8_takesOrder_24 a1 (r_X8_openMany M) (l_X8_takesOrder_24 a1 (r_X8_openMany M) (M, 0, 0) k)) 7)).1 614 (Int32.toNatClampNeg ((l_X8_takesOrder_24 a1 (r_X8_openMany M) (M, 0, 0) (cntN (fun k => c_X8_takesOrder_24 a1 (r_X8_openMany M) (l_X8_takesOrder_24 a1 (r_X8_openMany M) (M, 0, 0) k)) 7)).2.2)) ((a1 >>> (((3 : Int32) * ((l_X8_takesOrder_24 a1 (r_X8_openMany M) (M, 0, 0) (cntN (fun k => c_X8_takesOrder_24 a1 (r_X8_openMany M) (l_X8_takesOrder_24 a1 (r_X8_openMany M) (M, 0, 0) k)) 7)).2.2)) &&& 31)) &&& 7)).1 600 10 + 9 + ((wi (l_X8_takesOrder_24 a1 (r_X8_openMany M) (M, 0, 0) (cntN (fun k => c_X8_takesOrder_24 a1 (r_X8_openMany M) (l_X8_takesOrder_24 a1 (r_X8_openMany M) (M, 0, 0) k)) 7)).1 614 (Int32.toNatClampNeg ((l_X8_takesOrder_24 a1 (r_X8_openMany M) (M, 0, 0) (cntN (fun k => c_X8_takesOrder_24 a1 (r_X8_openMany M) (l_X8_takesOrder_24 a1 (r_X8_openMany M) (M, 0, 0) k)) 7)).2.2)) ((a1 >>> (((3 : Int32) * ((l_X8_takesOrder_24 a1 (r_X8_openMany M) (M, 0, 0) (cntN (fun k => c_X8_takesOrder_24 a1 (r_X8_openMany M) (l_X8_takesOrder_24 a1 (r_X8_openMany M) (M, 0, 0) k)) 7)).2.2)) &&& 31)) &&& 7)).1 614 (Int32.toNatClampNeg ((l_X8_takesOrder_24 a1 (r_X8_openMany M) (M, 0, 0) (cntN (fun k => c_X8_takesOrder_24 a1 (r_X8_openMany M) (l_X8_takesOrder_24 a1 (r_X8_openMany M) (M, 0, 0) k)) 7)).2.2))))) = 0)) = 0) from c71), if_neg (show ¬ (¬ ((((l_X8_takesOrder_24 a1 (r_X8_openMany M) (M, 0, 0) (cntN (fun k => c_X8_takesOrder_24 a1 (r_X8_openMany M) (l_X8_takesOrder_24 a1 (r_X8_openMany M) (M, 0, 0) k)) 7)).2.1) >>> (((wi (l_X8_takesOrder_24 a1 (r_X8_openMany M) (M, 0, 0) (cntN (fun k => c_X8_takesOrder_24 a1 (r_X8_openMany M) (l_X8_takesOrder_24 a1 (r_X8_openMany M) (M, 0, 0) k)) 7)).1 614 (Int32.toNatClampNeg ((l_X8_takesOrder_24 a1 (r_X8_openMany M) (M, 0, 0) (cntN (fun k => c_X8_takesOrder_24 a1 (r_X8_openMany M) (l_X8_takesOrder_24 a1 (r_X8_openMany M) (M, 0, 0) k)) 7)).2.2)) ((a1 >>> (((3 : Int32) * ((l_X8_takesOrder_24 a1 (r_X8_openMany M) (M, 0, 0) (cntN (fun k => c_X8_takesOrder_24 a1 (r_X8_openMany M) (l_X8_takesOrder_24 a1 (r_X8_openMany M) (M, 0, 0) k)) 7)).2.2)) &&& 31)) &&& 7)).1 614 (Int32.toNatClampNeg ((l_X8_takesOrder_24 a1 (r_X8_openMany M) (M, 0, 0) (cntN (fun k => c_X8_takesOrder_24 a1 (r_X8_openMany M) (l_X8_takesOrder_24 a1 (r_X8_openMany M) (M, 0, 0) k)) 7)).2.2))) &&& 31)) &&& 1) = 1) from c86)]; rfl) | rfl
              · unfold w_X8_takesOrder; first | (simp only [if_neg (show ¬ (a1 < 0) from c6), if_pos (show (a1 >>> (((3 : Int32) * (r_X8_openMany M)) &&& 31)) = 0 from c14), if_neg (show ¬ ((r_X8_openMany M) ≤ ((l_X8_takesOrder_24 a1 (r_X8_openMany M) (M, 0, 0) (cntN (fun k => c_X8_takesOrder_24 a1 (r_X8_openMany M) (l_X8_takesOrder_24 a1 (r_X8_openMany M) (M, 0, 0) k)) 7)).2.2)) from c27), if_neg (show ¬ ((b2i (0 ≤ ((wi (l_X8_takesOrder_24 a1 (r_X8_openMany M) (M, 0, 0) (cntN (fun k => c_X8_takesOrder_24 a1 (r_X8_openMany M) (l_X8_takesOrder_24 a1 (r_X8_openMany M) (M, 0, 0) k)) 7)).1 614 (Int32.toNatClampNeg ((l_X8_takesOrder_24 a1 (r_X8_openMany M) (M, 0, 0) (cntN (fun k => c_X8_takesOrder_24 a1 (r_X8_openMany M) (l_X8_takesOrder_24 a1 (r_X8_openMany M) (M, 0, 0) k)) 7)).2.2)) ((a1 >>> (((3 : Int32) * ((l_X8_takesOrder_24 a1 (r_X8_openMany M) (M, 0, 0) (cntN (fun k => c_X8_takesOrder_24 a1 (r_X8_openMany M) (l_X8_takesOrder_24 a1 (r_X8_openMany M) (M, 0, 0) k)) 7)).2.2)) &&& 31)) &&& 7)).1 614 (Int32.toNatClampNeg ((l_X8_takesOrder_24 a1 (r_X8_openMany M) (M, 0, 0) (cntN (fun k => c_X8_takesOrder_24 a1 (r_X8_openMany M) (l_X8_takesOrder_24 a1 (r_X8_openMany M) (M, 0, 0) k)) 7)).2.2))) ∧ ((wi (l_X8_takesOrder_24 a1 (r_X8_openMany M) (M, 0, 0) (cntN (fun k => c_X8_takesOrder_24 a1 (r_X8_openMany M) (l_X8_takesOrder_24 a1 (r_X8_openMany M) (M, 0, 0) k)) 7)).1 614 (Int32.toNatClampNeg ((l_X8_takesOrder_24 a1 (r_X8_openMany M) (M, 0, 0) (cntN (fun k => c_X8_takesOrder_24 a1 (r_X8_openMany M) (l_X8_takesOrder_24 a1 (r_X8_openMany M) (M, 0, 0) k)) 7)).2.2)) ((a1 >>> (((3 : Int32) * ((l_X8_takesOrder_24 a1 (r_X8_openMany M) (M, 0, 0) (cntN (fun k => c_X8_takesOrder_24 a1 (r_X8_openMany M) (l_X8_takesOrder_24 a1 (r_X8_openMany M) (M, 0, 0) k)) 7)).2.2)) &&& 31)) &&& 7)).1 614 (Int32.toNatClampNeg ((l_X8_takesOrder_24 a1 (r_X8_openMany M) (M, 0, 0) (cntN (fun k => c_X8_takesOrder_24 a1 (r_X8_openMany M) (l_X8_takesOrder_24 a1 (r_X8_openMany M) (M, 0, 0) k)) 7)).2.2))) ≤ (wi (l_X8_takesOrder_24 a1 (r_X8_openMany M) (M, 0, 0) (cntN (fun k => c_X8_takesOrder_24 a1 (r_X8_openMany M) (l_X8_takesOrder_24 a1 (r_X8_openMany M) (M, 0, 0) k)) 7)).1 614 (Int32.toNatClampNeg ((l_X8_takesOrder_24 a1 (r_X8_openMany M) (M, 0, 0) (cntN (fun k => c_X8_takesOrder_24 a1 (r_X8_openMany M) (l_X8_takesOrder_24 a1 (r_X8_openMany M) (M, 0, 0) k)) 7)).2.2)) ((a1 >>> (((3 : Int32) * ((l_X8_takesOrder_24 a1 (r_X8_openMany M) (M, 0, 0) (cntN (fun k => c_X8_takesOrder_24 a1 (r_X8_openMany M) (l_X8_takesOrder_24 a1 (r_X8_openMany M) (M, 0, 0) k)) 7)).2.2)) &&& 31)) &&& 7)).1 600 2 - 1)) = 0) from c57), if_neg (show ¬ ((b2i ((wi (l_X8_takesOrder_24 a1 (r_X8_openMany M) (M, 0, 0) (cntN (fun k => c_X8_takesOrder_24 a1 (r_X8_openMany M) (l_X8_takesOrder_24 a1 (r_X8_openMany M) (M, 0, 0) k)) 7)).1 614 (Int32.toNatClampNeg ((l_X8_takesOrder_24 a1 (r_X8_openMany M) (M, 0, 0) (cntN (fun k => c_X8_takesOrder_24 a1 (r_X8_openMany M) (l_X8_takesOrder_24 a1 (r_X8_openMany M) (M, 0, 0) k)) 7)).2.2)) ((a1 >>> (((3 : Int32) * ((l_X8_takesOrder_24 a1 (r_X8_openMany M) (M, 0, 0) (cntN (fun k => c_X8_takesOrder_24 a1 (r_X8_openMany M) (l_X8_takesOrder_24 a1 (r_X8_openMany M) (M, 0, 0) k)) 7)).2.2)) &&& 31)) &&& 7)).1 607 (Int32.toNatClampNeg ((wi (l_X8_takesOrder_24 a1 (r_X8_openMany M) (M, 0, 0) (cntN (fun k => c_X8_takesOrder_24 a1 (r_X8_openMany M) (l_X8_takesOrder_24 a1 (r_X8_openMany M) (M, 0, 0) k)) 7)).1 614 (Int32.toNatClampNeg ((l_X8_takesOrder_24 a1 (r_X8_openMany M) (M, 0, 0) (cntN (fun k => c_X8_takesOrder_24 a1 (r_X8_openMany M) (l_X8_takesOrder_24 a1 (r_X8_openMany M) (M, 0, 0) k)) 7)).2.2)) ((a1 >>> (((3 : Int32) * ((l_X8_takesOrder_24 a1 (r_X8_openMany M) (M, 0, 0) (cntN (fun k => c_X8_takesOrder_24 a1 (r_X8_openMany M) (l_X8_takesOrder_24 a1 (r_X8_openMany M) (M, 0, 0) k)) 7)).2.2)) &&& 31)) &&& 7)).1 600 10 + 9 + ((wi (l_X8_takesOrder_24 a1 (r_X8_openMany M) (M, 0, 0) (cntN (fun k => c_X8_takesOrder_24 a1 (r_X8_openMany M) (l_X8_takesOrder_24 a1 (r_X8_openMany M) (M, 0, 0) k)) 7)).1 614 (Int32.toNatClampNeg ((l_X8_takesOrder_24 a1 (r_X8_openMany M) (M, 0, 0) (cntN (fun k => c_X8_takesOrder_24 a1 (r_X8_openMany M) (l_X8_takesOrder_24 a1 (r_X8_openMany M) (M, 0, 0) k)) 7)).2.2)) ((a1 >>> (((3 : Int32) * ((l_X8_takesOrder_24 a1 (r_X8_openMany M) (M, 0, 0) (cntN (fun k => c_X8_takesOrder_24 a1 (r_X8_openMany M) (l_X8_takesOrder_24 a1 (r_X8_openMany M) (M, 0, 0) k)) 7)).2.2)) &&& 31)) &&& 7)).1 614 (Int32.toNatClampNeg ((l_X8_takesOrder_24 a1 (r_X8_openMany M) (M, 0, 0) (cntN (fun k => c_X8_takesOrder_24 a1 (r_X8_openMany M) (l_X8_takesOrder_24 a1 (r_X8_openMany M) (M, 0, 0) k)) 7)).2.2))))) = 0)) = 0) from c71), if_neg (show ¬ (¬ ((((l_X8_takesOrder_24 a1 (r_X8_openMany M) (M, 0, 0) (cntN (fun k => c_X8_takesOrder_24 a1 (r_X8_openMany M) (l_X8_takesOrder_24 a1 (r_X8_openMany M) (M, 0, 0) k)) 7)).2.1) >>> (((wi (l_X8_takesOrder_24 a1 (r_X8_openMany M) (M, 0, 0) (cntN (fun k => c_X8_takesOrder_24 a1 (r_X8_openMany M) (l_X8_takesOrder_24 a1 (r_X8_openMany M) (M, 0, 0) k)) 7)).1 614 (Int32.toNatClampNeg ((l_X8_takesOrder_24 a1 (r_X8_openMany M) (M, 0, 0) (cntN (fun k => c_X8_takesOrder_24 a1 (r_X8_openMany M) (l_X8_takesOrder_24 a1 (r_X8_openMany M) (M, 0, 0) k)) 7)).2.2)) ((a1 >>> (((3 : Int32) * ((l_X8_takesOrder_24 a1 (r_X8_openMany M) (M, 0, 0) (cntN (fun k => c_X8_takesOrder_24 a1 (r_X8_openMany M) (l_X8_takesOrder_24 a1 (r_X8_openMany M) (M, 0, 0) k)) 7)).2.2)) &&& 31)) &&& 7)).1 614 (Int32.toNatClampNeg ((l_X8_takesOrder_24 a1 (r_X8_openMany M) (M, 0, 0) (cntN (fun k => c_X8_takesOrder_24 a1 (r_X8_openMany M) (l_X8_takesOrder_24 a1 (r_X8_openMany M) (M, 0, 0) k)) 7)).2.2))) &&& 31)) &&& 1) = 1) from c86)]; done) | (simp only [if_neg (show ¬ (a1 < 0) from c6), if_pos (show (a1 >>> (((3 : Int32) * (r_X8_openMany M)) &&& 31)) = 0 from c14), if_neg (show ¬ ((r_X8_openMany M) ≤ ((l_X8_takesOrder_24 a1 (r_X8_openMany M) (M, 0, 0) (cntN (fun k => c_X8_takesOrder_24 a1 (r_X8_openMany M) (l_X8_takesOrder_24 a1 (r_X8_openMany M) (M, 0, 0) k)) 7)).2.2)) from c27), if_neg (show ¬ ((b2i (0 ≤ ((wi (l_X8_takesOrder_24 a1 (r_X8_openMany M) (M, 0, 0) (cntN (fun k => c_X8_takesOrder_24 a1 (r_X8_openMany M) (l_X8_takesOrder_24 a1 (r_X8_openMany M) (M, 0, 0) k)) 7)).1 614 (Int32.toNatClampNeg ((l_X8_takesOrder_24 a1 (r_X8_openMany M) (M, 0, 0) (cntN (fun k => c_X8_takesOrder_24 a1 (r_X8_openMany M) (l_X8_takesOrder_24 a1 (r_X8_openMany M) (M, 0, 0) k)) 7)).2.2)) ((a1 >>> (((3 : Int32) * ((l_X8_takesOrder_24 a1 (r_X8_openMany M) (M, 0, 0) (cntN (fun k => c_X8_takesOrder_24 a1 (r_X8_openMany M) (l_X8_takesOrder_24 a1 (r_X8_openMany M) (M, 0, 0) k)) 7)).2.2)) &&& 31)) &&& 7)).1 614 (Int32.toNatClampNeg ((l_X8_takesOrder_24 a1 (r_X8_openMany M) (M, 0, 0) (cntN (fun k => c_X8_takesOrder_24 a1 (r_X8_openMany M) (l_X8_takesOrder_24 a1 (r_X8_openMany M) (M, 0, 0) k)) 7)).2.2))) ∧ ((wi (l_X8_takesOrder_24 a1 (r_X8_openMany M) (M, 0, 0) (cntN (fun k => c_X8_takesOrder_24 a1 (r_X8_openMany M) (l_X8_takesOrder_24 a1 (r_X8_openMany M) (M, 0, 0) k)) 7)).1 614 (Int32.toNatClampNeg ((l_X8_takesOrder_24 a1 (r_X8_openMany M) (M, 0, 0) (cntN (fun k => c_X8_takesOrder_24 a1 (r_X8_openMany M) (l_X8_takesOrder_24 a1 (r_X8_openMany M) (M, 0, 0) k)) 7)).2.2)) ((a1 >>> (((3 : Int32) * ((l_X8_takesOrder_24 a1 (r_X8_openMany M) (M, 0, 0) (cntN (fun k => c_X8_takesOrder_24 a1 (r_X8_openMany M) (l_X8_takesOrder_24 a1 (r_X8_openMany M) (M, 0, 0) k)) 7)).2.2)) &&& 31)) &&& 7)).1 614 (Int32.toNatClampNeg ((l_X8_takesOrder_24 a1 (r_X8_openMany M) (M, 0, 0) (cntN (fun k => c_X8_takesOrder_24 a1 (r_X8_openMany M) (l_X8_takesOrder_24 a1 (r_X8_openMany M) (M, 0, 0) k)) 7)).2.2))) ≤ (wi (l_X8_takesOrder_24 a1 (r_X8_openMany M) (M, 0, 0) (cntN (fun k => c_X8_takesOrder_24 a1 (r_X8_openMany M) (l_X8_takesOrder_24 a1 (r_X8_openMany M) (M, 0, 0) k)) 7)).1 614 (Int32.toNatClampNeg ((l_X8_takesOrder_24 a1 (r_X8_openMany M) (M, 0, 0) (cntN (fun k => c_X8_takesOrder_24 a1 (r_X8_openMany M) (l_X8_takesOrder_24 a1 (r_X8_openMany M) (M, 0, 0) k)) 7)).2.2)) ((a1 >>> (((3 : Int32) * ((l_X8_takesOrder_24 a1 (r_X8_openMany M) (M, 0, 0) (cntN (fun k => c_X8_takesOrder_24 a1 (r_X8_openMany M) (l_X8_takesOrder_24 a1 (r_X8_openMany M) (M, 0, 0) k)) 7)).2.2)) &&& 31)) &&& 7)).1 600 2 - 1)) = 0) from c57), if_neg (show ¬ ((b2i ((wi (l_X8_takesOrder_24 a1 (r_X8_openMany M) (M, 0, 0) (cntN (fun k => c_X8_takesOrder_24 a1 (r_X8_openMany M) (l_X8_takesOrder_24 a1 (r_X8_openMany M) (M, 0, 0) k)) 7)).1 614 (Int32.toNatClampNeg ((l_X8_takesOrder_24 a1 (r_X8_openMany M) (M, 0, 0) (cntN (fun k => c_X8_takesOrder_24 a1 (r_X8_openMany M) (l_X8_takesOrder_24 a1 (r_X8_openMany M) (M, 0, 0) k)) 7)).2.2)) ((a1 >>> (((3 : Int32) * ((l_X8_takesOrder_24 a1 (r_X8_openMany M) (M, 0, 0) (cntN (fun k => c_X8_takesOrder_24 a1 (r_X8_openMany M) (l_X8_takesOrder_24 a1 (r_X8_openMany M) (M, 0, 0) k)) 7)).2.2)) &&& 31)) &&& 7)).1 607 (Int32.toNatClampNeg ((wi (l_X8_takesOrder_24 a1 (r_X8_openMany M) (M, 0, 0) (cntN (fun k => c_X8_takesOrder_24 a1 (r_X8_openMany M) (l_X8_takesOrder_24 a1 (r_X8_openMany M) (M, 0, 0) k)) 7)).1 614 (Int32.toNatClampNeg ((l_X8_takesOrder_24 a1 (r_X8_openMany M) (M, 0, 0) (cntN (fun k => c_X8_takesOrder_24 a1 (r_X8_openMany M) (l_X8_takesOrder_24 a1 (r_X8_openMany M) (M, 0, 0) k)) 7)).2.2)) ((a1 >>> (((3 : Int32) * ((l_X8_takesOrder_24 a1 (r_X8_openMany M) (M, 0, 0) (cntN (fun k => c_X8_takesOrder_24 a1 (r_X8_openMany M) (l_X8_takesOrder_24 a1 (r_X8_openMany M) (M, 0, 0) k)) 7)).2.2)) &&& 31)) &&& 7)).1 600 10 + 9 + ((wi (l_X8_takesOrder_24 a1 (r_X8_openMany M) (M, 0, 0) (cntN (fun k => c_X8_takesOrder_24 a1 (r_X8_openMany M) (l_X8_takesOrder_24 a1 (r_X8_openMany M) (M, 0, 0) k)) 7)).1 614 (Int32.toNatClampNeg ((l_X8_takesOrder_24 a1 (r_X8_openMany M) (M, 0, 0) (cntN (fun k => c_X8_takesOrder_24 a1 (r_X8_openMany M) (l_X8_takesOrder_24 a1 (r_X8_openMany M) (M, 0, 0) k)) 7)).2.2)) ((a1 >>> (((3 : Int32) * ((l_X8_takesOrder_24 a1 (r_X8_openMany M) (M, 0, 0) (cntN (fun k => c_X8_takesOrder_24 a1 (r_X8_openMany M) (l_X8_takesOrder_24 a1 (r_X8_openMany M) (M, 0, 0) k)) 7)).2.2)) &&& 31)) &&& 7)).1 614 (Int32.toNatClampNeg ((l_X8_takesOrder_24 a1 (r_X8_openMany M) (M, 0, 0) (cntN (fun k => c_X8_takesOrder_24 a1 (r_X8_openMany M) (l_X8_takesOrder_24 a1 (r_X8_openMany M) (M, 0, 0) k)) 7)).2.2))))) = 0)) = 0) from c71), if_neg (show ¬ (¬ ((((l_X8_takesOrder_24 a1 (r_X8_openMany M) (M, 0, 0) (cntN (fun k => c_X8_takesOrder_24 a1 (r_X8_openMany M) (l_X8_takesOrder_24 a1 (r_X8_openMany M) (M, 0, 0) k)) 7)).2.1) >>> (((wi (l_X8_takesOrder_24 a1 (r_X8_openMany M) (M, 0, 0) (cntN (fun k => c_X8_takesOrder_24 a1 (r_X8_openMany M) (l_X8_takesOrder_24 a1 (r_X8_openMany M) (M, 0, 0) k)) 7)).1 614 (Int32.toNatClampNeg ((l_X8_takesOrder_24 a1 (r_X8_openMany M) (M, 0, 0) (cntN (fun k => c_X8_takesOrder_24 a1 (r_X8_openMany M) (l_X8_takesOrder_24 a1 (r_X8_openMany M) (M, 0, 0) k)) 7)).2.2)) ((a1 >>> (((3 : Int32) * ((l_X8_takesOrder_24 a1 (r_X8_openMany M) (M, 0, 0) (cntN (fun k => c_X8_takesOrder_24 a1 (r_X8_openMany M) (l_X8_takesOrder_24 a1 (r_X8_openMany M) (M, 0, 0) k)) 7)).2.2)) &&& 31)) &&& 7)).1 614 (Int32.toNatClampNeg ((l_X8_takesOrder_24 a1 (r_X8_openMany M) (M, 0, 0) (cntN (fun k => c_X8_takesOrder_24 a1 (r_X8_openMany M) (l_X8_takesOrder_24 a1 (r_X8_openMany M) (M, 0, 0) k)) 7)).2.2))) &&& 31)) &&& 1) = 1) from c86)]; rfl) | rfl
    · rw [if_neg (show ¬ ((a1 >>> (((3 : Int32) * (r_X8_openMany M)) &&& 31)) = 0) from c14)] at hp
      refine j_iconst g (n := -1) (-1) (by decide +kernel) rfl ?_
      refine hr.1 _ _ _ _ (by decide +kernel) ⟨_, rfl, by first | rfl | exact b2i_nar | decide +kernel⟩ ?_ ?_
      · unfold r_X8_takesOrder; first | (simp only [if_neg (show ¬ (a1 < 0) from c6), if_neg (show ¬ ((a1 >>> (((3 : Int32) * (r_X8_openMany M)) &&& 31)) = 0) from c14)]; done) | (simp only [if_neg (show ¬ (a1 < 0) from c6), if_neg (show ¬ ((a1 >>> (((3 : Int32) * (r_X8_openMany M)) &&& 31)) = 0) from c14)]; rfl) | rfl
      · unfold w_X8_takesOrder; first | (simp only [if_neg (show ¬ (a1 < 0) from c6), if_neg (show ¬ ((a1 >>> (((3 : Int32) * (r_X8_openMany M)) &&& 31)) = 0) from c14)]; done) | (simp only [if_neg (show ¬ (a1 < 0) from c6), if_neg (show ¬ ((a1 >>> (((3 : Int32) * (r_X8_openMany M)) &&& 31)) = 0) from c14)]; rfl) | rfl
def c_X8_lowest_6 (M : Mm) (a1 : Int64) (a2 : Int64) (σ : Int64 × Int64) : Prop := if (lg_cmp σ.2 0) = 0 then False else True
theorem ci_X8_lowest_6 {M : Mm} {a1 : Int64} {a2 : Int64}  {σ : Int64 × Int64} : c_X8_lowest_6 M a1 a2 σ ↔ (if (lg_cmp σ.2 0) = 0 then False else True) := Iff.rfl
noncomputable def s_X8_lowest_6 (M : Mm) (a1 : Int64) (a2 : Int64) (σ : Int64 × Int64) : Int64 × Int64 := if (lg_cmp σ.2 0) = 0 then σ else (σ.2, σ.1 - σ.1 / σ.2 * σ.2)
def q_X8_lowest_6 (M : Mm) (a1 : Int64) (a2 : Int64) (σ : Int64 × Int64) : Prop := (if (lg_cmp σ.2 0) = 0 then True else (¬ σ.2 = 0) ∧ True)
noncomputable def l_X8_lowest_6 (M : Mm) (a1 : Int64) (a2 : Int64) (σ0 : Int64 × Int64) : Nat → Int64 × Int64 := itN (fun _ σ => s_X8_lowest_6 M a1 a2 σ) σ0
theorem ps_X8_lowest_6 {d : Nat} {J : Nat → Lc → List Value → Mm → Prop} {M : Mm} {a1 : Int64} {a2 : Int64}  {σ : Int64 × Int64}  (g : Good mX8_lowest.1 mX8_lowest.2.2.1 mX8_lowest.2.2.2.1 (d + 0) J) (hc : c_X8_lowest_6 M a1 a2 σ) (hp : q_X8_lowest_6 M a1 a2 σ) (k : ∀ (j9 : Option Value), J 6 [some (.ref 600), some (.long a1), none, some (.long a2), none, some (.long ((s_X8_lowest_6 M a1 a2 σ).1)), none, some (.long ((s_X8_lowest_6 M a1 a2 σ).2)), none, j9, none] [] M) : ∀ (j9 : Option Value), J 6 [some (.ref 600), some (.long a1), none, some (.long a2), none, some (.long σ.1), none, some (.long σ.2), none, j9, none] [] M := by
  intro j9
  unfold c_X8_lowest_6 at hc
  unfold q_X8_lowest_6 at hp
  unfold s_X8_lowest_6 at k
  refine j_lload g (i := 7) (by decide +kernel) rfl ?_
  refine j_lconst g (n := 0) (0) (by decide +kernel) rfl ?_
  refine j_lcmp g (by decide +kernel) ?_
  refine j_if_eq g (off := 21) (tgt := 31) (by decide +kernel) (by decide) (fun c10 => ?_) (fun c10 => ?_)
  · (try rw [if_pos (show (lg_cmp σ.2 0) = 0 from c10)] at hc); (rw [if_pos (show (lg_cmp σ.2 0) = 0 from c10)] at hp); (try simp only [if_pos (show (lg_cmp σ.2 0) = 0 from c10)] at k)
    exact hc.elim
  · (try rw [if_neg (show ¬ ((lg_cmp σ.2 0) = 0) from c10)] at hc); (rw [if_neg (show ¬ ((lg_cmp σ.2 0) = 0) from c10)] at hp); (try simp only [if_neg (show ¬ ((lg_cmp σ.2 0) = 0) from c10)] at k)
    refine j_lload g (i := 5) (by decide +kernel) rfl ?_
    refine j_lload g (i := 7) (by decide +kernel) rfl ?_
    obtain ⟨h0, hp⟩ := hp
    refine j_lrem g (by decide +kernel) h0 ?_
    refine j_lstore g (i := 9) (by decide +kernel) (by decide) ?_
    dsimp only [stL, clL, hdL]
    refine j_lload g (i := 7) (by decide +kernel) rfl ?_
    refine j_lstore g (i := 5) (by decide +kernel) (by decide) ?_
    dsimp only [stL, clL, hdL]
    refine j_lload g (i := 9) (by decide +kernel) rfl ?_
    refine j_lstore g (i := 7) (by decide +kernel) (by decide) ?_
    dsimp only [stL, clL, hdL]
    refine j_goto g (off := -22) (tgt := 6) (by decide +kernel) (by decide) ?_
    exact k _
theorem sh_X8_lowest_6 {d : Nat} {J : Nat → Lc → List Value → Mm → Prop} {M : Mm} {a1 : Int64} {a2 : Int64}  {σ0 : Int64 × Int64}  (g : Good mX8_lowest.1 mX8_lowest.2.2.1 mX8_lowest.2.2.2.1 (d + 0) J) : ∀ (N : Nat), (∀ k, k < N → c_X8_lowest_6 M a1 a2 (l_X8_lowest_6 M a1 a2 σ0 k)) → (∀ k, k < N → q_X8_lowest_6 M a1 a2 (l_X8_lowest_6 M a1 a2 σ0 k)) → (∀ (j9 : Option Value), J 6 [some (.ref 600), some (.long a1), none, some (.long a2), none, some (.long ((l_X8_lowest_6 M a1 a2 σ0 N).1)), none, some (.long ((l_X8_lowest_6 M a1 a2 σ0 N).2)), none, j9, none] [] M) → ∀ (j9 : Option Value), J 6 [some (.ref 600), some (.long a1), none, some (.long a2), none, some (.long σ0.1), none, some (.long σ0.2), none, j9, none] [] M
  | 0, _, _, k => k
  | N + 1, hc, hp, k => sh_X8_lowest_6  g N (fun i hi => hc i (Nat.lt_succ_of_lt hi)) (fun i hi => hp i (Nat.lt_succ_of_lt hi)) (ps_X8_lowest_6  g (hc N (Nat.lt_succ_self N)) (hp N (Nat.lt_succ_self N)) k)
noncomputable def w_X8_lowest (M : Mm) (a1 : Int64) (a2 : Int64) : Mm := if (lg_cmp ((l_X8_lowest_6 M a1 a2 (a1, a2) (cntN (fun k => c_X8_lowest_6 M a1 a2 (l_X8_lowest_6 M a1 a2 (a1, a2) k)) 200)).2) 0) = 0 then (wl (wl M 600 38 (a1 / ((l_X8_lowest_6 M a1 a2 (a1, a2) (cntN (fun k => c_X8_lowest_6 M a1 a2 (l_X8_lowest_6 M a1 a2 (a1, a2) k)) 200)).1))) 600 39 (a2 / ((l_X8_lowest_6 M a1 a2 (a1, a2) (cntN (fun k => c_X8_lowest_6 M a1 a2 (l_X8_lowest_6 M a1 a2 (a1, a2) k)) 200)).1))) else M
def p_X8_lowest (M : Mm) (a1 : Int64) (a2 : Int64) : Prop := (∀ k, k < (cntN (fun k => c_X8_lowest_6 M a1 a2 (l_X8_lowest_6 M a1 a2 (a1, a2) k)) 200) → c_X8_lowest_6 M a1 a2 (l_X8_lowest_6 M a1 a2 (a1, a2) k)) ∧ (∀ k, k < (cntN (fun k => c_X8_lowest_6 M a1 a2 (l_X8_lowest_6 M a1 a2 (a1, a2) k)) 200) → q_X8_lowest_6 M a1 a2 (l_X8_lowest_6 M a1 a2 (a1, a2) k)) ∧ (¬ c_X8_lowest_6 M a1 a2 (l_X8_lowest_6 M a1 a2 (a1, a2) (cntN (fun k => c_X8_lowest_6 M a1 a2 (l_X8_lowest_6 M a1 a2 (a1, a2) k)) 200))) ∧ (if (lg_cmp ((l_X8_lowest_6 M a1 a2 (a1, a2) (cntN (fun k => c_X8_lowest_6 M a1 a2 (l_X8_lowest_6 M a1 a2 (a1, a2) k)) 200)).2) 0) = 0 then (¬ ((l_X8_lowest_6 M a1 a2 (a1, a2) (cntN (fun k => c_X8_lowest_6 M a1 a2 (l_X8_lowest_6 M a1 a2 (a1, a2) k)) 200)).1) = 0) ∧ (¬ ((l_X8_lowest_6 M a1 a2 (a1, a2) (cntN (fun k => c_X8_lowest_6 M a1 a2 (l_X8_lowest_6 M a1 a2 (a1, a2) k)) 200)).1) = 0) ∧ True else (¬ ((l_X8_lowest_6 M a1 a2 (a1, a2) (cntN (fun k => c_X8_lowest_6 M a1 a2 (l_X8_lowest_6 M a1 a2 (a1, a2) k)) 200)).2) = 0) ∧ True)
theorem rnX8_lowest {d : Nat} {M : Mm} {a1 : Int64} {a2 : Int64}  (hp : p_X8_lowest M a1 a2) : Rn (d + 0) mX8_lowest [.ref 600, .long a1, .long a2] M none (w_X8_lowest M a1 a2) := by
  refine Rn.of [some (.ref 600), some (.long a1), none, some (.long a2), none, none, none, none, none, none, none] (by decide +kernel) rfl (Nat.le_of_ble_eq_true rfl) rfl (fun J g hr => ?_)
  unfold p_X8_lowest at hp
  refine j_lload_n g (i := 1) (by decide +kernel) rfl ?_
  refine j_lstore g (i := 5) (by decide +kernel) (by decide) ?_
  dsimp only [stL, clL, hdL]
  refine j_lload_n g (i := 3) (by decide +kernel) rfl ?_
  refine j_lstore g (i := 7) (by decide +kernel) (by decide) ?_
  dsimp only [stL, clL, hdL]
  obtain ⟨h0, hp⟩ := hp
  have hc_6_1 := h0
  obtain ⟨h0, hp⟩ := hp
  have hq_6_1 := h0
  obtain ⟨h0, hp⟩ := hp
  have hx_6_1 := h0
  refine sh_X8_lowest_6   g (σ0 := (a1, a2)) (cntN (fun k => c_X8_lowest_6 M a1 a2 (l_X8_lowest_6 M a1 a2 (a1, a2) k)) 200) hc_6_1 hq_6_1 ?_ _
  intro j9_1
  refine j_lload g (i := 7) (by decide +kernel) rfl ?_
  refine j_lconst g (n := 0) (0) (by decide +kernel) rfl ?_
  refine j_lcmp g (by decide +kernel) ?_
  refine j_if_eq g (off := 21) (tgt := 31) (by decide +kernel) (by decide) (fun c10 => ?_) (fun c10 => ?_)
  · rw [if_pos (show (lg_cmp ((l_X8_lowest_6 M a1 a2 (a1, a2) (cntN (fun k => c_X8_lowest_6 M a1 a2 (l_X8_lowest_6 M a1 a2 (a1, a2) k)) 200)).2) 0) = 0 from c10)] at hp
    refine j_aload_n g (i := 0) (by decide +kernel) rfl ?_
    refine j_lload_n g (i := 1) (by decide +kernel) rfl ?_
    refine j_lload g (i := 5) (by decide +kernel) rfl ?_
    obtain ⟨h0, hp⟩ := hp
    refine j_ldiv g (by decide +kernel) h0 ?_
    refine j_pJ g f8_354 (fun q h => by cases h; rfl) (by decide +kernel) (by decide +kernel) (by decide +kernel) ?_
    refine j_aload_n g (i := 0) (by decide +kernel) rfl ?_
    refine j_lload_n g (i := 3) (by decide +kernel) rfl ?_
    refine j_lload g (i := 5) (by decide +kernel) rfl ?_
    obtain ⟨h0, hp⟩ := hp
    refine j_ldiv g (by decide +kernel) h0 ?_
    refine j_pJ g f8_357 (fun q h => by cases h; rfl) (by decide +kernel) (by decide +kernel) (by decide +kernel) ?_
    refine hr.2.2.2 _ _ _ (by decide +kernel) rfl rfl ?_
    · unfold w_X8_lowest; first | (simp only [if_pos (show (lg_cmp ((l_X8_lowest_6 M a1 a2 (a1, a2) (cntN (fun k => c_X8_lowest_6 M a1 a2 (l_X8_lowest_6 M a1 a2 (a1, a2) k)) 200)).2) 0) = 0 from c10)]; done) | (simp only [if_pos (show (lg_cmp ((l_X8_lowest_6 M a1 a2 (a1, a2) (cntN (fun k => c_X8_lowest_6 M a1 a2 (l_X8_lowest_6 M a1 a2 (a1, a2) k)) 200)).2) 0) = 0 from c10)]; rfl) | rfl
  · rw [if_neg (show ¬ ((lg_cmp ((l_X8_lowest_6 M a1 a2 (a1, a2) (cntN (fun k => c_X8_lowest_6 M a1 a2 (l_X8_lowest_6 M a1 a2 (a1, a2) k)) 200)).2) 0) = 0) from c10)] at hp
    refine j_lload g (i := 5) (by decide +kernel) rfl ?_
    refine j_lload g (i := 7) (by decide +kernel) rfl ?_
    obtain ⟨h0, hp⟩ := hp
    refine j_lrem g (by decide +kernel) h0 ?_
    refine j_lstore g (i := 9) (by decide +kernel) (by decide) ?_
    dsimp only [stL, clL, hdL]
    refine j_lload g (i := 7) (by decide +kernel) rfl ?_
    refine j_lstore g (i := 5) (by decide +kernel) (by decide) ?_
    dsimp only [stL, clL, hdL]
    refine j_lload g (i := 9) (by decide +kernel) rfl ?_
    refine j_lstore g (i := 7) (by decide +kernel) (by decide) ?_
    dsimp only [stL, clL, hdL]
    refine j_goto g (off := -22) (tgt := 6) (by decide +kernel) (by decide) ?_
    refine absurd (ci_X8_lowest_6.mpr ?_) hx_6_1
    simp only [if_neg (show ¬ ((lg_cmp ((l_X8_lowest_6 M a1 a2 (a1, a2) (cntN (fun k => c_X8_lowest_6 M a1 a2 (l_X8_lowest_6 M a1 a2 (a1, a2) k)) 200)).2) 0) = 0) from c10)]
def c_X8_ones_4 (M : Mm) (a1 : Int32) (σ : Int32 × Int32) : Prop := if σ.2 = 0 then False else True
theorem ci_X8_ones_4 {M : Mm} {a1 : Int32}  {σ : Int32 × Int32} : c_X8_ones_4 M a1 σ ↔ (if σ.2 = 0 then False else True) := Iff.rfl
noncomputable def s_X8_ones_4 (M : Mm) (a1 : Int32) (σ : Int32 × Int32) : Int32 × Int32 := if σ.2 = 0 then σ else (σ.1 + 1, σ.2 &&& (σ.2 - 1))
noncomputable def l_X8_ones_4 (M : Mm) (a1 : Int32) (σ0 : Int32 × Int32) : Nat → Int32 × Int32 := itN (fun _ σ => s_X8_ones_4 M a1 σ) σ0
theorem ps_X8_ones_4 {d : Nat} {J : Nat → Lc → List Value → Mm → Prop} {M : Mm} {a1 : Int32}  {σ : Int32 × Int32}  (g : Good mX8_ones.1 mX8_ones.2.2.1 mX8_ones.2.2.2.1 (d + 0) J) (hc : c_X8_ones_4 M a1 σ) (k : J 4 [some (.int a1), some (.int ((s_X8_ones_4 M a1 σ).1)), some (.int ((s_X8_ones_4 M a1 σ).2))] [] M) : J 4 [some (.int a1), some (.int σ.1), some (.int σ.2)] [] M := by
  unfold c_X8_ones_4 at hc
  unfold s_X8_ones_4 at k
  refine j_iload_n g (i := 2) (by decide +kernel) rfl ?_
  refine j_if_eq g (off := 15) (tgt := 20) (by decide +kernel) (by decide) (fun c5 => ?_) (fun c5 => ?_)
  · (try rw [if_pos (show σ.2 = 0 from c5)] at hc); (try simp only [if_pos (show σ.2 = 0 from c5)] at k)
    exact hc.elim
  · (try rw [if_neg (show ¬ (σ.2 = 0) from c5)] at hc); (try simp only [if_neg (show ¬ (σ.2 = 0) from c5)] at k)
    refine j_iinc g (i := 1) (n := 1) (1) (by decide +kernel) rfl (by decide) rfl ?_
    dsimp only [stL, clL, hdL]
    refine j_iload_n g (i := 2) (by decide +kernel) rfl ?_
    refine j_iload_n g (i := 2) (by decide +kernel) rfl ?_
    refine j_iconst g (n := 1) (1) (by decide +kernel) rfl ?_
    refine j_isub g (by decide +kernel) ?_
    refine j_iand g (by decide +kernel) ?_
    refine j_istore_n g (i := 2) (by decide +kernel) (by decide) ?_
    dsimp only [stL, clL, hdL]
    refine j_goto g (off := -13) (tgt := 4) (by decide +kernel) (by decide) ?_
    exact k 
theorem sh_X8_ones_4 {d : Nat} {J : Nat → Lc → List Value → Mm → Prop} {M : Mm} {a1 : Int32}  {σ0 : Int32 × Int32}  (g : Good mX8_ones.1 mX8_ones.2.2.1 mX8_ones.2.2.2.1 (d + 0) J) : ∀ (N : Nat), (∀ k, k < N → c_X8_ones_4 M a1 (l_X8_ones_4 M a1 σ0 k)) → (J 4 [some (.int a1), some (.int ((l_X8_ones_4 M a1 σ0 N).1)), some (.int ((l_X8_ones_4 M a1 σ0 N).2))] [] M) → J 4 [some (.int a1), some (.int σ0.1), some (.int σ0.2)] [] M
  | 0, _, k => k
  | N + 1, hc, k => sh_X8_ones_4  g N (fun i hi => hc i (Nat.lt_succ_of_lt hi)) (ps_X8_ones_4  g (hc N (Nat.lt_succ_self N)) k)
noncomputable def r_X8_ones (M : Mm) (a1 : Int32) : Int32 := if ((l_X8_ones_4 M a1 (0, a1) (cntN (fun k => c_X8_ones_4 M a1 (l_X8_ones_4 M a1 (0, a1) k)) 7)).2) = 0 then (l_X8_ones_4 M a1 (0, a1) (cntN (fun k => c_X8_ones_4 M a1 (l_X8_ones_4 M a1 (0, a1) k)) 7)).1 else 0
def p_X8_ones (M : Mm) (a1 : Int32) : Prop := (∀ k, k < (cntN (fun k => c_X8_ones_4 M a1 (l_X8_ones_4 M a1 (0, a1) k)) 7) → c_X8_ones_4 M a1 (l_X8_ones_4 M a1 (0, a1) k)) ∧ (¬ c_X8_ones_4 M a1 (l_X8_ones_4 M a1 (0, a1) (cntN (fun k => c_X8_ones_4 M a1 (l_X8_ones_4 M a1 (0, a1) k)) 7))) ∧ (if ((l_X8_ones_4 M a1 (0, a1) (cntN (fun k => c_X8_ones_4 M a1 (l_X8_ones_4 M a1 (0, a1) k)) 7)).2) = 0 then True else True)
theorem rnX8_ones {d : Nat} {M : Mm} {a1 : Int32}  (hp : p_X8_ones M a1) : Rn (d + 0) mX8_ones [.int a1] M (some (.int (r_X8_ones M a1))) M := by
  refine Rn.of [some (.int a1), none, none] (by decide +kernel) rfl (Nat.le_of_ble_eq_true rfl) rfl (fun J g hr => ?_)
  unfold p_X8_ones at hp
  refine j_iconst g (n := 0) (0) (by decide +kernel) rfl ?_
  refine j_istore_n g (i := 1) (by decide +kernel) (by decide) ?_
  dsimp only [stL, clL, hdL]
  refine j_iload_n g (i := 0) (by decide +kernel) rfl ?_
  refine j_istore_n g (i := 2) (by decide +kernel) (by decide) ?_
  dsimp only [stL, clL, hdL]
  obtain ⟨h0, hp⟩ := hp
  have hc_4_1 := h0
  obtain ⟨h0, hp⟩ := hp
  have hx_4_1 := h0
  refine sh_X8_ones_4   g (σ0 := (0, a1)) (cntN (fun k => c_X8_ones_4 M a1 (l_X8_ones_4 M a1 (0, a1) k)) 7) hc_4_1  ?_ 
  refine j_iload_n g (i := 2) (by decide +kernel) rfl ?_
  refine j_if_eq g (off := 15) (tgt := 20) (by decide +kernel) (by decide) (fun c5 => ?_) (fun c5 => ?_)
  · rw [if_pos (show ((l_X8_ones_4 M a1 (0, a1) (cntN (fun k => c_X8_ones_4 M a1 (l_X8_ones_4 M a1 (0, a1) k)) 7)).2) = 0 from c5)] at hp
    refine j_iload_n g (i := 1) (by decide +kernel) rfl ?_
    refine hr.1 _ _ _ _ (by decide +kernel) ⟨_, rfl, by first | rfl | exact b2i_nar | decide +kernel⟩ ?_ ?_
    · unfold r_X8_ones; first | (simp only [if_pos (show ((l_X8_ones_4 M a1 (0, a1) (cntN (fun k => c_X8_ones_4 M a1 (l_X8_ones_4 M a1 (0, a1) k)) 7)).2) = 0 from c5)]; done) | (simp only [if_pos (show ((l_X8_ones_4 M a1 (0, a1) (cntN (fun k => c_X8_ones_4 M a1 (l_X8_ones_4 M a1 (0, a1) k)) 7)).2) = 0 from c5)]; rfl) | rfl
    · rfl
  · rw [if_neg (show ¬ (((l_X8_ones_4 M a1 (0, a1) (cntN (fun k => c_X8_ones_4 M a1 (l_X8_ones_4 M a1 (0, a1) k)) 7)).2) = 0) from c5)] at hp
    refine j_iinc g (i := 1) (n := 1) (1) (by decide +kernel) rfl (by decide) rfl ?_
    dsimp only [stL, clL, hdL]
    refine j_iload_n g (i := 2) (by decide +kernel) rfl ?_
    refine j_iload_n g (i := 2) (by decide +kernel) rfl ?_
    refine j_iconst g (n := 1) (1) (by decide +kernel) rfl ?_
    refine j_isub g (by decide +kernel) ?_
    refine j_iand g (by decide +kernel) ?_
    refine j_istore_n g (i := 2) (by decide +kernel) (by decide) ?_
    dsimp only [stL, clL, hdL]
    refine j_goto g (off := -13) (tgt := 4) (by decide +kernel) (by decide) ?_
    refine absurd (ci_X8_ones_4.mpr ?_) hx_4_1
    simp only [if_neg (show ¬ (((l_X8_ones_4 M a1 (0, a1) (cntN (fun k => c_X8_ones_4 M a1 (l_X8_ones_4 M a1 (0, a1) k)) 7)).2) = 0) from c5)]
def c_X8_placeIn_5 (M : Mm) (a1 : Int32) (a2 : Int32) (σ : Int32 × Int32) : Prop := if ((a1 >>> (σ.2 &&& 31)) &&& 1) = 0 then True else if σ.1 ≤ 0 then False else True
theorem ci_X8_placeIn_5 {M : Mm} {a1 : Int32} {a2 : Int32}  {σ : Int32 × Int32} : c_X8_placeIn_5 M a1 a2 σ ↔ (if ((a1 >>> (σ.2 &&& 31)) &&& 1) = 0 then True else if σ.1 ≤ 0 then False else True) := Iff.rfl
noncomputable def s_X8_placeIn_5 (M : Mm) (a1 : Int32) (a2 : Int32) (σ : Int32 × Int32) : Int32 × Int32 := if ((a1 >>> (σ.2 &&& 31)) &&& 1) = 0 then (σ.1 - ((a1 >>> (σ.2 &&& 31)) &&& 1), σ.2 + 1) else if σ.1 ≤ 0 then σ else (σ.1 - ((a1 >>> (σ.2 &&& 31)) &&& 1), σ.2 + 1)
noncomputable def l_X8_placeIn_5 (M : Mm) (a1 : Int32) (a2 : Int32) (σ0 : Int32 × Int32) : Nat → Int32 × Int32 := itN (fun _ σ => s_X8_placeIn_5 M a1 a2 σ) σ0
theorem ps_X8_placeIn_5 {d : Nat} {J : Nat → Lc → List Value → Mm → Prop} {M : Mm} {a1 : Int32} {a2 : Int32}  {σ : Int32 × Int32}  (g : Good mX8_placeIn.1 mX8_placeIn.2.2.1 mX8_placeIn.2.2.2.1 (d + 0) J) (hc : c_X8_placeIn_5 M a1 a2 σ) (k : J 5 [some (.ref 600), some (.int a1), some (.int a2), some (.int ((s_X8_placeIn_5 M a1 a2 σ).1)), some (.int ((s_X8_placeIn_5 M a1 a2 σ).2))] [] M) : J 5 [some (.ref 600), some (.int a1), some (.int a2), some (.int σ.1), some (.int σ.2)] [] M := by
  unfold c_X8_placeIn_5 at hc
  unfold s_X8_placeIn_5 at k
  refine j_iload_n g (i := 1) (by decide +kernel) rfl ?_
  refine j_iload g (i := 4) (by decide +kernel) rfl ?_
  refine j_ishr g (by decide +kernel) ?_
  refine j_iconst g (n := 1) (1) (by decide +kernel) rfl ?_
  refine j_iand g (by decide +kernel) ?_
  refine j_if_eq g (off := 7) (tgt := 18) (by decide +kernel) (by decide) (fun c11 => ?_) (fun c11 => ?_)
  · (try rw [if_pos (show ((a1 >>> (σ.2 &&& 31)) &&& 1) = 0 from c11)] at hc); (try simp only [if_pos (show ((a1 >>> (σ.2 &&& 31)) &&& 1) = 0 from c11)] at k)
    refine j_iload_n g (i := 3) (by decide +kernel) rfl ?_
    refine j_iload_n g (i := 1) (by decide +kernel) rfl ?_
    refine j_iload g (i := 4) (by decide +kernel) rfl ?_
    refine j_ishr g (by decide +kernel) ?_
    refine j_iconst g (n := 1) (1) (by decide +kernel) rfl ?_
    refine j_iand g (by decide +kernel) ?_
    refine j_isub g (by decide +kernel) ?_
    refine j_istore_n g (i := 3) (by decide +kernel) (by decide) ?_
    dsimp only [stL, clL, hdL]
    refine j_iinc g (i := 4) (n := 1) (1) (by decide +kernel) rfl (by decide) rfl ?_
    dsimp only [stL, clL, hdL]
    refine j_goto g (off := -25) (tgt := 5) (by decide +kernel) (by decide) ?_
    exact k 
  · (try rw [if_neg (show ¬ (((a1 >>> (σ.2 &&& 31)) &&& 1) = 0) from c11)] at hc); (try simp only [if_neg (show ¬ (((a1 >>> (σ.2 &&& 31)) &&& 1) = 0) from c11)] at k)
    refine j_iload_n g (i := 3) (by decide +kernel) rfl ?_
    refine j_if_le g (off := 18) (tgt := 33) (by decide +kernel) (by decide) (fun c15 => ?_) (fun c15 => ?_)
    · (try rw [if_pos (show σ.1 ≤ 0 from c15)] at hc); (try simp only [if_pos (show σ.1 ≤ 0 from c15)] at k)
      exact hc.elim
    · (try rw [if_neg (show ¬ (σ.1 ≤ 0) from c15)] at hc); (try simp only [if_neg (show ¬ (σ.1 ≤ 0) from c15)] at k)
      refine j_iload_n g (i := 3) (by decide +kernel) rfl ?_
      refine j_iload_n g (i := 1) (by decide +kernel) rfl ?_
      refine j_iload g (i := 4) (by decide +kernel) rfl ?_
      refine j_ishr g (by decide +kernel) ?_
      refine j_iconst g (n := 1) (1) (by decide +kernel) rfl ?_
      refine j_iand g (by decide +kernel) ?_
      refine j_isub g (by decide +kernel) ?_
      refine j_istore_n g (i := 3) (by decide +kernel) (by decide) ?_
      dsimp only [stL, clL, hdL]
      refine j_iinc g (i := 4) (n := 1) (1) (by decide +kernel) rfl (by decide) rfl ?_
      dsimp only [stL, clL, hdL]
      refine j_goto g (off := -25) (tgt := 5) (by decide +kernel) (by decide) ?_
      exact k 
theorem sh_X8_placeIn_5 {d : Nat} {J : Nat → Lc → List Value → Mm → Prop} {M : Mm} {a1 : Int32} {a2 : Int32}  {σ0 : Int32 × Int32}  (g : Good mX8_placeIn.1 mX8_placeIn.2.2.1 mX8_placeIn.2.2.2.1 (d + 0) J) : ∀ (N : Nat), (∀ k, k < N → c_X8_placeIn_5 M a1 a2 (l_X8_placeIn_5 M a1 a2 σ0 k)) → (J 5 [some (.ref 600), some (.int a1), some (.int a2), some (.int ((l_X8_placeIn_5 M a1 a2 σ0 N).1)), some (.int ((l_X8_placeIn_5 M a1 a2 σ0 N).2))] [] M) → J 5 [some (.ref 600), some (.int a1), some (.int a2), some (.int σ0.1), some (.int σ0.2)] [] M
  | 0, _, k => k
  | N + 1, hc, k => sh_X8_placeIn_5  g N (fun i hi => hc i (Nat.lt_succ_of_lt hi)) (ps_X8_placeIn_5  g (hc N (Nat.lt_succ_self N)) k)
noncomputable def r_X8_placeIn (M : Mm) (a1 : Int32) (a2 : Int32) : Int32 := if ((a1 >>> (((l_X8_placeIn_5 M a1 a2 (a2, 0) (cntN (fun k => c_X8_placeIn_5 M a1 a2 (l_X8_placeIn_5 M a1 a2 (a2, 0) k)) 7)).2) &&& 31)) &&& 1) = 0 then 0 else if ((l_X8_placeIn_5 M a1 a2 (a2, 0) (cntN (fun k => c_X8_placeIn_5 M a1 a2 (l_X8_placeIn_5 M a1 a2 (a2, 0) k)) 7)).1) ≤ 0 then (l_X8_placeIn_5 M a1 a2 (a2, 0) (cntN (fun k => c_X8_placeIn_5 M a1 a2 (l_X8_placeIn_5 M a1 a2 (a2, 0) k)) 7)).2 else 0
def p_X8_placeIn (M : Mm) (a1 : Int32) (a2 : Int32) : Prop := (∀ k, k < (cntN (fun k => c_X8_placeIn_5 M a1 a2 (l_X8_placeIn_5 M a1 a2 (a2, 0) k)) 7) → c_X8_placeIn_5 M a1 a2 (l_X8_placeIn_5 M a1 a2 (a2, 0) k)) ∧ (¬ c_X8_placeIn_5 M a1 a2 (l_X8_placeIn_5 M a1 a2 (a2, 0) (cntN (fun k => c_X8_placeIn_5 M a1 a2 (l_X8_placeIn_5 M a1 a2 (a2, 0) k)) 7))) ∧ (if ((a1 >>> (((l_X8_placeIn_5 M a1 a2 (a2, 0) (cntN (fun k => c_X8_placeIn_5 M a1 a2 (l_X8_placeIn_5 M a1 a2 (a2, 0) k)) 7)).2) &&& 31)) &&& 1) = 0 then True else (if ((l_X8_placeIn_5 M a1 a2 (a2, 0) (cntN (fun k => c_X8_placeIn_5 M a1 a2 (l_X8_placeIn_5 M a1 a2 (a2, 0) k)) 7)).1) ≤ 0 then True else True))
theorem rnX8_placeIn {d : Nat} {M : Mm} {a1 : Int32} {a2 : Int32}  (hp : p_X8_placeIn M a1 a2) : Rn (d + 0) mX8_placeIn [.ref 600, .int a1, .int a2] M (some (.int (r_X8_placeIn M a1 a2))) M := by
  refine Rn.of [some (.ref 600), some (.int a1), some (.int a2), none, none] (by decide +kernel) rfl (Nat.le_of_ble_eq_true rfl) rfl (fun J g hr => ?_)
  unfold p_X8_placeIn at hp
  refine j_iload_n g (i := 2) (by decide +kernel) rfl ?_
  refine j_istore_n g (i := 3) (by decide +kernel) (by decide) ?_
  dsimp only [stL, clL, hdL]
  refine j_iconst g (n := 0) (0) (by decide +kernel) rfl ?_
  refine j_istore g (i := 4) (by decide +kernel) (by decide) ?_
  dsimp only [stL, clL, hdL]
  obtain ⟨h0, hp⟩ := hp
  have hc_5_1 := h0
  obtain ⟨h0, hp⟩ := hp
  have hx_5_1 := h0
  refine sh_X8_placeIn_5   g (σ0 := (a2, 0)) (cntN (fun k => c_X8_placeIn_5 M a1 a2 (l_X8_placeIn_5 M a1 a2 (a2, 0) k)) 7) hc_5_1  ?_ 
  refine j_iload_n g (i := 1) (by decide +kernel) rfl ?_
  refine j_iload g (i := 4) (by decide +kernel) rfl ?_
  refine j_ishr g (by decide +kernel) ?_
  refine j_iconst g (n := 1) (1) (by decide +kernel) rfl ?_
  refine j_iand g (by decide +kernel) ?_
  refine j_if_eq g (off := 7) (tgt := 18) (by decide +kernel) (by decide) (fun c11 => ?_) (fun c11 => ?_)
  · rw [if_pos (show ((a1 >>> (((l_X8_placeIn_5 M a1 a2 (a2, 0) (cntN (fun k => c_X8_placeIn_5 M a1 a2 (l_X8_placeIn_5 M a1 a2 (a2, 0) k)) 7)).2) &&& 31)) &&& 1) = 0 from c11)] at hp
    refine j_iload_n g (i := 3) (by decide +kernel) rfl ?_
    refine j_iload_n g (i := 1) (by decide +kernel) rfl ?_
    refine j_iload g (i := 4) (by decide +kernel) rfl ?_
    refine j_ishr g (by decide +kernel) ?_
    refine j_iconst g (n := 1) (1) (by decide +kernel) rfl ?_
    refine j_iand g (by decide +kernel) ?_
    refine j_isub g (by decide +kernel) ?_
    refine j_istore_n g (i := 3) (by decide +kernel) (by decide) ?_
    dsimp only [stL, clL, hdL]
    refine j_iinc g (i := 4) (n := 1) (1) (by decide +kernel) rfl (by decide) rfl ?_
    dsimp only [stL, clL, hdL]
    refine j_goto g (off := -25) (tgt := 5) (by decide +kernel) (by decide) ?_
    refine absurd (ci_X8_placeIn_5.mpr ?_) hx_5_1
    simp only [if_pos (show ((a1 >>> (((l_X8_placeIn_5 M a1 a2 (a2, 0) (cntN (fun k => c_X8_placeIn_5 M a1 a2 (l_X8_placeIn_5 M a1 a2 (a2, 0) k)) 7)).2) &&& 31)) &&& 1) = 0 from c11)]
  · rw [if_neg (show ¬ (((a1 >>> (((l_X8_placeIn_5 M a1 a2 (a2, 0) (cntN (fun k => c_X8_placeIn_5 M a1 a2 (l_X8_placeIn_5 M a1 a2 (a2, 0) k)) 7)).2) &&& 31)) &&& 1) = 0) from c11)] at hp
    refine j_iload_n g (i := 3) (by decide +kernel) rfl ?_
    refine j_if_le g (off := 18) (tgt := 33) (by decide +kernel) (by decide) (fun c15 => ?_) (fun c15 => ?_)
    · rw [if_pos (show ((l_X8_placeIn_5 M a1 a2 (a2, 0) (cntN (fun k => c_X8_placeIn_5 M a1 a2 (l_X8_placeIn_5 M a1 a2 (a2, 0) k)) 7)).1) ≤ 0 from c15)] at hp
      refine j_iload g (i := 4) (by decide +kernel) rfl ?_
      refine hr.1 _ _ _ _ (by decide +kernel) ⟨_, rfl, by first | rfl | exact b2i_nar | decide +kernel⟩ ?_ ?_
      · unfold r_X8_placeIn; first | (simp only [if_neg (show ¬ (((a1 >>> (((l_X8_placeIn_5 M a1 a2 (a2, 0) (cntN (fun k => c_X8_placeIn_5 M a1 a2 (l_X8_placeIn_5 M a1 a2 (a2, 0) k)) 7)).2) &&& 31)) &&& 1) = 0) from c11), if_pos (show ((l_X8_placeIn_5 M a1 a2 (a2, 0) (cntN (fun k => c_X8_placeIn_5 M a1 a2 (l_X8_placeIn_5 M a1 a2 (a2, 0) k)) 7)).1) ≤ 0 from c15)]; done) | (simp only [if_neg (show ¬ (((a1 >>> (((l_X8_placeIn_5 M a1 a2 (a2, 0) (cntN (fun k => c_X8_placeIn_5 M a1 a2 (l_X8_placeIn_5 M a1 a2 (a2, 0) k)) 7)).2) &&& 31)) &&& 1) = 0) from c11), if_pos (show ((l_X8_placeIn_5 M a1 a2 (a2, 0) (cntN (fun k => c_X8_placeIn_5 M a1 a2 (l_X8_placeIn_5 M a1 a2 (a2, 0) k)) 7)).1) ≤ 0 from c15)]; rfl) | rfl
      · rfl
    · rw [if_neg (show ¬ (((l_X8_placeIn_5 M a1 a2 (a2, 0) (cntN (fun k => c_X8_placeIn_5 M a1 a2 (l_X8_placeIn_5 M a1 a2 (a2, 0) k)) 7)).1) ≤ 0) from c15)] at hp
      refine j_iload_n g (i := 3) (by decide +kernel) rfl ?_
      refine j_iload_n g (i := 1) (by decide +kernel) rfl ?_
      refine j_iload g (i := 4) (by decide +kernel) rfl ?_
      refine j_ishr g (by decide +kernel) ?_
      refine j_iconst g (n := 1) (1) (by decide +kernel) rfl ?_
      refine j_iand g (by decide +kernel) ?_
      refine j_isub g (by decide +kernel) ?_
      refine j_istore_n g (i := 3) (by decide +kernel) (by decide) ?_
      dsimp only [stL, clL, hdL]
      refine j_iinc g (i := 4) (n := 1) (1) (by decide +kernel) rfl (by decide) rfl ?_
      dsimp only [stL, clL, hdL]
      refine j_goto g (off := -25) (tgt := 5) (by decide +kernel) (by decide) ?_
      refine absurd (ci_X8_placeIn_5.mpr ?_) hx_5_1
      simp only [if_neg (show ¬ (((a1 >>> (((l_X8_placeIn_5 M a1 a2 (a2, 0) (cntN (fun k => c_X8_placeIn_5 M a1 a2 (l_X8_placeIn_5 M a1 a2 (a2, 0) k)) 7)).2) &&& 31)) &&& 1) = 0) from c11), if_neg (show ¬ (((l_X8_placeIn_5 M a1 a2 (a2, 0) (cntN (fun k => c_X8_placeIn_5 M a1 a2 (l_X8_placeIn_5 M a1 a2 (a2, 0) k)) 7)).1) ≤ 0) from c15)]
def c_X8_firstFrom_7 (M : Mm) (a1 : Int32) (a2 : Int32) (σ : Int32) : Prop := if ¬ ((a1 >>> (σ &&& 31)) &&& 1) = 0 then False else True
theorem ci_X8_firstFrom_7 {M : Mm} {a1 : Int32} {a2 : Int32}  {σ : Int32} : c_X8_firstFrom_7 M a1 a2 σ ↔ (if ¬ ((a1 >>> (σ &&& 31)) &&& 1) = 0 then False else True) := Iff.rfl
noncomputable def s_X8_firstFrom_7 (M : Mm) (a1 : Int32) (a2 : Int32) (σ : Int32) : Int32 := if ¬ ((a1 >>> (σ &&& 31)) &&& 1) = 0 then σ else ((σ + 1) - (σ + 1) / (M.1 600 2) * (M.1 600 2))
def q_X8_firstFrom_7 (M : Mm) (a1 : Int32) (a2 : Int32) (σ : Int32) : Prop := (if ¬ ((a1 >>> (σ &&& 31)) &&& 1) = 0 then True else (¬ (M.1 600 2) = 0) ∧ True)
noncomputable def l_X8_firstFrom_7 (M : Mm) (a1 : Int32) (a2 : Int32) (σ0 : Int32) : Nat → Int32 := itN (fun _ σ => s_X8_firstFrom_7 M a1 a2 σ) σ0
theorem ps_X8_firstFrom_7 {d : Nat} {J : Nat → Lc → List Value → Mm → Prop} {M : Mm} {a1 : Int32} {a2 : Int32}  {σ : Int32}  (g : Good mX8_firstFrom.1 mX8_firstFrom.2.2.1 mX8_firstFrom.2.2.2.1 (d + 0) J) (hc : c_X8_firstFrom_7 M a1 a2 σ) (hp : q_X8_firstFrom_7 M a1 a2 σ) (k : J 7 [some (.ref 600), some (.int a1), some (.int a2), some (.int (s_X8_firstFrom_7 M a1 a2 σ))] [] M) : J 7 [some (.ref 600), some (.int a1), some (.int a2), some (.int σ)] [] M := by
  unfold c_X8_firstFrom_7 at hc
  unfold q_X8_firstFrom_7 at hp
  unfold s_X8_firstFrom_7 at k
  refine j_iload_n g (i := 1) (by decide +kernel) rfl ?_
  refine j_iload_n g (i := 3) (by decide +kernel) rfl ?_
  refine j_ishr g (by decide +kernel) ?_
  refine j_iconst g (n := 1) (1) (by decide +kernel) rfl ?_
  refine j_iand g (by decide +kernel) ?_
  refine j_if_ne g (off := 15) (tgt := 27) (by decide +kernel) (by decide) (fun c12 => ?_) (fun c12 => ?_)
  · (try rw [if_pos (show ¬ ((a1 >>> (σ &&& 31)) &&& 1) = 0 from c12)] at hc); (rw [if_pos (show ¬ ((a1 >>> (σ &&& 31)) &&& 1) = 0 from c12)] at hp); (try simp only [if_pos (show ¬ ((a1 >>> (σ &&& 31)) &&& 1) = 0 from c12)] at k)
    exact hc.elim
  · (try rw [if_neg (show ¬ (¬ ((a1 >>> (σ &&& 31)) &&& 1) = 0) from c12)] at hc); (rw [if_neg (show ¬ (¬ ((a1 >>> (σ &&& 31)) &&& 1) = 0) from c12)] at hp); (try simp only [if_neg (show ¬ (¬ ((a1 >>> (σ &&& 31)) &&& 1) = 0) from c12)] at k)
    refine j_iload_n g (i := 3) (by decide +kernel) rfl ?_
    refine j_iconst g (n := 1) (1) (by decide +kernel) rfl ?_
    refine j_iadd g (by decide +kernel) ?_
    refine j_aload_n g (i := 0) (by decide +kernel) rfl ?_
    refine j_gI g f8_99 (by decide +kernel) (by decide +kernel) (by decide +kernel) ?_
    obtain ⟨h0, hp⟩ := hp
    refine j_irem g (by decide +kernel) h0 ?_
    refine j_istore_n g (i := 3) (by decide +kernel) (by decide) ?_
    dsimp only [stL, clL, hdL]
    refine j_goto g (off := -17) (tgt := 7) (by decide +kernel) (by decide) ?_
    exact k 
theorem sh_X8_firstFrom_7 {d : Nat} {J : Nat → Lc → List Value → Mm → Prop} {M : Mm} {a1 : Int32} {a2 : Int32}  {σ0 : Int32}  (g : Good mX8_firstFrom.1 mX8_firstFrom.2.2.1 mX8_firstFrom.2.2.2.1 (d + 0) J) : ∀ (N : Nat), (∀ k, k < N → c_X8_firstFrom_7 M a1 a2 (l_X8_firstFrom_7 M a1 a2 σ0 k)) → (∀ k, k < N → q_X8_firstFrom_7 M a1 a2 (l_X8_firstFrom_7 M a1 a2 σ0 k)) → (J 7 [some (.ref 600), some (.int a1), some (.int a2), some (.int (l_X8_firstFrom_7 M a1 a2 σ0 N))] [] M) → J 7 [some (.ref 600), some (.int a1), some (.int a2), some (.int σ0)] [] M
  | 0, _, _, k => k
  | N + 1, hc, hp, k => sh_X8_firstFrom_7  g N (fun i hi => hc i (Nat.lt_succ_of_lt hi)) (fun i hi => hp i (Nat.lt_succ_of_lt hi)) (ps_X8_firstFrom_7  g (hc N (Nat.lt_succ_self N)) (hp N (Nat.lt_succ_self N)) k)
noncomputable def r_X8_firstFrom (M : Mm) (a1 : Int32) (a2 : Int32) : Int32 := if ¬ ((a1 >>> ((l_X8_firstFrom_7 M a1 a2 (a2 - a2 / (M.1 600 2) * (M.1 600 2)) (cntN (fun k => c_X8_firstFrom_7 M a1 a2 (l_X8_firstFrom_7 M a1 a2 (a2 - a2 / (M.1 600 2) * (M.1 600 2)) k)) 7)) &&& 31)) &&& 1) = 0 then (l_X8_firstFrom_7 M a1 a2 (a2 - a2 / (M.1 600 2) * (M.1 600 2)) (cntN (fun k => c_X8_firstFrom_7 M a1 a2 (l_X8_firstFrom_7 M a1 a2 (a2 - a2 / (M.1 600 2) * (M.1 600 2)) k)) 7)) else 0
def p_X8_firstFrom (M : Mm) (a1 : Int32) (a2 : Int32) : Prop := (¬ (M.1 600 2) = 0) ∧ (∀ k, k < (cntN (fun k => c_X8_firstFrom_7 M a1 a2 (l_X8_firstFrom_7 M a1 a2 (a2 - a2 / (M.1 600 2) * (M.1 600 2)) k)) 7) → c_X8_firstFrom_7 M a1 a2 (l_X8_firstFrom_7 M a1 a2 (a2 - a2 / (M.1 600 2) * (M.1 600 2)) k)) ∧ (∀ k, k < (cntN (fun k => c_X8_firstFrom_7 M a1 a2 (l_X8_firstFrom_7 M a1 a2 (a2 - a2 / (M.1 600 2) * (M.1 600 2)) k)) 7) → q_X8_firstFrom_7 M a1 a2 (l_X8_firstFrom_7 M a1 a2 (a2 - a2 / (M.1 600 2) * (M.1 600 2)) k)) ∧ (¬ c_X8_firstFrom_7 M a1 a2 (l_X8_firstFrom_7 M a1 a2 (a2 - a2 / (M.1 600 2) * (M.1 600 2)) (cntN (fun k => c_X8_firstFrom_7 M a1 a2 (l_X8_firstFrom_7 M a1 a2 (a2 - a2 / (M.1 600 2) * (M.1 600 2)) k)) 7))) ∧ (if ¬ ((a1 >>> ((l_X8_firstFrom_7 M a1 a2 (a2 - a2 / (M.1 600 2) * (M.1 600 2)) (cntN (fun k => c_X8_firstFrom_7 M a1 a2 (l_X8_firstFrom_7 M a1 a2 (a2 - a2 / (M.1 600 2) * (M.1 600 2)) k)) 7)) &&& 31)) &&& 1) = 0 then True else (¬ (M.1 600 2) = 0) ∧ True)
theorem rnX8_firstFrom {d : Nat} {M : Mm} {a1 : Int32} {a2 : Int32}  (hp : p_X8_firstFrom M a1 a2) : Rn (d + 0) mX8_firstFrom [.ref 600, .int a1, .int a2] M (some (.int (r_X8_firstFrom M a1 a2))) M := by
  refine Rn.of [some (.ref 600), some (.int a1), some (.int a2), none] (by decide +kernel) rfl (Nat.le_of_ble_eq_true rfl) rfl (fun J g hr => ?_)
  unfold p_X8_firstFrom at hp
  refine j_iload_n g (i := 2) (by decide +kernel) rfl ?_
  refine j_aload_n g (i := 0) (by decide +kernel) rfl ?_
  refine j_gI g f8_99 (by decide +kernel) (by decide +kernel) (by decide +kernel) ?_
  obtain ⟨h0, hp⟩ := hp
  refine j_irem g (by decide +kernel) h0 ?_
  refine j_istore_n g (i := 3) (by decide +kernel) (by decide) ?_
  dsimp only [stL, clL, hdL]
  obtain ⟨h0, hp⟩ := hp
  have hc_7_1 := h0
  obtain ⟨h0, hp⟩ := hp
  have hq_7_1 := h0
  obtain ⟨h0, hp⟩ := hp
  have hx_7_1 := h0
  refine sh_X8_firstFrom_7   g (σ0 := (a2 - a2 / (M.1 600 2) * (M.1 600 2))) (cntN (fun k => c_X8_firstFrom_7 M a1 a2 (l_X8_firstFrom_7 M a1 a2 (a2 - a2 / (M.1 600 2) * (M.1 600 2)) k)) 7) hc_7_1 hq_7_1 ?_ 
  refine j_iload_n g (i := 1) (by decide +kernel) rfl ?_
  refine j_iload_n g (i := 3) (by decide +kernel) rfl ?_
  refine j_ishr g (by decide +kernel) ?_
  refine j_iconst g (n := 1) (1) (by decide +kernel) rfl ?_
  refine j_iand g (by decide +kernel) ?_
  refine j_if_ne g (off := 15) (tgt := 27) (by decide +kernel) (by decide) (fun c12 => ?_) (fun c12 => ?_)
  · rw [if_pos (show ¬ ((a1 >>> ((l_X8_firstFrom_7 M a1 a2 (a2 - a2 / (M.1 600 2) * (M.1 600 2)) (cntN (fun k => c_X8_firstFrom_7 M a1 a2 (l_X8_firstFrom_7 M a1 a2 (a2 - a2 / (M.1 600 2) * (M.1 600 2)) k)) 7)) &&& 31)) &&& 1) = 0 from c12)] at hp
    refine j_iload_n g (i := 3) (by decide +kernel) rfl ?_
    refine hr.1 _ _ _ _ (by decide +kernel) ⟨_, rfl, by first | rfl | exact b2i_nar | decide +kernel⟩ ?_ ?_
    · unfold r_X8_firstFrom; first | (simp only [if_pos (show ¬ ((a1 >>> ((l_X8_firstFrom_7 M a1 a2 (a2 - a2 / (M.1 600 2) * (M.1 600 2)) (cntN (fun k => c_X8_firstFrom_7 M a1 a2 (l_X8_firstFrom_7 M a1 a2 (a2 - a2 / (M.1 600 2) * (M.1 600 2)) k)) 7)) &&& 31)) &&& 1) = 0 from c12)]; done) | (simp only [if_pos (show ¬ ((a1 >>> ((l_X8_firstFrom_7 M a1 a2 (a2 - a2 / (M.1 600 2) * (M.1 600 2)) (cntN (fun k => c_X8_firstFrom_7 M a1 a2 (l_X8_firstFrom_7 M a1 a2 (a2 - a2 / (M.1 600 2) * (M.1 600 2)) k)) 7)) &&& 31)) &&& 1) = 0 from c12)]; rfl) | rfl
    · rfl
  · rw [if_neg (show ¬ (¬ ((a1 >>> ((l_X8_firstFrom_7 M a1 a2 (a2 - a2 / (M.1 600 2) * (M.1 600 2)) (cntN (fun k => c_X8_firstFrom_7 M a1 a2 (l_X8_firstFrom_7 M a1 a2 (a2 - a2 / (M.1 600 2) * (M.1 600 2)) k)) 7)) &&& 31)) &&& 1) = 0) from c12)] at hp
    refine j_iload_n g (i := 3) (by decide +kernel) rfl ?_
    refine j_iconst g (n := 1) (1) (by decide +kernel) rfl ?_
    refine j_iadd g (by decide +kernel) ?_
    refine j_aload_n g (i := 0) (by decide +kernel) rfl ?_
    refine j_gI g f8_99 (by decide +kernel) (by decide +kernel) (by decide +kernel) ?_
    obtain ⟨h0, hp⟩ := hp
    refine j_irem g (by decide +kernel) h0 ?_
    refine j_istore_n g (i := 3) (by decide +kernel) (by decide) ?_
    dsimp only [stL, clL, hdL]
    refine j_goto g (off := -17) (tgt := 7) (by decide +kernel) (by decide) ?_
    refine absurd (ci_X8_firstFrom_7.mpr ?_) hx_7_1
    simp only [if_neg (show ¬ (¬ ((a1 >>> ((l_X8_firstFrom_7 M a1 a2 (a2 - a2 / (M.1 600 2) * (M.1 600 2)) (cntN (fun k => c_X8_firstFrom_7 M a1 a2 (l_X8_firstFrom_7 M a1 a2 (a2 - a2 / (M.1 600 2) * (M.1 600 2)) k)) 7)) &&& 31)) &&& 1) = 0) from c12)]
def c_X8_soonestOf_7 (a1 : Int32) (σ : Mm × Int32 × Int32 × Int32) : Prop := if (σ.1.1 600 2) ≤ σ.2.2.2 then False else True
theorem ci_X8_soonestOf_7 {a1 : Int32}  {σ : Mm × Int32 × Int32 × Int32} : c_X8_soonestOf_7 a1 σ ↔ (if (σ.1.1 600 2) ≤ σ.2.2.2 then False else True) := Iff.rfl
noncomputable def s_X8_soonestOf_7 (a1 : Int32) (σ : Mm × Int32 × Int32 × Int32) : Mm × Int32 × Int32 × Int32 := if (σ.1.1 600 2) ≤ σ.2.2.2 then σ else if ¬ ((a1 >>> (σ.2.2.2 &&& 31)) &&& 1) = 1 then (σ.1, σ.2.1, σ.2.2.1, σ.2.2.2 + 1) else if σ.2.1 < 0 then ((w_X8_minutesOf σ.1 σ.2.2.2), σ.2.2.2, r_X8_minutesOf σ.1 σ.2.2.2, σ.2.2.2 + 1) else if σ.2.2.1 ≤ (r_X8_minutesOf σ.1 σ.2.2.2) then ((w_X8_minutesOf σ.1 σ.2.2.2), σ.2.1, σ.2.2.1, σ.2.2.2 + 1) else ((w_X8_minutesOf (w_X8_minutesOf σ.1 σ.2.2.2) σ.2.2.2), σ.2.2.2, r_X8_minutesOf (w_X8_minutesOf σ.1 σ.2.2.2) σ.2.2.2, σ.2.2.2 + 1)
def q_X8_soonestOf_7 (a1 : Int32) (σ : Mm × Int32 × Int32 × Int32) : Prop := (if (σ.1.1 600 2) ≤ σ.2.2.2 then True else (if ¬ ((a1 >>> (σ.2.2.2 &&& 31)) &&& 1) = 1 then True else (if σ.2.1 < 0 then (p_X8_minutesOf σ.1 σ.2.2.2) ∧ True else (p_X8_minutesOf σ.1 σ.2.2.2) ∧ (if σ.2.2.1 ≤ (r_X8_minutesOf σ.1 σ.2.2.2) then True else (p_X8_minutesOf (w_X8_minutesOf σ.1 σ.2.2.2) σ.2.2.2) ∧ True))))
noncomputable def l_X8_soonestOf_7 (a1 : Int32) (σ0 : Mm × Int32 × Int32 × Int32) : Nat → Mm × Int32 × Int32 × Int32 := itN (fun _ σ => s_X8_soonestOf_7 a1 σ) σ0
theorem ps_X8_soonestOf_7 {d : Nat} {J : Nat → Lc → List Value → Mm → Prop} {a1 : Int32}  {σ : Mm × Int32 × Int32 × Int32}  (g : Good mX8_soonestOf.1 mX8_soonestOf.2.2.1 mX8_soonestOf.2.2.2.1 (d + 5) J) (hc : c_X8_soonestOf_7 a1 σ) (hp : q_X8_soonestOf_7 a1 σ) (k : J 7 [some (.ref 600), some (.int a1), some (.int ((s_X8_soonestOf_7 a1 σ).2.1)), some (.int ((s_X8_soonestOf_7 a1 σ).2.2.1)), some (.int ((s_X8_soonestOf_7 a1 σ).2.2.2))] [] ((s_X8_soonestOf_7 a1 σ).1)) : J 7 [some (.ref 600), some (.int a1), some (.int σ.2.1), some (.int σ.2.2.1), some (.int σ.2.2.2)] [] σ.1 := by
  unfold c_X8_soonestOf_7 at hc
  unfold q_X8_soonestOf_7 at hp
  unfold s_X8_soonestOf_7 at k
  refine j_iload g (i := 4) (by decide +kernel) rfl ?_
  refine j_aload_n g (i := 0) (by decide +kernel) rfl ?_
  refine j_gI g f8_99 (by decide +kernel) (by decide +kernel) (by decide +kernel) ?_
  refine j_icmp_ge g (off := 43) (tgt := 56) (by decide +kernel) (by decide) (fun c13 => ?_) (fun c13 => ?_)
  · (try rw [if_pos (show (σ.1.1 600 2) ≤ σ.2.2.2 from c13)] at hc); (rw [if_pos (show (σ.1.1 600 2) ≤ σ.2.2.2 from c13)] at hp); (try simp only [if_pos (show (σ.1.1 600 2) ≤ σ.2.2.2 from c13)] at k)
    exact hc.elim
  · (try rw [if_neg (show ¬ ((σ.1.1 600 2) ≤ σ.2.2.2) from c13)] at hc); (rw [if_neg (show ¬ ((σ.1.1 600 2) ≤ σ.2.2.2) from c13)] at hp); (try simp only [if_neg (show ¬ ((σ.1.1 600 2) ≤ σ.2.2.2) from c13)] at k)
    refine j_iload_n g (i := 1) (by decide +kernel) rfl ?_
    refine j_iload g (i := 4) (by decide +kernel) rfl ?_
    refine j_ishr g (by decide +kernel) ?_
    refine j_iconst g (n := 1) (1) (by decide +kernel) rfl ?_
    refine j_iand g (by decide +kernel) ?_
    refine j_iconst g (n := 1) (1) (by decide +kernel) rfl ?_
    refine j_icmp_ne g (off := 27) (tgt := 50) (by decide +kernel) (by decide) (fun c23 => ?_) (fun c23 => ?_)
    · (try rw [if_pos (show ¬ ((a1 >>> (σ.2.2.2 &&& 31)) &&& 1) = 1 from c23)] at hc); (rw [if_pos (show ¬ ((a1 >>> (σ.2.2.2 &&& 31)) &&& 1) = 1 from c23)] at hp); (try simp only [if_pos (show ¬ ((a1 >>> (σ.2.2.2 &&& 31)) &&& 1) = 1 from c23)] at k)
      refine j_iinc g (i := 4) (n := 1) (1) (by decide +kernel) rfl (by decide) rfl ?_
      dsimp only [stL, clL, hdL]
      refine j_goto g (off := -46) (tgt := 7) (by decide +kernel) (by decide) ?_
      exact k 
    · (try rw [if_neg (show ¬ (¬ ((a1 >>> (σ.2.2.2 &&& 31)) &&& 1) = 1) from c23)] at hc); (rw [if_neg (show ¬ (¬ ((a1 >>> (σ.2.2.2 &&& 31)) &&& 1) = 1) from c23)] at hp); (try simp only [if_neg (show ¬ (¬ ((a1 >>> (σ.2.2.2 &&& 31)) &&& 1) = 1) from c23)] at k)
      refine j_iload_n g (i := 2) (by decide +kernel) rfl ?_
      refine j_if_lt g (off := 13) (tgt := 40) (by decide +kernel) (by decide) (fun c27 => ?_) (fun c27 => ?_)
      · (try rw [if_pos (show σ.2.1 < 0 from c27)] at hc); (rw [if_pos (show σ.2.1 < 0 from c27)] at hp); (try simp only [if_pos (show σ.2.1 < 0 from c27)] at k)
        refine j_iload g (i := 4) (by decide +kernel) rfl ?_
        refine j_istore_n g (i := 2) (by decide +kernel) (by decide) ?_
        dsimp only [stL, clL, hdL]
        refine j_aload_n g (i := 0) (by decide +kernel) rfl ?_
        refine j_iload g (i := 4) (by decide +kernel) rfl ?_
        obtain ⟨h0, hp⟩ := hp
        refine j_cV1r g v8_283 ⟨rfl, by decide⟩ (by decide +kernel) (by decide +kernel) (Nat.le_of_ble_eq_true rfl) (rnX8_minutesOf h0) ?_
        refine j_istore_n g (i := 3) (by decide +kernel) (by decide) ?_
        dsimp only [stL, clL, hdL]
        refine j_iinc g (i := 4) (n := 1) (1) (by decide +kernel) rfl (by decide) rfl ?_
        dsimp only [stL, clL, hdL]
        refine j_goto g (off := -46) (tgt := 7) (by decide +kernel) (by decide) ?_
        exact k 
      · (try rw [if_neg (show ¬ (σ.2.1 < 0) from c27)] at hc); (rw [if_neg (show ¬ (σ.2.1 < 0) from c27)] at hp); (try simp only [if_neg (show ¬ (σ.2.1 < 0) from c27)] at k)
        refine j_aload_n g (i := 0) (by decide +kernel) rfl ?_
        refine j_iload g (i := 4) (by decide +kernel) rfl ?_
        obtain ⟨h0, hp⟩ := hp
        refine j_cV1r g v8_283 ⟨rfl, by decide⟩ (by decide +kernel) (by decide +kernel) (Nat.le_of_ble_eq_true rfl) (rnX8_minutesOf h0) ?_
        refine j_iload_n g (i := 3) (by decide +kernel) rfl ?_
        refine j_icmp_ge g (off := 13) (tgt := 50) (by decide +kernel) (by decide) (fun c37 => ?_) (fun c37 => ?_)
        · (try rw [if_pos (show σ.2.2.1 ≤ (r_X8_minutesOf σ.1 σ.2.2.2) from c37)] at hc); (rw [if_pos (show σ.2.2.1 ≤ (r_X8_minutesOf σ.1 σ.2.2.2) from c37)] at hp); (try simp only [if_pos (show σ.2.2.1 ≤ (r_X8_minutesOf σ.1 σ.2.2.2) from c37)] at k)
          refine j_iinc g (i := 4) (n := 1) (1) (by decide +kernel) rfl (by decide) rfl ?_
          dsimp only [stL, clL, hdL]
          refine j_goto g (off := -46) (tgt := 7) (by decide +kernel) (by decide) ?_
          exact k 
        · (try rw [if_neg (show ¬ (σ.2.2.1 ≤ (r_X8_minutesOf σ.1 σ.2.2.2)) from c37)] at hc); (rw [if_neg (show ¬ (σ.2.2.1 ≤ (r_X8_minutesOf σ.1 σ.2.2.2)) from c37)] at hp); (try simp only [if_neg (show ¬ (σ.2.2.1 ≤ (r_X8_minutesOf σ.1 σ.2.2.2)) from c37)] at k)
          refine j_iload g (i := 4) (by decide +kernel) rfl ?_
          refine j_istore_n g (i := 2) (by decide +kernel) (by decide) ?_
          dsimp only [stL, clL, hdL]
          refine j_aload_n g (i := 0) (by decide +kernel) rfl ?_
          refine j_iload g (i := 4) (by decide +kernel) rfl ?_
          obtain ⟨h0, hp⟩ := hp
          refine j_cV1r g v8_283 ⟨rfl, by decide⟩ (by decide +kernel) (by decide +kernel) (Nat.le_of_ble_eq_true rfl) (rnX8_minutesOf h0) ?_
          refine j_istore_n g (i := 3) (by decide +kernel) (by decide) ?_
          dsimp only [stL, clL, hdL]
          refine j_iinc g (i := 4) (n := 1) (1) (by decide +kernel) rfl (by decide) rfl ?_
          dsimp only [stL, clL, hdL]
          refine j_goto g (off := -46) (tgt := 7) (by decide +kernel) (by decide) ?_
          exact k 
theorem sh_X8_soonestOf_7 {d : Nat} {J : Nat → Lc → List Value → Mm → Prop} {a1 : Int32}  {σ0 : Mm × Int32 × Int32 × Int32}  (g : Good mX8_soonestOf.1 mX8_soonestOf.2.2.1 mX8_soonestOf.2.2.2.1 (d + 5) J) : ∀ (N : Nat), (∀ k, k < N → c_X8_soonestOf_7 a1 (l_X8_soonestOf_7 a1 σ0 k)) → (∀ k, k < N → q_X8_soonestOf_7 a1 (l_X8_soonestOf_7 a1 σ0 k)) → (J 7 [some (.ref 600), some (.int a1), some (.int ((l_X8_soonestOf_7 a1 σ0 N).2.1)), some (.int ((l_X8_soonestOf_7 a1 σ0 N).2.2.1)), some (.int ((l_X8_soonestOf_7 a1 σ0 N).2.2.2))] [] ((l_X8_soonestOf_7 a1 σ0 N).1)) → J 7 [some (.ref 600), some (.int a1), some (.int σ0.2.1), some (.int σ0.2.2.1), some (.int σ0.2.2.2)] [] σ0.1
  | 0, _, _, k => k
  | N + 1, hc, hp, k => sh_X8_soonestOf_7  g N (fun i hi => hc i (Nat.lt_succ_of_lt hi)) (fun i hi => hp i (Nat.lt_succ_of_lt hi)) (ps_X8_soonestOf_7  g (hc N (Nat.lt_succ_self N)) (hp N (Nat.lt_succ_self N)) k)
noncomputable def r_X8_soonestOf (M : Mm) (a1 : Int32) : Int32 := if ((l_X8_soonestOf_7 a1 (M, (-1), 0, 0) (Int32.toNatClampNeg (M.1 600 2))).1.1 600 2) ≤ ((l_X8_soonestOf_7 a1 (M, (-1), 0, 0) (Int32.toNatClampNeg (M.1 600 2))).2.2.2) then (l_X8_soonestOf_7 a1 (M, (-1), 0, 0) (Int32.toNatClampNeg (M.1 600 2))).2.1 else 0
noncomputable def w_X8_soonestOf (M : Mm) (a1 : Int32) : Mm := if ((l_X8_soonestOf_7 a1 (M, (-1), 0, 0) (Int32.toNatClampNeg (M.1 600 2))).1.1 600 2) ≤ ((l_X8_soonestOf_7 a1 (M, (-1), 0, 0) (Int32.toNatClampNeg (M.1 600 2))).2.2.2) then (l_X8_soonestOf_7 a1 (M, (-1), 0, 0) (Int32.toNatClampNeg (M.1 600 2))).1 else M
def p_X8_soonestOf (M : Mm) (a1 : Int32) : Prop := (∀ k, k < (Int32.toNatClampNeg (M.1 600 2)) → c_X8_soonestOf_7 a1 (l_X8_soonestOf_7 a1 (M, (-1), 0, 0) k)) ∧ (∀ k, k < (Int32.toNatClampNeg (M.1 600 2)) → q_X8_soonestOf_7 a1 (l_X8_soonestOf_7 a1 (M, (-1), 0, 0) k)) ∧ (¬ c_X8_soonestOf_7 a1 (l_X8_soonestOf_7 a1 (M, (-1), 0, 0) (Int32.toNatClampNeg (M.1 600 2)))) ∧ (if ((l_X8_soonestOf_7 a1 (M, (-1), 0, 0) (Int32.toNatClampNeg (M.1 600 2))).1.1 600 2) ≤ ((l_X8_soonestOf_7 a1 (M, (-1), 0, 0) (Int32.toNatClampNeg (M.1 600 2))).2.2.2) then True else (if ¬ ((a1 >>> (((l_X8_soonestOf_7 a1 (M, (-1), 0, 0) (Int32.toNatClampNeg (M.1 600 2))).2.2.2) &&& 31)) &&& 1) = 1 then True else (if ((l_X8_soonestOf_7 a1 (M, (-1), 0, 0) (Int32.toNatClampNeg (M.1 600 2))).2.1) < 0 then (p_X8_minutesOf (l_X8_soonestOf_7 a1 (M, (-1), 0, 0) (Int32.toNatClampNeg (M.1 600 2))).1 ((l_X8_soonestOf_7 a1 (M, (-1), 0, 0) (Int32.toNatClampNeg (M.1 600 2))).2.2.2)) ∧ True else (p_X8_minutesOf (l_X8_soonestOf_7 a1 (M, (-1), 0, 0) (Int32.toNatClampNeg (M.1 600 2))).1 ((l_X8_soonestOf_7 a1 (M, (-1), 0, 0) (Int32.toNatClampNeg (M.1 600 2))).2.2.2)) ∧ (if ((l_X8_soonestOf_7 a1 (M, (-1), 0, 0) (Int32.toNatClampNeg (M.1 600 2))).2.2.1) ≤ (r_X8_minutesOf (l_X8_soonestOf_7 a1 (M, (-1), 0, 0) (Int32.toNatClampNeg (M.1 600 2))).1 ((l_X8_soonestOf_7 a1 (M, (-1), 0, 0) (Int32.toNatClampNeg (M.1 600 2))).2.2.2)) then True else (p_X8_minutesOf (w_X8_minutesOf (l_X8_soonestOf_7 a1 (M, (-1), 0, 0) (Int32.toNatClampNeg (M.1 600 2))).1 ((l_X8_soonestOf_7 a1 (M, (-1), 0, 0) (Int32.toNatClampNeg (M.1 600 2))).2.2.2)) ((l_X8_soonestOf_7 a1 (M, (-1), 0, 0) (Int32.toNatClampNeg (M.1 600 2))).2.2.2)) ∧ True))))
theorem rnX8_soonestOf {d : Nat} {M : Mm} {a1 : Int32}  (hp : p_X8_soonestOf M a1) : Rn (d + 5) mX8_soonestOf [.ref 600, .int a1] M (some (.int (r_X8_soonestOf M a1))) (w_X8_soonestOf M a1) := by
  refine Rn.of [some (.ref 600), some (.int a1), none, none, none] (by decide +kernel) rfl (Nat.le_of_ble_eq_true rfl) rfl (fun J g hr => ?_)
  unfold p_X8_soonestOf at hp
  refine j_iconst g (n := -1) (-1) (by decide +kernel) rfl ?_
  refine j_istore_n g (i := 2) (by decide +kernel) (by decide) ?_
  dsimp only [stL, clL, hdL]
  refine j_iconst g (n := 0) (0) (by decide +kernel) rfl ?_
  refine j_istore_n g (i := 3) (by decide +kernel) (by decide) ?_
  dsimp only [stL, clL, hdL]
  refine j_iconst g (n := 0) (0) (by decide +kernel) rfl ?_
  refine j_istore g (i := 4) (by decide +kernel) (by decide) ?_
  dsimp only [stL, clL, hdL]
  obtain ⟨h0, hp⟩ := hp
  have hc_7_1 := h0
  obtain ⟨h0, hp⟩ := hp
  have hq_7_1 := h0
  obtain ⟨h0, hp⟩ := hp
  have hx_7_1 := h0
  refine sh_X8_soonestOf_7   g (σ0 := (M, (-1), 0, 0)) (Int32.toNatClampNeg (M.1 600 2)) hc_7_1 hq_7_1 ?_ 
  refine j_iload g (i := 4) (by decide +kernel) rfl ?_
  refine j_aload_n g (i := 0) (by decide +kernel) rfl ?_
  refine j_gI g f8_99 (by decide +kernel) (by decide +kernel) (by decide +kernel) ?_
  refine j_icmp_ge g (off := 43) (tgt := 56) (by decide +kernel) (by decide) (fun c13 => ?_) (fun c13 => ?_)
  · rw [if_pos (show ((l_X8_soonestOf_7 a1 (M, (-1), 0, 0) (Int32.toNatClampNeg (M.1 600 2))).1.1 600 2) ≤ ((l_X8_soonestOf_7 a1 (M, (-1), 0, 0) (Int32.toNatClampNeg (M.1 600 2))).2.2.2) from c13)] at hp
    refine j_iload_n g (i := 2) (by decide +kernel) rfl ?_
    refine hr.1 _ _ _ _ (by decide +kernel) ⟨_, rfl, by first | rfl | exact b2i_nar | decide +kernel⟩ ?_ ?_
    · unfold r_X8_soonestOf; first | (simp only [if_pos (show ((l_X8_soonestOf_7 a1 (M, (-1), 0, 0) (Int32.toNatClampNeg (M.1 600 2))).1.1 600 2) ≤ ((l_X8_soonestOf_7 a1 (M, (-1), 0, 0) (Int32.toNatClampNeg (M.1 600 2))).2.2.2) from c13)]; done) | (simp only [if_pos (show ((l_X8_soonestOf_7 a1 (M, (-1), 0, 0) (Int32.toNatClampNeg (M.1 600 2))).1.1 600 2) ≤ ((l_X8_soonestOf_7 a1 (M, (-1), 0, 0) (Int32.toNatClampNeg (M.1 600 2))).2.2.2) from c13)]; rfl) | rfl
    · unfold w_X8_soonestOf; first | (simp only [if_pos (show ((l_X8_soonestOf_7 a1 (M, (-1), 0, 0) (Int32.toNatClampNeg (M.1 600 2))).1.1 600 2) ≤ ((l_X8_soonestOf_7 a1 (M, (-1), 0, 0) (Int32.toNatClampNeg (M.1 600 2))).2.2.2) from c13)]; done) | (simp only [if_pos (show ((l_X8_soonestOf_7 a1 (M, (-1), 0, 0) (Int32.toNatClampNeg (M.1 600 2))).1.1 600 2) ≤ ((l_X8_soonestOf_7 a1 (M, (-1), 0, 0) (Int32.toNatClampNeg (M.1 600 2))).2.2.2) from c13)]; rfl) | rfl
  · rw [if_neg (show ¬ (((l_X8_soonestOf_7 a1 (M, (-1), 0, 0) (Int32.toNatClampNeg (M.1 600 2))).1.1 600 2) ≤ ((l_X8_soonestOf_7 a1 (M, (-1), 0, 0) (Int32.toNatClampNeg (M.1 600 2))).2.2.2)) from c13)] at hp
    refine j_iload_n g (i := 1) (by decide +kernel) rfl ?_
    refine j_iload g (i := 4) (by decide +kernel) rfl ?_
    refine j_ishr g (by decide +kernel) ?_
    refine j_iconst g (n := 1) (1) (by decide +kernel) rfl ?_
    refine j_iand g (by decide +kernel) ?_
    refine j_iconst g (n := 1) (1) (by decide +kernel) rfl ?_
    refine j_icmp_ne g (off := 27) (tgt := 50) (by decide +kernel) (by decide) (fun c23 => ?_) (fun c23 => ?_)
    · rw [if_pos (show ¬ ((a1 >>> (((l_X8_soonestOf_7 a1 (M, (-1), 0, 0) (Int32.toNatClampNeg (M.1 600 2))).2.2.2) &&& 31)) &&& 1) = 1 from c23)] at hp
      refine j_iinc g (i := 4) (n := 1) (1) (by decide +kernel) rfl (by decide) rfl ?_
      dsimp only [stL, clL, hdL]
      refine j_goto g (off := -46) (tgt := 7) (by decide +kernel) (by decide) ?_
      refine absurd (ci_X8_soonestOf_7.mpr ?_) hx_7_1
      simp only [if_neg (show ¬ (((l_X8_soonestOf_7 a1 (M, (-1), 0, 0) (Int32.toNatClampNeg (M.1 600 2))).1.1 600 2) ≤ ((l_X8_soonestOf_7 a1 (M, (-1), 0, 0) (Int32.toNatClampNeg (M.1 600 2))).2.2.2)) from c13), if_pos (show ¬ ((a1 >>> (((l_X8_soonestOf_7 a1 (M, (-1), 0, 0) (Int32.toNatClampNeg (M.1 600 2))).2.2.2) &&& 31)) &&& 1) = 1 from c23)]
    · rw [if_neg (show ¬ (¬ ((a1 >>> (((l_X8_soonestOf_7 a1 (M, (-1), 0, 0) (Int32.toNatClampNeg (M.1 600 2))).2.2.2) &&& 31)) &&& 1) = 1) from c23)] at hp
      refine j_iload_n g (i := 2) (by decide +kernel) rfl ?_
      refine j_if_lt g (off := 13) (tgt := 40) (by decide +kernel) (by decide) (fun c27 => ?_) (fun c27 => ?_)
      · rw [if_pos (show ((l_X8_soonestOf_7 a1 (M, (-1), 0, 0) (Int32.toNatClampNeg (M.1 600 2))).2.1) < 0 from c27)] at hp
        refine j_iload g (i := 4) (by decide +kernel) rfl ?_
        refine j_istore_n g (i := 2) (by decide +kernel) (by decide) ?_
        dsimp only [stL, clL, hdL]
        refine j_aload_n g (i := 0) (by decide +kernel) rfl ?_
        refine j_iload g (i := 4) (by decide +kernel) rfl ?_
        obtain ⟨h0, hp⟩ := hp
        refine j_cV1r g v8_283 ⟨rfl, by decide⟩ (by decide +kernel) (by decide +kernel) (Nat.le_of_ble_eq_true rfl) (rnX8_minutesOf h0) ?_
        refine j_istore_n g (i := 3) (by decide +kernel) (by decide) ?_
        dsimp only [stL, clL, hdL]
        refine j_iinc g (i := 4) (n := 1) (1) (by decide +kernel) rfl (by decide) rfl ?_
        dsimp only [stL, clL, hdL]
        refine j_goto g (off := -46) (tgt := 7) (by decide +kernel) (by decide) ?_
        refine absurd (ci_X8_soonestOf_7.mpr ?_) hx_7_1
        simp only [if_neg (show ¬ (((l_X8_soonestOf_7 a1 (M, (-1), 0, 0) (Int32.toNatClampNeg (M.1 600 2))).1.1 600 2) ≤ ((l_X8_soonestOf_7 a1 (M, (-1), 0, 0) (Int32.toNatClampNeg (M.1 600 2))).2.2.2)) from c13), if_neg (show ¬ (¬ ((a1 >>> (((l_X8_soonestOf_7 a1 (M, (-1), 0, 0) (Int32.toNatClampNeg (M.1 600 2))).2.2.2) &&& 31)) &&& 1) = 1) from c23), if_pos (show ((l_X8_soonestOf_7 a1 (M, (-1), 0, 0) (Int32.toNatClampNeg (M.1 600 2))).2.1) < 0 from c27)]
      · rw [if_neg (show ¬ (((l_X8_soonestOf_7 a1 (M, (-1), 0, 0) (Int32.toNatClampNeg (M.1 600 2))).2.1) < 0) from c27)] at hp
        refine j_aload_n g (i := 0) (by decide +kernel) rfl ?_
        refine j_iload g (i := 4) (by decide +kernel) rfl ?_
        obtain ⟨h0, hp⟩ := hp
        refine j_cV1r g v8_283 ⟨rfl, by decide⟩ (by decide +kernel) (by decide +kernel) (Nat.le_of_ble_eq_true rfl) (rnX8_minutesOf h0) ?_
        refine j_iload_n g (i := 3) (by decide +kernel) rfl ?_
        refine j_icmp_ge g (off := 13) (tgt := 50) (by decide +kernel) (by decide) (fun c37 => ?_) (fun c37 => ?_)
        · rw [if_pos (show ((l_X8_soonestOf_7 a1 (M, (-1), 0, 0) (Int32.toNatClampNeg (M.1 600 2))).2.2.1) ≤ (r_X8_minutesOf (l_X8_soonestOf_7 a1 (M, (-1), 0, 0) (Int32.toNatClampNeg (M.1 600 2))).1 ((l_X8_soonestOf_7 a1 (M, (-1), 0, 0) (Int32.toNatClampNeg (M.1 600 2))).2.2.2)) from c37)] at hp
          refine j_iinc g (i := 4) (n := 1) (1) (by decide +kernel) rfl (by decide) rfl ?_
          dsimp only [stL, clL, hdL]
          refine j_goto g (off := -46) (tgt := 7) (by decide +kernel) (by decide) ?_
          refine absurd (ci_X8_soonestOf_7.mpr ?_) hx_7_1
          simp only [if_neg (show ¬ (((l_X8_soonestOf_7 a1 (M, (-1), 0, 0) (Int32.toNatClampNeg (M.1 600 2))).1.1 600 2) ≤ ((l_X8_soonestOf_7 a1 (M, (-1), 0, 0) (Int32.toNatClampNeg (M.1 600 2))).2.2.2)) from c13), if_neg (show ¬ (¬ ((a1 >>> (((l_X8_soonestOf_7 a1 (M, (-1), 0, 0) (Int32.toNatClampNeg (M.1 600 2))).2.2.2) &&& 31)) &&& 1) = 1) from c23), if_neg (show ¬ (((l_X8_soonestOf_7 a1 (M, (-1), 0, 0) (Int32.toNatClampNeg (M.1 600 2))).2.1) < 0) from c27), if_pos (show ((l_X8_soonestOf_7 a1 (M, (-1), 0, 0) (Int32.toNatClampNeg (M.1 600 2))).2.2.1) ≤ (r_X8_minutesOf (l_X8_soonestOf_7 a1 (M, (-1), 0, 0) (Int32.toNatClampNeg (M.1 600 2))).1 ((l_X8_soonestOf_7 a1 (M, (-1), 0, 0) (Int32.toNatClampNeg (M.1 600 2))).2.2.2)) from c37)]
        · rw [if_neg (show ¬ (((l_X8_soonestOf_7 a1 (M, (-1), 0, 0) (Int32.toNatClampNeg (M.1 600 2))).2.2.1) ≤ (r_X8_minutesOf (l_X8_soonestOf_7 a1 (M, (-1), 0, 0) (Int32.toNatClampNeg (M.1 600 2))).1 ((l_X8_soonestOf_7 a1 (M, (-1), 0, 0) (Int32.toNatClampNeg (M.1 600 2))).2.2.2))) from c37)] at hp
          refine j_iload g (i := 4) (by decide +kernel) rfl ?_
          refine j_istore_n g (i := 2) (by decide +kernel) (by decide) ?_
          dsimp only [stL, clL, hdL]
          refine j_aload_n g (i := 0) (by decide +kernel) rfl ?_
          refine j_iload g (i := 4) (by decide +kernel) rfl ?_
          obtain ⟨h0, hp⟩ := hp
          refine j_cV1r g v8_283 ⟨rfl, by decide⟩ (by decide +kernel) (by decide +kernel) (Nat.le_of_ble_eq_true rfl) (rnX8_minutesOf h0) ?_
          refine j_istore_n g (i := 3) (by decide +kernel) (by decide) ?_
          dsimp only [stL, clL, hdL]
          refine j_iinc g (i := 4) (n := 1) (1) (by decide +kernel) rfl (by decide) rfl ?_
          dsimp only [stL, clL, hdL]
          refine j_goto g (off := -46) (tgt := 7) (by decide +kernel) (by decide) ?_
          refine absurd (ci_X8_soonestOf_7.mpr ?_) hx_7_1
          simp only [if_neg (show ¬ (((l_X8_soonestOf_7 a1 (M, (-1), 0, 0) (Int32.toNatClampNeg (M.1 600 2))).1.1 600 2) ≤ ((l_X8_soonestOf_7 a1 (M, (-1), 0, 0) (Int32.toNatClampNeg (M.1 600 2))).2.2.2)) from c13), if_neg (show ¬ (¬ ((a1 >>> (((l_X8_soonestOf_7 a1 (M, (-1), 0, 0) (Int32.toNatClampNeg (M.1 600 2))).2.2.2) &&& 31)) &&& 1) = 1) from c23), if_neg (show ¬ (((l_X8_soonestOf_7 a1 (M, (-1), 0, 0) (Int32.toNatClampNeg (M.1 600 2))).2.1) < 0) from c27), if_neg (show ¬ (((l_X8_soonestOf_7 a1 (M, (-1), 0, 0) (Int32.toNatClampNeg (M.1 600 2))).2.2.1) ≤ (r_X8_minutesOf (l_X8_soonestOf_7 a1 (M, (-1), 0, 0) (Int32.toNatClampNeg (M.1 600 2))).1 ((l_X8_soonestOf_7 a1 (M, (-1), 0, 0) (Int32.toNatClampNeg (M.1 600 2))).2.2.2))) from c37)]
def c_X8_worthiestOf_10 (a1 : Int32) (σ : Mm × Int32 × Int32 × Int32 × Int32) : Prop := if (σ.1.1 600 2) ≤ σ.2.2.2.2 then False else True
theorem ci_X8_worthiestOf_10 {a1 : Int32}  {σ : Mm × Int32 × Int32 × Int32 × Int32} : c_X8_worthiestOf_10 a1 σ ↔ (if (σ.1.1 600 2) ≤ σ.2.2.2.2 then False else True) := Iff.rfl
noncomputable def s_X8_worthiestOf_10 (a1 : Int32) (σ : Mm × Int32 × Int32 × Int32 × Int32) : Mm × Int32 × Int32 × Int32 × Int32 := if (σ.1.1 600 2) ≤ σ.2.2.2.2 then σ else if ¬ ((a1 >>> (σ.2.2.2.2 &&& 31)) &&& 1) = 1 then (σ.1, σ.2.1, σ.2.2.1, σ.2.2.2.1, σ.2.2.2.2 + 1) else if ¬ (r_X8_minutesOf σ.1 σ.2.2.2.2) = 0 then (if σ.2.1 < 0 then ((w_X8_minutesOf (w_X8_minutesOf σ.1 σ.2.2.2.2) σ.2.2.2.2), σ.2.2.2.2, (w_X8_minutesOf (w_X8_minutesOf σ.1 σ.2.2.2.2) σ.2.2.2.2).1 603 (Int32.toNatClampNeg (8 * σ.2.2.2.2 + (5 : Int32))), r_X8_minutesOf (w_X8_minutesOf σ.1 σ.2.2.2.2) σ.2.2.2.2, σ.2.2.2.2 + 1) else if (((w_X8_minutesOf (w_X8_minutesOf σ.1 σ.2.2.2.2) σ.2.2.2.2).1 603 (Int32.toNatClampNeg (8 * σ.2.2.2.2 + (5 : Int32)))) * σ.2.2.2.1) ≤ (σ.2.2.1 * (r_X8_minutesOf (w_X8_minutesOf σ.1 σ.2.2.2.2) σ.2.2.2.2)) then ((w_X8_minutesOf (w_X8_minutesOf σ.1 σ.2.2.2.2) σ.2.2.2.2), σ.2.1, σ.2.2.1, σ.2.2.2.1, σ.2.2.2.2 + 1) else ((w_X8_minutesOf (w_X8_minutesOf σ.1 σ.2.2.2.2) σ.2.2.2.2), σ.2.2.2.2, (w_X8_minutesOf (w_X8_minutesOf σ.1 σ.2.2.2.2) σ.2.2.2.2).1 603 (Int32.toNatClampNeg (8 * σ.2.2.2.2 + (5 : Int32))), r_X8_minutesOf (w_X8_minutesOf σ.1 σ.2.2.2.2) σ.2.2.2.2, σ.2.2.2.2 + 1)) else if σ.2.1 < 0 then ((w_X8_minutesOf σ.1 σ.2.2.2.2), σ.2.2.2.2, (w_X8_minutesOf σ.1 σ.2.2.2.2).1 603 (Int32.toNatClampNeg (8 * σ.2.2.2.2 + (5 : Int32))), 1, σ.2.2.2.2 + 1) else if (((w_X8_minutesOf σ.1 σ.2.2.2.2).1 603 (Int32.toNatClampNeg (8 * σ.2.2.2.2 + (5 : Int32)))) * σ.2.2.2.1) ≤ (σ.2.2.1 * 1) then ((w_X8_minutesOf σ.1 σ.2.2.2.2), σ.2.1, σ.2.2.1, σ.2.2.2.1, σ.2.2.2.2 + 1) else ((w_X8_minutesOf σ.1 σ.2.2.2.2), σ.2.2.2.2, (w_X8_minutesOf σ.1 σ.2.2.2.2).1 603 (Int32.toNatClampNeg (8 * σ.2.2.2.2 + (5 : Int32))), 1, σ.2.2.2.2 + 1)
def q_X8_worthiestOf_10 (a1 : Int32) (σ : Mm × Int32 × Int32 × Int32 × Int32) : Prop := (if (σ.1.1 600 2) ≤ σ.2.2.2.2 then True else (if ¬ ((a1 >>> (σ.2.2.2.2 &&& 31)) &&& 1) = 1 then True else (p_X8_minutesOf σ.1 σ.2.2.2.2) ∧ (if ¬ (r_X8_minutesOf σ.1 σ.2.2.2.2) = 0 then (p_X8_minutesOf (w_X8_minutesOf σ.1 σ.2.2.2.2) σ.2.2.2.2) ∧ (if σ.2.1 < 0 then (vp_in (8 * σ.2.2.2.2 + (5 : Int32)) 48) ∧ True else (vp_in (8 * σ.2.2.2.2 + (5 : Int32)) 48) ∧ (if (((w_X8_minutesOf (w_X8_minutesOf σ.1 σ.2.2.2.2) σ.2.2.2.2).1 603 (Int32.toNatClampNeg (8 * σ.2.2.2.2 + (5 : Int32)))) * σ.2.2.2.1) ≤ (σ.2.2.1 * (r_X8_minutesOf (w_X8_minutesOf σ.1 σ.2.2.2.2) σ.2.2.2.2)) then True else (vp_in (8 * σ.2.2.2.2 + (5 : Int32)) 48) ∧ True)) else (if σ.2.1 < 0 then (vp_in (8 * σ.2.2.2.2 + (5 : Int32)) 48) ∧ True else (vp_in (8 * σ.2.2.2.2 + (5 : Int32)) 48) ∧ (if (((w_X8_minutesOf σ.1 σ.2.2.2.2).1 603 (Int32.toNatClampNeg (8 * σ.2.2.2.2 + (5 : Int32)))) * σ.2.2.2.1) ≤ (σ.2.2.1 * 1) then True else (vp_in (8 * σ.2.2.2.2 + (5 : Int32)) 48) ∧ True)))))
noncomputable def l_X8_worthiestOf_10 (a1 : Int32) (σ0 : Mm × Int32 × Int32 × Int32 × Int32) : Nat → Mm × Int32 × Int32 × Int32 × Int32 := itN (fun _ σ => s_X8_worthiestOf_10 a1 σ) σ0
theorem ps_X8_worthiestOf_10 {d : Nat} {J : Nat → Lc → List Value → Mm → Prop} {a1 : Int32}  {σ : Mm × Int32 × Int32 × Int32 × Int32}  (g : Good mX8_worthiestOf.1 mX8_worthiestOf.2.2.1 mX8_worthiestOf.2.2.2.1 (d + 5) J) (hc : c_X8_worthiestOf_10 a1 σ) (hp : q_X8_worthiestOf_10 a1 σ) (k : ∀ (j6 : Option Value), J 10 [some (.ref 600), some (.int a1), some (.int ((s_X8_worthiestOf_10 a1 σ).2.1)), some (.int ((s_X8_worthiestOf_10 a1 σ).2.2.1)), some (.int ((s_X8_worthiestOf_10 a1 σ).2.2.2.1)), some (.int ((s_X8_worthiestOf_10 a1 σ).2.2.2.2)), j6] [] ((s_X8_worthiestOf_10 a1 σ).1)) : ∀ (j6 : Option Value), J 10 [some (.ref 600), some (.int a1), some (.int σ.2.1), some (.int σ.2.2.1), some (.int σ.2.2.2.1), some (.int σ.2.2.2.2), j6] [] σ.1 := by
  intro j6
  unfold c_X8_worthiestOf_10 at hc
  unfold q_X8_worthiestOf_10 at hp
  unfold s_X8_worthiestOf_10 at k
  refine j_iload g (i := 5) (by decide +kernel) rfl ?_
  refine j_aload_n g (i := 0) (by decide +kernel) rfl ?_
  refine j_gI g f8_99 (by decide +kernel) (by decide +kernel) (by decide +kernel) ?_
  refine j_icmp_ge g (off := 76) (tgt := 92) (by decide +kernel) (by decide) (fun c16 => ?_) (fun c16 => ?_)
  · (try rw [if_pos (show (σ.1.1 600 2) ≤ σ.2.2.2.2 from c16)] at hc); (rw [if_pos (show (σ.1.1 600 2) ≤ σ.2.2.2.2 from c16)] at hp); (try simp only [if_pos (show (σ.1.1 600 2) ≤ σ.2.2.2.2 from c16)] at k)
    exact hc.elim
  · (try rw [if_neg (show ¬ ((σ.1.1 600 2) ≤ σ.2.2.2.2) from c16)] at hc); (rw [if_neg (show ¬ ((σ.1.1 600 2) ≤ σ.2.2.2.2) from c16)] at hp); (try simp only [if_neg (show ¬ ((σ.1.1 600 2) ≤ σ.2.2.2.2) from c16)] at k)
    refine j_iload_n g (i := 1) (by decide +kernel) rfl ?_
    refine j_iload g (i := 5) (by decide +kernel) rfl ?_
    refine j_ishr g (by decide +kernel) ?_
    refine j_iconst g (n := 1) (1) (by decide +kernel) rfl ?_
    refine j_iand g (by decide +kernel) ?_
    refine j_iconst g (n := 1) (1) (by decide +kernel) rfl ?_
    refine j_icmp_ne g (off := 60) (tgt := 86) (by decide +kernel) (by decide) (fun c26 => ?_) (fun c26 => ?_)
    · (try rw [if_pos (show ¬ ((a1 >>> (σ.2.2.2.2 &&& 31)) &&& 1) = 1 from c26)] at hc); (rw [if_pos (show ¬ ((a1 >>> (σ.2.2.2.2 &&& 31)) &&& 1) = 1 from c26)] at hp); (try simp only [if_pos (show ¬ ((a1 >>> (σ.2.2.2.2 &&& 31)) &&& 1) = 1 from c26)] at k)
      refine j_iinc g (i := 5) (n := 1) (1) (by decide +kernel) rfl (by decide) rfl ?_
      dsimp only [stL, clL, hdL]
      refine j_goto g (off := -79) (tgt := 10) (by decide +kernel) (by decide) ?_
      exact k _
    · (try rw [if_neg (show ¬ (¬ ((a1 >>> (σ.2.2.2.2 &&& 31)) &&& 1) = 1) from c26)] at hc); (rw [if_neg (show ¬ (¬ ((a1 >>> (σ.2.2.2.2 &&& 31)) &&& 1) = 1) from c26)] at hp); (try simp only [if_neg (show ¬ (¬ ((a1 >>> (σ.2.2.2.2 &&& 31)) &&& 1) = 1) from c26)] at k)
      refine j_aload_n g (i := 0) (by decide +kernel) rfl ?_
      refine j_iload g (i := 5) (by decide +kernel) rfl ?_
      obtain ⟨h0, hp⟩ := hp
      refine j_cV1r g v8_283 ⟨rfl, by decide⟩ (by decide +kernel) (by decide +kernel) (Nat.le_of_ble_eq_true rfl) (rnX8_minutesOf h0) ?_
      refine j_if_ne g (off := 7) (tgt := 42) (by decide +kernel) (by decide) (fun c35 => ?_) (fun c35 => ?_)
      · (try rw [if_pos (show ¬ (r_X8_minutesOf σ.1 σ.2.2.2.2) = 0 from c35)] at hc); (rw [if_pos (show ¬ (r_X8_minutesOf σ.1 σ.2.2.2.2) = 0 from c35)] at hp); (try simp only [if_pos (show ¬ (r_X8_minutesOf σ.1 σ.2.2.2.2) = 0 from c35)] at k)
        refine j_aload_n g (i := 0) (by decide +kernel) rfl ?_
        refine j_iload g (i := 5) (by decide +kernel) rfl ?_
        obtain ⟨h0, hp⟩ := hp
        refine j_cV1r g v8_283 ⟨rfl, by decide⟩ (by decide +kernel) (by decide +kernel) (Nat.le_of_ble_eq_true rfl) (rnX8_minutesOf h0) ?_
        refine j_istore g (i := 6) (by decide +kernel) (by decide) ?_
        dsimp only [stL, clL, hdL]
        refine j_iload_n g (i := 2) (by decide +kernel) rfl ?_
        refine j_if_lt g (off := 20) (tgt := 71) (by decide +kernel) (by decide) (fun c51 => ?_) (fun c51 => ?_)
        · (try rw [if_pos (show σ.2.1 < 0 from c51)] at hc); (rw [if_pos (show σ.2.1 < 0 from c51)] at hp); (try simp only [if_pos (show σ.2.1 < 0 from c51)] at k)
          refine j_iload g (i := 5) (by decide +kernel) rfl ?_
          refine j_istore_n g (i := 2) (by decide +kernel) (by decide) ?_
          dsimp only [stL, clL, hdL]
          refine j_aload_n g (i := 0) (by decide +kernel) rfl ?_
          refine j_iload g (i := 5) (by decide +kernel) rfl ?_
          refine j_iconst g (n := 5) (5) (by decide +kernel) rfl ?_
          obtain ⟨h0, hp⟩ := hp
          refine j_cV2r g v8_249 ⟨rfl, by decide⟩ (by decide +kernel) (by decide +kernel) (Nat.le_of_ble_eq_true rfl) (rnX8_its h0) ?_
          refine j_istore_n g (i := 3) (by decide +kernel) (by decide) ?_
          dsimp only [stL, clL, hdL]
          refine j_iload g (i := 6) (by decide +kernel) rfl ?_
          refine j_istore g (i := 4) (by decide +kernel) (by decide) ?_
          dsimp only [stL, clL, hdL]
          refine j_iinc g (i := 5) (n := 1) (1) (by decide +kernel) rfl (by decide) rfl ?_
          dsimp only [stL, clL, hdL]
          refine j_goto g (off := -79) (tgt := 10) (by decide +kernel) (by decide) ?_
          exact k _
        · (try rw [if_neg (show ¬ (σ.2.1 < 0) from c51)] at hc); (rw [if_neg (show ¬ (σ.2.1 < 0) from c51)] at hp); (try simp only [if_neg (show ¬ (σ.2.1 < 0) from c51)] at k)
          refine j_aload_n g (i := 0) (by decide +kernel) rfl ?_
          refine j_iload g (i := 5) (by decide +kernel) rfl ?_
          refine j_iconst g (n := 5) (5) (by decide +kernel) rfl ?_
          obtain ⟨h0, hp⟩ := hp
          refine j_cV2r g v8_249 ⟨rfl, by decide⟩ (by decide +kernel) (by decide +kernel) (Nat.le_of_ble_eq_true rfl) (rnX8_its h0) ?_
          refine j_iload g (i := 4) (by decide +kernel) rfl ?_
          refine j_imul g (by decide +kernel) ?_
          refine j_iload_n g (i := 3) (by decide +kernel) rfl ?_
          refine j_iload g (i := 6) (by decide +kernel) rfl ?_
          refine j_imul g (by decide +kernel) ?_
          refine j_icmp_le g (off := 18) (tgt := 86) (by decide +kernel) (by decide) (fun c68 => ?_) (fun c68 => ?_)
          · (try rw [if_pos (show (((w_X8_minutesOf (w_X8_minutesOf σ.1 σ.2.2.2.2) σ.2.2.2.2).1 603 (Int32.toNatClampNeg (8 * σ.2.2.2.2 + (5 : Int32)))) * σ.2.2.2.1) ≤ (σ.2.2.1 * (r_X8_minutesOf (w_X8_minutesOf σ.1 σ.2.2.2.2) σ.2.2.2.2)) from c68)] at hc); (rw [if_pos (show (((w_X8_minutesOf (w_X8_minutesOf σ.1 σ.2.2.2.2) σ.2.2.2.2).1 603 (Int32.toNatClampNeg (8 * σ.2.2.2.2 + (5 : Int32)))) * σ.2.2.2.1) ≤ (σ.2.2.1 * (r_X8_minutesOf (w_X8_minutesOf σ.1 σ.2.2.2.2) σ.2.2.2.2)) from c68)] at hp); (try simp only [if_pos (show (((w_X8_minutesOf (w_X8_minutesOf σ.1 σ.2.2.2.2) σ.2.2.2.2).1 603 (Int32.toNatClampNeg (8 * σ.2.2.2.2 + (5 : Int32)))) * σ.2.2.2.1) ≤ (σ.2.2.1 * (r_X8_minutesOf (w_X8_minutesOf σ.1 σ.2.2.2.2) σ.2.2.2.2)) from c68)] at k)
            refine j_iinc g (i := 5) (n := 1) (1) (by decide +kernel) rfl (by decide) rfl ?_
            dsimp only [stL, clL, hdL]
            refine j_goto g (off := -79) (tgt := 10) (by decide +kernel) (by decide) ?_
            exact k _
          · (try rw [if_neg (show ¬ ((((w_X8_minutesOf (w_X8_minutesOf σ.1 σ.2.2.2.2) σ.2.2.2.2).1 603 (Int32.toNatClampNeg (8 * σ.2.2.2.2 + (5 : Int32)))) * σ.2.2.2.1) ≤ (σ.2.2.1 * (r_X8_minutesOf (w_X8_minutesOf σ.1 σ.2.2.2.2) σ.2.2.2.2))) from c68)] at hc); (rw [if_neg (show ¬ ((((w_X8_minutesOf (w_X8_minutesOf σ.1 σ.2.2.2.2) σ.2.2.2.2).1 603 (Int32.toNatClampNeg (8 * σ.2.2.2.2 + (5 : Int32)))) * σ.2.2.2.1) ≤ (σ.2.2.1 * (r_X8_minutesOf (w_X8_minutesOf σ.1 σ.2.2.2.2) σ.2.2.2.2))) from c68)] at hp); (try simp only [if_neg (show ¬ ((((w_X8_minutesOf (w_X8_minutesOf σ.1 σ.2.2.2.2) σ.2.2.2.2).1 603 (Int32.toNatClampNeg (8 * σ.2.2.2.2 + (5 : Int32)))) * σ.2.2.2.1) ≤ (σ.2.2.1 * (r_X8_minutesOf (w_X8_minutesOf σ.1 σ.2.2.2.2) σ.2.2.2.2))) from c68)] at k)
            refine j_iload g (i := 5) (by decide +kernel) rfl ?_
            refine j_istore_n g (i := 2) (by decide +kernel) (by decide) ?_
            dsimp only [stL, clL, hdL]
            refine j_aload_n g (i := 0) (by decide +kernel) rfl ?_
            refine j_iload g (i := 5) (by decide +kernel) rfl ?_
            refine j_iconst g (n := 5) (5) (by decide +kernel) rfl ?_
            obtain ⟨h0, hp⟩ := hp
            refine j_cV2r g v8_249 ⟨rfl, by decide⟩ (by decide +kernel) (by decide +kernel) (Nat.le_of_ble_eq_true rfl) (rnX8_its h0) ?_
            refine j_istore_n g (i := 3) (by decide +kernel) (by decide) ?_
            dsimp only [stL, clL, hdL]
            refine j_iload g (i := 6) (by decide +kernel) rfl ?_
            refine j_istore g (i := 4) (by decide +kernel) (by decide) ?_
            dsimp only [stL, clL, hdL]
            refine j_iinc g (i := 5) (n := 1) (1) (by decide +kernel) rfl (by decide) rfl ?_
            dsimp only [stL, clL, hdL]
            refine j_goto g (off := -79) (tgt := 10) (by decide +kernel) (by decide) ?_
            exact k _
      · (try rw [if_neg (show ¬ (¬ (r_X8_minutesOf σ.1 σ.2.2.2.2) = 0) from c35)] at hc); (rw [if_neg (show ¬ (¬ (r_X8_minutesOf σ.1 σ.2.2.2.2) = 0) from c35)] at hp); (try simp only [if_neg (show ¬ (¬ (r_X8_minutesOf σ.1 σ.2.2.2.2) = 0) from c35)] at k)
        refine j_iconst g (n := 1) (1) (by decide +kernel) rfl ?_
        refine j_goto g (off := 9) (tgt := 48) (by decide +kernel) (by decide) ?_
        refine j_istore g (i := 6) (by decide +kernel) (by decide) ?_
        dsimp only [stL, clL, hdL]
        refine j_iload_n g (i := 2) (by decide +kernel) rfl ?_
        refine j_if_lt g (off := 20) (tgt := 71) (by decide +kernel) (by decide) (fun c51 => ?_) (fun c51 => ?_)
        · (try rw [if_pos (show σ.2.1 < 0 from c51)] at hc); (rw [if_pos (show σ.2.1 < 0 from c51)] at hp); (try simp only [if_pos (show σ.2.1 < 0 from c51)] at k)
          refine j_iload g (i := 5) (by decide +kernel) rfl ?_
          refine j_istore_n g (i := 2) (by decide +kernel) (by decide) ?_
          dsimp only [stL, clL, hdL]
          refine j_aload_n g (i := 0) (by decide +kernel) rfl ?_
          refine j_iload g (i := 5) (by decide +kernel) rfl ?_
          refine j_iconst g (n := 5) (5) (by decide +kernel) rfl ?_
          obtain ⟨h0, hp⟩ := hp
          refine j_cV2r g v8_249 ⟨rfl, by decide⟩ (by decide +kernel) (by decide +kernel) (Nat.le_of_ble_eq_true rfl) (rnX8_its h0) ?_
          refine j_istore_n g (i := 3) (by decide +kernel) (by decide) ?_
          dsimp only [stL, clL, hdL]
          refine j_iload g (i := 6) (by decide +kernel) rfl ?_
          refine j_istore g (i := 4) (by decide +kernel) (by decide) ?_
          dsimp only [stL, clL, hdL]
          refine j_iinc g (i := 5) (n := 1) (1) (by decide +kernel) rfl (by decide) rfl ?_
          dsimp only [stL, clL, hdL]
          refine j_goto g (off := -79) (tgt := 10) (by decide +kernel) (by decide) ?_
          exact k _
        · (try rw [if_neg (show ¬ (σ.2.1 < 0) from c51)] at hc); (rw [if_neg (show ¬ (σ.2.1 < 0) from c51)] at hp); (try simp only [if_neg (show ¬ (σ.2.1 < 0) from c51)] at k)
          refine j_aload_n g (i := 0) (by decide +kernel) rfl ?_
          refine j_iload g (i := 5) (by decide +kernel) rfl ?_
          refine j_iconst g (n := 5) (5) (by decide +kernel) rfl ?_
          obtain ⟨h0, hp⟩ := hp
          refine j_cV2r g v8_249 ⟨rfl, by decide⟩ (by decide +kernel) (by decide +kernel) (Nat.le_of_ble_eq_true rfl) (rnX8_its h0) ?_
          refine j_iload g (i := 4) (by decide +kernel) rfl ?_
          refine j_imul g (by decide +kernel) ?_
          refine j_iload_n g (i := 3) (by decide +kernel) rfl ?_
          refine j_iload g (i := 6) (by decide +kernel) rfl ?_
          refine j_imul g (by decide +kernel) ?_
          refine j_icmp_le g (off := 18) (tgt := 86) (by decide +kernel) (by decide) (fun c68 => ?_) (fun c68 => ?_)
          · (try rw [if_pos (show (((w_X8_minutesOf σ.1 σ.2.2.2.2).1 603 (Int32.toNatClampNeg (8 * σ.2.2.2.2 + (5 : Int32)))) * σ.2.2.2.1) ≤ (σ.2.2.1 * 1) from c68)] at hc); (rw [if_pos (show (((w_X8_minutesOf σ.1 σ.2.2.2.2).1 603 (Int32.toNatClampNeg (8 * σ.2.2.2.2 + (5 : Int32)))) * σ.2.2.2.1) ≤ (σ.2.2.1 * 1) from c68)] at hp); (try simp only [if_pos (show (((w_X8_minutesOf σ.1 σ.2.2.2.2).1 603 (Int32.toNatClampNeg (8 * σ.2.2.2.2 + (5 : Int32)))) * σ.2.2.2.1) ≤ (σ.2.2.1 * 1) from c68)] at k)
            refine j_iinc g (i := 5) (n := 1) (1) (by decide +kernel) rfl (by decide) rfl ?_
            dsimp only [stL, clL, hdL]
            refine j_goto g (off := -79) (tgt := 10) (by decide +kernel) (by decide) ?_
            exact k _
          · (try rw [if_neg (show ¬ ((((w_X8_minutesOf σ.1 σ.2.2.2.2).1 603 (Int32.toNatClampNeg (8 * σ.2.2.2.2 + (5 : Int32)))) * σ.2.2.2.1) ≤ (σ.2.2.1 * 1)) from c68)] at hc); (rw [if_neg (show ¬ ((((w_X8_minutesOf σ.1 σ.2.2.2.2).1 603 (Int32.toNatClampNeg (8 * σ.2.2.2.2 + (5 : Int32)))) * σ.2.2.2.1) ≤ (σ.2.2.1 * 1)) from c68)] at hp); (try simp only [if_neg (show ¬ ((((w_X8_minutesOf σ.1 σ.2.2.2.2).1 603 (Int32.toNatClampNeg (8 * σ.2.2.2.2 + (5 : Int32)))) * σ.2.2.2.1) ≤ (σ.2.2.1 * 1)) from c68)] at k)
            refine j_iload g (i := 5) (by decide +kernel) rfl ?_
            refine j_istore_n g (i := 2) (by decide +kernel) (by decide) ?_
            dsimp only [stL, clL, hdL]
            refine j_aload_n g (i := 0) (by decide +kernel) rfl ?_
            refine j_iload g (i := 5) (by decide +kernel) rfl ?_
            refine j_iconst g (n := 5) (5) (by decide +kernel) rfl ?_
            obtain ⟨h0, hp⟩ := hp
            refine j_cV2r g v8_249 ⟨rfl, by decide⟩ (by decide +kernel) (by decide +kernel) (Nat.le_of_ble_eq_true rfl) (rnX8_its h0) ?_
            refine j_istore_n g (i := 3) (by decide +kernel) (by decide) ?_
            dsimp only [stL, clL, hdL]
            refine j_iload g (i := 6) (by decide +kernel) rfl ?_
            refine j_istore g (i := 4) (by decide +kernel) (by decide) ?_
            dsimp only [stL, clL, hdL]
            refine j_iinc g (i := 5) (n := 1) (1) (by decide +kernel) rfl (by decide) rfl ?_
            dsimp only [stL, clL, hdL]
            refine j_goto g (off := -79) (tgt := 10) (by decide +kernel) (by decide) ?_
            exact k _
theorem sh_X8_worthiestOf_10 {d : Nat} {J : Nat → Lc → List Value → Mm → Prop} {a1 : Int32}  {σ0 : Mm × Int32 × Int32 × Int32 × Int32}  (g : Good mX8_worthiestOf.1 mX8_worthiestOf.2.2.1 mX8_worthiestOf.2.2.2.1 (d + 5) J) : ∀ (N : Nat), (∀ k, k < N → c_X8_worthiestOf_10 a1 (l_X8_worthiestOf_10 a1 σ0 k)) → (∀ k, k < N → q_X8_worthiestOf_10 a1 (l_X8_worthiestOf_10 a1 σ0 k)) → (∀ (j6 : Option Value), J 10 [some (.ref 600), some (.int a1), some (.int ((l_X8_worthiestOf_10 a1 σ0 N).2.1)), some (.int ((l_X8_worthiestOf_10 a1 σ0 N).2.2.1)), some (.int ((l_X8_worthiestOf_10 a1 σ0 N).2.2.2.1)), some (.int ((l_X8_worthiestOf_10 a1 σ0 N).2.2.2.2)), j6] [] ((l_X8_worthiestOf_10 a1 σ0 N).1)) → ∀ (j6 : Option Value), J 10 [some (.ref 600), some (.int a1), some (.int σ0.2.1), some (.int σ0.2.2.1), some (.int σ0.2.2.2.1), some (.int σ0.2.2.2.2), j6] [] σ0.1
  | 0, _, _, k => k
  | N + 1, hc, hp, k => sh_X8_worthiestOf_10  g N (fun i hi => hc i (Nat.lt_succ_of_lt hi)) (fun i hi => hp i (Nat.lt_succ_of_lt hi)) (ps_X8_worthiestOf_10  g (hc N (Nat.lt_succ_self N)) (hp N (Nat.lt_succ_self N)) k)
noncomputable def r_X8_worthiestOf (M : Mm) (a1 : Int32) : Int32 := if ((l_X8_worthiestOf_10 a1 (M, (-1), 0, 1, 0) (Int32.toNatClampNeg (M.1 600 2))).1.1 600 2) ≤ ((l_X8_worthiestOf_10 a1 (M, (-1), 0, 1, 0) (Int32.toNatClampNeg (M.1 600 2))).2.2.2.2) then (l_X8_worthiestOf_10 a1 (M, (-1), 0, 1, 0) (Int32.toNatClampNeg (M.1 600 2))).2.1 else 0
noncomputable def w_X8_worthiestOf (M : Mm) (a1 : Int32) : Mm := if ((l_X8_worthiestOf_10 a1 (M, (-1), 0, 1, 0) (Int32.toNatClampNeg (M.1 600 2))).1.1 600 2) ≤ ((l_X8_worthiestOf_10 a1 (M, (-1), 0, 1, 0) (Int32.toNatClampNeg (M.1 600 2))).2.2.2.2) then (l_X8_worthiestOf_10 a1 (M, (-1), 0, 1, 0) (Int32.toNatClampNeg (M.1 600 2))).1 else M
def p_X8_worthiestOf (M : Mm) (a1 : Int32) : Prop := (∀ k, k < (Int32.toNatClampNeg (M.1 600 2)) → c_X8_worthiestOf_10 a1 (l_X8_worthiestOf_10 a1 (M, (-1), 0, 1, 0) k)) ∧ (∀ k, k < (Int32.toNatClampNeg (M.1 600 2)) → q_X8_worthiestOf_10 a1 (l_X8_worthiestOf_10 a1 (M, (-1), 0, 1, 0) k)) ∧ (¬ c_X8_worthiestOf_10 a1 (l_X8_worthiestOf_10 a1 (M, (-1), 0, 1, 0) (Int32.toNatClampNeg (M.1 600 2)))) ∧ (if ((l_X8_worthiestOf_10 a1 (M, (-1), 0, 1, 0) (Int32.toNatClampNeg (M.1 600 2))).1.1 600 2) ≤ ((l_X8_worthiestOf_10 a1 (M, (-1), 0, 1, 0) (Int32.toNatClampNeg (M.1 600 2))).2.2.2.2) then True else (if ¬ ((a1 >>> (((l_X8_worthiestOf_10 a1 (M, (-1), 0, 1, 0) (Int32.toNatClampNeg (M.1 600 2))).2.2.2.2) &&& 31)) &&& 1) = 1 then True else (p_X8_minutesOf (l_X8_worthiestOf_10 a1 (M, (-1), 0, 1, 0) (Int32.toNatClampNeg (M.1 600 2))).1 ((l_X8_worthiestOf_10 a1 (M, (-1), 0, 1, 0) (Int32.toNatClampNeg (M.1 600 2))).2.2.2.2)) ∧ (if ¬ (r_X8_minutesOf (l_X8_worthiestOf_10 a1 (M, (-1), 0, 1, 0) (Int32.toNatClampNeg (M.1 600 2))).1 ((l_X8_worthiestOf_10 a1 (M, (-1), 0, 1, 0) (Int32.toNatClampNeg (M.1 600 2))).2.2.2.2)) = 0 then (p_X8_minutesOf (w_X8_minutesOf (l_X8_worthiestOf_10 a1 (M, (-1), 0, 1, 0) (Int32.toNatClampNeg (M.1 600 2))).1 ((l_X8_worthiestOf_10 a1 (M, (-1), 0, 1, 0) (Int32.toNatClampNeg (M.1 600 2))).2.2.2.2)) ((l_X8_worthiestOf_10 a1 (M, (-1), 0, 1, 0) (Int32.toNatClampNeg (M.1 600 2))).2.2.2.2)) ∧ (if ((l_X8_worthiestOf_10 a1 (M, (-1), 0, 1, 0) (Int32.toNatClampNeg (M.1 600 2))).2.1) < 0 then (vp_in (8 * ((l_X8_worthiestOf_10 a1 (M, (-1), 0, 1, 0) (Int32.toNatClampNeg (M.1 600 2))).2.2.2.2) + (5 : Int32)) 48) ∧ True else (vp_in (8 * ((l_X8_worthiestOf_10 a1 (M, (-1), 0, 1, 0) (Int32.toNatClampNeg (M.1 600 2))).2.2.2.2) + (5 : Int32)) 48) ∧ (if (((w_X8_minutesOf (w_X8_minutesOf (l_X8_worthiestOf_10 a1 (M, (-1), 0, 1, 0) (Int32.toNatClampNeg (M.1 600 2))).1 ((l_X8_worthiestOf_10 a1 (M, (-1), 0, 1, 0) (Int32.toNatClampNeg (M.1 600 2))).2.2.2.2)) ((l_X8_worthiestOf_10 a1 (M, (-1), 0, 1, 0) (Int32.toNatClampNeg (M.1 600 2))).2.2.2.2)).1 603 (Int32.toNatClampNeg (8 * ((l_X8_worthiestOf_10 a1 (M, (-1), 0, 1, 0) (Int32.toNatClampNeg (M.1 600 2))).2.2.2.2) + (5 : Int32)))) * ((l_X8_worthiestOf_10 a1 (M, (-1), 0, 1, 0) (Int32.toNatClampNeg (M.1 600 2))).2.2.2.1)) ≤ (((l_X8_worthiestOf_10 a1 (M, (-1), 0, 1, 0) (Int32.toNatClampNeg (M.1 600 2))).2.2.1) * (r_X8_minutesOf (w_X8_minutesOf (l_X8_worthiestOf_10 a1 (M, (-1), 0, 1, 0) (Int32.toNatClampNeg (M.1 600 2))).1 ((l_X8_worthiestOf_10 a1 (M, (-1), 0, 1, 0) (Int32.toNatClampNeg (M.1 600 2))).2.2.2.2)) ((l_X8_worthiestOf_10 a1 (M, (-1), 0, 1, 0) (Int32.toNatClampNeg (M.1 600 2))).2.2.2.2))) then True else (vp_in (8 * ((l_X8_worthiestOf_10 a1 (M, (-1), 0, 1, 0) (Int32.toNatClampNeg (M.1 600 2))).2.2.2.2) + (5 : Int32)) 48) ∧ True)) else (if ((l_X8_worthiestOf_10 a1 (M, (-1), 0, 1, 0) (Int32.toNatClampNeg (M.1 600 2))).2.1) < 0 then (vp_in (8 * ((l_X8_worthiestOf_10 a1 (M, (-1), 0, 1, 0) (Int32.toNatClampNeg (M.1 600 2))).2.2.2.2) + (5 : Int32)) 48) ∧ True else (vp_in (8 * ((l_X8_worthiestOf_10 a1 (M, (-1), 0, 1, 0) (Int32.toNatClampNeg (M.1 600 2))).2.2.2.2) + (5 : Int32)) 48) ∧ (if (((w_X8_minutesOf (l_X8_worthiestOf_10 a1 (M, (-1), 0, 1, 0) (Int32.toNatClampNeg (M.1 600 2))).1 ((l_X8_worthiestOf_10 a1 (M, (-1), 0, 1, 0) (Int32.toNatClampNeg (M.1 600 2))).2.2.2.2)).1 603 (Int32.toNatClampNeg (8 * ((l_X8_worthiestOf_10 a1 (M, (-1), 0, 1, 0) (Int32.toNatClampNeg (M.1 600 2))).2.2.2.2) + (5 : Int32)))) * ((l_X8_worthiestOf_10 a1 (M, (-1), 0, 1, 0) (Int32.toNatClampNeg (M.1 600 2))).2.2.2.1)) ≤ (((l_X8_worthiestOf_10 a1 (M, (-1), 0, 1, 0) (Int32.toNatClampNeg (M.1 600 2))).2.2.1) * 1) then True else (vp_in (8 * ((l_X8_worthiestOf_10 a1 (M, (-1), 0, 1, 0) (Int32.toNatClampNeg (M.1 600 2))).2.2.2.2) + (5 : Int32)) 48) ∧ True)))))
theorem rnX8_worthiestOf {d : Nat} {M : Mm} {a1 : Int32}  (hp : p_X8_worthiestOf M a1) : Rn (d + 5) mX8_worthiestOf [.ref 600, .int a1] M (some (.int (r_X8_worthiestOf M a1))) (w_X8_worthiestOf M a1) := by
  refine Rn.of [some (.ref 600), some (.int a1), none, none, none, none, none] (by decide +kernel) rfl (Nat.le_of_ble_eq_true rfl) rfl (fun J g hr => ?_)
  unfold p_X8_worthiestOf at hp
  refine j_iconst g (n := -1) (-1) (by decide +kernel) rfl ?_
  refine j_istore_n g (i := 2) (by decide +kernel) (by decide) ?_
  dsimp only [stL, clL, hdL]
  refine j_iconst g (n := 0) (0) (by decide +kernel) rfl ?_
  refine j_istore_n g (i := 3) (by decide +kernel) (by decide) ?_
  dsimp only [stL, clL, hdL]
  refine j_iconst g (n := 1) (1) (by decide +kernel) rfl ?_
  refine j_istore g (i := 4) (by decide +kernel) (by decide) ?_
  dsimp only [stL, clL, hdL]
  refine j_iconst g (n := 0) (0) (by decide +kernel) rfl ?_
  refine j_istore g (i := 5) (by decide +kernel) (by decide) ?_
  dsimp only [stL, clL, hdL]
  obtain ⟨h0, hp⟩ := hp
  have hc_10_1 := h0
  obtain ⟨h0, hp⟩ := hp
  have hq_10_1 := h0
  obtain ⟨h0, hp⟩ := hp
  have hx_10_1 := h0
  refine sh_X8_worthiestOf_10   g (σ0 := (M, (-1), 0, 1, 0)) (Int32.toNatClampNeg (M.1 600 2)) hc_10_1 hq_10_1 ?_ _
  intro j6_1
  refine j_iload g (i := 5) (by decide +kernel) rfl ?_
  refine j_aload_n g (i := 0) (by decide +kernel) rfl ?_
  refine j_gI g f8_99 (by decide +kernel) (by decide +kernel) (by decide +kernel) ?_
  refine j_icmp_ge g (off := 76) (tgt := 92) (by decide +kernel) (by decide) (fun c16 => ?_) (fun c16 => ?_)
  · rw [if_pos (show ((l_X8_worthiestOf_10 a1 (M, (-1), 0, 1, 0) (Int32.toNatClampNeg (M.1 600 2))).1.1 600 2) ≤ ((l_X8_worthiestOf_10 a1 (M, (-1), 0, 1, 0) (Int32.toNatClampNeg (M.1 600 2))).2.2.2.2) from c16)] at hp
    refine j_iload_n g (i := 2) (by decide +kernel) rfl ?_
    refine hr.1 _ _ _ _ (by decide +kernel) ⟨_, rfl, by first | rfl | exact b2i_nar | decide +kernel⟩ ?_ ?_
    · unfold r_X8_worthiestOf; first | (simp only [if_pos (show ((l_X8_worthiestOf_10 a1 (M, (-1), 0, 1, 0) (Int32.toNatClampNeg (M.1 600 2))).1.1 600 2) ≤ ((l_X8_worthiestOf_10 a1 (M, (-1), 0, 1, 0) (Int32.toNatClampNeg (M.1 600 2))).2.2.2.2) from c16)]; done) | (simp only [if_pos (show ((l_X8_worthiestOf_10 a1 (M, (-1), 0, 1, 0) (Int32.toNatClampNeg (M.1 600 2))).1.1 600 2) ≤ ((l_X8_worthiestOf_10 a1 (M, (-1), 0, 1, 0) (Int32.toNatClampNeg (M.1 600 2))).2.2.2.2) from c16)]; rfl) | rfl
    · unfold w_X8_worthiestOf; first | (simp only [if_pos (show ((l_X8_worthiestOf_10 a1 (M, (-1), 0, 1, 0) (Int32.toNatClampNeg (M.1 600 2))).1.1 600 2) ≤ ((l_X8_worthiestOf_10 a1 (M, (-1), 0, 1, 0) (Int32.toNatClampNeg (M.1 600 2))).2.2.2.2) from c16)]; done) | (simp only [if_pos (show ((l_X8_worthiestOf_10 a1 (M, (-1), 0, 1, 0) (Int32.toNatClampNeg (M.1 600 2))).1.1 600 2) ≤ ((l_X8_worthiestOf_10 a1 (M, (-1), 0, 1, 0) (Int32.toNatClampNeg (M.1 600 2))).2.2.2.2) from c16)]; rfl) | rfl
  · rw [if_neg (show ¬ (((l_X8_worthiestOf_10 a1 (M, (-1), 0, 1, 0) (Int32.toNatClampNeg (M.1 600 2))).1.1 600 2) ≤ ((l_X8_worthiestOf_10 a1 (M, (-1), 0, 1, 0) (Int32.toNatClampNeg (M.1 600 2))).2.2.2.2)) from c16)] at hp
    refine j_iload_n g (i := 1) (by decide +kernel) rfl ?_
    refine j_iload g (i := 5) (by decide +kernel) rfl ?_
    refine j_ishr g (by decide +kernel) ?_
    refine j_iconst g (n := 1) (1) (by decide +kernel) rfl ?_
    refine j_iand g (by decide +kernel) ?_
    refine j_iconst g (n := 1) (1) (by decide +kernel) rfl ?_
    refine j_icmp_ne g (off := 60) (tgt := 86) (by decide +kernel) (by decide) (fun c26 => ?_) (fun c26 => ?_)
    · rw [if_pos (show ¬ ((a1 >>> (((l_X8_worthiestOf_10 a1 (M, (-1), 0, 1, 0) (Int32.toNatClampNeg (M.1 600 2))).2.2.2.2) &&& 31)) &&& 1) = 1 from c26)] at hp
      refine j_iinc g (i := 5) (n := 1) (1) (by decide +kernel) rfl (by decide) rfl ?_
      dsimp only [stL, clL, hdL]
      refine j_goto g (off := -79) (tgt := 10) (by decide +kernel) (by decide) ?_
      refine absurd (ci_X8_worthiestOf_10.mpr ?_) hx_10_1
      simp only [if_neg (show ¬ (((l_X8_worthiestOf_10 a1 (M, (-1), 0, 1, 0) (Int32.toNatClampNeg (M.1 600 2))).1.1 600 2) ≤ ((l_X8_worthiestOf_10 a1 (M, (-1), 0, 1, 0) (Int32.toNatClampNeg (M.1 600 2))).2.2.2.2)) from c16), if_pos (show ¬ ((a1 >>> (((l_X8_worthiestOf_10 a1 (M, (-1), 0, 1, 0) (Int32.toNatClampNeg (M.1 600 2))).2.2.2.2) &&& 31)) &&& 1) = 1 from c26)]
    · rw [if_neg (show ¬ (¬ ((a1 >>> (((l_X8_worthiestOf_10 a1 (M, (-1), 0, 1, 0) (Int32.toNatClampNeg (M.1 600 2))).2.2.2.2) &&& 31)) &&& 1) = 1) from c26)] at hp
      refine j_aload_n g (i := 0) (by decide +kernel) rfl ?_
      refine j_iload g (i := 5) (by decide +kernel) rfl ?_
      obtain ⟨h0, hp⟩ := hp
      refine j_cV1r g v8_283 ⟨rfl, by decide⟩ (by decide +kernel) (by decide +kernel) (Nat.le_of_ble_eq_true rfl) (rnX8_minutesOf h0) ?_
      refine j_if_ne g (off := 7) (tgt := 42) (by decide +kernel) (by decide) (fun c35 => ?_) (fun c35 => ?_)
      · rw [if_pos (show ¬ (r_X8_minutesOf (l_X8_worthiestOf_10 a1 (M, (-1), 0, 1, 0) (Int32.toNatClampNeg (M.1 600 2))).1 ((l_X8_worthiestOf_10 a1 (M, (-1), 0, 1, 0) (Int32.toNatClampNeg (M.1 600 2))).2.2.2.2)) = 0 from c35)] at hp
        refine j_aload_n g (i := 0) (by decide +kernel) rfl ?_
        refine j_iload g (i := 5) (by decide +kernel) rfl ?_
        obtain ⟨h0, hp⟩ := hp
        refine j_cV1r g v8_283 ⟨rfl, by decide⟩ (by decide +kernel) (by decide +kernel) (Nat.le_of_ble_eq_true rfl) (rnX8_minutesOf h0) ?_
        refine j_istore g (i := 6) (by decide +kernel) (by decide) ?_
        dsimp only [stL, clL, hdL]
        refine j_iload_n g (i := 2) (by decide +kernel) rfl ?_
        refine j_if_lt g (off := 20) (tgt := 71) (by decide +kernel) (by decide) (fun c51 => ?_) (fun c51 => ?_)
        · rw [if_pos (show ((l_X8_worthiestOf_10 a1 (M, (-1), 0, 1, 0) (Int32.toNatClampNeg (M.1 600 2))).2.1) < 0 from c51)] at hp
          refine j_iload g (i := 5) (by decide +kernel) rfl ?_
          refine j_istore_n g (i := 2) (by decide +kernel) (by decide) ?_
          dsimp only [stL, clL, hdL]
          refine j_aload_n g (i := 0) (by decide +kernel) rfl ?_
          refine j_iload g (i := 5) (by decide +kernel) rfl ?_
          refine j_iconst g (n := 5) (5) (by decide +kernel) rfl ?_
          obtain ⟨h0, hp⟩ := hp
          refine j_cV2r g v8_249 ⟨rfl, by decide⟩ (by decide +kernel) (by decide +kernel) (Nat.le_of_ble_eq_true rfl) (rnX8_its h0) ?_
          refine j_istore_n g (i := 3) (by decide +kernel) (by decide) ?_
          dsimp only [stL, clL, hdL]
          refine j_iload g (i := 6) (by decide +kernel) rfl ?_
          refine j_istore g (i := 4) (by decide +kernel) (by decide) ?_
          dsimp only [stL, clL, hdL]
          refine j_iinc g (i := 5) (n := 1) (1) (by decide +kernel) rfl (by decide) rfl ?_
          dsimp only [stL, clL, hdL]
          refine j_goto g (off := -79) (tgt := 10) (by decide +kernel) (by decide) ?_
          refine absurd (ci_X8_worthiestOf_10.mpr ?_) hx_10_1
          simp only [if_neg (show ¬ (((l_X8_worthiestOf_10 a1 (M, (-1), 0, 1, 0) (Int32.toNatClampNeg (M.1 600 2))).1.1 600 2) ≤ ((l_X8_worthiestOf_10 a1 (M, (-1), 0, 1, 0) (Int32.toNatClampNeg (M.1 600 2))).2.2.2.2)) from c16), if_neg (show ¬ (¬ ((a1 >>> (((l_X8_worthiestOf_10 a1 (M, (-1), 0, 1, 0) (Int32.toNatClampNeg (M.1 600 2))).2.2.2.2) &&& 31)) &&& 1) = 1) from c26), if_pos (show ¬ (r_X8_minutesOf (l_X8_worthiestOf_10 a1 (M, (-1), 0, 1, 0) (Int32.toNatClampNeg (M.1 600 2))).1 ((l_X8_worthiestOf_10 a1 (M, (-1), 0, 1, 0) (Int32.toNatClampNeg (M.1 600 2))).2.2.2.2)) = 0 from c35), if_pos (show ((l_X8_worthiestOf_10 a1 (M, (-1), 0, 1, 0) (Int32.toNatClampNeg (M.1 600 2))).2.1) < 0 from c51)]
        · rw [if_neg (show ¬ (((l_X8_worthiestOf_10 a1 (M, (-1), 0, 1, 0) (Int32.toNatClampNeg (M.1 600 2))).2.1) < 0) from c51)] at hp
          refine j_aload_n g (i := 0) (by decide +kernel) rfl ?_
          refine j_iload g (i := 5) (by decide +kernel) rfl ?_
          refine j_iconst g (n := 5) (5) (by decide +kernel) rfl ?_
          obtain ⟨h0, hp⟩ := hp
          refine j_cV2r g v8_249 ⟨rfl, by decide⟩ (by decide +kernel) (by decide +kernel) (Nat.le_of_ble_eq_true rfl) (rnX8_its h0) ?_
          refine j_iload g (i := 4) (by decide +kernel) rfl ?_
          refine j_imul g (by decide +kernel) ?_
          refine j_iload_n g (i := 3) (by decide +kernel) rfl ?_
          refine j_iload g (i := 6) (by decide +kernel) rfl ?_
          refine j_imul g (by decide +kernel) ?_
          refine j_icmp_le g (off := 18) (tgt := 86) (by decide +kernel) (by decide) (fun c68 => ?_) (fun c68 => ?_)
          · rw [if_pos (show (((w_X8_minutesOf (w_X8_minutesOf (l_X8_worthiestOf_10 a1 (M, (-1), 0, 1, 0) (Int32.toNatClampNeg (M.1 600 2))).1 ((l_X8_worthiestOf_10 a1 (M, (-1), 0, 1, 0) (Int32.toNatClampNeg (M.1 600 2))).2.2.2.2)) ((l_X8_worthiestOf_10 a1 (M, (-1), 0, 1, 0) (Int32.toNatClampNeg (M.1 600 2))).2.2.2.2)).1 603 (Int32.toNatClampNeg (8 * ((l_X8_worthiestOf_10 a1 (M, (-1), 0, 1, 0) (Int32.toNatClampNeg (M.1 600 2))).2.2.2.2) + (5 : Int32)))) * ((l_X8_worthiestOf_10 a1 (M, (-1), 0, 1, 0) (Int32.toNatClampNeg (M.1 600 2))).2.2.2.1)) ≤ (((l_X8_worthiestOf_10 a1 (M, (-1), 0, 1, 0) (Int32.toNatClampNeg (M.1 600 2))).2.2.1) * (r_X8_minutesOf (w_X8_minutesOf (l_X8_worthiestOf_10 a1 (M, (-1), 0, 1, 0) (Int32.toNatClampNeg (M.1 600 2))).1 ((l_X8_worthiestOf_10 a1 (M, (-1), 0, 1, 0) (Int32.toNatClampNeg (M.1 600 2))).2.2.2.2)) ((l_X8_worthiestOf_10 a1 (M, (-1), 0, 1, 0) (Int32.toNatClampNeg (M.1 600 2))).2.2.2.2))) from c68)] at hp
            refine j_iinc g (i := 5) (n := 1) (1) (by decide +kernel) rfl (by decide) rfl ?_
            dsimp only [stL, clL, hdL]
            refine j_goto g (off := -79) (tgt := 10) (by decide +kernel) (by decide) ?_
            refine absurd (ci_X8_worthiestOf_10.mpr ?_) hx_10_1
            simp only [if_neg (show ¬ (((l_X8_worthiestOf_10 a1 (M, (-1), 0, 1, 0) (Int32.toNatClampNeg (M.1 600 2))).1.1 600 2) ≤ ((l_X8_worthiestOf_10 a1 (M, (-1), 0, 1, 0) (Int32.toNatClampNeg (M.1 600 2))).2.2.2.2)) from c16), if_neg (show ¬ (¬ ((a1 >>> (((l_X8_worthiestOf_10 a1 (M, (-1), 0, 1, 0) (Int32.toNatClampNeg (M.1 600 2))).2.2.2.2) &&& 31)) &&& 1) = 1) from c26), if_pos (show ¬ (r_X8_minutesOf (l_X8_worthiestOf_10 a1 (M, (-1), 0, 1, 0) (Int32.toNatClampNeg (M.1 600 2))).1 ((l_X8_worthiestOf_10 a1 (M, (-1), 0, 1, 0) (Int32.toNatClampNeg (M.1 600 2))).2.2.2.2)) = 0 from c35), if_neg (show ¬ (((l_X8_worthiestOf_10 a1 (M, (-1), 0, 1, 0) (Int32.toNatClampNeg (M.1 600 2))).2.1) < 0) from c51), if_pos (show (((w_X8_minutesOf (w_X8_minutesOf (l_X8_worthiestOf_10 a1 (M, (-1), 0, 1, 0) (Int32.toNatClampNeg (M.1 600 2))).1 ((l_X8_worthiestOf_10 a1 (M, (-1), 0, 1, 0) (Int32.toNatClampNeg (M.1 600 2))).2.2.2.2)) ((l_X8_worthiestOf_10 a1 (M, (-1), 0, 1, 0) (Int32.toNatClampNeg (M.1 600 2))).2.2.2.2)).1 603 (Int32.toNatClampNeg (8 * ((l_X8_worthiestOf_10 a1 (M, (-1), 0, 1, 0) (Int32.toNatClampNeg (M.1 600 2))).2.2.2.2) + (5 : Int32)))) * ((l_X8_worthiestOf_10 a1 (M, (-1), 0, 1, 0) (Int32.toNatClampNeg (M.1 600 2))).2.2.2.1)) ≤ (((l_X8_worthiestOf_10 a1 (M, (-1), 0, 1, 0) (Int32.toNatClampNeg (M.1 600 2))).2.2.1) * (r_X8_minutesOf (w_X8_minutesOf (l_X8_worthiestOf_10 a1 (M, (-1), 0, 1, 0) (Int32.toNatClampNeg (M.1 600 2))).1 ((l_X8_worthiestOf_10 a1 (M, (-1), 0, 1, 0) (Int32.toNatClampNeg (M.1 600 2))).2.2.2.2)) ((l_X8_worthiestOf_10 a1 (M, (-1), 0, 1, 0) (Int32.toNatClampNeg (M.1 600 2))).2.2.2.2))) from c68)]
          · rw [if_neg (show ¬ ((((w_X8_minutesOf (w_X8_minutesOf (l_X8_worthiestOf_10 a1 (M, (-1), 0, 1, 0) (Int32.toNatClampNeg (M.1 600 2))).1 ((l_X8_worthiestOf_10 a1 (M, (-1), 0, 1, 0) (Int32.toNatClampNeg (M.1 600 2))).2.2.2.2)) ((l_X8_worthiestOf_10 a1 (M, (-1), 0, 1, 0) (Int32.toNatClampNeg (M.1 600 2))).2.2.2.2)).1 603 (Int32.toNatClampNeg (8 * ((l_X8_worthiestOf_10 a1 (M, (-1), 0, 1, 0) (Int32.toNatClampNeg (M.1 600 2))).2.2.2.2) + (5 : Int32)))) * ((l_X8_worthiestOf_10 a1 (M, (-1), 0, 1, 0) (Int32.toNatClampNeg (M.1 600 2))).2.2.2.1)) ≤ (((l_X8_worthiestOf_10 a1 (M, (-1), 0, 1, 0) (Int32.toNatClampNeg (M.1 600 2))).2.2.1) * (r_X8_minutesOf (w_X8_minutesOf (l_X8_worthiestOf_10 a1 (M, (-1), 0, 1, 0) (Int32.toNatClampNeg (M.1 600 2))).1 ((l_X8_worthiestOf_10 a1 (M, (-1), 0, 1, 0) (Int32.toNatClampNeg (M.1 600 2))).2.2.2.2)) ((l_X8_worthiestOf_10 a1 (M, (-1), 0, 1, 0) (Int32.toNatClampNeg (M.1 600 2))).2.2.2.2)))) from c68)] at hp
            refine j_iload g (i := 5) (by decide +kernel) rfl ?_
            refine j_istore_n g (i := 2) (by decide +kernel) (by decide) ?_
            dsimp only [stL, clL, hdL]
            refine j_aload_n g (i := 0) (by decide +kernel) rfl ?_
            refine j_iload g (i := 5) (by decide +kernel) rfl ?_
            refine j_iconst g (n := 5) (5) (by decide +kernel) rfl ?_
            obtain ⟨h0, hp⟩ := hp
            refine j_cV2r g v8_249 ⟨rfl, by decide⟩ (by decide +kernel) (by decide +kernel) (Nat.le_of_ble_eq_true rfl) (rnX8_its h0) ?_
            refine j_istore_n g (i := 3) (by decide +kernel) (by decide) ?_
            dsimp only [stL, clL, hdL]
            refine j_iload g (i := 6) (by decide +kernel) rfl ?_
            refine j_istore g (i := 4) (by decide +kernel) (by decide) ?_
            dsimp only [stL, clL, hdL]
            refine j_iinc g (i := 5) (n := 1) (1) (by decide +kernel) rfl (by decide) rfl ?_
            dsimp only [stL, clL, hdL]
            refine j_goto g (off := -79) (tgt := 10) (by decide +kernel) (by decide) ?_
            refine absurd (ci_X8_worthiestOf_10.mpr ?_) hx_10_1
            simp only [if_neg (show ¬ (((l_X8_worthiestOf_10 a1 (M, (-1), 0, 1, 0) (Int32.toNatClampNeg (M.1 600 2))).1.1 600 2) ≤ ((l_X8_worthiestOf_10 a1 (M, (-1), 0, 1, 0) (Int32.toNatClampNeg (M.1 600 2))).2.2.2.2)) from c16), if_neg (show ¬ (¬ ((a1 >>> (((l_X8_worthiestOf_10 a1 (M, (-1), 0, 1, 0) (Int32.toNatClampNeg (M.1 600 2))).2.2.2.2) &&& 31)) &&& 1) = 1) from c26), if_pos (show ¬ (r_X8_minutesOf (l_X8_worthiestOf_10 a1 (M, (-1), 0, 1, 0) (Int32.toNatClampNeg (M.1 600 2))).1 ((l_X8_worthiestOf_10 a1 (M, (-1), 0, 1, 0) (Int32.toNatClampNeg (M.1 600 2))).2.2.2.2)) = 0 from c35), if_neg (show ¬ (((l_X8_worthiestOf_10 a1 (M, (-1), 0, 1, 0) (Int32.toNatClampNeg (M.1 600 2))).2.1) < 0) from c51), if_neg (show ¬ ((((w_X8_minutesOf (w_X8_minutesOf (l_X8_worthiestOf_10 a1 (M, (-1), 0, 1, 0) (Int32.toNatClampNeg (M.1 600 2))).1 ((l_X8_worthiestOf_10 a1 (M, (-1), 0, 1, 0) (Int32.toNatClampNeg (M.1 600 2))).2.2.2.2)) ((l_X8_worthiestOf_10 a1 (M, (-1), 0, 1, 0) (Int32.toNatClampNeg (M.1 600 2))).2.2.2.2)).1 603 (Int32.toNatClampNeg (8 * ((l_X8_worthiestOf_10 a1 (M, (-1), 0, 1, 0) (Int32.toNatClampNeg (M.1 600 2))).2.2.2.2) + (5 : Int32)))) * ((l_X8_worthiestOf_10 a1 (M, (-1), 0, 1, 0) (Int32.toNatClampNeg (M.1 600 2))).2.2.2.1)) ≤ (((l_X8_worthiestOf_10 a1 (M, (-1), 0, 1, 0) (Int32.toNatClampNeg (M.1 600 2))).2.2.1) * (r_X8_minutesOf (w_X8_minutesOf (l_X8_worthiestOf_10 a1 (M, (-1), 0, 1, 0) (Int32.toNatClampNeg (M.1 600 2))).1 ((l_X8_worthiestOf_10 a1 (M, (-1), 0, 1, 0) (Int32.toNatClampNeg (M.1 600 2))).2.2.2.2)) ((l_X8_worthiestOf_10 a1 (M, (-1), 0, 1, 0) (Int32.toNatClampNeg (M.1 600 2))).2.2.2.2)))) from c68)]
      · rw [if_neg (show ¬ (¬ (r_X8_minutesOf (l_X8_worthiestOf_10 a1 (M, (-1), 0, 1, 0) (Int32.toNatClampNeg (M.1 600 2))).1 ((l_X8_worthiestOf_10 a1 (M, (-1), 0, 1, 0) (Int32.toNatClampNeg (M.1 600 2))).2.2.2.2)) = 0) from c35)] at hp
        refine j_iconst g (n := 1) (1) (by decide +kernel) rfl ?_
        refine j_goto g (off := 9) (tgt := 48) (by decide +kernel) (by decide) ?_
        refine j_istore g (i := 6) (by decide +kernel) (by decide) ?_
        dsimp only [stL, clL, hdL]
        refine j_iload_n g (i := 2) (by decide +kernel) rfl ?_
        refine j_if_lt g (off := 20) (tgt := 71) (by decide +kernel) (by decide) (fun c51 => ?_) (fun c51 => ?_)
        · rw [if_pos (show ((l_X8_worthiestOf_10 a1 (M, (-1), 0, 1, 0) (Int32.toNatClampNeg (M.1 600 2))).2.1) < 0 from c51)] at hp
          refine j_iload g (i := 5) (by decide +kernel) rfl ?_
          refine j_istore_n g (i := 2) (by decide +kernel) (by decide) ?_
          dsimp only [stL, clL, hdL]
          refine j_aload_n g (i := 0) (by decide +kernel) rfl ?_
          refine j_iload g (i := 5) (by decide +kernel) rfl ?_
          refine j_iconst g (n := 5) (5) (by decide +kernel) rfl ?_
          obtain ⟨h0, hp⟩ := hp
          refine j_cV2r g v8_249 ⟨rfl, by decide⟩ (by decide +kernel) (by decide +kernel) (Nat.le_of_ble_eq_true rfl) (rnX8_its h0) ?_
          refine j_istore_n g (i := 3) (by decide +kernel) (by decide) ?_
          dsimp only [stL, clL, hdL]
          refine j_iload g (i := 6) (by decide +kernel) rfl ?_
          refine j_istore g (i := 4) (by decide +kernel) (by decide) ?_
          dsimp only [stL, clL, hdL]
          refine j_iinc g (i := 5) (n := 1) (1) (by decide +kernel) rfl (by decide) rfl ?_
          dsimp only [stL, clL, hdL]
          refine j_goto g (off := -79) (tgt := 10) (by decide +kernel) (by decide) ?_
          refine absurd (ci_X8_worthiestOf_10.mpr ?_) hx_10_1
          simp only [if_neg (show ¬ (((l_X8_worthiestOf_10 a1 (M, (-1), 0, 1, 0) (Int32.toNatClampNeg (M.1 600 2))).1.1 600 2) ≤ ((l_X8_worthiestOf_10 a1 (M, (-1), 0, 1, 0) (Int32.toNatClampNeg (M.1 600 2))).2.2.2.2)) from c16), if_neg (show ¬ (¬ ((a1 >>> (((l_X8_worthiestOf_10 a1 (M, (-1), 0, 1, 0) (Int32.toNatClampNeg (M.1 600 2))).2.2.2.2) &&& 31)) &&& 1) = 1) from c26), if_neg (show ¬ (¬ (r_X8_minutesOf (l_X8_worthiestOf_10 a1 (M, (-1), 0, 1, 0) (Int32.toNatClampNeg (M.1 600 2))).1 ((l_X8_worthiestOf_10 a1 (M, (-1), 0, 1, 0) (Int32.toNatClampNeg (M.1 600 2))).2.2.2.2)) = 0) from c35), if_pos (show ((l_X8_worthiestOf_10 a1 (M, (-1), 0, 1, 0) (Int32.toNatClampNeg (M.1 600 2))).2.1) < 0 from c51)]
        · rw [if_neg (show ¬ (((l_X8_worthiestOf_10 a1 (M, (-1), 0, 1, 0) (Int32.toNatClampNeg (M.1 600 2))).2.1) < 0) from c51)] at hp
          refine j_aload_n g (i := 0) (by decide +kernel) rfl ?_
          refine j_iload g (i := 5) (by decide +kernel) rfl ?_
          refine j_iconst g (n := 5) (5) (by decide +kernel) rfl ?_
          obtain ⟨h0, hp⟩ := hp
          refine j_cV2r g v8_249 ⟨rfl, by decide⟩ (by decide +kernel) (by decide +kernel) (Nat.le_of_ble_eq_true rfl) (rnX8_its h0) ?_
          refine j_iload g (i := 4) (by decide +kernel) rfl ?_
          refine j_imul g (by decide +kernel) ?_
          refine j_iload_n g (i := 3) (by decide +kernel) rfl ?_
          refine j_iload g (i := 6) (by decide +kernel) rfl ?_
          refine j_imul g (by decide +kernel) ?_
          refine j_icmp_le g (off := 18) (tgt := 86) (by decide +kernel) (by decide) (fun c68 => ?_) (fun c68 => ?_)
          · rw [if_pos (show (((w_X8_minutesOf (l_X8_worthiestOf_10 a1 (M, (-1), 0, 1, 0) (Int32.toNatClampNeg (M.1 600 2))).1 ((l_X8_worthiestOf_10 a1 (M, (-1), 0, 1, 0) (Int32.toNatClampNeg (M.1 600 2))).2.2.2.2)).1 603 (Int32.toNatClampNeg (8 * ((l_X8_worthiestOf_10 a1 (M, (-1), 0, 1, 0) (Int32.toNatClampNeg (M.1 600 2))).2.2.2.2) + (5 : Int32)))) * ((l_X8_worthiestOf_10 a1 (M, (-1), 0, 1, 0) (Int32.toNatClampNeg (M.1 600 2))).2.2.2.1)) ≤ (((l_X8_worthiestOf_10 a1 (M, (-1), 0, 1, 0) (Int32.toNatClampNeg (M.1 600 2))).2.2.1) * 1) from c68)] at hp
            refine j_iinc g (i := 5) (n := 1) (1) (by decide +kernel) rfl (by decide) rfl ?_
            dsimp only [stL, clL, hdL]
            refine j_goto g (off := -79) (tgt := 10) (by decide +kernel) (by decide) ?_
            refine absurd (ci_X8_worthiestOf_10.mpr ?_) hx_10_1
            simp only [if_neg (show ¬ (((l_X8_worthiestOf_10 a1 (M, (-1), 0, 1, 0) (Int32.toNatClampNeg (M.1 600 2))).1.1 600 2) ≤ ((l_X8_worthiestOf_10 a1 (M, (-1), 0, 1, 0) (Int32.toNatClampNeg (M.1 600 2))).2.2.2.2)) from c16), if_neg (show ¬ (¬ ((a1 >>> (((l_X8_worthiestOf_10 a1 (M, (-1), 0, 1, 0) (Int32.toNatClampNeg (M.1 600 2))).2.2.2.2) &&& 31)) &&& 1) = 1) from c26), if_neg (show ¬ (¬ (r_X8_minutesOf (l_X8_worthiestOf_10 a1 (M, (-1), 0, 1, 0) (Int32.toNatClampNeg (M.1 600 2))).1 ((l_X8_worthiestOf_10 a1 (M, (-1), 0, 1, 0) (Int32.toNatClampNeg (M.1 600 2))).2.2.2.2)) = 0) from c35), if_neg (show ¬ (((l_X8_worthiestOf_10 a1 (M, (-1), 0, 1, 0) (Int32.toNatClampNeg (M.1 600 2))).2.1) < 0) from c51), if_pos (show (((w_X8_minutesOf (l_X8_worthiestOf_10 a1 (M, (-1), 0, 1, 0) (Int32.toNatClampNeg (M.1 600 2))).1 ((l_X8_worthiestOf_10 a1 (M, (-1), 0, 1, 0) (Int32.toNatClampNeg (M.1 600 2))).2.2.2.2)).1 603 (Int32.toNatClampNeg (8 * ((l_X8_worthiestOf_10 a1 (M, (-1), 0, 1, 0) (Int32.toNatClampNeg (M.1 600 2))).2.2.2.2) + (5 : Int32)))) * ((l_X8_worthiestOf_10 a1 (M, (-1), 0, 1, 0) (Int32.toNatClampNeg (M.1 600 2))).2.2.2.1)) ≤ (((l_X8_worthiestOf_10 a1 (M, (-1), 0, 1, 0) (Int32.toNatClampNeg (M.1 600 2))).2.2.1) * 1) from c68)]
          · rw [if_neg (show ¬ ((((w_X8_minutesOf (l_X8_worthiestOf_10 a1 (M, (-1), 0, 1, 0) (Int32.toNatClampNeg (M.1 600 2))).1 ((l_X8_worthiestOf_10 a1 (M, (-1), 0, 1, 0) (Int32.toNatClampNeg (M.1 600 2))).2.2.2.2)).1 603 (Int32.toNatClampNeg (8 * ((l_X8_worthiestOf_10 a1 (M, (-1), 0, 1, 0) (Int32.toNatClampNeg (M.1 600 2))).2.2.2.2) + (5 : Int32)))) * ((l_X8_worthiestOf_10 a1 (M, (-1), 0, 1, 0) (Int32.toNatClampNeg (M.1 600 2))).2.2.2.1)) ≤ (((l_X8_worthiestOf_10 a1 (M, (-1), 0, 1, 0) (Int32.toNatClampNeg (M.1 600 2))).2.2.1) * 1)) from c68)] at hp
            refine j_iload g (i := 5) (by decide +kernel) rfl ?_
            refine j_istore_n g (i := 2) (by decide +kernel) (by decide) ?_
            dsimp only [stL, clL, hdL]
            refine j_aload_n g (i := 0) (by decide +kernel) rfl ?_
            refine j_iload g (i := 5) (by decide +kernel) rfl ?_
            refine j_iconst g (n := 5) (5) (by decide +kernel) rfl ?_
            obtain ⟨h0, hp⟩ := hp
            refine j_cV2r g v8_249 ⟨rfl, by decide⟩ (by decide +kernel) (by decide +kernel) (Nat.le_of_ble_eq_true rfl) (rnX8_its h0) ?_
            refine j_istore_n g (i := 3) (by decide +kernel) (by decide) ?_
            dsimp only [stL, clL, hdL]
            refine j_iload g (i := 6) (by decide +kernel) rfl ?_
            refine j_istore g (i := 4) (by decide +kernel) (by decide) ?_
            dsimp only [stL, clL, hdL]
            refine j_iinc g (i := 5) (n := 1) (1) (by decide +kernel) rfl (by decide) rfl ?_
            dsimp only [stL, clL, hdL]
            refine j_goto g (off := -79) (tgt := 10) (by decide +kernel) (by decide) ?_
            refine absurd (ci_X8_worthiestOf_10.mpr ?_) hx_10_1
            simp only [if_neg (show ¬ (((l_X8_worthiestOf_10 a1 (M, (-1), 0, 1, 0) (Int32.toNatClampNeg (M.1 600 2))).1.1 600 2) ≤ ((l_X8_worthiestOf_10 a1 (M, (-1), 0, 1, 0) (Int32.toNatClampNeg (M.1 600 2))).2.2.2.2)) from c16), if_neg (show ¬ (¬ ((a1 >>> (((l_X8_worthiestOf_10 a1 (M, (-1), 0, 1, 0) (Int32.toNatClampNeg (M.1 600 2))).2.2.2.2) &&& 31)) &&& 1) = 1) from c26), if_neg (show ¬ (¬ (r_X8_minutesOf (l_X8_worthiestOf_10 a1 (M, (-1), 0, 1, 0) (Int32.toNatClampNeg (M.1 600 2))).1 ((l_X8_worthiestOf_10 a1 (M, (-1), 0, 1, 0) (Int32.toNatClampNeg (M.1 600 2))).2.2.2.2)) = 0) from c35), if_neg (show ¬ (((l_X8_worthiestOf_10 a1 (M, (-1), 0, 1, 0) (Int32.toNatClampNeg (M.1 600 2))).2.1) < 0) from c51), if_neg (show ¬ ((((w_X8_minutesOf (l_X8_worthiestOf_10 a1 (M, (-1), 0, 1, 0) (Int32.toNatClampNeg (M.1 600 2))).1 ((l_X8_worthiestOf_10 a1 (M, (-1), 0, 1, 0) (Int32.toNatClampNeg (M.1 600 2))).2.2.2.2)).1 603 (Int32.toNatClampNeg (8 * ((l_X8_worthiestOf_10 a1 (M, (-1), 0, 1, 0) (Int32.toNatClampNeg (M.1 600 2))).2.2.2.2) + (5 : Int32)))) * ((l_X8_worthiestOf_10 a1 (M, (-1), 0, 1, 0) (Int32.toNatClampNeg (M.1 600 2))).2.2.2.1)) ≤ (((l_X8_worthiestOf_10 a1 (M, (-1), 0, 1, 0) (Int32.toNatClampNeg (M.1 600 2))).2.2.1) * 1)) from c68)]
def c_X8_kindestOf_5 (M : Mm) (a1 : Int32) (a2 : Int32) (σ : Int32 × Int32) : Prop := if (M.1 600 2) ≤ σ.2 then False else True
theorem ci_X8_kindestOf_5 {M : Mm} {a1 : Int32} {a2 : Int32}  {σ : Int32 × Int32} : c_X8_kindestOf_5 M a1 a2 σ ↔ (if (M.1 600 2) ≤ σ.2 then False else True) := Iff.rfl
noncomputable def s_X8_kindestOf_5 (M : Mm) (a1 : Int32) (a2 : Int32) (σ : Int32 × Int32) : Int32 × Int32 := if (M.1 600 2) ≤ σ.2 then σ else if ¬ ((a1 >>> (σ.2 &&& 31)) &&& 1) = 1 then (σ.1, σ.2 + 1) else if (M.1 603 (Int32.toNatClampNeg (8 * σ.2 + (0 : Int32)))) ≤ σ.1 then (σ.1, σ.2 + 1) else (M.1 603 (Int32.toNatClampNeg (8 * σ.2 + (0 : Int32))), σ.2 + 1)
def q_X8_kindestOf_5 (M : Mm) (a1 : Int32) (a2 : Int32) (σ : Int32 × Int32) : Prop := (if (M.1 600 2) ≤ σ.2 then True else (if ¬ ((a1 >>> (σ.2 &&& 31)) &&& 1) = 1 then True else (vp_in (8 * σ.2 + (0 : Int32)) 48) ∧ (if (M.1 603 (Int32.toNatClampNeg (8 * σ.2 + (0 : Int32)))) ≤ σ.1 then True else (vp_in (8 * σ.2 + (0 : Int32)) 48) ∧ True)))
noncomputable def l_X8_kindestOf_5 (M : Mm) (a1 : Int32) (a2 : Int32) (σ0 : Int32 × Int32) : Nat → Int32 × Int32 := itN (fun _ σ => s_X8_kindestOf_5 M a1 a2 σ) σ0
theorem ps_X8_kindestOf_5 {d : Nat} {J : Nat → Lc → List Value → Mm → Prop} {M : Mm} {a1 : Int32} {a2 : Int32}  {σ : Int32 × Int32}  (g : Good mX8_kindestOf.1 mX8_kindestOf.2.2.1 mX8_kindestOf.2.2.2.1 (d + 1) J) (hc : c_X8_kindestOf_5 M a1 a2 σ) (hp : q_X8_kindestOf_5 M a1 a2 σ) (k : J 5 [some (.ref 600), some (.int a1), some (.int a2), some (.int ((s_X8_kindestOf_5 M a1 a2 σ).1)), some (.int ((s_X8_kindestOf_5 M a1 a2 σ).2)), none] [] M) : J 5 [some (.ref 600), some (.int a1), some (.int a2), some (.int σ.1), some (.int σ.2), none] [] M := by
  unfold c_X8_kindestOf_5 at hc
  unfold q_X8_kindestOf_5 at hp
  unfold s_X8_kindestOf_5 at k
  refine j_iload g (i := 4) (by decide +kernel) rfl ?_
  refine j_aload_n g (i := 0) (by decide +kernel) rfl ?_
  refine j_gI g f8_99 (by decide +kernel) (by decide +kernel) (by decide +kernel) ?_
  refine j_icmp_ge g (off := 42) (tgt := 53) (by decide +kernel) (by decide) (fun c11 => ?_) (fun c11 => ?_)
  · (try rw [if_pos (show (M.1 600 2) ≤ σ.2 from c11)] at hc); (rw [if_pos (show (M.1 600 2) ≤ σ.2 from c11)] at hp); (try simp only [if_pos (show (M.1 600 2) ≤ σ.2 from c11)] at k)
    exact hc.elim
  · (try rw [if_neg (show ¬ ((M.1 600 2) ≤ σ.2) from c11)] at hc); (rw [if_neg (show ¬ ((M.1 600 2) ≤ σ.2) from c11)] at hp); (try simp only [if_neg (show ¬ ((M.1 600 2) ≤ σ.2) from c11)] at k)
    refine j_iload_n g (i := 1) (by decide +kernel) rfl ?_
    refine j_iload g (i := 4) (by decide +kernel) rfl ?_
    refine j_ishr g (by decide +kernel) ?_
    refine j_iconst g (n := 1) (1) (by decide +kernel) rfl ?_
    refine j_iand g (by decide +kernel) ?_
    refine j_iconst g (n := 1) (1) (by decide +kernel) rfl ?_
    refine j_icmp_ne g (off := 24) (tgt := 45) (by decide +kernel) (by decide) (fun c21 => ?_) (fun c21 => ?_)
    · (try rw [if_pos (show ¬ ((a1 >>> (σ.2 &&& 31)) &&& 1) = 1 from c21)] at hc); (rw [if_pos (show ¬ ((a1 >>> (σ.2 &&& 31)) &&& 1) = 1 from c21)] at hp); (try simp only [if_pos (show ¬ ((a1 >>> (σ.2 &&& 31)) &&& 1) = 1 from c21)] at k)
      refine j_iload_n g (i := 3) (by decide +kernel) rfl ?_
      refine j_istore_n g (i := 3) (by decide +kernel) (by decide) ?_
      dsimp only [stL, clL, hdL]
      refine j_iinc g (i := 4) (n := 1) (1) (by decide +kernel) rfl (by decide) rfl ?_
      dsimp only [stL, clL, hdL]
      refine j_goto g (off := -45) (tgt := 5) (by decide +kernel) (by decide) ?_
      exact k 
    · (try rw [if_neg (show ¬ (¬ ((a1 >>> (σ.2 &&& 31)) &&& 1) = 1) from c21)] at hc); (rw [if_neg (show ¬ (¬ ((a1 >>> (σ.2 &&& 31)) &&& 1) = 1) from c21)] at hp); (try simp only [if_neg (show ¬ (¬ ((a1 >>> (σ.2 &&& 31)) &&& 1) = 1) from c21)] at k)
      refine j_aload_n g (i := 0) (by decide +kernel) rfl ?_
      refine j_iload g (i := 4) (by decide +kernel) rfl ?_
      refine j_iconst g (n := 0) (0) (by decide +kernel) rfl ?_
      obtain ⟨h0, hp⟩ := hp
      refine j_cV2r g v8_249 ⟨rfl, by decide⟩ (by decide +kernel) (by decide +kernel) (Nat.le_of_ble_eq_true rfl) (rnX8_its h0) ?_
      refine j_iload_n g (i := 3) (by decide +kernel) rfl ?_
      refine j_icmp_le g (off := 13) (tgt := 45) (by decide +kernel) (by decide) (fun c32 => ?_) (fun c32 => ?_)
      · (try rw [if_pos (show (M.1 603 (Int32.toNatClampNeg (8 * σ.2 + (0 : Int32)))) ≤ σ.1 from c32)] at hc); (rw [if_pos (show (M.1 603 (Int32.toNatClampNeg (8 * σ.2 + (0 : Int32)))) ≤ σ.1 from c32)] at hp); (try simp only [if_pos (show (M.1 603 (Int32.toNatClampNeg (8 * σ.2 + (0 : Int32)))) ≤ σ.1 from c32)] at k)
        refine j_iload_n g (i := 3) (by decide +kernel) rfl ?_
        refine j_istore_n g (i := 3) (by decide +kernel) (by decide) ?_
        dsimp only [stL, clL, hdL]
        refine j_iinc g (i := 4) (n := 1) (1) (by decide +kernel) rfl (by decide) rfl ?_
        dsimp only [stL, clL, hdL]
        refine j_goto g (off := -45) (tgt := 5) (by decide +kernel) (by decide) ?_
        exact k 
      · (try rw [if_neg (show ¬ ((M.1 603 (Int32.toNatClampNeg (8 * σ.2 + (0 : Int32)))) ≤ σ.1) from c32)] at hc); (rw [if_neg (show ¬ ((M.1 603 (Int32.toNatClampNeg (8 * σ.2 + (0 : Int32)))) ≤ σ.1) from c32)] at hp); (try simp only [if_neg (show ¬ ((M.1 603 (Int32.toNatClampNeg (8 * σ.2 + (0 : Int32)))) ≤ σ.1) from c32)] at k)
        refine j_aload_n g (i := 0) (by decide +kernel) rfl ?_
        refine j_iload g (i := 4) (by decide +kernel) rfl ?_
        refine j_iconst g (n := 0) (0) (by decide +kernel) rfl ?_
        obtain ⟨h0, hp⟩ := hp
        refine j_cV2r g v8_249 ⟨rfl, by decide⟩ (by decide +kernel) (by decide +kernel) (Nat.le_of_ble_eq_true rfl) (rnX8_its h0) ?_
        refine j_goto g (off := 4) (tgt := 46) (by decide +kernel) (by decide) ?_
        refine j_istore_n g (i := 3) (by decide +kernel) (by decide) ?_
        dsimp only [stL, clL, hdL]
        refine j_iinc g (i := 4) (n := 1) (1) (by decide +kernel) rfl (by decide) rfl ?_
        dsimp only [stL, clL, hdL]
        refine j_goto g (off := -45) (tgt := 5) (by decide +kernel) (by decide) ?_
        exact k 
theorem sh_X8_kindestOf_5 {d : Nat} {J : Nat → Lc → List Value → Mm → Prop} {M : Mm} {a1 : Int32} {a2 : Int32}  {σ0 : Int32 × Int32}  (g : Good mX8_kindestOf.1 mX8_kindestOf.2.2.1 mX8_kindestOf.2.2.2.1 (d + 1) J) : ∀ (N : Nat), (∀ k, k < N → c_X8_kindestOf_5 M a1 a2 (l_X8_kindestOf_5 M a1 a2 σ0 k)) → (∀ k, k < N → q_X8_kindestOf_5 M a1 a2 (l_X8_kindestOf_5 M a1 a2 σ0 k)) → (J 5 [some (.ref 600), some (.int a1), some (.int a2), some (.int ((l_X8_kindestOf_5 M a1 a2 σ0 N).1)), some (.int ((l_X8_kindestOf_5 M a1 a2 σ0 N).2)), none] [] M) → J 5 [some (.ref 600), some (.int a1), some (.int a2), some (.int σ0.1), some (.int σ0.2), none] [] M
  | 0, _, _, k => k
  | N + 1, hc, hp, k => sh_X8_kindestOf_5  g N (fun i hi => hc i (Nat.lt_succ_of_lt hi)) (fun i hi => hp i (Nat.lt_succ_of_lt hi)) (ps_X8_kindestOf_5  g (hc N (Nat.lt_succ_self N)) (hp N (Nat.lt_succ_self N)) k)
def c_X8_kindestOf_59 (M : Mm) (a1 : Int32) (a2 : Int32) (x3 : Int32) (σ : Int32 × Int32) : Prop := if (M.1 600 2) ≤ σ.2 then False else True
theorem ci_X8_kindestOf_59 {M : Mm} {a1 : Int32} {a2 : Int32} {x3 : Int32} {σ : Int32 × Int32} : c_X8_kindestOf_59 M a1 a2 x3 σ ↔ (if (M.1 600 2) ≤ σ.2 then False else True) := Iff.rfl
noncomputable def s_X8_kindestOf_59 (M : Mm) (a1 : Int32) (a2 : Int32) (x3 : Int32) (σ : Int32 × Int32) : Int32 × Int32 := if (M.1 600 2) ≤ σ.2 then σ else if ¬ ((a1 >>> (σ.2 &&& 31)) &&& 1) = 1 then (σ.1 ||| 0, σ.2 + 1) else if ¬ (M.1 603 (Int32.toNatClampNeg (8 * σ.2 + (0 : Int32)))) = x3 then (σ.1 ||| 0, σ.2 + 1) else (σ.1 ||| ((1 : Int32) <<< (σ.2 &&& 31)), σ.2 + 1)
def q_X8_kindestOf_59 (M : Mm) (a1 : Int32) (a2 : Int32) (x3 : Int32) (σ : Int32 × Int32) : Prop := (if (M.1 600 2) ≤ σ.2 then True else (if ¬ ((a1 >>> (σ.2 &&& 31)) &&& 1) = 1 then True else (vp_in (8 * σ.2 + (0 : Int32)) 48) ∧ (if ¬ (M.1 603 (Int32.toNatClampNeg (8 * σ.2 + (0 : Int32)))) = x3 then True else True)))
noncomputable def l_X8_kindestOf_59 (M : Mm) (a1 : Int32) (a2 : Int32) (x3 : Int32) (σ0 : Int32 × Int32) : Nat → Int32 × Int32 := itN (fun _ σ => s_X8_kindestOf_59 M a1 a2 x3 σ) σ0
theorem ps_X8_kindestOf_59 {d : Nat} {J : Nat → Lc → List Value → Mm → Prop} {M : Mm} {a1 : Int32} {a2 : Int32} {x3 : Int32} {σ : Int32 × Int32}  (g : Good mX8_kindestOf.1 mX8_kindestOf.2.2.1 mX8_kindestOf.2.2.2.1 (d + 1) J) (hc : c_X8_kindestOf_59 M a1 a2 x3 σ) (hp : q_X8_kindestOf_59 M a1 a2 x3 σ) (k : J 59 [some (.ref 600), some (.int a1), some (.int a2), some (.int x3), some (.int ((s_X8_kindestOf_59 M a1 a2 x3 σ).1)), some (.int ((s_X8_kindestOf_59 M a1 a2 x3 σ).2))] [] M) : J 59 [some (.ref 600), some (.int a1), some (.int a2), some (.int x3), some (.int σ.1), some (.int σ.2)] [] M := by
  unfold c_X8_kindestOf_59 at hc
  unfold q_X8_kindestOf_59 at hp
  unfold s_X8_kindestOf_59 at k
  refine j_iload g (i := 5) (by decide +kernel) rfl ?_
  refine j_aload_n g (i := 0) (by decide +kernel) rfl ?_
  refine j_gI g f8_99 (by decide +kernel) (by decide +kernel) (by decide +kernel) ?_
  refine j_icmp_ge g (off := 43) (tgt := 108) (by decide +kernel) (by decide) (fun c65 => ?_) (fun c65 => ?_)
  · (try rw [if_pos (show (M.1 600 2) ≤ σ.2 from c65)] at hc); (rw [if_pos (show (M.1 600 2) ≤ σ.2 from c65)] at hp); (try simp only [if_pos (show (M.1 600 2) ≤ σ.2 from c65)] at k)
    exact hc.elim
  · (try rw [if_neg (show ¬ ((M.1 600 2) ≤ σ.2) from c65)] at hc); (rw [if_neg (show ¬ ((M.1 600 2) ≤ σ.2) from c65)] at hp); (try simp only [if_neg (show ¬ ((M.1 600 2) ≤ σ.2) from c65)] at k)
    refine j_iload g (i := 4) (by decide +kernel) rfl ?_
    refine j_iload_n g (i := 1) (by decide +kernel) rfl ?_
    refine j_iload g (i := 5) (by decide +kernel) rfl ?_
    refine j_ishr g (by decide +kernel) ?_
    refine j_iconst g (n := 1) (1) (by decide +kernel) rfl ?_
    refine j_iand g (by decide +kernel) ?_
    refine j_iconst g (n := 1) (1) (by decide +kernel) rfl ?_
    refine j_icmp_ne g (off := 21) (tgt := 98) (by decide +kernel) (by decide) (fun c77 => ?_) (fun c77 => ?_)
    · (try rw [if_pos (show ¬ ((a1 >>> (σ.2 &&& 31)) &&& 1) = 1 from c77)] at hc); (rw [if_pos (show ¬ ((a1 >>> (σ.2 &&& 31)) &&& 1) = 1 from c77)] at hp); (try simp only [if_pos (show ¬ ((a1 >>> (σ.2 &&& 31)) &&& 1) = 1 from c77)] at k)
      refine j_iconst g (n := 0) (0) (by decide +kernel) rfl ?_
      refine j_ior g (by decide +kernel) ?_
      refine j_istore g (i := 4) (by decide +kernel) (by decide) ?_
      dsimp only [stL, clL, hdL]
      refine j_iinc g (i := 5) (n := 1) (1) (by decide +kernel) rfl (by decide) rfl ?_
      dsimp only [stL, clL, hdL]
      refine j_goto g (off := -46) (tgt := 59) (by decide +kernel) (by decide) ?_
      exact k 
    · (try rw [if_neg (show ¬ (¬ ((a1 >>> (σ.2 &&& 31)) &&& 1) = 1) from c77)] at hc); (rw [if_neg (show ¬ (¬ ((a1 >>> (σ.2 &&& 31)) &&& 1) = 1) from c77)] at hp); (try simp only [if_neg (show ¬ (¬ ((a1 >>> (σ.2 &&& 31)) &&& 1) = 1) from c77)] at k)
      refine j_aload_n g (i := 0) (by decide +kernel) rfl ?_
      refine j_iload g (i := 5) (by decide +kernel) rfl ?_
      refine j_iconst g (n := 0) (0) (by decide +kernel) rfl ?_
      obtain ⟨h0, hp⟩ := hp
      refine j_cV2r g v8_249 ⟨rfl, by decide⟩ (by decide +kernel) (by decide +kernel) (Nat.le_of_ble_eq_true rfl) (rnX8_its h0) ?_
      refine j_iload_n g (i := 3) (by decide +kernel) rfl ?_
      refine j_icmp_ne g (off := 10) (tgt := 98) (by decide +kernel) (by decide) (fun c88 => ?_) (fun c88 => ?_)
      · (try rw [if_pos (show ¬ (M.1 603 (Int32.toNatClampNeg (8 * σ.2 + (0 : Int32)))) = x3 from c88)] at hc); (rw [if_pos (show ¬ (M.1 603 (Int32.toNatClampNeg (8 * σ.2 + (0 : Int32)))) = x3 from c88)] at hp); (try simp only [if_pos (show ¬ (M.1 603 (Int32.toNatClampNeg (8 * σ.2 + (0 : Int32)))) = x3 from c88)] at k)
        refine j_iconst g (n := 0) (0) (by decide +kernel) rfl ?_
        refine j_ior g (by decide +kernel) ?_
        refine j_istore g (i := 4) (by decide +kernel) (by decide) ?_
        dsimp only [stL, clL, hdL]
        refine j_iinc g (i := 5) (n := 1) (1) (by decide +kernel) rfl (by decide) rfl ?_
        dsimp only [stL, clL, hdL]
        refine j_goto g (off := -46) (tgt := 59) (by decide +kernel) (by decide) ?_
        exact k 
      · (try rw [if_neg (show ¬ (¬ (M.1 603 (Int32.toNatClampNeg (8 * σ.2 + (0 : Int32)))) = x3) from c88)] at hc); (rw [if_neg (show ¬ (¬ (M.1 603 (Int32.toNatClampNeg (8 * σ.2 + (0 : Int32)))) = x3) from c88)] at hp); (try simp only [if_neg (show ¬ (¬ (M.1 603 (Int32.toNatClampNeg (8 * σ.2 + (0 : Int32)))) = x3) from c88)] at k)
        refine j_iconst g (n := 1) (1) (by decide +kernel) rfl ?_
        refine j_iload g (i := 5) (by decide +kernel) rfl ?_
        refine j_ishl g (by decide +kernel) ?_
        refine j_goto g (off := 4) (tgt := 99) (by decide +kernel) (by decide) ?_
        refine j_ior g (by decide +kernel) ?_
        refine j_istore g (i := 4) (by decide +kernel) (by decide) ?_
        dsimp only [stL, clL, hdL]
        refine j_iinc g (i := 5) (n := 1) (1) (by decide +kernel) rfl (by decide) rfl ?_
        dsimp only [stL, clL, hdL]
        refine j_goto g (off := -46) (tgt := 59) (by decide +kernel) (by decide) ?_
        exact k 
theorem sh_X8_kindestOf_59 {d : Nat} {J : Nat → Lc → List Value → Mm → Prop} {M : Mm} {a1 : Int32} {a2 : Int32} {x3 : Int32} {σ0 : Int32 × Int32}  (g : Good mX8_kindestOf.1 mX8_kindestOf.2.2.1 mX8_kindestOf.2.2.2.1 (d + 1) J) : ∀ (N : Nat), (∀ k, k < N → c_X8_kindestOf_59 M a1 a2 x3 (l_X8_kindestOf_59 M a1 a2 x3 σ0 k)) → (∀ k, k < N → q_X8_kindestOf_59 M a1 a2 x3 (l_X8_kindestOf_59 M a1 a2 x3 σ0 k)) → (J 59 [some (.ref 600), some (.int a1), some (.int a2), some (.int x3), some (.int ((l_X8_kindestOf_59 M a1 a2 x3 σ0 N).1)), some (.int ((l_X8_kindestOf_59 M a1 a2 x3 σ0 N).2))] [] M) → J 59 [some (.ref 600), some (.int a1), some (.int a2), some (.int x3), some (.int σ0.1), some (.int σ0.2)] [] M
  | 0, _, _, k => k
  | N + 1, hc, hp, k => sh_X8_kindestOf_59  g N (fun i hi => hc i (Nat.lt_succ_of_lt hi)) (fun i hi => hp i (Nat.lt_succ_of_lt hi)) (ps_X8_kindestOf_59  g (hc N (Nat.lt_succ_self N)) (hp N (Nat.lt_succ_self N)) k)
noncomputable def r_X8_kindestOf (M : Mm) (a1 : Int32) (a2 : Int32) : Int32 := if (M.1 600 2) ≤ ((l_X8_kindestOf_5 M a1 a2 (0, 0) (Int32.toNatClampNeg (M.1 600 2))).2) then (if (M.1 600 2) ≤ ((l_X8_kindestOf_59 M a1 a2 ((l_X8_kindestOf_5 M a1 a2 (0, 0) (Int32.toNatClampNeg (M.1 600 2))).1) (0, 0) (Int32.toNatClampNeg (M.1 600 2))).2) then r_X8_firstFrom M ((l_X8_kindestOf_59 M a1 a2 ((l_X8_kindestOf_5 M a1 a2 (0, 0) (Int32.toNatClampNeg (M.1 600 2))).1) (0, 0) (Int32.toNatClampNeg (M.1 600 2))).1) a2 else 0) else 0
def p_X8_kindestOf (M : Mm) (a1 : Int32) (a2 : Int32) : Prop := (∀ k, k < (Int32.toNatClampNeg (M.1 600 2)) → c_X8_kindestOf_5 M a1 a2 (l_X8_kindestOf_5 M a1 a2 (0, 0) k)) ∧ (∀ k, k < (Int32.toNatClampNeg (M.1 600 2)) → q_X8_kindestOf_5 M a1 a2 (l_X8_kindestOf_5 M a1 a2 (0, 0) k)) ∧ (¬ c_X8_kindestOf_5 M a1 a2 (l_X8_kindestOf_5 M a1 a2 (0, 0) (Int32.toNatClampNeg (M.1 600 2)))) ∧ (if (M.1 600 2) ≤ ((l_X8_kindestOf_5 M a1 a2 (0, 0) (Int32.toNatClampNeg (M.1 600 2))).2) then (∀ k, k < (Int32.toNatClampNeg (M.1 600 2)) → c_X8_kindestOf_59 M a1 a2 ((l_X8_kindestOf_5 M a1 a2 (0, 0) (Int32.toNatClampNeg (M.1 600 2))).1) (l_X8_kindestOf_59 M a1 a2 ((l_X8_kindestOf_5 M a1 a2 (0, 0) (Int32.toNatClampNeg (M.1 600 2))).1) (0, 0) k)) ∧ (∀ k, k < (Int32.toNatClampNeg (M.1 600 2)) → q_X8_kindestOf_59 M a1 a2 ((l_X8_kindestOf_5 M a1 a2 (0, 0) (Int32.toNatClampNeg (M.1 600 2))).1) (l_X8_kindestOf_59 M a1 a2 ((l_X8_kindestOf_5 M a1 a2 (0, 0) (Int32.toNatClampNeg (M.1 600 2))).1) (0, 0) k)) ∧ (¬ c_X8_kindestOf_59 M a1 a2 ((l_X8_kindestOf_5 M a1 a2 (0, 0) (Int32.toNatClampNeg (M.1 600 2))).1) (l_X8_kindestOf_59 M a1 a2 ((l_X8_kindestOf_5 M a1 a2 (0, 0) (Int32.toNatClampNeg (M.1 600 2))).1) (0, 0) (Int32.toNatClampNeg (M.1 600 2)))) ∧ (if (M.1 600 2) ≤ ((l_X8_kindestOf_59 M a1 a2 ((l_X8_kindestOf_5 M a1 a2 (0, 0) (Int32.toNatClampNeg (M.1 600 2))).1) (0, 0) (Int32.toNatClampNeg (M.1 600 2))).2) then (p_X8_firstFrom M ((l_X8_kindestOf_59 M a1 a2 ((l_X8_kindestOf_5 M a1 a2 (0, 0) (Int32.toNatClampNeg (M.1 600 2))).1) (0, 0) (Int32.toNatClampNeg (M.1 600 2))).1) a2) ∧ True else (if ¬ ((a1 >>> (((l_X8_kindestOf_59 M a1 a2 ((l_X8_kindestOf_5 M a1 a2 (0, 0) (Int32.toNatClampNeg (M.1 600 2))).1) (0, 0) (Int32.toNatClampNeg (M.1 600 2))).2) &&& 31)) &&& 1) = 1 then True else (vp_in (8 * ((l_X8_kindestOf_59 M a1 a2 ((l_X8_kindestOf_5 M a1 a2 (0, 0) (Int32.toNatClampNeg (M.1 600 2))).1) (0, 0) (Int32.toNatClampNeg (M.1 600 2))).2) + (0 : Int32)) 48) ∧ (if ¬ (M.1 603 (Int32.toNatClampNeg (8 * ((l_X8_kindestOf_59 M a1 a2 ((l_X8_kindestOf_5 M a1 a2 (0, 0) (Int32.toNatClampNeg (M.1 600 2))).1) (0, 0) (Int32.toNatClampNeg (M.1 600 2))).2) + (0 : Int32)))) = ((l_X8_kindestOf_5 M a1 a2 (0, 0) (Int32.toNatClampNeg (M.1 600 2))).1) then True else True))) else (if ¬ ((a1 >>> (((l_X8_kindestOf_5 M a1 a2 (0, 0) (Int32.toNatClampNeg (M.1 600 2))).2) &&& 31)) &&& 1) = 1 then True else (vp_in (8 * ((l_X8_kindestOf_5 M a1 a2 (0, 0) (Int32.toNatClampNeg (M.1 600 2))).2) + (0 : Int32)) 48) ∧ (if (M.1 603 (Int32.toNatClampNeg (8 * ((l_X8_kindestOf_5 M a1 a2 (0, 0) (Int32.toNatClampNeg (M.1 600 2))).2) + (0 : Int32)))) ≤ ((l_X8_kindestOf_5 M a1 a2 (0, 0) (Int32.toNatClampNeg (M.1 600 2))).1) then True else (vp_in (8 * ((l_X8_kindestOf_5 M a1 a2 (0, 0) (Int32.toNatClampNeg (M.1 600 2))).2) + (0 : Int32)) 48) ∧ True)))
theorem rnX8_kindestOf {d : Nat} {M : Mm} {a1 : Int32} {a2 : Int32}  (hp : p_X8_kindestOf M a1 a2) : Rn (d + 1) mX8_kindestOf [.ref 600, .int a1, .int a2] M (some (.int (r_X8_kindestOf M a1 a2))) M := by
  refine Rn.of [some (.ref 600), some (.int a1), some (.int a2), none, none, none] (by decide +kernel) rfl (Nat.le_of_ble_eq_true rfl) rfl (fun J g hr => ?_)
  unfold p_X8_kindestOf at hp
  refine j_iconst g (n := 0) (0) (by decide +kernel) rfl ?_
  refine j_istore_n g (i := 3) (by decide +kernel) (by decide) ?_
  dsimp only [stL, clL, hdL]
  refine j_iconst g (n := 0) (0) (by decide +kernel) rfl ?_
  refine j_istore g (i := 4) (by decide +kernel) (by decide) ?_
  dsimp only [stL, clL, hdL]
  obtain ⟨h0, hp⟩ := hp
  have hc_5_1 := h0
  obtain ⟨h0, hp⟩ := hp
  have hq_5_1 := h0
  obtain ⟨h0, hp⟩ := hp
  have hx_5_1 := h0
  refine sh_X8_kindestOf_5   g (σ0 := (0, 0)) (Int32.toNatClampNeg (M.1 600 2)) hc_5_1 hq_5_1 ?_ 
  refine j_iload g (i := 4) (by decide +kernel) rfl ?_
  refine j_aload_n g (i := 0) (by decide +kernel) rfl ?_
  refine j_gI g f8_99 (by decide +kernel) (by decide +kernel) (by decide +kernel) ?_
  refine j_icmp_ge g (off := 42) (tgt := 53) (by decide +kernel) (by decide) (fun c11 => ?_) (fun c11 => ?_)
  · rw [if_pos (show (M.1 600 2) ≤ ((l_X8_kindestOf_5 M a1 a2 (0, 0) (Int32.toNatClampNeg (M.1 600 2))).2) from c11)] at hp
    refine j_iconst g (n := 0) (0) (by decide +kernel) rfl ?_
    refine j_istore g (i := 4) (by decide +kernel) (by decide) ?_
    dsimp only [stL, clL, hdL]
    refine j_iconst g (n := 0) (0) (by decide +kernel) rfl ?_
    refine j_istore g (i := 5) (by decide +kernel) (by decide) ?_
    dsimp only [stL, clL, hdL]
    obtain ⟨h0, hp⟩ := hp
    have hc_59_2 := h0
    obtain ⟨h0, hp⟩ := hp
    have hq_59_2 := h0
    obtain ⟨h0, hp⟩ := hp
    have hx_59_2 := h0
    refine sh_X8_kindestOf_59 (x3 := ((l_X8_kindestOf_5 M a1 a2 (0, 0) (Int32.toNatClampNeg (M.1 600 2))).1))  g (σ0 := (0, 0)) (Int32.toNatClampNeg (M.1 600 2)) hc_59_2 hq_59_2 ?_ 
    refine j_iload g (i := 5) (by decide +kernel) rfl ?_
    refine j_aload_n g (i := 0) (by decide +kernel) rfl ?_
    refine j_gI g f8_99 (by decide +kernel) (by decide +kernel) (by decide +kernel) ?_
    refine j_icmp_ge g (off := 43) (tgt := 108) (by decide +kernel) (by decide) (fun c65 => ?_) (fun c65 => ?_)
    · rw [if_pos (show (M.1 600 2) ≤ ((l_X8_kindestOf_59 M a1 a2 ((l_X8_kindestOf_5 M a1 a2 (0, 0) (Int32.toNatClampNeg (M.1 600 2))).1) (0, 0) (Int32.toNatClampNeg (M.1 600 2))).2) from c65)] at hp
      refine j_aload_n g (i := 0) (by decide +kernel) rfl ?_
      refine j_iload g (i := 4) (by decide +kernel) rfl ?_
      refine j_iload_n g (i := 2) (by decide +kernel) rfl ?_
      obtain ⟨h0, hp⟩ := hp
      refine j_cV2r g v8_374 ⟨rfl, by decide⟩ (by decide +kernel) (by decide +kernel) (Nat.le_of_ble_eq_true rfl) (rnX8_firstFrom h0) ?_
      refine hr.1 _ _ _ _ (by decide +kernel) ⟨_, rfl, by first | rfl | exact b2i_nar | decide +kernel⟩ ?_ ?_
      · unfold r_X8_kindestOf; first | (simp only [if_pos (show (M.1 600 2) ≤ ((l_X8_kindestOf_5 M a1 a2 (0, 0) (Int32.toNatClampNeg (M.1 600 2))).2) from c11), if_pos (show (M.1 600 2) ≤ ((l_X8_kindestOf_59 M a1 a2 ((l_X8_kindestOf_5 M a1 a2 (0, 0) (Int32.toNatClampNeg (M.1 600 2))).1) (0, 0) (Int32.toNatClampNeg (M.1 600 2))).2) from c65)]; done) | (simp only [if_pos (show (M.1 600 2) ≤ ((l_X8_kindestOf_5 M a1 a2 (0, 0) (Int32.toNatClampNeg (M.1 600 2))).2) from c11), if_pos (show (M.1 600 2) ≤ ((l_X8_kindestOf_59 M a1 a2 ((l_X8_kindestOf_5 M a1 a2 (0, 0) (Int32.toNatClampNeg (M.1 600 2))).1) (0, 0) (Int32.toNatClampNeg (M.1 600 2))).2) from c65)]; rfl) | rfl
      · rfl
    · rw [if_neg (show ¬ ((M.1 600 2) ≤ ((l_X8_kindestOf_59 M a1 a2 ((l_X8_kindestOf_5 M a1 a2 (0, 0) (Int32.toNatClampNeg (M.1 600 2))).1) (0, 0) (Int32.toNatClampNeg (M.1 600 2))).2)) from c65)] at hp
      refine j_iload g (i := 4) (by decide +kernel) rfl ?_
      refine j_iload_n g (i := 1) (by decide +kernel) rfl ?_
      refine j_iload g (i := 5) (by decide +kernel) rfl ?_
      refine j_ishr g (by decide +kernel) ?_
      refine j_iconst g (n := 1) (1) (by decide +kernel) rfl ?_
      refine j_iand g (by decide +kernel) ?_
      refine j_iconst g (n := 1) (1) (by decide +kernel) rfl ?_
      refine j_icmp_ne g (off := 21) (tgt := 98) (by decide +kernel) (by decide) (fun c77 => ?_) (fun c77 => ?_)
      · rw [if_pos (show ¬ ((a1 >>> (((l_X8_kindestOf_59 M a1 a2 ((l_X8_kindestOf_5 M a1 a2 (0, 0) (Int32.toNatClampNeg (M.1 600 2))).1) (0, 0) (Int32.toNatClampNeg (M.1 600 2))).2) &&& 31)) &&& 1) = 1 from c77)] at hp
        refine j_iconst g (n := 0) (0) (by decide +kernel) rfl ?_
        refine j_ior g (by decide +kernel) ?_
        refine j_istore g (i := 4) (by decide +kernel) (by decide) ?_
        dsimp only [stL, clL, hdL]
        refine j_iinc g (i := 5) (n := 1) (1) (by decide +kernel) rfl (by decide) rfl ?_
        dsimp only [stL, clL, hdL]
        refine j_goto g (off := -46) (tgt := 59) (by decide +kernel) (by decide) ?_
        refine absurd (ci_X8_kindestOf_59.mpr ?_) hx_59_2
        simp only [if_pos (show (M.1 600 2) ≤ ((l_X8_kindestOf_5 M a1 a2 (0, 0) (Int32.toNatClampNeg (M.1 600 2))).2) from c11), if_neg (show ¬ ((M.1 600 2) ≤ ((l_X8_kindestOf_59 M a1 a2 ((l_X8_kindestOf_5 M a1 a2 (0, 0) (Int32.toNatClampNeg (M.1 600 2))).1) (0, 0) (Int32.toNatClampNeg (M.1 600 2))).2)) from c65), if_pos (show ¬ ((a1 >>> (((l_X8_kindestOf_59 M a1 a2 ((l_X8_kindestOf_5 M a1 a2 (0, 0) (Int32.toNatClampNeg (M.1 600 2))).1) (0, 0) (Int32.toNatClampNeg (M.1 600 2))).2) &&& 31)) &&& 1) = 1 from c77)]
      · rw [if_neg (show ¬ (¬ ((a1 >>> (((l_X8_kindestOf_59 M a1 a2 ((l_X8_kindestOf_5 M a1 a2 (0, 0) (Int32.toNatClampNeg (M.1 600 2))).1) (0, 0) (Int32.toNatClampNeg (M.1 600 2))).2) &&& 31)) &&& 1) = 1) from c77)] at hp
        refine j_aload_n g (i := 0) (by decide +kernel) rfl ?_
        refine j_iload g (i := 5) (by decide +kernel) rfl ?_
        refine j_iconst g (n := 0) (0) (by decide +kernel) rfl ?_
        obtain ⟨h0, hp⟩ := hp
        refine j_cV2r g v8_249 ⟨rfl, by decide⟩ (by decide +kernel) (by decide +kernel) (Nat.le_of_ble_eq_true rfl) (rnX8_its h0) ?_
        refine j_iload_n g (i := 3) (by decide +kernel) rfl ?_
        refine j_icmp_ne g (off := 10) (tgt := 98) (by decide +kernel) (by decide) (fun c88 => ?_) (fun c88 => ?_)
        · rw [if_pos (show ¬ (M.1 603 (Int32.toNatClampNeg (8 * ((l_X8_kindestOf_59 M a1 a2 ((l_X8_kindestOf_5 M a1 a2 (0, 0) (Int32.toNatClampNeg (M.1 600 2))).1) (0, 0) (Int32.toNatClampNeg (M.1 600 2))).2) + (0 : Int32)))) = ((l_X8_kindestOf_5 M a1 a2 (0, 0) (Int32.toNatClampNeg (M.1 600 2))).1) from c88)] at hp
          refine j_iconst g (n := 0) (0) (by decide +kernel) rfl ?_
          refine j_ior g (by decide +kernel) ?_
          refine j_istore g (i := 4) (by decide +kernel) (by decide) ?_
          dsimp only [stL, clL, hdL]
          refine j_iinc g (i := 5) (n := 1) (1) (by decide +kernel) rfl (by decide) rfl ?_
          dsimp only [stL, clL, hdL]
          refine j_goto g (off := -46) (tgt := 59) (by decide +kernel) (by decide) ?_
          refine absurd (ci_X8_kindestOf_59.mpr ?_) hx_59_2
          simp only [if_pos (show (M.1 600 2) ≤ ((l_X8_kindestOf_5 M a1 a2 (0, 0) (Int32.toNatClampNeg (M.1 600 2))).2) from c11), if_neg (show ¬ ((M.1 600 2) ≤ ((l_X8_kindestOf_59 M a1 a2 ((l_X8_kindestOf_5 M a1 a2 (0, 0) (Int32.toNatClampNeg (M.1 600 2))).1) (0, 0) (Int32.toNatClampNeg (M.1 600 2))).2)) from c65), if_neg (show ¬ (¬ ((a1 >>> (((l_X8_kindestOf_59 M a1 a2 ((l_X8_kindestOf_5 M a1 a2 (0, 0) (Int32.toNatClampNeg (M.1 600 2))).1) (0, 0) (Int32.toNatClampNeg (M.1 600 2))).2) &&& 31)) &&& 1) = 1) from c77), if_pos (show ¬ (M.1 603 (Int32.toNatClampNeg (8 * ((l_X8_kindestOf_59 M a1 a2 ((l_X8_kindestOf_5 M a1 a2 (0, 0) (Int32.toNatClampNeg (M.1 600 2))).1) (0, 0) (Int32.toNatClampNeg (M.1 600 2))).2) + (0 : Int32)))) = ((l_X8_kindestOf_5 M a1 a2 (0, 0) (Int32.toNatClampNeg (M.1 600 2))).1) from c88)]
        · rw [if_neg (show ¬ (¬ (M.1 603 (Int32.toNatClampNeg (8 * ((l_X8_kindestOf_59 M a1 a2 ((l_X8_kindestOf_5 M a1 a2 (0, 0) (Int32.toNatClampNeg (M.1 600 2))).1) (0, 0) (Int32.toNatClampNeg (M.1 600 2))).2) + (0 : Int32)))) = ((l_X8_kindestOf_5 M a1 a2 (0, 0) (Int32.toNatClampNeg (M.1 600 2))).1)) from c88)] at hp
          refine j_iconst g (n := 1) (1) (by decide +kernel) rfl ?_
          refine j_iload g (i := 5) (by decide +kernel) rfl ?_
          refine j_ishl g (by decide +kernel) ?_
          refine j_goto g (off := 4) (tgt := 99) (by decide +kernel) (by decide) ?_
          refine j_ior g (by decide +kernel) ?_
          refine j_istore g (i := 4) (by decide +kernel) (by decide) ?_
          dsimp only [stL, clL, hdL]
          refine j_iinc g (i := 5) (n := 1) (1) (by decide +kernel) rfl (by decide) rfl ?_
          dsimp only [stL, clL, hdL]
          refine j_goto g (off := -46) (tgt := 59) (by decide +kernel) (by decide) ?_
          refine absurd (ci_X8_kindestOf_59.mpr ?_) hx_59_2
          simp only [if_pos (show (M.1 600 2) ≤ ((l_X8_kindestOf_5 M a1 a2 (0, 0) (Int32.toNatClampNeg (M.1 600 2))).2) from c11), if_neg (show ¬ ((M.1 600 2) ≤ ((l_X8_kindestOf_59 M a1 a2 ((l_X8_kindestOf_5 M a1 a2 (0, 0) (Int32.toNatClampNeg (M.1 600 2))).1) (0, 0) (Int32.toNatClampNeg (M.1 600 2))).2)) from c65), if_neg (show ¬ (¬ ((a1 >>> (((l_X8_kindestOf_59 M a1 a2 ((l_X8_kindestOf_5 M a1 a2 (0, 0) (Int32.toNatClampNeg (M.1 600 2))).1) (0, 0) (Int32.toNatClampNeg (M.1 600 2))).2) &&& 31)) &&& 1) = 1) from c77), if_neg (show ¬ (¬ (M.1 603 (Int32.toNatClampNeg (8 * ((l_X8_kindestOf_59 M a1 a2 ((l_X8_kindestOf_5 M a1 a2 (0, 0) (Int32.toNatClampNeg (M.1 600 2))).1) (0, 0) (Int32.toNatClampNeg (M.1 600 2))).2) + (0 : Int32)))) = ((l_X8_kindestOf_5 M a1 a2 (0, 0) (Int32.toNatClampNeg (M.1 600 2))).1)) from c88)]
  · rw [if_neg (show ¬ ((M.1 600 2) ≤ ((l_X8_kindestOf_5 M a1 a2 (0, 0) (Int32.toNatClampNeg (M.1 600 2))).2)) from c11)] at hp
    refine j_iload_n g (i := 1) (by decide +kernel) rfl ?_
    refine j_iload g (i := 4) (by decide +kernel) rfl ?_
    refine j_ishr g (by decide +kernel) ?_
    refine j_iconst g (n := 1) (1) (by decide +kernel) rfl ?_
    refine j_iand g (by decide +kernel) ?_
    refine j_iconst g (n := 1) (1) (by decide +kernel) rfl ?_
    refine j_icmp_ne g (off := 24) (tgt := 45) (by decide +kernel) (by decide) (fun c21 => ?_) (fun c21 => ?_)
    · rw [if_pos (show ¬ ((a1 >>> (((l_X8_kindestOf_5 M a1 a2 (0, 0) (Int32.toNatClampNeg (M.1 600 2))).2) &&& 31)) &&& 1) = 1 from c21)] at hp
      refine j_iload_n g (i := 3) (by decide +kernel) rfl ?_
      refine j_istore_n g (i := 3) (by decide +kernel) (by decide) ?_
      dsimp only [stL, clL, hdL]
      refine j_iinc g (i := 4) (n := 1) (1) (by decide +kernel) rfl (by decide) rfl ?_
      dsimp only [stL, clL, hdL]
      refine j_goto g (off := -45) (tgt := 5) (by decide +kernel) (by decide) ?_
      refine absurd (ci_X8_kindestOf_5.mpr ?_) hx_5_1
      simp only [if_neg (show ¬ ((M.1 600 2) ≤ ((l_X8_kindestOf_5 M a1 a2 (0, 0) (Int32.toNatClampNeg (M.1 600 2))).2)) from c11), if_pos (show ¬ ((a1 >>> (((l_X8_kindestOf_5 M a1 a2 (0, 0) (Int32.toNatClampNeg (M.1 600 2))).2) &&& 31)) &&& 1) = 1 from c21)]
    · rw [if_neg (show ¬ (¬ ((a1 >>> (((l_X8_kindestOf_5 M a1 a2 (0, 0) (Int32.toNatClampNeg (M.1 600 2))).2) &&& 31)) &&& 1) = 1) from c21)] at hp
      refine j_aload_n g (i := 0) (by decide +kernel) rfl ?_
      refine j_iload g (i := 4) (by decide +kernel) rfl ?_
      refine j_iconst g (n := 0) (0) (by decide +kernel) rfl ?_
      obtain ⟨h0, hp⟩ := hp
      refine j_cV2r g v8_249 ⟨rfl, by decide⟩ (by decide +kernel) (by decide +kernel) (Nat.le_of_ble_eq_true rfl) (rnX8_its h0) ?_
      refine j_iload_n g (i := 3) (by decide +kernel) rfl ?_
      refine j_icmp_le g (off := 13) (tgt := 45) (by decide +kernel) (by decide) (fun c32 => ?_) (fun c32 => ?_)
      · rw [if_pos (show (M.1 603 (Int32.toNatClampNeg (8 * ((l_X8_kindestOf_5 M a1 a2 (0, 0) (Int32.toNatClampNeg (M.1 600 2))).2) + (0 : Int32)))) ≤ ((l_X8_kindestOf_5 M a1 a2 (0, 0) (Int32.toNatClampNeg (M.1 600 2))).1) from c32)] at hp
        refine j_iload_n g (i := 3) (by decide +kernel) rfl ?_
        refine j_istore_n g (i := 3) (by decide +kernel) (by decide) ?_
        dsimp only [stL, clL, hdL]
        refine j_iinc g (i := 4) (n := 1) (1) (by decide +kernel) rfl (by decide) rfl ?_
        dsimp only [stL, clL, hdL]
        refine j_goto g (off := -45) (tgt := 5) (by decide +kernel) (by decide) ?_
        refine absurd (ci_X8_kindestOf_5.mpr ?_) hx_5_1
        simp only [if_neg (show ¬ ((M.1 600 2) ≤ ((l_X8_kindestOf_5 M a1 a2 (0, 0) (Int32.toNatClampNeg (M.1 600 2))).2)) from c11), if_neg (show ¬ (¬ ((a1 >>> (((l_X8_kindestOf_5 M a1 a2 (0, 0) (Int32.toNatClampNeg (M.1 600 2))).2) &&& 31)) &&& 1) = 1) from c21), if_pos (show (M.1 603 (Int32.toNatClampNeg (8 * ((l_X8_kindestOf_5 M a1 a2 (0, 0) (Int32.toNatClampNeg (M.1 600 2))).2) + (0 : Int32)))) ≤ ((l_X8_kindestOf_5 M a1 a2 (0, 0) (Int32.toNatClampNeg (M.1 600 2))).1) from c32)]
      · rw [if_neg (show ¬ ((M.1 603 (Int32.toNatClampNeg (8 * ((l_X8_kindestOf_5 M a1 a2 (0, 0) (Int32.toNatClampNeg (M.1 600 2))).2) + (0 : Int32)))) ≤ ((l_X8_kindestOf_5 M a1 a2 (0, 0) (Int32.toNatClampNeg (M.1 600 2))).1)) from c32)] at hp
        refine j_aload_n g (i := 0) (by decide +kernel) rfl ?_
        refine j_iload g (i := 4) (by decide +kernel) rfl ?_
        refine j_iconst g (n := 0) (0) (by decide +kernel) rfl ?_
        obtain ⟨h0, hp⟩ := hp
        refine j_cV2r g v8_249 ⟨rfl, by decide⟩ (by decide +kernel) (by decide +kernel) (Nat.le_of_ble_eq_true rfl) (rnX8_its h0) ?_
        refine j_goto g (off := 4) (tgt := 46) (by decide +kernel) (by decide) ?_
        refine j_istore_n g (i := 3) (by decide +kernel) (by decide) ?_
        dsimp only [stL, clL, hdL]
        refine j_iinc g (i := 4) (n := 1) (1) (by decide +kernel) rfl (by decide) rfl ?_
        dsimp only [stL, clL, hdL]
        refine j_goto g (off := -45) (tgt := 5) (by decide +kernel) (by decide) ?_
        refine absurd (ci_X8_kindestOf_5.mpr ?_) hx_5_1
        simp only [if_neg (show ¬ ((M.1 600 2) ≤ ((l_X8_kindestOf_5 M a1 a2 (0, 0) (Int32.toNatClampNeg (M.1 600 2))).2)) from c11), if_neg (show ¬ (¬ ((a1 >>> (((l_X8_kindestOf_5 M a1 a2 (0, 0) (Int32.toNatClampNeg (M.1 600 2))).2) &&& 31)) &&& 1) = 1) from c21), if_neg (show ¬ ((M.1 603 (Int32.toNatClampNeg (8 * ((l_X8_kindestOf_5 M a1 a2 (0, 0) (Int32.toNatClampNeg (M.1 600 2))).2) + (0 : Int32)))) ≤ ((l_X8_kindestOf_5 M a1 a2 (0, 0) (Int32.toNatClampNeg (M.1 600 2))).1)) from c32)]
noncomputable def r_X8_takesOf (M : Mm) (a1 : Int32) (a2 : Int32) : Int32 := if (M.1 608 (Int32.toNatClampNeg ((2 : Int32) * a1))) = 1 then r_X8_firstFrom M a2 (M.1 608 (Int32.toNatClampNeg (((2 : Int32) * a1) + 1))) else if (M.1 608 (Int32.toNatClampNeg ((2 : Int32) * a1))) = 2 then r_X8_soonestOf M a2 else if (M.1 608 (Int32.toNatClampNeg ((2 : Int32) * a1))) = 3 then r_X8_worthiestOf M a2 else if (M.1 608 (Int32.toNatClampNeg ((2 : Int32) * a1))) = 4 then r_X8_kindestOf M a2 (M.1 608 (Int32.toNatClampNeg (((2 : Int32) * a1) + 1))) else r_X8_placeIn M a2 ((M.1 608 (Int32.toNatClampNeg (((2 : Int32) * a1) + 1))) - (M.1 608 (Int32.toNatClampNeg (((2 : Int32) * a1) + 1))) / (r_X8_ones M a2) * (r_X8_ones M a2))
noncomputable def w_X8_takesOf (M : Mm) (a1 : Int32) (a2 : Int32) : Mm := if (M.1 608 (Int32.toNatClampNeg ((2 : Int32) * a1))) = 1 then M else if (M.1 608 (Int32.toNatClampNeg ((2 : Int32) * a1))) = 2 then (w_X8_soonestOf M a2) else if (M.1 608 (Int32.toNatClampNeg ((2 : Int32) * a1))) = 3 then (w_X8_worthiestOf M a2) else if (M.1 608 (Int32.toNatClampNeg ((2 : Int32) * a1))) = 4 then M else M
def p_X8_takesOf (M : Mm) (a1 : Int32) (a2 : Int32) : Prop := (vp_in (((2 : Int32) * a1) + 1) 8) ∧ (vp_in ((2 : Int32) * a1) 8) ∧ (if (M.1 608 (Int32.toNatClampNeg ((2 : Int32) * a1))) = 1 then (p_X8_firstFrom M a2 (M.1 608 (Int32.toNatClampNeg (((2 : Int32) * a1) + 1)))) ∧ True else if (M.1 608 (Int32.toNatClampNeg ((2 : Int32) * a1))) = 2 then (p_X8_soonestOf M a2) ∧ True else if (M.1 608 (Int32.toNatClampNeg ((2 : Int32) * a1))) = 3 then (p_X8_worthiestOf M a2) ∧ True else if (M.1 608 (Int32.toNatClampNeg ((2 : Int32) * a1))) = 4 then (p_X8_kindestOf M a2 (M.1 608 (Int32.toNatClampNeg (((2 : Int32) * a1) + 1)))) ∧ True else (p_X8_ones M a2) ∧ (¬ (r_X8_ones M a2) = 0) ∧ (p_X8_placeIn M a2 ((M.1 608 (Int32.toNatClampNeg (((2 : Int32) * a1) + 1))) - (M.1 608 (Int32.toNatClampNeg (((2 : Int32) * a1) + 1))) / (r_X8_ones M a2) * (r_X8_ones M a2))) ∧ True)
theorem rnX8_takesOf {d : Nat} {M : Mm} {a1 : Int32} {a2 : Int32}  (hp : p_X8_takesOf M a1 a2) : Rn (d + 6) mX8_takesOf [.ref 600, .int a1, .int a2] M (some (.int (r_X8_takesOf M a1 a2))) (w_X8_takesOf M a1 a2) := by
  refine Rn.of [some (.ref 600), some (.int a1), some (.int a2), none] (by decide +kernel) rfl (Nat.le_of_ble_eq_true rfl) rfl (fun J g hr => ?_)
  unfold p_X8_takesOf at hp
  refine j_aload_n g (i := 0) (by decide +kernel) rfl ?_
  refine j_gA g (b := 608) f8_31 (by decide +kernel) (by decide +kernel) (by decide +kernel) (by decide +kernel) ?_
  refine j_iconst g (n := 2) (2) (by decide +kernel) rfl ?_
  refine j_iload_n g (i := 1) (by decide +kernel) rfl ?_
  refine j_imul g (by decide +kernel) ?_
  refine j_iconst g (n := 1) (1) (by decide +kernel) rfl ?_
  refine j_iadd g (by decide +kernel) ?_
  obtain ⟨h0, hp⟩ := hp
  refine j_ia g 8 (by decide +kernel) (by decide +kernel) (by decide +kernel) h0 ?_
  refine j_istore_n g (i := 3) (by decide +kernel) (by decide) ?_
  dsimp only [stL, clL, hdL]
  refine j_aload_n g (i := 0) (by decide +kernel) rfl ?_
  refine j_gA g (b := 608) f8_31 (by decide +kernel) (by decide +kernel) (by decide +kernel) (by decide +kernel) ?_
  refine j_iconst g (n := 2) (2) (by decide +kernel) rfl ?_
  refine j_iload_n g (i := 1) (by decide +kernel) rfl ?_
  refine j_imul g (by decide +kernel) ?_
  obtain ⟨h0, hp⟩ := hp
  refine j_ia g 8 (by decide +kernel) (by decide +kernel) (by decide +kernel) h0 ?_
  have dsw19 : decode cX8_takesOf 19 = .ok (.tableswitch 55 1 4 #[29, 36, 42, 48], 29) := by decide +kernel
  by_cases e19_0 : (M.1 608 (Int32.toNatClampNeg ((2 : Int32) * a1))) = 1
  · refine j_tableIn g (off := 29) (tgt := 48) dsw19 (by rw [e19_0]; decide) (by rw [e19_0]; decide) (by rw [e19_0]; decide) (by decide) ?_
    rw [if_pos e19_0] at hp
    refine j_aload_n g (i := 0) (by decide +kernel) rfl ?_
    refine j_iload_n g (i := 2) (by decide +kernel) rfl ?_
    refine j_iload_n g (i := 3) (by decide +kernel) rfl ?_
    obtain ⟨h0, hp⟩ := hp
    refine j_cV2r g v8_374 ⟨rfl, by decide⟩ (by decide +kernel) (by decide +kernel) (Nat.le_of_ble_eq_true rfl) (rnX8_firstFrom h0) ?_
    refine hr.1 _ _ _ _ (by decide +kernel) ⟨_, rfl, by first | rfl | exact b2i_nar | rfl⟩ ?_ ?_
    · unfold r_X8_takesOf; first | (simp only [if_pos e19_0]; done) | (simp only [if_pos e19_0]; rfl) | rfl
    · unfold w_X8_takesOf; first | (simp only [if_pos e19_0]; done) | (simp only [if_pos e19_0]; rfl) | rfl
  by_cases e19_1 : (M.1 608 (Int32.toNatClampNeg ((2 : Int32) * a1))) = 2
  · refine j_tableIn g (off := 36) (tgt := 55) dsw19 (by rw [e19_1]; decide) (by rw [e19_1]; decide) (by rw [e19_1]; decide) (by decide) ?_
    rw [if_neg e19_0, if_pos e19_1] at hp
    refine j_aload_n g (i := 0) (by decide +kernel) rfl ?_
    refine j_iload_n g (i := 2) (by decide +kernel) rfl ?_
    obtain ⟨h0, hp⟩ := hp
    refine j_cV1r g v8_377 ⟨rfl, by decide⟩ (by decide +kernel) (by decide +kernel) (Nat.le_of_ble_eq_true rfl) (rnX8_soonestOf h0) ?_
    refine hr.1 _ _ _ _ (by decide +kernel) ⟨_, rfl, by first | rfl | exact b2i_nar | rfl⟩ ?_ ?_
    · unfold r_X8_takesOf; first | (simp only [if_neg e19_0, if_pos e19_1]; done) | (simp only [if_neg e19_0, if_pos e19_1]; rfl) | rfl
    · unfold w_X8_takesOf; first | (simp only [if_neg e19_0, if_pos e19_1]; done) | (simp only [if_neg e19_0, if_pos e19_1]; rfl) | rfl
  by_cases e19_2 : (M.1 608 (Int32.toNatClampNeg ((2 : Int32) * a1))) = 3
  · refine j_tableIn g (off := 42) (tgt := 61) dsw19 (by rw [e19_2]; decide) (by rw [e19_2]; decide) (by rw [e19_2]; decide) (by decide) ?_
    rw [if_neg e19_0, if_neg e19_1, if_pos e19_2] at hp
    refine j_aload_n g (i := 0) (by decide +kernel) rfl ?_
    refine j_iload_n g (i := 2) (by decide +kernel) rfl ?_
    obtain ⟨h0, hp⟩ := hp
    refine j_cV1r g v8_380 ⟨rfl, by decide⟩ (by decide +kernel) (by decide +kernel) (Nat.le_of_ble_eq_true rfl) (rnX8_worthiestOf h0) ?_
    refine hr.1 _ _ _ _ (by decide +kernel) ⟨_, rfl, by first | rfl | exact b2i_nar | rfl⟩ ?_ ?_
    · unfold r_X8_takesOf; first | (simp only [if_neg e19_0, if_neg e19_1, if_pos e19_2]; done) | (simp only [if_neg e19_0, if_neg e19_1, if_pos e19_2]; rfl) | rfl
    · unfold w_X8_takesOf; first | (simp only [if_neg e19_0, if_neg e19_1, if_pos e19_2]; done) | (simp only [if_neg e19_0, if_neg e19_1, if_pos e19_2]; rfl) | rfl
  by_cases e19_3 : (M.1 608 (Int32.toNatClampNeg ((2 : Int32) * a1))) = 4
  · refine j_tableIn g (off := 48) (tgt := 67) dsw19 (by rw [e19_3]; decide) (by rw [e19_3]; decide) (by rw [e19_3]; decide) (by decide) ?_
    rw [if_neg e19_0, if_neg e19_1, if_neg e19_2, if_pos e19_3] at hp
    refine j_aload_n g (i := 0) (by decide +kernel) rfl ?_
    refine j_iload_n g (i := 2) (by decide +kernel) rfl ?_
    refine j_iload_n g (i := 3) (by decide +kernel) rfl ?_
    obtain ⟨h0, hp⟩ := hp
    refine j_cV2r g v8_383 ⟨rfl, by decide⟩ (by decide +kernel) (by decide +kernel) (Nat.le_of_ble_eq_true rfl) (rnX8_kindestOf h0) ?_
    refine hr.1 _ _ _ _ (by decide +kernel) ⟨_, rfl, by first | rfl | exact b2i_nar | rfl⟩ ?_ ?_
    · unfold r_X8_takesOf; first | (simp only [if_neg e19_0, if_neg e19_1, if_neg e19_2, if_pos e19_3]; done) | (simp only [if_neg e19_0, if_neg e19_1, if_neg e19_2, if_pos e19_3]; rfl) | rfl
    · unfold w_X8_takesOf; first | (simp only [if_neg e19_0, if_neg e19_1, if_neg e19_2, if_pos e19_3]; done) | (simp only [if_neg e19_0, if_neg e19_1, if_neg e19_2, if_pos e19_3]; rfl) | rfl
  rw [if_neg e19_0, if_neg e19_1, if_neg e19_2, if_neg e19_3] at hp
  refine j_tableOut g (tgt := 74) dsw19 (by simp only [← Int32.toInt_inj, Int32.reduceToInt, im1, im2, im3] at e19_0 e19_1 e19_2 e19_3; omega) (by decide) ?_
  refine j_aload_n g (i := 0) (by decide +kernel) rfl ?_
  refine j_iload_n g (i := 2) (by decide +kernel) rfl ?_
  refine j_iload_n g (i := 3) (by decide +kernel) rfl ?_
  refine j_iload_n g (i := 2) (by decide +kernel) rfl ?_
  obtain ⟨h0, hp⟩ := hp
  refine j_cS1r g s8_386 (by decide +kernel) (Nat.le_of_ble_eq_true rfl) (rnX8_ones h0) ?_
  obtain ⟨h0, hp⟩ := hp
  refine j_irem g (by decide +kernel) h0 ?_
  obtain ⟨h0, hp⟩ := hp
  refine j_cV2r g v8_389 ⟨rfl, by decide⟩ (by decide +kernel) (by decide +kernel) (Nat.le_of_ble_eq_true rfl) (rnX8_placeIn h0) ?_
  refine hr.1 _ _ _ _ (by decide +kernel) ⟨_, rfl, by first | rfl | exact b2i_nar | rfl⟩ ?_ ?_
  · unfold r_X8_takesOf; first | (simp only [if_neg e19_0, if_neg e19_1, if_neg e19_2, if_neg e19_3]; done) | (simp only [if_neg e19_0, if_neg e19_1, if_neg e19_2, if_neg e19_3]; rfl) | rfl
  · unfold w_X8_takesOf; first | (simp only [if_neg e19_0, if_neg e19_1, if_neg e19_2, if_neg e19_3]; done) | (simp only [if_neg e19_0, if_neg e19_1, if_neg e19_2, if_neg e19_3]; rfl) | rfl
noncomputable def r_X8_takes (M : Mm) (a1 : Int32) : Int32 := if ¬ (b2i (0 ≤ a1 ∧ a1 ≤ M.1 600 12 - 1)) = 0 then (if ¬ (r_X8_maySet M) = 0 then r_X8_takesOf M a1 (r_X8_maySet M) else (-3)) else (-1)
noncomputable def w_X8_takes (M : Mm) (a1 : Int32) : Mm := if ¬ (b2i (0 ≤ a1 ∧ a1 ≤ M.1 600 12 - 1)) = 0 then (if ¬ (r_X8_maySet M) = 0 then (w_X8_takesOf M a1 (r_X8_maySet M)) else M) else M
def p_X8_takes (M : Mm) (a1 : Int32) : Prop := (if ¬ (b2i (0 ≤ a1 ∧ a1 ≤ M.1 600 12 - 1)) = 0 then (p_X8_maySet M ) ∧ (if ¬ (r_X8_maySet M) = 0 then (p_X8_maySet M ) ∧ (p_X8_takesOf M a1 (r_X8_maySet M)) ∧ True else True) else True)
theorem rnX8_takes {d : Nat} {M : Mm} {a1 : Int32}  (hp : p_X8_takes M a1) : Rn (d + 7) mX8_takes [.ref 600, .int a1] M (some (.int (r_X8_takes M a1))) (w_X8_takes M a1) := by
  refine Rn.of [some (.ref 600), some (.int a1)] (by decide +kernel) rfl (Nat.le_of_ble_eq_true rfl) rfl (fun J g hr => ?_)
  unfold p_X8_takes at hp
  refine j_aload_n g (i := 0) (by decide +kernel) rfl ?_
  refine j_iload_n g (i := 1) (by decide +kernel) rfl ?_
  refine j_cV1r g v8_371 ⟨rfl, by decide⟩ (by decide +kernel) (by decide +kernel) (Nat.le_of_ble_eq_true rfl) (rnX8_isRule) ?_
  refine j_if_ne g (off := 5) (tgt := 10) (by decide +kernel) (by decide) (fun c5 => ?_) (fun c5 => ?_)
  · rw [if_pos (show ¬ (b2i (0 ≤ a1 ∧ a1 ≤ M.1 600 12 - 1)) = 0 from c5)] at hp
    refine j_aload_n g (i := 0) (by decide +kernel) rfl ?_
    obtain ⟨h0, hp⟩ := hp
    refine j_cV0r g v8_298 ⟨rfl, by decide⟩ (by decide +kernel) (by decide +kernel) (Nat.le_of_ble_eq_true rfl) (rnX8_maySet h0) ?_
    refine j_if_ne g (off := 8) (tgt := 22) (by decide +kernel) (by decide) (fun c14 => ?_) (fun c14 => ?_)
    · rw [if_pos (show ¬ (r_X8_maySet M) = 0 from c14)] at hp
      refine j_aload_n g (i := 0) (by decide +kernel) rfl ?_
      refine j_iload_n g (i := 1) (by decide +kernel) rfl ?_
      refine j_aload_n g (i := 0) (by decide +kernel) rfl ?_
      obtain ⟨h0, hp⟩ := hp
      refine j_cV0r g v8_298 ⟨rfl, by decide⟩ (by decide +kernel) (by decide +kernel) (Nat.le_of_ble_eq_true rfl) (rnX8_maySet h0) ?_
      obtain ⟨h0, hp⟩ := hp
      refine j_cV2r g v8_392 ⟨rfl, by decide⟩ (by decide +kernel) (by decide +kernel) (Nat.le_of_ble_eq_true rfl) (rnX8_takesOf h0) ?_
      refine hr.1 _ _ _ _ (by decide +kernel) ⟨_, rfl, by first | rfl | exact b2i_nar | decide +kernel⟩ ?_ ?_
      · unfold r_X8_takes; first | (simp only [if_pos (show ¬ (b2i (0 ≤ a1 ∧ a1 ≤ M.1 600 12 - 1)) = 0 from c5), if_pos (show ¬ (r_X8_maySet M) = 0 from c14)]; done) | (simp only [if_pos (show ¬ (b2i (0 ≤ a1 ∧ a1 ≤ M.1 600 12 - 1)) = 0 from c5), if_pos (show ¬ (r_X8_maySet M) = 0 from c14)]; rfl) | rfl
      · unfold w_X8_takes; first | (simp only [if_pos (show ¬ (b2i (0 ≤ a1 ∧ a1 ≤ M.1 600 12 - 1)) = 0 from c5), if_pos (show ¬ (r_X8_maySet M) = 0 from c14)]; done) | (simp only [if_pos (show ¬ (b2i (0 ≤ a1 ∧ a1 ≤ M.1 600 12 - 1)) = 0 from c5), if_pos (show ¬ (r_X8_maySet M) = 0 from c14)]; rfl) | rfl
    · rw [if_neg (show ¬ (¬ (r_X8_maySet M) = 0) from c14)] at hp
      refine j_bipush g (n := -3) (-3) (by decide +kernel) (by decide +kernel) ?_
      refine j_goto g (off := 12) (tgt := 31) (by decide +kernel) (by decide) ?_
      refine hr.1 _ _ _ _ (by decide +kernel) ⟨_, rfl, by first | rfl | exact b2i_nar | decide +kernel⟩ ?_ ?_
      · unfold r_X8_takes; first | (simp only [if_pos (show ¬ (b2i (0 ≤ a1 ∧ a1 ≤ M.1 600 12 - 1)) = 0 from c5), if_neg (show ¬ (¬ (r_X8_maySet M) = 0) from c14)]; done) | (simp only [if_pos (show ¬ (b2i (0 ≤ a1 ∧ a1 ≤ M.1 600 12 - 1)) = 0 from c5), if_neg (show ¬ (¬ (r_X8_maySet M) = 0) from c14)]; rfl) | rfl
      · unfold w_X8_takes; first | (simp only [if_pos (show ¬ (b2i (0 ≤ a1 ∧ a1 ≤ M.1 600 12 - 1)) = 0 from c5), if_neg (show ¬ (¬ (r_X8_maySet M) = 0) from c14)]; done) | (simp only [if_pos (show ¬ (b2i (0 ≤ a1 ∧ a1 ≤ M.1 600 12 - 1)) = 0 from c5), if_neg (show ¬ (¬ (r_X8_maySet M) = 0) from c14)]; rfl) | rfl
  · rw [if_neg (show ¬ (¬ (b2i (0 ≤ a1 ∧ a1 ≤ M.1 600 12 - 1)) = 0) from c5)] at hp
    refine j_iconst g (n := -1) (-1) (by decide +kernel) rfl ?_
    refine hr.1 _ _ _ _ (by decide +kernel) ⟨_, rfl, by first | rfl | exact b2i_nar | decide +kernel⟩ ?_ ?_
    · unfold r_X8_takes; first | (simp only [if_neg (show ¬ (¬ (b2i (0 ≤ a1 ∧ a1 ≤ M.1 600 12 - 1)) = 0) from c5)]; done) | (simp only [if_neg (show ¬ (¬ (b2i (0 ≤ a1 ∧ a1 ≤ M.1 600 12 - 1)) = 0) from c5)]; rfl) | rfl
    · unfold w_X8_takes; first | (simp only [if_neg (show ¬ (¬ (b2i (0 ≤ a1 ∧ a1 ≤ M.1 600 12 - 1)) = 0) from c5)]; done) | (simp only [if_neg (show ¬ (¬ (b2i (0 ≤ a1 ∧ a1 ≤ M.1 600 12 - 1)) = 0) from c5)]; rfl) | rfl
def c_X8_feed_30 (a1 : Int64) (a2 : Int32) (σ : Mm × Int32) : Prop := if a2 ≤ σ.2 then False else True
theorem ci_X8_feed_30 {a1 : Int64} {a2 : Int32}  {σ : Mm × Int32} : c_X8_feed_30 a1 a2 σ ↔ (if a2 ≤ σ.2 then False else True) := Iff.rfl
noncomputable def s_X8_feed_30 (a1 : Int64) (a2 : Int32) (σ : Mm × Int32) : Mm × Int32 := if a2 ≤ σ.2 then σ else ((wi (wi σ.1 609 (Int32.toNatClampNeg (σ.1.1 600 15)) (Int64.toInt32 ((a1 >>> (Int32.toInt64 ((8 : Int32) * σ.2) &&& 63)) &&& 255))) 600 15 ((σ.1.1 600 15) + 1)), σ.2 + 1)
def q_X8_feed_30 (a1 : Int64) (a2 : Int32) (σ : Mm × Int32) : Prop := (if a2 ≤ σ.2 then True else (vp_in (σ.1.1 600 15) 240) ∧ True)
noncomputable def l_X8_feed_30 (a1 : Int64) (a2 : Int32) (σ0 : Mm × Int32) : Nat → Mm × Int32 := itN (fun _ σ => s_X8_feed_30 a1 a2 σ) σ0
theorem ps_X8_feed_30 {d : Nat} {J : Nat → Lc → List Value → Mm → Prop} {a1 : Int64} {a2 : Int32}  {σ : Mm × Int32}  (g : Good mX8_feed.1 mX8_feed.2.2.1 mX8_feed.2.2.2.1 (d + 1) J) (hc : c_X8_feed_30 a1 a2 σ) (hp : q_X8_feed_30 a1 a2 σ) (k : J 30 [some (.ref 600), some (.long a1), none, some (.int a2), some (.int ((s_X8_feed_30 a1 a2 σ).2))] [] ((s_X8_feed_30 a1 a2 σ).1)) : J 30 [some (.ref 600), some (.long a1), none, some (.int a2), some (.int σ.2)] [] σ.1 := by
  unfold c_X8_feed_30 at hc
  unfold q_X8_feed_30 at hp
  unfold s_X8_feed_30 at k
  refine j_iload g (i := 4) (by decide +kernel) rfl ?_
  refine j_iload_n g (i := 3) (by decide +kernel) rfl ?_
  refine j_icmp_ge g (off := 40) (tgt := 73) (by decide +kernel) (by decide) (fun c33 => ?_) (fun c33 => ?_)
  · (try rw [if_pos (show a2 ≤ σ.2 from c33)] at hc); (rw [if_pos (show a2 ≤ σ.2 from c33)] at hp); (try simp only [if_pos (show a2 ≤ σ.2 from c33)] at k)
    exact hc.elim
  · (try rw [if_neg (show ¬ (a2 ≤ σ.2) from c33)] at hc); (rw [if_neg (show ¬ (a2 ≤ σ.2) from c33)] at hp); (try simp only [if_neg (show ¬ (a2 ≤ σ.2) from c33)] at k)
    refine j_aload_n g (i := 0) (by decide +kernel) rfl ?_
    refine j_gA g (b := 609) f8_34 (by decide +kernel) (by decide +kernel) (by decide +kernel) (by decide +kernel) ?_
    refine j_aload_n g (i := 0) (by decide +kernel) rfl ?_
    refine j_gI g f8_103 (by decide +kernel) (by decide +kernel) (by decide +kernel) ?_
    refine j_lload_n g (i := 1) (by decide +kernel) rfl ?_
    refine j_bipush g (n := 8) (8) (by decide +kernel) (by decide +kernel) ?_
    refine j_iload g (i := 4) (by decide +kernel) rfl ?_
    refine j_imul g (by decide +kernel) ?_
    refine j_lshr g (by decide +kernel) ?_
    refine j_ldc2 g (n := 106) (255) (by decide +kernel) k8_106 ?_
    refine j_land g (by decide +kernel) ?_
    refine j_l2i g (by decide +kernel) ?_
    obtain ⟨h0, hp⟩ := hp
    refine j_is g 240 (by decide +kernel) (by decide +kernel) (by decide +kernel) h0 ?_
    refine j_aload_n g (i := 0) (by decide +kernel) rfl ?_
    refine j_dup g (by decide +kernel) rfl ?_
    refine j_gI g f8_103 (by decide +kernel) (by decide +kernel) (by decide +kernel) ?_
    refine j_iconst g (n := 1) (1) (by decide +kernel) rfl ?_
    refine j_iadd g (by decide +kernel) ?_
    refine j_pI g f8_103 (fun q h => by cases h; rfl) (by decide +kernel) (by decide +kernel) (by decide +kernel) ?_
    refine j_iinc g (i := 4) (n := 1) (1) (by decide +kernel) rfl (by decide) rfl ?_
    dsimp only [stL, clL, hdL]
    refine j_goto g (off := -40) (tgt := 30) (by decide +kernel) (by decide) ?_
    exact k 
theorem sh_X8_feed_30 {d : Nat} {J : Nat → Lc → List Value → Mm → Prop} {a1 : Int64} {a2 : Int32}  {σ0 : Mm × Int32}  (g : Good mX8_feed.1 mX8_feed.2.2.1 mX8_feed.2.2.2.1 (d + 1) J) : ∀ (N : Nat), (∀ k, k < N → c_X8_feed_30 a1 a2 (l_X8_feed_30 a1 a2 σ0 k)) → (∀ k, k < N → q_X8_feed_30 a1 a2 (l_X8_feed_30 a1 a2 σ0 k)) → (J 30 [some (.ref 600), some (.long a1), none, some (.int a2), some (.int ((l_X8_feed_30 a1 a2 σ0 N).2))] [] ((l_X8_feed_30 a1 a2 σ0 N).1)) → J 30 [some (.ref 600), some (.long a1), none, some (.int a2), some (.int σ0.2)] [] σ0.1
  | 0, _, _, k => k
  | N + 1, hc, hp, k => sh_X8_feed_30  g N (fun i hi => hc i (Nat.lt_succ_of_lt hi)) (fun i hi => hp i (Nat.lt_succ_of_lt hi)) (ps_X8_feed_30  g (hc N (Nat.lt_succ_self N)) (hp N (Nat.lt_succ_self N)) k)
noncomputable def r_X8_feed (M : Mm) (a1 : Int64) (a2 : Int32) : Int32 := if ¬ (b2i ((1 : Int32) ≤ a2 ∧ a2 ≤ (8 : Int32))) = 0 then (if ((M.1 600 15) + a2) ≤ 240 then (if a2 ≤ ((l_X8_feed_30 a1 a2 (M, 0) (Int32.toNatClampNeg (a2))).2) then (l_X8_feed_30 a1 a2 (M, 0) (Int32.toNatClampNeg (a2))).1.1 600 15 else 0) else (-2)) else (-1)
noncomputable def w_X8_feed (M : Mm) (a1 : Int64) (a2 : Int32) : Mm := if ¬ (b2i ((1 : Int32) ≤ a2 ∧ a2 ≤ (8 : Int32))) = 0 then (if ((M.1 600 15) + a2) ≤ 240 then (if a2 ≤ ((l_X8_feed_30 a1 a2 (M, 0) (Int32.toNatClampNeg (a2))).2) then (l_X8_feed_30 a1 a2 (M, 0) (Int32.toNatClampNeg (a2))).1 else M) else M) else M
def p_X8_feed (M : Mm) (a1 : Int64) (a2 : Int32) : Prop := (if ¬ (b2i ((1 : Int32) ≤ a2 ∧ a2 ≤ (8 : Int32))) = 0 then (if ((M.1 600 15) + a2) ≤ 240 then (∀ k, k < (Int32.toNatClampNeg (a2)) → c_X8_feed_30 a1 a2 (l_X8_feed_30 a1 a2 (M, 0) k)) ∧ (∀ k, k < (Int32.toNatClampNeg (a2)) → q_X8_feed_30 a1 a2 (l_X8_feed_30 a1 a2 (M, 0) k)) ∧ (¬ c_X8_feed_30 a1 a2 (l_X8_feed_30 a1 a2 (M, 0) (Int32.toNatClampNeg (a2)))) ∧ (if a2 ≤ ((l_X8_feed_30 a1 a2 (M, 0) (Int32.toNatClampNeg (a2))).2) then True else (vp_in ((l_X8_feed_30 a1 a2 (M, 0) (Int32.toNatClampNeg (a2))).1.1 600 15) 240) ∧ True) else True) else True)
theorem rnX8_feed {d : Nat} {M : Mm} {a1 : Int64} {a2 : Int32}  (hp : p_X8_feed M a1 a2) : Rn (d + 1) mX8_feed [.ref 600, .long a1, .int a2] M (some (.int (r_X8_feed M a1 a2))) (w_X8_feed M a1 a2) := by
  refine Rn.of [some (.ref 600), some (.long a1), none, some (.int a2), none] (by decide +kernel) rfl (Nat.le_of_ble_eq_true rfl) rfl (fun J g hr => ?_)
  unfold p_X8_feed at hp
  refine j_iload_n g (i := 3) (by decide +kernel) rfl ?_
  refine j_iconst g (n := 1) (1) (by decide +kernel) rfl ?_
  refine j_bipush g (n := 8) (8) (by decide +kernel) (by decide +kernel) ?_
  refine j_cS3r g s8_95 (by decide +kernel) (Nat.le_of_ble_eq_true rfl) (rnX8_in) ?_
  refine j_if_ne g (off := 5) (tgt := 12) (by decide +kernel) (by decide) (fun c7 => ?_) (fun c7 => ?_)
  · rw [if_pos (show ¬ (b2i ((1 : Int32) ≤ a2 ∧ a2 ≤ (8 : Int32))) = 0 from c7)] at hp
    refine j_aload_n g (i := 0) (by decide +kernel) rfl ?_
    refine j_gI g f8_103 (by decide +kernel) (by decide +kernel) (by decide +kernel) ?_
    refine j_iload_n g (i := 3) (by decide +kernel) rfl ?_
    refine j_iadd g (by decide +kernel) ?_
    refine j_sipush g (n := 240) (240) (by decide +kernel) (by decide +kernel) ?_
    refine j_icmp_le g (off := 6) (tgt := 27) (by decide +kernel) (by decide) (fun c21 => ?_) (fun c21 => ?_)
    · rw [if_pos (show ((M.1 600 15) + a2) ≤ 240 from c21)] at hp
      refine j_iconst g (n := 0) (0) (by decide +kernel) rfl ?_
      refine j_istore g (i := 4) (by decide +kernel) (by decide) ?_
      dsimp only [stL, clL, hdL]
      obtain ⟨h0, hp⟩ := hp
      have hc_30_1 := h0
      obtain ⟨h0, hp⟩ := hp
      have hq_30_1 := h0
      obtain ⟨h0, hp⟩ := hp
      have hx_30_1 := h0
      refine sh_X8_feed_30   g (σ0 := (M, 0)) (Int32.toNatClampNeg (a2)) hc_30_1 hq_30_1 ?_ 
      refine j_iload g (i := 4) (by decide +kernel) rfl ?_
      refine j_iload_n g (i := 3) (by decide +kernel) rfl ?_
      refine j_icmp_ge g (off := 40) (tgt := 73) (by decide +kernel) (by decide) (fun c33 => ?_) (fun c33 => ?_)
      · rw [if_pos (show a2 ≤ ((l_X8_feed_30 a1 a2 (M, 0) (Int32.toNatClampNeg (a2))).2) from c33)] at hp
        refine j_aload_n g (i := 0) (by decide +kernel) rfl ?_
        refine j_gI g f8_103 (by decide +kernel) (by decide +kernel) (by decide +kernel) ?_
        refine hr.1 _ _ _ _ (by decide +kernel) ⟨_, rfl, by first | rfl | exact b2i_nar | decide +kernel⟩ ?_ ?_
        · unfold r_X8_feed; first | (simp only [if_pos (show ¬ (b2i ((1 : Int32) ≤ a2 ∧ a2 ≤ (8 : Int32))) = 0 from c7), if_pos (show ((M.1 600 15) + a2) ≤ 240 from c21), if_pos (show a2 ≤ ((l_X8_feed_30 a1 a2 (M, 0) (Int32.toNatClampNeg (a2))).2) from c33)]; done) | (simp only [if_pos (show ¬ (b2i ((1 : Int32) ≤ a2 ∧ a2 ≤ (8 : Int32))) = 0 from c7), if_pos (show ((M.1 600 15) + a2) ≤ 240 from c21), if_pos (show a2 ≤ ((l_X8_feed_30 a1 a2 (M, 0) (Int32.toNatClampNeg (a2))).2) from c33)]; rfl) | rfl
        · unfold w_X8_feed; first | (simp only [if_pos (show ¬ (b2i ((1 : Int32) ≤ a2 ∧ a2 ≤ (8 : Int32))) = 0 from c7), if_pos (show ((M.1 600 15) + a2) ≤ 240 from c21), if_pos (show a2 ≤ ((l_X8_feed_30 a1 a2 (M, 0) (Int32.toNatClampNeg (a2))).2) from c33)]; done) | (simp only [if_pos (show ¬ (b2i ((1 : Int32) ≤ a2 ∧ a2 ≤ (8 : Int32))) = 0 from c7), if_pos (show ((M.1 600 15) + a2) ≤ 240 from c21), if_pos (show a2 ≤ ((l_X8_feed_30 a1 a2 (M, 0) (Int32.toNatClampNeg (a2))).2) from c33)]; rfl) | rfl
      · rw [if_neg (show ¬ (a2 ≤ ((l_X8_feed_30 a1 a2 (M, 0) (Int32.toNatClampNeg (a2))).2)) from c33)] at hp
        refine j_aload_n g (i := 0) (by decide +kernel) rfl ?_
        refine j_gA g (b := 609) f8_34 (by decide +kernel) (by decide +kernel) (by decide +kernel) (by decide +kernel) ?_
        refine j_aload_n g (i := 0) (by decide +kernel) rfl ?_
        refine j_gI g f8_103 (by decide +kernel) (by decide +kernel) (by decide +kernel) ?_
        refine j_lload_n g (i := 1) (by decide +kernel) rfl ?_
        refine j_bipush g (n := 8) (8) (by decide +kernel) (by decide +kernel) ?_
        refine j_iload g (i := 4) (by decide +kernel) rfl ?_
        refine j_imul g (by decide +kernel) ?_
        refine j_lshr g (by decide +kernel) ?_
        refine j_ldc2 g (n := 106) (255) (by decide +kernel) k8_106 ?_
        refine j_land g (by decide +kernel) ?_
        refine j_l2i g (by decide +kernel) ?_
        obtain ⟨h0, hp⟩ := hp
        refine j_is g 240 (by decide +kernel) (by decide +kernel) (by decide +kernel) h0 ?_
        refine j_aload_n g (i := 0) (by decide +kernel) rfl ?_
        refine j_dup g (by decide +kernel) rfl ?_
        refine j_gI g f8_103 (by decide +kernel) (by decide +kernel) (by decide +kernel) ?_
        refine j_iconst g (n := 1) (1) (by decide +kernel) rfl ?_
        refine j_iadd g (by decide +kernel) ?_
        refine j_pI g f8_103 (fun q h => by cases h; rfl) (by decide +kernel) (by decide +kernel) (by decide +kernel) ?_
        refine j_iinc g (i := 4) (n := 1) (1) (by decide +kernel) rfl (by decide) rfl ?_
        dsimp only [stL, clL, hdL]
        refine j_goto g (off := -40) (tgt := 30) (by decide +kernel) (by decide) ?_
        refine absurd (ci_X8_feed_30.mpr ?_) hx_30_1
        simp only [if_pos (show ¬ (b2i ((1 : Int32) ≤ a2 ∧ a2 ≤ (8 : Int32))) = 0 from c7), if_pos (show ((M.1 600 15) + a2) ≤ 240 from c21), if_neg (show ¬ (a2 ≤ ((l_X8_feed_30 a1 a2 (M, 0) (Int32.toNatClampNeg (a2))).2)) from c33)]
    · rw [if_neg (show ¬ (((M.1 600 15) + a2) ≤ 240) from c21)] at hp
      refine j_bipush g (n := -2) (-2) (by decide +kernel) (by decide +kernel) ?_
      refine hr.1 _ _ _ _ (by decide +kernel) ⟨_, rfl, by first | rfl | exact b2i_nar | decide +kernel⟩ ?_ ?_
      · unfold r_X8_feed; first | (simp only [if_pos (show ¬ (b2i ((1 : Int32) ≤ a2 ∧ a2 ≤ (8 : Int32))) = 0 from c7), if_neg (show ¬ (((M.1 600 15) + a2) ≤ 240) from c21)]; done) | (simp only [if_pos (show ¬ (b2i ((1 : Int32) ≤ a2 ∧ a2 ≤ (8 : Int32))) = 0 from c7), if_neg (show ¬ (((M.1 600 15) + a2) ≤ 240) from c21)]; rfl) | rfl
      · unfold w_X8_feed; first | (simp only [if_pos (show ¬ (b2i ((1 : Int32) ≤ a2 ∧ a2 ≤ (8 : Int32))) = 0 from c7), if_neg (show ¬ (((M.1 600 15) + a2) ≤ 240) from c21)]; done) | (simp only [if_pos (show ¬ (b2i ((1 : Int32) ≤ a2 ∧ a2 ≤ (8 : Int32))) = 0 from c7), if_neg (show ¬ (((M.1 600 15) + a2) ≤ 240) from c21)]; rfl) | rfl
  · rw [if_neg (show ¬ (¬ (b2i ((1 : Int32) ≤ a2 ∧ a2 ≤ (8 : Int32))) = 0) from c7)] at hp
    refine j_iconst g (n := -1) (-1) (by decide +kernel) rfl ?_
    refine hr.1 _ _ _ _ (by decide +kernel) ⟨_, rfl, by first | rfl | exact b2i_nar | decide +kernel⟩ ?_ ?_
    · unfold r_X8_feed; first | (simp only [if_neg (show ¬ (¬ (b2i ((1 : Int32) ≤ a2 ∧ a2 ≤ (8 : Int32))) = 0) from c7)]; done) | (simp only [if_neg (show ¬ (¬ (b2i ((1 : Int32) ≤ a2 ∧ a2 ≤ (8 : Int32))) = 0) from c7)]; rfl) | rfl
    · unfold w_X8_feed; first | (simp only [if_neg (show ¬ (¬ (b2i ((1 : Int32) ≤ a2 ∧ a2 ≤ (8 : Int32))) = 0) from c7)]; done) | (simp only [if_neg (show ¬ (¬ (b2i ((1 : Int32) ≤ a2 ∧ a2 ≤ (8 : Int32))) = 0) from c7)]; rfl) | rfl
def c_X8_sheet_64 (a1 : Int32) (a2 : Int32) (a3 : Int32) (σ : Mm × Int32) : Prop := if 40 ≤ σ.2 then False else True
theorem ci_X8_sheet_64 {a1 : Int32} {a2 : Int32} {a3 : Int32}  {σ : Mm × Int32} : c_X8_sheet_64 a1 a2 a3 σ ↔ (if 40 ≤ σ.2 then False else True) := Iff.rfl
noncomputable def s_X8_sheet_64 (a1 : Int32) (a2 : Int32) (a3 : Int32) (σ : Mm × Int32) : Mm × Int32 := if 40 ≤ σ.2 then σ else ((wl σ.1 622 (Int32.toNatClampNeg (((40 : Int32) * a1) + σ.2)) 0), σ.2 + 1)
def q_X8_sheet_64 (a1 : Int32) (a2 : Int32) (a3 : Int32) (σ : Mm × Int32) : Prop := (if 40 ≤ σ.2 then True else (vp_in (((40 : Int32) * a1) + σ.2) 160) ∧ True)
noncomputable def l_X8_sheet_64 (a1 : Int32) (a2 : Int32) (a3 : Int32) (σ0 : Mm × Int32) : Nat → Mm × Int32 := itN (fun _ σ => s_X8_sheet_64 a1 a2 a3 σ) σ0
theorem ps_X8_sheet_64 {d : Nat} {J : Nat → Lc → List Value → Mm → Prop} {a1 : Int32} {a2 : Int32} {a3 : Int32}  {σ : Mm × Int32}  (g : Good mX8_sheet.1 mX8_sheet.2.2.1 mX8_sheet.2.2.2.1 (d + 2) J) (hc : c_X8_sheet_64 a1 a2 a3 σ) (hp : q_X8_sheet_64 a1 a2 a3 σ) (k : J 64 [some (.ref 600), some (.int a1), some (.int a2), some (.int a3), some (.int ((s_X8_sheet_64 a1 a2 a3 σ).2))] [] ((s_X8_sheet_64 a1 a2 a3 σ).1)) : J 64 [some (.ref 600), some (.int a1), some (.int a2), some (.int a3), some (.int σ.2)] [] σ.1 := by
  unfold c_X8_sheet_64 at hc
  unfold q_X8_sheet_64 at hp
  unfold s_X8_sheet_64 at k
  refine j_iload g (i := 4) (by decide +kernel) rfl ?_
  refine j_bipush g (n := 40) (40) (by decide +kernel) (by decide +kernel) ?_
  refine j_icmp_ge g (off := 22) (tgt := 90) (by decide +kernel) (by decide) (fun c68 => ?_) (fun c68 => ?_)
  · (try rw [if_pos (show 40 ≤ σ.2 from c68)] at hc); (rw [if_pos (show 40 ≤ σ.2 from c68)] at hp); (try simp only [if_pos (show 40 ≤ σ.2 from c68)] at k)
    exact hc.elim
  · (try rw [if_neg (show ¬ (40 ≤ σ.2) from c68)] at hc); (rw [if_neg (show ¬ (40 ≤ σ.2) from c68)] at hp); (try simp only [if_neg (show ¬ (40 ≤ σ.2) from c68)] at k)
    refine j_aload_n g (i := 0) (by decide +kernel) rfl ?_
    refine j_gA g (b := 622) f8_73 (by decide +kernel) (by decide +kernel) (by decide +kernel) (by decide +kernel) ?_
    refine j_bipush g (n := 40) (40) (by decide +kernel) (by decide +kernel) ?_
    refine j_iload_n g (i := 1) (by decide +kernel) rfl ?_
    refine j_imul g (by decide +kernel) ?_
    refine j_iload g (i := 4) (by decide +kernel) rfl ?_
    refine j_iadd g (by decide +kernel) ?_
    refine j_lconst g (n := 0) (0) (by decide +kernel) rfl ?_
    obtain ⟨h0, hp⟩ := hp
    refine j_ls g 160 (by decide +kernel) (by decide +kernel) (by decide +kernel) h0 ?_
    refine j_iinc g (i := 4) (n := 1) (1) (by decide +kernel) rfl (by decide) rfl ?_
    dsimp only [stL, clL, hdL]
    refine j_goto g (off := -23) (tgt := 64) (by decide +kernel) (by decide) ?_
    exact k 
theorem sh_X8_sheet_64 {d : Nat} {J : Nat → Lc → List Value → Mm → Prop} {a1 : Int32} {a2 : Int32} {a3 : Int32}  {σ0 : Mm × Int32}  (g : Good mX8_sheet.1 mX8_sheet.2.2.1 mX8_sheet.2.2.2.1 (d + 2) J) : ∀ (N : Nat), (∀ k, k < N → c_X8_sheet_64 a1 a2 a3 (l_X8_sheet_64 a1 a2 a3 σ0 k)) → (∀ k, k < N → q_X8_sheet_64 a1 a2 a3 (l_X8_sheet_64 a1 a2 a3 σ0 k)) → (J 64 [some (.ref 600), some (.int a1), some (.int a2), some (.int a3), some (.int ((l_X8_sheet_64 a1 a2 a3 σ0 N).2))] [] ((l_X8_sheet_64 a1 a2 a3 σ0 N).1)) → J 64 [some (.ref 600), some (.int a1), some (.int a2), some (.int a3), some (.int σ0.2)] [] σ0.1
  | 0, _, _, k => k
  | N + 1, hc, hp, k => sh_X8_sheet_64  g N (fun i hi => hc i (Nat.lt_succ_of_lt hi)) (fun i hi => hp i (Nat.lt_succ_of_lt hi)) (ps_X8_sheet_64  g (hc N (Nat.lt_succ_self N)) (hp N (Nat.lt_succ_self N)) k)
noncomputable def r_X8_sheet (M : Mm) (a1 : Int32) (a2 : Int32) (a3 : Int32) : Int32 := if (b2i (0 ≤ a1 ∧ a1 ≤ 3)) = 0 then (-1) else if (b2i ((-1 : Int32) ≤ a2 ∧ a2 ≤ (3 : Int32))) = 0 then (-1) else if a2 < 0 then (if 0 ≤ a2 then (if 40 ≤ ((l_X8_sheet_64 a1 a2 a3 ((wi (wi M 620 (Int32.toNatClampNeg a1) a2) 621 (Int32.toNatClampNeg a1) a3), 0) n40).2) then 1 else 0) else if 40 ≤ ((l_X8_sheet_64 a1 a2 a3 ((wi (wi M 620 (Int32.toNatClampNeg a1) a2) 621 (Int32.toNatClampNeg a1) 0), 0) n40).2) then 1 else 0) else if a3 ≤ 40 then (if 0 ≤ a3 then (if 0 ≤ a2 then (if 40 ≤ ((l_X8_sheet_64 a1 a2 a3 ((wi (wi M 620 (Int32.toNatClampNeg a1) a2) 621 (Int32.toNatClampNeg a1) a3), 0) n40).2) then 1 else 0) else if 40 ≤ ((l_X8_sheet_64 a1 a2 a3 ((wi (wi M 620 (Int32.toNatClampNeg a1) a2) 621 (Int32.toNatClampNeg a1) 0), 0) n40).2) then 1 else 0) else (-14)) else (-1)
noncomputable def w_X8_sheet (M : Mm) (a1 : Int32) (a2 : Int32) (a3 : Int32) : Mm := if (b2i (0 ≤ a1 ∧ a1 ≤ 3)) = 0 then M else if (b2i ((-1 : Int32) ≤ a2 ∧ a2 ≤ (3 : Int32))) = 0 then M else if a2 < 0 then (if 0 ≤ a2 then (if 40 ≤ ((l_X8_sheet_64 a1 a2 a3 ((wi (wi M 620 (Int32.toNatClampNeg a1) a2) 621 (Int32.toNatClampNeg a1) a3), 0) n40).2) then (l_X8_sheet_64 a1 a2 a3 ((wi (wi M 620 (Int32.toNatClampNeg a1) a2) 621 (Int32.toNatClampNeg a1) a3), 0) n40).1 else M) else if 40 ≤ ((l_X8_sheet_64 a1 a2 a3 ((wi (wi M 620 (Int32.toNatClampNeg a1) a2) 621 (Int32.toNatClampNeg a1) 0), 0) n40).2) then (l_X8_sheet_64 a1 a2 a3 ((wi (wi M 620 (Int32.toNatClampNeg a1) a2) 621 (Int32.toNatClampNeg a1) 0), 0) n40).1 else M) else if a3 ≤ 40 then (if 0 ≤ a3 then (if 0 ≤ a2 then (if 40 ≤ ((l_X8_sheet_64 a1 a2 a3 ((wi (wi M 620 (Int32.toNatClampNeg a1) a2) 621 (Int32.toNatClampNeg a1) a3), 0) n40).2) then (l_X8_sheet_64 a1 a2 a3 ((wi (wi M 620 (Int32.toNatClampNeg a1) a2) 621 (Int32.toNatClampNeg a1) a3), 0) n40).1 else M) else if 40 ≤ ((l_X8_sheet_64 a1 a2 a3 ((wi (wi M 620 (Int32.toNatClampNeg a1) a2) 621 (Int32.toNatClampNeg a1) 0), 0) n40).2) then (l_X8_sheet_64 a1 a2 a3 ((wi (wi M 620 (Int32.toNatClampNeg a1) a2) 621 (Int32.toNatClampNeg a1) 0), 0) n40).1 else M) else M) else M
def p_X8_sheet (M : Mm) (a1 : Int32) (a2 : Int32) (a3 : Int32) : Prop := (if (b2i (0 ≤ a1 ∧ a1 ≤ 3)) = 0 then True else (if (b2i ((-1 : Int32) ≤ a2 ∧ a2 ≤ (3 : Int32))) = 0 then True else (if a2 < 0 then (vp_in a1 4) ∧ (if 0 ≤ a2 then (vp_in a1 4) ∧ (∀ k, k < n40 → c_X8_sheet_64 a1 a2 a3 (l_X8_sheet_64 a1 a2 a3 ((wi (wi M 620 (Int32.toNatClampNeg a1) a2) 621 (Int32.toNatClampNeg a1) a3), 0) k)) ∧ (∀ k, k < n40 → q_X8_sheet_64 a1 a2 a3 (l_X8_sheet_64 a1 a2 a3 ((wi (wi M 620 (Int32.toNatClampNeg a1) a2) 621 (Int32.toNatClampNeg a1) a3), 0) k)) ∧ (¬ c_X8_sheet_64 a1 a2 a3 (l_X8_sheet_64 a1 a2 a3 ((wi (wi M 620 (Int32.toNatClampNeg a1) a2) 621 (Int32.toNatClampNeg a1) a3), 0) n40)) ∧ (if 40 ≤ ((l_X8_sheet_64 a1 a2 a3 ((wi (wi M 620 (Int32.toNatClampNeg a1) a2) 621 (Int32.toNatClampNeg a1) a3), 0) n40).2) then True else (vp_in (((40 : Int32) * a1) + ((l_X8_sheet_64 a1 a2 a3 ((wi (wi M 620 (Int32.toNatClampNeg a1) a2) 621 (Int32.toNatClampNeg a1) a3), 0) n40).2)) 160) ∧ True) else (vp_in a1 4) ∧ (∀ k, k < n40 → c_X8_sheet_64 a1 a2 a3 (l_X8_sheet_64 a1 a2 a3 ((wi (wi M 620 (Int32.toNatClampNeg a1) a2) 621 (Int32.toNatClampNeg a1) 0), 0) k)) ∧ (∀ k, k < n40 → q_X8_sheet_64 a1 a2 a3 (l_X8_sheet_64 a1 a2 a3 ((wi (wi M 620 (Int32.toNatClampNeg a1) a2) 621 (Int32.toNatClampNeg a1) 0), 0) k)) ∧ (¬ c_X8_sheet_64 a1 a2 a3 (l_X8_sheet_64 a1 a2 a3 ((wi (wi M 620 (Int32.toNatClampNeg a1) a2) 621 (Int32.toNatClampNeg a1) 0), 0) n40)) ∧ (if 40 ≤ ((l_X8_sheet_64 a1 a2 a3 ((wi (wi M 620 (Int32.toNatClampNeg a1) a2) 621 (Int32.toNatClampNeg a1) 0), 0) n40).2) then True else (vp_in (((40 : Int32) * a1) + ((l_X8_sheet_64 a1 a2 a3 ((wi (wi M 620 (Int32.toNatClampNeg a1) a2) 621 (Int32.toNatClampNeg a1) 0), 0) n40).2)) 160) ∧ True)) else (if a3 ≤ 40 then (if 0 ≤ a3 then (vp_in a1 4) ∧ (if 0 ≤ a2 then (vp_in a1 4) ∧ (∀ k, k < n40 → c_X8_sheet_64 a1 a2 a3 (l_X8_sheet_64 a1 a2 a3 ((wi (wi M 620 (Int32.toNatClampNeg a1) a2) 621 (Int32.toNatClampNeg a1) a3), 0) k)) ∧ (∀ k, k < n40 → q_X8_sheet_64 a1 a2 a3 (l_X8_sheet_64 a1 a2 a3 ((wi (wi M 620 (Int32.toNatClampNeg a1) a2) 621 (Int32.toNatClampNeg a1) a3), 0) k)) ∧ (¬ c_X8_sheet_64 a1 a2 a3 (l_X8_sheet_64 a1 a2 a3 ((wi (wi M 620 (Int32.toNatClampNeg a1) a2) 621 (Int32.toNatClampNeg a1) a3), 0) n40)) ∧ (if 40 ≤ ((l_X8_sheet_64 a1 a2 a3 ((wi (wi M 620 (Int32.toNatClampNeg a1) a2) 621 (Int32.toNatClampNeg a1) a3), 0) n40).2) then True else (vp_in (((40 : Int32) * a1) + ((l_X8_sheet_64 a1 a2 a3 ((wi (wi M 620 (Int32.toNatClampNeg a1) a2) 621 (Int32.toNatClampNeg a1) a3), 0) n40).2)) 160) ∧ True) else (vp_in a1 4) ∧ (∀ k, k < n40 → c_X8_sheet_64 a1 a2 a3 (l_X8_sheet_64 a1 a2 a3 ((wi (wi M 620 (Int32.toNatClampNeg a1) a2) 621 (Int32.toNatClampNeg a1) 0), 0) k)) ∧ (∀ k, k < n40 → q_X8_sheet_64 a1 a2 a3 (l_X8_sheet_64 a1 a2 a3 ((wi (wi M 620 (Int32.toNatClampNeg a1) a2) 621 (Int32.toNatClampNeg a1) 0), 0) k)) ∧ (¬ c_X8_sheet_64 a1 a2 a3 (l_X8_sheet_64 a1 a2 a3 ((wi (wi M 620 (Int32.toNatClampNeg a1) a2) 621 (Int32.toNatClampNeg a1) 0), 0) n40)) ∧ (if 40 ≤ ((l_X8_sheet_64 a1 a2 a3 ((wi (wi M 620 (Int32.toNatClampNeg a1) a2) 621 (Int32.toNatClampNeg a1) 0), 0) n40).2) then True else (vp_in (((40 : Int32) * a1) + ((l_X8_sheet_64 a1 a2 a3 ((wi (wi M 620 (Int32.toNatClampNeg a1) a2) 621 (Int32.toNatClampNeg a1) 0), 0) n40).2)) 160) ∧ True)) else True) else True))))
theorem rnX8_sheet {d : Nat} {M : Mm} {a1 : Int32} {a2 : Int32} {a3 : Int32}  (hp : p_X8_sheet M a1 a2 a3) : Rn (d + 2) mX8_sheet [.ref 600, .int a1, .int a2, .int a3] M (some (.int (r_X8_sheet M a1 a2 a3))) (w_X8_sheet M a1 a2 a3) := by
  refine Rn.of [some (.ref 600), some (.int a1), some (.int a2), some (.int a3), none] (by decide +kernel) rfl (Nat.le_of_ble_eq_true rfl) rfl (fun J g hr => ?_)
  unfold p_X8_sheet at hp
  refine j_iload_n g (i := 1) (by decide +kernel) rfl ?_
  refine j_cS1r g s8_401 (by decide +kernel) (Nat.le_of_ble_eq_true rfl) (rnX8_isShelf) ?_
  refine j_if_eq g (off := 22) (tgt := 26) (by decide +kernel) (by decide) (fun c4 => ?_) (fun c4 => ?_)
  · rw [if_pos (show (b2i (0 ≤ a1 ∧ a1 ≤ 3)) = 0 from c4)] at hp
    refine j_iconst g (n := -1) (-1) (by decide +kernel) rfl ?_
    refine hr.1 _ _ _ _ (by decide +kernel) ⟨_, rfl, by first | rfl | exact b2i_nar | decide +kernel⟩ ?_ ?_
    · unfold r_X8_sheet; first | (simp only [if_pos (show (b2i (0 ≤ a1 ∧ a1 ≤ 3)) = 0 from c4)]; done) | (simp only [if_pos (show (b2i (0 ≤ a1 ∧ a1 ≤ 3)) = 0 from c4)]; rfl) | rfl
    · unfold w_X8_sheet; first | (simp only [if_pos (show (b2i (0 ≤ a1 ∧ a1 ≤ 3)) = 0 from c4)]; done) | (simp only [if_pos (show (b2i (0 ≤ a1 ∧ a1 ≤ 3)) = 0 from c4)]; rfl) | rfl
  · rw [if_neg (show ¬ ((b2i (0 ≤ a1 ∧ a1 ≤ 3)) = 0) from c4)] at hp
    refine j_iload_n g (i := 2) (by decide +kernel) rfl ?_
    refine j_iconst g (n := -1) (-1) (by decide +kernel) rfl ?_
    refine j_iconst g (n := 3) (3) (by decide +kernel) rfl ?_
    refine j_cS3r g s8_95 (by decide +kernel) (Nat.le_of_ble_eq_true rfl) (rnX8_in) ?_
    refine j_if_eq g (off := 13) (tgt := 26) (by decide +kernel) (by decide) (fun c13 => ?_) (fun c13 => ?_)
    · rw [if_pos (show (b2i ((-1 : Int32) ≤ a2 ∧ a2 ≤ (3 : Int32))) = 0 from c13)] at hp
      refine j_iconst g (n := -1) (-1) (by decide +kernel) rfl ?_
      refine hr.1 _ _ _ _ (by decide +kernel) ⟨_, rfl, by first | rfl | exact b2i_nar | decide +kernel⟩ ?_ ?_
      · unfold r_X8_sheet; first | (simp only [if_neg (show ¬ ((b2i (0 ≤ a1 ∧ a1 ≤ 3)) = 0) from c4), if_pos (show (b2i ((-1 : Int32) ≤ a2 ∧ a2 ≤ (3 : Int32))) = 0 from c13)]; done) | (simp only [if_neg (show ¬ ((b2i (0 ≤ a1 ∧ a1 ≤ 3)) = 0) from c4), if_pos (show (b2i ((-1 : Int32) ≤ a2 ∧ a2 ≤ (3 : Int32))) = 0 from c13)]; rfl) | rfl
      · unfold w_X8_sheet; first | (simp only [if_neg (show ¬ ((b2i (0 ≤ a1 ∧ a1 ≤ 3)) = 0) from c4), if_pos (show (b2i ((-1 : Int32) ≤ a2 ∧ a2 ≤ (3 : Int32))) = 0 from c13)]; done) | (simp only [if_neg (show ¬ ((b2i (0 ≤ a1 ∧ a1 ≤ 3)) = 0) from c4), if_pos (show (b2i ((-1 : Int32) ≤ a2 ∧ a2 ≤ (3 : Int32))) = 0 from c13)]; rfl) | rfl
    · rw [if_neg (show ¬ ((b2i ((-1 : Int32) ≤ a2 ∧ a2 ≤ (3 : Int32))) = 0) from c13)] at hp
      refine j_iload_n g (i := 2) (by decide +kernel) rfl ?_
      refine j_if_lt g (off := 11) (tgt := 28) (by decide +kernel) (by decide) (fun c17 => ?_) (fun c17 => ?_)
      · rw [if_pos (show a2 < 0 from c17)] at hp
        refine j_iload_n g (i := 2) (by decide +kernel) rfl ?_
        refine j_if_lt g (off := 10) (tgt := 39) (by decide +kernel) (by decide) (fun c29 => ?_) (fun c29 => by exfalso; revert c29; simpa using c17)
        refine j_aload_n g (i := 0) (by decide +kernel) rfl ?_
        refine j_gA g (b := 620) f8_67 (by decide +kernel) (by decide +kernel) (by decide +kernel) (by decide +kernel) ?_
        refine j_iload_n g (i := 1) (by decide +kernel) rfl ?_
        refine j_iload_n g (i := 2) (by decide +kernel) rfl ?_
        obtain ⟨h0, hp⟩ := hp
        refine j_is g 4 (by decide +kernel) (by decide +kernel) (by decide +kernel) h0 ?_
        refine j_aload_n g (i := 0) (by decide +kernel) rfl ?_
        refine j_gA g (b := 621) f8_70 (by decide +kernel) (by decide +kernel) (by decide +kernel) (by decide +kernel) ?_
        refine j_iload_n g (i := 1) (by decide +kernel) rfl ?_
        refine j_iload_n g (i := 2) (by decide +kernel) rfl ?_
        refine j_if_ge g (off := 7) (tgt := 59) (by decide +kernel) (by decide) (fun c52 => ?_) (fun c52 => ?_)
        · rw [if_pos (show 0 ≤ a2 from c52)] at hp
          refine j_iload_n g (i := 3) (by decide +kernel) rfl ?_
          obtain ⟨h0, hp⟩ := hp
          refine j_is g 4 (by decide +kernel) (by decide +kernel) (by decide +kernel) h0 ?_
          refine j_iconst g (n := 0) (0) (by decide +kernel) rfl ?_
          refine j_istore g (i := 4) (by decide +kernel) (by decide) ?_
          dsimp only [stL, clL, hdL]
          obtain ⟨h0, hp⟩ := hp
          have hc_64_1 := h0
          obtain ⟨h0, hp⟩ := hp
          have hq_64_1 := h0
          obtain ⟨h0, hp⟩ := hp
          have hx_64_1 := h0
          refine sh_X8_sheet_64   g (σ0 := ((wi (wi M 620 (Int32.toNatClampNeg a1) a2) 621 (Int32.toNatClampNeg a1) a3), 0)) n40 hc_64_1 hq_64_1 ?_ 
          refine j_iload g (i := 4) (by decide +kernel) rfl ?_
          refine j_bipush g (n := 40) (40) (by decide +kernel) (by decide +kernel) ?_
          refine j_icmp_ge g (off := 22) (tgt := 90) (by decide +kernel) (by decide) (fun c68 => ?_) (fun c68 => ?_)
          · rw [if_pos (show 40 ≤ ((l_X8_sheet_64 a1 a2 a3 ((wi (wi M 620 (Int32.toNatClampNeg a1) a2) 621 (Int32.toNatClampNeg a1) a3), 0) n40).2) from c68)] at hp
            refine j_iconst g (n := 1) (1) (by decide +kernel) rfl ?_
            refine hr.1 _ _ _ _ (by decide +kernel) ⟨_, rfl, by first | rfl | exact b2i_nar | decide +kernel⟩ ?_ ?_
            · unfold r_X8_sheet; first | (simp only [if_neg (show ¬ ((b2i (0 ≤ a1 ∧ a1 ≤ 3)) = 0) from c4), if_neg (show ¬ ((b2i ((-1 : Int32) ≤ a2 ∧ a2 ≤ (3 : Int32))) = 0) from c13), if_pos (show a2 < 0 from c17), if_pos (show 0 ≤ a2 from c52), if_pos (show 40 ≤ ((l_X8_sheet_64 a1 a2 a3 ((wi (wi M 620 (Int32.toNatClampNeg a1) a2) 621 (Int32.toNatClampNeg a1) a3), 0) n40).2) from c68)]; done) | (simp only [if_neg (show ¬ ((b2i (0 ≤ a1 ∧ a1 ≤ 3)) = 0) from c4), if_neg (show ¬ ((b2i ((-1 : Int32) ≤ a2 ∧ a2 ≤ (3 : Int32))) = 0) from c13), if_pos (show a2 < 0 from c17), if_pos (show 0 ≤ a2 from c52), if_pos (show 40 ≤ ((l_X8_sheet_64 a1 a2 a3 ((wi (wi M 620 (Int32.toNatClampNeg a1) a2) 621 (Int32.toNatClampNeg a1) a3), 0) n40).2) from c68)]; rfl) | rfl
            · unfold w_X8_sheet; first | (simp only [if_neg (show ¬ ((b2i (0 ≤ a1 ∧ a1 ≤ 3)) = 0) from c4), if_neg (show ¬ ((b2i ((-1 : Int32) ≤ a2 ∧ a2 ≤ (3 : Int32))) = 0) from c13), if_pos (show a2 < 0 from c17), if_pos (show 0 ≤ a2 from c52), if_pos (show 40 ≤ ((l_X8_sheet_64 a1 a2 a3 ((wi (wi M 620 (Int32.toNatClampNeg a1) a2) 621 (Int32.toNatClampNeg a1) a3), 0) n40).2) from c68)]; done) | (simp only [if_neg (show ¬ ((b2i (0 ≤ a1 ∧ a1 ≤ 3)) = 0) from c4), if_neg (show ¬ ((b2i ((-1 : Int32) ≤ a2 ∧ a2 ≤ (3 : Int32))) = 0) from c13), if_pos (show a2 < 0 from c17), if_pos (show 0 ≤ a2 from c52), if_pos (show 40 ≤ ((l_X8_sheet_64 a1 a2 a3 ((wi (wi M 620 (Int32.toNatClampNeg a1) a2) 621 (Int32.toNatClampNeg a1) a3), 0) n40).2) from c68)]; rfl) | rfl
          · rw [if_neg (show ¬ (40 ≤ ((l_X8_sheet_64 a1 a2 a3 ((wi (wi M 620 (Int32.toNatClampNeg a1) a2) 621 (Int32.toNatClampNeg a1) a3), 0) n40).2)) from c68)] at hp
            refine j_aload_n g (i := 0) (by decide +kernel) rfl ?_
            refine j_gA g (b := 622) f8_73 (by decide +kernel) (by decide +kernel) (by decide +kernel) (by decide +kernel) ?_
            refine j_bipush g (n := 40) (40) (by decide +kernel) (by decide +kernel) ?_
            refine j_iload_n g (i := 1) (by decide +kernel) rfl ?_
            refine j_imul g (by decide +kernel) ?_
            refine j_iload g (i := 4) (by decide +kernel) rfl ?_
            refine j_iadd g (by decide +kernel) ?_
            refine j_lconst g (n := 0) (0) (by decide +kernel) rfl ?_
            obtain ⟨h0, hp⟩ := hp
            refine j_ls g 160 (by decide +kernel) (by decide +kernel) (by decide +kernel) h0 ?_
            refine j_iinc g (i := 4) (n := 1) (1) (by decide +kernel) rfl (by decide) rfl ?_
            dsimp only [stL, clL, hdL]
            refine j_goto g (off := -23) (tgt := 64) (by decide +kernel) (by decide) ?_
            refine absurd (ci_X8_sheet_64.mpr ?_) hx_64_1
            simp only [if_neg (show ¬ ((b2i (0 ≤ a1 ∧ a1 ≤ 3)) = 0) from c4), if_neg (show ¬ ((b2i ((-1 : Int32) ≤ a2 ∧ a2 ≤ (3 : Int32))) = 0) from c13), if_pos (show a2 < 0 from c17), if_pos (show 0 ≤ a2 from c52), if_neg (show ¬ (40 ≤ ((l_X8_sheet_64 a1 a2 a3 ((wi (wi M 620 (Int32.toNatClampNeg a1) a2) 621 (Int32.toNatClampNeg a1) a3), 0) n40).2)) from c68)]
        · rw [if_neg (show ¬ (0 ≤ a2) from c52)] at hp
          refine j_iconst g (n := 0) (0) (by decide +kernel) rfl ?_
          refine j_goto g (off := 4) (tgt := 60) (by decide +kernel) (by decide) ?_
          obtain ⟨h0, hp⟩ := hp
          refine j_is g 4 (by decide +kernel) (by decide +kernel) (by decide +kernel) h0 ?_
          refine j_iconst g (n := 0) (0) (by decide +kernel) rfl ?_
          refine j_istore g (i := 4) (by decide +kernel) (by decide) ?_
          dsimp only [stL, clL, hdL]
          obtain ⟨h0, hp⟩ := hp
          have hc_64_2 := h0
          obtain ⟨h0, hp⟩ := hp
          have hq_64_2 := h0
          obtain ⟨h0, hp⟩ := hp
          have hx_64_2 := h0
          refine sh_X8_sheet_64   g (σ0 := ((wi (wi M 620 (Int32.toNatClampNeg a1) a2) 621 (Int32.toNatClampNeg a1) 0), 0)) n40 hc_64_2 hq_64_2 ?_ 
          refine j_iload g (i := 4) (by decide +kernel) rfl ?_
          refine j_bipush g (n := 40) (40) (by decide +kernel) (by decide +kernel) ?_
          refine j_icmp_ge g (off := 22) (tgt := 90) (by decide +kernel) (by decide) (fun c68 => ?_) (fun c68 => ?_)
          · rw [if_pos (show 40 ≤ ((l_X8_sheet_64 a1 a2 a3 ((wi (wi M 620 (Int32.toNatClampNeg a1) a2) 621 (Int32.toNatClampNeg a1) 0), 0) n40).2) from c68)] at hp
            refine j_iconst g (n := 1) (1) (by decide +kernel) rfl ?_
            refine hr.1 _ _ _ _ (by decide +kernel) ⟨_, rfl, by first | rfl | exact b2i_nar | decide +kernel⟩ ?_ ?_
            · unfold r_X8_sheet; first | (simp only [if_neg (show ¬ ((b2i (0 ≤ a1 ∧ a1 ≤ 3)) = 0) from c4), if_neg (show ¬ ((b2i ((-1 : Int32) ≤ a2 ∧ a2 ≤ (3 : Int32))) = 0) from c13), if_pos (show a2 < 0 from c17), if_neg (show ¬ (0 ≤ a2) from c52), if_pos (show 40 ≤ ((l_X8_sheet_64 a1 a2 a3 ((wi (wi M 620 (Int32.toNatClampNeg a1) a2) 621 (Int32.toNatClampNeg a1) 0), 0) n40).2) from c68)]; done) | (simp only [if_neg (show ¬ ((b2i (0 ≤ a1 ∧ a1 ≤ 3)) = 0) from c4), if_neg (show ¬ ((b2i ((-1 : Int32) ≤ a2 ∧ a2 ≤ (3 : Int32))) = 0) from c13), if_pos (show a2 < 0 from c17), if_neg (show ¬ (0 ≤ a2) from c52), if_pos (show 40 ≤ ((l_X8_sheet_64 a1 a2 a3 ((wi (wi M 620 (Int32.toNatClampNeg a1) a2) 621 (Int32.toNatClampNeg a1) 0), 0) n40).2) from c68)]; rfl) | rfl
            · unfold w_X8_sheet; first | (simp only [if_neg (show ¬ ((b2i (0 ≤ a1 ∧ a1 ≤ 3)) = 0) from c4), if_neg (show ¬ ((b2i ((-1 : Int32) ≤ a2 ∧ a2 ≤ (3 : Int32))) = 0) from c13), if_pos (show a2 < 0 from c17), if_neg (show ¬ (0 ≤ a2) from c52), if_pos (show 40 ≤ ((l_X8_sheet_64 a1 a2 a3 ((wi (wi M 620 (Int32.toNatClampNeg a1) a2) 621 (Int32.toNatClampNeg a1) 0), 0) n40).2) from c68)]; done) | (simp only [if_neg (show ¬ ((b2i (0 ≤ a1 ∧ a1 ≤ 3)) = 0) from c4), if_neg (show ¬ ((b2i ((-1 : Int32) ≤ a2 ∧ a2 ≤ (3 : Int32))) = 0) from c13), if_pos (show a2 < 0 from c17), if_neg (show ¬ (0 ≤ a2) from c52), if_pos (show 40 ≤ ((l_X8_sheet_64 a1 a2 a3 ((wi (wi M 620 (Int32.toNatClampNeg a1) a2) 621 (Int32.toNatClampNeg a1) 0), 0) n40).2) from c68)]; rfl) | rfl
          · rw [if_neg (show ¬ (40 ≤ ((l_X8_sheet_64 a1 a2 a3 ((wi (wi M 620 (Int32.toNatClampNeg a1) a2) 621 (Int32.toNatClampNeg a1) 0), 0) n40).2)) from c68)] at hp
            refine j_aload_n g (i := 0) (by decide +kernel) rfl ?_
            refine j_gA g (b := 622) f8_73 (by decide +kernel) (by decide +kernel) (by decide +kernel) (by decide +kernel) ?_
            refine j_bipush g (n := 40) (40) (by decide +kernel) (by decide +kernel) ?_
            refine j_iload_n g (i := 1) (by decide +kernel) rfl ?_
            refine j_imul g (by decide +kernel) ?_
            refine j_iload g (i := 4) (by decide +kernel) rfl ?_
            refine j_iadd g (by decide +kernel) ?_
            refine j_lconst g (n := 0) (0) (by decide +kernel) rfl ?_
            obtain ⟨h0, hp⟩ := hp
            refine j_ls g 160 (by decide +kernel) (by decide +kernel) (by decide +kernel) h0 ?_
            refine j_iinc g (i := 4) (n := 1) (1) (by decide +kernel) rfl (by decide) rfl ?_
            dsimp only [stL, clL, hdL]
            refine j_goto g (off := -23) (tgt := 64) (by decide +kernel) (by decide) ?_
            refine absurd (ci_X8_sheet_64.mpr ?_) hx_64_2
            simp only [if_neg (show ¬ ((b2i (0 ≤ a1 ∧ a1 ≤ 3)) = 0) from c4), if_neg (show ¬ ((b2i ((-1 : Int32) ≤ a2 ∧ a2 ≤ (3 : Int32))) = 0) from c13), if_pos (show a2 < 0 from c17), if_neg (show ¬ (0 ≤ a2) from c52), if_neg (show ¬ (40 ≤ ((l_X8_sheet_64 a1 a2 a3 ((wi (wi M 620 (Int32.toNatClampNeg a1) a2) 621 (Int32.toNatClampNeg a1) 0), 0) n40).2)) from c68)]
      · rw [if_neg (show ¬ (a2 < 0) from c17)] at hp
        refine j_iload_n g (i := 3) (by decide +kernel) rfl ?_
        refine j_bipush g (n := 40) (40) (by decide +kernel) (by decide +kernel) ?_
        refine j_icmp_le g (off := 5) (tgt := 28) (by decide +kernel) (by decide) (fun c23 => ?_) (fun c23 => ?_)
        · rw [if_pos (show a3 ≤ 40 from c23)] at hp
          refine j_iload_n g (i := 2) (by decide +kernel) rfl ?_
          refine j_if_lt g (off := 10) (tgt := 39) (by decide +kernel) (by decide) (fun c29 => by exfalso; revert c29; simpa using c17) (fun c29 => ?_)
          refine j_iload_n g (i := 3) (by decide +kernel) rfl ?_
          refine j_if_ge g (off := 6) (tgt := 39) (by decide +kernel) (by decide) (fun c33 => ?_) (fun c33 => ?_)
          · rw [if_pos (show 0 ≤ a3 from c33)] at hp
            refine j_aload_n g (i := 0) (by decide +kernel) rfl ?_
            refine j_gA g (b := 620) f8_67 (by decide +kernel) (by decide +kernel) (by decide +kernel) (by decide +kernel) ?_
            refine j_iload_n g (i := 1) (by decide +kernel) rfl ?_
            refine j_iload_n g (i := 2) (by decide +kernel) rfl ?_
            obtain ⟨h0, hp⟩ := hp
            refine j_is g 4 (by decide +kernel) (by decide +kernel) (by decide +kernel) h0 ?_
            refine j_aload_n g (i := 0) (by decide +kernel) rfl ?_
            refine j_gA g (b := 621) f8_70 (by decide +kernel) (by decide +kernel) (by decide +kernel) (by decide +kernel) ?_
            refine j_iload_n g (i := 1) (by decide +kernel) rfl ?_
            refine j_iload_n g (i := 2) (by decide +kernel) rfl ?_
            refine j_if_ge g (off := 7) (tgt := 59) (by decide +kernel) (by decide) (fun c52 => ?_) (fun c52 => ?_)
            · rw [if_pos (show 0 ≤ a2 from c52)] at hp
              refine j_iload_n g (i := 3) (by decide +kernel) rfl ?_
              obtain ⟨h0, hp⟩ := hp
              refine j_is g 4 (by decide +kernel) (by decide +kernel) (by decide +kernel) h0 ?_
              refine j_iconst g (n := 0) (0) (by decide +kernel) rfl ?_
              refine j_istore g (i := 4) (by decide +kernel) (by decide) ?_
              dsimp only [stL, clL, hdL]
              obtain ⟨h0, hp⟩ := hp
              have hc_64_3 := h0
              obtain ⟨h0, hp⟩ := hp
              have hq_64_3 := h0
              obtain ⟨h0, hp⟩ := hp
              have hx_64_3 := h0
              refine sh_X8_sheet_64   g (σ0 := ((wi (wi M 620 (Int32.toNatClampNeg a1) a2) 621 (Int32.toNatClampNeg a1) a3), 0)) n40 hc_64_3 hq_64_3 ?_ 
              refine j_iload g (i := 4) (by decide +kernel) rfl ?_
              refine j_bipush g (n := 40) (40) (by decide +kernel) (by decide +kernel) ?_
              refine j_icmp_ge g (off := 22) (tgt := 90) (by decide +kernel) (by decide) (fun c68 => ?_) (fun c68 => ?_)
              · rw [if_pos (show 40 ≤ ((l_X8_sheet_64 a1 a2 a3 ((wi (wi M 620 (Int32.toNatClampNeg a1) a2) 621 (Int32.toNatClampNeg a1) a3), 0) n40).2) from c68)] at hp
                refine j_iconst g (n := 1) (1) (by decide +kernel) rfl ?_
                refine hr.1 _ _ _ _ (by decide +kernel) ⟨_, rfl, by first | rfl | exact b2i_nar | decide +kernel⟩ ?_ ?_
                · unfold r_X8_sheet; first | (simp only [if_neg (show ¬ ((b2i (0 ≤ a1 ∧ a1 ≤ 3)) = 0) from c4), if_neg (show ¬ ((b2i ((-1 : Int32) ≤ a2 ∧ a2 ≤ (3 : Int32))) = 0) from c13), if_neg (show ¬ (a2 < 0) from c17), if_pos (show a3 ≤ 40 from c23), if_pos (show 0 ≤ a3 from c33), if_pos (show 0 ≤ a2 from c52), if_pos (show 40 ≤ ((l_X8_sheet_64 a1 a2 a3 ((wi (wi M 620 (Int32.toNatClampNeg a1) a2) 621 (Int32.toNatClampNeg a1) a3), 0) n40).2) from c68)]; done) | (simp only [if_neg (show ¬ ((b2i (0 ≤ a1 ∧ a1 ≤ 3)) = 0) from c4), if_neg (show ¬ ((b2i ((-1 : Int32) ≤ a2 ∧ a2 ≤ (3 : Int32))) = 0) from c13), if_neg (show ¬ (a2 < 0) from c17), if_pos (show a3 ≤ 40 from c23), if_pos (show 0 ≤ a3 from c33), if_pos (show 0 ≤ a2 from c52), if_pos (show 40 ≤ ((l_X8_sheet_64 a1 a2 a3 ((wi (wi M 620 (Int32.toNatClampNeg a1) a2) 621 (Int32.toNatClampNeg a1) a3), 0) n40).2) from c68)]; rfl) | rfl
                · unfold w_X8_sheet; first | (simp only [if_neg (show ¬ ((b2i (0 ≤ a1 ∧ a1 ≤ 3)) = 0) from c4), if_neg (show ¬ ((b2i ((-1 : Int32) ≤ a2 ∧ a2 ≤ (3 : Int32))) = 0) from c13), if_neg (show ¬ (a2 < 0) from c17), if_pos (show a3 ≤ 40 from c23), if_pos (show 0 ≤ a3 from c33), if_pos (show 0 ≤ a2 from c52), if_pos (show 40 ≤ ((l_X8_sheet_64 a1 a2 a3 ((wi (wi M 620 (Int32.toNatClampNeg a1) a2) 621 (Int32.toNatClampNeg a1) a3), 0) n40).2) from c68)]; done) | (simp only [if_neg (show ¬ ((b2i (0 ≤ a1 ∧ a1 ≤ 3)) = 0) from c4), if_neg (show ¬ ((b2i ((-1 : Int32) ≤ a2 ∧ a2 ≤ (3 : Int32))) = 0) from c13), if_neg (show ¬ (a2 < 0) from c17), if_pos (show a3 ≤ 40 from c23), if_pos (show 0 ≤ a3 from c33), if_pos (show 0 ≤ a2 from c52), if_pos (show 40 ≤ ((l_X8_sheet_64 a1 a2 a3 ((wi (wi M 620 (Int32.toNatClampNeg a1) a2) 621 (Int32.toNatClampNeg a1) a3), 0) n40).2) from c68)]; rfl) | rfl
              · rw [if_neg (show ¬ (40 ≤ ((l_X8_sheet_64 a1 a2 a3 ((wi (wi M 620 (Int32.toNatClampNeg a1) a2) 621 (Int32.toNatClampNeg a1) a3), 0) n40).2)) from c68)] at hp
                refine j_aload_n g (i := 0) (by decide +kernel) rfl ?_
                refine j_gA g (b := 622) f8_73 (by decide +kernel) (by decide +kernel) (by decide +kernel) (by decide +kernel) ?_
                refine j_bipush g (n := 40) (40) (by decide +kernel) (by decide +kernel) ?_
                refine j_iload_n g (i := 1) (by decide +kernel) rfl ?_
                refine j_imul g (by decide +kernel) ?_
                refine j_iload g (i := 4) (by decide +kernel) rfl ?_
                refine j_iadd g (by decide +kernel) ?_
                refine j_lconst g (n := 0) (0) (by decide +kernel) rfl ?_
                obtain ⟨h0, hp⟩ := hp
                refine j_ls g 160 (by decide +kernel) (by decide +kernel) (by decide +kernel) h0 ?_
                refine j_iinc g (i := 4) (n := 1) (1) (by decide +kernel) rfl (by decide) rfl ?_
                dsimp only [stL, clL, hdL]
                refine j_goto g (off := -23) (tgt := 64) (by decide +kernel) (by decide) ?_
                refine absurd (ci_X8_sheet_64.mpr ?_) hx_64_3
                simp only [if_neg (show ¬ ((b2i (0 ≤ a1 ∧ a1 ≤ 3)) = 0) from c4), if_neg (show ¬ ((b2i ((-1 : Int32) ≤ a2 ∧ a2 ≤ (3 : Int32))) = 0) from c13), if_neg (show ¬ (a2 < 0) from c17), if_pos (show a3 ≤ 40 from c23), if_pos (show 0 ≤ a3 from c33), if_pos (show 0 ≤ a2 from c52), if_neg (show ¬ (40 ≤ ((l_X8_sheet_64 a1 a2 a3 ((wi (wi M 620 (Int32.toNatClampNeg a1) a2) 621 (Int32.toNatClampNeg a1) a3), 0) n40).2)) from c68)]
            · rw [if_neg (show ¬ (0 ≤ a2) from c52)] at hp
              refine j_iconst g (n := 0) (0) (by decide +kernel) rfl ?_
              refine j_goto g (off := 4) (tgt := 60) (by decide +kernel) (by decide) ?_
              obtain ⟨h0, hp⟩ := hp
              refine j_is g 4 (by decide +kernel) (by decide +kernel) (by decide +kernel) h0 ?_
              refine j_iconst g (n := 0) (0) (by decide +kernel) rfl ?_
              refine j_istore g (i := 4) (by decide +kernel) (by decide) ?_
              dsimp only [stL, clL, hdL]
              obtain ⟨h0, hp⟩ := hp
              have hc_64_4 := h0
              obtain ⟨h0, hp⟩ := hp
              have hq_64_4 := h0
              obtain ⟨h0, hp⟩ := hp
              have hx_64_4 := h0
              refine sh_X8_sheet_64   g (σ0 := ((wi (wi M 620 (Int32.toNatClampNeg a1) a2) 621 (Int32.toNatClampNeg a1) 0), 0)) n40 hc_64_4 hq_64_4 ?_ 
              refine j_iload g (i := 4) (by decide +kernel) rfl ?_
              refine j_bipush g (n := 40) (40) (by decide +kernel) (by decide +kernel) ?_
              refine j_icmp_ge g (off := 22) (tgt := 90) (by decide +kernel) (by decide) (fun c68 => ?_) (fun c68 => ?_)
              · rw [if_pos (show 40 ≤ ((l_X8_sheet_64 a1 a2 a3 ((wi (wi M 620 (Int32.toNatClampNeg a1) a2) 621 (Int32.toNatClampNeg a1) 0), 0) n40).2) from c68)] at hp
                refine j_iconst g (n := 1) (1) (by decide +kernel) rfl ?_
                refine hr.1 _ _ _ _ (by decide +kernel) ⟨_, rfl, by first | rfl | exact b2i_nar | decide +kernel⟩ ?_ ?_
                · unfold r_X8_sheet; first | (simp only [if_neg (show ¬ ((b2i (0 ≤ a1 ∧ a1 ≤ 3)) = 0) from c4), if_neg (show ¬ ((b2i ((-1 : Int32) ≤ a2 ∧ a2 ≤ (3 : Int32))) = 0) from c13), if_neg (show ¬ (a2 < 0) from c17), if_pos (show a3 ≤ 40 from c23), if_pos (show 0 ≤ a3 from c33), if_neg (show ¬ (0 ≤ a2) from c52), if_pos (show 40 ≤ ((l_X8_sheet_64 a1 a2 a3 ((wi (wi M 620 (Int32.toNatClampNeg a1) a2) 621 (Int32.toNatClampNeg a1) 0), 0) n40).2) from c68)]; done) | (simp only [if_neg (show ¬ ((b2i (0 ≤ a1 ∧ a1 ≤ 3)) = 0) from c4), if_neg (show ¬ ((b2i ((-1 : Int32) ≤ a2 ∧ a2 ≤ (3 : Int32))) = 0) from c13), if_neg (show ¬ (a2 < 0) from c17), if_pos (show a3 ≤ 40 from c23), if_pos (show 0 ≤ a3 from c33), if_neg (show ¬ (0 ≤ a2) from c52), if_pos (show 40 ≤ ((l_X8_sheet_64 a1 a2 a3 ((wi (wi M 620 (Int32.toNatClampNeg a1) a2) 621 (Int32.toNatClampNeg a1) 0), 0) n40).2) from c68)]; rfl) | rfl
                · unfold w_X8_sheet; first | (simp only [if_neg (show ¬ ((b2i (0 ≤ a1 ∧ a1 ≤ 3)) = 0) from c4), if_neg (show ¬ ((b2i ((-1 : Int32) ≤ a2 ∧ a2 ≤ (3 : Int32))) = 0) from c13), if_neg (show ¬ (a2 < 0) from c17), if_pos (show a3 ≤ 40 from c23), if_pos (show 0 ≤ a3 from c33), if_neg (show ¬ (0 ≤ a2) from c52), if_pos (show 40 ≤ ((l_X8_sheet_64 a1 a2 a3 ((wi (wi M 620 (Int32.toNatClampNeg a1) a2) 621 (Int32.toNatClampNeg a1) 0), 0) n40).2) from c68)]; done) | (simp only [if_neg (show ¬ ((b2i (0 ≤ a1 ∧ a1 ≤ 3)) = 0) from c4), if_neg (show ¬ ((b2i ((-1 : Int32) ≤ a2 ∧ a2 ≤ (3 : Int32))) = 0) from c13), if_neg (show ¬ (a2 < 0) from c17), if_pos (show a3 ≤ 40 from c23), if_pos (show 0 ≤ a3 from c33), if_neg (show ¬ (0 ≤ a2) from c52), if_pos (show 40 ≤ ((l_X8_sheet_64 a1 a2 a3 ((wi (wi M 620 (Int32.toNatClampNeg a1) a2) 621 (Int32.toNatClampNeg a1) 0), 0) n40).2) from c68)]; rfl) | rfl
              · rw [if_neg (show ¬ (40 ≤ ((l_X8_sheet_64 a1 a2 a3 ((wi (wi M 620 (Int32.toNatClampNeg a1) a2) 621 (Int32.toNatClampNeg a1) 0), 0) n40).2)) from c68)] at hp
                refine j_aload_n g (i := 0) (by decide +kernel) rfl ?_
                refine j_gA g (b := 622) f8_73 (by decide +kernel) (by decide +kernel) (by decide +kernel) (by decide +kernel) ?_
                refine j_bipush g (n := 40) (40) (by decide +kernel) (by decide +kernel) ?_
                refine j_iload_n g (i := 1) (by decide +kernel) rfl ?_
                refine j_imul g (by decide +kernel) ?_
                refine j_iload g (i := 4) (by decide +kernel) rfl ?_
                refine j_iadd g (by decide +kernel) ?_
                refine j_lconst g (n := 0) (0) (by decide +kernel) rfl ?_
                obtain ⟨h0, hp⟩ := hp
                refine j_ls g 160 (by decide +kernel) (by decide +kernel) (by decide +kernel) h0 ?_
                refine j_iinc g (i := 4) (n := 1) (1) (by decide +kernel) rfl (by decide) rfl ?_
                dsimp only [stL, clL, hdL]
                refine j_goto g (off := -23) (tgt := 64) (by decide +kernel) (by decide) ?_
                refine absurd (ci_X8_sheet_64.mpr ?_) hx_64_4
                simp only [if_neg (show ¬ ((b2i (0 ≤ a1 ∧ a1 ≤ 3)) = 0) from c4), if_neg (show ¬ ((b2i ((-1 : Int32) ≤ a2 ∧ a2 ≤ (3 : Int32))) = 0) from c13), if_neg (show ¬ (a2 < 0) from c17), if_pos (show a3 ≤ 40 from c23), if_pos (show 0 ≤ a3 from c33), if_neg (show ¬ (0 ≤ a2) from c52), if_neg (show ¬ (40 ≤ ((l_X8_sheet_64 a1 a2 a3 ((wi (wi M 620 (Int32.toNatClampNeg a1) a2) 621 (Int32.toNatClampNeg a1) 0), 0) n40).2)) from c68)]
          · rw [if_neg (show ¬ (0 ≤ a3) from c33)] at hp
            refine j_bipush g (n := -14) (-14) (by decide +kernel) (by decide +kernel) ?_
            refine hr.1 _ _ _ _ (by decide +kernel) ⟨_, rfl, by first | rfl | exact b2i_nar | decide +kernel⟩ ?_ ?_
            · unfold r_X8_sheet; first | (simp only [if_neg (show ¬ ((b2i (0 ≤ a1 ∧ a1 ≤ 3)) = 0) from c4), if_neg (show ¬ ((b2i ((-1 : Int32) ≤ a2 ∧ a2 ≤ (3 : Int32))) = 0) from c13), if_neg (show ¬ (a2 < 0) from c17), if_pos (show a3 ≤ 40 from c23), if_neg (show ¬ (0 ≤ a3) from c33)]; done) | (simp only [if_neg (show ¬ ((b2i (0 ≤ a1 ∧ a1 ≤ 3)) = 0) from c4), if_neg (show ¬ ((b2i ((-1 : Int32) ≤ a2 ∧ a2 ≤ (3 : Int32))) = 0) from c13), if_neg (show ¬ (a2 < 0) from c17), if_pos (show a3 ≤ 40 from c23), if_neg (show ¬ (0 ≤ a3) from c33)]; rfl) | rfl
            · unfold w_X8_sheet; first | (simp only [if_neg (show ¬ ((b2i (0 ≤ a1 ∧ a1 ≤ 3)) = 0) from c4), if_neg (show ¬ ((b2i ((-1 : Int32) ≤ a2 ∧ a2 ≤ (3 : Int32))) = 0) from c13), if_neg (show ¬ (a2 < 0) from c17), if_pos (show a3 ≤ 40 from c23), if_neg (show ¬ (0 ≤ a3) from c33)]; done) | (simp only [if_neg (show ¬ ((b2i (0 ≤ a1 ∧ a1 ≤ 3)) = 0) from c4), if_neg (show ¬ ((b2i ((-1 : Int32) ≤ a2 ∧ a2 ≤ (3 : Int32))) = 0) from c13), if_neg (show ¬ (a2 < 0) from c17), if_pos (show a3 ≤ 40 from c23), if_neg (show ¬ (0 ≤ a3) from c33)]; rfl) | rfl
        · rw [if_neg (show ¬ (a3 ≤ 40) from c23)] at hp
          refine j_iconst g (n := -1) (-1) (by decide +kernel) rfl ?_
          refine hr.1 _ _ _ _ (by decide +kernel) ⟨_, rfl, by first | rfl | exact b2i_nar | decide +kernel⟩ ?_ ?_
          · unfold r_X8_sheet; first | (simp only [if_neg (show ¬ ((b2i (0 ≤ a1 ∧ a1 ≤ 3)) = 0) from c4), if_neg (show ¬ ((b2i ((-1 : Int32) ≤ a2 ∧ a2 ≤ (3 : Int32))) = 0) from c13), if_neg (show ¬ (a2 < 0) from c17), if_neg (show ¬ (a3 ≤ 40) from c23)]; done) | (simp only [if_neg (show ¬ ((b2i (0 ≤ a1 ∧ a1 ≤ 3)) = 0) from c4), if_neg (show ¬ ((b2i ((-1 : Int32) ≤ a2 ∧ a2 ≤ (3 : Int32))) = 0) from c13), if_neg (show ¬ (a2 < 0) from c17), if_neg (show ¬ (a3 ≤ 40) from c23)]; rfl) | rfl
          · unfold w_X8_sheet; first | (simp only [if_neg (show ¬ ((b2i (0 ≤ a1 ∧ a1 ≤ 3)) = 0) from c4), if_neg (show ¬ ((b2i ((-1 : Int32) ≤ a2 ∧ a2 ≤ (3 : Int32))) = 0) from c13), if_neg (show ¬ (a2 < 0) from c17), if_neg (show ¬ (a3 ≤ 40) from c23)]; done) | (simp only [if_neg (show ¬ ((b2i (0 ≤ a1 ∧ a1 ≤ 3)) = 0) from c4), if_neg (show ¬ ((b2i ((-1 : Int32) ≤ a2 ∧ a2 ≤ (3 : Int32))) = 0) from c13), if_neg (show ¬ (a2 < 0) from c17), if_neg (show ¬ (a3 ≤ 40) from c23)]; rfl) | rfl
def c_X8_dues_52 (a1 : Int32) (x2 : Int32) (x3 : Int32) (σ : Mm × Int32) : Prop := if x3 ≤ σ.2 then False else True
theorem ci_X8_dues_52 {a1 : Int32} {x2 : Int32} {x3 : Int32} {σ : Mm × Int32} : c_X8_dues_52 a1 x2 x3 σ ↔ (if x3 ≤ σ.2 then False else True) := Iff.rfl
noncomputable def s_X8_dues_52 (a1 : Int32) (x2 : Int32) (x3 : Int32) (σ : Mm × Int32) : Mm × Int32 := if x3 ≤ σ.2 then σ else if 0 ≤ (lg_cmp (σ.1.2 622 (Int32.toNatClampNeg (((40 : Int32) * a1) + σ.2))) 0) then (if (lg_cmp (σ.1.2 622 (Int32.toNatClampNeg (((40 : Int32) * a1) + σ.2))) 999) ≤ 0 then ((wi σ.1 603 (Int32.toNatClampNeg (((8 : Int32) * σ.2) + 4)) (Int64.toInt32 (σ.1.2 622 (Int32.toNatClampNeg (((40 : Int32) * a1) + σ.2))))), σ.2 + 1) else ((wi σ.1 603 (Int32.toNatClampNeg (((8 : Int32) * σ.2) + 4)) 999), σ.2 + 1)) else ((wi σ.1 603 (Int32.toNatClampNeg (((8 : Int32) * σ.2) + 4)) 0), σ.2 + 1)
def q_X8_dues_52 (a1 : Int32) (x2 : Int32) (x3 : Int32) (σ : Mm × Int32) : Prop := (if x3 ≤ σ.2 then True else (vp_in (((40 : Int32) * a1) + σ.2) 160) ∧ (if 0 ≤ (lg_cmp (σ.1.2 622 (Int32.toNatClampNeg (((40 : Int32) * a1) + σ.2))) 0) then (if (lg_cmp (σ.1.2 622 (Int32.toNatClampNeg (((40 : Int32) * a1) + σ.2))) 999) ≤ 0 then (vp_in (((8 : Int32) * σ.2) + 4) 48) ∧ True else (vp_in (((8 : Int32) * σ.2) + 4) 48) ∧ True) else (vp_in (((8 : Int32) * σ.2) + 4) 48) ∧ True))
noncomputable def l_X8_dues_52 (a1 : Int32) (x2 : Int32) (x3 : Int32) (σ0 : Mm × Int32) : Nat → Mm × Int32 := itN (fun _ σ => s_X8_dues_52 a1 x2 x3 σ) σ0
theorem ps_X8_dues_52 {d : Nat} {J : Nat → Lc → List Value → Mm → Prop} {a1 : Int32} {x2 : Int32} {x3 : Int32} {σ : Mm × Int32}  (g : Good mX8_dues.1 mX8_dues.2.2.1 mX8_dues.2.2.2.1 (d + 2) J) (hc : c_X8_dues_52 a1 x2 x3 σ) (hp : q_X8_dues_52 a1 x2 x3 σ) (k : ∀ (j5 : Option Value), J 52 [some (.ref 600), some (.int a1), some (.int x2), some (.int x3), some (.int ((s_X8_dues_52 a1 x2 x3 σ).2)), j5, none] [] ((s_X8_dues_52 a1 x2 x3 σ).1)) : ∀ (j5 : Option Value), J 52 [some (.ref 600), some (.int a1), some (.int x2), some (.int x3), some (.int σ.2), j5, none] [] σ.1 := by
  intro j5
  unfold c_X8_dues_52 at hc
  unfold q_X8_dues_52 at hp
  unfold s_X8_dues_52 at k
  refine j_iload g (i := 4) (by decide +kernel) rfl ?_
  refine j_iload_n g (i := 3) (by decide +kernel) rfl ?_
  refine j_icmp_ge g (off := 64) (tgt := 119) (by decide +kernel) (by decide) (fun c55 => ?_) (fun c55 => ?_)
  · (try rw [if_pos (show x3 ≤ σ.2 from c55)] at hc); (rw [if_pos (show x3 ≤ σ.2 from c55)] at hp); (try simp only [if_pos (show x3 ≤ σ.2 from c55)] at k)
    exact hc.elim
  · (try rw [if_neg (show ¬ (x3 ≤ σ.2) from c55)] at hc); (rw [if_neg (show ¬ (x3 ≤ σ.2) from c55)] at hp); (try simp only [if_neg (show ¬ (x3 ≤ σ.2) from c55)] at k)
    refine j_aload_n g (i := 0) (by decide +kernel) rfl ?_
    refine j_gA g (b := 622) f8_73 (by decide +kernel) (by decide +kernel) (by decide +kernel) (by decide +kernel) ?_
    refine j_bipush g (n := 40) (40) (by decide +kernel) (by decide +kernel) ?_
    refine j_iload_n g (i := 1) (by decide +kernel) rfl ?_
    refine j_imul g (by decide +kernel) ?_
    refine j_iload g (i := 4) (by decide +kernel) rfl ?_
    refine j_iadd g (by decide +kernel) ?_
    obtain ⟨h0, hp⟩ := hp
    refine j_la g 160 (by decide +kernel) (by decide +kernel) (by decide +kernel) h0 ?_
    refine j_lstore g (i := 5) (by decide +kernel) (by decide) ?_
    dsimp only [stL, clL, hdL]
    refine j_aload_n g (i := 0) (by decide +kernel) rfl ?_
    refine j_gA g (b := 603) f8_16 (by decide +kernel) (by decide +kernel) (by decide +kernel) (by decide +kernel) ?_
    refine j_bipush g (n := 8) (8) (by decide +kernel) (by decide +kernel) ?_
    refine j_iload g (i := 4) (by decide +kernel) rfl ?_
    refine j_imul g (by decide +kernel) ?_
    refine j_iconst g (n := 4) (4) (by decide +kernel) rfl ?_
    refine j_iadd g (by decide +kernel) ?_
    refine j_lload g (i := 5) (by decide +kernel) rfl ?_
    refine j_lconst g (n := 0) (0) (by decide +kernel) rfl ?_
    refine j_lcmp g (by decide +kernel) ?_
    refine j_if_ge g (off := 7) (tgt := 94) (by decide +kernel) (by decide) (fun c87 => ?_) (fun c87 => ?_)
    · (try rw [if_pos (show 0 ≤ (lg_cmp (σ.1.2 622 (Int32.toNatClampNeg (((40 : Int32) * a1) + σ.2))) 0) from c87)] at hc); (rw [if_pos (show 0 ≤ (lg_cmp (σ.1.2 622 (Int32.toNatClampNeg (((40 : Int32) * a1) + σ.2))) 0) from c87)] at hp); (try simp only [if_pos (show 0 ≤ (lg_cmp (σ.1.2 622 (Int32.toNatClampNeg (((40 : Int32) * a1) + σ.2))) 0) from c87)] at k)
      refine j_lload g (i := 5) (by decide +kernel) rfl ?_
      refine j_ldc2 g (n := 407) (999) (by decide +kernel) k8_407 ?_
      refine j_lcmp g (by decide +kernel) ?_
      refine j_if_le g (off := 9) (tgt := 109) (by decide +kernel) (by decide) (fun c100 => ?_) (fun c100 => ?_)
      · (try rw [if_pos (show (lg_cmp (σ.1.2 622 (Int32.toNatClampNeg (((40 : Int32) * a1) + σ.2))) 999) ≤ 0 from c100)] at hc); (rw [if_pos (show (lg_cmp (σ.1.2 622 (Int32.toNatClampNeg (((40 : Int32) * a1) + σ.2))) 999) ≤ 0 from c100)] at hp); (try simp only [if_pos (show (lg_cmp (σ.1.2 622 (Int32.toNatClampNeg (((40 : Int32) * a1) + σ.2))) 999) ≤ 0 from c100)] at k)
        refine j_lload g (i := 5) (by decide +kernel) rfl ?_
        refine j_l2i g (by decide +kernel) ?_
        obtain ⟨h0, hp⟩ := hp
        refine j_is g 48 (by decide +kernel) (by decide +kernel) (by decide +kernel) h0 ?_
        refine j_iinc g (i := 4) (n := 1) (1) (by decide +kernel) rfl (by decide) rfl ?_
        dsimp only [stL, clL, hdL]
        refine j_goto g (off := -64) (tgt := 52) (by decide +kernel) (by decide) ?_
        exact k _
      · (try rw [if_neg (show ¬ ((lg_cmp (σ.1.2 622 (Int32.toNatClampNeg (((40 : Int32) * a1) + σ.2))) 999) ≤ 0) from c100)] at hc); (rw [if_neg (show ¬ ((lg_cmp (σ.1.2 622 (Int32.toNatClampNeg (((40 : Int32) * a1) + σ.2))) 999) ≤ 0) from c100)] at hp); (try simp only [if_neg (show ¬ ((lg_cmp (σ.1.2 622 (Int32.toNatClampNeg (((40 : Int32) * a1) + σ.2))) 999) ≤ 0) from c100)] at k)
        refine j_sipush g (n := 999) (999) (by decide +kernel) (by decide +kernel) ?_
        refine j_goto g (off := 6) (tgt := 112) (by decide +kernel) (by decide) ?_
        obtain ⟨h0, hp⟩ := hp
        refine j_is g 48 (by decide +kernel) (by decide +kernel) (by decide +kernel) h0 ?_
        refine j_iinc g (i := 4) (n := 1) (1) (by decide +kernel) rfl (by decide) rfl ?_
        dsimp only [stL, clL, hdL]
        refine j_goto g (off := -64) (tgt := 52) (by decide +kernel) (by decide) ?_
        exact k _
    · (try rw [if_neg (show ¬ (0 ≤ (lg_cmp (σ.1.2 622 (Int32.toNatClampNeg (((40 : Int32) * a1) + σ.2))) 0)) from c87)] at hc); (rw [if_neg (show ¬ (0 ≤ (lg_cmp (σ.1.2 622 (Int32.toNatClampNeg (((40 : Int32) * a1) + σ.2))) 0)) from c87)] at hp); (try simp only [if_neg (show ¬ (0 ≤ (lg_cmp (σ.1.2 622 (Int32.toNatClampNeg (((40 : Int32) * a1) + σ.2))) 0)) from c87)] at k)
      refine j_iconst g (n := 0) (0) (by decide +kernel) rfl ?_
      refine j_goto g (off := 21) (tgt := 112) (by decide +kernel) (by decide) ?_
      obtain ⟨h0, hp⟩ := hp
      refine j_is g 48 (by decide +kernel) (by decide +kernel) (by decide +kernel) h0 ?_
      refine j_iinc g (i := 4) (n := 1) (1) (by decide +kernel) rfl (by decide) rfl ?_
      dsimp only [stL, clL, hdL]
      refine j_goto g (off := -64) (tgt := 52) (by decide +kernel) (by decide) ?_
      exact k _
theorem sh_X8_dues_52 {d : Nat} {J : Nat → Lc → List Value → Mm → Prop} {a1 : Int32} {x2 : Int32} {x3 : Int32} {σ0 : Mm × Int32}  (g : Good mX8_dues.1 mX8_dues.2.2.1 mX8_dues.2.2.2.1 (d + 2) J) : ∀ (N : Nat), (∀ k, k < N → c_X8_dues_52 a1 x2 x3 (l_X8_dues_52 a1 x2 x3 σ0 k)) → (∀ k, k < N → q_X8_dues_52 a1 x2 x3 (l_X8_dues_52 a1 x2 x3 σ0 k)) → (∀ (j5 : Option Value), J 52 [some (.ref 600), some (.int a1), some (.int x2), some (.int x3), some (.int ((l_X8_dues_52 a1 x2 x3 σ0 N).2)), j5, none] [] ((l_X8_dues_52 a1 x2 x3 σ0 N).1)) → ∀ (j5 : Option Value), J 52 [some (.ref 600), some (.int a1), some (.int x2), some (.int x3), some (.int σ0.2), j5, none] [] σ0.1
  | 0, _, _, k => k
  | N + 1, hc, hp, k => sh_X8_dues_52  g N (fun i hi => hc i (Nat.lt_succ_of_lt hi)) (fun i hi => hp i (Nat.lt_succ_of_lt hi)) (ps_X8_dues_52  g (hc N (Nat.lt_succ_self N)) (hp N (Nat.lt_succ_self N)) k)
noncomputable def r_X8_dues (M : Mm) (a1 : Int32) : Int32 := if ¬ (b2i (0 ≤ a1 ∧ a1 ≤ 3)) = 0 then (if (r_X8_lacksSort M a1 (2 : Int32)) = 0 then (if (M.1 600 2) ≤ (M.1 621 (Int32.toNatClampNeg a1)) then (if (M.1 600 2) ≤ ((l_X8_dues_52 a1 (r_X8_lacksSort M a1 (2 : Int32)) (M.1 600 2) (M, 0) (Int32.toNatClampNeg ((M.1 600 2)))).2) then M.1 600 2 else 0) else if (M.1 621 (Int32.toNatClampNeg a1)) ≤ ((l_X8_dues_52 a1 (r_X8_lacksSort M a1 (2 : Int32)) (M.1 621 (Int32.toNatClampNeg a1)) (M, 0) (Int32.toNatClampNeg ((M.1 621 (Int32.toNatClampNeg a1))))).2) then M.1 621 (Int32.toNatClampNeg a1) else 0) else r_X8_lacksSort M a1 (2 : Int32)) else (-1)
noncomputable def w_X8_dues (M : Mm) (a1 : Int32) : Mm := if ¬ (b2i (0 ≤ a1 ∧ a1 ≤ 3)) = 0 then (if (r_X8_lacksSort M a1 (2 : Int32)) = 0 then (if (M.1 600 2) ≤ (M.1 621 (Int32.toNatClampNeg a1)) then (if (M.1 600 2) ≤ ((l_X8_dues_52 a1 (r_X8_lacksSort M a1 (2 : Int32)) (M.1 600 2) (M, 0) (Int32.toNatClampNeg ((M.1 600 2)))).2) then (l_X8_dues_52 a1 (r_X8_lacksSort M a1 (2 : Int32)) (M.1 600 2) (M, 0) (Int32.toNatClampNeg ((M.1 600 2)))).1 else M) else if (M.1 621 (Int32.toNatClampNeg a1)) ≤ ((l_X8_dues_52 a1 (r_X8_lacksSort M a1 (2 : Int32)) (M.1 621 (Int32.toNatClampNeg a1)) (M, 0) (Int32.toNatClampNeg ((M.1 621 (Int32.toNatClampNeg a1))))).2) then (l_X8_dues_52 a1 (r_X8_lacksSort M a1 (2 : Int32)) (M.1 621 (Int32.toNatClampNeg a1)) (M, 0) (Int32.toNatClampNeg ((M.1 621 (Int32.toNatClampNeg a1))))).1 else M) else M) else M
def p_X8_dues (M : Mm) (a1 : Int32) : Prop := (if ¬ (b2i (0 ≤ a1 ∧ a1 ≤ 3)) = 0 then (p_X8_lacksSort M a1 (2 : Int32)) ∧ (if (r_X8_lacksSort M a1 (2 : Int32)) = 0 then (vp_in a1 4) ∧ (if (M.1 600 2) ≤ (M.1 621 (Int32.toNatClampNeg a1)) then (∀ k, k < (Int32.toNatClampNeg ((M.1 600 2))) → c_X8_dues_52 a1 (r_X8_lacksSort M a1 (2 : Int32)) (M.1 600 2) (l_X8_dues_52 a1 (r_X8_lacksSort M a1 (2 : Int32)) (M.1 600 2) (M, 0) k)) ∧ (∀ k, k < (Int32.toNatClampNeg ((M.1 600 2))) → q_X8_dues_52 a1 (r_X8_lacksSort M a1 (2 : Int32)) (M.1 600 2) (l_X8_dues_52 a1 (r_X8_lacksSort M a1 (2 : Int32)) (M.1 600 2) (M, 0) k)) ∧ (¬ c_X8_dues_52 a1 (r_X8_lacksSort M a1 (2 : Int32)) (M.1 600 2) (l_X8_dues_52 a1 (r_X8_lacksSort M a1 (2 : Int32)) (M.1 600 2) (M, 0) (Int32.toNatClampNeg ((M.1 600 2))))) ∧ (if (M.1 600 2) ≤ ((l_X8_dues_52 a1 (r_X8_lacksSort M a1 (2 : Int32)) (M.1 600 2) (M, 0) (Int32.toNatClampNeg ((M.1 600 2)))).2) then True else (vp_in (((40 : Int32) * a1) + ((l_X8_dues_52 a1 (r_X8_lacksSort M a1 (2 : Int32)) (M.1 600 2) (M, 0) (Int32.toNatClampNeg ((M.1 600 2)))).2)) 160) ∧ (if 0 ≤ (lg_cmp ((l_X8_dues_52 a1 (r_X8_lacksSort M a1 (2 : Int32)) (M.1 600 2) (M, 0) (Int32.toNatClampNeg ((M.1 600 2)))).1.2 622 (Int32.toNatClampNeg (((40 : Int32) * a1) + ((l_X8_dues_52 a1 (r_X8_lacksSort M a1 (2 : Int32)) (M.1 600 2) (M, 0) (Int32.toNatClampNeg ((M.1 600 2)))).2)))) 0) then (if (lg_cmp ((l_X8_dues_52 a1 (r_X8_lacksSort M a1 (2 : Int32)) (M.1 600 2) (M, 0) (Int32.toNatClampNeg ((M.1 600 2)))).1.2 622 (Int32.toNatClampNeg (((40 : Int32) * a1) + ((l_X8_dues_52 a1 (r_X8_lacksSort M a1 (2 : Int32)) (M.1 600 2) (M, 0) (Int32.toNatClampNeg ((M.1 600 2)))).2)))) 999) ≤ 0 then (vp_in (((8 : Int32) * ((l_X8_dues_52 a1 (r_X8_lacksSort M a1 (2 : Int32)) (M.1 600 2) (M, 0) (Int32.toNatClampNeg ((M.1 600 2)))).2)) + 4) 48) ∧ True else (vp_in (((8 : Int32) * ((l_X8_dues_52 a1 (r_X8_lacksSort M a1 (2 : Int32)) (M.1 600 2) (M, 0) (Int32.toNatClampNeg ((M.1 600 2)))).2)) + 4) 48) ∧ True) else (vp_in (((8 : Int32) * ((l_X8_dues_52 a1 (r_X8_lacksSort M a1 (2 : Int32)) (M.1 600 2) (M, 0) (Int32.toNatClampNeg ((M.1 600 2)))).2)) + 4) 48) ∧ True)) else (vp_in a1 4) ∧ (∀ k, k < (Int32.toNatClampNeg ((M.1 621 (Int32.toNatClampNeg a1)))) → c_X8_dues_52 a1 (r_X8_lacksSort M a1 (2 : Int32)) (M.1 621 (Int32.toNatClampNeg a1)) (l_X8_dues_52 a1 (r_X8_lacksSort M a1 (2 : Int32)) (M.1 621 (Int32.toNatClampNeg a1)) (M, 0) k)) ∧ (∀ k, k < (Int32.toNatClampNeg ((M.1 621 (Int32.toNatClampNeg a1)))) → q_X8_dues_52 a1 (r_X8_lacksSort M a1 (2 : Int32)) (M.1 621 (Int32.toNatClampNeg a1)) (l_X8_dues_52 a1 (r_X8_lacksSort M a1 (2 : Int32)) (M.1 621 (Int32.toNatClampNeg a1)) (M, 0) k)) ∧ (¬ c_X8_dues_52 a1 (r_X8_lacksSort M a1 (2 : Int32)) (M.1 621 (Int32.toNatClampNeg a1)) (l_X8_dues_52 a1 (r_X8_lacksSort M a1 (2 : Int32)) (M.1 621 (Int32.toNatClampNeg a1)) (M, 0) (Int32.toNatClampNeg ((M.1 621 (Int32.toNatClampNeg a1)))))) ∧ (if (M.1 621 (Int32.toNatClampNeg a1)) ≤ ((l_X8_dues_52 a1 (r_X8_lacksSort M a1 (2 : Int32)) (M.1 621 (Int32.toNatClampNeg a1)) (M, 0) (Int32.toNatClampNeg ((M.1 621 (Int32.toNatClampNeg a1))))).2) then True else (vp_in (((40 : Int32) * a1) + ((l_X8_dues_52 a1 (r_X8_lacksSort M a1 (2 : Int32)) (M.1 621 (Int32.toNatClampNeg a1)) (M, 0) (Int32.toNatClampNeg ((M.1 621 (Int32.toNatClampNeg a1))))).2)) 160) ∧ (if 0 ≤ (lg_cmp ((l_X8_dues_52 a1 (r_X8_lacksSort M a1 (2 : Int32)) (M.1 621 (Int32.toNatClampNeg a1)) (M, 0) (Int32.toNatClampNeg ((M.1 621 (Int32.toNatClampNeg a1))))).1.2 622 (Int32.toNatClampNeg (((40 : Int32) * a1) + ((l_X8_dues_52 a1 (r_X8_lacksSort M a1 (2 : Int32)) (M.1 621 (Int32.toNatClampNeg a1)) (M, 0) (Int32.toNatClampNeg ((M.1 621 (Int32.toNatClampNeg a1))))).2)))) 0) then (if (lg_cmp ((l_X8_dues_52 a1 (r_X8_lacksSort M a1 (2 : Int32)) (M.1 621 (Int32.toNatClampNeg a1)) (M, 0) (Int32.toNatClampNeg ((M.1 621 (Int32.toNatClampNeg a1))))).1.2 622 (Int32.toNatClampNeg (((40 : Int32) * a1) + ((l_X8_dues_52 a1 (r_X8_lacksSort M a1 (2 : Int32)) (M.1 621 (Int32.toNatClampNeg a1)) (M, 0) (Int32.toNatClampNeg ((M.1 621 (Int32.toNatClampNeg a1))))).2)))) 999) ≤ 0 then (vp_in (((8 : Int32) * ((l_X8_dues_52 a1 (r_X8_lacksSort M a1 (2 : Int32)) (M.1 621 (Int32.toNatClampNeg a1)) (M, 0) (Int32.toNatClampNeg ((M.1 621 (Int32.toNatClampNeg a1))))).2)) + 4) 48) ∧ True else (vp_in (((8 : Int32) * ((l_X8_dues_52 a1 (r_X8_lacksSort M a1 (2 : Int32)) (M.1 621 (Int32.toNatClampNeg a1)) (M, 0) (Int32.toNatClampNeg ((M.1 621 (Int32.toNatClampNeg a1))))).2)) + 4) 48) ∧ True) else (vp_in (((8 : Int32) * ((l_X8_dues_52 a1 (r_X8_lacksSort M a1 (2 : Int32)) (M.1 621 (Int32.toNatClampNeg a1)) (M, 0) (Int32.toNatClampNeg ((M.1 621 (Int32.toNatClampNeg a1))))).2)) + 4) 48) ∧ True))) else True) else True)
theorem rnX8_dues {d : Nat} {M : Mm} {a1 : Int32}  (hp : p_X8_dues M a1) : Rn (d + 2) mX8_dues [.ref 600, .int a1] M (some (.int (r_X8_dues M a1))) (w_X8_dues M a1) := by
  refine Rn.of [some (.ref 600), some (.int a1), none, none, none, none, none] (by decide +kernel) rfl (Nat.le_of_ble_eq_true rfl) rfl (fun J g hr => ?_)
  unfold p_X8_dues at hp
  refine j_iload_n g (i := 1) (by decide +kernel) rfl ?_
  refine j_cS1r g s8_401 (by decide +kernel) (Nat.le_of_ble_eq_true rfl) (rnX8_isShelf) ?_
  refine j_if_ne g (off := 5) (tgt := 9) (by decide +kernel) (by decide) (fun c4 => ?_) (fun c4 => ?_)
  · rw [if_pos (show ¬ (b2i (0 ≤ a1 ∧ a1 ≤ 3)) = 0 from c4)] at hp
    refine j_aload_n g (i := 0) (by decide +kernel) rfl ?_
    refine j_iload_n g (i := 1) (by decide +kernel) rfl ?_
    refine j_iconst g (n := 2) (2) (by decide +kernel) rfl ?_
    obtain ⟨h0, hp⟩ := hp
    refine j_cV2r g v8_404 ⟨rfl, by decide⟩ (by decide +kernel) (by decide +kernel) (Nat.le_of_ble_eq_true rfl) (rnX8_lacksSort h0) ?_
    refine j_istore_n g (i := 2) (by decide +kernel) (by decide) ?_
    dsimp only [stL, clL, hdL]
    refine j_iload_n g (i := 2) (by decide +kernel) rfl ?_
    refine j_if_eq g (off := 5) (tgt := 22) (by decide +kernel) (by decide) (fun c17 => ?_) (fun c17 => ?_)
    · rw [if_pos (show (r_X8_lacksSort M a1 (2 : Int32)) = 0 from c17)] at hp
      refine j_aload_n g (i := 0) (by decide +kernel) rfl ?_
      refine j_gA g (b := 621) f8_70 (by decide +kernel) (by decide +kernel) (by decide +kernel) (by decide +kernel) ?_
      refine j_iload_n g (i := 1) (by decide +kernel) rfl ?_
      obtain ⟨h0, hp⟩ := hp
      refine j_ia g 4 (by decide +kernel) (by decide +kernel) (by decide +kernel) h0 ?_
      refine j_aload_n g (i := 0) (by decide +kernel) rfl ?_
      refine j_gI g f8_99 (by decide +kernel) (by decide +kernel) (by decide +kernel) ?_
      refine j_icmp_ge g (off := 12) (tgt := 44) (by decide +kernel) (by decide) (fun c32 => ?_) (fun c32 => ?_)
      · rw [if_pos (show (M.1 600 2) ≤ (M.1 621 (Int32.toNatClampNeg a1)) from c32)] at hp
        refine j_aload_n g (i := 0) (by decide +kernel) rfl ?_
        refine j_gI g f8_99 (by decide +kernel) (by decide +kernel) (by decide +kernel) ?_
        refine j_istore_n g (i := 3) (by decide +kernel) (by decide) ?_
        dsimp only [stL, clL, hdL]
        refine j_iconst g (n := 0) (0) (by decide +kernel) rfl ?_
        refine j_istore g (i := 4) (by decide +kernel) (by decide) ?_
        dsimp only [stL, clL, hdL]
        obtain ⟨h0, hp⟩ := hp
        have hc_52_1 := h0
        obtain ⟨h0, hp⟩ := hp
        have hq_52_1 := h0
        obtain ⟨h0, hp⟩ := hp
        have hx_52_1 := h0
        refine sh_X8_dues_52 (x2 := (r_X8_lacksSort M a1 (2 : Int32))) (x3 := (M.1 600 2))  g (σ0 := (M, 0)) (Int32.toNatClampNeg ((M.1 600 2))) hc_52_1 hq_52_1 ?_ _
        intro j5_1
        refine j_iload g (i := 4) (by decide +kernel) rfl ?_
        refine j_iload_n g (i := 3) (by decide +kernel) rfl ?_
        refine j_icmp_ge g (off := 64) (tgt := 119) (by decide +kernel) (by decide) (fun c55 => ?_) (fun c55 => ?_)
        · rw [if_pos (show (M.1 600 2) ≤ ((l_X8_dues_52 a1 (r_X8_lacksSort M a1 (2 : Int32)) (M.1 600 2) (M, 0) (Int32.toNatClampNeg ((M.1 600 2)))).2) from c55)] at hp
          refine j_iload_n g (i := 3) (by decide +kernel) rfl ?_
          refine hr.1 _ _ _ _ (by decide +kernel) ⟨_, rfl, by first | rfl | exact b2i_nar | decide +kernel⟩ ?_ ?_
          · unfold r_X8_dues; first | (simp only [if_pos (show ¬ (b2i (0 ≤ a1 ∧ a1 ≤ 3)) = 0 from c4), if_pos (show (r_X8_lacksSort M a1 (2 : Int32)) = 0 from c17), if_pos (show (M.1 600 2) ≤ (M.1 621 (Int32.toNatClampNeg a1)) from c32), if_pos (show (M.1 600 2) ≤ ((l_X8_dues_52 a1 (r_X8_lacksSort M a1 (2 : Int32)) (M.1 600 2) (M, 0) (Int32.toNatClampNeg ((M.1 600 2)))).2) from c55)]; done) | (simp only [if_pos (show ¬ (b2i (0 ≤ a1 ∧ a1 ≤ 3)) = 0 from c4), if_pos (show (r_X8_lacksSort M a1 (2 : Int32)) = 0 from c17), if_pos (show (M.1 600 2) ≤ (M.1 621 (Int32.toNatClampNeg a1)) from c32), if_pos (show (M.1 600 2) ≤ ((l_X8_dues_52 a1 (r_X8_lacksSort M a1 (2 : Int32)) (M.1 600 2) (M, 0) (Int32.toNatClampNeg ((M.1 600 2)))).2) from c55)]; rfl) | rfl
          · unfold w_X8_dues; first | (simp only [if_pos (show ¬ (b2i (0 ≤ a1 ∧ a1 ≤ 3)) = 0 from c4), if_pos (show (r_X8_lacksSort M a1 (2 : Int32)) = 0 from c17), if_pos (show (M.1 600 2) ≤ (M.1 621 (Int32.toNatClampNeg a1)) from c32), if_pos (show (M.1 600 2) ≤ ((l_X8_dues_52 a1 (r_X8_lacksSort M a1 (2 : Int32)) (M.1 600 2) (M, 0) (Int32.toNatClampNeg ((M.1 600 2)))).2) from c55)]; done) | (simp only [if_pos (show ¬ (b2i (0 ≤ a1 ∧ a1 ≤ 3)) = 0 from c4), if_pos (show (r_X8_lacksSort M a1 (2 : Int32)) = 0 from c17), if_pos (show (M.1 600 2) ≤ (M.1 621 (Int32.toNatClampNeg a1)) from c32), if_pos (show (M.1 600 2) ≤ ((l_X8_dues_52 a1 (r_X8_lacksSort M a1 (2 : Int32)) (M.1 600 2) (M, 0) (Int32.toNatClampNeg ((M.1 600 2)))).2) from c55)]; rfl) | rfl
        · rw [if_neg (show ¬ ((M.1 600 2) ≤ ((l_X8_dues_52 a1 (r_X8_lacksSort M a1 (2 : Int32)) (M.1 600 2) (M, 0) (Int32.toNatClampNeg ((M.1 600 2)))).2)) from c55)] at hp
          refine j_aload_n g (i := 0) (by decide +kernel) rfl ?_
          refine j_gA g (b := 622) f8_73 (by decide +kernel) (by decide +kernel) (by decide +kernel) (by decide +kernel) ?_
          refine j_bipush g (n := 40) (40) (by decide +kernel) (by decide +kernel) ?_
          refine j_iload_n g (i := 1) (by decide +kernel) rfl ?_
          refine j_imul g (by decide +kernel) ?_
          refine j_iload g (i := 4) (by decide +kernel) rfl ?_
          refine j_iadd g (by decide +kernel) ?_
          obtain ⟨h0, hp⟩ := hp
          refine j_la g 160 (by decide +kernel) (by decide +kernel) (by decide +kernel) h0 ?_
          refine j_lstore g (i := 5) (by decide +kernel) (by decide) ?_
          dsimp only [stL, clL, hdL]
          refine j_aload_n g (i := 0) (by decide +kernel) rfl ?_
          refine j_gA g (b := 603) f8_16 (by decide +kernel) (by decide +kernel) (by decide +kernel) (by decide +kernel) ?_
          refine j_bipush g (n := 8) (8) (by decide +kernel) (by decide +kernel) ?_
          refine j_iload g (i := 4) (by decide +kernel) rfl ?_
          refine j_imul g (by decide +kernel) ?_
          refine j_iconst g (n := 4) (4) (by decide +kernel) rfl ?_
          refine j_iadd g (by decide +kernel) ?_
          refine j_lload g (i := 5) (by decide +kernel) rfl ?_
          refine j_lconst g (n := 0) (0) (by decide +kernel) rfl ?_
          refine j_lcmp g (by decide +kernel) ?_
          refine j_if_ge g (off := 7) (tgt := 94) (by decide +kernel) (by decide) (fun c87 => ?_) (fun c87 => ?_)
          · rw [if_pos (show 0 ≤ (lg_cmp ((l_X8_dues_52 a1 (r_X8_lacksSort M a1 (2 : Int32)) (M.1 600 2) (M, 0) (Int32.toNatClampNeg ((M.1 600 2)))).1.2 622 (Int32.toNatClampNeg (((40 : Int32) * a1) + ((l_X8_dues_52 a1 (r_X8_lacksSort M a1 (2 : Int32)) (M.1 600 2) (M, 0) (Int32.toNatClampNeg ((M.1 600 2)))).2)))) 0) from c87)] at hp
            refine j_lload g (i := 5) (by decide +kernel) rfl ?_
            refine j_ldc2 g (n := 407) (999) (by decide +kernel) k8_407 ?_
            refine j_lcmp g (by decide +kernel) ?_
            refine j_if_le g (off := 9) (tgt := 109) (by decide +kernel) (by decide) (fun c100 => ?_) (fun c100 => ?_)
            · rw [if_pos (show (lg_cmp ((l_X8_dues_52 a1 (r_X8_lacksSort M a1 (2 : Int32)) (M.1 600 2) (M, 0) (Int32.toNatClampNeg ((M.1 600 2)))).1.2 622 (Int32.toNatClampNeg (((40 : Int32) * a1) + ((l_X8_dues_52 a1 (r_X8_lacksSort M a1 (2 : Int32)) (M.1 600 2) (M, 0) (Int32.toNatClampNeg ((M.1 600 2)))).2)))) 999) ≤ 0 from c100)] at hp
              refine j_lload g (i := 5) (by decide +kernel) rfl ?_
              refine j_l2i g (by decide +kernel) ?_
              obtain ⟨h0, hp⟩ := hp
              refine j_is g 48 (by decide +kernel) (by decide +kernel) (by decide +kernel) h0 ?_
              refine j_iinc g (i := 4) (n := 1) (1) (by decide +kernel) rfl (by decide) rfl ?_
              dsimp only [stL, clL, hdL]
              refine j_goto g (off := -64) (tgt := 52) (by decide +kernel) (by decide) ?_
              refine absurd (ci_X8_dues_52.mpr ?_) hx_52_1
              simp only [if_pos (show ¬ (b2i (0 ≤ a1 ∧ a1 ≤ 3)) = 0 from c4), if_pos (show (r_X8_lacksSort M a1 (2 : Int32)) = 0 from c17), if_pos (show (M.1 600 2) ≤ (M.1 621 (Int32.toNatClampNeg a1)) from c32), if_neg (show ¬ ((M.1 600 2) ≤ ((l_X8_dues_52 a1 (r_X8_lacksSort M a1 (2 : Int32)) (M.1 600 2) (M, 0) (Int32.toNatClampNeg ((M.1 600 2)))).2)) from c55), if_pos (show 0 ≤ (lg_cmp ((l_X8_dues_52 a1 (r_X8_lacksSort M a1 (2 : Int32)) (M.1 600 2) (M, 0) (Int32.toNatClampNeg ((M.1 600 2)))).1.2 622 (Int32.toNatClampNeg (((40 : Int32) * a1) + ((l_X8_dues_52 a1 (r_X8_lacksSort M a1 (2 : Int32)) (M.1 600 2) (M, 0) (Int32.toNatClampNeg ((M.1 600 2)))).2)))) 0) from c87), if_pos (show (lg_cmp ((l_X8_dues_52 a1 (r_X8_lacksSort M a1 (2 : Int32)) (M.1 600 2) (M, 0) (Int32.toNatClampNeg ((M.1 600 2)))).1.2 622 (Int32.toNatClampNeg (((40 : Int32) * a1) + ((l_X8_dues_52 a1 (r_X8_lacksSort M a1 (2 : Int32)) (M.1 600 2) (M, 0) (Int32.toNatClampNeg ((M.1 600 2)))).2)))) 999) ≤ 0 from c100)]
            · rw [if_neg (show ¬ ((lg_cmp ((l_X8_dues_52 a1 (r_X8_lacksSort M a1 (2 : Int32)) (M.1 600 2) (M, 0) (Int32.toNatClampNeg ((M.1 600 2)))).1.2 622 (Int32.toNatClampNeg (((40 : Int32) * a1) + ((l_X8_dues_52 a1 (r_X8_lacksSort M a1 (2 : Int32)) (M.1 600 2) (M, 0) (Int32.toNatClampNeg ((M.1 600 2)))).2)))) 999) ≤ 0) from c100)] at hp
              refine j_sipush g (n := 999) (999) (by decide +kernel) (by decide +kernel) ?_
              refine j_goto g (off := 6) (tgt := 112) (by decide +kernel) (by decide) ?_
              obtain ⟨h0, hp⟩ := hp
              refine j_is g 48 (by decide +kernel) (by decide +kernel) (by decide +kernel) h0 ?_
              refine j_iinc g (i := 4) (n := 1) (1) (by decide +kernel) rfl (by decide) rfl ?_
              dsimp only [stL, clL, hdL]
              refine j_goto g (off := -64) (tgt := 52) (by decide +kernel) (by decide) ?_
              refine absurd (ci_X8_dues_52.mpr ?_) hx_52_1
              simp only [if_pos (show ¬ (b2i (0 ≤ a1 ∧ a1 ≤ 3)) = 0 from c4), if_pos (show (r_X8_lacksSort M a1 (2 : Int32)) = 0 from c17), if_pos (show (M.1 600 2) ≤ (M.1 621 (Int32.toNatClampNeg a1)) from c32), if_neg (show ¬ ((M.1 600 2) ≤ ((l_X8_dues_52 a1 (r_X8_lacksSort M a1 (2 : Int32)) (M.1 600 2) (M, 0) (Int32.toNatClampNeg ((M.1 600 2)))).2)) from c55), if_pos (show 0 ≤ (lg_cmp ((l_X8_dues_52 a1 (r_X8_lacksSort M a1 (2 : Int32)) (M.1 600 2) (M, 0) (Int32.toNatClampNeg ((M.1 600 2)))).1.2 622 (Int32.toNatClampNeg (((40 : Int32) * a1) + ((l_X8_dues_52 a1 (r_X8_lacksSort M a1 (2 : Int32)) (M.1 600 2) (M, 0) (Int32.toNatClampNeg ((M.1 600 2)))).2)))) 0) from c87), if_neg (show ¬ ((lg_cmp ((l_X8_dues_52 a1 (r_X8_lacksSort M a1 (2 : Int32)) (M.1 600 2) (M, 0) (Int32.toNatClampNeg ((M.1 600 2)))).1.2 622 (Int32.toNatClampNeg (((40 : Int32) * a1) + ((l_X8_dues_52 a1 (r_X8_lacksSort M a1 (2 : Int32)) (M.1 600 2) (M, 0) (Int32.toNatClampNeg ((M.1 600 2)))).2)))) 999) ≤ 0) from c100)]
          · rw [if_neg (show ¬ (0 ≤ (lg_cmp ((l_X8_dues_52 a1 (r_X8_lacksSort M a1 (2 : Int32)) (M.1 600 2) (M, 0) (Int32.toNatClampNeg ((M.1 600 2)))).1.2 622 (Int32.toNatClampNeg (((40 : Int32) * a1) + ((l_X8_dues_52 a1 (r_X8_lacksSort M a1 (2 : Int32)) (M.1 600 2) (M, 0) (Int32.toNatClampNeg ((M.1 600 2)))).2)))) 0)) from c87)] at hp
            refine j_iconst g (n := 0) (0) (by decide +kernel) rfl ?_
            refine j_goto g (off := 21) (tgt := 112) (by decide +kernel) (by decide) ?_
            obtain ⟨h0, hp⟩ := hp
            refine j_is g 48 (by decide +kernel) (by decide +kernel) (by decide +kernel) h0 ?_
            refine j_iinc g (i := 4) (n := 1) (1) (by decide +kernel) rfl (by decide) rfl ?_
            dsimp only [stL, clL, hdL]
            refine j_goto g (off := -64) (tgt := 52) (by decide +kernel) (by decide) ?_
            refine absurd (ci_X8_dues_52.mpr ?_) hx_52_1
            simp only [if_pos (show ¬ (b2i (0 ≤ a1 ∧ a1 ≤ 3)) = 0 from c4), if_pos (show (r_X8_lacksSort M a1 (2 : Int32)) = 0 from c17), if_pos (show (M.1 600 2) ≤ (M.1 621 (Int32.toNatClampNeg a1)) from c32), if_neg (show ¬ ((M.1 600 2) ≤ ((l_X8_dues_52 a1 (r_X8_lacksSort M a1 (2 : Int32)) (M.1 600 2) (M, 0) (Int32.toNatClampNeg ((M.1 600 2)))).2)) from c55), if_neg (show ¬ (0 ≤ (lg_cmp ((l_X8_dues_52 a1 (r_X8_lacksSort M a1 (2 : Int32)) (M.1 600 2) (M, 0) (Int32.toNatClampNeg ((M.1 600 2)))).1.2 622 (Int32.toNatClampNeg (((40 : Int32) * a1) + ((l_X8_dues_52 a1 (r_X8_lacksSort M a1 (2 : Int32)) (M.1 600 2) (M, 0) (Int32.toNatClampNeg ((M.1 600 2)))).2)))) 0)) from c87)]
      · rw [if_neg (show ¬ ((M.1 600 2) ≤ (M.1 621 (Int32.toNatClampNeg a1))) from c32)] at hp
        refine j_aload_n g (i := 0) (by decide +kernel) rfl ?_
        refine j_gA g (b := 621) f8_70 (by decide +kernel) (by decide +kernel) (by decide +kernel) (by decide +kernel) ?_
        refine j_iload_n g (i := 1) (by decide +kernel) rfl ?_
        obtain ⟨h0, hp⟩ := hp
        refine j_ia g 4 (by decide +kernel) (by decide +kernel) (by decide +kernel) h0 ?_
        refine j_goto g (off := 7) (tgt := 48) (by decide +kernel) (by decide) ?_
        refine j_istore_n g (i := 3) (by decide +kernel) (by decide) ?_
        dsimp only [stL, clL, hdL]
        refine j_iconst g (n := 0) (0) (by decide +kernel) rfl ?_
        refine j_istore g (i := 4) (by decide +kernel) (by decide) ?_
        dsimp only [stL, clL, hdL]
        obtain ⟨h0, hp⟩ := hp
        have hc_52_2 := h0
        obtain ⟨h0, hp⟩ := hp
        have hq_52_2 := h0
        obtain ⟨h0, hp⟩ := hp
        have hx_52_2 := h0
        refine sh_X8_dues_52 (x2 := (r_X8_lacksSort M a1 (2 : Int32))) (x3 := (M.1 621 (Int32.toNatClampNeg a1)))  g (σ0 := (M, 0)) (Int32.toNatClampNeg ((M.1 621 (Int32.toNatClampNeg a1)))) hc_52_2 hq_52_2 ?_ _
        intro j5_2
        refine j_iload g (i := 4) (by decide +kernel) rfl ?_
        refine j_iload_n g (i := 3) (by decide +kernel) rfl ?_
        refine j_icmp_ge g (off := 64) (tgt := 119) (by decide +kernel) (by decide) (fun c55 => ?_) (fun c55 => ?_)
        · rw [if_pos (show (M.1 621 (Int32.toNatClampNeg a1)) ≤ ((l_X8_dues_52 a1 (r_X8_lacksSort M a1 (2 : Int32)) (M.1 621 (Int32.toNatClampNeg a1)) (M, 0) (Int32.toNatClampNeg ((M.1 621 (Int32.toNatClampNeg a1))))).2) from c55)] at hp
          refine j_iload_n g (i := 3) (by decide +kernel) rfl ?_
          refine hr.1 _ _ _ _ (by decide +kernel) ⟨_, rfl, by first | rfl | exact b2i_nar | decide +kernel⟩ ?_ ?_
          · unfold r_X8_dues; first | (simp only [if_pos (show ¬ (b2i (0 ≤ a1 ∧ a1 ≤ 3)) = 0 from c4), if_pos (show (r_X8_lacksSort M a1 (2 : Int32)) = 0 from c17), if_neg (show ¬ ((M.1 600 2) ≤ (M.1 621 (Int32.toNatClampNeg a1))) from c32), if_pos (show (M.1 621 (Int32.toNatClampNeg a1)) ≤ ((l_X8_dues_52 a1 (r_X8_lacksSort M a1 (2 : Int32)) (M.1 621 (Int32.toNatClampNeg a1)) (M, 0) (Int32.toNatClampNeg ((M.1 621 (Int32.toNatClampNeg a1))))).2) from c55)]; done) | (simp only [if_pos (show ¬ (b2i (0 ≤ a1 ∧ a1 ≤ 3)) = 0 from c4), if_pos (show (r_X8_lacksSort M a1 (2 : Int32)) = 0 from c17), if_neg (show ¬ ((M.1 600 2) ≤ (M.1 621 (Int32.toNatClampNeg a1))) from c32), if_pos (show (M.1 621 (Int32.toNatClampNeg a1)) ≤ ((l_X8_dues_52 a1 (r_X8_lacksSort M a1 (2 : Int32)) (M.1 621 (Int32.toNatClampNeg a1)) (M, 0) (Int32.toNatClampNeg ((M.1 621 (Int32.toNatClampNeg a1))))).2) from c55)]; rfl) | rfl
          · unfold w_X8_dues; first | (simp only [if_pos (show ¬ (b2i (0 ≤ a1 ∧ a1 ≤ 3)) = 0 from c4), if_pos (show (r_X8_lacksSort M a1 (2 : Int32)) = 0 from c17), if_neg (show ¬ ((M.1 600 2) ≤ (M.1 621 (Int32.toNatClampNeg a1))) from c32), if_pos (show (M.1 621 (Int32.toNatClampNeg a1)) ≤ ((l_X8_dues_52 a1 (r_X8_lacksSort M a1 (2 : Int32)) (M.1 621 (Int32.toNatClampNeg a1)) (M, 0) (Int32.toNatClampNeg ((M.1 621 (Int32.toNatClampNeg a1))))).2) from c55)]; done) | (simp only [if_pos (show ¬ (b2i (0 ≤ a1 ∧ a1 ≤ 3)) = 0 from c4), if_pos (show (r_X8_lacksSort M a1 (2 : Int32)) = 0 from c17), if_neg (show ¬ ((M.1 600 2) ≤ (M.1 621 (Int32.toNatClampNeg a1))) from c32), if_pos (show (M.1 621 (Int32.toNatClampNeg a1)) ≤ ((l_X8_dues_52 a1 (r_X8_lacksSort M a1 (2 : Int32)) (M.1 621 (Int32.toNatClampNeg a1)) (M, 0) (Int32.toNatClampNeg ((M.1 621 (Int32.toNatClampNeg a1))))).2) from c55)]; rfl) | rfl
        · rw [if_neg (show ¬ ((M.1 621 (Int32.toNatClampNeg a1)) ≤ ((l_X8_dues_52 a1 (r_X8_lacksSort M a1 (2 : Int32)) (M.1 621 (Int32.toNatClampNeg a1)) (M, 0) (Int32.toNatClampNeg ((M.1 621 (Int32.toNatClampNeg a1))))).2)) from c55)] at hp
          refine j_aload_n g (i := 0) (by decide +kernel) rfl ?_
          refine j_gA g (b := 622) f8_73 (by decide +kernel) (by decide +kernel) (by decide +kernel) (by decide +kernel) ?_
          refine j_bipush g (n := 40) (40) (by decide +kernel) (by decide +kernel) ?_
          refine j_iload_n g (i := 1) (by decide +kernel) rfl ?_
          refine j_imul g (by decide +kernel) ?_
          refine j_iload g (i := 4) (by decide +kernel) rfl ?_
          refine j_iadd g (by decide +kernel) ?_
          obtain ⟨h0, hp⟩ := hp
          refine j_la g 160 (by decide +kernel) (by decide +kernel) (by decide +kernel) h0 ?_
          refine j_lstore g (i := 5) (by decide +kernel) (by decide) ?_
          dsimp only [stL, clL, hdL]
          refine j_aload_n g (i := 0) (by decide +kernel) rfl ?_
          refine j_gA g (b := 603) f8_16 (by decide +kernel) (by decide +kernel) (by decide +kernel) (by decide +kernel) ?_
          refine j_bipush g (n := 8) (8) (by decide +kernel) (by decide +kernel) ?_
          refine j_iload g (i := 4) (by decide +kernel) rfl ?_
          refine j_imul g (by decide +kernel) ?_
          refine j_iconst g (n := 4) (4) (by decide +kernel) rfl ?_
          refine j_iadd g (by decide +kernel) ?_
          refine j_lload g (i := 5) (by decide +kernel) rfl ?_
          refine j_lconst g (n := 0) (0) (by decide +kernel) rfl ?_
          refine j_lcmp g (by decide +kernel) ?_
          refine j_if_ge g (off := 7) (tgt := 94) (by decide +kernel) (by decide) (fun c87 => ?_) (fun c87 => ?_)
          · rw [if_pos (show 0 ≤ (lg_cmp ((l_X8_dues_52 a1 (r_X8_lacksSort M a1 (2 : Int32)) (M.1 621 (Int32.toNatClampNeg a1)) (M, 0) (Int32.toNatClampNeg ((M.1 621 (Int32.toNatClampNeg a1))))).1.2 622 (Int32.toNatClampNeg (((40 : Int32) * a1) + ((l_X8_dues_52 a1 (r_X8_lacksSort M a1 (2 : Int32)) (M.1 621 (Int32.toNatClampNeg a1)) (M, 0) (Int32.toNatClampNeg ((M.1 621 (Int32.toNatClampNeg a1))))).2)))) 0) from c87)] at hp
            refine j_lload g (i := 5) (by decide +kernel) rfl ?_
            refine j_ldc2 g (n := 407) (999) (by decide +kernel) k8_407 ?_
            refine j_lcmp g (by decide +kernel) ?_
            refine j_if_le g (off := 9) (tgt := 109) (by decide +kernel) (by decide) (fun c100 => ?_) (fun c100 => ?_)
            · rw [if_pos (show (lg_cmp ((l_X8_dues_52 a1 (r_X8_lacksSort M a1 (2 : Int32)) (M.1 621 (Int32.toNatClampNeg a1)) (M, 0) (Int32.toNatClampNeg ((M.1 621 (Int32.toNatClampNeg a1))))).1.2 622 (Int32.toNatClampNeg (((40 : Int32) * a1) + ((l_X8_dues_52 a1 (r_X8_lacksSort M a1 (2 : Int32)) (M.1 621 (Int32.toNatClampNeg a1)) (M, 0) (Int32.toNatClampNeg ((M.1 621 (Int32.toNatClampNeg a1))))).2)))) 999) ≤ 0 from c100)] at hp
              refine j_lload g (i := 5) (by decide +kernel) rfl ?_
              refine j_l2i g (by decide +kernel) ?_
              obtain ⟨h0, hp⟩ := hp
              refine j_is g 48 (by decide +kernel) (by decide +kernel) (by decide +kernel) h0 ?_
              refine j_iinc g (i := 4) (n := 1) (1) (by decide +kernel) rfl (by decide) rfl ?_
              dsimp only [stL, clL, hdL]
              refine j_goto g (off := -64) (tgt := 52) (by decide +kernel) (by decide) ?_
              refine absurd (ci_X8_dues_52.mpr ?_) hx_52_2
              simp only [if_pos (show ¬ (b2i (0 ≤ a1 ∧ a1 ≤ 3)) = 0 from c4), if_pos (show (r_X8_lacksSort M a1 (2 : Int32)) = 0 from c17), if_neg (show ¬ ((M.1 600 2) ≤ (M.1 621 (Int32.toNatClampNeg a1))) from c32), if_neg (show ¬ ((M.1 621 (Int32.toNatClampNeg a1)) ≤ ((l_X8_dues_52 a1 (r_X8_lacksSort M a1 (2 : Int32)) (M.1 621 (Int32.toNatClampNeg a1)) (M, 0) (Int32.toNatClampNeg ((M.1 621 (Int32.toNatClampNeg a1))))).2)) from c55), if_pos (show 0 ≤ (lg_cmp ((l_X8_dues_52 a1 (r_X8_lacksSort M a1 (2 : Int32)) (M.1 621 (Int32.toNatClampNeg a1)) (M, 0) (Int32.toNatClampNeg ((M.1 621 (Int32.toNatClampNeg a1))))).1.2 622 (Int32.toNatClampNeg (((40 : Int32) * a1) + ((l_X8_dues_52 a1 (r_X8_lacksSort M a1 (2 : Int32)) (M.1 621 (Int32.toNatClampNeg a1)) (M, 0) (Int32.toNatClampNeg ((M.1 621 (Int32.toNatClampNeg a1))))).2)))) 0) from c87), if_pos (show (lg_cmp ((l_X8_dues_52 a1 (r_X8_lacksSort M a1 (2 : Int32)) (M.1 621 (Int32.toNatClampNeg a1)) (M, 0) (Int32.toNatClampNeg ((M.1 621 (Int32.toNatClampNeg a1))))).1.2 622 (Int32.toNatClampNeg (((40 : Int32) * a1) + ((l_X8_dues_52 a1 (r_X8_lacksSort M a1 (2 : Int32)) (M.1 621 (Int32.toNatClampNeg a1)) (M, 0) (Int32.toNatClampNeg ((M.1 621 (Int32.toNatClampNeg a1))))).2)))) 999) ≤ 0 from c100)]
            · rw [if_neg (show ¬ ((lg_cmp ((l_X8_dues_52 a1 (r_X8_lacksSort M a1 (2 : Int32)) (M.1 621 (Int32.toNatClampNeg a1)) (M, 0) (Int32.toNatClampNeg ((M.1 621 (Int32.toNatClampNeg a1))))).1.2 622 (Int32.toNatClampNeg (((40 : Int32) * a1) + ((l_X8_dues_52 a1 (r_X8_lacksSort M a1 (2 : Int32)) (M.1 621 (Int32.toNatClampNeg a1)) (M, 0) (Int32.toNatClampNeg ((M.1 621 (Int32.toNatClampNeg a1))))).2)))) 999) ≤ 0) from c100)] at hp
              refine j_sipush g (n := 999) (999) (by decide +kernel) (by decide +kernel) ?_
              refine j_goto g (off := 6) (tgt := 112) (by decide +kernel) (by decide) ?_
              obtain ⟨h0, hp⟩ := hp
              refine j_is g 48 (by decide +kernel) (by decide +kernel) (by decide +kernel) h0 ?_
              refine j_iinc g (i := 4) (n := 1) (1) (by decide +kernel) rfl (by decide) rfl ?_
              dsimp only [stL, clL, hdL]
              refine j_goto g (off := -64) (tgt := 52) (by decide +kernel) (by decide) ?_
              refine absurd (ci_X8_dues_52.mpr ?_) hx_52_2
              simp only [if_pos (show ¬ (b2i (0 ≤ a1 ∧ a1 ≤ 3)) = 0 from c4), if_pos (show (r_X8_lacksSort M a1 (2 : Int32)) = 0 from c17), if_neg (show ¬ ((M.1 600 2) ≤ (M.1 621 (Int32.toNatClampNeg a1))) from c32), if_neg (show ¬ ((M.1 621 (Int32.toNatClampNeg a1)) ≤ ((l_X8_dues_52 a1 (r_X8_lacksSort M a1 (2 : Int32)) (M.1 621 (Int32.toNatClampNeg a1)) (M, 0) (Int32.toNatClampNeg ((M.1 621 (Int32.toNatClampNeg a1))))).2)) from c55), if_pos (show 0 ≤ (lg_cmp ((l_X8_dues_52 a1 (r_X8_lacksSort M a1 (2 : Int32)) (M.1 621 (Int32.toNatClampNeg a1)) (M, 0) (Int32.toNatClampNeg ((M.1 621 (Int32.toNatClampNeg a1))))).1.2 622 (Int32.toNatClampNeg (((40 : Int32) * a1) + ((l_X8_dues_52 a1 (r_X8_lacksSort M a1 (2 : Int32)) (M.1 621 (Int32.toNatClampNeg a1)) (M, 0) (Int32.toNatClampNeg ((M.1 621 (Int32.toNatClampNeg a1))))).2)))) 0) from c87), if_neg (show ¬ ((lg_cmp ((l_X8_dues_52 a1 (r_X8_lacksSort M a1 (2 : Int32)) (M.1 621 (Int32.toNatClampNeg a1)) (M, 0) (Int32.toNatClampNeg ((M.1 621 (Int32.toNatClampNeg a1))))).1.2 622 (Int32.toNatClampNeg (((40 : Int32) * a1) + ((l_X8_dues_52 a1 (r_X8_lacksSort M a1 (2 : Int32)) (M.1 621 (Int32.toNatClampNeg a1)) (M, 0) (Int32.toNatClampNeg ((M.1 621 (Int32.toNatClampNeg a1))))).2)))) 999) ≤ 0) from c100)]
          · rw [if_neg (show ¬ (0 ≤ (lg_cmp ((l_X8_dues_52 a1 (r_X8_lacksSort M a1 (2 : Int32)) (M.1 621 (Int32.toNatClampNeg a1)) (M, 0) (Int32.toNatClampNeg ((M.1 621 (Int32.toNatClampNeg a1))))).1.2 622 (Int32.toNatClampNeg (((40 : Int32) * a1) + ((l_X8_dues_52 a1 (r_X8_lacksSort M a1 (2 : Int32)) (M.1 621 (Int32.toNatClampNeg a1)) (M, 0) (Int32.toNatClampNeg ((M.1 621 (Int32.toNatClampNeg a1))))).2)))) 0)) from c87)] at hp
            refine j_iconst g (n := 0) (0) (by decide +kernel) rfl ?_
            refine j_goto g (off := 21) (tgt := 112) (by decide +kernel) (by decide) ?_
            obtain ⟨h0, hp⟩ := hp
            refine j_is g 48 (by decide +kernel) (by decide +kernel) (by decide +kernel) h0 ?_
            refine j_iinc g (i := 4) (n := 1) (1) (by decide +kernel) rfl (by decide) rfl ?_
            dsimp only [stL, clL, hdL]
            refine j_goto g (off := -64) (tgt := 52) (by decide +kernel) (by decide) ?_
            refine absurd (ci_X8_dues_52.mpr ?_) hx_52_2
            simp only [if_pos (show ¬ (b2i (0 ≤ a1 ∧ a1 ≤ 3)) = 0 from c4), if_pos (show (r_X8_lacksSort M a1 (2 : Int32)) = 0 from c17), if_neg (show ¬ ((M.1 600 2) ≤ (M.1 621 (Int32.toNatClampNeg a1))) from c32), if_neg (show ¬ ((M.1 621 (Int32.toNatClampNeg a1)) ≤ ((l_X8_dues_52 a1 (r_X8_lacksSort M a1 (2 : Int32)) (M.1 621 (Int32.toNatClampNeg a1)) (M, 0) (Int32.toNatClampNeg ((M.1 621 (Int32.toNatClampNeg a1))))).2)) from c55), if_neg (show ¬ (0 ≤ (lg_cmp ((l_X8_dues_52 a1 (r_X8_lacksSort M a1 (2 : Int32)) (M.1 621 (Int32.toNatClampNeg a1)) (M, 0) (Int32.toNatClampNeg ((M.1 621 (Int32.toNatClampNeg a1))))).1.2 622 (Int32.toNatClampNeg (((40 : Int32) * a1) + ((l_X8_dues_52 a1 (r_X8_lacksSort M a1 (2 : Int32)) (M.1 621 (Int32.toNatClampNeg a1)) (M, 0) (Int32.toNatClampNeg ((M.1 621 (Int32.toNatClampNeg a1))))).2)))) 0)) from c87)]
    · rw [if_neg (show ¬ ((r_X8_lacksSort M a1 (2 : Int32)) = 0) from c17)] at hp
      refine j_iload_n g (i := 2) (by decide +kernel) rfl ?_
      refine hr.1 _ _ _ _ (by decide +kernel) ⟨_, rfl, by first | rfl | exact b2i_nar | decide +kernel⟩ ?_ ?_
      · unfold r_X8_dues; first | (simp only [if_pos (show ¬ (b2i (0 ≤ a1 ∧ a1 ≤ 3)) = 0 from c4), if_neg (show ¬ ((r_X8_lacksSort M a1 (2 : Int32)) = 0) from c17)]; done) | (simp only [if_pos (show ¬ (b2i (0 ≤ a1 ∧ a1 ≤ 3)) = 0 from c4), if_neg (show ¬ ((r_X8_lacksSort M a1 (2 : Int32)) = 0) from c17)]; rfl) | rfl
      · unfold w_X8_dues; first | (simp only [if_pos (show ¬ (b2i (0 ≤ a1 ∧ a1 ≤ 3)) = 0 from c4), if_neg (show ¬ ((r_X8_lacksSort M a1 (2 : Int32)) = 0) from c17)]; done) | (simp only [if_pos (show ¬ (b2i (0 ≤ a1 ∧ a1 ≤ 3)) = 0 from c4), if_neg (show ¬ ((r_X8_lacksSort M a1 (2 : Int32)) = 0) from c17)]; rfl) | rfl
  · rw [if_neg (show ¬ (¬ (b2i (0 ≤ a1 ∧ a1 ≤ 3)) = 0) from c4)] at hp
    refine j_iconst g (n := -1) (-1) (by decide +kernel) rfl ?_
    refine hr.1 _ _ _ _ (by decide +kernel) ⟨_, rfl, by first | rfl | exact b2i_nar | decide +kernel⟩ ?_ ?_
    · unfold r_X8_dues; first | (simp only [if_neg (show ¬ (¬ (b2i (0 ≤ a1 ∧ a1 ≤ 3)) = 0) from c4)]; done) | (simp only [if_neg (show ¬ (¬ (b2i (0 ≤ a1 ∧ a1 ≤ 3)) = 0) from c4)]; rfl) | rfl
    · unfold w_X8_dues; first | (simp only [if_neg (show ¬ (¬ (b2i (0 ≤ a1 ∧ a1 ≤ 3)) = 0) from c4)]; done) | (simp only [if_neg (show ¬ (¬ (b2i (0 ≤ a1 ∧ a1 ≤ 3)) = 0) from c4)]; rfl) | rfl
noncomputable def r_X8_many (M : Mm) (a1 : Int32) : Int32 := if a1 = 0 then M.1 600 0 else if a1 = 1 then M.1 600 1 else if a1 = 2 then M.1 600 2 else if a1 = 3 then r_X8_openMany M  else if a1 = 4 then M.1 600 12 else if a1 = 5 then M.1 600 42 else if a1 = 6 then M.1 600 15 else if a1 = 7 then M.1 600 53 else (-1)
noncomputable def w_X8_many (M : Mm) (a1 : Int32) : Mm := if a1 = 0 then M else if a1 = 1 then M else if a1 = 2 then M else if a1 = 3 then M else if a1 = 4 then M else if a1 = 5 then M else if a1 = 6 then M else if a1 = 7 then M else M
def p_X8_many (M : Mm) (a1 : Int32) : Prop := (if a1 = 0 then True else if a1 = 1 then True else if a1 = 2 then True else if a1 = 3 then (p_X8_openMany M ) ∧ True else if a1 = 4 then True else if a1 = 5 then True else if a1 = 6 then True else if a1 = 7 then True else True)
theorem rnX8_many {d : Nat} {M : Mm} {a1 : Int32}  (hp : p_X8_many M a1) : Rn (d + 2) mX8_many [.ref 600, .int a1] M (some (.int (r_X8_many M a1))) (w_X8_many M a1) := by
  refine Rn.of [some (.ref 600), some (.int a1)] (by decide +kernel) rfl (Nat.le_of_ble_eq_true rfl) rfl (fun J g hr => ?_)
  unfold p_X8_many at hp
  refine j_iload_n g (i := 1) (by decide +kernel) rfl ?_
  have dsw1 : decode cX8_many 1 = .ok (.tableswitch 87 0 7 #[47, 52, 57, 62, 67, 72, 77, 82], 47) := by decide +kernel
  by_cases e1_0 : a1 = 0
  · refine j_tableIn g (off := 47) (tgt := 48) dsw1 (by rw [e1_0]; decide) (by rw [e1_0]; decide) (by rw [e1_0]; decide) (by decide) ?_
    rw [if_pos e1_0] at hp
    refine j_aload_n g (i := 0) (by decide +kernel) rfl ?_
    refine j_gI g f8_225 (by decide +kernel) (by decide +kernel) (by decide +kernel) ?_
    refine hr.1 _ _ _ _ (by decide +kernel) ⟨_, rfl, by first | rfl | exact b2i_nar | rfl⟩ ?_ ?_
    · unfold r_X8_many; first | (simp only [if_pos e1_0]; done) | (simp only [if_pos e1_0]; rfl) | rfl
    · unfold w_X8_many; first | (simp only [if_pos e1_0]; done) | (simp only [if_pos e1_0]; rfl) | rfl
  by_cases e1_1 : a1 = 1
  · refine j_tableIn g (off := 52) (tgt := 53) dsw1 (by rw [e1_1]; decide) (by rw [e1_1]; decide) (by rw [e1_1]; decide) (by decide) ?_
    rw [if_neg e1_0, if_pos e1_1] at hp
    refine j_aload_n g (i := 0) (by decide +kernel) rfl ?_
    refine j_gI g f8_228 (by decide +kernel) (by decide +kernel) (by decide +kernel) ?_
    refine hr.1 _ _ _ _ (by decide +kernel) ⟨_, rfl, by first | rfl | exact b2i_nar | rfl⟩ ?_ ?_
    · unfold r_X8_many; first | (simp only [if_neg e1_0, if_pos e1_1]; done) | (simp only [if_neg e1_0, if_pos e1_1]; rfl) | rfl
    · unfold w_X8_many; first | (simp only [if_neg e1_0, if_pos e1_1]; done) | (simp only [if_neg e1_0, if_pos e1_1]; rfl) | rfl
  by_cases e1_2 : a1 = 2
  · refine j_tableIn g (off := 57) (tgt := 58) dsw1 (by rw [e1_2]; decide) (by rw [e1_2]; decide) (by rw [e1_2]; decide) (by decide) ?_
    rw [if_neg e1_0, if_neg e1_1, if_pos e1_2] at hp
    refine j_aload_n g (i := 0) (by decide +kernel) rfl ?_
    refine j_gI g f8_99 (by decide +kernel) (by decide +kernel) (by decide +kernel) ?_
    refine hr.1 _ _ _ _ (by decide +kernel) ⟨_, rfl, by first | rfl | exact b2i_nar | rfl⟩ ?_ ?_
    · unfold r_X8_many; first | (simp only [if_neg e1_0, if_neg e1_1, if_pos e1_2]; done) | (simp only [if_neg e1_0, if_neg e1_1, if_pos e1_2]; rfl) | rfl
    · unfold w_X8_many; first | (simp only [if_neg e1_0, if_neg e1_1, if_pos e1_2]; done) | (simp only [if_neg e1_0, if_neg e1_1, if_pos e1_2]; rfl) | rfl
  by_cases e1_3 : a1 = 3
  · refine j_tableIn g (off := 62) (tgt := 63) dsw1 (by rw [e1_3]; decide) (by rw [e1_3]; decide) (by rw [e1_3]; decide) (by decide) ?_
    rw [if_neg e1_0, if_neg e1_1, if_neg e1_2, if_pos e1_3] at hp
    refine j_aload_n g (i := 0) (by decide +kernel) rfl ?_
    obtain ⟨h0, hp⟩ := hp
    refine j_cV0r g v8_304 ⟨rfl, by decide⟩ (by decide +kernel) (by decide +kernel) (Nat.le_of_ble_eq_true rfl) (rnX8_openMany h0) ?_
    refine hr.1 _ _ _ _ (by decide +kernel) ⟨_, rfl, by first | rfl | exact b2i_nar | rfl⟩ ?_ ?_
    · unfold r_X8_many; first | (simp only [if_neg e1_0, if_neg e1_1, if_neg e1_2, if_pos e1_3]; done) | (simp only [if_neg e1_0, if_neg e1_1, if_neg e1_2, if_pos e1_3]; rfl) | rfl
    · unfold w_X8_many; first | (simp only [if_neg e1_0, if_neg e1_1, if_neg e1_2, if_pos e1_3]; done) | (simp only [if_neg e1_0, if_neg e1_1, if_neg e1_2, if_pos e1_3]; rfl) | rfl
  by_cases e1_4 : a1 = 4
  · refine j_tableIn g (off := 67) (tgt := 68) dsw1 (by rw [e1_4]; decide) (by rw [e1_4]; decide) (by rw [e1_4]; decide) (by decide) ?_
    rw [if_neg e1_0, if_neg e1_1, if_neg e1_2, if_neg e1_3, if_pos e1_4] at hp
    refine j_aload_n g (i := 0) (by decide +kernel) rfl ?_
    refine j_gI g f8_368 (by decide +kernel) (by decide +kernel) (by decide +kernel) ?_
    refine hr.1 _ _ _ _ (by decide +kernel) ⟨_, rfl, by first | rfl | exact b2i_nar | rfl⟩ ?_ ?_
    · unfold r_X8_many; first | (simp only [if_neg e1_0, if_neg e1_1, if_neg e1_2, if_neg e1_3, if_pos e1_4]; done) | (simp only [if_neg e1_0, if_neg e1_1, if_neg e1_2, if_neg e1_3, if_pos e1_4]; rfl) | rfl
    · unfold w_X8_many; first | (simp only [if_neg e1_0, if_neg e1_1, if_neg e1_2, if_neg e1_3, if_pos e1_4]; done) | (simp only [if_neg e1_0, if_neg e1_1, if_neg e1_2, if_neg e1_3, if_pos e1_4]; rfl) | rfl
  by_cases e1_5 : a1 = 5
  · refine j_tableIn g (off := 72) (tgt := 73) dsw1 (by rw [e1_5]; decide) (by rw [e1_5]; decide) (by rw [e1_5]; decide) (by decide) ?_
    rw [if_neg e1_0, if_neg e1_1, if_neg e1_2, if_neg e1_3, if_neg e1_4, if_pos e1_5] at hp
    refine j_aload_n g (i := 0) (by decide +kernel) rfl ?_
    refine j_gI g f8_234 (by decide +kernel) (by decide +kernel) (by decide +kernel) ?_
    refine hr.1 _ _ _ _ (by decide +kernel) ⟨_, rfl, by first | rfl | exact b2i_nar | rfl⟩ ?_ ?_
    · unfold r_X8_many; first | (simp only [if_neg e1_0, if_neg e1_1, if_neg e1_2, if_neg e1_3, if_neg e1_4, if_pos e1_5]; done) | (simp only [if_neg e1_0, if_neg e1_1, if_neg e1_2, if_neg e1_3, if_neg e1_4, if_pos e1_5]; rfl) | rfl
    · unfold w_X8_many; first | (simp only [if_neg e1_0, if_neg e1_1, if_neg e1_2, if_neg e1_3, if_neg e1_4, if_pos e1_5]; done) | (simp only [if_neg e1_0, if_neg e1_1, if_neg e1_2, if_neg e1_3, if_neg e1_4, if_pos e1_5]; rfl) | rfl
  by_cases e1_6 : a1 = 6
  · refine j_tableIn g (off := 77) (tgt := 78) dsw1 (by rw [e1_6]; decide) (by rw [e1_6]; decide) (by rw [e1_6]; decide) (by decide) ?_
    rw [if_neg e1_0, if_neg e1_1, if_neg e1_2, if_neg e1_3, if_neg e1_4, if_neg e1_5, if_pos e1_6] at hp
    refine j_aload_n g (i := 0) (by decide +kernel) rfl ?_
    refine j_gI g f8_103 (by decide +kernel) (by decide +kernel) (by decide +kernel) ?_
    refine hr.1 _ _ _ _ (by decide +kernel) ⟨_, rfl, by first | rfl | exact b2i_nar | rfl⟩ ?_ ?_
    · unfold r_X8_many; first | (simp only [if_neg e1_0, if_neg e1_1, if_neg e1_2, if_neg e1_3, if_neg e1_4, if_neg e1_5, if_pos e1_6]; done) | (simp only [if_neg e1_0, if_neg e1_1, if_neg e1_2, if_neg e1_3, if_neg e1_4, if_neg e1_5, if_pos e1_6]; rfl) | rfl
    · unfold w_X8_many; first | (simp only [if_neg e1_0, if_neg e1_1, if_neg e1_2, if_neg e1_3, if_neg e1_4, if_neg e1_5, if_pos e1_6]; done) | (simp only [if_neg e1_0, if_neg e1_1, if_neg e1_2, if_neg e1_3, if_neg e1_4, if_neg e1_5, if_pos e1_6]; rfl) | rfl
  by_cases e1_7 : a1 = 7
  · refine j_tableIn g (off := 82) (tgt := 83) dsw1 (by rw [e1_7]; decide) (by rw [e1_7]; decide) (by rw [e1_7]; decide) (by decide) ?_
    rw [if_neg e1_0, if_neg e1_1, if_neg e1_2, if_neg e1_3, if_neg e1_4, if_neg e1_5, if_neg e1_6, if_pos e1_7] at hp
    refine j_aload_n g (i := 0) (by decide +kernel) rfl ?_
    refine j_gI g f8_418 (by decide +kernel) (by decide +kernel) (by decide +kernel) ?_
    refine hr.1 _ _ _ _ (by decide +kernel) ⟨_, rfl, by first | rfl | exact b2i_nar | rfl⟩ ?_ ?_
    · unfold r_X8_many; first | (simp only [if_neg e1_0, if_neg e1_1, if_neg e1_2, if_neg e1_3, if_neg e1_4, if_neg e1_5, if_neg e1_6, if_pos e1_7]; done) | (simp only [if_neg e1_0, if_neg e1_1, if_neg e1_2, if_neg e1_3, if_neg e1_4, if_neg e1_5, if_neg e1_6, if_pos e1_7]; rfl) | rfl
    · unfold w_X8_many; first | (simp only [if_neg e1_0, if_neg e1_1, if_neg e1_2, if_neg e1_3, if_neg e1_4, if_neg e1_5, if_neg e1_6, if_pos e1_7]; done) | (simp only [if_neg e1_0, if_neg e1_1, if_neg e1_2, if_neg e1_3, if_neg e1_4, if_neg e1_5, if_neg e1_6, if_pos e1_7]; rfl) | rfl
  rw [if_neg e1_0, if_neg e1_1, if_neg e1_2, if_neg e1_3, if_neg e1_4, if_neg e1_5, if_neg e1_6, if_neg e1_7] at hp
  refine j_tableOut g (tgt := 88) dsw1 (by simp only [← Int32.toInt_inj, Int32.reduceToInt, im1, im2, im3] at e1_0 e1_1 e1_2 e1_3 e1_4 e1_5 e1_6 e1_7; omega) (by decide) ?_
  refine j_iconst g (n := -1) (-1) (by decide +kernel) rfl ?_
  refine hr.1 _ _ _ _ (by decide +kernel) ⟨_, rfl, by first | rfl | exact b2i_nar | rfl⟩ ?_ ?_
  · unfold r_X8_many; first | (simp only [if_neg e1_0, if_neg e1_1, if_neg e1_2, if_neg e1_3, if_neg e1_4, if_neg e1_5, if_neg e1_6, if_neg e1_7]; done) | (simp only [if_neg e1_0, if_neg e1_1, if_neg e1_2, if_neg e1_3, if_neg e1_4, if_neg e1_5, if_neg e1_6, if_neg e1_7]; rfl) | rfl
  · unfold w_X8_many; first | (simp only [if_neg e1_0, if_neg e1_1, if_neg e1_2, if_neg e1_3, if_neg e1_4, if_neg e1_5, if_neg e1_6, if_neg e1_7]; done) | (simp only [if_neg e1_0, if_neg e1_1, if_neg e1_2, if_neg e1_3, if_neg e1_4, if_neg e1_5, if_neg e1_6, if_neg e1_7]; rfl) | rfl
