def c_X8_advance_8  (σ : Mm) : Prop := if ¬ (if (σ.1 600 17) < σ.1 600 15 then σ.1 609 (Int32.toNatClampNeg (σ.1 600 17)) else -1) = (32 : Int32) then False else True
theorem ci_X8_advance_8   {σ : Mm} : c_X8_advance_8  σ ↔ (if ¬ (if (σ.1 600 17) < σ.1 600 15 then σ.1 609 (Int32.toNatClampNeg (σ.1 600 17)) else -1) = (32 : Int32) then False else True) := Iff.rfl
noncomputable def s_X8_advance_8  (σ : Mm) : Mm := if ¬ (if (σ.1 600 17) < σ.1 600 15 then σ.1 609 (Int32.toNatClampNeg (σ.1 600 17)) else -1) = (32 : Int32) then σ else ((wi σ 600 17 ((σ.1 600 17) + 1)))
def q_X8_advance_8  (σ : Mm) : Prop := ((σ.1 600 17) < σ.1 600 15 → vp_in (σ.1 600 17) 240) ∧ (if ¬ (if (σ.1 600 17) < σ.1 600 15 then σ.1 609 (Int32.toNatClampNeg (σ.1 600 17)) else -1) = (32 : Int32) then True else True)
noncomputable def l_X8_advance_8  (σ0 : Mm) : Nat → Mm := itN (fun _ σ => s_X8_advance_8  σ) σ0
theorem ps_X8_advance_8 {d : Nat} {J : Nat → Lc → List Value → Mm → Prop}   {σ : Mm}  (g : Good mX8_advance.1 mX8_advance.2.2.1 mX8_advance.2.2.2.1 (d + 2) J) (hc : c_X8_advance_8  σ) (hp : q_X8_advance_8  σ) (k : J 8 [some (.ref 600), none] [] (s_X8_advance_8  σ)) : J 8 [some (.ref 600), none] [] σ := by
  unfold c_X8_advance_8 at hc
  unfold q_X8_advance_8 at hp
  unfold s_X8_advance_8 at k
  refine j_aload_n g (i := 0) (by decide +kernel) rfl ?_
  refine j_aload_n g (i := 0) (by decide +kernel) rfl ?_
  refine j_gI g f8_111 (by decide +kernel) (by decide +kernel) (by decide +kernel) ?_
  obtain ⟨h0, hp⟩ := hp
  refine j_cV1r g v8_114 ⟨rfl, by decide⟩ (by decide +kernel) (by decide +kernel) (Nat.le_of_ble_eq_true rfl) (rnX8_byteAt h0) ?_
  refine j_bipush g (n := 32) (32) (by decide +kernel) (by decide +kernel) ?_
  refine j_icmp_ne g (off := 16) (tgt := 34) (by decide +kernel) (by decide) (fun c18 => ?_) (fun c18 => ?_)
  · (try rw [if_pos (show ¬ (if (σ.1 600 17) < σ.1 600 15 then σ.1 609 (Int32.toNatClampNeg (σ.1 600 17)) else -1) = (32 : Int32) from c18)] at hc); (rw [if_pos (show ¬ (if (σ.1 600 17) < σ.1 600 15 then σ.1 609 (Int32.toNatClampNeg (σ.1 600 17)) else -1) = (32 : Int32) from c18)] at hp); (try simp only [if_pos (show ¬ (if (σ.1 600 17) < σ.1 600 15 then σ.1 609 (Int32.toNatClampNeg (σ.1 600 17)) else -1) = (32 : Int32) from c18)] at k)
    exact hc.elim
  · (try rw [if_neg (show ¬ (¬ (if (σ.1 600 17) < σ.1 600 15 then σ.1 609 (Int32.toNatClampNeg (σ.1 600 17)) else -1) = (32 : Int32)) from c18)] at hc); (rw [if_neg (show ¬ (¬ (if (σ.1 600 17) < σ.1 600 15 then σ.1 609 (Int32.toNatClampNeg (σ.1 600 17)) else -1) = (32 : Int32)) from c18)] at hp); (try simp only [if_neg (show ¬ (¬ (if (σ.1 600 17) < σ.1 600 15 then σ.1 609 (Int32.toNatClampNeg (σ.1 600 17)) else -1) = (32 : Int32)) from c18)] at k)
    refine j_aload_n g (i := 0) (by decide +kernel) rfl ?_
    refine j_dup g (by decide +kernel) rfl ?_
    refine j_gI g f8_111 (by decide +kernel) (by decide +kernel) (by decide +kernel) ?_
    refine j_iconst g (n := 1) (1) (by decide +kernel) rfl ?_
    refine j_iadd g (by decide +kernel) ?_
    refine j_pI g f8_111 (fun q h => by cases h; rfl) (by decide +kernel) (by decide +kernel) (by decide +kernel) ?_
    refine j_goto g (off := -23) (tgt := 8) (by decide +kernel) (by decide) ?_
    exact k 
theorem sh_X8_advance_8 {d : Nat} {J : Nat → Lc → List Value → Mm → Prop}   {σ0 : Mm}  (g : Good mX8_advance.1 mX8_advance.2.2.1 mX8_advance.2.2.2.1 (d + 2) J) : ∀ (N : Nat), (∀ k, k < N → c_X8_advance_8  (l_X8_advance_8  σ0 k)) → (∀ k, k < N → q_X8_advance_8  (l_X8_advance_8  σ0 k)) → (J 8 [some (.ref 600), none] [] (l_X8_advance_8  σ0 N)) → J 8 [some (.ref 600), none] [] σ0
  | 0, _, _, k => k
  | N + 1, hc, hp, k => sh_X8_advance_8  g N (fun i hi => hc i (Nat.lt_succ_of_lt hi)) (fun i hi => hp i (Nat.lt_succ_of_lt hi)) (ps_X8_advance_8  g (hc N (Nat.lt_succ_self N)) (hp N (Nat.lt_succ_self N)) k)
def c_X8_advance_126 (x1 : Int32) (σ : Mm) : Prop := if ¬ (σ.1 600 16) = (1 : Int32) then False else if (b2i (97 ≤ (if (σ.1 600 18) < σ.1 600 15 then σ.1 609 (Int32.toNatClampNeg (σ.1 600 18)) else -1) ∧ (if (σ.1 600 18) < σ.1 600 15 then σ.1 609 (Int32.toNatClampNeg (σ.1 600 18)) else -1) ≤ 122)) = 0 then False else True
theorem ci_X8_advance_126  {x1 : Int32} {σ : Mm} : c_X8_advance_126 x1 σ ↔ (if ¬ (σ.1 600 16) = (1 : Int32) then False else if (b2i (97 ≤ (if (σ.1 600 18) < σ.1 600 15 then σ.1 609 (Int32.toNatClampNeg (σ.1 600 18)) else -1) ∧ (if (σ.1 600 18) < σ.1 600 15 then σ.1 609 (Int32.toNatClampNeg (σ.1 600 18)) else -1) ≤ 122)) = 0 then False else True) := Iff.rfl
noncomputable def s_X8_advance_126 (x1 : Int32) (σ : Mm) : Mm := if ¬ (σ.1 600 16) = (1 : Int32) then σ else if (b2i (97 ≤ (if (σ.1 600 18) < σ.1 600 15 then σ.1 609 (Int32.toNatClampNeg (σ.1 600 18)) else -1) ∧ (if (σ.1 600 18) < σ.1 600 15 then σ.1 609 (Int32.toNatClampNeg (σ.1 600 18)) else -1) ≤ 122)) = 0 then σ else if (8 : Int32) ≤ ((σ.1 600 18) - (σ.1 600 17)) then ((wi (wl σ 600 19 (-1)) 600 18 (((wl σ 600 19 (-1)).1 600 18) + 1))) else ((wi (wl σ 600 19 (((27 * (σ.2 600 19)) + (Int32.toInt64 (if (σ.1 600 18) < σ.1 600 15 then σ.1 609 (Int32.toNatClampNeg (σ.1 600 18)) else -1))) - 96)) 600 18 (((wl σ 600 19 (((27 * (σ.2 600 19)) + (Int32.toInt64 (if (σ.1 600 18) < σ.1 600 15 then σ.1 609 (Int32.toNatClampNeg (σ.1 600 18)) else -1))) - 96)).1 600 18) + 1)))
def q_X8_advance_126 (x1 : Int32) (σ : Mm) : Prop := (if ¬ (σ.1 600 16) = (1 : Int32) then True else ((σ.1 600 18) < σ.1 600 15 → vp_in (σ.1 600 18) 240) ∧ (if (b2i (97 ≤ (if (σ.1 600 18) < σ.1 600 15 then σ.1 609 (Int32.toNatClampNeg (σ.1 600 18)) else -1) ∧ (if (σ.1 600 18) < σ.1 600 15 then σ.1 609 (Int32.toNatClampNeg (σ.1 600 18)) else -1) ≤ 122)) = 0 then True else (if (8 : Int32) ≤ ((σ.1 600 18) - (σ.1 600 17)) then True else ((σ.1 600 18) < σ.1 600 15 → vp_in (σ.1 600 18) 240) ∧ True)))
noncomputable def l_X8_advance_126 (x1 : Int32) (σ0 : Mm) : Nat → Mm := itN (fun _ σ => s_X8_advance_126 x1 σ) σ0
theorem ps_X8_advance_126 {d : Nat} {J : Nat → Lc → List Value → Mm → Prop}  {x1 : Int32} {σ : Mm}  (g : Good mX8_advance.1 mX8_advance.2.2.1 mX8_advance.2.2.2.1 (d + 2) J) (hc : c_X8_advance_126 x1 σ) (hp : q_X8_advance_126 x1 σ) (k : J 126 [some (.ref 600), some (.int x1)] [] (s_X8_advance_126 x1 σ)) : J 126 [some (.ref 600), some (.int x1)] [] σ := by
  unfold c_X8_advance_126 at hc
  unfold q_X8_advance_126 at hp
  unfold s_X8_advance_126 at k
  refine j_aload_n g (i := 0) (by decide +kernel) rfl ?_
  refine j_gI g f8_125 (by decide +kernel) (by decide +kernel) (by decide +kernel) ?_
  refine j_iconst g (n := 1) (1) (by decide +kernel) rfl ?_
  refine j_icmp_ne g (off := 76) (tgt := 207) (by decide +kernel) (by decide) (fun c131 => ?_) (fun c131 => ?_)
  · (try rw [if_pos (show ¬ (σ.1 600 16) = (1 : Int32) from c131)] at hc); (rw [if_pos (show ¬ (σ.1 600 16) = (1 : Int32) from c131)] at hp); (try simp only [if_pos (show ¬ (σ.1 600 16) = (1 : Int32) from c131)] at k)
    exact hc.elim
  · (try rw [if_neg (show ¬ (¬ (σ.1 600 16) = (1 : Int32)) from c131)] at hc); (rw [if_neg (show ¬ (¬ (σ.1 600 16) = (1 : Int32)) from c131)] at hp); (try simp only [if_neg (show ¬ (¬ (σ.1 600 16) = (1 : Int32)) from c131)] at k)
    refine j_aload_n g (i := 0) (by decide +kernel) rfl ?_
    refine j_aload_n g (i := 0) (by decide +kernel) rfl ?_
    refine j_gI g f8_108 (by decide +kernel) (by decide +kernel) (by decide +kernel) ?_
    obtain ⟨h0, hp⟩ := hp
    refine j_cV1r g v8_114 ⟨rfl, by decide⟩ (by decide +kernel) (by decide +kernel) (Nat.le_of_ble_eq_true rfl) (rnX8_byteAt h0) ?_
    refine j_cS1r g s8_118 (by decide +kernel) (Nat.le_of_ble_eq_true rfl) (rnX8_isLetter) ?_
    refine j_if_eq g (off := 62) (tgt := 207) (by decide +kernel) (by decide) (fun c145 => ?_) (fun c145 => ?_)
    · (try rw [if_pos (show (b2i (97 ≤ (if (σ.1 600 18) < σ.1 600 15 then σ.1 609 (Int32.toNatClampNeg (σ.1 600 18)) else -1) ∧ (if (σ.1 600 18) < σ.1 600 15 then σ.1 609 (Int32.toNatClampNeg (σ.1 600 18)) else -1) ≤ 122)) = 0 from c145)] at hc); (rw [if_pos (show (b2i (97 ≤ (if (σ.1 600 18) < σ.1 600 15 then σ.1 609 (Int32.toNatClampNeg (σ.1 600 18)) else -1) ∧ (if (σ.1 600 18) < σ.1 600 15 then σ.1 609 (Int32.toNatClampNeg (σ.1 600 18)) else -1) ≤ 122)) = 0 from c145)] at hp); (try simp only [if_pos (show (b2i (97 ≤ (if (σ.1 600 18) < σ.1 600 15 then σ.1 609 (Int32.toNatClampNeg (σ.1 600 18)) else -1) ∧ (if (σ.1 600 18) < σ.1 600 15 then σ.1 609 (Int32.toNatClampNeg (σ.1 600 18)) else -1) ≤ 122)) = 0 from c145)] at k)
      exact hc.elim
    · (try rw [if_neg (show ¬ ((b2i (97 ≤ (if (σ.1 600 18) < σ.1 600 15 then σ.1 609 (Int32.toNatClampNeg (σ.1 600 18)) else -1) ∧ (if (σ.1 600 18) < σ.1 600 15 then σ.1 609 (Int32.toNatClampNeg (σ.1 600 18)) else -1) ≤ 122)) = 0) from c145)] at hc); (rw [if_neg (show ¬ ((b2i (97 ≤ (if (σ.1 600 18) < σ.1 600 15 then σ.1 609 (Int32.toNatClampNeg (σ.1 600 18)) else -1) ∧ (if (σ.1 600 18) < σ.1 600 15 then σ.1 609 (Int32.toNatClampNeg (σ.1 600 18)) else -1) ≤ 122)) = 0) from c145)] at hp); (try simp only [if_neg (show ¬ ((b2i (97 ≤ (if (σ.1 600 18) < σ.1 600 15 then σ.1 609 (Int32.toNatClampNeg (σ.1 600 18)) else -1) ∧ (if (σ.1 600 18) < σ.1 600 15 then σ.1 609 (Int32.toNatClampNeg (σ.1 600 18)) else -1) ≤ 122)) = 0) from c145)] at k)
      refine j_aload_n g (i := 0) (by decide +kernel) rfl ?_
      refine j_aload_n g (i := 0) (by decide +kernel) rfl ?_
      refine j_gI g f8_108 (by decide +kernel) (by decide +kernel) (by decide +kernel) ?_
      refine j_aload_n g (i := 0) (by decide +kernel) rfl ?_
      refine j_gI g f8_111 (by decide +kernel) (by decide +kernel) (by decide +kernel) ?_
      refine j_isub g (by decide +kernel) ?_
      refine j_bipush g (n := 8) (8) (by decide +kernel) (by decide +kernel) ?_
      refine j_icmp_ge g (off := 28) (tgt := 188) (by decide +kernel) (by decide) (fun c160 => ?_) (fun c160 => ?_)
      · (try rw [if_pos (show (8 : Int32) ≤ ((σ.1 600 18) - (σ.1 600 17)) from c160)] at hc); (rw [if_pos (show (8 : Int32) ≤ ((σ.1 600 18) - (σ.1 600 17)) from c160)] at hp); (try simp only [if_pos (show (8 : Int32) ≤ ((σ.1 600 18) - (σ.1 600 17)) from c160)] at k)
        refine j_ldc2 g (n := 139) (-1) (by decide +kernel) k8_139 ?_
        refine j_pJ g f8_128 (fun q h => by cases h; rfl) (by decide +kernel) (by decide +kernel) (by decide +kernel) ?_
        refine j_aload_n g (i := 0) (by decide +kernel) rfl ?_
        refine j_dup g (by decide +kernel) rfl ?_
        refine j_gI g f8_108 (by decide +kernel) (by decide +kernel) (by decide +kernel) ?_
        refine j_iconst g (n := 1) (1) (by decide +kernel) rfl ?_
        refine j_iadd g (by decide +kernel) ?_
        refine j_pI g f8_108 (fun q h => by cases h; rfl) (by decide +kernel) (by decide +kernel) (by decide +kernel) ?_
        refine j_goto g (off := -78) (tgt := 126) (by decide +kernel) (by decide) ?_
        exact k 
      · (try rw [if_neg (show ¬ ((8 : Int32) ≤ ((σ.1 600 18) - (σ.1 600 17))) from c160)] at hc); (rw [if_neg (show ¬ ((8 : Int32) ≤ ((σ.1 600 18) - (σ.1 600 17))) from c160)] at hp); (try simp only [if_neg (show ¬ ((8 : Int32) ≤ ((σ.1 600 18) - (σ.1 600 17))) from c160)] at k)
        refine j_ldc2 g (n := 135) (27) (by decide +kernel) k8_135 ?_
        refine j_aload_n g (i := 0) (by decide +kernel) rfl ?_
        refine j_gJ g f8_128 (by decide +kernel) (by decide +kernel) (by decide +kernel) ?_
        refine j_lmul g (by decide +kernel) ?_
        refine j_aload_n g (i := 0) (by decide +kernel) rfl ?_
        refine j_aload_n g (i := 0) (by decide +kernel) rfl ?_
        refine j_gI g f8_108 (by decide +kernel) (by decide +kernel) (by decide +kernel) ?_
        obtain ⟨h0, hp⟩ := hp
        refine j_cV1r g v8_114 ⟨rfl, by decide⟩ (by decide +kernel) (by decide +kernel) (Nat.le_of_ble_eq_true rfl) (rnX8_byteAt h0) ?_
        refine j_i2l g (by decide +kernel) ?_
        refine j_ladd g (by decide +kernel) ?_
        refine j_ldc2 g (n := 137) (96) (by decide +kernel) k8_137 ?_
        refine j_lsub g (by decide +kernel) ?_
        refine j_goto g (off := 6) (tgt := 191) (by decide +kernel) (by decide) ?_
        refine j_pJ g f8_128 (fun q h => by cases h; rfl) (by decide +kernel) (by decide +kernel) (by decide +kernel) ?_
        refine j_aload_n g (i := 0) (by decide +kernel) rfl ?_
        refine j_dup g (by decide +kernel) rfl ?_
        refine j_gI g f8_108 (by decide +kernel) (by decide +kernel) (by decide +kernel) ?_
        refine j_iconst g (n := 1) (1) (by decide +kernel) rfl ?_
        refine j_iadd g (by decide +kernel) ?_
        refine j_pI g f8_108 (fun q h => by cases h; rfl) (by decide +kernel) (by decide +kernel) (by decide +kernel) ?_
        refine j_goto g (off := -78) (tgt := 126) (by decide +kernel) (by decide) ?_
        exact k 
theorem sh_X8_advance_126 {d : Nat} {J : Nat → Lc → List Value → Mm → Prop}  {x1 : Int32} {σ0 : Mm}  (g : Good mX8_advance.1 mX8_advance.2.2.1 mX8_advance.2.2.2.1 (d + 2) J) : ∀ (N : Nat), (∀ k, k < N → c_X8_advance_126 x1 (l_X8_advance_126 x1 σ0 k)) → (∀ k, k < N → q_X8_advance_126 x1 (l_X8_advance_126 x1 σ0 k)) → (J 126 [some (.ref 600), some (.int x1)] [] (l_X8_advance_126 x1 σ0 N)) → J 126 [some (.ref 600), some (.int x1)] [] σ0
  | 0, _, _, k => k
  | N + 1, hc, hp, k => sh_X8_advance_126  g N (fun i hi => hc i (Nat.lt_succ_of_lt hi)) (fun i hi => hp i (Nat.lt_succ_of_lt hi)) (ps_X8_advance_126  g (hc N (Nat.lt_succ_self N)) (hp N (Nat.lt_succ_self N)) k)
def c_X8_advance_207 (x1 : Int32) (σ : Mm) : Prop := if ¬ (σ.1 600 16) = (2 : Int32) then False else if (b2i (48 ≤ (if (σ.1 600 18) < σ.1 600 15 then σ.1 609 (Int32.toNatClampNeg (σ.1 600 18)) else -1) ∧ (if (σ.1 600 18) < σ.1 600 15 then σ.1 609 (Int32.toNatClampNeg (σ.1 600 18)) else -1) ≤ 57)) = 0 then False else True
theorem ci_X8_advance_207  {x1 : Int32} {σ : Mm} : c_X8_advance_207 x1 σ ↔ (if ¬ (σ.1 600 16) = (2 : Int32) then False else if (b2i (48 ≤ (if (σ.1 600 18) < σ.1 600 15 then σ.1 609 (Int32.toNatClampNeg (σ.1 600 18)) else -1) ∧ (if (σ.1 600 18) < σ.1 600 15 then σ.1 609 (Int32.toNatClampNeg (σ.1 600 18)) else -1) ≤ 57)) = 0 then False else True) := Iff.rfl
noncomputable def s_X8_advance_207 (x1 : Int32) (σ : Mm) : Mm := if ¬ (σ.1 600 16) = (2 : Int32) then σ else if (b2i (48 ≤ (if (σ.1 600 18) < σ.1 600 15 then σ.1 609 (Int32.toNatClampNeg (σ.1 600 18)) else -1) ∧ (if (σ.1 600 18) < σ.1 600 15 then σ.1 609 (Int32.toNatClampNeg (σ.1 600 18)) else -1) ≤ 57)) = 0 then σ else if (3 : Int32) ≤ ((σ.1 600 18) - (σ.1 600 17)) then ((wi (wi σ 600 20 (-1)) 600 18 (((wi σ 600 20 (-1)).1 600 18) + 1))) else ((wi (wi σ 600 20 ((((10 : Int32) * (σ.1 600 20)) + (if (σ.1 600 18) < σ.1 600 15 then σ.1 609 (Int32.toNatClampNeg (σ.1 600 18)) else -1)) - 48)) 600 18 (((wi σ 600 20 ((((10 : Int32) * (σ.1 600 20)) + (if (σ.1 600 18) < σ.1 600 15 then σ.1 609 (Int32.toNatClampNeg (σ.1 600 18)) else -1)) - 48)).1 600 18) + 1)))
def q_X8_advance_207 (x1 : Int32) (σ : Mm) : Prop := (if ¬ (σ.1 600 16) = (2 : Int32) then True else ((σ.1 600 18) < σ.1 600 15 → vp_in (σ.1 600 18) 240) ∧ (if (b2i (48 ≤ (if (σ.1 600 18) < σ.1 600 15 then σ.1 609 (Int32.toNatClampNeg (σ.1 600 18)) else -1) ∧ (if (σ.1 600 18) < σ.1 600 15 then σ.1 609 (Int32.toNatClampNeg (σ.1 600 18)) else -1) ≤ 57)) = 0 then True else (if (3 : Int32) ≤ ((σ.1 600 18) - (σ.1 600 17)) then True else ((σ.1 600 18) < σ.1 600 15 → vp_in (σ.1 600 18) 240) ∧ True)))
noncomputable def l_X8_advance_207 (x1 : Int32) (σ0 : Mm) : Nat → Mm := itN (fun _ σ => s_X8_advance_207 x1 σ) σ0
theorem ps_X8_advance_207 {d : Nat} {J : Nat → Lc → List Value → Mm → Prop}  {x1 : Int32} {σ : Mm}  (g : Good mX8_advance.1 mX8_advance.2.2.1 mX8_advance.2.2.2.1 (d + 2) J) (hc : c_X8_advance_207 x1 σ) (hp : q_X8_advance_207 x1 σ) (k : J 207 [some (.ref 600), some (.int x1)] [] (s_X8_advance_207 x1 σ)) : J 207 [some (.ref 600), some (.int x1)] [] σ := by
  unfold c_X8_advance_207 at hc
  unfold q_X8_advance_207 at hp
  unfold s_X8_advance_207 at k
  refine j_aload_n g (i := 0) (by decide +kernel) rfl ?_
  refine j_gI g f8_125 (by decide +kernel) (by decide +kernel) (by decide +kernel) ?_
  refine j_iconst g (n := 2) (2) (by decide +kernel) rfl ?_
  refine j_icmp_ne g (off := 70) (tgt := 282) (by decide +kernel) (by decide) (fun c212 => ?_) (fun c212 => ?_)
  · (try rw [if_pos (show ¬ (σ.1 600 16) = (2 : Int32) from c212)] at hc); (rw [if_pos (show ¬ (σ.1 600 16) = (2 : Int32) from c212)] at hp); (try simp only [if_pos (show ¬ (σ.1 600 16) = (2 : Int32) from c212)] at k)
    exact hc.elim
  · (try rw [if_neg (show ¬ (¬ (σ.1 600 16) = (2 : Int32)) from c212)] at hc); (rw [if_neg (show ¬ (¬ (σ.1 600 16) = (2 : Int32)) from c212)] at hp); (try simp only [if_neg (show ¬ (¬ (σ.1 600 16) = (2 : Int32)) from c212)] at k)
    refine j_aload_n g (i := 0) (by decide +kernel) rfl ?_
    refine j_aload_n g (i := 0) (by decide +kernel) rfl ?_
    refine j_gI g f8_108 (by decide +kernel) (by decide +kernel) (by decide +kernel) ?_
    obtain ⟨h0, hp⟩ := hp
    refine j_cV1r g v8_114 ⟨rfl, by decide⟩ (by decide +kernel) (by decide +kernel) (Nat.le_of_ble_eq_true rfl) (rnX8_byteAt h0) ?_
    refine j_cS1r g s8_122 (by decide +kernel) (Nat.le_of_ble_eq_true rfl) (rnX8_isDigit) ?_
    refine j_if_eq g (off := 56) (tgt := 282) (by decide +kernel) (by decide) (fun c226 => ?_) (fun c226 => ?_)
    · (try rw [if_pos (show (b2i (48 ≤ (if (σ.1 600 18) < σ.1 600 15 then σ.1 609 (Int32.toNatClampNeg (σ.1 600 18)) else -1) ∧ (if (σ.1 600 18) < σ.1 600 15 then σ.1 609 (Int32.toNatClampNeg (σ.1 600 18)) else -1) ≤ 57)) = 0 from c226)] at hc); (rw [if_pos (show (b2i (48 ≤ (if (σ.1 600 18) < σ.1 600 15 then σ.1 609 (Int32.toNatClampNeg (σ.1 600 18)) else -1) ∧ (if (σ.1 600 18) < σ.1 600 15 then σ.1 609 (Int32.toNatClampNeg (σ.1 600 18)) else -1) ≤ 57)) = 0 from c226)] at hp); (try simp only [if_pos (show (b2i (48 ≤ (if (σ.1 600 18) < σ.1 600 15 then σ.1 609 (Int32.toNatClampNeg (σ.1 600 18)) else -1) ∧ (if (σ.1 600 18) < σ.1 600 15 then σ.1 609 (Int32.toNatClampNeg (σ.1 600 18)) else -1) ≤ 57)) = 0 from c226)] at k)
      exact hc.elim
    · (try rw [if_neg (show ¬ ((b2i (48 ≤ (if (σ.1 600 18) < σ.1 600 15 then σ.1 609 (Int32.toNatClampNeg (σ.1 600 18)) else -1) ∧ (if (σ.1 600 18) < σ.1 600 15 then σ.1 609 (Int32.toNatClampNeg (σ.1 600 18)) else -1) ≤ 57)) = 0) from c226)] at hc); (rw [if_neg (show ¬ ((b2i (48 ≤ (if (σ.1 600 18) < σ.1 600 15 then σ.1 609 (Int32.toNatClampNeg (σ.1 600 18)) else -1) ∧ (if (σ.1 600 18) < σ.1 600 15 then σ.1 609 (Int32.toNatClampNeg (σ.1 600 18)) else -1) ≤ 57)) = 0) from c226)] at hp); (try simp only [if_neg (show ¬ ((b2i (48 ≤ (if (σ.1 600 18) < σ.1 600 15 then σ.1 609 (Int32.toNatClampNeg (σ.1 600 18)) else -1) ∧ (if (σ.1 600 18) < σ.1 600 15 then σ.1 609 (Int32.toNatClampNeg (σ.1 600 18)) else -1) ≤ 57)) = 0) from c226)] at k)
      refine j_aload_n g (i := 0) (by decide +kernel) rfl ?_
      refine j_aload_n g (i := 0) (by decide +kernel) rfl ?_
      refine j_gI g f8_108 (by decide +kernel) (by decide +kernel) (by decide +kernel) ?_
      refine j_aload_n g (i := 0) (by decide +kernel) rfl ?_
      refine j_gI g f8_111 (by decide +kernel) (by decide +kernel) (by decide +kernel) ?_
      refine j_isub g (by decide +kernel) ?_
      refine j_iconst g (n := 3) (3) (by decide +kernel) rfl ?_
      refine j_icmp_ge g (off := 25) (tgt := 265) (by decide +kernel) (by decide) (fun c240 => ?_) (fun c240 => ?_)
      · (try rw [if_pos (show (3 : Int32) ≤ ((σ.1 600 18) - (σ.1 600 17)) from c240)] at hc); (rw [if_pos (show (3 : Int32) ≤ ((σ.1 600 18) - (σ.1 600 17)) from c240)] at hp); (try simp only [if_pos (show (3 : Int32) ≤ ((σ.1 600 18) - (σ.1 600 17)) from c240)] at k)
        refine j_iconst g (n := -1) (-1) (by decide +kernel) rfl ?_
        refine j_pI g f8_132 (fun q h => by cases h; rfl) (by decide +kernel) (by decide +kernel) (by decide +kernel) ?_
        refine j_aload_n g (i := 0) (by decide +kernel) rfl ?_
        refine j_dup g (by decide +kernel) rfl ?_
        refine j_gI g f8_108 (by decide +kernel) (by decide +kernel) (by decide +kernel) ?_
        refine j_iconst g (n := 1) (1) (by decide +kernel) rfl ?_
        refine j_iadd g (by decide +kernel) ?_
        refine j_pI g f8_108 (fun q h => by cases h; rfl) (by decide +kernel) (by decide +kernel) (by decide +kernel) ?_
        refine j_goto g (off := -72) (tgt := 207) (by decide +kernel) (by decide) ?_
        exact k 
      · (try rw [if_neg (show ¬ ((3 : Int32) ≤ ((σ.1 600 18) - (σ.1 600 17))) from c240)] at hc); (rw [if_neg (show ¬ ((3 : Int32) ≤ ((σ.1 600 18) - (σ.1 600 17))) from c240)] at hp); (try simp only [if_neg (show ¬ ((3 : Int32) ≤ ((σ.1 600 18) - (σ.1 600 17))) from c240)] at k)
        refine j_bipush g (n := 10) (10) (by decide +kernel) (by decide +kernel) ?_
        refine j_aload_n g (i := 0) (by decide +kernel) rfl ?_
        refine j_gI g f8_132 (by decide +kernel) (by decide +kernel) (by decide +kernel) ?_
        refine j_imul g (by decide +kernel) ?_
        refine j_aload_n g (i := 0) (by decide +kernel) rfl ?_
        refine j_aload_n g (i := 0) (by decide +kernel) rfl ?_
        refine j_gI g f8_108 (by decide +kernel) (by decide +kernel) (by decide +kernel) ?_
        obtain ⟨h0, hp⟩ := hp
        refine j_cV1r g v8_114 ⟨rfl, by decide⟩ (by decide +kernel) (by decide +kernel) (Nat.le_of_ble_eq_true rfl) (rnX8_byteAt h0) ?_
        refine j_iadd g (by decide +kernel) ?_
        refine j_bipush g (n := 48) (48) (by decide +kernel) (by decide +kernel) ?_
        refine j_isub g (by decide +kernel) ?_
        refine j_goto g (off := 4) (tgt := 266) (by decide +kernel) (by decide) ?_
        refine j_pI g f8_132 (fun q h => by cases h; rfl) (by decide +kernel) (by decide +kernel) (by decide +kernel) ?_
        refine j_aload_n g (i := 0) (by decide +kernel) rfl ?_
        refine j_dup g (by decide +kernel) rfl ?_
        refine j_gI g f8_108 (by decide +kernel) (by decide +kernel) (by decide +kernel) ?_
        refine j_iconst g (n := 1) (1) (by decide +kernel) rfl ?_
        refine j_iadd g (by decide +kernel) ?_
        refine j_pI g f8_108 (fun q h => by cases h; rfl) (by decide +kernel) (by decide +kernel) (by decide +kernel) ?_
        refine j_goto g (off := -72) (tgt := 207) (by decide +kernel) (by decide) ?_
        exact k 
theorem sh_X8_advance_207 {d : Nat} {J : Nat → Lc → List Value → Mm → Prop}  {x1 : Int32} {σ0 : Mm}  (g : Good mX8_advance.1 mX8_advance.2.2.1 mX8_advance.2.2.2.1 (d + 2) J) : ∀ (N : Nat), (∀ k, k < N → c_X8_advance_207 x1 (l_X8_advance_207 x1 σ0 k)) → (∀ k, k < N → q_X8_advance_207 x1 (l_X8_advance_207 x1 σ0 k)) → (J 207 [some (.ref 600), some (.int x1)] [] (l_X8_advance_207 x1 σ0 N)) → J 207 [some (.ref 600), some (.int x1)] [] σ0
  | 0, _, _, k => k
  | N + 1, hc, hp, k => sh_X8_advance_207  g N (fun i hi => hc i (Nat.lt_succ_of_lt hi)) (fun i hi => hp i (Nat.lt_succ_of_lt hi)) (ps_X8_advance_207  g (hc N (Nat.lt_succ_self N)) (hp N (Nat.lt_succ_self N)) k)
noncomputable def w_X8_advance_207 (M : Mm)  (x1 : Int32) : Mm := if ¬ ((l_X8_advance_207 x1 (M) (cntN (fun k => c_X8_advance_207 x1 (l_X8_advance_207 x1 (M) k)) 241)).1 600 16) = (2 : Int32) then (l_X8_advance_207 x1 (M) (cntN (fun k => c_X8_advance_207 x1 (l_X8_advance_207 x1 (M) k)) 241)) else if (b2i (48 ≤ (if ((l_X8_advance_207 x1 (M) (cntN (fun k => c_X8_advance_207 x1 (l_X8_advance_207 x1 (M) k)) 241)).1 600 18) < (l_X8_advance_207 x1 (M) (cntN (fun k => c_X8_advance_207 x1 (l_X8_advance_207 x1 (M) k)) 241)).1 600 15 then (l_X8_advance_207 x1 (M) (cntN (fun k => c_X8_advance_207 x1 (l_X8_advance_207 x1 (M) k)) 241)).1 609 (Int32.toNatClampNeg ((l_X8_advance_207 x1 (M) (cntN (fun k => c_X8_advance_207 x1 (l_X8_advance_207 x1 (M) k)) 241)).1 600 18)) else -1) ∧ (if ((l_X8_advance_207 x1 (M) (cntN (fun k => c_X8_advance_207 x1 (l_X8_advance_207 x1 (M) k)) 241)).1 600 18) < (l_X8_advance_207 x1 (M) (cntN (fun k => c_X8_advance_207 x1 (l_X8_advance_207 x1 (M) k)) 241)).1 600 15 then (l_X8_advance_207 x1 (M) (cntN (fun k => c_X8_advance_207 x1 (l_X8_advance_207 x1 (M) k)) 241)).1 609 (Int32.toNatClampNeg ((l_X8_advance_207 x1 (M) (cntN (fun k => c_X8_advance_207 x1 (l_X8_advance_207 x1 (M) k)) 241)).1 600 18)) else -1) ≤ 57)) = 0 then (l_X8_advance_207 x1 (M) (cntN (fun k => c_X8_advance_207 x1 (l_X8_advance_207 x1 (M) k)) 241)) else M
def p_X8_advance_207 (M : Mm)  (x1 : Int32) : Prop := (∀ k, k < (cntN (fun k => c_X8_advance_207 x1 (l_X8_advance_207 x1 (M) k)) 241) → c_X8_advance_207 x1 (l_X8_advance_207 x1 (M) k)) ∧ (∀ k, k < (cntN (fun k => c_X8_advance_207 x1 (l_X8_advance_207 x1 (M) k)) 241) → q_X8_advance_207 x1 (l_X8_advance_207 x1 (M) k)) ∧ (¬ c_X8_advance_207 x1 (l_X8_advance_207 x1 (M) (cntN (fun k => c_X8_advance_207 x1 (l_X8_advance_207 x1 (M) k)) 241))) ∧ (if ¬ ((l_X8_advance_207 x1 (M) (cntN (fun k => c_X8_advance_207 x1 (l_X8_advance_207 x1 (M) k)) 241)).1 600 16) = (2 : Int32) then True else (((l_X8_advance_207 x1 (M) (cntN (fun k => c_X8_advance_207 x1 (l_X8_advance_207 x1 (M) k)) 241)).1 600 18) < (l_X8_advance_207 x1 (M) (cntN (fun k => c_X8_advance_207 x1 (l_X8_advance_207 x1 (M) k)) 241)).1 600 15 → vp_in ((l_X8_advance_207 x1 (M) (cntN (fun k => c_X8_advance_207 x1 (l_X8_advance_207 x1 (M) k)) 241)).1 600 18) 240) ∧ (if (b2i (48 ≤ (if ((l_X8_advance_207 x1 (M) (cntN (fun k => c_X8_advance_207 x1 (l_X8_advance_207 x1 (M) k)) 241)).1 600 18) < (l_X8_advance_207 x1 (M) (cntN (fun k => c_X8_advance_207 x1 (l_X8_advance_207 x1 (M) k)) 241)).1 600 15 then (l_X8_advance_207 x1 (M) (cntN (fun k => c_X8_advance_207 x1 (l_X8_advance_207 x1 (M) k)) 241)).1 609 (Int32.toNatClampNeg ((l_X8_advance_207 x1 (M) (cntN (fun k => c_X8_advance_207 x1 (l_X8_advance_207 x1 (M) k)) 241)).1 600 18)) else -1) ∧ (if ((l_X8_advance_207 x1 (M) (cntN (fun k => c_X8_advance_207 x1 (l_X8_advance_207 x1 (M) k)) 241)).1 600 18) < (l_X8_advance_207 x1 (M) (cntN (fun k => c_X8_advance_207 x1 (l_X8_advance_207 x1 (M) k)) 241)).1 600 15 then (l_X8_advance_207 x1 (M) (cntN (fun k => c_X8_advance_207 x1 (l_X8_advance_207 x1 (M) k)) 241)).1 609 (Int32.toNatClampNeg ((l_X8_advance_207 x1 (M) (cntN (fun k => c_X8_advance_207 x1 (l_X8_advance_207 x1 (M) k)) 241)).1 600 18)) else -1) ≤ 57)) = 0 then True else True))
theorem jn_X8_advance_207 {d : Nat} {J : Nat → Lc → List Value → Mm → Prop} {M : Mm}  {x1 : Int32}  (g : Good mX8_advance.1 mX8_advance.2.2.1 mX8_advance.2.2.2.1 (d + 2) J) {rv : Option Value} {M1 : Mm} (hr : Ret mX8_advance.2.2.1 mX8_advance.2.2.2.2 rv M1 J) (hp : p_X8_advance_207 M  x1) (hrv : rv = none) (hmm : M1 = w_X8_advance_207 M  x1) : J 207 [some (.ref 600), some (.int x1)] [] M := by
  unfold p_X8_advance_207 at hp
  obtain ⟨h0, hp⟩ := hp
  have hc_207_3 := h0
  obtain ⟨h0, hp⟩ := hp
  have hq_207_3 := h0
  obtain ⟨h0, hp⟩ := hp
  have hx_207_3 := h0
  refine sh_X8_advance_207 (x1 := x1)  g (σ0 := (M)) (cntN (fun k => c_X8_advance_207 x1 (l_X8_advance_207 x1 (M) k)) 241) hc_207_3 hq_207_3 ?_ 
  refine j_aload_n g (i := 0) (by decide +kernel) rfl ?_
  refine j_gI g f8_125 (by decide +kernel) (by decide +kernel) (by decide +kernel) ?_
  refine j_iconst g (n := 2) (2) (by decide +kernel) rfl ?_
  refine j_icmp_ne g (off := 70) (tgt := 282) (by decide +kernel) (by decide) (fun c212 => ?_) (fun c212 => ?_)
  · rw [if_pos (show ¬ ((l_X8_advance_207 x1 (M) (cntN (fun k => c_X8_advance_207 x1 (l_X8_advance_207 x1 (M) k)) 241)).1 600 16) = (2 : Int32) from c212)] at hp
    refine hr.2.2.2 _ _ _ (by decide +kernel) rfl hrv ?_
    · rw [hmm]; unfold w_X8_advance_207; first | (simp only [if_pos (show ¬ ((l_X8_advance_207 x1 (M) (cntN (fun k => c_X8_advance_207 x1 (l_X8_advance_207 x1 (M) k)) 241)).1 600 16) = (2 : Int32) from c212)]; done) | (simp only [if_pos (show ¬ ((l_X8_advance_207 x1 (M) (cntN (fun k => c_X8_advance_207 x1 (l_X8_advance_207 x1 (M) k)) 241)).1 600 16) = (2 : Int32) from c212)]; rfl) | rfl
  · rw [if_neg (show ¬ (¬ ((l_X8_advance_207 x1 (M) (cntN (fun k => c_X8_advance_207 x1 (l_X8_advance_207 x1 (M) k)) 241)).1 600 16) = (2 : Int32)) from c212)] at hp
    refine j_aload_n g (i := 0) (by decide +kernel) rfl ?_
    refine j_aload_n g (i := 0) (by decide +kernel) rfl ?_
    refine j_gI g f8_108 (by decide +kernel) (by decide +kernel) (by decide +kernel) ?_
    obtain ⟨h0, hp⟩ := hp
    refine j_cV1r g v8_114 ⟨rfl, by decide⟩ (by decide +kernel) (by decide +kernel) (Nat.le_of_ble_eq_true rfl) (rnX8_byteAt h0) ?_
    refine j_cS1r g s8_122 (by decide +kernel) (Nat.le_of_ble_eq_true rfl) (rnX8_isDigit) ?_
    refine j_if_eq g (off := 56) (tgt := 282) (by decide +kernel) (by decide) (fun c226 => ?_) (fun c226 => ?_)
    · rw [if_pos (show (b2i (48 ≤ (if ((l_X8_advance_207 x1 (M) (cntN (fun k => c_X8_advance_207 x1 (l_X8_advance_207 x1 (M) k)) 241)).1 600 18) < (l_X8_advance_207 x1 (M) (cntN (fun k => c_X8_advance_207 x1 (l_X8_advance_207 x1 (M) k)) 241)).1 600 15 then (l_X8_advance_207 x1 (M) (cntN (fun k => c_X8_advance_207 x1 (l_X8_advance_207 x1 (M) k)) 241)).1 609 (Int32.toNatClampNeg ((l_X8_advance_207 x1 (M) (cntN (fun k => c_X8_advance_207 x1 (l_X8_advance_207 x1 (M) k)) 241)).1 600 18)) else -1) ∧ (if ((l_X8_advance_207 x1 (M) (cntN (fun k => c_X8_advance_207 x1 (l_X8_advance_207 x1 (M) k)) 241)).1 600 18) < (l_X8_advance_207 x1 (M) (cntN (fun k => c_X8_advance_207 x1 (l_X8_advance_207 x1 (M) k)) 241)).1 600 15 then (l_X8_advance_207 x1 (M) (cntN (fun k => c_X8_advance_207 x1 (l_X8_advance_207 x1 (M) k)) 241)).1 609 (Int32.toNatClampNeg ((l_X8_advance_207 x1 (M) (cntN (fun k => c_X8_advance_207 x1 (l_X8_advance_207 x1 (M) k)) 241)).1 600 18)) else -1) ≤ 57)) = 0 from c226)] at hp
      refine hr.2.2.2 _ _ _ (by decide +kernel) rfl hrv ?_
      · rw [hmm]; unfold w_X8_advance_207; first | (simp only [if_neg (show ¬ (¬ ((l_X8_advance_207 x1 (M) (cntN (fun k => c_X8_advance_207 x1 (l_X8_advance_207 x1 (M) k)) 241)).1 600 16) = (2 : Int32)) from c212), if_pos (show (b2i (48 ≤ (if ((l_X8_advance_207 x1 (M) (cntN (fun k => c_X8_advance_207 x1 (l_X8_advance_207 x1 (M) k)) 241)).1 600 18) < (l_X8_advance_207 x1 (M) (cntN (fun k => c_X8_advance_207 x1 (l_X8_advance_207 x1 (M) k)) 241)).1 600 15 then (l_X8_advance_207 x1 (M) (cntN (fun k => c_X8_advance_207 x1 (l_X8_advance_207 x1 (M) k)) 241)).1 609 (Int32.toNatClampNeg ((l_X8_advance_207 x1 (M) (cntN (fun k => c_X8_advance_207 x1 (l_X8_advance_207 x1 (M) k)) 241)).1 600 18)) else -1) ∧ (if ((l_X8_advance_207 x1 (M) (cntN (fun k => c_X8_advance_207 x1 (l_X8_advance_207 x1 (M) k)) 241)).1 600 18) < (l_X8_advance_207 x1 (M) (cntN (fun k => c_X8_advance_207 x1 (l_X8_advance_207 x1 (M) k)) 241)).1 600 15 then (l_X8_advance_207 x1 (M) (cntN (fun k => c_X8_advance_207 x1 (l_X8_advance_207 x1 (M) k)) 241)).1 609 (Int32.toNatClampNeg ((l_X8_advance_207 x1 (M) (cntN (fun k => c_X8_advance_207 x1 (l_X8_advance_207 x1 (M) k)) 241)).1 600 18)) else -1) ≤ 57)) = 0 from c226)]; done) | (simp only [if_neg (show ¬ (¬ ((l_X8_advance_207 x1 (M) (cntN (fun k => c_X8_advance_207 x1 (l_X8_advance_207 x1 (M) k)) 241)).1 600 16) = (2 : Int32)) from c212), if_pos (show (b2i (48 ≤ (if ((l_X8_advance_207 x1 (M) (cntN (fun k => c_X8_advance_207 x1 (l_X8_advance_207 x1 (M) k)) 241)).1 600 18) < (l_X8_advance_207 x1 (M) (cntN (fun k => c_X8_advance_207 x1 (l_X8_advance_207 x1 (M) k)) 241)).1 600 15 then (l_X8_advance_207 x1 (M) (cntN (fun k => c_X8_advance_207 x1 (l_X8_advance_207 x1 (M) k)) 241)).1 609 (Int32.toNatClampNeg ((l_X8_advance_207 x1 (M) (cntN (fun k => c_X8_advance_207 x1 (l_X8_advance_207 x1 (M) k)) 241)).1 600 18)) else -1) ∧ (if ((l_X8_advance_207 x1 (M) (cntN (fun k => c_X8_advance_207 x1 (l_X8_advance_207 x1 (M) k)) 241)).1 600 18) < (l_X8_advance_207 x1 (M) (cntN (fun k => c_X8_advance_207 x1 (l_X8_advance_207 x1 (M) k)) 241)).1 600 15 then (l_X8_advance_207 x1 (M) (cntN (fun k => c_X8_advance_207 x1 (l_X8_advance_207 x1 (M) k)) 241)).1 609 (Int32.toNatClampNeg ((l_X8_advance_207 x1 (M) (cntN (fun k => c_X8_advance_207 x1 (l_X8_advance_207 x1 (M) k)) 241)).1 600 18)) else -1) ≤ 57)) = 0 from c226)]; rfl) | rfl
    · rw [if_neg (show ¬ ((b2i (48 ≤ (if ((l_X8_advance_207 x1 (M) (cntN (fun k => c_X8_advance_207 x1 (l_X8_advance_207 x1 (M) k)) 241)).1 600 18) < (l_X8_advance_207 x1 (M) (cntN (fun k => c_X8_advance_207 x1 (l_X8_advance_207 x1 (M) k)) 241)).1 600 15 then (l_X8_advance_207 x1 (M) (cntN (fun k => c_X8_advance_207 x1 (l_X8_advance_207 x1 (M) k)) 241)).1 609 (Int32.toNatClampNeg ((l_X8_advance_207 x1 (M) (cntN (fun k => c_X8_advance_207 x1 (l_X8_advance_207 x1 (M) k)) 241)).1 600 18)) else -1) ∧ (if ((l_X8_advance_207 x1 (M) (cntN (fun k => c_X8_advance_207 x1 (l_X8_advance_207 x1 (M) k)) 241)).1 600 18) < (l_X8_advance_207 x1 (M) (cntN (fun k => c_X8_advance_207 x1 (l_X8_advance_207 x1 (M) k)) 241)).1 600 15 then (l_X8_advance_207 x1 (M) (cntN (fun k => c_X8_advance_207 x1 (l_X8_advance_207 x1 (M) k)) 241)).1 609 (Int32.toNatClampNeg ((l_X8_advance_207 x1 (M) (cntN (fun k => c_X8_advance_207 x1 (l_X8_advance_207 x1 (M) k)) 241)).1 600 18)) else -1) ≤ 57)) = 0) from c226)] at hp
      refine absurd (ci_X8_advance_207.mpr ?_) hx_207_3
      simp only [if_neg (show ¬ (¬ ((l_X8_advance_207 x1 (M) (cntN (fun k => c_X8_advance_207 x1 (l_X8_advance_207 x1 (M) k)) 241)).1 600 16) = (2 : Int32)) from c212), if_neg (show ¬ ((b2i (48 ≤ (if ((l_X8_advance_207 x1 (M) (cntN (fun k => c_X8_advance_207 x1 (l_X8_advance_207 x1 (M) k)) 241)).1 600 18) < (l_X8_advance_207 x1 (M) (cntN (fun k => c_X8_advance_207 x1 (l_X8_advance_207 x1 (M) k)) 241)).1 600 15 then (l_X8_advance_207 x1 (M) (cntN (fun k => c_X8_advance_207 x1 (l_X8_advance_207 x1 (M) k)) 241)).1 609 (Int32.toNatClampNeg ((l_X8_advance_207 x1 (M) (cntN (fun k => c_X8_advance_207 x1 (l_X8_advance_207 x1 (M) k)) 241)).1 600 18)) else -1) ∧ (if ((l_X8_advance_207 x1 (M) (cntN (fun k => c_X8_advance_207 x1 (l_X8_advance_207 x1 (M) k)) 241)).1 600 18) < (l_X8_advance_207 x1 (M) (cntN (fun k => c_X8_advance_207 x1 (l_X8_advance_207 x1 (M) k)) 241)).1 600 15 then (l_X8_advance_207 x1 (M) (cntN (fun k => c_X8_advance_207 x1 (l_X8_advance_207 x1 (M) k)) 241)).1 609 (Int32.toNatClampNeg ((l_X8_advance_207 x1 (M) (cntN (fun k => c_X8_advance_207 x1 (l_X8_advance_207 x1 (M) k)) 241)).1 600 18)) else -1) ≤ 57)) = 0) from c226)]
noncomputable def w_X8_advance_126 (M : Mm)  (x1 : Int32) : Mm := if ¬ ((l_X8_advance_126 x1 (M) (cntN (fun k => c_X8_advance_126 x1 (l_X8_advance_126 x1 (M) k)) 241)).1 600 16) = (1 : Int32) then w_X8_advance_207 (l_X8_advance_126 x1 (M) (cntN (fun k => c_X8_advance_126 x1 (l_X8_advance_126 x1 (M) k)) 241))  x1 else if (b2i (97 ≤ (if ((l_X8_advance_126 x1 (M) (cntN (fun k => c_X8_advance_126 x1 (l_X8_advance_126 x1 (M) k)) 241)).1 600 18) < (l_X8_advance_126 x1 (M) (cntN (fun k => c_X8_advance_126 x1 (l_X8_advance_126 x1 (M) k)) 241)).1 600 15 then (l_X8_advance_126 x1 (M) (cntN (fun k => c_X8_advance_126 x1 (l_X8_advance_126 x1 (M) k)) 241)).1 609 (Int32.toNatClampNeg ((l_X8_advance_126 x1 (M) (cntN (fun k => c_X8_advance_126 x1 (l_X8_advance_126 x1 (M) k)) 241)).1 600 18)) else -1) ∧ (if ((l_X8_advance_126 x1 (M) (cntN (fun k => c_X8_advance_126 x1 (l_X8_advance_126 x1 (M) k)) 241)).1 600 18) < (l_X8_advance_126 x1 (M) (cntN (fun k => c_X8_advance_126 x1 (l_X8_advance_126 x1 (M) k)) 241)).1 600 15 then (l_X8_advance_126 x1 (M) (cntN (fun k => c_X8_advance_126 x1 (l_X8_advance_126 x1 (M) k)) 241)).1 609 (Int32.toNatClampNeg ((l_X8_advance_126 x1 (M) (cntN (fun k => c_X8_advance_126 x1 (l_X8_advance_126 x1 (M) k)) 241)).1 600 18)) else -1) ≤ 122)) = 0 then w_X8_advance_207 (l_X8_advance_126 x1 (M) (cntN (fun k => c_X8_advance_126 x1 (l_X8_advance_126 x1 (M) k)) 241))  x1 else M
def p_X8_advance_126 (M : Mm)  (x1 : Int32) : Prop := (∀ k, k < (cntN (fun k => c_X8_advance_126 x1 (l_X8_advance_126 x1 (M) k)) 241) → c_X8_advance_126 x1 (l_X8_advance_126 x1 (M) k)) ∧ (∀ k, k < (cntN (fun k => c_X8_advance_126 x1 (l_X8_advance_126 x1 (M) k)) 241) → q_X8_advance_126 x1 (l_X8_advance_126 x1 (M) k)) ∧ (¬ c_X8_advance_126 x1 (l_X8_advance_126 x1 (M) (cntN (fun k => c_X8_advance_126 x1 (l_X8_advance_126 x1 (M) k)) 241))) ∧ (if ¬ ((l_X8_advance_126 x1 (M) (cntN (fun k => c_X8_advance_126 x1 (l_X8_advance_126 x1 (M) k)) 241)).1 600 16) = (1 : Int32) then p_X8_advance_207 (l_X8_advance_126 x1 (M) (cntN (fun k => c_X8_advance_126 x1 (l_X8_advance_126 x1 (M) k)) 241))  x1 else (((l_X8_advance_126 x1 (M) (cntN (fun k => c_X8_advance_126 x1 (l_X8_advance_126 x1 (M) k)) 241)).1 600 18) < (l_X8_advance_126 x1 (M) (cntN (fun k => c_X8_advance_126 x1 (l_X8_advance_126 x1 (M) k)) 241)).1 600 15 → vp_in ((l_X8_advance_126 x1 (M) (cntN (fun k => c_X8_advance_126 x1 (l_X8_advance_126 x1 (M) k)) 241)).1 600 18) 240) ∧ (if (b2i (97 ≤ (if ((l_X8_advance_126 x1 (M) (cntN (fun k => c_X8_advance_126 x1 (l_X8_advance_126 x1 (M) k)) 241)).1 600 18) < (l_X8_advance_126 x1 (M) (cntN (fun k => c_X8_advance_126 x1 (l_X8_advance_126 x1 (M) k)) 241)).1 600 15 then (l_X8_advance_126 x1 (M) (cntN (fun k => c_X8_advance_126 x1 (l_X8_advance_126 x1 (M) k)) 241)).1 609 (Int32.toNatClampNeg ((l_X8_advance_126 x1 (M) (cntN (fun k => c_X8_advance_126 x1 (l_X8_advance_126 x1 (M) k)) 241)).1 600 18)) else -1) ∧ (if ((l_X8_advance_126 x1 (M) (cntN (fun k => c_X8_advance_126 x1 (l_X8_advance_126 x1 (M) k)) 241)).1 600 18) < (l_X8_advance_126 x1 (M) (cntN (fun k => c_X8_advance_126 x1 (l_X8_advance_126 x1 (M) k)) 241)).1 600 15 then (l_X8_advance_126 x1 (M) (cntN (fun k => c_X8_advance_126 x1 (l_X8_advance_126 x1 (M) k)) 241)).1 609 (Int32.toNatClampNeg ((l_X8_advance_126 x1 (M) (cntN (fun k => c_X8_advance_126 x1 (l_X8_advance_126 x1 (M) k)) 241)).1 600 18)) else -1) ≤ 122)) = 0 then p_X8_advance_207 (l_X8_advance_126 x1 (M) (cntN (fun k => c_X8_advance_126 x1 (l_X8_advance_126 x1 (M) k)) 241))  x1 else True))
theorem jn_X8_advance_126 {d : Nat} {J : Nat → Lc → List Value → Mm → Prop} {M : Mm}  {x1 : Int32}  (g : Good mX8_advance.1 mX8_advance.2.2.1 mX8_advance.2.2.2.1 (d + 2) J) {rv : Option Value} {M1 : Mm} (hr : Ret mX8_advance.2.2.1 mX8_advance.2.2.2.2 rv M1 J) (hp : p_X8_advance_126 M  x1) (hrv : rv = none) (hmm : M1 = w_X8_advance_126 M  x1) : J 126 [some (.ref 600), some (.int x1)] [] M := by
  unfold p_X8_advance_126 at hp
  obtain ⟨h0, hp⟩ := hp
  have hc_126_2 := h0
  obtain ⟨h0, hp⟩ := hp
  have hq_126_2 := h0
  obtain ⟨h0, hp⟩ := hp
  have hx_126_2 := h0
  refine sh_X8_advance_126 (x1 := x1)  g (σ0 := (M)) (cntN (fun k => c_X8_advance_126 x1 (l_X8_advance_126 x1 (M) k)) 241) hc_126_2 hq_126_2 ?_ 
  refine j_aload_n g (i := 0) (by decide +kernel) rfl ?_
  refine j_gI g f8_125 (by decide +kernel) (by decide +kernel) (by decide +kernel) ?_
  refine j_iconst g (n := 1) (1) (by decide +kernel) rfl ?_
  refine j_icmp_ne g (off := 76) (tgt := 207) (by decide +kernel) (by decide) (fun c131 => ?_) (fun c131 => ?_)
  · rw [if_pos (show ¬ ((l_X8_advance_126 x1 (M) (cntN (fun k => c_X8_advance_126 x1 (l_X8_advance_126 x1 (M) k)) 241)).1 600 16) = (1 : Int32) from c131)] at hp
    refine jn_X8_advance_207  g hr hp ?_ ?_ 
    · exact hrv
    · rw [hmm]; unfold w_X8_advance_126; first | (simp only [if_pos (show ¬ ((l_X8_advance_126 x1 (M) (cntN (fun k => c_X8_advance_126 x1 (l_X8_advance_126 x1 (M) k)) 241)).1 600 16) = (1 : Int32) from c131)]; done) | (simp only [if_pos (show ¬ ((l_X8_advance_126 x1 (M) (cntN (fun k => c_X8_advance_126 x1 (l_X8_advance_126 x1 (M) k)) 241)).1 600 16) = (1 : Int32) from c131)]; rfl) | rfl
  · rw [if_neg (show ¬ (¬ ((l_X8_advance_126 x1 (M) (cntN (fun k => c_X8_advance_126 x1 (l_X8_advance_126 x1 (M) k)) 241)).1 600 16) = (1 : Int32)) from c131)] at hp
    refine j_aload_n g (i := 0) (by decide +kernel) rfl ?_
    refine j_aload_n g (i := 0) (by decide +kernel) rfl ?_
    refine j_gI g f8_108 (by decide +kernel) (by decide +kernel) (by decide +kernel) ?_
    obtain ⟨h0, hp⟩ := hp
    refine j_cV1r g v8_114 ⟨rfl, by decide⟩ (by decide +kernel) (by decide +kernel) (Nat.le_of_ble_eq_true rfl) (rnX8_byteAt h0) ?_
    refine j_cS1r g s8_118 (by decide +kernel) (Nat.le_of_ble_eq_true rfl) (rnX8_isLetter) ?_
    refine j_if_eq g (off := 62) (tgt := 207) (by decide +kernel) (by decide) (fun c145 => ?_) (fun c145 => ?_)
    · rw [if_pos (show (b2i (97 ≤ (if ((l_X8_advance_126 x1 (M) (cntN (fun k => c_X8_advance_126 x1 (l_X8_advance_126 x1 (M) k)) 241)).1 600 18) < (l_X8_advance_126 x1 (M) (cntN (fun k => c_X8_advance_126 x1 (l_X8_advance_126 x1 (M) k)) 241)).1 600 15 then (l_X8_advance_126 x1 (M) (cntN (fun k => c_X8_advance_126 x1 (l_X8_advance_126 x1 (M) k)) 241)).1 609 (Int32.toNatClampNeg ((l_X8_advance_126 x1 (M) (cntN (fun k => c_X8_advance_126 x1 (l_X8_advance_126 x1 (M) k)) 241)).1 600 18)) else -1) ∧ (if ((l_X8_advance_126 x1 (M) (cntN (fun k => c_X8_advance_126 x1 (l_X8_advance_126 x1 (M) k)) 241)).1 600 18) < (l_X8_advance_126 x1 (M) (cntN (fun k => c_X8_advance_126 x1 (l_X8_advance_126 x1 (M) k)) 241)).1 600 15 then (l_X8_advance_126 x1 (M) (cntN (fun k => c_X8_advance_126 x1 (l_X8_advance_126 x1 (M) k)) 241)).1 609 (Int32.toNatClampNeg ((l_X8_advance_126 x1 (M) (cntN (fun k => c_X8_advance_126 x1 (l_X8_advance_126 x1 (M) k)) 241)).1 600 18)) else -1) ≤ 122)) = 0 from c145)] at hp
      refine jn_X8_advance_207  g hr hp ?_ ?_ 
      · exact hrv
      · rw [hmm]; unfold w_X8_advance_126; first | (simp only [if_neg (show ¬ (¬ ((l_X8_advance_126 x1 (M) (cntN (fun k => c_X8_advance_126 x1 (l_X8_advance_126 x1 (M) k)) 241)).1 600 16) = (1 : Int32)) from c131), if_pos (show (b2i (97 ≤ (if ((l_X8_advance_126 x1 (M) (cntN (fun k => c_X8_advance_126 x1 (l_X8_advance_126 x1 (M) k)) 241)).1 600 18) < (l_X8_advance_126 x1 (M) (cntN (fun k => c_X8_advance_126 x1 (l_X8_advance_126 x1 (M) k)) 241)).1 600 15 then (l_X8_advance_126 x1 (M) (cntN (fun k => c_X8_advance_126 x1 (l_X8_advance_126 x1 (M) k)) 241)).1 609 (Int32.toNatClampNeg ((l_X8_advance_126 x1 (M) (cntN (fun k => c_X8_advance_126 x1 (l_X8_advance_126 x1 (M) k)) 241)).1 600 18)) else -1) ∧ (if ((l_X8_advance_126 x1 (M) (cntN (fun k => c_X8_advance_126 x1 (l_X8_advance_126 x1 (M) k)) 241)).1 600 18) < (l_X8_advance_126 x1 (M) (cntN (fun k => c_X8_advance_126 x1 (l_X8_advance_126 x1 (M) k)) 241)).1 600 15 then (l_X8_advance_126 x1 (M) (cntN (fun k => c_X8_advance_126 x1 (l_X8_advance_126 x1 (M) k)) 241)).1 609 (Int32.toNatClampNeg ((l_X8_advance_126 x1 (M) (cntN (fun k => c_X8_advance_126 x1 (l_X8_advance_126 x1 (M) k)) 241)).1 600 18)) else -1) ≤ 122)) = 0 from c145)]; done) | (simp only [if_neg (show ¬ (¬ ((l_X8_advance_126 x1 (M) (cntN (fun k => c_X8_advance_126 x1 (l_X8_advance_126 x1 (M) k)) 241)).1 600 16) = (1 : Int32)) from c131), if_pos (show (b2i (97 ≤ (if ((l_X8_advance_126 x1 (M) (cntN (fun k => c_X8_advance_126 x1 (l_X8_advance_126 x1 (M) k)) 241)).1 600 18) < (l_X8_advance_126 x1 (M) (cntN (fun k => c_X8_advance_126 x1 (l_X8_advance_126 x1 (M) k)) 241)).1 600 15 then (l_X8_advance_126 x1 (M) (cntN (fun k => c_X8_advance_126 x1 (l_X8_advance_126 x1 (M) k)) 241)).1 609 (Int32.toNatClampNeg ((l_X8_advance_126 x1 (M) (cntN (fun k => c_X8_advance_126 x1 (l_X8_advance_126 x1 (M) k)) 241)).1 600 18)) else -1) ∧ (if ((l_X8_advance_126 x1 (M) (cntN (fun k => c_X8_advance_126 x1 (l_X8_advance_126 x1 (M) k)) 241)).1 600 18) < (l_X8_advance_126 x1 (M) (cntN (fun k => c_X8_advance_126 x1 (l_X8_advance_126 x1 (M) k)) 241)).1 600 15 then (l_X8_advance_126 x1 (M) (cntN (fun k => c_X8_advance_126 x1 (l_X8_advance_126 x1 (M) k)) 241)).1 609 (Int32.toNatClampNeg ((l_X8_advance_126 x1 (M) (cntN (fun k => c_X8_advance_126 x1 (l_X8_advance_126 x1 (M) k)) 241)).1 600 18)) else -1) ≤ 122)) = 0 from c145)]; rfl) | rfl
    · rw [if_neg (show ¬ ((b2i (97 ≤ (if ((l_X8_advance_126 x1 (M) (cntN (fun k => c_X8_advance_126 x1 (l_X8_advance_126 x1 (M) k)) 241)).1 600 18) < (l_X8_advance_126 x1 (M) (cntN (fun k => c_X8_advance_126 x1 (l_X8_advance_126 x1 (M) k)) 241)).1 600 15 then (l_X8_advance_126 x1 (M) (cntN (fun k => c_X8_advance_126 x1 (l_X8_advance_126 x1 (M) k)) 241)).1 609 (Int32.toNatClampNeg ((l_X8_advance_126 x1 (M) (cntN (fun k => c_X8_advance_126 x1 (l_X8_advance_126 x1 (M) k)) 241)).1 600 18)) else -1) ∧ (if ((l_X8_advance_126 x1 (M) (cntN (fun k => c_X8_advance_126 x1 (l_X8_advance_126 x1 (M) k)) 241)).1 600 18) < (l_X8_advance_126 x1 (M) (cntN (fun k => c_X8_advance_126 x1 (l_X8_advance_126 x1 (M) k)) 241)).1 600 15 then (l_X8_advance_126 x1 (M) (cntN (fun k => c_X8_advance_126 x1 (l_X8_advance_126 x1 (M) k)) 241)).1 609 (Int32.toNatClampNeg ((l_X8_advance_126 x1 (M) (cntN (fun k => c_X8_advance_126 x1 (l_X8_advance_126 x1 (M) k)) 241)).1 600 18)) else -1) ≤ 122)) = 0) from c145)] at hp
      refine absurd (ci_X8_advance_126.mpr ?_) hx_126_2
      simp only [if_neg (show ¬ (¬ ((l_X8_advance_126 x1 (M) (cntN (fun k => c_X8_advance_126 x1 (l_X8_advance_126 x1 (M) k)) 241)).1 600 16) = (1 : Int32)) from c131), if_neg (show ¬ ((b2i (97 ≤ (if ((l_X8_advance_126 x1 (M) (cntN (fun k => c_X8_advance_126 x1 (l_X8_advance_126 x1 (M) k)) 241)).1 600 18) < (l_X8_advance_126 x1 (M) (cntN (fun k => c_X8_advance_126 x1 (l_X8_advance_126 x1 (M) k)) 241)).1 600 15 then (l_X8_advance_126 x1 (M) (cntN (fun k => c_X8_advance_126 x1 (l_X8_advance_126 x1 (M) k)) 241)).1 609 (Int32.toNatClampNeg ((l_X8_advance_126 x1 (M) (cntN (fun k => c_X8_advance_126 x1 (l_X8_advance_126 x1 (M) k)) 241)).1 600 18)) else -1) ∧ (if ((l_X8_advance_126 x1 (M) (cntN (fun k => c_X8_advance_126 x1 (l_X8_advance_126 x1 (M) k)) 241)).1 600 18) < (l_X8_advance_126 x1 (M) (cntN (fun k => c_X8_advance_126 x1 (l_X8_advance_126 x1 (M) k)) 241)).1 600 15 then (l_X8_advance_126 x1 (M) (cntN (fun k => c_X8_advance_126 x1 (l_X8_advance_126 x1 (M) k)) 241)).1 609 (Int32.toNatClampNeg ((l_X8_advance_126 x1 (M) (cntN (fun k => c_X8_advance_126 x1 (l_X8_advance_126 x1 (M) k)) 241)).1 600 18)) else -1) ≤ 122)) = 0) from c145)]
noncomputable def w_X8_advance_108 (M : Mm)  (x1 : Int32) : Mm := if ¬ (M.1 600 16) = (3 : Int32) then w_X8_advance_126 M  x1 else w_X8_advance_126 (wi M 600 18 ((M.1 600 18) + 1))  x1
def p_X8_advance_108 (M : Mm)  (x1 : Int32) : Prop := (if ¬ (M.1 600 16) = (3 : Int32) then p_X8_advance_126 M  x1 else p_X8_advance_126 (wi M 600 18 ((M.1 600 18) + 1))  x1)
theorem jn_X8_advance_108 {d : Nat} {J : Nat → Lc → List Value → Mm → Prop} {M : Mm}  {x1 : Int32}  (g : Good mX8_advance.1 mX8_advance.2.2.1 mX8_advance.2.2.2.1 (d + 2) J) {rv : Option Value} {M1 : Mm} (hr : Ret mX8_advance.2.2.1 mX8_advance.2.2.2.2 rv M1 J) (hp : p_X8_advance_108 M  x1) (hrv : rv = none) (hmm : M1 = w_X8_advance_108 M  x1) : J 108 [some (.ref 600), some (.int x1)] [] M := by
  unfold p_X8_advance_108 at hp
  refine j_aload_n g (i := 0) (by decide +kernel) rfl ?_
  refine j_gI g f8_125 (by decide +kernel) (by decide +kernel) (by decide +kernel) ?_
  refine j_iconst g (n := 3) (3) (by decide +kernel) rfl ?_
  refine j_icmp_ne g (off := 13) (tgt := 126) (by decide +kernel) (by decide) (fun c113 => ?_) (fun c113 => ?_)
  · rw [if_pos (show ¬ (M.1 600 16) = (3 : Int32) from c113)] at hp
    refine jn_X8_advance_126  g hr hp ?_ ?_ 
    · exact hrv
    · rw [hmm]; unfold w_X8_advance_108; first | (simp only [if_pos (show ¬ (M.1 600 16) = (3 : Int32) from c113)]; done) | (simp only [if_pos (show ¬ (M.1 600 16) = (3 : Int32) from c113)]; rfl) | rfl
  · rw [if_neg (show ¬ (¬ (M.1 600 16) = (3 : Int32)) from c113)] at hp
    refine j_aload_n g (i := 0) (by decide +kernel) rfl ?_
    refine j_dup g (by decide +kernel) rfl ?_
    refine j_gI g f8_108 (by decide +kernel) (by decide +kernel) (by decide +kernel) ?_
    refine j_iconst g (n := 1) (1) (by decide +kernel) rfl ?_
    refine j_iadd g (by decide +kernel) ?_
    refine j_pI g f8_108 (fun q h => by cases h; rfl) (by decide +kernel) (by decide +kernel) (by decide +kernel) ?_
    refine jn_X8_advance_126  g hr hp ?_ ?_ 
    · exact hrv
    · rw [hmm]; unfold w_X8_advance_108; first | (simp only [if_neg (show ¬ (¬ (M.1 600 16) = (3 : Int32)) from c113)]; done) | (simp only [if_neg (show ¬ (¬ (M.1 600 16) = (3 : Int32)) from c113)]; rfl) | rfl
noncomputable def w_X8_advance_86 (M : Mm)  (x1 : Int32) : Mm := if ¬ ((wl M 600 19 0).1 600 16) = (2 : Int32) then w_X8_advance_108 (wi (wl M 600 19 0) 600 20 x1)  x1 else w_X8_advance_108 (wi (wl M 600 19 0) 600 20 0)  x1
def p_X8_advance_86 (M : Mm)  (x1 : Int32) : Prop := (if ¬ ((wl M 600 19 0).1 600 16) = (2 : Int32) then p_X8_advance_108 (wi (wl M 600 19 0) 600 20 x1)  x1 else p_X8_advance_108 (wi (wl M 600 19 0) 600 20 0)  x1)
theorem jn_X8_advance_86 {d : Nat} {J : Nat → Lc → List Value → Mm → Prop} {M : Mm}  {x1 : Int32}  (g : Good mX8_advance.1 mX8_advance.2.2.1 mX8_advance.2.2.2.1 (d + 2) J) {rv : Option Value} {M1 : Mm} (hr : Ret mX8_advance.2.2.1 mX8_advance.2.2.2.2 rv M1 J) (hp : p_X8_advance_86 M  x1) (hrv : rv = none) (hmm : M1 = w_X8_advance_86 M  x1) : J 86 [some (.ref 600), some (.int x1)] [] M := by
  unfold p_X8_advance_86 at hp
  refine j_aload_n g (i := 0) (by decide +kernel) rfl ?_
  refine j_lconst g (n := 0) (0) (by decide +kernel) rfl ?_
  refine j_pJ g f8_128 (fun q h => by cases h; rfl) (by decide +kernel) (by decide +kernel) (by decide +kernel) ?_
  refine j_aload_n g (i := 0) (by decide +kernel) rfl ?_
  refine j_aload_n g (i := 0) (by decide +kernel) rfl ?_
  refine j_gI g f8_125 (by decide +kernel) (by decide +kernel) (by decide +kernel) ?_
  refine j_iconst g (n := 2) (2) (by decide +kernel) rfl ?_
  refine j_icmp_ne g (off := 7) (tgt := 104) (by decide +kernel) (by decide) (fun c97 => ?_) (fun c97 => ?_)
  · rw [if_pos (show ¬ ((wl M 600 19 0).1 600 16) = (2 : Int32) from c97)] at hp
    refine j_iload_n g (i := 1) (by decide +kernel) rfl ?_
    refine j_pI g f8_132 (fun q h => by cases h; rfl) (by decide +kernel) (by decide +kernel) (by decide +kernel) ?_
    refine jn_X8_advance_108  g hr hp ?_ ?_ 
    · exact hrv
    · rw [hmm]; unfold w_X8_advance_86; first | (simp only [if_pos (show ¬ ((wl M 600 19 0).1 600 16) = (2 : Int32) from c97)]; done) | (simp only [if_pos (show ¬ ((wl M 600 19 0).1 600 16) = (2 : Int32) from c97)]; rfl) | rfl
  · rw [if_neg (show ¬ (¬ ((wl M 600 19 0).1 600 16) = (2 : Int32)) from c97)] at hp
    refine j_iconst g (n := 0) (0) (by decide +kernel) rfl ?_
    refine j_goto g (off := 4) (tgt := 105) (by decide +kernel) (by decide) ?_
    refine j_pI g f8_132 (fun q h => by cases h; rfl) (by decide +kernel) (by decide +kernel) (by decide +kernel) ?_
    refine jn_X8_advance_108  g hr hp ?_ ?_ 
    · exact hrv
    · rw [hmm]; unfold w_X8_advance_86; first | (simp only [if_neg (show ¬ (¬ ((wl M 600 19 0).1 600 16) = (2 : Int32)) from c97)]; done) | (simp only [if_neg (show ¬ (¬ ((wl M 600 19 0).1 600 16) = (2 : Int32)) from c97)]; rfl) | rfl
noncomputable def w_X8_advance_34 (M : Mm)   : Mm := if 0 ≤ (if ((wi M 600 18 (M.1 600 17)).1 600 17) < (wi M 600 18 (M.1 600 17)).1 600 15 then (wi M 600 18 (M.1 600 17)).1 609 (Int32.toNatClampNeg ((wi M 600 18 (M.1 600 17)).1 600 17)) else -1) then (if (b2i (97 ≤ (if ((wi M 600 18 (M.1 600 17)).1 600 17) < (wi M 600 18 (M.1 600 17)).1 600 15 then (wi M 600 18 (M.1 600 17)).1 609 (Int32.toNatClampNeg ((wi M 600 18 (M.1 600 17)).1 600 17)) else -1) ∧ (if ((wi M 600 18 (M.1 600 17)).1 600 17) < (wi M 600 18 (M.1 600 17)).1 600 15 then (wi M 600 18 (M.1 600 17)).1 609 (Int32.toNatClampNeg ((wi M 600 18 (M.1 600 17)).1 600 17)) else -1) ≤ 122)) = 0 then (if (b2i (48 ≤ (if ((wi M 600 18 (M.1 600 17)).1 600 17) < (wi M 600 18 (M.1 600 17)).1 600 15 then (wi M 600 18 (M.1 600 17)).1 609 (Int32.toNatClampNeg ((wi M 600 18 (M.1 600 17)).1 600 17)) else -1) ∧ (if ((wi M 600 18 (M.1 600 17)).1 600 17) < (wi M 600 18 (M.1 600 17)).1 600 15 then (wi M 600 18 (M.1 600 17)).1 609 (Int32.toNatClampNeg ((wi M 600 18 (M.1 600 17)).1 600 17)) else -1) ≤ 57)) = 0 then w_X8_advance_86 (wi (wi M 600 18 (M.1 600 17)) 600 16 3)  (if ((wi M 600 18 (M.1 600 17)).1 600 17) < (wi M 600 18 (M.1 600 17)).1 600 15 then (wi M 600 18 (M.1 600 17)).1 609 (Int32.toNatClampNeg ((wi M 600 18 (M.1 600 17)).1 600 17)) else -1) else w_X8_advance_86 (wi (wi M 600 18 (M.1 600 17)) 600 16 2)  (if ((wi M 600 18 (M.1 600 17)).1 600 17) < (wi M 600 18 (M.1 600 17)).1 600 15 then (wi M 600 18 (M.1 600 17)).1 609 (Int32.toNatClampNeg ((wi M 600 18 (M.1 600 17)).1 600 17)) else -1)) else w_X8_advance_86 (wi (wi M 600 18 (M.1 600 17)) 600 16 1)  (if ((wi M 600 18 (M.1 600 17)).1 600 17) < (wi M 600 18 (M.1 600 17)).1 600 15 then (wi M 600 18 (M.1 600 17)).1 609 (Int32.toNatClampNeg ((wi M 600 18 (M.1 600 17)).1 600 17)) else -1)) else w_X8_advance_86 (wi (wi M 600 18 (M.1 600 17)) 600 16 0)  (if ((wi M 600 18 (M.1 600 17)).1 600 17) < (wi M 600 18 (M.1 600 17)).1 600 15 then (wi M 600 18 (M.1 600 17)).1 609 (Int32.toNatClampNeg ((wi M 600 18 (M.1 600 17)).1 600 17)) else -1)
def p_X8_advance_34 (M : Mm)   : Prop := (((wi M 600 18 (M.1 600 17)).1 600 17) < (wi M 600 18 (M.1 600 17)).1 600 15 → vp_in ((wi M 600 18 (M.1 600 17)).1 600 17) 240) ∧ (if 0 ≤ (if ((wi M 600 18 (M.1 600 17)).1 600 17) < (wi M 600 18 (M.1 600 17)).1 600 15 then (wi M 600 18 (M.1 600 17)).1 609 (Int32.toNatClampNeg ((wi M 600 18 (M.1 600 17)).1 600 17)) else -1) then (if (b2i (97 ≤ (if ((wi M 600 18 (M.1 600 17)).1 600 17) < (wi M 600 18 (M.1 600 17)).1 600 15 then (wi M 600 18 (M.1 600 17)).1 609 (Int32.toNatClampNeg ((wi M 600 18 (M.1 600 17)).1 600 17)) else -1) ∧ (if ((wi M 600 18 (M.1 600 17)).1 600 17) < (wi M 600 18 (M.1 600 17)).1 600 15 then (wi M 600 18 (M.1 600 17)).1 609 (Int32.toNatClampNeg ((wi M 600 18 (M.1 600 17)).1 600 17)) else -1) ≤ 122)) = 0 then (if (b2i (48 ≤ (if ((wi M 600 18 (M.1 600 17)).1 600 17) < (wi M 600 18 (M.1 600 17)).1 600 15 then (wi M 600 18 (M.1 600 17)).1 609 (Int32.toNatClampNeg ((wi M 600 18 (M.1 600 17)).1 600 17)) else -1) ∧ (if ((wi M 600 18 (M.1 600 17)).1 600 17) < (wi M 600 18 (M.1 600 17)).1 600 15 then (wi M 600 18 (M.1 600 17)).1 609 (Int32.toNatClampNeg ((wi M 600 18 (M.1 600 17)).1 600 17)) else -1) ≤ 57)) = 0 then p_X8_advance_86 (wi (wi M 600 18 (M.1 600 17)) 600 16 3)  (if ((wi M 600 18 (M.1 600 17)).1 600 17) < (wi M 600 18 (M.1 600 17)).1 600 15 then (wi M 600 18 (M.1 600 17)).1 609 (Int32.toNatClampNeg ((wi M 600 18 (M.1 600 17)).1 600 17)) else -1) else p_X8_advance_86 (wi (wi M 600 18 (M.1 600 17)) 600 16 2)  (if ((wi M 600 18 (M.1 600 17)).1 600 17) < (wi M 600 18 (M.1 600 17)).1 600 15 then (wi M 600 18 (M.1 600 17)).1 609 (Int32.toNatClampNeg ((wi M 600 18 (M.1 600 17)).1 600 17)) else -1)) else p_X8_advance_86 (wi (wi M 600 18 (M.1 600 17)) 600 16 1)  (if ((wi M 600 18 (M.1 600 17)).1 600 17) < (wi M 600 18 (M.1 600 17)).1 600 15 then (wi M 600 18 (M.1 600 17)).1 609 (Int32.toNatClampNeg ((wi M 600 18 (M.1 600 17)).1 600 17)) else -1)) else p_X8_advance_86 (wi (wi M 600 18 (M.1 600 17)) 600 16 0)  (if ((wi M 600 18 (M.1 600 17)).1 600 17) < (wi M 600 18 (M.1 600 17)).1 600 15 then (wi M 600 18 (M.1 600 17)).1 609 (Int32.toNatClampNeg ((wi M 600 18 (M.1 600 17)).1 600 17)) else -1))
theorem jn_X8_advance_34 {d : Nat} {J : Nat → Lc → List Value → Mm → Prop} {M : Mm}    (g : Good mX8_advance.1 mX8_advance.2.2.1 mX8_advance.2.2.2.1 (d + 2) J) {rv : Option Value} {M1 : Mm} (hr : Ret mX8_advance.2.2.1 mX8_advance.2.2.2.2 rv M1 J) (hp : p_X8_advance_34 M  ) (hrv : rv = none) (hmm : M1 = w_X8_advance_34 M  ) : J 34 [some (.ref 600), none] [] M := by
  unfold p_X8_advance_34 at hp
  refine j_aload_n g (i := 0) (by decide +kernel) rfl ?_
  refine j_aload_n g (i := 0) (by decide +kernel) rfl ?_
  refine j_gI g f8_111 (by decide +kernel) (by decide +kernel) (by decide +kernel) ?_
  refine j_pI g f8_108 (fun q h => by cases h; rfl) (by decide +kernel) (by decide +kernel) (by decide +kernel) ?_
  refine j_aload_n g (i := 0) (by decide +kernel) rfl ?_
  refine j_aload_n g (i := 0) (by decide +kernel) rfl ?_
  refine j_gI g f8_111 (by decide +kernel) (by decide +kernel) (by decide +kernel) ?_
  obtain ⟨h0, hp⟩ := hp
  refine j_cV1r g v8_114 ⟨rfl, by decide⟩ (by decide +kernel) (by decide +kernel) (Nat.le_of_ble_eq_true rfl) (rnX8_byteAt h0) ?_
  refine j_istore_n g (i := 1) (by decide +kernel) (by decide) ?_
  dsimp only [stL, clL, hdL]
  refine j_aload_n g (i := 0) (by decide +kernel) rfl ?_
  refine j_iload_n g (i := 1) (by decide +kernel) rfl ?_
  refine j_if_ge g (off := 7) (tgt := 60) (by decide +kernel) (by decide) (fun c53 => ?_) (fun c53 => ?_)
  · rw [if_pos (show 0 ≤ (if ((wi M 600 18 (M.1 600 17)).1 600 17) < (wi M 600 18 (M.1 600 17)).1 600 15 then (wi M 600 18 (M.1 600 17)).1 609 (Int32.toNatClampNeg ((wi M 600 18 (M.1 600 17)).1 600 17)) else -1) from c53)] at hp
    refine j_iload_n g (i := 1) (by decide +kernel) rfl ?_
    refine j_cS1r g s8_118 (by decide +kernel) (Nat.le_of_ble_eq_true rfl) (rnX8_isLetter) ?_
    refine j_if_eq g (off := 7) (tgt := 71) (by decide +kernel) (by decide) (fun c64 => ?_) (fun c64 => ?_)
    · rw [if_pos (show (b2i (97 ≤ (if ((wi M 600 18 (M.1 600 17)).1 600 17) < (wi M 600 18 (M.1 600 17)).1 600 15 then (wi M 600 18 (M.1 600 17)).1 609 (Int32.toNatClampNeg ((wi M 600 18 (M.1 600 17)).1 600 17)) else -1) ∧ (if ((wi M 600 18 (M.1 600 17)).1 600 17) < (wi M 600 18 (M.1 600 17)).1 600 15 then (wi M 600 18 (M.1 600 17)).1 609 (Int32.toNatClampNeg ((wi M 600 18 (M.1 600 17)).1 600 17)) else -1) ≤ 122)) = 0 from c64)] at hp
      refine j_iload_n g (i := 1) (by decide +kernel) rfl ?_
      refine j_cS1r g s8_122 (by decide +kernel) (Nat.le_of_ble_eq_true rfl) (rnX8_isDigit) ?_
      refine j_if_eq g (off := 7) (tgt := 82) (by decide +kernel) (by decide) (fun c75 => ?_) (fun c75 => ?_)
      · rw [if_pos (show (b2i (48 ≤ (if ((wi M 600 18 (M.1 600 17)).1 600 17) < (wi M 600 18 (M.1 600 17)).1 600 15 then (wi M 600 18 (M.1 600 17)).1 609 (Int32.toNatClampNeg ((wi M 600 18 (M.1 600 17)).1 600 17)) else -1) ∧ (if ((wi M 600 18 (M.1 600 17)).1 600 17) < (wi M 600 18 (M.1 600 17)).1 600 15 then (wi M 600 18 (M.1 600 17)).1 609 (Int32.toNatClampNeg ((wi M 600 18 (M.1 600 17)).1 600 17)) else -1) ≤ 57)) = 0 from c75)] at hp
        refine j_iconst g (n := 3) (3) (by decide +kernel) rfl ?_
        refine j_pI g f8_125 (fun q h => by cases h; rfl) (by decide +kernel) (by decide +kernel) (by decide +kernel) ?_
        refine jn_X8_advance_86  g hr hp ?_ ?_ 
        · exact hrv
        · rw [hmm]; unfold w_X8_advance_34; first | (simp only [if_pos (show 0 ≤ (if ((wi M 600 18 (M.1 600 17)).1 600 17) < (wi M 600 18 (M.1 600 17)).1 600 15 then (wi M 600 18 (M.1 600 17)).1 609 (Int32.toNatClampNeg ((wi M 600 18 (M.1 600 17)).1 600 17)) else -1) from c53), if_pos (show (b2i (97 ≤ (if ((wi M 600 18 (M.1 600 17)).1 600 17) < (wi M 600 18 (M.1 600 17)).1 600 15 then (wi M 600 18 (M.1 600 17)).1 609 (Int32.toNatClampNeg ((wi M 600 18 (M.1 600 17)).1 600 17)) else -1) ∧ (if ((wi M 600 18 (M.1 600 17)).1 600 17) < (wi M 600 18 (M.1 600 17)).1 600 15 then (wi M 600 18 (M.1 600 17)).1 609 (Int32.toNatClampNeg ((wi M 600 18 (M.1 600 17)).1 600 17)) else -1) ≤ 122)) = 0 from c64), if_pos (show (b2i (48 ≤ (if ((wi M 600 18 (M.1 600 17)).1 600 17) < (wi M 600 18 (M.1 600 17)).1 600 15 then (wi M 600 18 (M.1 600 17)).1 609 (Int32.toNatClampNeg ((wi M 600 18 (M.1 600 17)).1 600 17)) else -1) ∧ (if ((wi M 600 18 (M.1 600 17)).1 600 17) < (wi M 600 18 (M.1 600 17)).1 600 15 then (wi M 600 18 (M.1 600 17)).1 609 (Int32.toNatClampNeg ((wi M 600 18 (M.1 600 17)).1 600 17)) else -1) ≤ 57)) = 0 from c75)]; done) | (simp only [if_pos (show 0 ≤ (if ((wi M 600 18 (M.1 600 17)).1 600 17) < (wi M 600 18 (M.1 600 17)).1 600 15 then (wi M 600 18 (M.1 600 17)).1 609 (Int32.toNatClampNeg ((wi M 600 18 (M.1 600 17)).1 600 17)) else -1) from c53), if_pos (show (b2i (97 ≤ (if ((wi M 600 18 (M.1 600 17)).1 600 17) < (wi M 600 18 (M.1 600 17)).1 600 15 then (wi M 600 18 (M.1 600 17)).1 609 (Int32.toNatClampNeg ((wi M 600 18 (M.1 600 17)).1 600 17)) else -1) ∧ (if ((wi M 600 18 (M.1 600 17)).1 600 17) < (wi M 600 18 (M.1 600 17)).1 600 15 then (wi M 600 18 (M.1 600 17)).1 609 (Int32.toNatClampNeg ((wi M 600 18 (M.1 600 17)).1 600 17)) else -1) ≤ 122)) = 0 from c64), if_pos (show (b2i (48 ≤ (if ((wi M 600 18 (M.1 600 17)).1 600 17) < (wi M 600 18 (M.1 600 17)).1 600 15 then (wi M 600 18 (M.1 600 17)).1 609 (Int32.toNatClampNeg ((wi M 600 18 (M.1 600 17)).1 600 17)) else -1) ∧ (if ((wi M 600 18 (M.1 600 17)).1 600 17) < (wi M 600 18 (M.1 600 17)).1 600 15 then (wi M 600 18 (M.1 600 17)).1 609 (Int32.toNatClampNeg ((wi M 600 18 (M.1 600 17)).1 600 17)) else -1) ≤ 57)) = 0 from c75)]; rfl) | rfl
      · rw [if_neg (show ¬ ((b2i (48 ≤ (if ((wi M 600 18 (M.1 600 17)).1 600 17) < (wi M 600 18 (M.1 600 17)).1 600 15 then (wi M 600 18 (M.1 600 17)).1 609 (Int32.toNatClampNeg ((wi M 600 18 (M.1 600 17)).1 600 17)) else -1) ∧ (if ((wi M 600 18 (M.1 600 17)).1 600 17) < (wi M 600 18 (M.1 600 17)).1 600 15 then (wi M 600 18 (M.1 600 17)).1 609 (Int32.toNatClampNeg ((wi M 600 18 (M.1 600 17)).1 600 17)) else -1) ≤ 57)) = 0) from c75)] at hp
        refine j_iconst g (n := 2) (2) (by decide +kernel) rfl ?_
        refine j_goto g (off := 4) (tgt := 83) (by decide +kernel) (by decide) ?_
        refine j_pI g f8_125 (fun q h => by cases h; rfl) (by decide +kernel) (by decide +kernel) (by decide +kernel) ?_
        refine jn_X8_advance_86  g hr hp ?_ ?_ 
        · exact hrv
        · rw [hmm]; unfold w_X8_advance_34; first | (simp only [if_pos (show 0 ≤ (if ((wi M 600 18 (M.1 600 17)).1 600 17) < (wi M 600 18 (M.1 600 17)).1 600 15 then (wi M 600 18 (M.1 600 17)).1 609 (Int32.toNatClampNeg ((wi M 600 18 (M.1 600 17)).1 600 17)) else -1) from c53), if_pos (show (b2i (97 ≤ (if ((wi M 600 18 (M.1 600 17)).1 600 17) < (wi M 600 18 (M.1 600 17)).1 600 15 then (wi M 600 18 (M.1 600 17)).1 609 (Int32.toNatClampNeg ((wi M 600 18 (M.1 600 17)).1 600 17)) else -1) ∧ (if ((wi M 600 18 (M.1 600 17)).1 600 17) < (wi M 600 18 (M.1 600 17)).1 600 15 then (wi M 600 18 (M.1 600 17)).1 609 (Int32.toNatClampNeg ((wi M 600 18 (M.1 600 17)).1 600 17)) else -1) ≤ 122)) = 0 from c64), if_neg (show ¬ ((b2i (48 ≤ (if ((wi M 600 18 (M.1 600 17)).1 600 17) < (wi M 600 18 (M.1 600 17)).1 600 15 then (wi M 600 18 (M.1 600 17)).1 609 (Int32.toNatClampNeg ((wi M 600 18 (M.1 600 17)).1 600 17)) else -1) ∧ (if ((wi M 600 18 (M.1 600 17)).1 600 17) < (wi M 600 18 (M.1 600 17)).1 600 15 then (wi M 600 18 (M.1 600 17)).1 609 (Int32.toNatClampNeg ((wi M 600 18 (M.1 600 17)).1 600 17)) else -1) ≤ 57)) = 0) from c75)]; done) | (simp only [if_pos (show 0 ≤ (if ((wi M 600 18 (M.1 600 17)).1 600 17) < (wi M 600 18 (M.1 600 17)).1 600 15 then (wi M 600 18 (M.1 600 17)).1 609 (Int32.toNatClampNeg ((wi M 600 18 (M.1 600 17)).1 600 17)) else -1) from c53), if_pos (show (b2i (97 ≤ (if ((wi M 600 18 (M.1 600 17)).1 600 17) < (wi M 600 18 (M.1 600 17)).1 600 15 then (wi M 600 18 (M.1 600 17)).1 609 (Int32.toNatClampNeg ((wi M 600 18 (M.1 600 17)).1 600 17)) else -1) ∧ (if ((wi M 600 18 (M.1 600 17)).1 600 17) < (wi M 600 18 (M.1 600 17)).1 600 15 then (wi M 600 18 (M.1 600 17)).1 609 (Int32.toNatClampNeg ((wi M 600 18 (M.1 600 17)).1 600 17)) else -1) ≤ 122)) = 0 from c64), if_neg (show ¬ ((b2i (48 ≤ (if ((wi M 600 18 (M.1 600 17)).1 600 17) < (wi M 600 18 (M.1 600 17)).1 600 15 then (wi M 600 18 (M.1 600 17)).1 609 (Int32.toNatClampNeg ((wi M 600 18 (M.1 600 17)).1 600 17)) else -1) ∧ (if ((wi M 600 18 (M.1 600 17)).1 600 17) < (wi M 600 18 (M.1 600 17)).1 600 15 then (wi M 600 18 (M.1 600 17)).1 609 (Int32.toNatClampNeg ((wi M 600 18 (M.1 600 17)).1 600 17)) else -1) ≤ 57)) = 0) from c75)]; rfl) | rfl
    · rw [if_neg (show ¬ ((b2i (97 ≤ (if ((wi M 600 18 (M.1 600 17)).1 600 17) < (wi M 600 18 (M.1 600 17)).1 600 15 then (wi M 600 18 (M.1 600 17)).1 609 (Int32.toNatClampNeg ((wi M 600 18 (M.1 600 17)).1 600 17)) else -1) ∧ (if ((wi M 600 18 (M.1 600 17)).1 600 17) < (wi M 600 18 (M.1 600 17)).1 600 15 then (wi M 600 18 (M.1 600 17)).1 609 (Int32.toNatClampNeg ((wi M 600 18 (M.1 600 17)).1 600 17)) else -1) ≤ 122)) = 0) from c64)] at hp
      refine j_iconst g (n := 1) (1) (by decide +kernel) rfl ?_
      refine j_goto g (off := 15) (tgt := 83) (by decide +kernel) (by decide) ?_
      refine j_pI g f8_125 (fun q h => by cases h; rfl) (by decide +kernel) (by decide +kernel) (by decide +kernel) ?_
      refine jn_X8_advance_86  g hr hp ?_ ?_ 
      · exact hrv
      · rw [hmm]; unfold w_X8_advance_34; first | (simp only [if_pos (show 0 ≤ (if ((wi M 600 18 (M.1 600 17)).1 600 17) < (wi M 600 18 (M.1 600 17)).1 600 15 then (wi M 600 18 (M.1 600 17)).1 609 (Int32.toNatClampNeg ((wi M 600 18 (M.1 600 17)).1 600 17)) else -1) from c53), if_neg (show ¬ ((b2i (97 ≤ (if ((wi M 600 18 (M.1 600 17)).1 600 17) < (wi M 600 18 (M.1 600 17)).1 600 15 then (wi M 600 18 (M.1 600 17)).1 609 (Int32.toNatClampNeg ((wi M 600 18 (M.1 600 17)).1 600 17)) else -1) ∧ (if ((wi M 600 18 (M.1 600 17)).1 600 17) < (wi M 600 18 (M.1 600 17)).1 600 15 then (wi M 600 18 (M.1 600 17)).1 609 (Int32.toNatClampNeg ((wi M 600 18 (M.1 600 17)).1 600 17)) else -1) ≤ 122)) = 0) from c64)]; done) | (simp only [if_pos (show 0 ≤ (if ((wi M 600 18 (M.1 600 17)).1 600 17) < (wi M 600 18 (M.1 600 17)).1 600 15 then (wi M 600 18 (M.1 600 17)).1 609 (Int32.toNatClampNeg ((wi M 600 18 (M.1 600 17)).1 600 17)) else -1) from c53), if_neg (show ¬ ((b2i (97 ≤ (if ((wi M 600 18 (M.1 600 17)).1 600 17) < (wi M 600 18 (M.1 600 17)).1 600 15 then (wi M 600 18 (M.1 600 17)).1 609 (Int32.toNatClampNeg ((wi M 600 18 (M.1 600 17)).1 600 17)) else -1) ∧ (if ((wi M 600 18 (M.1 600 17)).1 600 17) < (wi M 600 18 (M.1 600 17)).1 600 15 then (wi M 600 18 (M.1 600 17)).1 609 (Int32.toNatClampNeg ((wi M 600 18 (M.1 600 17)).1 600 17)) else -1) ≤ 122)) = 0) from c64)]; rfl) | rfl
  · rw [if_neg (show ¬ (0 ≤ (if ((wi M 600 18 (M.1 600 17)).1 600 17) < (wi M 600 18 (M.1 600 17)).1 600 15 then (wi M 600 18 (M.1 600 17)).1 609 (Int32.toNatClampNeg ((wi M 600 18 (M.1 600 17)).1 600 17)) else -1)) from c53)] at hp
    refine j_iconst g (n := 0) (0) (by decide +kernel) rfl ?_
    refine j_goto g (off := 26) (tgt := 83) (by decide +kernel) (by decide) ?_
    refine j_pI g f8_125 (fun q h => by cases h; rfl) (by decide +kernel) (by decide +kernel) (by decide +kernel) ?_
    refine jn_X8_advance_86  g hr hp ?_ ?_ 
    · exact hrv
    · rw [hmm]; unfold w_X8_advance_34; first | (simp only [if_neg (show ¬ (0 ≤ (if ((wi M 600 18 (M.1 600 17)).1 600 17) < (wi M 600 18 (M.1 600 17)).1 600 15 then (wi M 600 18 (M.1 600 17)).1 609 (Int32.toNatClampNeg ((wi M 600 18 (M.1 600 17)).1 600 17)) else -1)) from c53)]; done) | (simp only [if_neg (show ¬ (0 ≤ (if ((wi M 600 18 (M.1 600 17)).1 600 17) < (wi M 600 18 (M.1 600 17)).1 600 15 then (wi M 600 18 (M.1 600 17)).1 609 (Int32.toNatClampNeg ((wi M 600 18 (M.1 600 17)).1 600 17)) else -1)) from c53)]; rfl) | rfl
noncomputable def w_X8_advance (M : Mm)  : Mm := if ¬ (if ((l_X8_advance_8  ((wi M 600 17 (M.1 600 18))) (cntN (fun k => c_X8_advance_8  (l_X8_advance_8  ((wi M 600 17 (M.1 600 18))) k)) 241)).1 600 17) < (l_X8_advance_8  ((wi M 600 17 (M.1 600 18))) (cntN (fun k => c_X8_advance_8  (l_X8_advance_8  ((wi M 600 17 (M.1 600 18))) k)) 241)).1 600 15 then (l_X8_advance_8  ((wi M 600 17 (M.1 600 18))) (cntN (fun k => c_X8_advance_8  (l_X8_advance_8  ((wi M 600 17 (M.1 600 18))) k)) 241)).1 609 (Int32.toNatClampNeg ((l_X8_advance_8  ((wi M 600 17 (M.1 600 18))) (cntN (fun k => c_X8_advance_8  (l_X8_advance_8  ((wi M 600 17 (M.1 600 18))) k)) 241)).1 600 17)) else -1) = (32 : Int32) then w_X8_advance_34 (l_X8_advance_8  ((wi M 600 17 (M.1 600 18))) (cntN (fun k => c_X8_advance_8  (l_X8_advance_8  ((wi M 600 17 (M.1 600 18))) k)) 241)) else M
def p_X8_advance (M : Mm)  : Prop := (∀ k, k < (cntN (fun k => c_X8_advance_8  (l_X8_advance_8  ((wi M 600 17 (M.1 600 18))) k)) 241) → c_X8_advance_8  (l_X8_advance_8  ((wi M 600 17 (M.1 600 18))) k)) ∧ (∀ k, k < (cntN (fun k => c_X8_advance_8  (l_X8_advance_8  ((wi M 600 17 (M.1 600 18))) k)) 241) → q_X8_advance_8  (l_X8_advance_8  ((wi M 600 17 (M.1 600 18))) k)) ∧ (¬ c_X8_advance_8  (l_X8_advance_8  ((wi M 600 17 (M.1 600 18))) (cntN (fun k => c_X8_advance_8  (l_X8_advance_8  ((wi M 600 17 (M.1 600 18))) k)) 241))) ∧ (((l_X8_advance_8  ((wi M 600 17 (M.1 600 18))) (cntN (fun k => c_X8_advance_8  (l_X8_advance_8  ((wi M 600 17 (M.1 600 18))) k)) 241)).1 600 17) < (l_X8_advance_8  ((wi M 600 17 (M.1 600 18))) (cntN (fun k => c_X8_advance_8  (l_X8_advance_8  ((wi M 600 17 (M.1 600 18))) k)) 241)).1 600 15 → vp_in ((l_X8_advance_8  ((wi M 600 17 (M.1 600 18))) (cntN (fun k => c_X8_advance_8  (l_X8_advance_8  ((wi M 600 17 (M.1 600 18))) k)) 241)).1 600 17) 240) ∧ (if ¬ (if ((l_X8_advance_8  ((wi M 600 17 (M.1 600 18))) (cntN (fun k => c_X8_advance_8  (l_X8_advance_8  ((wi M 600 17 (M.1 600 18))) k)) 241)).1 600 17) < (l_X8_advance_8  ((wi M 600 17 (M.1 600 18))) (cntN (fun k => c_X8_advance_8  (l_X8_advance_8  ((wi M 600 17 (M.1 600 18))) k)) 241)).1 600 15 then (l_X8_advance_8  ((wi M 600 17 (M.1 600 18))) (cntN (fun k => c_X8_advance_8  (l_X8_advance_8  ((wi M 600 17 (M.1 600 18))) k)) 241)).1 609 (Int32.toNatClampNeg ((l_X8_advance_8  ((wi M 600 17 (M.1 600 18))) (cntN (fun k => c_X8_advance_8  (l_X8_advance_8  ((wi M 600 17 (M.1 600 18))) k)) 241)).1 600 17)) else -1) = (32 : Int32) then p_X8_advance_34 (l_X8_advance_8  ((wi M 600 17 (M.1 600 18))) (cntN (fun k => c_X8_advance_8  (l_X8_advance_8  ((wi M 600 17 (M.1 600 18))) k)) 241)) else True)
set_option maxRecDepth 20000 in
theorem rnX8_advance {d : Nat} {M : Mm}   (hp : p_X8_advance M ) : Rn (d + 2) mX8_advance [.ref 600] M none (w_X8_advance M ) := by
  refine Rn.of [some (.ref 600), none] (by decide +kernel) rfl (Nat.le_of_ble_eq_true rfl) rfl (fun J g hr => ?_)
  unfold p_X8_advance at hp
  refine j_aload_n g (i := 0) (by decide +kernel) rfl ?_
  refine j_aload_n g (i := 0) (by decide +kernel) rfl ?_
  refine j_gI g f8_108 (by decide +kernel) (by decide +kernel) (by decide +kernel) ?_
  refine j_pI g f8_111 (fun q h => by cases h; rfl) (by decide +kernel) (by decide +kernel) (by decide +kernel) ?_
  obtain ⟨h0, hp⟩ := hp
  have hc_8_1 := h0
  obtain ⟨h0, hp⟩ := hp
  have hq_8_1 := h0
  obtain ⟨h0, hp⟩ := hp
  have hx_8_1 := h0
  refine sh_X8_advance_8   g (σ0 := ((wi M 600 17 (M.1 600 18)))) (cntN (fun k => c_X8_advance_8  (l_X8_advance_8  ((wi M 600 17 (M.1 600 18))) k)) 241) hc_8_1 hq_8_1 ?_ 
  refine j_aload_n g (i := 0) (by decide +kernel) rfl ?_
  refine j_aload_n g (i := 0) (by decide +kernel) rfl ?_
  refine j_gI g f8_111 (by decide +kernel) (by decide +kernel) (by decide +kernel) ?_
  obtain ⟨h0, hp⟩ := hp
  refine j_cV1r g v8_114 ⟨rfl, by decide⟩ (by decide +kernel) (by decide +kernel) (Nat.le_of_ble_eq_true rfl) (rnX8_byteAt h0) ?_
  refine j_bipush g (n := 32) (32) (by decide +kernel) (by decide +kernel) ?_
  refine j_icmp_ne g (off := 16) (tgt := 34) (by decide +kernel) (by decide) (fun c18 => ?_) (fun c18 => ?_)
  · rw [if_pos (show ¬ (if ((l_X8_advance_8  ((wi M 600 17 (M.1 600 18))) (cntN (fun k => c_X8_advance_8  (l_X8_advance_8  ((wi M 600 17 (M.1 600 18))) k)) 241)).1 600 17) < (l_X8_advance_8  ((wi M 600 17 (M.1 600 18))) (cntN (fun k => c_X8_advance_8  (l_X8_advance_8  ((wi M 600 17 (M.1 600 18))) k)) 241)).1 600 15 then (l_X8_advance_8  ((wi M 600 17 (M.1 600 18))) (cntN (fun k => c_X8_advance_8  (l_X8_advance_8  ((wi M 600 17 (M.1 600 18))) k)) 241)).1 609 (Int32.toNatClampNeg ((l_X8_advance_8  ((wi M 600 17 (M.1 600 18))) (cntN (fun k => c_X8_advance_8  (l_X8_advance_8  ((wi M 600 17 (M.1 600 18))) k)) 241)).1 600 17)) else -1) = (32 : Int32) from c18)] at hp
    refine jn_X8_advance_34  g hr hp ?_ ?_ 
    · rfl
    · unfold w_X8_advance; first | (simp only [if_pos (show ¬ (if ((l_X8_advance_8  ((wi M 600 17 (M.1 600 18))) (cntN (fun k => c_X8_advance_8  (l_X8_advance_8  ((wi M 600 17 (M.1 600 18))) k)) 241)).1 600 17) < (l_X8_advance_8  ((wi M 600 17 (M.1 600 18))) (cntN (fun k => c_X8_advance_8  (l_X8_advance_8  ((wi M 600 17 (M.1 600 18))) k)) 241)).1 600 15 then (l_X8_advance_8  ((wi M 600 17 (M.1 600 18))) (cntN (fun k => c_X8_advance_8  (l_X8_advance_8  ((wi M 600 17 (M.1 600 18))) k)) 241)).1 609 (Int32.toNatClampNeg ((l_X8_advance_8  ((wi M 600 17 (M.1 600 18))) (cntN (fun k => c_X8_advance_8  (l_X8_advance_8  ((wi M 600 17 (M.1 600 18))) k)) 241)).1 600 17)) else -1) = (32 : Int32) from c18)]; done) | (simp only [if_pos (show ¬ (if ((l_X8_advance_8  ((wi M 600 17 (M.1 600 18))) (cntN (fun k => c_X8_advance_8  (l_X8_advance_8  ((wi M 600 17 (M.1 600 18))) k)) 241)).1 600 17) < (l_X8_advance_8  ((wi M 600 17 (M.1 600 18))) (cntN (fun k => c_X8_advance_8  (l_X8_advance_8  ((wi M 600 17 (M.1 600 18))) k)) 241)).1 600 15 then (l_X8_advance_8  ((wi M 600 17 (M.1 600 18))) (cntN (fun k => c_X8_advance_8  (l_X8_advance_8  ((wi M 600 17 (M.1 600 18))) k)) 241)).1 609 (Int32.toNatClampNeg ((l_X8_advance_8  ((wi M 600 17 (M.1 600 18))) (cntN (fun k => c_X8_advance_8  (l_X8_advance_8  ((wi M 600 17 (M.1 600 18))) k)) 241)).1 600 17)) else -1) = (32 : Int32) from c18)]; rfl) | rfl
  · rw [if_neg (show ¬ (¬ (if ((l_X8_advance_8  ((wi M 600 17 (M.1 600 18))) (cntN (fun k => c_X8_advance_8  (l_X8_advance_8  ((wi M 600 17 (M.1 600 18))) k)) 241)).1 600 17) < (l_X8_advance_8  ((wi M 600 17 (M.1 600 18))) (cntN (fun k => c_X8_advance_8  (l_X8_advance_8  ((wi M 600 17 (M.1 600 18))) k)) 241)).1 600 15 then (l_X8_advance_8  ((wi M 600 17 (M.1 600 18))) (cntN (fun k => c_X8_advance_8  (l_X8_advance_8  ((wi M 600 17 (M.1 600 18))) k)) 241)).1 609 (Int32.toNatClampNeg ((l_X8_advance_8  ((wi M 600 17 (M.1 600 18))) (cntN (fun k => c_X8_advance_8  (l_X8_advance_8  ((wi M 600 17 (M.1 600 18))) k)) 241)).1 600 17)) else -1) = (32 : Int32)) from c18)] at hp
    refine absurd (ci_X8_advance_8.mpr ?_) hx_8_1
    simp only [if_neg (show ¬ (¬ (if ((l_X8_advance_8  ((wi M 600 17 (M.1 600 18))) (cntN (fun k => c_X8_advance_8  (l_X8_advance_8  ((wi M 600 17 (M.1 600 18))) k)) 241)).1 600 17) < (l_X8_advance_8  ((wi M 600 17 (M.1 600 18))) (cntN (fun k => c_X8_advance_8  (l_X8_advance_8  ((wi M 600 17 (M.1 600 18))) k)) 241)).1 600 15 then (l_X8_advance_8  ((wi M 600 17 (M.1 600 18))) (cntN (fun k => c_X8_advance_8  (l_X8_advance_8  ((wi M 600 17 (M.1 600 18))) k)) 241)).1 609 (Int32.toNatClampNeg ((l_X8_advance_8  ((wi M 600 17 (M.1 600 18))) (cntN (fun k => c_X8_advance_8  (l_X8_advance_8  ((wi M 600 17 (M.1 600 18))) k)) 241)).1 600 17)) else -1) = (32 : Int32)) from c18)]
noncomputable def r_X8_wantNumber_38 (M : Mm) (a1 : Int32) (a2 : Int32) (x3 : Int32) : Int32 := x3
noncomputable def w_X8_wantNumber_38 (M : Mm) (a1 : Int32) (a2 : Int32) (x3 : Int32) : Mm := if (M.1 600 21) = 0 then M else (w_X8_advance M)
def p_X8_wantNumber_38 (M : Mm) (a1 : Int32) (a2 : Int32) (x3 : Int32) : Prop := (if (M.1 600 21) = 0 then True else (p_X8_advance M ) ∧ True)
theorem jn_X8_wantNumber_38 {d : Nat} {J : Nat → Lc → List Value → Mm → Prop} {M : Mm} {a1 : Int32} {a2 : Int32} {x3 : Int32}  (g : Good mX8_wantNumber.1 mX8_wantNumber.2.2.1 mX8_wantNumber.2.2.2.1 (d + 3) J) {rv : Option Value} {M1 : Mm} (hr : Ret mX8_wantNumber.2.2.1 mX8_wantNumber.2.2.2.2 rv M1 J) (hp : p_X8_wantNumber_38 M a1 a2 x3) (hrv : rv = some (.int (r_X8_wantNumber_38 M a1 a2 x3))) (hmm : M1 = w_X8_wantNumber_38 M a1 a2 x3) : J 38 [some (.ref 600), some (.int a1), some (.int a2), some (.int x3)] [] M := by
  unfold p_X8_wantNumber_38 at hp
  refine j_aload_n g (i := 0) (by decide +kernel) rfl ?_
  refine j_gI g f8_157 (by decide +kernel) (by decide +kernel) (by decide +kernel) ?_
  refine j_if_eq g (off := 7) (tgt := 49) (by decide +kernel) (by decide) (fun c42 => ?_) (fun c42 => ?_)
  · rw [if_pos (show (M.1 600 21) = 0 from c42)] at hp
    refine j_iload_n g (i := 3) (by decide +kernel) rfl ?_
    refine hr.1 _ _ _ _ (by decide +kernel) ⟨_, rfl, by first | rfl | exact b2i_nar | decide +kernel⟩ ?_ ?_
    · rw [hrv]; unfold r_X8_wantNumber_38; first | (simp only [if_pos (show (M.1 600 21) = 0 from c42)]; done) | (simp only [if_pos (show (M.1 600 21) = 0 from c42)]; rfl) | rfl
    · rw [hmm]; unfold w_X8_wantNumber_38; first | (simp only [if_pos (show (M.1 600 21) = 0 from c42)]; done) | (simp only [if_pos (show (M.1 600 21) = 0 from c42)]; rfl) | rfl
  · rw [if_neg (show ¬ ((M.1 600 21) = 0) from c42)] at hp
    refine j_aload_n g (i := 0) (by decide +kernel) rfl ?_
    obtain ⟨h0, hp⟩ := hp
    refine j_cV0v g v8_161 ⟨rfl, by decide⟩ (by decide +kernel) (by decide +kernel) (Nat.le_of_ble_eq_true rfl) (rnX8_advance h0) ?_
    refine j_iload_n g (i := 3) (by decide +kernel) rfl ?_
    refine hr.1 _ _ _ _ (by decide +kernel) ⟨_, rfl, by first | rfl | exact b2i_nar | decide +kernel⟩ ?_ ?_
    · rw [hrv]; unfold r_X8_wantNumber_38; first | (simp only [if_neg (show ¬ ((M.1 600 21) = 0) from c42)]; done) | (simp only [if_neg (show ¬ ((M.1 600 21) = 0) from c42)]; rfl) | rfl
    · rw [hmm]; unfold w_X8_wantNumber_38; first | (simp only [if_neg (show ¬ ((M.1 600 21) = 0) from c42)]; done) | (simp only [if_neg (show ¬ ((M.1 600 21) = 0) from c42)]; rfl) | rfl
noncomputable def r_X8_wantNumber (M : Mm) (a1 : Int32) (a2 : Int32) : Int32 := if (M.1 600 21) = 0 then r_X8_wantNumber_38 (wi M 600 21 0) a1 a2 (M.1 600 20) else if ¬ (M.1 600 16) = (2 : Int32) then r_X8_wantNumber_38 (wi M 600 21 0) a1 a2 (M.1 600 20) else if (b2i (a1 ≤ (M.1 600 20) ∧ (M.1 600 20) ≤ a2)) = 0 then r_X8_wantNumber_38 (wi M 600 21 0) a1 a2 (M.1 600 20) else r_X8_wantNumber_38 (wi M 600 21 1) a1 a2 (M.1 600 20)
noncomputable def w_X8_wantNumber (M : Mm) (a1 : Int32) (a2 : Int32) : Mm := if (M.1 600 21) = 0 then w_X8_wantNumber_38 (wi M 600 21 0) a1 a2 (M.1 600 20) else if ¬ (M.1 600 16) = (2 : Int32) then w_X8_wantNumber_38 (wi M 600 21 0) a1 a2 (M.1 600 20) else if (b2i (a1 ≤ (M.1 600 20) ∧ (M.1 600 20) ≤ a2)) = 0 then w_X8_wantNumber_38 (wi M 600 21 0) a1 a2 (M.1 600 20) else w_X8_wantNumber_38 (wi M 600 21 1) a1 a2 (M.1 600 20)
def p_X8_wantNumber (M : Mm) (a1 : Int32) (a2 : Int32) : Prop := (if (M.1 600 21) = 0 then p_X8_wantNumber_38 (wi M 600 21 0) a1 a2 (M.1 600 20) else (if ¬ (M.1 600 16) = (2 : Int32) then p_X8_wantNumber_38 (wi M 600 21 0) a1 a2 (M.1 600 20) else (if (b2i (a1 ≤ (M.1 600 20) ∧ (M.1 600 20) ≤ a2)) = 0 then p_X8_wantNumber_38 (wi M 600 21 0) a1 a2 (M.1 600 20) else p_X8_wantNumber_38 (wi M 600 21 1) a1 a2 (M.1 600 20))))
set_option maxRecDepth 20000 in
theorem rnX8_wantNumber {d : Nat} {M : Mm} {a1 : Int32} {a2 : Int32}  (hp : p_X8_wantNumber M a1 a2) : Rn (d + 3) mX8_wantNumber [.ref 600, .int a1, .int a2] M (some (.int (r_X8_wantNumber M a1 a2))) (w_X8_wantNumber M a1 a2) := by
  refine Rn.of [some (.ref 600), some (.int a1), some (.int a2), none] (by decide +kernel) rfl (Nat.le_of_ble_eq_true rfl) rfl (fun J g hr => ?_)
  unfold p_X8_wantNumber at hp
  refine j_aload_n g (i := 0) (by decide +kernel) rfl ?_
  refine j_gI g f8_132 (by decide +kernel) (by decide +kernel) (by decide +kernel) ?_
  refine j_istore_n g (i := 3) (by decide +kernel) (by decide) ?_
  dsimp only [stL, clL, hdL]
  refine j_aload_n g (i := 0) (by decide +kernel) rfl ?_
  refine j_aload_n g (i := 0) (by decide +kernel) rfl ?_
  refine j_gI g f8_157 (by decide +kernel) (by decide +kernel) (by decide +kernel) ?_
  refine j_if_eq g (off := 24) (tgt := 34) (by decide +kernel) (by decide) (fun c10 => ?_) (fun c10 => ?_)
  · rw [if_pos (show (M.1 600 21) = 0 from c10)] at hp
    refine j_iconst g (n := 0) (0) (by decide +kernel) rfl ?_
    refine j_pZ g f8_157 (fun q h => by cases h; rfl) (by decide +kernel) (by decide +kernel) (by decide +kernel) (by decide) ?_
    refine jn_X8_wantNumber_38  g hr hp ?_ ?_ 
    · unfold r_X8_wantNumber; first | (simp only [if_pos (show (M.1 600 21) = 0 from c10)]; done) | (simp only [if_pos (show (M.1 600 21) = 0 from c10)]; rfl) | rfl
    · unfold w_X8_wantNumber; first | (simp only [if_pos (show (M.1 600 21) = 0 from c10)]; done) | (simp only [if_pos (show (M.1 600 21) = 0 from c10)]; rfl) | rfl
  · rw [if_neg (show ¬ ((M.1 600 21) = 0) from c10)] at hp
    refine j_aload_n g (i := 0) (by decide +kernel) rfl ?_
    refine j_gI g f8_125 (by decide +kernel) (by decide +kernel) (by decide +kernel) ?_
    refine j_iconst g (n := 2) (2) (by decide +kernel) rfl ?_
    refine j_icmp_ne g (off := 16) (tgt := 34) (by decide +kernel) (by decide) (fun c18 => ?_) (fun c18 => ?_)
    · rw [if_pos (show ¬ (M.1 600 16) = (2 : Int32) from c18)] at hp
      refine j_iconst g (n := 0) (0) (by decide +kernel) rfl ?_
      refine j_pZ g f8_157 (fun q h => by cases h; rfl) (by decide +kernel) (by decide +kernel) (by decide +kernel) (by decide) ?_
      refine jn_X8_wantNumber_38  g hr hp ?_ ?_ 
      · unfold r_X8_wantNumber; first | (simp only [if_neg (show ¬ ((M.1 600 21) = 0) from c10), if_pos (show ¬ (M.1 600 16) = (2 : Int32) from c18)]; done) | (simp only [if_neg (show ¬ ((M.1 600 21) = 0) from c10), if_pos (show ¬ (M.1 600 16) = (2 : Int32) from c18)]; rfl) | rfl
      · unfold w_X8_wantNumber; first | (simp only [if_neg (show ¬ ((M.1 600 21) = 0) from c10), if_pos (show ¬ (M.1 600 16) = (2 : Int32) from c18)]; done) | (simp only [if_neg (show ¬ ((M.1 600 21) = 0) from c10), if_pos (show ¬ (M.1 600 16) = (2 : Int32) from c18)]; rfl) | rfl
    · rw [if_neg (show ¬ (¬ (M.1 600 16) = (2 : Int32)) from c18)] at hp
      refine j_iload_n g (i := 3) (by decide +kernel) rfl ?_
      refine j_iload_n g (i := 1) (by decide +kernel) rfl ?_
      refine j_iload_n g (i := 2) (by decide +kernel) rfl ?_
      refine j_cS3r g s8_95 (by decide +kernel) (Nat.le_of_ble_eq_true rfl) (rnX8_in) ?_
      refine j_if_eq g (off := 7) (tgt := 34) (by decide +kernel) (by decide) (fun c27 => ?_) (fun c27 => ?_)
      · rw [if_pos (show (b2i (a1 ≤ (M.1 600 20) ∧ (M.1 600 20) ≤ a2)) = 0 from c27)] at hp
        refine j_iconst g (n := 0) (0) (by decide +kernel) rfl ?_
        refine j_pZ g f8_157 (fun q h => by cases h; rfl) (by decide +kernel) (by decide +kernel) (by decide +kernel) (by decide) ?_
        refine jn_X8_wantNumber_38  g hr hp ?_ ?_ 
        · unfold r_X8_wantNumber; first | (simp only [if_neg (show ¬ ((M.1 600 21) = 0) from c10), if_neg (show ¬ (¬ (M.1 600 16) = (2 : Int32)) from c18), if_pos (show (b2i (a1 ≤ (M.1 600 20) ∧ (M.1 600 20) ≤ a2)) = 0 from c27)]; done) | (simp only [if_neg (show ¬ ((M.1 600 21) = 0) from c10), if_neg (show ¬ (¬ (M.1 600 16) = (2 : Int32)) from c18), if_pos (show (b2i (a1 ≤ (M.1 600 20) ∧ (M.1 600 20) ≤ a2)) = 0 from c27)]; rfl) | rfl
        · unfold w_X8_wantNumber; first | (simp only [if_neg (show ¬ ((M.1 600 21) = 0) from c10), if_neg (show ¬ (¬ (M.1 600 16) = (2 : Int32)) from c18), if_pos (show (b2i (a1 ≤ (M.1 600 20) ∧ (M.1 600 20) ≤ a2)) = 0 from c27)]; done) | (simp only [if_neg (show ¬ ((M.1 600 21) = 0) from c10), if_neg (show ¬ (¬ (M.1 600 16) = (2 : Int32)) from c18), if_pos (show (b2i (a1 ≤ (M.1 600 20) ∧ (M.1 600 20) ≤ a2)) = 0 from c27)]; rfl) | rfl
      · rw [if_neg (show ¬ ((b2i (a1 ≤ (M.1 600 20) ∧ (M.1 600 20) ≤ a2)) = 0) from c27)] at hp
        refine j_iconst g (n := 1) (1) (by decide +kernel) rfl ?_
        refine j_goto g (off := 4) (tgt := 35) (by decide +kernel) (by decide) ?_
        refine j_pZ g f8_157 (fun q h => by cases h; rfl) (by decide +kernel) (by decide +kernel) (by decide +kernel) (by decide) ?_
        refine jn_X8_wantNumber_38  g hr hp ?_ ?_ 
        · unfold r_X8_wantNumber; first | (simp only [if_neg (show ¬ ((M.1 600 21) = 0) from c10), if_neg (show ¬ (¬ (M.1 600 16) = (2 : Int32)) from c18), if_neg (show ¬ ((b2i (a1 ≤ (M.1 600 20) ∧ (M.1 600 20) ≤ a2)) = 0) from c27)]; done) | (simp only [if_neg (show ¬ ((M.1 600 21) = 0) from c10), if_neg (show ¬ (¬ (M.1 600 16) = (2 : Int32)) from c18), if_neg (show ¬ ((b2i (a1 ≤ (M.1 600 20) ∧ (M.1 600 20) ≤ a2)) = 0) from c27)]; rfl) | rfl
        · unfold w_X8_wantNumber; first | (simp only [if_neg (show ¬ ((M.1 600 21) = 0) from c10), if_neg (show ¬ (¬ (M.1 600 16) = (2 : Int32)) from c18), if_neg (show ¬ ((b2i (a1 ≤ (M.1 600 20) ∧ (M.1 600 20) ≤ a2)) = 0) from c27)]; done) | (simp only [if_neg (show ¬ ((M.1 600 21) = 0) from c10), if_neg (show ¬ (¬ (M.1 600 16) = (2 : Int32)) from c18), if_neg (show ¬ ((b2i (a1 ≤ (M.1 600 20) ∧ (M.1 600 20) ≤ a2)) = 0) from c27)]; rfl) | rfl
noncomputable def w_X8_wantWord (M : Mm) (a1 : Int64) : Mm := if (M.1 600 21) = 0 then (if ((wi M 600 21 0).1 600 21) = 0 then (wi M 600 21 0) else (w_X8_advance (wi M 600 21 0))) else if (b2i (M.1 600 16 = 1 ∧ M.2 600 19 = a1)) = 0 then (if ((wi M 600 21 0).1 600 21) = 0 then (wi M 600 21 0) else (w_X8_advance (wi M 600 21 0))) else if ((wi M 600 21 1).1 600 21) = 0 then (wi M 600 21 1) else (w_X8_advance (wi M 600 21 1))
def p_X8_wantWord (M : Mm) (a1 : Int64) : Prop := (if (M.1 600 21) = 0 then (if ((wi M 600 21 0).1 600 21) = 0 then True else (p_X8_advance (wi M 600 21 0) ) ∧ True) else (if (b2i (M.1 600 16 = 1 ∧ M.2 600 19 = a1)) = 0 then (if ((wi M 600 21 0).1 600 21) = 0 then True else (p_X8_advance (wi M 600 21 0) ) ∧ True) else (if ((wi M 600 21 1).1 600 21) = 0 then True else (p_X8_advance (wi M 600 21 1) ) ∧ True)))
set_option maxRecDepth 20000 in
theorem rnX8_wantWord {d : Nat} {M : Mm} {a1 : Int64}  (hp : p_X8_wantWord M a1) : Rn (d + 3) mX8_wantWord [.ref 600, .long a1] M none (w_X8_wantWord M a1) := by
  refine Rn.of [some (.ref 600), some (.long a1), none] (by decide +kernel) rfl (Nat.le_of_ble_eq_true rfl) rfl (fun J g hr => ?_)
  unfold p_X8_wantWord at hp
  refine j_aload_n g (i := 0) (by decide +kernel) rfl ?_
  refine j_aload_n g (i := 0) (by decide +kernel) rfl ?_
  refine j_gI g f8_157 (by decide +kernel) (by decide +kernel) (by decide +kernel) ?_
  refine j_if_eq g (off := 15) (tgt := 20) (by decide +kernel) (by decide) (fun c5 => ?_) (fun c5 => ?_)
  · rw [if_pos (show (M.1 600 21) = 0 from c5)] at hp
    refine j_iconst g (n := 0) (0) (by decide +kernel) rfl ?_
    refine j_pZ g f8_157 (fun q h => by cases h; rfl) (by decide +kernel) (by decide +kernel) (by decide +kernel) (by decide) ?_
    refine j_aload_n g (i := 0) (by decide +kernel) rfl ?_
    refine j_gI g f8_157 (by decide +kernel) (by decide +kernel) (by decide +kernel) ?_
    refine j_if_eq g (off := 7) (tgt := 35) (by decide +kernel) (by decide) (fun c28 => ?_) (fun c28 => ?_)
    · rw [if_pos (show ((wi M 600 21 0).1 600 21) = 0 from c28)] at hp
      refine hr.2.2.2 _ _ _ (by decide +kernel) rfl rfl ?_
      · unfold w_X8_wantWord; first | (simp only [if_pos (show (M.1 600 21) = 0 from c5), if_pos (show ((wi M 600 21 0).1 600 21) = 0 from c28)]; done) | (simp only [if_pos (show (M.1 600 21) = 0 from c5), if_pos (show ((wi M 600 21 0).1 600 21) = 0 from c28)]; rfl) | rfl
    · rw [if_neg (show ¬ (((wi M 600 21 0).1 600 21) = 0) from c28)] at hp
      refine j_aload_n g (i := 0) (by decide +kernel) rfl ?_
      obtain ⟨h0, hp⟩ := hp
      refine j_cV0v g v8_161 ⟨rfl, by decide⟩ (by decide +kernel) (by decide +kernel) (Nat.le_of_ble_eq_true rfl) (rnX8_advance h0) ?_
      refine hr.2.2.2 _ _ _ (by decide +kernel) rfl rfl ?_
      · unfold w_X8_wantWord; first | (simp only [if_pos (show (M.1 600 21) = 0 from c5), if_neg (show ¬ (((wi M 600 21 0).1 600 21) = 0) from c28)]; done) | (simp only [if_pos (show (M.1 600 21) = 0 from c5), if_neg (show ¬ (((wi M 600 21 0).1 600 21) = 0) from c28)]; rfl) | rfl
  · rw [if_neg (show ¬ ((M.1 600 21) = 0) from c5)] at hp
    refine j_aload_n g (i := 0) (by decide +kernel) rfl ?_
    refine j_lload_n g (i := 1) (by decide +kernel) rfl ?_
    refine j_cV1r g v8_143 ⟨rfl, by decide⟩ (by decide +kernel) (by decide +kernel) (Nat.le_of_ble_eq_true rfl) (rnX8_isWord) ?_
    refine j_if_eq g (off := 7) (tgt := 20) (by decide +kernel) (by decide) (fun c13 => ?_) (fun c13 => ?_)
    · rw [if_pos (show (b2i (M.1 600 16 = 1 ∧ M.2 600 19 = a1)) = 0 from c13)] at hp
      refine j_iconst g (n := 0) (0) (by decide +kernel) rfl ?_
      refine j_pZ g f8_157 (fun q h => by cases h; rfl) (by decide +kernel) (by decide +kernel) (by decide +kernel) (by decide) ?_
      refine j_aload_n g (i := 0) (by decide +kernel) rfl ?_
      refine j_gI g f8_157 (by decide +kernel) (by decide +kernel) (by decide +kernel) ?_
      refine j_if_eq g (off := 7) (tgt := 35) (by decide +kernel) (by decide) (fun c28 => ?_) (fun c28 => ?_)
      · rw [if_pos (show ((wi M 600 21 0).1 600 21) = 0 from c28)] at hp
        refine hr.2.2.2 _ _ _ (by decide +kernel) rfl rfl ?_
        · unfold w_X8_wantWord; first | (simp only [if_neg (show ¬ ((M.1 600 21) = 0) from c5), if_pos (show (b2i (M.1 600 16 = 1 ∧ M.2 600 19 = a1)) = 0 from c13), if_pos (show ((wi M 600 21 0).1 600 21) = 0 from c28)]; done) | (simp only [if_neg (show ¬ ((M.1 600 21) = 0) from c5), if_pos (show (b2i (M.1 600 16 = 1 ∧ M.2 600 19 = a1)) = 0 from c13), if_pos (show ((wi M 600 21 0).1 600 21) = 0 from c28)]; rfl) | rfl
      · rw [if_neg (show ¬ (((wi M 600 21 0).1 600 21) = 0) from c28)] at hp
        refine j_aload_n g (i := 0) (by decide +kernel) rfl ?_
        obtain ⟨h0, hp⟩ := hp
        refine j_cV0v g v8_161 ⟨rfl, by decide⟩ (by decide +kernel) (by decide +kernel) (Nat.le_of_ble_eq_true rfl) (rnX8_advance h0) ?_
        refine hr.2.2.2 _ _ _ (by decide +kernel) rfl rfl ?_
        · unfold w_X8_wantWord; first | (simp only [if_neg (show ¬ ((M.1 600 21) = 0) from c5), if_pos (show (b2i (M.1 600 16 = 1 ∧ M.2 600 19 = a1)) = 0 from c13), if_neg (show ¬ (((wi M 600 21 0).1 600 21) = 0) from c28)]; done) | (simp only [if_neg (show ¬ ((M.1 600 21) = 0) from c5), if_pos (show (b2i (M.1 600 16 = 1 ∧ M.2 600 19 = a1)) = 0 from c13), if_neg (show ¬ (((wi M 600 21 0).1 600 21) = 0) from c28)]; rfl) | rfl
    · rw [if_neg (show ¬ ((b2i (M.1 600 16 = 1 ∧ M.2 600 19 = a1)) = 0) from c13)] at hp
      refine j_iconst g (n := 1) (1) (by decide +kernel) rfl ?_
      refine j_goto g (off := 4) (tgt := 21) (by decide +kernel) (by decide) ?_
      refine j_pZ g f8_157 (fun q h => by cases h; rfl) (by decide +kernel) (by decide +kernel) (by decide +kernel) (by decide) ?_
      refine j_aload_n g (i := 0) (by decide +kernel) rfl ?_
      refine j_gI g f8_157 (by decide +kernel) (by decide +kernel) (by decide +kernel) ?_
      refine j_if_eq g (off := 7) (tgt := 35) (by decide +kernel) (by decide) (fun c28 => ?_) (fun c28 => ?_)
      · rw [if_pos (show ((wi M 600 21 1).1 600 21) = 0 from c28)] at hp
        refine hr.2.2.2 _ _ _ (by decide +kernel) rfl rfl ?_
        · unfold w_X8_wantWord; first | (simp only [if_neg (show ¬ ((M.1 600 21) = 0) from c5), if_neg (show ¬ ((b2i (M.1 600 16 = 1 ∧ M.2 600 19 = a1)) = 0) from c13), if_pos (show ((wi M 600 21 1).1 600 21) = 0 from c28)]; done) | (simp only [if_neg (show ¬ ((M.1 600 21) = 0) from c5), if_neg (show ¬ ((b2i (M.1 600 16 = 1 ∧ M.2 600 19 = a1)) = 0) from c13), if_pos (show ((wi M 600 21 1).1 600 21) = 0 from c28)]; rfl) | rfl
      · rw [if_neg (show ¬ (((wi M 600 21 1).1 600 21) = 0) from c28)] at hp
        refine j_aload_n g (i := 0) (by decide +kernel) rfl ?_
        obtain ⟨h0, hp⟩ := hp
        refine j_cV0v g v8_161 ⟨rfl, by decide⟩ (by decide +kernel) (by decide +kernel) (Nat.le_of_ble_eq_true rfl) (rnX8_advance h0) ?_
        refine hr.2.2.2 _ _ _ (by decide +kernel) rfl rfl ?_
        · unfold w_X8_wantWord; first | (simp only [if_neg (show ¬ ((M.1 600 21) = 0) from c5), if_neg (show ¬ ((b2i (M.1 600 16 = 1 ∧ M.2 600 19 = a1)) = 0) from c13), if_neg (show ¬ (((wi M 600 21 1).1 600 21) = 0) from c28)]; done) | (simp only [if_neg (show ¬ ((M.1 600 21) = 0) from c5), if_neg (show ¬ ((b2i (M.1 600 16 = 1 ∧ M.2 600 19 = a1)) = 0) from c13), if_neg (show ¬ (((wi M 600 21 1).1 600 21) = 0) from c28)]; rfl) | rfl
noncomputable def w_X8_wantEnd (M : Mm)  : Mm := if (M.1 600 21) = 0 then (if ((wi M 600 21 0).1 600 21) = 0 then (wi M 600 21 0) else (w_X8_advance (wi M 600 21 0))) else if (b2i (M.1 600 16 = 3 ∧ M.1 600 20 = (59 : Int32))) = 0 then (if ((wi M 600 21 0).1 600 21) = 0 then (wi M 600 21 0) else (w_X8_advance (wi M 600 21 0))) else if ((wi M 600 21 1).1 600 21) = 0 then (wi M 600 21 1) else (w_X8_advance (wi M 600 21 1))
def p_X8_wantEnd (M : Mm)  : Prop := (if (M.1 600 21) = 0 then (if ((wi M 600 21 0).1 600 21) = 0 then True else (p_X8_advance (wi M 600 21 0) ) ∧ True) else (if (b2i (M.1 600 16 = 3 ∧ M.1 600 20 = (59 : Int32))) = 0 then (if ((wi M 600 21 0).1 600 21) = 0 then True else (p_X8_advance (wi M 600 21 0) ) ∧ True) else (if ((wi M 600 21 1).1 600 21) = 0 then True else (p_X8_advance (wi M 600 21 1) ) ∧ True)))
set_option maxRecDepth 20000 in
theorem rnX8_wantEnd {d : Nat} {M : Mm}   (hp : p_X8_wantEnd M ) : Rn (d + 3) mX8_wantEnd [.ref 600] M none (w_X8_wantEnd M ) := by
  refine Rn.of [some (.ref 600)] (by decide +kernel) rfl (Nat.le_of_ble_eq_true rfl) rfl (fun J g hr => ?_)
  unfold p_X8_wantEnd at hp
  refine j_aload_n g (i := 0) (by decide +kernel) rfl ?_
  refine j_aload_n g (i := 0) (by decide +kernel) rfl ?_
  refine j_gI g f8_157 (by decide +kernel) (by decide +kernel) (by decide +kernel) ?_
  refine j_if_eq g (off := 16) (tgt := 21) (by decide +kernel) (by decide) (fun c5 => ?_) (fun c5 => ?_)
  · rw [if_pos (show (M.1 600 21) = 0 from c5)] at hp
    refine j_iconst g (n := 0) (0) (by decide +kernel) rfl ?_
    refine j_pZ g f8_157 (fun q h => by cases h; rfl) (by decide +kernel) (by decide +kernel) (by decide +kernel) (by decide) ?_
    refine j_aload_n g (i := 0) (by decide +kernel) rfl ?_
    refine j_gI g f8_157 (by decide +kernel) (by decide +kernel) (by decide +kernel) ?_
    refine j_if_eq g (off := 7) (tgt := 36) (by decide +kernel) (by decide) (fun c29 => ?_) (fun c29 => ?_)
    · rw [if_pos (show ((wi M 600 21 0).1 600 21) = 0 from c29)] at hp
      refine hr.2.2.2 _ _ _ (by decide +kernel) rfl rfl ?_
      · unfold w_X8_wantEnd; first | (simp only [if_pos (show (M.1 600 21) = 0 from c5), if_pos (show ((wi M 600 21 0).1 600 21) = 0 from c29)]; done) | (simp only [if_pos (show (M.1 600 21) = 0 from c5), if_pos (show ((wi M 600 21 0).1 600 21) = 0 from c29)]; rfl) | rfl
    · rw [if_neg (show ¬ (((wi M 600 21 0).1 600 21) = 0) from c29)] at hp
      refine j_aload_n g (i := 0) (by decide +kernel) rfl ?_
      obtain ⟨h0, hp⟩ := hp
      refine j_cV0v g v8_161 ⟨rfl, by decide⟩ (by decide +kernel) (by decide +kernel) (Nat.le_of_ble_eq_true rfl) (rnX8_advance h0) ?_
      refine hr.2.2.2 _ _ _ (by decide +kernel) rfl rfl ?_
      · unfold w_X8_wantEnd; first | (simp only [if_pos (show (M.1 600 21) = 0 from c5), if_neg (show ¬ (((wi M 600 21 0).1 600 21) = 0) from c29)]; done) | (simp only [if_pos (show (M.1 600 21) = 0 from c5), if_neg (show ¬ (((wi M 600 21 0).1 600 21) = 0) from c29)]; rfl) | rfl
  · rw [if_neg (show ¬ ((M.1 600 21) = 0) from c5)] at hp
    refine j_aload_n g (i := 0) (by decide +kernel) rfl ?_
    refine j_bipush g (n := 59) (59) (by decide +kernel) (by decide +kernel) ?_
    refine j_cV1r g v8_164 ⟨rfl, by decide⟩ (by decide +kernel) (by decide +kernel) (Nat.le_of_ble_eq_true rfl) (rnX8_isMark) ?_
    refine j_if_eq g (off := 7) (tgt := 21) (by decide +kernel) (by decide) (fun c14 => ?_) (fun c14 => ?_)
    · rw [if_pos (show (b2i (M.1 600 16 = 3 ∧ M.1 600 20 = (59 : Int32))) = 0 from c14)] at hp
      refine j_iconst g (n := 0) (0) (by decide +kernel) rfl ?_
      refine j_pZ g f8_157 (fun q h => by cases h; rfl) (by decide +kernel) (by decide +kernel) (by decide +kernel) (by decide) ?_
      refine j_aload_n g (i := 0) (by decide +kernel) rfl ?_
      refine j_gI g f8_157 (by decide +kernel) (by decide +kernel) (by decide +kernel) ?_
      refine j_if_eq g (off := 7) (tgt := 36) (by decide +kernel) (by decide) (fun c29 => ?_) (fun c29 => ?_)
      · rw [if_pos (show ((wi M 600 21 0).1 600 21) = 0 from c29)] at hp
        refine hr.2.2.2 _ _ _ (by decide +kernel) rfl rfl ?_
        · unfold w_X8_wantEnd; first | (simp only [if_neg (show ¬ ((M.1 600 21) = 0) from c5), if_pos (show (b2i (M.1 600 16 = 3 ∧ M.1 600 20 = (59 : Int32))) = 0 from c14), if_pos (show ((wi M 600 21 0).1 600 21) = 0 from c29)]; done) | (simp only [if_neg (show ¬ ((M.1 600 21) = 0) from c5), if_pos (show (b2i (M.1 600 16 = 3 ∧ M.1 600 20 = (59 : Int32))) = 0 from c14), if_pos (show ((wi M 600 21 0).1 600 21) = 0 from c29)]; rfl) | rfl
      · rw [if_neg (show ¬ (((wi M 600 21 0).1 600 21) = 0) from c29)] at hp
        refine j_aload_n g (i := 0) (by decide +kernel) rfl ?_
        obtain ⟨h0, hp⟩ := hp
        refine j_cV0v g v8_161 ⟨rfl, by decide⟩ (by decide +kernel) (by decide +kernel) (Nat.le_of_ble_eq_true rfl) (rnX8_advance h0) ?_
        refine hr.2.2.2 _ _ _ (by decide +kernel) rfl rfl ?_
        · unfold w_X8_wantEnd; first | (simp only [if_neg (show ¬ ((M.1 600 21) = 0) from c5), if_pos (show (b2i (M.1 600 16 = 3 ∧ M.1 600 20 = (59 : Int32))) = 0 from c14), if_neg (show ¬ (((wi M 600 21 0).1 600 21) = 0) from c29)]; done) | (simp only [if_neg (show ¬ ((M.1 600 21) = 0) from c5), if_pos (show (b2i (M.1 600 16 = 3 ∧ M.1 600 20 = (59 : Int32))) = 0 from c14), if_neg (show ¬ (((wi M 600 21 0).1 600 21) = 0) from c29)]; rfl) | rfl
    · rw [if_neg (show ¬ ((b2i (M.1 600 16 = 3 ∧ M.1 600 20 = (59 : Int32))) = 0) from c14)] at hp
      refine j_iconst g (n := 1) (1) (by decide +kernel) rfl ?_
      refine j_goto g (off := 4) (tgt := 22) (by decide +kernel) (by decide) ?_
      refine j_pZ g f8_157 (fun q h => by cases h; rfl) (by decide +kernel) (by decide +kernel) (by decide +kernel) (by decide) ?_
      refine j_aload_n g (i := 0) (by decide +kernel) rfl ?_
      refine j_gI g f8_157 (by decide +kernel) (by decide +kernel) (by decide +kernel) ?_
      refine j_if_eq g (off := 7) (tgt := 36) (by decide +kernel) (by decide) (fun c29 => ?_) (fun c29 => ?_)
      · rw [if_pos (show ((wi M 600 21 1).1 600 21) = 0 from c29)] at hp
        refine hr.2.2.2 _ _ _ (by decide +kernel) rfl rfl ?_
        · unfold w_X8_wantEnd; first | (simp only [if_neg (show ¬ ((M.1 600 21) = 0) from c5), if_neg (show ¬ ((b2i (M.1 600 16 = 3 ∧ M.1 600 20 = (59 : Int32))) = 0) from c14), if_pos (show ((wi M 600 21 1).1 600 21) = 0 from c29)]; done) | (simp only [if_neg (show ¬ ((M.1 600 21) = 0) from c5), if_neg (show ¬ ((b2i (M.1 600 16 = 3 ∧ M.1 600 20 = (59 : Int32))) = 0) from c14), if_pos (show ((wi M 600 21 1).1 600 21) = 0 from c29)]; rfl) | rfl
      · rw [if_neg (show ¬ (((wi M 600 21 1).1 600 21) = 0) from c29)] at hp
        refine j_aload_n g (i := 0) (by decide +kernel) rfl ?_
        obtain ⟨h0, hp⟩ := hp
        refine j_cV0v g v8_161 ⟨rfl, by decide⟩ (by decide +kernel) (by decide +kernel) (Nat.le_of_ble_eq_true rfl) (rnX8_advance h0) ?_
        refine hr.2.2.2 _ _ _ (by decide +kernel) rfl rfl ?_
        · unfold w_X8_wantEnd; first | (simp only [if_neg (show ¬ ((M.1 600 21) = 0) from c5), if_neg (show ¬ ((b2i (M.1 600 16 = 3 ∧ M.1 600 20 = (59 : Int32))) = 0) from c14), if_neg (show ¬ (((wi M 600 21 1).1 600 21) = 0) from c29)]; done) | (simp only [if_neg (show ¬ ((M.1 600 21) = 0) from c5), if_neg (show ¬ ((b2i (M.1 600 16 = 3 ∧ M.1 600 20 = (59 : Int32))) = 0) from c14), if_neg (show ¬ (((wi M 600 21 1).1 600 21) = 0) from c29)]; rfl) | rfl
noncomputable def r_X8_wantOne_610_47 (M : Mm) (a2 : Int32) (a3 : Int32) (a4 : Int32) (x5 : Int32) (x6 : Int32) : Int32 := if (M.1 600 21) = 0 then M.1 600 21 else (wi (wi M 610 (Int32.toNatClampNeg ((2 : Int32) * a2)) x5) 610 (Int32.toNatClampNeg (((2 : Int32) * a2) + 1)) x6).1 600 21
noncomputable def w_X8_wantOne_610_47 (M : Mm) (a2 : Int32) (a3 : Int32) (a4 : Int32) (x5 : Int32) (x6 : Int32) : Mm := if (M.1 600 21) = 0 then M else (wi (wi M 610 (Int32.toNatClampNeg ((2 : Int32) * a2)) x5) 610 (Int32.toNatClampNeg (((2 : Int32) * a2) + 1)) x6)
def p_X8_wantOne_610_47 (M : Mm) (a2 : Int32) (a3 : Int32) (a4 : Int32) (x5 : Int32) (x6 : Int32) : Prop := (if (M.1 600 21) = 0 then ((M.1 600 21) = 0 ∨ (M.1 600 21) = 1) ∧ True else (vp_in ((2 : Int32) * a2) 6) ∧ (vp_in (((2 : Int32) * a2) + 1) 6) ∧ (((wi (wi M 610 (Int32.toNatClampNeg ((2 : Int32) * a2)) x5) 610 (Int32.toNatClampNeg (((2 : Int32) * a2) + 1)) x6).1 600 21) = 0 ∨ ((wi (wi M 610 (Int32.toNatClampNeg ((2 : Int32) * a2)) x5) 610 (Int32.toNatClampNeg (((2 : Int32) * a2) + 1)) x6).1 600 21) = 1) ∧ True)
theorem jn_X8_wantOne_610_47 {d : Nat} {J : Nat → Lc → List Value → Mm → Prop} {M : Mm} {a2 : Int32} {a3 : Int32} {a4 : Int32} {x5 : Int32} {x6 : Int32}  (g : Good mX8_wantOne.1 mX8_wantOne.2.2.1 mX8_wantOne.2.2.2.1 (d + 4) J) {rv : Option Value} {M1 : Mm} (hr : Ret mX8_wantOne.2.2.1 mX8_wantOne.2.2.2.2 rv M1 J) (hp : p_X8_wantOne_610_47 M a2 a3 a4 x5 x6) (hrv : rv = some (.int (r_X8_wantOne_610_47 M a2 a3 a4 x5 x6))) (hmm : M1 = w_X8_wantOne_610_47 M a2 a3 a4 x5 x6) : J 47 [some (.ref 600), some (.ref 610), some (.int a2), some (.int a3), some (.int a4), some (.int x5), some (.int x6)] [] M := by
  unfold p_X8_wantOne_610_47 at hp
  refine j_aload_n g (i := 0) (by decide +kernel) rfl ?_
  refine j_gI g f8_157 (by decide +kernel) (by decide +kernel) (by decide +kernel) ?_
  refine j_if_eq g (off := 19) (tgt := 70) (by decide +kernel) (by decide) (fun c51 => ?_) (fun c51 => ?_)
  · rw [if_pos (show (M.1 600 21) = 0 from c51)] at hp
    refine j_aload_n g (i := 0) (by decide +kernel) rfl ?_
    refine j_gI g f8_157 (by decide +kernel) (by decide +kernel) (by decide +kernel) ?_
    obtain ⟨h0, hp⟩ := hp
    have hz74 := h0
    refine hr.1 _ _ _ _ (by decide +kernel) ⟨_, rfl, by exact (om_narI (Or.inr ⟨rfl, hz74⟩)).1⟩ ?_ ?_
    · rw [hrv]; unfold r_X8_wantOne_610_47; first | (simp only [if_pos (show (M.1 600 21) = 0 from c51)]; done) | (simp only [if_pos (show (M.1 600 21) = 0 from c51)]; rfl) | rfl
    · rw [hmm]; unfold w_X8_wantOne_610_47; first | (simp only [if_pos (show (M.1 600 21) = 0 from c51)]; done) | (simp only [if_pos (show (M.1 600 21) = 0 from c51)]; rfl) | rfl
  · rw [if_neg (show ¬ ((M.1 600 21) = 0) from c51)] at hp
    refine j_aload_n g (i := 1) (by decide +kernel) rfl ?_
    refine j_iconst g (n := 2) (2) (by decide +kernel) rfl ?_
    refine j_iload_n g (i := 2) (by decide +kernel) rfl ?_
    refine j_imul g (by decide +kernel) ?_
    refine j_iload g (i := 5) (by decide +kernel) rfl ?_
    obtain ⟨h0, hp⟩ := hp
    refine j_is g 6 (by decide +kernel) (by decide +kernel) (by decide +kernel) h0 ?_
    refine j_aload_n g (i := 1) (by decide +kernel) rfl ?_
    refine j_iconst g (n := 2) (2) (by decide +kernel) rfl ?_
    refine j_iload_n g (i := 2) (by decide +kernel) rfl ?_
    refine j_imul g (by decide +kernel) ?_
    refine j_iconst g (n := 1) (1) (by decide +kernel) rfl ?_
    refine j_iadd g (by decide +kernel) ?_
    refine j_iload g (i := 6) (by decide +kernel) rfl ?_
    obtain ⟨h0, hp⟩ := hp
    refine j_is g 6 (by decide +kernel) (by decide +kernel) (by decide +kernel) h0 ?_
    refine j_aload_n g (i := 0) (by decide +kernel) rfl ?_
    refine j_gI g f8_157 (by decide +kernel) (by decide +kernel) (by decide +kernel) ?_
    obtain ⟨h0, hp⟩ := hp
    have hz74 := h0
    refine hr.1 _ _ _ _ (by decide +kernel) ⟨_, rfl, by exact (om_narI (Or.inr ⟨rfl, hz74⟩)).1⟩ ?_ ?_
    · rw [hrv]; unfold r_X8_wantOne_610_47; first | (simp only [if_neg (show ¬ ((M.1 600 21) = 0) from c51)]; done) | (simp only [if_neg (show ¬ ((M.1 600 21) = 0) from c51)]; rfl) | rfl
    · rw [hmm]; unfold w_X8_wantOne_610_47; first | (simp only [if_neg (show ¬ ((M.1 600 21) = 0) from c51)]; done) | (simp only [if_neg (show ¬ ((M.1 600 21) = 0) from c51)]; rfl) | rfl
noncomputable def r_X8_wantOne_610_43 (M : Mm) (a2 : Int32) (a3 : Int32) (a4 : Int32) (x5 : Int32) (x6 : Int32) : Int32 := r_X8_wantOne_610_47 (w_X8_wantEnd M) a2 a3 a4 x5 x6
noncomputable def w_X8_wantOne_610_43 (M : Mm) (a2 : Int32) (a3 : Int32) (a4 : Int32) (x5 : Int32) (x6 : Int32) : Mm := w_X8_wantOne_610_47 (w_X8_wantEnd M) a2 a3 a4 x5 x6
def p_X8_wantOne_610_43 (M : Mm) (a2 : Int32) (a3 : Int32) (a4 : Int32) (x5 : Int32) (x6 : Int32) : Prop := (p_X8_wantEnd M ) ∧ p_X8_wantOne_610_47 (w_X8_wantEnd M) a2 a3 a4 x5 x6
theorem jn_X8_wantOne_610_43 {d : Nat} {J : Nat → Lc → List Value → Mm → Prop} {M : Mm} {a2 : Int32} {a3 : Int32} {a4 : Int32} {x5 : Int32} {x6 : Int32}  (g : Good mX8_wantOne.1 mX8_wantOne.2.2.1 mX8_wantOne.2.2.2.1 (d + 4) J) {rv : Option Value} {M1 : Mm} (hr : Ret mX8_wantOne.2.2.1 mX8_wantOne.2.2.2.2 rv M1 J) (hp : p_X8_wantOne_610_43 M a2 a3 a4 x5 x6) (hrv : rv = some (.int (r_X8_wantOne_610_43 M a2 a3 a4 x5 x6))) (hmm : M1 = w_X8_wantOne_610_43 M a2 a3 a4 x5 x6) : J 43 [some (.ref 600), some (.ref 610), some (.int a2), some (.int a3), some (.int a4), some (.int x5), some (.int x6)] [] M := by
  unfold p_X8_wantOne_610_43 at hp
  refine j_aload_n g (i := 0) (by decide +kernel) rfl ?_
  obtain ⟨h0, hp⟩ := hp
  refine j_cV0v g v8_171 ⟨rfl, by decide⟩ (by decide +kernel) (by decide +kernel) (Nat.le_of_ble_eq_true rfl) (rnX8_wantEnd h0) ?_
  refine jn_X8_wantOne_610_47  g hr hp ?_ ?_ 
  · rw [hrv]; unfold r_X8_wantOne_610_43; rfl
  · rw [hmm]; unfold w_X8_wantOne_610_43; rfl
noncomputable def r_X8_wantOne_610_34 (M : Mm) (a2 : Int32) (a3 : Int32) (a4 : Int32) (x5 : Int32) : Int32 := r_X8_wantOne_610_43 (w_X8_wantNumber M (1 : Int32) a4) a2 a3 a4 x5 (r_X8_wantNumber M (1 : Int32) a4)
noncomputable def w_X8_wantOne_610_34 (M : Mm) (a2 : Int32) (a3 : Int32) (a4 : Int32) (x5 : Int32) : Mm := w_X8_wantOne_610_43 (w_X8_wantNumber M (1 : Int32) a4) a2 a3 a4 x5 (r_X8_wantNumber M (1 : Int32) a4)
def p_X8_wantOne_610_34 (M : Mm) (a2 : Int32) (a3 : Int32) (a4 : Int32) (x5 : Int32) : Prop := (p_X8_wantNumber M (1 : Int32) a4) ∧ p_X8_wantOne_610_43 (w_X8_wantNumber M (1 : Int32) a4) a2 a3 a4 x5 (r_X8_wantNumber M (1 : Int32) a4)
theorem jn_X8_wantOne_610_34 {d : Nat} {J : Nat → Lc → List Value → Mm → Prop} {M : Mm} {a2 : Int32} {a3 : Int32} {a4 : Int32} {x5 : Int32}  (g : Good mX8_wantOne.1 mX8_wantOne.2.2.1 mX8_wantOne.2.2.2.1 (d + 4) J) {rv : Option Value} {M1 : Mm} (hr : Ret mX8_wantOne.2.2.1 mX8_wantOne.2.2.2.2 rv M1 J) (hp : p_X8_wantOne_610_34 M a2 a3 a4 x5) (hrv : rv = some (.int (r_X8_wantOne_610_34 M a2 a3 a4 x5))) (hmm : M1 = w_X8_wantOne_610_34 M a2 a3 a4 x5) : J 34 [some (.ref 600), some (.ref 610), some (.int a2), some (.int a3), some (.int a4), some (.int x5), none] [] M := by
  unfold p_X8_wantOne_610_34 at hp
  refine j_aload_n g (i := 0) (by decide +kernel) rfl ?_
  refine j_iconst g (n := 1) (1) (by decide +kernel) rfl ?_
  refine j_iload g (i := 4) (by decide +kernel) rfl ?_
  obtain ⟨h0, hp⟩ := hp
  refine j_cV2r g v8_167 ⟨rfl, by decide⟩ (by decide +kernel) (by decide +kernel) (Nat.le_of_ble_eq_true rfl) (rnX8_wantNumber h0) ?_
  refine j_istore g (i := 6) (by decide +kernel) (by decide) ?_
  dsimp only [stL, clL, hdL]
  refine jn_X8_wantOne_610_43  g hr hp ?_ ?_ 
  · rw [hrv]; unfold r_X8_wantOne_610_34; rfl
  · rw [hmm]; unfold w_X8_wantOne_610_34; rfl
noncomputable def r_X8_wantOne_610_25 (M : Mm) (a2 : Int32) (a3 : Int32) (a4 : Int32)  : Int32 := r_X8_wantOne_610_34 (w_X8_wantNumber M (0 : Int32) (9 : Int32)) a2 a3 a4 (r_X8_wantNumber M (0 : Int32) (9 : Int32))
noncomputable def w_X8_wantOne_610_25 (M : Mm) (a2 : Int32) (a3 : Int32) (a4 : Int32)  : Mm := w_X8_wantOne_610_34 (w_X8_wantNumber M (0 : Int32) (9 : Int32)) a2 a3 a4 (r_X8_wantNumber M (0 : Int32) (9 : Int32))
def p_X8_wantOne_610_25 (M : Mm) (a2 : Int32) (a3 : Int32) (a4 : Int32)  : Prop := (p_X8_wantNumber M (0 : Int32) (9 : Int32)) ∧ p_X8_wantOne_610_34 (w_X8_wantNumber M (0 : Int32) (9 : Int32)) a2 a3 a4 (r_X8_wantNumber M (0 : Int32) (9 : Int32))
theorem jn_X8_wantOne_610_25 {d : Nat} {J : Nat → Lc → List Value → Mm → Prop} {M : Mm} {a2 : Int32} {a3 : Int32} {a4 : Int32}   (g : Good mX8_wantOne.1 mX8_wantOne.2.2.1 mX8_wantOne.2.2.2.1 (d + 4) J) {rv : Option Value} {M1 : Mm} (hr : Ret mX8_wantOne.2.2.1 mX8_wantOne.2.2.2.2 rv M1 J) (hp : p_X8_wantOne_610_25 M a2 a3 a4 ) (hrv : rv = some (.int (r_X8_wantOne_610_25 M a2 a3 a4 ))) (hmm : M1 = w_X8_wantOne_610_25 M a2 a3 a4 ) : J 25 [some (.ref 600), some (.ref 610), some (.int a2), some (.int a3), some (.int a4), none, none] [] M := by
  unfold p_X8_wantOne_610_25 at hp
  refine j_aload_n g (i := 0) (by decide +kernel) rfl ?_
  refine j_iconst g (n := 0) (0) (by decide +kernel) rfl ?_
  refine j_bipush g (n := 9) (9) (by decide +kernel) (by decide +kernel) ?_
  obtain ⟨h0, hp⟩ := hp
  refine j_cV2r g v8_167 ⟨rfl, by decide⟩ (by decide +kernel) (by decide +kernel) (Nat.le_of_ble_eq_true rfl) (rnX8_wantNumber h0) ?_
  refine j_istore g (i := 5) (by decide +kernel) (by decide) ?_
  dsimp only [stL, clL, hdL]
  refine jn_X8_wantOne_610_34  g hr hp ?_ ?_ 
  · rw [hrv]; unfold r_X8_wantOne_610_25; rfl
  · rw [hmm]; unfold w_X8_wantOne_610_25; rfl
noncomputable def r_X8_wantOne_610_14 (M : Mm) (a2 : Int32) (a3 : Int32) (a4 : Int32)  : Int32 := if (M.1 600 21) = 0 then r_X8_wantOne_610_25 M a2 a3 a4 else r_X8_wantOne_610_25 (w_X8_advance M) a2 a3 a4
noncomputable def w_X8_wantOne_610_14 (M : Mm) (a2 : Int32) (a3 : Int32) (a4 : Int32)  : Mm := if (M.1 600 21) = 0 then w_X8_wantOne_610_25 M a2 a3 a4 else w_X8_wantOne_610_25 (w_X8_advance M) a2 a3 a4
def p_X8_wantOne_610_14 (M : Mm) (a2 : Int32) (a3 : Int32) (a4 : Int32)  : Prop := (if (M.1 600 21) = 0 then p_X8_wantOne_610_25 M a2 a3 a4 else (p_X8_advance M ) ∧ p_X8_wantOne_610_25 (w_X8_advance M) a2 a3 a4)
theorem jn_X8_wantOne_610_14 {d : Nat} {J : Nat → Lc → List Value → Mm → Prop} {M : Mm} {a2 : Int32} {a3 : Int32} {a4 : Int32}   (g : Good mX8_wantOne.1 mX8_wantOne.2.2.1 mX8_wantOne.2.2.2.1 (d + 4) J) {rv : Option Value} {M1 : Mm} (hr : Ret mX8_wantOne.2.2.1 mX8_wantOne.2.2.2.2 rv M1 J) (hp : p_X8_wantOne_610_14 M a2 a3 a4 ) (hrv : rv = some (.int (r_X8_wantOne_610_14 M a2 a3 a4 ))) (hmm : M1 = w_X8_wantOne_610_14 M a2 a3 a4 ) : J 14 [some (.ref 600), some (.ref 610), some (.int a2), some (.int a3), some (.int a4), none, none] [] M := by
  unfold p_X8_wantOne_610_14 at hp
  refine j_aload_n g (i := 0) (by decide +kernel) rfl ?_
  refine j_gI g f8_157 (by decide +kernel) (by decide +kernel) (by decide +kernel) ?_
  refine j_if_eq g (off := 7) (tgt := 25) (by decide +kernel) (by decide) (fun c18 => ?_) (fun c18 => ?_)
  · rw [if_pos (show (M.1 600 21) = 0 from c18)] at hp
    refine jn_X8_wantOne_610_25  g hr hp ?_ ?_ 
    · rw [hrv]; unfold r_X8_wantOne_610_14; first | (simp only [if_pos (show (M.1 600 21) = 0 from c18)]; done) | (simp only [if_pos (show (M.1 600 21) = 0 from c18)]; rfl) | rfl
    · rw [hmm]; unfold w_X8_wantOne_610_14; first | (simp only [if_pos (show (M.1 600 21) = 0 from c18)]; done) | (simp only [if_pos (show (M.1 600 21) = 0 from c18)]; rfl) | rfl
  · rw [if_neg (show ¬ ((M.1 600 21) = 0) from c18)] at hp
    refine j_aload_n g (i := 0) (by decide +kernel) rfl ?_
    obtain ⟨h0, hp⟩ := hp
    refine j_cV0v g v8_161 ⟨rfl, by decide⟩ (by decide +kernel) (by decide +kernel) (Nat.le_of_ble_eq_true rfl) (rnX8_advance h0) ?_
    refine jn_X8_wantOne_610_25  g hr hp ?_ ?_ 
    · rw [hrv]; unfold r_X8_wantOne_610_14; first | (simp only [if_neg (show ¬ ((M.1 600 21) = 0) from c18)]; done) | (simp only [if_neg (show ¬ ((M.1 600 21) = 0) from c18)]; rfl) | rfl
    · rw [hmm]; unfold w_X8_wantOne_610_14; first | (simp only [if_neg (show ¬ ((M.1 600 21) = 0) from c18)]; done) | (simp only [if_neg (show ¬ ((M.1 600 21) = 0) from c18)]; rfl) | rfl
noncomputable def r_X8_wantOne_610 (M : Mm) (a2 : Int32) (a3 : Int32) (a4 : Int32) : Int32 := if a3 ≤ a2 then r_X8_wantOne_610_14 (wi M 600 21 0) a2 a3 a4 else r_X8_wantOne_610_14 (wi M 600 21 1) a2 a3 a4
noncomputable def w_X8_wantOne_610 (M : Mm) (a2 : Int32) (a3 : Int32) (a4 : Int32) : Mm := if a3 ≤ a2 then w_X8_wantOne_610_14 (wi M 600 21 0) a2 a3 a4 else w_X8_wantOne_610_14 (wi M 600 21 1) a2 a3 a4
def p_X8_wantOne_610 (M : Mm) (a2 : Int32) (a3 : Int32) (a4 : Int32) : Prop := (if a3 ≤ a2 then p_X8_wantOne_610_14 (wi M 600 21 0) a2 a3 a4 else p_X8_wantOne_610_14 (wi M 600 21 1) a2 a3 a4)
set_option maxRecDepth 20000 in
theorem rnX8_wantOne_610 {d : Nat} {M : Mm} {a2 : Int32} {a3 : Int32} {a4 : Int32}  (hp : p_X8_wantOne_610 M a2 a3 a4) : Rn (d + 4) mX8_wantOne [.ref 600, .ref 610, .int a2, .int a3, .int a4] M (some (.int (r_X8_wantOne_610 M a2 a3 a4))) (w_X8_wantOne_610 M a2 a3 a4) := by
  refine Rn.of [some (.ref 600), some (.ref 610), some (.int a2), some (.int a3), some (.int a4), none, none] (by decide +kernel) rfl (Nat.le_of_ble_eq_true rfl) rfl (fun J g hr => ?_)
  unfold p_X8_wantOne_610 at hp
  refine j_aload_n g (i := 0) (by decide +kernel) rfl ?_
  refine j_iload_n g (i := 2) (by decide +kernel) rfl ?_
  refine j_iload_n g (i := 3) (by decide +kernel) rfl ?_
  refine j_icmp_ge g (off := 7) (tgt := 10) (by decide +kernel) (by decide) (fun c3 => ?_) (fun c3 => ?_)
  · rw [if_pos (show a3 ≤ a2 from c3)] at hp
    refine j_iconst g (n := 0) (0) (by decide +kernel) rfl ?_
    refine j_pZ g f8_157 (fun q h => by cases h; rfl) (by decide +kernel) (by decide +kernel) (by decide +kernel) (by decide) ?_
    refine jn_X8_wantOne_610_14  g hr hp ?_ ?_ 
    · unfold r_X8_wantOne_610; first | (simp only [if_pos (show a3 ≤ a2 from c3)]; done) | (simp only [if_pos (show a3 ≤ a2 from c3)]; rfl) | rfl
    · unfold w_X8_wantOne_610; first | (simp only [if_pos (show a3 ≤ a2 from c3)]; done) | (simp only [if_pos (show a3 ≤ a2 from c3)]; rfl) | rfl
  · rw [if_neg (show ¬ (a3 ≤ a2) from c3)] at hp
    refine j_iconst g (n := 1) (1) (by decide +kernel) rfl ?_
    refine j_goto g (off := 4) (tgt := 11) (by decide +kernel) (by decide) ?_
    refine j_pZ g f8_157 (fun q h => by cases h; rfl) (by decide +kernel) (by decide +kernel) (by decide +kernel) (by decide) ?_
    refine jn_X8_wantOne_610_14  g hr hp ?_ ?_ 
    · unfold r_X8_wantOne_610; first | (simp only [if_neg (show ¬ (a3 ≤ a2) from c3)]; done) | (simp only [if_neg (show ¬ (a3 ≤ a2) from c3)]; rfl) | rfl
    · unfold w_X8_wantOne_610; first | (simp only [if_neg (show ¬ (a3 ≤ a2) from c3)]; done) | (simp only [if_neg (show ¬ (a3 ≤ a2) from c3)]; rfl) | rfl
noncomputable def r_X8_wantOne_611_47 (M : Mm) (a2 : Int32) (a3 : Int32) (a4 : Int32) (x5 : Int32) (x6 : Int32) : Int32 := if (M.1 600 21) = 0 then M.1 600 21 else (wi (wi M 611 (Int32.toNatClampNeg ((2 : Int32) * a2)) x5) 611 (Int32.toNatClampNeg (((2 : Int32) * a2) + 1)) x6).1 600 21
noncomputable def w_X8_wantOne_611_47 (M : Mm) (a2 : Int32) (a3 : Int32) (a4 : Int32) (x5 : Int32) (x6 : Int32) : Mm := if (M.1 600 21) = 0 then M else (wi (wi M 611 (Int32.toNatClampNeg ((2 : Int32) * a2)) x5) 611 (Int32.toNatClampNeg (((2 : Int32) * a2) + 1)) x6)
def p_X8_wantOne_611_47 (M : Mm) (a2 : Int32) (a3 : Int32) (a4 : Int32) (x5 : Int32) (x6 : Int32) : Prop := (if (M.1 600 21) = 0 then ((M.1 600 21) = 0 ∨ (M.1 600 21) = 1) ∧ True else (vp_in ((2 : Int32) * a2) 12) ∧ (vp_in (((2 : Int32) * a2) + 1) 12) ∧ (((wi (wi M 611 (Int32.toNatClampNeg ((2 : Int32) * a2)) x5) 611 (Int32.toNatClampNeg (((2 : Int32) * a2) + 1)) x6).1 600 21) = 0 ∨ ((wi (wi M 611 (Int32.toNatClampNeg ((2 : Int32) * a2)) x5) 611 (Int32.toNatClampNeg (((2 : Int32) * a2) + 1)) x6).1 600 21) = 1) ∧ True)
theorem jn_X8_wantOne_611_47 {d : Nat} {J : Nat → Lc → List Value → Mm → Prop} {M : Mm} {a2 : Int32} {a3 : Int32} {a4 : Int32} {x5 : Int32} {x6 : Int32}  (g : Good mX8_wantOne.1 mX8_wantOne.2.2.1 mX8_wantOne.2.2.2.1 (d + 4) J) {rv : Option Value} {M1 : Mm} (hr : Ret mX8_wantOne.2.2.1 mX8_wantOne.2.2.2.2 rv M1 J) (hp : p_X8_wantOne_611_47 M a2 a3 a4 x5 x6) (hrv : rv = some (.int (r_X8_wantOne_611_47 M a2 a3 a4 x5 x6))) (hmm : M1 = w_X8_wantOne_611_47 M a2 a3 a4 x5 x6) : J 47 [some (.ref 600), some (.ref 611), some (.int a2), some (.int a3), some (.int a4), some (.int x5), some (.int x6)] [] M := by
  unfold p_X8_wantOne_611_47 at hp
  refine j_aload_n g (i := 0) (by decide +kernel) rfl ?_
  refine j_gI g f8_157 (by decide +kernel) (by decide +kernel) (by decide +kernel) ?_
  refine j_if_eq g (off := 19) (tgt := 70) (by decide +kernel) (by decide) (fun c51 => ?_) (fun c51 => ?_)
  · rw [if_pos (show (M.1 600 21) = 0 from c51)] at hp
    refine j_aload_n g (i := 0) (by decide +kernel) rfl ?_
    refine j_gI g f8_157 (by decide +kernel) (by decide +kernel) (by decide +kernel) ?_
    obtain ⟨h0, hp⟩ := hp
    have hz74 := h0
    refine hr.1 _ _ _ _ (by decide +kernel) ⟨_, rfl, by exact (om_narI (Or.inr ⟨rfl, hz74⟩)).1⟩ ?_ ?_
    · rw [hrv]; unfold r_X8_wantOne_611_47; first | (simp only [if_pos (show (M.1 600 21) = 0 from c51)]; done) | (simp only [if_pos (show (M.1 600 21) = 0 from c51)]; rfl) | rfl
    · rw [hmm]; unfold w_X8_wantOne_611_47; first | (simp only [if_pos (show (M.1 600 21) = 0 from c51)]; done) | (simp only [if_pos (show (M.1 600 21) = 0 from c51)]; rfl) | rfl
  · rw [if_neg (show ¬ ((M.1 600 21) = 0) from c51)] at hp
    refine j_aload_n g (i := 1) (by decide +kernel) rfl ?_
    refine j_iconst g (n := 2) (2) (by decide +kernel) rfl ?_
    refine j_iload_n g (i := 2) (by decide +kernel) rfl ?_
    refine j_imul g (by decide +kernel) ?_
    refine j_iload g (i := 5) (by decide +kernel) rfl ?_
    obtain ⟨h0, hp⟩ := hp
    refine j_is g 12 (by decide +kernel) (by decide +kernel) (by decide +kernel) h0 ?_
    refine j_aload_n g (i := 1) (by decide +kernel) rfl ?_
    refine j_iconst g (n := 2) (2) (by decide +kernel) rfl ?_
    refine j_iload_n g (i := 2) (by decide +kernel) rfl ?_
    refine j_imul g (by decide +kernel) ?_
    refine j_iconst g (n := 1) (1) (by decide +kernel) rfl ?_
    refine j_iadd g (by decide +kernel) ?_
    refine j_iload g (i := 6) (by decide +kernel) rfl ?_
    obtain ⟨h0, hp⟩ := hp
    refine j_is g 12 (by decide +kernel) (by decide +kernel) (by decide +kernel) h0 ?_
    refine j_aload_n g (i := 0) (by decide +kernel) rfl ?_
    refine j_gI g f8_157 (by decide +kernel) (by decide +kernel) (by decide +kernel) ?_
    obtain ⟨h0, hp⟩ := hp
    have hz74 := h0
    refine hr.1 _ _ _ _ (by decide +kernel) ⟨_, rfl, by exact (om_narI (Or.inr ⟨rfl, hz74⟩)).1⟩ ?_ ?_
    · rw [hrv]; unfold r_X8_wantOne_611_47; first | (simp only [if_neg (show ¬ ((M.1 600 21) = 0) from c51)]; done) | (simp only [if_neg (show ¬ ((M.1 600 21) = 0) from c51)]; rfl) | rfl
    · rw [hmm]; unfold w_X8_wantOne_611_47; first | (simp only [if_neg (show ¬ ((M.1 600 21) = 0) from c51)]; done) | (simp only [if_neg (show ¬ ((M.1 600 21) = 0) from c51)]; rfl) | rfl
noncomputable def r_X8_wantOne_611_43 (M : Mm) (a2 : Int32) (a3 : Int32) (a4 : Int32) (x5 : Int32) (x6 : Int32) : Int32 := r_X8_wantOne_611_47 (w_X8_wantEnd M) a2 a3 a4 x5 x6
noncomputable def w_X8_wantOne_611_43 (M : Mm) (a2 : Int32) (a3 : Int32) (a4 : Int32) (x5 : Int32) (x6 : Int32) : Mm := w_X8_wantOne_611_47 (w_X8_wantEnd M) a2 a3 a4 x5 x6
def p_X8_wantOne_611_43 (M : Mm) (a2 : Int32) (a3 : Int32) (a4 : Int32) (x5 : Int32) (x6 : Int32) : Prop := (p_X8_wantEnd M ) ∧ p_X8_wantOne_611_47 (w_X8_wantEnd M) a2 a3 a4 x5 x6
theorem jn_X8_wantOne_611_43 {d : Nat} {J : Nat → Lc → List Value → Mm → Prop} {M : Mm} {a2 : Int32} {a3 : Int32} {a4 : Int32} {x5 : Int32} {x6 : Int32}  (g : Good mX8_wantOne.1 mX8_wantOne.2.2.1 mX8_wantOne.2.2.2.1 (d + 4) J) {rv : Option Value} {M1 : Mm} (hr : Ret mX8_wantOne.2.2.1 mX8_wantOne.2.2.2.2 rv M1 J) (hp : p_X8_wantOne_611_43 M a2 a3 a4 x5 x6) (hrv : rv = some (.int (r_X8_wantOne_611_43 M a2 a3 a4 x5 x6))) (hmm : M1 = w_X8_wantOne_611_43 M a2 a3 a4 x5 x6) : J 43 [some (.ref 600), some (.ref 611), some (.int a2), some (.int a3), some (.int a4), some (.int x5), some (.int x6)] [] M := by
  unfold p_X8_wantOne_611_43 at hp
  refine j_aload_n g (i := 0) (by decide +kernel) rfl ?_
  obtain ⟨h0, hp⟩ := hp
  refine j_cV0v g v8_171 ⟨rfl, by decide⟩ (by decide +kernel) (by decide +kernel) (Nat.le_of_ble_eq_true rfl) (rnX8_wantEnd h0) ?_
  refine jn_X8_wantOne_611_47  g hr hp ?_ ?_ 
  · rw [hrv]; unfold r_X8_wantOne_611_43; rfl
  · rw [hmm]; unfold w_X8_wantOne_611_43; rfl
noncomputable def r_X8_wantOne_611_34 (M : Mm) (a2 : Int32) (a3 : Int32) (a4 : Int32) (x5 : Int32) : Int32 := r_X8_wantOne_611_43 (w_X8_wantNumber M (1 : Int32) a4) a2 a3 a4 x5 (r_X8_wantNumber M (1 : Int32) a4)
noncomputable def w_X8_wantOne_611_34 (M : Mm) (a2 : Int32) (a3 : Int32) (a4 : Int32) (x5 : Int32) : Mm := w_X8_wantOne_611_43 (w_X8_wantNumber M (1 : Int32) a4) a2 a3 a4 x5 (r_X8_wantNumber M (1 : Int32) a4)
def p_X8_wantOne_611_34 (M : Mm) (a2 : Int32) (a3 : Int32) (a4 : Int32) (x5 : Int32) : Prop := (p_X8_wantNumber M (1 : Int32) a4) ∧ p_X8_wantOne_611_43 (w_X8_wantNumber M (1 : Int32) a4) a2 a3 a4 x5 (r_X8_wantNumber M (1 : Int32) a4)
theorem jn_X8_wantOne_611_34 {d : Nat} {J : Nat → Lc → List Value → Mm → Prop} {M : Mm} {a2 : Int32} {a3 : Int32} {a4 : Int32} {x5 : Int32}  (g : Good mX8_wantOne.1 mX8_wantOne.2.2.1 mX8_wantOne.2.2.2.1 (d + 4) J) {rv : Option Value} {M1 : Mm} (hr : Ret mX8_wantOne.2.2.1 mX8_wantOne.2.2.2.2 rv M1 J) (hp : p_X8_wantOne_611_34 M a2 a3 a4 x5) (hrv : rv = some (.int (r_X8_wantOne_611_34 M a2 a3 a4 x5))) (hmm : M1 = w_X8_wantOne_611_34 M a2 a3 a4 x5) : J 34 [some (.ref 600), some (.ref 611), some (.int a2), some (.int a3), some (.int a4), some (.int x5), none] [] M := by
  unfold p_X8_wantOne_611_34 at hp
  refine j_aload_n g (i := 0) (by decide +kernel) rfl ?_
  refine j_iconst g (n := 1) (1) (by decide +kernel) rfl ?_
  refine j_iload g (i := 4) (by decide +kernel) rfl ?_
  obtain ⟨h0, hp⟩ := hp
  refine j_cV2r g v8_167 ⟨rfl, by decide⟩ (by decide +kernel) (by decide +kernel) (Nat.le_of_ble_eq_true rfl) (rnX8_wantNumber h0) ?_
  refine j_istore g (i := 6) (by decide +kernel) (by decide) ?_
  dsimp only [stL, clL, hdL]
  refine jn_X8_wantOne_611_43  g hr hp ?_ ?_ 
  · rw [hrv]; unfold r_X8_wantOne_611_34; rfl
  · rw [hmm]; unfold w_X8_wantOne_611_34; rfl
noncomputable def r_X8_wantOne_611_25 (M : Mm) (a2 : Int32) (a3 : Int32) (a4 : Int32)  : Int32 := r_X8_wantOne_611_34 (w_X8_wantNumber M (0 : Int32) (9 : Int32)) a2 a3 a4 (r_X8_wantNumber M (0 : Int32) (9 : Int32))
noncomputable def w_X8_wantOne_611_25 (M : Mm) (a2 : Int32) (a3 : Int32) (a4 : Int32)  : Mm := w_X8_wantOne_611_34 (w_X8_wantNumber M (0 : Int32) (9 : Int32)) a2 a3 a4 (r_X8_wantNumber M (0 : Int32) (9 : Int32))
def p_X8_wantOne_611_25 (M : Mm) (a2 : Int32) (a3 : Int32) (a4 : Int32)  : Prop := (p_X8_wantNumber M (0 : Int32) (9 : Int32)) ∧ p_X8_wantOne_611_34 (w_X8_wantNumber M (0 : Int32) (9 : Int32)) a2 a3 a4 (r_X8_wantNumber M (0 : Int32) (9 : Int32))
theorem jn_X8_wantOne_611_25 {d : Nat} {J : Nat → Lc → List Value → Mm → Prop} {M : Mm} {a2 : Int32} {a3 : Int32} {a4 : Int32}   (g : Good mX8_wantOne.1 mX8_wantOne.2.2.1 mX8_wantOne.2.2.2.1 (d + 4) J) {rv : Option Value} {M1 : Mm} (hr : Ret mX8_wantOne.2.2.1 mX8_wantOne.2.2.2.2 rv M1 J) (hp : p_X8_wantOne_611_25 M a2 a3 a4 ) (hrv : rv = some (.int (r_X8_wantOne_611_25 M a2 a3 a4 ))) (hmm : M1 = w_X8_wantOne_611_25 M a2 a3 a4 ) : J 25 [some (.ref 600), some (.ref 611), some (.int a2), some (.int a3), some (.int a4), none, none] [] M := by
  unfold p_X8_wantOne_611_25 at hp
  refine j_aload_n g (i := 0) (by decide +kernel) rfl ?_
  refine j_iconst g (n := 0) (0) (by decide +kernel) rfl ?_
  refine j_bipush g (n := 9) (9) (by decide +kernel) (by decide +kernel) ?_
  obtain ⟨h0, hp⟩ := hp
  refine j_cV2r g v8_167 ⟨rfl, by decide⟩ (by decide +kernel) (by decide +kernel) (Nat.le_of_ble_eq_true rfl) (rnX8_wantNumber h0) ?_
  refine j_istore g (i := 5) (by decide +kernel) (by decide) ?_
  dsimp only [stL, clL, hdL]
  refine jn_X8_wantOne_611_34  g hr hp ?_ ?_ 
  · rw [hrv]; unfold r_X8_wantOne_611_25; rfl
  · rw [hmm]; unfold w_X8_wantOne_611_25; rfl
noncomputable def r_X8_wantOne_611_14 (M : Mm) (a2 : Int32) (a3 : Int32) (a4 : Int32)  : Int32 := if (M.1 600 21) = 0 then r_X8_wantOne_611_25 M a2 a3 a4 else r_X8_wantOne_611_25 (w_X8_advance M) a2 a3 a4
noncomputable def w_X8_wantOne_611_14 (M : Mm) (a2 : Int32) (a3 : Int32) (a4 : Int32)  : Mm := if (M.1 600 21) = 0 then w_X8_wantOne_611_25 M a2 a3 a4 else w_X8_wantOne_611_25 (w_X8_advance M) a2 a3 a4
def p_X8_wantOne_611_14 (M : Mm) (a2 : Int32) (a3 : Int32) (a4 : Int32)  : Prop := (if (M.1 600 21) = 0 then p_X8_wantOne_611_25 M a2 a3 a4 else (p_X8_advance M ) ∧ p_X8_wantOne_611_25 (w_X8_advance M) a2 a3 a4)
theorem jn_X8_wantOne_611_14 {d : Nat} {J : Nat → Lc → List Value → Mm → Prop} {M : Mm} {a2 : Int32} {a3 : Int32} {a4 : Int32}   (g : Good mX8_wantOne.1 mX8_wantOne.2.2.1 mX8_wantOne.2.2.2.1 (d + 4) J) {rv : Option Value} {M1 : Mm} (hr : Ret mX8_wantOne.2.2.1 mX8_wantOne.2.2.2.2 rv M1 J) (hp : p_X8_wantOne_611_14 M a2 a3 a4 ) (hrv : rv = some (.int (r_X8_wantOne_611_14 M a2 a3 a4 ))) (hmm : M1 = w_X8_wantOne_611_14 M a2 a3 a4 ) : J 14 [some (.ref 600), some (.ref 611), some (.int a2), some (.int a3), some (.int a4), none, none] [] M := by
  unfold p_X8_wantOne_611_14 at hp
  refine j_aload_n g (i := 0) (by decide +kernel) rfl ?_
  refine j_gI g f8_157 (by decide +kernel) (by decide +kernel) (by decide +kernel) ?_
  refine j_if_eq g (off := 7) (tgt := 25) (by decide +kernel) (by decide) (fun c18 => ?_) (fun c18 => ?_)
  · rw [if_pos (show (M.1 600 21) = 0 from c18)] at hp
    refine jn_X8_wantOne_611_25  g hr hp ?_ ?_ 
    · rw [hrv]; unfold r_X8_wantOne_611_14; first | (simp only [if_pos (show (M.1 600 21) = 0 from c18)]; done) | (simp only [if_pos (show (M.1 600 21) = 0 from c18)]; rfl) | rfl
    · rw [hmm]; unfold w_X8_wantOne_611_14; first | (simp only [if_pos (show (M.1 600 21) = 0 from c18)]; done) | (simp only [if_pos (show (M.1 600 21) = 0 from c18)]; rfl) | rfl
  · rw [if_neg (show ¬ ((M.1 600 21) = 0) from c18)] at hp
    refine j_aload_n g (i := 0) (by decide +kernel) rfl ?_
    obtain ⟨h0, hp⟩ := hp
    refine j_cV0v g v8_161 ⟨rfl, by decide⟩ (by decide +kernel) (by decide +kernel) (Nat.le_of_ble_eq_true rfl) (rnX8_advance h0) ?_
    refine jn_X8_wantOne_611_25  g hr hp ?_ ?_ 
    · rw [hrv]; unfold r_X8_wantOne_611_14; first | (simp only [if_neg (show ¬ ((M.1 600 21) = 0) from c18)]; done) | (simp only [if_neg (show ¬ ((M.1 600 21) = 0) from c18)]; rfl) | rfl
    · rw [hmm]; unfold w_X8_wantOne_611_14; first | (simp only [if_neg (show ¬ ((M.1 600 21) = 0) from c18)]; done) | (simp only [if_neg (show ¬ ((M.1 600 21) = 0) from c18)]; rfl) | rfl
noncomputable def r_X8_wantOne_611 (M : Mm) (a2 : Int32) (a3 : Int32) (a4 : Int32) : Int32 := if a3 ≤ a2 then r_X8_wantOne_611_14 (wi M 600 21 0) a2 a3 a4 else r_X8_wantOne_611_14 (wi M 600 21 1) a2 a3 a4
noncomputable def w_X8_wantOne_611 (M : Mm) (a2 : Int32) (a3 : Int32) (a4 : Int32) : Mm := if a3 ≤ a2 then w_X8_wantOne_611_14 (wi M 600 21 0) a2 a3 a4 else w_X8_wantOne_611_14 (wi M 600 21 1) a2 a3 a4
def p_X8_wantOne_611 (M : Mm) (a2 : Int32) (a3 : Int32) (a4 : Int32) : Prop := (if a3 ≤ a2 then p_X8_wantOne_611_14 (wi M 600 21 0) a2 a3 a4 else p_X8_wantOne_611_14 (wi M 600 21 1) a2 a3 a4)
set_option maxRecDepth 20000 in
theorem rnX8_wantOne_611 {d : Nat} {M : Mm} {a2 : Int32} {a3 : Int32} {a4 : Int32}  (hp : p_X8_wantOne_611 M a2 a3 a4) : Rn (d + 4) mX8_wantOne [.ref 600, .ref 611, .int a2, .int a3, .int a4] M (some (.int (r_X8_wantOne_611 M a2 a3 a4))) (w_X8_wantOne_611 M a2 a3 a4) := by
  refine Rn.of [some (.ref 600), some (.ref 611), some (.int a2), some (.int a3), some (.int a4), none, none] (by decide +kernel) rfl (Nat.le_of_ble_eq_true rfl) rfl (fun J g hr => ?_)
  unfold p_X8_wantOne_611 at hp
  refine j_aload_n g (i := 0) (by decide +kernel) rfl ?_
  refine j_iload_n g (i := 2) (by decide +kernel) rfl ?_
  refine j_iload_n g (i := 3) (by decide +kernel) rfl ?_
  refine j_icmp_ge g (off := 7) (tgt := 10) (by decide +kernel) (by decide) (fun c3 => ?_) (fun c3 => ?_)
  · rw [if_pos (show a3 ≤ a2 from c3)] at hp
    refine j_iconst g (n := 0) (0) (by decide +kernel) rfl ?_
    refine j_pZ g f8_157 (fun q h => by cases h; rfl) (by decide +kernel) (by decide +kernel) (by decide +kernel) (by decide) ?_
    refine jn_X8_wantOne_611_14  g hr hp ?_ ?_ 
    · unfold r_X8_wantOne_611; first | (simp only [if_pos (show a3 ≤ a2 from c3)]; done) | (simp only [if_pos (show a3 ≤ a2 from c3)]; rfl) | rfl
    · unfold w_X8_wantOne_611; first | (simp only [if_pos (show a3 ≤ a2 from c3)]; done) | (simp only [if_pos (show a3 ≤ a2 from c3)]; rfl) | rfl
  · rw [if_neg (show ¬ (a3 ≤ a2) from c3)] at hp
    refine j_iconst g (n := 1) (1) (by decide +kernel) rfl ?_
    refine j_goto g (off := 4) (tgt := 11) (by decide +kernel) (by decide) ?_
    refine j_pZ g f8_157 (fun q h => by cases h; rfl) (by decide +kernel) (by decide +kernel) (by decide +kernel) (by decide) ?_
    refine jn_X8_wantOne_611_14  g hr hp ?_ ?_ 
    · unfold r_X8_wantOne_611; first | (simp only [if_neg (show ¬ (a3 ≤ a2) from c3)]; done) | (simp only [if_neg (show ¬ (a3 ≤ a2) from c3)]; rfl) | rfl
    · unfold w_X8_wantOne_611; first | (simp only [if_neg (show ¬ (a3 ≤ a2) from c3)]; done) | (simp only [if_neg (show ¬ (a3 ≤ a2) from c3)]; rfl) | rfl
noncomputable def w_X8_wantWork_176 (M : Mm) (a1 : Int32) (x2 : Int32) (x3 : Int32) (x4 : Int32) (x5 : Int32) (x6 : Int32) (x7 : Int32) (x8 : Int32) : Mm := if (M.1 600 21) = 0 then M else (wi (wi (wi (wi (wi (wi (wi (wi (wi M 612 (Int32.toNatClampNeg ((8 : Int32) * (M.1 600 24))) a1) 612 (Int32.toNatClampNeg (((8 : Int32) * (M.1 600 24)) + 1)) x2) 612 (Int32.toNatClampNeg (((8 : Int32) * (M.1 600 24)) + 2)) x3) 612 (Int32.toNatClampNeg (((8 : Int32) * (M.1 600 24)) + 3)) x4) 612 (Int32.toNatClampNeg (((8 : Int32) * (M.1 600 24)) + 4)) x5) 612 (Int32.toNatClampNeg (((8 : Int32) * (M.1 600 24)) + 5)) x6) 612 (Int32.toNatClampNeg (((8 : Int32) * (M.1 600 24)) + 6)) x7) 612 (Int32.toNatClampNeg (((8 : Int32) * (M.1 600 24)) + 7)) x8) 600 24 (((wi (wi (wi (wi (wi (wi (wi (wi M 612 (Int32.toNatClampNeg ((8 : Int32) * (M.1 600 24))) a1) 612 (Int32.toNatClampNeg (((8 : Int32) * (M.1 600 24)) + 1)) x2) 612 (Int32.toNatClampNeg (((8 : Int32) * (M.1 600 24)) + 2)) x3) 612 (Int32.toNatClampNeg (((8 : Int32) * (M.1 600 24)) + 3)) x4) 612 (Int32.toNatClampNeg (((8 : Int32) * (M.1 600 24)) + 4)) x5) 612 (Int32.toNatClampNeg (((8 : Int32) * (M.1 600 24)) + 5)) x6) 612 (Int32.toNatClampNeg (((8 : Int32) * (M.1 600 24)) + 6)) x7) 612 (Int32.toNatClampNeg (((8 : Int32) * (M.1 600 24)) + 7)) x8).1 600 24) + 1))
def p_X8_wantWork_176 (M : Mm) (a1 : Int32) (x2 : Int32) (x3 : Int32) (x4 : Int32) (x5 : Int32) (x6 : Int32) (x7 : Int32) (x8 : Int32) : Prop := (if (M.1 600 21) = 0 then True else (vp_in ((8 : Int32) * (M.1 600 24)) 48) ∧ (vp_in (((8 : Int32) * (M.1 600 24)) + 1) 48) ∧ (vp_in (((8 : Int32) * (M.1 600 24)) + 2) 48) ∧ (vp_in (((8 : Int32) * (M.1 600 24)) + 3) 48) ∧ (vp_in (((8 : Int32) * (M.1 600 24)) + 4) 48) ∧ (vp_in (((8 : Int32) * (M.1 600 24)) + 5) 48) ∧ (vp_in (((8 : Int32) * (M.1 600 24)) + 6) 48) ∧ (vp_in (((8 : Int32) * (M.1 600 24)) + 7) 48) ∧ True)
theorem jn_X8_wantWork_176 {d : Nat} {J : Nat → Lc → List Value → Mm → Prop} {M : Mm} {a1 : Int32} {x2 : Int32} {x3 : Int32} {x4 : Int32} {x5 : Int32} {x6 : Int32} {x7 : Int32} {x8 : Int32}  (g : Good mX8_wantWork.1 mX8_wantWork.2.2.1 mX8_wantWork.2.2.2.1 (d + 4) J) {rv : Option Value} {M1 : Mm} (hr : Ret mX8_wantWork.2.2.1 mX8_wantWork.2.2.2.2 rv M1 J) (hp : p_X8_wantWork_176 M a1 x2 x3 x4 x5 x6 x7 x8) (hrv : rv = none) (hmm : M1 = w_X8_wantWork_176 M a1 x2 x3 x4 x5 x6 x7 x8) : J 176 [some (.ref 600), some (.int a1), some (.int x2), some (.int x3), some (.int x4), some (.int x5), some (.int x6), some (.int x7), some (.int x8), none] [] M := by
  unfold p_X8_wantWork_176 at hp
  refine j_aload_n g (i := 0) (by decide +kernel) rfl ?_
  refine j_gI g f8_157 (by decide +kernel) (by decide +kernel) (by decide +kernel) ?_
  refine j_if_eq g (off := 107) (tgt := 287) (by decide +kernel) (by decide) (fun c180 => ?_) (fun c180 => ?_)
  · rw [if_pos (show (M.1 600 21) = 0 from c180)] at hp
    refine hr.2.2.2 _ _ _ (by decide +kernel) rfl hrv ?_
    · rw [hmm]; unfold w_X8_wantWork_176; first | (simp only [if_pos (show (M.1 600 21) = 0 from c180)]; done) | (simp only [if_pos (show (M.1 600 21) = 0 from c180)]; rfl) | rfl
  · rw [if_neg (show ¬ ((M.1 600 21) = 0) from c180)] at hp
    refine j_bipush g (n := 8) (8) (by decide +kernel) (by decide +kernel) ?_
    refine j_aload_n g (i := 0) (by decide +kernel) rfl ?_
    refine j_gI g f8_174 (by decide +kernel) (by decide +kernel) (by decide +kernel) ?_
    refine j_imul g (by decide +kernel) ?_
    refine j_istore g (i := 9) (by decide +kernel) (by decide) ?_
    dsimp only [stL, clL, hdL]
    refine j_aload_n g (i := 0) (by decide +kernel) rfl ?_
    refine j_gA g (b := 612) f8_43 (by decide +kernel) (by decide +kernel) (by decide +kernel) (by decide +kernel) ?_
    refine j_iload g (i := 9) (by decide +kernel) rfl ?_
    refine j_iload_n g (i := 1) (by decide +kernel) rfl ?_
    obtain ⟨h0, hp⟩ := hp
    refine j_is g 48 (by decide +kernel) (by decide +kernel) (by decide +kernel) h0 ?_
    refine j_aload_n g (i := 0) (by decide +kernel) rfl ?_
    refine j_gA g (b := 612) f8_43 (by decide +kernel) (by decide +kernel) (by decide +kernel) (by decide +kernel) ?_
    refine j_iload g (i := 9) (by decide +kernel) rfl ?_
    refine j_iconst g (n := 1) (1) (by decide +kernel) rfl ?_
    refine j_iadd g (by decide +kernel) ?_
    refine j_iload_n g (i := 2) (by decide +kernel) rfl ?_
    obtain ⟨h0, hp⟩ := hp
    refine j_is g 48 (by decide +kernel) (by decide +kernel) (by decide +kernel) h0 ?_
    refine j_aload_n g (i := 0) (by decide +kernel) rfl ?_
    refine j_gA g (b := 612) f8_43 (by decide +kernel) (by decide +kernel) (by decide +kernel) (by decide +kernel) ?_
    refine j_iload g (i := 9) (by decide +kernel) rfl ?_
    refine j_iconst g (n := 2) (2) (by decide +kernel) rfl ?_
    refine j_iadd g (by decide +kernel) ?_
    refine j_iload_n g (i := 3) (by decide +kernel) rfl ?_
    obtain ⟨h0, hp⟩ := hp
    refine j_is g 48 (by decide +kernel) (by decide +kernel) (by decide +kernel) h0 ?_
    refine j_aload_n g (i := 0) (by decide +kernel) rfl ?_
    refine j_gA g (b := 612) f8_43 (by decide +kernel) (by decide +kernel) (by decide +kernel) (by decide +kernel) ?_
    refine j_iload g (i := 9) (by decide +kernel) rfl ?_
    refine j_iconst g (n := 3) (3) (by decide +kernel) rfl ?_
    refine j_iadd g (by decide +kernel) ?_
    refine j_iload g (i := 4) (by decide +kernel) rfl ?_
    obtain ⟨h0, hp⟩ := hp
    refine j_is g 48 (by decide +kernel) (by decide +kernel) (by decide +kernel) h0 ?_
    refine j_aload_n g (i := 0) (by decide +kernel) rfl ?_
    refine j_gA g (b := 612) f8_43 (by decide +kernel) (by decide +kernel) (by decide +kernel) (by decide +kernel) ?_
    refine j_iload g (i := 9) (by decide +kernel) rfl ?_
    refine j_iconst g (n := 4) (4) (by decide +kernel) rfl ?_
    refine j_iadd g (by decide +kernel) ?_
    refine j_iload g (i := 5) (by decide +kernel) rfl ?_
    obtain ⟨h0, hp⟩ := hp
    refine j_is g 48 (by decide +kernel) (by decide +kernel) (by decide +kernel) h0 ?_
    refine j_aload_n g (i := 0) (by decide +kernel) rfl ?_
    refine j_gA g (b := 612) f8_43 (by decide +kernel) (by decide +kernel) (by decide +kernel) (by decide +kernel) ?_
    refine j_iload g (i := 9) (by decide +kernel) rfl ?_
    refine j_iconst g (n := 5) (5) (by decide +kernel) rfl ?_
    refine j_iadd g (by decide +kernel) ?_
    refine j_iload g (i := 6) (by decide +kernel) rfl ?_
    obtain ⟨h0, hp⟩ := hp
    refine j_is g 48 (by decide +kernel) (by decide +kernel) (by decide +kernel) h0 ?_
    refine j_aload_n g (i := 0) (by decide +kernel) rfl ?_
    refine j_gA g (b := 612) f8_43 (by decide +kernel) (by decide +kernel) (by decide +kernel) (by decide +kernel) ?_
    refine j_iload g (i := 9) (by decide +kernel) rfl ?_
    refine j_bipush g (n := 6) (6) (by decide +kernel) (by decide +kernel) ?_
    refine j_iadd g (by decide +kernel) ?_
    refine j_iload g (i := 7) (by decide +kernel) rfl ?_
    obtain ⟨h0, hp⟩ := hp
    refine j_is g 48 (by decide +kernel) (by decide +kernel) (by decide +kernel) h0 ?_
    refine j_aload_n g (i := 0) (by decide +kernel) rfl ?_
    refine j_gA g (b := 612) f8_43 (by decide +kernel) (by decide +kernel) (by decide +kernel) (by decide +kernel) ?_
    refine j_iload g (i := 9) (by decide +kernel) rfl ?_
    refine j_bipush g (n := 7) (7) (by decide +kernel) (by decide +kernel) ?_
    refine j_iadd g (by decide +kernel) ?_
    refine j_iload g (i := 8) (by decide +kernel) rfl ?_
    obtain ⟨h0, hp⟩ := hp
    refine j_is g 48 (by decide +kernel) (by decide +kernel) (by decide +kernel) h0 ?_
    refine j_aload_n g (i := 0) (by decide +kernel) rfl ?_
    refine j_dup g (by decide +kernel) rfl ?_
    refine j_gI g f8_174 (by decide +kernel) (by decide +kernel) (by decide +kernel) ?_
    refine j_iconst g (n := 1) (1) (by decide +kernel) rfl ?_
    refine j_iadd g (by decide +kernel) ?_
    refine j_pI g f8_174 (fun q h => by cases h; rfl) (by decide +kernel) (by decide +kernel) (by decide +kernel) ?_
    refine hr.2.2.2 _ _ _ (by decide +kernel) rfl hrv ?_
    · rw [hmm]; unfold w_X8_wantWork_176; first | (simp only [if_neg (show ¬ ((M.1 600 21) = 0) from c180)]; done) | (simp only [if_neg (show ¬ ((M.1 600 21) = 0) from c180)]; rfl) | rfl
noncomputable def w_X8_wantWork_172 (M : Mm) (a1 : Int32) (x2 : Int32) (x3 : Int32) (x4 : Int32) (x5 : Int32) (x6 : Int32) (x7 : Int32) (x8 : Int32) : Mm := w_X8_wantWork_176 (w_X8_wantEnd M) a1 x2 x3 x4 x5 x6 x7 x8
def p_X8_wantWork_172 (M : Mm) (a1 : Int32) (x2 : Int32) (x3 : Int32) (x4 : Int32) (x5 : Int32) (x6 : Int32) (x7 : Int32) (x8 : Int32) : Prop := (p_X8_wantEnd M ) ∧ p_X8_wantWork_176 (w_X8_wantEnd M) a1 x2 x3 x4 x5 x6 x7 x8
theorem jn_X8_wantWork_172 {d : Nat} {J : Nat → Lc → List Value → Mm → Prop} {M : Mm} {a1 : Int32} {x2 : Int32} {x3 : Int32} {x4 : Int32} {x5 : Int32} {x6 : Int32} {x7 : Int32} {x8 : Int32}  (g : Good mX8_wantWork.1 mX8_wantWork.2.2.1 mX8_wantWork.2.2.2.1 (d + 4) J) {rv : Option Value} {M1 : Mm} (hr : Ret mX8_wantWork.2.2.1 mX8_wantWork.2.2.2.2 rv M1 J) (hp : p_X8_wantWork_172 M a1 x2 x3 x4 x5 x6 x7 x8) (hrv : rv = none) (hmm : M1 = w_X8_wantWork_172 M a1 x2 x3 x4 x5 x6 x7 x8) : J 172 [some (.ref 600), some (.int a1), some (.int x2), some (.int x3), some (.int x4), some (.int x5), some (.int x6), some (.int x7), some (.int x8), none] [] M := by
  unfold p_X8_wantWork_172 at hp
  refine j_aload_n g (i := 0) (by decide +kernel) rfl ?_
  obtain ⟨h0, hp⟩ := hp
  refine j_cV0v g v8_171 ⟨rfl, by decide⟩ (by decide +kernel) (by decide +kernel) (Nat.le_of_ble_eq_true rfl) (rnX8_wantEnd h0) ?_
  refine jn_X8_wantWork_176  g hr hp ?_ ?_ 
  · exact hrv
  · rw [hmm]; unfold w_X8_wantWork_172; rfl
noncomputable def w_X8_wantWork_142 (M : Mm) (a1 : Int32) (x2 : Int32) (x3 : Int32) (x4 : Int32) (x5 : Int32) (x6 : Int32) (x7 : Int32) (x8 : Int32) : Mm := if (M.1 600 21) = 0 then w_X8_wantWork_172 M a1 x2 x3 x4 x5 x6 x7 x8 else if (b2i (M.1 600 16 = 1 ∧ M.2 600 19 = 335207579)) = 0 then w_X8_wantWork_172 M a1 x2 x3 x4 x5 x6 x7 x8 else w_X8_wantWork_172 (w_X8_wantNumber (w_X8_advance M) (1 : Int32) (99 : Int32)) a1 x2 x3 x4 x5 x6 x7 (r_X8_wantNumber (w_X8_advance M) (1 : Int32) (99 : Int32))
def p_X8_wantWork_142 (M : Mm) (a1 : Int32) (x2 : Int32) (x3 : Int32) (x4 : Int32) (x5 : Int32) (x6 : Int32) (x7 : Int32) (x8 : Int32) : Prop := (if (M.1 600 21) = 0 then p_X8_wantWork_172 M a1 x2 x3 x4 x5 x6 x7 x8 else (if (b2i (M.1 600 16 = 1 ∧ M.2 600 19 = 335207579)) = 0 then p_X8_wantWork_172 M a1 x2 x3 x4 x5 x6 x7 x8 else (p_X8_advance M ) ∧ (p_X8_wantNumber (w_X8_advance M) (1 : Int32) (99 : Int32)) ∧ p_X8_wantWork_172 (w_X8_wantNumber (w_X8_advance M) (1 : Int32) (99 : Int32)) a1 x2 x3 x4 x5 x6 x7 (r_X8_wantNumber (w_X8_advance M) (1 : Int32) (99 : Int32))))
theorem jn_X8_wantWork_142 {d : Nat} {J : Nat → Lc → List Value → Mm → Prop} {M : Mm} {a1 : Int32} {x2 : Int32} {x3 : Int32} {x4 : Int32} {x5 : Int32} {x6 : Int32} {x7 : Int32} {x8 : Int32}  (g : Good mX8_wantWork.1 mX8_wantWork.2.2.1 mX8_wantWork.2.2.2.1 (d + 4) J) {rv : Option Value} {M1 : Mm} (hr : Ret mX8_wantWork.2.2.1 mX8_wantWork.2.2.2.2 rv M1 J) (hp : p_X8_wantWork_142 M a1 x2 x3 x4 x5 x6 x7 x8) (hrv : rv = none) (hmm : M1 = w_X8_wantWork_142 M a1 x2 x3 x4 x5 x6 x7 x8) : J 142 [some (.ref 600), some (.int a1), some (.int x2), some (.int x3), some (.int x4), some (.int x5), some (.int x6), some (.int x7), some (.int x8), none] [] M := by
  unfold p_X8_wantWork_142 at hp
  refine j_aload_n g (i := 0) (by decide +kernel) rfl ?_
  refine j_gI g f8_157 (by decide +kernel) (by decide +kernel) (by decide +kernel) ?_
  refine j_if_eq g (off := 26) (tgt := 172) (by decide +kernel) (by decide) (fun c146 => ?_) (fun c146 => ?_)
  · rw [if_pos (show (M.1 600 21) = 0 from c146)] at hp
    refine jn_X8_wantWork_172  g hr hp ?_ ?_ 
    · exact hrv
    · rw [hmm]; unfold w_X8_wantWork_142; first | (simp only [if_pos (show (M.1 600 21) = 0 from c146)]; done) | (simp only [if_pos (show (M.1 600 21) = 0 from c146)]; rfl) | rfl
  · rw [if_neg (show ¬ ((M.1 600 21) = 0) from c146)] at hp
    refine j_aload_n g (i := 0) (by decide +kernel) rfl ?_
    refine j_ldc2 g (n := 195) (335207579) (by decide +kernel) k8_195 ?_
    refine j_cV1r g v8_143 ⟨rfl, by decide⟩ (by decide +kernel) (by decide +kernel) (Nat.le_of_ble_eq_true rfl) (rnX8_isWord) ?_
    refine j_if_eq g (off := 16) (tgt := 172) (by decide +kernel) (by decide) (fun c156 => ?_) (fun c156 => ?_)
    · rw [if_pos (show (b2i (M.1 600 16 = 1 ∧ M.2 600 19 = 335207579)) = 0 from c156)] at hp
      refine jn_X8_wantWork_172  g hr hp ?_ ?_ 
      · exact hrv
      · rw [hmm]; unfold w_X8_wantWork_142; first | (simp only [if_neg (show ¬ ((M.1 600 21) = 0) from c146), if_pos (show (b2i (M.1 600 16 = 1 ∧ M.2 600 19 = 335207579)) = 0 from c156)]; done) | (simp only [if_neg (show ¬ ((M.1 600 21) = 0) from c146), if_pos (show (b2i (M.1 600 16 = 1 ∧ M.2 600 19 = 335207579)) = 0 from c156)]; rfl) | rfl
    · rw [if_neg (show ¬ ((b2i (M.1 600 16 = 1 ∧ M.2 600 19 = 335207579)) = 0) from c156)] at hp
      refine j_aload_n g (i := 0) (by decide +kernel) rfl ?_
      obtain ⟨h0, hp⟩ := hp
      refine j_cV0v g v8_161 ⟨rfl, by decide⟩ (by decide +kernel) (by decide +kernel) (Nat.le_of_ble_eq_true rfl) (rnX8_advance h0) ?_
      refine j_aload_n g (i := 0) (by decide +kernel) rfl ?_
      refine j_iconst g (n := 1) (1) (by decide +kernel) rfl ?_
      refine j_bipush g (n := 99) (99) (by decide +kernel) (by decide +kernel) ?_
      obtain ⟨h0, hp⟩ := hp
      refine j_cV2r g v8_167 ⟨rfl, by decide⟩ (by decide +kernel) (by decide +kernel) (Nat.le_of_ble_eq_true rfl) (rnX8_wantNumber h0) ?_
      refine j_istore g (i := 8) (by decide +kernel) (by decide) ?_
      dsimp only [stL, clL, hdL]
      refine jn_X8_wantWork_172  g hr hp ?_ ?_ 
      · exact hrv
      · rw [hmm]; unfold w_X8_wantWork_142; first | (simp only [if_neg (show ¬ ((M.1 600 21) = 0) from c146), if_neg (show ¬ ((b2i (M.1 600 16 = 1 ∧ M.2 600 19 = 335207579)) = 0) from c156)]; done) | (simp only [if_neg (show ¬ ((M.1 600 21) = 0) from c146), if_neg (show ¬ ((b2i (M.1 600 16 = 1 ∧ M.2 600 19 = 335207579)) = 0) from c156)]; rfl) | rfl
noncomputable def w_X8_wantWork_102 (M : Mm) (a1 : Int32) (x2 : Int32) (x3 : Int32) (x4 : Int32) (x5 : Int32) (x6 : Int32) : Mm := if (M.1 600 21) = 0 then w_X8_wantWork_172 M a1 x2 x3 x4 x5 x6 (-1) 0 else if (b2i (M.1 600 16 = 1 ∧ M.2 600 19 = 31519426)) = 0 then w_X8_wantWork_172 M a1 x2 x3 x4 x5 x6 (-1) 0 else w_X8_wantWork_142 (w_X8_wantNumber (w_X8_advance M) (0 : Int32) (((w_X8_advance M).1 600 24) - 1)) a1 x2 x3 x4 x5 x6 (r_X8_wantNumber (w_X8_advance M) (0 : Int32) (((w_X8_advance M).1 600 24) - 1)) 0
def p_X8_wantWork_102 (M : Mm) (a1 : Int32) (x2 : Int32) (x3 : Int32) (x4 : Int32) (x5 : Int32) (x6 : Int32) : Prop := (if (M.1 600 21) = 0 then p_X8_wantWork_172 M a1 x2 x3 x4 x5 x6 (-1) 0 else (if (b2i (M.1 600 16 = 1 ∧ M.2 600 19 = 31519426)) = 0 then p_X8_wantWork_172 M a1 x2 x3 x4 x5 x6 (-1) 0 else (p_X8_advance M ) ∧ (p_X8_wantNumber (w_X8_advance M) (0 : Int32) (((w_X8_advance M).1 600 24) - 1)) ∧ p_X8_wantWork_142 (w_X8_wantNumber (w_X8_advance M) (0 : Int32) (((w_X8_advance M).1 600 24) - 1)) a1 x2 x3 x4 x5 x6 (r_X8_wantNumber (w_X8_advance M) (0 : Int32) (((w_X8_advance M).1 600 24) - 1)) 0))
theorem jn_X8_wantWork_102 {d : Nat} {J : Nat → Lc → List Value → Mm → Prop} {M : Mm} {a1 : Int32} {x2 : Int32} {x3 : Int32} {x4 : Int32} {x5 : Int32} {x6 : Int32}  (g : Good mX8_wantWork.1 mX8_wantWork.2.2.1 mX8_wantWork.2.2.2.1 (d + 4) J) {rv : Option Value} {M1 : Mm} (hr : Ret mX8_wantWork.2.2.1 mX8_wantWork.2.2.2.2 rv M1 J) (hp : p_X8_wantWork_102 M a1 x2 x3 x4 x5 x6) (hrv : rv = none) (hmm : M1 = w_X8_wantWork_102 M a1 x2 x3 x4 x5 x6) : J 102 [some (.ref 600), some (.int a1), some (.int x2), some (.int x3), some (.int x4), some (.int x5), some (.int x6), none, none, none] [] M := by
  unfold p_X8_wantWork_102 at hp
  refine j_iconst g (n := -1) (-1) (by decide +kernel) rfl ?_
  refine j_istore g (i := 7) (by decide +kernel) (by decide) ?_
  dsimp only [stL, clL, hdL]
  refine j_iconst g (n := 0) (0) (by decide +kernel) rfl ?_
  refine j_istore g (i := 8) (by decide +kernel) (by decide) ?_
  dsimp only [stL, clL, hdL]
  refine j_aload_n g (i := 0) (by decide +kernel) rfl ?_
  refine j_gI g f8_157 (by decide +kernel) (by decide +kernel) (by decide +kernel) ?_
  refine j_if_eq g (off := 60) (tgt := 172) (by decide +kernel) (by decide) (fun c112 => ?_) (fun c112 => ?_)
  · rw [if_pos (show (M.1 600 21) = 0 from c112)] at hp
    refine jn_X8_wantWork_172  g hr hp ?_ ?_ 
    · exact hrv
    · rw [hmm]; unfold w_X8_wantWork_102; first | (simp only [if_pos (show (M.1 600 21) = 0 from c112)]; done) | (simp only [if_pos (show (M.1 600 21) = 0 from c112)]; rfl) | rfl
  · rw [if_neg (show ¬ ((M.1 600 21) = 0) from c112)] at hp
    refine j_aload_n g (i := 0) (by decide +kernel) rfl ?_
    refine j_ldc2 g (n := 193) (31519426) (by decide +kernel) k8_193 ?_
    refine j_cV1r g v8_143 ⟨rfl, by decide⟩ (by decide +kernel) (by decide +kernel) (Nat.le_of_ble_eq_true rfl) (rnX8_isWord) ?_
    refine j_if_eq g (off := 50) (tgt := 172) (by decide +kernel) (by decide) (fun c122 => ?_) (fun c122 => ?_)
    · rw [if_pos (show (b2i (M.1 600 16 = 1 ∧ M.2 600 19 = 31519426)) = 0 from c122)] at hp
      refine jn_X8_wantWork_172  g hr hp ?_ ?_ 
      · exact hrv
      · rw [hmm]; unfold w_X8_wantWork_102; first | (simp only [if_neg (show ¬ ((M.1 600 21) = 0) from c112), if_pos (show (b2i (M.1 600 16 = 1 ∧ M.2 600 19 = 31519426)) = 0 from c122)]; done) | (simp only [if_neg (show ¬ ((M.1 600 21) = 0) from c112), if_pos (show (b2i (M.1 600 16 = 1 ∧ M.2 600 19 = 31519426)) = 0 from c122)]; rfl) | rfl
    · rw [if_neg (show ¬ ((b2i (M.1 600 16 = 1 ∧ M.2 600 19 = 31519426)) = 0) from c122)] at hp
      refine j_aload_n g (i := 0) (by decide +kernel) rfl ?_
      obtain ⟨h0, hp⟩ := hp
      refine j_cV0v g v8_161 ⟨rfl, by decide⟩ (by decide +kernel) (by decide +kernel) (Nat.le_of_ble_eq_true rfl) (rnX8_advance h0) ?_
      refine j_aload_n g (i := 0) (by decide +kernel) rfl ?_
      refine j_iconst g (n := 0) (0) (by decide +kernel) rfl ?_
      refine j_aload_n g (i := 0) (by decide +kernel) rfl ?_
      refine j_gI g f8_174 (by decide +kernel) (by decide +kernel) (by decide +kernel) ?_
      refine j_iconst g (n := 1) (1) (by decide +kernel) rfl ?_
      refine j_isub g (by decide +kernel) ?_
      obtain ⟨h0, hp⟩ := hp
      refine j_cV2r g v8_167 ⟨rfl, by decide⟩ (by decide +kernel) (by decide +kernel) (Nat.le_of_ble_eq_true rfl) (rnX8_wantNumber h0) ?_
      refine j_istore g (i := 7) (by decide +kernel) (by decide) ?_
      dsimp only [stL, clL, hdL]
      refine jn_X8_wantWork_142  g hr hp ?_ ?_ 
      · exact hrv
      · rw [hmm]; unfold w_X8_wantWork_102; first | (simp only [if_neg (show ¬ ((M.1 600 21) = 0) from c112), if_neg (show ¬ ((b2i (M.1 600 16 = 1 ∧ M.2 600 19 = 31519426)) = 0) from c122)]; done) | (simp only [if_neg (show ¬ ((M.1 600 21) = 0) from c112), if_neg (show ¬ ((b2i (M.1 600 16 = 1 ∧ M.2 600 19 = 31519426)) = 0) from c122)]; rfl) | rfl
noncomputable def w_X8_wantWork_93 (M : Mm) (a1 : Int32) (x2 : Int32) (x3 : Int32) (x4 : Int32) (x5 : Int32) : Mm := w_X8_wantWork_102 (w_X8_wantNumber M (0 : Int32) (99 : Int32)) a1 x2 x3 x4 x5 (r_X8_wantNumber M (0 : Int32) (99 : Int32))
def p_X8_wantWork_93 (M : Mm) (a1 : Int32) (x2 : Int32) (x3 : Int32) (x4 : Int32) (x5 : Int32) : Prop := (p_X8_wantNumber M (0 : Int32) (99 : Int32)) ∧ p_X8_wantWork_102 (w_X8_wantNumber M (0 : Int32) (99 : Int32)) a1 x2 x3 x4 x5 (r_X8_wantNumber M (0 : Int32) (99 : Int32))
theorem jn_X8_wantWork_93 {d : Nat} {J : Nat → Lc → List Value → Mm → Prop} {M : Mm} {a1 : Int32} {x2 : Int32} {x3 : Int32} {x4 : Int32} {x5 : Int32}  (g : Good mX8_wantWork.1 mX8_wantWork.2.2.1 mX8_wantWork.2.2.2.1 (d + 4) J) {rv : Option Value} {M1 : Mm} (hr : Ret mX8_wantWork.2.2.1 mX8_wantWork.2.2.2.2 rv M1 J) (hp : p_X8_wantWork_93 M a1 x2 x3 x4 x5) (hrv : rv = none) (hmm : M1 = w_X8_wantWork_93 M a1 x2 x3 x4 x5) : J 93 [some (.ref 600), some (.int a1), some (.int x2), some (.int x3), some (.int x4), some (.int x5), none, none, none, none] [] M := by
  unfold p_X8_wantWork_93 at hp
  refine j_aload_n g (i := 0) (by decide +kernel) rfl ?_
  refine j_iconst g (n := 0) (0) (by decide +kernel) rfl ?_
  refine j_bipush g (n := 99) (99) (by decide +kernel) (by decide +kernel) ?_
  obtain ⟨h0, hp⟩ := hp
  refine j_cV2r g v8_167 ⟨rfl, by decide⟩ (by decide +kernel) (by decide +kernel) (Nat.le_of_ble_eq_true rfl) (rnX8_wantNumber h0) ?_
  refine j_istore g (i := 6) (by decide +kernel) (by decide) ?_
  dsimp only [stL, clL, hdL]
  refine jn_X8_wantWork_102  g hr hp ?_ ?_ 
  · exact hrv
  · rw [hmm]; unfold w_X8_wantWork_93; rfl
noncomputable def w_X8_wantWork_86 (M : Mm) (a1 : Int32) (x2 : Int32) (x3 : Int32) (x4 : Int32) (x5 : Int32) : Mm := w_X8_wantWork_93 (w_X8_wantWord M 4797) a1 x2 x3 x4 x5
def p_X8_wantWork_86 (M : Mm) (a1 : Int32) (x2 : Int32) (x3 : Int32) (x4 : Int32) (x5 : Int32) : Prop := (p_X8_wantWord M 4797) ∧ p_X8_wantWork_93 (w_X8_wantWord M 4797) a1 x2 x3 x4 x5
theorem jn_X8_wantWork_86 {d : Nat} {J : Nat → Lc → List Value → Mm → Prop} {M : Mm} {a1 : Int32} {x2 : Int32} {x3 : Int32} {x4 : Int32} {x5 : Int32}  (g : Good mX8_wantWork.1 mX8_wantWork.2.2.1 mX8_wantWork.2.2.2.1 (d + 4) J) {rv : Option Value} {M1 : Mm} (hr : Ret mX8_wantWork.2.2.1 mX8_wantWork.2.2.2.2 rv M1 J) (hp : p_X8_wantWork_86 M a1 x2 x3 x4 x5) (hrv : rv = none) (hmm : M1 = w_X8_wantWork_86 M a1 x2 x3 x4 x5) : J 86 [some (.ref 600), some (.int a1), some (.int x2), some (.int x3), some (.int x4), some (.int x5), none, none, none, none] [] M := by
  unfold p_X8_wantWork_86 at hp
  refine j_aload_n g (i := 0) (by decide +kernel) rfl ?_
  refine j_ldc2 g (n := 191) (4797) (by decide +kernel) k8_191 ?_
  obtain ⟨h0, hp⟩ := hp
  refine j_cV1v g v8_185 ⟨rfl, by decide⟩ (by decide +kernel) (by decide +kernel) (Nat.le_of_ble_eq_true rfl) (rnX8_wantWord h0) ?_
  refine jn_X8_wantWork_93  g hr hp ?_ ?_ 
  · exact hrv
  · rw [hmm]; unfold w_X8_wantWork_86; rfl
noncomputable def w_X8_wantWork_76 (M : Mm) (a1 : Int32) (x2 : Int32) (x3 : Int32) (x4 : Int32) : Mm := w_X8_wantWork_86 (w_X8_wantNumber M (0 : Int32) (999 : Int32)) a1 x2 x3 x4 (r_X8_wantNumber M (0 : Int32) (999 : Int32))
def p_X8_wantWork_76 (M : Mm) (a1 : Int32) (x2 : Int32) (x3 : Int32) (x4 : Int32) : Prop := (p_X8_wantNumber M (0 : Int32) (999 : Int32)) ∧ p_X8_wantWork_86 (w_X8_wantNumber M (0 : Int32) (999 : Int32)) a1 x2 x3 x4 (r_X8_wantNumber M (0 : Int32) (999 : Int32))
theorem jn_X8_wantWork_76 {d : Nat} {J : Nat → Lc → List Value → Mm → Prop} {M : Mm} {a1 : Int32} {x2 : Int32} {x3 : Int32} {x4 : Int32}  (g : Good mX8_wantWork.1 mX8_wantWork.2.2.1 mX8_wantWork.2.2.2.1 (d + 4) J) {rv : Option Value} {M1 : Mm} (hr : Ret mX8_wantWork.2.2.1 mX8_wantWork.2.2.2.2 rv M1 J) (hp : p_X8_wantWork_76 M a1 x2 x3 x4) (hrv : rv = none) (hmm : M1 = w_X8_wantWork_76 M a1 x2 x3 x4) : J 76 [some (.ref 600), some (.int a1), some (.int x2), some (.int x3), some (.int x4), none, none, none, none, none] [] M := by
  unfold p_X8_wantWork_76 at hp
  refine j_aload_n g (i := 0) (by decide +kernel) rfl ?_
  refine j_iconst g (n := 0) (0) (by decide +kernel) rfl ?_
  refine j_sipush g (n := 999) (999) (by decide +kernel) (by decide +kernel) ?_
  obtain ⟨h0, hp⟩ := hp
  refine j_cV2r g v8_167 ⟨rfl, by decide⟩ (by decide +kernel) (by decide +kernel) (Nat.le_of_ble_eq_true rfl) (rnX8_wantNumber h0) ?_
  refine j_istore g (i := 5) (by decide +kernel) (by decide) ?_
  dsimp only [stL, clL, hdL]
  refine jn_X8_wantWork_86  g hr hp ?_ ?_ 
  · exact hrv
  · rw [hmm]; unfold w_X8_wantWork_76; rfl
noncomputable def w_X8_wantWork_69 (M : Mm) (a1 : Int32) (x2 : Int32) (x3 : Int32) (x4 : Int32) : Mm := w_X8_wantWork_76 (w_X8_wantWord M 79) a1 x2 x3 x4
def p_X8_wantWork_69 (M : Mm) (a1 : Int32) (x2 : Int32) (x3 : Int32) (x4 : Int32) : Prop := (p_X8_wantWord M 79) ∧ p_X8_wantWork_76 (w_X8_wantWord M 79) a1 x2 x3 x4
theorem jn_X8_wantWork_69 {d : Nat} {J : Nat → Lc → List Value → Mm → Prop} {M : Mm} {a1 : Int32} {x2 : Int32} {x3 : Int32} {x4 : Int32}  (g : Good mX8_wantWork.1 mX8_wantWork.2.2.1 mX8_wantWork.2.2.2.1 (d + 4) J) {rv : Option Value} {M1 : Mm} (hr : Ret mX8_wantWork.2.2.1 mX8_wantWork.2.2.2.2 rv M1 J) (hp : p_X8_wantWork_69 M a1 x2 x3 x4) (hrv : rv = none) (hmm : M1 = w_X8_wantWork_69 M a1 x2 x3 x4) : J 69 [some (.ref 600), some (.int a1), some (.int x2), some (.int x3), some (.int x4), none, none, none, none, none] [] M := by
  unfold p_X8_wantWork_69 at hp
  refine j_aload_n g (i := 0) (by decide +kernel) rfl ?_
  refine j_ldc2 g (n := 189) (79) (by decide +kernel) k8_189 ?_
  obtain ⟨h0, hp⟩ := hp
  refine j_cV1v g v8_185 ⟨rfl, by decide⟩ (by decide +kernel) (by decide +kernel) (Nat.le_of_ble_eq_true rfl) (rnX8_wantWord h0) ?_
  refine jn_X8_wantWork_76  g hr hp ?_ ?_ 
  · exact hrv
  · rw [hmm]; unfold w_X8_wantWork_69; rfl
noncomputable def w_X8_wantWork_60 (M : Mm) (a1 : Int32) (x2 : Int32) (x3 : Int32) : Mm := w_X8_wantWork_69 (w_X8_wantNumber M (0 : Int32) (9 : Int32)) a1 x2 x3 (r_X8_wantNumber M (0 : Int32) (9 : Int32))
def p_X8_wantWork_60 (M : Mm) (a1 : Int32) (x2 : Int32) (x3 : Int32) : Prop := (p_X8_wantNumber M (0 : Int32) (9 : Int32)) ∧ p_X8_wantWork_69 (w_X8_wantNumber M (0 : Int32) (9 : Int32)) a1 x2 x3 (r_X8_wantNumber M (0 : Int32) (9 : Int32))
theorem jn_X8_wantWork_60 {d : Nat} {J : Nat → Lc → List Value → Mm → Prop} {M : Mm} {a1 : Int32} {x2 : Int32} {x3 : Int32}  (g : Good mX8_wantWork.1 mX8_wantWork.2.2.1 mX8_wantWork.2.2.2.1 (d + 4) J) {rv : Option Value} {M1 : Mm} (hr : Ret mX8_wantWork.2.2.1 mX8_wantWork.2.2.2.2 rv M1 J) (hp : p_X8_wantWork_60 M a1 x2 x3) (hrv : rv = none) (hmm : M1 = w_X8_wantWork_60 M a1 x2 x3) : J 60 [some (.ref 600), some (.int a1), some (.int x2), some (.int x3), none, none, none, none, none, none] [] M := by
  unfold p_X8_wantWork_60 at hp
  refine j_aload_n g (i := 0) (by decide +kernel) rfl ?_
  refine j_iconst g (n := 0) (0) (by decide +kernel) rfl ?_
  refine j_bipush g (n := 9) (9) (by decide +kernel) (by decide +kernel) ?_
  obtain ⟨h0, hp⟩ := hp
  refine j_cV2r g v8_167 ⟨rfl, by decide⟩ (by decide +kernel) (by decide +kernel) (Nat.le_of_ble_eq_true rfl) (rnX8_wantNumber h0) ?_
  refine j_istore g (i := 4) (by decide +kernel) (by decide) ?_
  dsimp only [stL, clL, hdL]
  refine jn_X8_wantWork_69  g hr hp ?_ ?_ 
  · exact hrv
  · rw [hmm]; unfold w_X8_wantWork_60; rfl
noncomputable def w_X8_wantWork_53 (M : Mm) (a1 : Int32) (x2 : Int32) (x3 : Int32) : Mm := w_X8_wantWork_60 (w_X8_wantWord M 555) a1 x2 x3
def p_X8_wantWork_53 (M : Mm) (a1 : Int32) (x2 : Int32) (x3 : Int32) : Prop := (p_X8_wantWord M 555) ∧ p_X8_wantWork_60 (w_X8_wantWord M 555) a1 x2 x3
theorem jn_X8_wantWork_53 {d : Nat} {J : Nat → Lc → List Value → Mm → Prop} {M : Mm} {a1 : Int32} {x2 : Int32} {x3 : Int32}  (g : Good mX8_wantWork.1 mX8_wantWork.2.2.1 mX8_wantWork.2.2.2.1 (d + 4) J) {rv : Option Value} {M1 : Mm} (hr : Ret mX8_wantWork.2.2.1 mX8_wantWork.2.2.2.2 rv M1 J) (hp : p_X8_wantWork_53 M a1 x2 x3) (hrv : rv = none) (hmm : M1 = w_X8_wantWork_53 M a1 x2 x3) : J 53 [some (.ref 600), some (.int a1), some (.int x2), some (.int x3), none, none, none, none, none, none] [] M := by
  unfold p_X8_wantWork_53 at hp
  refine j_aload_n g (i := 0) (by decide +kernel) rfl ?_
  refine j_ldc2 g (n := 183) (555) (by decide +kernel) k8_183 ?_
  obtain ⟨h0, hp⟩ := hp
  refine j_cV1v g v8_185 ⟨rfl, by decide⟩ (by decide +kernel) (by decide +kernel) (Nat.le_of_ble_eq_true rfl) (rnX8_wantWord h0) ?_
  refine jn_X8_wantWork_60  g hr hp ?_ ?_ 
  · exact hrv
  · rw [hmm]; unfold w_X8_wantWork_53; rfl
noncomputable def w_X8_wantWork_41 (M : Mm) (a1 : Int32) (x2 : Int32) : Mm := w_X8_wantWork_53 (w_X8_wantNumber M (0 : Int32) ((M.1 600 23) - 1)) a1 x2 (r_X8_wantNumber M (0 : Int32) ((M.1 600 23) - 1))
def p_X8_wantWork_41 (M : Mm) (a1 : Int32) (x2 : Int32) : Prop := (p_X8_wantNumber M (0 : Int32) ((M.1 600 23) - 1)) ∧ p_X8_wantWork_53 (w_X8_wantNumber M (0 : Int32) ((M.1 600 23) - 1)) a1 x2 (r_X8_wantNumber M (0 : Int32) ((M.1 600 23) - 1))
theorem jn_X8_wantWork_41 {d : Nat} {J : Nat → Lc → List Value → Mm → Prop} {M : Mm} {a1 : Int32} {x2 : Int32}  (g : Good mX8_wantWork.1 mX8_wantWork.2.2.1 mX8_wantWork.2.2.2.1 (d + 4) J) {rv : Option Value} {M1 : Mm} (hr : Ret mX8_wantWork.2.2.1 mX8_wantWork.2.2.2.2 rv M1 J) (hp : p_X8_wantWork_41 M a1 x2) (hrv : rv = none) (hmm : M1 = w_X8_wantWork_41 M a1 x2) : J 41 [some (.ref 600), some (.int a1), some (.int x2), none, none, none, none, none, none, none] [] M := by
  unfold p_X8_wantWork_41 at hp
  refine j_aload_n g (i := 0) (by decide +kernel) rfl ?_
  refine j_iconst g (n := 0) (0) (by decide +kernel) rfl ?_
  refine j_aload_n g (i := 0) (by decide +kernel) rfl ?_
  refine j_gI g f8_180 (by decide +kernel) (by decide +kernel) (by decide +kernel) ?_
  refine j_iconst g (n := 1) (1) (by decide +kernel) rfl ?_
  refine j_isub g (by decide +kernel) ?_
  obtain ⟨h0, hp⟩ := hp
  refine j_cV2r g v8_167 ⟨rfl, by decide⟩ (by decide +kernel) (by decide +kernel) (Nat.le_of_ble_eq_true rfl) (rnX8_wantNumber h0) ?_
  refine j_istore_n g (i := 3) (by decide +kernel) (by decide) ?_
  dsimp only [stL, clL, hdL]
  refine jn_X8_wantWork_53  g hr hp ?_ ?_ 
  · exact hrv
  · rw [hmm]; unfold w_X8_wantWork_41; rfl
noncomputable def w_X8_wantWork_29 (M : Mm) (a1 : Int32)  : Mm := w_X8_wantWork_41 (w_X8_wantNumber M (0 : Int32) ((M.1 600 22) - 1)) a1 (r_X8_wantNumber M (0 : Int32) ((M.1 600 22) - 1))
def p_X8_wantWork_29 (M : Mm) (a1 : Int32)  : Prop := (p_X8_wantNumber M (0 : Int32) ((M.1 600 22) - 1)) ∧ p_X8_wantWork_41 (w_X8_wantNumber M (0 : Int32) ((M.1 600 22) - 1)) a1 (r_X8_wantNumber M (0 : Int32) ((M.1 600 22) - 1))
theorem jn_X8_wantWork_29 {d : Nat} {J : Nat → Lc → List Value → Mm → Prop} {M : Mm} {a1 : Int32}   (g : Good mX8_wantWork.1 mX8_wantWork.2.2.1 mX8_wantWork.2.2.2.1 (d + 4) J) {rv : Option Value} {M1 : Mm} (hr : Ret mX8_wantWork.2.2.1 mX8_wantWork.2.2.2.2 rv M1 J) (hp : p_X8_wantWork_29 M a1 ) (hrv : rv = none) (hmm : M1 = w_X8_wantWork_29 M a1 ) : J 29 [some (.ref 600), some (.int a1), none, none, none, none, none, none, none, none] [] M := by
  unfold p_X8_wantWork_29 at hp
  refine j_aload_n g (i := 0) (by decide +kernel) rfl ?_
  refine j_iconst g (n := 0) (0) (by decide +kernel) rfl ?_
  refine j_aload_n g (i := 0) (by decide +kernel) rfl ?_
  refine j_gI g f8_177 (by decide +kernel) (by decide +kernel) (by decide +kernel) ?_
  refine j_iconst g (n := 1) (1) (by decide +kernel) rfl ?_
  refine j_isub g (by decide +kernel) ?_
  obtain ⟨h0, hp⟩ := hp
  refine j_cV2r g v8_167 ⟨rfl, by decide⟩ (by decide +kernel) (by decide +kernel) (Nat.le_of_ble_eq_true rfl) (rnX8_wantNumber h0) ?_
  refine j_istore_n g (i := 2) (by decide +kernel) (by decide) ?_
  dsimp only [stL, clL, hdL]
  refine jn_X8_wantWork_41  g hr hp ?_ ?_ 
  · exact hrv
  · rw [hmm]; unfold w_X8_wantWork_29; rfl
noncomputable def w_X8_wantWork_18 (M : Mm) (a1 : Int32)  : Mm := if (M.1 600 21) = 0 then w_X8_wantWork_29 M a1 else w_X8_wantWork_29 (w_X8_advance M) a1
def p_X8_wantWork_18 (M : Mm) (a1 : Int32)  : Prop := (if (M.1 600 21) = 0 then p_X8_wantWork_29 M a1 else (p_X8_advance M ) ∧ p_X8_wantWork_29 (w_X8_advance M) a1)
theorem jn_X8_wantWork_18 {d : Nat} {J : Nat → Lc → List Value → Mm → Prop} {M : Mm} {a1 : Int32}   (g : Good mX8_wantWork.1 mX8_wantWork.2.2.1 mX8_wantWork.2.2.2.1 (d + 4) J) {rv : Option Value} {M1 : Mm} (hr : Ret mX8_wantWork.2.2.1 mX8_wantWork.2.2.2.2 rv M1 J) (hp : p_X8_wantWork_18 M a1 ) (hrv : rv = none) (hmm : M1 = w_X8_wantWork_18 M a1 ) : J 18 [some (.ref 600), some (.int a1), none, none, none, none, none, none, none, none] [] M := by
  unfold p_X8_wantWork_18 at hp
  refine j_aload_n g (i := 0) (by decide +kernel) rfl ?_
  refine j_gI g f8_157 (by decide +kernel) (by decide +kernel) (by decide +kernel) ?_
  refine j_if_eq g (off := 7) (tgt := 29) (by decide +kernel) (by decide) (fun c22 => ?_) (fun c22 => ?_)
  · rw [if_pos (show (M.1 600 21) = 0 from c22)] at hp
    refine jn_X8_wantWork_29  g hr hp ?_ ?_ 
    · exact hrv
    · rw [hmm]; unfold w_X8_wantWork_18; first | (simp only [if_pos (show (M.1 600 21) = 0 from c22)]; done) | (simp only [if_pos (show (M.1 600 21) = 0 from c22)]; rfl) | rfl
  · rw [if_neg (show ¬ ((M.1 600 21) = 0) from c22)] at hp
    refine j_aload_n g (i := 0) (by decide +kernel) rfl ?_
    obtain ⟨h0, hp⟩ := hp
    refine j_cV0v g v8_161 ⟨rfl, by decide⟩ (by decide +kernel) (by decide +kernel) (Nat.le_of_ble_eq_true rfl) (rnX8_advance h0) ?_
    refine jn_X8_wantWork_29  g hr hp ?_ ?_ 
    · exact hrv
    · rw [hmm]; unfold w_X8_wantWork_18; first | (simp only [if_neg (show ¬ ((M.1 600 21) = 0) from c22)]; done) | (simp only [if_neg (show ¬ ((M.1 600 21) = 0) from c22)]; rfl) | rfl
noncomputable def w_X8_wantWork (M : Mm) (a1 : Int32) : Mm := if (6 : Int32) ≤ (M.1 600 24) then w_X8_wantWork_18 (wi M 600 21 0) a1 else w_X8_wantWork_18 (wi M 600 21 1) a1
def p_X8_wantWork (M : Mm) (a1 : Int32) : Prop := (if (6 : Int32) ≤ (M.1 600 24) then p_X8_wantWork_18 (wi M 600 21 0) a1 else p_X8_wantWork_18 (wi M 600 21 1) a1)
set_option maxRecDepth 20000 in
theorem rnX8_wantWork {d : Nat} {M : Mm} {a1 : Int32}  (hp : p_X8_wantWork M a1) : Rn (d + 4) mX8_wantWork [.ref 600, .int a1] M none (w_X8_wantWork M a1) := by
  refine Rn.of [some (.ref 600), some (.int a1), none, none, none, none, none, none, none, none] (by decide +kernel) rfl (Nat.le_of_ble_eq_true rfl) rfl (fun J g hr => ?_)
  unfold p_X8_wantWork at hp
  refine j_aload_n g (i := 0) (by decide +kernel) rfl ?_
  refine j_aload_n g (i := 0) (by decide +kernel) rfl ?_
  refine j_gI g f8_174 (by decide +kernel) (by decide +kernel) (by decide +kernel) ?_
  refine j_bipush g (n := 6) (6) (by decide +kernel) (by decide +kernel) ?_
  refine j_icmp_ge g (off := 7) (tgt := 14) (by decide +kernel) (by decide) (fun c7 => ?_) (fun c7 => ?_)
  · rw [if_pos (show (6 : Int32) ≤ (M.1 600 24) from c7)] at hp
    refine j_iconst g (n := 0) (0) (by decide +kernel) rfl ?_
    refine j_pZ g f8_157 (fun q h => by cases h; rfl) (by decide +kernel) (by decide +kernel) (by decide +kernel) (by decide) ?_
    refine jn_X8_wantWork_18  g hr hp ?_ ?_ 
    · rfl
    · unfold w_X8_wantWork; first | (simp only [if_pos (show (6 : Int32) ≤ (M.1 600 24) from c7)]; done) | (simp only [if_pos (show (6 : Int32) ≤ (M.1 600 24) from c7)]; rfl) | rfl
  · rw [if_neg (show ¬ ((6 : Int32) ≤ (M.1 600 24)) from c7)] at hp
    refine j_iconst g (n := 1) (1) (by decide +kernel) rfl ?_
    refine j_goto g (off := 4) (tgt := 15) (by decide +kernel) (by decide) ?_
    refine j_pZ g f8_157 (fun q h => by cases h; rfl) (by decide +kernel) (by decide +kernel) (by decide +kernel) (by decide) ?_
    refine jn_X8_wantWork_18  g hr hp ?_ ?_ 
    · rfl
    · unfold w_X8_wantWork; first | (simp only [if_neg (show ¬ ((6 : Int32) ≤ (M.1 600 24)) from c7)]; done) | (simp only [if_neg (show ¬ ((6 : Int32) ≤ (M.1 600 24)) from c7)]; rfl) | rfl
noncomputable def w_X8_wantLaw_53 (M : Mm) (a1 : Int32)  : Mm := (w_X8_wantEnd M)
def p_X8_wantLaw_53 (M : Mm) (a1 : Int32)  : Prop := (p_X8_wantEnd M ) ∧ True
theorem jn_X8_wantLaw_53 {d : Nat} {J : Nat → Lc → List Value → Mm → Prop} {M : Mm} {a1 : Int32}   (g : Good mX8_wantLaw.1 mX8_wantLaw.2.2.1 mX8_wantLaw.2.2.2.1 (d + 4) J) {rv : Option Value} {M1 : Mm} (hr : Ret mX8_wantLaw.2.2.1 mX8_wantLaw.2.2.2.2 rv M1 J) (hp : p_X8_wantLaw_53 M a1 ) (hrv : rv = none) (hmm : M1 = w_X8_wantLaw_53 M a1 ) : J 53 [some (.ref 600), some (.int a1)] [] M := by
  unfold p_X8_wantLaw_53 at hp
  refine j_aload_n g (i := 0) (by decide +kernel) rfl ?_
  obtain ⟨h0, hp⟩ := hp
  refine j_cV0v g v8_171 ⟨rfl, by decide⟩ (by decide +kernel) (by decide +kernel) (Nat.le_of_ble_eq_true rfl) (rnX8_wantEnd h0) ?_
  refine hr.2.2.2 _ _ _ (by decide +kernel) rfl hrv ?_
  · rw [hmm]; unfold w_X8_wantLaw_53; rfl
noncomputable def w_X8_wantLaw_26 (M : Mm) (a1 : Int32)  : Mm := if ¬ a1 = (1 : Int32) then w_X8_wantLaw_53 M a1 else w_X8_wantLaw_53 (wi (w_X8_wantNumber M (M.1 605 2) (M.1 606 2)) 613 2 (r_X8_wantNumber M (M.1 605 2) (M.1 606 2))) a1
def p_X8_wantLaw_26 (M : Mm) (a1 : Int32)  : Prop := (if ¬ a1 = (1 : Int32) then p_X8_wantLaw_53 M a1 else (p_X8_wantNumber M (M.1 605 2) (M.1 606 2)) ∧ p_X8_wantLaw_53 (wi (w_X8_wantNumber M (M.1 605 2) (M.1 606 2)) 613 2 (r_X8_wantNumber M (M.1 605 2) (M.1 606 2))) a1)
theorem jn_X8_wantLaw_26 {d : Nat} {J : Nat → Lc → List Value → Mm → Prop} {M : Mm} {a1 : Int32}   (g : Good mX8_wantLaw.1 mX8_wantLaw.2.2.1 mX8_wantLaw.2.2.2.1 (d + 4) J) {rv : Option Value} {M1 : Mm} (hr : Ret mX8_wantLaw.2.2.1 mX8_wantLaw.2.2.2.2 rv M1 J) (hp : p_X8_wantLaw_26 M a1 ) (hrv : rv = none) (hmm : M1 = w_X8_wantLaw_26 M a1 ) : J 26 [some (.ref 600), some (.int a1)] [] M := by
  unfold p_X8_wantLaw_26 at hp
  refine j_iload_n g (i := 1) (by decide +kernel) rfl ?_
  refine j_iconst g (n := 1) (1) (by decide +kernel) rfl ?_
  refine j_icmp_ne g (off := 25) (tgt := 53) (by decide +kernel) (by decide) (fun c28 => ?_) (fun c28 => ?_)
  · rw [if_pos (show ¬ a1 = (1 : Int32) from c28)] at hp
    refine jn_X8_wantLaw_53  g hr hp ?_ ?_ 
    · exact hrv
    · rw [hmm]; unfold w_X8_wantLaw_26; first | (simp only [if_pos (show ¬ a1 = (1 : Int32) from c28)]; done) | (simp only [if_pos (show ¬ a1 = (1 : Int32) from c28)]; rfl) | rfl
  · rw [if_neg (show ¬ (¬ a1 = (1 : Int32)) from c28)] at hp
    refine j_aload_n g (i := 0) (by decide +kernel) rfl ?_
    refine j_gA g (b := 613) f8_46 (by decide +kernel) (by decide +kernel) (by decide +kernel) (by decide +kernel) ?_
    refine j_iconst g (n := 2) (2) (by decide +kernel) rfl ?_
    refine j_aload_n g (i := 0) (by decide +kernel) rfl ?_
    refine j_aload_n g (i := 0) (by decide +kernel) rfl ?_
    refine j_gA g (b := 605) f8_22 (by decide +kernel) (by decide +kernel) (by decide +kernel) (by decide +kernel) ?_
    refine j_iconst g (n := 2) (2) (by decide +kernel) rfl ?_
    refine j_iac g 4 2 (by decide +kernel) (by decide +kernel) (by decide +kernel) (vin_b (by decide +kernel)) (by decide) ?_
    refine j_aload_n g (i := 0) (by decide +kernel) rfl ?_
    refine j_gA g (b := 606) f8_25 (by decide +kernel) (by decide +kernel) (by decide +kernel) (by decide +kernel) ?_
    refine j_iconst g (n := 2) (2) (by decide +kernel) rfl ?_
    refine j_iac g 4 2 (by decide +kernel) (by decide +kernel) (by decide +kernel) (vin_b (by decide +kernel)) (by decide) ?_
    obtain ⟨h0, hp⟩ := hp
    refine j_cV2r g v8_167 ⟨rfl, by decide⟩ (by decide +kernel) (by decide +kernel) (Nat.le_of_ble_eq_true rfl) (rnX8_wantNumber h0) ?_
    refine j_isc g 4 2 (by decide +kernel) (by decide +kernel) (by decide +kernel) (vin_b (by decide +kernel)) (by decide) ?_
    refine jn_X8_wantLaw_53  g hr hp ?_ ?_ 
    · exact hrv
    · rw [hmm]; unfold w_X8_wantLaw_26; first | (simp only [if_neg (show ¬ (¬ a1 = (1 : Int32)) from c28)]; done) | (simp only [if_neg (show ¬ (¬ a1 = (1 : Int32)) from c28)]; rfl) | rfl
noncomputable def w_X8_wantLaw_4 (M : Mm) (a1 : Int32)  : Mm := w_X8_wantLaw_26 (wi (w_X8_wantNumber M (M.1 605 (Int32.toNatClampNeg a1)) (M.1 606 (Int32.toNatClampNeg a1))) 613 (Int32.toNatClampNeg a1) (r_X8_wantNumber M (M.1 605 (Int32.toNatClampNeg a1)) (M.1 606 (Int32.toNatClampNeg a1)))) a1
def p_X8_wantLaw_4 (M : Mm) (a1 : Int32)  : Prop := (vp_in a1 4) ∧ (vp_in a1 4) ∧ (p_X8_wantNumber M (M.1 605 (Int32.toNatClampNeg a1)) (M.1 606 (Int32.toNatClampNeg a1))) ∧ (vp_in a1 4) ∧ p_X8_wantLaw_26 (wi (w_X8_wantNumber M (M.1 605 (Int32.toNatClampNeg a1)) (M.1 606 (Int32.toNatClampNeg a1))) 613 (Int32.toNatClampNeg a1) (r_X8_wantNumber M (M.1 605 (Int32.toNatClampNeg a1)) (M.1 606 (Int32.toNatClampNeg a1)))) a1
theorem jn_X8_wantLaw_4 {d : Nat} {J : Nat → Lc → List Value → Mm → Prop} {M : Mm} {a1 : Int32}   (g : Good mX8_wantLaw.1 mX8_wantLaw.2.2.1 mX8_wantLaw.2.2.2.1 (d + 4) J) {rv : Option Value} {M1 : Mm} (hr : Ret mX8_wantLaw.2.2.1 mX8_wantLaw.2.2.2.2 rv M1 J) (hp : p_X8_wantLaw_4 M a1 ) (hrv : rv = none) (hmm : M1 = w_X8_wantLaw_4 M a1 ) : J 4 [some (.ref 600), some (.int a1)] [] M := by
  unfold p_X8_wantLaw_4 at hp
  refine j_aload_n g (i := 0) (by decide +kernel) rfl ?_
  refine j_gA g (b := 613) f8_46 (by decide +kernel) (by decide +kernel) (by decide +kernel) (by decide +kernel) ?_
  refine j_iload_n g (i := 1) (by decide +kernel) rfl ?_
  refine j_aload_n g (i := 0) (by decide +kernel) rfl ?_
  refine j_aload_n g (i := 0) (by decide +kernel) rfl ?_
  refine j_gA g (b := 605) f8_22 (by decide +kernel) (by decide +kernel) (by decide +kernel) (by decide +kernel) ?_
  refine j_iload_n g (i := 1) (by decide +kernel) rfl ?_
  obtain ⟨h0, hp⟩ := hp
  refine j_ia g 4 (by decide +kernel) (by decide +kernel) (by decide +kernel) h0 ?_
  refine j_aload_n g (i := 0) (by decide +kernel) rfl ?_
  refine j_gA g (b := 606) f8_25 (by decide +kernel) (by decide +kernel) (by decide +kernel) (by decide +kernel) ?_
  refine j_iload_n g (i := 1) (by decide +kernel) rfl ?_
  obtain ⟨h0, hp⟩ := hp
  refine j_ia g 4 (by decide +kernel) (by decide +kernel) (by decide +kernel) h0 ?_
  obtain ⟨h0, hp⟩ := hp
  refine j_cV2r g v8_167 ⟨rfl, by decide⟩ (by decide +kernel) (by decide +kernel) (Nat.le_of_ble_eq_true rfl) (rnX8_wantNumber h0) ?_
  obtain ⟨h0, hp⟩ := hp
  refine j_is g 4 (by decide +kernel) (by decide +kernel) (by decide +kernel) h0 ?_
  refine jn_X8_wantLaw_26  g hr hp ?_ ?_ 
  · exact hrv
  · rw [hmm]; unfold w_X8_wantLaw_4; rfl
noncomputable def w_X8_wantLaw (M : Mm) (a1 : Int32) : Mm := w_X8_wantLaw_4 (w_X8_advance M) a1
def p_X8_wantLaw (M : Mm) (a1 : Int32) : Prop := (p_X8_advance M ) ∧ p_X8_wantLaw_4 (w_X8_advance M) a1
set_option maxRecDepth 20000 in
theorem rnX8_wantLaw {d : Nat} {M : Mm} {a1 : Int32}  (hp : p_X8_wantLaw M a1) : Rn (d + 4) mX8_wantLaw [.ref 600, .int a1] M none (w_X8_wantLaw M a1) := by
  refine Rn.of [some (.ref 600), some (.int a1)] (by decide +kernel) rfl (Nat.le_of_ble_eq_true rfl) rfl (fun J g hr => ?_)
  unfold p_X8_wantLaw at hp
  refine j_aload_n g (i := 0) (by decide +kernel) rfl ?_
  obtain ⟨h0, hp⟩ := hp
  refine j_cV0v g v8_161 ⟨rfl, by decide⟩ (by decide +kernel) (by decide +kernel) (Nat.le_of_ble_eq_true rfl) (rnX8_advance h0) ?_
  refine jn_X8_wantLaw_4  g hr hp ?_ ?_ 
  · rfl
  · unfold w_X8_wantLaw; rfl
noncomputable def w_X8_wantClause (M : Mm)  : Mm := if (b2i (M.1 600 16 = 1 ∧ M.2 600 19 = 7220169)) = 0 then (if (b2i (M.1 600 16 = 1 ∧ M.2 600 19 = 10793230)) = 0 then (if (r_X8_kindHere M) < 0 then (if (b2i (M.1 600 16 = 1 ∧ M.2 600 19 = 12257559)) = 0 then (if (b2i (M.1 600 16 = 1 ∧ M.2 600 19 = 60114)) = 0 then (if (b2i (M.1 600 16 = 1 ∧ M.2 600 19 = 43347)) = 0 then (wi M 600 21 0) else (w_X8_wantLaw M (3 : Int32))) else (w_X8_wantLaw M (1 : Int32))) else (w_X8_wantLaw M (0 : Int32))) else (w_X8_wantWork M (r_X8_kindHere M))) else if (r_X8_wantOne_611 M (M.1 600 23) (6 : Int32) (9 : Int32)) = 0 then (wi (w_X8_wantOne_611 M (M.1 600 23) (6 : Int32) (9 : Int32)) 600 23 ((M.1 600 23) + 0)) else (wi (w_X8_wantOne_611 M (M.1 600 23) (6 : Int32) (9 : Int32)) 600 23 ((M.1 600 23) + 1))) else if (r_X8_wantOne_610 M (M.1 600 22) (3 : Int32) (5 : Int32)) = 0 then (wi (w_X8_wantOne_610 M (M.1 600 22) (3 : Int32) (5 : Int32)) 600 22 ((M.1 600 22) + 0)) else (wi (w_X8_wantOne_610 M (M.1 600 22) (3 : Int32) (5 : Int32)) 600 22 ((M.1 600 22) + 1))
def p_X8_wantClause (M : Mm)  : Prop := (if (b2i (M.1 600 16 = 1 ∧ M.2 600 19 = 7220169)) = 0 then (if (b2i (M.1 600 16 = 1 ∧ M.2 600 19 = 10793230)) = 0 then (if (r_X8_kindHere M) < 0 then (if (b2i (M.1 600 16 = 1 ∧ M.2 600 19 = 12257559)) = 0 then (if (b2i (M.1 600 16 = 1 ∧ M.2 600 19 = 60114)) = 0 then (if (b2i (M.1 600 16 = 1 ∧ M.2 600 19 = 43347)) = 0 then True else (p_X8_wantLaw M (3 : Int32)) ∧ True) else (p_X8_wantLaw M (1 : Int32)) ∧ True) else (p_X8_wantLaw M (0 : Int32)) ∧ True) else (p_X8_wantWork M (r_X8_kindHere M)) ∧ True) else (p_X8_wantOne_611 M (M.1 600 23) (6 : Int32) (9 : Int32)) ∧ (if (r_X8_wantOne_611 M (M.1 600 23) (6 : Int32) (9 : Int32)) = 0 then True else True)) else (p_X8_wantOne_610 M (M.1 600 22) (3 : Int32) (5 : Int32)) ∧ (if (r_X8_wantOne_610 M (M.1 600 22) (3 : Int32) (5 : Int32)) = 0 then True else True))
set_option maxRecDepth 20000 in
theorem rnX8_wantClause {d : Nat} {M : Mm}   (hp : p_X8_wantClause M ) : Rn (d + 5) mX8_wantClause [.ref 600] M none (w_X8_wantClause M ) := by
  refine Rn.of [some (.ref 600)] (by decide +kernel) rfl (Nat.le_of_ble_eq_true rfl) rfl (fun J g hr => ?_)
  unfold p_X8_wantClause at hp
  refine j_aload_n g (i := 0) (by decide +kernel) rfl ?_
  refine j_ldc2 g (n := 197) (7220169) (by decide +kernel) k8_197 ?_
  refine j_cV1r g v8_143 ⟨rfl, by decide⟩ (by decide +kernel) (by decide +kernel) (Nat.le_of_ble_eq_true rfl) (rnX8_isWord) ?_
  refine j_if_eq g (off := 37) (tgt := 44) (by decide +kernel) (by decide) (fun c7 => ?_) (fun c7 => ?_)
  · rw [if_pos (show (b2i (M.1 600 16 = 1 ∧ M.2 600 19 = 7220169)) = 0 from c7)] at hp
    refine j_aload_n g (i := 0) (by decide +kernel) rfl ?_
    refine j_ldc2 g (n := 203) (10793230) (by decide +kernel) k8_203 ?_
    refine j_cV1r g v8_143 ⟨rfl, by decide⟩ (by decide +kernel) (by decide +kernel) (Nat.le_of_ble_eq_true rfl) (rnX8_isWord) ?_
    refine j_if_eq g (off := 39) (tgt := 90) (by decide +kernel) (by decide) (fun c51 => ?_) (fun c51 => ?_)
    · rw [if_pos (show (b2i (M.1 600 16 = 1 ∧ M.2 600 19 = 10793230)) = 0 from c51)] at hp
      refine j_aload_n g (i := 0) (by decide +kernel) rfl ?_
      refine j_cV0r g v8_205 ⟨rfl, by decide⟩ (by decide +kernel) (by decide +kernel) (Nat.le_of_ble_eq_true rfl) (rnX8_kindHere) ?_
      refine j_if_lt g (off := 14) (tgt := 108) (by decide +kernel) (by decide) (fun c94 => ?_) (fun c94 => ?_)
      · rw [if_pos (show (r_X8_kindHere M) < 0 from c94)] at hp
        refine j_aload_n g (i := 0) (by decide +kernel) rfl ?_
        refine j_ldc2 g (n := 213) (12257559) (by decide +kernel) k8_213 ?_
        refine j_cV1r g v8_143 ⟨rfl, by decide⟩ (by decide +kernel) (by decide +kernel) (Nat.le_of_ble_eq_true rfl) (rnX8_isWord) ?_
        refine j_if_eq g (off := 11) (tgt := 126) (by decide +kernel) (by decide) (fun c115 => ?_) (fun c115 => ?_)
        · rw [if_pos (show (b2i (M.1 600 16 = 1 ∧ M.2 600 19 = 12257559)) = 0 from c115)] at hp
          refine j_aload_n g (i := 0) (by decide +kernel) rfl ?_
          refine j_ldc2 g (n := 218) (60114) (by decide +kernel) k8_218 ?_
          refine j_cV1r g v8_143 ⟨rfl, by decide⟩ (by decide +kernel) (by decide +kernel) (Nat.le_of_ble_eq_true rfl) (rnX8_isWord) ?_
          refine j_if_eq g (off := 11) (tgt := 144) (by decide +kernel) (by decide) (fun c133 => ?_) (fun c133 => ?_)
          · rw [if_pos (show (b2i (M.1 600 16 = 1 ∧ M.2 600 19 = 60114)) = 0 from c133)] at hp
            refine j_aload_n g (i := 0) (by decide +kernel) rfl ?_
            refine j_ldc2 g (n := 220) (43347) (by decide +kernel) k8_220 ?_
            refine j_cV1r g v8_143 ⟨rfl, by decide⟩ (by decide +kernel) (by decide +kernel) (Nat.le_of_ble_eq_true rfl) (rnX8_isWord) ?_
            refine j_if_eq g (off := 11) (tgt := 162) (by decide +kernel) (by decide) (fun c151 => ?_) (fun c151 => ?_)
            · rw [if_pos (show (b2i (M.1 600 16 = 1 ∧ M.2 600 19 = 43347)) = 0 from c151)] at hp
              refine j_aload_n g (i := 0) (by decide +kernel) rfl ?_
              refine j_iconst g (n := 0) (0) (by decide +kernel) rfl ?_
              refine j_pZ g f8_157 (fun q h => by cases h; rfl) (by decide +kernel) (by decide +kernel) (by decide +kernel) (by decide) ?_
              refine hr.2.2.2 _ _ _ (by decide +kernel) rfl rfl ?_
              · unfold w_X8_wantClause; first | (simp only [if_pos (show (b2i (M.1 600 16 = 1 ∧ M.2 600 19 = 7220169)) = 0 from c7), if_pos (show (b2i (M.1 600 16 = 1 ∧ M.2 600 19 = 10793230)) = 0 from c51), if_pos (show (r_X8_kindHere M) < 0 from c94), if_pos (show (b2i (M.1 600 16 = 1 ∧ M.2 600 19 = 12257559)) = 0 from c115), if_pos (show (b2i (M.1 600 16 = 1 ∧ M.2 600 19 = 60114)) = 0 from c133), if_pos (show (b2i (M.1 600 16 = 1 ∧ M.2 600 19 = 43347)) = 0 from c151)]; done) | (simp only [if_pos (show (b2i (M.1 600 16 = 1 ∧ M.2 600 19 = 7220169)) = 0 from c7), if_pos (show (b2i (M.1 600 16 = 1 ∧ M.2 600 19 = 10793230)) = 0 from c51), if_pos (show (r_X8_kindHere M) < 0 from c94), if_pos (show (b2i (M.1 600 16 = 1 ∧ M.2 600 19 = 12257559)) = 0 from c115), if_pos (show (b2i (M.1 600 16 = 1 ∧ M.2 600 19 = 60114)) = 0 from c133), if_pos (show (b2i (M.1 600 16 = 1 ∧ M.2 600 19 = 43347)) = 0 from c151)]; rfl) | rfl
            · rw [if_neg (show ¬ ((b2i (M.1 600 16 = 1 ∧ M.2 600 19 = 43347)) = 0) from c151)] at hp
              refine j_aload_n g (i := 0) (by decide +kernel) rfl ?_
              refine j_iconst g (n := 3) (3) (by decide +kernel) rfl ?_
              obtain ⟨h0, hp⟩ := hp
              refine j_cV1v g v8_215 ⟨rfl, by decide⟩ (by decide +kernel) (by decide +kernel) (Nat.le_of_ble_eq_true rfl) (rnX8_wantLaw h0) ?_
              refine j_goto g (off := 8) (tgt := 167) (by decide +kernel) (by decide) ?_
              refine hr.2.2.2 _ _ _ (by decide +kernel) rfl rfl ?_
              · unfold w_X8_wantClause; first | (simp only [if_pos (show (b2i (M.1 600 16 = 1 ∧ M.2 600 19 = 7220169)) = 0 from c7), if_pos (show (b2i (M.1 600 16 = 1 ∧ M.2 600 19 = 10793230)) = 0 from c51), if_pos (show (r_X8_kindHere M) < 0 from c94), if_pos (show (b2i (M.1 600 16 = 1 ∧ M.2 600 19 = 12257559)) = 0 from c115), if_pos (show (b2i (M.1 600 16 = 1 ∧ M.2 600 19 = 60114)) = 0 from c133), if_neg (show ¬ ((b2i (M.1 600 16 = 1 ∧ M.2 600 19 = 43347)) = 0) from c151)]; done) | (simp only [if_pos (show (b2i (M.1 600 16 = 1 ∧ M.2 600 19 = 7220169)) = 0 from c7), if_pos (show (b2i (M.1 600 16 = 1 ∧ M.2 600 19 = 10793230)) = 0 from c51), if_pos (show (r_X8_kindHere M) < 0 from c94), if_pos (show (b2i (M.1 600 16 = 1 ∧ M.2 600 19 = 12257559)) = 0 from c115), if_pos (show (b2i (M.1 600 16 = 1 ∧ M.2 600 19 = 60114)) = 0 from c133), if_neg (show ¬ ((b2i (M.1 600 16 = 1 ∧ M.2 600 19 = 43347)) = 0) from c151)]; rfl) | rfl
          · rw [if_neg (show ¬ ((b2i (M.1 600 16 = 1 ∧ M.2 600 19 = 60114)) = 0) from c133)] at hp
            refine j_aload_n g (i := 0) (by decide +kernel) rfl ?_
            refine j_iconst g (n := 1) (1) (by decide +kernel) rfl ?_
            obtain ⟨h0, hp⟩ := hp
            refine j_cV1v g v8_215 ⟨rfl, by decide⟩ (by decide +kernel) (by decide +kernel) (Nat.le_of_ble_eq_true rfl) (rnX8_wantLaw h0) ?_
            refine j_goto g (off := 26) (tgt := 167) (by decide +kernel) (by decide) ?_
            refine hr.2.2.2 _ _ _ (by decide +kernel) rfl rfl ?_
            · unfold w_X8_wantClause; first | (simp only [if_pos (show (b2i (M.1 600 16 = 1 ∧ M.2 600 19 = 7220169)) = 0 from c7), if_pos (show (b2i (M.1 600 16 = 1 ∧ M.2 600 19 = 10793230)) = 0 from c51), if_pos (show (r_X8_kindHere M) < 0 from c94), if_pos (show (b2i (M.1 600 16 = 1 ∧ M.2 600 19 = 12257559)) = 0 from c115), if_neg (show ¬ ((b2i (M.1 600 16 = 1 ∧ M.2 600 19 = 60114)) = 0) from c133)]; done) | (simp only [if_pos (show (b2i (M.1 600 16 = 1 ∧ M.2 600 19 = 7220169)) = 0 from c7), if_pos (show (b2i (M.1 600 16 = 1 ∧ M.2 600 19 = 10793230)) = 0 from c51), if_pos (show (r_X8_kindHere M) < 0 from c94), if_pos (show (b2i (M.1 600 16 = 1 ∧ M.2 600 19 = 12257559)) = 0 from c115), if_neg (show ¬ ((b2i (M.1 600 16 = 1 ∧ M.2 600 19 = 60114)) = 0) from c133)]; rfl) | rfl
        · rw [if_neg (show ¬ ((b2i (M.1 600 16 = 1 ∧ M.2 600 19 = 12257559)) = 0) from c115)] at hp
          refine j_aload_n g (i := 0) (by decide +kernel) rfl ?_
          refine j_iconst g (n := 0) (0) (by decide +kernel) rfl ?_
          obtain ⟨h0, hp⟩ := hp
          refine j_cV1v g v8_215 ⟨rfl, by decide⟩ (by decide +kernel) (by decide +kernel) (Nat.le_of_ble_eq_true rfl) (rnX8_wantLaw h0) ?_
          refine j_goto g (off := 44) (tgt := 167) (by decide +kernel) (by decide) ?_
          refine hr.2.2.2 _ _ _ (by decide +kernel) rfl rfl ?_
          · unfold w_X8_wantClause; first | (simp only [if_pos (show (b2i (M.1 600 16 = 1 ∧ M.2 600 19 = 7220169)) = 0 from c7), if_pos (show (b2i (M.1 600 16 = 1 ∧ M.2 600 19 = 10793230)) = 0 from c51), if_pos (show (r_X8_kindHere M) < 0 from c94), if_neg (show ¬ ((b2i (M.1 600 16 = 1 ∧ M.2 600 19 = 12257559)) = 0) from c115)]; done) | (simp only [if_pos (show (b2i (M.1 600 16 = 1 ∧ M.2 600 19 = 7220169)) = 0 from c7), if_pos (show (b2i (M.1 600 16 = 1 ∧ M.2 600 19 = 10793230)) = 0 from c51), if_pos (show (r_X8_kindHere M) < 0 from c94), if_neg (show ¬ ((b2i (M.1 600 16 = 1 ∧ M.2 600 19 = 12257559)) = 0) from c115)]; rfl) | rfl
      · rw [if_neg (show ¬ ((r_X8_kindHere M) < 0) from c94)] at hp
        refine j_aload_n g (i := 0) (by decide +kernel) rfl ?_
        refine j_aload_n g (i := 0) (by decide +kernel) rfl ?_
        refine j_cV0r g v8_205 ⟨rfl, by decide⟩ (by decide +kernel) (by decide +kernel) (Nat.le_of_ble_eq_true rfl) (rnX8_kindHere) ?_
        obtain ⟨h0, hp⟩ := hp
        refine j_cV1v g v8_209 ⟨rfl, by decide⟩ (by decide +kernel) (by decide +kernel) (Nat.le_of_ble_eq_true rfl) (rnX8_wantWork h0) ?_
        refine j_goto g (off := 62) (tgt := 167) (by decide +kernel) (by decide) ?_
        refine hr.2.2.2 _ _ _ (by decide +kernel) rfl rfl ?_
        · unfold w_X8_wantClause; first | (simp only [if_pos (show (b2i (M.1 600 16 = 1 ∧ M.2 600 19 = 7220169)) = 0 from c7), if_pos (show (b2i (M.1 600 16 = 1 ∧ M.2 600 19 = 10793230)) = 0 from c51), if_neg (show ¬ ((r_X8_kindHere M) < 0) from c94)]; done) | (simp only [if_pos (show (b2i (M.1 600 16 = 1 ∧ M.2 600 19 = 7220169)) = 0 from c7), if_pos (show (b2i (M.1 600 16 = 1 ∧ M.2 600 19 = 10793230)) = 0 from c51), if_neg (show ¬ ((r_X8_kindHere M) < 0) from c94)]; rfl) | rfl
    · rw [if_neg (show ¬ ((b2i (M.1 600 16 = 1 ∧ M.2 600 19 = 10793230)) = 0) from c51)] at hp
      refine j_aload_n g (i := 0) (by decide +kernel) rfl ?_
      refine j_dup g (by decide +kernel) rfl ?_
      refine j_gI g f8_180 (by decide +kernel) (by decide +kernel) (by decide +kernel) ?_
      refine j_aload_n g (i := 0) (by decide +kernel) rfl ?_
      refine j_aload_n g (i := 0) (by decide +kernel) rfl ?_
      refine j_gA g (b := 611) f8_40 (by decide +kernel) (by decide +kernel) (by decide +kernel) (by decide +kernel) ?_
      refine j_aload_n g (i := 0) (by decide +kernel) rfl ?_
      refine j_gI g f8_180 (by decide +kernel) (by decide +kernel) (by decide +kernel) ?_
      refine j_bipush g (n := 6) (6) (by decide +kernel) (by decide +kernel) ?_
      refine j_bipush g (n := 9) (9) (by decide +kernel) (by decide +kernel) ?_
      obtain ⟨h0, hp⟩ := hp
      refine j_cV4r g v8_199 ⟨rfl, by decide⟩ (by decide +kernel) (by decide +kernel) (Nat.le_of_ble_eq_true rfl) (rnX8_wantOne_611 h0) ?_
      refine j_if_eq g (off := 7) (tgt := 82) (by decide +kernel) (by decide) (fun c75 => ?_) (fun c75 => ?_)
      · rw [if_pos (show (r_X8_wantOne_611 M (M.1 600 23) (6 : Int32) (9 : Int32)) = 0 from c75)] at hp
        refine j_iconst g (n := 0) (0) (by decide +kernel) rfl ?_
        refine j_iadd g (by decide +kernel) ?_
        refine j_pI g f8_180 (fun q h => by cases h; rfl) (by decide +kernel) (by decide +kernel) (by decide +kernel) ?_
        refine j_goto g (off := 80) (tgt := 167) (by decide +kernel) (by decide) ?_
        refine hr.2.2.2 _ _ _ (by decide +kernel) rfl rfl ?_
        · unfold w_X8_wantClause; first | (simp only [if_pos (show (b2i (M.1 600 16 = 1 ∧ M.2 600 19 = 7220169)) = 0 from c7), if_neg (show ¬ ((b2i (M.1 600 16 = 1 ∧ M.2 600 19 = 10793230)) = 0) from c51), if_pos (show (r_X8_wantOne_611 M (M.1 600 23) (6 : Int32) (9 : Int32)) = 0 from c75)]; done) | (simp only [if_pos (show (b2i (M.1 600 16 = 1 ∧ M.2 600 19 = 7220169)) = 0 from c7), if_neg (show ¬ ((b2i (M.1 600 16 = 1 ∧ M.2 600 19 = 10793230)) = 0) from c51), if_pos (show (r_X8_wantOne_611 M (M.1 600 23) (6 : Int32) (9 : Int32)) = 0 from c75)]; rfl) | rfl
      · rw [if_neg (show ¬ ((r_X8_wantOne_611 M (M.1 600 23) (6 : Int32) (9 : Int32)) = 0) from c75)] at hp
        refine j_iconst g (n := 1) (1) (by decide +kernel) rfl ?_
        refine j_goto g (off := 4) (tgt := 83) (by decide +kernel) (by decide) ?_
        refine j_iadd g (by decide +kernel) ?_
        refine j_pI g f8_180 (fun q h => by cases h; rfl) (by decide +kernel) (by decide +kernel) (by decide +kernel) ?_
        refine j_goto g (off := 80) (tgt := 167) (by decide +kernel) (by decide) ?_
        refine hr.2.2.2 _ _ _ (by decide +kernel) rfl rfl ?_
        · unfold w_X8_wantClause; first | (simp only [if_pos (show (b2i (M.1 600 16 = 1 ∧ M.2 600 19 = 7220169)) = 0 from c7), if_neg (show ¬ ((b2i (M.1 600 16 = 1 ∧ M.2 600 19 = 10793230)) = 0) from c51), if_neg (show ¬ ((r_X8_wantOne_611 M (M.1 600 23) (6 : Int32) (9 : Int32)) = 0) from c75)]; done) | (simp only [if_pos (show (b2i (M.1 600 16 = 1 ∧ M.2 600 19 = 7220169)) = 0 from c7), if_neg (show ¬ ((b2i (M.1 600 16 = 1 ∧ M.2 600 19 = 10793230)) = 0) from c51), if_neg (show ¬ ((r_X8_wantOne_611 M (M.1 600 23) (6 : Int32) (9 : Int32)) = 0) from c75)]; rfl) | rfl
  · rw [if_neg (show ¬ ((b2i (M.1 600 16 = 1 ∧ M.2 600 19 = 7220169)) = 0) from c7)] at hp
    refine j_aload_n g (i := 0) (by decide +kernel) rfl ?_
    refine j_dup g (by decide +kernel) rfl ?_
    refine j_gI g f8_177 (by decide +kernel) (by decide +kernel) (by decide +kernel) ?_
    refine j_aload_n g (i := 0) (by decide +kernel) rfl ?_
    refine j_aload_n g (i := 0) (by decide +kernel) rfl ?_
    refine j_gA g (b := 610) f8_37 (by decide +kernel) (by decide +kernel) (by decide +kernel) (by decide +kernel) ?_
    refine j_aload_n g (i := 0) (by decide +kernel) rfl ?_
    refine j_gI g f8_177 (by decide +kernel) (by decide +kernel) (by decide +kernel) ?_
    refine j_iconst g (n := 3) (3) (by decide +kernel) rfl ?_
    refine j_iconst g (n := 5) (5) (by decide +kernel) rfl ?_
    obtain ⟨h0, hp⟩ := hp
    refine j_cV4r g v8_199 ⟨rfl, by decide⟩ (by decide +kernel) (by decide +kernel) (Nat.le_of_ble_eq_true rfl) (rnX8_wantOne_610 h0) ?_
    refine j_if_eq g (off := 7) (tgt := 36) (by decide +kernel) (by decide) (fun c29 => ?_) (fun c29 => ?_)
    · rw [if_pos (show (r_X8_wantOne_610 M (M.1 600 22) (3 : Int32) (5 : Int32)) = 0 from c29)] at hp
      refine j_iconst g (n := 0) (0) (by decide +kernel) rfl ?_
      refine j_iadd g (by decide +kernel) ?_
      refine j_pI g f8_177 (fun q h => by cases h; rfl) (by decide +kernel) (by decide +kernel) (by decide +kernel) ?_
      refine j_goto g (off := 126) (tgt := 167) (by decide +kernel) (by decide) ?_
      refine hr.2.2.2 _ _ _ (by decide +kernel) rfl rfl ?_
      · unfold w_X8_wantClause; first | (simp only [if_neg (show ¬ ((b2i (M.1 600 16 = 1 ∧ M.2 600 19 = 7220169)) = 0) from c7), if_pos (show (r_X8_wantOne_610 M (M.1 600 22) (3 : Int32) (5 : Int32)) = 0 from c29)]; done) | (simp only [if_neg (show ¬ ((b2i (M.1 600 16 = 1 ∧ M.2 600 19 = 7220169)) = 0) from c7), if_pos (show (r_X8_wantOne_610 M (M.1 600 22) (3 : Int32) (5 : Int32)) = 0 from c29)]; rfl) | rfl
    · rw [if_neg (show ¬ ((r_X8_wantOne_610 M (M.1 600 22) (3 : Int32) (5 : Int32)) = 0) from c29)] at hp
      refine j_iconst g (n := 1) (1) (by decide +kernel) rfl ?_
      refine j_goto g (off := 4) (tgt := 37) (by decide +kernel) (by decide) ?_
      refine j_iadd g (by decide +kernel) ?_
      refine j_pI g f8_177 (fun q h => by cases h; rfl) (by decide +kernel) (by decide +kernel) (by decide +kernel) ?_
      refine j_goto g (off := 126) (tgt := 167) (by decide +kernel) (by decide) ?_
      refine hr.2.2.2 _ _ _ (by decide +kernel) rfl rfl ?_
      · unfold w_X8_wantClause; first | (simp only [if_neg (show ¬ ((b2i (M.1 600 16 = 1 ∧ M.2 600 19 = 7220169)) = 0) from c7), if_neg (show ¬ ((r_X8_wantOne_610 M (M.1 600 22) (3 : Int32) (5 : Int32)) = 0) from c29)]; done) | (simp only [if_neg (show ¬ ((b2i (M.1 600 16 = 1 ∧ M.2 600 19 = 7220169)) = 0) from c7), if_neg (show ¬ ((r_X8_wantOne_610 M (M.1 600 22) (3 : Int32) (5 : Int32)) = 0) from c29)]; rfl) | rfl
def c_X8_town_27  (σ : Mm × Int32) : Prop := if (4 : Int32) ≤ σ.2 then False else True
theorem ci_X8_town_27   {σ : Mm × Int32} : c_X8_town_27  σ ↔ (if (4 : Int32) ≤ σ.2 then False else True) := Iff.rfl
noncomputable def s_X8_town_27  (σ : Mm × Int32) : Mm × Int32 := if (4 : Int32) ≤ σ.2 then σ else ((wi σ.1 613 (Int32.toNatClampNeg σ.2) (σ.1.1 604 (Int32.toNatClampNeg σ.2))), σ.2 + 1)
def q_X8_town_27  (σ : Mm × Int32) : Prop := (if (4 : Int32) ≤ σ.2 then True else (vp_in σ.2 4) ∧ (vp_in σ.2 4) ∧ True)
noncomputable def l_X8_town_27  (σ0 : Mm × Int32) : Nat → Mm × Int32 := itN (fun _ σ => s_X8_town_27  σ) σ0
theorem ps_X8_town_27 {d : Nat} {J : Nat → Lc → List Value → Mm → Prop}   {σ : Mm × Int32}  (g : Good mX8_town.1 mX8_town.2.2.1 mX8_town.2.2.2.1 (d + 6) J) (hc : c_X8_town_27  σ) (hp : q_X8_town_27  σ) (k : J 27 [some (.ref 600), some (.int ((s_X8_town_27  σ).2))] [] ((s_X8_town_27  σ).1)) : J 27 [some (.ref 600), some (.int σ.2)] [] σ.1 := by
  unfold c_X8_town_27 at hc
  unfold q_X8_town_27 at hp
  unfold s_X8_town_27 at k
  refine j_iload_n g (i := 1) (by decide +kernel) rfl ?_
  refine j_iconst g (n := 4) (4) (by decide +kernel) rfl ?_
  refine j_icmp_ge g (off := 21) (tgt := 50) (by decide +kernel) (by decide) (fun c29 => ?_) (fun c29 => ?_)
  · (try rw [if_pos (show (4 : Int32) ≤ σ.2 from c29)] at hc); (rw [if_pos (show (4 : Int32) ≤ σ.2 from c29)] at hp); (try simp only [if_pos (show (4 : Int32) ≤ σ.2 from c29)] at k)
    exact hc.elim
  · (try rw [if_neg (show ¬ ((4 : Int32) ≤ σ.2) from c29)] at hc); (rw [if_neg (show ¬ ((4 : Int32) ≤ σ.2) from c29)] at hp); (try simp only [if_neg (show ¬ ((4 : Int32) ≤ σ.2) from c29)] at k)
    refine j_aload_n g (i := 0) (by decide +kernel) rfl ?_
    refine j_gA g (b := 613) f8_46 (by decide +kernel) (by decide +kernel) (by decide +kernel) (by decide +kernel) ?_
    refine j_iload_n g (i := 1) (by decide +kernel) rfl ?_
    refine j_aload_n g (i := 0) (by decide +kernel) rfl ?_
    refine j_gA g (b := 604) f8_19 (by decide +kernel) (by decide +kernel) (by decide +kernel) (by decide +kernel) ?_
    refine j_iload_n g (i := 1) (by decide +kernel) rfl ?_
    obtain ⟨h0, hp⟩ := hp
    refine j_ia g 4 (by decide +kernel) (by decide +kernel) (by decide +kernel) h0 ?_
    obtain ⟨h0, hp⟩ := hp
    refine j_is g 4 (by decide +kernel) (by decide +kernel) (by decide +kernel) h0 ?_
    refine j_iinc g (i := 1) (n := 1) (1) (by decide +kernel) rfl (by decide) rfl ?_
    dsimp only [stL, clL, hdL]
    refine j_goto g (off := -20) (tgt := 27) (by decide +kernel) (by decide) ?_
    exact k 
theorem sh_X8_town_27 {d : Nat} {J : Nat → Lc → List Value → Mm → Prop}   {σ0 : Mm × Int32}  (g : Good mX8_town.1 mX8_town.2.2.1 mX8_town.2.2.2.1 (d + 6) J) : ∀ (N : Nat), (∀ k, k < N → c_X8_town_27  (l_X8_town_27  σ0 k)) → (∀ k, k < N → q_X8_town_27  (l_X8_town_27  σ0 k)) → (J 27 [some (.ref 600), some (.int ((l_X8_town_27  σ0 N).2))] [] ((l_X8_town_27  σ0 N).1)) → J 27 [some (.ref 600), some (.int σ0.2)] [] σ0.1
  | 0, _, _, k => k
  | N + 1, hc, hp, k => sh_X8_town_27  g N (fun i hi => hc i (Nat.lt_succ_of_lt hi)) (fun i hi => hp i (Nat.lt_succ_of_lt hi)) (ps_X8_town_27  g (hc N (Nat.lt_succ_self N)) (hp N (Nat.lt_succ_self N)) k)
def c_X8_town_54 (x1 : Int32) (σ : Mm) : Prop := if (σ.1 600 21) = 0 then False else if (σ.1 600 16) = 0 then False else True
theorem ci_X8_town_54  {x1 : Int32} {σ : Mm} : c_X8_town_54 x1 σ ↔ (if (σ.1 600 21) = 0 then False else if (σ.1 600 16) = 0 then False else True) := Iff.rfl
noncomputable def s_X8_town_54 (x1 : Int32) (σ : Mm) : Mm := if (σ.1 600 21) = 0 then σ else if (σ.1 600 16) = 0 then σ else ((w_X8_wantClause σ))
def q_X8_town_54 (x1 : Int32) (σ : Mm) : Prop := (if (σ.1 600 21) = 0 then True else (if (σ.1 600 16) = 0 then True else (p_X8_wantClause σ ) ∧ True))
noncomputable def l_X8_town_54 (x1 : Int32) (σ0 : Mm) : Nat → Mm := itN (fun _ σ => s_X8_town_54 x1 σ) σ0
theorem ps_X8_town_54 {d : Nat} {J : Nat → Lc → List Value → Mm → Prop}  {x1 : Int32} {σ : Mm}  (g : Good mX8_town.1 mX8_town.2.2.1 mX8_town.2.2.2.1 (d + 6) J) (hc : c_X8_town_54 x1 σ) (hp : q_X8_town_54 x1 σ) (k : J 54 [some (.ref 600), some (.int x1)] [] (s_X8_town_54 x1 σ)) : J 54 [some (.ref 600), some (.int x1)] [] σ := by
  unfold c_X8_town_54 at hc
  unfold q_X8_town_54 at hp
  unfold s_X8_town_54 at k
  refine j_aload_n g (i := 0) (by decide +kernel) rfl ?_
  refine j_gI g f8_157 (by decide +kernel) (by decide +kernel) (by decide +kernel) ?_
  refine j_if_eq g (off := 17) (tgt := 75) (by decide +kernel) (by decide) (fun c58 => ?_) (fun c58 => ?_)
  · (try rw [if_pos (show (σ.1 600 21) = 0 from c58)] at hc); (rw [if_pos (show (σ.1 600 21) = 0 from c58)] at hp); (try simp only [if_pos (show (σ.1 600 21) = 0 from c58)] at k)
    exact hc.elim
  · (try rw [if_neg (show ¬ ((σ.1 600 21) = 0) from c58)] at hc); (rw [if_neg (show ¬ ((σ.1 600 21) = 0) from c58)] at hp); (try simp only [if_neg (show ¬ ((σ.1 600 21) = 0) from c58)] at k)
    refine j_aload_n g (i := 0) (by decide +kernel) rfl ?_
    refine j_gI g f8_125 (by decide +kernel) (by decide +kernel) (by decide +kernel) ?_
    refine j_if_eq g (off := 10) (tgt := 75) (by decide +kernel) (by decide) (fun c65 => ?_) (fun c65 => ?_)
    · (try rw [if_pos (show (σ.1 600 16) = 0 from c65)] at hc); (rw [if_pos (show (σ.1 600 16) = 0 from c65)] at hp); (try simp only [if_pos (show (σ.1 600 16) = 0 from c65)] at k)
      exact hc.elim
    · (try rw [if_neg (show ¬ ((σ.1 600 16) = 0) from c65)] at hc); (rw [if_neg (show ¬ ((σ.1 600 16) = 0) from c65)] at hp); (try simp only [if_neg (show ¬ ((σ.1 600 16) = 0) from c65)] at k)
      refine j_aload_n g (i := 0) (by decide +kernel) rfl ?_
      obtain ⟨h0, hp⟩ := hp
      refine j_cV0v g v8_222 ⟨rfl, by decide⟩ (by decide +kernel) (by decide +kernel) (Nat.le_of_ble_eq_true rfl) (rnX8_wantClause h0) ?_
      refine j_goto g (off := -18) (tgt := 54) (by decide +kernel) (by decide) ?_
      exact k 
theorem sh_X8_town_54 {d : Nat} {J : Nat → Lc → List Value → Mm → Prop}  {x1 : Int32} {σ0 : Mm}  (g : Good mX8_town.1 mX8_town.2.2.1 mX8_town.2.2.2.1 (d + 6) J) : ∀ (N : Nat), (∀ k, k < N → c_X8_town_54 x1 (l_X8_town_54 x1 σ0 k)) → (∀ k, k < N → q_X8_town_54 x1 (l_X8_town_54 x1 σ0 k)) → (J 54 [some (.ref 600), some (.int x1)] [] (l_X8_town_54 x1 σ0 N)) → J 54 [some (.ref 600), some (.int x1)] [] σ0
  | 0, _, _, k => k
  | N + 1, hc, hp, k => sh_X8_town_54  g N (fun i hi => hc i (Nat.lt_succ_of_lt hi)) (fun i hi => hp i (Nat.lt_succ_of_lt hi)) (ps_X8_town_54  g (hc N (Nat.lt_succ_self N)) (hp N (Nat.lt_succ_self N)) k)
def c_X8_town_121  (σ : Mm × Int32) : Prop := if (22 : Int32) ≤ σ.2 then False else True
theorem ci_X8_town_121   {σ : Mm × Int32} : c_X8_town_121  σ ↔ (if (22 : Int32) ≤ σ.2 then False else True) := Iff.rfl
noncomputable def s_X8_town_121  (σ : Mm × Int32) : Mm × Int32 := if (22 : Int32) ≤ σ.2 then σ else ((wi σ.1 607 (Int32.toNatClampNeg σ.2) 0), σ.2 + 1)
def q_X8_town_121  (σ : Mm × Int32) : Prop := (if (22 : Int32) ≤ σ.2 then True else (vp_in σ.2 44) ∧ True)
noncomputable def l_X8_town_121  (σ0 : Mm × Int32) : Nat → Mm × Int32 := itN (fun _ σ => s_X8_town_121  σ) σ0
theorem ps_X8_town_121 {d : Nat} {J : Nat → Lc → List Value → Mm → Prop}   {σ : Mm × Int32}  (g : Good mX8_town.1 mX8_town.2.2.1 mX8_town.2.2.2.1 (d + 6) J) (hc : c_X8_town_121  σ) (hp : q_X8_town_121  σ) (k : J 121 [some (.ref 600), some (.int ((s_X8_town_121  σ).2))] [] ((s_X8_town_121  σ).1)) : J 121 [some (.ref 600), some (.int σ.2)] [] σ.1 := by
  unfold c_X8_town_121 at hc
  unfold q_X8_town_121 at hp
  unfold s_X8_town_121 at k
  refine j_iload_n g (i := 1) (by decide +kernel) rfl ?_
  refine j_bipush g (n := 22) (22) (by decide +kernel) (by decide +kernel) ?_
  refine j_icmp_ge g (off := 16) (tgt := 140) (by decide +kernel) (by decide) (fun c124 => ?_) (fun c124 => ?_)
  · (try rw [if_pos (show (22 : Int32) ≤ σ.2 from c124)] at hc); (rw [if_pos (show (22 : Int32) ≤ σ.2 from c124)] at hp); (try simp only [if_pos (show (22 : Int32) ≤ σ.2 from c124)] at k)
    exact hc.elim
  · (try rw [if_neg (show ¬ ((22 : Int32) ≤ σ.2) from c124)] at hc); (rw [if_neg (show ¬ ((22 : Int32) ≤ σ.2) from c124)] at hp); (try simp only [if_neg (show ¬ ((22 : Int32) ≤ σ.2) from c124)] at k)
    refine j_aload_n g (i := 0) (by decide +kernel) rfl ?_
    refine j_gA g (b := 607) f8_28 (by decide +kernel) (by decide +kernel) (by decide +kernel) (by decide +kernel) ?_
    refine j_iload_n g (i := 1) (by decide +kernel) rfl ?_
    refine j_iconst g (n := 0) (0) (by decide +kernel) rfl ?_
    obtain ⟨h0, hp⟩ := hp
    refine j_is g 44 (by decide +kernel) (by decide +kernel) (by decide +kernel) h0 ?_
    refine j_iinc g (i := 1) (n := 1) (1) (by decide +kernel) rfl (by decide) rfl ?_
    dsimp only [stL, clL, hdL]
    refine j_goto g (off := -16) (tgt := 121) (by decide +kernel) (by decide) ?_
    exact k 
theorem sh_X8_town_121 {d : Nat} {J : Nat → Lc → List Value → Mm → Prop}   {σ0 : Mm × Int32}  (g : Good mX8_town.1 mX8_town.2.2.1 mX8_town.2.2.2.1 (d + 6) J) : ∀ (N : Nat), (∀ k, k < N → c_X8_town_121  (l_X8_town_121  σ0 k)) → (∀ k, k < N → q_X8_town_121  (l_X8_town_121  σ0 k)) → (J 121 [some (.ref 600), some (.int ((l_X8_town_121  σ0 N).2))] [] ((l_X8_town_121  σ0 N).1)) → J 121 [some (.ref 600), some (.int σ0.2)] [] σ0.1
  | 0, _, _, k => k
  | N + 1, hc, hp, k => sh_X8_town_121  g N (fun i hi => hc i (Nat.lt_succ_of_lt hi)) (fun i hi => hp i (Nat.lt_succ_of_lt hi)) (ps_X8_town_121  g (hc N (Nat.lt_succ_self N)) (hp N (Nat.lt_succ_self N)) k)
def c_X8_town_142  (σ : Mm × Int32) : Prop := if (σ.1.1 600 0) ≤ σ.2 then False else True
theorem ci_X8_town_142   {σ : Mm × Int32} : c_X8_town_142  σ ↔ (if (σ.1.1 600 0) ≤ σ.2 then False else True) := Iff.rfl
noncomputable def s_X8_town_142  (σ : Mm × Int32) : Mm × Int32 := if (σ.1.1 600 0) ≤ σ.2 then σ else ((wi (wi σ.1 607 (Int32.toNatClampNeg ((0 : Int32) + σ.2)) (σ.1.1 610 (Int32.toNatClampNeg ((2 : Int32) * σ.2)))) 601 (Int32.toNatClampNeg σ.2) ((wi σ.1 607 (Int32.toNatClampNeg ((0 : Int32) + σ.2)) (σ.1.1 610 (Int32.toNatClampNeg ((2 : Int32) * σ.2)))).1 610 (Int32.toNatClampNeg (((2 : Int32) * σ.2) + 1)))), σ.2 + 1)
def q_X8_town_142  (σ : Mm × Int32) : Prop := (if (σ.1.1 600 0) ≤ σ.2 then True else (vp_in ((2 : Int32) * σ.2) 6) ∧ (vp_in ((0 : Int32) + σ.2) 44) ∧ (vp_in (((2 : Int32) * σ.2) + 1) 6) ∧ (vp_in σ.2 3) ∧ True)
noncomputable def l_X8_town_142  (σ0 : Mm × Int32) : Nat → Mm × Int32 := itN (fun _ σ => s_X8_town_142  σ) σ0
theorem ps_X8_town_142 {d : Nat} {J : Nat → Lc → List Value → Mm → Prop}   {σ : Mm × Int32}  (g : Good mX8_town.1 mX8_town.2.2.1 mX8_town.2.2.2.1 (d + 6) J) (hc : c_X8_town_142  σ) (hp : q_X8_town_142  σ) (k : J 142 [some (.ref 600), some (.int ((s_X8_town_142  σ).2))] [] ((s_X8_town_142  σ).1)) : J 142 [some (.ref 600), some (.int σ.2)] [] σ.1 := by
  unfold c_X8_town_142 at hc
  unfold q_X8_town_142 at hp
  unfold s_X8_town_142 at k
  refine j_iload_n g (i := 1) (by decide +kernel) rfl ?_
  refine j_aload_n g (i := 0) (by decide +kernel) rfl ?_
  refine j_gI g f8_225 (by decide +kernel) (by decide +kernel) (by decide +kernel) ?_
  refine j_icmp_ge g (off := 41) (tgt := 188) (by decide +kernel) (by decide) (fun c147 => ?_) (fun c147 => ?_)
  · (try rw [if_pos (show (σ.1.1 600 0) ≤ σ.2 from c147)] at hc); (rw [if_pos (show (σ.1.1 600 0) ≤ σ.2 from c147)] at hp); (try simp only [if_pos (show (σ.1.1 600 0) ≤ σ.2 from c147)] at k)
    exact hc.elim
  · (try rw [if_neg (show ¬ ((σ.1.1 600 0) ≤ σ.2) from c147)] at hc); (rw [if_neg (show ¬ ((σ.1.1 600 0) ≤ σ.2) from c147)] at hp); (try simp only [if_neg (show ¬ ((σ.1.1 600 0) ≤ σ.2) from c147)] at k)
    refine j_aload_n g (i := 0) (by decide +kernel) rfl ?_
    refine j_gA g (b := 607) f8_28 (by decide +kernel) (by decide +kernel) (by decide +kernel) (by decide +kernel) ?_
    refine j_iconst g (n := 0) (0) (by decide +kernel) rfl ?_
    refine j_iload_n g (i := 1) (by decide +kernel) rfl ?_
    refine j_iadd g (by decide +kernel) ?_
    refine j_aload_n g (i := 0) (by decide +kernel) rfl ?_
    refine j_gA g (b := 610) f8_37 (by decide +kernel) (by decide +kernel) (by decide +kernel) (by decide +kernel) ?_
    refine j_iconst g (n := 2) (2) (by decide +kernel) rfl ?_
    refine j_iload_n g (i := 1) (by decide +kernel) rfl ?_
    refine j_imul g (by decide +kernel) ?_
    obtain ⟨h0, hp⟩ := hp
    refine j_ia g 6 (by decide +kernel) (by decide +kernel) (by decide +kernel) h0 ?_
    obtain ⟨h0, hp⟩ := hp
    refine j_is g 44 (by decide +kernel) (by decide +kernel) (by decide +kernel) h0 ?_
    refine j_aload_n g (i := 0) (by decide +kernel) rfl ?_
    refine j_gA g (b := 601) f8_7 (by decide +kernel) (by decide +kernel) (by decide +kernel) (by decide +kernel) ?_
    refine j_iload_n g (i := 1) (by decide +kernel) rfl ?_
    refine j_aload_n g (i := 0) (by decide +kernel) rfl ?_
    refine j_gA g (b := 610) f8_37 (by decide +kernel) (by decide +kernel) (by decide +kernel) (by decide +kernel) ?_
    refine j_iconst g (n := 2) (2) (by decide +kernel) rfl ?_
    refine j_iload_n g (i := 1) (by decide +kernel) rfl ?_
    refine j_imul g (by decide +kernel) ?_
    refine j_iconst g (n := 1) (1) (by decide +kernel) rfl ?_
    refine j_iadd g (by decide +kernel) ?_
    obtain ⟨h0, hp⟩ := hp
    refine j_ia g 6 (by decide +kernel) (by decide +kernel) (by decide +kernel) h0 ?_
    obtain ⟨h0, hp⟩ := hp
    refine j_is g 3 (by decide +kernel) (by decide +kernel) (by decide +kernel) h0 ?_
    refine j_iinc g (i := 1) (n := 1) (1) (by decide +kernel) rfl (by decide) rfl ?_
    dsimp only [stL, clL, hdL]
    refine j_goto g (off := -43) (tgt := 142) (by decide +kernel) (by decide) ?_
    exact k 
theorem sh_X8_town_142 {d : Nat} {J : Nat → Lc → List Value → Mm → Prop}   {σ0 : Mm × Int32}  (g : Good mX8_town.1 mX8_town.2.2.1 mX8_town.2.2.2.1 (d + 6) J) : ∀ (N : Nat), (∀ k, k < N → c_X8_town_142  (l_X8_town_142  σ0 k)) → (∀ k, k < N → q_X8_town_142  (l_X8_town_142  σ0 k)) → (J 142 [some (.ref 600), some (.int ((l_X8_town_142  σ0 N).2))] [] ((l_X8_town_142  σ0 N).1)) → J 142 [some (.ref 600), some (.int σ0.2)] [] σ0.1
  | 0, _, _, k => k
  | N + 1, hc, hp, k => sh_X8_town_142  g N (fun i hi => hc i (Nat.lt_succ_of_lt hi)) (fun i hi => hp i (Nat.lt_succ_of_lt hi)) (ps_X8_town_142  g (hc N (Nat.lt_succ_self N)) (hp N (Nat.lt_succ_self N)) k)
def c_X8_town_190  (σ : Mm × Int32) : Prop := if (σ.1.1 600 1) ≤ σ.2 then False else True
theorem ci_X8_town_190   {σ : Mm × Int32} : c_X8_town_190  σ ↔ (if (σ.1.1 600 1) ≤ σ.2 then False else True) := Iff.rfl
noncomputable def s_X8_town_190  (σ : Mm × Int32) : Mm × Int32 := if (σ.1.1 600 1) ≤ σ.2 then σ else ((wi (wi σ.1 607 (Int32.toNatClampNeg ((3 : Int32) + σ.2)) (σ.1.1 611 (Int32.toNatClampNeg ((2 : Int32) * σ.2)))) 602 (Int32.toNatClampNeg σ.2) ((wi σ.1 607 (Int32.toNatClampNeg ((3 : Int32) + σ.2)) (σ.1.1 611 (Int32.toNatClampNeg ((2 : Int32) * σ.2)))).1 611 (Int32.toNatClampNeg (((2 : Int32) * σ.2) + 1)))), σ.2 + 1)
def q_X8_town_190  (σ : Mm × Int32) : Prop := (if (σ.1.1 600 1) ≤ σ.2 then True else (vp_in ((2 : Int32) * σ.2) 12) ∧ (vp_in ((3 : Int32) + σ.2) 44) ∧ (vp_in (((2 : Int32) * σ.2) + 1) 12) ∧ (vp_in σ.2 6) ∧ True)
noncomputable def l_X8_town_190  (σ0 : Mm × Int32) : Nat → Mm × Int32 := itN (fun _ σ => s_X8_town_190  σ) σ0
theorem ps_X8_town_190 {d : Nat} {J : Nat → Lc → List Value → Mm → Prop}   {σ : Mm × Int32}  (g : Good mX8_town.1 mX8_town.2.2.1 mX8_town.2.2.2.1 (d + 6) J) (hc : c_X8_town_190  σ) (hp : q_X8_town_190  σ) (k : J 190 [some (.ref 600), some (.int ((s_X8_town_190  σ).2))] [] ((s_X8_town_190  σ).1)) : J 190 [some (.ref 600), some (.int σ.2)] [] σ.1 := by
  unfold c_X8_town_190 at hc
  unfold q_X8_town_190 at hp
  unfold s_X8_town_190 at k
  refine j_iload_n g (i := 1) (by decide +kernel) rfl ?_
  refine j_aload_n g (i := 0) (by decide +kernel) rfl ?_
  refine j_gI g f8_228 (by decide +kernel) (by decide +kernel) (by decide +kernel) ?_
  refine j_icmp_ge g (off := 41) (tgt := 236) (by decide +kernel) (by decide) (fun c195 => ?_) (fun c195 => ?_)
  · (try rw [if_pos (show (σ.1.1 600 1) ≤ σ.2 from c195)] at hc); (rw [if_pos (show (σ.1.1 600 1) ≤ σ.2 from c195)] at hp); (try simp only [if_pos (show (σ.1.1 600 1) ≤ σ.2 from c195)] at k)
    exact hc.elim
  · (try rw [if_neg (show ¬ ((σ.1.1 600 1) ≤ σ.2) from c195)] at hc); (rw [if_neg (show ¬ ((σ.1.1 600 1) ≤ σ.2) from c195)] at hp); (try simp only [if_neg (show ¬ ((σ.1.1 600 1) ≤ σ.2) from c195)] at k)
    refine j_aload_n g (i := 0) (by decide +kernel) rfl ?_
    refine j_gA g (b := 607) f8_28 (by decide +kernel) (by decide +kernel) (by decide +kernel) (by decide +kernel) ?_
    refine j_iconst g (n := 3) (3) (by decide +kernel) rfl ?_
    refine j_iload_n g (i := 1) (by decide +kernel) rfl ?_
    refine j_iadd g (by decide +kernel) ?_
    refine j_aload_n g (i := 0) (by decide +kernel) rfl ?_
    refine j_gA g (b := 611) f8_40 (by decide +kernel) (by decide +kernel) (by decide +kernel) (by decide +kernel) ?_
    refine j_iconst g (n := 2) (2) (by decide +kernel) rfl ?_
    refine j_iload_n g (i := 1) (by decide +kernel) rfl ?_
    refine j_imul g (by decide +kernel) ?_
    obtain ⟨h0, hp⟩ := hp
    refine j_ia g 12 (by decide +kernel) (by decide +kernel) (by decide +kernel) h0 ?_
    obtain ⟨h0, hp⟩ := hp
    refine j_is g 44 (by decide +kernel) (by decide +kernel) (by decide +kernel) h0 ?_
    refine j_aload_n g (i := 0) (by decide +kernel) rfl ?_
    refine j_gA g (b := 602) f8_13 (by decide +kernel) (by decide +kernel) (by decide +kernel) (by decide +kernel) ?_
    refine j_iload_n g (i := 1) (by decide +kernel) rfl ?_
    refine j_aload_n g (i := 0) (by decide +kernel) rfl ?_
    refine j_gA g (b := 611) f8_40 (by decide +kernel) (by decide +kernel) (by decide +kernel) (by decide +kernel) ?_
    refine j_iconst g (n := 2) (2) (by decide +kernel) rfl ?_
    refine j_iload_n g (i := 1) (by decide +kernel) rfl ?_
    refine j_imul g (by decide +kernel) ?_
    refine j_iconst g (n := 1) (1) (by decide +kernel) rfl ?_
    refine j_iadd g (by decide +kernel) ?_
    obtain ⟨h0, hp⟩ := hp
    refine j_ia g 12 (by decide +kernel) (by decide +kernel) (by decide +kernel) h0 ?_
    obtain ⟨h0, hp⟩ := hp
    refine j_is g 6 (by decide +kernel) (by decide +kernel) (by decide +kernel) h0 ?_
    refine j_iinc g (i := 1) (n := 1) (1) (by decide +kernel) rfl (by decide) rfl ?_
    dsimp only [stL, clL, hdL]
    refine j_goto g (off := -43) (tgt := 190) (by decide +kernel) (by decide) ?_
    exact k 
theorem sh_X8_town_190 {d : Nat} {J : Nat → Lc → List Value → Mm → Prop}   {σ0 : Mm × Int32}  (g : Good mX8_town.1 mX8_town.2.2.1 mX8_town.2.2.2.1 (d + 6) J) : ∀ (N : Nat), (∀ k, k < N → c_X8_town_190  (l_X8_town_190  σ0 k)) → (∀ k, k < N → q_X8_town_190  (l_X8_town_190  σ0 k)) → (J 190 [some (.ref 600), some (.int ((l_X8_town_190  σ0 N).2))] [] ((l_X8_town_190  σ0 N).1)) → J 190 [some (.ref 600), some (.int σ0.2)] [] σ0.1
  | 0, _, _, k => k
  | N + 1, hc, hp, k => sh_X8_town_190  g N (fun i hi => hc i (Nat.lt_succ_of_lt hi)) (fun i hi => hp i (Nat.lt_succ_of_lt hi)) (ps_X8_town_190  g (hc N (Nat.lt_succ_self N)) (hp N (Nat.lt_succ_self N)) k)
def c_X8_town_238  (σ : Mm × Int32) : Prop := if (48 : Int32) ≤ σ.2 then False else True
theorem ci_X8_town_238   {σ : Mm × Int32} : c_X8_town_238  σ ↔ (if (48 : Int32) ≤ σ.2 then False else True) := Iff.rfl
noncomputable def s_X8_town_238  (σ : Mm × Int32) : Mm × Int32 := if (48 : Int32) ≤ σ.2 then σ else ((wi σ.1 603 (Int32.toNatClampNeg σ.2) (σ.1.1 612 (Int32.toNatClampNeg σ.2))), σ.2 + 1)
def q_X8_town_238  (σ : Mm × Int32) : Prop := (if (48 : Int32) ≤ σ.2 then True else (vp_in σ.2 48) ∧ (vp_in σ.2 48) ∧ True)
noncomputable def l_X8_town_238  (σ0 : Mm × Int32) : Nat → Mm × Int32 := itN (fun _ σ => s_X8_town_238  σ) σ0
theorem ps_X8_town_238 {d : Nat} {J : Nat → Lc → List Value → Mm → Prop}   {σ : Mm × Int32}  (g : Good mX8_town.1 mX8_town.2.2.1 mX8_town.2.2.2.1 (d + 6) J) (hc : c_X8_town_238  σ) (hp : q_X8_town_238  σ) (k : J 238 [some (.ref 600), some (.int ((s_X8_town_238  σ).2))] [] ((s_X8_town_238  σ).1)) : J 238 [some (.ref 600), some (.int σ.2)] [] σ.1 := by
  unfold c_X8_town_238 at hc
  unfold q_X8_town_238 at hp
  unfold s_X8_town_238 at k
  refine j_iload_n g (i := 1) (by decide +kernel) rfl ?_
  refine j_bipush g (n := 48) (48) (by decide +kernel) (by decide +kernel) ?_
  refine j_icmp_ge g (off := 21) (tgt := 262) (by decide +kernel) (by decide) (fun c241 => ?_) (fun c241 => ?_)
  · (try rw [if_pos (show (48 : Int32) ≤ σ.2 from c241)] at hc); (rw [if_pos (show (48 : Int32) ≤ σ.2 from c241)] at hp); (try simp only [if_pos (show (48 : Int32) ≤ σ.2 from c241)] at k)
    exact hc.elim
  · (try rw [if_neg (show ¬ ((48 : Int32) ≤ σ.2) from c241)] at hc); (rw [if_neg (show ¬ ((48 : Int32) ≤ σ.2) from c241)] at hp); (try simp only [if_neg (show ¬ ((48 : Int32) ≤ σ.2) from c241)] at k)
    refine j_aload_n g (i := 0) (by decide +kernel) rfl ?_
    refine j_gA g (b := 603) f8_16 (by decide +kernel) (by decide +kernel) (by decide +kernel) (by decide +kernel) ?_
    refine j_iload_n g (i := 1) (by decide +kernel) rfl ?_
    refine j_aload_n g (i := 0) (by decide +kernel) rfl ?_
    refine j_gA g (b := 612) f8_43 (by decide +kernel) (by decide +kernel) (by decide +kernel) (by decide +kernel) ?_
    refine j_iload_n g (i := 1) (by decide +kernel) rfl ?_
    obtain ⟨h0, hp⟩ := hp
    refine j_ia g 48 (by decide +kernel) (by decide +kernel) (by decide +kernel) h0 ?_
    obtain ⟨h0, hp⟩ := hp
    refine j_is g 48 (by decide +kernel) (by decide +kernel) (by decide +kernel) h0 ?_
    refine j_iinc g (i := 1) (n := 1) (1) (by decide +kernel) rfl (by decide) rfl ?_
    dsimp only [stL, clL, hdL]
    refine j_goto g (off := -21) (tgt := 238) (by decide +kernel) (by decide) ?_
    exact k 
theorem sh_X8_town_238 {d : Nat} {J : Nat → Lc → List Value → Mm → Prop}   {σ0 : Mm × Int32}  (g : Good mX8_town.1 mX8_town.2.2.1 mX8_town.2.2.2.1 (d + 6) J) : ∀ (N : Nat), (∀ k, k < N → c_X8_town_238  (l_X8_town_238  σ0 k)) → (∀ k, k < N → q_X8_town_238  (l_X8_town_238  σ0 k)) → (J 238 [some (.ref 600), some (.int ((l_X8_town_238  σ0 N).2))] [] ((l_X8_town_238  σ0 N).1)) → J 238 [some (.ref 600), some (.int σ0.2)] [] σ0.1
  | 0, _, _, k => k
  | N + 1, hc, hp, k => sh_X8_town_238  g N (fun i hi => hc i (Nat.lt_succ_of_lt hi)) (fun i hi => hp i (Nat.lt_succ_of_lt hi)) (ps_X8_town_238  g (hc N (Nat.lt_succ_self N)) (hp N (Nat.lt_succ_self N)) k)
def c_X8_town_264  (σ : Mm × Int32) : Prop := if (4 : Int32) ≤ σ.2 then False else True
theorem ci_X8_town_264   {σ : Mm × Int32} : c_X8_town_264  σ ↔ (if (4 : Int32) ≤ σ.2 then False else True) := Iff.rfl
noncomputable def s_X8_town_264  (σ : Mm × Int32) : Mm × Int32 := if (4 : Int32) ≤ σ.2 then σ else ((wi σ.1 604 (Int32.toNatClampNeg σ.2) (σ.1.1 613 (Int32.toNatClampNeg σ.2))), σ.2 + 1)
def q_X8_town_264  (σ : Mm × Int32) : Prop := (if (4 : Int32) ≤ σ.2 then True else (vp_in σ.2 4) ∧ (vp_in σ.2 4) ∧ True)
noncomputable def l_X8_town_264  (σ0 : Mm × Int32) : Nat → Mm × Int32 := itN (fun _ σ => s_X8_town_264  σ) σ0
theorem ps_X8_town_264 {d : Nat} {J : Nat → Lc → List Value → Mm → Prop}   {σ : Mm × Int32}  (g : Good mX8_town.1 mX8_town.2.2.1 mX8_town.2.2.2.1 (d + 6) J) (hc : c_X8_town_264  σ) (hp : q_X8_town_264  σ) (k : J 264 [some (.ref 600), some (.int ((s_X8_town_264  σ).2))] [] ((s_X8_town_264  σ).1)) : J 264 [some (.ref 600), some (.int σ.2)] [] σ.1 := by
  unfold c_X8_town_264 at hc
  unfold q_X8_town_264 at hp
  unfold s_X8_town_264 at k
  refine j_iload_n g (i := 1) (by decide +kernel) rfl ?_
  refine j_iconst g (n := 4) (4) (by decide +kernel) rfl ?_
  refine j_icmp_ge g (off := 21) (tgt := 287) (by decide +kernel) (by decide) (fun c266 => ?_) (fun c266 => ?_)
  · (try rw [if_pos (show (4 : Int32) ≤ σ.2 from c266)] at hc); (rw [if_pos (show (4 : Int32) ≤ σ.2 from c266)] at hp); (try simp only [if_pos (show (4 : Int32) ≤ σ.2 from c266)] at k)
    exact hc.elim
  · (try rw [if_neg (show ¬ ((4 : Int32) ≤ σ.2) from c266)] at hc); (rw [if_neg (show ¬ ((4 : Int32) ≤ σ.2) from c266)] at hp); (try simp only [if_neg (show ¬ ((4 : Int32) ≤ σ.2) from c266)] at k)
    refine j_aload_n g (i := 0) (by decide +kernel) rfl ?_
    refine j_gA g (b := 604) f8_19 (by decide +kernel) (by decide +kernel) (by decide +kernel) (by decide +kernel) ?_
    refine j_iload_n g (i := 1) (by decide +kernel) rfl ?_
    refine j_aload_n g (i := 0) (by decide +kernel) rfl ?_
    refine j_gA g (b := 613) f8_46 (by decide +kernel) (by decide +kernel) (by decide +kernel) (by decide +kernel) ?_
    refine j_iload_n g (i := 1) (by decide +kernel) rfl ?_
    obtain ⟨h0, hp⟩ := hp
    refine j_ia g 4 (by decide +kernel) (by decide +kernel) (by decide +kernel) h0 ?_
    obtain ⟨h0, hp⟩ := hp
    refine j_is g 4 (by decide +kernel) (by decide +kernel) (by decide +kernel) h0 ?_
    refine j_iinc g (i := 1) (n := 1) (1) (by decide +kernel) rfl (by decide) rfl ?_
    dsimp only [stL, clL, hdL]
    refine j_goto g (off := -20) (tgt := 264) (by decide +kernel) (by decide) ?_
    exact k 
theorem sh_X8_town_264 {d : Nat} {J : Nat → Lc → List Value → Mm → Prop}   {σ0 : Mm × Int32}  (g : Good mX8_town.1 mX8_town.2.2.1 mX8_town.2.2.2.1 (d + 6) J) : ∀ (N : Nat), (∀ k, k < N → c_X8_town_264  (l_X8_town_264  σ0 k)) → (∀ k, k < N → q_X8_town_264  (l_X8_town_264  σ0 k)) → (J 264 [some (.ref 600), some (.int ((l_X8_town_264  σ0 N).2))] [] ((l_X8_town_264  σ0 N).1)) → J 264 [some (.ref 600), some (.int σ0.2)] [] σ0.1
  | 0, _, _, k => k
  | N + 1, hc, hp, k => sh_X8_town_264  g N (fun i hi => hc i (Nat.lt_succ_of_lt hi)) (fun i hi => hp i (Nat.lt_succ_of_lt hi)) (ps_X8_town_264  g (hc N (Nat.lt_succ_self N)) (hp N (Nat.lt_succ_self N)) k)
noncomputable def r_X8_town_264 (M : Mm)  (x1 : Int32) : Int32 := if (4 : Int32) ≤ ((l_X8_town_264  (M, x1) n4).2) then (wi (wi (l_X8_town_264  (M, x1) n4).1 600 11 0) 600 42 0).1 600 2 else 0
noncomputable def w_X8_town_264 (M : Mm)  (x1 : Int32) : Mm := if (4 : Int32) ≤ ((l_X8_town_264  (M, x1) n4).2) then (wi (wi (l_X8_town_264  (M, x1) n4).1 600 11 0) 600 42 0) else M
def p_X8_town_264 (M : Mm)  (x1 : Int32) : Prop := (∀ k, k < n4 → c_X8_town_264  (l_X8_town_264  (M, x1) k)) ∧ (∀ k, k < n4 → q_X8_town_264  (l_X8_town_264  (M, x1) k)) ∧ (¬ c_X8_town_264  (l_X8_town_264  (M, x1) n4)) ∧ (if (4 : Int32) ≤ ((l_X8_town_264  (M, x1) n4).2) then True else True)
theorem jn_X8_town_264 {d : Nat} {J : Nat → Lc → List Value → Mm → Prop} {M : Mm}  {x1 : Int32}  (g : Good mX8_town.1 mX8_town.2.2.1 mX8_town.2.2.2.1 (d + 6) J) {rv : Option Value} {M1 : Mm} (hr : Ret mX8_town.2.2.1 mX8_town.2.2.2.2 rv M1 J) (hp : p_X8_town_264 M  x1) (hrv : rv = some (.int (r_X8_town_264 M  x1))) (hmm : M1 = w_X8_town_264 M  x1) : J 264 [some (.ref 600), some (.int x1)] [] M := by
  unfold p_X8_town_264 at hp
  obtain ⟨h0, hp⟩ := hp
  have hc_264_7 := h0
  obtain ⟨h0, hp⟩ := hp
  have hq_264_7 := h0
  obtain ⟨h0, hp⟩ := hp
  have hx_264_7 := h0
  refine sh_X8_town_264   g (σ0 := (M, x1)) n4 hc_264_7 hq_264_7 ?_ 
  refine j_iload_n g (i := 1) (by decide +kernel) rfl ?_
  refine j_iconst g (n := 4) (4) (by decide +kernel) rfl ?_
  refine j_icmp_ge g (off := 21) (tgt := 287) (by decide +kernel) (by decide) (fun c266 => ?_) (fun c266 => ?_)
  · rw [if_pos (show (4 : Int32) ≤ ((l_X8_town_264  (M, x1) n4).2) from c266)] at hp
    refine j_aload_n g (i := 0) (by decide +kernel) rfl ?_
    refine j_iconst g (n := 0) (0) (by decide +kernel) rfl ?_
    refine j_pI g f8_231 (fun q h => by cases h; rfl) (by decide +kernel) (by decide +kernel) (by decide +kernel) ?_
    refine j_aload_n g (i := 0) (by decide +kernel) rfl ?_
    refine j_iconst g (n := 0) (0) (by decide +kernel) rfl ?_
    refine j_pI g f8_234 (fun q h => by cases h; rfl) (by decide +kernel) (by decide +kernel) (by decide +kernel) ?_
    refine j_aload_n g (i := 0) (by decide +kernel) rfl ?_
    refine j_gI g f8_99 (by decide +kernel) (by decide +kernel) (by decide +kernel) ?_
    refine hr.1 _ _ _ _ (by decide +kernel) ⟨_, rfl, by first | rfl | exact b2i_nar | decide +kernel⟩ ?_ ?_
    · rw [hrv]; unfold r_X8_town_264; first | (simp only [if_pos (show (4 : Int32) ≤ ((l_X8_town_264  (M, x1) n4).2) from c266)]; done) | (simp only [if_pos (show (4 : Int32) ≤ ((l_X8_town_264  (M, x1) n4).2) from c266)]; rfl) | rfl
    · rw [hmm]; unfold w_X8_town_264; first | (simp only [if_pos (show (4 : Int32) ≤ ((l_X8_town_264  (M, x1) n4).2) from c266)]; done) | (simp only [if_pos (show (4 : Int32) ≤ ((l_X8_town_264  (M, x1) n4).2) from c266)]; rfl) | rfl
  · rw [if_neg (show ¬ ((4 : Int32) ≤ ((l_X8_town_264  (M, x1) n4).2)) from c266)] at hp
    refine absurd (ci_X8_town_264.mpr ?_) hx_264_7
    simp only [if_neg (show ¬ ((4 : Int32) ≤ ((l_X8_town_264  (M, x1) n4).2)) from c266)]
noncomputable def r_X8_town_238 (M : Mm)  (x1 : Int32) : Int32 := if (48 : Int32) ≤ ((l_X8_town_238  (M, x1) n48).2) then r_X8_town_264 ((l_X8_town_238  (M, x1) n48).1)  0 else 0
noncomputable def w_X8_town_238 (M : Mm)  (x1 : Int32) : Mm := if (48 : Int32) ≤ ((l_X8_town_238  (M, x1) n48).2) then w_X8_town_264 ((l_X8_town_238  (M, x1) n48).1)  0 else M
def p_X8_town_238 (M : Mm)  (x1 : Int32) : Prop := (∀ k, k < n48 → c_X8_town_238  (l_X8_town_238  (M, x1) k)) ∧ (∀ k, k < n48 → q_X8_town_238  (l_X8_town_238  (M, x1) k)) ∧ (¬ c_X8_town_238  (l_X8_town_238  (M, x1) n48)) ∧ (if (48 : Int32) ≤ ((l_X8_town_238  (M, x1) n48).2) then p_X8_town_264 ((l_X8_town_238  (M, x1) n48).1)  0 else True)
theorem jn_X8_town_238 {d : Nat} {J : Nat → Lc → List Value → Mm → Prop} {M : Mm}  {x1 : Int32}  (g : Good mX8_town.1 mX8_town.2.2.1 mX8_town.2.2.2.1 (d + 6) J) {rv : Option Value} {M1 : Mm} (hr : Ret mX8_town.2.2.1 mX8_town.2.2.2.2 rv M1 J) (hp : p_X8_town_238 M  x1) (hrv : rv = some (.int (r_X8_town_238 M  x1))) (hmm : M1 = w_X8_town_238 M  x1) : J 238 [some (.ref 600), some (.int x1)] [] M := by
  unfold p_X8_town_238 at hp
  obtain ⟨h0, hp⟩ := hp
  have hc_238_6 := h0
  obtain ⟨h0, hp⟩ := hp
  have hq_238_6 := h0
  obtain ⟨h0, hp⟩ := hp
  have hx_238_6 := h0
  refine sh_X8_town_238   g (σ0 := (M, x1)) n48 hc_238_6 hq_238_6 ?_ 
  refine j_iload_n g (i := 1) (by decide +kernel) rfl ?_
  refine j_bipush g (n := 48) (48) (by decide +kernel) (by decide +kernel) ?_
  refine j_icmp_ge g (off := 21) (tgt := 262) (by decide +kernel) (by decide) (fun c241 => ?_) (fun c241 => ?_)
  · rw [if_pos (show (48 : Int32) ≤ ((l_X8_town_238  (M, x1) n48).2) from c241)] at hp
    refine j_iconst g (n := 0) (0) (by decide +kernel) rfl ?_
    refine j_istore_n g (i := 1) (by decide +kernel) (by decide) ?_
    dsimp only [stL, clL, hdL]
    refine jn_X8_town_264  g hr hp ?_ ?_ 
    · rw [hrv]; unfold r_X8_town_238; first | (simp only [if_pos (show (48 : Int32) ≤ ((l_X8_town_238  (M, x1) n48).2) from c241)]; done) | (simp only [if_pos (show (48 : Int32) ≤ ((l_X8_town_238  (M, x1) n48).2) from c241)]; rfl) | rfl
    · rw [hmm]; unfold w_X8_town_238; first | (simp only [if_pos (show (48 : Int32) ≤ ((l_X8_town_238  (M, x1) n48).2) from c241)]; done) | (simp only [if_pos (show (48 : Int32) ≤ ((l_X8_town_238  (M, x1) n48).2) from c241)]; rfl) | rfl
  · rw [if_neg (show ¬ ((48 : Int32) ≤ ((l_X8_town_238  (M, x1) n48).2)) from c241)] at hp
    refine absurd (ci_X8_town_238.mpr ?_) hx_238_6
    simp only [if_neg (show ¬ ((48 : Int32) ≤ ((l_X8_town_238  (M, x1) n48).2)) from c241)]
noncomputable def r_X8_town_190 (M : Mm)  (x1 : Int32) : Int32 := if ((l_X8_town_190  (M, x1) (Int32.toNatClampNeg (M.1 600 1))).1.1 600 1) ≤ ((l_X8_town_190  (M, x1) (Int32.toNatClampNeg (M.1 600 1))).2) then r_X8_town_238 ((l_X8_town_190  (M, x1) (Int32.toNatClampNeg (M.1 600 1))).1)  0 else 0
noncomputable def w_X8_town_190 (M : Mm)  (x1 : Int32) : Mm := if ((l_X8_town_190  (M, x1) (Int32.toNatClampNeg (M.1 600 1))).1.1 600 1) ≤ ((l_X8_town_190  (M, x1) (Int32.toNatClampNeg (M.1 600 1))).2) then w_X8_town_238 ((l_X8_town_190  (M, x1) (Int32.toNatClampNeg (M.1 600 1))).1)  0 else M
def p_X8_town_190 (M : Mm)  (x1 : Int32) : Prop := (∀ k, k < (Int32.toNatClampNeg (M.1 600 1)) → c_X8_town_190  (l_X8_town_190  (M, x1) k)) ∧ (∀ k, k < (Int32.toNatClampNeg (M.1 600 1)) → q_X8_town_190  (l_X8_town_190  (M, x1) k)) ∧ (¬ c_X8_town_190  (l_X8_town_190  (M, x1) (Int32.toNatClampNeg (M.1 600 1)))) ∧ (if ((l_X8_town_190  (M, x1) (Int32.toNatClampNeg (M.1 600 1))).1.1 600 1) ≤ ((l_X8_town_190  (M, x1) (Int32.toNatClampNeg (M.1 600 1))).2) then p_X8_town_238 ((l_X8_town_190  (M, x1) (Int32.toNatClampNeg (M.1 600 1))).1)  0 else True)
theorem jn_X8_town_190 {d : Nat} {J : Nat → Lc → List Value → Mm → Prop} {M : Mm}  {x1 : Int32}  (g : Good mX8_town.1 mX8_town.2.2.1 mX8_town.2.2.2.1 (d + 6) J) {rv : Option Value} {M1 : Mm} (hr : Ret mX8_town.2.2.1 mX8_town.2.2.2.2 rv M1 J) (hp : p_X8_town_190 M  x1) (hrv : rv = some (.int (r_X8_town_190 M  x1))) (hmm : M1 = w_X8_town_190 M  x1) : J 190 [some (.ref 600), some (.int x1)] [] M := by
  unfold p_X8_town_190 at hp
  obtain ⟨h0, hp⟩ := hp
  have hc_190_5 := h0
  obtain ⟨h0, hp⟩ := hp
  have hq_190_5 := h0
  obtain ⟨h0, hp⟩ := hp
  have hx_190_5 := h0
  refine sh_X8_town_190   g (σ0 := (M, x1)) (Int32.toNatClampNeg (M.1 600 1)) hc_190_5 hq_190_5 ?_ 
  refine j_iload_n g (i := 1) (by decide +kernel) rfl ?_
  refine j_aload_n g (i := 0) (by decide +kernel) rfl ?_
  refine j_gI g f8_228 (by decide +kernel) (by decide +kernel) (by decide +kernel) ?_
  refine j_icmp_ge g (off := 41) (tgt := 236) (by decide +kernel) (by decide) (fun c195 => ?_) (fun c195 => ?_)
  · rw [if_pos (show ((l_X8_town_190  (M, x1) (Int32.toNatClampNeg (M.1 600 1))).1.1 600 1) ≤ ((l_X8_town_190  (M, x1) (Int32.toNatClampNeg (M.1 600 1))).2) from c195)] at hp
    refine j_iconst g (n := 0) (0) (by decide +kernel) rfl ?_
    refine j_istore_n g (i := 1) (by decide +kernel) (by decide) ?_
    dsimp only [stL, clL, hdL]
    refine jn_X8_town_238  g hr hp ?_ ?_ 
    · rw [hrv]; unfold r_X8_town_190; first | (simp only [if_pos (show ((l_X8_town_190  (M, x1) (Int32.toNatClampNeg (M.1 600 1))).1.1 600 1) ≤ ((l_X8_town_190  (M, x1) (Int32.toNatClampNeg (M.1 600 1))).2) from c195)]; done) | (simp only [if_pos (show ((l_X8_town_190  (M, x1) (Int32.toNatClampNeg (M.1 600 1))).1.1 600 1) ≤ ((l_X8_town_190  (M, x1) (Int32.toNatClampNeg (M.1 600 1))).2) from c195)]; rfl) | rfl
    · rw [hmm]; unfold w_X8_town_190; first | (simp only [if_pos (show ((l_X8_town_190  (M, x1) (Int32.toNatClampNeg (M.1 600 1))).1.1 600 1) ≤ ((l_X8_town_190  (M, x1) (Int32.toNatClampNeg (M.1 600 1))).2) from c195)]; done) | (simp only [if_pos (show ((l_X8_town_190  (M, x1) (Int32.toNatClampNeg (M.1 600 1))).1.1 600 1) ≤ ((l_X8_town_190  (M, x1) (Int32.toNatClampNeg (M.1 600 1))).2) from c195)]; rfl) | rfl
  · rw [if_neg (show ¬ (((l_X8_town_190  (M, x1) (Int32.toNatClampNeg (M.1 600 1))).1.1 600 1) ≤ ((l_X8_town_190  (M, x1) (Int32.toNatClampNeg (M.1 600 1))).2)) from c195)] at hp
    refine absurd (ci_X8_town_190.mpr ?_) hx_190_5
    simp only [if_neg (show ¬ (((l_X8_town_190  (M, x1) (Int32.toNatClampNeg (M.1 600 1))).1.1 600 1) ≤ ((l_X8_town_190  (M, x1) (Int32.toNatClampNeg (M.1 600 1))).2)) from c195)]
noncomputable def r_X8_town_142 (M : Mm)  (x1 : Int32) : Int32 := if ((l_X8_town_142  (M, x1) (Int32.toNatClampNeg (M.1 600 0))).1.1 600 0) ≤ ((l_X8_town_142  (M, x1) (Int32.toNatClampNeg (M.1 600 0))).2) then r_X8_town_190 ((l_X8_town_142  (M, x1) (Int32.toNatClampNeg (M.1 600 0))).1)  0 else 0
noncomputable def w_X8_town_142 (M : Mm)  (x1 : Int32) : Mm := if ((l_X8_town_142  (M, x1) (Int32.toNatClampNeg (M.1 600 0))).1.1 600 0) ≤ ((l_X8_town_142  (M, x1) (Int32.toNatClampNeg (M.1 600 0))).2) then w_X8_town_190 ((l_X8_town_142  (M, x1) (Int32.toNatClampNeg (M.1 600 0))).1)  0 else M
def p_X8_town_142 (M : Mm)  (x1 : Int32) : Prop := (∀ k, k < (Int32.toNatClampNeg (M.1 600 0)) → c_X8_town_142  (l_X8_town_142  (M, x1) k)) ∧ (∀ k, k < (Int32.toNatClampNeg (M.1 600 0)) → q_X8_town_142  (l_X8_town_142  (M, x1) k)) ∧ (¬ c_X8_town_142  (l_X8_town_142  (M, x1) (Int32.toNatClampNeg (M.1 600 0)))) ∧ (if ((l_X8_town_142  (M, x1) (Int32.toNatClampNeg (M.1 600 0))).1.1 600 0) ≤ ((l_X8_town_142  (M, x1) (Int32.toNatClampNeg (M.1 600 0))).2) then p_X8_town_190 ((l_X8_town_142  (M, x1) (Int32.toNatClampNeg (M.1 600 0))).1)  0 else True)
theorem jn_X8_town_142 {d : Nat} {J : Nat → Lc → List Value → Mm → Prop} {M : Mm}  {x1 : Int32}  (g : Good mX8_town.1 mX8_town.2.2.1 mX8_town.2.2.2.1 (d + 6) J) {rv : Option Value} {M1 : Mm} (hr : Ret mX8_town.2.2.1 mX8_town.2.2.2.2 rv M1 J) (hp : p_X8_town_142 M  x1) (hrv : rv = some (.int (r_X8_town_142 M  x1))) (hmm : M1 = w_X8_town_142 M  x1) : J 142 [some (.ref 600), some (.int x1)] [] M := by
  unfold p_X8_town_142 at hp
  obtain ⟨h0, hp⟩ := hp
  have hc_142_4 := h0
  obtain ⟨h0, hp⟩ := hp
  have hq_142_4 := h0
  obtain ⟨h0, hp⟩ := hp
  have hx_142_4 := h0
  refine sh_X8_town_142   g (σ0 := (M, x1)) (Int32.toNatClampNeg (M.1 600 0)) hc_142_4 hq_142_4 ?_ 
  refine j_iload_n g (i := 1) (by decide +kernel) rfl ?_
  refine j_aload_n g (i := 0) (by decide +kernel) rfl ?_
  refine j_gI g f8_225 (by decide +kernel) (by decide +kernel) (by decide +kernel) ?_
  refine j_icmp_ge g (off := 41) (tgt := 188) (by decide +kernel) (by decide) (fun c147 => ?_) (fun c147 => ?_)
  · rw [if_pos (show ((l_X8_town_142  (M, x1) (Int32.toNatClampNeg (M.1 600 0))).1.1 600 0) ≤ ((l_X8_town_142  (M, x1) (Int32.toNatClampNeg (M.1 600 0))).2) from c147)] at hp
    refine j_iconst g (n := 0) (0) (by decide +kernel) rfl ?_
    refine j_istore_n g (i := 1) (by decide +kernel) (by decide) ?_
    dsimp only [stL, clL, hdL]
    refine jn_X8_town_190  g hr hp ?_ ?_ 
    · rw [hrv]; unfold r_X8_town_142; first | (simp only [if_pos (show ((l_X8_town_142  (M, x1) (Int32.toNatClampNeg (M.1 600 0))).1.1 600 0) ≤ ((l_X8_town_142  (M, x1) (Int32.toNatClampNeg (M.1 600 0))).2) from c147)]; done) | (simp only [if_pos (show ((l_X8_town_142  (M, x1) (Int32.toNatClampNeg (M.1 600 0))).1.1 600 0) ≤ ((l_X8_town_142  (M, x1) (Int32.toNatClampNeg (M.1 600 0))).2) from c147)]; rfl) | rfl
    · rw [hmm]; unfold w_X8_town_142; first | (simp only [if_pos (show ((l_X8_town_142  (M, x1) (Int32.toNatClampNeg (M.1 600 0))).1.1 600 0) ≤ ((l_X8_town_142  (M, x1) (Int32.toNatClampNeg (M.1 600 0))).2) from c147)]; done) | (simp only [if_pos (show ((l_X8_town_142  (M, x1) (Int32.toNatClampNeg (M.1 600 0))).1.1 600 0) ≤ ((l_X8_town_142  (M, x1) (Int32.toNatClampNeg (M.1 600 0))).2) from c147)]; rfl) | rfl
  · rw [if_neg (show ¬ (((l_X8_town_142  (M, x1) (Int32.toNatClampNeg (M.1 600 0))).1.1 600 0) ≤ ((l_X8_town_142  (M, x1) (Int32.toNatClampNeg (M.1 600 0))).2)) from c147)] at hp
    refine absurd (ci_X8_town_142.mpr ?_) hx_142_4
    simp only [if_neg (show ¬ (((l_X8_town_142  (M, x1) (Int32.toNatClampNeg (M.1 600 0))).1.1 600 0) ≤ ((l_X8_town_142  (M, x1) (Int32.toNatClampNeg (M.1 600 0))).2)) from c147)]
noncomputable def r_X8_town_121 (M : Mm)  (x1 : Int32) : Int32 := if (22 : Int32) ≤ ((l_X8_town_121  (M, x1) n22).2) then r_X8_town_142 ((l_X8_town_121  (M, x1) n22).1)  0 else 0
noncomputable def w_X8_town_121 (M : Mm)  (x1 : Int32) : Mm := if (22 : Int32) ≤ ((l_X8_town_121  (M, x1) n22).2) then w_X8_town_142 ((l_X8_town_121  (M, x1) n22).1)  0 else M
def p_X8_town_121 (M : Mm)  (x1 : Int32) : Prop := (∀ k, k < n22 → c_X8_town_121  (l_X8_town_121  (M, x1) k)) ∧ (∀ k, k < n22 → q_X8_town_121  (l_X8_town_121  (M, x1) k)) ∧ (¬ c_X8_town_121  (l_X8_town_121  (M, x1) n22)) ∧ (if (22 : Int32) ≤ ((l_X8_town_121  (M, x1) n22).2) then p_X8_town_142 ((l_X8_town_121  (M, x1) n22).1)  0 else True)
theorem jn_X8_town_121 {d : Nat} {J : Nat → Lc → List Value → Mm → Prop} {M : Mm}  {x1 : Int32}  (g : Good mX8_town.1 mX8_town.2.2.1 mX8_town.2.2.2.1 (d + 6) J) {rv : Option Value} {M1 : Mm} (hr : Ret mX8_town.2.2.1 mX8_town.2.2.2.2 rv M1 J) (hp : p_X8_town_121 M  x1) (hrv : rv = some (.int (r_X8_town_121 M  x1))) (hmm : M1 = w_X8_town_121 M  x1) : J 121 [some (.ref 600), some (.int x1)] [] M := by
  unfold p_X8_town_121 at hp
  obtain ⟨h0, hp⟩ := hp
  have hc_121_3 := h0
  obtain ⟨h0, hp⟩ := hp
  have hq_121_3 := h0
  obtain ⟨h0, hp⟩ := hp
  have hx_121_3 := h0
  refine sh_X8_town_121   g (σ0 := (M, x1)) n22 hc_121_3 hq_121_3 ?_ 
  refine j_iload_n g (i := 1) (by decide +kernel) rfl ?_
  refine j_bipush g (n := 22) (22) (by decide +kernel) (by decide +kernel) ?_
  refine j_icmp_ge g (off := 16) (tgt := 140) (by decide +kernel) (by decide) (fun c124 => ?_) (fun c124 => ?_)
  · rw [if_pos (show (22 : Int32) ≤ ((l_X8_town_121  (M, x1) n22).2) from c124)] at hp
    refine j_iconst g (n := 0) (0) (by decide +kernel) rfl ?_
    refine j_istore_n g (i := 1) (by decide +kernel) (by decide) ?_
    dsimp only [stL, clL, hdL]
    refine jn_X8_town_142  g hr hp ?_ ?_ 
    · rw [hrv]; unfold r_X8_town_121; first | (simp only [if_pos (show (22 : Int32) ≤ ((l_X8_town_121  (M, x1) n22).2) from c124)]; done) | (simp only [if_pos (show (22 : Int32) ≤ ((l_X8_town_121  (M, x1) n22).2) from c124)]; rfl) | rfl
    · rw [hmm]; unfold w_X8_town_121; first | (simp only [if_pos (show (22 : Int32) ≤ ((l_X8_town_121  (M, x1) n22).2) from c124)]; done) | (simp only [if_pos (show (22 : Int32) ≤ ((l_X8_town_121  (M, x1) n22).2) from c124)]; rfl) | rfl
  · rw [if_neg (show ¬ ((22 : Int32) ≤ ((l_X8_town_121  (M, x1) n22).2)) from c124)] at hp
    refine absurd (ci_X8_town_121.mpr ?_) hx_121_3
    simp only [if_neg (show ¬ ((22 : Int32) ≤ ((l_X8_town_121  (M, x1) n22).2)) from c124)]
noncomputable def r_X8_town_95 (M : Mm)  (x1 : Int32) : Int32 := r_X8_town_121 (wi (wi (wi M 600 0 (M.1 600 22)) 600 1 ((wi M 600 0 (M.1 600 22)).1 600 23)) 600 2 ((wi (wi M 600 0 (M.1 600 22)) 600 1 ((wi M 600 0 (M.1 600 22)).1 600 23)).1 600 24))  0
noncomputable def w_X8_town_95 (M : Mm)  (x1 : Int32) : Mm := w_X8_town_121 (wi (wi (wi M 600 0 (M.1 600 22)) 600 1 ((wi M 600 0 (M.1 600 22)).1 600 23)) 600 2 ((wi (wi M 600 0 (M.1 600 22)) 600 1 ((wi M 600 0 (M.1 600 22)).1 600 23)).1 600 24))  0
def p_X8_town_95 (M : Mm)  (x1 : Int32) : Prop := p_X8_town_121 (wi (wi (wi M 600 0 (M.1 600 22)) 600 1 ((wi M 600 0 (M.1 600 22)).1 600 23)) 600 2 ((wi (wi M 600 0 (M.1 600 22)) 600 1 ((wi M 600 0 (M.1 600 22)).1 600 23)).1 600 24))  0
theorem jn_X8_town_95 {d : Nat} {J : Nat → Lc → List Value → Mm → Prop} {M : Mm}  {x1 : Int32}  (g : Good mX8_town.1 mX8_town.2.2.1 mX8_town.2.2.2.1 (d + 6) J) {rv : Option Value} {M1 : Mm} (hr : Ret mX8_town.2.2.1 mX8_town.2.2.2.2 rv M1 J) (hp : p_X8_town_95 M  x1) (hrv : rv = some (.int (r_X8_town_95 M  x1))) (hmm : M1 = w_X8_town_95 M  x1) : J 95 [some (.ref 600), some (.int x1)] [] M := by
  unfold p_X8_town_95 at hp
  refine j_aload_n g (i := 0) (by decide +kernel) rfl ?_
  refine j_aload_n g (i := 0) (by decide +kernel) rfl ?_
  refine j_gI g f8_177 (by decide +kernel) (by decide +kernel) (by decide +kernel) ?_
  refine j_pI g f8_225 (fun q h => by cases h; rfl) (by decide +kernel) (by decide +kernel) (by decide +kernel) ?_
  refine j_aload_n g (i := 0) (by decide +kernel) rfl ?_
  refine j_aload_n g (i := 0) (by decide +kernel) rfl ?_
  refine j_gI g f8_180 (by decide +kernel) (by decide +kernel) (by decide +kernel) ?_
  refine j_pI g f8_228 (fun q h => by cases h; rfl) (by decide +kernel) (by decide +kernel) (by decide +kernel) ?_
  refine j_aload_n g (i := 0) (by decide +kernel) rfl ?_
  refine j_aload_n g (i := 0) (by decide +kernel) rfl ?_
  refine j_gI g f8_174 (by decide +kernel) (by decide +kernel) (by decide +kernel) ?_
  refine j_pI g f8_99 (fun q h => by cases h; rfl) (by decide +kernel) (by decide +kernel) (by decide +kernel) ?_
  refine j_iconst g (n := 0) (0) (by decide +kernel) rfl ?_
  refine j_istore_n g (i := 1) (by decide +kernel) (by decide) ?_
  dsimp only [stL, clL, hdL]
  refine jn_X8_town_121  g hr hp ?_ ?_ 
  · rw [hrv]; unfold r_X8_town_95; rfl
  · rw [hmm]; unfold w_X8_town_95; rfl
noncomputable def r_X8_town_75 (M : Mm)  (x1 : Int32) : Int32 := if ¬ ((wi M 600 15 0).1 600 21) = 0 then r_X8_town_95 (wi M 600 15 0)  x1 else (-100 : Int32) - ((wi M 600 15 0).1 600 17)
noncomputable def w_X8_town_75 (M : Mm)  (x1 : Int32) : Mm := if ¬ ((wi M 600 15 0).1 600 21) = 0 then w_X8_town_95 (wi M 600 15 0)  x1 else (wi M 600 15 0)
def p_X8_town_75 (M : Mm)  (x1 : Int32) : Prop := (if ¬ ((wi M 600 15 0).1 600 21) = 0 then p_X8_town_95 (wi M 600 15 0)  x1 else True)
theorem jn_X8_town_75 {d : Nat} {J : Nat → Lc → List Value → Mm → Prop} {M : Mm}  {x1 : Int32}  (g : Good mX8_town.1 mX8_town.2.2.1 mX8_town.2.2.2.1 (d + 6) J) {rv : Option Value} {M1 : Mm} (hr : Ret mX8_town.2.2.1 mX8_town.2.2.2.2 rv M1 J) (hp : p_X8_town_75 M  x1) (hrv : rv = some (.int (r_X8_town_75 M  x1))) (hmm : M1 = w_X8_town_75 M  x1) : J 75 [some (.ref 600), some (.int x1)] [] M := by
  unfold p_X8_town_75 at hp
  refine j_aload_n g (i := 0) (by decide +kernel) rfl ?_
  refine j_iconst g (n := 0) (0) (by decide +kernel) rfl ?_
  refine j_pI g f8_103 (fun q h => by cases h; rfl) (by decide +kernel) (by decide +kernel) (by decide +kernel) ?_
  refine j_aload_n g (i := 0) (by decide +kernel) rfl ?_
  refine j_gI g f8_157 (by decide +kernel) (by decide +kernel) (by decide +kernel) ?_
  refine j_if_ne g (off := 11) (tgt := 95) (by decide +kernel) (by decide) (fun c84 => ?_) (fun c84 => ?_)
  · rw [if_pos (show ¬ ((wi M 600 15 0).1 600 21) = 0 from c84)] at hp
    refine jn_X8_town_95  g hr hp ?_ ?_ 
    · rw [hrv]; unfold r_X8_town_75; first | (simp only [if_pos (show ¬ ((wi M 600 15 0).1 600 21) = 0 from c84)]; done) | (simp only [if_pos (show ¬ ((wi M 600 15 0).1 600 21) = 0 from c84)]; rfl) | rfl
    · rw [hmm]; unfold w_X8_town_75; first | (simp only [if_pos (show ¬ ((wi M 600 15 0).1 600 21) = 0 from c84)]; done) | (simp only [if_pos (show ¬ ((wi M 600 15 0).1 600 21) = 0 from c84)]; rfl) | rfl
  · rw [if_neg (show ¬ (¬ ((wi M 600 15 0).1 600 21) = 0) from c84)] at hp
    refine j_bipush g (n := -100) (-100) (by decide +kernel) (by decide +kernel) ?_
    refine j_aload_n g (i := 0) (by decide +kernel) rfl ?_
    refine j_gI g f8_111 (by decide +kernel) (by decide +kernel) (by decide +kernel) ?_
    refine j_isub g (by decide +kernel) ?_
    refine hr.1 _ _ _ _ (by decide +kernel) ⟨_, rfl, by first | rfl | exact b2i_nar | decide +kernel⟩ ?_ ?_
    · rw [hrv]; unfold r_X8_town_75; first | (simp only [if_neg (show ¬ (¬ ((wi M 600 15 0).1 600 21) = 0) from c84)]; done) | (simp only [if_neg (show ¬ (¬ ((wi M 600 15 0).1 600 21) = 0) from c84)]; rfl) | rfl
    · rw [hmm]; unfold w_X8_town_75; first | (simp only [if_neg (show ¬ (¬ ((wi M 600 15 0).1 600 21) = 0) from c84)]; done) | (simp only [if_neg (show ¬ (¬ ((wi M 600 15 0).1 600 21) = 0) from c84)]; rfl) | rfl
noncomputable def r_X8_town_54 (M : Mm)  (x1 : Int32) : Int32 := if ((l_X8_town_54 x1 (M) (cntN (fun k => c_X8_town_54 x1 (l_X8_town_54 x1 (M) k)) 241)).1 600 21) = 0 then r_X8_town_75 (l_X8_town_54 x1 (M) (cntN (fun k => c_X8_town_54 x1 (l_X8_town_54 x1 (M) k)) 241))  x1 else if ((l_X8_town_54 x1 (M) (cntN (fun k => c_X8_town_54 x1 (l_X8_town_54 x1 (M) k)) 241)).1 600 16) = 0 then r_X8_town_75 (l_X8_town_54 x1 (M) (cntN (fun k => c_X8_town_54 x1 (l_X8_town_54 x1 (M) k)) 241))  x1 else 0
noncomputable def w_X8_town_54 (M : Mm)  (x1 : Int32) : Mm := if ((l_X8_town_54 x1 (M) (cntN (fun k => c_X8_town_54 x1 (l_X8_town_54 x1 (M) k)) 241)).1 600 21) = 0 then w_X8_town_75 (l_X8_town_54 x1 (M) (cntN (fun k => c_X8_town_54 x1 (l_X8_town_54 x1 (M) k)) 241))  x1 else if ((l_X8_town_54 x1 (M) (cntN (fun k => c_X8_town_54 x1 (l_X8_town_54 x1 (M) k)) 241)).1 600 16) = 0 then w_X8_town_75 (l_X8_town_54 x1 (M) (cntN (fun k => c_X8_town_54 x1 (l_X8_town_54 x1 (M) k)) 241))  x1 else M
def p_X8_town_54 (M : Mm)  (x1 : Int32) : Prop := (∀ k, k < (cntN (fun k => c_X8_town_54 x1 (l_X8_town_54 x1 (M) k)) 241) → c_X8_town_54 x1 (l_X8_town_54 x1 (M) k)) ∧ (∀ k, k < (cntN (fun k => c_X8_town_54 x1 (l_X8_town_54 x1 (M) k)) 241) → q_X8_town_54 x1 (l_X8_town_54 x1 (M) k)) ∧ (¬ c_X8_town_54 x1 (l_X8_town_54 x1 (M) (cntN (fun k => c_X8_town_54 x1 (l_X8_town_54 x1 (M) k)) 241))) ∧ (if ((l_X8_town_54 x1 (M) (cntN (fun k => c_X8_town_54 x1 (l_X8_town_54 x1 (M) k)) 241)).1 600 21) = 0 then p_X8_town_75 (l_X8_town_54 x1 (M) (cntN (fun k => c_X8_town_54 x1 (l_X8_town_54 x1 (M) k)) 241))  x1 else (if ((l_X8_town_54 x1 (M) (cntN (fun k => c_X8_town_54 x1 (l_X8_town_54 x1 (M) k)) 241)).1 600 16) = 0 then p_X8_town_75 (l_X8_town_54 x1 (M) (cntN (fun k => c_X8_town_54 x1 (l_X8_town_54 x1 (M) k)) 241))  x1 else True))
theorem jn_X8_town_54 {d : Nat} {J : Nat → Lc → List Value → Mm → Prop} {M : Mm}  {x1 : Int32}  (g : Good mX8_town.1 mX8_town.2.2.1 mX8_town.2.2.2.1 (d + 6) J) {rv : Option Value} {M1 : Mm} (hr : Ret mX8_town.2.2.1 mX8_town.2.2.2.2 rv M1 J) (hp : p_X8_town_54 M  x1) (hrv : rv = some (.int (r_X8_town_54 M  x1))) (hmm : M1 = w_X8_town_54 M  x1) : J 54 [some (.ref 600), some (.int x1)] [] M := by
  unfold p_X8_town_54 at hp
  obtain ⟨h0, hp⟩ := hp
  have hc_54_2 := h0
  obtain ⟨h0, hp⟩ := hp
  have hq_54_2 := h0
  obtain ⟨h0, hp⟩ := hp
  have hx_54_2 := h0
  refine sh_X8_town_54 (x1 := x1)  g (σ0 := (M)) (cntN (fun k => c_X8_town_54 x1 (l_X8_town_54 x1 (M) k)) 241) hc_54_2 hq_54_2 ?_ 
  refine j_aload_n g (i := 0) (by decide +kernel) rfl ?_
  refine j_gI g f8_157 (by decide +kernel) (by decide +kernel) (by decide +kernel) ?_
  refine j_if_eq g (off := 17) (tgt := 75) (by decide +kernel) (by decide) (fun c58 => ?_) (fun c58 => ?_)
  · rw [if_pos (show ((l_X8_town_54 x1 (M) (cntN (fun k => c_X8_town_54 x1 (l_X8_town_54 x1 (M) k)) 241)).1 600 21) = 0 from c58)] at hp
    refine jn_X8_town_75  g hr hp ?_ ?_ 
    · rw [hrv]; unfold r_X8_town_54; first | (simp only [if_pos (show ((l_X8_town_54 x1 (M) (cntN (fun k => c_X8_town_54 x1 (l_X8_town_54 x1 (M) k)) 241)).1 600 21) = 0 from c58)]; done) | (simp only [if_pos (show ((l_X8_town_54 x1 (M) (cntN (fun k => c_X8_town_54 x1 (l_X8_town_54 x1 (M) k)) 241)).1 600 21) = 0 from c58)]; rfl) | rfl
    · rw [hmm]; unfold w_X8_town_54; first | (simp only [if_pos (show ((l_X8_town_54 x1 (M) (cntN (fun k => c_X8_town_54 x1 (l_X8_town_54 x1 (M) k)) 241)).1 600 21) = 0 from c58)]; done) | (simp only [if_pos (show ((l_X8_town_54 x1 (M) (cntN (fun k => c_X8_town_54 x1 (l_X8_town_54 x1 (M) k)) 241)).1 600 21) = 0 from c58)]; rfl) | rfl
  · rw [if_neg (show ¬ (((l_X8_town_54 x1 (M) (cntN (fun k => c_X8_town_54 x1 (l_X8_town_54 x1 (M) k)) 241)).1 600 21) = 0) from c58)] at hp
    refine j_aload_n g (i := 0) (by decide +kernel) rfl ?_
    refine j_gI g f8_125 (by decide +kernel) (by decide +kernel) (by decide +kernel) ?_
    refine j_if_eq g (off := 10) (tgt := 75) (by decide +kernel) (by decide) (fun c65 => ?_) (fun c65 => ?_)
    · rw [if_pos (show ((l_X8_town_54 x1 (M) (cntN (fun k => c_X8_town_54 x1 (l_X8_town_54 x1 (M) k)) 241)).1 600 16) = 0 from c65)] at hp
      refine jn_X8_town_75  g hr hp ?_ ?_ 
      · rw [hrv]; unfold r_X8_town_54; first | (simp only [if_neg (show ¬ (((l_X8_town_54 x1 (M) (cntN (fun k => c_X8_town_54 x1 (l_X8_town_54 x1 (M) k)) 241)).1 600 21) = 0) from c58), if_pos (show ((l_X8_town_54 x1 (M) (cntN (fun k => c_X8_town_54 x1 (l_X8_town_54 x1 (M) k)) 241)).1 600 16) = 0 from c65)]; done) | (simp only [if_neg (show ¬ (((l_X8_town_54 x1 (M) (cntN (fun k => c_X8_town_54 x1 (l_X8_town_54 x1 (M) k)) 241)).1 600 21) = 0) from c58), if_pos (show ((l_X8_town_54 x1 (M) (cntN (fun k => c_X8_town_54 x1 (l_X8_town_54 x1 (M) k)) 241)).1 600 16) = 0 from c65)]; rfl) | rfl
      · rw [hmm]; unfold w_X8_town_54; first | (simp only [if_neg (show ¬ (((l_X8_town_54 x1 (M) (cntN (fun k => c_X8_town_54 x1 (l_X8_town_54 x1 (M) k)) 241)).1 600 21) = 0) from c58), if_pos (show ((l_X8_town_54 x1 (M) (cntN (fun k => c_X8_town_54 x1 (l_X8_town_54 x1 (M) k)) 241)).1 600 16) = 0 from c65)]; done) | (simp only [if_neg (show ¬ (((l_X8_town_54 x1 (M) (cntN (fun k => c_X8_town_54 x1 (l_X8_town_54 x1 (M) k)) 241)).1 600 21) = 0) from c58), if_pos (show ((l_X8_town_54 x1 (M) (cntN (fun k => c_X8_town_54 x1 (l_X8_town_54 x1 (M) k)) 241)).1 600 16) = 0 from c65)]; rfl) | rfl
    · rw [if_neg (show ¬ (((l_X8_town_54 x1 (M) (cntN (fun k => c_X8_town_54 x1 (l_X8_town_54 x1 (M) k)) 241)).1 600 16) = 0) from c65)] at hp
      refine absurd (ci_X8_town_54.mpr ?_) hx_54_2
      simp only [if_neg (show ¬ (((l_X8_town_54 x1 (M) (cntN (fun k => c_X8_town_54 x1 (l_X8_town_54 x1 (M) k)) 241)).1 600 21) = 0) from c58), if_neg (show ¬ (((l_X8_town_54 x1 (M) (cntN (fun k => c_X8_town_54 x1 (l_X8_town_54 x1 (M) k)) 241)).1 600 16) = 0) from c65)]
noncomputable def r_X8_town (M : Mm)  : Int32 := if (4 : Int32) ≤ ((l_X8_town_27  ((wi (wi (wi (wi (wi M 600 18 0) 600 21 1) 600 22 0) 600 23 0) 600 24 0), 0) n4).2) then r_X8_town_54 (w_X8_advance (l_X8_town_27  ((wi (wi (wi (wi (wi M 600 18 0) 600 21 1) 600 22 0) 600 23 0) 600 24 0), 0) n4).1)  ((l_X8_town_27  ((wi (wi (wi (wi (wi M 600 18 0) 600 21 1) 600 22 0) 600 23 0) 600 24 0), 0) n4).2) else 0
noncomputable def w_X8_town (M : Mm)  : Mm := if (4 : Int32) ≤ ((l_X8_town_27  ((wi (wi (wi (wi (wi M 600 18 0) 600 21 1) 600 22 0) 600 23 0) 600 24 0), 0) n4).2) then w_X8_town_54 (w_X8_advance (l_X8_town_27  ((wi (wi (wi (wi (wi M 600 18 0) 600 21 1) 600 22 0) 600 23 0) 600 24 0), 0) n4).1)  ((l_X8_town_27  ((wi (wi (wi (wi (wi M 600 18 0) 600 21 1) 600 22 0) 600 23 0) 600 24 0), 0) n4).2) else M
def p_X8_town (M : Mm)  : Prop := (∀ k, k < n4 → c_X8_town_27  (l_X8_town_27  ((wi (wi (wi (wi (wi M 600 18 0) 600 21 1) 600 22 0) 600 23 0) 600 24 0), 0) k)) ∧ (∀ k, k < n4 → q_X8_town_27  (l_X8_town_27  ((wi (wi (wi (wi (wi M 600 18 0) 600 21 1) 600 22 0) 600 23 0) 600 24 0), 0) k)) ∧ (¬ c_X8_town_27  (l_X8_town_27  ((wi (wi (wi (wi (wi M 600 18 0) 600 21 1) 600 22 0) 600 23 0) 600 24 0), 0) n4)) ∧ (if (4 : Int32) ≤ ((l_X8_town_27  ((wi (wi (wi (wi (wi M 600 18 0) 600 21 1) 600 22 0) 600 23 0) 600 24 0), 0) n4).2) then (p_X8_advance (l_X8_town_27  ((wi (wi (wi (wi (wi M 600 18 0) 600 21 1) 600 22 0) 600 23 0) 600 24 0), 0) n4).1 ) ∧ p_X8_town_54 (w_X8_advance (l_X8_town_27  ((wi (wi (wi (wi (wi M 600 18 0) 600 21 1) 600 22 0) 600 23 0) 600 24 0), 0) n4).1)  ((l_X8_town_27  ((wi (wi (wi (wi (wi M 600 18 0) 600 21 1) 600 22 0) 600 23 0) 600 24 0), 0) n4).2) else True)
set_option maxRecDepth 20000 in
theorem rnX8_town {d : Nat} {M : Mm}   (hp : p_X8_town M ) : Rn (d + 6) mX8_town [.ref 600] M (some (.int (r_X8_town M ))) (w_X8_town M ) := by
  refine Rn.of [some (.ref 600), none] (by decide +kernel) rfl (Nat.le_of_ble_eq_true rfl) rfl (fun J g hr => ?_)
  unfold p_X8_town at hp
  refine j_aload_n g (i := 0) (by decide +kernel) rfl ?_
  refine j_iconst g (n := 0) (0) (by decide +kernel) rfl ?_
  refine j_pI g f8_108 (fun q h => by cases h; rfl) (by decide +kernel) (by decide +kernel) (by decide +kernel) ?_
  refine j_aload_n g (i := 0) (by decide +kernel) rfl ?_
  refine j_iconst g (n := 1) (1) (by decide +kernel) rfl ?_
  refine j_pZ g f8_157 (fun q h => by cases h; rfl) (by decide +kernel) (by decide +kernel) (by decide +kernel) (by decide) ?_
  refine j_aload_n g (i := 0) (by decide +kernel) rfl ?_
  refine j_iconst g (n := 0) (0) (by decide +kernel) rfl ?_
  refine j_pI g f8_177 (fun q h => by cases h; rfl) (by decide +kernel) (by decide +kernel) (by decide +kernel) ?_
  refine j_aload_n g (i := 0) (by decide +kernel) rfl ?_
  refine j_iconst g (n := 0) (0) (by decide +kernel) rfl ?_
  refine j_pI g f8_180 (fun q h => by cases h; rfl) (by decide +kernel) (by decide +kernel) (by decide +kernel) ?_
  refine j_aload_n g (i := 0) (by decide +kernel) rfl ?_
  refine j_iconst g (n := 0) (0) (by decide +kernel) rfl ?_
  refine j_pI g f8_174 (fun q h => by cases h; rfl) (by decide +kernel) (by decide +kernel) (by decide +kernel) ?_
  refine j_iconst g (n := 0) (0) (by decide +kernel) rfl ?_
  refine j_istore_n g (i := 1) (by decide +kernel) (by decide) ?_
  dsimp only [stL, clL, hdL]
  obtain ⟨h0, hp⟩ := hp
  have hc_27_1 := h0
  obtain ⟨h0, hp⟩ := hp
  have hq_27_1 := h0
  obtain ⟨h0, hp⟩ := hp
  have hx_27_1 := h0
  refine sh_X8_town_27   g (σ0 := ((wi (wi (wi (wi (wi M 600 18 0) 600 21 1) 600 22 0) 600 23 0) 600 24 0), 0)) n4 hc_27_1 hq_27_1 ?_ 
  refine j_iload_n g (i := 1) (by decide +kernel) rfl ?_
  refine j_iconst g (n := 4) (4) (by decide +kernel) rfl ?_
  refine j_icmp_ge g (off := 21) (tgt := 50) (by decide +kernel) (by decide) (fun c29 => ?_) (fun c29 => ?_)
  · rw [if_pos (show (4 : Int32) ≤ ((l_X8_town_27  ((wi (wi (wi (wi (wi M 600 18 0) 600 21 1) 600 22 0) 600 23 0) 600 24 0), 0) n4).2) from c29)] at hp
    refine j_aload_n g (i := 0) (by decide +kernel) rfl ?_
    obtain ⟨h0, hp⟩ := hp
    refine j_cV0v g v8_161 ⟨rfl, by decide⟩ (by decide +kernel) (by decide +kernel) (Nat.le_of_ble_eq_true rfl) (rnX8_advance h0) ?_
    refine jn_X8_town_54  g hr hp ?_ ?_ 
    · unfold r_X8_town; first | (simp only [if_pos (show (4 : Int32) ≤ ((l_X8_town_27  ((wi (wi (wi (wi (wi M 600 18 0) 600 21 1) 600 22 0) 600 23 0) 600 24 0), 0) n4).2) from c29)]; done) | (simp only [if_pos (show (4 : Int32) ≤ ((l_X8_town_27  ((wi (wi (wi (wi (wi M 600 18 0) 600 21 1) 600 22 0) 600 23 0) 600 24 0), 0) n4).2) from c29)]; rfl) | rfl
    · unfold w_X8_town; first | (simp only [if_pos (show (4 : Int32) ≤ ((l_X8_town_27  ((wi (wi (wi (wi (wi M 600 18 0) 600 21 1) 600 22 0) 600 23 0) 600 24 0), 0) n4).2) from c29)]; done) | (simp only [if_pos (show (4 : Int32) ≤ ((l_X8_town_27  ((wi (wi (wi (wi (wi M 600 18 0) 600 21 1) 600 22 0) 600 23 0) 600 24 0), 0) n4).2) from c29)]; rfl) | rfl
  · rw [if_neg (show ¬ ((4 : Int32) ≤ ((l_X8_town_27  ((wi (wi (wi (wi (wi M 600 18 0) 600 21 1) 600 22 0) 600 23 0) 600 24 0), 0) n4).2)) from c29)] at hp
    refine absurd (ci_X8_town_27.mpr ?_) hx_27_1
    simp only [if_neg (show ¬ ((4 : Int32) ≤ ((l_X8_town_27  ((wi (wi (wi (wi (wi M 600 18 0) 600 21 1) 600 22 0) 600 23 0) 600 24 0), 0) n4).2)) from c29)]
