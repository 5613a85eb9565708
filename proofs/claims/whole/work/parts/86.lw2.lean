section LW2
variable {h : ah_H} {x m po : Nat} {W q : Nat → Nat} {C : Nat × Nat × Nat × Nat × Nat} {A : Nat × Nat × Nat} {B : Nat × Nat} {L : Nat} {xs : Nat → Int32}
theorem law_loop (hL : L ≤ 2560) : ∀ (k i : Nat) (h : ah_H) (z : Nat → Int) (tl : Nat) (f : Nat → Nat) (wl : Nat) (g : Nat → Int32), L + 1 ≤ i + 5 * k → i ≤ 2600 → ls_S h x m po W q C A B z tl f wl g → lp_LW_law_23 (fun _ => True) L xs (k + 1) x m po (nI i) h := by
  have cmp : ∀ i, i ≤ 2600 → ((nI L - (5 : Int32)) < nI i ↔ L < i + 5) := fun i hi => by
    have h1 : (nI L - (5 : Int32)).toInt = (L : Int) - 5 := pk_sub_toInt (b := 5) (by omega) (by decide)
    rw [Int32.lt_iff_toInt_lt, h1, nI_toInt (by omega)]
    omega
  intro k
  induction k with
  | zero =>
    intro i h z tl f wl g hk hi _
    rw [lp_LW_law_23]
    exact ⟨fun _ => trivial, fun hc => absurd ((cmp i hi).mpr (by omega)) hc⟩
  | succ k ih =>
    intro i h z tl f wl g hk hi LS
    rw [lp_LW_law_23]
    refine ⟨fun _ => trivial, fun hc => ?_⟩
    have h5 : i + 5 ≤ L := Nat.le_of_not_lt (fun y => hc ((cmp i hi).mpr y))
    have nx : ∀ h' z' tl' f' wl' g', ls_S h' x m po W q C A B z' tl' f' wl' g' → bk_LW_law_1523 (lp_LW_law_23 (fun _ => True) L xs (k + 1)) L xs x m po (nI i) h' := by
      intro h' z' tl' f' wl' g' L' v39 e39
      rw [e39, show nI i + 5 = nI (i + 5) from nI_add i 5]
      exact ih (i + 5) h' z' tl' f' wl' g' (by omega) (by omega) L'
    exact ⟨vp_in_nI (by omega) (by omega), fun _ => nx _ _ _ _ _ _ LS, fun _ => l_set LS h5 hL nx, fun _ => l_copy LS h5 hL nx, fun _ => l_add LS h5 hL nx, fun _ => l_subtract LS h5 hL nx, fun _ => l_multiply LS h5 hL nx, fun _ => l_times LS h5 hL nx, fun _ => l_shift LS h5 hL nx, fun _ => l_half LS h5 hL nx, fun _ => l_divide LS h5 hL nx, fun _ => l_gcd LS h5 hL nx, fun _ => l_negate LS h5 hL nx, fun _ => l_compare LS h5 hL nx, fun _ => l_rest LS h5 hL nx, fun _ => l_value LS h5 hL nx, fun _ => l_limb LS h5 hL nx, fun _ => l_look LS h5 hL nx, fun _ => l_feed LS h5 hL nx, fun _ => l_read LS h5 hL nx, fun _ => l_write LS h5 hL nx, fun _ => l_out LS h5 hL nx, fun _ => l_text LS h5 hL nx⟩
/-- the law, from an empty heap on -/
theorem law_all (hL : L ≤ 2560) : w_LW_law L xs h := by
  intro x hx h3 e3
  rw [e3]
  refine s_BD_init hx (fun h6 W q C D _ m hm h11 e11 => ?_)
  rw [e11]
  refine s_MO_init hm (fun h15 A B S o _ po hp h21 e21 => ?_)
  have D15 := ol_dk D o
  have o21 : ol_S h15 h21 := fun y hy => by rw [e21]; exact sa_nw (fun e => hy (by rw [e]; exact hp))
  have D21 := ol_dk D15 o21
  have Q := S.1
  have T := S.2.1
  have om := o21 m (by rw [Q.1]; decide)
  have S21 : mo_S h21 m A B (fun _ => 0) 0 (fun _ => 0) 0 (fun _ => 0) := by
    have b4 := o21 B.1 (by rw [T.2.1.1]; decide)
    have b5 := o21 B.2 (by rw [T.2.1.2]; decide)
    have a1 := o21 A.1 (by rw [Q.2.2.1.1]; decide)
    have a2 := o21 A.2.1 (by rw [Q.2.2.1.2.1]; decide)
    have a3 := o21 A.2.2 (by rw [Q.2.2.1.2.2]; decide)
    obtain ⟨D', Z', G', z1, z2, z3, R⟩ := mo_A S
    refine ⟨?_, ?_, ⟨D', Z', G', (mh_id (a1.2.2.2.2.1.trans z1) (a2.2.2.2.2.1.trans z2) (a3.2.2.2.2.1.trans z3)).symm, R⟩, ?_, ?_⟩
    · unfold mo_Q at *
      rw [om.1, om.2.2.2.1, om.2.2.2.1, om.2.2.2.1, a1.1, a2.1, a3.1, a1.2.1, a2.2.1, a3.2.1]; exact Q
    · unfold mo_T at *
      rw [om.2.2.2.1, om.2.2.2.1, b4.1, b5.1, b4.2.1, b5.2.1]; exact T
    · rw [om.2.2.1]; exact ⟨S.2.2.2.1.1, S.2.2.2.1.2.1, fun k hk => absurd hk (Nat.not_lt_zero _)⟩
    · rw [om.2.2.1]; exact ⟨S.2.2.2.2.1, S.2.2.2.2.2.1, fun k hk => absurd hk (Nat.not_lt_zero _)⟩
  refine ⟨513 + 1, by decide, law_loop hL 513 0 h21 _ 0 _ 0 _ (by omega) (by decide) ⟨D21, S21, ⟨by rw [e21, nw_T, va_up_self], by rw [e21, nw_N, va_up_self]⟩, fun i hi e => ?_⟩⟩
  have := (D15.1.2.2.2.2.2.2.2.2.1 i hi).2.2.1
  rw [e, hp] at this
  exact absurd this (by decide)
end LW2
