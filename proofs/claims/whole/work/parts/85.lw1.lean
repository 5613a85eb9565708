section LW1
variable {h h1 h2 : ah_H} {x m po : Nat} {W q : Nat → Nat} {C : Nat × Nat × Nat × Nat × Nat} {A : Nat × Nat × Nat} {B : Nat × Nat} {z z' : Nat → Int} {tl wl tl' wl' : Nat} {f f' : Nat → Nat} {g g' : Nat → Int32}
/-- class and model hold the same -/
def ls_S (h : ah_H) (x m po : Nat) (W q : Nat → Nat) (C : Nat × Nat × Nat × Nat × Nat) (A : Nat × Nat × Nat) (B : Nat × Nat) (z : Nat → Int) (tl : Nat) (f : Nat → Nat) (wl : Nat) (g : Nat → Int32) : Prop := dk_S h x W q C z tl f wl g ∧ mo_S h m A B z tl f wl g ∧ (ah_T h po = 110 ∧ ah_N h po = 1) ∧ ∀ i, i < 19 → q i ≠ po
theorem cL_T {a : Nat} {F : Nat → Int64} : ah_T (ah_cL h a F) = ah_T h := by unfold ah_cL ah_T; rfl
theorem cL_N {a : Nat} {F : Nat → Int64} : ah_N (ah_cL h a F) = ah_N h := by unfold ah_cL ah_N; rfl
theorem cL_I {a : Nat} {F : Nat → Int64} : ah_I (ah_cL h a F) = ah_I h := by unfold ah_cL ah_I; rfl
theorem cL_R {a : Nat} {F : Nat → Int64} : ah_R (ah_cL h a F) = ah_R h := by unfold ah_cL ah_R; rfl
theorem cL_bI {a : Nat} {F : Nat → Int64} : ah_bI (ah_cL h a F) = ah_bI h := by unfold ah_cL ah_bI; rfl
theorem cL_bL {a : Nat} {F : Nat → Int64} : ah_bL (ah_cL h a F) = va_up (ah_bL h) a F := by unfold ah_cL ah_bL; rfl
theorem cL_bR {a : Nat} {F : Nat → Int64} : ah_bR (ah_cL h a F) = ah_bR h := by unfold ah_cL ah_bR; rfl
theorem dk_sa (D : dk_S h x W q C z tl f wl g) (o : ∀ y, (ah_T h y ≠ 0 ∧ ah_T h y ≠ 5 ∧ ah_T h y ≠ 100) → sa_S h h1 y) : dk_S h1 x W q C z tl f wl g := by
  obtain ⟨Q, ⟨c, w2, w3⟩, t, w⟩ := D
  have ox := o x (by rw [Q.1]; decide)
  have og := o C.1 (by rw [Q.2.2.1.1]; decide)
  have od := o C.2.1 (by rw [Q.2.2.2.1.1]; decide)
  have oc := o C.2.2.1 (by rw [Q.2.2.2.2.1]; decide)
  have op := o C.2.2.2.1 (by rw [Q.2.2.2.2.2.1.1]; decide)
  have ow := o C.2.2.2.2 (by rw [Q.2.2.2.2.2.2.1.1]; decide)
  have oW : ∀ i, i < 19 → sa_S h h1 (W i) ∧ sa_S h h1 (q i) := fun i hi => ⟨o _ (by rw [(Q.2.2.2.2.2.2.2.2.1 i hi).1]; decide), o _ (by rw [(Q.2.2.2.2.2.2.2.2.1 i hi).2.2.1]; decide)⟩
  refine ⟨⟨ox.1.trans Q.1, ?_, ?_, sa_dv Q.2.2.2.1 od, oc.1.trans Q.2.2.2.2.1, ⟨op.1.trans Q.2.2.2.2.2.1.1, op.2.1.trans Q.2.2.2.2.2.1.2⟩, ⟨ow.1.trans Q.2.2.2.2.2.2.1.1, ow.2.1.trans Q.2.2.2.2.2.2.1.2⟩, Q.2.2.2.2.2.2.2.1, fun i hi => ?_, Q.2.2.2.2.2.2.2.2.2⟩, ⟨?_, fun i hi => ⟨?_, (w2 i hi).2⟩, fun i a b => ?_⟩, ?_, ?_⟩
  · rw [ox.2.2.2.1, ox.2.2.2.1, ox.2.2.2.1, ox.2.2.2.1, ox.2.2.2.1, ox.2.2.2.1, ox.2.2.2.1]; exact Q.2.1
  · rw [og.1, og.2.1, og.2.2.2.2.2.2]; exact Q.2.2.1
  · have := Q.2.2.2.2.2.2.2.2.1 i hi
    unfold wq_S at *
    rw [(oW i hi).1.1, (oW i hi).1.2.2.2.1, (oW i hi).2.1, (oW i hi).2.2.1]; exact this
  · obtain ⟨X, qX, Y, qY, c1, c2⟩ := c
    exact ⟨X, qX, Y, qY, sa_cd c1 oc, c2⟩
  · obtain ⟨n, b, d, H1, H2⟩ := (w2 i hi).1
    exact ⟨n, b, d, sa_wh H1 (oW i (by omega)).1 (oW i (by omega)).2, H2⟩
  · obtain ⟨n, b', d, H1, H2⟩ := w3 i a b
    exact ⟨n, b', d, sa_wh H1 (oW i b).1 (oW i b).2, H2⟩
  · rw [ox.2.2.1, op.2.2.2.2.1]; exact t
  · rw [ox.2.2.1, ow.2.2.2.2.1]; exact w

/-- the model behind a call of the class -/
theorem fx_mo (F : fx_S h h1) (S : mo_S h m A B z tl f wl g) : mo_S h1 m A B z tl f wl g := by
  have Q := S.1
  have T := S.2.1
  have bm : ∀ k, ah_I h1 k m = ah_I h k m ∧ ah_R h1 k m = ah_R h k m := fun k => F.2.2.2 k m Q.1
  have b4 := F.2.2.1 B.1 T.2.1.1
  have b5 := F.2.2.1 B.2 T.2.1.2
  refine mo_new S F.1 F.2.1 (fun k => (bm k).2) (F.2.2.1 _ Q.2.2.1.1) (F.2.2.1 _ Q.2.2.1.2.1) (F.2.2.1 _ Q.2.2.1.2.2) ?_ ?_
  · rw [(bm 5).1, b4]; exact S.2.2.2.1
  · rw [(bm 6).1, b5]; exact S.2.2.2.2
/-- the class behind a call of the model -/
theorem fm_dk (F : fm_S m h h1) (hm : ah_T h m = 5) (D : dk_S h x W q C z tl f wl g) : dk_S h1 x W q C z tl f wl g :=
  dk_sa D (fun y hy => ⟨by rw [F.1], by rw [F.2.1], fun k => F.2.2.2.2.2.2.1 k y (fun e => hy.2.1 (by rw [e]; exact hm)), fun k => by rw [F.2.2.2.1], F.2.2.2.2.2.2.2 y hy.2.2, by rw [F.2.2.2.2.1], by rw [F.2.2.2.2.2.1]⟩)
theorem cL_dk {F : Nat → Int64} (D : dk_S h x W q C z tl f wl g) (hq : ∀ i, i < 19 → q i ≠ po) (hp : ah_T h po = 110) : dk_S (ah_cL h po F) x W q C z tl f wl g := by
  have Q := D.1
  have H2 := D.2.1
  have ewh : ∀ i, i < 19 → ∀ n b d, wh_S h (W i) (q i) n b d → wh_S (ah_cL h po F) (W i) (q i) n b d := fun i hi n b d Hw => by
    unfold wh_S wq_S at *
    rw [cL_T, cL_N, cL_R, cL_I, cL_bL, va_up_ne _ _ (hq i hi)]; exact Hw
  refine ⟨?_, ⟨?_, fun i hi => ⟨?_, (H2.2.1 i hi).2⟩, fun i a b => ?_⟩, ?_, ?_⟩
  · unfold dk_Q dv_S wq_S at *
    rw [cL_T, cL_N, cL_R, cL_bR]; exact Q
  · have c := H2.1
    unfold cd_S at *
    rw [cL_T, cL_R]; exact c
  · obtain ⟨n, b, d, H1, H3⟩ := (H2.2.1 i hi).1
    exact ⟨n, b, d, ewh i (by omega) n b d H1, H3⟩
  · obtain ⟨n, b', d, H1, H3⟩ := H2.2.2 i a b
    exact ⟨n, b', d, ewh i b n b' d H1, H3⟩
  · rw [cL_I, cL_bI]; exact D.2.2.1
  · rw [cL_I, cL_bI]; exact D.2.2.2
theorem cL_fx {F : Nat → Int64} : fx_S h (ah_cL h po F) := ⟨cL_T, cL_N, fun _ _ => by rw [cL_bI], fun _ _ _ => ⟨by rw [cL_I], by rw [cL_R]⟩⟩
/-- behind the model's call -/
theorem ls_m (D : dk_S h1 x W q C z tl f wl g) (hm : ah_T h1 m = 5) (O : ah_T h1 po = 110 ∧ ah_N h1 po = 1) (hq : ∀ i, i < 19 → q i ≠ po) (F : fm_S m h1 h2) (S : mo_S h2 m A B z tl f wl g) : ls_S h2 x m po W q C A B z tl f wl g :=
  ⟨fm_dk F hm D, S, by rw [F.1, F.2.1]; exact O, hq⟩
/-- the end of a case without an answer -/
theorem lt_v {rc : Nat → Nat → Nat → Int32 → ah_H → Prop} {L : Nat} {xs : Nat → Int32} {iI r : Int32} (hT : ah_T h2 m = 5) (hc : ah_I h2 4 m = r) (hN : bk_LW_law_1523 rc L xs x m po iI h2) : w_MO_thrown m h2 (fun r59 h58 => ah_m h2 h58 → (r59 = r → (bk_LW_law_1523 rc L xs x m po iI h58)) ∧ (¬ r59 = r → (False))) :=
  ⟨hT, fun _ => ⟨fun _ => hN, fun hn => hn hc⟩⟩
/-- the end of a case with an answer -/
theorem lt_q {N : ah_H → Prop} {r : Int32} {v : Int64} (hT : ah_T h2 m = 5) (hc : ah_I h2 4 m = r) (O : ah_T h2 po = 110 ∧ ah_N h2 po = 1) (hv : r = 0 → ah_bL h2 po (0 : Int32).toNatClampNeg = v) (hN : N h2) : w_MO_thrown m h2 (fun r344 h343 => ah_m h2 h343 → (r344 = r → ((¬ r = 0 → N h343) ∧ (r = 0 → (ah_T h343 po = 110 ∧ vp_in (0 : Int32) (ah_N h343 po) ∧ ((ah_bL h343 po (0 : Int32).toNatClampNeg) = v → N h343) ∧ (¬ (ah_bL h343 po (0 : Int32).toNatClampNeg) = v → (False)))))) ∧ (¬ r344 = r → (False))) :=
  ⟨hT, fun _ => ⟨fun _ => ⟨fun _ => hN, fun e => ⟨O.1, by rw [O.2]; exact vp_in_nI (n := 0) (by decide) (by decide), fun _ => hN, fun hn => hn (hv e)⟩⟩, fun hn => hn hc⟩⟩
section CASES
variable {rc : Nat → Nat → Nat → Int32 → ah_H → Prop} {L : Nat} {xs : Nat → Int32} {i : Nat}
theorem vi_k (hi : i + 5 ≤ L) (hL : L ≤ 2560) {j : Nat} (hj : j < 5) {jI : Int32} (ej : jI = nI j) : vp_in (nI i + jI) L := by
  rw [ej, nI_add]; exact vp_in_nI (by omega) (by omega)
theorem l_set (LS : ls_S h x m po W q C A B z tl f wl g) (hi : i + 5 ≤ L) (hL : L ≤ 2560) (nx : ∀ h' z' tl' f' wl' g', ls_S h' x m po W q C A B z' tl' f' wl' g' → bk_LW_law_1523 rc L xs x m po (nI i) h') : bk_LW_law_136 rc L xs x m po (nI i) h := by
  obtain ⟨D, S, O, hq⟩ := LS
  refine ⟨vi_k hi hL (j := 1) (by decide) rfl, vi_k hi hL (j := 2) (by decide) rfl, vi_k hi hL (j := 3) (by decide) rfl, p_set D (fun h1 F1 D1 _ => ?_)⟩
  have S1 := fx_mo F1 S
  have O1 : ah_T h1 po = 110 ∧ ah_N h1 po = 1 := by rw [F1.1, F1.2.1]; exact O
  refine ⟨vi_k hi hL (j := 1) (by decide) rfl, vi_k hi hL (j := 2) (by decide) rfl, vi_k hi hL (j := 3) (by decide) rfl, S1.1.1, q_set S1 (fun h2 P2 _ => ?_)⟩
  have L2 := ls_m D1 S1.1.1 O1 hq P2.1 P2.2.1
  exact lt_v L2.2.1.1.1 P2.2.2 (nx _ _ _ _ _ _ L2)
theorem l_copy (LS : ls_S h x m po W q C A B z tl f wl g) (hi : i + 5 ≤ L) (hL : L ≤ 2560) (nx : ∀ h' z' tl' f' wl' g', ls_S h' x m po W q C A B z' tl' f' wl' g' → bk_LW_law_1523 rc L xs x m po (nI i) h') : bk_LW_law_216 rc L xs x m po (nI i) h := by
  obtain ⟨D, S, O, hq⟩ := LS
  refine ⟨vi_k hi hL (j := 1) (by decide) rfl, vi_k hi hL (j := 2) (by decide) rfl, p_copy D (fun h1 F1 D1 _ => ?_)⟩
  have S1 := fx_mo F1 S
  have O1 : ah_T h1 po = 110 ∧ ah_N h1 po = 1 := by rw [F1.1, F1.2.1]; exact O
  refine ⟨vi_k hi hL (j := 1) (by decide) rfl, vi_k hi hL (j := 2) (by decide) rfl, S1.1.1, q_copy S1 (fun h2 P2 _ => ?_)⟩
  have L2 := ls_m D1 S1.1.1 O1 hq P2.1 P2.2.1
  exact lt_v L2.2.1.1.1 P2.2.2 (nx _ _ _ _ _ _ L2)
theorem l_add (LS : ls_S h x m po W q C A B z tl f wl g) (hi : i + 5 ≤ L) (hL : L ≤ 2560) (nx : ∀ h' z' tl' f' wl' g', ls_S h' x m po W q C A B z' tl' f' wl' g' → bk_LW_law_1523 rc L xs x m po (nI i) h') : bk_LW_law_264 rc L xs x m po (nI i) h := by
  obtain ⟨D, S, O, hq⟩ := LS
  refine ⟨vi_k hi hL (j := 1) (by decide) rfl, vi_k hi hL (j := 2) (by decide) rfl, vi_k hi hL (j := 3) (by decide) rfl, p_add D (fun h1 F1 D1 _ => ?_)⟩
  have S1 := fx_mo F1 S
  have O1 : ah_T h1 po = 110 ∧ ah_N h1 po = 1 := by rw [F1.1, F1.2.1]; exact O
  refine ⟨vi_k hi hL (j := 1) (by decide) rfl, vi_k hi hL (j := 2) (by decide) rfl, vi_k hi hL (j := 3) (by decide) rfl, S1.1.1, q_add S1 (fun h2 P2 _ => ?_)⟩
  have L2 := ls_m D1 S1.1.1 O1 hq P2.1 P2.2.1
  exact lt_v L2.2.1.1.1 P2.2.2 (nx _ _ _ _ _ _ L2)
theorem l_subtract (LS : ls_S h x m po W q C A B z tl f wl g) (hi : i + 5 ≤ L) (hL : L ≤ 2560) (nx : ∀ h' z' tl' f' wl' g', ls_S h' x m po W q C A B z' tl' f' wl' g' → bk_LW_law_1523 rc L xs x m po (nI i) h') : bk_LW_law_324 rc L xs x m po (nI i) h := by
  obtain ⟨D, S, O, hq⟩ := LS
  refine ⟨vi_k hi hL (j := 1) (by decide) rfl, vi_k hi hL (j := 2) (by decide) rfl, vi_k hi hL (j := 3) (by decide) rfl, p_subtract D (fun h1 F1 D1 _ => ?_)⟩
  have S1 := fx_mo F1 S
  have O1 : ah_T h1 po = 110 ∧ ah_N h1 po = 1 := by rw [F1.1, F1.2.1]; exact O
  refine ⟨vi_k hi hL (j := 1) (by decide) rfl, vi_k hi hL (j := 2) (by decide) rfl, vi_k hi hL (j := 3) (by decide) rfl, S1.1.1, q_subtract S1 (fun h2 P2 _ => ?_)⟩
  have L2 := ls_m D1 S1.1.1 O1 hq P2.1 P2.2.1
  exact lt_v L2.2.1.1.1 P2.2.2 (nx _ _ _ _ _ _ L2)
theorem l_multiply (LS : ls_S h x m po W q C A B z tl f wl g) (hi : i + 5 ≤ L) (hL : L ≤ 2560) (nx : ∀ h' z' tl' f' wl' g', ls_S h' x m po W q C A B z' tl' f' wl' g' → bk_LW_law_1523 rc L xs x m po (nI i) h') : bk_LW_law_384 rc L xs x m po (nI i) h := by
  obtain ⟨D, S, O, hq⟩ := LS
  refine ⟨vi_k hi hL (j := 1) (by decide) rfl, vi_k hi hL (j := 2) (by decide) rfl, vi_k hi hL (j := 3) (by decide) rfl, p_multiply D (fun h1 F1 D1 _ => ?_)⟩
  have S1 := fx_mo F1 S
  have O1 : ah_T h1 po = 110 ∧ ah_N h1 po = 1 := by rw [F1.1, F1.2.1]; exact O
  refine ⟨vi_k hi hL (j := 1) (by decide) rfl, vi_k hi hL (j := 2) (by decide) rfl, vi_k hi hL (j := 3) (by decide) rfl, S1.1.1, q_multiply S1 (fun h2 P2 _ => ?_)⟩
  have L2 := ls_m D1 S1.1.1 O1 hq P2.1 P2.2.1
  exact lt_v L2.2.1.1.1 P2.2.2 (nx _ _ _ _ _ _ L2)
theorem l_times (LS : ls_S h x m po W q C A B z tl f wl g) (hi : i + 5 ≤ L) (hL : L ≤ 2560) (nx : ∀ h' z' tl' f' wl' g', ls_S h' x m po W q C A B z' tl' f' wl' g' → bk_LW_law_1523 rc L xs x m po (nI i) h') : bk_LW_law_444 rc L xs x m po (nI i) h := by
  obtain ⟨D, S, O, hq⟩ := LS
  refine ⟨vi_k hi hL (j := 1) (by decide) rfl, vi_k hi hL (j := 2) (by decide) rfl, vi_k hi hL (j := 3) (by decide) rfl, vi_k hi hL (j := 4) (by decide) rfl, p_times D (fun h1 F1 D1 _ => ?_)⟩
  have S1 := fx_mo F1 S
  have O1 : ah_T h1 po = 110 ∧ ah_N h1 po = 1 := by rw [F1.1, F1.2.1]; exact O
  refine ⟨vi_k hi hL (j := 1) (by decide) rfl, vi_k hi hL (j := 2) (by decide) rfl, vi_k hi hL (j := 3) (by decide) rfl, vi_k hi hL (j := 4) (by decide) rfl, S1.1.1, q_times S1 (fun h2 P2 _ => ?_)⟩
  have L2 := ls_m D1 S1.1.1 O1 hq P2.1 P2.2.1
  exact lt_v L2.2.1.1.1 P2.2.2 (nx _ _ _ _ _ _ L2)
theorem l_shift (LS : ls_S h x m po W q C A B z tl f wl g) (hi : i + 5 ≤ L) (hL : L ≤ 2560) (nx : ∀ h' z' tl' f' wl' g', ls_S h' x m po W q C A B z' tl' f' wl' g' → bk_LW_law_1523 rc L xs x m po (nI i) h') : bk_LW_law_536 rc L xs x m po (nI i) h := by
  obtain ⟨D, S, O, hq⟩ := LS
  refine ⟨vi_k hi hL (j := 1) (by decide) rfl, vi_k hi hL (j := 2) (by decide) rfl, vi_k hi hL (j := 3) (by decide) rfl, p_shift D (fun h1 F1 D1 _ => ?_)⟩
  have S1 := fx_mo F1 S
  have O1 : ah_T h1 po = 110 ∧ ah_N h1 po = 1 := by rw [F1.1, F1.2.1]; exact O
  refine ⟨vi_k hi hL (j := 1) (by decide) rfl, vi_k hi hL (j := 2) (by decide) rfl, vi_k hi hL (j := 3) (by decide) rfl, S1.1.1, q_shift S1 (fun h2 P2 _ => ?_)⟩
  have L2 := ls_m D1 S1.1.1 O1 hq P2.1 P2.2.1
  exact lt_v L2.2.1.1.1 P2.2.2 (nx _ _ _ _ _ _ L2)
theorem l_half (LS : ls_S h x m po W q C A B z tl f wl g) (hi : i + 5 ≤ L) (hL : L ≤ 2560) (nx : ∀ h' z' tl' f' wl' g', ls_S h' x m po W q C A B z' tl' f' wl' g' → bk_LW_law_1523 rc L xs x m po (nI i) h') : bk_LW_law_596 rc L xs x m po (nI i) h := by
  obtain ⟨D, S, O, hq⟩ := LS
  refine ⟨vi_k hi hL (j := 1) (by decide) rfl, vi_k hi hL (j := 2) (by decide) rfl, vi_k hi hL (j := 3) (by decide) rfl, p_half D (fun h1 F1 D1 _ => ?_)⟩
  have S1 := fx_mo F1 S
  have O1 : ah_T h1 po = 110 ∧ ah_N h1 po = 1 := by rw [F1.1, F1.2.1]; exact O
  refine ⟨vi_k hi hL (j := 1) (by decide) rfl, vi_k hi hL (j := 2) (by decide) rfl, vi_k hi hL (j := 3) (by decide) rfl, S1.1.1, q_half S1 (fun h2 P2 _ => ?_)⟩
  have L2 := ls_m D1 S1.1.1 O1 hq P2.1 P2.2.1
  exact lt_v L2.2.1.1.1 P2.2.2 (nx _ _ _ _ _ _ L2)
theorem l_gcd (LS : ls_S h x m po W q C A B z tl f wl g) (hi : i + 5 ≤ L) (hL : L ≤ 2560) (nx : ∀ h' z' tl' f' wl' g', ls_S h' x m po W q C A B z' tl' f' wl' g' → bk_LW_law_1523 rc L xs x m po (nI i) h') : bk_LW_law_728 rc L xs x m po (nI i) h := by
  obtain ⟨D, S, O, hq⟩ := LS
  refine ⟨vi_k hi hL (j := 1) (by decide) rfl, vi_k hi hL (j := 2) (by decide) rfl, vi_k hi hL (j := 3) (by decide) rfl, p_gcd D (fun h1 F1 D1 _ => ?_)⟩
  have S1 := fx_mo F1 S
  have O1 : ah_T h1 po = 110 ∧ ah_N h1 po = 1 := by rw [F1.1, F1.2.1]; exact O
  refine ⟨vi_k hi hL (j := 1) (by decide) rfl, vi_k hi hL (j := 2) (by decide) rfl, vi_k hi hL (j := 3) (by decide) rfl, S1.1.1, q_gcd S1 (fun h2 P2 _ => ?_)⟩
  have L2 := ls_m D1 S1.1.1 O1 hq P2.1 P2.2.1
  exact lt_v L2.2.1.1.1 P2.2.2 (nx _ _ _ _ _ _ L2)
theorem l_negate (LS : ls_S h x m po W q C A B z tl f wl g) (hi : i + 5 ≤ L) (hL : L ≤ 2560) (nx : ∀ h' z' tl' f' wl' g', ls_S h' x m po W q C A B z' tl' f' wl' g' → bk_LW_law_1523 rc L xs x m po (nI i) h') : bk_LW_law_788 rc L xs x m po (nI i) h := by
  obtain ⟨D, S, O, hq⟩ := LS
  refine ⟨vi_k hi hL (j := 1) (by decide) rfl, vi_k hi hL (j := 2) (by decide) rfl, p_negate D (fun h1 F1 D1 _ => ?_)⟩
  have S1 := fx_mo F1 S
  have O1 : ah_T h1 po = 110 ∧ ah_N h1 po = 1 := by rw [F1.1, F1.2.1]; exact O
  refine ⟨vi_k hi hL (j := 1) (by decide) rfl, vi_k hi hL (j := 2) (by decide) rfl, S1.1.1, q_negate S1 (fun h2 P2 _ => ?_)⟩
  have L2 := ls_m D1 S1.1.1 O1 hq P2.1 P2.2.1
  exact lt_v L2.2.1.1.1 P2.2.2 (nx _ _ _ _ _ _ L2)
theorem l_divide (LS : ls_S h x m po W q C A B z tl f wl g) (hi : i + 5 ≤ L) (hL : L ≤ 2560) (nx : ∀ h' z' tl' f' wl' g', ls_S h' x m po W q C A B z' tl' f' wl' g' → bk_LW_law_1523 rc L xs x m po (nI i) h') : bk_LW_law_656 rc L xs x m po (nI i) h := by
  obtain ⟨D, S, O, hq⟩ := LS
  refine ⟨vi_k hi hL (j := 1) (by decide) rfl, vi_k hi hL (j := 2) (by decide) rfl, vi_k hi hL (j := 3) (by decide) rfl, vi_k hi hL (j := 4) (by decide) rfl, p_divide D (fun h1 c z' pd F1 D1 _ => ?_)⟩
  have S1 := fx_mo F1 S
  have O1 : ah_T h1 po = 110 ∧ ah_N h1 po = 1 := by rw [F1.1, F1.2.1]; exact O
  refine ⟨vi_k hi hL (j := 1) (by decide) rfl, vi_k hi hL (j := 2) (by decide) rfl, vi_k hi hL (j := 3) (by decide) rfl, vi_k hi hL (j := 4) (by decide) rfl, S1.1.1, q_divide S1 (fun h2 c2 z2 pd2 F2 S2 I2 _ => ?_)⟩
  obtain ⟨ec, ez⟩ := pd_u pd pd2
  subst ec; subst ez
  have L2 := ls_m D1 S1.1.1 O1 hq F2 S2
  exact lt_v L2.2.1.1.1 I2 (nx _ _ _ _ _ _ L2)
/-- the answer laid -/
theorem ls_o (LS : ls_S h x m po W q C A B z tl f wl g) {F : Nat → Int64} : ls_S (ah_cL h po F) x m po W q C A B z tl f wl g :=
  ⟨cL_dk LS.1 LS.2.2.2 LS.2.2.1.1, fx_mo cL_fx LS.2.1, by rw [cL_T, cL_N]; exact LS.2.2.1, LS.2.2.2⟩
theorem ls_bo {v : Int64} {k : Nat} (hk : k = 0) : ah_bL (ah_cL h po (vp_updL (ah_bL h po) k v)) po k = v := by
  rw [cL_bL, va_up_self]; exact pk_uLs
theorem v0_k (O : ah_N h po = 1) : vp_in (0 : Int32) (ah_N h po) := by rw [O]; exact vp_in_nI (n := 0) (by decide) (by decide)
/-- behind a query of the model that changed nothing -/
theorem ls_q (LS : ls_S h1 x m po W q C A B z tl f wl g) {c : Int32} (M : mc_S h1 m A B z tl f wl g c h2) : ls_S h2 x m po W q C A B z tl f wl g := ls_m LS.1 LS.2.1.1.1 LS.2.2.1 LS.2.2.2 M.1 M.2.1
theorem lq_0 {N : ah_H → Prop} (LS : ls_S h x m po W q C A B z tl f wl g) {v w : Int64} (e : h1 = ah_cL h po (vp_updL (ah_bL h po) (0 : Int32).toNatClampNeg v)) (M : mc_S h1 m A B z tl f wl g 0 h2) (hN : ls_S h2 x m po W q C A B z tl f wl g → N h2) (hw : v = w) : w_MO_thrown m h2 (fun r344 h343 => ah_m h2 h343 → (r344 = (0 : Int32) → ((¬ (0 : Int32) = 0 → N h343) ∧ ((0 : Int32) = 0 → (ah_T h343 po = 110 ∧ vp_in (0 : Int32) (ah_N h343 po) ∧ ((ah_bL h343 po (0 : Int32).toNatClampNeg) = w → N h343) ∧ (¬ (ah_bL h343 po (0 : Int32).toNatClampNeg) = w → (False)))))) ∧ (¬ r344 = (0 : Int32) → (False))) := by
  have L1 : ls_S h1 x m po W q C A B z tl f wl g := by rw [e]; exact ls_o LS
  have L2 := ls_q L1 M
  refine lt_q L2.2.1.1.1 M.2.2 L2.2.2.1 (fun _ => ?_) (hN L2)
  rw [M.1.2.2.2.2.1, e, ← hw]
  exact ls_bo rfl
theorem lq_1 {N : ah_H → Prop} (LS : ls_S h x m po W q C A B z tl f wl g) {c : Int32} (hc : c ≠ 0) {w : Int64} (M : mc_S h m A B z tl f wl g c h2) (hN : ls_S h2 x m po W q C A B z tl f wl g → N h2) : w_MO_thrown m h2 (fun r344 h343 => ah_m h2 h343 → (r344 = c → ((¬ c = 0 → N h343) ∧ (c = 0 → (ah_T h343 po = 110 ∧ vp_in (0 : Int32) (ah_N h343 po) ∧ ((ah_bL h343 po (0 : Int32).toNatClampNeg) = w → N h343) ∧ (¬ (ah_bL h343 po (0 : Int32).toNatClampNeg) = w → (False)))))) ∧ (¬ r344 = c → (False))) := by
  have L2 := ls_q LS M
  exact lt_q L2.2.1.1.1 M.2.2 L2.2.2.1 (fun e => absurd e hc) (hN L2)
theorem l_compare (LS : ls_S h x m po W q C A B z tl f wl g) (hi : i + 5 ≤ L) (hL : L ≤ 2560) (nx : ∀ h' z' tl' f' wl' g', ls_S h' x m po W q C A B z' tl' f' wl' g' → bk_LW_law_1523 rc L xs x m po (nI i) h') : bk_LW_law_836 rc L xs x m po (nI i) h := by
  refine ⟨vi_k hi hL (j := 1) (by decide) rfl, vi_k hi hL (j := 2) (by decide) rfl, LS.1.1.1, c_compare LS.1 (fun ha hb _ v14 e14 => ⟨LS.2.2.1.1, v0_k LS.2.2.1.2, fun h17 e17 _ => ⟨vi_k hi hL (j := 1) (by decide) rfl, vi_k hi hL (j := 2) (by decide) rfl, ?_⟩⟩) (fun hn _ => ⟨rfl, fun _ => ⟨vi_k hi hL (j := 1) (by decide) rfl, vi_k hi hL (j := 2) (by decide) rfl, LS.2.1.1.1, q_compare LS.2.1 (fun ha hb => absurd ⟨ha, hb⟩ hn) (fun _ h2 M2 _ => lq_1 LS (by decide) M2 (fun L2 => nx _ _ _ _ _ _ L2))⟩⟩)⟩
  have L1 : ls_S h17 x m po W q C A B z tl f wl g := by rw [e17]; exact ls_o LS
  exact ⟨L1.2.1.1.1, q_compare L1.2.1 (fun _ _ h2 M2 _ => lq_0 LS e17 M2 (fun L2 => nx _ _ _ _ _ _ L2) e14) (fun hn => absurd ⟨ha, hb⟩ hn)⟩
theorem l_rest (LS : ls_S h x m po W q C A B z tl f wl g) (hi : i + 5 ≤ L) (hL : L ≤ 2560) (nx : ∀ h' z' tl' f' wl' g', ls_S h' x m po W q C A B z' tl' f' wl' g' → bk_LW_law_1523 rc L xs x m po (nI i) h') : bk_LW_law_904 rc L xs x m po (nI i) h := by
  refine ⟨vi_k hi hL (j := 1) (by decide) rfl, vi_k hi hL (j := 2) (by decide) rfl, vi_k hi hL (j := 3) (by decide) rfl, LS.1.1.1, c_rest LS.1 (fun ha hb h1 D1 F1 _ => ?_) (fun hn _ => ⟨rfl, fun _ => ⟨vi_k hi hL (j := 1) (by decide) rfl, vi_k hi hL (j := 2) (by decide) rfl, vi_k hi hL (j := 3) (by decide) rfl, LS.2.1.1.1, q_rest LS.2.1 (fun ha hb => absurd ⟨ha, hb⟩ hn) (fun _ h2 M2 _ => lq_1 LS (by decide) M2 (fun L2 => nx _ _ _ _ _ _ L2))⟩⟩)⟩
  have LS1 : ls_S h1 x m po W q C A B z tl f wl g := ⟨D1, fx_mo F1 LS.2.1, by rw [F1.1, F1.2.1]; exact LS.2.2.1, LS.2.2.2⟩
  refine ⟨LS1.2.2.1.1, v0_k LS1.2.2.1.2, fun h17 e17 _ => ⟨vi_k hi hL (j := 1) (by decide) rfl, vi_k hi hL (j := 2) (by decide) rfl, vi_k hi hL (j := 3) (by decide) rfl, ?_⟩⟩
  have L1 : ls_S h17 x m po W q C A B z tl f wl g := by rw [e17]; exact ls_o LS1
  exact ⟨L1.2.1.1.1, q_rest L1.2.1 (fun _ _ h2 M2 _ => lq_0 LS1 e17 M2 (fun L2 => nx _ _ _ _ _ _ L2) rfl) (fun hn => absurd ⟨ha, hb⟩ hn)⟩
theorem l_value (LS : ls_S h x m po W q C A B z tl f wl g) (hi : i + 5 ≤ L) (hL : L ≤ 2560) (nx : ∀ h' z' tl' f' wl' g', ls_S h' x m po W q C A B z' tl' f' wl' g' → bk_LW_law_1523 rc L xs x m po (nI i) h') : bk_LW_law_1003 rc L xs x m po (nI i) h := by
  refine ⟨vi_k hi hL (j := 1) (by decide) rfl, LS.1.1.1, c_value LS.1 (fun ha hb _ => ⟨LS.2.2.1.1, v0_k LS.2.2.1.2, fun h17 e17 _ => ⟨vi_k hi hL (j := 1) (by decide) rfl, ?_⟩⟩) (fun hn _ => Or.inl ⟨rfl, fun _ => ⟨vi_k hi hL (j := 1) (by decide) rfl, LS.2.1.1.1, q_value LS.2.1 (fun ha _ => absurd ha hn) (fun _ h2 M2 _ => lq_1 LS (by decide) M2 (fun L2 => nx _ _ _ _ _ _ L2)) (fun ha _ => absurd ha hn)⟩⟩) (fun ha hn _ => Or.inr ⟨rfl, fun _ => ⟨vi_k hi hL (j := 1) (by decide) rfl, LS.2.1.1.1, q_value LS.2.1 (fun _ hb => absurd hb hn) (fun hb => absurd ha hb) (fun _ _ h2 M2 _ => lq_1 LS (by decide) M2 (fun L2 => nx _ _ _ _ _ _ L2))⟩⟩)⟩
  have L1 : ls_S h17 x m po W q C A B z tl f wl g := by rw [e17]; exact ls_o LS
  exact ⟨L1.2.1.1.1, q_value L1.2.1 (fun _ _ h2 M2 _ => lq_0 LS e17 M2 (fun L2 => nx _ _ _ _ _ _ L2) rfl) (fun hn => absurd ha hn) (fun _ hn => absurd hb hn)⟩
theorem l_limb (LS : ls_S h x m po W q C A B z tl f wl g) (hi : i + 5 ≤ L) (hL : L ≤ 2560) (nx : ∀ h' z' tl' f' wl' g', ls_S h' x m po W q C A B z' tl' f' wl' g' → bk_LW_law_1523 rc L xs x m po (nI i) h') : bk_LW_law_1058 rc L xs x m po (nI i) h := by
  refine ⟨vi_k hi hL (j := 1) (by decide) rfl, vi_k hi hL (j := 2) (by decide) rfl, LS.1.1.1, c_limb LS.1 (fun ha hb _ => ⟨LS.2.2.1.1, v0_k LS.2.2.1.2, fun h17 e17 _ => ⟨vi_k hi hL (j := 1) (by decide) rfl, vi_k hi hL (j := 2) (by decide) rfl, ?_⟩⟩) (fun hn _ => ⟨rfl, fun _ => ⟨vi_k hi hL (j := 1) (by decide) rfl, vi_k hi hL (j := 2) (by decide) rfl, LS.2.1.1.1, q_limb LS.2.1 (fun ha hb => absurd ⟨ha, hb⟩ hn) (fun _ h2 M2 _ => lq_1 LS (by decide) M2 (fun L2 => nx _ _ _ _ _ _ L2))⟩⟩)⟩
  have L1 : ls_S h17 x m po W q C A B z tl f wl g := by rw [e17]; exact ls_o LS
  exact ⟨L1.2.1.1.1, q_limb L1.2.1 (fun _ _ h2 M2 _ => lq_0 LS e17 M2 (fun L2 => nx _ _ _ _ _ _ L2) rfl) (fun hn => absurd ⟨ha, hb⟩ hn)⟩
theorem l_look (LS : ls_S h x m po W q C A B z tl f wl g) (hi : i + 5 ≤ L) (hL : L ≤ 2560) (nx : ∀ h' z' tl' f' wl' g', ls_S h' x m po W q C A B z' tl' f' wl' g' → bk_LW_law_1523 rc L xs x m po (nI i) h') : bk_LW_law_1125 rc L xs x m po (nI i) h := by
  refine ⟨vi_k hi hL (j := 1) (by decide) rfl, vi_k hi hL (j := 2) (by decide) rfl, LS.1.1.1, c_look LS.1 (fun hn _ => ⟨rfl, fun _ => ⟨vi_k hi hL (j := 1) (by decide) rfl, vi_k hi hL (j := 2) (by decide) rfl, LS.2.1.1.1, q_look LS.2.1 (fun _ h2 M2 _ => lq_1 LS (by decide) M2 (fun L2 => nx _ _ _ _ _ _ L2)) (fun ha hb => absurd ⟨ha, by omega⟩ hn) (fun ha hb => absurd ⟨ha, by omega⟩ hn) (fun ha hb => absurd ⟨ha, by omega⟩ hn) (fun ha hb => absurd ⟨ha, by omega⟩ hn)⟩⟩) (fun ha hb _ v14 e14 => ⟨LS.2.2.1.1, v0_k LS.2.2.1.2, fun h17 e17 _ => ⟨vi_k hi hL (j := 1) (by decide) rfl, vi_k hi hL (j := 2) (by decide) rfl, ?_⟩⟩) (fun ha hb b hbl _ v14 e14 => ⟨LS.2.2.1.1, v0_k LS.2.2.1.2, fun h17 e17 _ => ⟨vi_k hi hL (j := 1) (by decide) rfl, vi_k hi hL (j := 2) (by decide) rfl, ?_⟩⟩) (fun ha hb b hbl _ v14 e14 => ⟨LS.2.2.1.1, v0_k LS.2.2.1.2, fun h17 e17 _ => ⟨vi_k hi hL (j := 1) (by decide) rfl, vi_k hi hL (j := 2) (by decide) rfl, ?_⟩⟩) (fun ha hb b hbl _ v14 e14 => ⟨LS.2.2.1.1, v0_k LS.2.2.1.2, fun h17 e17 _ => ⟨vi_k hi hL (j := 1) (by decide) rfl, vi_k hi hL (j := 2) (by decide) rfl, ?_⟩⟩)⟩
  all_goals have L1 : ls_S h17 x m po W q C A B z tl f wl g := by rw [e17]; exact ls_o LS
  · exact ⟨L1.2.1.1.1, q_look L1.2.1 (fun hn => absurd ⟨ha, by omega⟩ hn) (fun _ _ h2 M2 _ => lq_0 LS e17 M2 (fun L2 => nx _ _ _ _ _ _ L2) e14) (fun _ hb' => absurd hb' (by omega)) (fun _ hb' => absurd hb' (by omega)) (fun _ hb' => absurd hb' (by omega))⟩
  · exact ⟨L1.2.1.1.1, q_look L1.2.1 (fun hn => absurd ⟨ha, by omega⟩ hn) (fun _ hb' => absurd hb' (by omega)) (fun _ _ b' hb' h2 M2 _ => lq_0 LS e17 M2 (fun L2 => nx _ _ _ _ _ _ L2) (by rw [e14, bl_u hbl hb'])) (fun _ hb' => absurd hb' (by omega)) (fun _ hb' => absurd hb' (by omega))⟩
  · exact ⟨L1.2.1.1.1, q_look L1.2.1 (fun hn => absurd ⟨ha, by omega⟩ hn) (fun _ hb' => absurd hb' (by omega)) (fun _ hb' => absurd hb' (by omega)) (fun _ _ b' hb' h2 M2 _ => lq_0 LS e17 M2 (fun L2 => nx _ _ _ _ _ _ L2) (by rw [e14, Bool.eq_iff_iff.mpr (hbl.trans hb'.symm)])) (fun _ hb' => absurd hb' (by omega))⟩
  · exact ⟨L1.2.1.1.1, q_look L1.2.1 (fun hn => absurd ⟨ha, by omega⟩ hn) (fun _ hb' => absurd hb' (by omega)) (fun _ hb' => absurd hb' (by omega)) (fun _ hb' => absurd hb' (by omega)) (fun _ _ b' hb' h2 M2 _ => lq_0 LS e17 M2 (fun L2 => nx _ _ _ _ _ _ L2) (by rw [e14, tz_u hbl hb']))⟩
theorem l_text (LS : ls_S h x m po W q C A B z tl f wl g) (hi : i + 5 ≤ L) (hL : L ≤ 2560) (nx : ∀ h' z' tl' f' wl' g', ls_S h' x m po W q C A B z' tl' f' wl' g' → bk_LW_law_1523 rc L xs x m po (nI i) h') : bk_LW_law_1467 rc L xs x m po (nI i) h := by
  refine ⟨vi_k hi hL (j := 1) (by decide) rfl, LS.1.1.1, c_text LS.1 (fun hk _ v14 e14 => ⟨LS.2.2.1.1, v0_k LS.2.2.1.2, fun h17 e17 _ => ⟨vi_k hi hL (j := 1) (by decide) rfl, ?_⟩⟩) (fun hk _ v14 e14 => ⟨LS.2.2.1.1, v0_k LS.2.2.1.2, fun h17 e17 _ => ⟨vi_k hi hL (j := 1) (by decide) rfl, ?_⟩⟩) (fun hn _ => ⟨rfl, fun _ => ⟨vi_k hi hL (j := 1) (by decide) rfl, LS.2.1.1.1, q_text LS.2.1 (fun hk => absurd (Or.inl hk) hn) (fun hk => absurd (Or.inr hk) hn) (fun _ h2 M2 _ => lq_1 LS (by decide) M2 (fun L2 => nx _ _ _ _ _ _ L2))⟩⟩)⟩
  all_goals have L1 : ls_S h17 x m po W q C A B z tl f wl g := by rw [e17]; exact ls_o LS
  · exact ⟨L1.2.1.1.1, q_text L1.2.1 (fun _ h2 M2 _ => lq_0 LS e17 M2 (fun L2 => nx _ _ _ _ _ _ L2) e14) (fun hk' => absurd (hk.symm.trans hk') (by decide)) (fun hn => absurd (Or.inl hk) hn)⟩
  · exact ⟨L1.2.1.1.1, q_text L1.2.1 (fun hk' => absurd (hk.symm.trans hk') (by decide)) (fun _ h2 M2 _ => lq_0 LS e17 M2 (fun L2 => nx _ _ _ _ _ _ L2) e14) (fun hn => absurd (Or.inr hk) hn)⟩
theorem l_out (LS : ls_S h x m po W q C A B z tl f wl g) (hi : i + 5 ≤ L) (hL : L ≤ 2560) (nx : ∀ h' z' tl' f' wl' g', ls_S h' x m po W q C A B z' tl' f' wl' g' → bk_LW_law_1523 rc L xs x m po (nI i) h') : bk_LW_law_1412 rc L xs x m po (nI i) h := by
  have hwl := LS.1.2.2.2.2.1
  refine ⟨vi_k hi hL (j := 1) (by decide) rfl, LS.1.1.1, c_out LS.1 (fun j hj ej _ => ⟨LS.2.2.1.1, v0_k LS.2.2.1.2, fun h17 e17 _ => ⟨vi_k hi hL (j := 1) (by decide) rfl, ?_⟩⟩) (fun hn _ => ⟨rfl, fun _ => ⟨vi_k hi hL (j := 1) (by decide) rfl, LS.2.1.1.1, q_out LS.2.1 (fun j hj ej => absurd ⟨j, hj, ej⟩ hn) (fun _ h2 M2 _ => lq_1 LS (by decide) M2 (fun L2 => nx _ _ _ _ _ _ L2))⟩⟩)⟩
  have L1 : ls_S h17 x m po W q C A B z tl f wl g := by rw [e17]; exact ls_o LS
  exact ⟨L1.2.1.1.1, q_out L1.2.1 (fun j' hj' ej' h2 M2 _ => lq_0 LS e17 M2 (fun L2 => nx _ _ _ _ _ _ L2) (by rw [(nI_eq (by omega) (by omega)).mp (ej.symm.trans ej')])) (fun hn => absurd ⟨j, hj, ej⟩ hn)⟩
theorem l_feed (LS : ls_S h x m po W q C A B z tl f wl g) (hi : i + 5 ≤ L) (hL : L ≤ 2560) (nx : ∀ h' z' tl' f' wl' g', ls_S h' x m po W q C A B z' tl' f' wl' g' → bk_LW_law_1523 rc L xs x m po (nI i) h') : bk_LW_law_1193 rc L xs x m po (nI i) h := by
  refine ⟨vi_k hi hL (j := 1) (by decide) rfl, vi_k hi hL (j := 2) (by decide) rfl, vi_k hi hL (j := 3) (by decide) rfl, LS.1.1.1, c_feed LS.1 (fun a1 a2 a3 h1 D1 F1 _ v14 e14 => ?_) (fun hn _ => Or.inl ⟨rfl, fun _ => ⟨vi_k hi hL (j := 1) (by decide) rfl, vi_k hi hL (j := 2) (by decide) rfl, vi_k hi hL (j := 3) (by decide) rfl, LS.2.1.1.1, q_feed LS.2.1 (fun a b => absurd ⟨a, b⟩ hn) (fun _ h2 M2 _ => lq_1 LS (by decide) M2 (fun L2 => nx _ _ _ _ _ _ L2)) (fun a b => absurd ⟨a, b⟩ hn)⟩⟩) (fun a1 a2 hn _ => Or.inr ⟨rfl, fun _ => ⟨vi_k hi hL (j := 1) (by decide) rfl, vi_k hi hL (j := 2) (by decide) rfl, vi_k hi hL (j := 3) (by decide) rfl, LS.2.1.1.1, q_feed LS.2.1 (fun _ _ a3 => absurd a3 hn) (fun hn' => absurd ⟨a1, a2⟩ hn') (fun _ _ _ h2 M2 _ => lq_1 LS (by decide) M2 (fun L2 => nx _ _ _ _ _ _ L2))⟩⟩)⟩
  have S1 := fx_mo F1 LS.2.1
  have O1 : ah_T h1 po = 110 ∧ ah_N h1 po = 1 := by rw [F1.1, F1.2.1]; exact LS.2.2.1
  refine ⟨O1.1, v0_k O1.2, fun h17 e17 _ => ⟨vi_k hi hL (j := 1) (by decide) rfl, vi_k hi hL (j := 2) (by decide) rfl, vi_k hi hL (j := 3) (by decide) rfl, ?_⟩⟩
  have D17 := cL_dk (F := vp_updL (ah_bL h1 po) (0 : Int32).toNatClampNeg v14) D1 LS.2.2.2 O1.1
  have S17 := fx_mo (cL_fx (po := po) (F := vp_updL (ah_bL h1 po) (0 : Int32).toNatClampNeg v14)) S1
  have O17 : ah_T h17 po = 110 ∧ ah_N h17 po = 1 := by rw [e17, cL_T, cL_N]; exact O1
  rw [← e17] at D17 S17
  refine ⟨S17.1.1, q_feed S17 (fun _ _ _ h2 S2 F2 I2 _ => ?_) (fun hn => absurd ⟨a1, a2⟩ hn) (fun _ _ hn => absurd a3 hn)⟩
  have L2 := ls_m D17 S17.1.1 O17 LS.2.2.2 F2 S2
  refine lt_q L2.2.1.1.1 I2 L2.2.2.1 (fun _ => ?_) (nx _ _ _ _ _ _ L2)
  rw [F2.2.2.2.2.1, e17, ← e14]
  exact ls_bo rfl
theorem l_write (LS : ls_S h x m po W q C A B z tl f wl g) (hi : i + 5 ≤ L) (hL : L ≤ 2560) (nx : ∀ h' z' tl' f' wl' g', ls_S h' x m po W q C A B z' tl' f' wl' g' → bk_LW_law_1523 rc L xs x m po (nI i) h') : bk_LW_law_1356 rc L xs x m po (nI i) h := by
  refine ⟨vi_k hi hL (j := 1) (by decide) rfl, LS.1.1.1, c_write LS.1 (fun hn _ => ⟨rfl, fun _ => ⟨vi_k hi hL (j := 1) (by decide) rfl, LS.2.1.1.1, q_write LS.2.1 (fun _ h2 M2 _ => lq_1 LS (by decide) M2 (fun L2 => nx _ _ _ _ _ _ L2)) (fun ha => absurd ha hn)⟩⟩) (fun ha h1 wl1 g1 hl1 ht1 D1 F1 _ v14 e14 => ?_)⟩
  have S1 := fx_mo F1 LS.2.1
  have O1 : ah_T h1 po = 110 ∧ ah_N h1 po = 1 := by rw [F1.1, F1.2.1]; exact LS.2.2.1
  refine ⟨O1.1, v0_k O1.2, fun h17 e17 _ => ⟨vi_k hi hL (j := 1) (by decide) rfl, ?_⟩⟩
  have D17 := cL_dk (F := vp_updL (ah_bL h1 po) (0 : Int32).toNatClampNeg v14) D1 LS.2.2.2 O1.1
  have S17 := fx_mo (cL_fx (po := po) (F := vp_updL (ah_bL h1 po) (0 : Int32).toNatClampNeg v14)) S1
  have O17 : ah_T h17 po = 110 ∧ ah_N h17 po = 1 := by rw [e17, cL_T, cL_N]; exact O1
  rw [← e17] at D17 S17
  refine ⟨S17.1.1, q_write S17 (fun hn => absurd ha hn) (fun _ h2 wl2 g2 hl2 ht2 S2 F2 I2 _ => ?_)⟩
  obtain ⟨ew, eg⟩ := tw_u ht1 ht2
  subst ew
  have S2' : mo_S h2 m A B z tl f wl1 g1 := ⟨S2.1, S2.2.1, S2.2.2.1, S2.2.2.2.1, S2.2.2.2.2.1, S2.2.2.2.2.2.1, fun j hj => by rw [S2.2.2.2.2.2.2 j hj, eg j hj]⟩
  have L2 := ls_m D17 S17.1.1 O17 LS.2.2.2 F2 S2'
  refine lt_q L2.2.1.1.1 I2 L2.2.2.1 (fun _ => ?_) (nx _ _ _ _ _ _ L2)
  rw [F2.2.2.2.2.1, e17, ← e14]
  exact ls_bo rfl
theorem l_read (LS : ls_S h x m po W q C A B z tl f wl g) (hi : i + 5 ≤ L) (hL : L ≤ 2560) (nx : ∀ h' z' tl' f' wl' g', ls_S h' x m po W q C A B z' tl' f' wl' g' → bk_LW_law_1523 rc L xs x m po (nI i) h') : bk_LW_law_1293 rc L xs x m po (nI i) h := by
  have hf := LS.1.2.2.1.2.2.1
  have fin : ∀ (h1 : ah_H) (z' : Nat → Int) (b : Bool), dk_S h1 x W q C z' 0 f wl g → fx_S h h1 → ((b = true ∧ rd_G f tl ∧ rk_n (xs (nI i + (1 : Int32)).toNatClampNeg) < 12 ∧ z' = zu_n z (rk_n (xs (nI i + (1 : Int32)).toNatClampNeg)) (sg_Z (decide (tx_s f = 1)) (tx_V f (tx_s f) (tl - tx_s f)))) ∨ (b = false ∧ ¬ rd_G f tl ∧ rk_n (xs (nI i + (1 : Int32)).toNatClampNeg) < 12 ∧ z' = z)) → ∀ v14 : Int64, v14 = (if b then 1 else 0) → ah_T h1 po = 110 ∧ vp_in (0 : Int32) (ah_N h1 po) ∧ ∀ h20 : ah_H, h20 = ah_cL h1 po (vp_updL (ah_bL h1 po) (0 : Int32).toNatClampNeg v14) → (ah_m h h20 → vp_in (nI i + (1 : Int32)) L ∧ ah_T h20 m = 5 ∧ w_MO_read m (xs (nI i + (1 : Int32)).toNatClampNeg) h20 (fun r493 h492 => ah_m h20 h492 → w_MO_thrown m h492 (fun r497 h496 => ah_m h492 h496 → (r497 = (0 : Int32) → ((¬ (0 : Int32) = 0 → (bk_LW_law_1353 rc L xs x m po (nI i) h496)) ∧ ((0 : Int32) = 0 → (ah_T h496 po = 110 ∧ vp_in (0 : Int32) (ah_N h496 po) ∧ (r493 = 0 → (bk_LW_law_1347 rc L xs x m po (nI i) (0 : Int64) (ah_bL h496 po (0 : Int32).toNatClampNeg) h496)) ∧ (¬ r493 = 0 → (bk_LW_law_1347 rc L xs x m po (nI i) (1 : Int64) (ah_bL h496 po (0 : Int32).toNatClampNeg) h496)))))) ∧ (¬ r497 = (0 : Int32) → (False))))) := by
    intro h1 z' b D1 F1 hb v14 e14
    have S1 := fx_mo F1 LS.2.1
    have O1 : ah_T h1 po = 110 ∧ ah_N h1 po = 1 := by rw [F1.1, F1.2.1]; exact LS.2.2.1
    refine ⟨O1.1, v0_k O1.2, fun h17 e17 _ => ⟨vi_k hi hL (j := 1) (by decide) rfl, ?_⟩⟩
    have D17 := cL_dk (F := vp_updL (ah_bL h1 po) (0 : Int32).toNatClampNeg v14) D1 LS.2.2.2 O1.1
    have S17 := fx_mo (cL_fx (po := po) (F := vp_updL (ah_bL h1 po) (0 : Int32).toNatClampNeg v14)) S1
    have O17 : ah_T h17 po = 110 ∧ ah_N h17 po = 1 := by rw [e17, cL_T, cL_N]; exact O1
    have B17 : ah_bL h17 po (0 : Int32).toNatClampNeg = v14 := by rw [e17]; exact ls_bo rfl
    rw [← e17] at D17 S17
    have last : ∀ (h2 : ah_H) (r : Int32), mc_S h17 m A B z' 0 f wl g 0 h2 → r = bi_n b → w_MO_thrown m h2 (fun r497 h496 => ah_m h2 h496 → (r497 = (0 : Int32) → ((¬ (0 : Int32) = 0 → (bk_LW_law_1353 rc L xs x m po (nI i) h496)) ∧ ((0 : Int32) = 0 → (ah_T h496 po = 110 ∧ vp_in (0 : Int32) (ah_N h496 po) ∧ (r = 0 → (bk_LW_law_1347 rc L xs x m po (nI i) (0 : Int64) (ah_bL h496 po (0 : Int32).toNatClampNeg) h496)) ∧ (¬ r = 0 → (bk_LW_law_1347 rc L xs x m po (nI i) (1 : Int64) (ah_bL h496 po (0 : Int32).toNatClampNeg) h496)))))) ∧ (¬ r497 = (0 : Int32) → (False))) := by
      intro h2 r M2 hr
      have L2 := ls_m D17 S17.1.1 O17 LS.2.2.2 M2.1 M2.2.1
      have nx2 := nx _ _ _ _ _ _ L2
      have B2 : ah_bL h2 po (0 : Int32).toNatClampNeg = v14 := by rw [M2.1.2.2.2.2.1]; exact B17
      refine ⟨L2.2.1.1.1, fun _ => ⟨fun _ => ⟨fun hc => absurd rfl hc, fun _ => ⟨L2.2.2.1.1, v0_k L2.2.2.1.2, fun e => ?_, fun e => ?_⟩⟩, fun hn => hn M2.2.2⟩⟩
      · rw [hr] at e
        rw [bi_0.mp e] at e14
        exact ⟨fun _ => nx2, fun hn => hn (B2.trans e14)⟩
      · have hb1 : b = true := by
          cases b
          · exact absurd hr e
          · rfl
        rw [hb1] at e14
        exact ⟨fun _ => nx2, fun hn => hn (B2.trans e14)⟩
    rcases hb with ⟨b1, b2, b3, b4⟩ | ⟨b1, b2, b3, b4⟩
    · refine ⟨S17.1.1, q_read S17 hf (fun hn => absurd b3 hn) (fun _ hn => absurd b2 hn) (fun _ _ h2 M2 _ => last h2 1 (by rw [b4]; exact M2) (by rw [b1]; rfl))⟩
    · refine ⟨S17.1.1, q_read S17 hf (fun hn => absurd b3 hn) (fun _ _ h2 M2 _ => last h2 0 (by rw [b4]; exact M2) (by rw [b1]; rfl)) (fun _ hg => absurd hg b2)⟩
  refine ⟨vi_k hi hL (j := 1) (by decide) rfl, LS.1.1.1, c_read LS.1 (fun hn _ => ⟨rfl, fun _ => ⟨vi_k hi hL (j := 1) (by decide) rfl, LS.2.1.1.1, q_read LS.2.1 hf (fun _ h2 M2 _ => ?_) (fun ha => absurd ha hn) (fun ha => absurd ha hn)⟩⟩) (fun ha hn h1 D1 F1 _ => ⟨fun _ => fin h1 z false D1 F1 (Or.inr ⟨rfl, hn, ha, rfl⟩) 0 rfl, fun hc => absurd rfl hc⟩) (fun ha hg h1 D1 F1 _ => ⟨fun hc => absurd hc (by decide), fun _ => fin h1 _ true D1 F1 (Or.inl ⟨rfl, hg, ha, rfl⟩) 1 rfl⟩)⟩
  have L2 := ls_q LS M2
  exact ⟨L2.2.1.1.1, fun _ => ⟨fun _ => ⟨fun _ => nx _ _ _ _ _ _ L2, fun hc => absurd hc (by decide)⟩, fun hn => hn M2.2.2⟩⟩
end CASES
end LW1
