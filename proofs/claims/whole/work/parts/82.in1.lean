section IN1
variable {h h' h'' : ah_H} {a k t n : Nat}
theorem nw_T : ah_T (ah_new h a t n) = va_up (ah_T h) a t := by unfold ah_new ah_T; rfl
theorem nw_N : ah_N (ah_new h a t n) = va_up (ah_N h) a n := by unfold ah_new ah_N; rfl
theorem nw_I : ah_I (ah_new h a t n) = fun k j => if j = a then 0 else ah_I h k j := by unfold ah_new ah_I; rfl
theorem nw_R : ah_R (ah_new h a t n) = fun k j => if j = a then none else ah_R h k j := by unfold ah_new ah_R; rfl
theorem nw_bI : ah_bI (ah_new h a t n) = va_up (ah_bI h) a (fun _ => 0) := by unfold ah_new ah_bI; rfl
theorem nw_bL : ah_bL (ah_new h a t n) = va_up (ah_bL h) a (fun _ => 0) := by unfold ah_new ah_bL; rfl
theorem nw_bR : ah_bR (ah_new h a t n) = va_up (ah_bR h) a (fun _ => none) := by unfold ah_new ah_bR; rfl
theorem sR_T {v : Option Nat} : ah_T (ah_sR h k a v) = ah_T h := by unfold ah_sR ah_T; rfl
theorem sR_N {v : Option Nat} : ah_N (ah_sR h k a v) = ah_N h := by unfold ah_sR ah_N; rfl
theorem sR_I {v : Option Nat} : ah_I (ah_sR h k a v) = ah_I h := by unfold ah_sR ah_I; rfl
theorem sR_R {v : Option Nat} : ah_R (ah_sR h k a v) = ah_u2 (ah_R h) k a v := by unfold ah_sR ah_R; rfl
theorem sR_bI {v : Option Nat} : ah_bI (ah_sR h k a v) = ah_bI h := by unfold ah_sR ah_bI; rfl
theorem sR_bL {v : Option Nat} : ah_bL (ah_sR h k a v) = ah_bL h := by unfold ah_sR ah_bL; rfl
theorem sR_bR {v : Option Nat} : ah_bR (ah_sR h k a v) = ah_bR h := by unfold ah_sR ah_bR; rfl
theorem cR_T {v : Nat → Option Nat} : ah_T (ah_cR h a v) = ah_T h := by unfold ah_cR ah_T; rfl
theorem cR_N {v : Nat → Option Nat} : ah_N (ah_cR h a v) = ah_N h := by unfold ah_cR ah_N; rfl
theorem cR_I {v : Nat → Option Nat} : ah_I (ah_cR h a v) = ah_I h := by unfold ah_cR ah_I; rfl
theorem cR_R {v : Nat → Option Nat} : ah_R (ah_cR h a v) = ah_R h := by unfold ah_cR ah_R; rfl
theorem cR_bI {v : Nat → Option Nat} : ah_bI (ah_cR h a v) = ah_bI h := by unfold ah_cR ah_bI; rfl
theorem cR_bL {v : Nat → Option Nat} : ah_bL (ah_cR h a v) = ah_bL h := by unfold ah_cR ah_bL; rfl
theorem cR_bR {v : Nat → Option Nat} : ah_bR (ah_cR h a v) = va_up (ah_bR h) a v := by unfold ah_cR ah_bR; rfl
/-- the cell y is as it was -/
def sa_S (h h' : ah_H) (y : Nat) : Prop := ah_T h' y = ah_T h y ∧ ah_N h' y = ah_N h y ∧ (∀ k, ah_I h' k y = ah_I h k y) ∧ (∀ k, ah_R h' k y = ah_R h k y) ∧ ah_bI h' y = ah_bI h y ∧ ah_bL h' y = ah_bL h y ∧ ah_bR h' y = ah_bR h y
theorem sa_rf {y : Nat} : sa_S h h y := ⟨rfl, rfl, fun _ => rfl, fun _ => rfl, rfl, rfl, rfl⟩
theorem sa_tr {y : Nat} (p : sa_S h h' y) (q : sa_S h' h'' y) : sa_S h h'' y := ⟨q.1.trans p.1, q.2.1.trans p.2.1, fun k => (q.2.2.1 k).trans (p.2.2.1 k), fun k => (q.2.2.2.1 k).trans (p.2.2.2.1 k), q.2.2.2.2.1.trans p.2.2.2.2.1, q.2.2.2.2.2.1.trans p.2.2.2.2.2.1, q.2.2.2.2.2.2.trans p.2.2.2.2.2.2⟩
theorem sa_nw {y : Nat} (hy : y ≠ a) : sa_S h (ah_new h a t n) y :=
  ⟨by rw [nw_T, va_up_ne _ _ hy], by rw [nw_N, va_up_ne _ _ hy], fun k => by rw [nw_I]; exact if_neg hy, fun k => by rw [nw_R]; exact if_neg hy, by rw [nw_bI, va_up_ne _ _ hy], by rw [nw_bL, va_up_ne _ _ hy], by rw [nw_bR, va_up_ne _ _ hy]⟩
theorem sa_sR {y : Nat} {v : Option Nat} (hy : y ≠ a) : sa_S h (ah_sR h k a v) y :=
  ⟨by rw [sR_T], by rw [sR_N], fun _ => by rw [sR_I], fun _ => by rw [sR_R]; exact u2_a _ _ hy, by rw [sR_bI], by rw [sR_bL], by rw [sR_bR]⟩
theorem sa_sI {y : Nat} {v : Int32} (hy : y ≠ a) : sa_S h (ah_sI h k a v) y :=
  ⟨by rw [sI_T], by rw [sI_N], fun _ => by rw [sI_I]; exact u2_a _ _ hy, fun _ => by rw [sI_R], by rw [sI_bI], by rw [sI_bL], by rw [sI_bR]⟩
theorem sa_cR {y : Nat} {v : Nat → Option Nat} (hy : y ≠ a) : sa_S h (ah_cR h a v) y :=
  ⟨by rw [cR_T], by rw [cR_N], fun _ => by rw [cR_I], fun _ => by rw [cR_R], by rw [cR_bI], by rw [cR_bL], by rw [cR_bR, va_up_ne _ _ hy]⟩
/-- a Whole that was just made -/
theorem s_WH_init {a : Nat} (ha : ah_T h a = 0) {K : ah_H → Prop} (hK : ∀ (h' : ah_H) (p : Nat), ah_T h p = 0 → p ≠ a → wh_S h' a p 0 false (fun _ => 0) → (∀ y, y ≠ a → y ≠ p → sa_S h h' y) → K h') : w_WH_init a (ah_new h a 3 0) K := by
  intro p hp h4 e4
  have hpa : p ≠ a := fun e => by
    rw [e, nw_T, va_up_self] at hp
    exact absurd hp (by decide)
  have hp0 : ah_T h p = 0 := by rw [nw_T, va_up_ne _ _ hpa] at hp; exact hp
  refine ⟨by rw [e4, nw_T, va_up_ne _ _ hpa.symm, nw_T, va_up_self], fun h8 e8 h12 e12 h16 e16 => hK h16 p hp0 hpa ⟨⟨?_, ?_, ?_, ?_⟩, ?_, ?_, ?_⟩ (fun y y1 y2 => ?_)⟩
  · rw [e16, sI_T, e12, sI_T, e8, sR_T, e4, nw_T, va_up_ne _ _ hpa.symm, nw_T, va_up_self]
  · rw [e16, sI_R, e12, sI_R, e8, sR_R]; exact u2_s _ _ _ _
  · rw [e16, sI_T, e12, sI_T, e8, sR_T, e4, nw_T, va_up_self]
  · rw [e16, sI_N, e12, sI_N, e8, sR_N, e4, nw_N, va_up_self]
  · rw [e16, sI_I, u2_k _ _ (by decide), e12, sI_I]; exact u2_s _ _ _ _
  · rw [e16, sI_I]; exact u2_s _ _ _ _
  · rw [e16, sI_bL, e12, sI_bL, e8, sR_bL, e4, nw_bL, va_up_self]; rfl
  · rw [e16]
    refine sa_tr ?_ (sa_sI y1)
    rw [e12]
    refine sa_tr ?_ (sa_sI y1)
    rw [e8]
    refine sa_tr ?_ (sa_sR y1)
    rw [e4]
    exact sa_tr (sa_nw y1) (sa_nw y2)
/-- k Wholes stand -/
def bu_S (h : ah_H) (k : Nat) (W q : Nat → Nat) : Prop := (∀ i, i < k → wh_S h (W i) (q i) 0 false (fun _ => 0)) ∧ (∀ i j, i < k → j < k → W i = W j → i = j) ∧ (∀ i j, i < k → j < k → q i = q j → i = j)
theorem sa_wh {w p n : Nat} {b : Bool} {d : Nat → Nat} (H : wh_S h w p n b d) (s1 : sa_S h h' w) (s2 : sa_S h h' p) : wh_S h' w p n b d := by
  unfold wh_S wq_S at *
  rw [s1.1, s1.2.2.2.1, s2.1, s2.2.1, s1.2.2.1, s1.2.2.1, s2.2.2.2.2.2.1]; exact H
theorem sa_bu {W q : Nat → Nat} (H : bu_S h k W q) (s : ∀ y, ah_T h y = 3 ∨ ah_T h y = 110 → sa_S h h' y) : bu_S h' k W q :=
  ⟨fun i hi => sa_wh (H.1 i hi) (s _ (Or.inl (H.1 i hi).1.1)) (s _ (Or.inr (H.1 i hi).1.2.2.1)), H.2⟩
/-- the old cells are as they were -/
def ol_S (h h' : ah_H) : Prop := ∀ y, ah_T h y ≠ 0 → sa_S h h' y
theorem ol_tr (p : ol_S h h') (q : ol_S h' h'') : ol_S h h'' := fun y hy => sa_tr (p y hy) (q y (by rw [(p y hy).1]; exact hy))
theorem bu_new {W q : Nat → Nat} {a : Nat} (H : bu_S h k W q) (ha : ah_T h a = 0) {K : ah_H → Prop} (hK : ∀ (h' : ah_H) (p : Nat), bu_S h' (k + 1) (dg_u W k a) (dg_u q k p) → ol_S h h' → ah_T h' a = 3 → K h') : w_WH_init a (ah_new h a 3 0) K := by
  refine s_WH_init ha (fun h' p hp hpa Hw s => hK h' p ?_ (fun y hy => s y (fun e => hy (by rw [e]; exact ha)) (fun e => hy (by rw [e]; exact hp))) Hw.1.1)
  have H' : bu_S h' k W q := sa_bu H (fun y hy => s y (fun e => by rw [e, ha] at hy; omega) (fun e => by rw [e, hp] at hy; omega))
  have nW : ∀ i, i < k → W i ≠ a := fun i hi e => by have := (H.1 i hi).1.1; rw [e, ha] at this; omega
  have nq : ∀ i, i < k → q i ≠ p := fun i hi e => by have := (H.1 i hi).1.2.2.1; rw [e, hp] at this; omega
  refine ⟨fun i hi => ?_, fun i j hi hj e => ?_, fun i j hi hj e => ?_⟩
  · by_cases y : i = k
    · subst y; rw [dg_us, dg_us]; exact Hw
    · rw [dg_un y, dg_un y]; exact H'.1 i (by omega)
  · by_cases y : i = k <;> by_cases w : j = k
    · omega
    · subst y; rw [dg_us, dg_un w] at e; exact absurd e.symm (nW j (by omega))
    · subst w; rw [dg_us, dg_un y] at e; exact absurd e (nW i (by omega))
    · rw [dg_un y, dg_un w] at e; exact H.2.1 i j (by omega) (by omega) e
  · by_cases y : i = k <;> by_cases w : j = k
    · omega
    · subst y; rw [dg_us, dg_un w] at e; exact absurd e.symm (nq j (by omega))
    · subst w; rw [dg_us, dg_un y] at e; exact absurd e (nq i (by omega))
    · rw [dg_un y, dg_un w] at e; exact H.2.2 i j (by omega) (by omega) e
/-- the desk being built: the first n references of x, the registers' row with i of them -/
def st_S (h : ah_H) (x rg i k : Nat) (W q : Nat → Nat) (n : Nat) (V : Nat → Nat) : Prop := ah_T h x = 4 ∧ (∀ j, j < n → ah_R h (6 + j) x = some (V j)) ∧ (ah_T h rg = 120 ∧ ah_N h rg = 12 ∧ ∀ j, j < i → ah_bR h rg j = some (W j)) ∧ bu_S h k W q
variable {x rg i : Nat} {W q V : Nat → Nat}
theorem st_ol (S : st_S h x rg i k W q n V) (o : ol_S h h') {W' q' : Nat → Nat} {k' : Nat} (hb : bu_S h' k' W' q') (hW : ∀ j, j < i → W' j = W j) : st_S h' x rg i k' W' q' n V := by
  have ox := o x (by rw [S.1]; decide)
  have og := o rg (by rw [S.2.2.1.1]; decide)
  exact ⟨ox.1.trans S.1, fun j hj => (ox.2.2.2.1 _).trans (S.2.1 j hj), ⟨og.1.trans S.2.2.1.1, og.2.1.trans S.2.2.1.2.1, fun j hj => by rw [og.2.2.2.2.2.2, hW j hj]; exact S.2.2.1.2.2 j hj⟩, hb⟩
theorem st_sR (S : st_S h x rg i k W q n V) {v : Nat} : st_S (ah_sR h (6 + n) x (some v)) x rg i k W q (n + 1) (dg_u V n v) := by
  have hxr : rg ≠ x := fun e => by have := S.2.2.1.1; rw [e, S.1] at this; omega
  have og := sa_sR (h := h) (k := 6 + n) (v := some v) hxr
  refine ⟨by rw [sR_T]; exact S.1, fun j hj => ?_, ⟨og.1.trans S.2.2.1.1, og.2.1.trans S.2.2.1.2.1, fun j hj => by rw [og.2.2.2.2.2.2]; exact S.2.2.1.2.2 j hj⟩, sa_bu S.2.2.2 (fun y hy => sa_sR (fun e => by rw [e, S.1] at hy; omega))⟩
  rw [sR_R]
  by_cases e : j = n
  · subst e; rw [u2_s, dg_us]
  · rw [u2_k _ _ (by omega), dg_un e]; exact S.2.1 j (by omega)
/-- registers[i] = new Whole() -/
theorem st_reg (S : st_S h x rg i i W q 1 V) (hV : V 0 = rg) (hi : i < 12) {iI : Int32} (ei : iI = nI i) {Kn : ah_H → Prop} (hK : ∀ (h' : ah_H) (W' q' : Nat → Nat), st_S h' x rg (i + 1) (i + 1) W' q' 1 V → Kn h') :
    ∃ q12, ah_R h 6 x = some q12 ∧ ∀ q14 : Nat, ah_T h q14 = 0 → ∀ h16 : ah_H, h16 = ah_new h q14 3 0 → w_WH_init q14 h16 (fun h21 => ah_m h16 h21 → ah_T h21 q12 = 120 ∧ vp_in iI (ah_N h21 q12) ∧ ∀ h28 : ah_H, h28 = ah_cR h21 q12 (va_up (ah_bR h21 q12) iI.toNatClampNeg (some q14)) → Kn h28) := by
  refine ⟨rg, by rw [← hV]; exact S.2.1 0 (by decide), fun a ha h16 e16 => ?_⟩
  rw [e16]
  refine bu_new S.2.2.2 ha (fun h1 p hb o _ _ => ?_)
  have S1 := st_ol S o hb (fun j hj => dg_un (by omega))
  refine ⟨S1.2.2.1.1, by rw [S1.2.2.1.2.1, ei]; exact vp_in_nI hi (by decide), fun h28 e28 => ?_⟩
  rw [ei, nI_clamp (by omega)] at e28
  have hxr : x ≠ rg := fun e => by have := S.2.2.1.1; rw [← e, S.1] at this; omega
  have ox := sa_cR (h := h1) (v := va_up (ah_bR h1 rg) i (some a)) hxr
  rw [e28]
  refine hK _ (dg_u W i a) (dg_u q i p) ⟨ox.1.trans S1.1, fun j hj => (ox.2.2.2.1 _).trans (S1.2.1 j hj), ⟨by rw [cR_T]; exact S1.2.2.1.1, by rw [cR_N]; exact S1.2.2.1.2.1, fun j hj => ?_⟩, sa_bu hb (fun y hy => sa_cR (fun e => by rw [e, S1.2.2.1.1] at hy; omega))⟩
  rw [cR_bR, va_up_self]
  by_cases e : j = i
  · subst e; rw [va_up_self, dg_us]
  · rw [va_up_ne _ _ e]
    exact S1.2.2.1.2.2 j (by omega)
end IN1
