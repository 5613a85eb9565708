section MO7
/-- two to the 8192 -/
def lim_N : Nat := 2 ^ 8192
theorem lim_eq : lim_N = 2 ^ 8192 := by unfold lim_N; rfl
theorem lim_617 : lim_N < 10000 ^ 617 := by rw [lim_eq]; decide +kernel
theorem lim_pos : 0 < lim_N := by rw [lim_eq]; exact Nat.pow_pos (by decide)
theorem i64_lim (v : Int64) : v.toInt.natAbs < lim_N := by
  have h1 := v.toInt_lt
  have h2 := v.le_toInt
  have h3 : v.toInt.natAbs < 2 ^ 64 := by omega
  rw [lim_eq]
  exact Nat.lt_trans h3 (Nat.pow_lt_pow_right (by decide) (by decide))
/-- the register meant, 12 for none -/
def rk_n (r : Int32) : Nat := if r < 0 then 12 else r.toNatClampNeg
theorem rk_ok {r : Int32} (h : rk_n r < 12) : ¬ r < 0 ∧ r < (12 : Int32) ∧ r = nI (rk_n r) := by
  unfold rk_n at *
  by_cases z : r < 0
  · rw [if_pos z] at h; omega
  · rw [if_neg z] at h ⊢
    obtain ⟨j, hj, e⟩ := nI_of z
    rw [e, nI_clamp hj] at h ⊢
    exact ⟨nI_pos hj, nI_lt (b := 12) h (by decide), rfl⟩
theorem rk_no {r : Int32} (h : ¬ rk_n r < 12) : r < 0 ∨ ¬ r < (12 : Int32) := by
  unfold rk_n at *
  by_cases z : r < 0
  · exact Or.inl z
  · right
    rw [if_neg z] at h
    obtain ⟨j, hj, e⟩ := nI_of z
    rw [e, nI_clamp hj] at h
    rw [e]
    exact nI_nlt (b := 12) (by omega) hj
def zu_n (z : Nat → Int) (r : Nat) (v : Int) : Nat → Int := fun i => if i = r then v else z i
theorem zu_s {z : Nat → Int} {r : Nat} {v : Int} : zu_n z r v r = v := if_pos rfl
theorem zu_o {z : Nat → Int} {r i : Nat} {v : Int} (h : i ≠ r) : zu_n z r v i = z i := if_neg h
variable {h : ah_H} {m : Nat} {A : Nat × Nat × Nat} {D Z : Nat → Nat} {G : Nat → Int32} {B : Nat × Nat} {z : Nat → Int} {tl wl : Nat} {f : Nat → Nat} {g : Nat → Int32}
def rg_D (D Z : Nat → Nat) (G : Nat → Int32) (z : Nat → Int) : Prop := (∀ r, r < 12 → mz_D D Z G r (z r) ∧ (z r).natAbs < lim_N) ∧ mr_D D Z 12 lim_N
def mo_T (h : ah_H) (m : Nat) (A : Nat × Nat × Nat) (B : Nat × Nat) : Prop := (ah_R h 16 m = some B.1 ∧ ah_R h 17 m = some B.2) ∧ (ah_T h B.1 = 100 ∧ ah_T h B.2 = 100) ∧ (ah_N h B.1 = 2600 ∧ ah_N h B.2 = 2600) ∧ (B.1 ≠ A.1 ∧ B.1 ≠ A.2.1 ∧ B.1 ≠ A.2.2) ∧ (B.2 ≠ A.1 ∧ B.2 ≠ A.2.1 ∧ B.2 ≠ A.2.2) ∧ B.1 ≠ B.2
/-- the model's state: the registers, the tape, the text -/
def mo_S (h : ah_H) (m : Nat) (A : Nat × Nat × Nat) (B : Nat × Nat) (z : Nat → Int) (tl : Nat) (f : Nat → Nat) (wl : Nat) (g : Nat → Int32) : Prop :=
  mo_Q h m A ∧ mo_T h m A B ∧ (∃ (D Z : Nat → Nat) (G : Nat → Int32), h = mh_S h A D Z G ∧ rg_D D Z G z) ∧ (ah_I h 5 m = nI tl ∧ tl ≤ 2600 ∧ ∀ k, k < tl → ah_bI h B.1 k = nI (f k)) ∧ (ah_I h 6 m = nI wl ∧ wl ≤ 2600 ∧ ∀ i, i < wl → ah_bI h B.2 i = g i)
/-- what the model's calls leave as it was -/
def fm_S (m : Nat) (h h' : ah_H) : Prop := ah_T h' = ah_T h ∧ ah_N h' = ah_N h ∧ ah_L h' = ah_L h ∧ ah_R h' = ah_R h ∧ ah_bL h' = ah_bL h ∧ ah_bR h' = ah_bR h ∧ (∀ k a, a ≠ m → ah_I h' k a = ah_I h k a) ∧ (∀ a, ah_T h a ≠ 100 → ah_bI h' a = ah_bI h a)
theorem mh_o {a : Nat} (h1 : a ≠ A.1) (h2 : a ≠ A.2.1) (h3 : a ≠ A.2.2) : ah_bI (mh_S h A D Z G) a = ah_bI h a := by
  rw [mh_bI, va_up_ne _ _ h3, va_up_ne _ _ h2, va_up_ne _ _ h1]
theorem sI_T {k a : Nat} {v : Int32} : ah_T (ah_sI h k a v) = ah_T h := by unfold ah_sI ah_T; rfl
theorem sI_N {k a : Nat} {v : Int32} : ah_N (ah_sI h k a v) = ah_N h := by unfold ah_sI ah_N; rfl
theorem sI_I {k a : Nat} {v : Int32} : ah_I (ah_sI h k a v) = ah_u2 (ah_I h) k a v := by unfold ah_sI ah_I; rfl
theorem sI_L {k a : Nat} {v : Int32} : ah_L (ah_sI h k a v) = ah_L h := by unfold ah_sI ah_L; rfl
theorem sI_R {k a : Nat} {v : Int32} : ah_R (ah_sI h k a v) = ah_R h := by unfold ah_sI ah_R; rfl
theorem sI_bI {k a : Nat} {v : Int32} : ah_bI (ah_sI h k a v) = ah_bI h := by unfold ah_sI ah_bI; rfl
theorem sI_bL {k a : Nat} {v : Int32} : ah_bL (ah_sI h k a v) = ah_bL h := by unfold ah_sI ah_bL; rfl
theorem sI_bR {k a : Nat} {v : Int32} : ah_bR (ah_sI h k a v) = ah_bR h := by unfold ah_sI ah_bR; rfl
theorem sI_Q {k a : Nat} {v : Int32} (Q : mo_Q h m A) : mo_Q (ah_sI h k a v) m A := by
  unfold mo_Q at *
  rw [sI_T, sI_N, sI_R]; exact Q
theorem mh_sI {k a : Nat} {v : Int32} : ah_sI (mh_S h A D Z G) k a v = mh_S (ah_sI h k a v) A D Z G := by
  apply ah_ext
  · rw [sI_T, mh_T, mh_T, sI_T]
  · rw [sI_N, mh_N, mh_N, sI_N]
  · rw [sI_I, mh_I, mh_I, sI_I]
  · rw [sI_L, mh_L, mh_L, sI_L]
  · rw [sI_R, mh_R, mh_R, sI_R]
  · rw [sI_bI, mh_bI, mh_bI, sI_bI]
  · rw [sI_bL, mh_bL, mh_bL, sI_bL]
  · rw [sI_bR, mh_bR, mh_bR, sI_bR]
theorem sI_sI {k a : Nat} {v w : Int32} : ah_sI (ah_sI h k a v) k a w = ah_sI h k a w := by
  apply ah_ext
  · rw [sI_T, sI_T, sI_T]
  · rw [sI_N, sI_N, sI_N]
  · rw [sI_I, sI_I, sI_I, u2_uu]
  · rw [sI_L, sI_L, sI_L]
  · rw [sI_R, sI_R, sI_R]
  · rw [sI_bI, sI_bI, sI_bI]
  · rw [sI_bL, sI_bL, sI_bL]
  · rw [sI_bR, sI_bR, sI_bR]
theorem mo_fin (S : mo_S h m A B z tl f wl g) {D' Z' : Nat → Nat} {G' : Nat → Int32} {c : Int32} {z' : Nat → Int} (R : rg_D D' Z' G' z') : fm_S m h (mh_S (ah_sI h 4 m c) A D' Z' G') ∧ mo_S (mh_S (ah_sI h 4 m c) A D' Z' G') m A B z' tl f wl g ∧ ah_I (mh_S (ah_sI h 4 m c) A D' Z' G') 4 m = c := by
  obtain ⟨Q, T, _, H5, H6⟩ := S
  have i4 : ah_I (mh_S (ah_sI h 4 m c) A D' Z' G') = ah_u2 (ah_I h) 4 m c := by rw [mh_I, sI_I]
  have i5 : ∀ k, k ≠ 4 → ah_I (mh_S (ah_sI h 4 m c) A D' Z' G') k m = ah_I h k m := fun k hk => by rw [i4]; exact u2_k _ _ hk
  have b0 : ∀ a, a ≠ A.1 → a ≠ A.2.1 → a ≠ A.2.2 → ah_bI (mh_S (ah_sI h 4 m c) A D' Z' G') a = ah_bI h a := fun a e1 e2 e3 => by rw [mh_o e1 e2 e3, sI_bI]
  have b1 := b0 B.1 T.2.2.2.1.1 T.2.2.2.1.2.1 T.2.2.2.1.2.2
  have b2 := b0 B.2 T.2.2.2.2.1.1 T.2.2.2.2.1.2.1 T.2.2.2.2.1.2.2
  have Q0 : mo_Q (ah_sI h 4 m c) m A := sI_Q Q
  have T0 : mo_T (mh_S (ah_sI h 4 m c) A D' Z' G') m A B := by
    unfold mo_T at *
    rw [mh_R, mh_T, mh_N, sI_R, sI_T, sI_N]; exact T
  refine ⟨⟨by rw [mh_T, sI_T], by rw [mh_N, sI_N], by rw [mh_L, sI_L], by rw [mh_R, sI_R], by rw [mh_bL, sI_bL], by rw [mh_bR, sI_bR], fun k a ha => by rw [i4]; exact u2_a _ _ ha, fun a ha => b0 a (fun e => ha (e ▸ Q.2.2.1.1)) (fun e => ha (e ▸ Q.2.2.1.2.1)) (fun e => ha (e ▸ Q.2.2.1.2.2))⟩, ⟨mh_Q Q0, T0, ⟨D', Z', G', (mh_mh Q0).symm, R⟩, ⟨(i5 5 (by decide)).trans H5.1, H5.2.1, fun k hk => by rw [b1]; exact H5.2.2 k hk⟩, ⟨(i5 6 (by decide)).trans H6.1, H6.2.1, fun k hk => by rw [b2]; exact H6.2.2 k hk⟩⟩, by rw [i4]; exact u2_s _ _ _ _⟩
theorem rg_sz {r : Nat} (R : rg_D D Z G z) (hr : r < 12) : Z r ≤ 617 := mr_le (R.1 r hr).1.1 (Nat.lt_trans (R.1 r hr).2 lim_617)
theorem rg_u {r : Nat} {v : Int} {S : Nat → Prop} {D' Z' : Nat → Nat} {G' : Nat → Int32} (R : rg_D D Z G z) (a : mf_S S D Z G D' Z' G') (hS : ∀ x, x < 13 → x ≠ r → ¬ S x) (hr : r < 12) (M : mz_D D' Z' G' r v) (hv : v.natAbs < lim_N) : rg_D D' Z' G' (zu_n z r v) := by
  refine ⟨fun x hx => ?_, mf_mr a (by decide) (hS 12 (by decide) (by omega)) R.2⟩
  by_cases e : x = r
  · rw [e, zu_s]; exact ⟨M, hv⟩
  · rw [zu_o e]; exact ⟨mf_mz a (by omega) (hS x (by omega) e) (R.1 x hx).1, (R.1 x hx).2⟩
theorem rg_k {S : Nat → Prop} {D' Z' : Nat → Nat} {G' : Nat → Int32} (R : rg_D D Z G z) (a : mf_S S D Z G D' Z' G') (hS : ∀ x, x < 13 → ¬ S x) : rg_D D' Z' G' z :=
  ⟨fun x hx => ⟨mf_mz a (by omega) (hS x (by omega)) (R.1 x hx).1, (R.1 x hx).2⟩, mf_mr a (by decide) (hS 12 (by decide)) R.2⟩
/-- isNone, fails, in -/
theorem s_isNone {r : Int32} {K : Int32 → ah_H → Prop} (h0 : rk_n r < 12 → K 0 h) (h1 : ¬ rk_n r < 12 → K 1 h) : w_MO_isNone r h K := by
  by_cases e : rk_n r < 12
  · have := rk_ok e
    exact ⟨fun hc => absurd hc this.1, fun _ => ⟨fun _ => ⟨Or.inl rfl, h0 e⟩, fun hc => absurd this.2.1 hc⟩⟩
  · refine ⟨fun _ => ⟨Or.inr rfl, h1 e⟩, fun h2 => ⟨fun h3 => ?_, fun _ => ⟨Or.inr rfl, h1 e⟩⟩⟩
    rcases rk_no e with x | x
    · exact absurd x h2
    · exact absurd h3 x
theorem s_fails0 (hT : ah_T h m = 5) {c : Int32} {K : Int32 → ah_H → Prop} (hK : K 0 (ah_sI h 4 m 0)) : w_MO_fails m 0 c h K :=
  ⟨fun _ => ⟨hT, fun h10 e10 => ⟨Or.inl rfl, by rw [e10]; exact hK⟩⟩, fun hc => absurd rfl hc⟩
theorem s_fails1 (hT : ah_T h m = 5) {c : Int32} {K : Int32 → ah_H → Prop} (hK : K 1 (ah_sI h 4 m c)) : w_MO_fails m 1 c h K :=
  ⟨fun hc => absurd hc (by decide), fun _ => ⟨hT, fun h10 e10 => ⟨Or.inr rfl, by rw [e10]; exact hK⟩⟩⟩
theorem s_hd2 {a b : Int32} {F : Int32 → ah_H → Prop} (h0 : rk_n a < 12 → rk_n b < 12 → F 0 h) (h1 : ¬ (rk_n a < 12 ∧ rk_n b < 12) → F 1 h) : w_MO_isNone a h (fun r5 h4 => ah_m h h4 → (¬ r5 = 0 → F 1 h4) ∧ (r5 = 0 → w_MO_isNone b h4 (fun r35 h34 => ah_m h4 h34 → (r35 = 0 → F 0 h34) ∧ (¬ r35 = 0 → F 1 h34)))) := by
  refine s_isNone (fun e1 _ => ⟨fun hc => absurd rfl hc, fun _ => s_isNone (fun e2 _ => ⟨fun _ => h0 e1 e2, fun hc => absurd rfl hc⟩) (fun e2 _ => ⟨fun hc => absurd hc (by decide), fun _ => h1 (fun y => e2 y.2)⟩)⟩) (fun e1 _ => ⟨fun _ => h1 (fun y => e1 y.1), fun hc => absurd hc (by decide)⟩)
theorem s_hd3 {a b c : Int32} {F : Int32 → ah_H → Prop} (h0 : rk_n a < 12 → rk_n b < 12 → rk_n c < 12 → F 0 h) (h1 : ¬ (rk_n a < 12 ∧ rk_n b < 12 ∧ rk_n c < 12) → F 1 h) : w_MO_isNone a h (fun r6 h5 => ah_m h h5 → (¬ r6 = 0 → F 1 h5) ∧ (r6 = 0 → w_MO_isNone b h5 (fun r48 h47 => ah_m h5 h47 → (¬ r48 = 0 → F 1 h47) ∧ (r48 = 0 → w_MO_isNone c h47 (fun r52 h51 => ah_m h47 h51 → (r52 = 0 → F 0 h51) ∧ (¬ r52 = 0 → F 1 h51)))))) := by
  refine s_isNone (fun e1 _ => ⟨fun hc => absurd rfl hc, fun _ => s_hd2 (F := F) (fun e2 e3 => h0 e1 e2 e3) (fun y => h1 (fun x => y x.2))⟩) (fun e1 _ => ⟨fun _ => h1 (fun y => e1 y.1), fun hc => absurd hc (by decide)⟩)
/-- becomes(r) -/
theorem s_becomes (Q : mo_Q h m A) {r : Nat} {v : Int} (hr : r < 12) (E : mz_D D Z G 17 v) (L : mr_D D Z 12 lim_N) {K : Int32 → ah_H → Prop} (h0 : lim_N ≤ v.natAbs → K 0 (mh_S h A D Z G)) (h1 : ∀ (D' Z' : Nat → Nat) (G' : Nat → Int32), v.natAbs < lim_N → mf_S (· = r) D Z G D' Z' G' → mz_D D' Z' G' r v → K 1 (mh_S h A D' Z' G')) : w_MO_becomes m (nI r) (mh_S h A D Z G) K :=
  ⟨(mh_Q Q).1, s_against (x := 17) (y := 12) Q (by decide) (by decide) E.1 L (fun o ho _ => ⟨fun hl => z_copyRow (fr := 17) Q (by omega) (by decide) E.1 (fun D' Z' G' f' M g' _ => h1 D' Z' G' (or_neg ho hl) f' ⟨M, g'.trans E.2⟩), fun hl => h0 (or_nn ho hl)⟩)⟩
/-- the tail: becomes(r), and fails(.., 2) -/
theorem s_tail (S : mo_S h m A B z tl f wl g) {r : Nat} {v : Int} (hr : r < 12) (R : rg_D D Z G z) (E : mz_D D Z G 17 v) {K : ah_H → Prop} (hK : ∀ h', fm_S m h h' → mo_S h' m A B (if v.natAbs < lim_N then zu_n z r v else z) tl f wl g → ah_I h' 4 m = (if v.natAbs < lim_N then 0 else 2) → K h') :
    w_MO_becomes m (nI r) (mh_S (ah_sI h 4 m 0) A D Z G) (fun r34 h33 => ah_m (mh_S (ah_sI h 4 m 0) A D Z G) h33 → (¬ r34 = 0 → (ah_T h33 m = 5 ∧ w_MO_fails m 0 (2 : Int32) h33 (fun _ h43 => ah_m h33 h43 → K h43))) ∧ (r34 = 0 → (ah_T h33 m = 5 ∧ w_MO_fails m 1 (2 : Int32) h33 (fun _ h43 => ah_m h33 h43 → K h43)))) := by
  have Q := S.1
  refine s_becomes (h := ah_sI h 4 m 0) (sI_Q Q) hr E R.2 (fun hv _ => ⟨fun hc => absurd rfl hc, fun _ => ⟨(mh_Q (sI_Q Q)).1, s_fails1 (mh_Q (sI_Q Q)).1 (fun _ => ?_)⟩⟩) (fun D' Z' G' hv f' M _ => ⟨fun _ => ⟨(mh_Q (sI_Q Q)).1, s_fails0 (mh_Q (sI_Q Q)).1 (fun _ => ?_)⟩, fun hc => absurd hc (by decide)⟩)
  · rw [mh_sI, sI_sI]
    obtain ⟨a1, a2, a3⟩ := mo_fin S (c := 2) R
    refine hK _ a1 ?_ ?_
    · rw [if_neg (by omega)]; exact a2
    · rw [if_neg (by omega)]; exact a3
  · rw [mh_sI, sI_sI]
    obtain ⟨a1, a2, a3⟩ := mo_fin S (c := 0) (rg_u R f' (fun x _ hx => hx) hr M hv)
    refine hK _ a1 ?_ ?_
    · rw [if_pos hv]; exact a2
    · rw [if_pos hv]; exact a3
/-- what the calls are to do with the registers -/
def ps_set (z : Nat → Int) (r : Int32) (v : Int) : Nat × (Nat → Int) := if rk_n r < 12 then (0, zu_n z (rk_n r) v) else (1, z)
def ps_copy (z : Nat → Int) (r a : Int32) : Nat × (Nat → Int) := if rk_n r < 12 ∧ rk_n a < 12 then (0, zu_n z (rk_n r) (z (rk_n a))) else (1, z)
def ps_neg (z : Nat → Int) (r a : Int32) : Nat × (Nat → Int) := if rk_n r < 12 ∧ rk_n a < 12 then (0, zu_n z (rk_n r) (-z (rk_n a))) else (1, z)
def ps_op (F : Int → Int → Int) (z : Nat → Int) (r a b : Int32) : Nat × (Nat → Int) := if rk_n r < 12 ∧ rk_n a < 12 ∧ rk_n b < 12 then (if (F (z (rk_n a)) (z (rk_n b))).natAbs < lim_N then (0, zu_n z (rk_n r) (F (z (rk_n a)) (z (rk_n b)))) else (2, z)) else (1, z)
def ps_op1 (F : Int → Int) (z : Nat → Int) (r a : Int32) : Nat × (Nat → Int) := if rk_n r < 12 ∧ rk_n a < 12 then (if (F (z (rk_n a))).natAbs < lim_N then (0, zu_n z (rk_n r) (F (z (rk_n a)))) else (2, z)) else (1, z)
def po_S (h : ah_H) (m : Nat) (A : Nat × Nat × Nat) (B : Nat × Nat) (tl : Nat) (f : Nat → Nat) (wl : Nat) (g : Nat → Int32) (p : Nat × (Nat → Int)) (h' : ah_H) : Prop := fm_S m h h' ∧ mo_S h' m A B p.2 tl f wl g ∧ ah_I h' 4 m = nI p.1
theorem po_1 (S : mo_S h m A B z tl f wl g) {p : Nat × (Nat → Int)} (hp : p = (1, z)) : po_S h m A B tl f wl g p (ah_sI h 4 m 1) := by
  obtain ⟨D, Z, G, e, R⟩ := S.2.2.1
  have := mo_fin S (c := 1) R
  rw [← mh_sI, ← e] at this
  rw [hp]
  exact this
theorem mo_s0 (e : h = mh_S h A D Z G) {c : Int32} : ah_sI h 4 m c = mh_S (ah_sI h 4 m c) A D Z G := by
  rw [← mh_sI, ← e]
/-- set(r, v) -/
theorem q_set (S : mo_S h m A B z tl f wl g) {r : Int32} {v : Int64} {K : ah_H → Prop} (hK : ∀ h', po_S h m A B tl f wl g (ps_set z r v.toInt) h' → K h') : w_MO_set m r v h K := by
  have Q := S.1
  obtain ⟨D, Z, G, e, R⟩ := S.2.2.1
  refine s_isNone (fun hr _ => ⟨Q.1, s_fails0 Q.1 (fun _ => ⟨fun _ => ?_, fun hc => absurd rfl hc⟩)⟩) (fun hr _ => ⟨Q.1, s_fails1 Q.1 (fun _ => ⟨fun hc => absurd hc (by decide), fun _ => hK _ (po_1 S (if_neg hr))⟩)⟩)
  rw [mo_s0 e, (rk_ok hr).2.2]
  refine z_setRow (h := ah_sI h 4 m 0) (sI_Q Q) (by omega) (fun D' Z' G' f' M _ => hK _ ?_)
  have hv : v.toInt.natAbs < lim_N := by
    have h1 := v.toInt_lt
    have h2 := v.le_toInt
    have h3 : v.toInt.natAbs < 2 ^ 64 := by omega
    rw [lim_eq]
    exact Nat.lt_trans h3 (Nat.pow_lt_pow_right (by decide) (by decide))
  have := mo_fin S (c := 0) (rg_u R f' (fun x _ hx => hx) hr M hv)
  unfold po_S ps_set
  rw [if_pos hr]
  exact this
/-- copy(r, a) -/
theorem q_copy (S : mo_S h m A B z tl f wl g) {r a : Int32} {K : ah_H → Prop} (hK : ∀ h', po_S h m A B tl f wl g (ps_copy z r a) h' → K h') : w_MO_copy m r a h K := by
  have Q := S.1
  obtain ⟨D, Z, G, e, R⟩ := S.2.2.1
  refine s_hd2 (F := fun s h => bk_MO_copy_20 K m r a s m h) (fun hr ha => ⟨Q.1, s_fails0 Q.1 (fun _ => ⟨fun _ => ⟨(sI_Q Q).1, ?_⟩, fun hc => absurd rfl hc⟩)⟩) (fun hn => ⟨Q.1, s_fails1 Q.1 (fun _ => ⟨fun hc => absurd hc (by decide), fun _ => hK _ (po_1 S (if_neg hn))⟩)⟩)
  rw [mo_s0 e, (rk_ok hr).2.2, (rk_ok ha).2.2]
  refine z_copyRow (h := ah_sI h 4 m 0) (to := 13) (sI_Q Q) (by decide) (by omega) (R.1 _ ha).1.1 (fun D1 Z1 G1 f1 M1 g1 _ => z_copyRow (h := ah_sI h 4 m 0) (fr := 13) (sI_Q Q) (by omega) (by decide) M1 (fun D2 Z2 G2 f2 M2 g2 _ => hK _ ?_))
  have f3 : mf_S (fun x => x = rk_n r ∨ 13 ≤ x) D Z G D2 Z2 G2 := mf_tr (mf_mo f1 (fun x hx => Or.inr (by omega))) (mf_mo f2 (fun x hx => Or.inl hx))
  have := mo_fin S (c := 0) (rg_u R f3 (fun x hx hy hz => by rcases hz with y | y; exact hy y; omega) hr ⟨M2, g2.trans (g1.trans (R.1 _ ha).1.2)⟩ (R.1 _ ha).2)
  unfold po_S ps_copy
  rw [if_pos ⟨hr, ha⟩]
  exact this
theorem po_2 {p : Nat × (Nat → Int)} {h' : ah_H} {v : Int} {r : Nat} (hp : p = if v.natAbs < lim_N then (0, zu_n z r v) else (2, z)) (a1 : fm_S m h h') (a2 : mo_S h' m A B (if v.natAbs < lim_N then zu_n z r v else z) tl f wl g) (a3 : ah_I h' 4 m = (if v.natAbs < lim_N then 0 else 2)) : po_S h m A B tl f wl g p h' := by
  rw [hp]
  unfold po_S
  by_cases e : v.natAbs < lim_N
  · rw [if_pos e] at *
    exact ⟨a1, a2, a3⟩
  · rw [if_neg e] at *
    exact ⟨a1, a2, a3⟩
/-- add, subtract, multiply, times -/
theorem q_add (S : mo_S h m A B z tl f wl g) {r a b : Int32} {K : ah_H → Prop} (hK : ∀ h', po_S h m A B tl f wl g (ps_op (fun x y => x + y) z r a b) h' → K h') : w_MO_add m r a b h K := by
  have Q := S.1
  obtain ⟨D, Z, G, e, R⟩ := S.2.2.1
  refine s_hd3 (F := fun s h => bk_MO_add_27 K m r a b s m h) (fun hr ha hb => ⟨Q.1, s_fails0 Q.1 (fun _ => ⟨fun _ => ⟨(sI_Q Q).1, ?_⟩, fun hc => absurd rfl hc⟩)⟩) (fun hn => ⟨Q.1, s_fails1 Q.1 (fun _ => ⟨fun hc => absurd hc (by decide), fun _ => hK _ (po_1 S (if_neg hn))⟩)⟩)
  have za := rg_sz R ha
  have zb := rg_sz R hb
  rw [mo_s0 e, (rk_ok hr).2.2, (rk_ok ha).2.2, (rk_ok hb).2.2]
  refine s_summ (h := ah_sI h 4 m 0) (s := 1) (sI_Q Q) (by omega) (by omega) (Or.inl rfl) (R.1 _ ha).1 (R.1 _ hb).1 (by omega) (by omega) (fun D1 Z1 G1 f1 M1 _ => ?_)
  rw [Int.one_mul] at M1
  refine s_tail S hr (rg_k R f1 (fun x hx hy => by omega)) M1 (fun h' a1 a2 a3 => hK h' (po_2 ?_ a1 a2 a3))
  unfold ps_op
  rw [if_pos ⟨hr, ha, hb⟩]
theorem q_subtract (S : mo_S h m A B z tl f wl g) {r a b : Int32} {K : ah_H → Prop} (hK : ∀ h', po_S h m A B tl f wl g (ps_op (fun x y => x - y) z r a b) h' → K h') : w_MO_subtract m r a b h K := by
  have Q := S.1
  obtain ⟨D, Z, G, e, R⟩ := S.2.2.1
  refine s_hd3 (F := fun s h => bk_MO_subtract_27 K m r a b s m h) (fun hr ha hb => ⟨Q.1, s_fails0 Q.1 (fun _ => ⟨fun _ => ⟨(sI_Q Q).1, ?_⟩, fun hc => absurd rfl hc⟩)⟩) (fun hn => ⟨Q.1, s_fails1 Q.1 (fun _ => ⟨fun hc => absurd hc (by decide), fun _ => hK _ (po_1 S (if_neg hn))⟩)⟩)
  have za := rg_sz R ha
  have zb := rg_sz R hb
  rw [mo_s0 e, (rk_ok hr).2.2, (rk_ok ha).2.2, (rk_ok hb).2.2]
  refine s_summ (h := ah_sI h 4 m 0) (s := -1) (sI_Q Q) (by omega) (by omega) (Or.inr rfl) (R.1 _ ha).1 (R.1 _ hb).1 (by omega) (by omega) (fun D1 Z1 G1 f1 M1 _ => ?_)
  rw [Int.neg_mul, Int.one_mul, ← Int.sub_eq_add_neg] at M1
  refine s_tail S hr (rg_k R f1 (fun x hx hy => by omega)) M1 (fun h' a1 a2 a3 => hK h' (po_2 ?_ a1 a2 a3))
  unfold ps_op
  rw [if_pos ⟨hr, ha, hb⟩]
theorem q_multiply (S : mo_S h m A B z tl f wl g) {r a b : Int32} {K : ah_H → Prop} (hK : ∀ h', po_S h m A B tl f wl g (ps_op (fun x y => x * y) z r a b) h' → K h') : w_MO_multiply m r a b h K := by
  have Q := S.1
  obtain ⟨D, Z, G, e, R⟩ := S.2.2.1
  refine s_hd3 (F := fun s h => bk_MO_multiply_27 K m r a b s m h) (fun hr ha hb => ⟨Q.1, s_fails0 Q.1 (fun _ => ⟨fun _ => ⟨(sI_Q Q).1, ?_⟩, fun hc => absurd rfl hc⟩)⟩) (fun hn => ⟨Q.1, s_fails1 Q.1 (fun _ => ⟨fun hc => absurd hc (by decide), fun _ => hK _ (po_1 S (if_neg hn))⟩)⟩)
  have za := rg_sz R ha
  have zb := rg_sz R hb
  rw [mo_s0 e, (rk_ok hr).2.2, (rk_ok ha).2.2, (rk_ok hb).2.2]
  refine s_product_m (h := ah_sI h 4 m 0) (sI_Q Q) (by omega) (by omega) (R.1 _ ha).1 (R.1 _ hb).1 (by omega) (fun D1 Z1 G1 f1 M1 _ => ?_)
  refine s_tail S hr (rg_k R f1 (fun x hx hy => by omega)) M1 (fun h' a1 a2 a3 => hK h' (po_2 ?_ a1 a2 a3))
  unfold ps_op
  rw [if_pos ⟨hr, ha, hb⟩]
theorem q_times (S : mo_S h m A B z tl f wl g) {r a : Int32} {v : Int64} {K : ah_H → Prop} (hK : ∀ h', po_S h m A B tl f wl g (ps_op1 (fun x => x * v.toInt) z r a) h' → K h') : w_MO_times m r a v h K := by
  have Q := S.1
  obtain ⟨D, Z, G, e, R⟩ := S.2.2.1
  refine s_hd2 (F := fun s h => bk_MO_times_20 K m r a v s m h) (fun hr ha => ⟨Q.1, s_fails0 Q.1 (fun _ => ⟨fun _ => ⟨(sI_Q Q).1, ?_⟩, fun hc => absurd rfl hc⟩)⟩) (fun hn => ⟨Q.1, s_fails1 Q.1 (fun _ => ⟨fun hc => absurd hc (by decide), fun _ => hK _ (po_1 S (if_neg hn))⟩)⟩)
  rw [mo_s0 e, (rk_ok hr).2.2, (rk_ok ha).2.2]
  refine z_setRow (h := ah_sI h 4 m 0) (r := 13) (sI_Q Q) (by decide) (fun D1 Z1 G1 f1 M1 _ => ?_)
  have R1 : rg_D D1 Z1 G1 z := rg_k R f1 (fun x hx hy => by omega)
  have za := rg_sz R1 ha
  have zb : Z1 13 ≤ 617 := mr_le M1.1 (Nat.lt_trans (i64_lim v) lim_617)
  refine s_product_m (h := ah_sI h 4 m 0) (y := 13) (sI_Q Q) (by omega) (by decide) (R1.1 _ ha).1 M1 (by omega) (fun D2 Z2 G2 f2 M2 _ => ?_)
  refine s_tail S hr (rg_k R1 f2 (fun x hx hy => by omega)) M2 (fun h' a1 a2 a3 => hK h' (po_2 ?_ a1 a2 a3))
  unfold ps_op1
  rw [if_pos ⟨hr, ha⟩]
/-- negate(r, a) -/
theorem sI_ng (x : Int) : -sI_n x = sI_n (-x) := by
  rcases Int.lt_trichotomy x 0 with a | a | a
  · rw [sI_m.mpr a, sI_p.mpr (by omega)]; decide
  · rw [a]; decide
  · rw [sI_p.mpr a, sI_m.mpr (by omega)]
theorem q_negate (S : mo_S h m A B z tl f wl g) {r a : Int32} {K : ah_H → Prop} (hK : ∀ h', po_S h m A B tl f wl g (ps_neg z r a) h' → K h') : w_MO_negate m r a h K := by
  have Q := S.1
  obtain ⟨D, Z, G, e, R⟩ := S.2.2.1
  refine s_hd2 (F := fun s h => bk_MO_negate_20 K m r a s m h) (fun hr ha => ⟨Q.1, s_fails0 Q.1 (fun _ => ⟨fun _ => ⟨(sI_Q Q).1, ?_⟩, fun hc => absurd rfl hc⟩)⟩) (fun hn => ⟨Q.1, s_fails1 Q.1 (fun _ => ⟨fun hc => absurd hc (by decide), fun _ => hK _ (po_1 S (if_neg hn))⟩)⟩)
  rw [mo_s0 e, (rk_ok hr).2.2, (rk_ok ha).2.2]
  refine z_copyRow (h := ah_sI h 4 m 0) (to := 13) (sI_Q Q) (by decide) (by omega) (R.1 _ ha).1.1 (fun D1 Z1 G1 f1 M1 g1 _ => ⟨A.2.2, (mh_Q (sI_Q Q)).2.1.2.2, A.2.2, (mh_Q (sI_Q Q)).2.1.2.2, (mh_Q (sI_Q Q)).2.2.1.2.2, in_g (i := 13) (h := ah_sI h 4 m 0) (sI_Q Q) (by decide), fun v36 e36 => ⟨(mh_Q (sI_Q Q)).2.2.1.2.2, in_g (i := 13) (h := ah_sI h 4 m 0) (sI_Q Q) (by decide), fun h39 e39 => ?_⟩⟩)
  rw [show (13 : Int32) = nI 13 from rfl, gg_k (h := ah_sI h 4 m 0) (sI_Q Q) (by decide), g1, (R.1 _ ha).1.2, sI_ng] at e36
  rw [e36, show (13 : Int32).toNatClampNeg = 13 from rfl, mw_g] at e39
  rw [e39]
  refine z_copyRow (h := ah_sI h 4 m 0) (fr := 13) (sI_Q Q) (by omega) (by decide) M1 (fun D2 Z2 G2 f2 M2 g2 _ => hK _ ?_)
  have f3 : mf_S (fun x => x = rk_n r ∨ 13 ≤ x) D Z G D2 Z2 G2 := mf_tr (mf_mo f1 (fun x hx => Or.inr (by omega))) (mf_tr (D' := D1) (Z' := Z1) (G' := upd G1 13 (sI_n (-z (rk_n a)))) (fun x _ hx => ⟨rfl, pk_un (fun y => hx (Or.inr (by omega))), fun _ _ => rfl⟩) (mf_mo f2 (fun x hx => Or.inl hx)))
  have hna : (-z (rk_n a)).natAbs = (z (rk_n a)).natAbs := Int.natAbs_neg _
  have := mo_fin S (c := 0) (rg_u (v := -z (rk_n a)) R f3 (fun x hx hy hz => by rcases hz with y | y; exact hy y; omega) hr ⟨by rw [hna]; exact M2, g2.trans pk_us⟩ (by rw [hna]; exact (R.1 _ ha).2))
  unfold po_S ps_neg
  rw [if_pos ⟨hr, ha⟩]
  exact this
end MO7
