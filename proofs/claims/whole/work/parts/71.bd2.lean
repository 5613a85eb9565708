section BD2
variable {h h' h'' : ah_H} {x : Nat} {W q : Nat → Nat} {C : Nat × Nat × Nat × Nat × Nat} {z z' : Nat → Int} {tl wl : Nat} {f : Nat → Nat} {g : Nat → Int32} {I : Nat → Prop}
theorem fx_rf : fx_S h h := ⟨rfl, rfl, fun _ _ => rfl, fun _ _ _ => ⟨rfl, rfl⟩⟩
theorem fx_tr (a : fx_S h h') (b : fx_S h' h'') : fx_S h h'' :=
  ⟨b.1.trans a.1, b.2.1.trans a.2.1, fun y hy => (b.2.2.1 y (by rw [a.1]; exact hy)).trans (a.2.2.1 y hy), fun k y hy => ⟨(b.2.2.2 k y (by rw [a.1]; exact hy)).1.trans (a.2.2.2 k y hy).1, (b.2.2.2 k y (by rw [a.1]; exact hy)).2.trans (a.2.2.2 k y hy).2⟩⟩
/-- made, small or a row of the division anew -/
theorem dk_wd (D : dk_S h x W q C z tl f wl g) {i n : Nat} {b : Bool} {d : Nat → Nat} (h1 : 12 ≤ i) (h2 : i < 19) (CM : cn_D d n) : dk_S (wd_S h (W i) (q i) n b d) x W q C z tl f wl g ∧ fx_S h (wd_S h (W i) (q i) n b d) := by
  have F : fr_S (ix_S W (· = i)) (ix_S q (· = i)) h (wd_S h (W i) (q i) n b d) := fr_wd (ix_i h2 rfl) (ix_i h2 rfl)
  refine dk_fr D F (fun j a e => by omega) (fun j _ _ e => ?_) (fun _ _ _ => rfl)
  subst e
  exact ⟨n, b, d, wh_wd (D.1.2.2.2.2.2.2.2.2.1 j h2), CM⟩
/-- a register anew -/
theorem dk_wr (D : dk_S h x W q C z tl f wl g) {r n : Nat} {b : Bool} {d : Nat → Nat} (hr : r < 12) (CM : cn_D d n) (hb : b = true → n ≠ 0) (hv : dg_v 4294967296 d n < lim_N) : dk_S (wd_S h (W r) (q r) n b d) x W q C (zu_n z r (sg_Z b (dg_v 4294967296 d n))) tl f wl g ∧ fx_S h (wd_S h (W r) (q r) n b d) := by
  have F : fr_S (ix_S W (· = r)) (ix_S q (· = r)) h (wd_S h (W r) (q r) n b d) := fr_wd (ix_i (by omega) rfl) (ix_i (by omega) rfl)
  refine dk_fr D F (fun i _ e => ?_) (fun i a _ e => by omega) (fun i _ e => zu_o e)
  subst e
  rw [zu_s]
  exact ⟨⟨n, b, d, wh_wd (D.1.2.2.2.2.2.2.2.2.1 i (by omega)), CM, hb, rfl⟩, by rw [sg_na]; exact hv⟩
theorem p_set (D : dk_S h x W q C z tl f wl g) {r : Int32} {v : Int64} {K : Int32 → ah_H → Prop} (hK : ∀ h', fx_S h h' → dk_S h' x W q C (ps_set z r v.toInt).2 tl f wl g → K (nI (ps_set z r v.toInt).1) h') : w_LW_set x r v h K := by
  have Q := D.1
  unfold ps_set at hK
  refine ⟨Q.1, Q.1, s_register Q (fun hr _ => ?_) (fun hr => by
    repeat intro _
    rw [if_neg hr] at hK
    exact ⟨rfl, hK h fx_rf D⟩)⟩
  rw [if_pos hr] at hK
  obtain ⟨n, b, d, R1, R2, _⟩ := (D.2.1.2.1 _ hr).1
  refine ⟨R1.1.1, s_becomeLong R1 R2.2.2.2 R2.1 R2.2.1 (fun n' d' b' C' hb' hv _ _ => ?_)⟩
  have hl := i64_lim v
  rw [← hv, sg_na] at hl
  obtain ⟨e1, e2⟩ := dk_wr D hr C' hb' hl
  rw [hv] at e1
  exact hK _ e2 e1
theorem p_copy (D : dk_S h x W q C z tl f wl g) {r a : Int32} {K : Int32 → ah_H → Prop} (hK : ∀ h', fx_S h h' → dk_S h' x W q C (ps_copy z r a).2 tl f wl g → K (nI (ps_copy z r a).1) h') : w_LW_copy x r a h K := by
  have Q := D.1
  unfold ps_copy at hK
  have no : ¬ (rk_n r < 12 ∧ rk_n a < 12) → K 1 h := fun hn => by
    rw [if_neg hn] at hK
    exact hK h fx_rf D
  refine ⟨Q.1, Q.1, s_register Q (fun hr _ => s_register Q (fun ha _ => ?_) (fun ha => by
    repeat intro _
    exact ⟨rfl, no (fun y => ha y.2)⟩)) (fun hr => by
    repeat intro _
    exact ⟨rfl, no (fun y => hr y.1)⟩)⟩
  rw [if_pos ⟨hr, ha⟩] at hK
  obtain ⟨n, b, d, R1, R2, _⟩ := (D.2.1.2.1 _ hr).1
  obtain ⟨⟨na, ba, da, A1, A2, A3, A4⟩, la⟩ := D.2.1.2.1 _ ha
  refine ⟨R1.1.1, s_become R1 A1 (cn_258 R2) (cn_258 A2) (fun _ _ => ?_)⟩
  rw [A4, sg_na] at la
  obtain ⟨e1, e2⟩ := dk_wr D hr A2 A3 la
  rw [← A4] at e1
  exact hK _ e2 e1
/-- behind the operation: keepMade, as the law sees it -/
theorem p_keep (D : dk_S h x W q C z tl f wl g) {r : Nat} (hr : r < 12) {h1 : ah_H} (D1 : dk_S h1 x W q C z tl f wl g) (F1 : fx_S h h1) {n : Nat} {b : Bool} {d : Nat → Nat} (M : wh_S h1 (W 12) (q 12) n b d) (CM : cn_D d n) (hb : b = true → n ≠ 0) {v : Int} (hv : sg_Z b (dg_v 4294967296 d n) = v) {p : Nat × (Nat → Int)} (hp : p = if v.natAbs < lim_N then (0, zu_n z r v) else (2, z)) {K : Int32 → ah_H → Prop} (hK : ∀ h', fx_S h h' → dk_S h' x W q C p.2 tl f wl g → K (nI p.1) h') {Kb : ah_H → Prop} {Ex : String → ah_H → Prop} (k0 : ∀ h', K 0 h' → Kb h') (k2 : ∀ h', K 2 h' → Ex "java/lang/IllegalStateException" h') : w_BD_keepMade x (W r) h1 Kb Ex := by
  have hn : v.natAbs = dg_v 4294967296 d n := by rw [← hv, sg_na]
  refine s_keepMade D1 hr M CM hb (fun hl h2 D2 F2 => k0 _ ?_) (fun hl => k2 _ ?_)
  · rw [← hn] at hl
    rw [hp, if_pos hl] at hK
    rw [hv] at D2
    exact hK h2 (fx_tr F1 F2) D2
  · rw [← hn] at hl
    rw [hp, if_neg (by omega)] at hK
    exact hK h1 F1 D1
theorem p_add (D : dk_S h x W q C z tl f wl g) {r a b : Int32} {K : Int32 → ah_H → Prop} (hK : ∀ h', fx_S h h' → dk_S h' x W q C (ps_op (fun x y => x + y) z r a b).2 tl f wl g → K (nI (ps_op (fun x y => x + y) z r a b).1) h') : w_LW_add x r a b h K := by
  have Q := D.1
  have no : ¬ (rk_n r < 12 ∧ rk_n a < 12 ∧ rk_n b < 12) → K 1 h := fun hn => by
    unfold ps_op at hK
    rw [if_neg hn] at hK
    exact hK h fx_rf D
  refine ⟨Q.1, Q.1, s_register Q (fun hr _ => ⟨W 12, Q.2.1.2.1, s_register Q (fun ha _ => s_register Q (fun hb _ => ?_) (fun hb => by
    repeat intro _
    exact Or.inl ⟨rfl, no (fun y => hb y.2.2)⟩)) (fun ha => by
    repeat intro _
    exact Or.inl ⟨rfl, no (fun y => ha y.2.1)⟩)⟩) (fun hr => by
    repeat intro _
    exact Or.inl ⟨rfl, no (fun y => hr y.1)⟩)⟩
  obtain ⟨⟨na, ga, da, A1, A2, A3, A4⟩, la⟩ := D.2.1.2.1 _ ha
  obtain ⟨⟨nb, gb, db, B1, B2, B3, B4⟩, lb⟩ := D.2.1.2.1 _ hb
  obtain ⟨nm, gm, dm, M1, M2⟩ := D.2.1.2.2 12 (by decide) (by decide)
  rw [A4, sg_na] at la
  rw [B4, sg_na] at lb
  have sa := ho_256 A2 la
  have sb := ho_256 B2 lb
  refine s_total M1 M2 A1 A2 B1 B2 (by omega) (by omega) (dk_ne Q (by omega) (by decide) (by omega)) (dk_ne Q (by omega) (by decide) (by omega)) false (fun n' g' d' C' hg' hv _ => ?_)
  rw [if_neg Bool.false_ne_true, ← A4, ← B4] at hv
  obtain ⟨D1, F1⟩ := dk_wd D (i := 12) (b := g') (by decide) (by decide) C'
  refine p_keep D hr D1 F1 (wh_wd M1.1) C' hg' hv ?_ hK (fun h' k _ _ => k) (fun h' k _ _ => Or.inr ⟨rfl, k⟩)
  unfold ps_op
  rw [if_pos ⟨hr, ha, hb⟩]
theorem p_subtract (D : dk_S h x W q C z tl f wl g) {r a b : Int32} {K : Int32 → ah_H → Prop} (hK : ∀ h', fx_S h h' → dk_S h' x W q C (ps_op (fun x y => x - y) z r a b).2 tl f wl g → K (nI (ps_op (fun x y => x - y) z r a b).1) h') : w_LW_subtract x r a b h K := by
  have Q := D.1
  have no : ¬ (rk_n r < 12 ∧ rk_n a < 12 ∧ rk_n b < 12) → K 1 h := fun hn => by
    unfold ps_op at hK
    rw [if_neg hn] at hK
    exact hK h fx_rf D
  refine ⟨Q.1, Q.1, s_register Q (fun hr _ => ⟨W 12, Q.2.1.2.1, s_register Q (fun ha _ => s_register Q (fun hb _ => ?_) (fun hb => by
    repeat intro _
    exact Or.inl ⟨rfl, no (fun y => hb y.2.2)⟩)) (fun ha => by
    repeat intro _
    exact Or.inl ⟨rfl, no (fun y => ha y.2.1)⟩)⟩) (fun hr => by
    repeat intro _
    exact Or.inl ⟨rfl, no (fun y => hr y.1)⟩)⟩
  obtain ⟨⟨na, ga, da, A1, A2, A3, A4⟩, la⟩ := D.2.1.2.1 _ ha
  obtain ⟨⟨nb, gb, db, B1, B2, B3, B4⟩, lb⟩ := D.2.1.2.1 _ hb
  obtain ⟨nm, gm, dm, M1, M2⟩ := D.2.1.2.2 12 (by decide) (by decide)
  rw [A4, sg_na] at la
  rw [B4, sg_na] at lb
  have sa := ho_256 A2 la
  have sb := ho_256 B2 lb
  refine s_total M1 M2 A1 A2 B1 B2 (by omega) (by omega) (dk_ne Q (by omega) (by decide) (by omega)) (dk_ne Q (by omega) (by decide) (by omega)) true (fun n' g' d' C' hg' hv _ => ?_)
  rw [if_pos rfl, ← A4, ← B4, ← Int.sub_eq_add_neg] at hv
  obtain ⟨D1, F1⟩ := dk_wd D (i := 12) (b := g') (by decide) (by decide) C'
  refine p_keep D hr D1 F1 (wh_wd M1.1) C' hg' hv ?_ hK (fun h' k _ _ => k) (fun h' k _ _ => Or.inr ⟨rfl, k⟩)
  unfold ps_op
  rw [if_pos ⟨hr, ha, hb⟩]
theorem pr_big {da db : Nat → Nat} {na nb : Nat} (A : cn_D da na) (B : cn_D db nb) (h : 258 < na + nb) (ha : na ≤ 256) (hb : nb ≤ 256) : lim_N ≤ dg_v 4294967296 da na * dg_v 4294967296 db nb := by
  have h1 := cn_ge A (by omega)
  have h2 := cn_ge B (by omega)
  have h3 : (4294967296 : Nat) ^ (na - 1) * 4294967296 ^ (nb - 1) ≤ dg_v 4294967296 da na * dg_v 4294967296 db nb := Nat.mul_le_mul h1 h2
  rw [← Nat.pow_add] at h3
  rw [lim_256]
  exact Nat.le_trans (Nat.pow_le_pow_right (by decide) (by omega)) h3
/-- keepProduct, as the law sees it -/
theorem p_prod (D : dk_S h x W q C z tl f wl g) {r : Nat} (hr : r < 12) {h1 : ah_H} (D1 : dk_S h1 x W q C z tl f wl g) (F1 : fx_S h h1) {i j : Nat} (hi : i < 19) (hj : j < 19) (ni : i ≠ 12) (nj : j ≠ 12) {u v : Int} (A : ho_W h1 (W i) (q i) u) (B : ho_W h1 (W j) (q j) v) (lu : u.natAbs < lim_N) (lv : v.natAbs < lim_N) {p : Nat × (Nat → Int)} (hp : p = if (u * v).natAbs < lim_N then (0, zu_n z r (u * v)) else (2, z)) {K : Int32 → ah_H → Prop} (hK : ∀ h', fx_S h h' → dk_S h' x W q C p.2 tl f wl g → K (nI p.1) h') {Kb : ah_H → Prop} {Ex : String → ah_H → Prop} (k0 : ∀ h', K 0 h' → Kb h') (k2 : ∀ h', K 2 h' → Ex "java/lang/IllegalStateException" h') : w_BD_keepProduct x (W r) (W i) (W j) h1 Kb Ex := by
  have Q := D1.1
  obtain ⟨na, ga, da, A1, A2, A3, A4⟩ := A
  obtain ⟨nb, gb, db, B1, B2, B3, B4⟩ := B
  obtain ⟨nm, gm, dm, M1, M2⟩ := D1.2.1.2.2 12 (by decide) (by decide)
  rw [A4, sg_na] at lu
  rw [B4, sg_na] at lv
  have sa := ho_256 A2 lu
  have sb := ho_256 B2 lv
  refine ⟨Q.1, W 12, Q.2.1.2.1, s_product M1 M2 A1 A2 B1 B2 sa sb (dk_ne Q hi (by decide) ni) (dk_ne Q hj (by decide) nj) (fun hno _ => ⟨fun hc => absurd rfl hc, fun _ => k2 _ ?_⟩) (fun n' g' d' C' hg' hv _ => ⟨fun _ => ?_, fun hc => absurd hc (by decide)⟩)⟩
  · have hbig := pr_big A2 B2 hno sa sb
    have e1 : (u * v).natAbs = dg_v 4294967296 da na * dg_v 4294967296 db nb := by rw [Int.natAbs_mul, A4, B4, sg_na, sg_na]
    rw [hp, if_neg (by omega)] at hK
    exact hK h1 F1 D1
  · rw [← A4, ← B4] at hv
    obtain ⟨D2, F2⟩ := dk_wd D1 (i := 12) (b := g') (by decide) (by decide) C'
    exact p_keep D hr D2 (fx_tr F1 F2) (wh_wd M1.1) C' hg' hv hp hK (fun h' k _ => k0 h' k) (fun h' k _ => k2 h' k)
theorem p_multiply (D : dk_S h x W q C z tl f wl g) {r a b : Int32} {K : Int32 → ah_H → Prop} (hK : ∀ h', fx_S h h' → dk_S h' x W q C (ps_op (fun x y => x * y) z r a b).2 tl f wl g → K (nI (ps_op (fun x y => x * y) z r a b).1) h') : w_LW_multiply x r a b h K := by
  have Q := D.1
  have no : ¬ (rk_n r < 12 ∧ rk_n a < 12 ∧ rk_n b < 12) → K 1 h := fun hn => by
    unfold ps_op at hK
    rw [if_neg hn] at hK
    exact hK h fx_rf D
  refine ⟨Q.1, Q.1, s_register Q (fun hr _ => s_register Q (fun ha _ => s_register Q (fun hb _ => ?_) (fun hb => by
    repeat intro _
    exact Or.inl ⟨rfl, no (fun y => hb y.2.2)⟩)) (fun ha => by
    repeat intro _
    exact Or.inl ⟨rfl, no (fun y => ha y.2.1)⟩)) (fun hr => by
    repeat intro _
    exact Or.inl ⟨rfl, no (fun y => hr y.1)⟩)⟩
  refine p_prod D hr D fx_rf (by omega) (by omega) (by omega) (by omega) (D.2.1.2.1 _ ha).1 (D.2.1.2.1 _ hb).1 (D.2.1.2.1 _ ha).2 (D.2.1.2.1 _ hb).2 ?_ hK (fun h' k _ _ => k) (fun h' k _ _ => Or.inr ⟨rfl, k⟩)
  unfold ps_op
  rw [if_pos ⟨hr, ha, hb⟩]
theorem p_times (D : dk_S h x W q C z tl f wl g) {r a : Int32} {v : Int64} {K : Int32 → ah_H → Prop} (hK : ∀ h', fx_S h h' → dk_S h' x W q C (ps_op1 (fun x => x * v.toInt) z r a).2 tl f wl g → K (nI (ps_op1 (fun x => x * v.toInt) z r a).1) h') : w_LW_times x r a v h K := by
  have Q := D.1
  have no : ¬ (rk_n r < 12 ∧ rk_n a < 12) → K 1 h := fun hn => by
    unfold ps_op1 at hK
    rw [if_neg hn] at hK
    exact hK h fx_rf D
  refine ⟨Q.1, Q.1, s_register Q (fun hr _ => s_register Q (fun ha _ => ?_) (fun ha => by
    repeat intro _
    exact Or.inl ⟨rfl, no (fun y => ha y.2)⟩)) (fun hr => by
    repeat intro _
    exact Or.inl ⟨rfl, no (fun y => hr y.1)⟩)⟩
  obtain ⟨n, b, d, R1, R2⟩ := D.2.1.2.2 13 (by decide) (by decide)
  refine ⟨W 13, Q.2.1.2.2.1, R1.1.1, s_becomeLong R1 R2.2.2.2 R2.1 R2.2.1 (fun n' d' b' C' hb' hv _ => ⟨W 13, Q.2.1.2.2.1, ?_⟩)⟩
  obtain ⟨D1, F1⟩ := dk_wd D (i := 13) (b := b') (by decide) (by decide) C'
  have hs : ho_W (wd_S h (W 13) (q 13) n' b' d') (W 13) (q 13) v.toInt := ⟨n', b', d', wh_wd R1.1, C', hb', hv.symm⟩
  refine p_prod D hr D1 F1 (by omega) (by decide) (by omega) (by decide) (D1.2.1.2.1 _ ha).1 hs (D.2.1.2.1 _ ha).2 (i64_lim v) ?_ hK (fun h' k _ _ => k) (fun h' k _ _ => Or.inr ⟨rfl, k⟩)
  unfold ps_op1
  rw [if_pos ⟨hr, ha⟩]
theorem p_negate (D : dk_S h x W q C z tl f wl g) {r a : Int32} {K : Int32 → ah_H → Prop} (hK : ∀ h', fx_S h h' → dk_S h' x W q C (ps_neg z r a).2 tl f wl g → K (nI (ps_neg z r a).1) h') : w_LW_negate x r a h K := by
  have Q := D.1
  unfold ps_neg at hK
  have no : ¬ (rk_n r < 12 ∧ rk_n a < 12) → K 1 h := fun hn => by
    rw [if_neg hn] at hK
    exact hK h fx_rf D
  refine ⟨Q.1, Q.1, s_register Q (fun hr _ => s_register Q (fun ha _ => ?_) (fun ha => by
    repeat intro _
    exact ⟨rfl, no (fun y => ha y.2)⟩)) (fun hr => by
    repeat intro _
    exact ⟨rfl, no (fun y => hr y.1)⟩)⟩
  rw [if_pos ⟨hr, ha⟩] at hK
  obtain ⟨n, b, d, R1, R2, _⟩ := (D.2.1.2.1 _ hr).1
  obtain ⟨⟨na, ba, da, A1, A2, A3, A4⟩, la⟩ := D.2.1.2.1 _ ha
  rw [A4, sg_na] at la
  have go : ∀ s : Bool, s = !ba → bk_BD_negate_26 (fun h5 => ah_m h h5 → K 0 h5) (fun E6 h7 => ah_m h h7 → (E6 = "java/lang/IllegalArgumentException" ∧ K 1 h7)) (W (rk_n r)) (W (rk_n a)) (bi_n s) h := by
    intro s hs
    refine ⟨R1.1.1, s_become R1 A1 (cn_258 R2) (cn_258 A2) (fun _ => s_markSign (wh_wd R1.1) A2.2.2.2 s (fun _ _ => ?_))⟩
    rw [wd_wd]
    obtain ⟨e1, e2⟩ := dk_wr D hr A2 (b := s && decide (0 < na)) ms_g la
    have ev : sg_Z (s && decide (0 < na)) (dg_v 4294967296 da na) = -z (rk_n a) := by
      rw [sg_b (cn_0 A2), hs, A4]
      cases ba
      · rfl
      · show (_ : Int) = - -_
        rw [Int.neg_neg]; rfl
    rw [ev] at e1
    exact hK _ e2 e1
  refine ⟨A1.1.1, fun hc => go false ?_, fun hc => go true ?_⟩
  · rw [A1.2.2.1] at hc
    cases ba
    · exact absurd rfl hc
    · rfl
  · rw [A1.2.2.1] at hc
    rw [bi_0.mp hc]; rfl
end BD2
