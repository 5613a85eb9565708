section CD2
variable {h : ah_H}
/-- the four factors laid down -/
def fc_S (h : ah_H) (cd : Nat) (a b c d : Int64) : ah_H := ah_sL (ah_sL (ah_sL (ah_sL h 0 cd a) 1 cd b) 2 cd c) 3 cd d
theorem fc_0 {cd : Nat} {a b c d : Int64} : ah_L (fc_S h cd a b c d) 0 cd = a := by
  show ah_u2 (ah_u2 (ah_u2 (ah_u2 (ah_L h) 0 cd a) 1 cd b) 2 cd c) 3 cd d 0 cd = a
  rw [u2_k _ _ (by decide), u2_k _ _ (by decide), u2_k _ _ (by decide), u2_s]
theorem fc_1 {cd : Nat} {a b c d : Int64} : ah_L (fc_S h cd a b c d) 1 cd = b := by
  show ah_u2 (ah_u2 (ah_u2 (ah_u2 (ah_L h) 0 cd a) 1 cd b) 2 cd c) 3 cd d 1 cd = b
  rw [u2_k _ _ (by decide), u2_k _ _ (by decide), u2_s]
theorem fc_2 {cd : Nat} {a b c d : Int64} : ah_L (fc_S h cd a b c d) 2 cd = c := by
  show ah_u2 (ah_u2 (ah_u2 (ah_u2 (ah_L h) 0 cd a) 1 cd b) 2 cd c) 3 cd d 2 cd = c
  rw [u2_k _ _ (by decide), u2_s]
theorem fc_3 {cd : Nat} {a b c d : Int64} : ah_L (fc_S h cd a b c d) 3 cd = d := u2_s _ _ _ _
theorem fc_a {cd k x : Nat} {a b c d : Int64} (hx : x ≠ cd) : ah_L (fc_S h cd a b c d) k x = ah_L h k x := by
  show ah_u2 (ah_u2 (ah_u2 (ah_u2 (ah_L h) 0 cd a) 1 cd b) 2 cd c) 3 cd d k x = _
  rw [u2_a _ _ hx, u2_a _ _ hx, u2_a _ _ hx, u2_a _ _ hx]
/-- the CommonDivisor with its two Wholes -/
def cd_S (h : ah_H) (cd X Y : Nat) : Prop := ah_T h cd = 1 ∧ ah_R h 0 cd = some X ∧ ah_R h 1 cd = some Y
variable {cd X qX nX Y qY nY : Nat} {dX dY : Nat → Nat}
theorem cn_8256 {d : Nat → Nat} {n : Nat} (C : cn_D d n) : dg_v 4294967296 d n < 2 ^ 8256 := by
  have h1 := cn_lt C
  have h2 : (4294967296 : Nat) ^ n ≤ 4294967296 ^ 258 := Nat.pow_le_pow_right (by decide) C.2.2.2
  rw [BB_2 258] at h2
  exact Nat.lt_of_lt_of_le h1 h2
/-- foretell() -/
theorem s_foretell (C : cd_S h cd X Y) (Xw : wh_S h X qX nX false dX) (CX : cn_D dX nX) (Yw : wh_S h Y qY nY false dY) (CY : cn_D dY nY) (hle : dg_v 4294967296 dY nY ≤ dg_v 4294967296 dX nX) {K : Int32 → ah_H → Prop}
    (hK : ∀ (a b c d : Int) (u v : Nat) (g : Bool), fi_S (dg_v 4294967296 dX nX) (dg_v 4294967296 dY nY) a b c d u v → (g = true ↔ b ≠ 0) → K (bi_n g) (fc_S h cd (oL a) (oL b) (oL c) (oL d))) : w_CD_foretell cd h K := by
  obtain ⟨b, hb, hbl⟩ := bl_ex 8256 _ (cn_8256 CX)
  generalize hU : dg_v 4294967296 dX nX = U at *
  generalize hV : dg_v 4294967296 dY nY = V at *
  have hx62 : U / 2 ^ (b - 62) < 4611686018427387904 := by
    apply Nat.div_lt_of_lt_mul
    rw [show (4611686018427387904 : Nat) = 2 ^ 62 by decide, ← Nat.pow_add]
    exact Nat.lt_of_lt_of_le hbl.1 (Nat.pow_le_pow_right (by decide) (by omega))
  have hyx : V / 2 ^ (b - 62) ≤ U / 2 ^ (b - 62) := Nat.div_le_div_right hle
  have hF : 0 < 2 ^ (b - 62) := Nat.two_pow_pos _
  have dU := Nat.div_add_mod U (2 ^ (b - 62))
  have dV := Nat.div_add_mod V (2 ^ (b - 62))
  have mU : U % 2 ^ (b - 62) < 2 ^ (b - 62) := Nat.mod_lt _ hF
  have mV : V % 2 ^ (b - 62) < 2 ^ (b - 62) := Nat.mod_lt _ hF
  unfold w_CD_foretell
  refine ⟨C.1, X, C.2.1, Xw.1.1, s_bits Xw CX (by rw [hU]; exact hbl) (fun _ v11 e11 => ⟨X, C.2.1, Xw.1.1, ?_⟩)⟩
  rw [show (62 : Int32) = nI 62 from rfl, it_sub (by omega) (by decide)] at e11
  rw [e11]
  refine s_longFrom Xw CX (by omega) (fun _ => ⟨Y, C.2.2, Yw.1.1, s_longFrom Yw CY (by omega) (fun _ => ?_)⟩)
  rw [hU, hV, Nat.mod_eq_of_lt (show U / 2 ^ (b - 62) < 18446744073709551616 by omega), Nat.mod_eq_of_lt (show V / 2 ^ (b - 62) < 18446744073709551616 by omega), oL_n, oL_n]
  generalize U / 2 ^ (b - 62) = x0 at *
  generalize V / 2 ^ (b - 62) = y0 at *
  generalize U % 2 ^ (b - 62) = U' at *
  generalize V % 2 ^ (b - 62) = V' at *
  generalize 2 ^ (b - 62) = F at *
  have key := s_ft_a (h := h) (U := U) (V := V) (cd := cd) (x0 := x0) (y0 := y0) (U' := U') (V' := V') (F := F) (K := K) (by omega) (by rw [← dU, Int.natCast_add, Int.natCast_mul, Int.mul_comm]) (by rw [← dV, Int.natCast_add, Int.natCast_mul, Int.mul_comm]) (by omega) (by omega) (by omega) (by omega) (xt := fun (x54 : Nat) (x55 : Int64) (x56 : Int64) (x57 : Int64) (x58 : Int64) h59 => bk_CD_foretell_204 K x54 x55 x56 x57 x58 h59) (fun a b' c d u v I => by
    have i6 := I.2.2.2.2.2.1
    have hz : oL b' = (0 : Int64) ↔ b' = 0 := by
      rw [show (0 : Int64) = oL 0 from rfl]
      exact oL_eq (by unfold fl_Z; omega) ⟨by decide, by decide⟩
    refine ⟨C.1, fun h67 e67 h70 e70 h73 e73 h76 e76 => ?_⟩
    have eh : h76 = fc_S h cd (oL a) (oL b') (oL c) (oL d) := by rw [e76, e73, e70, e67]; rfl
    rw [eh]
    refine ⟨fun hb => ⟨Or.inl rfl, hK a b' c d u v false I ?_⟩, fun hb => ⟨Or.inr rfl, hK a b' c d u v true I ?_⟩⟩
    · exact ⟨fun z => (by cases z), fun z => absurd (hz.mp hb) z⟩
    · exact ⟨fun _ z => hb (hz.mpr z), fun _ => rfl⟩)
    64 0 1 0 0 1 x0 y0 U V (by omega) ⟨by omega, by omega, hle, Nat.le_refl _, rfl, by decide, Or.inl (by decide), Nat.le_refl _, fun z => absurd rfl z⟩ (by omega) (by omega) (by omega) (by omega) (by omega) (by omega) (by omega) (by omega)
  exact ⟨_, key⟩
theorem cb_p {a x : Int} (h0 : 0 ≤ a) (h1 : a ≤ 2147483647) (h2 : 0 ≤ x) (h3 : x ≤ 4294967295) : 0 ≤ a * x ∧ a * x ≤ 9223372030412324865 := by
  have e0 := Int.mul_nonneg h0 h2
  have e1 : a * x ≤ a * 4294967295 := Int.mul_le_mul_of_nonneg_left h3 h0
  omega
theorem cb_b {a b x y c : Int} (s : (0 ≤ a ∧ b ≤ 0) ∨ (a ≤ 0 ∧ 0 ≤ b)) (a1 : -2147483647 ≤ a) (a2 : a ≤ 2147483647) (b1 : -2147483647 ≤ b) (b2 : b ≤ 2147483647) (x0 : 0 ≤ x) (x1 : x ≤ 4294967295) (y0 : 0 ≤ y) (y1 : y ≤ 4294967295) (c1 : -2147483648 ≤ c) (c2 : c ≤ 2147483648) : fl_Z (a * x + b * y + c) ∧ -2147483648 ≤ (a * x + b * y + c) / 4294967296 ∧ (a * x + b * y + c) / 4294967296 ≤ 2147483648 := by
  have key : -9223372030412324865 ≤ a * x + b * y ∧ a * x + b * y ≤ 9223372030412324865 := by
    rcases s with ⟨s1, s2⟩ | ⟨s1, s2⟩
    · have p1 := cb_p s1 a2 x0 x1
      have p2 := cb_p (a := -b) (by omega) (by omega) y0 y1
      rw [Int.neg_mul] at p2
      omega
    · have p1 := cb_p s2 b2 y0 y1
      have p2 := cb_p (a := -a) (by omega) (by omega) x0 x1
      rw [Int.neg_mul] at p2
      omega
  generalize a * x + b * y = w at key
  unfold fl_Z
  omega
theorem cb_step {a b C w Z : Int} {x y E U V : Int} {r C' : Int} (inv : E + C * Z = a * U + b * V) (hw : w = a * x + b * y + C) (hr : r + 4294967296 * C' = w) : E + r * Z + C' * (4294967296 * Z) = a * (U + x * Z) + b * (V + y * Z) := by
  have e1 : C' * (4294967296 * Z) = 4294967296 * C' * Z := by rw [← Int.mul_assoc, Int.mul_comm C']
  have e2 : r * Z + 4294967296 * C' * Z = w * Z := by rw [← Int.add_mul, hr]
  have e3 : w * Z = a * (x * Z) + b * (y * Z) + C * Z := by rw [hw, Int.add_mul, Int.add_mul, Int.mul_assoc, Int.mul_assoc]
  rw [e1, Int.mul_add, Int.mul_add]
  omega
theorem dg_i (d : Nat → Nat) (i : Nat) : ((dg_v 4294967296 d (i + 1) : Nat) : Int) = (dg_v 4294967296 d i : Int) + (d i : Int) * ((4294967296 ^ i : Nat) : Int) := by
  show ((dg_v 4294967296 d i + d i * 4294967296 ^ i : Nat) : Int) = _
  rw [Int.natCast_add, Int.natCast_mul]
theorem dgs_i (e : Nat → Nat) (i x : Nat) : ((dg_v 4294967296 (dg_u e i x) (i + 1) : Nat) : Int) = (dg_v 4294967296 e i : Int) + (x : Int) * ((4294967296 ^ i : Nat) : Int) := by
  rw [dg_s1, Int.natCast_add, Int.natCast_mul]
theorem pi_s (i : Nat) : ((4294967296 ^ (i + 1) : Nat) : Int) = 4294967296 * ((4294967296 ^ i : Nat) : Int) := by rw [p_s, Int.natCast_mul]; rfl
/-- the loop of combine -/
theorem s_cb_a {a b c d : Int} {n : Nat} (hn : n ≤ 258) (hXY : X ≠ Y) (qXY : qX ≠ qY) (bd : -2147483647 ≤ a ∧ a ≤ 2147483647 ∧ -2147483647 ≤ b ∧ b ≤ 2147483647 ∧ -2147483647 ≤ c ∧ c ≤ 2147483647 ∧ -2147483647 ≤ d ∧ d ≤ 2147483647) (sg : (0 ≤ a ∧ b ≤ 0 ∧ c ≤ 0 ∧ 0 ≤ d) ∨ (a ≤ 0 ∧ 0 ≤ b ∧ 0 ≤ c ∧ d ≤ 0)) (hcd : ah_T h cd = 1) (l0 : ah_L h 0 cd = oL a) (l1 : ah_L h 1 cd = oL b) (l2 : ah_L h 2 cd = oL c) (l3 : ah_L h 3 cd = oL d) (hdX : ∀ i, dX i < 4294967296) (hdY : ∀ i, dY i < 4294967296) {S3 Q3 : Nat → Prop} (sX : S3 X) (sY : S3 Y) (tX : Q3 qX) (tY : Q3 qY) {xt : Nat → Int32 → ah_H → Prop} {K : ah_H → Prop}
    (hx : ∀ (hh : ah_H) (e1 e2 : Nat → Nat) (C1 C2 : Int), fr_S S3 Q3 h hh → wh_S hh X qX nX false e1 → wh_S hh Y qY nY false e2 → (∀ j, j < n → e1 j < 4294967296) → (∀ j, n ≤ j → e1 j = dX j) → (∀ j, j < n → e2 j < 4294967296) → (∀ j, n ≤ j → e2 j = dY j) → (dg_v 4294967296 e1 n : Int) + C1 * ((4294967296 ^ n : Nat) : Int) = a * (dg_v 4294967296 dX n : Int) + b * (dg_v 4294967296 dY n : Int) → (dg_v 4294967296 e2 n : Int) + C2 * ((4294967296 ^ n : Nat) : Int) = c * (dg_v 4294967296 dX n : Int) + d * (dg_v 4294967296 dY n : Int) → xt cd (nI n) hh) :
    ∀ (k i : Nat) (hh : ah_H) (e1 e2 : Nat → Nat) (C1 C2 : Int), n = i + k → fr_S S3 Q3 h hh → wh_S hh X qX nX false e1 → wh_S hh Y qY nY false e2 → (∀ j, j < i → e1 j < 4294967296) → (∀ j, i ≤ j → e1 j = dX j) → (∀ j, j < i → e2 j < 4294967296) → (∀ j, i ≤ j → e2 j = dY j) → -2147483648 ≤ C1 → C1 ≤ 2147483648 → -2147483648 ≤ C2 → C2 ≤ 2147483648 → (dg_v 4294967296 e1 i : Int) + C1 * ((4294967296 ^ i : Nat) : Int) = a * (dg_v 4294967296 dX i : Int) + b * (dg_v 4294967296 dY i : Int) → (dg_v 4294967296 e2 i : Int) + C2 * ((4294967296 ^ i : Nat) : Int) = c * (dg_v 4294967296 dX i : Int) + d * (dg_v 4294967296 dY i : Int) → lp_CD_combine_33 xt K (k + 1) cd qX qY (nI n) (oL C1) (oL C2) (nI i) hh := by
  intro k
  induction k with
  | zero =>
    intro i hh e1 e2 C1 C2 hi f1 f2 f3 f4 f5 f6 f7 _ _ _ _ f12 f13
    have e0 : i = n := by omega
    subst e0
    rw [lp_CD_combine_33]
    exact ⟨fun _ => hx hh e1 e2 C1 C2 f1 f2 f3 f4 f5 f6 f7 f12 f13, fun hc => absurd (nI_le (Nat.le_refl i) (by omega)) hc⟩
  | succ k ih =>
    intro i hh e1 e2 C1 C2 hi f1 f2 f3 f4 f5 f6 f7 f8 f9 f10 f11 f12 f13
    have x1 := hdX i
    have x2 := hdY i
    have hvX : vp_in (nI i) (ah_N hh qX) := by rw [f2.1.2.2.2]; exact vp_in_nI (by omega) (by decide)
    have hvY : vp_in (nI i) (ah_N hh qY) := by rw [f3.1.2.2.2]; exact vp_in_nI (by omega) (by decide)
    have eX : ah_bL hh qX (nI i).toNatClampNeg = oL (dX i) := by
      rw [nI_clamp (by omega), f2.2.2.2, ← oL_n]
      show lN (e1 i) = _
      rw [f5 i (Nat.le_refl _)]
    have eY : ah_bL hh qY (nI i).toNatClampNeg = oL (dY i) := by
      rw [nI_clamp (by omega), f3.2.2.2, ← oL_n]
      show lN (e2 i) = _
      rw [f7 i (Nat.le_refl _)]
    have eL : ah_L hh = ah_L h := f1.2.2.2.1
    obtain ⟨g1, g2, g3⟩ := cb_b (x := dX i) (y := dY i) (c := C1) (a := a) (b := b) (by rcases sg with z | z; exact Or.inl ⟨z.1, z.2.1⟩; exact Or.inr ⟨z.1, z.2.1⟩) bd.1 bd.2.1 bd.2.2.1 bd.2.2.2.1 (by omega) (by omega) (by omega) (by omega) f8 f9
    obtain ⟨g4, g5, g6⟩ := cb_b (x := dX i) (y := dY i) (c := C2) (a := c) (b := d) (by rcases sg with z | z; exact Or.inr ⟨z.2.2.1, z.2.2.2⟩; exact Or.inl ⟨z.2.2.1, z.2.2.2⟩) bd.2.2.2.2.1 bd.2.2.2.2.2.1 bd.2.2.2.2.2.2.1 bd.2.2.2.2.2.2.2 (by omega) (by omega) (by omega) (by omega) f10 f11
    rw [lp_CD_combine_33, eL, l0, l1, l2, l3, eX, eY]
    refine ⟨fun hc => absurd hc (nI_ge (by omega) (by omega)), fun _ => ⟨f1.1 ▸ hcd, f2.1.2.2.1, hvX, f3.1.2.2.1, hvY, fun v31 e31 => ⟨hvX, hvY, fun v34 e34 v35 e35 => ⟨hvX, fun h37 e37 v42 e42 => ⟨?_, fun h44 e44 v49 e49 v50 e50 v51 e51 => ?_⟩⟩⟩⟩⟩
    · rw [e37]; exact hvY
    · rw [oL_mul, oL_mul, oL_add, oL_add] at e31 e34
      have s1 := fun (r C' : Int) hr => cb_step (r := r) (C' := C') f12 (show a * (dX i : Int) + b * (dY i : Int) + C1 = a * (dX i : Int) + b * (dY i : Int) + C1 from rfl) hr
      have s2 := fun (r C' : Int) hr => cb_step (r := r) (C' := C') f13 (show c * (dX i : Int) + d * (dY i : Int) + C2 = c * (dX i : Int) + d * (dY i : Int) + C2 from rfl) hr
      generalize a * (dX i : Int) + b * (dY i : Int) + C1 = w1 at e31 g1 g2 g3 s1
      generalize c * (dX i : Int) + d * (dY i : Int) + C2 = w2 at e34 g4 g5 g6 s2
      rw [e31, oL_ms] at e35
      rw [e34, oL_ms] at e42
      rw [e31, oL_sr g1] at e49
      rw [e34, oL_sr g4] at e50
      have m1 : ((w1 % 4294967296).toNat : Int) = w1 % 4294967296 := Int.toNat_of_nonneg (Int.emod_nonneg _ (by decide))
      have m2 : ((w2 % 4294967296).toNat : Int) = w2 % 4294967296 := Int.toNat_of_nonneg (Int.emod_nonneg _ (by decide))
      have b1 : (w1 % 4294967296).toNat < 4294967296 := by omega
      have b2 : (w2 % 4294967296).toNat < 4294967296 := by omega
      have t1 := s1 ((w1 % 4294967296).toNat : Int) (w1 / 4294967296) (by omega)
      have t2 := s2 ((w2 % 4294967296).toNat : Int) (w2 / 4294967296) (by omega)
      generalize (w1 % 4294967296).toNat = r1 at *
      generalize (w2 % 4294967296).toNat = r2 at *
      rw [e35, nI_clamp (by omega), wh_up f2] at e37
      have Y2 : wh_S h37 Y qY nY false e2 := by rw [e37]; exact wh_ot f3 hXY.symm qXY.symm
      rw [e42, nI_clamp (by omega), wh_up Y2] at e44
      rw [e49, e50, e51, nI_1]
      refine ih (i + 1) h44 (dg_u e1 i r1) (dg_u e2 i r2) (w1 / 4294967296) (w2 / 4294967296) (by omega) ?_ ?_ ?_ (fun j hj => ?_) (fun j hj => ?_) (fun j hj => ?_) (fun j hj => ?_) g2 g3 g5 g6 ?_ ?_
      · rw [e44, e37]; exact fr_tr f1 (fr_tr (fr_wd sX tX) (fr_wd sY tY))
      · rw [e44]; refine wh_ot ?_ hXY qXY; rw [e37]; exact wh_wd f2.1
      · rw [e44]; exact wh_wd Y2.1
      · by_cases z : j = i
        · rw [z, dg_us]; exact b1
        · rw [dg_un z]; exact f4 j (by omega)
      · rw [dg_un (by omega)]; exact f5 j (by omega)
      · by_cases z : j = i
        · rw [z, dg_us]; exact b2
        · rw [dg_un z]; exact f6 j (by omega)
      · rw [dg_un (by omega)]; exact f7 j (by omega)
      · rw [dgs_i, dg_i, dg_i, pi_s]; exact t1
      · rw [dgs_i, dg_i, dg_i, pi_s]; exact t2
theorem cb_e {E C P u : Int} (h1 : E + C * P = u) (hE : 0 ≤ E) (hE2 : E < P) (hu : 0 ≤ u) (hu2 : u < P) : E = u := by
  have hC : C = 0 := by
    rcases Int.lt_trichotomy C 0 with z | z | z
    · have : C * P ≤ (-1) * P := Int.mul_le_mul_of_nonneg_right (by omega) (by omega)
      omega
    · exact z
    · have : 1 * P ≤ C * P := Int.mul_le_mul_of_nonneg_right (by omega) (by omega)
      omega
  rw [hC, Int.zero_mul] at h1
  omega
/-- combine() -/
theorem s_combine {a b c d : Int} {u v : Nat} (C : cd_S h cd X Y) (l0 : ah_L h 0 cd = oL a) (l1 : ah_L h 1 cd = oL b) (l2 : ah_L h 2 cd = oL c) (l3 : ah_L h 3 cd = oL d) (Xw : wh_S h X qX nX false dX) (CX : cn_D dX nX) (Yw : wh_S h Y qY nY false dY) (CY : cn_D dY nY) (hXY : X ≠ Y) (qXY : qX ≠ qY) (hle : dg_v 4294967296 dY nY ≤ dg_v 4294967296 dX nX) (I : fi_S (dg_v 4294967296 dX nX) (dg_v 4294967296 dY nY) a b c d u v) {S3 Q3 : Nat → Prop} (sX : S3 X) (sY : S3 Y) (tX : Q3 qX) (tY : Q3 qY) {K : ah_H → Prop}
    (hK : ∀ (h' : ah_H) (n1 n2 : Nat) (d1 d2 : Nat → Nat), fr_S S3 Q3 h h' → wh_S h' X qX n1 false d1 → cn_D d1 n1 → dg_v 4294967296 d1 n1 = u → wh_S h' Y qY n2 false d2 → cn_D d2 n2 → dg_v 4294967296 d2 n2 = v → K h') : w_CD_combine cd h K := by
  have hnX := CX.2.2.2
  have hnn := cn_le CY CX hle
  have vY : dg_v 4294967296 dY nX = dg_v 4294967296 dY nY := dg_z hnn (fun i h1 _ => CY.2.1 i h1)
  have hUl := cn_lt CX
  unfold w_CD_combine
  refine ⟨C.1, X, C.2.1, Xw.1.1, qX, Xw.1.2.1, Y, C.2.2, Yw.1.1, qY, Yw.1.2.1, X, C.2.1, Xw.1.1, fun v16 e16 => ?_⟩
  rw [e16, Xw.2.1]
  refine ⟨_, s_cb_a (h := h) (K := K) hnX hXY qXY I.2.2.2.2.2.1 I.2.2.2.2.2.2.1 C.1 l0 l1 l2 l3 CX.1 CY.1 sX sY tX tY (fun hh e1 e2 C1 C2 f1 f2 f3 f4 f5 f6 f7 f12 f13 => ?_) nX 0 h dX dY 0 0 (by omega) fr_rf Xw Yw (fun j hj => absurd hj (by omega)) (fun _ _ => rfl) (fun j hj => absurd hj (by omega)) (fun _ _ => rfl) (by decide) (by decide) (by decide) (by decide) (by simp [dg_v]) (by simp [dg_v])⟩
  rw [vY, ← I.1] at f12
  rw [vY, ← I.2.1] at f13
  have hl1 := dg_lt (n := nX) f4
  have hl2 := dg_lt (n := nX) f6
  have hu := I.2.2.2.1
  have hv := I.2.2.1
  have r1 : dg_v 4294967296 e1 nX = u := by
    generalize 4294967296 ^ nX = P at *
    have := cb_e f12 (by omega) (by omega) (by omega) (by omega)
    omega
  have r2 : dg_v 4294967296 e2 nX = v := by
    generalize 4294967296 ^ nX = P at *
    have := cb_e f13 (by omega) (by omega) (by omega) (by omega)
    omega
  have C5 : cd_S hh cd X Y := by
    unfold cd_S at *
    rw [f1.1, f1.2.2.1]; exact C
  refine ⟨C5.1, X, C5.2.1, f2.1.1, ?_⟩
  rw [wh_eq f2]
  refine s_fin f2.1 CX.2.2.2 CX.2.1 hnX f4 f5 (fun n1 d1 D1 w1 _ => ⟨Y, C5.2.2, f3.1.1, ?_⟩)
  have Y6 : wh_S (wd_S hh X qX n1 false d1) Y qY nY false e2 := wh_ot f3 hXY.symm qXY.symm
  rw [wh_eq Y6]
  refine s_fin Y6.1 CY.2.2.2 CY.2.1 hnX f6 f7 (fun n2 d2 D2 w2 _ => ?_)
  exact hK _ n1 n2 d1 d2 (fr_tr f1 (fr_tr (fr_wd sX tX) (fr_wd sY tY))) (wh_ot (wh_wd f2.1) hXY qXY) D1 (w1.trans r1) (wh_wd Y6.1) D2 (w2.trans r2)
end CD2
