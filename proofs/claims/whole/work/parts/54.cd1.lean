section CD1
/-- what Euclid's steps, carried out by the factors, keep -/
def fi_S (U V : Nat) (a b c d : Int) (u v : Nat) : Prop :=
  (u : Int) = a * U + b * V ∧ (v : Int) = c * U + d * V ∧ v ≤ u ∧ u ≤ U ∧ Nat.gcd u v = Nat.gcd U V ∧
  (-2147483647 ≤ a ∧ a ≤ 2147483647 ∧ -2147483647 ≤ b ∧ b ≤ 2147483647 ∧ -2147483647 ≤ c ∧ c ≤ 2147483647 ∧ -2147483647 ≤ d ∧ d ≤ 2147483647) ∧
  ((0 ≤ a ∧ b ≤ 0 ∧ c ≤ 0 ∧ 0 ≤ d) ∨ (a ≤ 0 ∧ 0 ≤ b ∧ 0 ≤ c ∧ d ≤ 0)) ∧ u * v ≤ U * V ∧ (b ≠ 0 → 2 * (u * v) ≤ U * V)
theorem eu_h {u v : Nat} (hv : 0 < v) (h : v ≤ u) : 2 * (v * (u % v)) ≤ u * v := by
  have h1 := Nat.div_add_mod u v
  have h2 : u % v < v := Nat.mod_lt _ hv
  have h3 : 1 ≤ u / v := Nat.div_pos h hv
  have h4 : v * 1 ≤ v * (u / v) := Nat.mul_le_mul_left _ h3
  have h5 : 2 * (u % v) ≤ u := by omega
  have h6 := Nat.mul_le_mul_left v h5
  rw [Nat.mul_comm u v, Nat.mul_left_comm]
  exact h6
theorem mul_le1 {p q r : Int} (h : p ≤ q) (hr : 0 ≤ r) : p * r ≤ q * r := Int.mul_le_mul_of_nonneg_right h hr
/-- the seen bits put the quotient: from below and from above -/
theorem tq_k {X Y u v F q lo hi lo' hi' : Int} (hF : 0 < F) (hq0 : 0 ≤ q) (h1 : lo * F ≤ u) (h2 : u ≤ hi * F) (h3 : lo' * F ≤ v) (h4 : v ≤ hi' * F) (g1 : q * hi' ≤ lo) (g2 : hi < (q + 1) * lo') : q * v ≤ u ∧ u < (q + 1) * v := by
  constructor
  · have e1 : q * v ≤ q * (hi' * F) := Int.mul_le_mul_of_nonneg_left h4 hq0
    have e2 : q * hi' * F ≤ lo * F := mul_le1 g1 (Int.le_of_lt hF)
    rw [← Int.mul_assoc] at e1
    omega
  · have e1 : (q + 1) * (lo' * F) ≤ (q + 1) * v := Int.mul_le_mul_of_nonneg_left h3 (by omega)
    have e2 : hi * F < (q + 1) * lo' * F := Int.mul_lt_mul_of_pos_right g2 hF
    rw [← Int.mul_assoc] at e1
    omega
theorem lin_b {a b p r F : Int} (ha : 0 ≤ a) (hb : b ≤ 0) (p0 : 0 ≤ p) (pF : p ≤ F) (r0 : 0 ≤ r) (rF : r ≤ F) : b * F ≤ a * p + b * r ∧ a * p + b * r ≤ a * F := by
  have e1 : a * p ≤ a * F := Int.mul_le_mul_of_nonneg_left pF ha
  have e2 : 0 ≤ a * p := Int.mul_nonneg ha p0
  have e3 : b * F ≤ b * r := Int.mul_le_mul_of_nonpos_left hb rF
  have e4 : b * r ≤ 0 := Int.mul_nonpos_of_nonpos_of_nonneg hb r0
  omega
theorem fdiv_k {n m q : Int} (hm : 0 < m) (h : q = n / m) : q * m ≤ n ∧ n < (q + 1) * m := by
  rw [h]
  exact ⟨Int.ediv_mul_le n (by omega), Int.lt_ediv_add_one_mul_self n hm⟩
/-- one foretold step -/
theorem ft_k {U V u v : Nat} {a b c d x0 y0 U' V' F X Y q : Int} (I : fi_S U V a b c d u v) (hF : 0 < F) (hU : (U : Int) = x0 * F + U') (hV : (V : Int) = y0 * F + V') (u0 : 0 ≤ U') (uF : U' ≤ F) (v0 : 0 ≤ V') (vF : V' ≤ F) (hX : X = a * x0 + b * y0) (hY : Y = c * x0 + d * y0) (ya : 0 < Y + c) (yb : 0 < Y + d) (xa : 0 ≤ X + a) (xb : 0 ≤ X + b) (hq1 : q = (X + a) / (Y + c)) (hq2 : q = (X + b) / (Y + d)) (n1 : -2147483647 ≤ a - q * c) (n2 : a - q * c ≤ 2147483647) (n3 : -2147483647 ≤ b - q * d) (n4 : b - q * d ≤ 2147483647) :
    0 ≤ q ∧ fi_S U V c d (a - q * c) (b - q * d) v (u % v) ∧ X - q * Y = (a - q * c) * x0 + (b - q * d) * y0 ∧ X - q * Y ≤ Y ∧ -2147483647 ≤ X - q * Y ∧ 0 < Y := by
  obtain ⟨i1, i2, i3, i4, i5, i6, i7, i8, i9⟩ := I
  have hq0 : 0 ≤ q := by rw [hq1]; exact Int.ediv_nonneg xa (Int.le_of_lt ya)
  obtain ⟨f1, f2⟩ := fdiv_k ya hq1
  obtain ⟨f3, f4⟩ := fdiv_k yb hq2
  have eu : (u : Int) = X * F + (a * U' + b * V') := by
    rw [i1, hU, hV, hX, Int.mul_add, Int.mul_add, Int.add_mul, Int.mul_assoc, Int.mul_assoc]; omega
  have ev : (v : Int) = Y * F + (c * U' + d * V') := by
    rw [i2, hU, hV, hY, Int.mul_add, Int.mul_add, Int.add_mul, Int.mul_assoc, Int.mul_assoc]; omega
  have hyp : 0 < Y := by rcases i7 with z | z <;> omega
  have hkey : q * (v : Int) ≤ u ∧ (u : Int) < (q + 1) * v ∧ 0 < (v : Int) := by
    rcases i7 with ⟨s1, s2, s3, s4⟩ | ⟨s1, s2, s3, s4⟩
    · have l1 := lin_b s1 s2 u0 uF v0 vF
      have l2 := lin_b s4 s3 v0 vF u0 uF
      have h1 : (X + b) * F ≤ (u : Int) := by rw [eu, Int.add_mul]; omega
      have h2 : (u : Int) ≤ (X + a) * F := by rw [eu, Int.add_mul]; omega
      have h3 : (Y + c) * F ≤ (v : Int) := by rw [ev, Int.add_mul]; omega
      have h4 : (v : Int) ≤ (Y + d) * F := by rw [ev, Int.add_mul]; omega
      have t := tq_k (X := 0) (Y := 0) hF hq0 h1 h2 h3 h4 f3 f2
      have : 0 < (Y + c) * F := Int.mul_pos ya hF
      exact ⟨t.1, t.2, by omega⟩
    · have l1 := lin_b s2 s1 v0 vF u0 uF
      have l2 := lin_b s3 s4 u0 uF v0 vF
      have h1 : (X + a) * F ≤ (u : Int) := by rw [eu, Int.add_mul]; omega
      have h2 : (u : Int) ≤ (X + b) * F := by rw [eu, Int.add_mul]; omega
      have h3 : (Y + d) * F ≤ (v : Int) := by rw [ev, Int.add_mul]; omega
      have h4 : (v : Int) ≤ (Y + c) * F := by rw [ev, Int.add_mul]; omega
      have t := tq_k (X := 0) (Y := 0) hF hq0 h1 h2 h3 h4 f1 f4
      have : 0 < (Y + d) * F := Int.mul_pos yb hF
      exact ⟨t.1, t.2, by omega⟩
  obtain ⟨t1, t2, t3⟩ := hkey
  have hv0 : 0 < v := by omega
  obtain ⟨k, rfl⟩ : ∃ k : Nat, q = k := ⟨q.toNat, by omega⟩
  have hk1 : k * v ≤ u := by exact_mod_cast t1
  have hk2 : u < (k + 1) * v := by exact_mod_cast t2
  have hk : k = u / v := (Nat.div_eq_of_lt_le hk1 hk2).symm
  have hdm := Nat.div_add_mod u v
  rw [← hk] at hdm
  have hm : u % v < v := Nat.mod_lt _ hv0
  have emod : ((u % v : Nat) : Int) = (u : Int) - k * v := by
    have : ((v * k + u % v : Nat) : Int) = (u : Int) := by rw [hdm]
    rw [Int.natCast_add, Int.natCast_mul, Int.mul_comm] at this
    omega
  have hh := eu_h hv0 i3
  refine ⟨hq0, ⟨i2, ?_, by omega, by omega, ?_, ⟨i6.2.2.2.2.1, i6.2.2.2.2.2.1, i6.2.2.2.2.2.2.1, i6.2.2.2.2.2.2.2, n1, n2, n3, n4⟩, ?_, ?_, ?_⟩, ?_, ?_, ?_, hyp⟩
  · rw [emod, i1, i2, Int.sub_mul, Int.sub_mul, Int.mul_add, Int.mul_assoc, Int.mul_assoc]; omega
  · rw [← i5, Nat.gcd_comm u v, Nat.gcd_rec v u, Nat.gcd_comm]
  · rcases i7 with ⟨s1, s2, s3, s4⟩ | ⟨s1, s2, s3, s4⟩
    · right
      have g1 : (k : Int) * c ≤ 0 := Int.mul_nonpos_of_nonneg_of_nonpos hq0 s3
      have g2 : 0 ≤ (k : Int) * d := Int.mul_nonneg hq0 s4
      exact ⟨s3, s4, by omega, by omega⟩
    · left
      have g1 : 0 ≤ (k : Int) * c := Int.mul_nonneg hq0 s3
      have g2 : (k : Int) * d ≤ 0 := Int.mul_nonpos_of_nonneg_of_nonpos hq0 s4
      exact ⟨s3, s4, by omega, by omega⟩
  · omega
  · intro _; omega
  · rw [hX, hY, Int.sub_mul, Int.sub_mul, Int.mul_add, Int.mul_assoc, Int.mul_assoc]; omega
  · rw [Int.add_mul, Int.one_mul, Int.mul_add] at f2
    rw [Int.add_mul, Int.one_mul, Int.mul_add] at f4
    rcases i7 with ⟨s1, s2, s3, s4⟩ | ⟨s1, s2, s3, s4⟩
    · have g1 : (k : Int) * c ≤ 0 := Int.mul_nonpos_of_nonneg_of_nonpos hq0 s3
      omega
    · have g2 : (k : Int) * d ≤ 0 := Int.mul_nonpos_of_nonneg_of_nonpos hq0 s4
      omega
  · rw [Int.mul_add] at f1
    omega
theorem mb_2 {q c : Int} (h0 : 0 ≤ q) (h1 : q ≤ 2147483647) (h2 : -2147483647 ≤ c) (h3 : c ≤ 2147483647) : -4611686014132420609 ≤ q * c ∧ q * c ≤ 4611686014132420609 := by
  have e1 : q * c ≤ q * 2147483647 := Int.mul_le_mul_of_nonneg_left h3 h0
  have e2 : q * (-2147483647) ≤ q * c := Int.mul_le_mul_of_nonneg_left h2 h0
  omega
variable {h : ah_H}
/-- the loop of foretell -/
theorem s_ft_a {U V cd : Nat} {x0 y0 U' V' F : Int} (hF : 0 < F) (hU : (U : Int) = x0 * F + U') (hV : (V : Int) = y0 * F + V') (u0 : 0 ≤ U') (uF : U' ≤ F) (v0 : 0 ≤ V') (vF : V' ≤ F) {xt : Nat → Int64 → Int64 → Int64 → Int64 → ah_H → Prop} {K : Int32 → ah_H → Prop}
    (hx : ∀ (a b c d : Int) (u v : Nat), fi_S U V a b c d u v → xt cd (oL a) (oL b) (oL c) (oL d) h) :
    ∀ (k i : Nat) (a b c d X Y : Int) (u v : Nat), i + k = 64 → fi_S U V a b c d u v → X = a * x0 + b * y0 → Y = c * x0 + d * y0 → -2147483647 ≤ X → X ≤ 4611686018427387904 → -2147483647 ≤ Y → Y ≤ X → 0 ≤ X + a → 0 ≤ X + b → lp_CD_foretell_49 xt xt xt xt K (k + 1) cd (oL X) (oL Y) (oL a) (oL b) (oL c) (oL d) (nI i) h := by
  intro k
  induction k with
  | zero =>
    intro i a b c d X Y u v hi I _ _ _ _ _ _ _ _
    rw [lp_CD_foretell_49]
    have : i = 64 := by omega
    subst this
    exact ⟨fun _ => hx a b c d u v I, fun hc => absurd (by decide) hc⟩
  | succ k ih =>
    intro i a b c d X Y u v hi I hX hY x1 x2 y1 y2 xa xb
    have ex := hx a b c d u v I
    have i6 := I.2.2.2.2.2.1
    have fl0 : fl_Z 0 := ⟨by decide, by decide⟩
    have flM : fl_Z 2147483647 := ⟨by decide, by decide⟩
    have fYc : fl_Z (Y + c) := by unfold fl_Z; omega
    have fYd : fl_Z (Y + d) := by unfold fl_Z; omega
    have fXa : fl_Z (X + a) := by unfold fl_Z; omega
    have fXb : fl_Z (X + b) := by unfold fl_Z; omega
    have z0 : (0 : Int64) = oL 0 := rfl
    have zM : (2147483647 : Int64) = oL 2147483647 := rfl
    rw [lp_CD_foretell_49, oL_add, oL_add, oL_add, oL_add]
    refine ⟨fun _ => ex, fun _ => ⟨fun _ => ex, fun hc => ⟨fun hd => ⟨fun hz => ?_, fun v44 e44 => ?_⟩, fun _ => ex⟩⟩⟩
    · rw [hz] at hc
      exact hc (Int64.le_refl 0)
    · have ya : 0 < Y + c := Int.not_le.mp (fun z => hc ((oL_le fYc fl0).mpr z))
      have yb : 0 < Y + d := (oL_lt fl0 fYd).mp hd
      rw [oL_div xa fXa ya fYc] at e44
      have hq0 : 0 ≤ (X + a) / (Y + c) := Int.ediv_nonneg xa (Int.le_of_lt ya)
      have hql : (X + a) / (Y + c) ≤ X + a := Int.ediv_le_self _ xa
      have hql2 : (X + b) / (Y + d) ≤ X + b := Int.ediv_le_self _ xb
      have hq02 : 0 ≤ (X + b) / (Y + d) := Int.ediv_nonneg xb (Int.le_of_lt yb)
      generalize hq : (X + a) / (Y + c) = q at e44 hq0 hql
      have fq : fl_Z q := by unfold fl_Z; omega
      have fq2 : fl_Z ((X + b) / (Y + d)) := by unfold fl_Z; generalize (X + b) / (Y + d) = w at *; omega
      rw [e44]
      refine ⟨fun _ => ex, fun hm => ⟨fun hz => ?_, fun he v48 e48 v49 e49 => ⟨fun _ => ex, fun h48 => ⟨fun h49 v52 e52 v53 e53 => ?_, fun _ => ex⟩⟩, fun _ => ex⟩⟩
      · rw [hz] at hd
        exact absurd hd (by decide)
      · have hqM : q ≤ 2147483647 := Int.not_lt.mp (fun z => hm ((oL_lt flM fq).mpr z))
        rw [oL_div xb fXb yb fYd] at he
        have hq2 : q = (X + b) / (Y + d) := (oL_eq fq fq2).mp he
        rw [oL_mul, oL_sub] at e48 e49 e52
        have b1 : -4611686014132420609 ≤ q * c ∧ q * c ≤ 4611686014132420609 := mb_2 hq0 hqM i6.2.2.2.2.1 i6.2.2.2.2.2.1
        have b2 : -4611686014132420609 ≤ q * d ∧ q * d ≤ 4611686014132420609 := mb_2 hq0 hqM i6.2.2.2.2.2.2.1 i6.2.2.2.2.2.2.2
        rw [e48, oL_ab (by omega), zM] at h48
        rw [e49, oL_ab (by omega), zM] at h49
        have f48 : fl_Z (if 0 < a - q * c then a - q * c else -(a - q * c)) := by unfold fl_Z; split <;> omega
        have f49 : fl_Z (if 0 < b - q * d then b - q * d else -(b - q * d)) := by unfold fl_Z; split <;> omega
        have g48 := Int.not_lt.mp (fun z => h48 ((oL_lt flM f48).mpr z))
        have g49 := (oL_le f49 flM).mp h49
        have n1 : -2147483647 ≤ a - q * c ∧ a - q * c ≤ 2147483647 := by
          clear h48 h49 f48 f49 g49
          split at g48 <;> omega
        have n3 : -2147483647 ≤ b - q * d ∧ b - q * d ≤ 2147483647 := by
          clear h48 h49 f48 f49 g48
          split at g49 <;> omega
        obtain ⟨r1, r2, r3, r4, r5, r6⟩ := ft_k I hF hU hV u0 uF v0 vF hX hY ya yb xa xb hq.symm hq2 n1.1 n1.2 n3.1 n3.2
        rw [e48, e49, e52, e53, nI_1]
        exact ih (i + 1) c d (a - q * c) (b - q * d) Y (X - q * Y) v (u % v) (by omega) r2 hY r3 (by omega) (by omega) r5 r4 (by omega) (by omega)
end CD1
