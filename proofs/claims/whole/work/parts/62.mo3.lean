section MO3
/-- an int by its number -/
def oI (z : Int) : Int32 := Int32.ofInt z
def fi_Z (z : Int) : Prop := -2147483648 ≤ z ∧ z < 2147483648
theorem oI_add (a b : Int) : oI a + oI b = oI (a + b) := (Int32.ofInt_add a b).symm
theorem oI_mul (a b : Int) : oI a * oI b = oI (a * b) := (Int32.ofInt_mul a b).symm
theorem oI_neg (a : Int) : -oI a = oI (-a) := (Int32.ofInt_neg a).symm
theorem oI_sub (a b : Int) : oI a - oI b = oI (a - b) := by rw [Int32.sub_eq_add_neg, oI_neg, oI_add]; rfl
theorem oI_n (n : Nat) : nI n = oI n := by
  apply Int32.toBitVec_inj.mp
  show BitVec.ofNat 32 n = BitVec.ofInt 32 (n : Int)
  simp
theorem oI_ti {z : Int} (h : fi_Z z) : (oI z).toInt = z := Int32.toInt_ofInt_of_le h.1 h.2
theorem oI_le {a b : Int} (ha : fi_Z a) (hb : fi_Z b) : oI a ≤ oI b ↔ a ≤ b := by rw [Int32.le_iff_toInt_le, oI_ti ha, oI_ti hb]
theorem oI_lt {a b : Int} (ha : fi_Z a) (hb : fi_Z b) : oI a < oI b ↔ a < b := by rw [Int32.lt_iff_toInt_lt, oI_ti ha, oI_ti hb]
theorem oI_eq {a b : Int} (ha : fi_Z a) (hb : fi_Z b) : oI a = oI b ↔ a = b := by rw [← Int32.toInt_inj, oI_ti ha, oI_ti hb]
variable {h : ah_H} {m : Nat} {A : Nat × Nat × Nat} {D Z : Nat → Nat} {G : Nat → Int32}
/-- the rows outside of S are as they were -/
def mf_S (S : Nat → Prop) (D Z : Nat → Nat) (G : Nat → Int32) (D' Z' : Nat → Nat) (G' : Nat → Int32) : Prop := ∀ r, r < 18 → ¬ S r → Z' r = Z r ∧ G' r = G r ∧ ∀ k, k < 1300 → ro_n D' r k = ro_n D r k
/-- the row r holds the whole number z -/
def mz_D (D Z : Nat → Nat) (G : Nat → Int32) (r : Nat) (z : Int) : Prop := mr_D D Z r z.natAbs ∧ G r = sI_n z
section MF
variable {S S' : Nat → Prop} {D' Z' D'' Z'' : Nat → Nat} {G' G'' : Nat → Int32}
theorem mf_rf : mf_S S D Z G D Z G := fun _ _ _ => ⟨rfl, rfl, fun _ _ => rfl⟩
theorem mf_tr (a : mf_S S D Z G D' Z' G') (b : mf_S S D' Z' G' D'' Z'' G'') : mf_S S D Z G D'' Z'' G'' := fun r hr hs =>
  ⟨(b r hr hs).1.trans (a r hr hs).1, (b r hr hs).2.1.trans (a r hr hs).2.1, fun k hk => ((b r hr hs).2.2 k hk).trans ((a r hr hs).2.2 k hk)⟩
theorem mf_mo (a : mf_S S D Z G D' Z' G') (hs : ∀ r, S r → S' r) : mf_S S' D Z G D' Z' G' := fun r hr h => a r hr (fun z => h (hs r z))
theorem mf_mr {r v : Nat} (a : mf_S S D Z G D' Z' G') (hr : r < 18) (hs : ¬ S r) (H : mr_D D Z r v) : mr_D D' Z' r v := by
  have h0 := H.1
  obtain ⟨hz, _, e⟩ := a r hr hs
  refine ⟨by rw [hz]; exact h0, fun k hk => ?_, ?_, ?_⟩
  · rw [hz] at hk
    rw [e k (by omega)]; exact H.2.1 k hk
  · rw [hz]
    rcases Nat.eq_zero_or_pos (Z r) with z | z
    · exact Or.inl z
    · rcases H.2.2.1 with y | y
      · omega
      · right
        rw [e _ (by omega)]; exact y
  · rw [hz, dg_cg (fun k hk => e k (by omega))]; exact H.2.2.2
theorem mf_mz {r : Nat} {z : Int} (a : mf_S S D Z G D' Z' G') (hr : r < 18) (hs : ¬ S r) (H : mz_D D Z G r z) : mz_D D' Z' G' r z :=
  ⟨mf_mr a hr hs H.1, (a r hr hs).2.1.trans H.2⟩
theorem mf_of {r n : Nat} (a : rf_D r D D') (hg : ∀ s, s ≠ r → G' s = G s) : mf_S (· = r) D Z G D' (dg_u Z r n) G' := fun s _ hs => ⟨dg_un hs, hg s hs, fun k hk => rf_ro a hs hk⟩
theorem mr_le {r v N : Nat} (H : mr_D D Z r v) (hv : v < 10000 ^ N) : Z r ≤ N := by
  rcases Nat.eq_zero_or_pos (Z r) with z | z
  · omega
  · have := (Nat.pow_lt_pow_iff_right (a := 10000) (by decide)).mp (Nat.lt_of_le_of_lt (mr_ge H z) hv)
    omega
end MF
theorem up_ne {f : Nat → Int32} {i : Nat} {x : Int32} : ∀ s, s ≠ i → upd f i x s = f s := fun _ hs => pk_un hs
theorem tm_ne {r n : Nat} : ∀ s, s ≠ r → tm_g G r n s = G s := fun s hs => by
  unfold tm_g
  split
  · exact pk_un hs
  · rfl
theorem tm_0 {r : Nat} : tm_g G r 0 r = 0 := by unfold tm_g; rw [if_pos rfl]; exact pk_us
theorem tm_1 {r n : Nat} (hn : n ≠ 0) : tm_g G r n = G := by unfold tm_g; rw [if_neg hn]
/-- copyRow, setRow, parts once more -/
theorem z_copyRow (Q : mo_Q h m A) {to fr v : Nat} (ht : to < 18) (hf : fr < 18) (F : mr_D D Z fr v) {K : ah_H → Prop}
    (hK : ∀ (D' Z' : Nat → Nat) (G' : Nat → Int32), mf_S (· = to) D Z G D' Z' G' → mr_D D' Z' to v → G' to = G fr → K (mh_S h A D' Z' G')) : w_MO_copyRow m (nI to) (nI fr) (mh_S h A D Z G) K :=
  s_copyRow Q ht hf F.1 (fun D' h1 h2 => hK _ _ _ (mf_of h1 up_ne) (cp_mr h2 F) pk_us)
theorem z_setRow (Q : mo_Q h m A) {r : Nat} (hr : r < 18) {v : Int64} {K : ah_H → Prop} (hK : ∀ (D' Z' : Nat → Nat) (G' : Nat → Int32), mf_S (· = r) D Z G D' Z' G' → mz_D D' Z' G' r v.toInt → K (mh_S h A D' Z' G')) : w_MO_setRow m (nI r) v (mh_S h A D Z G) K :=
  s_setRow Q hr (fun D' n h1 h2 _ => hK _ _ _ (mf_of h1 up_ne) ⟨h2, pk_us⟩)
theorem z_scale (Q : mo_Q h m A) {r V by' : Nat} (hr : r < 18) (R : mr_D D Z r V) (hz : Z r ≤ 1299) (h0 : 0 < by') (hb : by' ≤ 10000) {K : ah_H → Prop} (hK : ∀ (D' Z' : Nat → Nat), mf_S (· = r) D Z G D' Z' G → mr_D D' Z' r (by' * V) → K (mh_S h A D' Z' G)) : w_MO_scale m (nI r) (nI by') (mh_S h A D Z G) K :=
  s_scale Q hr R hz h0 hb (fun D' n h1 _ h2 => hK _ _ (mf_of h1 (fun _ _ => rfl)) h2)
theorem z_parts (Q : mo_Q h m A) {r V by' : Nat} (hr : r < 18) (R : mr_D D Z r V) (h0 : 0 < by') (hb : by' ≤ 65536) {K : Int32 → ah_H → Prop} (hK : ∀ (D' Z' : Nat → Nat) (G' : Nat → Int32), mf_S (· = r) D Z G D' Z' G' → mr_D D' Z' r (V / by') → (V / by' = 0 → G' r = 0) → (V / by' ≠ 0 → G' r = G r) → K (nI (V % by')) (mh_S h A D' Z' G')) : w_MO_parts m (nI r) (nI by') (mh_S h A D Z G) K :=
  s_parts Q hr R h0 hb (fun D' n h1 h2 => hK _ _ _ (mf_of h1 tm_ne) h2 (fun z => by
    have := (mr_0 h2).mp z
    rw [dg_us] at this
    rw [this]; exact tm_0) (fun z => by
    rw [tm_1]
    intro y
    apply z
    apply (mr_0 h2).mpr
    rw [dg_us]; exact y))
/-- joins(to, x, y, less) -/
theorem rf_rd {to x k : Nat} {D' : Nat → Nat} (a : rf_D to D D') (hx : x ≠ to) (hz : Z x ≤ 1300) : rd_n D' Z x k = rd_n D Z x k := by
  unfold rd_n
  split
  · exact rf_ro (k := k) a hx (by omega)
  · rfl
theorem js_step {e c c' P X Y s a b v t : Int} (inv : e + c * P = X + s * Y) (hv : v = a + s * b + c) (ht : t = v - c' * 10000) : e + t * P + c' * (P * 10000) = X + a * P + s * (Y + b * P) := by
  grind
theorem js_nat {E X Y P a b t : Nat} {c c' s v : Int} (inv : (E : Int) + c * (P : Int) = X + s * Y) (hv : v = a + s * b + c) (ht : (t : Int) = v - c' * 10000) : ((E + t * P : Nat) : Int) + c' * ((P * 10000 : Nat) : Int) = ((X + a * P : Nat) : Int) + s * ((Y + b * P : Nat) : Int) := by
  rw [Int.natCast_add, Int.natCast_add, Int.natCast_add, Int.natCast_mul, Int.natCast_mul, Int.natCast_mul, Int.natCast_mul]
  exact js_step inv hv ht
theorem s_joins_b (Q : mo_Q h m A) {to i t : Nat} (ht : to < 18) (hi : i < 1300) {v c : Int} (e : (t : Int) = v - c * 10000) {rc : Nat → Int32 → Int32 → Int32 → Int32 → Int32 → Int32 → Int32 → ah_H → Prop} {K : ah_H → Prop} {x y l n : Int32}
    (hk : rc m (nI to) x y l n (oI c) (nI (i + 1)) (mh_S h A (dg_u D (1300 * to + i) t) Z G)) : bk_MO_joins_90 rc K m (nI to) x y l n (nI i) (oI v) (oI c) (mh_S h A D Z G) := by
  refine ⟨(mh_Q Q).1, A.1, (mh_Q Q).2.1.1, fun v62 e62 => ⟨(mh_Q Q).2.2.1.1, by rw [ix_k]; exact in_d Q (by omega), fun h65 e65 v69 e69 => ?_⟩⟩
  have e1 : v62 = nI t := by
    rw [e62, oI_n, e]
    show oI v - oI c * oI 10000 = _
    rw [oI_mul, oI_sub]
  rw [e1, ix_k, nI_clamp (by omega), mw_d Q] at e65
  rw [e65, e69, nI_1]
  exact hk
theorem s_joins_a (Q : mo_Q h m A) {to x y N u v : Nat} {s : Int} (hs : s = 1 ∨ s = -1) (ht : to < 18) (hx : x < 18) (hy : y < 18) (nx : x ≠ to) (ny : y ≠ to) (X : mr_D D Z x u) (Y : mr_D D Z y v) (hN : N < 1300) {xt : Nat → Int32 → Int32 → Int32 → ah_H → Prop} {K : ah_H → Prop}
    (hxt : ∀ (D' : Nat → Nat) (c : Int), rf_D to D D' → (∀ j, j < N → ro_n D' to j < 10000) → ((s = 1 ∧ 0 ≤ c ∧ c ≤ 1) ∨ (s = -1 ∧ -1 ≤ c ∧ c ≤ 0)) → (dg_v 10000 (ro_n D' to) N : Int) + c * ((10000 ^ N : Nat) : Int) = dg_v 10000 (rd_n D Z x) N + s * dg_v 10000 (rd_n D Z y) N → xt m (nI to) (nI N) (oI c) (mh_S h A D' Z G)) :
    ∀ (k i : Nat) (D' : Nat → Nat) (c : Int), N = i + k → rf_D to D D' → (∀ j, j < i → ro_n D' to j < 10000) → ((s = 1 ∧ 0 ≤ c ∧ c ≤ 1) ∨ (s = -1 ∧ -1 ≤ c ∧ c ≤ 0)) → (dg_v 10000 (ro_n D' to) i : Int) + c * ((10000 ^ i : Nat) : Int) = dg_v 10000 (rd_n D Z x) i + s * dg_v 10000 (rd_n D Z y) i → lp_MO_joins_38 xt K (k + 1) m (nI to) (nI x) (nI y) (oI s) (nI N) (oI c) (nI i) (mh_S h A D' Z G) := by
  intro k
  induction k with
  | zero =>
    intro i D' c hi h1 h2 h3 h4
    have e0 : i = N := by omega
    subst e0
    rw [lp_MO_joins_38]
    exact ⟨fun _ => hxt D' c h1 h2 h3 h4, fun hc => absurd (nI_le (Nat.le_refl _) (by omega)) hc⟩
  | succ k ih =>
    intro i D' c hi h1 h2 h3 h4
    rw [lp_MO_joins_38]
    refine ⟨fun hc => absurd hc (nI_ge (by omega) (by omega)), fun _ => ⟨(mh_Q Q).1, s_mat Q hx (by omega) X.1 (fun _ => s_mat Q hy (by omega) Y.1 (fun _ v46 e46 => ?_))⟩⟩
    have a1 := rd_lt X i
    have b1 := rd_lt Y i
    rw [rf_rd h1 nx X.1, rf_rd h1 ny Y.1, oI_n, oI_n, oI_mul, oI_add, oI_add] at e46
    obtain ⟨a, ha⟩ : ∃ a, a = rd_n D Z x i := ⟨_, rfl⟩
    obtain ⟨b, hb⟩ : ∃ b, b = rd_n D Z y i := ⟨_, rfl⟩
    rw [← ha] at a1 e46
    rw [← hb] at b1 e46
    obtain ⟨w, hw⟩ : ∃ w : Int, w = (a : Int) + s * b + c := ⟨_, rfl⟩
    rw [← hw] at e46
    have hw2 : (s = 1 ∧ 0 ≤ w ∧ w < 20000) ∨ (s = -1 ∧ -10000 ≤ w ∧ w < 10000) := by
      rcases h3 with ⟨z, z1, z2⟩ | ⟨z, z1, z2⟩
      · subst z; left; omega
      · subst z; right; omega
    have hfi : fi_Z w := by unfold fi_Z; omega
    have go : ∀ (cI : Int32) (c' : Int) (t : Nat), cI = oI c' → (t : Int) = w - c' * 10000 → t < 10000 → ((s = 1 ∧ 0 ≤ c' ∧ c' ≤ 1) ∨ (s = -1 ∧ -1 ≤ c' ∧ c' ≤ 0)) → bk_MO_joins_90 (lp_MO_joins_38 xt K (k + 1)) K m (nI to) (nI x) (nI y) (oI s) (nI N) (nI i) v46 cI (mh_S h A D' Z G) := by
      intro cI c' t e0 e1 e2 e3
      rw [e46, e0]
      refine s_joins_b Q ht (by omega) e1 (ih (i + 1) _ c' (by omega) (rf_tr h1 (rf_u (by omega))) (fun j hj => ?_) e3 ?_)
      · rw [ro_u]
        by_cases z : j = i
        · rw [z, dg_us]; exact e2
        · rw [dg_un z]; exact h2 j (by omega)
      · rw [ro_u]
        have f1 : dg_v 10000 (dg_u (ro_n D' to) i t) (i + 1) = dg_v 10000 (ro_n D' to) i + t * 10000 ^ i := by
          show dg_v 10000 _ i + dg_u _ i t i * 10000 ^ i = _
          rw [dg_us_v (Nat.le_refl _), dg_us]
        have f2 : dg_v 10000 (rd_n D Z x) (i + 1) = dg_v 10000 (rd_n D Z x) i + a * 10000 ^ i := by rw [ha]; rfl
        have f3 : dg_v 10000 (rd_n D Z y) (i + 1) = dg_v 10000 (rd_n D Z y) i + b * 10000 ^ i := by rw [hb]; rfl
        rw [f1, f2, f3]
        rw [Nat.pow_succ]
        exact js_nat h4 hw e1
    refine ⟨fun hp => ?_, fun hp => ?_⟩
    · rw [e46] at hp
      have hp' := (oI_le (a := 0) (by unfold fi_Z; omega) hfi).mp hp
      refine ⟨fun hq => ?_, fun hq => ?_⟩
      · rw [e46] at hq
        have hq' := (oI_lt (b := 10000) hfi (by unfold fi_Z; omega)).mp hq
        exact go _ 0 w.toNat rfl (by omega) (by omega) (by omega)
      · rw [e46] at hq
        have hq' : ¬ w < 10000 := fun z => hq ((oI_lt (b := 10000) hfi (by unfold fi_Z; omega)).mpr z)
        exact go _ 1 (w - 10000).toNat rfl (by omega) (by omega) (by omega)
    · rw [e46] at hp
      have hp' : ¬ 0 ≤ w := fun z => hp ((oI_le (a := 0) (by unfold fi_Z; omega) hfi).mpr z)
      exact go _ (-1) (w + 10000).toNat rfl (by omega) (by omega) (by omega)
theorem s_joins (Q : mo_Q h m A) {to x y u v W : Nat} {s : Int} (hs : s = 1 ∨ (s = -1 ∧ v ≤ u)) (hW : (W : Int) = u + s * v) (ht : to < 18) (hx : x < 18) (hy : y < 18) (nx : x ≠ to) (ny : y ≠ to) (X : mr_D D Z x u) (Y : mr_D D Z y v) (zx : Z x < 1300) (zy : Z y < 1300) {K : ah_H → Prop}
    (hK : ∀ (D' : Nat → Nat) (n : Nat), rf_D to D D' → mr_D D' (dg_u Z to n) to W → K (mh_S h A D' (dg_u Z to n) (tm_g G to n))) : w_MO_joins m (nI to) (nI x) (nI y) (oI s) (mh_S h A D Z G) K := by
  have go : ∀ N : Nat, Z x ≤ N → Z y ≤ N → N < 1300 → bk_MO_joins_30 K m (nI to) (nI x) (nI y) (oI s) (nI N) (mh_S h A D Z G) := by
    intro N n1 n2 n3
    refine ⟨N + 1, s_joins_a Q (by rcases hs with z | z; exact Or.inl z; exact Or.inr z.1) ht hx hy nx ny X Y n3 (fun D' c h1 h2 h3 h4 => ⟨(mh_Q Q).1, A.1, (mh_Q Q).2.1.1, (mh_Q Q).2.2.1.1, by rw [ix_k]; exact in_d Q (by omega), fun h80 e80 => ?_⟩) N 0 D 0 (by omega) rf_rf (fun j hj => absurd hj (Nat.not_lt_zero _)) (by rcases hs with z | z; left; exact ⟨z, by decide, by decide⟩; right; exact ⟨z.1, by decide, by decide⟩) ?_⟩
    · show ((0 : Nat) : Int) + 0 * _ = ((0 : Nat) : Int) + s * ((0 : Nat) : Int)
      simp
    · rw [rd_v X n1, rd_v Y n2, ← hW] at h4
      have hlt : dg_v 10000 (ro_n D' to) N < 10000 ^ N := dg_lt h2
      have hc : ∃ t : Nat, c = t ∧ t ≤ 1 := by
        rcases h3 with ⟨z, z1, z2⟩ | ⟨z, z1, z2⟩
        · exact ⟨c.toNat, by omega, by omega⟩
        · refine ⟨0, ?_, by decide⟩
          rcases Int.lt_or_le c 0 with y | y
          · exfalso
            have : c = -1 := by omega
            subst this
            generalize 10000 ^ N = P at *
            omega
          · omega
      obtain ⟨t, ec, ht1⟩ := hc
      subst ec
      rw [← oI_n, ix_k, nI_clamp (by omega), mw_d Q] at e80
      rw [e80, show nI N + (1 : Int32) = nI (N + 1) from nI_1 _]
      have hb : ∀ k, k < N + 1 → ro_n (dg_u D' (1300 * to + N) t) to k < 10000 := fun k hk => by
        rw [ro_u]
        by_cases z : k = N
        · rw [z, dg_us]; omega
        · rw [dg_un z]; exact h2 k (by omega)
      refine s_trim Q ht (by omega) hb (fun _ => hK _ _ (rf_tr h1 (rf_u (by omega))) ?_)
      have e1 : dg_v 10000 (ro_n (dg_u D' (1300 * to + N) t) to) (N + 1) = W := by
        rw [ro_u]
        show dg_v 10000 _ N + dg_u _ N t N * 10000 ^ N = _
        rw [dg_us_v (Nat.le_refl _), dg_us]
        generalize 10000 ^ N = P at *
        exact_mod_cast h4
      have := tr_mr (Z := Z) (r := to) (n := N + 1) (by omega) hb
      rw [e1] at this
      exact this
  refine ⟨(mh_Q Q).1, A.2.1, (mh_Q Q).2.1.2.1, (mh_Q Q).2.2.1.2.1, in_z Q hx, A.2.1, (mh_Q Q).2.1.2.1, (mh_Q Q).2.2.1.2.1, in_z Q hy, fun hl => ⟨A.2.1, (mh_Q Q).2.1.2.1, (mh_Q Q).2.2.1.2.1, in_z Q hy, ?_⟩, fun hl => ⟨A.2.1, (mh_Q Q).2.1.2.1, (mh_Q Q).2.2.1.2.1, in_z Q hx, ?_⟩⟩
  · rw [gz_k Q hx, gz_k Q hy] at hl
    have := (nI_leI (by omega) (by omega)).mp hl
    rw [gz_k Q hy]
    exact go _ this (Nat.le_refl _) zy
  · rw [gz_k Q hx, gz_k Q hy] at hl
    have : ¬ Z x ≤ Z y := fun z => hl ((nI_leI (by omega) (by omega)).mpr z)
    rw [gz_k Q hx]
    exact go _ (Nat.le_refl _) (by omega) zx
/-- sum(x, y, as) -/
theorem sI_0 {z : Int} : sI_n z = 0 ↔ z = 0 := by
  unfold sI_n
  split
  · constructor
    · intro e; exact absurd e (by decide)
    · intro e; omega
  · split
    · constructor
      · intro _; assumption
      · intro _; rfl
    · constructor
      · intro e; exact absurd e (by decide)
      · intro e; contradiction
theorem sI_p {z : Int} : sI_n z = 1 ↔ 0 < z := by
  unfold sI_n
  split
  · constructor
    · intro e; exact absurd e (by decide)
    · intro e; omega
  · split
    · constructor
      · intro e; exact absurd e (by decide)
      · intro e; omega
    · constructor
      · intro _; omega
      · intro _; rfl
theorem sI_m {z : Int} : sI_n z = -1 ↔ z < 0 := by
  unfold sI_n
  split
  · constructor
    · intro _; assumption
    · intro _; rfl
  · split
    · constructor
      · intro e; exact absurd e (by decide)
      · intro e; omega
    · constructor
      · intro e; exact absurd e (by decide)
      · intro e; omega
theorem sI_oI (z : Int) : sI_n z = oI (if z < 0 then -1 else if z = 0 then 0 else 1) := by
  unfold sI_n
  split
  · rfl
  · split <;> rfl
theorem sI_mul (x y : Int) : sI_n x * sI_n y = sI_n (x * y) := by
  rcases Int.lt_trichotomy x 0 with a | a | a
  · rw [sI_m.mpr a]
    rcases Int.lt_trichotomy y 0 with b | b | b
    · rw [sI_m.mpr b, sI_p.mpr (Int.mul_pos_of_neg_of_neg a b)]; decide
    · rw [b, Int.mul_zero, sI_0.mpr rfl]; decide
    · rw [sI_p.mpr b, sI_m.mpr (Int.mul_neg_of_neg_of_pos a b)]; decide
  · rw [a, Int.zero_mul, sI_0.mpr rfl]; exact Int32.zero_mul
  · rw [sI_p.mpr a]
    rcases Int.lt_trichotomy y 0 with b | b | b
    · rw [sI_m.mpr b, sI_m.mpr (Int.mul_neg_of_pos_of_neg a b)]; decide
    · rw [b, Int.mul_zero, sI_0.mpr rfl]; decide
    · rw [sI_p.mpr b, sI_p.mpr (Int.mul_pos a b)]; decide
end MO3
