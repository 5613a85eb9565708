section SU2
variable {h : ah_H}
theorem dg_cmp {B : Nat} {a b : Nat → Nat} {i n : Nat} (hi : i < n) (ha : ∀ j, j < i → a j < B) (he : ∀ j, i < j → j < n → a j = b j) (hl : a i < b i) : dg_v B a n < dg_v B b n := by
  rw [du_sp (d := a) (show i + 1 ≤ n by omega), du_sp (d := b) (show i + 1 ≤ n by omega), du_cg (d := a) (e := b) (i := i + 1) (fun j h1 h2 => he j (by omega) h2)]
  have h1 := dg_lt (n := i) ha
  have e1 : dg_v B a (i + 1) = dg_v B a i + a i * B ^ i := rfl
  have e2 : dg_v B b (i + 1) = dg_v B b i + b i * B ^ i := rfl
  have h2 : (a i + 1) * B ^ i ≤ b i * B ^ i := Nat.mul_le_mul_right _ hl
  rw [Nat.add_mul, Nat.one_mul] at h2
  omega
theorem cn_ge {d : Nat → Nat} {n : Nat} (C : cn_D d n) (hn : 0 < n) : 4294967296 ^ (n - 1) ≤ dg_v 4294967296 d n := by
  obtain ⟨k, rfl⟩ : ∃ k, n = k + 1 := ⟨n - 1, by omega⟩
  rcases C.2.2.1 with e | e
  · omega
  · exact dg_ge e
theorem cn_lt {d : Nat → Nat} {n : Nat} (C : cn_D d n) : dg_v 4294967296 d n < 4294967296 ^ n := dg_lt (fun i _ => C.1 i)
theorem cn_sz {a b : Nat → Nat} {n m : Nat} (A : cn_D a n) (C : cn_D b m) (h : n < m) : dg_v 4294967296 a n < dg_v 4294967296 b m := by
  have h1 := cn_lt A
  have h2 := cn_ge C (by omega)
  have h3 : (4294967296 : Nat) ^ n ≤ 4294967296 ^ (m - 1) := Nat.pow_le_pow_right (by decide) (by omega)
  omega
theorem cn_le {a b : Nat → Nat} {n m : Nat} (A : cn_D a n) (C : cn_D b m) (h : dg_v 4294967296 a n ≤ dg_v 4294967296 b m) : n ≤ m := by
  apply Nat.le_of_not_lt
  intro h1
  have := cn_sz C A h1
  omega
theorem cn_0 {d : Nat → Nat} {n : Nat} (C : cn_D d n) : dg_v 4294967296 d n = 0 ↔ n = 0 := by
  constructor
  · intro h
    rcases Nat.eq_zero_or_pos n with z | z
    · exact z
    · have := cn_ge C z
      have : 0 < (4294967296 : Nat) ^ (n - 1) := Nat.pow_pos (by decide)
      omega
  · intro h; subst h; rfl
/-- r is the order of x and y -/
def or_N (r : Int32) (x y : Nat) : Prop := (r = -1 ∧ x < y) ∨ (r = 0 ∧ x = y) ∨ (r = 1 ∧ y < x)
variable {a qa na : Nat} {nga : Bool} {da : Nat → Nat} {b qb nb : Nat} {ngb : Bool} {db : Nat → Nat}
theorem s_order_a (A : wh_S h a qa na nga da) (CA : cn_D da na) (Bw : wh_S h b qb na ngb db) (CB : cn_D db na) {K : Int32 → ah_H → Prop} (hK : ∀ r, or_N r (dg_v 4294967296 da na) (dg_v 4294967296 db na) → K r h) {xt : Nat → Nat → Int32 → ah_H → Prop} {xz : ah_H → Prop} (hz : dg_v 4294967296 da na = dg_v 4294967296 db na → xz h)
    (hx : ∀ i, i < na → (∀ j, i < j → j < na → da j = db j) → da i ≠ db i → xt a b (nI i) h) :
    ∀ (i : Nat), i ≤ na → (∀ j, i ≤ j → j < na → da j = db j) → ∃ m, lp_SU_orderOfAbsolutes_35 xt xz K m a b (nI i - 1) h := by
  have hn := CA.2.2.2
  intro i
  induction i with
  | zero =>
    intro _ he
    refine ⟨0 + 1, ?_⟩
    rw [lp_SU_orderOfAbsolutes_35]
    exact ⟨fun _ => hz (dg_cg (fun j hj => he j (Nat.zero_le j) hj)), fun hc => absurd (by decide) hc⟩
  | succ i ih =>
    intro hi he
    have ei : nI (i + 1) - (1 : Int32) = nI i := nI_m1 (n := i + 1) (by omega)
    have x1 := CA.1 i
    have x2 := CB.1 i
    have hva : vp_in (nI i) (ah_N h qa) := by rw [A.1.2.2.2]; exact vp_in_nI (by omega) (by decide)
    have hvb : vp_in (nI i) (ah_N h qb) := by rw [Bw.1.2.2.2]; exact vp_in_nI (by omega) (by decide)
    have ea : ah_bL h qa (nI i).toNatClampNeg = lN (da i) := by rw [nI_clamp (by omega), A.2.2.2]; rfl
    have eb : ah_bL h qb (nI i).toNatClampNeg = lN (db i) := by rw [nI_clamp (by omega), Bw.2.2.2]; rfl
    rw [ei]
    by_cases hd : da i = db i
    · obtain ⟨m, hm⟩ := ih (by omega) (fun j h1 h2 => by
        by_cases z : j = i
        · rw [z]; exact hd
        · exact he j (by omega) h2)
      refine ⟨m + 1, ?_⟩
      rw [lp_SU_orderOfAbsolutes_35]
      refine ⟨fun hc => absurd hc (nI_pos (by omega)), fun _ => ⟨A.1.1, qa, A.1.2.1, A.1.2.2.1, hva, Bw.1.1, qb, Bw.1.2.1, Bw.1.2.2.1, hvb, fun _ v23 e23 => ?_, fun hc => absurd ?_ hc⟩⟩
      · rw [e23, ← Int32.sub_eq_add_neg]; exact hm
      · rw [ea, eb, hd]
    · refine ⟨0 + 1, ?_⟩
      rw [lp_SU_orderOfAbsolutes_35]
      refine ⟨fun hc => absurd hc (nI_pos (by omega)), fun _ => ⟨A.1.1, qa, A.1.2.1, A.1.2.2.1, hva, Bw.1.1, qb, Bw.1.2.1, Bw.1.2.2.1, hvb, fun hc => absurd ?_ hd, fun _ => hx i (by omega) (fun j h1 h2 => he j (by omega) h2) hd⟩⟩
      rw [ea, eb] at hc
      exact (pk_lEQ (by omega) (by omega)).mp hc
/-- orderOfAbsolutes(a, b) -/
theorem s_order (A : wh_S h a qa na nga da) (CA : cn_D da na) (Bw : wh_S h b qb nb ngb db) (CB : cn_D db nb) {K : Int32 → ah_H → Prop} (hK : ∀ r, or_N r (dg_v 4294967296 da na) (dg_v 4294967296 db nb) → K r h) : w_SU_orderOfAbsolutes a b h K := by
  have hn := CA.2.2.2
  have hn2 := CB.2.2.2
  unfold w_SU_orderOfAbsolutes
  refine ⟨A.1.1, Bw.1.1, fun he v6 e6 => ?_, fun he => ⟨fun hl => ?_, fun hl => ?_⟩⟩
  · have e0 : na = nb := by
      rw [A.2.1, Bw.2.1] at he
      exact (nI_eq (by omega) (by omega)).mp he
    subst e0
    rw [e6, A.2.1]
    refine s_order_a A CA Bw CB hK (fun hz => hK 0 (Or.inr (Or.inl ⟨rfl, hz⟩))) (fun i hi h1 h2 => ?_) na (Nat.le_refl _) (fun j h1 h2 => absurd h1 (by omega))
    have x1 := CA.1 i
    have x2 := CB.1 i
    have hva : vp_in (nI i) (ah_N h qa) := by rw [A.1.2.2.2]; exact vp_in_nI (by omega) (by decide)
    have hvb : vp_in (nI i) (ah_N h qb) := by rw [Bw.1.2.2.2]; exact vp_in_nI (by omega) (by decide)
    have ea : ah_bL h qa (nI i).toNatClampNeg = lN (da i) := by rw [nI_clamp (by omega), A.2.2.2]; rfl
    have eb : ah_bL h qb (nI i).toNatClampNeg = lN (db i) := by rw [nI_clamp (by omega), Bw.2.2.2]; rfl
    refine ⟨A.1.1, qa, A.1.2.1, A.1.2.2.1, hva, Bw.1.1, qb, Bw.1.2.1, Bw.1.2.2.1, hvb, fun hc => ?_, fun hc => ?_⟩
    · rw [ea, eb] at hc
      have h3 := (pk_lLE (by omega) (by omega)).mp hc
      exact hK 1 (Or.inr (Or.inr ⟨rfl, dg_cmp hi (fun j _ => CB.1 j) (fun j y1 y2 => (h1 j y1 y2).symm) (by omega)⟩))
    · rw [ea, eb] at hc
      have h3 : ¬ db i ≤ da i := fun z => hc ((pk_lLE (by omega) (by omega)).mpr z)
      exact hK (-1) (Or.inl ⟨rfl, dg_cmp hi (fun j _ => CA.1 j) h1 (by omega)⟩)
  · rw [A.2.1, Bw.2.1] at hl he
    have h3 := (nI_leI (by omega) (by omega)).mp hl
    have h4 : na ≠ nb := fun z => he (by rw [z])
    exact hK 1 (Or.inr (Or.inr ⟨rfl, cn_sz CB CA (by omega)⟩))
  · rw [A.2.1, Bw.2.1] at hl
    have h3 : ¬ nb ≤ na := fun z => hl ((nI_leI (by omega) (by omega)).mpr z)
    exact hK (-1) (Or.inl ⟨rfl, cn_sz CA CB (by omega)⟩)
/-- the end of a method that wrote the limbs below c anew -/
theorem s_fin {t q nt c : Nat} {ngt : Bool} {e dt : Nat → Nat} (Tq : wq_S h t q) (hnt : nt ≤ 258) (hdt : ∀ i, nt ≤ i → dt i = 0) (hc : c ≤ 258) (h1 : ∀ j, j < c → e j < 4294967296) (h2 : ∀ j, c ≤ j → e j = dt j) {K : ah_H → Prop}
    (hK : ∀ (n' : Nat) (d' : Nat → Nat), cn_D d' n' → dg_v 4294967296 d' n' = dg_v 4294967296 e c → K (wd_S h t q n' ngt d')) : w_WH_settle t (nI c) (wd_S h t q nt ngt e) K := by
  have He : wh_S (wd_S h t q nt ngt e) t q nt ngt e := wh_wd Tq
  have hez : ∀ i, c ≤ i → zr_n e c nt i = 0 := fun i hi => by
    unfold zr_n
    by_cases hn : i < nt
    · rw [if_pos ⟨hi, hn⟩]
    · rw [if_neg (by omega), h2 i hi, hdt i (by omega)]
  have hel : ∀ i, i < c → zr_n e c nt i = e i := fun i hi => by
    unfold zr_n; rw [if_neg (by omega)]
  have heb : ∀ i, zr_n e c nt i < 4294967296 := fun i => by
    by_cases hi : i < c
    · rw [hel i hi]; exact h1 i hi
    · rw [hez i (by omega)]; decide
  refine s_settle' He hnt hc heb ?_
  rw [wd_wd]
  refine hK (tr_n (zr_n e c nt) c) (zr_n e c nt) (cn_tr heb hez hc) ?_
  rw [tr_v, dg_cg hel]
theorem s63_k {m : Nat} (h : m < 18446744073709551616) : ((lN m).toUInt64 >>> ((63 : Int32).toInt64.toUInt64 &&& Int64.toUInt64 63)).toInt64 = lN (m / 9223372036854775808) := wb_shr (k := 63) h (by decide)
/-- one limb's difference with what is borrowed -/
theorem df_k {x y b : Nat} (hx : x < 4294967296) (hy : y < 4294967296) (hb : b ≤ 1) : ∃ m c, lN x - lN y - lN b = lN m ∧ m < 18446744073709551616 ∧ lN m &&& (4294967295 : Int64) = lN (x + c * 4294967296 - y - b) ∧ ((lN m).toUInt64 >>> ((63 : Int32).toInt64.toUInt64 &&& Int64.toUInt64 63)).toInt64 = lN c ∧ c ≤ 1 ∧ y + b ≤ x + c * 4294967296 ∧ x + c * 4294967296 - y - b < 4294967296 ∧ (lN m < 0 ↔ c = 1) := by
  have hsg : ∀ m, m < 18446744073709551616 → (lN m < 0 ↔ ¬ m < 9223372036854775808) := fun m hm => by rw [← lN_sg hm, Int64.not_le]
  by_cases hc : y + b ≤ x
  · refine ⟨x - y - b, 0, ?_, by omega, ?_, ?_, by omega, by omega, by omega, ?_⟩
    · rw [lN_sub (by omega), lN_sub (by omega)]
    · rw [ms_k (by omega), Nat.mod_eq_of_lt (by omega)]; simp
    · rw [s63_k (by omega), Nat.div_eq_of_lt (by omega)]
    · rw [hsg _ (by omega)]; omega
  · refine ⟨18446744073709551616 + x - y - b, 1, ?_, by omega, ?_, ?_, by omega, by omega, by omega, ?_⟩
    · have e1 : lN x = lN (18446744073709551616 + x) := by rw [wb_mod x, wb_mod (18446744073709551616 + x)]; congr 1; omega
      rw [e1, lN_sub (by omega), lN_sub (by omega)]
    · rw [ms_k (by omega)]; congr 1; omega
    · rw [s63_k (by omega)]; congr 1; omega
    · rw [hsg _ (by omega)]; omega
theorem sb_step {B x y b c i : Nat} {a d e : Nat → Nat} (ha : a i = x) (hd : d i = y) (hc : y + b ≤ x + c * B) (inv : dg_v B a i + b * B ^ i = dg_v B e i + dg_v B d i) : dg_v B a (i + 1) + c * B ^ (i + 1) = dg_v B (dg_u e i (x + c * B - y - b)) (i + 1) + dg_v B d (i + 1) := by
  have e2 : dg_v B a (i + 1) = dg_v B a i + x * B ^ i := by rw [← ha]; rfl
  have e2' : dg_v B d (i + 1) = dg_v B d i + y * B ^ i := by rw [← hd]; rfl
  have e3 : c * B ^ (i + 1) = c * B * B ^ i := by rw [Nat.pow_succ, Nat.mul_comm (B ^ i) B, Nat.mul_assoc]
  rw [dg_s1, e2, e2', e3]
  obtain ⟨r, hr⟩ : ∃ r, x + c * B = y + b + r := ⟨x + c * B - (y + b), by omega⟩
  have e4 : x + c * B - y - b = r := by omega
  have e5 : x * B ^ i + c * B * B ^ i = y * B ^ i + b * B ^ i + r * B ^ i := by rw [← Nat.add_mul, hr, Nat.add_mul, Nat.add_mul]
  rw [e4]
  omega
variable {t q nt : Nat} {ngt : Bool} {dt : Nat → Nat}
theorem s_diff_a (Tq : wq_S h t q) (A : wh_S h a qa na nga da) (Bw : wh_S h b qb nb ngb db) (hda : ∀ i, da i < 4294967296) (hdb : ∀ i, db i < 4294967296) (alA : al_S a qa da t q dt) (alB : al_S b qb db t q dt) {n : Nat} (hn : n ≤ 258) {xt : Nat → Int32 → ah_H → Prop} {K : ah_H → Prop}
    (hx : ∀ (e : Nat → Nat) (c : Nat), (∀ j, j < n → e j < 4294967296) → (∀ j, n ≤ j → e j = dt j) → dg_v 4294967296 da n + c * 4294967296 ^ n = dg_v 4294967296 e n + dg_v 4294967296 db n → xt t (nI n) (wd_S h t q nt ngt e)) :
    ∀ (k i : Nat) (e : Nat → Nat) (c : Nat), n = i + k → (∀ j, j < i → e j < 4294967296) → (∀ j, i ≤ j → e j = dt j) → c ≤ 1 → dg_v 4294967296 da i + c * 4294967296 ^ i = dg_v 4294967296 e i + dg_v 4294967296 db i → ∃ m, lp_SU_differenceOfAbsolutes_11 xt K m t a b (nI n) (lN c) (nI i) (wd_S h t q nt ngt e) := by
  intro k
  induction k with
  | zero =>
    intro i e c hi h1 h2 h3 h4
    have e0 : i = n := by omega
    subst e0
    refine ⟨0 + 1, ?_⟩
    rw [lp_SU_differenceOfAbsolutes_11]
    exact ⟨fun _ => hx e c h1 h2 h4, fun hc => absurd (nI_le (Nat.le_refl i) (by omega)) hc⟩
  | succ k ih =>
    intro i e c hi h1 h2 h3 h4
    have hvi : ∀ {q' : Nat}, ah_N h q' = 258 → vp_in (nI i) (ah_N (wd_S h t q nt ngt e) q') := fun hq => by
      rw [show ah_N (wd_S h t q nt ngt e) _ = 258 from hq]
      exact vp_in_nI (by omega) (by decide)
    have H : wh_S (wd_S h t q nt ngt e) t q nt ngt e := wh_wd Tq
    obtain ⟨v, c', d1, d2, d3, d4, d5, d6, d7, _⟩ := df_k (hda i) (hdb i) h3
    have hst := sb_step (B := 4294967296) (a := da) (d := db) (i := i) (e := e) rfl rfl d6 h4
    generalize da i + c' * 4294967296 - db i - c = s at d3 d7 hst
    obtain ⟨m, hm⟩ := ih (i + 1) (dg_u e i s) c' (by omega) (fun j hj => by
        by_cases z : j = i
        · rw [z, dg_us]; exact d7
        · rw [dg_un z]; exact h1 j (by omega)) (fun j hj => by rw [dg_un (by omega)]; exact h2 j (by omega)) d5 hst
    refine ⟨m + 1, ?_⟩
    rw [lp_SU_differenceOfAbsolutes_11]
    refine ⟨fun hc => absurd hc (nI_ge (by omega) (by omega)), fun _ => ⟨A.1.1, qa, A.1.2.1, A.1.2.2.1, hvi A.1.2.2.2, Bw.1.1, qb, Bw.1.2.1, Bw.1.2.2.1, hvi Bw.1.2.2.2, fun v25 e25 => ⟨Tq.1, q, Tq.2.1, fun v29 e29 => ⟨Tq.2.2.1, hvi Tq.2.2.2, fun h32 e32 v40 e40 v41 e41 => ?_⟩⟩⟩⟩
    have ev : v25 = lN v := by
      rw [e25, nI_clamp (by omega), al_rd A alA (h2 i (Nat.le_refl i)), al_rd Bw alB (h2 i (Nat.le_refl i)), d1]
    rw [ev, d3] at e29
    rw [e29, nI_clamp (by omega), wh_up H, wd_wd] at e32
    rw [e32, e40, e41, ev, d4, nI_1]
    exact hm
/-- differenceOfAbsolutes(to, a, b) -/
theorem s_diff (T : wh_S h t q nt ngt dt) (hnt : nt ≤ 258) (hdt : ∀ i, nt ≤ i → dt i = 0) (A : wh_S h a qa na nga da) (CA : cn_D da na) (Bw : wh_S h b qb nb ngb db) (CB : cn_D db nb) (hle : dg_v 4294967296 db nb ≤ dg_v 4294967296 da na) (alA : al_S a qa da t q dt) (alB : al_S b qb db t q dt) {K : ah_H → Prop}
    (hK : ∀ (n' : Nat) (d' : Nat → Nat), cn_D d' n' → dg_v 4294967296 d' n' = dg_v 4294967296 da na - dg_v 4294967296 db nb → K (wd_S h t q n' ngt d')) : w_SU_differenceOfAbsolutes t a b h K := by
  have Tq := T.1
  have hnn := cn_le CB CA hle
  have hna := CA.2.2.2
  unfold w_SU_differenceOfAbsolutes
  refine ⟨A.1.1, fun v5 e5 => ?_⟩
  rw [e5, A.2.1, lN0, show (0 : Int32) = nI 0 from rfl]
  have vb : dg_v 4294967296 db na = dg_v 4294967296 db nb := dg_z hnn (fun i hi _ => CB.2.1 i hi)
  have key := s_diff_a (h := h) (nt := nt) (ngt := ngt) (K := K) Tq A Bw CA.1 CB.1 alA alB (n := na) hna (xt := fun (x41 : Nat) (x42 : Int32) h43 => ah_T h43 x41 = 3 ∧ w_WH_settle x41 x42 h43 (fun h45 => ah_m h43 h45 → K h45)) (fun e c h1 h2 h4 => by
    refine ⟨Tq.1, s_fin Tq hnt hdt hna h1 h2 (fun n' d' C hv _ => hK n' d' C ?_)⟩
    have hlt := dg_lt (n := na) h1
    rw [vb] at h4
    have hc : c = 0 := by
      rcases Nat.eq_zero_or_pos c with z | z
      · exact z
      · exfalso
        have h7 : 1 * 4294967296 ^ na ≤ c * 4294967296 ^ na := Nat.mul_le_mul_right _ z
        generalize c * 4294967296 ^ na = cQ at h7 h4
        omega
    rw [hc, Nat.zero_mul, Nat.add_zero] at h4
    rw [hv]
    omega)
    na 0 dt 0 (by omega) (fun j hj => absurd hj (by omega)) (fun _ _ => rfl) (by decide) (by simp [dg_v])
  rw [← wh_eq T] at key
  exact key
theorem bi_ne {x y : Bool} : ¬ bi_n x = bi_n y ↔ x ≠ y := by cases x <;> cases y <;> simp [bi_n]
theorem bi_eq {x y : Bool} : bi_n x = bi_n y ↔ x = y := by cases x <;> cases y <;> simp [bi_n]
theorem or_lt {r : Int32} {x y : Nat} (h : or_N r x y) : r < 0 ↔ x < y := by
  rcases h with ⟨e, h⟩ | ⟨e, h⟩ | ⟨e, h⟩
  · rw [e]; exact ⟨fun _ => h, fun _ => by decide⟩
  · rw [e]; exact ⟨fun z => absurd z (by decide), fun z => by omega⟩
  · rw [e]; exact ⟨fun z => absurd z (by decide), fun z => by omega⟩
theorem sg_b {n m : Nat} {b : Bool} (h : m = 0 ↔ n = 0) : sg_Z (b && decide (0 < n)) m = sg_Z b m := by
  by_cases hn : 0 < n
  · simp [hn]
  · have : m = 0 := h.mpr (by omega)
    subst this
    cases b <;> simp [sg_Z]
/-- total(to, a, b, turned) -/
theorem s_total (T : wh_S h t q nt ngt dt) (CT : cn_D dt nt) (A : wh_S h a qa na nga da) (CA : cn_D da na) (Bw : wh_S h b qb nb ngb db) (CB : cn_D db nb) (hna : na ≤ 257) (hnb : nb ≤ 257) (alA : a ≠ t ∧ qa ≠ q) (alB : b ≠ t ∧ qb ≠ q) (tu : Bool) {K : ah_H → Prop}
    (hK : ∀ (n' : Nat) (g : Bool) (d' : Nat → Nat), cn_D d' n' → (g = true → n' ≠ 0) → sg_Z g (dg_v 4294967296 d' n') = sg_Z nga (dg_v 4294967296 da na) + (if tu then -(sg_Z ngb (dg_v 4294967296 db nb)) else sg_Z ngb (dg_v 4294967296 db nb)) → K (wd_S h t q n' g d')) : w_SU_total t a b (bi_n tu) h K := by
  have Tq := T.1
  have hsb : (if tu then -(sg_Z ngb (dg_v 4294967296 db nb)) else sg_Z ngb (dg_v 4294967296 db nb)) = sg_Z (ngb != tu) (dg_v 4294967296 db nb) := by cases tu <;> cases ngb <;> simp [sg_Z]
  rw [hsb] at hK
  have key : bk_SU_total_13 K t a b (bi_n (ngb != tu)) h := by
    generalize (ngb != tu) = sb at hK
    have mk : ∀ (n' : Nat) (d' : Nat → Nat) (g : Bool), cn_D d' n' → sg_Z g (dg_v 4294967296 d' n') = sg_Z nga (dg_v 4294967296 da na) + sg_Z sb (dg_v 4294967296 db nb) → w_WH_markSign t (bi_n g) (wd_S h t q n' ngt d') (fun h23 => ah_m (wd_S h t q n' ngt d') h23 → bk_SU_total_78 K h23) := by
      intro n' d' g C hv
      refine s_markSign (wh_wd Tq) C.2.2.2 g (fun _ => ?_)
      rw [wd_wd]
      refine hK n' _ d' C (fun z => ?_) ?_
      · have := (Bool.and_eq_true_iff.mp z).2
        have := of_decide_eq_true this
        omega
      · rw [sg_b (cn_0 C)]; exact hv
    unfold bk_SU_total_13
    refine ⟨A.1.1, fun hn => ?_, fun he => ?_⟩
    · rw [A.2.2.1, bi_ne] at hn
      refine s_order A CA Bw CB (fun r hr _ => ⟨fun hl => ?_, fun hl => ?_⟩)
      · have hlt := (or_lt hr).mp hl
        refine s_diff T CT.2.2.2 CT.2.1 Bw CB A CA (by omega) (Or.inr alB) (Or.inr alA) (fun n' d' C hv _ => ⟨Tq.1, mk n' d' sb C ?_⟩)
        rw [hv]
        revert hn
        cases nga <;> cases sb <;> simp [sg_Z] <;> omega
      · have hlt : ¬ _ := fun z => hl ((or_lt hr).mpr z)
        refine s_diff T CT.2.2.2 CT.2.1 A CA Bw CB (by omega) (Or.inr alA) (Or.inr alB) (fun n' d' C hv _ => ⟨Tq.1, ?_⟩)
        rw [show ah_I (wd_S h t q n' ngt d') 1 a = bi_n nga from (ws_Ia alA.1).trans A.2.2.1]
        refine mk n' d' nga C ?_
        rw [hv]
        revert hn
        cases nga <;> cases sb <;> simp [sg_Z] <;> omega
    · rw [A.2.2.1, bi_eq] at he
      refine s_sum T CT.2.2.2 CT.2.1 A CA Bw CB hna hnb (Or.inr alA) (Or.inr alB) (fun n' d' C hv _ => ⟨Tq.1, ?_⟩)
      rw [show ah_I (wd_S h t q n' ngt d') 1 a = bi_n nga from (ws_Ia alA.1).trans A.2.2.1]
      refine mk n' d' nga C ?_
      rw [hv]
      revert he
      cases nga <;> cases sb <;> simp [sg_Z] <;> omega
  unfold w_SU_total
  refine ⟨Bw.1.1, fun he => ?_, fun hn => ?_⟩
  · rw [Bw.2.2.1, bi_eq] at he
    rw [he, show (tu != tu) = false by cases tu <;> rfl] at key
    exact key
  · rw [Bw.2.2.1, bi_ne] at hn
    rw [show (ngb != tu) = true by cases tu <;> cases ngb <;> simp_all] at key
    exact key
end SU2
