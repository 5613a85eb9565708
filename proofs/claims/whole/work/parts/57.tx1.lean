section TX1
/-- a byte by its number below 256 -/
def by_n (b : Nat) : Int32 := (nI b).toInt8.toInt32
theorem by_f : ∀ b, b < 256 → ((by_n b = 45 ↔ b = 45) ∧ (by_n b = 48 ↔ b = 48) ∧ (by_n b < 48 ↔ (b < 48 ∨ 128 ≤ b)) ∧ (by_n b ≤ 57 ↔ (b ≤ 57 ∨ 128 ≤ b))) := by decide +kernel
theorem by_d : ∀ b, b < 128 → by_n b = nI b := by decide +kernel
/-- where the digits begin -/
def tx_s (f : Nat → Nat) : Nat := if f 0 = 45 then 1 else 0
def tx_D (f : Nat → Nat) (i : Nat) : Prop := 48 ≤ f i ∧ f i ≤ 57
/-- the first n bytes are a text -/
def tx_G (f : Nat → Nat) (n : Nat) : Prop := 1 ≤ n ∧ n ≠ tx_s f ∧ ¬ (f (tx_s f) = 48 ∧ 1 < n) ∧ ∀ i, tx_s f ≤ i → i < n → tx_D f i
/-- what k digits from s on say -/
def tx_V (f : Nat → Nat) (s : Nat) : Nat → Nat
  | 0 => 0
  | k + 1 => tx_V f s k * 10 + (f (s + k) - 48)
theorem tx_Vlt {f : Nat → Nat} {s : Nat} : ∀ {k : Nat}, (∀ i, s ≤ i → i < s + k → tx_D f i) → tx_V f s k < 10 ^ k
  | 0, _ => by rw [tx_V, Nat.pow_zero]; decide
  | k + 1, H => by
    have h1 := tx_Vlt (k := k) (fun i h1 h2 => H i h1 (by omega))
    have h2 := H (s + k) (by omega) (by omega)
    unfold tx_D at h2
    rw [tx_V, Nat.pow_succ]
    omega
def tp_S (h : ah_H) (p : Nat) (f : Nat → Nat) : Prop := ah_T h p = 101 ∧ ah_N h p = 2600 ∧ (∀ k, f k < 256) ∧ ∀ k, k < 2600 → ah_bI h p k = by_n (f k)
variable {h : ah_H} {p n : Nat} {f : Nat → Nat}
theorem s_it_a (T : tp_S h p f) (hn : n ≤ 2600) {s : Nat} {xt70 xt78 : ah_H → Prop} {K : Int32 → ah_H → Prop} (h70 : ¬ (∀ i, s ≤ i → i < n → tx_D f i) → xt70 h) (h78 : (∀ i, s ≤ i → i < n → tx_D f i) → xt78 h) :
    ∀ (k i : Nat), n = i + k → s ≤ i → (∀ j, s ≤ j → j < i → tx_D f j) → ∃ m, lp_TX_isText_49 xt70 xt78 K m p (nI n) (nI i) h := by
  intro k
  induction k with
  | zero =>
    intro i hi hs H
    refine ⟨0 + 1, ?_⟩
    rw [lp_TX_isText_49]
    exact ⟨fun _ => h78 (fun j h1 h2 => H j h1 (by omega)), fun hc => absurd (nI_le (by omega) (by omega)) hc⟩
  | succ k ih =>
    intro i hi hs H
    have hv : vp_in (nI i) (ah_N h p) := by rw [T.2.1]; exact vp_in_nI (by omega) (by decide)
    have hb := T.2.2.2 i (by omega)
    have hf := by_f (f i) (T.2.2.1 i)
    by_cases hd : tx_D f i
    · obtain ⟨m, hm⟩ := ih (i + 1) (by omega) (by omega) (fun j h1 h2 => by
        by_cases z : j = i
        · rw [z]; exact hd
        · exact H j h1 (by omega))
      refine ⟨m + 1, ?_⟩
      rw [lp_TX_isText_49]
      refine ⟨fun hc => absurd hc (nI_ge (by omega) (by omega)), fun _ => ⟨T.1, hv, fun hl => ?_, fun _ => ⟨hv, fun _ v e => ?_, fun hl => ?_⟩⟩⟩
      · exfalso
        rw [nI_clamp (by omega), hb, hf.2.2.1] at hl
        unfold tx_D at hd
        omega
      · rw [e, nI_1]; exact hm
      · exfalso
        rw [nI_clamp (by omega), hb, hf.2.2.2] at hl
        unfold tx_D at hd
        omega
    · have hno : ¬ (∀ i, s ≤ i → i < n → tx_D f i) := fun z => hd (z i hs (by omega))
      refine ⟨0 + 1, ?_⟩
      rw [lp_TX_isText_49]
      refine ⟨fun hc => absurd hc (nI_ge (by omega) (by omega)), fun _ => ⟨T.1, hv, fun hl => h70 hno, fun hl => ⟨hv, fun hg v e => ?_, fun hl => h70 hno⟩⟩⟩
      exfalso
      rw [nI_clamp (by omega), hb, hf.2.2.1] at hl
      rw [nI_clamp (by omega), hb, hf.2.2.2] at hg
      unfold tx_D at hd
      omega
theorem s_it_26 (T : tp_S h p f) (h1 : 1 ≤ n) (hn : n ≤ 2600) {K : Int32 → ah_H → Prop} (hK : ∀ g : Bool, (g = true ↔ tx_G f n) → K (bi_n g) h) : bk_TX_isText_26 K p (nI n) (nI (tx_s f)) h := by
  have hs : tx_s f ≤ 1 := by unfold tx_s; split <;> omega
  have hv : vp_in (nI (tx_s f)) (ah_N h p) := by rw [T.2.1]; exact vp_in_nI (by omega) (by decide)
  have hb := T.2.2.2 (tx_s f) (by omega)
  have hf := by_f (f (tx_s f)) (T.2.2.1 _)
  have go : n ≠ tx_s f → ¬ (f (tx_s f) = 48 ∧ 1 < n) → bk_TX_isText_47 K p (nI n) (nI (tx_s f)) h := fun g1 g2 =>
    s_it_a T hn (s := tx_s f) (fun z => hK false ⟨fun y => Bool.noConfusion y, fun y => absurd y.2.2.2 z⟩) (fun z => hK true ⟨fun _ => ⟨h1, g1, g2, z⟩, fun _ => rfl⟩) (n - tx_s f) (tx_s f) (by omega) (Nat.le_refl _) (fun j a b => by omega)
  refine ⟨fun e => hK false ⟨fun y => Bool.noConfusion y, fun y => absurd ((nI_eq (by omega) (by omega)).mp e) y.2.1⟩, fun ne => ⟨T.1, hv, fun hz => go (fun z => ne (by rw [z])) (fun z => hz ?_), fun hz => ⟨fun hl => go (fun z => ne (by rw [z])) (fun z => ?_), fun hl => hK false ⟨fun y => Bool.noConfusion y, fun y => absurd ?_ y.2.2.1⟩⟩⟩⟩
  · rw [nI_clamp (by omega), hb, hf.2.1]; exact z.1
  · have := (nI_leI (a := n) (b := 1) (by omega) (by decide)).mp hl
    omega
  · rw [nI_clamp (by omega), hb, hf.2.1] at hz
    have : ¬ n ≤ 1 := fun z => hl ((nI_leI (a := n) (b := 1) (by omega) (by decide)).mpr z)
    exact ⟨hz, by omega⟩
theorem s_isText (T : tp_S h p f) (hn : n ≤ 2600) {K : Int32 → ah_H → Prop} (hK : ∀ g : Bool, (g = true ↔ tx_G f n) → K (bi_n g) h) : w_TX_isText p (nI n) h K := by
  have hv : vp_in (0 : Int32) (ah_N h p) := by rw [T.2.1]; exact vp_in_nI (n := 0) (by decide) (by decide)
  have hb := T.2.2.2 0 (by decide)
  have hf := by_f (f 0) (T.2.2.1 0)
  refine ⟨fun hl => hK false ⟨fun y => Bool.noConfusion y, fun y => ?_⟩, fun hl => ⟨T.1, fun _ => ⟨hv, fun hm => ?_, fun hm => ?_⟩, fun hc => absurd ?_ hc⟩⟩
  · have := (nI_ltI (a := n) (b := 1) (by omega) (by decide)).mp hl
    have := y.1
    omega
  · have h1 : 1 ≤ n := Nat.le_of_not_lt (fun z => hl ((nI_ltI (a := n) (b := 1) (by omega) (by decide)).mpr z))
    have := s_it_26 T h1 hn hK
    have e : tx_s f = 0 := by
      unfold tx_s
      rw [if_neg (fun z => hm (by show ah_bI h p 0 = _; rw [hb, hf.1]; exact z))]
    rw [e] at this
    exact this
  · have h1 : 1 ≤ n := Nat.le_of_not_lt (fun z => hl ((nI_ltI (a := n) (b := 1) (by omega) (by decide)).mpr z))
    have := s_it_26 T h1 hn hK
    have e : tx_s f = 1 := by
      unfold tx_s
      have hm' : ah_bI h p 0 = 45 := hm
      rw [if_pos (by rw [hb, hf.1] at hm'; exact hm')]
    rw [e] at this
    exact this
  · rw [T.2.1]; exact nI_le hn (by decide)
theorem dg10 : (10 : Nat) ^ 2467 < 4294967296 ^ 258 := by decide +kernel
theorem tx_Vfit {s k : Nat} (hk : k ≤ 2467) (H : ∀ i, s ≤ i → i < s + k → tx_D f i) : tx_V f s k < 4294967296 ^ 258 :=
  Nat.lt_trans (Nat.lt_of_lt_of_le (tx_Vlt H) (Nat.pow_le_pow_right (by decide) hk)) dg10
variable {w q : Nat}
theorem ch_k {c x : Nat} (hx : 48 ≤ x) (hx2 : x ≤ 57) : ((lN c * (10 : Int64)) + (nI x).toInt64) - (48 : Int64) = lN (c * 10 + (x - 48)) := by
  rw [nI_l (by omega)]
  show lN c * lN 10 + lN x - lN 48 = _
  rw [lN_mul, lN_add, lN_sub (by omega)]
  congr 1
  omega
theorem ch_j {v c x j F : Nat} (I : v * 10 ^ j + c = F) : v * 10 ^ (j + 1) + (c * 10 + x) = F * 10 + x := by
  rw [← I, Nat.pow_succ, ← Nat.mul_assoc, Nat.add_mul]; omega
theorem s_nu_a (T : tp_S h p f) (hn : n ≤ 2600) (hw : w ≠ p) {s : Nat} (hs : s ≤ n) (hm : n - s ≤ 2467) (hD : ∀ i, s ≤ i → i < n → tx_D f i) {sI : Int32} {xt : Nat → Int32 → ah_H → Prop} {K : Int32 → ah_H → Prop}
    (hx : ∀ (n' : Nat) (d' : Nat → Nat), cn_D d' n' → dg_v 4294967296 d' n' = tx_V f s (n - s) → xt w sI (wd_S h w q n' false d')) :
    ∀ (k i : Nat) (nw : Nat) (d : Nat → Nat) (c j : Nat), n = i + k → s ≤ i → wh_S (wd_S h w q nw false d) w q nw false d → cn_D d nw → c < 10 ^ j → j < 9 → (k + j) % 9 = 0 → dg_v 4294967296 d nw * 10 ^ j + c = tx_V f s (i - s) → lp_TX_numberOf_45 xt K (k + 1) w p (nI n) sI (lN c) (nI i) (wd_S h w q nw false d) := by
  intro k
  induction k with
  | zero =>
    intro i nw d c j hi hsi W C hc hj h9 I
    have hj0 : j = 0 := by omega
    subst hj0
    rw [Nat.pow_zero] at hc I
    have hi' : i = n := by omega
    subst hi'
    rw [lp_TX_numberOf_45]
    refine ⟨fun _ => hx nw d C (by omega), fun hc => absurd (nI_le (Nat.le_refl _) (by omega)) hc⟩
  | succ k ih =>
    intro i nw d c j hi hsi W C hc hj h9 I
    have hd := hD i hsi (by omega)
    have hd' := hd
    unfold tx_D at hd'
    have hv : vp_in (nI i) (ah_N (wd_S h w q nw false d) p) := by
      show vp_in (nI i) (ah_N h p)
      rw [T.2.1]; exact vp_in_nI (by omega) (by decide)
    have hb : ah_bI (wd_S h w q nw false d) p (nI i).toNatClampNeg = nI (f i) := by
      rw [nI_clamp (by omega)]
      show ah_bI h p i = _
      rw [T.2.2.2 i (by omega), by_d _ (by omega)]
    have e1 : tx_V f s (i + 1 - s) = tx_V f s (i - s) * 10 + (f i - 48) := by
      rw [show i + 1 - s = (i - s) + 1 by omega, tx_V, show s + (i - s) = i by omega]
    have hc2 : c * 10 + (f i - 48) < 10 ^ (j + 1) := by rw [Nat.pow_succ]; omega
    have I2 := ch_j (x := f i - 48) I
    rw [← e1] at I2
    have er : ((nI n - (1 : Int32)) - nI i) - ((nI n - (1 : Int32)) - nI i) / (9 : Int32) * (9 : Int32) = nI (k % 9) := by
      rw [nI_m1 (by omega), nI_sub (by omega)]
      show nI _ - nI _ / nI 9 * nI 9 = _
      rw [nI_rem (by omega) (by decide) (by decide)]
      congr 2
      omega
    rw [lp_TX_numberOf_45]
    refine ⟨fun hc => absurd hc (nI_ge (by omega) (by omega)), fun _ => ⟨T.1, hv, fun v ev => ?_⟩⟩
    rw [hb, ch_k hd'.1 hd'.2] at ev
    rw [er]
    refine ⟨fun hne v40 e40 => ?_, fun he => ⟨W.1.1, ?_⟩⟩
    · have hk9 : k % 9 ≠ 0 := fun z => hne (by rw [z]; rfl)
      rw [e40, nI_1, ev]
      exact ih (i + 1) nw d (c * 10 + (f i - 48)) (j + 1) (by omega) (by omega) W C hc2 (by omega) (by omega) I2
    · have hk9 : k % 9 = 0 := by
        rcases Nat.eq_zero_or_pos (k % 9) with z | z
        · exact z
        · exact absurd he (nI_ne0 z (by omega))
      have hj8 : j = 8 := by omega
      subst hj8
      have e9 : (10 : Nat) ^ (8 + 1) = 1000000000 := by decide
      rw [e9] at hc2 I2
      rw [ev]
      have hfit := tx_Vfit (f := f) (s := s) (k := i + 1 - s) (by omega) (fun x a b => hD x a (by omega))
      refine s_appendChunk W C hc2 (by rw [Nat.mul_comm, I2]; exact hfit) (fun n' d' C' v' _ v40 e40 => ?_)
      rw [e40, nI_1, wd_wd]
      exact ih (i + 1) n' d' 0 0 (by omega) (by omega) (wh_wd W.1) C' (by decide) (by decide) (by omega) (by rw [Nat.pow_zero, Nat.mul_one, Nat.add_zero, v', ← I2, Nat.mul_comm])
theorem s_nu_23 (T : tp_S h p f) (h1 : 1 ≤ n) (hn : n ≤ 2600) (hw : w ≠ p) {nw : Nat} {g : Bool} {d : Nat → Nat} (W : wh_S h w q nw g d) (C : cn_D d nw) (G : tx_G f n) {K : Int32 → ah_H → Prop}
    (hK0 : 2467 < n - tx_s f → K 0 h) (hK1 : ∀ (n' : Nat) (b : Bool) (d' : Nat → Nat), n - tx_s f ≤ 2467 → cn_D d' n' → (b = true → n' ≠ 0) → sg_Z b (dg_v 4294967296 d' n') = sg_Z (decide (tx_s f = 1)) (tx_V f (tx_s f) (n - tx_s f)) → K 1 (wd_S h w q n' b d')) : bk_TX_numberOf_23 K w p (nI n) (nI (tx_s f)) h := by
  have hs : tx_s f ≤ 1 := by unfold tx_s; split <;> omega
  have hsn : tx_s f ≤ n := by omega
  refine ⟨fun hl => ⟨W.1.1, s_clear W C.2.2.2 (fun i => Nat.lt_trans (C.1 i) (by decide)) C.2.1 (fun _ => ⟨(n - tx_s f) + 1, ?_⟩)⟩, fun hl => hK0 ?_⟩
  · rw [nI_sub hsn] at hl
    have hl' := (nI_leI (a := n - tx_s f) (b := 2467) (by omega) (by decide)).mp hl
    refine s_nu_a T hn hw hsn hl' G.2.2.2 ?_ (n - tx_s f) (tx_s f) 0 (fun _ => 0) 0 ((9 - (n - tx_s f) % 9) % 9) (by omega) (Nat.le_refl _) (wh_wd W.1) ⟨fun _ => (by decide : (0 : Nat) < 4294967296), fun _ _ => rfl, Or.inl rfl, by decide⟩ (Nat.pow_pos (by decide)) (by omega) (by omega) ?_
    · intro n' d' C' v'
      have fin : ∀ b : Bool, b = decide (tx_s f = 1) → bk_TX_numberOf_107 K (bi_n b) w (wd_S h w q n' false d') := by
        intro b eb
        refine ⟨W.1.1, s_markSign (wh_wd W.1) C'.2.2.2 b (fun _ => ?_)⟩
        rw [wd_wd]
        refine hK1 n' _ d' hl' C' ms_g ?_
        rw [← v', ← eb]
        cases b
        · rfl
        · rcases Nat.eq_zero_or_pos n' with z | z
          · subst z; rfl
          · rw [decide_eq_true z]; rfl
      refine ⟨fun hne => fin false ?_, fun he => fin true ?_⟩
      · exact (decide_eq_false (fun z => hne (by rw [z]; rfl))).symm
      · exact (decide_eq_true ((nI_eq (a := tx_s f) (b := 1) (by omega) (by decide)).mp he)).symm
    · rw [Nat.sub_self, Nat.add_zero]
      exact Nat.zero_mul _
  · rw [nI_sub hsn] at hl
    exact Nat.lt_of_not_le (fun z => hl ((nI_leI (a := n - tx_s f) (b := 2467) (by omega) (by decide)).mpr z))
/-- numberOf(to, row, length) -/
theorem s_numberOf (T : tp_S h p f) (hn : n ≤ 2600) (hw : w ≠ p) {nw : Nat} {g : Bool} {d : Nat → Nat} (W : wh_S h w q nw g d) (C : cn_D d nw) {K : Int32 → ah_H → Prop}
    (hK0 : ¬ (tx_G f n ∧ n - tx_s f ≤ 2467) → K 0 h) (hK1 : ∀ (n' : Nat) (b : Bool) (d' : Nat → Nat), tx_G f n → n - tx_s f ≤ 2467 → cn_D d' n' → (b = true → n' ≠ 0) → sg_Z b (dg_v 4294967296 d' n') = sg_Z (decide (tx_s f = 1)) (tx_V f (tx_s f) (n - tx_s f)) → K 1 (wd_S h w q n' b d')) : w_TX_numberOf w p (nI n) h K := by
  have hv : vp_in (0 : Int32) (ah_N h p) := by rw [T.2.1]; exact vp_in_nI (n := 0) (by decide) (by decide)
  have hb := T.2.2.2 0 (by decide)
  have hf := by_f (f 0) (T.2.2.1 0)
  refine s_isText T hn (fun g hg _ => ⟨fun hne => ⟨T.1, hv, fun hm => ?_, fun hm => ?_⟩, fun he => hK0 (fun z => ?_)⟩)
  · have G : tx_G f n := hg.mp (by cases g; exact absurd rfl hne; rfl)
    have := s_nu_23 T G.1 hn hw W C G (fun z => hK0 (fun y => by omega)) (fun n' b d' y => hK1 n' b d' G y)
    have e : tx_s f = 0 := by
      unfold tx_s
      rw [if_neg (fun z => hm (by show ah_bI h p 0 = _; rw [hb, hf.1]; exact z))]
    rw [e] at this
    exact this
  · have G : tx_G f n := hg.mp (by cases g; exact absurd rfl hne; rfl)
    have := s_nu_23 T G.1 hn hw W C G (fun z => hK0 (fun y => by omega)) (fun n' b d' y => hK1 n' b d' G y)
    have e : tx_s f = 1 := by
      unfold tx_s
      have hm' : ah_bI h p 0 = 45 := hm
      rw [if_pos (by rw [hb, hf.1] at hm'; exact hm')]
    rw [e] at this
    exact this
  · have := hg.mpr z.1
    rw [this] at he
    exact absurd he (by decide)
end TX1
