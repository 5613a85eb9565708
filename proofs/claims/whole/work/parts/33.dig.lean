/-! digits in a base -/
def dg_v (B : Nat) (d : Nat → Nat) : Nat → Nat
  | 0 => 0
  | n + 1 => dg_v B d n + d n * B ^ n
theorem dg_lt {B : Nat} {d : Nat → Nat} : ∀ {n : Nat}, (∀ i, i < n → d i < B) → dg_v B d n < B ^ n := by
  intro n
  induction n with
  | zero => intro _; simp [dg_v]
  | succ n ih =>
    intro h
    have h1 := ih (fun i hi => h i (by omega))
    have h2 : (d n + 1) * B ^ n ≤ B * B ^ n := Nat.mul_le_mul_right _ (h n (by omega))
    have h3 : (d n + 1) * B ^ n = d n * B ^ n + B ^ n := by rw [Nat.add_mul, Nat.one_mul]
    have h4 : B ^ (n + 1) = B * B ^ n := by rw [Nat.pow_succ, Nat.mul_comm]
    show dg_v B d n + d n * B ^ n < B ^ (n + 1)
    omega
theorem dg_cg {B : Nat} {d e : Nat → Nat} : ∀ {n : Nat}, (∀ i, i < n → d i = e i) → dg_v B d n = dg_v B e n := by
  intro n
  induction n with
  | zero => intro _; rfl
  | succ n ih =>
    intro h
    show dg_v B d n + d n * B ^ n = dg_v B e n + e n * B ^ n
    rw [ih (fun i hi => h i (by omega)), h n (by omega)]
theorem dg_sp {B : Nat} {d : Nat → Nat} (k : Nat) : ∀ m : Nat, dg_v B d (k + m) = dg_v B d k + B ^ k * dg_v B (fun i => d (k + i)) m := by
  intro m
  induction m with
  | zero => simp [dg_v]
  | succ m ih =>
    show dg_v B d (k + m) + d (k + m) * B ^ (k + m) = dg_v B d k + B ^ k * (dg_v B (fun i => d (k + i)) m + d (k + m) * B ^ m)
    rw [ih, Nat.pow_add, Nat.mul_add, Nat.add_assoc]
    congr 1
    congr 1
    rw [Nat.mul_left_comm]
theorem dg_z {B : Nat} {d : Nat → Nat} {n : Nat} : ∀ {m : Nat}, n ≤ m → (∀ i, n ≤ i → i < m → d i = 0) → dg_v B d m = dg_v B d n := by
  intro m
  induction m with
  | zero => intro h _; rw [show n = 0 by omega]
  | succ m ih =>
    intro h hz
    by_cases e : n = m + 1
    · rw [e]
    · show dg_v B d m + d m * B ^ m = _
      rw [ih (by omega) (fun i h1 h2 => hz i h1 (by omega)), hz m (by omega) (by omega), Nat.zero_mul, Nat.add_zero]
theorem dg_ge {B : Nat} {d : Nat → Nat} {n : Nat} (h : d n ≠ 0) : B ^ n ≤ dg_v B d (n + 1) := by
  show B ^ n ≤ dg_v B d n + d n * B ^ n
  have : 1 * B ^ n ≤ d n * B ^ n := Nat.mul_le_mul_right _ (by omega)
  omega
theorem tr_le (d : Nat → Nat) : ∀ c, tr_n d c ≤ c := by
  intro c
  induction c with
  | zero => exact Nat.le_refl _
  | succ c ih =>
    unfold tr_n; split
    · omega
    · exact Nat.le_refl _
theorem tr_z (d : Nat → Nat) : ∀ c i, tr_n d c ≤ i → i < c → d i = 0 := by
  intro c
  induction c with
  | zero => intro i _ h; omega
  | succ c ih =>
    intro i h1 h2
    unfold tr_n at h1
    by_cases hz : d c = 0
    · rw [if_pos hz] at h1
      by_cases e : i = c
      · rw [e]; exact hz
      · exact ih i h1 (by omega)
    · rw [if_neg hz] at h1; omega
theorem tr_t (d : Nat → Nat) : ∀ c, tr_n d c = 0 ∨ d (tr_n d c - 1) ≠ 0 := by
  intro c
  induction c with
  | zero => exact Or.inl rfl
  | succ c ih =>
    unfold tr_n; split
    · exact ih
    · rename_i hz; exact Or.inr hz
theorem tr_v (B : Nat) (d : Nat → Nat) (c : Nat) : dg_v B d (tr_n d c) = dg_v B d c := (dg_z (tr_le d c) (tr_z d c)).symm
/-- a row of limbs in its one form -/
def cn_D (d : Nat → Nat) (n : Nat) : Prop := (∀ i, d i < 4294967296) ∧ (∀ i, n ≤ i → d i = 0) ∧ (n = 0 ∨ d (n - 1) ≠ 0) ∧ n ≤ 258
theorem cn_tr {d : Nat → Nat} {c : Nat} (h1 : ∀ i, d i < 4294967296) (h2 : ∀ i, c ≤ i → d i = 0) (hc : c ≤ 258) : cn_D d (tr_n d c) :=
  ⟨h1, fun i hi => by
    by_cases h : i < c
    · exact tr_z d c i hi h
    · exact h2 i (by omega), tr_t d c, Nat.le_trans (tr_le d c) hc⟩
def sg_Z (ng : Bool) (m : Nat) : Int := if ng then -(m : Int) else (m : Int)
/-- the Whole w holds the number z -/
def ho_Z (h : ah_H) (w : Nat) (z : Int) : Prop := ∃ (q n : Nat) (ng : Bool) (d : Nat → Nat), wh_S h w q n ng d ∧ cn_D d n ∧ (ng = true → n ≠ 0) ∧ z = sg_Z ng (dg_v 4294967296 d n)
/-- b is how many bits v needs -/
def bl_N (v b : Nat) : Prop := v < 2 ^ b ∧ (b = 0 ∨ 2 ^ (b - 1) ≤ v)
theorem bl_u {v b c : Nat} (h1 : bl_N v b) (h2 : bl_N v c) : b = c := by
  rcases Nat.lt_trichotomy b c with h | h | h
  · exfalso
    rcases h2.2 with e | e
    · omega
    · have : 2 ^ b ≤ 2 ^ (c - 1) := Nat.pow_le_pow_right (by decide) (by omega)
      have := h1.1
      omega
  · exact h
  · exfalso
    rcases h1.2 with e | e
    · omega
    · have : 2 ^ c ≤ 2 ^ (b - 1) := Nat.pow_le_pow_right (by decide) (by omega)
      have := h2.1
      omega
