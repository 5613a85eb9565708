/-! the content of one Whole: its size, its sign, its limbs -/
def ws_S (h : ah_H) (w q : Nat) (s n : Int32) (L : Nat → Int64) : ah_H := ah_sI (ah_sI (ah_cL h q L) 0 w s) 1 w n
theorem ah_ext {h h' : ah_H} (h1 : ah_T h' = ah_T h) (h2 : ah_N h' = ah_N h) (h3 : ah_I h' = ah_I h) (h4 : ah_L h' = ah_L h) (h5 : ah_R h' = ah_R h) (h6 : ah_bI h' = ah_bI h) (h7 : ah_bL h' = ah_bL h) (h8 : ah_bR h' = ah_bR h) : h' = h :=
  Prod.ext h1 (Prod.ext h2 (Prod.ext h3 (Prod.ext h4 (Prod.ext h5 (Prod.ext h6 (Prod.ext h7 h8))))))
theorem u2_s {α : Type} (f : Nat → Nat → α) (k a : Nat) (v : α) : ah_u2 f k a v k a = v := by unfold ah_u2; rw [if_pos ⟨rfl, rfl⟩]
theorem u2_k {α : Type} (f : Nat → Nat → α) {k a i j : Nat} (v : α) (h : i ≠ k) : ah_u2 f k a v i j = f i j := by unfold ah_u2; rw [if_neg (fun z => h z.1)]
theorem u2_a {α : Type} (f : Nat → Nat → α) {k a i j : Nat} (v : α) (h : j ≠ a) : ah_u2 f k a v i j = f i j := by unfold ah_u2; rw [if_neg (fun z => h z.2)]
theorem u2_uu {α : Type} (f : Nat → Nat → α) (k a : Nat) (v v' : α) : ah_u2 (ah_u2 f k a v) k a v' = ah_u2 f k a v' := by
  funext i j; unfold ah_u2; by_cases h : i = k ∧ j = a <;> simp [h]
theorem u2_cm {α : Type} (f : Nat → Nat → α) {k k' : Nat} (a a' : Nat) (v v' : α) (h : k ≠ k') : ah_u2 (ah_u2 f k a v) k' a' v' = ah_u2 (ah_u2 f k' a' v') k a v := by
  funext i j; unfold ah_u2
  by_cases h1 : i = k ∧ j = a
  · have h2 : ¬ (i = k' ∧ j = a') := fun z => h (h1.1.symm.trans z.1)
    simp [h1, h2]
    intro h3; exact absurd h3 h
  · by_cases h2 : i = k' ∧ j = a'
    · simp [h2]
      intro h3; exact absurd h3.symm h
    · simp [h1, h2]
theorem u2_id {α : Type} (f : Nat → Nat → α) (k a : Nat) : ah_u2 f k a (f k a) = f := by
  funext i j; unfold ah_u2; by_cases h : i = k ∧ j = a
  · simp [h]
  · simp [h]
theorem up_id {α : Type} (f : Nat → α) (a : Nat) : va_up f a (f a) = f := by
  funext j; unfold va_up; by_cases h : j = a <;> simp [h]
section WS1
variable {h : ah_H} {w q : Nat} {s n : Int32} {L : Nat → Int64}
theorem ws_I0 : ah_I (ws_S h w q s n L) 0 w = s := by
  show ah_u2 (ah_u2 (ah_I h) 0 w s) 1 w n 0 w = s
  rw [u2_k _ _ (by decide), u2_s]
theorem ws_I1 : ah_I (ws_S h w q s n L) 1 w = n := u2_s _ _ _ _
theorem ws_Ia {k a : Nat} (ha : a ≠ w) : ah_I (ws_S h w q s n L) k a = ah_I h k a := by
  show ah_u2 (ah_u2 (ah_I h) 0 w s) 1 w n k a = _
  rw [u2_a _ _ ha, u2_a _ _ ha]
theorem ws_Ik {k a : Nat} (hk : 2 ≤ k) : ah_I (ws_S h w q s n L) k a = ah_I h k a := by
  show ah_u2 (ah_u2 (ah_I h) 0 w s) 1 w n k a = _
  rw [u2_k _ _ (by omega), u2_k _ _ (by omega)]
theorem ws_b : ah_bL (ws_S h w q s n L) q = L := va_up_self _ _ _
theorem ws_ba {a : Nat} (ha : a ≠ q) : ah_bL (ws_S h w q s n L) a = ah_bL h a := va_up_ne _ _ ha
theorem ws_T : ah_T (ws_S h w q s n L) = ah_T h := rfl
theorem ws_N : ah_N (ws_S h w q s n L) = ah_N h := rfl
theorem ws_R : ah_R (ws_S h w q s n L) = ah_R h := rfl
theorem ws_L : ah_L (ws_S h w q s n L) = ah_L h := rfl
theorem ws_bI : ah_bI (ws_S h w q s n L) = ah_bI h := rfl
theorem ws_bR : ah_bR (ws_S h w q s n L) = ah_bR h := rfl
theorem ws_c {L' : Nat → Int64} : ah_cL (ws_S h w q s n L) q L' = ws_S h w q s n L' := by
  refine ah_ext rfl rfl rfl rfl rfl rfl ?_ rfl
  show va_up (va_up (ah_bL h) q L) q L' = va_up (ah_bL h) q L'
  exact bx_uu _ _ _ _
theorem ws_0 {s' : Int32} : ah_sI (ws_S h w q s n L) 0 w s' = ws_S h w q s' n L := by
  refine ah_ext rfl rfl ?_ rfl rfl rfl rfl rfl
  show ah_u2 (ah_u2 (ah_u2 (ah_I h) 0 w s) 1 w n) 0 w s' = ah_u2 (ah_u2 (ah_I h) 0 w s') 1 w n
  rw [u2_cm _ _ _ _ _ (show (1 : Nat) ≠ 0 by decide), u2_uu]
theorem ws_1 {n' : Int32} : ah_sI (ws_S h w q s n L) 1 w n' = ws_S h w q s n' L := by
  refine ah_ext rfl rfl ?_ rfl rfl rfl rfl rfl
  show ah_u2 (ah_u2 (ah_u2 (ah_I h) 0 w s) 1 w n) 1 w n' = ah_u2 (ah_u2 (ah_I h) 0 w s) 1 w n'
  rw [u2_uu]
theorem ws_ws {s' n' : Int32} {L' : Nat → Int64} : ws_S (ws_S h w q s n L) w q s' n' L' = ws_S h w q s' n' L' := by
  unfold ws_S
  show ah_sI (ah_sI (ah_cL (ws_S h w q s n L) q L') 0 w s') 1 w n' = _
  rw [ws_c, ws_0, ws_1]
  rfl
theorem ws_id : ws_S h w q (ah_I h 0 w) (ah_I h 1 w) (ah_bL h q) = h := by
  refine ah_ext rfl rfl ?_ rfl rfl rfl ?_ rfl
  · show ah_u2 (ah_u2 (ah_I h) 0 w (ah_I h 0 w)) 1 w (ah_I h 1 w) = ah_I h
    rw [u2_id, u2_id]
  · exact up_id _ _
end WS1
/-- limbs by their numbers -/
def lw_n (d : Nat → Nat) : Nat → Int64 := fun i => lN (d i)
def bi_n (b : Bool) : Int32 := if b then 1 else 0
def dg_u (d : Nat → Nat) (i x : Nat) : Nat → Nat := fun j => if j = i then x else d j
theorem lw_u (d : Nat → Nat) (i x : Nat) : vp_updL (lw_n d) i (lN x) = lw_n (dg_u d i x) := by
  funext j; unfold vp_updL lw_n dg_u; by_cases h : j = i <;> simp [h]
theorem dg_us {d : Nat → Nat} {i x : Nat} : dg_u d i x i = x := by simp [dg_u]
theorem dg_un {d : Nat → Nat} {i j x : Nat} (h : j ≠ i) : dg_u d i x j = d j := by simp [dg_u, h]
/-- heap h with Whole w (limbs at q) made to n limbs d, sign ng -/
def wd_S (h : ah_H) (w q n : Nat) (ng : Bool) (d : Nat → Nat) : ah_H := ws_S h w q (nI n) (bi_n ng) (lw_n d)
/-- the Whole w has its limbs at q -/
def wq_S (h : ah_H) (w q : Nat) : Prop := ah_T h w = 3 ∧ ah_R h 5 w = some q ∧ ah_T h q = 110 ∧ ah_N h q = 258
/-- what it holds -/
def wh_S (h : ah_H) (w q n : Nat) (ng : Bool) (d : Nat → Nat) : Prop := wq_S h w q ∧ ah_I h 0 w = nI n ∧ ah_I h 1 w = bi_n ng ∧ ah_bL h q = lw_n d
theorem wh_eq {h : ah_H} {w q n : Nat} {ng : Bool} {d : Nat → Nat} (H : wh_S h w q n ng d) : h = wd_S h w q n ng d := by
  unfold wd_S
  rw [← H.2.1, ← H.2.2.1, ← H.2.2.2, ws_id]
theorem wh_wd {h : ah_H} {w q n : Nat} {ng : Bool} {d : Nat → Nat} (H : wq_S h w q) : wh_S (wd_S h w q n ng d) w q n ng d := ⟨H, ws_I0, ws_I1, ws_b⟩
/-- the size behind the zeros at the top -/
def tr_n (d : Nat → Nat) : Nat → Nat
  | 0 => 0
  | c + 1 => if d c = 0 then tr_n d c else c + 1
/-- zeros from c to k -/
def zr_n (d : Nat → Nat) (c k : Nat) : Nat → Nat := fun i => if c ≤ i ∧ i < k then 0 else d i
theorem zr_step {d : Nat → Nat} {c k : Nat} (h : c < k) : zr_n (dg_u d c 0) (c + 1) k = zr_n d c k := by
  funext i; unfold zr_n dg_u
  by_cases h1 : i = c
  · subst h1; simp [h]
  · by_cases h2 : c + 1 ≤ i ∧ i < k
    · simp [h2, show c ≤ i by omega]
    · rw [if_neg h2, if_neg h1, if_neg (by omega)]
theorem zr_0 {d : Nat → Nat} {c k : Nat} (h : k ≤ c) : zr_n d c k = d := by
  funext i; unfold zr_n; rw [if_neg (by omega)]
theorem nI258 {n : Nat} (h : n ≤ 2600) : n < 2 ^ 31 := by omega
theorem nI_m1 {n : Nat} (h : 0 < n) : nI n - (1 : Int32) = nI (n - 1) := by
  obtain ⟨k, rfl⟩ : ∃ k, n = k + 1 := ⟨n - 1, by omega⟩
  rw [nI_pred]; rfl
theorem lN0 : (0 : Int64) = lN 0 := rfl
theorem lN_z {n : Nat} (h : n < 2 ^ 63) : lN n = (0 : Int64) ↔ n = 0 := by rw [lN0]; exact pk_lEQ h (by decide)
