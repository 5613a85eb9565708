section BD1
/-- the desk: where its parts lie. W, q: the Wholes (0 .. 11 the registers, 12 made, 13 small, 14 .. 16 the division's, 17, 18 the common divisor's) and their limbs; C: registers, division, common divisor, tape, written -/
def dk_Q (h : ah_H) (x : Nat) (W q : Nat → Nat) (C : Nat × Nat × Nat × Nat × Nat) : Prop :=
  ah_T h x = 4 ∧ (ah_R h 6 x = some C.1 ∧ ah_R h 7 x = some (W 12) ∧ ah_R h 8 x = some (W 13) ∧ ah_R h 9 x = some C.2.1 ∧ ah_R h 10 x = some C.2.2.1 ∧ ah_R h 11 x = some C.2.2.2.1 ∧ ah_R h 12 x = some C.2.2.2.2) ∧ (ah_T h C.1 = 120 ∧ ah_N h C.1 = 12 ∧ ∀ i, i < 12 → ah_bR h C.1 i = some (W i)) ∧ dv_S h C.2.1 (W 14) (W 15) (W 16) ∧ ah_T h C.2.2.1 = 1 ∧ (ah_T h C.2.2.2.1 = 101 ∧ ah_N h C.2.2.2.1 = 2600) ∧ (ah_T h C.2.2.2.2 = 101 ∧ ah_N h C.2.2.2.2 = 2468) ∧ C.2.2.2.1 ≠ C.2.2.2.2 ∧ (∀ i, i < 19 → wq_S h (W i) (q i)) ∧ (∀ i j, i < 19 → j < 19 → W i = W j → i = j) ∧ (∀ i j, i < 19 → j < 19 → q i = q j → i = j)
/-- the Wholes, the registers with their values -/
def dk_W (h : ah_H) (W q : Nat → Nat) (C : Nat × Nat × Nat × Nat × Nat) (z : Nat → Int) : Prop :=
  (∃ X qX Y qY, cd_S h C.2.2.1 X Y ∧ xy_S (W 17) (q 17) (W 18) (q 18) X qX Y qY) ∧ (∀ i, i < 12 → ho_W h (W i) (q i) (z i) ∧ (z i).natAbs < lim_N) ∧ (∀ i, 12 ≤ i → i < 19 → cw_W h (W i) (q i))
def dk_S (h : ah_H) (x : Nat) (W q : Nat → Nat) (C : Nat × Nat × Nat × Nat × Nat) (z : Nat → Int) (tl : Nat) (f : Nat → Nat) (wl : Nat) (g : Nat → Int32) : Prop :=
  dk_Q h x W q C ∧ dk_W h W q C z ∧ (ah_I h 2 x = nI tl ∧ tl ≤ 2600 ∧ (∀ k, f k < 256) ∧ ∀ k, k < 2600 → ah_bI h C.2.2.2.1 k = by_n (f k)) ∧ (ah_I h 3 x = nI wl ∧ wl ≤ 2468 ∧ ∀ i, i < wl → ah_bI h C.2.2.2.2 i = g i)
/-- what the class's calls leave as it was, for the model's sake -/
def fx_S (h h' : ah_H) : Prop := ah_T h' = ah_T h ∧ ah_N h' = ah_N h ∧ (∀ a, ah_T h a = 100 → ah_bI h' a = ah_bI h a) ∧ (∀ k a, ah_T h a = 5 → ah_I h' k a = ah_I h k a ∧ ah_R h' k a = ah_R h k a)
/-- the addresses of the places I -/
def ix_S (W : Nat → Nat) (I : Nat → Prop) : Nat → Prop := fun a => ∃ i, i < 19 ∧ I i ∧ a = W i
variable {h h' : ah_H} {x : Nat} {W q : Nat → Nat} {C : Nat × Nat × Nat × Nat × Nat} {z z' : Nat → Int} {tl wl : Nat} {f : Nat → Nat} {g : Nat → Int32} {I : Nat → Prop}
theorem ix_n {W : Nat → Nat} (hW : ∀ i j, i < 19 → j < 19 → W i = W j → i = j) {i : Nat} (hi : i < 19) (hn : ¬ I i) : ¬ ix_S W I (W i) := fun ⟨j, hj, hI, e⟩ => hn (by have := hW i j hi hj e; rw [this]; exact hI)
theorem fg_cw {S Q R : Nat → Prop} {w p : Nat} (a : fg_S S Q R h h') (H : cw_W h w p) (h1 : ¬ S w) (h2 : ¬ Q p) (h3 : ¬ R w) : cw_W h' w p := by
  obtain ⟨n, b, d, H1, H2⟩ := H
  exact ⟨n, b, d, fg_wh a H1 h1 h2 h3, H2⟩
theorem fg_ho {S Q R : Nat → Prop} {w p : Nat} {v : Int} (a : fg_S S Q R h h') (H : ho_W h w p v) (h1 : ¬ S w) (h2 : ¬ Q p) (h3 : ¬ R w) : ho_W h' w p v := by
  obtain ⟨n, b, d, H1, H2⟩ := H
  exact ⟨n, b, d, fg_wh a H1 h1 h2 h3, H2⟩
theorem ho_cw {w p : Nat} {v : Int} (H : ho_W h w p v) : cw_W h w p := by
  obtain ⟨n, b, d, H1, H2⟩ := H
  exact ⟨n, b, d, H1, H2.1⟩
theorem dk_cdW (Q : dk_Q h x W q C) {i : Nat} (hi : i < 19) : W i ≠ C.2.2.1 := fun e => by
  have h1 := (Q.2.2.2.2.2.2.2.2.1 i hi).1
  rw [e, Q.2.2.2.2.1] at h1
  exact absurd h1 (by decide)
theorem dk_Qfg {S L : Nat → Prop} (Q : dk_Q h x W q C) (F : fg_S S L (· = C.2.2.1) h h') : dk_Q h' x W q C := by
  have eT := F.1
  have eN := F.2.1
  have eb := F.2.2.2.2.1
  have eR : ∀ k a, ah_T h a ≠ 1 → ah_R h' k a = ah_R h k a := fun k a ha => F.2.2.1 k a (fun e => ha (by rw [e]; exact Q.2.2.2.2.1))
  have rx : ∀ k, ah_R h' k x = ah_R h k x := fun k => eR k x (by rw [Q.1]; decide)
  have rd : ∀ k, ah_R h' k C.2.1 = ah_R h k C.2.1 := fun k => eR k _ (by rw [Q.2.2.2.1.1]; decide)
  obtain ⟨q1, q2, q3, q4, q5, q6, q7, q8, q9, q10, q11⟩ := Q
  refine ⟨by rw [eT]; exact q1, by rw [rx, rx, rx, rx, rx, rx, rx]; exact q2, by rw [eT, eN, eb]; exact q3, ?_, by rw [eT]; exact q5, by rw [eT, eN]; exact q6, by rw [eT, eN]; exact q7, q8, fun i hi => ?_, q10, q11⟩
  · unfold dv_S
    rw [eT, rd, rd, rd]; exact q4
  · have := q9 i hi
    unfold wq_S at *
    rw [eT, eN, eR 5 (W i) (by rw [this.1]; decide)]; exact this
theorem dk_up (D : dk_S h x W q C z tl f wl g) (F : fg_S (ix_S W I) (ix_S q I) (· = C.2.2.1) h h') (hcd : ∃ X qX Y qY, cd_S h' C.2.2.1 X Y ∧ xy_S (W 17) (q 17) (W 18) (q 18) X qX Y qY) (h1 : ∀ i, i < 12 → I i → ho_W h' (W i) (q i) (z' i) ∧ (z' i).natAbs < lim_N) (h2 : ∀ i, 12 ≤ i → i < 19 → I i → cw_W h' (W i) (q i)) (h3 : ∀ i, i < 12 → ¬ I i → z' i = z i) : dk_S h' x W q C z' tl f wl g ∧ fx_S h h' := by
  have Q := D.1
  have Q' := dk_Qfg Q F
  obtain ⟨_, ⟨_, w2, w3⟩, t, o⟩ := D
  have hx : ∀ k, ah_I h' k x = ah_I h k x := fun k => F.2.2.2.2.2.1 k x (fun ⟨i, hi, _, e⟩ => by
    have h4 := (Q.2.2.2.2.2.2.2.2.1 i hi).1
    rw [← e, Q.1] at h4
    exact absurd h4 (by decide))
  refine ⟨⟨Q', ⟨hcd, fun i hi => ?_, fun i a b => ?_⟩, ?_, ?_⟩, F.1, F.2.1, fun a _ => by rw [F.2.2.2.1], fun k a ha => ⟨F.2.2.2.2.2.1 k a (fun ⟨i, hi, _, e⟩ => ?_), F.2.2.1 k a (fun e => ?_)⟩⟩
  · by_cases hI : I i
    · exact h1 i hi hI
    · rw [h3 i hi hI]
      exact ⟨fg_ho F (w2 i hi).1 (ix_n Q.2.2.2.2.2.2.2.2.2.1 (by omega) hI) (ix_n Q.2.2.2.2.2.2.2.2.2.2 (by omega) hI) (dk_cdW Q (by omega)), (w2 i hi).2⟩
  · by_cases hI : I i
    · exact h2 i a b hI
    · exact fg_cw F (w3 i a b) (ix_n Q.2.2.2.2.2.2.2.2.2.1 b hI) (ix_n Q.2.2.2.2.2.2.2.2.2.2 b hI) (dk_cdW Q b)
  · rw [hx, F.2.2.2.1]; exact t
  · rw [hx, F.2.2.2.1]; exact o
  · have h4 := (Q.2.2.2.2.2.2.2.2.1 i hi).1
    rw [← e, ha] at h4
    exact absurd h4 (by decide)
  · have h4 := Q.2.2.2.2.1
    rw [← e, ha] at h4
    exact absurd h4 (by decide)
/-- only a frame of the first kind -/
theorem dk_fr (D : dk_S h x W q C z tl f wl g) (F : fr_S (ix_S W I) (ix_S q I) h h') (h1 : ∀ i, i < 12 → I i → ho_W h' (W i) (q i) (z' i) ∧ (z' i).natAbs < lim_N) (h2 : ∀ i, 12 ≤ i → i < 19 → I i → cw_W h' (W i) (q i)) (h3 : ∀ i, i < 12 → ¬ I i → z' i = z i) : dk_S h' x W q C z' tl f wl g ∧ fx_S h h' := by
  refine dk_up D (fg_fr F (fun _ z => z) (fun _ z => z)) ?_ h1 h2 h3
  obtain ⟨X, qX, Y, qY, c1, c2⟩ := D.2.1.1
  refine ⟨X, qX, Y, qY, ?_, c2⟩
  unfold cd_S at *
  rw [F.1, F.2.2.1]; exact c1
theorem ix_i {W : Nat → Nat} {i : Nat} (hi : i < 19) (hI : I i) : ix_S W I (W i) := ⟨i, hi, hI, rfl⟩
theorem dk_ne (Q : dk_Q h x W q C) {i j : Nat} (hi : i < 19) (hj : j < 19) (hn : i ≠ j) : W i ≠ W j ∧ q i ≠ q j := ⟨fun e => hn (Q.2.2.2.2.2.2.2.2.2.1 i j hi hj e), fun e => hn (Q.2.2.2.2.2.2.2.2.2.2 i j hi hj e)⟩
theorem ho_un {w p : Nat} {u v : Int} (H1 : ho_W h w p u) (H2 : ho_W h w p v) : u = v := by
  obtain ⟨n, b, d, A1, A2, A3, A4⟩ := H1
  obtain ⟨n', b', d', B1, B2, B3, B4⟩ := H2
  have x1 := A2.2.2.2
  have x2 := B2.2.2.2
  have e1 : n = n' := (nI_eq (by omega) (by omega)).mp (A1.2.1.symm.trans B1.2.1)
  have e2 : b = b' := bi_eq.mp (A1.2.2.1.symm.trans B1.2.2.1)
  subst e1; subst e2
  rw [A4, B4]
  congr 1
  refine dg_cg (fun i hi => ?_)
  have := congrFun (A1.2.2.2.symm.trans B1.2.2.2) i
  have a1 := A2.1 i
  have a2 := B2.1 i
  exact (pk_lEQ (by omega) (by omega)).mp this
theorem sg_na {b : Bool} {n : Nat} : (sg_Z b n).natAbs = n := by
  cases b
  · exact Int.natAbs_natCast n
  · rw [sg_t, Int.natAbs_neg, Int.natAbs_natCast]
theorem lim_256 : lim_N = 4294967296 ^ 256 := by rw [lim_eq, BB_2]
theorem ho_256 {n : Nat} {d : Nat → Nat} (C : cn_D d n) (h : dg_v 4294967296 d n < lim_N) : n ≤ 256 := cn_szl C (by rw [← lim_256]; exact h)
theorem bl_lim {v b : Nat} (H : bl_N v b) : b ≤ 8192 ↔ v < lim_N := by
  rw [lim_eq]
  constructor
  · intro hb
    exact Nat.lt_of_lt_of_le H.1 (Nat.pow_le_pow_right (by decide) hb)
  · intro hv
    rcases H.2 with y | y
    · omega
    · have := (Nat.pow_lt_pow_iff_right (a := 2) (by decide)).mp (Nat.lt_of_le_of_lt y hv)
      omega
theorem bl_258 {n : Nat} {d : Nat → Nat} (C : cn_D d n) : ∃ b, b ≤ 8256 ∧ bl_N (dg_v 4294967296 d n) b := by
  refine bl_ex 8256 _ ?_
  have h1 := cn_lt C
  have h2 : (4294967296 : Nat) ^ n ≤ 4294967296 ^ 258 := Nat.pow_le_pow_right (by decide) C.2.2.2
  rw [BB_2 258] at h2
  exact Nat.lt_of_lt_of_le h1 h2
/-- register(r) -/
theorem s_register (Q : dk_Q h x W q C) {r : Int32} {K : Nat → ah_H → Prop} {Ex : String → ah_H → Prop} (h0 : rk_n r < 12 → K (W (rk_n r)) h) (h1 : ¬ rk_n r < 12 → Ex "java/lang/IllegalArgumentException" h) : w_BD_register x r h K Ex := by
  by_cases e : rk_n r < 12
  · have hr := rk_ok e
    refine ⟨fun hc => absurd hc hr.1, fun _ => ⟨fun _ => ⟨Q.1, C.1, Q.2.1.1, Q.2.2.1.1, ?_, W (rk_n r), ?_, h0 e⟩, fun hc => absurd hr.2.1 hc⟩⟩
    · rw [hr.2.2, Q.2.2.1.2.1]; exact vp_in_nI e (by decide)
    · have : r.toNatClampNeg = rk_n r := by unfold rk_n; rw [if_neg hr.1]
      rw [this]; exact Q.2.2.1.2.2 _ e
  · refine ⟨fun _ => h1 e, fun h2 => ⟨fun h3 => ?_, fun _ => h1 e⟩⟩
    rcases rk_no e with y | y
    · exact absurd y h2
    · exact absurd h3 y
/-- keepMade(target) -/
theorem s_keepMade (D : dk_S h x W q C z tl f wl g) {r : Nat} (hr : r < 12) {n : Nat} {b : Bool} {d : Nat → Nat} (M : wh_S h (W 12) (q 12) n b d) (CM : cn_D d n) (hb : b = true → n ≠ 0) {K : ah_H → Prop} {Ex : String → ah_H → Prop}
    (h0 : dg_v 4294967296 d n < lim_N → ∀ h', dk_S h' x W q C (zu_n z r (sg_Z b (dg_v 4294967296 d n))) tl f wl g → fx_S h h' → K h') (h1 : lim_N ≤ dg_v 4294967296 d n → Ex "java/lang/IllegalStateException" h) : w_BD_keepMade x (W r) h K Ex := by
  have Q := D.1
  obtain ⟨c, hc, hbl⟩ := bl_258 CM
  obtain ⟨nr, gr, dr, R1, R2, _⟩ := (D.2.1.2.1 r hr).1
  have ne := dk_ne Q (i := 12) (j := r) (by decide) (by omega) (by omega)
  refine ⟨Q.1, W 12, Q.2.1.2.1, M.1.1, s_bits M CM hbl (fun _ => ⟨fun hl => ⟨W 12, Q.2.1.2.1, R1.1.1, s_become R1 M (cn_258 R2) (cn_258 CM) (fun _ => ?_)⟩, fun hl => h1 ?_⟩)⟩
  · have h8 := (nI_leI (b := 8192) (by omega) (by decide)).mp hl
    have hv := (bl_lim hbl).mp h8
    have F : fr_S (ix_S W (· = r)) (ix_S q (· = r)) h (wd_S h (W r) (q r) n b d) := fr_wd (ix_i (by omega) rfl) (ix_i (by omega) rfl)
    obtain ⟨d1, d2⟩ := dk_fr (z' := zu_n z r (sg_Z b (dg_v 4294967296 d n))) D F (fun i _ e => by
      subst e
      rw [zu_s]
      exact ⟨⟨n, b, d, wh_wd R1.1, CM, hb, rfl⟩, by rw [sg_na]; exact hv⟩) (fun i a _ e => by omega) (fun i _ e => zu_o e)
    exact h0 hv _ d1 d2
  · have h8 : ¬ c ≤ 8192 := fun y => hl ((nI_leI (b := 8192) (by omega) (by decide)).mpr y)
    exact Nat.le_of_not_lt (fun y => h8 ((bl_lim hbl).mpr y))
end BD1
