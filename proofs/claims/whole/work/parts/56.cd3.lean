section CD3
/-- only the Wholes of S (limbs in Q), and the references and longs of C, may have changed -/
def fg_S (S Q C : Nat → Prop) (h h' : ah_H) : Prop := ah_T h' = ah_T h ∧ ah_N h' = ah_N h ∧ (∀ k a, ¬ C a → ah_R h' k a = ah_R h k a) ∧ ah_bI h' = ah_bI h ∧ ah_bR h' = ah_bR h ∧ (∀ k a, ¬ S a → ah_I h' k a = ah_I h k a) ∧ (∀ a, ¬ Q a → ah_bL h' a = ah_bL h a)
variable {S Q C S' Q' C' : Nat → Prop} {h h' h'' : ah_H}
theorem fg_rf : fg_S S Q C h h := ⟨rfl, rfl, fun _ _ _ => rfl, rfl, rfl, fun _ _ _ => rfl, fun _ _ => rfl⟩
theorem fg_tr (a : fg_S S Q C h h') (b : fg_S S Q C h' h'') : fg_S S Q C h h'' :=
  ⟨b.1.trans a.1, b.2.1.trans a.2.1, fun k x hx => (b.2.2.1 k x hx).trans (a.2.2.1 k x hx), b.2.2.2.1.trans a.2.2.2.1, b.2.2.2.2.1.trans a.2.2.2.2.1, fun k x hx => (b.2.2.2.2.2.1 k x hx).trans (a.2.2.2.2.2.1 k x hx), fun x hx => (b.2.2.2.2.2.2 x hx).trans (a.2.2.2.2.2.2 x hx)⟩
theorem fg_fr (a : fr_S S Q h h') (h1 : ∀ x, S x → S' x) (h2 : ∀ x, Q x → Q' x) : fg_S S' Q' C h h' :=
  ⟨a.1, a.2.1, fun k x _ => by rw [a.2.2.1], a.2.2.2.2.1, a.2.2.2.2.2.1, fun k x hx => a.2.2.2.2.2.2.1 k x (fun z => hx (h1 x z)), fun x hx => a.2.2.2.2.2.2.2 x (fun z => hx (h2 x z))⟩
theorem fg_mo (a : fg_S S Q C h h') (h1 : ∀ x, S x → S' x) (h2 : ∀ x, Q x → Q' x) (h3 : ∀ x, C x → C' x) : fg_S S' Q' C' h h' :=
  ⟨a.1, a.2.1, fun k x hx => a.2.2.1 k x (fun z => hx (h3 x z)), a.2.2.2.1, a.2.2.2.2.1, fun k x hx => a.2.2.2.2.2.1 k x (fun z => hx (h1 x z)), fun x hx => a.2.2.2.2.2.2 x (fun z => hx (h2 x z))⟩
theorem fg_wq {w q : Nat} (a : fg_S S Q C h h') (H : wq_S h w q) (h3 : ¬ C w) : wq_S h' w q := by
  unfold wq_S at *
  rw [a.1, a.2.1, a.2.2.1 5 w h3]; exact H
theorem fg_wh {w q n : Nat} {ng : Bool} {d : Nat → Nat} (a : fg_S S Q C h h') (H : wh_S h w q n ng d) (h1 : ¬ S w) (h2 : ¬ Q q) (h3 : ¬ C w) : wh_S h' w q n ng d :=
  ⟨fg_wq a H.1 h3, (a.2.2.2.2.2.1 0 w h1).trans H.2.1, (a.2.2.2.2.2.1 1 w h1).trans H.2.2.1, (a.2.2.2.2.2.2 q h2).trans H.2.2.2⟩
theorem fr_cw {w q : Nat} (a : fr_S S Q h h') (H : cw_W h w q) (h1 : ¬ S w) (h2 : ¬ Q q) : cw_W h' w q := by
  obtain ⟨n, g, d, H1, H2⟩ := H
  exact ⟨n, g, d, fr_wh a H1 h1 h2, H2⟩
/-- the two references of the CommonDivisor set anew -/
def ex_S (h : ah_H) (cd : Nat) (A B : Nat) : ah_H := ah_sR (ah_sR h 0 cd (some A)) 1 cd (some B)
theorem ex_k {cd A B k a : Nat} (hk : 2 ≤ k) : ah_R (ex_S h cd A B) k a = ah_R h k a := by
  show ah_u2 (ah_u2 (ah_R h) 0 cd (some A)) 1 cd (some B) k a = _
  rw [u2_k _ _ (by omega), u2_k _ _ (by omega)]
theorem ex_a {cd A B k a : Nat} (ha : a ≠ cd) : ah_R (ex_S h cd A B) k a = ah_R h k a := by
  show ah_u2 (ah_u2 (ah_R h) 0 cd (some A)) 1 cd (some B) k a = _
  rw [u2_a _ _ ha, u2_a _ _ ha]
theorem ex_0 {cd A B : Nat} : ah_R (ex_S h cd A B) 0 cd = some A := by
  show ah_u2 (ah_u2 (ah_R h) 0 cd (some A)) 1 cd (some B) 0 cd = _
  rw [u2_k _ _ (by decide), u2_s]
theorem ex_1 {cd A B : Nat} : ah_R (ex_S h cd A B) 1 cd = some B := u2_s _ _ _ _
theorem ex_wh {cd A B w q n : Nat} {ng : Bool} {d : Nat → Nat} (H : wh_S h w q n ng d) : wh_S (ex_S h cd A B) w q n ng d :=
  ⟨⟨H.1.1, (ex_k (by decide)).trans H.1.2.1, H.1.2.2⟩, H.2⟩
theorem ex_cw {cd A B w q : Nat} (H : cw_W h w q) : cw_W (ex_S h cd A B) w q := by
  obtain ⟨n, g, d, H1, H2⟩ := H
  exact ⟨n, g, d, ex_wh H1, H2⟩
theorem ex_dv {cd A B dv a b c : Nat} (V : dv_S h dv a b c) : dv_S (ex_S h cd A B) dv a b c :=
  ⟨V.1, (ex_k (by decide)).trans V.2.1, (ex_k (by decide)).trans V.2.2.1, (ex_k (by decide)).trans V.2.2.2⟩
theorem ex_fg {cd A B : Nat} (hc : C cd) : fg_S S Q C h (ex_S h cd A B) :=
  ⟨rfl, rfl, fun _ _ hx => ex_a (fun z => hx (z ▸ hc)), rfl, rfl, fun _ _ _ => rfl, fun _ _ => rfl⟩
theorem fc_fg {cd : Nat} {a b c d : Int64} : fg_S S Q C h (fc_S h cd a b c d) := ⟨rfl, rfl, fun _ _ _ => rfl, rfl, rfl, fun _ _ _ => rfl, fun _ _ => rfl⟩
theorem ex_T {cd A B : Nat} : ah_T (ex_S h cd A B) = ah_T h := rfl
theorem ex_cd {cd X Y : Nat} (H : cd_S h cd X Y) : cd_S (ex_S h cd Y X) cd Y X := ⟨by rw [ex_T]; exact H.1, ex_0, ex_1⟩
/-- exchange() -/
theorem s_exchange {cd X Y : Nat} (H : cd_S h cd X Y) {K : ah_H → Prop} (hK : K (ex_S h cd Y X)) : w_CD_exchange cd h K := by
  refine ⟨H.1, X, H.2.1, Y, H.2.2, fun h7 e7 h10 e10 => ?_⟩
  rw [e10, e7]; exact hK
variable {cd dv R Q1 S1 qR qQ qS W1 q1 W2 q2 : Nat}
def s5_S (W1 W2 Q R S : Nat) : Nat → Prop := fun x => x = W1 ∨ x = W2 ∨ d3_S Q R S x
theorem fr_dw {A B : Nat → Prop} (a : fr_S A B h h') (D : dw_S h dv Q1 qQ R qR S1 qS) (h1 : ∀ x, d3_S Q1 R S1 x → ¬ A x) (h2 : ∀ x, d3_S qQ qR qS x → ¬ B x) : dw_S h' dv Q1 qQ R qR S1 qS :=
  ⟨fr_dv a D.1, D.2.1, fr_cw a D.2.2.1 (h1 _ (Or.inl rfl)) (h2 _ (Or.inl rfl)), fr_cw a D.2.2.2.1 (h1 _ (Or.inr (Or.inl rfl))) (h2 _ (Or.inr (Or.inl rfl))), fr_cw a D.2.2.2.2 (h1 _ (Or.inr (Or.inr rfl))) (h2 _ (Or.inr (Or.inr rfl)))⟩
/-- which Whole is the larger now -/
def xy_S (W1 q1 W2 q2 X qX Y qY : Nat) : Prop := (X = W1 ∧ qX = q1 ∧ Y = W2 ∧ qY = q2) ∨ (X = W2 ∧ qX = q2 ∧ Y = W1 ∧ qY = q1)
theorem eu_g (u v : Nat) : Nat.gcd v (u % v) = Nat.gcd u v := by rw [Nat.gcd_comm u v, Nat.gcd_rec v u, Nat.gcd_comm]
theorem s_gr_a (n12 : W1 ≠ W2) (m12 : q1 ≠ q2) (nw1 : ¬ d3_S Q1 R S1 W1) (nw2 : ¬ d3_S Q1 R S1 W2) (nq1 : ¬ d3_S qQ qR qS q1) (nq2 : ¬ d3_S qQ qR qS q2) {G : Nat} {xt : Nat → ah_H → Prop} {K : Nat → ah_H → Prop}
    (hx : ∀ (hh : ah_H) (X qX Y qY n : Nat) (d : Nat → Nat), xy_S W1 q1 W2 q2 X qX Y qY → fg_S (s5_S W1 W2 Q1 R S1) (s5_S q1 q2 qQ qR qS) (· = cd) h hh → cd_S hh cd X Y → wh_S hh X qX n false d → cn_D d n → dg_v 4294967296 d n = G → cw_W hh Y qY → dw_S hh dv Q1 qQ R qR S1 qS → xt cd hh) :
    ∀ (N i : Nat) (hh : ah_H) (X qX Y qY nX nY : Nat) (dX dY : Nat → Nat), i + N = 16384 → xy_S W1 q1 W2 q2 X qX Y qY → fg_S (s5_S W1 W2 Q1 R S1) (s5_S q1 q2 qQ qR qS) (· = cd) h hh → cd_S hh cd X Y → wh_S hh X qX nX false dX → cn_D dX nX → wh_S hh Y qY nY false dY → cn_D dY nY → dg_v 4294967296 dY nY ≤ dg_v 4294967296 dX nX → nX ≤ 256 → Nat.gcd (dg_v 4294967296 dX nX) (dg_v 4294967296 dY nY) = G → dg_v 4294967296 dX nX * dg_v 4294967296 dY nY < 2 ^ N → dw_S hh dv Q1 qQ R qR S1 qS → lp_CD_greatest_53 xt K (N + 1) cd dv (nI i) hh := by
  intro N
  induction N with
  | zero =>
    intro i hh X qX Y qY nX nY dX dY hi xy fg C Xw CX Yw CY hle hnX hG hp D
    have hY0 : nY = 0 := by
      apply (cn_0 CY).mp
      rcases Nat.eq_zero_or_pos (dg_v 4294967296 dY nY) with z | z
      · exact z
      · have := Nat.mul_pos (Nat.lt_of_lt_of_le z hle) z
        rw [Nat.pow_zero] at hp
        omega
    have hv0 := (cn_0 CY).mpr hY0
    rw [lp_CD_greatest_53]
    refine ⟨fun hc => absurd hc (nI_ge (b := 20000) (by omega) (by decide)), fun _ => ⟨C.1, Y, C.2.2, Yw.1.1, fun _ => ?_, fun hc => absurd ?_ hc⟩⟩
    · rw [hv0, Nat.gcd_zero_right] at hG
      exact hx hh X qX Y qY nX dX xy fg C Xw CX hG ⟨nY, false, dY, Yw, CY⟩ D
    · rw [Yw.2.1, hY0]; decide
  | succ N ih =>
    intro i hh X qX Y qY nX nY dX dY hi xy fg C Xw CX Yw CY hle hnX hG hp D
    have hnY : nY ≤ 256 := Nat.le_trans (cn_le CY CX hle) hnX
    have hXY : X ≠ Y := by rcases xy with ⟨e1, _, e2, _⟩ | ⟨e1, _, e2, _⟩ <;> rw [e1, e2]; exact n12; exact n12.symm
    have qXY : qX ≠ qY := by rcases xy with ⟨_, e1, _, e2⟩ | ⟨_, e1, _, e2⟩ <;> rw [e1, e2]; exact m12; exact m12.symm
    have nX3 : ¬ d3_S Q1 R S1 X := by rcases xy with ⟨e1, _, _, _⟩ | ⟨e1, _, _, _⟩ <;> rw [e1]; exact nw1; exact nw2
    have nY3 : ¬ d3_S Q1 R S1 Y := by rcases xy with ⟨_, _, e1, _⟩ | ⟨_, _, e1, _⟩ <;> rw [e1]; exact nw2; exact nw1
    have mX3 : ¬ d3_S qQ qR qS qX := by rcases xy with ⟨_, e1, _, _⟩ | ⟨_, e1, _, _⟩ <;> rw [e1]; exact nq1; exact nq2
    have mY3 : ¬ d3_S qQ qR qS qY := by rcases xy with ⟨_, _, _, e1⟩ | ⟨_, _, _, e1⟩ <;> rw [e1]; exact nq2; exact nq1
    have sX : s5_S W1 W2 Q1 R S1 X := by rcases xy with ⟨e1, _, _, _⟩ | ⟨e1, _, _, _⟩ <;> rw [e1]; exact Or.inl rfl; exact Or.inr (Or.inl rfl)
    have sY : s5_S W1 W2 Q1 R S1 Y := by rcases xy with ⟨_, _, e1, _⟩ | ⟨_, _, e1, _⟩ <;> rw [e1]; exact Or.inr (Or.inl rfl); exact Or.inl rfl
    have tX : s5_S q1 q2 qQ qR qS qX := by rcases xy with ⟨_, e1, _, _⟩ | ⟨_, e1, _, _⟩ <;> rw [e1]; exact Or.inl rfl; exact Or.inr (Or.inl rfl)
    have tY : s5_S q1 q2 qQ qR qS qY := by rcases xy with ⟨_, _, _, e1⟩ | ⟨_, _, _, e1⟩ <;> rw [e1]; exact Or.inr (Or.inl rfl); exact Or.inl rfl
    rw [lp_CD_greatest_53]
    refine ⟨fun hc => absurd hc (nI_ge (b := 20000) (by omega) (by decide)), fun _ => ⟨C.1, Y, C.2.2, Yw.1.1, fun hz => ?_, fun hz => ?_⟩⟩
    · have hY0 : nY = 0 := by
        rcases Nat.eq_zero_or_pos nY with e | e
        · exact e
        · exact absurd (by rw [← Yw.2.1]; exact hz) (nI_nle e (by omega))
      have hv0 := (cn_0 CY).mpr hY0
      rw [hv0, Nat.gcd_zero_right] at hG
      exact hx hh X qX Y qY nX dX xy fg C Xw CX hG ⟨nY, false, dY, Yw, CY⟩ D
    · have hY0 : nY ≠ 0 := fun z => hz (by rw [Yw.2.1, z]; decide)
      have hV0 : 0 < dg_v 4294967296 dY nY := Nat.pos_of_ne_zero (fun z => hY0 ((cn_0 CY).mp z))
      refine s_foretell C Xw CX Yw CY hle (fun a b c d u v g I hg _ => ⟨fun h0 => ?_, fun h0 => ?_⟩)
      · -- one long division
        have C1 : cd_S (fc_S hh cd (oL a) (oL b) (oL c) (oL d)) cd X Y := C
        have X1 : wh_S (fc_S hh cd (oL a) (oL b) (oL c) (oL d)) X qX nX false dX := Xw
        have Y1 : wh_S (fc_S hh cd (oL a) (oL b) (oL c) (oL d)) Y qY nY false dY := Yw
        have D1 : dw_S (fc_S hh cd (oL a) (oL b) (oL c) (oL d)) dv Q1 qQ R qR S1 qS := D
        have fg1 : fg_S (s5_S W1 W2 Q1 R S1) (s5_S q1 q2 qQ qR qS) (· = cd) h (fc_S hh cd (oL a) (oL b) (oL c) (oL d)) := fg_tr fg fc_fg
        generalize fc_S hh cd (oL a) (oL b) (oL c) (oL d) = h1 at *
        refine ⟨X, C1.2.1, Y, C1.2.2, D1.1.1, s_ofAbs D1 X1 CX (by omega) Y1 CY hY0 (by omega) nX3 mX3 nY3 mY3 (fun h2 n1 n2 d1 d2 f2 Q2 E1 _ v1 R2 E2 v2 S2 _ => ?_)⟩
        have C2 : cd_S h2 cd X Y := by
          unfold cd_S at *
          rw [f2.1, f2.2.2.1]; exact C1
        have V2 := fr_dv f2 D1.1
        have X2 := fr_wh f2 X1 nX3 mX3
        have Y2 := fr_wh f2 Y1 nY3 mY3
        have fg2 : fg_S (s5_S W1 W2 Q1 R S1) (s5_S q1 q2 qQ qR qS) (· = cd) h h2 := fg_tr fg1 (fg_fr f2 (fun x z => Or.inr (Or.inr z)) (fun x z => Or.inr (Or.inr z)))
        have D2 : dw_S h2 dv Q1 qQ R qR S1 qS := ⟨V2, D1.2.1, ⟨n1, false, d1, Q2, E1⟩, ⟨n2, false, d2, R2, E2⟩, S2⟩
        refine ⟨X, C2.2.1, R, V2.2.2.1, X2.1.1, s_become X2 R2 (cn_258 CX) (cn_258 E2) (fun _ => s_exchange (h := wd_S h2 X qX n2 false d2) (X := X) (Y := Y) C2 (fun _ v98 e98 => ?_))⟩
        rw [e98, nI_1]
        have hml : dg_v 4294967296 d2 n2 < dg_v 4294967296 dY nY := by rw [v2]; exact Nat.mod_lt _ hV0
        have fX : fr_S (· = X) (· = qX) h2 (wd_S h2 X qX n2 false d2) := fr_wd rfl rfl
        refine ih (i + 1) _ Y qY X qX nY n2 dY d2 (by omega) ?_ (fg_tr fg2 (fg_tr (fg_fr fX (fun x z => z ▸ sX) (fun x z => z ▸ tX)) (ex_fg rfl))) ⟨C2.1, ex_0, ex_1⟩ (ex_wh (wh_ot Y2 hXY.symm qXY.symm)) CY (ex_wh (wh_wd X2.1)) E2 (Nat.le_of_lt hml) hnY ?_ ?_ ?_
        · rcases xy with ⟨e1, e2, e3, e4⟩ | ⟨e1, e2, e3, e4⟩
          · exact Or.inr ⟨e3, e4, e1, e2⟩
          · exact Or.inl ⟨e3, e4, e1, e2⟩
        · rw [v2, ← hG]; exact eu_g _ _
        · have hh := eu_h hV0 hle
          rw [← v2] at hh
          rw [Nat.pow_succ] at hp
          omega
        · have D3 := fr_dw fX D2 (fun x z y => nX3 (y ▸ z)) (fun x z y => mX3 (y ▸ z))
          exact ⟨ex_dv D3.1, D3.2.1, ex_cw D3.2.2.1, ex_cw D3.2.2.2.1, ex_cw D3.2.2.2.2⟩
      · -- the foretold ones
        have hgt : g = true := by
          cases g
          · exact absurd rfl h0
          · rfl
        have hb := hg.mp hgt
        have D1 : dw_S (fc_S hh cd (oL a) (oL b) (oL c) (oL d)) dv Q1 qQ R qR S1 qS := D
        refine s_combine (h := fc_S hh cd (oL a) (oL b) (oL c) (oL d)) (S3 := fun x => x = X ∨ x = Y) (Q3 := fun x => x = qX ∨ x = qY) C fc_0 fc_1 fc_2 fc_3 Xw CX Yw CY hXY qXY hle I (Or.inl rfl) (Or.inr rfl) (Or.inl rfl) (Or.inr rfl) (fun h2 n1 n2 d1 d2 f2 X2 E1 v1 Y2 E2 v2 _ v98 e98 => ?_)
        rw [e98, nI_1]
        have C2 : cd_S h2 cd X Y := by
          unfold cd_S at *
          rw [f2.1, f2.2.2.1]; exact C
        refine ih (i + 1) h2 X qX Y qY n1 n2 d1 d2 (by omega) xy (fg_tr fg (fg_tr fc_fg (fg_fr f2 (fun x z => ?_) (fun x z => ?_)))) C2 X2 E1 Y2 E2 (by rw [v1, v2]; exact I.2.2.1) ?_ ?_ ?_ (fr_dw f2 D1 (fun x z y => ?_) (fun x z y => ?_))
        · rcases z with z | z <;> rw [z]
          · exact sX
          · exact sY
        · rcases z with z | z <;> rw [z]
          · exact tX
          · exact tY
        · exact Nat.le_trans (cn_le E1 CX (by rw [v1]; exact I.2.2.2.1)) hnX
        · rw [v1, v2, I.2.2.2.2.1, hG]
        · have h9 := I.2.2.2.2.2.2.2.2 hb
          rw [v1, v2]
          rw [Nat.pow_succ] at hp
          omega
        · rcases y with y | y <;> rw [y] at z
          · exact nX3 z
          · exact nY3 z
        · rcases y with y | y <;> rw [y] at z
          · exact mX3 z
          · exact mY3 z
theorem cn_8192 {d : Nat → Nat} {n : Nat} (C : cn_D d n) (hn : n ≤ 256) : dg_v 4294967296 d n < 2 ^ 8192 := by
  have h1 := cn_lt C
  have h2 : (4294967296 : Nat) ^ n ≤ 4294967296 ^ 256 := Nat.pow_le_pow_right (by decide) hn
  rw [BB_2 256] at h2
  exact Nat.lt_of_lt_of_le h1 h2
theorem pp_8192 {x y : Nat} (h1 : x < 2 ^ 8192) (h2 : y < 2 ^ 8192) : x * y < 2 ^ 16384 := by
  have h3 := Nat.mul_lt_mul'' h1 h2
  rw [← Nat.pow_add] at h3
  exact h3
def p16_N : Nat := 2 ^ 16384
theorem p16_eq : p16_N = 2 ^ 16384 := by unfold p16_N; rfl
theorem s_gr_34 (n12 : W1 ≠ W2) (m12 : q1 ≠ q2) (nw1 : ¬ d3_S Q1 R S1 W1) (nw2 : ¬ d3_S Q1 R S1 W2) (nq1 : ¬ d3_S qQ qR qS q1) (nq2 : ¬ d3_S qQ qR qS q2) {G : Nat} {K : Nat → ah_H → Prop}
    (hK : ∀ (hh : ah_H) (X qX Y qY n : Nat) (d : Nat → Nat), xy_S W1 q1 W2 q2 X qX Y qY → fg_S (s5_S W1 W2 Q1 R S1) (s5_S q1 q2 qQ qR qS) (· = cd) h hh → cd_S hh cd X Y → wh_S hh X qX n false d → cn_D d n → dg_v 4294967296 d n = G → cw_W hh Y qY → dw_S hh dv Q1 qQ R qR S1 qS → K X hh) :
    ∀ (hh : ah_H) (X qX Y qY nX nY : Nat) (gX gY : Bool) (dX dY : Nat → Nat), xy_S W1 q1 W2 q2 X qX Y qY → fg_S (s5_S W1 W2 Q1 R S1) (s5_S q1 q2 qQ qR qS) (· = cd) h hh → cd_S hh cd X Y → wh_S hh X qX nX gX dX → cn_D dX nX → wh_S hh Y qY nY gY dY → cn_D dY nY → dg_v 4294967296 dY nY ≤ dg_v 4294967296 dX nX → nX ≤ 256 → Nat.gcd (dg_v 4294967296 dX nX) (dg_v 4294967296 dY nY) = G → dg_v 4294967296 dX nX * dg_v 4294967296 dY nY < p16_N → dw_S hh dv Q1 qQ R qR S1 qS → bk_CD_greatest_34 K cd dv hh := by
  intro hh X qX Y qY nX nY gX gY dX dY xy fg C1 Xw CX Yw CY hle hnX hG hp2 D1
  rw [p16_eq] at hp2
  have hXY : X ≠ Y := by rcases xy with ⟨e1, _, e2, _⟩ | ⟨e1, _, e2, _⟩ <;> rw [e1, e2]; exact n12; exact n12.symm
  have qXY : qX ≠ qY := by rcases xy with ⟨_, e1, _, e2⟩ | ⟨_, e1, _, e2⟩ <;> rw [e1, e2]; exact m12; exact m12.symm
  have nX3 : ¬ d3_S Q1 R S1 X := by rcases xy with ⟨e1, _, _, _⟩ | ⟨e1, _, _, _⟩ <;> rw [e1]; exact nw1; exact nw2
  have nY3 : ¬ d3_S Q1 R S1 Y := by rcases xy with ⟨_, _, e1, _⟩ | ⟨_, _, e1, _⟩ <;> rw [e1]; exact nw2; exact nw1
  have mX3 : ¬ d3_S qQ qR qS qX := by rcases xy with ⟨_, e1, _, _⟩ | ⟨_, e1, _, _⟩ <;> rw [e1]; exact nq1; exact nq2
  have mY3 : ¬ d3_S qQ qR qS qY := by rcases xy with ⟨_, _, _, e1⟩ | ⟨_, _, _, e1⟩ <;> rw [e1]; exact nq2; exact nq1
  have sX : s5_S W1 W2 Q1 R S1 X := by rcases xy with ⟨e1, _, _, _⟩ | ⟨e1, _, _, _⟩ <;> rw [e1]; exact Or.inl rfl; exact Or.inr (Or.inl rfl)
  have sY : s5_S W1 W2 Q1 R S1 Y := by rcases xy with ⟨_, _, e1, _⟩ | ⟨_, _, e1, _⟩ <;> rw [e1]; exact Or.inr (Or.inl rfl); exact Or.inl rfl
  have tX : s5_S q1 q2 qQ qR qS qX := by rcases xy with ⟨_, e1, _, _⟩ | ⟨_, e1, _, _⟩ <;> rw [e1]; exact Or.inl rfl; exact Or.inr (Or.inl rfl)
  have tY : s5_S q1 q2 qQ qR qS qY := by rcases xy with ⟨_, _, _, e1⟩ | ⟨_, _, _, e1⟩ <;> rw [e1]; exact Or.inr (Or.inl rfl); exact Or.inl rfl
  refine ⟨C1.1, X, C1.2.1, Xw.1.1, s_markSign Xw CX.2.2.2 false (fun _ => ⟨Y, C1.2.2, Yw.1.1, s_markSign (wh_ot Yw hXY.symm qXY.symm) CY.2.2.2 false (fun _ => ?_)⟩)⟩
  rw [Bool.false_and, Bool.false_and]
  have f1 : fr_S (· = X) (· = qX) hh (wd_S hh X qX nX false dX) := fr_wd rfl rfl
  have f2 : fr_S (· = Y) (· = qY) (wd_S hh X qX nX false dX) (wd_S (wd_S hh X qX nX false dX) Y qY nY false dY) := fr_wd rfl rfl
  have key : ∃ k, lp_CD_greatest_53 (fun (x103 : Nat) h104 => bk_CD_greatest_118 K x103 h104) K k cd dv (nI 0) (wd_S (wd_S hh X qX nX false dX) Y qY nY false dY) := ⟨_, s_gr_a (h := h) (cd := cd) (dv := dv) (K := K) n12 m12 nw1 nw2 nq1 nq2 (G := G) (xt := fun (x103 : Nat) h104 => bk_CD_greatest_118 K x103 h104) (fun h3 X' qX' Y' qY' n' d' xy' fg' C' X3 E3 v3 Y3 D3 => ⟨C'.1, X', C'.2.1, hK h3 X' qX' Y' qY' n' d' xy' fg' C' X3 E3 v3 Y3 D3⟩) 16384 0 (wd_S (wd_S hh X qX nX false dX) Y qY nY false dY) X qX Y qY nX nY dX dY (by omega) xy (fg_tr fg (fg_tr (fg_fr f1 (fun x z => z ▸ sX) (fun x z => z ▸ tX)) (fg_fr f2 (fun x z => z ▸ sY) (fun x z => z ▸ tY)))) C1 (wh_ot (wh_wd Xw.1) hXY qXY) CX (wh_wd Yw.1) CY hle hnX hG hp2 (fr_dw f2 (fr_dw f1 D1 (fun x z y => nX3 (y ▸ z)) (fun x z y => mX3 (y ▸ z))) (fun x z y => nY3 (y ▸ z)) (fun x z y => mY3 (y ▸ z)))⟩
  obtain ⟨k, key⟩ := key
  exact ⟨k, key⟩
/-- greatest(a, b, division) -/
theorem s_greatest (C : cd_S h cd W1 W2) (K1 : cw_W h W1 q1) (K2 : cw_W h W2 q2) (D : dw_S h dv Q1 qQ R qR S1 qS) (n12 : W1 ≠ W2) (m12 : q1 ≠ q2) (nw1 : ¬ d3_S Q1 R S1 W1) (nw2 : ¬ d3_S Q1 R S1 W2) (nq1 : ¬ d3_S qQ qR qS q1) (nq2 : ¬ d3_S qQ qR qS q2) {a qa na b qb nb : Nat} {nga ngb : Bool} {da db : Nat → Nat} (A : wh_S h a qa na nga da) (CA : cn_D da na) (hna : na ≤ 256) (Bw : wh_S h b qb nb ngb db) (CB : cn_D db nb) (hnb : nb ≤ 256) (ha : ¬ s5_S W1 W2 Q1 R S1 a) (hqa : ¬ s5_S q1 q2 qQ qR qS qa) (hb : ¬ s5_S W1 W2 Q1 R S1 b) (hqb : ¬ s5_S q1 q2 qQ qR qS qb) {K : Nat → ah_H → Prop}
    (hK : ∀ (hh : ah_H) (X qX Y qY n : Nat) (d : Nat → Nat), xy_S W1 q1 W2 q2 X qX Y qY → fg_S (s5_S W1 W2 Q1 R S1) (s5_S q1 q2 qQ qR qS) (· = cd) h hh → cd_S hh cd X Y → wh_S hh X qX n false d → cn_D d n → dg_v 4294967296 d n = Nat.gcd (dg_v 4294967296 da na) (dg_v 4294967296 db nb) → cw_W hh Y qY → dw_S hh dv Q1 qQ R qR S1 qS → K X hh) : w_CD_greatest cd a b dv h K := by
  obtain ⟨n1, g1, d1, X0, E1⟩ := K1
  obtain ⟨n2, g2, d2, Y0, E2⟩ := K2
  have aW1 : a ≠ W1 := fun z => ha (Or.inl z)
  have aqW1 : qa ≠ q1 := fun z => hqa (Or.inl z)
  have bW1 : b ≠ W1 := fun z => hb (Or.inl z)
  have bqW1 : qb ≠ q1 := fun z => hqb (Or.inl z)
  have hp : dg_v 4294967296 da na * dg_v 4294967296 db nb < p16_N := by rw [p16_eq]; exact pp_8192 (cn_8192 CA hna) (cn_8192 CB hnb)
  have hp' : dg_v 4294967296 db nb * dg_v 4294967296 da na < p16_N := by rw [p16_eq]; exact pp_8192 (cn_8192 CB hnb) (cn_8192 CA hna)
  -- behind the order
  have go := s_gr_34 (h := h) (cd := cd) (dv := dv) (K := K) n12 m12 nw1 nw2 nq1 nq2 hK
  unfold w_CD_greatest
  have A1 : wh_S (wd_S h W1 q1 na nga da) a qa na nga da := wh_ot A aW1 aqW1
  have B1 : wh_S (wd_S h W1 q1 na nga da) b qb nb ngb db := wh_ot Bw bW1 bqW1
  have Y1 : wh_S (wd_S h W1 q1 na nga da) W2 q2 n2 g2 d2 := wh_ot Y0 n12.symm m12.symm
  refine ⟨C.1, W1, C.2.1, X0.1.1, s_become X0 A (cn_258 E1) (cn_258 CA) (fun _ => ⟨W2, C.2.2, Y0.1.1, s_become Y1 B1 (cn_258 E2) (cn_258 CB) (fun _ => ⟨W1, C.2.1, W2, C.2.2, ?_⟩)⟩)⟩
  have f1 : fr_S (· = W1) (· = q1) h (wd_S h W1 q1 na nga da) := fr_wd rfl rfl
  have f2 : fr_S (· = W2) (· = q2) (wd_S h W1 q1 na nga da) (wd_S (wd_S h W1 q1 na nga da) W2 q2 nb ngb db) := fr_wd rfl rfl
  have D2 := fr_dw f2 (fr_dw f1 D (fun x z y => nw1 (y ▸ z)) (fun x z y => nq1 (y ▸ z))) (fun x z y => nw2 (y ▸ z)) (fun x z y => nq2 (y ▸ z))
  have fg2 : fg_S (s5_S W1 W2 Q1 R S1) (s5_S q1 q2 qQ qR qS) (· = cd) h (wd_S (wd_S h W1 q1 na nga da) W2 q2 nb ngb db) := fg_tr (fg_fr f1 (fun x z => Or.inl z) (fun x z => Or.inl z)) (fg_fr f2 (fun x z => Or.inr (Or.inl z)) (fun x z => Or.inr (Or.inl z)))
  have C2 : cd_S (wd_S (wd_S h W1 q1 na nga da) W2 q2 nb ngb db) cd W1 W2 := C
  have X2 : wh_S (wd_S (wd_S h W1 q1 na nga da) W2 q2 nb ngb db) W1 q1 na nga da := wh_ot (wh_wd X0.1) n12 m12
  have Y2 : wh_S (wd_S (wd_S h W1 q1 na nga da) W2 q2 nb ngb db) W2 q2 nb ngb db := wh_wd Y1.1
  generalize wd_S (wd_S h W1 q1 na nga da) W2 q2 nb ngb db = hh at *
  refine s_order X2 CA Y2 CB (fun r hr _ => ⟨fun h0 => ?_, fun h0 => ?_⟩)
  · have hle : ¬ dg_v 4294967296 da na < dg_v 4294967296 db nb := fun z => absurd h0 (Int32.not_le.mpr ((or_lt hr).mpr z))
    exact go hh W1 q1 W2 q2 na nb nga ngb da db (Or.inl ⟨rfl, rfl, rfl, rfl⟩) fg2 C2 X2 CA Y2 CB (Nat.le_of_not_lt hle) hna rfl hp D2
  · have hlt := (or_lt hr).mp (Int32.not_le.mp h0)
    have fg3 : fg_S (s5_S W1 W2 Q1 R S1) (s5_S q1 q2 qQ qR qS) (· = cd) h (ex_S hh cd W2 W1) := fg_tr fg2 (ex_fg rfl)
    have C3 : cd_S (ex_S hh cd W2 W1) cd W2 W1 := ex_cd C2
    refine s_exchange C2 (fun _ => ?_)
    exact go (ex_S hh cd W2 W1) W2 q2 W1 q1 nb na ngb nga db da (Or.inr ⟨rfl, rfl, rfl, rfl⟩) fg3 C3 (ex_wh Y2) CB (ex_wh X2) CA (Nat.le_of_lt hlt) hnb (Nat.gcd_comm _ _) hp' ⟨ex_dv D2.1, D2.2.1, ex_cw D2.2.2.1, ex_cw D2.2.2.2.1, ex_cw D2.2.2.2.2⟩
end CD3
