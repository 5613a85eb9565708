section FR
/-- only the Wholes of S, with limbs in Q, may have changed -/
def fr_S (S Q : Nat → Prop) (h h' : ah_H) : Prop := ah_T h' = ah_T h ∧ ah_N h' = ah_N h ∧ ah_R h' = ah_R h ∧ ah_L h' = ah_L h ∧ ah_bI h' = ah_bI h ∧ ah_bR h' = ah_bR h ∧ (∀ k a, ¬ S a → ah_I h' k a = ah_I h k a) ∧ (∀ a, ¬ Q a → ah_bL h' a = ah_bL h a)
variable {S Q S' Q' : Nat → Prop} {h h' h'' : ah_H}
theorem fr_rf : fr_S S Q h h := ⟨rfl, rfl, rfl, rfl, rfl, rfl, fun _ _ _ => rfl, fun _ _ => rfl⟩
theorem fr_tr (a : fr_S S Q h h') (b : fr_S S Q h' h'') : fr_S S Q h h'' :=
  ⟨b.1.trans a.1, b.2.1.trans a.2.1, b.2.2.1.trans a.2.2.1, b.2.2.2.1.trans a.2.2.2.1, b.2.2.2.2.1.trans a.2.2.2.2.1, b.2.2.2.2.2.1.trans a.2.2.2.2.2.1, fun k x hx => (b.2.2.2.2.2.2.1 k x hx).trans (a.2.2.2.2.2.2.1 k x hx), fun x hx => (b.2.2.2.2.2.2.2 x hx).trans (a.2.2.2.2.2.2.2 x hx)⟩
theorem fr_mo (a : fr_S S Q h h') (h1 : ∀ x, S x → S' x) (h2 : ∀ x, Q x → Q' x) : fr_S S' Q' h h' :=
  ⟨a.1, a.2.1, a.2.2.1, a.2.2.2.1, a.2.2.2.2.1, a.2.2.2.2.2.1, fun k x hx => a.2.2.2.2.2.2.1 k x (fun z => hx (h1 x z)), fun x hx => a.2.2.2.2.2.2.2 x (fun z => hx (h2 x z))⟩
theorem fr_wd {w q n : Nat} {ng : Bool} {d : Nat → Nat} (h1 : S w) (h2 : Q q) : fr_S S Q h (wd_S h w q n ng d) :=
  ⟨rfl, rfl, rfl, rfl, rfl, rfl, fun _ _ hx => ws_Ia (fun z => hx (z ▸ h1)), fun _ hx => ws_ba (fun z => hx (z ▸ h2))⟩
theorem fr_wq {w q : Nat} (a : fr_S S Q h h') (H : wq_S h w q) : wq_S h' w q := by
  unfold wq_S at *
  rw [a.1, a.2.1, a.2.2.1]; exact H
theorem fr_wh {w q n : Nat} {ng : Bool} {d : Nat → Nat} (a : fr_S S Q h h') (H : wh_S h w q n ng d) (h1 : ¬ S w) (h2 : ¬ Q q) : wh_S h' w q n ng d :=
  ⟨fr_wq a H.1, (a.2.2.2.2.2.2.1 0 w h1).trans H.2.1, (a.2.2.2.2.2.2.1 1 w h1).trans H.2.2.1, (a.2.2.2.2.2.2.2 q h2).trans H.2.2.2⟩
end FR
