section HB1
/-- the abstract heap: tags, array lengths, int fields (number, address), long fields, reference fields, arrays of small numbers (address, place), arrays of longs, arrays of references -/
def ah_H : Type := (Nat → Nat) × (Nat → Nat) × (Nat → Nat → Int32) × (Nat → Nat → Int64) × (Nat → Nat → Option Nat) × (Nat → Nat → Int32) × (Nat → Nat → Int64) × (Nat → Nat → Option Nat)
def ah_T (h : ah_H) : Nat → Nat := h.1
def ah_N (h : ah_H) : Nat → Nat := h.2.1
def ah_I (h : ah_H) : Nat → Nat → Int32 := h.2.2.1
def ah_L (h : ah_H) : Nat → Nat → Int64 := h.2.2.2.1
def ah_R (h : ah_H) : Nat → Nat → Option Nat := h.2.2.2.2.1
def ah_bI (h : ah_H) : Nat → Nat → Int32 := h.2.2.2.2.2.1
def ah_bL (h : ah_H) : Nat → Nat → Int64 := h.2.2.2.2.2.2.1
def ah_bR (h : ah_H) : Nat → Nat → Option Nat := h.2.2.2.2.2.2.2
def ah_u2 {α : Type} (f : Nat → Nat → α) (k a : Nat) (v : α) : Nat → Nat → α := fun i j => if i = k ∧ j = a then v else f i j
def ah_sI (h : ah_H) (k a : Nat) (v : Int32) : ah_H := (ah_T h, ah_N h, ah_u2 (ah_I h) k a v, ah_L h, ah_R h, ah_bI h, ah_bL h, ah_bR h)
def ah_sL (h : ah_H) (k a : Nat) (v : Int64) : ah_H := (ah_T h, ah_N h, ah_I h, ah_u2 (ah_L h) k a v, ah_R h, ah_bI h, ah_bL h, ah_bR h)
def ah_sR (h : ah_H) (k a : Nat) (v : Option Nat) : ah_H := (ah_T h, ah_N h, ah_I h, ah_L h, ah_u2 (ah_R h) k a v, ah_bI h, ah_bL h, ah_bR h)
def ah_cI (h : ah_H) (a : Nat) (g : Nat → Int32) : ah_H := (ah_T h, ah_N h, ah_I h, ah_L h, ah_R h, va_up (ah_bI h) a g, ah_bL h, ah_bR h)
def ah_cL (h : ah_H) (a : Nat) (g : Nat → Int64) : ah_H := (ah_T h, ah_N h, ah_I h, ah_L h, ah_R h, ah_bI h, va_up (ah_bL h) a g, ah_bR h)
def ah_cR (h : ah_H) (a : Nat) (g : Nat → Option Nat) : ah_H := (ah_T h, ah_N h, ah_I h, ah_L h, ah_R h, ah_bI h, ah_bL h, va_up (ah_bR h) a g)
/-- a new cell at a, of tag t, of length n where it is an array -/
def ah_new (h : ah_H) (a t n : Nat) : ah_H := (va_up (ah_T h) a t, va_up (ah_N h) a n, (fun k j => if j = a then 0 else ah_I h k j), (fun k j => if j = a then 0 else ah_L h k j), (fun k j => if j = a then none else ah_R h k j), va_up (ah_bI h) a (fun _ => 0), va_up (ah_bL h) a (fun _ => 0), va_up (ah_bR h) a (fun _ => none))
def ah_f (h : ah_H) (a : Nat) (q : Nat × Nat) : Value := if q.1 = 0 then .int (ah_I h q.2 a) else if q.1 = 1 then .long (ah_L h q.2 a) else if q.1 = 2 then va_rf (ah_R h q.2 a) else .null
abbrev zG : Type := va_G × (Nat → ClassId) × Nat
def ah_E (G : zG) (h : ah_H) (a : Nat) : va_E :=
  if ah_T h a < 100 then .inr (ah_T h a - 1, (ah_tab.getD (ah_T h a - 1) []).map (ah_f h a))
  else if ah_T h a < 110 then .inl (G.2.1 (ah_T h a), ah_N h a, .inl (ah_bI h a))
  else if ah_T h a < 120 then .inl (G.2.1 (ah_T h a), ah_N h a, .inr (.inl (ah_bL h a)))
  else .inl (G.2.1 (ah_T h a), ah_N h a, .inr (.inr (.inr (.inr (ah_bR h a)))))
theorem ah_E_same {G : zG} {h h' : ah_H} {a : Nat} (hT : ah_T h' a = ah_T h a) (hN : ah_N h' a = ah_N h a) (hI : ∀ k, ah_I h' k a = ah_I h k a) (hL : ∀ k, ah_L h' k a = ah_L h k a) (hR : ∀ k, ah_R h' k a = ah_R h k a) (h1 : ah_bI h' a = ah_bI h a) (h2 : ah_bL h' a = ah_bL h a) (h3 : ah_bR h' a = ah_bR h a) : ah_E G h' a = ah_E G h a := by
  have hf : ah_f h' a = ah_f h a := funext fun q => by unfold ah_f; rw [hI, hL, hR]
  unfold ah_E
  rw [hT, hN, hf, h1, h2, h3]
theorem ah_up {G : zG} {h h' : ah_H} {a : Nat} {e : va_E} (he : ah_E G h' a = e) (ho : ∀ b, b ≠ a → ah_E G h' b = ah_E G h b) : va_up (ah_E G h) a e = ah_E G h' := funext fun b => by
  by_cases hb : b = a
  · subst hb
    rw [va_up_self, he]
  · rw [va_up_ne _ _ hb, ho b hb]
theorem ah_fset {h h' : ah_H} {a : Nat} {t : List (Nat × Nat)} {k : Nat} {q : Nat × Nat} {v : Value} (hk : t[k]? = some q) (hnd : t.Nodup) (hv : ah_f h' a q = v) (ho : ∀ q', q' ≠ q → ah_f h' a q' = ah_f h a q') : t.map (ah_f h' a) = (t.map (ah_f h a)).set k v := by
  have hlt := (List.getElem?_eq_some_iff.mp hk).1
  apply List.ext_getElem?
  intro j
  by_cases hj : j = k
  · subst hj
    rw [List.getElem?_set_self (by rw [List.length_map]; exact hlt), List.getElem?_map, hk, Option.map_some, hv]
  · rw [List.getElem?_set_ne (Ne.symm hj), List.getElem?_map, List.getElem?_map]
    cases hq : t[j]? with
    | none => rfl
    | some q' =>
      have hne : q' ≠ q := fun he => by
        subst he
        exact hj ((List.getElem?_inj (List.getElem?_eq_some_iff.mp hq).1 hnd).mp (hq.trans hk.symm))
      simp only [Option.map_some, ho q' hne]
theorem ah_E_obj {G : zG} {h : ah_H} {a ci : Nat} (ht : ah_T h a = ci + 1) (hci : ci < 99) : ah_E G h a = .inr (ci, (ah_tab.getD ci []).map (ah_f h a)) := by
  unfold ah_E
  rw [if_pos (by omega), ht, Nat.add_sub_cancel]
theorem ah_E_int {G : zG} {h : ah_H} {a t : Nat} (ht : ah_T h a = t) (h1 : 100 ≤ t) (h2 : t < 110) : ah_E G h a = .inl (G.2.1 t, ah_N h a, .inl (ah_bI h a)) := by
  unfold ah_E
  rw [if_neg (by omega), if_pos (by omega), ht]
theorem ah_E_long {G : zG} {h : ah_H} {a t : Nat} (ht : ah_T h a = t) (h1 : 110 ≤ t) (h2 : t < 120) : ah_E G h a = .inl (G.2.1 t, ah_N h a, .inr (.inl (ah_bL h a))) := by
  unfold ah_E
  rw [if_neg (by omega), if_neg (by omega), if_pos (by omega), ht]
theorem ah_E_ref {G : zG} {h : ah_H} {a t : Nat} (ht : ah_T h a = t) (h1 : 120 ≤ t) : ah_E G h a = .inl (G.2.1 t, ah_N h a, .inr (.inr (.inr (.inr (ah_bR h a))))) := by
  unfold ah_E
  rw [if_neg (by omega), if_neg (by omega), if_neg (by omega), ht]
/-- the heap H holds h -/
def ah_Q (G : zG) (h : ah_H) (H : Heap) : Prop := ∃ L : List Nat, (∀ a, ah_T h a ≠ 0 → a ∈ L) ∧ va_P G.1 ah_cl (va_pl L (ah_E G h)) H ∧ va_D (fun q => G.2.2 ≤ q) (va_pl L (ah_E G h))
/-- a method that began over H0 has come to H: it holds h, and nothing below N0 has changed -/
def ah_W (G : zG) (H0 : Heap) (h : ah_H) (H : Heap) (locs : List Loc) : Prop := G.2.2 ≤ H0.size ∧ ah_Q G h H ∧ va_S (fun q => G.2.2 ≤ q) H0 H locs
/-- the classes and array classes of the tables -/
def ah_K (G : zG) (U : State) : Prop := va_K G.1 ah_cl (ah_tys.map (fun q => (G.2.1 q.1, q.2))) U
/-- words that do not stay by themselves, but under warmer tables -/
def zx_kind : Cond → Bool
  | .methodLinkNest .. => true
  | .declares .. => true
  | .castable .. => true
  | .arrayOver (.object _) => true
  | _ => false
theorem zx_warm {w : Cond} {s U : State} (hk : zx_kind w = true) (hW : s.WarmedH U.vm) (h : va_Nw w s) : va_Nw w U := by
  cases w with
  | methodLinkNest => exact va_Nw.warmM hW h
  | declares => exact va_Nw.warmD hW h
  | castable => exact va_Nw.warmC hW h
  | arrayOver ty =>
    cases ty with
    | object C => exact va_AO.moved hW.alike h
    | _ => cases hk
  | _ => cases hk
def zx_str : List (Nat × String) := [(190, "no such register"), (86, "more than 8192 bits"), (192, "not 0 to 8192 bits"), (114, "quotient and rest in one register"), (122, "division by 0"), (143, "the divisor is below 1"), (153, "no long"), (155, "no such limb"), (161, "nothing such to look at"), (163, "not 1 to 8 bytes"), (165, "the tape is full"), (179, "no such byte"), (188, "no such text")]
def zx_nc : List (String × String) := [("java/lang/IllegalStateException", "java/lang/IllegalArgumentException"), ("java/lang/ArithmeticException", "java/lang/IllegalArgumentException")]
/-- what the tables and the old cells give to throws and catches -/
def zx_X (G : zG) (U : State) : Prop := (∀ w ∈ lw_tbl, zx_kind w = true → va_Nw w U) ∧ (∀ q ∈ zx_str, ∃ a : Nat, vk_R "BigDesk" q.1 q.2 a U) ∧ (∀ q ∈ zx_nc, va_Nc q.1 q.2 U) ∧ vx_Zq Bundle.tN "UNASSIGNED_STACK" Bundle.steD (fun q => G.2.2 ≤ q) U U.heap ∧ vx_Zq Bundle.tN "SUPPRESSED_SENTINEL" Bundle.listD (fun q => G.2.2 ≤ q) U U.heap
theorem zx_X.warm {G : zG} {s U : State} (hW : s.WarmedH U.vm) (hq : ∀ a : Nat, a < s.heap.size → ¬ G.2.2 ≤ a → U.heap[a]? = s.heap[a]?) (h : zx_X G s) : zx_X G U :=
  ⟨fun w hw hk => zx_warm hk hW (h.1 w hw hk), fun q hq' => by obtain ⟨a, ha⟩ := h.2.1 q hq'; exact ⟨a, vk_R.warm hW ha⟩, fun q hq' => va_Nc.moved hW.alike (h.2.2.1 q hq'), vx_Zq.moved hW.alike (vx_Zq.kept h.2.2.2.1 hq), vx_Zq.moved hW.alike (vx_Zq.kept h.2.2.2.2 hq)⟩
theorem zx_X.same {G : zG} {s U : State} (hv : U.vm = s.vm) (hh : U.heap = s.heap) (h : zx_X G s) : zx_X G U := by
  obtain ⟨h1, h2, h3, h4, h5⟩ := h
  have ha : s.vm.Alike U.vm := by rw [hv]; exact Vm.Alike.refl s.vm
  refine ⟨fun w hw hk => ?_, fun q hq' => ?_, fun q hq' => va_Nc.moved ha (h3 q hq'), ?_, ?_⟩
  · have hw' := h1 w hw hk
    cases w with
    | methodLinkNest => exact va_Nw.same rfl hv.symm hw'
    | declares => exact va_Nw.same rfl hv.symm hw'
    | castable => exact va_Nw.same rfl hv.symm hw'
    | arrayOver ty =>
      cases ty with
      | object C => exact va_AO.moved ha hw'
      | _ => cases hk
    | _ => cases hk
  · obtain ⟨a, h9⟩ := h2 q hq'
    exact ⟨a, vk_R.same hv h9⟩
  · rw [hh]; exact vx_Zq.moved ha h4
  · rw [hh]; exact vx_Zq.moved ha h5
def ah_B (G : zG) (h : ah_H) (U : State) : Prop := G.2.2 ≤ U.heap.size ∧ ah_Q G h U.heap ∧ ah_K G U ∧ zx_X G U
/-- tags and lengths stay -/
def ah_m (h h' : ah_H) : Prop := ∀ a, ah_T h a ≠ 0 → ah_T h' a = ah_T h a ∧ ah_N h' a = ah_N h a
theorem ah_m.rf {h : ah_H} : ah_m h h := fun _ _ => ⟨rfl, rfl⟩
theorem ah_m.tr {h1 h2 h3 : ah_H} (a : ah_m h1 h2) (b : ah_m h2 h3) : ah_m h1 h3 := fun q hq => by
  obtain ⟨a1, a2⟩ := a q hq
  obtain ⟨b1, b2⟩ := b q (by rw [a1]; exact hq)
  exact ⟨b1.trans a1, b2.trans a2⟩
theorem ah_m.eq {h h' h'' : ah_H} (a : ah_m h h') (e : h'' = h') : ah_m h h'' := e ▸ a
theorem ah_m.st {h0 h h' : ah_H} (a : ah_m h0 h) (e1 : ah_T h' = ah_T h) (e2 : ah_N h' = ah_N h) : ah_m h0 h' := fun q hq => by rw [e1, e2]; exact a q hq
theorem ah_m.nw {h0 h : ah_H} {q t n : Nat} (a : ah_m h0 h) (hq : ah_T h q = 0) : ah_m h0 (ah_new h q t n) := fun b hb => by
  have hbq : b ≠ q := fun z => by
    have := (a b hb).1
    rw [z, hq] at this
    rw [z] at hb
    exact hb this.symm
  exact ⟨(va_up_ne _ _ hbq).trans (a b hb).1, (va_up_ne _ _ hbq).trans (a b hb).2⟩
theorem ah_m.tg {h h' : ah_H} {a t : Nat} (m : ah_m h h') (ht : ah_T h a = t) (h0 : t ≠ 0) : ah_T h' a = t := (m a (by rw [ht]; exact h0)).1.trans ht
theorem ah_put {G : zG} {H0 H1 : Heap} {h h' : ah_H} {locs1 : List Loc} {a k0 : Nat} {e : va_E} {L : List Nat} (hz : G.2.2 ≤ H0.size) (hL : ∀ b, ah_T h b ≠ 0 → b ∈ L) (hT : ∀ b, ah_T h' b ≠ 0 → ah_T h b ≠ 0) (hD : va_D (fun q => G.2.2 ≤ q) (va_pl L (ah_E G h))) (ha : a ∈ L) (hk : (va_pl L (ah_E G h))[k0]? = some (a, ah_E G h a)) (hup : va_up (ah_E G h) a e = ah_E G h') (hP1 : va_P G.1 ah_cl ((va_pl L (ah_E G h)).set k0 (a, e)) H1) (hD1 : va_D (fun q => G.2.2 ≤ q) ((va_pl L (ah_E G h)).set k0 (a, e))) (hS1 : va_S (fun q => G.2.2 ≤ q) H0 H1 locs1) : ah_W G H0 h' H1 locs1 := by
  have hs : (va_pl L (ah_E G h)).set k0 (a, e) = va_pl L (ah_E G h') := by
    have := va_pl_set (X := []) (e := e) hD ha hk
    rw [hup] at this
    exact this
  rw [hs] at hP1 hD1
  exact ⟨hz, ⟨L, fun b hb => hL b (hT b hb), hP1, hD1⟩, hS1⟩
end HB1
