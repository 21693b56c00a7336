/-! A patch put on its own old text: each hunk at its place, and the new text comes out. -/
noncomputable section
theorem hp_home {F X T : Nat → Int} {nb na fz h least : Nat} {l : List St} {q : St} {ex : Int} (D : DS F nb na l 0 0 0) (hT : ∀ x, x < nb → T x = X x) (hq : l[h]? = some q) (hex : ex = (q.1 : Nat)) (hl : least ≤ q.1) : hpF X T nb nb fz l h q ex least = (((q.1 : Nat) : Int), 0) := by
  obtain ⟨lh, _⟩ := List.getElem?_eq_some_iff.mp hq
  have g := DS_gap D (show h + 1 ≤ l.length by omega)
  have pe := peo_l l h 0 q hq
  have pg := (peo_ge l h 0 0 0 D lh).2 q hq
  have en : nso nb l h = gnd nb l (h + 1) := rfl
  have ha : ahF l h q ≤ q.1 := by unfold ahF; omega
  have hb : q.1 + q.2.1 + bhF nb l h q ≤ nb := by unfold bhF; rw [en]; omega
  have W : ftP X T nb q.1 q.2.1 (ahF l h q - 0) (bhF nb l h q - 0) least (ex - ((0 : Nat) : Int)) := by
    subst hex
    refine ⟨by omega, by omega, by omega, fun x hx => ?_⟩
    rw [show (((q.1 : Nat) : Int) - ((0 : Nat) : Int)).toNat = q.1 by omega]
    exact (hT _ (by omega)).symm
  have S := sk_b (W := ftP X T nb q.1 q.2.1 (ahF l h q - 0) (bhF nb l h q - 0) least) (ex := ex) (d := 47) (k := 0) W
  unfold hpF
  show (if skF (ftP X T nb q.1 q.2.1 (ahF l h q - 0) (bhF nb l h q - 0) least) ex (47 + 1) 0 = -1 then _ else (skF (ftP X T nb q.1 q.2.1 (ahF l h q - 0) (bhF nb l h q - 0) least) ex (47 + 1) 0, 0)) = _
  rw [S, if_neg (by omega), hex]
  congr 1
theorem pu_home {F X T : Nat → Int} {nb na fz : Nat} {l : List St} (D : DS F nb na l 0 0 0) (hT : ∀ x, x < nb → T x = X x) : ∀ (r : List St) (h least : Nat), l.drop h = r → (∀ q, l[h]? = some q → least ≤ q.1) → puF X T nb nb fz l r h 0 least = r.map (fun q => (((q.1 : Nat) : Int), 0)) := by
  intro r
  induction r with
  | nil => intro h least _ _; rfl
  | cons q r ih =>
    intro h least hd hl
    have hq : l[h]? = some q := by
      have := congrArg (fun z => z[0]?) hd
      simpa [List.getElem?_drop] using this
    have hd' : l.drop (h + 1) = r := by
      have := congrArg (List.drop 1) hd
      rw [List.drop_drop] at this
      simpa using this
    have e := hp_home (fz := fz) (ex := ((q.1 : Nat) : Int) + 0) D hT hq (by omega) (hl q hq)
    show hpF X T nb nb fz l h q (((q.1 : Nat) : Int) + 0) least :: _ = _
    rw [e, List.map_cons, if_neg (by show ¬ ((q.1 : Nat) : Int) = -1; omega)]
    congr 1
    show puF X T nb nb fz l r (h + 1) (((q.1 : Nat) : Int) - ((q.1 : Nat) : Int)) (((q.1 : Nat) : Int).toNat + q.2.1) = _
    rw [show ((q.1 : Nat) : Int) - ((q.1 : Nat) : Int) = 0 by omega, show ((q.1 : Nat) : Int).toNat = q.1 by omega]
    refine ih (h + 1) (q.1 + q.2.1) hd' (fun p hp => ?_)
    obtain ⟨lp, _⟩ := List.getElem?_eq_some_iff.mp hp
    have := (peo_ge l (h + 1) 0 0 0 D lp).2 p hp
    rw [peo_l l h 0 q hq] at this
    exact this
theorem md_home {T N : Nat → Int} {nb : Nat} : ∀ (r : List St) (a : Nat), mdF T N nb r (r.map (fun q => (((q.1 : Nat) : Int), 0))) a = asF T N r a nb := by
  intro r
  induction r with
  | nil => intro a; rfl
  | cons q r ih =>
    intro a
    rw [List.map_cons]
    show (if ((q.1 : Nat) : Int) = -1 then _ else rlZ T a (((q.1 : Nat) : Int).toNat - a) ++ (rlZ N q.2.2.1 q.2.2.2 ++ mdF T N nb r (r.map (fun q => (((q.1 : Nat) : Int), 0))) (((q.1 : Nat) : Int).toNat + q.2.1))) = rlZ T a (q.1 - a) ++ (rlZ N q.2.2.1 q.2.2.2 ++ asF T N r (q.1 + q.2.1) nb)
    rw [if_neg (by omega), show ((q.1 : Nat) : Int).toNat = q.1 by omega, ih]
/-- what a patch makes of its old text is its new text -/
theorem as_home {F X N : Nat → Int} {nb na : Nat} {l : List St} (D : DS F nb na l 0 0 0) (E : EQL X N F nb) : asF X N l 0 nb = rlZ N 0 na := by
  have g := DS_gap D (Nat.le_refl l.length)
  have ge : gnd nb l l.length = nb := by
    unfold gnd
    rw [List.getElem?_eq_none (Nat.le_refl _)]
  have p0 : peo l 0 0 = 0 := by cases l <;> rfl
  have z := (asF_eq D E (hi := nb) l.length 0 0 (by omega) (by rw [p0]; exact Nat.le_refl _) (fun _ => Nat.zero_le _) (fun _ => Nat.zero_le _) (by rw [Nat.zero_add]; omega) (by rw [Nat.zero_add]; omega)).1
  rw [List.drop_zero, List.take_length] at z
  rw [z]
  have e1 : npF l 0 0 = 0 := by
    unfold npF dft
    rw [if_pos rfl]
    rfl
  have e2 : npF l (0 + l.length) nb = na := by
    rw [Nat.zero_add]
    unfold npF
    rw [dft_e D]
    omega
  rw [e1, e2]
  rfl
theorem put_home {F X N T : Nat → Int} {nb na fz : Nat} {l : List St} (D : DS F nb na l 0 0 0) (E : EQL X N F nb) (hT : ∀ x, x < nb → T x = X x) : mdF T N nb l (puF X T nb nb fz l l 0 0 0) 0 = rlZ N 0 na := by
  rw [pu_home D hT l 0 0 rfl (fun q _ => Nat.zero_le _), md_home]
  exact as_home D (fun x hx hf => (hT x hx).trans (E x hx hf))
end
