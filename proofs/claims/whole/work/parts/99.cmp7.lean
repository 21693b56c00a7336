/-! UNIQUE, the reference as a whole. -/
noncomputable section
def adm (L : List St) (q : St) : List St := L ++ [q]
theorem l272e {σ0 : Sg} {P T : Nat → Int} {a ae b be n1 : Nat} {ks : List Nat} (h40 : ae ≤ 40) (hb40 : be ≤ 40) (h1 : ae ≤ n1) (q18 : σ0 682 18 = (ae : Nat)) (q20 : σ0 682 20 = (be : Nat)) (hin : ∀ h k, ks[h]? = some k → k < ae ∧ -1 ≤ P k ∧ P k < (be : Int)) (O : OT σ0 P ks) (hT : ∀ h k, ks[h]? = some k → σ0 699 h = T k) (hn : ks.length ≤ 40) : ∀ (d x : Nat) (w : Int) (i j : Nat) (G : Nat → Int) (L : List St) (σ : Sg), x + d = ks.length → w ≤ 100 → i ≤ 40 → j ≤ 41 → L.length + d + 1 ≤ 128 → (∀ c y, ¬ c = 693 → ¬ c = 696 → ¬ (c = 682 ∧ y = 22) → σ c y = σ0 c y) → (∀ y, y < n1 → σ 693 y = G y) → Wt σ L → ∃ s, C272_215 (ks.length : Nat) w i j x σ (rV s) ∧ (∀ y, y < n1 → s 693 y = (selL adm P T ae be (ks.drop x) w i j G L).1 y) ∧ Wt s (selL adm P T ae be (ks.drop x) w i j G L).2 ∧ ∀ c y, ¬ c = 693 → ¬ c = 696 → ¬ (c = 682 ∧ y = 22) → s c y = σ0 c y := by
  intro d
  induction d with
  | zero =>
    intro x w i j G L σ hx hw hi hj hl hF hG hW
    have hd : ks.drop x = [] := List.drop_eq_nil_of_le (by omega)
    rw [hd]
    obtain ⟨s, e1, e2, e3⟩ := d267 (a := i) (k := ae) (b := j) (j := be) hW (by omega)
    refine ⟨s, b272_215 ?_, fun y hy => by rw [e3 _ _ (by decide) (by omega)]; exact hG y hy, e2, fun c y y1 y2 y3 => by rw [e3 c y y2 y3]; exact hF c y y1 y2 y3⟩
    rw [if_neg (by omega), hF 682 18 (by decide) (by decide) (by decide), q18, hF 682 20 (by decide) (by decide) (by decide), q20]
    exact ⟨_, e1, rfl⟩
  | succ d ih =>
    intro x w i j G L σ hx hw hi hj hl hF hG hW
    have hlt : x < ks.length := by omega
    obtain ⟨k, hk⟩ : ∃ k, k = ks[x] := ⟨_, rfl⟩
    have hk2 : ks[x]? = some k := by rw [hk]; exact List.getElem?_eq_getElem hlt
    rw [List.drop_eq_getElem_cons hlt, ← hk]
    obtain ⟨i1, i2, i3⟩ := hin x k hk2
    obtain ⟨o1, o2⟩ := O x k hk2
    have t1 := hT x k hk2
    have e697 : σ 697 x = (k : Nat) := by rw [hF _ _ (by decide) (by decide) (by omega)]; exact o1
    have e698 : σ 698 x = P k := by rw [hF _ _ (by decide) (by decide) (by omega)]; exact o2
    have e699 : σ 699 x = T k := by rw [hF _ _ (by decide) (by decide) (by omega)]; exact t1
    have un : selL adm P T ae be (k :: ks.drop (x + 1)) w i j G L = if 0 < w ∧ T k = w ∧ (j : Int) ≤ P k then selL adm P T ae be (ks.drop (x + 1)) (w - 1) (k + 1) ((P k).toNat + 1) (upd G k (P k)) (adm L (i, k, j, (P k).toNat)) else selL adm P T ae be (ks.drop (x + 1)) w i j G L := rfl
    rw [un]
    by_cases y : 0 < w ∧ T k = w ∧ (j : Int) ≤ P k
    · rw [if_pos y]
      obtain ⟨p, hp⟩ := Int.eq_ofNat_of_zero_le (show 0 ≤ P k by omega)
      have hp2 : (P k).toNat = p := by omega
      rw [hp2]
      have hW1 : Wt (upS σ 693 k (P k)) L := Wt_fr (up_a (by decide)) (fun y => up_a (by decide)) hW
      obtain ⟨s1, c1, c2, c3⟩ := d267 (a := i) (k := k) (b := j) (j := p) hW1 (by omega)
      have hF1 : ∀ c z, ¬ c = 693 → ¬ c = 696 → ¬ (c = 682 ∧ z = 22) → s1 c z = σ0 c z := fun c z y1 y2 y3 => by rw [c3 c z y2 y3, up_a y1]; exact hF c z y1 y2 y3
      obtain ⟨s, a1, a2, a3, a4⟩ := ih (x + 1) (w - 1) (k + 1) (p + 1) (upd G k (P k)) (adm L (i, k, j, p)) s1 (by omega) (by omega) (by omega) (by omega) (by
        unfold adm
        rw [List.length_append]
        show L.length + 1 + d + 1 ≤ 128
        omega) hF1 (fun z hz => by
        rw [c3 _ _ (by decide) (by omega)]
        unfold upd
        by_cases q : z = k
        · rw [if_pos q, q, up_s]
        · rw [if_neg q, up_k q]; exact hG z hz) c2
      refine ⟨s, b272_215 ?_, a2, a3, a4⟩
      have e1 : s1 697 x = (k : Nat) := by rw [hF1 _ _ (by decide) (by decide) (by omega)]; exact o1
      have e2 : s1 698 x = P k := by rw [hF1 _ _ (by decide) (by decide) (by omega)]; exact o2
      rw [if_pos (by omega), if_pos y.1]
      simp only [tn, e697, e698, e699, up_a (show ¬ (697 : Nat) = 693 by decide), up_a (show ¬ (698 : Nat) = 693 by decide)]
      refine ⟨by omega, ?_⟩
      rw [if_pos y.2.1]
      refine ⟨by omega, ?_⟩
      rw [if_pos y.2.2]
      refine ⟨by omega, by omega, by omega, by omega, by omega, s1, ?_, ?_⟩
      · rw [hp] at c1 ⊢
        exact c1
      · rw [e1, e2, hp, show ((k : Nat) : Int) + 1 = ((k + 1 : Nat) : Int) by omega, show ((p : Nat) : Int) + 1 = ((p + 1 : Nat) : Int) by omega, show w + (-1) = w - 1 by omega]
        refine ⟨by omega, by omega, by omega, by omega, by omega, b272_312 ⟨by omega, ?_⟩⟩
        rw [show (x : Int) + 1 = ((x + 1 : Nat) : Int) by omega]
        exact a1
    · rw [if_neg y]
      obtain ⟨s, a1, a2, a3, a4⟩ := ih (x + 1) w i j G L σ (by omega) hw hi hj (by omega) hF hG hW
      refine ⟨s, b272_215 ?_, a2, a3, a4⟩
      have z : C272_312 (ks.length : Nat) w i j x σ (rV s) := b272_312 ⟨by omega, by
        rw [show (x : Int) + 1 = ((x + 1 : Nat) : Int) by omega]
        exact a1⟩
      rw [if_pos (by omega), tn, e699, e698]
      by_cases y0 : 0 < w
      · rw [if_pos y0]
        refine ⟨by omega, ?_⟩
        by_cases y1 : T k = w
        · rw [if_pos y1]
          refine ⟨by omega, ?_⟩
          rw [if_neg (fun e => y ⟨y0, y1, e⟩)]
          exact z
        · rw [if_neg y1]
          exact z
      · rw [if_neg y0]
        exact z
end
