/-! past. -/
noncomputable section
theorem TCH_n {l1 l2 : List St} (h : ¬ TCH l1 l2) : ∀ q, q ∈ l1 → ∀ r, r ∈ l2 → q.2.2.1 + q.2.2.2 < r.1 ∨ r.1 + r.2.1 < q.2.2.1 := by
  intro q hq r hr
  obtain ⟨a, ha⟩ := List.getElem?_of_mem hq
  obtain ⟨b, hb⟩ := List.getElem?_of_mem hr
  by_cases y : q.2.2.1 + q.2.2.2 < r.1 ∨ r.1 + r.2.1 < q.2.2.1
  · exact y
  · exact absurd ⟨a, q, b, r, ha, hb, by show q.2.2.1 ≤ r.1 + r.2.1 ∧ r.1 ≤ q.2.2.1 + q.2.2.2; omega⟩ h
/-- what the walk ends in, and passes -/
theorem d297 {σ : Sg} {s t nb na nc : Nat} {F K G L X Y Z Y' Y2 : Nat → Int} (hs : s < 39) (ht : t < 39) (h1 : nb ≤ 99) (h2 : na ≤ 99) (h3 : nc ≤ 99) (hm : nb + nc ≤ na + 96) (V : VF F nb na) (V' : VF G na nc) (IF : IV F K nb na) (IG : IV G L na nc) (EX : EQL X Y F nb) (EY : EQL Y Z G na) (lX : ∀ i, i < nb → isLn (X i) = true) (lZ : ∀ i, i < nc → isLn (Z i) = true) (NT : ¬ TCH (hks F nb na) (hks G na nc)) (S : Slot σ s nb na X Y' F) (S' : Slot σ t na nc Y2 Z G) : ∃ b M f a g, mvW F K G L X Y Z nb na nc (nb + na + nc) 0 0 0 [] [] [] [] [] = (b, M, f, a, g) ∧ b.length = nb ∧ M.length + na = nb + nc ∧ f.length = nb ∧ a.length = nc ∧ g.length = M.length ∧ (∀ (x : Nat) (v : Int), b[x]? = some v → v = X x) ∧ (∀ (x : Nat) (v : Int), a[x]? = some v → v = Z x) ∧ (∀ (x : Nat) (v : Int), M[x]? = some v → isLn v = true) ∧ ∃ s2, Dd 297 [vA 682, vI s, vI t, vI 39, vI 40] σ (rV s2) ∧ Slot s2 39 nb M.length X (gv M) (gv f) ∧ Slot s2 40 M.length nc (gv M) Z (gv g) ∧ ∀ c x, ¬ c = 690 → ¬ (700 ≤ c ∧ c ≤ 704) → ¬ (685 ≤ c ∧ c ≤ 687 ∧ 3900 ≤ x ∧ x < 4100) → ¬ ((c = 688 ∨ c = 689) ∧ (x = 39 ∨ x = 40)) → s2 c x = σ c x := by
  obtain ⟨t1, t2, t3, t4, t5⟩ := S
  obtain ⟨u1, u2, u3, u4, u5⟩ := S'
  obtain ⟨s1, a1, a2, a3, a4, a5⟩ := d280 (s := t) (wh := 1) (f := G) (σ := σ) (by omega) (by decide) (by omega) (by omega) V' u1 u2 u5
  obtain ⟨s4, e1, e2, e3⟩ := d293 (s := s) (σ := s1) (by omega) (by omega) (by omega) V IF (by rw [a5 _ _ (by omega) (by omega)]; exact t1) (by rw [a5 _ _ (by omega) (by omega)]; exact t2) (fun k hk => by rw [a5 _ _ (by omega) (by omega)]; exact t5 k hk)
  have fr : ∀ c x, ¬ c = 690 → ¬ (700 ≤ c ∧ c ≤ 704) → s4 c x = σ c x := fun c x y1 y2 => by rw [e3 c x y1, a5 c x (by omega) (by omega)]
  obtain ⟨lB, hlB⟩ : ∃ lB, lB = hks G na nc := ⟨_, rfl⟩
  have D1 := DS_0 V
  have D2 := DS_0 V'
  rw [← hlB] at a1 a2 a4 D2 NT
  have C : CX8 s4 s t nb na nc F K G X Z lB := ⟨hs, ht, h1, h2, h3, by omega, by rw [fr _ _ (by decide) (by decide)]; exact t1, by rw [fr _ _ (by decide) (by decide)]; exact u2, fun x hx => by rw [fr _ _ (by decide) (by decide)]; exact t3 x hx, fun x hx => by rw [fr _ _ (by decide) (by decide)]; exact t5 x hx, fun x hx => by rw [fr _ _ (by decide) (by decide)]; exact u5 x hx, fun x hx => by rw [fr _ _ (by decide) (by decide)]; exact u4 x hx, fun h q hq => by
    rw [e3 _ _ (by decide), e3 _ _ (by decide), e3 _ _ (by decide), e3 _ _ (by decide)]
    exact a2 h q hq, e2, fun x hx => by
    rcases V.1 x hx with z | z
    · exact Or.inl z
    · obtain ⟨y, hy⟩ := Int.eq_ofNat_of_zero_le z.1
      exact Or.inr ⟨y, hy, by omega⟩, fun y hy => by
    rcases IF.1 y hy with z | ⟨z1, z2, z3⟩ <;> omega, fun h r hr => by
    have z := (DS_b _ _ _ _ D2).2.2 r (List.mem_of_getElem? hr)
    omega⟩
  obtain ⟨b, M, f, a, g, q1, q2, q3, q4, q5, q6, q7, q8, q9, -, q11⟩ := mv_main C IF IG EX EY lX lZ ((hks F nb na).length + lB.length) (hks F nb na) lB (nb + na + nc) 0 0 0 0 0 0 [] [] [] [] [] (Nat.le_refl _) rfl (Nat.zero_le _) D1 D2 (TCH_n NT) (Or.inl ⟨rfl, rfl⟩) (fun x hx => absurd hx (Nat.not_lt_zero x)) (fun x hx => absurd hx (Nat.not_lt_zero x)) (by omega) rfl rfl rfl rfl rfl (fun x v e => by simp at e) (fun x v e => by simp at e) (fun x v e => by simp at e)
  obtain ⟨σ', g1, g2, g3⟩ := q11 (by omega) s4 ⟨fun x v e => by simp at e, fun x v e => by simp at e, fun x v e => by simp at e⟩ (fun _ _ _ _ => rfl)
  obtain ⟨s2, r1, r2, r3, r4⟩ := l297z C (M := M) (f := f) (g := g) (by omega) q4 q6 g2 g3
  exact ⟨b, M, f, a, g, q1, q2, q3, q4, q5, q6, q7, q8, q9, s2, b297 ⟨_, s1, a1, s4, e1, g1 r1 none⟩, r2, r3, fun c x y1 y2 y3 y4 => by rw [r4 c x y3 y4]; exact fr c x y1 y2⟩
/-- nothing that the relation speaks of lies in the slots from 29 on -/
theorem Rel_hi {σ s : Sg} {c : Int} (h : ∀ a k, ¬ (685 ≤ a ∧ a ≤ 687 ∧ 2900 ≤ k) → ¬ ((a = 688 ∨ a = 689) ∧ 29 ≤ k) → s a k = σ a k) (H : Rel c σ) : Rel c s := by
  obtain ⟨h1, h2, h3, h4, h5, h6, h7, h8, h9⟩ := H
  exact ⟨WF_fr (fun a k y => h a k (by omega) (by omega)) h1, Zl_fr (fun k => h _ _ (by omega) (by omega)) h2, RT_fr (fun c k hc => h _ _ (by omega) (by omega)) h3, RB_fr (fun c k hc => h _ _ (by omega) (by omega)) h4, RP_fr2 (fun c k hc => h _ _ (by omega) (by omega)) h5, RSt_fr2 (Int.le_refl _) (fun c k hc => h _ _ (by omega) (by omega)) h6, RU_fr (fun c k hc => h _ _ (by omega) (by omega)) h7, RF_fr (fun c k hc => h _ _ (by omega) (by omega)) h8, RD_fr (fun c k hc => h _ _ (by omega) (by omega)) h9⟩
def rsH (σ s2 : Sg) : Sg := fun a k => if (685 ≤ a ∧ a ≤ 687 ∧ 2900 ≤ k) ∨ ((a = 688 ∨ a = 689) ∧ 29 ≤ k) then σ a k else s2 a k
theorem rsH_n {σ s2 : Sg} {a k : Nat} (h : ¬ (685 ≤ a ∧ a ≤ 687 ∧ 2900 ≤ k)) (h' : ¬ ((a = 688 ∨ a = 689) ∧ 29 ≤ k)) : rsH σ s2 a k = s2 a k := by
  unfold rsH
  rw [if_neg (by omega)]
/-- a call that makes a patch, with scratch slots -/
theorem op_st2 {w m : Nat} {aw am : List AV} {σ σ1 : Sg} {c : Int} {Q p nb na : Nat} (H : Rel c σ) (hp : σ 0 3 = (p : Nat)) (h24 : p < 24) (hQ : isPatch Q = true) (hQ2 : 332 ≤ Q) (w1 : WF σ1) (f1 : ∀ a k, a < 682 → KP a k → σ1 a k = σ a k) (g1 : ∀ a k, 682 ≤ a → σ1 a k = σ a k) (P1 : PO σ1 Q 16) (hb : σ1 (Q + 1) 1 = (nb : Nat)) (ha : σ1 (Q + 3) 1 = (na : Nat)) (hA : ∀ s, Dd 242 [vA 0, vA Q] σ1 (rI p s) → Dd w aw σ (rI 0 (upS s 726 0 p))) (hB : ∀ s : Sg, (∀ a k, 682 ≤ a → ¬ a = 726 → s a k = σ a k) → ∃ s2, Dd m am s (rI p s2) ∧ s2 682 0 = 0 ∧ s2 682 3 = (p : Int) + 1 ∧ (∀ a k, a < 682 ∨ 726 ≤ a → s2 a k = s a k) ∧ (∀ a k, 682 ≤ a → a ≤ 725 → KP a k → ¬ (a = 682 ∧ k = 3) → ¬ (685 ≤ a ∧ a ≤ 687 ∧ 100 * p ≤ k ∧ k < 100 * p + 100) → ¬ ((a = 688 ∨ a = 689) ∧ k = p) → ¬ (685 ≤ a ∧ a ≤ 687 ∧ 2900 ≤ k) → ¬ ((a = 688 ∨ a = 689) ∧ 29 ≤ k) → s2 a k = σ a k) ∧ Slot s2 p nb na (σ1 (Q + 2)) (σ1 (Q + 4)) (σ1 (Q + 6))) : OpR w m aw am σ (c + 1) := by
  obtain ⟨s, a1, a2, a3, a4, a5, a6, a7⟩ := st_new hp h24 hQ hQ2 w1 f1 P1
  have z1 := P1.1
  have z2 := P1.2.1
  have z5 := P1.2.2.1
  obtain ⟨s2, b1, b2, b3, b4, b5, b6⟩ := hB (upS s 726 0 p) (fun a k h1 h2 => by rw [up_a h2, a5 a k h1]; exact g1 a k h1)
  have k0 : ∀ a k, a < 682 → s2 a k = s a k := fun a k h => by rw [b4 a k (Or.inl h), up_a (by omega)]
  have k1 : ∀ a k, a < 682 → rsH σ s2 a k = s a k := fun a k h => by rw [rsH_n (by omega) (by omega)]; exact k0 a k h
  obtain ⟨t1, t3⟩ := a6 1 (by omega)
  obtain ⟨u1, u3⟩ := a6 3 (by omega)
  obtain ⟨v1, v3⟩ := a6 5 (by omega)
  obtain ⟨y1, y2, y3, y4, y5⟩ := b6
  have e8 : rsH σ s2 688 p = s2 688 p := rsH_n (by omega) (by omega)
  have e9 : rsH σ s2 689 p = s2 689 p := rsH_n (by omega) (by omega)
  refine op_fin (hA s a1) b1 b2 (fun _ => by rw [b4 _ _ (by omega)]; exact up_s) (fun a k h => by rw [up_a (by omega), a5 a k (by omega)]; exact g1 a k (by omega)) (fun a k h => by rw [b4 a k (by omega), up_a (by omega), a5 a k (by omega)]; exact g1 a k (by omega)) (Rel_hi (σ := rsH σ s2) (fun a k h h' => (rsH_n h h').symm) (Rel_new H hp h24 a2 a3 a4 k1 (by rw [rsH_n (by omega) (by omega)]; exact b3) (fun a k h1 h2 h3 h4 h5 => ?_) ?_ (PO_fr (fun a k h => k1 a k (by omega)) a7)))
  · by_cases y : (685 ≤ a ∧ a ≤ 687 ∧ 2900 ≤ k) ∨ ((a = 688 ∨ a = 689) ∧ 29 ≤ k)
    · unfold rsH
      rw [if_pos y]
    · rw [rsH_n (fun e => y (Or.inl e)) (fun e => y (Or.inr e))]
      by_cases y2 : a ≤ 725
      · exact b5 a k h1 y2 h2 h3 h4 h5 (fun e => y (Or.inl e)) (fun e => y (Or.inr e))
      · by_cases y3 : a = 726
        · exfalso
          subst y3
          omega
        · rw [b4 a k (by omega), up_a y3, a5 a k (by omega)]
          exact g1 a k (by omega)
  · refine ⟨⟨by rw [k1 _ _ (by omega), t1, e8, y1]; exact hb, fun i hi => ?_⟩, ⟨by rw [k1 _ _ (by omega), u1, e9, y2]; exact ha, fun i hi => ?_⟩, ⟨by rw [k1 _ _ (by omega), v1, e8, y1]; omega, fun i hi => ?_⟩⟩
    · rw [e8, y1] at hi
      rw [k1 _ _ (by omega), t3 i (by omega), rsH_n (by omega) (by omega), y3 i (by omega)]
    · rw [e9, y2] at hi
      rw [k1 _ _ (by omega), u3 i (by omega), rsH_n (by omega) (by omega), y4 i (by omega)]
    · rw [e8, y1] at hi
      rw [k1 _ _ (by omega), v3 i (by omega), rsH_n (by omega) (by omega), y5 i (by omega)]
/-- a call that answers no patch, with scratch slots -/
theorem op_full2 {w m : Nat} {aw am : List AV} {σ σ1 : Sg} {c kx : Int} (H : Rel c σ) (hk : ¬ kx = 0) (w1 : WF σ1) (f1 : ∀ a k, a < 682 → KP a k → σ1 a k = σ a k) (g1 : ∀ a k, 682 ≤ a → σ1 a k = σ a k) (hA : Dd w aw σ (rI kx σ1)) (hB : ∃ s2 b, Dd m am σ1 (rI b s2) ∧ s2 682 0 = kx ∧ (∀ a k, a < 682 ∨ 726 ≤ a → s2 a k = σ1 a k) ∧ ∀ a k, 682 ≤ a → KP a k → ¬ (685 ≤ a ∧ a ≤ 687 ∧ 2900 ≤ k) → ¬ ((a = 688 ∨ a = 689) ∧ 29 ≤ k) → s2 a k = σ a k) : OpR w m aw am σ (c + 1) := by
  obtain ⟨s2, b, b1, b2, b3, b4⟩ := hB
  refine op_fin hA b1 b2 (fun h => absurd h hk) (fun a k h => g1 a k (by omega)) (fun a k h => by rw [b3 a k (by omega)]; exact g1 a k (by omega)) (Rel_hi (σ := rsH σ s2) (fun a k h h' => (rsH_n h h').symm) (Rel_sc (by omega) (WF_fr (fun a k h => by rw [rsH_n (by omega) (by omega)]; exact b3 a k (by omega)) w1) (fun a k h => ?_) H))
  by_cases y : (685 ≤ a ∧ a ≤ 687 ∧ 2900 ≤ k) ∨ ((a = 688 ∨ a = 689) ∧ 29 ≤ k)
  · unfold rsH
    rw [if_pos y]
  · rw [rsH_n (fun e => y (Or.inl e)) (fun e => y (Or.inr e))]
    by_cases h' : a < 682
    · rw [b3 a k (by omega)]; exact f1 a k h' h
    · exact b4 a k (by omega) h (fun e => y (Or.inl e)) (fun e => y (Or.inr e))
theorem cpy_out {σ : Sg} {s t c k : Nat} (h : ¬ (685 ≤ c ∧ c ≤ 687 ∧ 100 * t ≤ k ∧ k < 100 * t + 100)) (h' : ¬ ((c = 688 ∨ c = 689) ∧ k = t)) : cpyS σ s t c k = σ c k := by
  by_cases y : 685 ≤ c ∧ c ≤ 687
  · have e : k = 100 * (k / 100) + k % 100 := by omega
    rw [e]
    exact cpy_other (by omega) (by omega) y
  · by_cases y1 : c = 688
    · subst y1
      rw [cpy_n1, if_neg (by omega)]
    · by_cases y2 : c = 689
      · subst y2
        rw [cpy_n2, if_neg (by omega)]
      · exact cpy_off (by omega)
theorem Slot_cpy {σ : Sg} {s t nb na : Nat} {O N F : Nat → Int} (hb : nb ≤ 100) (ha : na ≤ 100) (S : Slot σ s nb na O N F) : Slot (cpyS σ s t) t nb na O N F := by
  obtain ⟨t1, t2, t3, t4, t5⟩ := S
  exact ⟨by rw [cpy_n1, if_pos rfl]; exact t1, by rw [cpy_n2, if_pos rfl]; exact t2, fun i hi => by rw [cpy_val (by omega) (by decide)]; exact t3 i hi, fun i hi => by rw [cpy_val (by omega) (by decide)]; exact t4 i hi, fun i hi => by rw [cpy_val (by omega) (by decide)]; exact t5 i hi⟩
end
