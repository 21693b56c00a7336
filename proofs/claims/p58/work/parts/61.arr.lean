/-! Stretches of arrays that are copied; rows as lists; what a call leaves. -/
noncomputable section
def acS (σ : Sg) (A a B b : Nat) (i n : Nat) : Sg := fun c k => if c = A ∧ a + i ≤ k ∧ k < a + n then σ B (b + (k - a)) else σ c k
theorem acS_end {σ : Sg} {A a B b n : Nat} : acS σ A a B b n n = σ := by
  funext c k
  unfold acS
  rw [if_neg (by omega)]
theorem acS_step {σ : Sg} {A a B b i n : Nat} (h : i < n) (hAB : ¬ B = A) : acS (upS σ A (a + i) (σ B (b + i))) A a B b (i + 1) n = acS σ A a B b i n := by
  funext c k
  unfold acS
  rw [up_a hAB]
  by_cases hc : c = A
  · by_cases hk : k = a + i
    · rw [if_neg (by omega), if_pos ⟨hc, by omega, by omega⟩, hc, hk, up_s, show a + i - a = i by omega]
    · by_cases h2 : a + (i + 1) ≤ k ∧ k < a + n
      · rw [if_pos ⟨hc, h2⟩, if_pos ⟨hc, by omega, h2.2⟩]
      · rw [if_neg (fun e => h2 e.2), if_neg (by omega), up_k hk]
  · rw [if_neg (fun e => hc e.1), if_neg (fun e => hc e.1), up_a hc]
theorem acS_off {σ : Sg} {A a B b i n c k : Nat} (h : ¬ c = A) : acS σ A a B b i n c k = σ c k := by
  unfold acS
  rw [if_neg (fun e => h e.1)]
theorem acS_val {σ : Sg} {A a B b n j : Nat} (h : j < n) : acS σ A a B b 0 n A (a + j) = σ B (b + j) := by
  unfold acS
  rw [if_pos ⟨rfl, by omega, by omega⟩, show a + j - a = j by omega]
theorem acS_out {σ : Sg} {A a B b n c k : Nat} (h : ¬ (a ≤ k ∧ k < a + n)) : acS σ A a B b 0 n c k = σ c k := by
  unfold acS
  rw [if_neg (by omega)]
theorem row_lt {a : Nat} (h : isRow a = true) : a < 682 := by
  have h1 : ∀ a, a < 727 → isRow a = true → a < 682 := by decide +kernel
  by_cases ha : a < 727
  · exact h1 a ha h
  · exfalso
    unfold isRow at h
    rw [List.getElem?_eq_none (show SH0.length ≤ a by
      have : SH0.length = 727 := by decide +kernel
      omega)] at h
    simp at h
theorem WF_fr {σ s : Sg} (h : ∀ a k, a < 682 → s a k = σ a k) (H : WF σ) : WF s := by
  intro a ha
  rw [h a 1 (row_lt ha)]
  exact H a ha
/-- one row alone is another one -/
theorem WF_row {σ s : Sg} {r : Nat} (h : ∀ a, isRow a = true → ¬ a = r → s a 1 = σ a 1) (hr : 0 ≤ s r 1 ∧ s r 1 ≤ (cap r : Int)) (H : WF σ) : WF s := by
  intro a ha
  by_cases e : a = r
  · rw [e]; exact hr
  · rw [h a ha e]; exact H a ha
theorem row_nx {a b : Nat} (ha : isRow a = true) (hb : isRow b = true) : ¬ b = a + 1 := by
  intro e
  subst e
  unfold isRow at ha hb
  simp only [Bool.and_eq_true, decide_eq_true_eq] at ha hb
  have e := hb.1.symm.trans ha.2
  simp at e
theorem op_fin {w m : Nat} {aw am : List AV} {σ s1 s2 : Sg} {c kx b : Int} (hA : Dd w aw σ (rI kx s1)) (hB : Dd m am s1 (rI b s2)) (ht : s2 682 0 = kx) (hv : kx = 0 → s2 726 0 = b) (f1 : ∀ a k, 727 ≤ a → s1 a k = σ a k) (f2 : ∀ a k, 727 ≤ a → s2 a k = σ a k) (R : Rel c s2) : OpR w m aw am σ c :=
  ⟨kx, b, s1, s2, hA, hB, ht, hv, fun i => f1 _ _ (by unfold SCR; omega), f1 _ _ (by unfold SCR; omega), fun i => f2 _ _ (by unfold SCR; omega), f2 _ _ (by unfold SCR; omega), R⟩
theorem op_finB {w m : Nat} {aw am : List AV} {σ s1 s2 : Sg} {c kx b : Int} (hA : Dd w aw σ (rI kx s1)) (hB : Dd m am s1 (rI b s2)) (ht : s2 682 0 = kx) (hv : kx = 0 → s2 726 0 = (if b = 0 then 0 else 1)) (f1 : ∀ a k, 727 ≤ a → s1 a k = σ a k) (f2 : ∀ a k, 727 ≤ a → s2 a k = σ a k) (R : Rel c s2) : OpB w m aw am σ c :=
  ⟨kx, b, s1, s2, hA, hB, ht, hv, fun i => f1 _ _ (by unfold SCR; omega), f1 _ _ (by unfold SCR; omega), fun i => f2 _ _ (by unfold SCR; omega), f2 _ _ (by unfold SCR; omega), R⟩
/-- a row holds a list -/
def Rw (σ : Sg) (a : Nat) (l : List Int) : Prop := σ a 1 = (l.length : Nat) ∧ ∀ i v, l[i]? = some v → σ (a + 1) i = v
def rl (σ : Sg) (a : Nat) : List Int := (List.range (σ a 1).toNat).map (fun i => σ (a + 1) i)
theorem Rw_rl {σ : Sg} {a : Nat} (h : 0 ≤ σ a 1) : Rw σ a (rl σ a) := by
  refine ⟨?_, fun i v hv => ?_⟩
  · unfold rl
    rw [List.length_map, List.length_range]
    omega
  · unfold rl at hv
    rw [List.getElem?_map] at hv
    by_cases hi : i < (σ a 1).toNat
    · rw [List.getElem?_range hi] at hv
      simpa using hv
    · rw [List.getElem?_eq_none (by rw [List.length_range]; omega)] at hv
      simp at hv
theorem Rw_fr {σ s : Sg} {a : Nat} {l : List Int} (h1 : s a 1 = σ a 1) (h2 : ∀ i, s (a + 1) i = σ (a + 1) i) (H : Rw σ a l) : Rw s a l :=
  ⟨by rw [h1]; exact H.1, fun i v hv => by rw [h2]; exact H.2 i v hv⟩
def lat (l : List Int) (i : Int) : Int := if 0 ≤ i then (l[i.toNat]?).getD (-1) else -1
theorem atS_l {σ : Sg} {a : Nat} {l : List Int} {i : Int} (H : Rw σ a l) : atS σ a i = lat l i := by
  obtain ⟨h1, h2⟩ := H
  unfold atS lat
  by_cases h0 : 0 ≤ i
  · rw [if_pos h0]
    by_cases hi : i < σ a 1
    · rw [if_pos ⟨h0, hi⟩]
      have hl : i.toNat < l.length := by omega
      rw [List.getElem?_eq_getElem hl]
      exact h2 _ _ (List.getElem?_eq_getElem hl)
    · rw [if_neg (fun e => hi e.2), List.getElem?_eq_none (by omega)]
      rfl
  · rw [if_neg (fun e => h0 e.1), if_neg h0]
theorem Rw_ad {σ : Sg} {a : Nat} {l : List Int} {v : Int} (H : Rw σ a l) (hc : l.length < cap a) : Rw (adS σ a v) a (l ++ [v]) := by
  obtain ⟨h1, h2⟩ := H
  unfold adS
  rw [if_pos (by omega)]
  refine ⟨?_, fun i w hw => ?_⟩
  · rw [up_s, h1, List.length_append]
    simp
  · rw [up_a (by omega)]
    by_cases hi : i < l.length
    · rw [List.getElem?_append_left hi] at hw
      rw [up_k (by omega)]
      exact h2 i w hw
    · have hle : (l ++ [v]).length = l.length + 1 := by simp
      have hi2 := (List.getElem?_eq_some_iff.mp hw).1
      have e : i = l.length := by omega
      rw [e, List.getElem?_append_right (Nat.le_refl _), Nat.sub_self] at hw
      have hw : v = w := by simpa using hw
      rw [show i = (σ a 1).toNat by omega, up_s, hw]
theorem Rw_wR {σ : Sg} {a : Nat} {l : List Int} (ha : isRow a = true) (H : Rw σ a l) (hc : l.length ≤ cap a) : wR σ a := ⟨ha, by rw [H.1]; omega, by rw [H.1]; omega⟩
theorem d152 {σ : Sg} {a : Nat} (ha : isRow a = true) : Dd 152 [vA a] σ (rV (upS σ a 1 0)) := b152 ha rfl
theorem Rw_nil {σ : Sg} {a : Nat} : Rw (upS σ a 1 0) a [] := ⟨by rw [up_s]; rfl, fun i v h => by simp at h⟩
theorem l154 {a b : Nat} (ha : isRow a = true) (hb : isRow b = true) {d2 : Option AV} {e : Int} : ∀ (d i : Nat) (σ : Sg) (la lb : List Int), Rw σ a la → Rw σ b lb → lb.length ≤ cap b → lb.length < 100000 → ¬ a = b → (min e.toNat lb.length) ≤ i + d → la.length + ((lb.take e.toNat).drop i).length ≤ cap a → ∃ s, C154_7 a b d2 e i σ (rV s) ∧ Rw s a (la ++ (lb.take e.toNat).drop i) ∧ ∀ c k, ¬ c = a → ¬ c = a + 1 → s c k = σ c k := by
  intro d
  induction d with
  | zero =>
    intro i σ la lb hA hB hcb hsm hne hd hr
    have hn : (lb.take e.toNat).drop i = [] := List.drop_eq_nil_of_le (by rw [List.length_take]; exact hd)
    refine ⟨σ, b154_7 hb ha ?_, by rw [hn, List.append_nil]; exact hA, fun _ _ _ _ => rfl⟩
    by_cases h1 : (i : Int) < e
    · rw [if_pos h1, if_neg]
      rw [hB.1]
      have : ¬ i < lb.length := by
        intro hh
        have h3 : min e.toNat lb.length ≤ i := hd
        omega
      omega
    · rw [if_neg h1]
  | succ d ih =>
    intro i σ la lb hA hB hcb hsm hne hd hr
    by_cases h1 : (i : Int) < e ∧ i < lb.length
    · have hlt : i < (lb.take e.toNat).length := by rw [List.length_take]; omega
      have hdr : (lb.take e.toNat).drop i = lb[i] :: (lb.take e.toNat).drop (i + 1) := by
        rw [List.drop_eq_getElem_cons hlt, List.getElem_take]
      rw [hdr] at hr ⊢
      have hc : la.length < cap a := by
        rw [List.length_cons] at hr
        omega
      have hv : atS σ b (i : Int) = lb[i] := by
        rw [atS_l hB]
        unfold lat
        rw [if_pos (by omega), show ((i : Int)).toNat = i by omega, List.getElem?_eq_getElem h1.2]
        rfl
      have hB' : Rw (adS σ a lb[i]) b lb := Rw_fr (ad_off (fun e => hne e.symm) (row_nx ha hb)) (fun k => ad_off (row_nx hb ha ∘ fun e => e.symm) (by omega)) hB
      obtain ⟨s, g1, g2, g3⟩ := ih (i + 1) (adS σ a lb[i]) (la ++ [lb[i]]) lb (Rw_ad hA hc) hB' hcb hsm hne (by omega) (by
        rw [List.length_append]
        simp only [List.length_cons, List.length_nil] at hr ⊢
        omega)
      refine ⟨s, b154_7 hb ha ?_, by rw [List.append_assoc] at g2; exact g2, fun c k h2 h3 => by rw [g3 c k h2 h3, ad_off h2 h3]⟩
      rw [if_pos h1.1, if_pos (by rw [hB.1]; omega)]
      have d1 := d147 (i := (i : Int)) (Rw_wR hb hB hcb)
      rw [hv] at d1
      refine ⟨_, _, d1, _, d149 (Rw_wR ha hA (by omega)), by omega, ?_⟩
      rw [show (i : Int) + 1 = ((i + 1 : Nat) : Int) by omega]
      exact g1
    · have hn : (lb.take e.toNat).drop i = [] := List.drop_eq_nil_of_le (by rw [List.length_take]; omega)
      refine ⟨σ, b154_7 hb ha ?_, by rw [hn, List.append_nil]; exact hA, fun _ _ _ _ => rfl⟩
      by_cases h2 : (i : Int) < e
      · rw [if_pos h2, if_neg]
        rw [hB.1]
        omega
      · rw [if_neg h2]
/-- Row.addAll -/
theorem d154 {a b : Nat} (ha : isRow a = true) (hb : isRow b = true) {x y : Int} {σ : Sg} {la lb : List Int} (hA : Rw σ a la) (hB : Rw σ b lb) (hcb : lb.length ≤ cap b) (hne : ¬ a = b) (hr : la.length + ((lb.take y.toNat).drop x.toNat).length ≤ cap a) : ∃ s, Dd 154 [vA a, vA b, vI x, vI y] σ (rV s) ∧ Rw s a (la ++ (lb.take y.toNat).drop x.toNat) ∧ ∀ c k, ¬ c = a → ¬ c = a + 1 → s c k = σ c k := by
  have hsm := cap_le hb
  obtain ⟨s, g1, g2, g3⟩ := l154 ha hb (d2 := some (vI x)) (e := y) (lb.length) x.toNat σ la lb hA hB hcb (by omega) hne (by
    show min y.toNat lb.length ≤ _
    omega) hr
  refine ⟨s, b154 ?_, g2, g3⟩
  have e : (if 0 < x then x else 0) = ((x.toNat : Nat) : Int) := by
    split <;> omega
  rw [e]
  exact g1
end
